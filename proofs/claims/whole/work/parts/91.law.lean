section LAWO
variable {p : Program} {l : Launch} {e : Env} {s : State} {m : MethodId} {below : List Frame} {meth : Method} {c : Code} {b L : Nat} {xs : Nat → Int32} {w : wd_T}
set_option maxHeartbeats 4000000 in
set_option maxRecDepth 100000 in
theorem law_loop (C0 : lw_At p s m meth c b L xs) (hL : L ≤ 2560) (hK : va_K (w.1, w.2.1) kcl (wty w) s) (hN : NX s) : ∀ (n i : Nat), i ≤ L → L + 1 ≤ i + n → ∀ (A : Nat → Nat → Int32) (B : Nat → Nat → Int64) (H : Heap) (locs : List Loc) (ls : Array Slot), Rel A → va_S (fun q => s.heap.size ≤ q) s.heap H locs → HR w s.heap.size (hp A B) H → lv_has ls 4 (lvs b s.heap.size i) → LWr p l e s m below meth c b H locs (F0 m 18 ls []) := by
  obtain ⟨hx, hb, hr, hml, hown, hts, hX, hbl, hlocks, hgv⟩ := id C0
  have hbA : ¬ (fun q : Nat => s.heap.size ≤ q) b := Nat.not_le.mpr hbl
  intro n
  induction n with
  | zero =>
    intro i h1 h2
    exact absurd h2 (by omega)
  | succ n ih =>
    intro i hi hin A B H locs ls hA hS hH hl
    refine lv_iload_n hx hb dl_18 rfl (lv_at hl 3 rfl) ?_
    refine lv_aload_n hx hb dl_19 rfl (lv_at hl 0 rfl) ?_
    refine va_slen hx hb hX hbl hbA hS dl_20 ?_
    refine lv_iconst (v := 5) hx hb dl_21 (by decide) ?_
    refine lv_isub hx hb dl_22 ?_
    refine lv_icmp_gt (tgt := 1323) hx hb dl_23 (by decide) (fun c1 => ?_) (fun c1 => ?_)
    · refine lv_iconst (v := 1) hx hb dl_1323 (by decide) ?_
      refine va_forget (fun q hq => hS.2.2 q hq) ?_
      refine W.widen (k := 600000) (n := 7302249) (by decide) (by decide) ?_
      exact lw_ret hx hb hr hlocks dl_1324
    · have hi5 : i + 5 ≤ L := sub5 hL (by omega) c1
      refine lv_aload_n hx hb dl_26 rfl (lv_at hl 0 rfl) ?_
      refine lv_iload_n hx hb dl_27 rfl (lv_at hl 3 rfl) ?_
      refine va_sld hx hb hX hbl hbA hS (vp_in_nI (show i < L by omega) (by omega)) dl_28 ?_
      refine lv_bipush (v := 63) hx hb dl_29 (by decide) ?_
      refine lv_iand hx hb dl_31 ?_
      refine law_sw ⟨C0, hK, hN, hL, hi5, hl, hA, hS, hH, fun A' B' H' locs' hA' hS' hH' => ?_⟩ _
      refine lv_iinc (v := nI (i + 5)) (lv' := [(3, .int (nI (i + 5))), (0, .ref b), (1, .ref (s.heap.size + 0)), (2, .ref (s.heap.size + 33))]) hx hb dl_1317 hl (k := 3) rfl (show nI i + nI 5 = nI (i + 5) from nI_add i 5) (by decide) rfl (fun ls hl => ?_)
      refine lv_goto (tgt := 18) hx hb dl_1320 (by decide) ?_
      exact ih (i + 5) hi5 (by omega) A' B' H' locs' ls hA' hS' hH' (lv_sub hl [1, 2, 3, 0] rfl)
theorem Rel_A0 : Rel A0 := by
  refine ⟨⟨0, by decide, rfl, rfl, rfl, rfl, rfl, rfl, fun r hr => absurd hr (Nat.not_lt_zero r)⟩, ⟨0, by decide, rfl, rfl, fun k hk i hi => ?_, fun k hk => absurd hk (Nat.not_lt_zero k)⟩, ⟨rfl, rfl, rfl, Or.inl rfl, fun i _ => rfl⟩, rfl, Or.inl (show (-1 : Int32) < 0 by decide), Or.inl rfl⟩
  rcases k6 hk with rfl | rfl | rfl | rfl | rfl | rfl <;> rfl
end LAWO
