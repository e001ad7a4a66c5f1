section LAWX
variable {s : State} {b : Nat}
set_option maxRecDepth 100000 in
theorem posQ_w : Cond.arrayOver (.object "RoundKiss$Quad") ∈ lw_tbl := List.mem_of_getElem? (i := 90) (by decide +kernel)
/-- the classes are known at the start -/
theorem lx_K (hts : ∀ w ∈ lw_tbl, w.before #[Value.ref b] s = true) : ∃ w : wd_T, va_K (w.1, w.2.1) kcl (wty w) s ∧ NX s := by
  have htg : ∀ w ∈ tg, w.before #[Value.ref b] s = true := fun w hw => hts w (List.mem_filter.mp hw).1
  obtain ⟨c0, i0, -⟩ := u_known htg (k_ws (show 0 < 7 by decide)) (htg _ (nl_w (show 0 < 7 by decide)).1)
  have hex : ∀ ci : Nat, ∃ q : ClassId × (Nat → Nat), ci < 7 → u_Kn s (kC ci) (kT ci) (kN ci) q.1 q.2 := by
    intro ci
    by_cases hc : ci < 7
    · obtain ⟨cC, iS, h⟩ := u_known htg (k_ws hc) (htg _ (nl_w hc).1)
      exact ⟨(cC, iS), fun _ => h⟩
    · exact ⟨(c0, i0), fun h => absurd h hc⟩
  obtain ⟨f, hf⟩ := Classical.axiomOfChoice hex
  obtain ⟨cI, kI, compI, a1, a2, a3⟩ := Cond.arrayClass_spec (htg _ posAI_w)
  obtain ⟨cL, kL, compL, b1, b2, b3⟩ := Cond.arrayClass_spec (htg _ posAL_w)
  obtain ⟨compQ, cQ, kQ, q1, -, q2, q3, q4⟩ := Cond.arrayOver_spec (hts _ posQ_w)
  refine ⟨((fun k => (f k).1), (fun k => (f k).2), cI, cL, cQ), ⟨fun k q hq => ?_, fun k q hk => ?_⟩, fun q hq => ?_, va_AO.of (hts _ posQ_w)⟩
  · have hk : k < 7 := (List.getElem?_eq_some_iff.mp hq).1
    rw [kcl_at hk] at hq
    cases hq
    exact hf k hk
  · match k, hk with
    | 0, hk => cases hk; exact ⟨fun N z => ⟨(fun q hq => by cases hq), kI, a2, compI, a3⟩, a1⟩
    | 1, hk => cases hk; exact ⟨fun N z => ⟨(fun q hq => by cases hq), kL, b2, compL, b3⟩, b1⟩
    | 2, hk => cases hk; exact ⟨fun N z => ⟨(fun q hq => by cases hq), kQ, q2, compQ, q3⟩, kQ, compQ, q2, q3, q1, q4⟩
    | k + 3, hk => simp [wty] at hk
  · obtain ⟨x, hx, rfl⟩ := List.mem_map.mp hq
    obtain ⟨x1, x2, x3, x4⟩ := x
    exact va_Nw.of rfl (hts _ (List.mem_of_getElem? (flB_w flX_ok hx).1))
end LAWX
section LAWN
variable {p : Program} {l : Launch} {e : Env} {R : Room} {s : State} {m : MethodId} {args : Array Value} {below : List Frame} {meth : Method} {c : Code} {H : Heap} {locs : List Loc} {k n : Nat} {Qf : State → Prop} {pc : Nat} {ls : Array Slot} {rest : List Value} {w : wd_T} {b : Nat} {h : hp_T} {j x nL : Nat} {cc : ByteArray}
theorem w_new (S : CallFix p m c cc nL s args tg (cn 11)) (hcl : has3 clL 11 j x = true) (hd : decode cc pc = .ok (.new j, 3)) (hk : k + 1 ≤ R.cells) (hn : n + kN x ≤ R.slots) (hK : va_K (w.1, w.2.1) kcl (wty w) s) (hS : va_S (fun q => b ≤ q) s.heap H locs) (hH : HR w b h H) (hZ : s.heap.size + k ≤ b + h.length) (hb0 : b ≤ s.heap.size)
    (kk : ∀ H1, HR w b (h ++ [.inr (x, dfL x)]) H1 → va_S (fun q => b ≤ q) s.heap H1 locs → W p l e R s m args below meth c H1 locs (k + 1) (n + kN x) Qf (F0 m (pc + 3) ls (.ref (b + h.length) :: rest))) : W p l e R s m args below meth c H locs k n Qf (F0 m pc ls rest) := by
  obtain ⟨hx, hb, hml, hown, hts⟩ := S
  obtain ⟨p0, hp0⟩ := has3_ex hcl
  obtain ⟨hcw, hc7⟩ := cl_w hp0
  have hlo := hH.lo (Nat.le_trans hb0 hS.1)
  refine W_sz (fun hhi => ?_)
  have hsz : H.size = b + h.length := by omega
  have hKn := hK.1 x _ (kcl_at hc7)
  refine W.newcK hx hb hown (hts _ hcw) (hts _ (nl_w hc7).1) (hts _ (nl_w hc7).2) rfl hd hk hn hKn.2.1 hsz (fun H1 kC1 hkC e1 z1 o1 => ?_)
  have k1 := kk H1 (hH.push o1 hsz ⟨_, kcl_at hc7, (u_born (kty x) hts (k_ws hc7) hKn hkC e1 (k_ty hc7)).to (dfL_ok hc7 b)⟩) (hS.push (fun q hq => o1 q (by omega)) (by omega))
  exact k1
end LAWN
