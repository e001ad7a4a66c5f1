set_option maxHeartbeats 4000000 in
set_option maxRecDepth 100000 in
/-- THE LAW, from its entry -/
theorem whole_start {p : Program} {e : Env} {s : State} {m : MethodId} {below : List Frame} {meth : Method} {c : Code} (l : Launch) {b L : Nat} {xs : Nat → Int32} (hL : L ≤ 2560) (C0 : lw_At p s m meth c b L xs) : W p l e room_1 s m #[Value.ref b] below meth c s.heap [] 0 0 (lw_Z below #[Value.ref b] s) (entryFrame m ([Value.ref b] : List Value).toArray 4) := by
  obtain ⟨hx, hb, hr, hml, hown, hts, hX, hbl, hlocks, hgv⟩ := id C0
  have S : CallFix p m c code 4 s #[Value.ref b] tg (cn 11) := ⟨hx, hb, hml, hown, fun w hw => hts w (List.mem_filter.mp hw).1⟩
  obtain ⟨w, hK, hN⟩ := lx_K hts
  have hS : va_S (fun q : Nat => s.heap.size ≤ q) s.heap s.heap [] := va_S.rf
  have hH : HR w s.heap.size [] s.heap := fun k q h => by simp [cvH] at h
  have hl := lv_entry ([.ref b]) (n := 4) (Nat.le_of_ble_eq_true rfl)
  rw [lg_entry_eq]
  generalize (lg_sl ([.ref b]) ++ List.replicate (4 - (lg_sl ([.ref b])).length) Slot.unset).toArray = ls at hl ⊢
  have hl : lv_has ls 4 [(0, .ref b)] := hl
  refine st_7 S hK hN hl hS hH (fun ls1 H1 locs1 hl1 hS1 hH1 => ?_)
  refine st_8 S hK hN hl1 hS1 hH1 (fun ls2 H2 locs2 hl2 hS2 hH2 => ?_)
  refine lv_iconst (v := 0) hx hb dl_16 (by decide) ?_
  refine lv_istore_n (lv' := [(3, .int 0), (2, .ref (s.heap.size + 33)), (1, .ref (s.heap.size + 0)), (0, .ref b)]) hx hb dl_17 rfl hl2 (by decide) rfl (fun ls3 hl3 => ?_)
  exact law_loop C0 hL hK hN (L + 1) 0 (Nat.zero_le L) (by omega) A0 B0 H2 locs2 ls3 Rel_A0 hS2 hH2 (lv_sub hl3 [3, 2, 1, 0] rfl)
