set_option maxHeartbeats 4000000 in
set_option maxRecDepth 100000 in
/-- THE LAW, from its entry -/
theorem whole_start {p : Program} {e : Env} {s : State} {m : MethodId} {below : List Frame} {meth : Method} {c : Code} (l : Launch) {b L : Nat} {xs : Nat → Int32} (hL : L ≤ 2560) (C0 : lw_At p s m meth c b L xs) : W p l e room_1 s m #[Value.ref b] below meth c s.heap [] 0 0 (lw_Z below #[Value.ref b] s) (entryFrame m ([Value.ref b] : List Value).toArray 4) := by
  obtain ⟨hx, hb, hr, hml, hown, hts, hX, hbl, hlocks, hgv⟩ := id C0
  have S : CallFix p m c code 4 s #[Value.ref b] tg (cn 11) := ⟨hx, hb, hml, hown, fun w hw => hts w (List.mem_filter.mp hw).1⟩
  obtain ⟨w, hK, hN⟩ := lx_K hts
  obtain ⟨p7, hp7⟩ := has3_ex (show has3 mlL 11 9 56 = true by decide +kernel)
  obtain ⟨p8, hp8⟩ := has3_ex (show has3 mlL 11 12 104 = true by decide +kernel)
  have hS : va_S (fun q : Nat => s.heap.size ≤ q) s.heap s.heap [] := va_S.rf
  have hH : HR w s.heap.size [] s.heap := fun k q h => by simp [cvH] at h
  have hl := lv_entry ([.ref b]) (n := 4) (Nat.le_of_ble_eq_true rfl)
  rw [lg_entry_eq]
  generalize (lg_sl ([.ref b]) ++ List.replicate (4 - (lg_sl ([.ref b])).length) Slot.unset).toArray = ls at hl ⊢
  have hl : lv_has ls 4 [(0, .ref b)] := hl
  refine w_new (x := 5) (h := []) S (by decide +kernel) dl_0 (by show 0 + 1 ≤ 600000; omega) (by show 0 + 12 ≤ 7302249; omega) hK hS hH (Nat.le_refl _) (Nat.le_refl _) (fun H1 hH1 hS1 => ?_)
  refine lv_dup hx hb dl_3 rfl ?_
  refine w_cI (As := []) (q := 0) (rest := [.ref (s.heap.size + 0)]) (mc := 32) (ms := 2140) (h := [.inr (5, dfL 5)]) (w := w) (b := s.heap.size) S omX7_init (c_X7_init 0) (x := 56) rfl rfl (ml_w hp7) (by decide +kernel) (by decide) ⟨by show 0 + 1 + 32 ≤ 600000; omega, by show 0 + 12 + 2140 ≤ 7302249; omega⟩ ⟨by show 0 + 1 + 3 ≤ 2048; omega, by show 40 * (0 + 1) + 100 ≤ 84000; omega⟩ dl_4 hl.1 hK hN hS1 hH1 (Nat.le_refl _) (Nat.le_refl _) (fun r1 h1 H2 locs2 q1 hH2 hZ2 hS2 => ?_)
  obtain ⟨rfl, rfl⟩ := q1
  refine lv_astore_n (lv' := [(1, .ref (s.heap.size + 0)), (0, .ref b)]) hx hb dl_7 rfl hl (by decide) rfl (fun ls hl => ?_)
  refine w_new (x := 6) (h := h33) S (by decide +kernel) dl_8 (by show 0 + 1 + 32 + 1 ≤ 600000; omega) (by show 0 + 12 + 2140 + 29 ≤ 7302249; omega) hK hS2 hH2 (Nat.le_refl _) (Nat.le_refl _) (fun H3 hH3 hS3 => ?_)
  refine lv_dup hx hb dl_11 rfl ?_
  refine w_cI (As := []) (q := 33) (rest := [.ref (s.heap.size + 33)]) (mc := 17) (ms := 1621) (h := h33 ++ [.inr (6, dfL 6)]) (w := w) (b := s.heap.size) S omX8_init (c_X8_start 0) (x := 104) rfl rfl (ml_w hp8) (by decide +kernel) (by decide) ⟨by show 0 + 1 + 32 + 1 + 17 ≤ 600000; omega, by show 0 + 12 + 2140 + 29 + 1621 ≤ 7302249; omega⟩ ⟨by show 0 + 3 ≤ 2048; omega, by show 40 * 0 + 100 ≤ 84000; omega⟩ dl_12 hl.1 hK hN hS3 hH3 (Nat.le_refl _) (Nat.le_refl _) (fun r2 h2 H4 locs4 q2 hH4 hZ4 hS4 => ?_)
  obtain ⟨rfl, rfl⟩ := q2
  refine lv_astore_n (lv' := [(2, .ref (s.heap.size + 33)), (1, .ref (s.heap.size + 0)), (0, .ref b)]) hx hb dl_15 rfl hl (by decide) rfl (fun ls hl => ?_)
  refine lv_iconst (v := 0) hx hb dl_16 (by decide) ?_
  refine lv_istore_n (lv' := [(3, .int 0), (2, .ref (s.heap.size + 33)), (1, .ref (s.heap.size + 0)), (0, .ref b)]) hx hb dl_17 rfl hl (by decide) rfl (fun ls hl => ?_)
  refine W.widen (k := 51) (n := 3802) (by show 0 + 1 + 32 + 1 + 17 ≤ 51; omega) (by show 0 + 12 + 2140 + 29 + 1621 ≤ 3802; omega) ?_
  exact law_loop C0 hL hK hN (L + 1) 0 (Nat.zero_le L) (by omega) A0 B0 H4 locs4 ls Rel_A0 hS4 hH4 (lv_sub hl [3, 2, 1, 0] rfl)
