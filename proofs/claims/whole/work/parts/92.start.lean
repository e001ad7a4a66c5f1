section LAWZ
variable {p : Program} {l : Launch} {e : Env} {s : State} {m : MethodId} {below : List Frame} {meth : Method} {c : Code} {b : Nat} {w : wd_T} {ls : Array Slot} {H : Heap} {locs : List Loc} {Qf : State → Prop}
theorem h33_len : h33.length = 33 := rfl
theorem cat1 {z : Nat} : (([Value.ref z] : List Value).map fun (v : Value) => v.category).sum ≤ 8 := Nat.le_of_ble_eq_true rfl
set_option maxRecDepth 100000 in
theorem st_ml7 : has3 mlL 11 9 56 = true := by decide +kernel
set_option maxRecDepth 100000 in
theorem st_ml8 : has3 mlL 11 12 104 = true := by decide +kernel
set_option maxRecDepth 100000 in
theorem st_cl7 : has3 clL 11 7 5 = true := by decide +kernel
set_option maxRecDepth 100000 in
theorem st_cl8 : has3 clL 11 10 6 = true := by decide +kernel
set_option maxRecDepth 100000 in
theorem st_in7 : inB 56 ([] : List Value).length = true := by decide +kernel
set_option maxRecDepth 100000 in
theorem st_in8 : inB 104 ([] : List Value).length = true := by decide +kernel
set_option maxHeartbeats 4000000 in
set_option maxRecDepth 100000 in
theorem st_7 (S : CallFix p m c code 4 s #[Value.ref b] tg (cn 11)) (hK : va_K (w.1, w.2.1) kcl (wty w) s) (hN : NX s) (hl : lv_has ls 4 [(0, .ref b)]) (hS : va_S (fun q => s.heap.size ≤ q) s.heap H locs) (hH : HR w s.heap.size [] H)
    (kk : ∀ (ls' : Array Slot) (H' : Heap) (locs' : List Loc), lv_has ls' 4 [(1, .ref (s.heap.size + 0)), (0, .ref b)] → va_S (fun q => s.heap.size ≤ q) s.heap H' locs' → HR w s.heap.size h33 H' → W p l e room_1 s m #[Value.ref b] below meth c H' locs' 33 2152 Qf (F0 m 8 ls' [])) : W p l e room_1 s m #[Value.ref b] below meth c H locs 0 0 Qf (F0 m 0 ls []) := by
  obtain ⟨p7, hp7⟩ := has3_ex st_ml7
  refine w_new (x := 5) (h := []) S st_cl7 dl_0 (by show 0 + 1 ≤ 600000; omega) (by show 0 + 12 ≤ 7302249; omega) hK hS hH (Nat.le_refl _) (Nat.le_refl _) (fun H1 hH1 hS1 => ?_)
  show W p l e room_1 s m #[Value.ref b] below meth c H1 locs 1 12 Qf (F0 m 3 ls [.ref (s.heap.size + 0)])
  refine lv_dup S.1 S.2.1 dl_3 rfl ?_
  show W p l e room_1 s m #[Value.ref b] below meth c H1 locs 1 12 Qf (F0 m 4 ls ((([] : List Value).map (cvV s.heap.size)).reverse ++ Value.ref (s.heap.size + 0) :: [.ref (s.heap.size + 0)]))
  refine w_cI (As := []) (q := 0) (mc := 32) (ms := 2140) (h := [.inr (5, dfL 5)]) (w := w) (b := s.heap.size) S omX7_init (c_X7_init 0) (x := 56) rfl rfl (ml_w hp7) st_in7 cat1 ⟨by show 1 + 32 ≤ 600000; omega, by show 12 + 2140 ≤ 7302249; omega⟩ ⟨by show 0 + 1 + 3 ≤ 2048; omega, by show 40 * (0 + 1) + 100 ≤ 84000; omega⟩ dl_4 hl.1 hK hN hS1 hH1 (Nat.le_refl _) (Nat.le_refl _) (fun r1 h1 H2 locs2 q1 hH2 hZ2 hS2 => ?_)
  obtain ⟨rfl, rfl⟩ := q1
  show W p l e room_1 s m #[Value.ref b] below meth c H2 locs2 33 2152 Qf (F0 m 7 ls [.ref (s.heap.size + 0)])
  refine lv_astore_n (lv' := [(1, .ref (s.heap.size + 0)), (0, .ref b)]) S.1 S.2.1 dl_7 rfl hl (by decide) rfl (fun ls' hl' => ?_)
  exact kk ls' H2 locs2 hl' hS2 hH2
set_option maxHeartbeats 4000000 in
set_option maxRecDepth 100000 in
theorem st_8 (S : CallFix p m c code 4 s #[Value.ref b] tg (cn 11)) (hK : va_K (w.1, w.2.1) kcl (wty w) s) (hN : NX s) (hl : lv_has ls 4 [(1, .ref (s.heap.size + 0)), (0, .ref b)]) (hS : va_S (fun q => s.heap.size ≤ q) s.heap H locs) (hH : HR w s.heap.size h33 H)
    (kk : ∀ (ls' : Array Slot) (H' : Heap) (locs' : List Loc), lv_has ls' 4 [(2, .ref (s.heap.size + 33)), (1, .ref (s.heap.size + 0)), (0, .ref b)] → va_S (fun q => s.heap.size ≤ q) s.heap H' locs' → HR w s.heap.size (hp A0 B0) H' → W p l e room_1 s m #[Value.ref b] below meth c H' locs' 51 3802 Qf (F0 m 16 ls' [])) : W p l e room_1 s m #[Value.ref b] below meth c H locs 33 2152 Qf (F0 m 8 ls []) := by
  obtain ⟨p8, hp8⟩ := has3_ex st_ml8
  refine w_new (x := 6) (h := h33) S st_cl8 dl_8 (by show 33 + 1 ≤ 600000; omega) (by show 2152 + 29 ≤ 7302249; omega) hK hS hH (by rw [h33_len]; exact Nat.le_refl _) (Nat.le_refl _) (fun H1 hH1 hS1 => ?_)
  rw [h33_len]
  show W p l e room_1 s m #[Value.ref b] below meth c H1 locs 34 2181 Qf (F0 m 11 ls [.ref (s.heap.size + 33)])
  refine lv_dup S.1 S.2.1 dl_11 rfl ?_
  show W p l e room_1 s m #[Value.ref b] below meth c H1 locs 34 2181 Qf (F0 m 12 ls ((([] : List Value).map (cvV s.heap.size)).reverse ++ Value.ref (s.heap.size + 33) :: [.ref (s.heap.size + 33)]))
  have hz : s.heap.size + 34 ≤ s.heap.size + (h33 ++ [Sum.inr (6, dfL 6)]).length := by
    rw [List.length_append, h33_len]
    exact Nat.le_refl _
  have cx := c_X8_start 0
  generalize h33 ++ [Sum.inr (6, dfL 6)] = h34 at cx hz hH1
  generalize hp A0 B0 = h51 at cx kk
  refine w_cI (As := []) (q := 33) (mc := 17) (ms := 1621) (h := h34) (w := w) (b := s.heap.size) S omX8_init cx (x := 104) rfl rfl (ml_w hp8) st_in8 cat1 ⟨by show 34 + 17 ≤ 600000; omega, by show 2181 + 1621 ≤ 7302249; omega⟩ ⟨by show 0 + 3 ≤ 2048; omega, by show 40 * 0 + 100 ≤ 84000; omega⟩ dl_12 hl.1 hK hN hS1 hH1 hz (Nat.le_refl _) (fun r1 h1 H2 locs2 q1 hH2 hZ2 hS2 => ?_)
  obtain ⟨rfl, rfl⟩ := q1
  show W p l e room_1 s m #[Value.ref b] below meth c H2 locs2 51 3802 Qf (F0 m 15 ls [.ref (s.heap.size + 33)])
  refine lv_astore_n (lv' := [(2, .ref (s.heap.size + 33)), (1, .ref (s.heap.size + 0)), (0, .ref b)]) S.1 S.2.1 dl_15 rfl hl (by decide) rfl (fun ls' hl' => ?_)
  exact kk ls' H2 locs2 hl' hS2 hH2
end LAWZ
