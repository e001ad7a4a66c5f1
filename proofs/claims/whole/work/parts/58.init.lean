section INI
variable {M : mt_T} {d mc ms k n pc np x : Nat} {Q : Option Value → hp_T → Prop} {L : List (Option Value)} {st : List Value} {h cs : hp_T}
theorem V.nI {N : Nat} {a : Int32} (hM : mOK M) (hi : lkf (m_tab M) pc = some (.newarray .int, np, x)) (ha : ¬ a < 0) (hN : a.toNatClampNeg = N) (hsm : N ≤ 100000) (hk : k + 1 ≤ mc) (hn : n + N ≤ ms) (kk : V M d mc ms Q (k + 1) (n + N) np L (.ref (h.length + cs.length) :: st) (h ++ (cs ++ [.inl (N, .inl (fun _ => 0))]))) : V M d mc ms Q k n pc L (.int a :: st) (h ++ cs) := V.newI hM hi ha hN hsm hk hn (by rw [List.length_append, List.append_assoc]; exact kk)
theorem V.nL {N : Nat} {a : Int32} (hM : mOK M) (hi : lkf (m_tab M) pc = some (.newarray .long, np, x)) (ha : ¬ a < 0) (hN : a.toNatClampNeg = N) (hsm : N ≤ 100000) (hk : k + 1 ≤ mc) (hn : n + N ≤ ms) (kk : V M d mc ms Q (k + 1) (n + N) np L (.ref (h.length + cs.length) :: st) (h ++ (cs ++ [.inl (N, .inr (.inl (fun _ => 0)))]))) : V M d mc ms Q k n pc L (.int a :: st) (h ++ cs) := V.newL hM hi ha hN hsm hk hn (by rw [List.length_append, List.append_assoc]; exact kk)
theorem gq {c : ac_T} : (h ++ c :: cs)[h.length]? = some c := by
  rw [List.getElem?_append_right (Nat.le_refl _), Nat.sub_self]
  rfl
theorem sq {c c' : ac_T} : (h ++ c :: cs).set h.length c' = h ++ c' :: cs := by
  rw [List.set_append_right _ _ (Nat.le_refl _), Nat.sub_self]
  rfl
set_option maxHeartbeats 4000000 in
set_option maxRecDepth 100000 in
theorem c_X0_init (d : Nat) : C mX0_init d 1 279 [.ref h.length] (h ++ [.inr (0, dfL 0)]) (fun r h' => h' = h ++ [.inr (0, [.ref (h.length + 1), .int 0, .int 0]), .inl (279, .inl (fun _ => 0))] ∧ r = none) := by
  refine C.of [some (.ref h.length)] omX0_init rfl rfl rfl ?_
  refine V.s omX0_init rfl rfl ?_
  refine V.oi omX0_init rfl rfl rfl ?_
  iterate 2 (refine V.s omX0_init rfl rfl ?_)
  refine V.nI (N := 279) omX0_init rfl (by decide) (by decide) (by decide) (by decide) (by decide) ?_
  refine V.pfF (h ++ [.inr (0, [.ref (h.length + 1), .int 0, .int 0]), .inl (279, .inl (fun _ => 0))]) omX0_init rfl gq rfl rfl rfl rfl rfl rfl (show (0 : Nat) < 3 by decide) sq ?_
  exact V.vret omX0_init rfl rfl ⟨rfl, rfl⟩
set_option maxHeartbeats 4000000 in
set_option maxRecDepth 100000 in
theorem c_X3_init (d : Nat) : C mX3_init d 1 4 [.ref h.length] (h ++ [.inr (1, dfL 1)]) (fun r h' => h' = h ++ [.inr (1, [.ref (h.length + 1), .int 0, .int 0, .int 0, .int 0, .int 0, .int 0, .long 0, .int 0, .int 0]), .inl (4, .inl (fun _ => 0))] ∧ r = none) := by
  refine C.of [some (.ref h.length)] omX3_init rfl rfl rfl ?_
  refine V.s omX3_init rfl rfl ?_
  refine V.oi omX3_init rfl rfl rfl ?_
  iterate 2 (refine V.s omX3_init rfl rfl ?_)
  refine V.nI (N := 4) omX3_init rfl (by decide) (by decide) (by decide) (by decide) (by decide) ?_
  refine V.pfF (h ++ [.inr (1, [.ref (h.length + 1), .int 0, .int 0, .int 0, .int 0, .int 0, .int 0, .long 0, .int 0, .int 0]), .inl (4, .inl (fun _ => 0))]) omX3_init rfl gq rfl rfl rfl rfl rfl rfl (show (0 : Nat) < 10 by decide) sq ?_
  exact V.vret omX3_init rfl rfl ⟨rfl, rfl⟩
set_option maxHeartbeats 4000000 in
set_option maxRecDepth 100000 in
theorem c_X4_init (d : Nat) : C mX4_init d 1 16 [.ref h.length] (h ++ [.inr (2, dfL 2)]) (fun r h' => h' = h ++ [.inr (2, [.ref (h.length + 1), .int 0]), .inl (16, .inl (fun _ => 0))] ∧ r = none) := by
  refine C.of [some (.ref h.length)] omX4_init rfl rfl rfl ?_
  refine V.s omX4_init rfl rfl ?_
  refine V.oi omX4_init rfl rfl rfl ?_
  iterate 2 (refine V.s omX4_init rfl rfl ?_)
  refine V.nI (N := 16) omX4_init rfl (by decide) (by decide) (by decide) (by decide) (by decide) ?_
  refine V.pfF (h ++ [.inr (2, [.ref (h.length + 1), .int 0]), .inl (16, .inl (fun _ => 0))]) omX4_init rfl gq rfl rfl rfl rfl rfl rfl (show (0 : Nat) < 2 by decide) sq ?_
  exact V.vret omX4_init rfl rfl ⟨rfl, rfl⟩
set_option maxHeartbeats 4000000 in
set_option maxRecDepth 100000 in
theorem c_X5_init (d : Nat) : C mX5_init d 4 140 [.ref h.length] (h ++ [.inr (3, dfL 3)]) (fun r h' => h' = h ++ [.inr (3, [.ref (h.length + 1), .ref (h.length + 2), .ref (h.length + 3), .ref (h.length + 4), .int 0]), .inl (80, .inl (fun _ => 0)), .inl (20, .inl (fun _ => 0)), .inl (20, .inl (fun _ => 0)), .inl (20, .inl (fun _ => 0))] ∧ r = none) := by
  refine C.of [some (.ref h.length)] omX5_init rfl rfl rfl ?_
  refine V.s omX5_init rfl rfl ?_
  refine V.oi omX5_init rfl rfl rfl ?_
  iterate 2 (refine V.s omX5_init rfl rfl ?_)
  refine V.nI (N := 80) omX5_init rfl (by decide) (by decide) (by decide) (by decide) (by decide) ?_
  refine V.pfF (h ++ [.inr (3, [.ref (h.length + 1), .null, .null, .null, .int 0]), .inl (80, .inl (fun _ => 0))]) omX5_init rfl gq rfl rfl rfl rfl rfl rfl (show (0 : Nat) < 5 by decide) sq ?_
  iterate 2 (refine V.s omX5_init rfl rfl ?_)
  refine V.nI (N := 20) omX5_init rfl (by decide) (by decide) (by decide) (by decide) (by decide) ?_
  refine V.pfF (h ++ [.inr (3, [.ref (h.length + 1), .ref (h.length + 2), .null, .null, .int 0]), .inl (80, .inl (fun _ => 0)), .inl (20, .inl (fun _ => 0))]) omX5_init rfl gq rfl rfl rfl rfl rfl rfl (show (1 : Nat) < 5 by decide) sq ?_
  iterate 2 (refine V.s omX5_init rfl rfl ?_)
  refine V.nI (N := 20) omX5_init rfl (by decide) (by decide) (by decide) (by decide) (by decide) ?_
  refine V.pfF (h ++ [.inr (3, [.ref (h.length + 1), .ref (h.length + 2), .ref (h.length + 3), .null, .int 0]), .inl (80, .inl (fun _ => 0)), .inl (20, .inl (fun _ => 0)), .inl (20, .inl (fun _ => 0))]) omX5_init rfl gq rfl rfl rfl rfl rfl rfl (show (2 : Nat) < 5 by decide) sq ?_
  iterate 2 (refine V.s omX5_init rfl rfl ?_)
  refine V.nI (N := 20) omX5_init rfl (by decide) (by decide) (by decide) (by decide) (by decide) ?_
  refine V.pfF (h ++ [.inr (3, [.ref (h.length + 1), .ref (h.length + 2), .ref (h.length + 3), .ref (h.length + 4), .int 0]), .inl (80, .inl (fun _ => 0)), .inl (20, .inl (fun _ => 0)), .inl (20, .inl (fun _ => 0)), .inl (20, .inl (fun _ => 0))]) omX5_init rfl gq rfl rfl rfl rfl rfl rfl (show (3 : Nat) < 5 by decide) sq ?_
  exact V.vret omX5_init rfl rfl ⟨rfl, rfl⟩
set_option maxHeartbeats 4000000 in
set_option maxRecDepth 100000 in
theorem c_X6_init (d : Nat) : C mX6_init d 3 1519 [.ref h.length] (h ++ [.inr (4, dfL 4)]) (fun r h' => h' = h ++ [.inr (4, [.ref (h.length + 1), .ref (h.length + 2), .ref (h.length + 3), .int 0, .int (-1)]), .inl (961, .inl (fun _ => 0)), .inl (279, .inl (fun _ => 0)), .inl (279, .inl (fun _ => 0))] ∧ r = none) := by
  refine C.of [some (.ref h.length)] omX6_init rfl rfl rfl ?_
  refine V.s omX6_init rfl rfl ?_
  refine V.oi omX6_init rfl rfl rfl ?_
  iterate 2 (refine V.s omX6_init rfl rfl ?_)
  refine V.nI (N := 961) omX6_init rfl (by decide) (by decide) (by decide) (by decide) (by decide) ?_
  refine V.pfF (h ++ [.inr (4, [.ref (h.length + 1), .null, .null, .int 0, .int 0]), .inl (961, .inl (fun _ => 0))]) omX6_init rfl gq rfl rfl rfl rfl rfl rfl (show (0 : Nat) < 5 by decide) sq ?_
  iterate 2 (refine V.s omX6_init rfl rfl ?_)
  refine V.nI (N := 279) omX6_init rfl (by decide) (by decide) (by decide) (by decide) (by decide) ?_
  refine V.pfF (h ++ [.inr (4, [.ref (h.length + 1), .ref (h.length + 2), .null, .int 0, .int 0]), .inl (961, .inl (fun _ => 0)), .inl (279, .inl (fun _ => 0))]) omX6_init rfl gq rfl rfl rfl rfl rfl rfl (show (1 : Nat) < 5 by decide) sq ?_
  iterate 2 (refine V.s omX6_init rfl rfl ?_)
  refine V.nI (N := 279) omX6_init rfl (by decide) (by decide) (by decide) (by decide) (by decide) ?_
  refine V.pfF (h ++ [.inr (4, [.ref (h.length + 1), .ref (h.length + 2), .ref (h.length + 3), .int 0, .int 0]), .inl (961, .inl (fun _ => 0)), .inl (279, .inl (fun _ => 0)), .inl (279, .inl (fun _ => 0))]) omX6_init rfl gq rfl rfl rfl rfl rfl rfl (show (2 : Nat) < 5 by decide) sq ?_
  iterate 2 (refine V.s omX6_init rfl rfl ?_)
  refine V.pf (h ++ [.inr (4, [.ref (h.length + 1), .ref (h.length + 2), .ref (h.length + 3), .int 0, .int (-1)]), .inl (961, .inl (fun _ => 0)), .inl (279, .inl (fun _ => 0)), .inl (279, .inl (fun _ => 0))]) omX6_init rfl gq rfl rfl rfl (show (4 : Nat) < 5 by decide) sq ?_
  exact V.vret omX6_init rfl rfl ⟨rfl, rfl⟩
set_option maxHeartbeats 4000000 in
set_option maxRecDepth 100000 in
theorem c_X8_init (d : Nat) : C mX8_init d 17 1621 [.ref h.length] (h ++ [.inr (6, dfL 6)]) (fun r h' => h' = h ++ [.inr (6, [.ref (h.length + 1), .ref (h.length + 2), .ref (h.length + 3), .ref (h.length + 4), .ref (h.length + 5), .int 0, .int 0, .int 0, .ref (h.length + 6), .ref (h.length + 7), .ref (h.length + 8), .ref (h.length + 9), .ref (h.length + 10), .int 0, .int 0, .int 0, .int 0, .long 0, .ref (h.length + 11), .ref (h.length + 12), .int 0, .ref (h.length + 13), .ref (h.length + 14), .ref (h.length + 15), .int 0, .int (-1), .ref (h.length + 16), .ref (h.length + 17), .int 0]), .inl (80, .inl (fun _ => 0)), .inl (20, .inl (fun _ => 0)), .inl (20, .inl (fun _ => 0)), .inl (20, .inl (fun _ => 0)), .inl (96, .inl (fun _ => 0)), .inl (9, .inl (fun _ => 0)), .inl (16, .inl (fun _ => 0)), .inl (4, .inr (.inl (fun _ => 0))), .inl (16, .inl (fun _ => 0)), .inl (4, .inr (.inl (fun _ => 0))), .inl (4, .inl (fun _ => 0)), .inl (400, .inl (fun _ => 0)), .inl (300, .inl (fun _ => 0)), .inl (300, .inl (fun _ => 0)), .inl (300, .inl (fun _ => 0)), .inl (16, .inl (fun _ => 0)), .inl (16, .inl (fun _ => 0))] ∧ r = none) := by
  refine C.of [some (.ref h.length)] omX8_init rfl rfl rfl ?_
  refine V.s omX8_init rfl rfl ?_
  refine V.oi omX8_init rfl rfl rfl ?_
  iterate 2 (refine V.s omX8_init rfl rfl ?_)
  refine V.nI (N := 80) omX8_init rfl (by decide) (by decide) (by decide) (by decide) (by decide) ?_
  refine V.pfF (h ++ [.inr (6, [.ref (h.length + 1), .null, .null, .null, .null, .int 0, .int 0, .int 0, .null, .null, .null, .null, .null, .int 0, .int 0, .int 0, .int 0, .long 0, .null, .null, .int 0, .null, .null, .null, .int 0, .int 0, .null, .null, .int 0]), .inl (80, .inl (fun _ => 0))]) omX8_init rfl gq rfl rfl rfl rfl rfl rfl (show (0 : Nat) < 29 by decide) sq ?_
  iterate 2 (refine V.s omX8_init rfl rfl ?_)
  refine V.nI (N := 20) omX8_init rfl (by decide) (by decide) (by decide) (by decide) (by decide) ?_
  refine V.pfF (h ++ [.inr (6, [.ref (h.length + 1), .ref (h.length + 2), .null, .null, .null, .int 0, .int 0, .int 0, .null, .null, .null, .null, .null, .int 0, .int 0, .int 0, .int 0, .long 0, .null, .null, .int 0, .null, .null, .null, .int 0, .int 0, .null, .null, .int 0]), .inl (80, .inl (fun _ => 0)), .inl (20, .inl (fun _ => 0))]) omX8_init rfl gq rfl rfl rfl rfl rfl rfl (show (1 : Nat) < 29 by decide) sq ?_
  iterate 2 (refine V.s omX8_init rfl rfl ?_)
  refine V.nI (N := 20) omX8_init rfl (by decide) (by decide) (by decide) (by decide) (by decide) ?_
  refine V.pfF (h ++ [.inr (6, [.ref (h.length + 1), .ref (h.length + 2), .ref (h.length + 3), .null, .null, .int 0, .int 0, .int 0, .null, .null, .null, .null, .null, .int 0, .int 0, .int 0, .int 0, .long 0, .null, .null, .int 0, .null, .null, .null, .int 0, .int 0, .null, .null, .int 0]), .inl (80, .inl (fun _ => 0)), .inl (20, .inl (fun _ => 0)), .inl (20, .inl (fun _ => 0))]) omX8_init rfl gq rfl rfl rfl rfl rfl rfl (show (2 : Nat) < 29 by decide) sq ?_
  iterate 2 (refine V.s omX8_init rfl rfl ?_)
  refine V.nI (N := 20) omX8_init rfl (by decide) (by decide) (by decide) (by decide) (by decide) ?_
  refine V.pfF (h ++ [.inr (6, [.ref (h.length + 1), .ref (h.length + 2), .ref (h.length + 3), .ref (h.length + 4), .null, .int 0, .int 0, .int 0, .null, .null, .null, .null, .null, .int 0, .int 0, .int 0, .int 0, .long 0, .null, .null, .int 0, .null, .null, .null, .int 0, .int 0, .null, .null, .int 0]), .inl (80, .inl (fun _ => 0)), .inl (20, .inl (fun _ => 0)), .inl (20, .inl (fun _ => 0)), .inl (20, .inl (fun _ => 0))]) omX8_init rfl gq rfl rfl rfl rfl rfl rfl (show (3 : Nat) < 29 by decide) sq ?_
  iterate 2 (refine V.s omX8_init rfl rfl ?_)
  refine V.nI (N := 96) omX8_init rfl (by decide) (by decide) (by decide) (by decide) (by decide) ?_
  refine V.pfF (h ++ [.inr (6, [.ref (h.length + 1), .ref (h.length + 2), .ref (h.length + 3), .ref (h.length + 4), .ref (h.length + 5), .int 0, .int 0, .int 0, .null, .null, .null, .null, .null, .int 0, .int 0, .int 0, .int 0, .long 0, .null, .null, .int 0, .null, .null, .null, .int 0, .int 0, .null, .null, .int 0]), .inl (80, .inl (fun _ => 0)), .inl (20, .inl (fun _ => 0)), .inl (20, .inl (fun _ => 0)), .inl (20, .inl (fun _ => 0)), .inl (96, .inl (fun _ => 0))]) omX8_init rfl gq rfl rfl rfl rfl rfl rfl (show (4 : Nat) < 29 by decide) sq ?_
  iterate 2 (refine V.s omX8_init rfl rfl ?_)
  refine V.nI (N := 9) omX8_init rfl (by decide) (by decide) (by decide) (by decide) (by decide) ?_
  refine V.pfF (h ++ [.inr (6, [.ref (h.length + 1), .ref (h.length + 2), .ref (h.length + 3), .ref (h.length + 4), .ref (h.length + 5), .int 0, .int 0, .int 0, .ref (h.length + 6), .null, .null, .null, .null, .int 0, .int 0, .int 0, .int 0, .long 0, .null, .null, .int 0, .null, .null, .null, .int 0, .int 0, .null, .null, .int 0]), .inl (80, .inl (fun _ => 0)), .inl (20, .inl (fun _ => 0)), .inl (20, .inl (fun _ => 0)), .inl (20, .inl (fun _ => 0)), .inl (96, .inl (fun _ => 0)), .inl (9, .inl (fun _ => 0))]) omX8_init rfl gq rfl rfl rfl rfl rfl rfl (show (8 : Nat) < 29 by decide) sq ?_
  iterate 2 (refine V.s omX8_init rfl rfl ?_)
  refine V.nI (N := 16) omX8_init rfl (by decide) (by decide) (by decide) (by decide) (by decide) ?_
  refine V.pfF (h ++ [.inr (6, [.ref (h.length + 1), .ref (h.length + 2), .ref (h.length + 3), .ref (h.length + 4), .ref (h.length + 5), .int 0, .int 0, .int 0, .ref (h.length + 6), .ref (h.length + 7), .null, .null, .null, .int 0, .int 0, .int 0, .int 0, .long 0, .null, .null, .int 0, .null, .null, .null, .int 0, .int 0, .null, .null, .int 0]), .inl (80, .inl (fun _ => 0)), .inl (20, .inl (fun _ => 0)), .inl (20, .inl (fun _ => 0)), .inl (20, .inl (fun _ => 0)), .inl (96, .inl (fun _ => 0)), .inl (9, .inl (fun _ => 0)), .inl (16, .inl (fun _ => 0))]) omX8_init rfl gq rfl rfl rfl rfl rfl rfl (show (9 : Nat) < 29 by decide) sq ?_
  iterate 2 (refine V.s omX8_init rfl rfl ?_)
  refine V.nL (N := 4) omX8_init rfl (by decide) (by decide) (by decide) (by decide) (by decide) ?_
  refine V.pfF (h ++ [.inr (6, [.ref (h.length + 1), .ref (h.length + 2), .ref (h.length + 3), .ref (h.length + 4), .ref (h.length + 5), .int 0, .int 0, .int 0, .ref (h.length + 6), .ref (h.length + 7), .ref (h.length + 8), .null, .null, .int 0, .int 0, .int 0, .int 0, .long 0, .null, .null, .int 0, .null, .null, .null, .int 0, .int 0, .null, .null, .int 0]), .inl (80, .inl (fun _ => 0)), .inl (20, .inl (fun _ => 0)), .inl (20, .inl (fun _ => 0)), .inl (20, .inl (fun _ => 0)), .inl (96, .inl (fun _ => 0)), .inl (9, .inl (fun _ => 0)), .inl (16, .inl (fun _ => 0)), .inl (4, .inr (.inl (fun _ => 0)))]) omX8_init rfl gq rfl rfl rfl rfl rfl rfl (show (10 : Nat) < 29 by decide) sq ?_
  iterate 2 (refine V.s omX8_init rfl rfl ?_)
  refine V.nI (N := 16) omX8_init rfl (by decide) (by decide) (by decide) (by decide) (by decide) ?_
  refine V.pfF (h ++ [.inr (6, [.ref (h.length + 1), .ref (h.length + 2), .ref (h.length + 3), .ref (h.length + 4), .ref (h.length + 5), .int 0, .int 0, .int 0, .ref (h.length + 6), .ref (h.length + 7), .ref (h.length + 8), .ref (h.length + 9), .null, .int 0, .int 0, .int 0, .int 0, .long 0, .null, .null, .int 0, .null, .null, .null, .int 0, .int 0, .null, .null, .int 0]), .inl (80, .inl (fun _ => 0)), .inl (20, .inl (fun _ => 0)), .inl (20, .inl (fun _ => 0)), .inl (20, .inl (fun _ => 0)), .inl (96, .inl (fun _ => 0)), .inl (9, .inl (fun _ => 0)), .inl (16, .inl (fun _ => 0)), .inl (4, .inr (.inl (fun _ => 0))), .inl (16, .inl (fun _ => 0))]) omX8_init rfl gq rfl rfl rfl rfl rfl rfl (show (11 : Nat) < 29 by decide) sq ?_
  iterate 2 (refine V.s omX8_init rfl rfl ?_)
  refine V.nL (N := 4) omX8_init rfl (by decide) (by decide) (by decide) (by decide) (by decide) ?_
  refine V.pfF (h ++ [.inr (6, [.ref (h.length + 1), .ref (h.length + 2), .ref (h.length + 3), .ref (h.length + 4), .ref (h.length + 5), .int 0, .int 0, .int 0, .ref (h.length + 6), .ref (h.length + 7), .ref (h.length + 8), .ref (h.length + 9), .ref (h.length + 10), .int 0, .int 0, .int 0, .int 0, .long 0, .null, .null, .int 0, .null, .null, .null, .int 0, .int 0, .null, .null, .int 0]), .inl (80, .inl (fun _ => 0)), .inl (20, .inl (fun _ => 0)), .inl (20, .inl (fun _ => 0)), .inl (20, .inl (fun _ => 0)), .inl (96, .inl (fun _ => 0)), .inl (9, .inl (fun _ => 0)), .inl (16, .inl (fun _ => 0)), .inl (4, .inr (.inl (fun _ => 0))), .inl (16, .inl (fun _ => 0)), .inl (4, .inr (.inl (fun _ => 0)))]) omX8_init rfl gq rfl rfl rfl rfl rfl rfl (show (12 : Nat) < 29 by decide) sq ?_
  iterate 2 (refine V.s omX8_init rfl rfl ?_)
  refine V.nI (N := 4) omX8_init rfl (by decide) (by decide) (by decide) (by decide) (by decide) ?_
  refine V.pfF (h ++ [.inr (6, [.ref (h.length + 1), .ref (h.length + 2), .ref (h.length + 3), .ref (h.length + 4), .ref (h.length + 5), .int 0, .int 0, .int 0, .ref (h.length + 6), .ref (h.length + 7), .ref (h.length + 8), .ref (h.length + 9), .ref (h.length + 10), .int 0, .int 0, .int 0, .int 0, .long 0, .ref (h.length + 11), .null, .int 0, .null, .null, .null, .int 0, .int 0, .null, .null, .int 0]), .inl (80, .inl (fun _ => 0)), .inl (20, .inl (fun _ => 0)), .inl (20, .inl (fun _ => 0)), .inl (20, .inl (fun _ => 0)), .inl (96, .inl (fun _ => 0)), .inl (9, .inl (fun _ => 0)), .inl (16, .inl (fun _ => 0)), .inl (4, .inr (.inl (fun _ => 0))), .inl (16, .inl (fun _ => 0)), .inl (4, .inr (.inl (fun _ => 0))), .inl (4, .inl (fun _ => 0))]) omX8_init rfl gq rfl rfl rfl rfl rfl rfl (show (18 : Nat) < 29 by decide) sq ?_
  iterate 2 (refine V.s omX8_init rfl rfl ?_)
  refine V.nI (N := 400) omX8_init rfl (by decide) (by decide) (by decide) (by decide) (by decide) ?_
  refine V.pfF (h ++ [.inr (6, [.ref (h.length + 1), .ref (h.length + 2), .ref (h.length + 3), .ref (h.length + 4), .ref (h.length + 5), .int 0, .int 0, .int 0, .ref (h.length + 6), .ref (h.length + 7), .ref (h.length + 8), .ref (h.length + 9), .ref (h.length + 10), .int 0, .int 0, .int 0, .int 0, .long 0, .ref (h.length + 11), .ref (h.length + 12), .int 0, .null, .null, .null, .int 0, .int 0, .null, .null, .int 0]), .inl (80, .inl (fun _ => 0)), .inl (20, .inl (fun _ => 0)), .inl (20, .inl (fun _ => 0)), .inl (20, .inl (fun _ => 0)), .inl (96, .inl (fun _ => 0)), .inl (9, .inl (fun _ => 0)), .inl (16, .inl (fun _ => 0)), .inl (4, .inr (.inl (fun _ => 0))), .inl (16, .inl (fun _ => 0)), .inl (4, .inr (.inl (fun _ => 0))), .inl (4, .inl (fun _ => 0)), .inl (400, .inl (fun _ => 0))]) omX8_init rfl gq rfl rfl rfl rfl rfl rfl (show (19 : Nat) < 29 by decide) sq ?_
  iterate 2 (refine V.s omX8_init rfl rfl ?_)
  refine V.nI (N := 300) omX8_init rfl (by decide) (by decide) (by decide) (by decide) (by decide) ?_
  refine V.pfF (h ++ [.inr (6, [.ref (h.length + 1), .ref (h.length + 2), .ref (h.length + 3), .ref (h.length + 4), .ref (h.length + 5), .int 0, .int 0, .int 0, .ref (h.length + 6), .ref (h.length + 7), .ref (h.length + 8), .ref (h.length + 9), .ref (h.length + 10), .int 0, .int 0, .int 0, .int 0, .long 0, .ref (h.length + 11), .ref (h.length + 12), .int 0, .ref (h.length + 13), .null, .null, .int 0, .int 0, .null, .null, .int 0]), .inl (80, .inl (fun _ => 0)), .inl (20, .inl (fun _ => 0)), .inl (20, .inl (fun _ => 0)), .inl (20, .inl (fun _ => 0)), .inl (96, .inl (fun _ => 0)), .inl (9, .inl (fun _ => 0)), .inl (16, .inl (fun _ => 0)), .inl (4, .inr (.inl (fun _ => 0))), .inl (16, .inl (fun _ => 0)), .inl (4, .inr (.inl (fun _ => 0))), .inl (4, .inl (fun _ => 0)), .inl (400, .inl (fun _ => 0)), .inl (300, .inl (fun _ => 0))]) omX8_init rfl gq rfl rfl rfl rfl rfl rfl (show (21 : Nat) < 29 by decide) sq ?_
  iterate 2 (refine V.s omX8_init rfl rfl ?_)
  refine V.nI (N := 300) omX8_init rfl (by decide) (by decide) (by decide) (by decide) (by decide) ?_
  refine V.pfF (h ++ [.inr (6, [.ref (h.length + 1), .ref (h.length + 2), .ref (h.length + 3), .ref (h.length + 4), .ref (h.length + 5), .int 0, .int 0, .int 0, .ref (h.length + 6), .ref (h.length + 7), .ref (h.length + 8), .ref (h.length + 9), .ref (h.length + 10), .int 0, .int 0, .int 0, .int 0, .long 0, .ref (h.length + 11), .ref (h.length + 12), .int 0, .ref (h.length + 13), .ref (h.length + 14), .null, .int 0, .int 0, .null, .null, .int 0]), .inl (80, .inl (fun _ => 0)), .inl (20, .inl (fun _ => 0)), .inl (20, .inl (fun _ => 0)), .inl (20, .inl (fun _ => 0)), .inl (96, .inl (fun _ => 0)), .inl (9, .inl (fun _ => 0)), .inl (16, .inl (fun _ => 0)), .inl (4, .inr (.inl (fun _ => 0))), .inl (16, .inl (fun _ => 0)), .inl (4, .inr (.inl (fun _ => 0))), .inl (4, .inl (fun _ => 0)), .inl (400, .inl (fun _ => 0)), .inl (300, .inl (fun _ => 0)), .inl (300, .inl (fun _ => 0))]) omX8_init rfl gq rfl rfl rfl rfl rfl rfl (show (22 : Nat) < 29 by decide) sq ?_
  iterate 2 (refine V.s omX8_init rfl rfl ?_)
  refine V.nI (N := 300) omX8_init rfl (by decide) (by decide) (by decide) (by decide) (by decide) ?_
  refine V.pfF (h ++ [.inr (6, [.ref (h.length + 1), .ref (h.length + 2), .ref (h.length + 3), .ref (h.length + 4), .ref (h.length + 5), .int 0, .int 0, .int 0, .ref (h.length + 6), .ref (h.length + 7), .ref (h.length + 8), .ref (h.length + 9), .ref (h.length + 10), .int 0, .int 0, .int 0, .int 0, .long 0, .ref (h.length + 11), .ref (h.length + 12), .int 0, .ref (h.length + 13), .ref (h.length + 14), .ref (h.length + 15), .int 0, .int 0, .null, .null, .int 0]), .inl (80, .inl (fun _ => 0)), .inl (20, .inl (fun _ => 0)), .inl (20, .inl (fun _ => 0)), .inl (20, .inl (fun _ => 0)), .inl (96, .inl (fun _ => 0)), .inl (9, .inl (fun _ => 0)), .inl (16, .inl (fun _ => 0)), .inl (4, .inr (.inl (fun _ => 0))), .inl (16, .inl (fun _ => 0)), .inl (4, .inr (.inl (fun _ => 0))), .inl (4, .inl (fun _ => 0)), .inl (400, .inl (fun _ => 0)), .inl (300, .inl (fun _ => 0)), .inl (300, .inl (fun _ => 0)), .inl (300, .inl (fun _ => 0))]) omX8_init rfl gq rfl rfl rfl rfl rfl rfl (show (23 : Nat) < 29 by decide) sq ?_
  iterate 2 (refine V.s omX8_init rfl rfl ?_)
  refine V.pf (h ++ [.inr (6, [.ref (h.length + 1), .ref (h.length + 2), .ref (h.length + 3), .ref (h.length + 4), .ref (h.length + 5), .int 0, .int 0, .int 0, .ref (h.length + 6), .ref (h.length + 7), .ref (h.length + 8), .ref (h.length + 9), .ref (h.length + 10), .int 0, .int 0, .int 0, .int 0, .long 0, .ref (h.length + 11), .ref (h.length + 12), .int 0, .ref (h.length + 13), .ref (h.length + 14), .ref (h.length + 15), .int 0, .int (-1), .null, .null, .int 0]), .inl (80, .inl (fun _ => 0)), .inl (20, .inl (fun _ => 0)), .inl (20, .inl (fun _ => 0)), .inl (20, .inl (fun _ => 0)), .inl (96, .inl (fun _ => 0)), .inl (9, .inl (fun _ => 0)), .inl (16, .inl (fun _ => 0)), .inl (4, .inr (.inl (fun _ => 0))), .inl (16, .inl (fun _ => 0)), .inl (4, .inr (.inl (fun _ => 0))), .inl (4, .inl (fun _ => 0)), .inl (400, .inl (fun _ => 0)), .inl (300, .inl (fun _ => 0)), .inl (300, .inl (fun _ => 0)), .inl (300, .inl (fun _ => 0))]) omX8_init rfl gq rfl rfl rfl (show (25 : Nat) < 29 by decide) sq ?_
  iterate 2 (refine V.s omX8_init rfl rfl ?_)
  refine V.nI (N := 16) omX8_init rfl (by decide) (by decide) (by decide) (by decide) (by decide) ?_
  refine V.pfF (h ++ [.inr (6, [.ref (h.length + 1), .ref (h.length + 2), .ref (h.length + 3), .ref (h.length + 4), .ref (h.length + 5), .int 0, .int 0, .int 0, .ref (h.length + 6), .ref (h.length + 7), .ref (h.length + 8), .ref (h.length + 9), .ref (h.length + 10), .int 0, .int 0, .int 0, .int 0, .long 0, .ref (h.length + 11), .ref (h.length + 12), .int 0, .ref (h.length + 13), .ref (h.length + 14), .ref (h.length + 15), .int 0, .int (-1), .ref (h.length + 16), .null, .int 0]), .inl (80, .inl (fun _ => 0)), .inl (20, .inl (fun _ => 0)), .inl (20, .inl (fun _ => 0)), .inl (20, .inl (fun _ => 0)), .inl (96, .inl (fun _ => 0)), .inl (9, .inl (fun _ => 0)), .inl (16, .inl (fun _ => 0)), .inl (4, .inr (.inl (fun _ => 0))), .inl (16, .inl (fun _ => 0)), .inl (4, .inr (.inl (fun _ => 0))), .inl (4, .inl (fun _ => 0)), .inl (400, .inl (fun _ => 0)), .inl (300, .inl (fun _ => 0)), .inl (300, .inl (fun _ => 0)), .inl (300, .inl (fun _ => 0)), .inl (16, .inl (fun _ => 0))]) omX8_init rfl gq rfl rfl rfl rfl rfl rfl (show (26 : Nat) < 29 by decide) sq ?_
  iterate 2 (refine V.s omX8_init rfl rfl ?_)
  refine V.nI (N := 16) omX8_init rfl (by decide) (by decide) (by decide) (by decide) (by decide) ?_
  refine V.pfF (h ++ [.inr (6, [.ref (h.length + 1), .ref (h.length + 2), .ref (h.length + 3), .ref (h.length + 4), .ref (h.length + 5), .int 0, .int 0, .int 0, .ref (h.length + 6), .ref (h.length + 7), .ref (h.length + 8), .ref (h.length + 9), .ref (h.length + 10), .int 0, .int 0, .int 0, .int 0, .long 0, .ref (h.length + 11), .ref (h.length + 12), .int 0, .ref (h.length + 13), .ref (h.length + 14), .ref (h.length + 15), .int 0, .int (-1), .ref (h.length + 16), .ref (h.length + 17), .int 0]), .inl (80, .inl (fun _ => 0)), .inl (20, .inl (fun _ => 0)), .inl (20, .inl (fun _ => 0)), .inl (20, .inl (fun _ => 0)), .inl (96, .inl (fun _ => 0)), .inl (9, .inl (fun _ => 0)), .inl (16, .inl (fun _ => 0)), .inl (4, .inr (.inl (fun _ => 0))), .inl (16, .inl (fun _ => 0)), .inl (4, .inr (.inl (fun _ => 0))), .inl (4, .inl (fun _ => 0)), .inl (400, .inl (fun _ => 0)), .inl (300, .inl (fun _ => 0)), .inl (300, .inl (fun _ => 0)), .inl (300, .inl (fun _ => 0)), .inl (16, .inl (fun _ => 0)), .inl (16, .inl (fun _ => 0))]) omX8_init rfl gq rfl rfl rfl rfl rfl rfl (show (27 : Nat) < 29 by decide) sq ?_
  exact V.vret omX8_init rfl rfl ⟨rfl, rfl⟩
set_option maxHeartbeats 4000000 in
set_option maxRecDepth 100000 in
theorem ini_1 (d : Nat) {v1 : Option Value} {Q : Option Value → hp_T → Prop} (kk : V mX7_init (d + 1) 32 2140 Q 5 145 15 [some (.ref 0), v1] [] [.inr (5, [.ref 1, .null, .null, .null, .null, .null, .null, .null, .null, .int 0, .int 0, .int 0]), .inr (3, [.ref 2, .ref 3, .ref 4, .ref 5, .int 0]), .inl (80, .inl (fun _ => 0)), .inl (20, .inl (fun _ => 0)), .inl (20, .inl (fun _ => 0)), .inl (20, .inl (fun _ => 0))]) : V mX7_init (d + 1) 32 2140 Q 0 0 4 [some (.ref 0), v1] [] [.inr (5, [.null, .null, .null, .null, .null, .null, .null, .null, .null, .int 0, .int 0, .int 0])] := by
  refine V.s omX7_init rfl rfl ?_
  refine V.new omX7_init rfl (by decide) (by decide) ?_
  refine V.s omX7_init rfl rfl ?_
  refine V.cI omX7_init omX5_init (c_X5_init (h := [.inr (5, [.null, .null, .null, .null, .null, .null, .null, .null, .null, .int 0, .int 0, .int 0])]) d) rfl rfl rfl rfl rfl rfl rfl (by decide) (by decide) (fun r h' hQ => ?_)
  obtain ⟨rfl, rfl⟩ := hQ
  show V mX7_init (d + 1) 32 2140 _ 5 145 _ _ _ [.inr (5, [.null, .null, .null, .null, .null, .null, .null, .null, .null, .int 0, .int 0, .int 0]), .inr (3, [.ref 2, .ref 3, .ref 4, .ref 5, .int 0]), .inl (80, .inl (fun _ => 0)), .inl (20, .inl (fun _ => 0)), .inl (20, .inl (fun _ => 0)), .inl (20, .inl (fun _ => 0))]
  refine V.pfF ([.inr (5, [.ref 1, .null, .null, .null, .null, .null, .null, .null, .null, .int 0, .int 0, .int 0]), .inr (3, [.ref 2, .ref 3, .ref 4, .ref 5, .int 0]), .inl (80, .inl (fun _ => 0)), .inl (20, .inl (fun _ => 0)), .inl (20, .inl (fun _ => 0)), .inl (20, .inl (fun _ => 0))]) omX7_init rfl rfl rfl rfl rfl rfl rfl rfl (show (0 : Nat) < 12 by decide) rfl ?_
  exact kk
set_option maxHeartbeats 4000000 in
set_option maxRecDepth 100000 in
theorem ini_2 (d : Nat) {c1 c2 c3 c4 c5 : ac_T} {g : Nat → Option Nat} {Q : Option Value → hp_T → Prop} (kk : V mX7_init (d + 1) 32 2140 Q 8 169 26 [some (.ref 0), some (.int 1)] [] [.inr (5, [.ref 1, .ref 6, .null, .null, .null, .null, .null, .null, .null, .int 0, .int 0, .int 0]), c1, c2, c3, c4, c5, .inl (6, .inr (.inr (.inr (.inr (va_up g 0 (some 7)))))), .inr (2, [.ref 8, .int 0]), .inl (16, .inl (fun _ => 0))]) : V mX7_init (d + 1) 32 2140 Q 6 151 26 [some (.ref 0), some (.int 0)] [] [.inr (5, [.ref 1, .ref 6, .null, .null, .null, .null, .null, .null, .null, .int 0, .int 0, .int 0]), c1, c2, c3, c4, c5, .inl (6, .inr (.inr (.inr (.inr g))))] := by
  iterate 2 (refine V.s omX7_init rfl rfl ?_)
  refine V.brF omX7_init rfl rfl (by decide) ?_
  refine V.s omX7_init rfl rfl ?_
  refine V.gf omX7_init rfl rfl rfl rfl ?_
  refine V.s omX7_init rfl rfl ?_
  refine V.new omX7_init rfl (by decide) (by decide) ?_
  refine V.s omX7_init rfl rfl ?_
  refine V.cI omX7_init omX4_init (c_X4_init (h := [.inr (5, [.ref 1, .ref 6, .null, .null, .null, .null, .null, .null, .null, .int 0, .int 0, .int 0]), c1, c2, c3, c4, c5, .inl (6, .inr (.inr (.inr (.inr g))))]) d) rfl rfl rfl rfl rfl rfl rfl (by decide) (by decide) (fun r h' hQ => ?_)
  obtain ⟨rfl, rfl⟩ := hQ
  show V mX7_init (d + 1) 32 2140 _ 8 169 _ _ _ [.inr (5, [.ref 1, .ref 6, .null, .null, .null, .null, .null, .null, .null, .int 0, .int 0, .int 0]), c1, c2, c3, c4, c5, .inl (6, .inr (.inr (.inr (.inr g)))), .inr (2, [.ref 8, .int 0]), .inl (16, .inl (fun _ => 0))]
  refine V.aas ([.inr (5, [.ref 1, .ref 6, .null, .null, .null, .null, .null, .null, .null, .int 0, .int 0, .int 0]), c1, c2, c3, c4, c5, .inl (6, .inr (.inr (.inr (.inr (va_up g 0 (some 7)))))), .inr (2, [.ref 8, .int 0]), .inl (16, .inl (fun _ => 0))]) omX7_init rfl rfl rfl (ixN (nv_nI (a := 0)) (by decide) (by decide)) rfl ?_
  iterate 2 (refine V.s omX7_init rfl rfl ?_)
  exact kk
set_option maxHeartbeats 4000000 in
set_option maxRecDepth 100000 in
theorem ini_3 (d : Nat) {c1 c2 c3 c4 c5 c7 c8 : ac_T} {g : Nat → Option Nat} {Q : Option Value → hp_T → Prop} (kk : V mX7_init (d + 1) 32 2140 Q 10 187 26 [some (.ref 0), some (.int 2)] [] [.inr (5, [.ref 1, .ref 6, .null, .null, .null, .null, .null, .null, .null, .int 0, .int 0, .int 0]), c1, c2, c3, c4, c5, .inl (6, .inr (.inr (.inr (.inr (va_up g 1 (some 9)))))), c7, c8, .inr (2, [.ref 10, .int 0]), .inl (16, .inl (fun _ => 0))]) : V mX7_init (d + 1) 32 2140 Q 8 169 26 [some (.ref 0), some (.int 1)] [] [.inr (5, [.ref 1, .ref 6, .null, .null, .null, .null, .null, .null, .null, .int 0, .int 0, .int 0]), c1, c2, c3, c4, c5, .inl (6, .inr (.inr (.inr (.inr g)))), c7, c8] := by
  iterate 2 (refine V.s omX7_init rfl rfl ?_)
  refine V.brF omX7_init rfl rfl (by decide) ?_
  refine V.s omX7_init rfl rfl ?_
  refine V.gf omX7_init rfl rfl rfl rfl ?_
  refine V.s omX7_init rfl rfl ?_
  refine V.new omX7_init rfl (by decide) (by decide) ?_
  refine V.s omX7_init rfl rfl ?_
  refine V.cI omX7_init omX4_init (c_X4_init (h := [.inr (5, [.ref 1, .ref 6, .null, .null, .null, .null, .null, .null, .null, .int 0, .int 0, .int 0]), c1, c2, c3, c4, c5, .inl (6, .inr (.inr (.inr (.inr g)))), c7, c8]) d) rfl rfl rfl rfl rfl rfl rfl (by decide) (by decide) (fun r h' hQ => ?_)
  obtain ⟨rfl, rfl⟩ := hQ
  show V mX7_init (d + 1) 32 2140 _ 10 187 _ _ _ [.inr (5, [.ref 1, .ref 6, .null, .null, .null, .null, .null, .null, .null, .int 0, .int 0, .int 0]), c1, c2, c3, c4, c5, .inl (6, .inr (.inr (.inr (.inr g)))), c7, c8, .inr (2, [.ref 10, .int 0]), .inl (16, .inl (fun _ => 0))]
  refine V.aas ([.inr (5, [.ref 1, .ref 6, .null, .null, .null, .null, .null, .null, .null, .int 0, .int 0, .int 0]), c1, c2, c3, c4, c5, .inl (6, .inr (.inr (.inr (.inr (va_up g 1 (some 9)))))), c7, c8, .inr (2, [.ref 10, .int 0]), .inl (16, .inl (fun _ => 0))]) omX7_init rfl rfl rfl (ixN (nv_nI (a := 1)) (by decide) (by decide)) rfl ?_
  iterate 2 (refine V.s omX7_init rfl rfl ?_)
  exact kk
set_option maxHeartbeats 4000000 in
set_option maxRecDepth 100000 in
theorem ini_4 (d : Nat) {c1 c2 c3 c4 c5 c7 c8 c9 c10 : ac_T} {g : Nat → Option Nat} {Q : Option Value → hp_T → Prop} (kk : V mX7_init (d + 1) 32 2140 Q 12 205 26 [some (.ref 0), some (.int 3)] [] [.inr (5, [.ref 1, .ref 6, .null, .null, .null, .null, .null, .null, .null, .int 0, .int 0, .int 0]), c1, c2, c3, c4, c5, .inl (6, .inr (.inr (.inr (.inr (va_up g 2 (some 11)))))), c7, c8, c9, c10, .inr (2, [.ref 12, .int 0]), .inl (16, .inl (fun _ => 0))]) : V mX7_init (d + 1) 32 2140 Q 10 187 26 [some (.ref 0), some (.int 2)] [] [.inr (5, [.ref 1, .ref 6, .null, .null, .null, .null, .null, .null, .null, .int 0, .int 0, .int 0]), c1, c2, c3, c4, c5, .inl (6, .inr (.inr (.inr (.inr g)))), c7, c8, c9, c10] := by
  iterate 2 (refine V.s omX7_init rfl rfl ?_)
  refine V.brF omX7_init rfl rfl (by decide) ?_
  refine V.s omX7_init rfl rfl ?_
  refine V.gf omX7_init rfl rfl rfl rfl ?_
  refine V.s omX7_init rfl rfl ?_
  refine V.new omX7_init rfl (by decide) (by decide) ?_
  refine V.s omX7_init rfl rfl ?_
  refine V.cI omX7_init omX4_init (c_X4_init (h := [.inr (5, [.ref 1, .ref 6, .null, .null, .null, .null, .null, .null, .null, .int 0, .int 0, .int 0]), c1, c2, c3, c4, c5, .inl (6, .inr (.inr (.inr (.inr g)))), c7, c8, c9, c10]) d) rfl rfl rfl rfl rfl rfl rfl (by decide) (by decide) (fun r h' hQ => ?_)
  obtain ⟨rfl, rfl⟩ := hQ
  show V mX7_init (d + 1) 32 2140 _ 12 205 _ _ _ [.inr (5, [.ref 1, .ref 6, .null, .null, .null, .null, .null, .null, .null, .int 0, .int 0, .int 0]), c1, c2, c3, c4, c5, .inl (6, .inr (.inr (.inr (.inr g)))), c7, c8, c9, c10, .inr (2, [.ref 12, .int 0]), .inl (16, .inl (fun _ => 0))]
  refine V.aas ([.inr (5, [.ref 1, .ref 6, .null, .null, .null, .null, .null, .null, .null, .int 0, .int 0, .int 0]), c1, c2, c3, c4, c5, .inl (6, .inr (.inr (.inr (.inr (va_up g 2 (some 11)))))), c7, c8, c9, c10, .inr (2, [.ref 12, .int 0]), .inl (16, .inl (fun _ => 0))]) omX7_init rfl rfl rfl (ixN (nv_nI (a := 2)) (by decide) (by decide)) rfl ?_
  iterate 2 (refine V.s omX7_init rfl rfl ?_)
  exact kk
set_option maxHeartbeats 4000000 in
set_option maxRecDepth 100000 in
theorem ini_5 (d : Nat) {c1 c2 c3 c4 c5 c7 c8 c9 c10 c11 c12 : ac_T} {g : Nat → Option Nat} {Q : Option Value → hp_T → Prop} (kk : V mX7_init (d + 1) 32 2140 Q 14 223 26 [some (.ref 0), some (.int 4)] [] [.inr (5, [.ref 1, .ref 6, .null, .null, .null, .null, .null, .null, .null, .int 0, .int 0, .int 0]), c1, c2, c3, c4, c5, .inl (6, .inr (.inr (.inr (.inr (va_up g 3 (some 13)))))), c7, c8, c9, c10, c11, c12, .inr (2, [.ref 14, .int 0]), .inl (16, .inl (fun _ => 0))]) : V mX7_init (d + 1) 32 2140 Q 12 205 26 [some (.ref 0), some (.int 3)] [] [.inr (5, [.ref 1, .ref 6, .null, .null, .null, .null, .null, .null, .null, .int 0, .int 0, .int 0]), c1, c2, c3, c4, c5, .inl (6, .inr (.inr (.inr (.inr g)))), c7, c8, c9, c10, c11, c12] := by
  iterate 2 (refine V.s omX7_init rfl rfl ?_)
  refine V.brF omX7_init rfl rfl (by decide) ?_
  refine V.s omX7_init rfl rfl ?_
  refine V.gf omX7_init rfl rfl rfl rfl ?_
  refine V.s omX7_init rfl rfl ?_
  refine V.new omX7_init rfl (by decide) (by decide) ?_
  refine V.s omX7_init rfl rfl ?_
  refine V.cI omX7_init omX4_init (c_X4_init (h := [.inr (5, [.ref 1, .ref 6, .null, .null, .null, .null, .null, .null, .null, .int 0, .int 0, .int 0]), c1, c2, c3, c4, c5, .inl (6, .inr (.inr (.inr (.inr g)))), c7, c8, c9, c10, c11, c12]) d) rfl rfl rfl rfl rfl rfl rfl (by decide) (by decide) (fun r h' hQ => ?_)
  obtain ⟨rfl, rfl⟩ := hQ
  show V mX7_init (d + 1) 32 2140 _ 14 223 _ _ _ [.inr (5, [.ref 1, .ref 6, .null, .null, .null, .null, .null, .null, .null, .int 0, .int 0, .int 0]), c1, c2, c3, c4, c5, .inl (6, .inr (.inr (.inr (.inr g)))), c7, c8, c9, c10, c11, c12, .inr (2, [.ref 14, .int 0]), .inl (16, .inl (fun _ => 0))]
  refine V.aas ([.inr (5, [.ref 1, .ref 6, .null, .null, .null, .null, .null, .null, .null, .int 0, .int 0, .int 0]), c1, c2, c3, c4, c5, .inl (6, .inr (.inr (.inr (.inr (va_up g 3 (some 13)))))), c7, c8, c9, c10, c11, c12, .inr (2, [.ref 14, .int 0]), .inl (16, .inl (fun _ => 0))]) omX7_init rfl rfl rfl (ixN (nv_nI (a := 3)) (by decide) (by decide)) rfl ?_
  iterate 2 (refine V.s omX7_init rfl rfl ?_)
  exact kk
set_option maxHeartbeats 4000000 in
set_option maxRecDepth 100000 in
theorem ini_6 (d : Nat) {c1 c2 c3 c4 c5 c7 c8 c9 c10 c11 c12 c13 c14 : ac_T} {g : Nat → Option Nat} {Q : Option Value → hp_T → Prop} (kk : V mX7_init (d + 1) 32 2140 Q 16 241 26 [some (.ref 0), some (.int 5)] [] [.inr (5, [.ref 1, .ref 6, .null, .null, .null, .null, .null, .null, .null, .int 0, .int 0, .int 0]), c1, c2, c3, c4, c5, .inl (6, .inr (.inr (.inr (.inr (va_up g 4 (some 15)))))), c7, c8, c9, c10, c11, c12, c13, c14, .inr (2, [.ref 16, .int 0]), .inl (16, .inl (fun _ => 0))]) : V mX7_init (d + 1) 32 2140 Q 14 223 26 [some (.ref 0), some (.int 4)] [] [.inr (5, [.ref 1, .ref 6, .null, .null, .null, .null, .null, .null, .null, .int 0, .int 0, .int 0]), c1, c2, c3, c4, c5, .inl (6, .inr (.inr (.inr (.inr g)))), c7, c8, c9, c10, c11, c12, c13, c14] := by
  iterate 2 (refine V.s omX7_init rfl rfl ?_)
  refine V.brF omX7_init rfl rfl (by decide) ?_
  refine V.s omX7_init rfl rfl ?_
  refine V.gf omX7_init rfl rfl rfl rfl ?_
  refine V.s omX7_init rfl rfl ?_
  refine V.new omX7_init rfl (by decide) (by decide) ?_
  refine V.s omX7_init rfl rfl ?_
  refine V.cI omX7_init omX4_init (c_X4_init (h := [.inr (5, [.ref 1, .ref 6, .null, .null, .null, .null, .null, .null, .null, .int 0, .int 0, .int 0]), c1, c2, c3, c4, c5, .inl (6, .inr (.inr (.inr (.inr g)))), c7, c8, c9, c10, c11, c12, c13, c14]) d) rfl rfl rfl rfl rfl rfl rfl (by decide) (by decide) (fun r h' hQ => ?_)
  obtain ⟨rfl, rfl⟩ := hQ
  show V mX7_init (d + 1) 32 2140 _ 16 241 _ _ _ [.inr (5, [.ref 1, .ref 6, .null, .null, .null, .null, .null, .null, .null, .int 0, .int 0, .int 0]), c1, c2, c3, c4, c5, .inl (6, .inr (.inr (.inr (.inr g)))), c7, c8, c9, c10, c11, c12, c13, c14, .inr (2, [.ref 16, .int 0]), .inl (16, .inl (fun _ => 0))]
  refine V.aas ([.inr (5, [.ref 1, .ref 6, .null, .null, .null, .null, .null, .null, .null, .int 0, .int 0, .int 0]), c1, c2, c3, c4, c5, .inl (6, .inr (.inr (.inr (.inr (va_up g 4 (some 15)))))), c7, c8, c9, c10, c11, c12, c13, c14, .inr (2, [.ref 16, .int 0]), .inl (16, .inl (fun _ => 0))]) omX7_init rfl rfl rfl (ixN (nv_nI (a := 4)) (by decide) (by decide)) rfl ?_
  iterate 2 (refine V.s omX7_init rfl rfl ?_)
  exact kk
set_option maxHeartbeats 4000000 in
set_option maxRecDepth 100000 in
theorem ini_7 (d : Nat) {c1 c2 c3 c4 c5 c7 c8 c9 c10 c11 c12 c13 c14 c15 c16 : ac_T} {g : Nat → Option Nat} {Q : Option Value → hp_T → Prop} (kk : V mX7_init (d + 1) 32 2140 Q 18 259 26 [some (.ref 0), some (.int 6)] [] [.inr (5, [.ref 1, .ref 6, .null, .null, .null, .null, .null, .null, .null, .int 0, .int 0, .int 0]), c1, c2, c3, c4, c5, .inl (6, .inr (.inr (.inr (.inr (va_up g 5 (some 17)))))), c7, c8, c9, c10, c11, c12, c13, c14, c15, c16, .inr (2, [.ref 18, .int 0]), .inl (16, .inl (fun _ => 0))]) : V mX7_init (d + 1) 32 2140 Q 16 241 26 [some (.ref 0), some (.int 5)] [] [.inr (5, [.ref 1, .ref 6, .null, .null, .null, .null, .null, .null, .null, .int 0, .int 0, .int 0]), c1, c2, c3, c4, c5, .inl (6, .inr (.inr (.inr (.inr g)))), c7, c8, c9, c10, c11, c12, c13, c14, c15, c16] := by
  iterate 2 (refine V.s omX7_init rfl rfl ?_)
  refine V.brF omX7_init rfl rfl (by decide) ?_
  refine V.s omX7_init rfl rfl ?_
  refine V.gf omX7_init rfl rfl rfl rfl ?_
  refine V.s omX7_init rfl rfl ?_
  refine V.new omX7_init rfl (by decide) (by decide) ?_
  refine V.s omX7_init rfl rfl ?_
  refine V.cI omX7_init omX4_init (c_X4_init (h := [.inr (5, [.ref 1, .ref 6, .null, .null, .null, .null, .null, .null, .null, .int 0, .int 0, .int 0]), c1, c2, c3, c4, c5, .inl (6, .inr (.inr (.inr (.inr g)))), c7, c8, c9, c10, c11, c12, c13, c14, c15, c16]) d) rfl rfl rfl rfl rfl rfl rfl (by decide) (by decide) (fun r h' hQ => ?_)
  obtain ⟨rfl, rfl⟩ := hQ
  show V mX7_init (d + 1) 32 2140 _ 18 259 _ _ _ [.inr (5, [.ref 1, .ref 6, .null, .null, .null, .null, .null, .null, .null, .int 0, .int 0, .int 0]), c1, c2, c3, c4, c5, .inl (6, .inr (.inr (.inr (.inr g)))), c7, c8, c9, c10, c11, c12, c13, c14, c15, c16, .inr (2, [.ref 18, .int 0]), .inl (16, .inl (fun _ => 0))]
  refine V.aas ([.inr (5, [.ref 1, .ref 6, .null, .null, .null, .null, .null, .null, .null, .int 0, .int 0, .int 0]), c1, c2, c3, c4, c5, .inl (6, .inr (.inr (.inr (.inr (va_up g 5 (some 17)))))), c7, c8, c9, c10, c11, c12, c13, c14, c15, c16, .inr (2, [.ref 18, .int 0]), .inl (16, .inl (fun _ => 0))]) omX7_init rfl rfl rfl (ixN (nv_nI (a := 5)) (by decide) (by decide)) rfl ?_
  iterate 2 (refine V.s omX7_init rfl rfl ?_)
  exact kk
set_option maxHeartbeats 4000000 in
set_option maxRecDepth 100000 in
theorem ini_8 (d : Nat) {c1 c2 c3 c4 c5 c6 c7 c8 c9 c10 c11 c12 c13 c14 c15 c16 c17 c18 : ac_T} {v1 : Option Value} {Q : Option Value → hp_T → Prop} (kk : V mX7_init (d + 1) 32 2140 Q 20 277 62 [some (.ref 0), v1] [] [.inr (5, [.ref 1, .ref 6, .ref 19, .null, .null, .null, .null, .null, .null, .int 0, .int 0, .int 0]), c1, c2, c3, c4, c5, c6, c7, c8, c9, c10, c11, c12, c13, c14, c15, c16, c17, c18, .inr (2, [.ref 20, .int 0]), .inl (16, .inl (fun _ => 0))]) : V mX7_init (d + 1) 32 2140 Q 18 259 51 [some (.ref 0), v1] [] [.inr (5, [.ref 1, .ref 6, .null, .null, .null, .null, .null, .null, .null, .int 0, .int 0, .int 0]), c1, c2, c3, c4, c5, c6, c7, c8, c9, c10, c11, c12, c13, c14, c15, c16, c17, c18] := by
  refine V.s omX7_init rfl rfl ?_
  refine V.new omX7_init rfl (by decide) (by decide) ?_
  refine V.s omX7_init rfl rfl ?_
  refine V.cI omX7_init omX4_init (c_X4_init (h := [.inr (5, [.ref 1, .ref 6, .null, .null, .null, .null, .null, .null, .null, .int 0, .int 0, .int 0]), c1, c2, c3, c4, c5, c6, c7, c8, c9, c10, c11, c12, c13, c14, c15, c16, c17, c18]) d) rfl rfl rfl rfl rfl rfl rfl (by decide) (by decide) (fun r h' hQ => ?_)
  obtain ⟨rfl, rfl⟩ := hQ
  show V mX7_init (d + 1) 32 2140 _ 20 277 _ _ _ [.inr (5, [.ref 1, .ref 6, .null, .null, .null, .null, .null, .null, .null, .int 0, .int 0, .int 0]), c1, c2, c3, c4, c5, c6, c7, c8, c9, c10, c11, c12, c13, c14, c15, c16, c17, c18, .inr (2, [.ref 20, .int 0]), .inl (16, .inl (fun _ => 0))]
  refine V.pfF ([.inr (5, [.ref 1, .ref 6, .ref 19, .null, .null, .null, .null, .null, .null, .int 0, .int 0, .int 0]), c1, c2, c3, c4, c5, c6, c7, c8, c9, c10, c11, c12, c13, c14, c15, c16, c17, c18, .inr (2, [.ref 20, .int 0]), .inl (16, .inl (fun _ => 0))]) omX7_init rfl rfl rfl rfl rfl rfl rfl rfl (show (2 : Nat) < 12 by decide) rfl ?_
  exact kk
set_option maxHeartbeats 4000000 in
set_option maxRecDepth 100000 in
theorem ini_9 (d : Nat) {c1 c2 c3 c4 c5 c6 c7 c8 c9 c10 c11 c12 c13 c14 c15 c16 c17 c18 c19 c20 : ac_T} {v1 : Option Value} {Q : Option Value → hp_T → Prop} (kk : V mX7_init (d + 1) 32 2140 Q 22 295 73 [some (.ref 0), v1] [] [.inr (5, [.ref 1, .ref 6, .ref 19, .ref 21, .null, .null, .null, .null, .null, .int 0, .int 0, .int 0]), c1, c2, c3, c4, c5, c6, c7, c8, c9, c10, c11, c12, c13, c14, c15, c16, c17, c18, c19, c20, .inr (2, [.ref 22, .int 0]), .inl (16, .inl (fun _ => 0))]) : V mX7_init (d + 1) 32 2140 Q 20 277 62 [some (.ref 0), v1] [] [.inr (5, [.ref 1, .ref 6, .ref 19, .null, .null, .null, .null, .null, .null, .int 0, .int 0, .int 0]), c1, c2, c3, c4, c5, c6, c7, c8, c9, c10, c11, c12, c13, c14, c15, c16, c17, c18, c19, c20] := by
  refine V.s omX7_init rfl rfl ?_
  refine V.new omX7_init rfl (by decide) (by decide) ?_
  refine V.s omX7_init rfl rfl ?_
  refine V.cI omX7_init omX4_init (c_X4_init (h := [.inr (5, [.ref 1, .ref 6, .ref 19, .null, .null, .null, .null, .null, .null, .int 0, .int 0, .int 0]), c1, c2, c3, c4, c5, c6, c7, c8, c9, c10, c11, c12, c13, c14, c15, c16, c17, c18, c19, c20]) d) rfl rfl rfl rfl rfl rfl rfl (by decide) (by decide) (fun r h' hQ => ?_)
  obtain ⟨rfl, rfl⟩ := hQ
  show V mX7_init (d + 1) 32 2140 _ 22 295 _ _ _ [.inr (5, [.ref 1, .ref 6, .ref 19, .null, .null, .null, .null, .null, .null, .int 0, .int 0, .int 0]), c1, c2, c3, c4, c5, c6, c7, c8, c9, c10, c11, c12, c13, c14, c15, c16, c17, c18, c19, c20, .inr (2, [.ref 22, .int 0]), .inl (16, .inl (fun _ => 0))]
  refine V.pfF ([.inr (5, [.ref 1, .ref 6, .ref 19, .ref 21, .null, .null, .null, .null, .null, .int 0, .int 0, .int 0]), c1, c2, c3, c4, c5, c6, c7, c8, c9, c10, c11, c12, c13, c14, c15, c16, c17, c18, c19, c20, .inr (2, [.ref 22, .int 0]), .inl (16, .inl (fun _ => 0))]) omX7_init rfl rfl rfl rfl rfl rfl rfl rfl (show (3 : Nat) < 12 by decide) rfl ?_
  exact kk
set_option maxHeartbeats 4000000 in
set_option maxRecDepth 100000 in
theorem ini_10 (d : Nat) {c1 c2 c3 c4 c5 c6 c7 c8 c9 c10 c11 c12 c13 c14 c15 c16 c17 c18 c19 c20 c21 c22 : ac_T} {v1 : Option Value} {Q : Option Value → hp_T → Prop} (kk : V mX7_init (d + 1) 32 2140 Q 24 309 84 [some (.ref 0), v1] [] [.inr (5, [.ref 1, .ref 6, .ref 19, .ref 21, .ref 23, .null, .null, .null, .null, .int 0, .int 0, .int 0]), c1, c2, c3, c4, c5, c6, c7, c8, c9, c10, c11, c12, c13, c14, c15, c16, c17, c18, c19, c20, c21, c22, .inr (1, [.ref 24, .int 0, .int 0, .int 0, .int 0, .int 0, .int 0, .long 0, .int 0, .int 0]), .inl (4, .inl (fun _ => 0))]) : V mX7_init (d + 1) 32 2140 Q 22 295 73 [some (.ref 0), v1] [] [.inr (5, [.ref 1, .ref 6, .ref 19, .ref 21, .null, .null, .null, .null, .null, .int 0, .int 0, .int 0]), c1, c2, c3, c4, c5, c6, c7, c8, c9, c10, c11, c12, c13, c14, c15, c16, c17, c18, c19, c20, c21, c22] := by
  refine V.s omX7_init rfl rfl ?_
  refine V.new omX7_init rfl (by decide) (by decide) ?_
  refine V.s omX7_init rfl rfl ?_
  refine V.cI omX7_init omX3_init (c_X3_init (h := [.inr (5, [.ref 1, .ref 6, .ref 19, .ref 21, .null, .null, .null, .null, .null, .int 0, .int 0, .int 0]), c1, c2, c3, c4, c5, c6, c7, c8, c9, c10, c11, c12, c13, c14, c15, c16, c17, c18, c19, c20, c21, c22]) d) rfl rfl rfl rfl rfl rfl rfl (by decide) (by decide) (fun r h' hQ => ?_)
  obtain ⟨rfl, rfl⟩ := hQ
  show V mX7_init (d + 1) 32 2140 _ 24 309 _ _ _ [.inr (5, [.ref 1, .ref 6, .ref 19, .ref 21, .null, .null, .null, .null, .null, .int 0, .int 0, .int 0]), c1, c2, c3, c4, c5, c6, c7, c8, c9, c10, c11, c12, c13, c14, c15, c16, c17, c18, c19, c20, c21, c22, .inr (1, [.ref 24, .int 0, .int 0, .int 0, .int 0, .int 0, .int 0, .long 0, .int 0, .int 0]), .inl (4, .inl (fun _ => 0))]
  refine V.pfF ([.inr (5, [.ref 1, .ref 6, .ref 19, .ref 21, .ref 23, .null, .null, .null, .null, .int 0, .int 0, .int 0]), c1, c2, c3, c4, c5, c6, c7, c8, c9, c10, c11, c12, c13, c14, c15, c16, c17, c18, c19, c20, c21, c22, .inr (1, [.ref 24, .int 0, .int 0, .int 0, .int 0, .int 0, .int 0, .long 0, .int 0, .int 0]), .inl (4, .inl (fun _ => 0))]) omX7_init rfl rfl rfl rfl rfl rfl rfl rfl (show (4 : Nat) < 12 by decide) rfl ?_
  exact kk
set_option maxHeartbeats 4000000 in
set_option maxRecDepth 100000 in
theorem ini_11 (d : Nat) {c1 c2 c3 c4 c5 c6 c7 c8 c9 c10 c11 c12 c13 c14 c15 c16 c17 c18 c19 c20 c21 c22 c23 c24 : ac_T} {v1 : Option Value} {Q : Option Value → hp_T → Prop} (kk : V mX7_init (d + 1) 32 2140 Q 26 591 95 [some (.ref 0), v1] [] [.inr (5, [.ref 1, .ref 6, .ref 19, .ref 21, .ref 23, .ref 25, .null, .null, .null, .int 0, .int 0, .int 0]), c1, c2, c3, c4, c5, c6, c7, c8, c9, c10, c11, c12, c13, c14, c15, c16, c17, c18, c19, c20, c21, c22, c23, c24, .inr (0, [.ref 26, .int 0, .int 0]), .inl (279, .inl (fun _ => 0))]) : V mX7_init (d + 1) 32 2140 Q 24 309 84 [some (.ref 0), v1] [] [.inr (5, [.ref 1, .ref 6, .ref 19, .ref 21, .ref 23, .null, .null, .null, .null, .int 0, .int 0, .int 0]), c1, c2, c3, c4, c5, c6, c7, c8, c9, c10, c11, c12, c13, c14, c15, c16, c17, c18, c19, c20, c21, c22, c23, c24] := by
  refine V.s omX7_init rfl rfl ?_
  refine V.new omX7_init rfl (by decide) (by decide) ?_
  refine V.s omX7_init rfl rfl ?_
  refine V.cI omX7_init omX0_init (c_X0_init (h := [.inr (5, [.ref 1, .ref 6, .ref 19, .ref 21, .ref 23, .null, .null, .null, .null, .int 0, .int 0, .int 0]), c1, c2, c3, c4, c5, c6, c7, c8, c9, c10, c11, c12, c13, c14, c15, c16, c17, c18, c19, c20, c21, c22, c23, c24]) d) rfl rfl rfl rfl rfl rfl rfl (by decide) (by decide) (fun r h' hQ => ?_)
  obtain ⟨rfl, rfl⟩ := hQ
  show V mX7_init (d + 1) 32 2140 _ 26 591 _ _ _ [.inr (5, [.ref 1, .ref 6, .ref 19, .ref 21, .ref 23, .null, .null, .null, .null, .int 0, .int 0, .int 0]), c1, c2, c3, c4, c5, c6, c7, c8, c9, c10, c11, c12, c13, c14, c15, c16, c17, c18, c19, c20, c21, c22, c23, c24, .inr (0, [.ref 26, .int 0, .int 0]), .inl (279, .inl (fun _ => 0))]
  refine V.pfF ([.inr (5, [.ref 1, .ref 6, .ref 19, .ref 21, .ref 23, .ref 25, .null, .null, .null, .int 0, .int 0, .int 0]), c1, c2, c3, c4, c5, c6, c7, c8, c9, c10, c11, c12, c13, c14, c15, c16, c17, c18, c19, c20, c21, c22, c23, c24, .inr (0, [.ref 26, .int 0, .int 0]), .inl (279, .inl (fun _ => 0))]) omX7_init rfl rfl rfl rfl rfl rfl rfl rfl (show (5 : Nat) < 12 by decide) rfl ?_
  exact kk
set_option maxHeartbeats 4000000 in
set_option maxRecDepth 100000 in
theorem ini_12 (d : Nat) {c1 c2 c3 c4 c5 c6 c7 c8 c9 c10 c11 c12 c13 c14 c15 c16 c17 c18 c19 c20 c21 c22 c23 c24 c25 c26 : ac_T} {v1 : Option Value} {Q : Option Value → hp_T → Prop} (kk : V mX7_init (d + 1) 32 2140 Q 30 2115 106 [some (.ref 0), v1] [] [.inr (5, [.ref 1, .ref 6, .ref 19, .ref 21, .ref 23, .ref 25, .ref 27, .null, .null, .int 0, .int 0, .int 0]), c1, c2, c3, c4, c5, c6, c7, c8, c9, c10, c11, c12, c13, c14, c15, c16, c17, c18, c19, c20, c21, c22, c23, c24, c25, c26, .inr (4, [.ref 28, .ref 29, .ref 30, .int 0, .int (-1)]), .inl (961, .inl (fun _ => 0)), .inl (279, .inl (fun _ => 0)), .inl (279, .inl (fun _ => 0))]) : V mX7_init (d + 1) 32 2140 Q 26 591 95 [some (.ref 0), v1] [] [.inr (5, [.ref 1, .ref 6, .ref 19, .ref 21, .ref 23, .ref 25, .null, .null, .null, .int 0, .int 0, .int 0]), c1, c2, c3, c4, c5, c6, c7, c8, c9, c10, c11, c12, c13, c14, c15, c16, c17, c18, c19, c20, c21, c22, c23, c24, c25, c26] := by
  refine V.s omX7_init rfl rfl ?_
  refine V.new omX7_init rfl (by decide) (by decide) ?_
  refine V.s omX7_init rfl rfl ?_
  refine V.cI omX7_init omX6_init (c_X6_init (h := [.inr (5, [.ref 1, .ref 6, .ref 19, .ref 21, .ref 23, .ref 25, .null, .null, .null, .int 0, .int 0, .int 0]), c1, c2, c3, c4, c5, c6, c7, c8, c9, c10, c11, c12, c13, c14, c15, c16, c17, c18, c19, c20, c21, c22, c23, c24, c25, c26]) d) rfl rfl rfl rfl rfl rfl rfl (by decide) (by decide) (fun r h' hQ => ?_)
  obtain ⟨rfl, rfl⟩ := hQ
  show V mX7_init (d + 1) 32 2140 _ 30 2115 _ _ _ [.inr (5, [.ref 1, .ref 6, .ref 19, .ref 21, .ref 23, .ref 25, .null, .null, .null, .int 0, .int 0, .int 0]), c1, c2, c3, c4, c5, c6, c7, c8, c9, c10, c11, c12, c13, c14, c15, c16, c17, c18, c19, c20, c21, c22, c23, c24, c25, c26, .inr (4, [.ref 28, .ref 29, .ref 30, .int 0, .int (-1)]), .inl (961, .inl (fun _ => 0)), .inl (279, .inl (fun _ => 0)), .inl (279, .inl (fun _ => 0))]
  refine V.pfF ([.inr (5, [.ref 1, .ref 6, .ref 19, .ref 21, .ref 23, .ref 25, .ref 27, .null, .null, .int 0, .int 0, .int 0]), c1, c2, c3, c4, c5, c6, c7, c8, c9, c10, c11, c12, c13, c14, c15, c16, c17, c18, c19, c20, c21, c22, c23, c24, c25, c26, .inr (4, [.ref 28, .ref 29, .ref 30, .int 0, .int (-1)]), .inl (961, .inl (fun _ => 0)), .inl (279, .inl (fun _ => 0)), .inl (279, .inl (fun _ => 0))]) omX7_init rfl rfl rfl rfl rfl rfl rfl rfl (show (6 : Nat) < 12 by decide) rfl ?_
  exact kk
set_option maxHeartbeats 4000000 in
set_option maxRecDepth 100000 in
theorem ini_13 (d : Nat) {c1 c2 c3 c4 c5 c6 c7 c8 c9 c10 c11 c12 c13 c14 c15 c16 c17 c18 c19 c20 c21 c22 c23 c24 c25 c26 c27 c28 c29 c30 : ac_T} {v1 : Option Value} {Q : Option Value → hp_T → Prop} (kk : V mX7_init (d + 1) 32 2140 Q 31 2131 114 [some (.ref 0), v1] [] [.inr (5, [.ref 1, .ref 6, .ref 19, .ref 21, .ref 23, .ref 25, .ref 27, .ref 31, .null, .int 0, .int 0, .int 0]), c1, c2, c3, c4, c5, c6, c7, c8, c9, c10, c11, c12, c13, c14, c15, c16, c17, c18, c19, c20, c21, c22, c23, c24, c25, c26, c27, c28, c29, c30, .inl (16, .inl (fun _ => 0))]) : V mX7_init (d + 1) 32 2140 Q 30 2115 106 [some (.ref 0), v1] [] [.inr (5, [.ref 1, .ref 6, .ref 19, .ref 21, .ref 23, .ref 25, .ref 27, .null, .null, .int 0, .int 0, .int 0]), c1, c2, c3, c4, c5, c6, c7, c8, c9, c10, c11, c12, c13, c14, c15, c16, c17, c18, c19, c20, c21, c22, c23, c24, c25, c26, c27, c28, c29, c30] := by
  iterate 2 (refine V.s omX7_init rfl rfl ?_)
  refine V.newI (N := 16) omX7_init rfl (by decide) (by decide) (by decide) (by decide) (by decide) ?_
  refine V.pfF ([.inr (5, [.ref 1, .ref 6, .ref 19, .ref 21, .ref 23, .ref 25, .ref 27, .ref 31, .null, .int 0, .int 0, .int 0]), c1, c2, c3, c4, c5, c6, c7, c8, c9, c10, c11, c12, c13, c14, c15, c16, c17, c18, c19, c20, c21, c22, c23, c24, c25, c26, c27, c28, c29, c30, .inl (16, .inl (fun _ => 0))]) omX7_init rfl rfl rfl rfl rfl rfl rfl rfl (show (7 : Nat) < 12 by decide) rfl ?_
  exact kk
set_option maxHeartbeats 4000000 in
set_option maxRecDepth 100000 in
theorem ini_14 (d : Nat) {c1 c2 c3 c4 c5 c6 c7 c8 c9 c10 c11 c12 c13 c14 c15 c16 c17 c18 c19 c20 c21 c22 c23 c24 c25 c26 c27 c28 c29 c30 c31 : ac_T} {v1 : Option Value} {Q : Option Value → hp_T → Prop} (kk : V mX7_init (d + 1) 32 2140 Q 32 2140 122 [some (.ref 0), v1] [] [.inr (5, [.ref 1, .ref 6, .ref 19, .ref 21, .ref 23, .ref 25, .ref 27, .ref 31, .ref 32, .int 0, .int 0, .int 0]), c1, c2, c3, c4, c5, c6, c7, c8, c9, c10, c11, c12, c13, c14, c15, c16, c17, c18, c19, c20, c21, c22, c23, c24, c25, c26, c27, c28, c29, c30, c31, .inl (9, .inl (fun _ => 0))]) : V mX7_init (d + 1) 32 2140 Q 31 2131 114 [some (.ref 0), v1] [] [.inr (5, [.ref 1, .ref 6, .ref 19, .ref 21, .ref 23, .ref 25, .ref 27, .ref 31, .null, .int 0, .int 0, .int 0]), c1, c2, c3, c4, c5, c6, c7, c8, c9, c10, c11, c12, c13, c14, c15, c16, c17, c18, c19, c20, c21, c22, c23, c24, c25, c26, c27, c28, c29, c30, c31] := by
  iterate 2 (refine V.s omX7_init rfl rfl ?_)
  refine V.newI (N := 9) omX7_init rfl (by decide) (by decide) (by decide) (by decide) (by decide) ?_
  refine V.pfF ([.inr (5, [.ref 1, .ref 6, .ref 19, .ref 21, .ref 23, .ref 25, .ref 27, .ref 31, .ref 32, .int 0, .int 0, .int 0]), c1, c2, c3, c4, c5, c6, c7, c8, c9, c10, c11, c12, c13, c14, c15, c16, c17, c18, c19, c20, c21, c22, c23, c24, c25, c26, c27, c28, c29, c30, c31, .inl (9, .inl (fun _ => 0))]) omX7_init rfl rfl rfl rfl rfl rfl rfl rfl (show (8 : Nat) < 12 by decide) rfl ?_
  exact kk
def h33 : hp_T := [.inr (5, [.ref 1, .ref 6, .ref 19, .ref 21, .ref 23, .ref 25, .ref 27, .ref 31, .ref 32, .int 0, .int 0, .int 0]), .inr (3, [.ref 2, .ref 3, .ref 4, .ref 5, .int 0]), .inl (80, .inl (fun _ => 0)), .inl (20, .inl (fun _ => 0)), .inl (20, .inl (fun _ => 0)), .inl (20, .inl (fun _ => 0)), .inl (6, .inr (.inr (.inr (.inr (va_up (va_up (va_up (va_up (va_up (va_up (fun _ => none) 0 (some 7)) 1 (some 9)) 2 (some 11)) 3 (some 13)) 4 (some 15)) 5 (some 17)))))), .inr (2, [.ref 8, .int 0]), .inl (16, .inl (fun _ => 0)), .inr (2, [.ref 10, .int 0]), .inl (16, .inl (fun _ => 0)), .inr (2, [.ref 12, .int 0]), .inl (16, .inl (fun _ => 0)), .inr (2, [.ref 14, .int 0]), .inl (16, .inl (fun _ => 0)), .inr (2, [.ref 16, .int 0]), .inl (16, .inl (fun _ => 0)), .inr (2, [.ref 18, .int 0]), .inl (16, .inl (fun _ => 0)), .inr (2, [.ref 20, .int 0]), .inl (16, .inl (fun _ => 0)), .inr (2, [.ref 22, .int 0]), .inl (16, .inl (fun _ => 0)), .inr (1, [.ref 24, .int 0, .int 0, .int 0, .int 0, .int 0, .int 0, .long 0, .int 0, .int 0]), .inl (4, .inl (fun _ => 0)), .inr (0, [.ref 26, .int 0, .int 0]), .inl (279, .inl (fun _ => 0)), .inr (4, [.ref 28, .ref 29, .ref 30, .int 0, .int (-1)]), .inl (961, .inl (fun _ => 0)), .inl (279, .inl (fun _ => 0)), .inl (279, .inl (fun _ => 0)), .inl (16, .inl (fun _ => 0)), .inl (9, .inl (fun _ => 0))]
set_option maxHeartbeats 4000000 in
set_option maxRecDepth 100000 in
theorem c_X7_init (d : Nat) : C mX7_init (d + 1) 32 2140 [.ref 0] [.inr (5, dfL 5)] (fun r h' => h' = h33 ∧ r = none) := by
  refine C.of [some (.ref 0), none] omX7_init rfl rfl rfl ?_
  refine V.s omX7_init rfl rfl ?_
  refine V.oi omX7_init rfl rfl rfl ?_
  refine ini_1 d ?_
  iterate 2 (refine V.s omX7_init rfl rfl ?_)
  refine V.anew (N := 6) omX7_init rfl (by decide) (by decide) (by decide) (by decide) (by decide) ?_
  refine V.pfF ([.inr (5, [.ref 1, .ref 6, .null, .null, .null, .null, .null, .null, .null, .int 0, .int 0, .int 0]), .inr (3, [.ref 2, .ref 3, .ref 4, .ref 5, .int 0]), .inl (80, .inl (fun _ => 0)), .inl (20, .inl (fun _ => 0)), .inl (20, .inl (fun _ => 0)), .inl (20, .inl (fun _ => 0)), .inl (6, .inr (.inr (.inr (.inr (fun _ => none)))))]) omX7_init rfl rfl rfl rfl rfl rfl rfl rfl (show (1 : Nat) < 12 by decide) rfl ?_
  iterate 2 (refine V.s omX7_init rfl rfl ?_)
  refine ini_2 d ?_
  refine ini_3 d ?_
  refine ini_4 d ?_
  refine ini_5 d ?_
  refine ini_6 d ?_
  refine ini_7 d ?_
  iterate 2 (refine V.s omX7_init rfl rfl ?_)
  refine V.brT omX7_init rfl rfl (by decide) (by decide) ?_
  refine ini_8 d ?_
  refine ini_9 d ?_
  refine ini_10 d ?_
  refine ini_11 d ?_
  refine ini_12 d ?_
  refine ini_13 d ?_
  refine ini_14 d ?_
  exact V.vret omX7_init rfl rfl ⟨rfl, rfl⟩
def A0 : Nat → Nat → Int32 := va_up (va_up (fun _ _ => 0) 27 (upd (fun _ => 0) 4 (-1))) 33 (upd (fun _ => 0) 25 (-1))
def B0 : Nat → Nat → Int64 := fun _ _ => 0
set_option maxHeartbeats 4000000 in
set_option maxRecDepth 100000 in
theorem c_X8_start (d : Nat) : C mX8_init d 17 1621 [.ref 33] (h33 ++ [.inr (6, dfL 6)]) (fun r h' => h' = hp A0 B0 ∧ r = none) := by
  have h1 := c_X8_init (h := h33) d
  exact h1
end INI
