section PACKD
variable {A A1 A2 : Nat → Nat → Int32} {B : Nat → Nat → Int64}
theorem ans_n {w : Int32} {b' : Nat → Int64} {F8 T F7 q L : Nat → Int32} {G8 G7 : Nat → Int64} (h3 : F7 3 = w) (h : nd (bd8 b') []) (hL : ∀ i, i < 4 → (L (4 * i)).toInt = bd8 b' i) : (gS 300 0 w 40 b' F8 G8 T).1 20 = (S7 300 (-1) L F7 G7 q).1 8 ∧ ((S7 300 (-1) L F7 G7 q).1 8 = 0 ∨ (gS 300 0 w 40 b' F8 G8 T).1 16 = (S7 300 (-1) L F7 G7 q).1 9) := by
  have e300 : (300 : Int32).toInt64 = 300 := rfl
  have hu : (300 : Int64).toInt ≤ 300 := by decide
  unfold gS S7
  rw [vs_vis (up := 300) (by decide) h hL, e300, filt_all hu h]
  have key := fold_rel (ex := 0) (ab := w) (fun S8 S7 => S7.1 3 = w ∧ S8.1 20 = S7.1 8 ∧ (S7.1 8 = 0 ∨ S8.1 16 = S7.1 9)) (vis 300 40 b') (fun S8 S7 x hx hh => by
    obtain ⟨a1, a2, a3⟩ := hh
    have hf := (vis_fit hu h x hx).1
    have e := fit_b hf
    have c := cnF_20 (F := S8.1) (v := x.1) (ex := 0) (ab := w)
    have d := ntF_8 (F := S7.1) (v := x.1.toInt32)
    have hiff : (w.toInt64 < x.1 ∧ (S8.1 20 = 0 ∨ x.1 < (S8.1 16).toInt64)) ↔ (S7.1 3 < x.1.toInt32 ∧ (S7.1 8 = 0 ∨ x.1.toInt32 < S7.1 9)) := by
      rw [a1, a2, ← e, Int32.toInt64_lt, Int32.toInt32_toInt64]
      by_cases z : S7.1 8 = 0
      · exact ⟨fun g => ⟨g.1, Or.inl z⟩, fun g => ⟨g.1, Or.inl z⟩⟩
      · have a3' := a3.resolve_left z
        rw [a3', Int32.toInt64_lt]
    refine ⟨?_, ?_, ?_⟩
    · show ntF S7.1 x.1.toInt32 3 = w
      rw [ntF_ne (by decide) (by decide) (by decide) (by decide) (by decide)]
      exact a1
    · show cnF S8.1 x.1 0 w 20 = ntF S7.1 x.1.toInt32 8
      rw [c.1, d.1]
      by_cases g : S7.1 3 < x.1.toInt32 ∧ (S7.1 8 = 0 ∨ x.1.toInt32 < S7.1 9)
      · rw [if_pos g, if_pos (hiff.mpr g)]
      · rw [if_neg g, if_neg (fun q => g (hiff.mp q)), a2]
    · show ntF S7.1 x.1.toInt32 8 = 0 ∨ cnF S8.1 x.1 0 w 16 = ntF S7.1 x.1.toInt32 9
      rw [c.2, d.1, d.2]
      by_cases g : S7.1 3 < x.1.toInt32 ∧ (S7.1 8 = 0 ∨ x.1.toInt32 < S7.1 9)
      · rw [if_pos g, if_pos (hiff.mpr g), if_pos g]
        exact Or.inr rfl
      · rw [if_neg g, if_neg (fun q => g (hiff.mp q)), if_neg g]
        exact a3) (F08 F8, vp_updL G8 17 0, T08 T) (F07 F7 300 (-1), vp_updL G7 7 0) ⟨h3, rfl, Or.inl rfl⟩
  exact key.2
theorem lt300 {n : Int32} : n < 300 ↔ n ≤ 299 := by
  rw [Int32.lt_iff_toInt_lt, Int32.le_iff_toInt_le, show (300 : Int32).toInt = 300 from rfl, show (299 : Int32).toInt = 299 from rfl]
  omega
theorem wx_wy {m : Nat} {r n : Int32} {b' : Nat → Int64} (hw8 : wn8 A m r = wn A m r) (hs : wn A m r = 0 → negB (wL A r).2.1 = is8 b') : wy8 A m r n (-1000000000) 299 b' = wx A m r n := by
  unfold wy8 wx wp
  rw [hw8]
  by_cases c : wn A m r = 0
  · rw [if_pos c, if_pos c, hs c]
    by_cases c2 : is8 b' = 1
    · rw [if_pos c2, if_pos rfl]
      by_cases c3 : -1000000000 ≤ n ∧ n ≤ 299
      · rw [if_pos ⟨c2, c3⟩, if_pos ⟨c3.1, lt300.mpr c3.2⟩]
      · rw [if_neg (fun g => c3 g.2), if_neg (fun g => c3 ⟨g.1, lt300.mp g.2⟩)]
    · rw [if_neg (fun g => c2 g.1), if_neg c2, if_neg (by decide)]
  · rw [if_neg c, if_neg c, if_neg c]
theorem g_next (r n : Int32) : Good mX7_next mX8_next [.int r, .int n] false := by
  intro A B hA
  obtain ⟨m, hK⟩ := hA.2.1
  have c7 := c7_next (A := A) (B := B) hK.2.1 hK.1 r n
  refine ⟨45, _, by decide, c7, fun r1 h1 q1 => ?_⟩
  obtain ⟨⟨A1, B1, rfl, j1⟩, F, G, q, hF3, rfl⟩ := q1
  obtain ⟨b', p1, p2⟩ := pack_pre hK r (B1 41)
  have hi : ∀ z k, 33 ≤ z → A1 z k = A z k := by
    intro z k hz
    rw [J7_hi j1 hz]
    split
    · rfl
    · exact rf_ne (by omega)
  have e38 : A1 38 = A 38 := funext (fun k => hi 38 k (by decide))
  have ew1 : wn8 A1 m r = wn A m r := by
    rw [← wn_eq hK r]
    unfold wn8
    rw [e38]
  have ew : wy8 A1 m r n (-1000000000) 299 b' = wx A m r n := by
    have := wx_wy (A := A) (m := m) (r := r) (n := n) (b' := b') (wn_eq hK r) (fun g => (p2 g).1)
    rw [← this]
    unfold wy8
    rw [ew1, wn_eq hK r]
  have c8 := c8_next (A := A1) (B := B1) (n := 50000) (nn := 40) 0 ((hi 33 6 (by decide)).trans hK.2.2.1) hK.1 r n b' (fun g => by rw [e38]; exact p1 (ew1.symm.trans g)) (by decide) (fun g => by
    obtain ⟨g1, g2, g3, g4⟩ := wy_in g
    exact wk_ok (by decide) 40 [] b' ((p2 (ew1.symm.trans g1)).2.1 g2) (fun l p q => by cases q) (by decide))
  refine ⟨A1, B1, 3, _, by decide, rfl, c8, fun r2 h2 q2 => ?_⟩
  obtain ⟨⟨A2, B2, rfl, j2⟩, G2, T2, rfl⟩ := q2
  rw [ew] at j2 ⊢
  by_cases hc : wx A m r n = 0
  · have g := ew.trans hc
    obtain ⟨g1, g2, g3, g4⟩ := wy_in g
    have hp := p2 (ew1.symm.trans g1)
    have ha := ans_n (F8 := A1 33) (G8 := G2) (T := T2) (F7 := F) (G7 := G) (q := q) hF3 (hp.2.1 g2) hp.2.2
    rw [if_pos hc] at j1 j2
    refine ⟨A2, B2, rfl, Rel_J8 j2 (Rel_J7 j1 hA), ?_, _, rfl⟩
    rw [if_pos hc, if_pos hc, ha.1]
    by_cases z : (S7 300 (-1) (wL A r).2.1 F G q).1 8 = 0
    · rw [if_pos z, if_pos z]
    · rw [if_neg z, if_neg z, ha.2.resolve_left z]
  · rw [if_neg hc] at j1 j2
    refine ⟨A2, B2, rfl, Rel_J8 j2 (Rel_J7 (J7_rm j1 _) (Rel_rf _ hA)), ?_, _, rfl⟩
    rw [if_neg hc, if_neg hc]
theorem mtL_at (T : Nat → Int32) (l : List Nat) {j : Nat} (hj : j < 4) : mtL T l j = T j + nb l j := by
  rcases (show j = 0 ∨ j = 1 ∨ j = 2 ∨ j = 3 by omega) with rfl | rfl | rfl | rfl <;> rfl
theorem fold_T {ex ab : Int32} {j : Nat} (hj : j < 4) : ∀ (l : List (Int64 × List Nat)), (∀ x, x ∈ l → ∀ a, a ∈ x.2 → a < 4) → ∀ (S8 : St8) (S7 : Sn), S8.2.2 j = S7.1 4 → (l.foldl (vf ex ab) S8).2.2 j = (((l.filter (okb (nI j))).map (fun x => x.1.toInt32)).foldl nv S7).1 4
  | [], _, _, _, h => h
  | x :: l, hx, S8, S7, h => by
    have ih := fold_T (ex := ex) (ab := ab) hj l (fun y hy => hx y (List.mem_cons_of_mem _ hy))
    rw [List.foldl_cons, List.filter_cons]
    have e : (vf ex ab S8 x).2.2 j = S8.2.2 j + nb x.2 j := mtL_at _ _ hj
    by_cases c : j ∈ x.2
    · have hn : ¬ okb (nI j) x = true := fun g => of_decide_eq_true (List.all_eq_true.mp g j c) rfl
      rw [if_neg hn]
      refine ih _ _ ?_
      rw [e]
      unfold nb
      rw [if_pos c, Int32.add_zero]
      exact h
    · have hy : okb (nI j) x = true := List.all_eq_true.mpr (fun a ha => decide_eq_true (fun q => by
        have := (nI_eq (by have := hx x List.mem_cons_self a ha; omega) (by omega)).mp q
        exact c (this ▸ ha)))
      rw [if_pos hy, List.map_cons, List.foldl_cons]
      refine ih _ _ ?_
      rw [e]
      show S8.2.2 j + nb x.2 j = ntF S7.1 x.1.toInt32 4
      unfold nb
      rw [if_neg c, ntF_4, h]
theorem ans_t {w : Int32} {b' : Nat → Int64} {F8 T F7 q L : Nat → Int32} {G8 G7 : Nat → Int64} {j : Nat} (hj : j < 4) (hw : w ≤ 300) (h : nd (bd8 b') []) (hL : ∀ i, i < 4 → (L (4 * i)).toInt = bd8 b' i) : (gS w.toInt64 w 0 40 b' F8 G8 T).2.2 j = (S7 w (nI j) L F7 G7 q).1 4 := by
  unfold gS S7
  rw [vs_vis hw h hL]
  refine fold_T hj _ (fun x hx => (vis_fit (up300 hw) h x hx).2) _ _ ?_
  rcases (show j = 0 ∨ j = 1 ∨ j = 2 ∨ j = 3 by omega) with rfl | rfl | rfl | rfl <;> rfl
theorem g_sum (r n v : Int32) : Good mX7_sum mX8_sum [.int r, .int n, .int v] true := by
  intro A B hA
  obtain ⟨m, hK⟩ := hA.2.1
  have c7 := c7_sum (A := A) (B := B) hK.2.1 hK.1 r n v
  refine ⟨44, _, by decide, c7, fun r1 h1 q1 => ?_⟩
  obtain ⟨⟨A1, B1, rfl, j1⟩, F, G, q, rfl⟩ := q1
  obtain ⟨b', p1, p2⟩ := pack_pre hK r (B1 41)
  have hi : ∀ z k, 33 ≤ z → A1 z k = A z k := by
    intro z k hz
    rw [J7_hi j1 hz]
    split
    · rfl
    · exact rf_ne (by omega)
  have e38 : A1 38 = A 38 := funext (fun k => hi 38 k (by decide))
  have ew1 : wn8 A1 m r = wn A m r := by
    rw [← wn_eq hK r]
    unfold wn8
    rw [e38]
  have ew : wy8 A1 m r n 0 300 b' = wu A m r n := by
    have := wu_wy (A := A) (m := m) (r := r) (n := n) (b' := b') (wn_eq hK r) (fun g => (p2 g).1)
    rw [← this]
    unfold wy8
    rw [ew1, wn_eq hK r]
  have c8 := c8_sum (A := A1) (B := B1) (n := 50000) (nn := 40) 0 ((hi 33 6 (by decide)).trans hK.2.2.1) hK.1 r n v b' (fun g => by rw [e38]; exact p1 (ew1.symm.trans g)) (by decide) (fun g => by
    obtain ⟨g1, g2, g3, g4⟩ := wy_in g
    exact wk_ok (up300 g4) 40 [] b' ((p2 (ew1.symm.trans g1)).2.1 g2) (fun l p q => by cases q) (by decide))
  refine ⟨A1, B1, 3, _, by decide, rfl, c8, fun r2 h2 q2 => ?_⟩
  obtain ⟨⟨A2, B2, rfl, j2⟩, G2, T2, rfl⟩ := q2
  rw [ew] at j2 ⊢
  by_cases hc : wz8 (wu A m r n) v = 0
  · have hu : wu A m r n = 0 := by
      by_cases g : wu A m r n = 0
      · exact g
      · unfold wz8 at hc
        rw [if_neg g] at hc
        exact hc
    have hv : 0 ≤ v ∧ v ≤ 4 := by
      unfold wz8 at hc
      rw [if_pos hu] at hc
      split at hc
      · next g => exact g
      · exact absurd hc (by decide)
    have g := ew.trans hu
    obtain ⟨g1, g2, g3, g4⟩ := wy_in g
    have hp := p2 (ew1.symm.trans g1)
    rw [if_pos hc] at j1 j2
    refine ⟨A2, B2, rfl, Rel_J8 j2 (Rel_J7 j1 hA), ?_, _, rfl⟩
    rw [if_pos hc, if_pos hc]
    by_cases z : v = 0
    · have ha := ans_3 (F8 := A1 33) (G8 := G2) (T := T2) (F7 := F) (G7 := G) (q := q) g4 (hp.2.1 g2) hp.2.2
      rw [if_pos z, if_pos z, ha.2.2.2]
    · obtain ⟨k, hk, e⟩ := nI_of2 (x := v) (M := 4) (n := 4) rfl (Int32.not_lt.mpr hv.1) hv.2
      cases k with
      | zero => exact absurd e z
      | succ k =>
        have ha := ans_t (F8 := A1 33) (G8 := G2) (T := T2) (F7 := F) (G7 := G) (q := q) (j := k) (by omega) g4 (hp.2.1 g2) hp.2.2
        rw [if_neg z, if_neg z, e, nI_clamp (by omega), nI_pred, Nat.add_sub_cancel, ha]
  · rw [if_neg hc] at j1 j2
    refine ⟨A2, B2, rfl, Rel_J8 j2 (Rel_J7 (J7_rm j1 _) (Rel_rf _ hA)), ?_, _, rfl⟩
    rw [if_neg hc, if_neg hc]
end PACKD
