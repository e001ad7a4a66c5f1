section PACKC
variable {A A1 A2 : Nat → Nat → Int32} {B : Nat → Nat → Int64}
theorem Rel_J8 (j : J8 A A1) (h : Rel A) : Rel A1 := Rel_c (fun q k s => j q k (by unfold selR selK selM selW at s; omega)) h
theorem J7_hi (j : J7 A A1) {z k : Nat} (h : 33 ≤ z) : A1 z k = A z k := j z k (by omega)
theorem J7_rm (j : J7 A A1) (c : Nat) : J7 (rmA A c) (rmA A1 c) := by
  intro z k hz
  have e : A1 39 = A 39 := funext (fun k => j 39 k (by decide))
  unfold rmA va_up
  split
  · rw [e]
  · exact j z k hz
/-- what is known of a packing before the walks -/
theorem pack_pre {m : Nat} (hK : RelK A m) (r : Int32) (X : Nat → Int64) : ∃ b', (wn A m r = 0 → ldF 50000 (bq X (A 38) (cl r)) = some b') ∧ (wn A m r = 0 → negB (wL A r).2.1 = is8 b' ∧ (is8 b' = 1 → nd (bd8 b') []) ∧ ∀ i, i < 4 → ((wL A r).2.1 (4 * i)).toInt = bd8 b' i) := by
  by_cases hw : wn A m r = 0
  · obtain ⟨d', k1, k2, k3, k4, k5⟩ := leads_pair hK hw
    obtain ⟨b', k6, k7⟩ := k5 X
    refine ⟨b', fun _ => k6, fun _ => ⟨neg_eq (k4 (A 20)) k7, fun hs => ?_, fun i hi => ?_⟩⟩
    · have hB := BK_ext k1 k7
      have hb : ∀ i, i < 4 → bz (bd8 b' i) := fun i hi => by rw [k7 i hi]; exact k2 i hi
      have hu : ¬ 0 < uz (bd8 b') := by rw [uz_ext k7]; exact k3
      unfold is8 at hs
      split at hs
      · next g =>
        have z0 : (0 : Int64).toInt = 0 := rfl
        rcases g with g | g | g | g
        · exact ⟨NB_root hB hb (i := 0) (by omega) (Int64.lt_iff_toInt_lt.mp g), wz_root hu⟩
        · exact ⟨NB_root hB hb (i := 1) (by omega) (Int64.lt_iff_toInt_lt.mp g), wz_root hu⟩
        · exact ⟨NB_root hB hb (i := 2) (by omega) (Int64.lt_iff_toInt_lt.mp g), wz_root hu⟩
        · exact ⟨NB_root hB hb (i := 3) (by omega) (Int64.lt_iff_toInt_lt.mp g), wz_root hu⟩
      · exact absurd hs (by decide)
    · rw [k7 i hi]
      exact k4 (A 20) i hi
  · exact ⟨X, fun g => absurd g hw, fun g => absurd g hw⟩
theorem wu_wy {m : Nat} {r n : Int32} {b' : Nat → Int64} (hw8 : wn8 A m r = wn A m r) (hs : wn A m r = 0 → negB (wL A r).2.1 = is8 b') : wy8 A m r n 0 300 b' = wu A m r n := by
  unfold wy8 wu wp
  rw [hw8]
  by_cases c : wn A m r = 0
  · rw [if_pos c, if_pos c, hs c]
    by_cases c2 : is8 b' = 1
    · rw [if_pos c2, if_pos rfl]
      by_cases c3 : 0 ≤ n ∧ n ≤ 300
      · rw [if_pos ⟨c2, c3⟩, if_pos c3]
      · rw [if_neg (fun g => c3 g.2), if_neg c3]
    · rw [if_neg (fun g => c2 g.1), if_neg c2, if_neg (by decide)]
  · rw [if_neg c, if_neg c, if_neg c]
theorem wy_in {m : Nat} {r n lo hi : Int32} {b' : Nat → Int64} (h : wy8 A m r n lo hi b' = 0) : wn8 A m r = 0 ∧ is8 b' = 1 ∧ lo ≤ n ∧ n ≤ hi := by
  have h1 := wy8_0 h
  unfold wy8 at h
  rw [if_pos h1] at h
  split at h
  · next g => exact ⟨h1, g⟩
  · exact absurd h (by decide)
theorem filt_all {most : Int64} (hm3 : most.toInt ≤ 300) {b : Nat → Int64} (h : nd (bd8 b) []) {n : Nat} : (vis most n b).filter (okb (-1)) = vis most n b := by
  rw [List.filter_eq_self]
  intro x hx
  exact okb_y (v := x.1) (l := x.2) (fun a ha => m1_ne ((vis_fit hm3 h x hx).2 a ha))
theorem up300 {w : Int32} (h : w ≤ 300) : w.toInt64.toInt ≤ 300 := by
  rw [z32]
  exact Int32.le_iff_toInt_le.mp h
theorem ans_3 {w : Int32} {b' : Nat → Int64} {F8 T F7 q L : Nat → Int32} {G8 G7 : Nat → Int64} (hw : w ≤ 300) (h : nd (bd8 b') []) (hL : ∀ i, i < 4 → (L (4 * i)).toInt = bd8 b' i) : (gS w.toInt64 w 0 40 b' F8 G8 T).1 13 = (S7 w (-1) L F7 G7 q).1 4 ∧ (gS w.toInt64 w 0 40 b' F8 G8 T).1 14 = (S7 w (-1) L F7 G7 q).1 5 ∧ (gS w.toInt64 w 0 40 b' F8 G8 T).1 15 = (S7 w (-1) L F7 G7 q).1 6 ∧ (gS w.toInt64 w 0 40 b' F8 G8 T).2.1 17 = (S7 w (-1) L F7 G7 q).2 7 := by
  unfold gS S7
  rw [vs_vis hw h hL, filt_all (up300 hw) h]
  have key := fold_rel (ex := w) (ab := 0) (fun S8 S7 => S7.1 1 = w ∧ S8.1 13 = S7.1 4 ∧ S8.1 14 = S7.1 5 ∧ S8.1 15 = S7.1 6 ∧ S8.2.1 17 = S7.2 7) (vis w.toInt64 40 b') (fun S8 S7 x hx hh => by
    obtain ⟨a1, a2, a3, a4, a5⟩ := hh
    have hf := (vis_fit (up300 hw) h x hx).1
    have e := fit_b hf
    obtain ⟨c1, c2, c3⟩ := cnF_13 (F := S8.1) (v := x.1) (ex := w) (ab := 0)
    refine ⟨?_, ?_, ?_, ?_, ?_⟩
    · show ntF S7.1 x.1.toInt32 1 = w
      rw [ntF_ne (by decide) (by decide) (by decide) (by decide) (by decide)]
      exact a1
    · show cnF S8.1 x.1 w 0 13 = ntF S7.1 x.1.toInt32 4
      rw [c1, ntF_4, a2]
    · show cnF S8.1 x.1 w 0 14 = ntF S7.1 x.1.toInt32 5
      rw [c2, ntF_5, a3, a1]
      by_cases g : x.1 = w.toInt64
      · rw [if_pos g, if_pos (by rw [g, Int32.toInt32_toInt64])]
      · rw [if_neg g, if_neg (fun q => g (by rw [← q, e])), Int32.add_zero]
    · show cnF S8.1 x.1 w 0 15 = ntF S7.1 x.1.toInt32 6
      rw [c3, ntF_6, a4]
      unfold rb8
      rw [fm_eq hf]
    · show cnG S8.2.1 x.1 17 = ntG S7.2 x.1.toInt32 7
      unfold cnG ntG
      rw [pk_uLs, pk_uLs, a5, e]) (F08 F8, vp_updL G8 17 0, T08 T) (F07 F7 w (-1), vp_updL G7 7 0) ⟨rfl, rfl, rfl, rfl, rfl⟩
  exact key.2
theorem g_count (r n : Int32) : Good mX7_count mX8_count [.int r, .int n] false := by
  intro A B hA
  obtain ⟨m, hK⟩ := hA.2.1
  have c7 := c7_count (A := A) (B := B) hK.2.1 hK.1 r n
  refine ⟨44, _, by decide, c7, fun r1 h1 q1 => ?_⟩
  obtain ⟨⟨A1, B1, rfl, j1⟩, F, G, q, rfl⟩ := q1
  obtain ⟨b', p1, p2⟩ := pack_pre hK r (B1 41)
  have hi : ∀ z k, 33 ≤ z → A1 z k = A z k := by
    intro z k hz
    rw [J7_hi j1 hz]
    split
    · rfl
    · exact rf_ne (by omega)
  have e38 : A1 38 = A 38 := funext (fun k => hi 38 k (by decide))
  have ew1 : wn8 A1 m r = wn A m r := by
    rw [← wn_eq hK r]
    unfold wn8
    rw [e38]
  have ew : wy8 A1 m r n 0 300 b' = wu A m r n := by
    have := wu_wy (A := A) (m := m) (r := r) (n := n) (b' := b') (wn_eq hK r) (fun g => (p2 g).1)
    rw [← this]
    unfold wy8
    rw [ew1, wn_eq hK r]
  have c8 := c8_count (A := A1) (B := B1) (n := 50000) (nn := 40) 0 ((hi 33 6 (by decide)).trans hK.2.2.1) hK.1 r n b' (fun g => by rw [e38]; exact p1 (ew1.symm.trans g)) (by decide) (fun g => by
    obtain ⟨g1, g2, g3, g4⟩ := wy_in g
    exact wk_ok (up300 g4) 40 [] b' ((p2 (ew1.symm.trans g1)).2.1 g2) (fun l p q => by cases q) (by decide))
  refine ⟨A1, B1, 3, _, by decide, rfl, c8, fun r2 h2 q2 => ?_⟩
  obtain ⟨⟨A2, B2, rfl, j2⟩, G2, T2, rfl⟩ := q2
  rw [ew] at j2 ⊢
  by_cases hc : wu A m r n = 0
  · have g := ew.trans hc
    obtain ⟨g1, g2, g3, g4⟩ := wy_in g
    have hp := p2 (ew1.symm.trans g1)
    have ha := ans_3 (F8 := A1 33) (G8 := G2) (T := T2) (F7 := F) (G7 := G) (q := q) g4 (hp.2.1 g2) hp.2.2
    rw [if_pos hc] at j1 j2
    refine ⟨A2, B2, rfl, Rel_J8 j2 (Rel_J7 j1 hA), ?_, _, rfl⟩
    rw [if_pos hc, if_pos hc, ha.1]
  · rw [if_neg hc] at j1 j2
    refine ⟨A2, B2, rfl, Rel_J8 j2 (Rel_J7 (J7_rm j1 _) (Rel_rf _ hA)), ?_, _, rfl⟩
    rw [if_neg hc, if_neg hc]
theorem g_bends (r n : Int32) : Good mX7_bends mX8_bends [.int r, .int n] false := by
  intro A B hA
  obtain ⟨m, hK⟩ := hA.2.1
  have c7 := c7_bends (A := A) (B := B) hK.2.1 hK.1 r n
  refine ⟨44, _, by decide, c7, fun r1 h1 q1 => ?_⟩
  obtain ⟨⟨A1, B1, rfl, j1⟩, F, G, q, rfl⟩ := q1
  obtain ⟨b', p1, p2⟩ := pack_pre hK r (B1 41)
  have hi : ∀ z k, 33 ≤ z → A1 z k = A z k := by
    intro z k hz
    rw [J7_hi j1 hz]
    split
    · rfl
    · exact rf_ne (by omega)
  have e38 : A1 38 = A 38 := funext (fun k => hi 38 k (by decide))
  have ew1 : wn8 A1 m r = wn A m r := by
    rw [← wn_eq hK r]
    unfold wn8
    rw [e38]
  have ew : wy8 A1 m r n 0 300 b' = wu A m r n := by
    have := wu_wy (A := A) (m := m) (r := r) (n := n) (b' := b') (wn_eq hK r) (fun g => (p2 g).1)
    rw [← this]
    unfold wy8
    rw [ew1, wn_eq hK r]
  have c8 := c8_bends (A := A1) (B := B1) (n := 50000) (nn := 40) 0 ((hi 33 6 (by decide)).trans hK.2.2.1) hK.1 r n b' (fun g => by rw [e38]; exact p1 (ew1.symm.trans g)) (by decide) (fun g => by
    obtain ⟨g1, g2, g3, g4⟩ := wy_in g
    exact wk_ok (up300 g4) 40 [] b' ((p2 (ew1.symm.trans g1)).2.1 g2) (fun l p q => by cases q) (by decide))
  refine ⟨A1, B1, 3, _, by decide, rfl, c8, fun r2 h2 q2 => ?_⟩
  obtain ⟨⟨A2, B2, rfl, j2⟩, G2, T2, rfl⟩ := q2
  rw [ew] at j2 ⊢
  by_cases hc : wu A m r n = 0
  · have g := ew.trans hc
    obtain ⟨g1, g2, g3, g4⟩ := wy_in g
    have hp := p2 (ew1.symm.trans g1)
    have ha := ans_3 (F8 := A1 33) (G8 := G2) (T := T2) (F7 := F) (G7 := G) (q := q) g4 (hp.2.1 g2) hp.2.2
    rw [if_pos hc] at j1 j2
    refine ⟨A2, B2, rfl, Rel_J8 j2 (Rel_J7 j1 hA), ?_, _, rfl⟩
    rw [if_pos hc, if_pos hc, ha.2.1]
  · rw [if_neg hc] at j1 j2
    refine ⟨A2, B2, rfl, Rel_J8 j2 (Rel_J7 (J7_rm j1 _) (Rel_rf _ hA)), ?_, _, rfl⟩
    rw [if_neg hc, if_neg hc]
theorem g_rests (r n : Int32) : Good mX7_rests mX8_rests [.int r, .int n] false := by
  intro A B hA
  obtain ⟨m, hK⟩ := hA.2.1
  have c7 := c7_rests (A := A) (B := B) hK.2.1 hK.1 r n
  refine ⟨44, _, by decide, c7, fun r1 h1 q1 => ?_⟩
  obtain ⟨⟨A1, B1, rfl, j1⟩, F, G, q, rfl⟩ := q1
  obtain ⟨b', p1, p2⟩ := pack_pre hK r (B1 41)
  have hi : ∀ z k, 33 ≤ z → A1 z k = A z k := by
    intro z k hz
    rw [J7_hi j1 hz]
    split
    · rfl
    · exact rf_ne (by omega)
  have e38 : A1 38 = A 38 := funext (fun k => hi 38 k (by decide))
  have ew1 : wn8 A1 m r = wn A m r := by
    rw [← wn_eq hK r]
    unfold wn8
    rw [e38]
  have ew : wy8 A1 m r n 0 300 b' = wu A m r n := by
    have := wu_wy (A := A) (m := m) (r := r) (n := n) (b' := b') (wn_eq hK r) (fun g => (p2 g).1)
    rw [← this]
    unfold wy8
    rw [ew1, wn_eq hK r]
  have c8 := c8_rests (A := A1) (B := B1) (n := 50000) (nn := 40) 0 ((hi 33 6 (by decide)).trans hK.2.2.1) hK.1 r n b' (fun g => by rw [e38]; exact p1 (ew1.symm.trans g)) (by decide) (fun g => by
    obtain ⟨g1, g2, g3, g4⟩ := wy_in g
    exact wk_ok (up300 g4) 40 [] b' ((p2 (ew1.symm.trans g1)).2.1 g2) (fun l p q => by cases q) (by decide))
  refine ⟨A1, B1, 3, _, by decide, rfl, c8, fun r2 h2 q2 => ?_⟩
  obtain ⟨⟨A2, B2, rfl, j2⟩, G2, T2, rfl⟩ := q2
  rw [ew] at j2 ⊢
  by_cases hc : wu A m r n = 0
  · have g := ew.trans hc
    obtain ⟨g1, g2, g3, g4⟩ := wy_in g
    have hp := p2 (ew1.symm.trans g1)
    have ha := ans_3 (F8 := A1 33) (G8 := G2) (T := T2) (F7 := F) (G7 := G) (q := q) g4 (hp.2.1 g2) hp.2.2
    rw [if_pos hc] at j1 j2
    refine ⟨A2, B2, rfl, Rel_J8 j2 (Rel_J7 j1 hA), ?_, _, rfl⟩
    rw [if_pos hc, if_pos hc, ha.2.2.1]
  · rw [if_neg hc] at j1 j2
    refine ⟨A2, B2, rfl, Rel_J8 j2 (Rel_J7 (J7_rm j1 _) (Rel_rf _ hA)), ?_, _, rfl⟩
    rw [if_neg hc, if_neg hc]
end PACKC
