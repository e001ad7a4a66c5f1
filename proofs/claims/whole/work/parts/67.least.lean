section LEASTC
variable {A : Nat → Nat → Int32} {B : Nat → Nat → Int64}
theorem Rel_J7 {A' : Nat → Nat → Int32} (j : J7 A A') (h : Rel A) : Rel A' := Rel_c (fun q k s => j q k (by unfold selR selK selM selW at s; omega)) h
theorem wn_eq {m : Nat} (hK : RelK A m) (r : Int32) : wn8 A m r = wn A m r := by
  unfold wn8 wn
  by_cases c : 0 ≤ r ∧ r < nI m
  · rw [if_pos c, if_pos c]
    obtain ⟨i, hi, rfl⟩ := rng (by have := hK.1; omega) c
    have h6 := hK.1
    rw [cl_nI (by omega), bs_eq (fun j hj => kzA hK (show i < 6 by omega) hj)]
  · rw [if_neg c, if_neg c]
theorem bsm_z {f : Nat → Int32} (h : ∀ i, i < 4 → bz (bd f i)) : (bsm f).toInt = sC f 0 := by
  have b0 : bz (f 0).toInt := h 0 (by omega)
  have b1 : bz (f 4).toInt := h 1 (by omega)
  have b2 : bz (f 8).toInt := h 2 (by omega)
  have b3 : bz (f 12).toInt := h 3 (by omega)
  show _ = (f 0).toInt + (f 4).toInt + (f 8).toInt + (f 12).toInt
  unfold bsm
  unfold bz at *
  have e1 : ((f 0).toInt64 + (f 4).toInt64).toInt = (f 0).toInt + (f 4).toInt := by rw [zadd, z32, z32] <;> (rw [z32, z32]; omega)
  have e2 : ((f 0).toInt64 + (f 4).toInt64 + (f 8).toInt64).toInt = (f 0).toInt + (f 4).toInt + (f 8).toInt := by rw [zadd, e1, z32] <;> (rw [e1, z32]; omega)
  rw [zadd, e2, z32] <;> (rw [e2, z32]; omega)
theorem KS_bz {f : Nat → Int32} (h : KS f) : ∀ i, i < 4 → bz (bd f i) := fun i hi => ksz_b (KS_z.mp h) (4 * i) (by omega)
theorem KS_BK {f : Nat → Int32} (h : KS f) (hs : 0 < bsm f) : BK (bd f) := by
  refine BK_of h ?_
  rw [← bsm_z (KS_bz h)]
  exact Int64.lt_iff_toInt_lt.mp hs
/-- what the least bends are, for both sides -/
theorem leads_pair {m : Nat} (hK : RelK A m) {r : Int32} (hw : wn A m r = 0) : ∃ d', BK d' ∧ (∀ i, i < 4 → bz (d' i)) ∧ ¬ 0 < uz d' ∧ (∀ g : Nat → Int32, ∀ i, i < 4 → bd (lbB (A (8 + 2 * cl r)) g).2.1 i = d' i) ∧ ∀ X : Nat → Int64, ∃ b', ldF 50000 (bq X (A 38) (cl r)) = some b' ∧ ∀ i, i < 4 → bd8 b' i = d' i := by
  obtain ⟨h1, h2⟩ := wn_0 hw
  have h6 := hK.1
  obtain ⟨i, hi, rfl⟩ := rng (by omega) h1
  rw [cl_nI (by omega)] at h2 ⊢
  have hk := hK.2.2.2.2 i hi
  have hb := KS_bz hk
  have hB := KS_BK hk h2
  obtain ⟨d', e⟩ := lz_ends hB hb
  obtain ⟨k1, k2, k3⟩ := lz_BK 50000 _ d' hB hb e
  refine ⟨d', k1, k2, k3, fun g => ?_, fun X => ?_⟩
  · unfold lbB
    refine lb_lz 50000 1000000 0 _ 0 (bd (A (8 + 2 * i))) d' hB hb (fun j hj => ?_) e (by omega)
    unfold bd
    rw [pk_cpy_in (by omega) (by omega), show 0 + (4 * j - 0) = 4 * j by omega]
  · refine ld_lz 50000 _ (bd (A (8 + 2 * i))) d' hB hb (fun j hj => ?_) e
    have ek : ∀ t, t < 16 → A 38 (16 * i + t) = A (8 + 2 * i) t := fun t ht => hK.2.2.2.1 i (by omega) t ht
    rcases (show j = 0 ∨ j = 1 ∨ j = 2 ∨ j = 3 by omega) with rfl | rfl | rfl | rfl
    · show (A 38 (16 * i)).toInt64.toInt = (A (8 + 2 * i) 0).toInt
      rw [z32, ← ek 0 (by omega)]
      rfl
    · show (A 38 (16 * i + 4)).toInt64.toInt = (A (8 + 2 * i) 4).toInt
      rw [z32, ek 4 (by omega)]
    · show (A 38 (16 * i + 8)).toInt64.toInt = (A (8 + 2 * i) 8).toInt
      rw [z32, ek 8 (by omega)]
    · show (A 38 (16 * i + 12)).toInt64.toInt = (A (8 + 2 * i) 12).toInt
      rw [z32, ek 12 (by omega)]
theorem neg_eq {f : Nat → Int32} {b : Nat → Int64} {d : Nat → Int} (hf : ∀ i, i < 4 → bd f i = d i) (hb : ∀ i, i < 4 → bd8 b i = d i) : negB f = is8 b := by
  have n : ∀ i, i < 4 → (f (4 * i) < 0 ↔ b i < 0) := by
    intro i hi
    rw [Int32.lt_iff_toInt_lt, Int64.lt_iff_toInt_lt]
    have e1 : (f (4 * i)).toInt = d i := hf i hi
    have e2 : (b i).toInt = d i := hb i hi
    rw [e1, e2]
    exact Iff.rfl
  unfold negB is8
  have n0 : f 0 < 0 ↔ b 0 < 0 := n 0 (by omega)
  have n1 : f 4 < 0 ↔ b 1 < 0 := n 1 (by omega)
  have n2 : f 8 < 0 ↔ b 2 < 0 := n 2 (by omega)
  have n3 : f 12 < 0 ↔ b 3 < 0 := n 3 (by omega)
  simp only [n0, n1, n2, n3]
theorem g_shut (r : Int32) : Good mX7_shut mX8_shut [.int r] false := by
  intro A B hA
  obtain ⟨m, hK⟩ := hA.2.1
  have c7 := c7_shut (A := A) (B := B) 0 hK.2.1 hK.1 r
  refine ⟨4, _, by decide, c7, fun r1 h1 q1 => ?_⟩
  obtain ⟨rfl, rfl⟩ := q1
  have e8 := wn_eq hK r
  by_cases hw : wn A m r = 0
  · obtain ⟨d', k1, k2, k3, k4, k5⟩ := leads_pair hK hw
    obtain ⟨b', k6, k7⟩ := k5 (B 41)
    have e7 : s7_shut A m r = (negB (lbB (A (8 + 2 * cl r)) (A 20)).2.1, Lh A 6 (lbB (A (8 + 2 * cl r)) (A 20)).2.1 (lbB (A (8 + 2 * cl r)) (A 20)).2.2) := by unfold s7_shut; rw [if_pos hw]
    rw [e7]
    have hneg := neg_eq (k4 (A 20)) k7
    generalize lbB (A (8 + 2 * cl r)) (A 20) = L at *
    have c8 := c8_shut (A := Lh A 6 L.2.1 L.2.2) (B := B) (n := 50000) 0 (m := m) hK.2.2.1 hK.1 r b' (fun _ => k6)
    refine ⟨_, B, 2, _, by decide, rfl, c8, fun r2 h2 q2 => ?_⟩
    obtain ⟨⟨B', rfl⟩, rfl⟩ := q2
    have ew : wn8 (Lh A 6 L.2.1 L.2.2) m r = 0 := e8.trans hw
    have es : s8_shut (Lh A 6 L.2.1 L.2.2) m r b' = (is8 b', Lh A 6 L.2.1 L.2.2) := by unfold s8_shut; rw [if_pos ew]
    rw [es]
    exact ⟨_, _, rfl, Rel_J7 (J7_Lh _ _ _) hA, by rw [hneg], _, rfl⟩
  · have e7 : s7_shut A m r = (wn A m r, rfA A (rfI (wn A m r))) := by unfold s7_shut; rw [if_neg hw]
    rw [e7]
    have ew : wn8 (rfA A (rfI (wn A m r))) m r = wn A m r := e8
    have c8 := c8_shut (A := rfA A (rfI (wn A m r))) (B := B) (n := 50000) 0 (m := m) hK.2.2.1 hK.1 r (B 41) (fun g => absurd (ew.symm.trans g) hw)
    refine ⟨_, B, 2, _, by decide, rfl, c8, fun r2 h2 q2 => ?_⟩
    obtain ⟨⟨B', rfl⟩, rfl⟩ := q2
    have es : s8_shut (rfA A (rfI (wn A m r))) m r (B 41) = (wn A m r, rmA (rfA A (rfI (wn A m r))) (rfI (wn A m r))) := by unfold s8_shut; rw [ew, if_neg hw]
    rw [es]
    exact ⟨_, _, rfl, Rel_rf _ hA, rfl, _, rfl⟩
/-! the least itself -/
theorem bd_sw4 {f : Nat → Int32} (h : KS f) {p : Nat} (hp4 : p < 4) (hf : fit4 f p) : ∀ i, i < 4 → bd (sw4 f p) i = swB (bd f) p i := by
  intro i hi
  have e := sw4_z (KS_z.mp h) hp4 hf (q := i) (c := 0) hi (by omega)
  rw [Nat.add_zero] at e
  show (sw4 f p (4 * i)).toInt = _
  rw [e]
  unfold swB bd sC
  by_cases g : i = p
  · rw [if_pos g, if_pos g]
    rfl
  · rw [if_neg g, if_neg g]
theorem BN_bd {F f : Nat → Int32} {k : Nat} (h : ∀ j, j < 16 → kz F k j = f j) : ∀ i, i < 4 → bd8 (BN F k) i = bd f i := by
  intro i hi
  show (F (16 * k + 4 * i)).toInt64.toInt = (f (4 * i)).toInt
  rw [z32, ← h (4 * i) (by omega)]
  rfl
theorem lz_ext : ∀ (n : Nat) (d e : Nat → Int), (∀ i, i < 4 → e i = d i) → lz n d ≠ none → lz n e ≠ none
  | 0, _, _, _, h => absurd rfl h
  | n + 1, d, e, g, h => by
    simp only [lz] at h ⊢
    rw [uz_ext g]
    by_cases hu : 0 < uz d
    · rw [if_pos hu] at h ⊢
      rw [gz_ext g]
      exact lz_ext n _ _ (swB_ext g (gz_lt d)) h
    · rw [if_neg hu]
      exact fun q => by cases q
theorem least_pair (k : Nat) : ∀ (n m s : Nat) (f F : Nat → Int32) (fp : Int32), KS f → BK (bd f) → (∀ j, j < 16 → kz F k j = f j) → lz n (bd f) ≠ none → n ≤ m → s + n < 2 ^ 31 → ∃ R, l8 k n s F fp = some R ∧ (∀ q, q ≠ k → ∀ j, j < 16 → R.2.2.1 (16 * q + j) = F (16 * q + j)) ∧ R.2.1 < 2 ^ 31 ∧ (R.1 = true → (lb true m s f fp).1 = nI R.2.1 ∧ (lb true m s f fp).2.2 = R.2.2.2 ∧ KS (lb true m s f fp).2.1 ∧ ∀ j, j < 16 → kz R.2.2.1 k j = (lb true m s f fp).2.1 j) ∧ (¬ R.1 = true → (lb true m s f fp).1 = -1)
  | 0, _, _, _, _, _, _, _, _, e, _, _ => absurd rfl e
  | n + 1, 0, _, _, _, _, _, _, _, _, hm, _ => by omega
  | n + 1, m + 1, s, f, F, fp, h, hB, ha, e, hm, hs => by
    have hb := KS_bz h
    have hbn := BN_bd ha
    have hbn' : ∀ i, i < 4 → bz (bd8 (BN F k) i) := fun i hi => by rw [hbn i hi]; exact hb i hi
    have eg : g8 (BN F k) = gst f := by rw [g8_z, gst_z]; exact gz_ext hbn
    have c8 := ex8_lt hbn'
    rw [uz_ext hbn] at c8
    have c7 := swp0_lt hb
    simp only [lz] at e
    by_cases hu : 0 < uz (bd f)
    · rw [if_pos hu] at e
      have c7' := c7.mpr hu
      have c8' := c8.mpr hu
      simp only [l8, if_pos c8', lb, if_pos c7']
      rw [eg]
      by_cases hf : fit4 f (gst f)
      · have hf8 : fit8 (kz F k) (gst f) := (fit_iff ha (gst_lt f)).mpr hf
        have ho : lbOk true f (gst f) = true := decide_eq_true hf
        rw [if_pos hf8, if_pos ho]
        have hsw := bd_sw4 h (gst_lt f) hf
        have e2 : lz n (bd (sw4 f (gst f))) ≠ none := lz_ext n _ _ (fun i hi => by rw [hsw i hi, gst_z]) e
        have hB2 : BK (bd (sw4 f (gst f))) := BK_ext (BK_swap hB (gst_lt f)) hsw
        obtain ⟨R, r1, r2, r3, r4, r5⟩ := least_pair k n m (s + 1) (sw4 f (gst f)) (s8S F k (gst f)) (lbP s fp (gst f)) (KS_swap h (gst_lt f) hf) hB2 (swap_at (gst_lt f) ha) e2 (by omega) (by omega)
        exact ⟨R, r1, fun q hq j hj => by rw [r2 q hq j hj, s8S_o (gst_lt f) hj hq], r3, r4, r5⟩
      · have hf8 : ¬ fit8 (kz F k) (gst f) := fun g => hf ((fit_iff ha (gst_lt f)).mp g)
        have ho : ¬ lbOk true f (gst f) = true := fun g => hf (of_decide_eq_true g)
        rw [if_neg hf8, if_neg ho]
        exact ⟨_, rfl, fun _ _ _ _ => rfl, by show s < 2 ^ 31; omega, fun g => absurd (show false = true from g) (by decide), fun _ => rfl⟩
    · have c7' : ¬ swp f (gst f) 0 < (f (4 * gst f)).toInt64 := fun g => hu (c7.mp g)
      have c8' : ¬ ex8 (BN F k) (g8 (BN F k)) < BN F k (g8 (BN F k)) := fun g => hu (c8.mp g)
      simp only [l8, if_neg c8', lb, if_neg c7']
      exact ⟨_, rfl, fun _ _ _ _ => rfl, by show s < 2 ^ 31; omega, fun _ => ⟨rfl, rfl, h, ha⟩, fun g => absurd rfl g⟩
end LEASTC
