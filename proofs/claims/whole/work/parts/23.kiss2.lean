section RK4
variable {A : Nat → Nat → Int32} {B : Nat → Nat → Int64}
def wn (A : Nat → Nat → Int32) (m : Nat) (r : Int32) : Int32 := if 0 ≤ r ∧ r < nI m then (if 0 < bsm (A (8 + 2 * cl r)) then 0 else -7) else -3
set_option maxHeartbeats 4000000 in
set_option maxRecDepth 100000 in
theorem c_whyNoLeast (d : Nat) {m : Nat} (hm : A 0 9 = nI m) (h6 : m ≤ 6) (r : Int32) : C mX7_whyNoLeast (d + 2) 0 0 [.ref 0, .int r] (hp A B) (fun r' h' => h' = hp A B ∧ r' = some (.int (wn A m r))) := by
  refine C.of [some (.ref 0), some (.int r)] omX7_whyNoLeast rfl rfl rfl ?_
  by_cases h1 : 0 ≤ r ∧ r < A 0 9
  · repeat (first | refine V.s omX7_whyNoLeast rfl rfl ?_ | refine V.gf omX7_whyNoLeast rfl rfl rfl rfl ?_ | refine V.brF omX7_whyNoLeast rfl rfl (by decide) ?_ | refine V.brT omX7_whyNoLeast rfl rfl (by decide) (by decide) ?_ | refine V.cVf omX7_whyNoLeast omX7_hasKiss rfl rfl (c_hkY _ h1) rfl rfl rfl rfl rfl rfl ?_)
    rw [hm] at h1
    simp only [wn, if_pos h1]
    obtain ⟨i, hi, rfl⟩ := rng (by omega) h1
    simp only [cl_nI (show i < 20 by omega)]
    refine V.aal omX7_whyNoLeast rfl rfl (ixN nv_nI (show i < 6 by omega) (by decide)) (kisF_at (show i < 6 by omega)) ?_
    refine V.cVf omX7_whyNoLeast omX4_bendSum rfl rfl (c_bendSum _ (show i < 8 by omega)) rfl rfl (hpQ (show i < 8 by omega)) rfl rfl rfl ?_
    repeat' (first | refine V.s omX7_whyNoLeast rfl rfl ?_ | refine V.gf omX7_whyNoLeast rfl rfl rfl rfl ?_ | refine V.br omX7_whyNoLeast rfl rfl (fun hc => ?_) (fun hc => ?_))
    · rw [lgc_le] at hc
      exact V.iret omX7_whyNoLeast rfl rfl ⟨rfl, by rw [if_neg (Int64.not_lt.mpr hc)]⟩
    · rw [lgc_gt] at hc
      exact V.iret omX7_whyNoLeast rfl rfl ⟨rfl, by rw [if_pos hc]⟩
  · repeat (first | refine V.s omX7_whyNoLeast rfl rfl ?_ | refine V.gf omX7_whyNoLeast rfl rfl rfl rfl ?_ | refine V.brF omX7_whyNoLeast rfl rfl (by decide) ?_ | refine V.brT omX7_whyNoLeast rfl rfl (by decide) (by decide) ?_ | refine V.cVf omX7_whyNoLeast omX7_hasKiss rfl rfl (c_hkN _ h1) rfl rfl rfl rfl rfl rfl ?_)
    rw [hm] at h1
    exact V.iret omX7_whyNoLeast rfl rfl (by simp only [wn, if_neg h1] <;> (refine ⟨?_, ?_⟩ <;> first | rfl | trivial))
def kpA (A : Nat → Nat → Int32) (m : Nat) : Nat → Nat → Int32 := va_up (va_up A (8 + 2 * m) (va_cpy (A 20) (A (8 + 2 * m)) 0 0 16)) 0 (upd (A 0) 9 (nI (m + 1)))
def s7_keep (A : Nat → Nat → Int32) (m : Nat) : Int32 × (Nat → Nat → Int32) := if lawsF (A 20) = 1 ∧ tchF (A 20) = 1 then (if m < 6 then (nI m, kpA A m) else (-8, rfA A 8)) else (-7, rfA A 7)
theorem lawsF_01 (f : Nat → Int32) : lawsF f = 0 ∨ lawsF f = 1 := by unfold lawsF; split <;> simp
theorem tchF_01 (f : Nat → Int32) : tchF f = 0 ∨ tchF f = 1 := by unfold tchF; split <;> simp
set_option maxHeartbeats 4000000 in
set_option maxRecDepth 100000 in
theorem c_keepWork (d : Nat) {m : Nat} (hm : A 0 9 = nI m) (h6 : m ≤ 6) : C mX7_keepWork (d + 3) 0 0 [.ref 0] (hp A B) (fun r' h' => h' = hp (s7_keep A m).2 B ∧ r' = some (.int (s7_keep A m).1)) := by
  refine C.of [some (.ref 0)] omX7_keepWork rfl rfl rfl ?_
  have ck : C mX4_keepsLaws (d + 2) 0 0 [.ref 19] (hp A B) (fun r h' => h' = hp A B ∧ r = some (.int (lawsF (A 20)))) := c_keepsLaws (k := 6) d (by decide)
  have ct : C mX4_allTouch (d + 2) 0 0 [.ref 19] (hp A B) (fun r h' => h' = hp A B ∧ r = some (.int (tchF (A 20)))) := c_allTouch (k := 6) (d + 1) (by decide)
  repeat (first | refine V.s omX7_keepWork rfl rfl ?_ | refine V.gf omX7_keepWork rfl rfl rfl rfl ?_)
  refine V.cVf omX7_keepWork omX4_keepsLaws rfl rfl ck rfl rfl rfl rfl rfl rfl ?_
  rcases lawsF_01 (A 20) with hl | hl
  · rw [hl]
    refine V.brT omX7_keepWork rfl rfl rfl (by decide) ?_
    repeat (first | refine V.s omX7_keepWork rfl rfl ?_ | refine V.gf omX7_keepWork rfl rfl rfl rfl ?_ | refine V.cVf omX7_keepWork omX7_refuse rfl rfl (c_refuse _ _ (by decide)) rfl rfl rfl rfl rfl rfl ?_)
    exact V.iret omX7_keepWork rfl rfl (by simp only [s7_keep, hl, if_neg (show ¬ ((0 : Int32) = 1 ∧ tchF (A 20) = 1) from fun h => absurd h.1 (by decide))] <;> (refine ⟨?_, ?_⟩ <;> first | rfl | trivial))
  · rw [hl]
    refine V.brF omX7_keepWork rfl rfl (by decide) ?_
    repeat (first | refine V.s omX7_keepWork rfl rfl ?_ | refine V.gf omX7_keepWork rfl rfl rfl rfl ?_)
    refine V.cVf omX7_keepWork omX4_allTouch rfl rfl ct rfl rfl rfl rfl rfl rfl ?_
    rcases tchF_01 (A 20) with ht | ht
    · rw [ht]
      refine V.brF omX7_keepWork rfl rfl (by decide) ?_
      repeat (first | refine V.s omX7_keepWork rfl rfl ?_ | refine V.gf omX7_keepWork rfl rfl rfl rfl ?_ | refine V.cVf omX7_keepWork omX7_refuse rfl rfl (c_refuse _ _ (by decide)) rfl rfl rfl rfl rfl rfl ?_)
      exact V.iret omX7_keepWork rfl rfl (by simp only [s7_keep, hl, ht, if_neg (show ¬ ((1 : Int32) = 1 ∧ (0 : Int32) = 1) from fun h => absurd h.2 (by decide))] <;> (refine ⟨?_, ?_⟩ <;> first | rfl | trivial))
    · rw [ht]
      refine V.brT omX7_keepWork rfl rfl (by decide) (by decide) ?_
      simp only [s7_keep, hl, ht, and_self, if_true]
      repeat (first | refine V.s omX7_keepWork rfl rfl ?_ | refine V.gf omX7_keepWork rfl rfl rfl rfl ?_)
      rw [hm]
      by_cases h5 : m < 6
      · rw [if_pos h5]
        refine V.brT omX7_keepWork rfl rfl (by rw [nIl_eq 6 (by omega) (by decide)]; omega) (fun h => h) ?_
        repeat (first | refine V.s omX7_keepWork rfl rfl ?_ | refine V.gf omX7_keepWork rfl rfl rfl rfl ?_)
        rw [hm]
        refine V.aal omX7_keepWork rfl rfl (ixN nv_nI (show m < 6 by omega) (by decide)) (kisF_at h5) ?_
        repeat (first | refine V.s omX7_keepWork rfl rfl ?_ | refine V.gf omX7_keepWork rfl rfl rfl rfl ?_)
        have ck2 : C mX4_take (d + 2) 0 0 [.ref (7 + 2 * m), .ref 19] (hp A B) (fun r h' => h' = hp (va_up A (8 + 2 * m) (va_cpy (A 20) (A (8 + 2 * m)) 0 0 16)) B ∧ r = none) := c_take (k := m) (j := 6) _ (by omega) (by decide)
        refine V.cVv omX7_keepWork omX4_take rfl rfl ck2 rfl rfl (hpQ (show m < 8 by omega)) rfl rfl rfl ?_
        repeat (first | refine V.s omX7_keepWork rfl rfl ?_ | refine V.gf omX7_keepWork rfl rfl rfl rfl ?_)
        rw [va_up_ne _ _ (show (0 : Nat) ≠ 8 + 2 * m by omega), hm, nI_1]
        refine V.pfH omX7_keepWork rfl rfl rfl rfl rfl rfl rfl ?_
        repeat (first | refine V.s omX7_keepWork rfl rfl ?_ | refine V.gf omX7_keepWork rfl rfl rfl rfl ?_)
        rw [va_up_self, pk_us, nI_pred]
        refine V.iret omX7_keepWork rfl rfl ⟨?_, rfl⟩
        rw [va_up_ne _ _ (show (0 : Nat) ≠ 8 + 2 * m by omega)]
        rfl
      · rw [if_neg h5]
        refine V.brF omX7_keepWork rfl rfl (by rw [nIl_eq 6 (by omega) (by decide)]; omega) ?_
        repeat (first | refine V.s omX7_keepWork rfl rfl ?_ | refine V.gf omX7_keepWork rfl rfl rfl rfl ?_ | refine V.cVf omX7_keepWork omX7_refuse rfl rfl (c_refuse _ _ (by decide)) rfl rfl rfl rfl rfl rfl ?_)
        exact V.iret omX7_keepWork rfl rfl ⟨rfl, rfl⟩
theorem c7_led (d : Nat) : C mX7_led d 0 0 [.ref 0] (hp A B) (fun r h' => h' = hp A B ∧ r = some (.int (A 0 10))) := by
  refine C.of [some (.ref 0)] omX7_led rfl rfl rfl ?_
  repeat (first | refine V.s omX7_led rfl rfl ?_ | refine V.gf omX7_led rfl rfl rfl rfl ?_)
  exact V.iret omX7_led rfl rfl ⟨rfl, rfl⟩
def s7_shut (A : Nat → Nat → Int32) (m : Nat) (r : Int32) : Int32 × (Nat → Nat → Int32) := if wn A m r = 0 then (negB (lbB (A (8 + 2 * cl r)) (A 20)).2.1, Lh A 6 (lbB (A (8 + 2 * cl r)) (A 20)).2.1 (lbB (A (8 + 2 * cl r)) (A 20)).2.2) else (wn A m r, rfA A (rfI (wn A m r)))
theorem wn_c (A : Nat → Nat → Int32) (m : Nat) (r : Int32) : wn A m r = 0 ∨ wn A m r = -7 ∨ wn A m r = -3 := by
  unfold wn
  split
  · split <;> simp
  · simp
theorem wn_0 {A : Nat → Nat → Int32} {m : Nat} {r : Int32} (h : wn A m r = 0) : (0 ≤ r ∧ r < nI m) ∧ 0 < bsm (A (8 + 2 * cl r)) := by
  unfold wn at h
  split at h
  · split at h
    · exact ⟨by assumption, by assumption⟩
    · exact absurd h (by decide)
  · exact absurd h (by decide)
theorem negB_01 (f : Nat → Int32) : negB f = 0 ∨ negB f = 1 := by unfold negB; split <;> simp
theorem rfB_wn {A : Nat → Nat → Int32} {m : Nat} {r : Int32} (h : ¬ wn A m r = 0) : rfB (wn A m r) = true := by
  rcases wn_c A m r with g | g | g
  · exact absurd g h
  · rw [g]; decide
  · rw [g]; decide
theorem c_tlb (d : Nat) {i : Nat} (hi : i < 8) : C mX4_takeLeastBends (d + 3) 0 0 [.ref 19, .ref (7 + 2 * i)] (hp A B) (fun r h' => h' = hp (Lh A 6 (lbB (A (8 + 2 * i)) (A 20)).2.1 (lbB (A (8 + 2 * i)) (A 20)).2.2) B ∧ r = none) := c_takeLeastBends (k := 6) d (by decide) hi
theorem Lh_20 {f : Nat → Int32} {v : Int32} : Lh A 6 f v 20 = f := Lh_arr (k := 6)
theorem c_neg6 (d : Nat) : C mX4_hasBendBelowZero (d + 1) 0 0 [.ref 19] (hp A B) (fun r h' => h' = hp A B ∧ r = some (.int (negB (A 20)))) := c_hasNeg (k := 6) d (by decide)
set_option maxHeartbeats 4000000 in
set_option maxRecDepth 100000 in
theorem c7_shut (d : Nat) {m : Nat} (hm : A 0 9 = nI m) (h6 : m ≤ 6) (r : Int32) : C mX7_shut (d + 4) 0 0 [.ref 0, .int r] (hp A B) (fun r' h' => h' = hp (s7_shut A m r).2 B ∧ r' = some (.int (s7_shut A m r).1)) := by
  refine C.of [some (.ref 0), some (.int r), none] omX7_shut rfl rfl rfl ?_
  repeat (first | refine V.s omX7_shut rfl rfl ?_ | refine V.gf omX7_shut rfl rfl rfl rfl ?_)
  refine V.cVf omX7_shut omX7_whyNoLeast rfl rfl (c_whyNoLeast (d + 1) hm h6 r) rfl rfl rfl rfl rfl rfl ?_
  repeat (first | refine V.s omX7_shut rfl rfl ?_ | refine V.gf omX7_shut rfl rfl rfl rfl ?_)
  by_cases h0 : wn A m r = 0
  · simp only [s7_shut, if_pos h0]
    rw [h0]
    refine V.brT omX7_shut rfl rfl rfl (by decide) ?_
    obtain ⟨i, hi, rfl⟩ := rng (by omega) (wn_0 h0).1
    simp only [cl_nI (show i < 20 by omega)]
    repeat (first | refine V.s omX7_shut rfl rfl ?_ | refine V.gf omX7_shut rfl rfl rfl rfl ?_)
    refine V.aal omX7_shut rfl rfl (ixN nv_nI (show i < 6 by omega) (by decide)) (kisF_at (show i < 6 by omega)) ?_
    refine V.cVv omX7_shut omX4_takeLeastBends rfl rfl (c_tlb d (show i < 8 by omega)) rfl rfl rfl rfl rfl rfl ?_
    repeat (first | refine V.s omX7_shut rfl rfl ?_ | refine V.gf omX7_shut rfl rfl rfl rfl ?_)
    refine V.cVf omX7_shut omX4_hasBendBelowZero rfl rfl (c_neg6 _) rfl rfl rfl rfl rfl rfl ?_
    rw [Lh_20]
    rcases negB_01 (lbB (A (8 + 2 * i)) (A 20)).2.1 with hb | hb
    · rw [hb]
      refine V.brT omX7_shut rfl rfl rfl (by decide) ?_
      repeat (first | refine V.s omX7_shut rfl rfl ?_ | refine V.gf omX7_shut rfl rfl rfl rfl ?_)
      exact V.iret omX7_shut rfl rfl ⟨rfl, rfl⟩
    · rw [hb]
      refine V.brF omX7_shut rfl rfl (by decide) ?_
      repeat (first | refine V.s omX7_shut rfl rfl ?_ | refine V.gf omX7_shut rfl rfl rfl rfl ?_)
      exact V.iret omX7_shut rfl rfl ⟨rfl, rfl⟩
  · simp only [s7_shut, if_neg h0]
    refine V.brF omX7_shut rfl rfl h0 ?_
    repeat (first | refine V.s omX7_shut rfl rfl ?_ | refine V.gf omX7_shut rfl rfl rfl rfl ?_)
    refine V.cVf omX7_shut omX7_refuse rfl rfl (c_refuse _ _ (rfB_wn h0)) rfl rfl rfl rfl rfl rfl ?_
    exact V.iret omX7_shut rfl rfl ⟨rfl, rfl⟩
def s7_tear (A : Nat → Nat → Int32) : Int32 × (Nat → Nat → Int32) := (A 0 11, va_up A 0 (upd (A 0) 11 0))
theorem c7_tear (d : Nat) (hz : A 0 11 = 0 ∨ A 0 11 = 1) : C mX7_tear d 0 0 [.ref 0] (hp A B) (fun r h' => h' = hp (s7_tear A).2 B ∧ r = some (.int (s7_tear A).1)) := by
  refine C.of [some (.ref 0), none] omX7_tear rfl rfl rfl ?_
  repeat (first | refine V.s omX7_tear rfl rfl ?_ | refine V.gf omX7_tear rfl rfl rfl rfl ?_)
  unfold s7_tear
  rcases hz with hz | hz
  · rw [hz]
    refine V.brT omX7_tear rfl rfl rfl (by decide) ?_
    repeat (first | refine V.s omX7_tear rfl rfl ?_ | refine V.gf omX7_tear rfl rfl rfl rfl ?_ | refine V.pfH omX7_tear rfl rfl rfl rfl rfl rfl rfl ?_)
    exact V.iret omX7_tear rfl rfl ⟨rfl, rfl⟩
  · rw [hz]
    refine V.brF omX7_tear rfl rfl (by decide) ?_
    repeat (first | refine V.s omX7_tear rfl rfl ?_ | refine V.gf omX7_tear rfl rfl rfl rfl ?_ | refine V.pfH omX7_tear rfl rfl rfl rfl rfl rfl rfl ?_)
    exact V.iret omX7_tear rfl rfl ⟨rfl, rfl⟩
def s7_row (A : Nat → Nat → Int32) (r : Int32) : Int32 × (Nat → Nat → Int32) := if A 0 11 = 0 then (0, rfA A 2) else if 0 ≤ r ∧ r < 16 then (A 31 (cl r), A) else (0, rfA A 3)
theorem c7_row (d : Nat) (r : Int32) : C mX7_row (d + 1) 0 0 [.ref 0, .int r] (hp A B) (fun r' h' => h' = hp (s7_row A r).2 B ∧ r' = some (.int (s7_row A r).1)) := by
  refine C.of [some (.ref 0), some (.int r)] omX7_row rfl rfl rfl ?_
  repeat (first | refine V.s omX7_row rfl rfl ?_ | refine V.gf omX7_row rfl rfl rfl rfl ?_)
  by_cases hz : A 0 11 = 0
  · simp only [s7_row, if_pos hz]
    refine V.brF omX7_row rfl rfl (fun h => h hz) ?_
    repeat (first | refine V.s omX7_row rfl rfl ?_ | refine V.gf omX7_row rfl rfl rfl rfl ?_ | refine V.cVf omX7_row omX7_refuseByZero rfl rfl (c_refuseByZero _ _ (by decide)) rfl rfl rfl rfl rfl rfl ?_)
    exact V.iret omX7_row rfl rfl ⟨rfl, rfl⟩
  · simp only [s7_row, if_neg hz]
    refine V.brT omX7_row rfl rfl hz (fun h => h) ?_
    by_cases h2 : 0 ≤ r ∧ r < 16
    · simp only [if_pos h2]
      obtain ⟨c, hc, rfl⟩ := rng (n := 16) (by decide) h2
      simp only [cl_nI (show c < 20 by omega)]
      repeat (first | refine V.s omX7_row rfl rfl ?_ | refine V.gf omX7_row rfl rfl rfl rfl ?_ | refine V.brF omX7_row rfl rfl (Int32.not_lt.mpr h2.1) ?_ | refine V.brF omX7_row rfl rfl (Int32.not_le.mpr h2.2) ?_ | refine V.ial omX7_row rfl rfl (ixN nv_nI (by omega) (by decide)) ?_)
      exact V.iret omX7_row rfl rfl ⟨rfl, rfl⟩
    · simp only [if_neg h2]
      repeat' (first | refine V.s omX7_row rfl rfl ?_ | refine V.gf omX7_row rfl rfl rfl rfl ?_ | simp only [Int32.reduceAdd, Int32.reduceMul, Int32.reduceSub] | refine V.brF omX7_row rfl rfl (by decide) ?_ | refine V.brT omX7_row rfl rfl (by decide) (by decide) ?_ | refine V.cVf omX7_row omX7_refuseByZero rfl rfl (c_refuseByZero _ _ (by decide)) rfl rfl rfl rfl rfl rfl ?_ | refine V.br omX7_row rfl rfl (fun hc => ?_) (fun hc => ?_))
      all_goals first | exact V.iret omX7_row rfl rfl ⟨rfl, rfl⟩ | skip
      exact absurd ⟨by assumption, by assumption⟩ h2
def s7_status (A : Nat → Nat → Int32) (r : Int32) : Int32 × (Nat → Nat → Int32) := if r ≤ -2 ∧ -8 ≤ r then (A 32 (rfI r), A) else (-7, rfA A 7)
theorem st_ix {r : Int32} (h : r ≤ -2 ∧ -8 ≤ r) : ix (-r) (rfI r) 9 := by
  refine ⟨rfl, vp_in_iff.mpr ?_⟩
  have h1 := Int32.le_iff_toInt_le.mp h.1
  have h2 := Int32.le_iff_toInt_le.mp h.2
  have e1 : (-2 : Int32).toInt = -2 := by decide
  have e2 : (-8 : Int32).toInt = -8 := by decide
  rw [e1] at h1
  rw [e2] at h2
  rw [Int32.toInt_neg, Int.bmod_def]
  split <;> omega
theorem c7_status (d : Nat) (r : Int32) : C mX7_status (d + 1) 0 0 [.ref 0, .int r] (hp A B) (fun r' h' => h' = hp (s7_status A r).2 B ∧ r' = some (.int (s7_status A r).1)) := by
  refine C.of [some (.ref 0), some (.int r)] omX7_status rfl rfl rfl ?_
  by_cases h2 : r ≤ -2 ∧ -8 ≤ r
  · simp only [s7_status, if_pos h2]
    repeat (first | refine V.s omX7_status rfl rfl ?_ | refine V.gf omX7_status rfl rfl rfl rfl ?_ | refine V.brF omX7_status rfl rfl (Int32.not_lt.mpr h2.1) ?_ | refine V.brF omX7_status rfl rfl (Int32.not_lt.mpr h2.2) ?_)
    refine V.ial omX7_status rfl rfl (st_ix h2) ?_
    refine V.s omX7_status rfl rfl ?_
    exact V.iret omX7_status rfl rfl ⟨rfl, rfl⟩
  · simp only [s7_status, if_neg h2]
    repeat' (first | refine V.s omX7_status rfl rfl ?_ | refine V.gf omX7_status rfl rfl rfl rfl ?_ | simp only [Int32.reduceAdd, Int32.reduceMul, Int32.reduceSub] | refine V.brF omX7_status rfl rfl (by decide) ?_ | refine V.brT omX7_status rfl rfl (by decide) (by decide) ?_ | refine V.cVf omX7_status omX7_refuse rfl rfl (c_refuse _ _ (by decide)) rfl rfl rfl rfl rfl rfl ?_ | refine V.br omX7_status rfl rfl (fun hc => ?_) (fun hc => ?_))
    all_goals first | exact V.iret omX7_status rfl rfl ⟨rfl, rfl⟩ | skip
    exact absurd ⟨by assumption, by assumption⟩ h2
end RK4
