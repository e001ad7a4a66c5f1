section MDD
variable {A : Nat → Nat → Int32} {B : Nat → Nat → Int64}
theorem is8_01 (b : Nat → Int64) : is8 b = 0 ∨ is8 b = 1 := by unfold is8; split <;> simp
theorem c8_is (d : Nat) (b : Nat → Int64) : C mX8_isShut d 0 0 [.ref 33] (hp A (va_up B 41 b)) (fun r h' => h' = hp A (va_up B 41 b) ∧ r = some (.int (is8 b))) := by
  have h := c8_isShut (A := A) (B := va_up B 41 b) d
  rwa [va_up_self] at h
def s8_shut (A : Nat → Nat → Int32) (m : Nat) (r : Int32) (b' : Nat → Int64) : Int32 × (Nat → Nat → Int32) := if wn8 A m r = 0 then (is8 b', A) else (wn8 A m r, rmA A (rfI (wn8 A m r)))
set_option maxHeartbeats 4000000 in
set_option maxRecDepth 100000 in
theorem c8_shut (d : Nat) {m n : Nat} (hm : A 33 6 = nI m) (h6 : m ≤ 6) (r : Int32) (b' : Nat → Int64) (hL : wn8 A m r = 0 → ldF n (bq (B 41) (A 38) (cl r)) = some b') : C mX8_shut (d + 2) 0 0 [.ref 33, .int r] (hp A B) (fun r' h' => (∃ B', h' = hp (s8_shut A m r b').2 B') ∧ r' = some (.int (s8_shut A m r b').1)) := by
  refine C.of [some (.ref 33), some (.int r)] omX8_shut rfl rfl rfl ?_
  by_cases h1 : 0 ≤ r ∧ r < A 33 6
  · iterate 2 (refine V.s omX8_shut rfl rfl ?_)
    refine V.cVf omX8_shut omX8_isKiss rfl rfl (c8_ikY _ h1) rfl rfl rfl rfl rfl rfl ?_
    refine V.brT omX8_shut rfl rfl (by decide) (by decide) ?_
    rw [hm] at h1
    iterate 2 (refine V.s omX8_shut rfl rfl ?_)
    have hw : wn8 A m r = if 0 < bs8 (kz (A 38) (cl r)) then 0 else -7 := by unfold wn8; rw [if_pos h1]
    obtain ⟨i, hi, rfl⟩ := rng (by omega) h1
    simp only [s8_shut, hw]
    rw [hw] at hL
    simp only [cl_nI (show i < 20 by omega)] at hL ⊢
    refine V.cVf omX8_shut omX8_heightOf rfl rfl (c8_heightOf _ (show i < 6 by omega) nv_nI) rfl rfl rfl rfl rfl rfl ?_
    iterate 2 (refine V.s omX8_shut rfl rfl ?_)
    by_cases h2 : 0 < bs8 (kz (A 38) i)
    · refine V.brT omX8_shut rfl rfl (lgc_gt.mpr h2) (fun h => Int32.not_le.mpr h) ?_
      simp only [if_pos h2, if_true] at hL ⊢
      iterate 2 (refine V.s omX8_shut rfl rfl ?_)
      refine V.cVv omX8_shut omX8_leads rfl rfl (c8_leads d (show i < 6 by omega) nv_nI (hL trivial)) rfl rfl rfl rfl rfl rfl ?_
      refine V.s omX8_shut rfl rfl ?_
      refine V.cVf omX8_shut omX8_isShut rfl rfl (c8_is _ b') rfl rfl rfl rfl rfl rfl ?_
      rcases is8_01 b' with h3 | h3
      · rw [h3]
        refine V.brT omX8_shut rfl rfl rfl (by decide) ?_
        refine V.s omX8_shut rfl rfl ?_
        exact V.iret omX8_shut rfl rfl ⟨⟨_, rfl⟩, rfl⟩
      · rw [h3]
        refine V.brF omX8_shut rfl rfl (by decide) ?_
        iterate 2 (refine V.s omX8_shut rfl rfl ?_)
        exact V.iret omX8_shut rfl rfl ⟨⟨_, rfl⟩, rfl⟩
    · refine V.brF omX8_shut rfl rfl (fun h => h2 (lgc_gt.mp h)) ?_
      simp only [if_neg h2]
      repeat (first | refine V.s omX8_shut rfl rfl ?_ | refine V.gf omX8_shut rfl rfl rfl rfl ?_ | refine V.cVf omX8_shut omX8_no rfl rfl (c8_no _ _ (by decide)) rfl rfl rfl rfl rfl rfl ?_)
      exact V.iret omX8_shut rfl rfl ⟨⟨B, rfl⟩, rfl⟩
  · iterate 2 (refine V.s omX8_shut rfl rfl ?_)
    refine V.cVf omX8_shut omX8_isKiss rfl rfl (c8_ikN _ h1) rfl rfl rfl rfl rfl rfl ?_
    refine V.brF omX8_shut rfl rfl (by decide) ?_
    rw [hm] at h1
    repeat (first | refine V.s omX8_shut rfl rfl ?_ | refine V.gf omX8_shut rfl rfl rfl rfl ?_ | refine V.cVf omX8_shut omX8_no rfl rfl (c8_no _ _ (by decide)) rfl rfl rfl rfl rfl rfl ?_)
    have hw : wn8 A m r = -3 := by unfold wn8; rw [if_neg h1]
    simp only [s8_shut, hw]
    exact V.iret omX8_shut rfl rfl ⟨⟨B, rfl⟩, rfl⟩
def wy8 (A : Nat → Nat → Int32) (m : Nat) (r n lo hi : Int32) (b' : Nat → Int64) : Int32 := if wn8 A m r = 0 then (if is8 b' = 1 ∧ lo ≤ n ∧ n ≤ hi then 0 else -7) else wn8 A m r
set_option maxHeartbeats 4000000 in
set_option maxRecDepth 100000 in
theorem c8_whyNot (d : Nat) {m n : Nat} (hm : A 33 6 = nI m) (h6 : m ≤ 6) (r w lo hi : Int32) (b' : Nat → Int64) (hL : wn8 A m r = 0 → ldF n (bq (B 41) (A 38) (cl r)) = some b') : C mX8_whyNot (d + 2) 0 0 [.ref 33, .int r, .int w, .int lo, .int hi] (hp A B) (fun r' h' => h' = hp A (if wn8 A m r = 0 then va_up B 41 b' else B) ∧ r' = some (.int (wy8 A m r w lo hi b'))) := by
  refine C.of [some (.ref 33), some (.int r), some (.int w), some (.int lo), some (.int hi)] omX8_whyNot rfl rfl rfl ?_
  by_cases h1 : 0 ≤ r ∧ r < A 33 6
  · iterate 2 (refine V.s omX8_whyNot rfl rfl ?_)
    refine V.cVf omX8_whyNot omX8_isKiss rfl rfl (c8_ikY _ h1) rfl rfl rfl rfl rfl rfl ?_
    refine V.brT omX8_whyNot rfl rfl (by decide) (by decide) ?_
    rw [hm] at h1
    iterate 2 (refine V.s omX8_whyNot rfl rfl ?_)
    have hw : wn8 A m r = if 0 < bs8 (kz (A 38) (cl r)) then 0 else -7 := by unfold wn8; rw [if_pos h1]
    obtain ⟨i, hi', rfl⟩ := rng (by omega) h1
    simp only [wy8, hw]
    rw [hw] at hL
    simp only [cl_nI (show i < 20 by omega)] at hL ⊢
    refine V.cVf omX8_whyNot omX8_heightOf rfl rfl (c8_heightOf _ (show i < 6 by omega) nv_nI) rfl rfl rfl rfl rfl rfl ?_
    iterate 2 (refine V.s omX8_whyNot rfl rfl ?_)
    by_cases h2 : 0 < bs8 (kz (A 38) i)
    · refine V.brT omX8_whyNot rfl rfl (lgc_gt.mpr h2) (fun h => Int32.not_le.mpr h) ?_
      simp only [if_pos h2, if_true] at hL ⊢
      iterate 2 (refine V.s omX8_whyNot rfl rfl ?_)
      refine V.cVv omX8_whyNot omX8_leads rfl rfl (c8_leads d (show i < 6 by omega) nv_nI (hL trivial)) rfl rfl rfl rfl rfl rfl ?_
      refine V.s omX8_whyNot rfl rfl ?_
      refine V.cVf omX8_whyNot omX8_isShut rfl rfl (c8_is _ b') rfl rfl rfl rfl rfl rfl ?_
      rcases is8_01 b' with h3 | h3
      · rw [h3]
        refine V.brT omX8_whyNot rfl rfl rfl (by decide) ?_
        refine V.s omX8_whyNot rfl rfl ?_
        exact V.iret omX8_whyNot rfl rfl ⟨rfl, rfl⟩
      · rw [h3]
        refine V.brF omX8_whyNot rfl rfl (by decide) ?_
        iterate 6 (refine V.s omX8_whyNot rfl rfl ?_)
        have ci := c8_isIn (d + 1) w.toInt64 lo.toInt64 hi.toInt64 (hp A (va_up B 41 b'))
        by_cases h4 : lo ≤ w ∧ w ≤ hi
        · rw [if_pos ⟨w_le.mpr h4.1, w_le.mpr h4.2⟩] at ci
          refine V.cSf omX8_whyNot omX8_isIn rfl rfl ci rfl rfl rfl rfl ?_
          refine V.brF omX8_whyNot rfl rfl (by decide) ?_
          iterate 2 (refine V.s omX8_whyNot rfl rfl ?_)
          exact V.iret omX8_whyNot rfl rfl ⟨rfl, by rw [if_pos ⟨rfl, h4⟩]⟩
        · rw [if_neg (fun h => h4 ⟨w_le.mp h.1, w_le.mp h.2⟩)] at ci
          refine V.cSf omX8_whyNot omX8_isIn rfl rfl ci rfl rfl rfl rfl ?_
          refine V.brT omX8_whyNot rfl rfl (by decide) (by decide) ?_
          refine V.s omX8_whyNot rfl rfl ?_
          exact V.iret omX8_whyNot rfl rfl ⟨rfl, by rw [if_neg (fun h => h4 h.2)]⟩
    · refine V.brF omX8_whyNot rfl rfl (fun h => h2 (lgc_gt.mp h)) ?_
      simp only [if_neg h2]
      refine V.s omX8_whyNot rfl rfl ?_
      exact V.iret omX8_whyNot rfl rfl ⟨rfl, rfl⟩
  · iterate 2 (refine V.s omX8_whyNot rfl rfl ?_)
    refine V.cVf omX8_whyNot omX8_isKiss rfl rfl (c8_ikN _ h1) rfl rfl rfl rfl rfl rfl ?_
    refine V.brF omX8_whyNot rfl rfl (by decide) ?_
    rw [hm] at h1
    refine V.s omX8_whyNot rfl rfl ?_
    have hw : wn8 A m r = -3 := by unfold wn8; rw [if_neg h1]
    simp only [wy8, hw]
    exact V.iret omX8_whyNot rfl rfl ⟨rfl, rfl⟩
theorem c8_so (d : Nat) (b : Nat → Int64) : C mX8_sorts d 0 0 [.ref 33] (hp A (va_up B 41 b)) (fun r h' => h' = hp A (va_up (va_up B 41 b) 43 (so8 b (B 43))) ∧ r = none) := by
  have h := c8_sorts (A := A) (B := va_up B 41 b) d
  rwa [va_up_self, va_up_ne _ _ (show (43 : Nat) ≠ 41 by decide)] at h
def eq8 (a b : Nat → Int64) : Int32 := if a 0 = b 0 ∧ a 1 = b 1 ∧ a 2 = b 2 ∧ a 3 = b 3 then 1 else 0
def s8_same (A : Nat → Nat → Int32) (m : Nat) (r o : Int32) (b1 b2 g : Nat → Int64) : Int32 × (Nat → Nat → Int32) := if (0 ≤ r ∧ r < nI m) ∧ (0 ≤ o ∧ o < nI m) then (if wn8 A m r = 0 ∧ wn8 A m o = 0 then (eq8 (so8 b1 g) (so8 b2 (so8 b1 g)), A) else (-7, rmA A 7)) else (-3, rmA A 3)
set_option maxHeartbeats 4000000 in
set_option maxRecDepth 100000 in
theorem same8_tail (d : Nat) (r o : Int32) (b1 b2 : Nat → Int64) (BB : Nat → Nat → Int64) : V mX8_same (d + 2) 0 0 (fun r' h' => (∃ B', h' = hp A B') ∧ r' = some (.int (eq8 b1 b2))) 0 0 99 [some (.ref 33), some (.int r), some (.int o), some (.long (b1 0)), none, some (.long (b1 1)), none, some (.long (b1 2)), none, some (.long (b1 3)), none] [] (hp A (va_up BB 43 b2)) := by
  repeat' (first | refine V.s omX8_same rfl rfl ?_ | refine V.gf omX8_same rfl rfl rfl rfl ?_ | simp only [Int32.reduceAdd, Int32.reduceMul, Int32.reduceSub] | refine V.brF omX8_same rfl rfl (by decide) ?_ | refine V.brT omX8_same rfl rfl (by decide) (by decide) ?_ | refine V.lal omX8_same rfl rfl (ixN nv_lit (by omega) (by decide)) ?_ | refine V.br omX8_same rfl rfl (fun hc => ?_) (fun hc => ?_))
  all_goals refine V.iret omX8_same rfl rfl ⟨⟨_, rfl⟩, ?_⟩
  all_goals simp only [lgc_eq, va_up_self] at *
  all_goals simp [eq8, *]
set_option maxHeartbeats 4000000 in
set_option maxRecDepth 100000 in
theorem c8_same (d : Nat) {m n n2 : Nat} (hm : A 33 6 = nI m) (h6 : m ≤ 6) (r o : Int32) (b1 b2 : Nat → Int64) (hL : wn8 A m r = 0 → ldF n (bq (B 41) (A 38) (cl r)) = some b1) (hL2 : wn8 A m o = 0 → ldF n2 (bq b1 (A 38) (cl o)) = some b2) : C mX8_same (d + 2) 0 0 [.ref 33, .int r, .int o] (hp A B) (fun r' h' => (∃ B', h' = hp (s8_same A m r o b1 b2 (B 43)).2 B') ∧ r' = some (.int (s8_same A m r o b1 b2 (B 43)).1)) := by
  refine C.of [some (.ref 33), some (.int r), some (.int o), none, none, none, none, none, none, none, none] omX8_same rfl rfl rfl ?_
  by_cases h1 : 0 ≤ r ∧ r < A 33 6
  · iterate 2 (refine V.s omX8_same rfl rfl ?_)
    refine V.cVf omX8_same omX8_isKiss rfl rfl (c8_ikY _ h1) rfl rfl rfl rfl rfl rfl ?_
    refine V.brF omX8_same rfl rfl (by decide) ?_
    iterate 2 (refine V.s omX8_same rfl rfl ?_)
    by_cases h2 : 0 ≤ o ∧ o < A 33 6
    · refine V.cVf omX8_same omX8_isKiss rfl rfl (c8_ikY _ h2) rfl rfl rfl rfl rfl rfl ?_
      refine V.brT omX8_same rfl rfl (by decide) (by decide) ?_
      rw [hm] at h1 h2
      have hh : (0 ≤ r ∧ r < nI m) ∧ (0 ≤ o ∧ o < nI m) := ⟨h1, h2⟩
      have hw : wn8 A m r = if 0 < bs8 (kz (A 38) (cl r)) then 0 else -7 := by unfold wn8; rw [if_pos h1]
      have hw2 : wn8 A m o = if 0 < bs8 (kz (A 38) (cl o)) then 0 else -7 := by unfold wn8; rw [if_pos h2]
      simp only [s8_same, if_pos hh, hw, hw2]
      rw [hw] at hL
      rw [hw2] at hL2
      obtain ⟨i, hi, rfl⟩ := rng (by omega) h1
      obtain ⟨j, hj, rfl⟩ := rng (by omega) h2
      simp only [cl_nI (show i < 20 by omega), cl_nI (show j < 20 by omega)] at hL hL2 ⊢
      iterate 2 (refine V.s omX8_same rfl rfl ?_)
      refine V.cVf omX8_same omX8_heightOf rfl rfl (c8_heightOf _ (show i < 6 by omega) nv_nI) rfl rfl rfl rfl rfl rfl ?_
      iterate 2 (refine V.s omX8_same rfl rfl ?_)
      by_cases h3 : 0 < bs8 (kz (A 38) i)
      · refine V.brF omX8_same rfl rfl (fun h => Int64.not_le.mpr h3 (lgc_le.mp h)) ?_
        simp only [if_pos h3, true_and, forall_const] at hL ⊢
        iterate 2 (refine V.s omX8_same rfl rfl ?_)
        refine V.cVf omX8_same omX8_heightOf rfl rfl (c8_heightOf _ (show j < 6 by omega) nv_nI) rfl rfl rfl rfl rfl rfl ?_
        iterate 2 (refine V.s omX8_same rfl rfl ?_)
        by_cases h4 : 0 < bs8 (kz (A 38) j)
        · refine V.brT omX8_same rfl rfl (lgc_gt.mpr h4) (fun h => Int32.not_le.mpr h) ?_
          simp only [if_pos h4, if_true, forall_const] at hL2 ⊢
          iterate 2 (refine V.s omX8_same rfl rfl ?_)
          refine V.cVv omX8_same omX8_leads rfl rfl (c8_leads d (show i < 6 by omega) nv_nI hL) rfl rfl rfl rfl rfl rfl ?_
          refine V.s omX8_same rfl rfl ?_
          refine V.cVv omX8_same omX8_sorts rfl rfl (c8_so _ b1) rfl rfl rfl rfl rfl rfl ?_
          repeat (first | refine V.s omX8_same rfl rfl ?_ | refine V.gf omX8_same rfl rfl rfl rfl ?_ | refine V.lal omX8_same rfl rfl (ixN nv_lit (by omega) (by decide)) ?_)
          rw [va_up_self]
          refine V.cVv omX8_same omX8_leads rfl rfl (c8_leads (B := va_up (va_up B 41 b1) 43 (so8 b1 (B 43))) (b' := b2) (n := n2) d (show j < 6 by omega) nv_nI (by rw [va_up_ne _ _ (show (41 : Nat) ≠ 43 by decide), va_up_self]; exact hL2)) rfl rfl rfl rfl rfl rfl ?_
          refine V.s omX8_same rfl rfl ?_
          refine V.cVv omX8_same omX8_sorts rfl rfl (c8_so _ b2) rfl rfl rfl rfl rfl rfl ?_
          rw [va_up_self]
          exact same8_tail d _ _ (so8 b1 (B 43)) _ _
        · refine V.brF omX8_same rfl rfl (fun h => h4 (lgc_gt.mp h)) ?_
          simp only [if_neg h4]
          repeat (first | refine V.s omX8_same rfl rfl ?_ | refine V.gf omX8_same rfl rfl rfl rfl ?_ | refine V.cVf omX8_same omX8_no rfl rfl (c8_no _ _ (by decide)) rfl rfl rfl rfl rfl rfl ?_)
          exact V.iret omX8_same rfl rfl ⟨⟨B, rfl⟩, rfl⟩
      · refine V.brT omX8_same rfl rfl (lgc_le.mpr (Int64.not_lt.mp h3)) (fun h => Int32.not_lt.mpr h) ?_
        simp only [if_neg h3]
        repeat (first | refine V.s omX8_same rfl rfl ?_ | refine V.gf omX8_same rfl rfl rfl rfl ?_ | refine V.cVf omX8_same omX8_no rfl rfl (c8_no _ _ (by decide)) rfl rfl rfl rfl rfl rfl ?_)
        exact V.iret omX8_same rfl rfl ⟨⟨B, rfl⟩, rfl⟩
    · refine V.cVf omX8_same omX8_isKiss rfl rfl (c8_ikN _ h2) rfl rfl rfl rfl rfl rfl ?_
      refine V.brF omX8_same rfl rfl (by decide) ?_
      rw [hm] at h2
      repeat (first | refine V.s omX8_same rfl rfl ?_ | refine V.gf omX8_same rfl rfl rfl rfl ?_ | refine V.cVf omX8_same omX8_no rfl rfl (c8_no _ _ (by decide)) rfl rfl rfl rfl rfl rfl ?_)
      simp only [s8_same, if_neg (show ¬ ((0 ≤ r ∧ r < nI m) ∧ (0 ≤ o ∧ o < nI m)) from fun h => h2 h.2)]
      exact V.iret omX8_same rfl rfl ⟨⟨B, rfl⟩, rfl⟩
  · iterate 2 (refine V.s omX8_same rfl rfl ?_)
    refine V.cVf omX8_same omX8_isKiss rfl rfl (c8_ikN _ h1) rfl rfl rfl rfl rfl rfl ?_
    refine V.brT omX8_same rfl rfl (by decide) (by decide) ?_
    rw [hm] at h1
    repeat (first | refine V.s omX8_same rfl rfl ?_ | refine V.gf omX8_same rfl rfl rfl rfl ?_ | refine V.cVf omX8_same omX8_no rfl rfl (c8_no _ _ (by decide)) rfl rfl rfl rfl rfl rfl ?_)
    simp only [s8_same, if_neg (show ¬ ((0 ≤ r ∧ r < nI m) ∧ (0 ≤ o ∧ o < nI m)) from fun h => h1 h.1)]
    exact V.iret omX8_same rfl rfl ⟨⟨B, rfl⟩, rfl⟩
end MDD
