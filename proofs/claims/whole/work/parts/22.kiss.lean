section RK3
variable {A : Nat → Nat → Int32} {B : Nat → Nat → Int64}
theorem c_hasKiss (d : Nat) (r : Int32) : C mX7_hasKiss d 0 0 [.ref 0, .int r] (hp A B) (fun r' h' => h' = hp A B ∧ r' = some (.int (if 0 ≤ r ∧ r < A 0 9 then 1 else 0))) := by
  refine C.of [some (.ref 0), some (.int r)] omX7_hasKiss rfl rfl rfl ?_
  repeat' (first | refine V.s omX7_hasKiss rfl rfl ?_ | refine V.gf omX7_hasKiss rfl rfl rfl rfl ?_ | refine V.br omX7_hasKiss rfl rfl (fun hc => ?_) (fun hc => ?_))
  all_goals refine V.zret omX7_hasKiss rfl rfl (by decide) ⟨rfl, ?_⟩
  all_goals simp only [← Int32.not_lt] at *
  all_goals simp [*]
theorem c_hkY (d : Nat) {r : Int32} (h : 0 ≤ r ∧ r < A 0 9) : C mX7_hasKiss d 0 0 [.ref 0, .int r] (hp A B) (fun r' h' => h' = hp A B ∧ r' = some (.int 1)) := by
  have h1 := c_hasKiss (A := A) (B := B) d r
  rwa [if_pos h] at h1
theorem c_hkN (d : Nat) {r : Int32} (h : ¬ (0 ≤ r ∧ r < A 0 9)) : C mX7_hasKiss d 0 0 [.ref 0, .int r] (hp A B) (fun r' h' => h' = hp A B ∧ r' = some (.int 0)) := by
  have h1 := c_hasKiss (A := A) (B := B) d r
  rwa [if_neg h] at h1
theorem c_hasPlace (d : Nat) (r p : Int32) : C mX7_hasPlace (d + 1) 0 0 [.ref 0, .int r, .int p] (hp A B) (fun r' h' => h' = hp A B ∧ r' = some (.int (if (0 ≤ r ∧ r < A 0 9) ∧ 0 ≤ p ∧ p < 4 then 1 else 0))) := by
  refine C.of [some (.ref 0), some (.int r), some (.int p)] omX7_hasPlace rfl rfl rfl ?_
  by_cases h1 : 0 ≤ r ∧ r < A 0 9
  · repeat' (first | refine V.s omX7_hasPlace rfl rfl ?_ | refine V.gf omX7_hasPlace rfl rfl rfl rfl ?_ | simp only [Int32.reduceAdd, Int32.reduceMul, Int32.reduceSub] | refine V.brF omX7_hasPlace rfl rfl (by decide) ?_ | refine V.brT omX7_hasPlace rfl rfl (by decide) (by decide) ?_ | refine V.cVf omX7_hasPlace omX7_hasKiss rfl rfl (c_hkY _ h1) rfl rfl rfl rfl rfl rfl ?_ | refine V.br omX7_hasPlace rfl rfl (fun hc => ?_) (fun hc => ?_))
    all_goals refine V.zret omX7_hasPlace rfl rfl (by decide) ⟨rfl, ?_⟩
    all_goals simp only [← Int32.not_lt] at *
    all_goals simp [*]
  · repeat' (first | refine V.s omX7_hasPlace rfl rfl ?_ | refine V.gf omX7_hasPlace rfl rfl rfl rfl ?_ | simp only [Int32.reduceAdd, Int32.reduceMul, Int32.reduceSub] | refine V.brF omX7_hasPlace rfl rfl (by decide) ?_ | refine V.brT omX7_hasPlace rfl rfl (by decide) (by decide) ?_ | refine V.cVf omX7_hasPlace omX7_hasKiss rfl rfl (c_hkN _ h1) rfl rfl rfl rfl rfl rfl ?_ | refine V.br omX7_hasPlace rfl rfl (fun hc => ?_) (fun hc => ?_))
    all_goals refine V.zret omX7_hasPlace rfl rfl (by decide) ⟨rfl, ?_⟩
    all_goals rw [if_neg (fun h => h1 h.1)]
theorem c_hpY (d : Nat) {r p : Int32} (h : (0 ≤ r ∧ r < A 0 9) ∧ 0 ≤ p ∧ p < 4) : C mX7_hasPlace (d + 1) 0 0 [.ref 0, .int r, .int p] (hp A B) (fun r' h' => h' = hp A B ∧ r' = some (.int 1)) := by
  have h1 := c_hasPlace (A := A) (B := B) d r p
  rwa [if_pos h] at h1
theorem c_hpN (d : Nat) {r p : Int32} (h : ¬ ((0 ≤ r ∧ r < A 0 9) ∧ 0 ≤ p ∧ p < 4)) : C mX7_hasPlace (d + 1) 0 0 [.ref 0, .int r, .int p] (hp A B) (fun r' h' => h' = hp A B ∧ r' = some (.int 0)) := by
  have h1 := c_hasPlace (A := A) (B := B) d r p
  rwa [if_neg h] at h1
def s7_part (A : Nat → Nat → Int32) (m : Nat) : Int32 × (Nat → Nat → Int32) := if m = 0 then (-2, rfA A 2) else (nI (m - 1), va_up A 0 (upd (A 0) 9 (nI (m - 1))))
theorem c7_part (d : Nat) {m : Nat} (hm : A 0 9 = nI m) (h6 : m ≤ 6) : C mX7_part (d + 1) 0 0 [.ref 0] (hp A B) (fun r h' => h' = hp (s7_part A m).2 B ∧ r = some (.int (s7_part A m).1)) := by
  refine C.of [some (.ref 0)] omX7_part rfl rfl rfl ?_
  repeat (first | refine V.s omX7_part rfl rfl ?_ | refine V.gf omX7_part rfl rfl rfl rfl ?_)
  rw [hm]
  cases m with
  | zero =>
    refine V.brF omX7_part rfl rfl (by decide) ?_
    repeat (first | refine V.s omX7_part rfl rfl ?_ | refine V.gf omX7_part rfl rfl rfl rfl ?_ | refine V.cVf omX7_part omX7_refuse rfl rfl (c_refuse _ _ (by decide)) rfl rfl rfl rfl rfl rfl ?_)
    exact V.iret omX7_part rfl rfl ⟨rfl, rfl⟩
  | succ m =>
    refine V.brT omX7_part rfl rfl (nI_ne0 (by omega) (by omega)) (fun h => h) ?_
    repeat (first | refine V.s omX7_part rfl rfl ?_ | refine V.gf omX7_part rfl rfl rfl rfl ?_)
    rw [hm, nI_pred]
    repeat (first | refine V.s omX7_part rfl rfl ?_ | refine V.gf omX7_part rfl rfl rfl rfl ?_ | refine V.pfH omX7_part rfl rfl rfl rfl rfl rfl rfl ?_)
    simp only [va_up_self, pk_us]
    exact V.iret omX7_part rfl rfl ⟨rfl, rfl⟩
def s7_of (A : Nat → Nat → Int32) (m : Nat) (r p w : Int32) : Int32 × (Nat → Nat → Int32) := if (0 ≤ r ∧ r < nI m) ∧ 0 ≤ p ∧ p < 4 then (if 0 ≤ w ∧ w < 4 then (A (8 + 2 * cl r) (4 * cl p + cl w), A) else (0, rfA A 7)) else (0, rfA A 3)
set_option maxHeartbeats 4000000 in
set_option maxRecDepth 100000 in
theorem c7_of (d : Nat) {m : Nat} (hm : A 0 9 = nI m) (h6 : m ≤ 6) (r p w : Int32) : C mX7_of (d + 2) 0 0 [.ref 0, .int r, .int p, .int w] (hp A B) (fun r' h' => h' = hp (s7_of A m r p w).2 B ∧ r' = some (.int (s7_of A m r p w).1)) := by
  refine C.of [some (.ref 0), some (.int r), some (.int p), some (.int w)] omX7_of rfl rfl rfl ?_
  by_cases h1 : (0 ≤ r ∧ r < A 0 9) ∧ 0 ≤ p ∧ p < 4
  · repeat (first | refine V.s omX7_of rfl rfl ?_ | refine V.gf omX7_of rfl rfl rfl rfl ?_ | refine V.brF omX7_of rfl rfl (by decide) ?_ | refine V.brT omX7_of rfl rfl (by decide) (by decide) ?_ | refine V.cVf omX7_of omX7_hasPlace rfl rfl (c_hpY _ h1) rfl rfl rfl rfl rfl rfl ?_)
    rw [hm] at h1
    simp only [s7_of, if_pos h1]
    by_cases h2 : 0 ≤ w ∧ w < 4
    · simp only [if_pos h2]
      refine V.brF omX7_of rfl rfl (Int32.not_lt.mpr h2.1) ?_
      repeat (first | refine V.s omX7_of rfl rfl ?_ | refine V.gf omX7_of rfl rfl rfl rfl ?_)
      refine V.brT omX7_of rfl rfl h2.2 Int32.not_le.mpr ?_
      obtain ⟨i, hi, rfl⟩ := rng (by omega) h1.1
      obtain ⟨j, hj, rfl⟩ := rng (n := 4) (by decide) h1.2
      obtain ⟨c, hc, rfl⟩ := rng (n := 4) (by decide) h2
      simp only [cl_nI (show i < 20 by omega), cl_nI (show j < 20 by omega), cl_nI (show c < 20 by omega)]
      repeat (first | refine V.s omX7_of rfl rfl ?_ | refine V.gf omX7_of rfl rfl rfl rfl ?_ | refine V.aal omX7_of rfl rfl (ixN nv_nI (show i < 6 by omega) (by decide)) (kisF_at (show i < 6 by omega)) ?_)
      refine V.cVf omX7_of omX4_number rfl rfl (c_number _ (show i < 8 by omega) nv_nI nv_nI hj hc) rfl rfl (hpQ (show i < 8 by omega)) rfl rfl rfl ?_
      exact V.iret omX7_of rfl rfl ⟨rfl, rfl⟩
    · simp only [if_neg h2]
      repeat' (first | refine V.s omX7_of rfl rfl ?_ | refine V.gf omX7_of rfl rfl rfl rfl ?_ | simp only [Int32.reduceAdd, Int32.reduceMul, Int32.reduceSub] | refine V.brF omX7_of rfl rfl (by decide) ?_ | refine V.brT omX7_of rfl rfl (by decide) (by decide) ?_ | refine V.cVf omX7_of omX7_refuseByZero rfl rfl (c_refuseByZero _ _ (by decide)) rfl rfl rfl rfl rfl rfl ?_ | refine V.br omX7_of rfl rfl (fun hc => ?_) (fun hc => ?_))
      all_goals first | exact V.iret omX7_of rfl rfl ⟨rfl, rfl⟩ | skip
      exact absurd ⟨by assumption, by assumption⟩ h2
  · repeat (first | refine V.s omX7_of rfl rfl ?_ | refine V.gf omX7_of rfl rfl rfl rfl ?_ | refine V.brF omX7_of rfl rfl (by decide) ?_ | refine V.brT omX7_of rfl rfl (by decide) (by decide) ?_ | refine V.cVf omX7_of omX7_hasPlace rfl rfl (c_hpN _ h1) rfl rfl rfl rfl rfl rfl ?_ | refine V.cVf omX7_of omX7_refuseByZero rfl rfl (c_refuseByZero _ _ (by decide)) rfl rfl rfl rfl rfl rfl ?_)
    rw [hm] at h1
    exact V.iret omX7_of rfl rfl (by simp only [s7_of, if_neg h1] <;> (refine ⟨?_, ?_⟩ <;> first | rfl | trivial))
def s7_height (A : Nat → Nat → Int32) (m : Nat) (r : Int32) : Int64 × (Nat → Nat → Int32) := if 0 ≤ r ∧ r < nI m then (bsm (A (8 + 2 * cl r)), A) else (0, rfA A 3)
set_option maxHeartbeats 4000000 in
set_option maxRecDepth 100000 in
theorem c7_height (d : Nat) {m : Nat} (hm : A 0 9 = nI m) (h6 : m ≤ 6) (r : Int32) : C mX7_height (d + 2) 0 0 [.ref 0, .int r] (hp A B) (fun r' h' => h' = hp (s7_height A m r).2 B ∧ r' = some (.long (s7_height A m r).1)) := by
  refine C.of [some (.ref 0), some (.int r)] omX7_height rfl rfl rfl ?_
  by_cases h1 : 0 ≤ r ∧ r < A 0 9
  · repeat (first | refine V.s omX7_height rfl rfl ?_ | refine V.gf omX7_height rfl rfl rfl rfl ?_ | refine V.brF omX7_height rfl rfl (by decide) ?_ | refine V.brT omX7_height rfl rfl (by decide) (by decide) ?_ | refine V.cVf omX7_height omX7_hasKiss rfl rfl (c_hkY _ h1) rfl rfl rfl rfl rfl rfl ?_)
    rw [hm] at h1
    simp only [s7_height, if_pos h1]
    obtain ⟨i, hi, rfl⟩ := rng (by omega) h1
    simp only [cl_nI (show i < 20 by omega)]
    refine V.aal omX7_height rfl rfl (ixN nv_nI (show i < 6 by omega) (by decide)) (kisF_at (show i < 6 by omega)) ?_
    refine V.cVf omX7_height omX4_bendSum rfl rfl (c_bendSum _ (show i < 8 by omega)) rfl rfl (hpQ (show i < 8 by omega)) rfl rfl rfl ?_
    refine V.s omX7_height rfl rfl ?_
    exact V.lret omX7_height rfl rfl ⟨rfl, rfl⟩
  · repeat (first | refine V.s omX7_height rfl rfl ?_ | refine V.gf omX7_height rfl rfl rfl rfl ?_ | refine V.brF omX7_height rfl rfl (by decide) ?_ | refine V.brT omX7_height rfl rfl (by decide) (by decide) ?_ | refine V.cVf omX7_height omX7_hasKiss rfl rfl (c_hkN _ h1) rfl rfl rfl rfl rfl rfl ?_ | refine V.cVf omX7_height omX7_refuseByZero rfl rfl (c_refuseByZero _ _ (by decide)) rfl rfl rfl rfl rfl rfl ?_)
    rw [hm] at h1
    exact V.lret omX7_height rfl rfl (by simp only [s7_height, if_neg h1] <;> (refine ⟨?_, ?_⟩ <;> first | rfl | trivial))
def s7_fourth (A : Nat → Nat → Int32) (m : Nat) (r p : Int32) : Int64 × (Nat → Nat → Int32) := if (0 ≤ r ∧ r < nI m) ∧ 0 ≤ p ∧ p < 4 then (swp (A (8 + 2 * cl r)) (cl p) 0, A) else (0, rfA A 3)
set_option maxHeartbeats 4000000 in
set_option maxRecDepth 100000 in
theorem c7_fourth (d : Nat) {m : Nat} (hm : A 0 9 = nI m) (h6 : m ≤ 6) (r p : Int32) : C mX7_fourth (d + 2) 0 0 [.ref 0, .int r, .int p] (hp A B) (fun r' h' => h' = hp (s7_fourth A m r p).2 B ∧ r' = some (.long (s7_fourth A m r p).1)) := by
  refine C.of [some (.ref 0), some (.int r), some (.int p)] omX7_fourth rfl rfl rfl ?_
  by_cases h1 : (0 ≤ r ∧ r < A 0 9) ∧ 0 ≤ p ∧ p < 4
  · repeat (first | refine V.s omX7_fourth rfl rfl ?_ | refine V.gf omX7_fourth rfl rfl rfl rfl ?_ | refine V.brF omX7_fourth rfl rfl (by decide) ?_ | refine V.brT omX7_fourth rfl rfl (by decide) (by decide) ?_ | refine V.cVf omX7_fourth omX7_hasPlace rfl rfl (c_hpY _ h1) rfl rfl rfl rfl rfl rfl ?_)
    rw [hm] at h1
    simp only [s7_fourth, if_pos h1]
    obtain ⟨i, hi, rfl⟩ := rng (by omega) h1.1
    obtain ⟨j, hj, rfl⟩ := rng (n := 4) (by decide) h1.2
    simp only [cl_nI (show i < 20 by omega), cl_nI (show j < 20 by omega)]
    refine V.aal omX7_fourth rfl rfl (ixN nv_nI (show i < 6 by omega) (by decide)) (kisF_at (show i < 6 by omega)) ?_
    repeat (first | refine V.s omX7_fourth rfl rfl ?_ | refine V.gf omX7_fourth rfl rfl rfl rfl ?_)
    refine V.cVf omX7_fourth omX4_swapped rfl rfl (c_swapped _ (show i < 8 by omega) nv_nI nv_lit hj (by decide)) rfl rfl (hpQ (show i < 8 by omega)) rfl rfl rfl ?_
    refine V.s omX7_fourth rfl rfl ?_
    exact V.lret omX7_fourth rfl rfl ⟨rfl, rfl⟩
  · repeat (first | refine V.s omX7_fourth rfl rfl ?_ | refine V.gf omX7_fourth rfl rfl rfl rfl ?_ | refine V.brF omX7_fourth rfl rfl (by decide) ?_ | refine V.brT omX7_fourth rfl rfl (by decide) (by decide) ?_ | refine V.cVf omX7_fourth omX7_hasPlace rfl rfl (c_hpN _ h1) rfl rfl rfl rfl rfl rfl ?_ | refine V.cVf omX7_fourth omX7_refuseByZero rfl rfl (c_refuseByZero _ _ (by decide)) rfl rfl rfl rfl rfl rfl ?_)
    rw [hm] at h1
    exact V.lret omX7_fourth rfl rfl (by simp only [s7_fourth, if_neg h1] <;> (refine ⟨?_, ?_⟩ <;> first | rfl | trivial))
def s7_swap (A : Nat → Nat → Int32) (m : Nat) (r p : Int32) : Int32 × (Nat → Nat → Int32) := if (0 ≤ r ∧ r < nI m) ∧ 0 ≤ p ∧ p < 4 then (if fit4 (A (8 + 2 * cl r)) (cl p) then (1, va_up A (8 + 2 * cl r) (sw4 (A (8 + 2 * cl r)) (cl p))) else (-8, rfA A 8)) else (-3, rfA A 3)
set_option maxHeartbeats 4000000 in
set_option maxRecDepth 100000 in
theorem c7_swap (d : Nat) {m : Nat} (hm : A 0 9 = nI m) (h6 : m ≤ 6) (r p : Int32) : C mX7_swap (d + 2) 0 0 [.ref 0, .int r, .int p] (hp A B) (fun r' h' => h' = hp (s7_swap A m r p).2 B ∧ r' = some (.int (s7_swap A m r p).1)) := by
  refine C.of [some (.ref 0), some (.int r), some (.int p)] omX7_swap rfl rfl rfl ?_
  by_cases h1 : (0 ≤ r ∧ r < A 0 9) ∧ 0 ≤ p ∧ p < 4
  · repeat (first | refine V.s omX7_swap rfl rfl ?_ | refine V.gf omX7_swap rfl rfl rfl rfl ?_ | refine V.brF omX7_swap rfl rfl (by decide) ?_ | refine V.brT omX7_swap rfl rfl (by decide) (by decide) ?_ | refine V.cVf omX7_swap omX7_hasPlace rfl rfl (c_hpY _ h1) rfl rfl rfl rfl rfl rfl ?_)
    rw [hm] at h1
    simp only [s7_swap, if_pos h1]
    obtain ⟨i, hi, rfl⟩ := rng (by omega) h1.1
    obtain ⟨j, hj, rfl⟩ := rng (n := 4) (by decide) h1.2
    simp only [cl_nI (show i < 20 by omega), cl_nI (show j < 20 by omega)]
    refine V.aal omX7_swap rfl rfl (ixN nv_nI (show i < 6 by omega) (by decide)) (kisF_at (show i < 6 by omega)) ?_
    repeat (first | refine V.s omX7_swap rfl rfl ?_ | refine V.gf omX7_swap rfl rfl rfl rfl ?_)
    by_cases h2 : fit4 (A (8 + 2 * i)) j
    · have ct := c_trySwap4 (A := A) (B := B) d (show i < 8 by omega) (nv_nI (a := j)) hj
      rw [if_pos h2, if_pos h2] at ct
      refine V.cVf omX7_swap omX4_trySwap rfl rfl ct rfl rfl (hpQ (show i < 8 by omega)) rfl rfl rfl ?_
      refine V.brF omX7_swap rfl rfl (by decide) ?_
      repeat (first | refine V.s omX7_swap rfl rfl ?_ | refine V.gf omX7_swap rfl rfl rfl rfl ?_)
      exact V.iret omX7_swap rfl rfl (by rw [if_pos h2]; exact ⟨rfl, rfl⟩)
    · have ct := c_trySwap4 (A := A) (B := B) d (show i < 8 by omega) (nv_nI (a := j)) hj
      rw [if_neg h2, if_neg h2] at ct
      refine V.cVf omX7_swap omX4_trySwap rfl rfl ct rfl rfl (hpQ (show i < 8 by omega)) rfl rfl rfl ?_
      refine V.brT omX7_swap rfl rfl rfl (by decide) ?_
      repeat (first | refine V.s omX7_swap rfl rfl ?_ | refine V.gf omX7_swap rfl rfl rfl rfl ?_ | refine V.cVf omX7_swap omX7_refuse rfl rfl (c_refuse _ _ (by decide)) rfl rfl rfl rfl rfl rfl ?_)
      exact V.iret omX7_swap rfl rfl (by rw [if_neg h2]; exact ⟨rfl, rfl⟩)
  · repeat (first | refine V.s omX7_swap rfl rfl ?_ | refine V.gf omX7_swap rfl rfl rfl rfl ?_ | refine V.brF omX7_swap rfl rfl (by decide) ?_ | refine V.brT omX7_swap rfl rfl (by decide) (by decide) ?_ | refine V.cVf omX7_swap omX7_hasPlace rfl rfl (c_hpN _ h1) rfl rfl rfl rfl rfl rfl ?_ | refine V.cVf omX7_swap omX7_refuse rfl rfl (c_refuse _ _ (by decide)) rfl rfl rfl rfl rfl rfl ?_)
    rw [hm] at h1
    exact V.iret omX7_swap rfl rfl (by simp only [s7_swap, if_neg h1] <;> (refine ⟨?_, ?_⟩ <;> first | rfl | trivial))
end RK3
