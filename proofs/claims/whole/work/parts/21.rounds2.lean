section RK2
variable {A : Nat → Nat → Int32} {B : Nat → Nat → Int64}
def rr (n : Nat) (r : Int32) : Prop := 0 ≤ r ∧ r < nI n
def cl (r : Int32) : Nat := r.toNatClampNeg
theorem cl_nI {i : Nat} (h : i < 20) : cl (nI i) = i := nI_clamp (by omega)
def s7_meet (A : Nat → Nat → Int32) (n : Nat) (r o : Int32) : Int32 × (Nat → Nat → Int32) := if (0 ≤ r ∧ r < nI n) ∧ (0 ≤ o ∧ o < nI n) then (if alF (A 2) (cl r) (cl o) = 1 then 0 else mtF (prd (A 2) (A 2) (4 * cl r) (4 * cl o)), A) else (-3, rfA A 3)
theorem alF_01 (f : Nat → Int32) (i j : Nat) : alF f i j = 0 ∨ alF f i j = 1 := by unfold alF; split <;> simp
set_option maxHeartbeats 4000000 in
set_option maxRecDepth 100000 in
theorem c7_meet (d : Nat) {n : Nat} (hn : A 1 4 = nI n) (h20 : n ≤ 20) (r o : Int32) : C mX7_meet (d + 2) 0 0 [.ref 0, .int r, .int o] (hp A B) (fun r' h' => h' = hp (s7_meet A n r o).2 B ∧ r' = some (.int (s7_meet A n r o).1)) := by
  refine C.of [some (.ref 0), some (.int r), some (.int o)] omX7_meet rfl rfl rfl ?_
  by_cases h1 : 0 ≤ r ∧ r < A 1 4
  · by_cases h2 : 0 ≤ o ∧ o < A 1 4
    · repeat (first | refine V.s omX7_meet rfl rfl ?_ | refine V.gf omX7_meet rfl rfl rfl rfl ?_ | refine V.brF omX7_meet rfl rfl (by decide) ?_ | refine V.brT omX7_meet rfl rfl (by decide) (by decide) ?_ | refine V.cVf omX7_meet omX5_has rfl rfl (c_hasY _ h1) rfl rfl rfl rfl rfl rfl ?_ | refine V.cVf omX7_meet omX5_has rfl rfl (c_hasY _ h2) rfl rfl rfl rfl rfl rfl ?_)
      rw [hn] at h1 h2
      have hp2 : (0 ≤ r ∧ r < nI n) ∧ (0 ≤ o ∧ o < nI n) := ⟨h1, h2⟩
      simp only [s7_meet, if_pos hp2]
      obtain ⟨i, hi, rfl⟩ := rng (by omega) h1
      obtain ⟨j, hj, rfl⟩ := rng (by omega) h2
      simp only [cl_nI (show i < 20 by omega), cl_nI (show j < 20 by omega)]
      refine V.cVf omX7_meet omX5_isAlike rfl rfl (c_isAlike _ nv_nI nv_nI (show i < 20 by omega) (show j < 20 by omega)) rfl rfl rfl rfl rfl rfl ?_
      rcases alF_01 (A 2) i j with ha | ha
      · rw [ha]
        refine V.brT omX7_meet rfl rfl rfl (by decide) ?_
        repeat (first | refine V.s omX7_meet rfl rfl ?_ | refine V.gf omX7_meet rfl rfl rfl rfl ?_)
        refine V.cVf omX7_meet omX5_productOf rfl rfl (c_productOf _ nv_nI nv_nI (show i < 20 by omega) (show j < 20 by omega)) rfl rfl rfl rfl rfl rfl ?_
        refine V.cSf omX7_meet omX2_meetingBy rfl rfl (c_meetingBy _ _ _) rfl rfl rfl rfl ?_
        exact V.iret omX7_meet rfl rfl ⟨rfl, by rw [if_neg (by decide)]⟩
      · rw [ha]
        refine V.brF omX7_meet rfl rfl (by decide) ?_
        repeat (first | refine V.s omX7_meet rfl rfl ?_ | refine V.gf omX7_meet rfl rfl rfl rfl ?_)
        exact V.iret omX7_meet rfl rfl ⟨rfl, by rw [if_pos rfl]⟩
    · repeat (first | refine V.s omX7_meet rfl rfl ?_ | refine V.gf omX7_meet rfl rfl rfl rfl ?_ | refine V.brF omX7_meet rfl rfl (by decide) ?_ | refine V.brT omX7_meet rfl rfl (by decide) (by decide) ?_ | refine V.cVf omX7_meet omX5_has rfl rfl (c_hasY _ h1) rfl rfl rfl rfl rfl rfl ?_ | refine V.cVf omX7_meet omX5_has rfl rfl (c_hasN _ h2) rfl rfl rfl rfl rfl rfl ?_ | refine V.cVf omX7_meet omX7_refuse rfl rfl (c_refuse _ _ (by decide)) rfl rfl rfl rfl rfl rfl ?_)
      rw [hn] at h1 h2
      exact V.iret omX7_meet rfl rfl (by simp only [s7_meet, if_neg (show ¬ ((0 ≤ r ∧ r < nI n) ∧ (0 ≤ o ∧ o < nI n)) from fun h => h2 h.2)] <;> (refine ⟨?_, ?_⟩ <;> first | rfl | trivial))
  · repeat (first | refine V.s omX7_meet rfl rfl ?_ | refine V.gf omX7_meet rfl rfl rfl rfl ?_ | refine V.brF omX7_meet rfl rfl (by decide) ?_ | refine V.brT omX7_meet rfl rfl (by decide) (by decide) ?_ | refine V.cVf omX7_meet omX5_has rfl rfl (c_hasN _ h1) rfl rfl rfl rfl rfl rfl ?_ | refine V.cVf omX7_meet omX7_refuse rfl rfl (c_refuse _ _ (by decide)) rfl rfl rfl rfl rfl rfl ?_)
    rw [hn] at h1
    exact V.iret omX7_meet rfl rfl (by simp only [s7_meet, if_neg (show ¬ ((0 ≤ r ∧ r < nI n) ∧ (0 ≤ o ∧ o < nI n)) from fun h => h1 h.1)] <;> (refine ⟨?_, ?_⟩ <;> first | rfl | trivial))
def s7_mirror (A : Nat → Nat → Int32) (n : Nat) (r o : Int32) : Int32 × (Nat → Nat → Int32) := if (0 ≤ r ∧ r < nI n) ∧ (0 ≤ o ∧ o < nI n) then (if n < 20 ∧ mfP (A 2) (cl r) (cl o) then (nI n, mrA A n (cl r) (cl o)) else (-8, rfA A 8)) else (-3, rfA A 3)
theorem c_mfY (d : Nat) {i j : Nat} (hi : i < 20) (hj : j < 20) (h : mfP (A 2) i j) : C mX5_mirrorFits (d + 2) 0 0 [.ref 1, .int (nI i), .int (nI j)] (hp A B) (fun r h' => h' = hp A B ∧ r = some (.int 1)) := by
  have h1 := c_mirrorFits (A := A) (B := B) d (nv_nI (a := i)) (nv_nI (a := j)) hi hj
  rwa [if_pos h] at h1
theorem c_mfN (d : Nat) {i j : Nat} (hi : i < 20) (hj : j < 20) (h : ¬ mfP (A 2) i j) : C mX5_mirrorFits (d + 2) 0 0 [.ref 1, .int (nI i), .int (nI j)] (hp A B) (fun r h' => h' = hp A B ∧ r = some (.int 0)) := by
  have h1 := c_mirrorFits (A := A) (B := B) d (nv_nI (a := i)) (nv_nI (a := j)) hi hj
  rwa [if_neg h] at h1
set_option maxHeartbeats 4000000 in
set_option maxRecDepth 100000 in
theorem c7_mirror (d : Nat) {n : Nat} (hn : A 1 4 = nI n) (h20 : n ≤ 20) (r o : Int32) : C mX7_mirror (d + 3) 0 0 [.ref 0, .int r, .int o] (hp A B) (fun r' h' => h' = hp (s7_mirror A n r o).2 B ∧ r' = some (.int (s7_mirror A n r o).1)) := by
  refine C.of [some (.ref 0), some (.int r), some (.int o)] omX7_mirror rfl rfl rfl ?_
  by_cases h1 : 0 ≤ r ∧ r < A 1 4
  · by_cases h2 : 0 ≤ o ∧ o < A 1 4
    · repeat (first | refine V.s omX7_mirror rfl rfl ?_ | refine V.gf omX7_mirror rfl rfl rfl rfl ?_ | refine V.brF omX7_mirror rfl rfl (by decide) ?_ | refine V.brT omX7_mirror rfl rfl (by decide) (by decide) ?_ | refine V.cVf omX7_mirror omX5_has rfl rfl (c_hasY _ h1) rfl rfl rfl rfl rfl rfl ?_ | refine V.cVf omX7_mirror omX5_has rfl rfl (c_hasY _ h2) rfl rfl rfl rfl rfl rfl ?_)
      rw [hn] at h1 h2
      have hp2 : (0 ≤ r ∧ r < nI n) ∧ (0 ≤ o ∧ o < nI n) := ⟨h1, h2⟩
      simp only [s7_mirror, if_pos hp2]
      obtain ⟨i, hi, rfl⟩ := rng (by omega) h1
      obtain ⟨j, hj, rfl⟩ := rng (by omega) h2
      simp only [cl_nI (show i < 20 by omega), cl_nI (show j < 20 by omega)]
      by_cases h3 : n < 20
      · refine V.cVf omX7_mirror omX5_isFull rfl rfl (c_fullN _ hn h20 h3) rfl rfl rfl rfl rfl rfl ?_
        refine V.brF omX7_mirror rfl rfl (by decide) ?_
        repeat (first | refine V.s omX7_mirror rfl rfl ?_ | refine V.gf omX7_mirror rfl rfl rfl rfl ?_)
        by_cases h4 : mfP (A 2) i j
        · refine V.cVf omX7_mirror omX5_mirrorFits rfl rfl (c_mfY d (show i < 20 by omega) (show j < 20 by omega) h4) rfl rfl rfl rfl rfl rfl ?_
          refine V.brT omX7_mirror rfl rfl (by decide) (by decide) ?_
          repeat (first | refine V.s omX7_mirror rfl rfl ?_ | refine V.gf omX7_mirror rfl rfl rfl rfl ?_)
          refine V.cVf omX7_mirror omX5_putMirror rfl rfl (c_putMirror d hn h3 nv_nI nv_nI (show i < 20 by omega) (show j < 20 by omega)) rfl rfl rfl rfl rfl rfl ?_
          exact V.iret omX7_mirror rfl rfl (by rw [if_pos ⟨h3, h4⟩] <;> (refine ⟨?_, ?_⟩ <;> first | rfl | trivial))
        · refine V.cVf omX7_mirror omX5_mirrorFits rfl rfl (c_mfN d (show i < 20 by omega) (show j < 20 by omega) h4) rfl rfl rfl rfl rfl rfl ?_
          refine V.brF omX7_mirror rfl rfl (by decide) ?_
          repeat (first | refine V.s omX7_mirror rfl rfl ?_ | refine V.gf omX7_mirror rfl rfl rfl rfl ?_ | refine V.cVf omX7_mirror omX7_refuse rfl rfl (c_refuse _ _ (by decide)) rfl rfl rfl rfl rfl rfl ?_)
          exact V.iret omX7_mirror rfl rfl (by rw [if_neg (fun h => h4 h.2)] <;> (refine ⟨?_, ?_⟩ <;> first | rfl | trivial))
      · refine V.cVf omX7_mirror omX5_isFull rfl rfl (c_fullY _ hn h20 h3) rfl rfl rfl rfl rfl rfl ?_
        refine V.brT omX7_mirror rfl rfl (by decide) (by decide) ?_
        repeat (first | refine V.s omX7_mirror rfl rfl ?_ | refine V.gf omX7_mirror rfl rfl rfl rfl ?_ | refine V.cVf omX7_mirror omX7_refuse rfl rfl (c_refuse _ _ (by decide)) rfl rfl rfl rfl rfl rfl ?_)
        exact V.iret omX7_mirror rfl rfl (by rw [if_neg (fun h => h3 h.1)] <;> (refine ⟨?_, ?_⟩ <;> first | rfl | trivial))
    · repeat (first | refine V.s omX7_mirror rfl rfl ?_ | refine V.gf omX7_mirror rfl rfl rfl rfl ?_ | refine V.brF omX7_mirror rfl rfl (by decide) ?_ | refine V.brT omX7_mirror rfl rfl (by decide) (by decide) ?_ | refine V.cVf omX7_mirror omX5_has rfl rfl (c_hasY _ h1) rfl rfl rfl rfl rfl rfl ?_ | refine V.cVf omX7_mirror omX5_has rfl rfl (c_hasN _ h2) rfl rfl rfl rfl rfl rfl ?_ | refine V.cVf omX7_mirror omX7_refuse rfl rfl (c_refuse _ _ (by decide)) rfl rfl rfl rfl rfl rfl ?_)
      rw [hn] at h1 h2
      exact V.iret omX7_mirror rfl rfl (by simp only [s7_mirror, if_neg (show ¬ ((0 ≤ r ∧ r < nI n) ∧ (0 ≤ o ∧ o < nI n)) from fun h => h2 h.2)] <;> (refine ⟨?_, ?_⟩ <;> first | rfl | trivial))
  · repeat (first | refine V.s omX7_mirror rfl rfl ?_ | refine V.gf omX7_mirror rfl rfl rfl rfl ?_ | refine V.brF omX7_mirror rfl rfl (by decide) ?_ | refine V.brT omX7_mirror rfl rfl (by decide) (by decide) ?_ | refine V.cVf omX7_mirror omX5_has rfl rfl (c_hasN _ h1) rfl rfl rfl rfl rfl rfl ?_ | refine V.cVf omX7_mirror omX7_refuse rfl rfl (c_refuse _ _ (by decide)) rfl rfl rfl rfl rfl rfl ?_)
    rw [hn] at h1
    exact V.iret omX7_mirror rfl rfl (by simp only [s7_mirror, if_neg (show ¬ ((0 ≤ r ∧ r < nI n) ∧ (0 ≤ o ∧ o < nI n)) from fun h => h1 h.1)] <;> (refine ⟨?_, ?_⟩ <;> first | rfl | trivial))
def s7_flip (A : Nat → Nat → Int32) (n : Nat) (r : Int32) : Int32 × (Nat → Nat → Int32) := if 0 ≤ r ∧ r < nI n then (if n < 20 then (nI n, flA A n (cl r)) else (-8, rfA A 8)) else (-3, rfA A 3)
set_option maxHeartbeats 4000000 in
set_option maxRecDepth 100000 in
theorem c7_flip (d : Nat) {n : Nat} (hn : A 1 4 = nI n) (h20 : n ≤ 20) (r : Int32) : C mX7_flip (d + 2) 0 0 [.ref 0, .int r] (hp A B) (fun r' h' => h' = hp (s7_flip A n r).2 B ∧ r' = some (.int (s7_flip A n r).1)) := by
  refine C.of [some (.ref 0), some (.int r)] omX7_flip rfl rfl rfl ?_
  by_cases h1 : 0 ≤ r ∧ r < A 1 4
  · repeat (first | refine V.s omX7_flip rfl rfl ?_ | refine V.gf omX7_flip rfl rfl rfl rfl ?_ | refine V.brF omX7_flip rfl rfl (by decide) ?_ | refine V.brT omX7_flip rfl rfl (by decide) (by decide) ?_ | refine V.cVf omX7_flip omX5_has rfl rfl (c_hasY _ h1) rfl rfl rfl rfl rfl rfl ?_)
    rw [hn] at h1
    simp only [s7_flip, if_pos h1]
    obtain ⟨i, hi, rfl⟩ := rng (by omega) h1
    simp only [cl_nI (show i < 20 by omega)]
    by_cases h3 : n < 20
    · refine V.cVf omX7_flip omX5_isFull rfl rfl (c_fullN _ hn h20 h3) rfl rfl rfl rfl rfl rfl ?_
      refine V.brT omX7_flip rfl rfl (by decide) (by decide) ?_
      repeat (first | refine V.s omX7_flip rfl rfl ?_ | refine V.gf omX7_flip rfl rfl rfl rfl ?_)
      refine V.cVf omX7_flip omX5_putOtherSide rfl rfl (c_putOtherSide d hn h3 (show i < 20 by omega) nv_nI) rfl rfl rfl rfl rfl rfl ?_
      exact V.iret omX7_flip rfl rfl (by rw [if_pos h3] <;> (refine ⟨?_, ?_⟩ <;> first | rfl | trivial))
    · refine V.cVf omX7_flip omX5_isFull rfl rfl (c_fullY _ hn h20 h3) rfl rfl rfl rfl rfl rfl ?_
      refine V.brF omX7_flip rfl rfl (by decide) ?_
      repeat (first | refine V.s omX7_flip rfl rfl ?_ | refine V.gf omX7_flip rfl rfl rfl rfl ?_ | refine V.cVf omX7_flip omX7_refuse rfl rfl (c_refuse _ _ (by decide)) rfl rfl rfl rfl rfl rfl ?_)
      exact V.iret omX7_flip rfl rfl (by rw [if_neg h3] <;> (refine ⟨?_, ?_⟩ <;> first | rfl | trivial))
  · repeat (first | refine V.s omX7_flip rfl rfl ?_ | refine V.gf omX7_flip rfl rfl rfl rfl ?_ | refine V.brF omX7_flip rfl rfl (by decide) ?_ | refine V.brT omX7_flip rfl rfl (by decide) (by decide) ?_ | refine V.cVf omX7_flip omX5_has rfl rfl (c_hasN _ h1) rfl rfl rfl rfl rfl rfl ?_ | refine V.cVf omX7_flip omX7_refuse rfl rfl (c_refuse _ _ (by decide)) rfl rfl rfl rfl rfl rfl ?_)
    rw [hn] at h1
    exact V.iret omX7_flip rfl rfl (by simp only [s7_flip, if_neg h1] <;> (refine ⟨?_, ?_⟩ <;> first | rfl | trivial))
def ovP (p q : Int32) : Prop := (0 ≤ p ∧ p ≤ 999 ∧ 1 ≤ q ∧ q ≤ 999) ∧ Nat.gcd (cl p) (cl q) = 1
def s7_over (A : Nat → Nat → Int32) (n : Nat) (p q : Int32) (v : Bool) : Int32 × (Nat → Nat → Int32) := if v = true then (if n < 20 then (nI n, ovA A n p q) else (-8, rfA A 8)) else (-7, rfA A 7)
theorem rngl {r M : Int32} {m : Nat} (hM : M.toInt = m) (h0 : 0 ≤ r) (h1 : r ≤ M) : ∃ i, i ≤ m ∧ r = nI i := nI_of2 hM (Int32.not_lt.mpr h0) h1
set_option maxHeartbeats 4000000 in
set_option maxRecDepth 100000 in
theorem c7_over (d : Nat) {n : Nat} (hn : A 1 4 = nI n) (h20 : n ≤ 20) (p q : Int32) (v : Bool) (hv : v = true ↔ ovP p q) : C mX7_over (d + 2) 0 0 [.ref 0, .int p, .int q] (hp A B) (fun r' h' => h' = hp (s7_over A n p q v).2 B ∧ r' = some (.int (s7_over A n p q v).1)) := by
  refine C.of [some (.ref 0), some (.int p), some (.int q), none] omX7_over rfl rfl rfl ?_
  by_cases h1 : 0 ≤ p ∧ p ≤ 999 ∧ 1 ≤ q ∧ q ≤ 999
  · obtain ⟨a1, a2, a3, a4⟩ := h1
    repeat (first | refine V.s omX7_over rfl rfl ?_ | refine V.gf omX7_over rfl rfl rfl rfl ?_ | refine V.brF omX7_over rfl rfl (Int32.not_lt.mpr a1) ?_ | refine V.brF omX7_over rfl rfl (Int32.not_lt.mpr a2) ?_ | refine V.brF omX7_over rfl rfl (Int32.not_lt.mpr a3) ?_ | refine V.brF omX7_over rfl rfl (Int32.not_lt.mpr a4) ?_)
    refine V.brF omX7_over rfl rfl (by decide) ?_
    repeat (first | refine V.s omX7_over rfl rfl ?_ | refine V.gf omX7_over rfl rfl rfl rfl ?_)
    obtain ⟨P, hP, rfl⟩ := rngl (m := 999) (by decide) a1 a2
    obtain ⟨R, hR, rfl⟩ := rngl (m := 999) (by decide) (Int32.le_trans (by decide) a3) a4
    refine V.cSf omX7_over omX2_isLowest rfl rfl (c_isLowest _ P R _ (by omega) (by omega)) rfl rfl rfl rfl ?_
    have e : ovP (nI P) (nI R) ↔ Nat.gcd P R = 1 := by
      unfold ovP cl
      rw [nI_clamp (by omega), nI_clamp (by omega)]
      exact ⟨fun h => h.2, fun h => ⟨⟨a1, a2, a3, a4⟩, h⟩⟩
    rw [e] at hv
    by_cases hg : Nat.gcd P R = 1
    · have hvt := hv.mpr hg
      subst hvt
      rw [if_pos hg]
      refine V.brT omX7_over rfl rfl (by decide) (by decide) ?_
      by_cases h3 : n < 20
      · repeat (first | refine V.s omX7_over rfl rfl ?_ | refine V.gf omX7_over rfl rfl rfl rfl ?_ | refine V.cVf omX7_over omX5_isFull rfl rfl (c_fullN _ hn h20 h3) rfl rfl rfl rfl rfl rfl ?_)
        refine V.brT omX7_over rfl rfl (by decide) (by decide) ?_
        repeat (first | refine V.s omX7_over rfl rfl ?_ | refine V.gf omX7_over rfl rfl rfl rfl ?_)
        refine V.cVf omX7_over omX5_putOver rfl rfl (c_putOver _ hn h3 _ _) rfl rfl rfl rfl rfl rfl ?_
        exact V.iret omX7_over rfl rfl (by simp only [s7_over, if_true, if_pos h3] <;> (refine ⟨?_, ?_⟩ <;> first | rfl | trivial))
      · repeat (first | refine V.s omX7_over rfl rfl ?_ | refine V.gf omX7_over rfl rfl rfl rfl ?_ | refine V.cVf omX7_over omX5_isFull rfl rfl (c_fullY _ hn h20 h3) rfl rfl rfl rfl rfl rfl ?_)
        refine V.brF omX7_over rfl rfl (by decide) ?_
        repeat (first | refine V.s omX7_over rfl rfl ?_ | refine V.gf omX7_over rfl rfl rfl rfl ?_ | refine V.cVf omX7_over omX7_refuse rfl rfl (c_refuse _ _ (by decide)) rfl rfl rfl rfl rfl rfl ?_)
        exact V.iret omX7_over rfl rfl (by simp only [s7_over, if_true, if_neg h3] <;> (refine ⟨?_, ?_⟩ <;> first | rfl | trivial))
    · have hvf : v = false := by
        cases v with
        | true => exact absurd (hv.mp rfl) hg
        | false => rfl
      subst hvf
      rw [if_neg hg]
      refine V.brF omX7_over rfl rfl (by decide) ?_
      repeat (first | refine V.s omX7_over rfl rfl ?_ | refine V.gf omX7_over rfl rfl rfl rfl ?_ | refine V.cVf omX7_over omX7_refuse rfl rfl (c_refuse _ _ (by decide)) rfl rfl rfl rfl rfl rfl ?_)
      exact V.iret omX7_over rfl rfl ⟨rfl, rfl⟩
  · have hvf : v = false := by
      cases v with
      | true => exact absurd (hv.mp rfl).1 h1
      | false => rfl
    subst hvf
    repeat' (first | refine V.s omX7_over rfl rfl ?_ | refine V.gf omX7_over rfl rfl rfl rfl ?_ | simp only [Int32.reduceAdd, Int32.reduceMul, Int32.reduceSub] | refine V.brF omX7_over rfl rfl (by decide) ?_ | refine V.brT omX7_over rfl rfl (by decide) (by decide) ?_ | refine V.cVf omX7_over omX7_refuse rfl rfl (c_refuse _ _ (by decide)) rfl rfl rfl rfl rfl rfl ?_ | refine V.br omX7_over rfl rfl (fun hc => ?_) (fun hc => ?_))
    all_goals first | exact V.iret omX7_over rfl rfl ⟨rfl, rfl⟩ | skip
    exact absurd ⟨by assumption, by assumption, by assumption, by assumption⟩ h1
end RK2
