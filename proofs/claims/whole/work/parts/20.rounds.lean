section RK1
variable {A : Nat → Nat → Int32} {B : Nat → Nat → Int64}
def rfI (v : Int32) : Nat := (-v).toNatClampNeg
def rfB (v : Int32) : Bool := decide (¬ (-v < 0 ∨ 9 ≤ (-v).toNatClampNeg))
def rfA (A : Nat → Nat → Int32) (c : Nat) : Nat → Nat → Int32 := va_up A 32 (upd (A 32) c (A 32 c + 1))
theorem c_refuse (d : Nat) (v : Int32) (hv : rfB v = true) : C mX7_refuse d 0 0 [.ref 0, .int v] (hp A B) (fun r h' => h' = hp (rfA A (rfI v)) B ∧ r = some (.int v)) := by
  have hx : ix (-v) (rfI v) 9 := ⟨rfl, show ¬ (-v < 0 ∨ 9 ≤ (-v).toNatClampNeg) from of_decide_eq_true hv⟩
  refine C.of [some (.ref 0), some (.int v)] omX7_refuse rfl rfl rfl ?_
  repeat (first | refine V.s omX7_refuse rfl rfl ?_ | refine V.gf omX7_refuse rfl rfl rfl rfl ?_)
  refine V.ial omX7_refuse rfl rfl hx ?_
  repeat (first | refine V.s omX7_refuse rfl rfl ?_ | refine V.gf omX7_refuse rfl rfl rfl rfl ?_)
  refine V.iasH omX7_refuse rfl rfl hx ?_
  repeat (first | refine V.s omX7_refuse rfl rfl ?_ | refine V.gf omX7_refuse rfl rfl rfl rfl ?_)
  exact V.iret omX7_refuse rfl rfl ⟨rfl, rfl⟩
theorem c_refuseByZero (d : Nat) (v : Int32) (hv : rfB v = true) : C mX7_refuseByZero d 0 0 [.ref 0, .int v] (hp A B) (fun r h' => h' = hp (rfA A (rfI v)) B ∧ r = some (.int 0)) := by
  have hx : ix (-v) (rfI v) 9 := ⟨rfl, show ¬ (-v < 0 ∨ 9 ≤ (-v).toNatClampNeg) from of_decide_eq_true hv⟩
  refine C.of [some (.ref 0), some (.int v)] omX7_refuseByZero rfl rfl rfl ?_
  repeat (first | refine V.s omX7_refuseByZero rfl rfl ?_ | refine V.gf omX7_refuseByZero rfl rfl rfl rfl ?_)
  refine V.ial omX7_refuseByZero rfl rfl hx ?_
  repeat (first | refine V.s omX7_refuseByZero rfl rfl ?_ | refine V.gf omX7_refuseByZero rfl rfl rfl rfl ?_)
  refine V.iasH omX7_refuseByZero rfl rfl hx ?_
  repeat (first | refine V.s omX7_refuseByZero rfl rfl ?_ | refine V.gf omX7_refuseByZero rfl rfl rfl rfl ?_)
  exact V.iret omX7_refuseByZero rfl rfl ⟨rfl, rfl⟩
theorem nI20 {n : Nat} (h : n ≤ 20) : (20 ≤ nI n) ↔ 20 ≤ n := nIl_le 20 (by omega) (by decide)
theorem rng {n : Nat} {r : Int32} (hn : n < 2 ^ 31) (h : 0 ≤ r ∧ r < nI n) : ∃ i, i < n ∧ r = nI i := by
  rcases pk_ix r hn with h1 | h1 | h1
  · exact absurd h1 (Int32.not_lt.mpr h.1)
  · exact absurd h.2 (Int32.not_lt.mpr h1)
  · exact h1
theorem rng_in {n i : Nat} (hi : i < n) (hn : n < 2 ^ 31) : 0 ≤ nI i ∧ nI i < nI n := ⟨nI_pos' (by omega), nI_lt hi hn⟩
def s7_round (A : Nat → Nat → Int32) (n : Nat) (a b x y : Int32) : Int32 × (Nat → Nat → Int32) := if lawP a b x y then (if n < 20 then (nI n, putA A n (kbF a) a b x y) else (-8, rfA A 8)) else (-7, rfA A 7)
set_option maxHeartbeats 4000000 in
set_option maxRecDepth 100000 in
theorem c7_round (d : Nat) {n : Nat} (hn : A 1 4 = nI n) (h20 : n ≤ 20) (a b x y : Int32) : C mX7_round (d + 2) 0 0 [.ref 0, .int a, .int b, .int x, .int y] (hp A B) (fun r h' => h' = hp (s7_round A n a b x y).2 B ∧ r = some (.int (s7_round A n a b x y).1)) := by
  refine C.of [some (.ref 0), some (.int a), some (.int b), some (.int x), some (.int y)] omX7_round rfl rfl rfl ?_
  repeat (first | refine V.s omX7_round rfl rfl ?_ | refine V.gf omX7_round rfl rfl rfl rfl ?_ | refine V.cSf omX7_round omX2_keepLaw rfl rfl (c_keepLaw _ _ _ _ _ _) rfl rfl rfl rfl ?_)
  refine V.br omX7_round rfl rfl (fun hc => ?_) (fun hc => ?_)
  · rw [klF_ne] at hc
    repeat (first | refine V.s omX7_round rfl rfl ?_ | refine V.gf omX7_round rfl rfl rfl rfl ?_ | refine V.cVf omX7_round omX5_isFull rfl rfl (c_isFull _) rfl rfl rfl rfl rfl rfl ?_)
    rw [hn]
    by_cases h2 : n < 20
    · rw [if_neg (by rw [nI20 h20]; omega)]
      refine V.brT omX7_round rfl rfl rfl (by decide) ?_
      repeat (first | refine V.s omX7_round rfl rfl ?_ | refine V.gf omX7_round rfl rfl rfl rfl ?_ | refine V.cSf omX7_round omX2_kindByBend rfl rfl (c_kindByBend _ _ _) rfl rfl rfl rfl ?_)
      refine V.cVf omX7_round omX5_put rfl rfl (c_put _ hn h2 _ _ _ _ _) rfl rfl rfl rfl rfl rfl ?_
      exact V.iret omX7_round rfl rfl (by simp only [s7_round, if_pos hc, if_pos h2, and_self])
    · rw [if_pos (by rw [nI20 h20]; omega)]
      refine V.brF omX7_round rfl rfl (by decide) ?_
      repeat (first | refine V.s omX7_round rfl rfl ?_ | refine V.gf omX7_round rfl rfl rfl rfl ?_)
      refine V.cVf omX7_round omX7_refuse rfl rfl (c_refuse _ _ (by decide)) rfl rfl rfl rfl rfl rfl ?_
      exact V.iret omX7_round rfl rfl ⟨by simp only [s7_round, if_pos hc, if_neg h2]; rfl, by simp only [s7_round, if_pos hc, if_neg h2]⟩
  · rw [klF_eq0] at hc
    repeat (first | refine V.s omX7_round rfl rfl ?_ | refine V.gf omX7_round rfl rfl rfl rfl ?_)
    refine V.cVf omX7_round omX7_refuse rfl rfl (c_refuse _ _ (by decide)) rfl rfl rfl rfl rfl rfl ?_
    exact V.iret omX7_round rfl rfl ⟨by simp only [s7_round, if_neg hc]; rfl, by simp only [s7_round, if_neg hc]⟩
theorem c_hasY (d : Nat) {r : Int32} (h : 0 ≤ r ∧ r < A 1 4) : C mX5_has d 0 0 [.ref 1, .int r] (hp A B) (fun r' h' => h' = hp A B ∧ r' = some (.int 1)) := by
  have h1 := c_has (A := A) (B := B) d r
  rwa [if_pos h] at h1
theorem c_hasN (d : Nat) {r : Int32} (h : ¬ (0 ≤ r ∧ r < A 1 4)) : C mX5_has d 0 0 [.ref 1, .int r] (hp A B) (fun r' h' => h' = hp A B ∧ r' = some (.int 0)) := by
  have h1 := c_has (A := A) (B := B) d r
  rwa [if_neg h] at h1
theorem c_fullY (d : Nat) {n : Nat} (hn : A 1 4 = nI n) (h20 : n ≤ 20) (h : ¬ n < 20) : C mX5_isFull d 0 0 [.ref 1] (hp A B) (fun r' h' => h' = hp A B ∧ r' = some (.int 1)) := by
  have h1 := c_isFull (A := A) (B := B) d
  rwa [hn, if_pos (by rw [nI20 h20]; omega)] at h1
theorem c_fullN (d : Nat) {n : Nat} (hn : A 1 4 = nI n) (h20 : n ≤ 20) (h : n < 20) : C mX5_isFull d 0 0 [.ref 1] (hp A B) (fun r' h' => h' = hp A B ∧ r' = some (.int 0)) := by
  have h1 := c_isFull (A := A) (B := B) d
  rwa [hn, if_neg (by rw [nI20 h20]; omega)] at h1
def s7_drop (A : Nat → Nat → Int32) (n : Nat) : Int32 × (Nat → Nat → Int32) := if n = 0 then (-2, rfA A 2) else (nI (n - 1), va_up A 1 (upd (A 1) 4 (nI (n - 1))))
theorem c7_drop (d : Nat) {n : Nat} (hn : A 1 4 = nI n) (h20 : n ≤ 20) : C mX7_drop (d + 1) 0 0 [.ref 0] (hp A B) (fun r h' => h' = hp (s7_drop A n).2 B ∧ r = some (.int (s7_drop A n).1)) := by
  refine C.of [some (.ref 0)] omX7_drop rfl rfl rfl ?_
  repeat (first | refine V.s omX7_drop rfl rfl ?_ | refine V.gf omX7_drop rfl rfl rfl rfl ?_)
  rw [hn]
  cases n with
  | zero =>
    refine V.brF omX7_drop rfl rfl (by decide) ?_
    repeat (first | refine V.s omX7_drop rfl rfl ?_ | refine V.gf omX7_drop rfl rfl rfl rfl ?_)
    refine V.cVf omX7_drop omX7_refuse rfl rfl (c_refuse _ _ (by decide)) rfl rfl rfl rfl rfl rfl ?_
    refine V.s omX7_drop rfl rfl ?_
    exact V.iret omX7_drop rfl rfl ⟨rfl, rfl⟩
  | succ n =>
    refine V.brT omX7_drop rfl rfl (nI_ne0 (by omega) (by omega)) (fun h => h) ?_
    repeat (first | refine V.s omX7_drop rfl rfl ?_ | refine V.gf omX7_drop rfl rfl rfl rfl ?_)
    refine V.cVf omX7_drop omX5_takeLatest rfl rfl (c_takeLatest _ hn) rfl rfl rfl rfl rfl rfl ?_
    exact V.iret omX7_drop rfl rfl ⟨rfl, rfl⟩
def s7_product (A : Nat → Nat → Int32) (n : Nat) (r o : Int32) : Int64 × (Nat → Nat → Int32) := if (0 ≤ r ∧ r < nI n) ∧ (0 ≤ o ∧ o < nI n) then (prd (A 2) (A 2) (4 * r.toNatClampNeg) (4 * o.toNatClampNeg), A) else (0, rfA A 3)
theorem c7_product (d : Nat) {n : Nat} (hn : A 1 4 = nI n) (h20 : n ≤ 20) (r o : Int32) : C mX7_product (d + 2) 0 0 [.ref 0, .int r, .int o] (hp A B) (fun r' h' => h' = hp (s7_product A n r o).2 B ∧ r' = some (.long (s7_product A n r o).1)) := by
  refine C.of [some (.ref 0), some (.int r), some (.int o)] omX7_product rfl rfl rfl ?_
  by_cases h1 : 0 ≤ r ∧ r < A 1 4
  · by_cases h2 : 0 ≤ o ∧ o < A 1 4
    · repeat (first | refine V.s omX7_product rfl rfl ?_ | refine V.gf omX7_product rfl rfl rfl rfl ?_ | refine V.brF omX7_product rfl rfl (by decide) ?_ | refine V.brT omX7_product rfl rfl (by decide) (by decide) ?_ | refine V.cVf omX7_product omX5_has rfl rfl (c_hasY _ h1) rfl rfl rfl rfl rfl rfl ?_ | refine V.cVf omX7_product omX5_has rfl rfl (c_hasY _ h2) rfl rfl rfl rfl rfl rfl ?_)
      rw [hn] at h1 h2
      obtain ⟨i, hi, rfl⟩ := rng (by omega) h1
      obtain ⟨j, hj, rfl⟩ := rng (by omega) h2
      refine V.cVf omX7_product omX5_productOf rfl rfl (c_productOf _ nv_nI nv_nI (show i < 20 by omega) (show j < 20 by omega)) rfl rfl rfl rfl rfl rfl ?_
      refine V.lret omX7_product rfl rfl ⟨?_, ?_⟩
      · simp only [s7_product, if_pos (show (0 ≤ nI i ∧ nI i < nI n) ∧ (0 ≤ nI j ∧ nI j < nI n) from ⟨h1, h2⟩)]
      · simp only [s7_product, if_pos (show (0 ≤ nI i ∧ nI i < nI n) ∧ (0 ≤ nI j ∧ nI j < nI n) from ⟨h1, h2⟩), nI_clamp (show i < 2 ^ 31 by omega), nI_clamp (show j < 2 ^ 31 by omega)]
    · repeat (first | refine V.s omX7_product rfl rfl ?_ | refine V.gf omX7_product rfl rfl rfl rfl ?_ | refine V.brF omX7_product rfl rfl (by decide) ?_ | refine V.brT omX7_product rfl rfl (by decide) (by decide) ?_ | refine V.cVf omX7_product omX5_has rfl rfl (c_hasY _ h1) rfl rfl rfl rfl rfl rfl ?_ | refine V.cVf omX7_product omX5_has rfl rfl (c_hasN _ h2) rfl rfl rfl rfl rfl rfl ?_ | refine V.cVf omX7_product omX7_refuseByZero rfl rfl (c_refuseByZero _ _ (by decide)) rfl rfl rfl rfl rfl rfl ?_)
      rw [hn] at h1 h2
      exact V.lret omX7_product rfl rfl (by simp only [s7_product, if_neg (show ¬ ((0 ≤ r ∧ r < nI n) ∧ (0 ≤ o ∧ o < nI n)) from fun h => h2 h.2)]; exact ⟨rfl, rfl⟩)
  · repeat (first | refine V.s omX7_product rfl rfl ?_ | refine V.gf omX7_product rfl rfl rfl rfl ?_ | refine V.brF omX7_product rfl rfl (by decide) ?_ | refine V.brT omX7_product rfl rfl (by decide) (by decide) ?_ | refine V.cVf omX7_product omX5_has rfl rfl (c_hasN _ h1) rfl rfl rfl rfl rfl rfl ?_ | refine V.cVf omX7_product omX7_refuseByZero rfl rfl (c_refuseByZero _ _ (by decide)) rfl rfl rfl rfl rfl rfl ?_)
    rw [hn] at h1
    exact V.lret omX7_product rfl rfl (by simp only [s7_product, if_neg (show ¬ ((0 ≤ r ∧ r < nI n) ∧ (0 ≤ o ∧ o < nI n)) from fun h => h1 h.1)]; exact ⟨rfl, rfl⟩)
end RK1
