section RK6
variable {A : Nat → Nat → Int32} {B : Nat → Nat → Int64}
def s7_same (A : Nat → Nat → Int32) (m : Nat) (r o : Int32) : Int32 × (Nat → Nat → Int32) :=
  if (0 ≤ r ∧ r < nI m) ∧ (0 ≤ o ∧ o < nI m) then (if wn A m r = 0 ∧ wn A m o = 0 then (hbF (lbB (A (8 + 2 * cl r)) (A 20)).2.1 (lbB (A (8 + 2 * cl o)) (A 22)).2.1, Lh (Lh A 6 (lbB (A (8 + 2 * cl r)) (A 20)).2.1 (lbB (A (8 + 2 * cl r)) (A 20)).2.2) 7 (lbB (A (8 + 2 * cl o)) (A 22)).2.1 (lbB (A (8 + 2 * cl o)) (A 22)).2.2) else (-7, rfA A 7)) else (-3, rfA A 3)
theorem hbF_01 (f g : Nat → Int32) : hbF f g = 0 ∨ hbF f g = 1 := by unfold hbF; split <;> simp
set_option maxHeartbeats 4000000 in
set_option maxRecDepth 100000 in
theorem c7_same (d : Nat) {m : Nat} (hm : A 0 9 = nI m) (h6 : m ≤ 6) (r o : Int32) : C mX7_same (d + 4) 0 0 [.ref 0, .int r, .int o] (hp A B) (fun r' h' => h' = hp (s7_same A m r o).2 B ∧ r' = some (.int (s7_same A m r o).1)) := by
  refine C.of [some (.ref 0), some (.int r), some (.int o)] omX7_same rfl rfl rfl ?_
  by_cases h1 : 0 ≤ r ∧ r < A 0 9
  · by_cases h2 : 0 ≤ o ∧ o < A 0 9
    · refine V.s omX7_same rfl rfl ?_
      refine V.s omX7_same rfl rfl ?_
      refine V.cVf omX7_same omX7_hasKiss rfl rfl (c_hkY _ h1) rfl rfl rfl rfl rfl rfl ?_
      refine V.brF omX7_same rfl rfl (by decide) ?_
      refine V.s omX7_same rfl rfl ?_
      refine V.s omX7_same rfl rfl ?_
      refine V.cVf omX7_same omX7_hasKiss rfl rfl (c_hkY _ h2) rfl rfl rfl rfl rfl rfl ?_
      refine V.brT omX7_same rfl rfl (by decide) (by decide) ?_
      rw [hm] at h1 h2
      have hp2 : (0 ≤ r ∧ r < nI m) ∧ (0 ≤ o ∧ o < nI m) := ⟨h1, h2⟩
      simp only [s7_same, if_pos hp2]
      refine V.s omX7_same rfl rfl ?_
      refine V.s omX7_same rfl rfl ?_
      refine V.cVf omX7_same omX7_whyNoLeast rfl rfl (c_whyNoLeast (d + 1) hm h6 r) rfl rfl rfl rfl rfl rfl ?_
      by_cases w1 : wn A m r = 0
      · refine V.brF omX7_same rfl rfl (fun h => h w1) ?_
        refine V.s omX7_same rfl rfl ?_
        refine V.s omX7_same rfl rfl ?_
        refine V.cVf omX7_same omX7_whyNoLeast rfl rfl (c_whyNoLeast (d + 1) hm h6 o) rfl rfl rfl rfl rfl rfl ?_
        by_cases w2 : wn A m o = 0
        · refine V.brT omX7_same rfl rfl w2 (fun h g => g h) ?_
          rw [if_pos ⟨w1, w2⟩]
          obtain ⟨i, hi, rfl⟩ := rng (by omega) h1
          obtain ⟨j, hj, rfl⟩ := rng (by omega) h2
          simp only [cl_nI (show i < 20 by omega), cl_nI (show j < 20 by omega)]
          repeat (first | refine V.s omX7_same rfl rfl ?_ | refine V.gf omX7_same rfl rfl rfl rfl ?_)
          refine V.aal omX7_same rfl rfl (ixN nv_nI (show i < 6 by omega) (by decide)) (kisF_at (show i < 6 by omega)) ?_
          refine V.cVv omX7_same omX4_takeLeastBends rfl rfl (c_tlb d (show i < 8 by omega)) rfl rfl rfl rfl rfl rfl ?_
          repeat (first | refine V.s omX7_same rfl rfl ?_ | refine V.gf omX7_same rfl rfl rfl rfl ?_)
          refine V.aal omX7_same rfl rfl (ixN nv_nI (show j < 6 by omega) (by decide)) (kisF_at (show j < 6 by omega)) ?_
          have ct : C mX4_takeLeastBends (d + 3) 0 0 [.ref 21, .ref (7 + 2 * j)] (hp (Lh A 6 (lbB (A (8 + 2 * i)) (A 20)).2.1 (lbB (A (8 + 2 * i)) (A 20)).2.2) B) (fun r h' => h' = hp (Lh (Lh A 6 (lbB (A (8 + 2 * i)) (A 20)).2.1 (lbB (A (8 + 2 * i)) (A 20)).2.2) 7 (lbB (A (8 + 2 * j)) (A 22)).2.1 (lbB (A (8 + 2 * j)) (A 22)).2.2) B ∧ r = none) := by
            refine (c_takeLeastBends (k := 7) (j := j) (A := Lh A 6 (lbB (A (8 + 2 * i)) (A 20)).2.1 (lbB (A (8 + 2 * i)) (A 20)).2.2) (B := B) d (by decide) (by omega)).mono (fun r h' hq => ?_)
            have e1 : ∀ f v, Lh A 6 f v (8 + 2 * 7) = A 22 := fun f v => Lh_ne (by decide) (by decide)
            have e2 : ∀ f v, Lh A 6 f v (8 + 2 * j) = A (8 + 2 * j) := fun f v => Lh_ne (by omega) (by omega)
            rwa [e1, e2] at hq
          refine V.cVv omX7_same omX4_takeLeastBends rfl rfl ct rfl rfl rfl rfl rfl rfl ?_
          repeat (first | refine V.s omX7_same rfl rfl ?_ | refine V.gf omX7_same rfl rfl rfl rfl ?_)
          have cb : C mX4_hasBendsOf (d + 3) 0 0 [.ref 19, .ref 21] (hp (Lh (Lh A 6 (lbB (A (8 + 2 * i)) (A 20)).2.1 (lbB (A (8 + 2 * i)) (A 20)).2.2) 7 (lbB (A (8 + 2 * j)) (A 22)).2.1 (lbB (A (8 + 2 * j)) (A 22)).2.2) B) (fun r h' => h' = hp (Lh (Lh A 6 (lbB (A (8 + 2 * i)) (A 20)).2.1 (lbB (A (8 + 2 * i)) (A 20)).2.2) 7 (lbB (A (8 + 2 * j)) (A 22)).2.1 (lbB (A (8 + 2 * j)) (A 22)).2.2) B ∧ r = some (.int (hbF (lbB (A (8 + 2 * i)) (A 20)).2.1 (lbB (A (8 + 2 * j)) (A 22)).2.1))) := by
            refine (c_hasBendsOf (k := 6) (j := 7) (A := Lh (Lh A 6 (lbB (A (8 + 2 * i)) (A 20)).2.1 (lbB (A (8 + 2 * i)) (A 20)).2.2) 7 (lbB (A (8 + 2 * j)) (A 22)).2.1 (lbB (A (8 + 2 * j)) (A 22)).2.2) (B := B) (d + 1) (by decide) (by decide)).mono (fun r h' hq => ?_)
            have e1 : ∀ (A : Nat → Nat → Int32) f v, Lh A 7 f v (8 + 2 * 7) = f := fun A f v => Lh_arr
            have e2 : ∀ (A : Nat → Nat → Int32) f v, Lh A 7 f v (8 + 2 * 6) = A (8 + 2 * 6) := fun A f v => Lh_ne (by decide) (by decide)
            have e3 : ∀ f v, Lh A 6 f v (8 + 2 * 6) = f := fun f v => Lh_arr
            rwa [e1, e2, e3] at hq
          refine V.cVf omX7_same omX4_hasBendsOf rfl rfl cb rfl rfl rfl rfl rfl rfl ?_
          rcases hbF_01 (lbB (A (8 + 2 * i)) (A 20)).2.1 (lbB (A (8 + 2 * j)) (A 22)).2.1 with hb | hb
          · rw [hb]
            refine V.brT omX7_same rfl rfl rfl (by decide) ?_
            repeat (first | refine V.s omX7_same rfl rfl ?_ | refine V.gf omX7_same rfl rfl rfl rfl ?_)
            exact V.iret omX7_same rfl rfl ⟨rfl, rfl⟩
          · rw [hb]
            refine V.brF omX7_same rfl rfl (by decide) ?_
            repeat (first | refine V.s omX7_same rfl rfl ?_ | refine V.gf omX7_same rfl rfl rfl rfl ?_)
            exact V.iret omX7_same rfl rfl ⟨rfl, rfl⟩
        · refine V.brF omX7_same rfl rfl w2 ?_
          repeat (first | refine V.s omX7_same rfl rfl ?_ | refine V.gf omX7_same rfl rfl rfl rfl ?_ | refine V.cVf omX7_same omX7_refuse rfl rfl (c_refuse _ _ (by decide)) rfl rfl rfl rfl rfl rfl ?_)
          exact V.iret omX7_same rfl rfl (by rw [if_neg (fun h => w2 h.2)]; exact ⟨rfl, rfl⟩)
      · refine V.brT omX7_same rfl rfl w1 (fun h => h) ?_
        repeat (first | refine V.s omX7_same rfl rfl ?_ | refine V.gf omX7_same rfl rfl rfl rfl ?_ | refine V.cVf omX7_same omX7_refuse rfl rfl (c_refuse _ _ (by decide)) rfl rfl rfl rfl rfl rfl ?_)
        exact V.iret omX7_same rfl rfl (by rw [if_neg (fun h => w1 h.1)]; exact ⟨rfl, rfl⟩)
    · repeat (first | refine V.s omX7_same rfl rfl ?_ | refine V.gf omX7_same rfl rfl rfl rfl ?_ | refine V.brF omX7_same rfl rfl (by decide) ?_ | refine V.brT omX7_same rfl rfl (by decide) (by decide) ?_ | refine V.cVf omX7_same omX7_hasKiss rfl rfl (c_hkY _ h1) rfl rfl rfl rfl rfl rfl ?_ | refine V.cVf omX7_same omX7_hasKiss rfl rfl (c_hkN _ h2) rfl rfl rfl rfl rfl rfl ?_ | refine V.cVf omX7_same omX7_refuse rfl rfl (c_refuse _ _ (by decide)) rfl rfl rfl rfl rfl rfl ?_)
      rw [hm] at h1 h2
      exact V.iret omX7_same rfl rfl (by simp only [s7_same, if_neg (show ¬ ((0 ≤ r ∧ r < nI m) ∧ (0 ≤ o ∧ o < nI m)) from fun h => h2 h.2)] <;> (refine ⟨?_, ?_⟩ <;> first | rfl | trivial))
  · repeat (first | refine V.s omX7_same rfl rfl ?_ | refine V.gf omX7_same rfl rfl rfl rfl ?_ | refine V.brF omX7_same rfl rfl (by decide) ?_ | refine V.brT omX7_same rfl rfl (by decide) (by decide) ?_ | refine V.cVf omX7_same omX7_hasKiss rfl rfl (c_hkN _ h1) rfl rfl rfl rfl rfl rfl ?_ | refine V.cVf omX7_same omX7_refuse rfl rfl (c_refuse _ _ (by decide)) rfl rfl rfl rfl rfl rfl ?_)
    rw [hm] at h1
    exact V.iret omX7_same rfl rfl (by simp only [s7_same, if_neg (show ¬ ((0 ≤ r ∧ r < nI m) ∧ (0 ≤ o ∧ o < nI m)) from fun h => h1 h.1)] <;> (refine ⟨?_, ?_⟩ <;> first | rfl | trivial))
/-! words -/
def pdg (dg : Int32) (s : Nat) : Nat := (dg >>> ((2 * nI s) &&& 31)).toBitVec.toNat % 4
theorem pdg_nv (dg : Int32) (s : Nat) : NV ((dg >>> ((2 * nI s) &&& 31)) &&& 3) (pdg dg s) := pk_and _ 2 (by decide)
def wdF (dg : Int32) : Nat → Nat → (Nat → Int32) → Nat × (Nat → Int32)
  | 0, s, f => (s, f)
  | m + 1, s, f => if fit4 f (pdg dg s) then wdF dg m (s + 1) (sw4 f (pdg dg s)) else (s, f)
theorem va_self (A : Nat → Nat → Int32) (q : Nat) : va_up A q (A q) = A := by
  funext z
  by_cases h : z = q
  · subst h; rw [va_up_self]
  · rw [va_up_ne _ _ h]
set_option maxHeartbeats 4000000 in
set_option maxRecDepth 100000 in
theorem word_loop (d : Nat) {i N : Nat} (hi : i < 6) (hN : N ≤ 15) (dg : Int32) (R : Nat × (Nat → Int32)) : ∀ (m s : Nat) (f : Nat → Int32) (v5 : Option Value), s + m = N → R = wdF dg m s f →
    V mX7_word (d + 2) 0 0 (fun r h' => h' = hp (va_up A (8 + 2 * i) R.2) B ∧ r = some (.int (nI R.1))) 0 0 55 [some (.ref 0), some (.int (nI i)), some (.int dg), some (.int (nI N)), some (.int (nI s)), v5] [] (hp (va_up A (8 + 2 * i) f) B) := by
  intro m
  induction m with
  | zero =>
    intro s f v5 hs hR
    have : s = N := by omega
    subst this
    refine V.s omX7_word rfl rfl ?_
    refine V.s omX7_word rfl rfl ?_
    refine V.brT omX7_word rfl rfl Int32.le_rfl (fun h => Int32.not_lt.mpr h) ?_
    refine V.s omX7_word rfl rfl ?_
    subst hR
    exact V.iret omX7_word rfl rfl ⟨rfl, rfl⟩
  | succ m ih =>
    intro s f v5 hs hR
    refine V.s omX7_word rfl rfl ?_
    refine V.s omX7_word rfl rfl ?_
    refine V.brF omX7_word rfl rfl (Int32.not_le.mpr (nI_lt (by omega) (by omega))) ?_
    repeat (first | refine V.s omX7_word rfl rfl ?_ | refine V.gf omX7_word rfl rfl rfl rfl ?_)
    refine V.aal omX7_word rfl rfl (ixN nv_nI (show i < 6 by omega) (by decide)) (kisF_at hi) ?_
    repeat (first | refine V.s omX7_word rfl rfl ?_ | refine V.gf omX7_word rfl rfl rfl rfl ?_)
    have ct := c_trySwap4 (A := va_up A (8 + 2 * i) f) (B := B) d (show i < 8 by omega) (pdg_nv dg s) (show pdg dg s < 4 from Nat.mod_lt _ (by decide))
    rw [va_up_self, bx_uu] at ct
    by_cases h2 : fit4 f (pdg dg s)
    · rw [if_pos h2, if_pos h2] at ct
      simp only [wdF, if_pos h2] at hR
      refine V.cVf omX7_word omX4_trySwap rfl rfl ct rfl rfl (hpQ (show i < 8 by omega)) rfl rfl rfl ?_
      refine V.brT omX7_word rfl rfl (by decide) (by decide) ?_
      refine V.s omX7_word rfl rfl ?_
      refine V.s omX7_word rfl rfl ?_
      rw [nI_1]
      exact ih (s + 1) _ _ (by omega) hR
    · rw [if_neg h2, if_neg h2] at ct
      simp only [wdF, if_neg h2] at hR
      refine V.cVf omX7_word omX4_trySwap rfl rfl ct rfl rfl (hpQ (show i < 8 by omega)) rfl rfl rfl ?_
      refine V.brF omX7_word rfl rfl (by decide) ?_
      refine V.s omX7_word rfl rfl ?_
      subst hR
      exact V.iret omX7_word rfl rfl ⟨rfl, rfl⟩
def s7_word (A : Nat → Nat → Int32) (m : Nat) (r dg n : Int32) : Int32 × (Nat → Nat → Int32) := if 0 ≤ r ∧ r < nI m then (if n < 0 then (-4, rfA A 4) else if n ≤ 15 ∧ 0 ≤ dg ∧ dg < (1 <<< ((2 * n) &&& 31)) then (nI (wdF dg (cl n) 0 (A (8 + 2 * cl r))).1, va_up A (8 + 2 * cl r) (wdF dg (cl n) 0 (A (8 + 2 * cl r))).2) else (-7, rfA A 7)) else (-3, rfA A 3)
set_option maxHeartbeats 4000000 in
set_option maxRecDepth 100000 in
theorem c7_word (d : Nat) {m : Nat} (hm : A 0 9 = nI m) (h6 : m ≤ 6) (r dg n : Int32) : C mX7_word (d + 2) 0 0 [.ref 0, .int r, .int dg, .int n] (hp A B) (fun r' h' => h' = hp (s7_word A m r dg n).2 B ∧ r' = some (.int (s7_word A m r dg n).1)) := by
  refine C.of [some (.ref 0), some (.int r), some (.int dg), some (.int n), none, none] omX7_word rfl rfl rfl ?_
  by_cases h1 : 0 ≤ r ∧ r < A 0 9
  · repeat (first | refine V.s omX7_word rfl rfl ?_ | refine V.gf omX7_word rfl rfl rfl rfl ?_ | refine V.brF omX7_word rfl rfl (by decide) ?_ | refine V.brT omX7_word rfl rfl (by decide) (by decide) ?_ | refine V.cVf omX7_word omX7_hasKiss rfl rfl (c_hkY _ h1) rfl rfl rfl rfl rfl rfl ?_)
    rw [hm] at h1
    simp only [s7_word, if_pos h1]
    by_cases hn : n < 0
    · simp only [if_pos hn]
      refine V.brF omX7_word rfl rfl (Int32.not_le.mpr hn) ?_
      repeat (first | refine V.s omX7_word rfl rfl ?_ | refine V.gf omX7_word rfl rfl rfl rfl ?_ | refine V.cVf omX7_word omX7_refuse rfl rfl (c_refuse _ _ (by decide)) rfl rfl rfl rfl rfl rfl ?_)
      exact V.iret omX7_word rfl rfl ⟨rfl, rfl⟩
    simp only [if_neg hn]
    refine V.brT omX7_word rfl rfl (Int32.not_lt.mp hn) (fun _ h => hn h) ?_
    by_cases h2 : n ≤ 15 ∧ 0 ≤ dg ∧ dg < (1 <<< ((2 * n) &&& 31))
    · simp only [if_pos h2]
      refine V.s omX7_word rfl rfl ?_
      refine V.s omX7_word rfl rfl ?_
      refine V.brF omX7_word rfl rfl (Int32.not_lt.mpr h2.1) ?_
      refine V.s omX7_word rfl rfl ?_
      refine V.brF omX7_word rfl rfl (Int32.not_lt.mpr h2.2.1) ?_
      repeat (first | refine V.s omX7_word rfl rfl ?_ | refine V.gf omX7_word rfl rfl rfl rfl ?_)
      refine V.brT omX7_word rfl rfl h2.2.2 (fun h => Int32.not_le.mpr h) ?_
      refine V.s omX7_word rfl rfl ?_
      refine V.s omX7_word rfl rfl ?_
      obtain ⟨i, hi, rfl⟩ := rng (by omega) h1
      obtain ⟨N, hN, rfl⟩ := rngl (m := 15) (by decide) (Int32.not_lt.mp hn) h2.1
      simp only [cl_nI (show i < 20 by omega), cl_nI (show N < 20 by omega)]
      have key := word_loop (A := A) (B := B) d (show i < 6 by omega) hN dg _ N 0 (A (8 + 2 * i)) none (by omega) rfl
      rw [va_self] at key
      exact key
    · simp only [if_neg h2]
      repeat' (first | refine V.s omX7_word rfl rfl ?_ | refine V.gf omX7_word rfl rfl rfl rfl ?_ | simp only [Int32.reduceAdd, Int32.reduceMul, Int32.reduceSub] | refine V.brF omX7_word rfl rfl (by decide) ?_ | refine V.brT omX7_word rfl rfl (by decide) (by decide) ?_ | refine V.cVf omX7_word omX7_refuse rfl rfl (c_refuse _ _ (by decide)) rfl rfl rfl rfl rfl rfl ?_ | refine V.br omX7_word rfl rfl (fun hc => ?_) (fun hc => ?_))
      all_goals first | exact V.iret omX7_word rfl rfl ⟨rfl, rfl⟩ | skip
      all_goals exact absurd ⟨by assumption, by assumption, by assumption⟩ h2
  · repeat (first | refine V.s omX7_word rfl rfl ?_ | refine V.gf omX7_word rfl rfl rfl rfl ?_ | refine V.brF omX7_word rfl rfl (by decide) ?_ | refine V.brT omX7_word rfl rfl (by decide) (by decide) ?_ | refine V.cVf omX7_word omX7_hasKiss rfl rfl (c_hkN _ h1) rfl rfl rfl rfl rfl rfl ?_ | refine V.cVf omX7_word omX7_refuse rfl rfl (c_refuse _ _ (by decide)) rfl rfl rfl rfl rfl rfl ?_)
    rw [hm] at h1
    exact V.iret omX7_word rfl rfl (by simp only [s7_word, if_neg h1] <;> (refine ⟨?_, ?_⟩ <;> first | rfl | trivial))
end RK6
