section MD3
variable {A : Nat → Nat → Int32} {B : Nat → Nat → Int64}
set_option maxHeartbeats 4000000 in
set_option maxRecDepth 100000 in
theorem c8_mirror (d : Nat) {n : Nat} (hn : A 33 5 = nI n) (h20 : n ≤ 20) (r o : Int32) : C mX8_mirror (d + 2) 0 0 [.ref 33, .int r, .int o] (hp A B) (fun r' h' => h' = hp (s8_mirror A n r o).2 B ∧ r' = some (.int (s8_mirror A n r o).1)) := by
  refine C.of [some (.ref 33), some (.int r), some (.int o), none, none, none, none] omX8_mirror rfl rfl rfl ?_
  by_cases h1 : 0 ≤ r ∧ r < A 33 5
  · by_cases h2 : 0 ≤ o ∧ o < A 33 5
    · repeat (first | refine V.s omX8_mirror rfl rfl ?_ | refine V.gf omX8_mirror rfl rfl rfl rfl ?_ | refine V.brF omX8_mirror rfl rfl (by decide) ?_ | refine V.brT omX8_mirror rfl rfl (by decide) (by decide) ?_ | refine V.cVf omX8_mirror omX8_isRound rfl rfl (c8_irY _ h1) rfl rfl rfl rfl rfl rfl ?_ | refine V.cVf omX8_mirror omX8_isRound rfl rfl (c8_irY _ h2) rfl rfl rfl rfl rfl rfl ?_)
      rw [hn] at h1 h2
      have hp2 : (0 ≤ r ∧ r < nI n) ∧ (0 ≤ o ∧ o < nI n) := ⟨h1, h2⟩
      simp only [s8_mirror, if_pos hp2]
      obtain ⟨i, hi, rfl⟩ := rng (by omega) h1
      obtain ⟨j, hj, rfl⟩ := rng (by omega) h2
      simp only [cl_nI (show i < 20 by omega), cl_nI (show j < 20 by omega)]
      refine V.cSf omX8_mirror omX8_productOf rfl rfl (c8_pr _ (show i < 20 by omega) (show j < 20 by omega)) rfl rfl rfl rfl ?_
      have fin := mirror8_put (A := A) (B := B) d hn h20 (show i < 20 by omega) (show j < 20 by omega)
      have ci : C mX8_isIn (d + 1) 0 0 [.long (prd (A 34) (A 34) (4 * i) (4 * j)), .long (-4000000000), .long 4000000000] (hp A B) (fun r h' => h' = hp A B ∧ r = some (.int (inF (prd (A 34) (A 34) (4 * i) (4 * j))))) := c8_isIn _ _ _ _ _
      have cf : ∀ v, C mX8_isIn (d + 1) 0 0 [.long v, .long (-1000000000), .long 1000000000] (hp A B) (fun r h' => h' = hp A B ∧ r = some (.int (fitF v))) := fun v => c8_isIn _ v _ _ _
      refine V.s omX8_mirror rfl rfl ?_
      refine V.s omX8_mirror rfl rfl ?_
      refine V.s omX8_mirror rfl rfl ?_
      refine V.s omX8_mirror rfl rfl ?_
      refine V.cSf omX8_mirror omX8_isIn rfl rfl ci rfl rfl rfl rfl ?_
      refine V.s omX8_mirror rfl rfl ?_
      refine V.s omX8_mirror rfl rfl ?_
      refine V.s omX8_mirror rfl rfl ?_
      have stop : ∀ (s5 s6 : Int32), ¬ mf8 (A 34) i j → s5 = 0 → V mX8_mirror (d + 2) 0 0 (fun r' h' => h' = hp (if n < 20 ∧ mf8 (A 34) i j then (nI n, m8A A n i j) else (-8, rmA A 8)).2 B ∧ r' = some (.int (if n < 20 ∧ mf8 (A 34) i j then (nI n, m8A A n i j) else (-8, rmA A 8)).1)) 0 0 93 [some (.ref 33), some (.int (nI i)), some (.int (nI j)), some (.long (prd (A 34) (A 34) (4 * i) (4 * j))), none, some (.int s5), some (.int s6)] [] (hp A B) := by
        intro s5 s6 hm h5
        rw [if_neg (fun h => hm h.2)]
        refine V.s omX8_mirror rfl rfl ?_
        refine V.brF omX8_mirror rfl rfl (fun h => h h5) ?_
        repeat (first | refine V.s omX8_mirror rfl rfl ?_ | refine V.gf omX8_mirror rfl rfl rfl rfl ?_ | refine V.cVf omX8_mirror omX8_no rfl rfl (c8_no _ _ (by decide)) rfl rfl rfl rfl rfl rfl ?_)
        exact V.iret omX8_mirror rfl rfl ⟨rfl, rfl⟩
      have step : ∀ (c : Nat) (s5 : Int32), c < 4 → ¬ s5 = 0 → V mX8_mirror (d + 2) 0 0 (fun r' h' => h' = hp (if n < 20 ∧ mf8 (A 34) i j then (nI n, m8A A n i j) else (-8, rmA A 8)).2 B ∧ r' = some (.int (if n < 20 ∧ mf8 (A 34) i j then (nI n, m8A A n i j) else (-8, rmA A 8)).1)) 0 0 56 [some (.ref 33), some (.int (nI i)), some (.int (nI j)), some (.long (prd (A 34) (A 34) (4 * i) (4 * j))), none, some (.int (fitF (mrr (A 34) i j c (prd (A 34) (A 34) (4 * i) (4 * j))))), some (.int (nI (c + 1)))] [] (hp A B) → V mX8_mirror (d + 2) 0 0 (fun r' h' => h' = hp (if n < 20 ∧ mf8 (A 34) i j then (nI n, m8A A n i j) else (-8, rmA A 8)).2 B ∧ r' = some (.int (if n < 20 ∧ mf8 (A 34) i j then (nI n, m8A A n i j) else (-8, rmA A 8)).1)) 0 0 56 [some (.ref 33), some (.int (nI i)), some (.int (nI j)), some (.long (prd (A 34) (A 34) (4 * i) (4 * j))), none, some (.int s5), some (.int (nI c))] [] (hp A B) := by
        intro c s5 hc h5 kk
        refine V.s omX8_mirror rfl rfl ?_
        refine V.s omX8_mirror rfl rfl ?_
        refine V.brF omX8_mirror rfl rfl (by rw [nIl_le 4 (by omega) (by decide)]; omega) ?_
        refine V.s omX8_mirror rfl rfl ?_
        refine V.brF omX8_mirror rfl rfl h5 ?_
        repeat (first | refine V.s omX8_mirror rfl rfl ?_)
        refine V.cVf omX8_mirror omX8_mirrored rfl rfl (c8_mirrored _ nv_nI nv_nI nv_nI (show i < 20 by omega) (show j < 20 by omega) hc _) rfl rfl rfl rfl rfl rfl ?_
        refine V.s omX8_mirror rfl rfl ?_
        refine V.s omX8_mirror rfl rfl ?_
        refine V.cSf omX8_mirror omX8_isIn rfl rfl (cf _) rfl rfl rfl rfl ?_
        refine V.s omX8_mirror rfl rfl ?_
        refine V.s omX8_mirror rfl rfl ?_
        refine V.s omX8_mirror rfl rfl ?_
        rw [nI_1]
        exact kk
      have leave : ∀ (c : Nat) (s5 : Int32), c < 4 → s5 = 0 → ¬ mf8 (A 34) i j → V mX8_mirror (d + 2) 0 0 (fun r' h' => h' = hp (if n < 20 ∧ mf8 (A 34) i j then (nI n, m8A A n i j) else (-8, rmA A 8)).2 B ∧ r' = some (.int (if n < 20 ∧ mf8 (A 34) i j then (nI n, m8A A n i j) else (-8, rmA A 8)).1)) 0 0 56 [some (.ref 33), some (.int (nI i)), some (.int (nI j)), some (.long (prd (A 34) (A 34) (4 * i) (4 * j))), none, some (.int s5), some (.int (nI c))] [] (hp A B) := by
        intro c s5 hc h5 hm
        refine V.s omX8_mirror rfl rfl ?_
        refine V.s omX8_mirror rfl rfl ?_
        refine V.brF omX8_mirror rfl rfl (by rw [nIl_le 4 (by omega) (by decide)]; omega) ?_
        refine V.s omX8_mirror rfl rfl ?_
        refine V.brT omX8_mirror rfl rfl h5 (fun h g => g h) ?_
        exact stop s5 (nI c) hm h5
      by_cases g0 : inF (prd (A 34) (A 34) (4 * i) (4 * j)) = 0
      · exact leave 0 _ (by decide) g0 (fun h => inF_eq.mp g0 h.1)
      refine step 0 _ (by decide) g0 ?_
      by_cases g1 : fitF (mrr (A 34) i j 0 (prd (A 34) (A 34) (4 * i) (4 * j))) = 0
      · exact leave 1 _ (by decide) g1 (fun h => absurd (h.2.1.symm.trans g1) (by decide))
      refine step 1 _ (by decide) g1 ?_
      by_cases g2 : fitF (mrr (A 34) i j 1 (prd (A 34) (A 34) (4 * i) (4 * j))) = 0
      · exact leave 2 _ (by decide) g2 (fun h => absurd (h.2.2.1.symm.trans g2) (by decide))
      refine step 2 _ (by decide) g2 ?_
      by_cases g3 : fitF (mrr (A 34) i j 2 (prd (A 34) (A 34) (4 * i) (4 * j))) = 0
      · exact leave 3 _ (by decide) g3 (fun h => absurd (h.2.2.2.1.symm.trans g3) (by decide))
      refine step 3 _ (by decide) g3 ?_
      refine V.s omX8_mirror rfl rfl ?_
      refine V.s omX8_mirror rfl rfl ?_
      refine V.brT omX8_mirror rfl rfl (by decide) (by decide) ?_
      by_cases g4 : fitF (mrr (A 34) i j 3 (prd (A 34) (A 34) (4 * i) (4 * j))) = 0
      · exact stop _ _ (fun h => absurd (h.2.2.2.2.symm.trans g4) (by decide)) g4
      · refine V.s omX8_mirror rfl rfl ?_
        refine V.brT omX8_mirror rfl rfl g4 (fun h => h) ?_
        have hm : mf8 (A 34) i j := ⟨inF_ne.mp g0, fitF_ne.mp g1, fitF_ne.mp g2, fitF_ne.mp g3, fitF_ne.mp g4⟩
        have e : (if n < 20 ∧ mf8 (A 34) i j then (nI n, m8A A n i j) else (-8, rmA A 8)) = (if n < 20 then (nI n, m8A A n i j) else (-8, rmA A 8)) := by
          by_cases h3 : n < 20
          · rw [if_pos ⟨h3, hm⟩, if_pos h3]
          · rw [if_neg (fun h => h3 h.1), if_neg h3]
        rw [e]
        exact fin _ _
    · repeat (first | refine V.s omX8_mirror rfl rfl ?_ | refine V.gf omX8_mirror rfl rfl rfl rfl ?_ | refine V.brF omX8_mirror rfl rfl (by decide) ?_ | refine V.brT omX8_mirror rfl rfl (by decide) (by decide) ?_ | refine V.cVf omX8_mirror omX8_isRound rfl rfl (c8_irY _ h1) rfl rfl rfl rfl rfl rfl ?_ | refine V.cVf omX8_mirror omX8_isRound rfl rfl (c8_irN _ h2) rfl rfl rfl rfl rfl rfl ?_ | refine V.cVf omX8_mirror omX8_no rfl rfl (c8_no _ _ (by decide)) rfl rfl rfl rfl rfl rfl ?_)
      rw [hn] at h1 h2
      exact V.iret omX8_mirror rfl rfl (by simp only [s8_mirror, if_neg (show ¬ ((0 ≤ r ∧ r < nI n) ∧ (0 ≤ o ∧ o < nI n)) from fun h => h2 h.2)] <;> (refine ⟨?_, ?_⟩ <;> first | rfl | trivial))
  · repeat (first | refine V.s omX8_mirror rfl rfl ?_ | refine V.gf omX8_mirror rfl rfl rfl rfl ?_ | refine V.brF omX8_mirror rfl rfl (by decide) ?_ | refine V.brT omX8_mirror rfl rfl (by decide) (by decide) ?_ | refine V.cVf omX8_mirror omX8_isRound rfl rfl (c8_irN _ h1) rfl rfl rfl rfl rfl rfl ?_ | refine V.cVf omX8_mirror omX8_no rfl rfl (c8_no _ _ (by decide)) rfl rfl rfl rfl rfl rfl ?_)
    rw [hn] at h1
    exact V.iret omX8_mirror rfl rfl (by simp only [s8_mirror, if_neg (show ¬ ((0 ≤ r ∧ r < nI n) ∧ (0 ≤ o ∧ o < nI n)) from fun h => h1 h.1)] <;> (refine ⟨?_, ?_⟩ <;> first | rfl | trivial))
def s8_flip (A : Nat → Nat → Int32) (n : Nat) (r : Int32) : Int32 × (Nat → Nat → Int32) := if 0 ≤ r ∧ r < nI n then (if n < 20 then (nI n, adA A n (kbF (A 34 (4 * cl r))) (-(A 34 (4 * cl r))) (-(A 34 (4 * cl r + 1))) (-(A 34 (4 * cl r + 2))) (-(A 34 (4 * cl r + 3)))) else (-8, rmA A 8)) else (-3, rmA A 3)
set_option maxHeartbeats 4000000 in
set_option maxRecDepth 100000 in
theorem c8_flip (d : Nat) {n : Nat} (hn : A 33 5 = nI n) (h20 : n ≤ 20) (r : Int32) : C mX8_flip (d + 2) 0 0 [.ref 33, .int r] (hp A B) (fun r' h' => h' = hp (s8_flip A n r).2 B ∧ r' = some (.int (s8_flip A n r).1)) := by
  refine C.of [some (.ref 33), some (.int r), none] omX8_flip rfl rfl rfl ?_
  by_cases h1 : 0 ≤ r ∧ r < A 33 5
  · repeat (first | refine V.s omX8_flip rfl rfl ?_ | refine V.gf omX8_flip rfl rfl rfl rfl ?_ | refine V.brF omX8_flip rfl rfl (by decide) ?_ | refine V.brT omX8_flip rfl rfl (by decide) (by decide) ?_ | refine V.cVf omX8_flip omX8_isRound rfl rfl (c8_irY _ h1) rfl rfl rfl rfl rfl rfl ?_)
    rw [hn] at h1
    simp only [s8_flip, if_pos h1]
    obtain ⟨i, hi, rfl⟩ := rng (by omega) h1
    simp only [cl_nI (show i < 20 by omega)]
    repeat (first | refine V.s omX8_flip rfl rfl ?_ | refine V.gf omX8_flip rfl rfl rfl rfl ?_ | refine V.ial omX8_flip rfl rfl (ixN (nv_mul nv_lit nv_nI) (by omega) (by decide)) ?_ | refine V.ial omX8_flip rfl rfl (ixN (nv_add (nv_mul nv_lit nv_nI) nv_lit) (by omega) (by decide)) ?_)
    have fin : ∀ kd, kd = kbF (A 34 (4 * i)) → V mX8_flip (d + 2) 0 0 (fun r h' => h' = hp (if n < 20 then (nI n, adA A n (kbF (A 34 (4 * i))) (-(A 34 (4 * i))) (-(A 34 (4 * i + 1))) (-(A 34 (4 * i + 2))) (-(A 34 (4 * i + 3)))) else (-8, rmA A 8)).2 B ∧ r = some (.int (if n < 20 then (nI n, adA A n (kbF (A 34 (4 * i))) (-(A 34 (4 * i))) (-(A 34 (4 * i + 1))) (-(A 34 (4 * i + 2))) (-(A 34 (4 * i + 3)))) else (-8, rmA A 8)).1)) 0 0 72 [some (.ref 33), some (.int (nI i)), some (.int (4 * nI i))] [.int kd, .long (-(A 34 (4 * i + 3))).toInt64, .long (-(A 34 (4 * i + 2))).toInt64, .long (-(A 34 (4 * i + 1))).toInt64, .long (-(A 34 (4 * i))).toInt64, .ref 33] (hp A B) := by
      intro kd hk
      subst hk
      by_cases h2 : n < 20
      · simp only [if_pos h2]
        refine V.cVf omX8_flip omX8_adds rfl rfl (c8_addsN d hn h2 _ _ _ _ _) rfl rfl rfl rfl rfl rfl ?_
        simp only [i32_back]
        exact V.iret omX8_flip rfl rfl ⟨rfl, rfl⟩
      · simp only [if_neg h2]
        refine V.cVf omX8_flip omX8_adds rfl rfl (c8_addsF d (hn.trans (n20 h20 h2)) _ _ _ _ _) rfl rfl rfl rfl rfl rfl ?_
        exact V.iret omX8_flip rfl rfl ⟨rfl, rfl⟩
    by_cases ha : A 34 (4 * i) = 0
    · refine V.brF omX8_flip rfl rfl (fun h => h ha) ?_
      refine V.s omX8_flip rfl rfl ?_
      refine V.s omX8_flip rfl rfl ?_
      exact fin 1 (by simp [kbF, ha])
    · refine V.brT omX8_flip rfl rfl ha (fun h => h) ?_
      refine V.s omX8_flip rfl rfl ?_
      exact fin 0 (by simp [kbF, ha])
  · repeat (first | refine V.s omX8_flip rfl rfl ?_ | refine V.gf omX8_flip rfl rfl rfl rfl ?_ | refine V.brF omX8_flip rfl rfl (by decide) ?_ | refine V.brT omX8_flip rfl rfl (by decide) (by decide) ?_ | refine V.cVf omX8_flip omX8_isRound rfl rfl (c8_irN _ h1) rfl rfl rfl rfl rfl rfl ?_ | refine V.cVf omX8_flip omX8_no rfl rfl (c8_no _ _ (by decide)) rfl rfl rfl rfl rfl rfl ?_)
    rw [hn] at h1
    exact V.iret omX8_flip rfl rfl (by simp only [s8_flip, if_neg h1] <;> (refine ⟨?_, ?_⟩ <;> first | rfl | trivial))
end MD3
