section ZED
theorem zadd {a b : Int64} (h : -9223372036854775808 ≤ a.toInt + b.toInt) (h2 : a.toInt + b.toInt < 9223372036854775808) : (a + b).toInt = a.toInt + b.toInt := by
  rw [Int64.toInt_add]
  exact Int.bmod_eq_of_le_mul_two (by omega) (by omega)
theorem zsub {a b : Int64} (h : -9223372036854775808 ≤ a.toInt - b.toInt) (h2 : a.toInt - b.toInt < 9223372036854775808) : (a - b).toInt = a.toInt - b.toInt := by
  rw [Int64.toInt_sub]
  exact Int.bmod_eq_of_le_mul_two (by omega) (by omega)
theorem zmul {a b : Int64} (h : -9223372036854775808 ≤ a.toInt * b.toInt) (h2 : a.toInt * b.toInt < 9223372036854775808) : (a * b).toInt = a.toInt * b.toInt := by
  rw [Int64.toInt_mul]
  exact Int.bmod_eq_of_le_mul_two (by omega) (by omega)
theorem zneg {a : Int32} (h : -2147483648 < a.toInt) (h2 : a.toInt < 2147483648) : (-a).toInt = -a.toInt := by
  rw [Int32.toInt_neg]
  exact Int.bmod_eq_of_le_mul_two (by omega) (by omega)
theorem z32 (c : Int32) : c.toInt64.toInt = c.toInt := Int32.toInt_toInt64 c
theorem fit_z {v : Int64} : fitF v = 1 ↔ -1000000000 ≤ v.toInt ∧ v.toInt ≤ 1000000000 := by
  have e : ((-1000000000 : Int64) ≤ v ∧ v ≤ 1000000000) ↔ (-1000000000 ≤ v.toInt ∧ v.toInt ≤ 1000000000) := by
    rw [Int64.le_iff_toInt_le, Int64.le_iff_toInt_le]
    exact Iff.rfl
  unfold fitF
  by_cases h : (-1000000000 : Int64) ≤ v ∧ v ≤ 1000000000
  · rw [if_pos h]
    exact ⟨fun _ => e.mp h, fun _ => rfl⟩
  · rw [if_neg h]
    exact ⟨fun g => absurd g (by decide), fun g => absurd (e.mpr g) h⟩
theorem fit_32 {v : Int64} (h : fitF v = 1) : v.toInt32.toInt = v.toInt := by
  rw [fit_z] at h
  rw [Int64.toInt_toInt32]
  exact Int.bmod_eq_of_le_mul_two (by omega) (by omega)
theorem mulb {a b M N : Int} (h1 : -M ≤ a) (h2 : a ≤ M) (h3 : -N ≤ b) (h4 : b ≤ N) : -(M * N) ≤ a * b ∧ a * b ≤ M * N := by
  have p1 := Int.mul_nonneg (show 0 ≤ M - a by omega) (show 0 ≤ N + b by omega)
  have p2 := Int.mul_nonneg (show 0 ≤ M + a by omega) (show 0 ≤ N - b by omega)
  have p3 := Int.mul_nonneg (show 0 ≤ M - a by omega) (show 0 ≤ N - b by omega)
  have p4 := Int.mul_nonneg (show 0 ≤ M + a by omega) (show 0 ≤ N + b by omega)
  have e1 : (M - a) * (N + b) = M * N + M * b - a * N - a * b := by grind
  have e2 : (M + a) * (N - b) = M * N - M * b + a * N - a * b := by grind
  have e3 : (M - a) * (N - b) = M * N - M * b - a * N + a * b := by grind
  have e4 : (M + a) * (N + b) = M * N + M * b + a * N + a * b := by grind
  rw [e1] at p1
  rw [e2] at p2
  rw [e3] at p3
  rw [e4] at p4
  omega
abbrev bz (a : Int) : Prop := -1000000000 ≤ a ∧ a ≤ 1000000000
theorem bz2 {a b : Int} (ha : bz a) (hb : bz b) : -1000000000000000000 ≤ a * b ∧ a * b ≤ 1000000000000000000 := by
  have := mulb ha.1 ha.2 hb.1 hb.2
  omega
abbrev LZ (a b x y : Int) : Prop := bz a ∧ bz b ∧ bz x ∧ bz y ∧ x * x + y * y - a * b = 1
theorem m32 {a b : Int32} (ha : bz a.toInt) (hb : bz b.toInt) : (a.toInt64 * b.toInt64).toInt = a.toInt * b.toInt := by
  have := bz2 ha hb
  rw [zmul, z32, z32]
  · rw [z32, z32]; omega
  · rw [z32, z32]; omega
theorem law_v {a b x y : Int32} (ha : bz a.toInt) (hb : bz b.toInt) (hx : bz x.toInt) (hy : bz y.toInt) : (x.toInt64 * x.toInt64 + y.toInt64 * y.toInt64 - a.toInt64 * b.toInt64).toInt = x.toInt * x.toInt + y.toInt * y.toInt - a.toInt * b.toInt := by
  have h1 := bz2 hx hx
  have h2 := bz2 hy hy
  have h3 := bz2 ha hb
  have e1 := m32 hx hx
  have e2 := m32 hy hy
  have e3 := m32 ha hb
  have e4 : (x.toInt64 * x.toInt64 + y.toInt64 * y.toInt64).toInt = x.toInt * x.toInt + y.toInt * y.toInt := by
    rw [zadd, e1, e2]
    · rw [e1, e2]; omega
    · rw [e1, e2]; omega
  rw [zsub, e4, e3]
  · rw [e4, e3]; omega
  · rw [e4, e3]; omega
theorem law_z {a b x y : Int32} : lawP a b x y ↔ LZ a.toInt b.toInt x.toInt y.toInt := by
  unfold lawP
  rw [fit_z, fit_z, fit_z, fit_z, z32, z32, z32, z32]
  constructor
  · rintro ⟨ha, hb, hx, hy, h⟩
    refine ⟨ha, hb, hx, hy, ?_⟩
    rw [← law_v ha hb hx hy, h]
    rfl
  · rintro ⟨ha, hb, hx, hy, h⟩
    refine ⟨ha, hb, hx, hy, ?_⟩
    apply Int64.toInt_inj.mp
    rw [law_v ha hb hx hy, h]
    rfl
/-- the product of two rounds, in whole numbers -/
abbrev pz (a b x y a' b' x' y' : Int) : Int := 2 * (x * x' + y * y') - a * b' - a' * b
theorem prd_z {f g : Nat → Int32} {i j : Nat} (hf : ∀ c, c < 4 → bz (f (i + c)).toInt) (hg : ∀ c, c < 4 → bz (g (j + c)).toInt) : (prd f g i j).toInt = pz (f i).toInt (f (i + 1)).toInt (f (i + 2)).toInt (f (i + 3)).toInt (g j).toInt (g (j + 1)).toInt (g (j + 2)).toInt (g (j + 3)).toInt := by
  have f0 := hf 0 (by omega)
  have f1 := hf 1 (by omega)
  have f2 := hf 2 (by omega)
  have f3 := hf 3 (by omega)
  have g0 := hg 0 (by omega)
  have g1 := hg 1 (by omega)
  have g2 := hg 2 (by omega)
  have g3 := hg 3 (by omega)
  rw [Nat.add_zero] at f0 g0
  have b1 := bz2 f2 g2
  have b2 := bz2 f3 g3
  have b3 := bz2 f0 g1
  have b4 := bz2 g0 f1
  have e1 := m32 f2 g2
  have e2 := m32 f3 g3
  have e3 := m32 f0 g1
  have e4 := m32 g0 f1
  unfold prd pz
  have s1 : ((f (i + 2)).toInt64 * (g (j + 2)).toInt64 + (f (i + 3)).toInt64 * (g (j + 3)).toInt64).toInt = (f (i + 2)).toInt * (g (j + 2)).toInt + (f (i + 3)).toInt * (g (j + 3)).toInt := by
    rw [zadd, e1, e2]
    · rw [e1, e2]; omega
    · rw [e1, e2]; omega
  have s2 : (2 * ((f (i + 2)).toInt64 * (g (j + 2)).toInt64 + (f (i + 3)).toInt64 * (g (j + 3)).toInt64)).toInt = 2 * ((f (i + 2)).toInt * (g (j + 2)).toInt + (f (i + 3)).toInt * (g (j + 3)).toInt) := by
    rw [zmul, s1, show (2 : Int64).toInt = 2 from rfl]
    · rw [s1, show (2 : Int64).toInt = 2 from rfl]; omega
    · rw [s1, show (2 : Int64).toInt = 2 from rfl]; omega
  have s3 : (2 * ((f (i + 2)).toInt64 * (g (j + 2)).toInt64 + (f (i + 3)).toInt64 * (g (j + 3)).toInt64) - (f i).toInt64 * (g (j + 1)).toInt64).toInt = 2 * ((f (i + 2)).toInt * (g (j + 2)).toInt + (f (i + 3)).toInt * (g (j + 3)).toInt) - (f i).toInt * (g (j + 1)).toInt := by
    rw [zsub, s2, e3]
    · rw [s2, e3]; omega
    · rw [s2, e3]; omega
  rw [zsub, s3, e4]
  · rw [s3, e4]; omega
  · rw [s3, e4]; omega
theorem lz_neg {a b x y : Int} (h : LZ a b x y) : LZ (-a) (-b) (-x) (-y) := by
  obtain ⟨h1, h2, h3, h4, h5⟩ := h
  refine ⟨by unfold bz at *; omega, by unfold bz at *; omega, by unfold bz at *; omega, by unfold bz at *; omega, ?_⟩
  have : -x * -x + -y * -y - -a * -b = x * x + y * y - a * b := by grind
  rw [this]
  exact h5
theorem law_neg {a b x y : Int32} (h : lawP a b x y) : lawP (-a) (-b) (-x) (-y) := by
  rw [law_z] at h ⊢
  have h0 := lz_neg h
  obtain ⟨h1, h2, h3, h4, h5⟩ := h
  unfold bz at h1 h2 h3 h4
  rw [zneg (by omega) (by omega), zneg (by omega) (by omega), zneg (by omega) (by omega), zneg (by omega) (by omega)]
  exact h0
theorem kb_neg (a : Int32) : kbF (-a) = kbF a := by
  unfold kbF
  by_cases h : a = 0
  · subst h; rfl
  · have h2 : ¬ -a = 0 := by
      intro g
      have g2 := congrArg (fun z : Int32 => -z) g
      simp only [Int32.neg_neg] at g2
      exact h (g2.trans (by decide))
    rw [if_neg h, if_neg h2]
theorem g_flip (r : Int32) : Good mX7_flip mX8_flip [.int r] false := by
  refine Good_i 2 2 (by decide) (by decide) (fun A hA => ?_)
  obtain ⟨n, hR⟩ := hA.1
  have hR0 := hR
  obtain ⟨h0, h1, h2, h3, h4, h5, h6, h7⟩ := hR
  have e : (s8_flip (s7_flip A n r).2 n r).1 = (s7_flip A n r).1 ∧ Rel (s8_flip (s7_flip A n r).2 n r).2 ∧ (s7_flip A n r).2 33 5 = nI n := by
    unfold s8_flip s7_flip
    by_cases c1 : 0 ≤ r ∧ r < nI n
    · by_cases c2 : n < 20
      · simp only [if_pos c1, if_pos c2]
        obtain ⟨i, hi, rfl⟩ := rng (by omega) c1
        rw [cl_nI (by omega)]
        refine ⟨trivial, ?_, h2⟩
        rw [show (flA A n i) 34 = A 34 from rfl, h3]
        unfold flA
        rw [kb_neg]
        exact Rel_put c2 (law_neg (h7 i hi)) hR0 hA
      · simp only [if_pos c1, if_neg c2]
        exact ⟨(by first | trivial | rfl), Rel_rf 8 hA, h2⟩
    · simp only [if_neg c1]
      exact ⟨(by first | trivial | rfl), Rel_rf 3 hA, h2⟩
  refine ⟨_, _, _, fun B => c7_flip 0 h1 h0 r, fun B => ?_, e.2.1⟩
  rw [← e.1]
  exact c8_flip 0 e.2.2 h0 r
/-! mirrors -/
theorem mrr_z {f : Nat → Int32} {i j c : Nat} {v : Int64} (hi : bz (f (4 * i + c)).toInt) (hj : bz (f (4 * j + c)).toInt) (hv : -4000000000 ≤ v.toInt ∧ v.toInt ≤ 4000000000) : (mrr f i j c v).toInt = (f (4 * i + c)).toInt - v.toInt * (f (4 * j + c)).toInt := by
  unfold mrr
  have h1 := mulb hv.1 hv.2 hj.1 hj.2
  have e : (v * (f (4 * j + c)).toInt64).toInt = v.toInt * (f (4 * j + c)).toInt := by
    rw [zmul, z32]
    · rw [z32]; omega
    · rw [z32]; omega
  unfold bz at hi
  rw [zsub, z32, e]
  · rw [z32, e]; omega
  · rw [z32, e]; omega
theorem mir_big {v w u : Int} (hu : bz u) (hw : w ≠ 0) (hv : 2000000000 < v ∨ v < -2000000000) : ¬ bz (u - v * w) := by
  intro h
  unfold bz at *
  rcases (show 1 ≤ w ∨ w ≤ -1 by omega) with g | g <;> rcases hv with k | k
  · have := Int.mul_le_mul_of_nonneg_left g (show 0 ≤ v by omega)
    omega
  · have := Int.mul_le_mul_of_nonneg_left g (show 0 ≤ -v by omega)
    have e : -v * w = -(v * w) := by grind
    omega
  · have := Int.mul_le_mul_of_nonneg_left (show 1 ≤ -w by omega) (show 0 ≤ v by omega)
    have e : v * -w = -(v * w) := by grind
    omega
  · have := Int.mul_le_mul_of_nonneg_left (show 1 ≤ -w by omega) (show 0 ≤ -v by omega)
    have e : -v * -w = v * w := by grind
    omega
theorem lz_ne {a b x y : Int} (h : LZ a b x y) : a ≠ 0 ∨ b ≠ 0 ∨ x ≠ 0 ∨ y ≠ 0 := by
  by_cases ha : a = 0
  · by_cases hx : x = 0
    · by_cases hy : y = 0
      · have := h.2.2.2.2
        rw [ha, hx, hy] at this
        simp at this
      · exact Or.inr (Or.inr (Or.inr hy))
    · exact Or.inr (Or.inr (Or.inl hx))
  · exact Or.inl ha
theorem lawR_bz {N : Nat → Int32} {r : Nat} (h : lawR N r) : ∀ c, c < 4 → bz (N (4 * r + c)).toInt := by
  unfold lawR at h
  rw [law_z] at h
  intro c hc
  rcases (show c = 0 ∨ c = 1 ∨ c = 2 ∨ c = 3 by omega) with rfl | rfl | rfl | rfl
  · exact h.1
  · exact h.2.1
  · exact h.2.2.1
  · exact h.2.2.2.1
theorem mf_iff {N : Nat → Int32} {i j : Nat} (hi : lawR N i) (hj : lawR N j) : mf8 N i j ↔ mfP N i j := by
  have bi := lawR_bz hi
  have bj := lawR_bz hj
  unfold mf8 mfP
  rw [Int64.le_iff_toInt_le, Int64.le_iff_toInt_le, Int64.le_iff_toInt_le, Int64.le_iff_toInt_le, show (-4000000000 : Int64).toInt = -4000000000 from rfl, show (4000000000 : Int64).toInt = 4000000000 from rfl, show (-2000000000 : Int64).toInt = -2000000000 from rfl, show (2000000000 : Int64).toInt = 2000000000 from rfl]
  generalize prd N N (4 * i) (4 * j) = v
  constructor
  · rintro ⟨h1, h2, h3, h4, h5⟩
    refine ⟨?_, h2, h3, h4, h5⟩
    rw [fit_z, mrr_z (bi 0 (by omega)) (bj 0 (by omega)) h1] at h2
    rw [fit_z, mrr_z (bi 1 (by omega)) (bj 1 (by omega)) h1] at h3
    rw [fit_z, mrr_z (bi 2 (by omega)) (bj 2 (by omega)) h1] at h4
    rw [fit_z, mrr_z (bi 3 (by omega)) (bj 3 (by omega)) h1] at h5
    by_cases hv : 2000000000 < v.toInt ∨ v.toInt < -2000000000
    · exfalso
      unfold lawR at hj
      rw [law_z] at hj
      rcases lz_ne hj with g | g | g | g
      · exact mir_big (bi 0 (by omega)) g hv h2
      · exact mir_big (bi 1 (by omega)) g hv h3
      · exact mir_big (bi 2 (by omega)) g hv h4
      · exact mir_big (bi 3 (by omega)) g hv h5
    · omega
  · rintro ⟨h1, h⟩
    exact ⟨by omega, h⟩
theorem mir_law {N : Nat → Int32} {i j : Nat} (hi : lawR N i) (hj : lawR N j) (h : mfP N i j) : lawP (mrr N i j 0 (prd N N (4 * i) (4 * j))).toInt32 (mrr N i j 1 (prd N N (4 * i) (4 * j))).toInt32 (mrr N i j 2 (prd N N (4 * i) (4 * j))).toInt32 (mrr N i j 3 (prd N N (4 * i) (4 * j))).toInt32 := by
  have bi := lawR_bz hi
  have bj := lawR_bz hj
  have ev := prd_z bi bj
  obtain ⟨h1, h2, h3, h4, h5⟩ := (mf_iff hi hj).mpr h
  rw [Int64.le_iff_toInt_le, Int64.le_iff_toInt_le, show (-4000000000 : Int64).toInt = -4000000000 from rfl, show (4000000000 : Int64).toInt = 4000000000 from rfl] at h1
  generalize hv : prd N N (4 * i) (4 * j) = v at *
  rw [law_z, fit_32 h2, fit_32 h3, fit_32 h4, fit_32 h5]
  refine ⟨fit_z.mp h2, fit_z.mp h3, fit_z.mp h4, fit_z.mp h5, ?_⟩
  rw [mrr_z (bi 0 (by omega)) (bj 0 (by omega)) h1, mrr_z (bi 1 (by omega)) (bj 1 (by omega)) h1, mrr_z (bi 2 (by omega)) (bj 2 (by omega)) h1, mrr_z (bi 3 (by omega)) (bj 3 (by omega)) h1]
  unfold lawR at hi hj
  rw [law_z] at hi hj
  have qi := hi.2.2.2.2
  have qj := hj.2.2.2.2
  rw [Nat.add_zero, Nat.add_zero]
  unfold pz at ev
  clear hi hj bi bj h1 h2 h3 h4 h5 h hv
  generalize (N (4 * i)).toInt = a at *
  generalize (N (4 * i + 1)).toInt = b at *
  generalize (N (4 * i + 2)).toInt = x at *
  generalize (N (4 * i + 3)).toInt = y at *
  generalize (N (4 * j)).toInt = a' at *
  generalize (N (4 * j + 1)).toInt = b' at *
  generalize (N (4 * j + 2)).toInt = x' at *
  generalize (N (4 * j + 3)).toInt = y' at *
  generalize v.toInt = w at *
  have e : (x - w * x') * (x - w * x') + (y - w * y') * (y - w * y') - (a - w * a') * (b - w * b') = (x * x + y * y - a * b) - w * (2 * (x * x' + y * y') - a * b' - a' * b) + w * w * (x' * x' + y' * y' - a' * b') := by grind
  rw [e, qi, qj, ← ev]
  grind
theorem g_mirror (r w : Int32) : Good mX7_mirror mX8_mirror [.int r, .int w] false := by
  refine Good_i 3 2 (by decide) (by decide) (fun A hA => ?_)
  obtain ⟨n, hR⟩ := hA.1
  have hR0 := hR
  obtain ⟨h0, h1, h2, h3, h4, h5, h6, h7⟩ := hR
  have e : (s8_mirror (s7_mirror A n r w).2 n r w).1 = (s7_mirror A n r w).1 ∧ Rel (s8_mirror (s7_mirror A n r w).2 n r w).2 ∧ (s7_mirror A n r w).2 33 5 = nI n := by
    unfold s8_mirror s7_mirror
    by_cases c1 : (0 ≤ r ∧ r < nI n) ∧ (0 ≤ w ∧ w < nI n)
    · obtain ⟨i, hi, rfl⟩ := rng (by omega) c1.1
      obtain ⟨j, hj, rfl⟩ := rng (by omega) c1.2
      simp only [if_pos c1]
      rw [cl_nI (by omega), cl_nI (by omega)]
      have hm := mf_iff (h7 i hi) (h7 j hj)
      by_cases c2 : n < 20 ∧ mfP (A 2) i j
      · have c2' : n < 20 ∧ mf8 (mrA A n i j 34) i j := by
          rw [show (mrA A n i j) 34 = A 34 from rfl, h3]
          exact ⟨c2.1, hm.mpr c2.2⟩
        simp only [if_pos c2, if_pos c2']
        refine ⟨trivial, ?_, h2⟩
        unfold m8A
        rw [show (mrA A n i j) 34 = A 34 from rfl, h3]
        exact Rel_put c2.1 (mir_law (h7 i hi) (h7 j hj) c2.2) hR0 hA
      · have c2' : ¬ (n < 20 ∧ mf8 (rfA A 8 34) i j) := by
          rw [show (rfA A 8) 34 = A 34 from rfl, h3]
          exact fun g => c2 ⟨g.1, hm.mp g.2⟩
        simp only [if_neg c2, if_neg c2']
        exact ⟨(by first | trivial | rfl), Rel_rf 8 hA, h2⟩
    · simp only [if_neg c1]
      exact ⟨(by first | trivial | rfl), Rel_rf 3 hA, h2⟩
  refine ⟨_, _, _, fun B => c7_mirror 0 h1 h0 r w, fun B => ?_, e.2.1⟩
  rw [← e.1]
  exact c8_mirror 0 e.2.2 h0 r w
end ZED
