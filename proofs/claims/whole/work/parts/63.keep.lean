section KEEP
variable {A : Nat → Nat → Int32} {B : Nat → Nat → Int64}
theorem law_over {P Q : Nat} (hP : P ≤ 999) (hQ : Q ≤ 999) : lawP (2 * nI Q * nI Q) (2 * nI P * nI P) (2 * nI P * nI Q) 1 := by
  rw [show (2 : Int32) = nI 2 from rfl, show (1 : Int32) = nI 1 from rfl, pk_mul, pk_mul, pk_mul, pk_mul, pk_mul, law_z]
  have h1 : 2 * Q * Q ≤ 2 * 999 * 999 := Nat.mul_le_mul (by omega) hQ
  have h2 : 2 * P * P ≤ 2 * 999 * 999 := Nat.mul_le_mul (by omega) hP
  have h3 : 2 * P * Q ≤ 2 * 999 * 999 := Nat.mul_le_mul (by omega) hQ
  rw [nI_toInt (by omega), nI_toInt (by omega), nI_toInt (by omega), nI_toInt (by omega)]
  refine ⟨by unfold bz; omega, by unfold bz; omega, by unfold bz; omega, by unfold bz; omega, ?_⟩
  push_cast
  generalize (P : Int) = p
  generalize (Q : Int) = q
  grind
theorem Rel_over {n : Nat} (hn : n < 20) {p q : Int32} (hl : lawP (2 * q * q) (2 * p * p) (2 * p * q) 1) (hR : RelR A n) (h : Rel A) : Rel (om8 (ovA A n p q) n p q) := by
  obtain ⟨-, ⟨m, hK⟩, hM, hW⟩ := h
  have ne : ∀ z k, ¬ selR z k → om8 (ovA A n p q) n p q z k = A z k := by
    intro z k s
    unfold om8 ovA adA putA
    by_cases g : z = 33
    · subst g
      have : k ≠ 5 := by unfold selR at s; omega
      show upd (A 33) 5 _ k = _
      exact pk_un this
    · unfold selR at s
      rw [va_sel (by omega), va_sel (by omega), va_sel (by omega), va_sel (by omega), va_sel (by omega), va_sel (by omega), va_sel (by omega), va_sel (by omega), va_sel (by omega), va_sel (by omega)]
  refine ⟨⟨n + 1, ?_⟩, ⟨m, RelK_c (fun z k s => ne z k (by unfold selK at s; unfold selR; omega)) hK⟩, RelM_c (fun z k s => ne z k (by unfold selM at s; unfold selR; omega)) hM, RelW_c (fun z k s => ne z k (by unfold selW at s; unfold selR; omega)) hW⟩
  obtain ⟨h0, h1, h2, h3, h4, h5, h6, h7⟩ := hR
  refine ⟨by omega, rfl, rfl, ?_, ?_, ?_, ?_, ?_⟩
  · show putN (A 34) n _ _ _ _ = putN (A 2) n _ _ _ _
    rw [h3]
  · show upd (A 35) n 2 = upd (A 3) n 2
    rw [h4]
  · show upd (A 36) n p = upd (A 4) n p
    rw [h5]
  · show upd (A 37) n q = upd (A 5) n q
    rw [h6]
  · intro r hr
    show lawR (putN (A 2) n _ _ _ _) r
    unfold lawR
    by_cases e : r = n
    · subst e
      obtain ⟨p0, p1, p2, p3⟩ := putN_0 (f := A 2) (n := r) (a := 2 * q * q) (b := 2 * p * p) (x := 2 * p * q) (y := 1)
      rw [p0, p1, p2, p3]
      exact hl
    · rw [putN_ne (by omega), putN_ne (by omega), putN_ne (by omega), putN_ne (by omega)]
      exact h7 r (by omega)
theorem g_over (p q : Int32) : Good mX7_over mX8_over [.int p, .int q] false := by
  refine Good_i 2 2 (by decide) (by decide) (fun A hA => ?_)
  obtain ⟨n, hR⟩ := hA.1
  have hR0 := hR
  obtain ⟨h0, h1, h2, h3, h4, h5, h6, h7⟩ := hR
  by_cases c1 : ovP p q
  · have hv : (true = true) ↔ ovP p q := ⟨fun _ => c1, fun _ => rfl⟩
    have hl : lawP (2 * q * q) (2 * p * p) (2 * p * q) 1 := by
      obtain ⟨⟨k1, k2, k3, k4⟩, -⟩ := c1
      obtain ⟨i, hi, rfl⟩ := rngl (M := 999) (m := 999) rfl k1 k2
      obtain ⟨j, hj, rfl⟩ := rngl (M := 999) (m := 999) rfl (Int32.le_trans (by decide) k3) k4
      exact law_over hi hj
    have e : (s8_over (s7_over A n p q true).2 n p q true).1 = (s7_over A n p q true).1 ∧ Rel (s8_over (s7_over A n p q true).2 n p q true).2 ∧ (s7_over A n p q true).2 33 5 = nI n := by
      unfold s8_over s7_over
      by_cases c2 : n < 20
      · simp only [if_pos c2, if_true]
        exact ⟨(by first | trivial | rfl), Rel_over c2 hl hR0 hA, h2⟩
      · simp only [if_neg c2, if_true]
        exact ⟨(by first | trivial | rfl), Rel_rf 8 hA, h2⟩
    refine ⟨_, _, _, fun B => c7_over 0 h1 h0 p q true hv, fun B => ?_, e.2.1⟩
    rw [← e.1]
    exact c8_over 0 e.2.2 h0 p q true hv
  · have hv : (false = true) ↔ ovP p q := ⟨fun g => absurd g (by decide), fun g => absurd g c1⟩
    refine ⟨-7, rfA A 7, rmA (rfA A 7) 7, fun B => c7_over 0 h1 h0 p q false hv, fun B => c8_over (A := rfA A 7) 0 h2 h0 p q false hv, Rel_rf 7 hA⟩
theorem c16 {i n j : Int32} (hn : ¬ n < 0) (h : 0 ≤ i ∧ 0 ≤ j ∧ i.toInt64 + n.toInt64 ≤ 16 ∧ j.toInt64 + n.toInt64 ≤ 16) : cl i + cl n ≤ 16 ∧ cl j + cl n ≤ 16 := by
  obtain ⟨I, hI, rfl⟩ := nI_of (x := i) (Int32.not_lt.mpr h.1)
  obtain ⟨J, hJ, rfl⟩ := nI_of (x := j) (Int32.not_lt.mpr h.2.1)
  obtain ⟨K, hK, rfl⟩ := nI_of (x := n) hn
  have h3 := Int64.le_iff_toInt_le.mp h.2.2.1
  have h4 := Int64.le_iff_toInt_le.mp h.2.2.2
  unfold cl
  rw [nI_clamp hI, nI_clamp hJ, nI_clamp hK]
  rw [zadd (by rw [z32, z32, nI_toInt hI, nI_toInt hK]; omega) (by rw [z32, z32, nI_toInt hI, nI_toInt hK]; omega), z32, z32, nI_toInt hI, nI_toInt hK, show (16 : Int64).toInt = 16 from rfl] at h3
  rw [zadd (by rw [z32, z32, nI_toInt hJ, nI_toInt hK]; omega) (by rw [z32, z32, nI_toInt hJ, nI_toInt hK]; omega), z32, z32, nI_toInt hJ, nI_toInt hK, show (16 : Int64).toInt = 16 from rfl] at h4
  omega
theorem g_copy (i j n : Int32) : Good mX7_copy mX8_copy [.int i, .int j, .int n] false := by
  refine Good_i 1 1 (by decide) (by decide) (fun A hA => ?_)
  obtain ⟨g1, g2, g3, g4, g5⟩ := hA.2.2.1
  have e : (s8_copy (s7_copy A i j n).2 i j n).1 = (s7_copy A i j n).1 ∧ Rel (s8_copy (s7_copy A i j n).2 i j n).2 := by
    unfold s8_copy s7_copy
    by_cases c1 : A 0 11 = 0
    · have c1' : rfA A 2 33 28 = 0 := g3.trans c1
      simp only [if_pos c1, if_pos c1']
      exact ⟨(by first | trivial | rfl), Rel_rf 2 hA⟩
    · have c1' : ¬ A 33 28 = 0 := by rw [g3]; exact c1
      by_cases c2 : n < 0
      · have c1'' : ¬ rfA A 4 33 28 = 0 := c1'
        simp only [if_neg c1, if_neg c1'', if_pos c2]
        exact ⟨(by first | trivial | rfl), Rel_rf 4 hA⟩
      · by_cases c3 : 0 ≤ i ∧ 0 ≤ j ∧ i.toInt64 + n.toInt64 ≤ 16 ∧ j.toInt64 + n.toInt64 ≤ 16
        · have c1'' : ¬ va_up A 31 (va_cpy (A 31) (A 31) (cl i) (cl j) (cl n)) 33 28 = 0 := c1'
          simp only [if_neg c1, if_neg c1'', if_neg c2, if_pos c3]
          refine ⟨trivial, ?_⟩
          obtain ⟨l1, l2⟩ := c16 c2 c3
          generalize cl i = I at *
          generalize cl j = J at *
          generalize cl n = K at *
          have ne : ∀ q k, ¬ (q = 31 ∨ q = 49 ∨ q = 50) → c8A (va_up A 31 (va_cpy (A 31) (A 31) I J K)) I J K q k = A q k := by
            intro q k s
            unfold c8A
            rw [va_sel (by omega), va_sel (by omega), va_sel (by omega)]
          obtain ⟨⟨nn, hR⟩, ⟨m, hK⟩, hM, hW⟩ := hA
          refine ⟨⟨nn, RelR_c (fun q k s => ne q k (by unfold selR at s; omega)) hR⟩, ⟨m, RelK_c (fun q k s => ne q k (by unfold selK at s; omega)) hK⟩, ⟨g1, g2, g3, g4, fun t ht => ?_⟩, RelW_c (fun q k s => ne q k (by unfold selW at s; omega)) hW⟩
          show va_cpy (va_cpy (A 49) (A 50) I 0 K) (A 49) 0 J K t = va_cpy (A 31) (A 31) I J K t
          by_cases hin : J ≤ t ∧ t < J + K
          · rw [pk_cpy_in hin.1 hin.2, pk_cpy_in hin.1 hin.2, pk_cpy_in (by omega) (by omega)]
            rw [show I + (0 + (t - J) - 0) = I + (t - J) by omega]
            exact g5 _ (by omega)
          · rw [pk_cpy_out (by omega), pk_cpy_out (by omega)]
            exact g5 t ht
        · have c1'' : ¬ rfA A 6 33 28 = 0 := c1'
          simp only [if_neg c1, if_neg c1'', if_neg c2, if_neg c3]
          exact ⟨(by first | trivial | rfl), Rel_rf 6 hA⟩
  refine ⟨_, _, _, fun B => c7_copy 0 i j n, fun B => ?_, e.2⟩
  rw [← e.1]
  exact c8_copy 0 i j n
/-! a kiss more -/
theorem laws_ext {f g : Nat → Int32} (h : ∀ i, i < 16 → g i = f i) : lawsF g = lawsF f := by
  unfold lawsF law4
  rw [h (4 * 0) (by omega), h (4 * 0 + 1) (by omega), h (4 * 0 + 2) (by omega), h (4 * 0 + 3) (by omega), h (4 * 1) (by omega), h (4 * 1 + 1) (by omega), h (4 * 1 + 2) (by omega), h (4 * 1 + 3) (by omega), h (4 * 2) (by omega), h (4 * 2 + 1) (by omega), h (4 * 2 + 2) (by omega), h (4 * 2 + 3) (by omega), h (4 * 3) (by omega), h (4 * 3 + 1) (by omega), h (4 * 3 + 2) (by omega), h (4 * 3 + 3) (by omega)]
theorem prd_ext {f g : Nat → Int32} (h : ∀ i, i < 16 → g i = f i) {i j : Nat} (hi : i + 3 < 16) (hj : j + 3 < 16) : prd g g i j = prd f f i j := by
  unfold prd
  rw [h i (by omega), h (i + 1) (by omega), h (i + 2) (by omega), h (i + 3) (by omega), h j (by omega), h (j + 1) (by omega), h (j + 2) (by omega), h (j + 3) (by omega)]
theorem tch_ext {f g : Nat → Int32} (h : ∀ i, i < 16 → g i = f i) : tchF g = tchF f := by
  unfold tchF
  rw [prd_ext h (i := 4) (j := 0) (by omega) (by omega), prd_ext h (i := 8) (j := 0) (by omega) (by omega), prd_ext h (i := 8) (j := 4) (by omega) (by omega), prd_ext h (i := 12) (j := 0) (by omega) (by omega), prd_ext h (i := 12) (j := 4) (by omega) (by omega), prd_ext h (i := 12) (j := 8) (by omega) (by omega)]
theorem KS_ext {f g : Nat → Int32} (h : ∀ i, i < 16 → g i = f i) (k : KS f) : KS g := ⟨(laws_ext h).trans k.1, (tch_ext h).trans k.2⟩
theorem Rel_keep {m : Nat} (hm : m < 6) {g g' : Nat → Int32} (hg : KS g) (he : ∀ i, i < 16 → g' i = g i) (hK : RelK A m) (h : Rel A) : Rel (k8A (va_up (kpA (va_up A 20 g) m) 40 g') m) := by
  obtain ⟨⟨n, hR⟩, -, hM, hW⟩ := h
  have ne : ∀ z k, ¬ (z = 20 ∨ z = 40 ∨ z = 38 ∨ z = 8 + 2 * m) → ¬ (z = 0 ∧ k = 9) → ¬ (z = 33 ∧ k = 6) → k8A (va_up (kpA (va_up A 20 g) m) 40 g') m z k = A z k := by
    intro z k s0 s1 s2
    unfold k8A kpA
    by_cases e : z = 33
    · subst e
      show upd (va_up (va_up (va_up (va_up A 20 g) (8 + 2 * m) _) 0 _) 40 g' 33) 6 _ k = _
      rw [pk_un (by omega), va_sel (by omega), va_sel (by omega), va_sel (by omega), va_sel (by omega)]
    · rw [va_sel e, va_sel (by omega), va_sel (by omega)]
      by_cases e0 : z = 0
      · subst e0
        show upd (va_up A 20 g 0) 9 _ k = _
        rw [pk_un (by omega), va_sel (by omega)]
      · rw [va_sel e0, va_sel (by omega), va_sel (by omega)]
  obtain ⟨h0, h1, h2, h3, h4⟩ := hK
  refine ⟨⟨n, RelR_c (fun z k s => ne z k (by unfold selR at s; omega) (by unfold selR at s; omega) (by unfold selR at s; omega)) hR⟩, ⟨m + 1, by omega, ?_, ?_, fun k hk i hi => ?_, fun k hk => ?_⟩, RelM_c (fun z k s => ne z k (by unfold selM at s; omega) (by unfold selM at s; omega) (by unfold selM at s; omega)) hM, RelW_c (fun z k s => ne z k (by unfold selW at s; omega) (by unfold selW at s; omega) (by unfold selW at s; omega)) hW⟩
  · rfl
  · rfl
  · have e38 : k8A (va_up (kpA (va_up A 20 g) m) 40 g') m 38 = va_cpy g' (A 38) 0 (16 * m) 16 := by
      unfold k8A kpA
      rw [va_up_ne _ _ (show (38 : Nat) ≠ 33 by decide), va_up_self, va_up_self, va_up_ne _ _ (show (38 : Nat) ≠ 40 by decide), va_up_ne _ _ (show (38 : Nat) ≠ 0 by decide), va_up_ne _ _ (show (38 : Nat) ≠ 8 + 2 * m by omega), va_up_ne _ _ (show (38 : Nat) ≠ 20 by decide)]
    rw [e38]
    by_cases e : k = m
    · subst e
      have ek : k8A (va_up (kpA (va_up A 20 g) k) 40 g') k (8 + 2 * k) = va_cpy g (A (8 + 2 * k)) 0 0 16 := by
        unfold k8A kpA
        rw [va_up_ne _ _ (show 8 + 2 * k ≠ 33 by omega), va_up_ne _ _ (show 8 + 2 * k ≠ 38 by omega), va_up_ne _ _ (show 8 + 2 * k ≠ 40 by omega), va_up_ne _ _ (show 8 + 2 * k ≠ 0 by omega), va_up_self, va_up_ne _ _ (show 8 + 2 * k ≠ 20 by omega)]
        rfl
      rw [ek, pk_cpy_in (by omega) (by omega), pk_cpy_in (by omega) (by omega), show 0 + (16 * k + i - 16 * k) = i by omega, show 0 + (i - 0) = i by omega]
      exact he i hi
    · rw [ne (8 + 2 * k) i (by omega) (by omega) (by omega), pk_cpy_out (by omega)]
      exact h3 k hk i hi
  · by_cases e : k = m
    · subst e
      have ek : k8A (va_up (kpA (va_up A 20 g) k) 40 g') k (8 + 2 * k) = va_cpy g (A (8 + 2 * k)) 0 0 16 := by
        unfold k8A kpA
        rw [va_up_ne _ _ (show 8 + 2 * k ≠ 33 by omega), va_up_ne _ _ (show 8 + 2 * k ≠ 38 by omega), va_up_ne _ _ (show 8 + 2 * k ≠ 40 by omega), va_up_ne _ _ (show 8 + 2 * k ≠ 0 by omega), va_up_self, va_up_ne _ _ (show 8 + 2 * k ≠ 20 by omega)]
        rfl
      rw [ek]
      refine KS_ext (fun i hi => ?_) hg
      rw [pk_cpy_in (by omega) (by omega), show 0 + (i - 0) = i by omega]
    · have ek : k8A (va_up (kpA (va_up A 20 g) m) 40 g') m (8 + 2 * k) = A (8 + 2 * k) := funext (fun i => ne (8 + 2 * k) i (by omega) (by omega) (by omega))
      rw [ek]
      exact h4 k (by omega)
theorem Rel_junk {z1 z2 : Nat} {g1 g2 : Nat → Int32} (hz1 : z1 = 20) (hz2 : z2 = 40) {c : Nat} (h : Rel A) : Rel (rmA (va_up (rfA (va_up A z1 g1) c) z2 g2) c) := by
  subst hz1 hz2
  refine Rel_c (A := rmA (rfA A c) c) (fun q k s => ?_) (Rel_rf c h)
  unfold rmA rfA
  by_cases e : q = 39
  · subst e; rfl
  · rw [va_sel e, va_sel e, va_sel (by unfold selR selK selM selW at s; omega)]
    by_cases e2 : q = 32
    · subst e2; rfl
    · rw [va_sel e2, va_sel e2, va_sel (by unfold selR selK selM selW at s; omega)]
theorem keep_rel {m : Nat} {g g' : Nat → Int32} (hl : lawsF g = 1) (he : ∀ i, i < 16 → g' i = g i) (hK : RelK A m) (h : Rel A) : (s8_keep (va_up (s7_keep (va_up A 20 g) m).2 40 g') m).1 = (s7_keep (va_up A 20 g) m).1 ∧ Rel (s8_keep (va_up (s7_keep (va_up A 20 g) m).2 40 g') m).2 ∧ (s7_keep (va_up A 20 g) m).2 33 6 = nI m := by
  have h2 := hK.2.2.1
  unfold s8_keep s7_keep
  rw [va_up_self, va_up_self]
  by_cases c1 : tchF g = 1
  · have c1' : lawsF g = 1 ∧ tchF g = 1 := ⟨hl, c1⟩
    have c1'' : tchF g' = 1 := (tch_ext he).trans c1
    by_cases c2 : m < 6
    · simp only [if_pos c1', if_pos c1'', if_pos c2]
      refine ⟨trivial, Rel_keep c2 ⟨hl, c1⟩ he hK h, ?_⟩
      unfold kpA
      rw [va_sel (by omega), va_sel (by omega), va_sel (by omega)]
      exact h2
    · simp only [if_pos c1', if_pos c1'', if_neg c2]
      exact ⟨(by first | trivial | rfl), Rel_junk rfl rfl h, h2⟩
  · have c1' : ¬ (lawsF g = 1 ∧ tchF g = 1) := fun q => c1 q.2
    have c1'' : ¬ tchF g' = 1 := by rw [tch_ext he]; exact c1
    simp only [if_neg c1', if_neg c1'']
    exact ⟨(by first | trivial | rfl), Rel_junk rfl rfl h, h2⟩
theorem keep_hi {m : Nat} {g : Nat → Int32} (hm : m ≤ 6) {q k : Nat} (h : 33 ≤ q) : (s7_keep (va_up A 20 g) m).2 q k = A q k := by
  unfold s7_keep
  by_cases c1 : lawsF (va_up A 20 g 20) = 1 ∧ tchF (va_up A 20 g 20) = 1
  · rw [if_pos c1]
    by_cases c2 : m < 6
    · rw [if_pos c2]
      show kpA (va_up A 20 g) m q k = _
      unfold kpA
      rw [va_sel (show q ≠ 0 by omega), va_sel (show q ≠ 8 + 2 * m by omega), va_sel (show q ≠ 20 by omega)]
    · rw [if_neg c2]
      show rfA (va_up A 20 g) 8 q k = _
      rw [rf_ne (by omega), va_sel (show q ≠ 20 by omega)]
  · rw [if_neg c1]
    show rfA (va_up A 20 g) 7 q k = _
    rw [rf_ne (by omega), va_sel (show q ≠ 20 by omega)]
theorem g_give : Good mX7_give mX8_give [] false := by
  refine Good_i 4 2 (by decide) (by decide) (fun A hA => ?_)
  obtain ⟨m, hK⟩ := hA.2.1
  obtain ⟨g1, g2, g3, g4, g5⟩ := hA.2.2.1
  have e : (s8_give (s7_give A m).2 m).1 = (s7_give A m).1 ∧ Rel (s8_give (s7_give A m).2 m).2 ∧ (s7_give A m).2 33 6 = nI m := by
    by_cases c1 : A 0 11 = 0
    · have c1' : rfA A 2 33 28 = 0 := g3.trans c1
      unfold s8_give s7_give
      simp only [if_pos c1, if_pos c1']
      exact ⟨(by first | trivial | rfl), Rel_rf 2 hA, hK.2.2.1⟩
    · have e7 : s7_give A m = s7_keep (va_up A 20 (va_cpy (A 31) (A 20) 0 0 16)) m := by unfold s7_give; rw [if_neg c1]
      have ag : ∀ i, i < 16 → va_cpy (A 31) (A 20) 0 0 16 i = A 31 i := fun i hi => by rw [pk_cpy_in (by omega) (by omega), show 0 + (i - 0) = i by omega]
      have hi49 : ∀ X : Nat → Nat → Int32, X = (s7_keep (va_up A 20 (va_cpy (A 31) (A 20) 0 0 16)) m).2 → X 49 = A 49 ∧ X 40 = A 40 ∧ X 33 28 = A 33 28 := by
        intro X hX
        subst hX
        exact ⟨funext (fun k => keep_hi hK.1 (by decide)), funext (fun k => keep_hi hK.1 (by decide)), keep_hi hK.1 (by decide)⟩
      obtain ⟨x49, x40, x28⟩ := hi49 _ rfl
      by_cases c2 : lawsF (va_cpy (A 31) (A 20) 0 0 16) = 1
      · have key := keep_rel (A := A) (m := m) (g := va_cpy (A 31) (A 20) 0 0 16) (g' := va_cpy (A 49) (A 40) 0 0 16) c2 (fun i hi => by rw [ag i hi, pk_cpy_in (by omega) (by omega), show 0 + (i - 0) = i by omega]; exact g5 i hi) hK hA
        have c2' : lawsF (A 49) = 1 := by
          rw [← c2]
          exact laws_ext (fun i hi => by rw [ag i hi]; exact g5 i hi)
        unfold s8_give
        rw [e7, x28, g3, if_neg c1, x49, x40, if_pos c2']
        exact key
      · have c2' : ¬ lawsF (A 49) = 1 := by
          rw [← laws_ext (f := A 49) (g := va_cpy (A 31) (A 20) 0 0 16) (fun i hi => by rw [ag i hi]; exact (g5 i hi).symm)]
          exact c2
        have e7' : s7_keep (va_up A 20 (va_cpy (A 31) (A 20) 0 0 16)) m = (-7, rfA (va_up A 20 (va_cpy (A 31) (A 20) 0 0 16)) 7) := by
          unfold s7_keep
          rw [va_up_self, if_neg (fun q => c2 q.1)]
        unfold s8_give
        rw [e7, x28, g3, if_neg c1, x49, if_neg c2', e7']
        refine ⟨rfl, ?_, hK.2.2.1⟩
        have hj := Rel_junk (A := A) (z1 := 20) (z2 := 40) (g1 := va_cpy (A 31) (A 20) 0 0 16) (g2 := A 40) (c := 7) rfl rfl hA
        rw [show va_up (rfA (va_up A 20 (va_cpy (A 31) (A 20) 0 0 16)) 7) 40 (A 40) = rfA (va_up A 20 (va_cpy (A 31) (A 20) 0 0 16)) 7 from va_self (rfA (va_up A 20 (va_cpy (A 31) (A 20) 0 0 16)) 7) 40] at hj
        exact hj
  refine ⟨_, _, _, fun B => c7_give 0 hK.2.1 hK.1, fun B => ?_, e.2.1⟩
  rw [← e.1]
  exact c8_give 0 e.2.2 hK.1
theorem kw_law {f : Nat → Int32} {n : Nat} (hf : ∀ r, r < n → lawR f r) : ∀ (t p x : Nat) (g g' : Nat → Int32), (∀ i, i < 4 * p → g' i = g i) → (∀ b, b < p → law4 g b) → (kwL f n t p x g = none ∧ kwL f n t p x g' = none) ∨ ∃ o o', kwL f n t p x g = some o ∧ kwL f n t p x g' = some o' ∧ (∀ i, i < 4 * (p + t) → o' i = o i) ∧ ∀ b, b < p + t → law4 o b
  | 0, p, x, g, g', h1, h2 => Or.inr ⟨g, g', rfl, rfl, h1, h2⟩
  | t + 1, p, x, g, g', h1, h2 => by
    by_cases hx : x % 20 < n
    · have ih := kw_law hf t (p + 1) (x / 20) (va_cpy f g (4 * (x % 20)) (4 * p) 4) (va_cpy f g' (4 * (x % 20)) (4 * p) 4) (fun i hi => by
        by_cases h : i < 4 * p
        · rw [pk_cpy_out (by omega), pk_cpy_out (by omega)]
          exact h1 i h
        · rw [pk_cpy_in (by omega) (by omega), pk_cpy_in (by omega) (by omega)]) (fun b hb => by
        by_cases h : b < p
        · have := h2 b h
          unfold law4
          rw [pk_cpy_out (by omega), pk_cpy_out (by omega), pk_cpy_out (by omega), pk_cpy_out (by omega)]
          exact this
        · have e : b = p := by omega
          subst e
          have := hf _ hx
          unfold lawR at this
          unfold law4
          rw [pk_cpy_in (by omega) (by omega), pk_cpy_in (by omega) (by omega), pk_cpy_in (by omega) (by omega), pk_cpy_in (by omega) (by omega), show 4 * (x % 20) + (4 * b - 4 * b) = 4 * (x % 20) by omega, show 4 * (x % 20) + (4 * b + 1 - 4 * b) = 4 * (x % 20) + 1 by omega, show 4 * (x % 20) + (4 * b + 2 - 4 * b) = 4 * (x % 20) + 2 by omega, show 4 * (x % 20) + (4 * b + 3 - 4 * b) = 4 * (x % 20) + 3 by omega]
          exact this)
      unfold kwL
      rw [if_pos hx, if_pos hx, show p + (t + 1) = p + 1 + t by omega]
      exact ih
    · left
      unfold kwL
      rw [if_neg hx, if_neg hx]
      exact ⟨rfl, rfl⟩
theorem g_kiss (R : Int32) : Good mX7_kiss mX8_kiss [.int R] false := by
  intro A B hA
  obtain ⟨n, hR⟩ := hA.1
  obtain ⟨m, hK⟩ := hA.2.1
  have c7 := c7_kiss (A := A) (B := B) 0 hR.2.1 hR.1 hK.2.1 hK.1 R
  refine ⟨4, _, by decide, c7, fun r1 h1 q1 => ?_⟩
  by_cases hc : 0 ≤ R ∧ R < 160000
  · rw [if_pos hc] at q1
    rcases kw_law hR.2.2.2.2.2.2.2 4 0 (cl R) (A 20) (A 40) (fun i hi => by omega) (fun b hb => by omega) with ⟨k1, k2⟩ | ⟨o, o', k1, k2, k3, k4⟩
    · rw [k1] at q1
      obtain ⟨rfl, g, rfl⟩ := q1
      have c8 := c8_kiss (A := rfA (va_up A 20 g) 3) (B := B) 0 hR.2.2.1 hR.1 hK.2.2.1 hK.1 R
      refine ⟨_, _, 2, _, by decide, rfl, c8, fun r2 h2 q2 => ?_⟩
      rw [if_pos hc, show (rfA (va_up A 20 g) 3) 34 = A 34 from rfl, show (rfA (va_up A 20 g) 3) 40 = A 40 from rfl, hR.2.2.2.1, k2] at q2
      obtain ⟨rfl, g2, rfl⟩ := q2
      exact ⟨_, _, rfl, Rel_junk rfl rfl hA, rfl, -3, rfl⟩
    · rw [k1] at q1
      obtain ⟨rfl, rfl⟩ := q1
      have hl : lawsF o = 1 := by
        unfold lawsF
        rw [if_pos ⟨k4 0 (by omega), k4 1 (by omega), k4 2 (by omega), k4 3 (by omega)⟩]
      have key := keep_rel (A := A) (m := m) (g := o) (g' := o') hl (fun i hi => k3 i (by omega)) hK hA
      have hx : (s7_keep (va_up A 20 o) m).2 34 = A 34 ∧ (s7_keep (va_up A 20 o) m).2 40 = A 40 ∧ (s7_keep (va_up A 20 o) m).2 33 5 = A 33 5 := by
        exact ⟨funext (fun k => keep_hi hK.1 (by decide)), funext (fun k => keep_hi hK.1 (by decide)), keep_hi hK.1 (by decide)⟩
      have c8 := c8_kiss (A := (s7_keep (va_up A 20 o) m).2) (B := B) 0 (hx.2.2.trans hR.2.2.1) hR.1 key.2.2 hK.1 R
      refine ⟨_, _, 2, _, by decide, rfl, c8, fun r2 h2 q2 => ?_⟩
      rw [if_pos hc, hx.1, hx.2.1, hR.2.2.2.1, k2] at q2
      obtain ⟨rfl, rfl⟩ := q2
      exact ⟨_, _, rfl, key.2.1, by rw [key.1], _, rfl⟩
  · rw [if_neg hc] at q1
    obtain ⟨rfl, g, rfl⟩ := q1
    have c8 := c8_kiss (A := rfA (va_up A 20 g) 3) (B := B) 0 hR.2.2.1 hR.1 hK.2.2.1 hK.1 R
    refine ⟨_, _, 2, _, by decide, rfl, c8, fun r2 h2 q2 => ?_⟩
    rw [if_neg hc] at q2
    obtain ⟨rfl, g2, rfl⟩ := q2
    exact ⟨_, _, rfl, Rel_junk rfl rfl hA, rfl, -3, rfl⟩
end KEEP
