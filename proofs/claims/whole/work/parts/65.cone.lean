section CONE
/-- four rounds in whole numbers, without a limit: place, column -/
def KZ (Z : Nat → Nat → Int) : Prop := (∀ i, i < 4 → Z i 2 * Z i 2 + Z i 3 * Z i 3 - Z i 0 * Z i 1 = 1) ∧ ∀ i j, i < 4 → j < 4 → i ≠ j → pz (Z i 0) (Z i 1) (Z i 2) (Z i 3) (Z j 0) (Z j 1) (Z j 2) (Z j 3) = -2
def Fut (Z : Nat → Nat → Int) : Prop := ∀ i j, i < 4 → j < 4 → i ≠ j → 0 ≤ Z i 0 + Z j 0 ∧ 0 ≤ Z i 1 + Z j 1
theorem cone {a b x y a' b' x' y' : Int} (h : x * x + y * y = a * b) (h' : x' * x' + y' * y' = a' * b') (ha : 0 ≤ a) (hb : 0 ≤ b) (hB : pz a b x y a' b' x' y' < 0) : 0 ≤ a' ∧ 0 ≤ b' := by
  have sq : ∀ t : Int, 0 ≤ t * t := fun t => by
    rcases (show 0 ≤ t ∨ 0 ≤ -t by omega) with g | g
    · exact Int.mul_nonneg g g
    · have := Int.mul_nonneg g g
      have e : -t * -t = t * t := by grind
      omega
  have hp : 0 ≤ a' * b' := by have := sq x'; have := sq y'; omega
  by_cases hc : 0 ≤ a' ∧ 0 ≤ b'
  · exact hc
  exfalso
  have hn : a' ≤ 0 ∧ b' ≤ 0 := by
    by_cases g1 : a' ≤ 0
    · by_cases g2 : b' ≤ 0
      · exact ⟨g1, g2⟩
      · have hb1 : 0 < b' := by omega
        have ha1 : a' < 0 := by
          by_cases e : a' = 0
          · exact absurd ⟨by omega, by omega⟩ hc
          · omega
        have := Int.mul_pos (show 0 < -a' by omega) hb1
        have e : -a' * b' = -(a' * b') := by grind
        omega
    · have ha1 : 0 < a' := by omega
      have hb1 : b' < 0 := by
        by_cases e : 0 ≤ b'
        · exact absurd ⟨by omega, e⟩ hc
        · omega
      have := Int.mul_pos ha1 (show 0 < -b' by omega)
      have e : a' * -b' = -(a' * b') := by grind
      omega
  have hP : 0 ≤ a * -b' := Int.mul_nonneg ha (by omega)
  have hQ : 0 ≤ -a' * b := Int.mul_nonneg (by omega) hb
  have eP : a * -b' = -(a * b') := by grind
  have eQ : -a' * b = -(a' * b) := by grind
  unfold pz at hB
  -- t = x x' + y y', P = - a b', Q = - a' b, 2 t + P + Q < 0
  have hc2 : (x * x' + y * y') * (x * x' + y * y') + (x * y' - y * x') * (x * y' - y * x') = (x * x + y * y) * (x' * x' + y' * y') := by grind
  have hs := sq (x * y' - y * x')
  rw [h, h'] at hc2
  have ePQ : (a * b) * (a' * b') = (a * -b') * (-a' * b) := by grind
  rw [ePQ] at hc2
  generalize a * -b' = P at *
  generalize -a' * b = Q at *
  generalize x * x' + y * y' = t at *
  generalize (x * y' - y * x') * (x * y' - y * x') = r at *
  have h1 : P + Q < -(2 * t) := by omega
  have h2 := Int.mul_pos (show 0 < -(2 * t) - (P + Q) by omega) (show 0 < -(2 * t) + (P + Q) by omega)
  have e2 : (-(2 * t) - (P + Q)) * (-(2 * t) + (P + Q)) = 4 * (t * t) - 4 * (P * Q) - (P - Q) * (P - Q) := by grind
  have h3 := sq (P - Q)
  rw [e2] at h2
  omega
theorem KZ_n {Z : Nat → Nat → Int} (h : KZ Z) {i j : Nat} (hi : i < 4) (hj : j < 4) (hne : i ≠ j) : (Z i 2 + Z j 2) * (Z i 2 + Z j 2) + (Z i 3 + Z j 3) * (Z i 3 + Z j 3) = (Z i 0 + Z j 0) * (Z i 1 + Z j 1) := by
  have q1 := h.1 i hi
  have q2 := h.1 j hj
  have t := h.2 i j hi hj hne
  unfold pz at t
  grind
theorem KZ_self {Z : Nat → Nat → Int} (h : KZ Z) {i : Nat} (hi : i < 4) : pz (Z i 0) (Z i 1) (Z i 2) (Z i 3) (Z i 0) (Z i 1) (Z i 2) (Z i 3) = 2 := by
  have q1 := h.1 i hi
  unfold pz
  grind
theorem pz_c (a b x y a' b' x' y' : Int) : pz a b x y a' b' x' y' = pz a' b' x' y' a b x y := by
  unfold pz
  grind
theorem pz_add2 (a b x y c d z w a' b' x' y' : Int) : pz (a + c) (b + d) (x + z) (y + w) a' b' x' y' = pz a b x y a' b' x' y' + pz c d z w a' b' x' y' := by
  unfold pz
  grind
/-- the product of two sums of two is below 0 -/
theorem KZ_nn {Z : Nat → Nat → Int} (h : KZ Z) {i j k l : Nat} (hi : i < 4) (hj : j < 4) (hk : k < 4) (hl : l < 4) (h1 : i ≠ j) (h2 : k ≠ l) (h3 : ¬ (i = k ∧ j = l)) (h4 : ¬ (i = l ∧ j = k)) : pz (Z i 0 + Z j 0) (Z i 1 + Z j 1) (Z i 2 + Z j 2) (Z i 3 + Z j 3) (Z k 0 + Z l 0) (Z k 1 + Z l 1) (Z k 2 + Z l 2) (Z k 3 + Z l 3) < 0 := by
  rw [pz_add2, pz_c, pz_add2, pz_c (Z j 0), pz_add2]
  have pw : ∀ a b, a < 4 → b < 4 → pz (Z a 0) (Z a 1) (Z a 2) (Z a 3) (Z b 0) (Z b 1) (Z b 2) (Z b 3) = if a = b then 2 else -2 := by
    intro a b ha hb
    by_cases e : a = b
    · subst e; rw [if_pos rfl]; exact KZ_self h ha
    · rw [if_neg e]; exact h.2 a b ha hb e
  rw [pw k i hk hi, pw l i hl hi, pw k j hk hj, pw l j hl hj]
  by_cases e1 : k = i
  · have e2 : ¬ l = i := fun g => h2 (e1.trans g.symm)
    have e3 : ¬ k = j := fun g => h1 (e1.symm.trans g)
    have e4 : ¬ l = j := fun g => h3 ⟨e1.symm, g.symm⟩
    rw [if_pos e1, if_neg e2, if_neg e3, if_neg e4]; decide
  · by_cases e2 : l = i
    · have e3 : ¬ k = j := fun g => h4 ⟨e2.symm, g.symm⟩
      have e4 : ¬ l = j := fun g => h1 (e2.symm.trans g)
      rw [if_neg e1, if_pos e2, if_neg e3, if_neg e4]; decide
    · by_cases e3 : k = j
      · have e4 : ¬ l = j := fun g => h2 (e3.trans g.symm)
        rw [if_neg e1, if_neg e2, if_pos e3, if_neg e4]; decide
      · by_cases e4 : l = j
        · rw [if_neg e1, if_neg e2, if_neg e3, if_pos e4]; decide
        · rw [if_neg e1, if_neg e2, if_neg e3, if_neg e4]; decide
/-- one sum of two that looks ahead makes all look ahead -/
theorem Fut_of {Z : Nat → Nat → Int} (h : KZ Z) {i j : Nat} (hi : i < 4) (hj : j < 4) (hne : i ≠ j) (ha : 0 ≤ Z i 0 + Z j 0) (hb : 0 ≤ Z i 1 + Z j 1) : Fut Z := by
  intro k l hk hl h2
  by_cases e1 : i = k ∧ j = l
  · obtain ⟨rfl, rfl⟩ := e1
    exact ⟨ha, hb⟩
  by_cases e2 : i = l ∧ j = k
  · obtain ⟨rfl, rfl⟩ := e2
    exact ⟨by omega, by omega⟩
  exact cone (KZ_n h hi hj hne) (KZ_n h hk hl h2) ha hb (KZ_nn h hi hj hk hl hne h2 e1 e2)
theorem KZ_neg {Z : Nat → Nat → Int} (h : KZ Z) : KZ (fun i c => -(Z i c)) := by
  refine ⟨fun i hi => ?_, fun i j hi hj hne => ?_⟩
  · have := h.1 i hi
    show -(Z i 2) * -(Z i 2) + -(Z i 3) * -(Z i 3) - -(Z i 0) * -(Z i 1) = 1
    grind
  · have := h.2 i j hi hj hne
    show pz (-(Z i 0)) (-(Z i 1)) (-(Z i 2)) (-(Z i 3)) (-(Z j 0)) (-(Z j 1)) (-(Z j 2)) (-(Z j 3)) = -2
    unfold pz at this ⊢
    grind
theorem same_sign {a b x y : Int} (h : x * x + y * y = a * b) : (0 ≤ a ∧ 0 ≤ b) ∨ (a ≤ 0 ∧ b ≤ 0) := by
  have sq : ∀ t : Int, 0 ≤ t * t := fun t => by
    rcases (show 0 ≤ t ∨ 0 ≤ -t by omega) with g | g
    · exact Int.mul_nonneg g g
    · have := Int.mul_nonneg g g
      have e : -t * -t = t * t := by grind
      omega
  have h1 := sq x
  have h2 := sq y
  by_cases g1 : 0 ≤ a
  · by_cases g2 : 0 ≤ b
    · exact Or.inl ⟨g1, g2⟩
    · by_cases g3 : a = 0
      · exact Or.inr ⟨by omega, by omega⟩
      · have := Int.mul_pos (show 0 < a by omega) (show 0 < -b by omega)
        have e : a * -b = -(a * b) := by grind
        omega
  · by_cases g2 : b ≤ 0
    · exact Or.inr ⟨by omega, g2⟩
    · have := Int.mul_pos (show 0 < -a by omega) (show 0 < b by omega)
      have e : -a * b = -(a * b) := by grind
      omega
theorem Fut_height {Z : Nat → Nat → Int} (h : KZ Z) (hs : 0 < Z 0 0 + Z 1 0 + Z 2 0 + Z 3 0) : Fut Z := by
  rcases same_sign (KZ_n h (i := 0) (j := 1) (by omega) (by omega) (by omega)) with g | g
  · exact Fut_of h (by omega) (by omega) (by omega) g.1 g.2
  · exfalso
    have f := Fut_of (KZ_neg h) (i := 0) (j := 1) (by omega) (by omega) (by omega) (show 0 ≤ -(Z 0 0) + -(Z 1 0) by omega) (show 0 ≤ -(Z 0 1) + -(Z 1 1) by omega)
    have := (f 2 3 (by omega) (by omega) (by omega)).1
    have e : (fun i c => -(Z i c)) 2 0 + (fun i c => -(Z i c)) 3 0 = -(Z 2 0) + -(Z 3 0) := rfl
    omega
def swZ (Z : Nat → Nat → Int) (p : Nat) : Nat → Nat → Int := fun i c => if i = p then 2 * (Z 0 c + Z 1 c + Z 2 c + Z 3 c) - 3 * Z p c else Z i c
theorem KZ_sum {Z : Nat → Nat → Int} (h : KZ Z) {j : Nat} (hj : j < 4) : pz (Z 0 0) (Z 0 1) (Z 0 2) (Z 0 3) (Z j 0) (Z j 1) (Z j 2) (Z j 3) + pz (Z 1 0) (Z 1 1) (Z 1 2) (Z 1 3) (Z j 0) (Z j 1) (Z j 2) (Z j 3) + pz (Z 2 0) (Z 2 1) (Z 2 2) (Z 2 3) (Z j 0) (Z j 1) (Z j 2) (Z j 3) + pz (Z 3 0) (Z 3 1) (Z 3 2) (Z 3 3) (Z j 0) (Z j 1) (Z j 2) (Z j 3) = -4 := by
  rcases (show j = 0 ∨ j = 1 ∨ j = 2 ∨ j = 3 by omega) with rfl | rfl | rfl | rfl
  · rw [KZ_self h (by omega), h.2 1 0 (by omega) (by omega) (by omega), h.2 2 0 (by omega) (by omega) (by omega), h.2 3 0 (by omega) (by omega) (by omega)]; decide
  · rw [KZ_self h (by omega), h.2 0 1 (by omega) (by omega) (by omega), h.2 2 1 (by omega) (by omega) (by omega), h.2 3 1 (by omega) (by omega) (by omega)]; decide
  · rw [KZ_self h (by omega), h.2 0 2 (by omega) (by omega) (by omega), h.2 1 2 (by omega) (by omega) (by omega), h.2 3 2 (by omega) (by omega) (by omega)]; decide
  · rw [KZ_self h (by omega), h.2 0 3 (by omega) (by omega) (by omega), h.2 1 3 (by omega) (by omega) (by omega), h.2 2 3 (by omega) (by omega) (by omega)]; decide
theorem KZ_swap {Z : Nat → Nat → Int} (h : KZ Z) {p : Nat} (hp4 : p < 4) : KZ (swZ Z p) := by
  have own : ∀ c, swZ Z p p c = 2 * (Z 0 c + Z 1 c + Z 2 c + Z 3 c) - 3 * Z p c := fun c => if_pos rfl
  have oth : ∀ i c, i ≠ p → swZ Z p i c = Z i c := fun i c hi => if_neg hi
  have touch : ∀ j, j < 4 → j ≠ p → pz (swZ Z p p 0) (swZ Z p p 1) (swZ Z p p 2) (swZ Z p p 3) (swZ Z p j 0) (swZ Z p j 1) (swZ Z p j 2) (swZ Z p j 3) = -2 := by
    intro j hj hne
    rw [own, own, own, own, oth j 0 hne, oth j 1 hne, oth j 2 hne, oth j 3 hne]
    exact sw_poly_t (KZ_sum h hj) (h.2 p j hp4 hj (fun e => hne e.symm))
  refine ⟨fun i hi => ?_, fun i j hi hj hne => ?_⟩
  · by_cases e : i = p
    · subst e
      rw [own, own, own, own]
      exact sw_poly_l (h.1 0 (by omega)) (h.1 1 (by omega)) (h.1 2 (by omega)) (h.1 3 (by omega)) (h.1 i hi) (h.2 1 0 (by omega) (by omega) (by omega)) (h.2 2 0 (by omega) (by omega) (by omega)) (h.2 2 1 (by omega) (by omega) (by omega)) (h.2 3 0 (by omega) (by omega) (by omega)) (h.2 3 1 (by omega) (by omega) (by omega)) (h.2 3 2 (by omega) (by omega) (by omega)) (KZ_sum h hi)
    · rw [oth i 0 e, oth i 1 e, oth i 2 e, oth i 3 e]
      exact h.1 i hi
  · by_cases e : i = p
    · subst e
      exact touch j hj (fun g => hne g.symm)
    · by_cases e2 : j = p
      · subst e2
        rw [pz_c]
        exact touch i hi e
      · rw [oth i 0 e, oth i 1 e, oth i 2 e, oth i 3 e, oth j 0 e2, oth j 1 e2, oth j 2 e2, oth j 3 e2]
        exact h.2 i j hi hj hne
theorem Fut_swap {Z : Nat → Nat → Int} (h : KZ Z) (f : Fut Z) {p : Nat} (hp4 : p < 4) : Fut (swZ Z p) := by
  have oth : ∀ i c, i ≠ p → swZ Z p i c = Z i c := fun i c hi => if_neg hi
  have pick : ∃ i j, i < 4 ∧ j < 4 ∧ i ≠ j ∧ i ≠ p ∧ j ≠ p := by
    rcases (show p = 0 ∨ p = 1 ∨ p = 2 ∨ p = 3 by omega) with rfl | rfl | rfl | rfl
    · exact ⟨1, 2, by omega, by omega, by omega, by omega, by omega⟩
    · exact ⟨0, 2, by omega, by omega, by omega, by omega, by omega⟩
    · exact ⟨0, 1, by omega, by omega, by omega, by omega, by omega⟩
    · exact ⟨0, 1, by omega, by omega, by omega, by omega, by omega⟩
  obtain ⟨i, j, hi, hj, hne, h1, h2⟩ := pick
  have g := f i j hi hj hne
  refine Fut_of (KZ_swap h hp4) hi hj hne ?_ ?_
  · rw [oth i 0 h1, oth j 0 h2]; exact g.1
  · rw [oth i 1 h1, oth j 1 h2]; exact g.2
/-- bends of four rounds that all touch and look ahead -/
def BK (d : Nat → Int) : Prop := ∃ Z, KZ Z ∧ Fut Z ∧ ∀ i, i < 4 → Z i 0 = d i
def swB (d : Nat → Int) (p : Nat) : Nat → Int := fun i => if i = p then 2 * (d 0 + d 1 + d 2 + d 3) - 3 * d p else d i
theorem BK_pair {d : Nat → Int} (h : BK d) {i j : Nat} (hi : i < 4) (hj : j < 4) (hne : i ≠ j) : 0 ≤ d i + d j := by
  obtain ⟨Z, k, f, e⟩ := h
  rw [← e i hi, ← e j hj]
  exact (f i j hi hj hne).1
theorem BK_swap {d : Nat → Int} (h : BK d) {p : Nat} (hp4 : p < 4) : BK (swB d p) := by
  obtain ⟨Z, k, f, e⟩ := h
  refine ⟨swZ Z p, KZ_swap k hp4, Fut_swap k f hp4, fun i hi => ?_⟩
  unfold swZ swB
  rw [e 0 (by omega), e 1 (by omega), e 2 (by omega), e 3 (by omega), e p hp4, e i hi]
/-- two bends that sum up to 0 are 0, and the others are alike -/
theorem BK_zero {d : Nat → Int} (h : BK d) {i j k l : Nat} (hi : i < 4) (hj : j < 4) (hk : k < 4) (hl : l < 4) (h1 : i ≠ j) (h2 : i ≠ k) (h3 : j ≠ k) (h4 : i ≠ l) (h5 : j ≠ l) (hz : d i + d j = 0) : d i = 0 ∧ d k = d l := by
  obtain ⟨Z, kz, f, e⟩ := h
  have n := KZ_n kz hi hj h1
  have hz' : Z i 0 + Z j 0 = 0 := by rw [e i hi, e j hj]; exact hz
  rw [hz', Int.zero_mul] at n
  have sq : ∀ t : Int, 0 ≤ t * t := fun t => by
    rcases (show 0 ≤ t ∨ 0 ≤ -t by omega) with g | g
    · exact Int.mul_nonneg g g
    · have := Int.mul_nonneg g g
      have e : -t * -t = t * t := by grind
      omega
  have s1 := sq (Z i 2 + Z j 2)
  have s2 := sq (Z i 3 + Z j 3)
  have x0 : Z i 2 + Z j 2 = 0 := (Int.mul_eq_zero.mp (by omega)).elim id id
  have y0 : Z i 3 + Z j 3 = 0 := (Int.mul_eq_zero.mp (by omega)).elim id id
  have key : ∀ m, m < 4 → -((Z i 1 + Z j 1) * Z m 0) = pz (Z i 0) (Z i 1) (Z i 2) (Z i 3) (Z m 0) (Z m 1) (Z m 2) (Z m 3) + pz (Z j 0) (Z j 1) (Z j 2) (Z j 3) (Z m 0) (Z m 1) (Z m 2) (Z m 3) := by
    intro m hm
    rw [← pz_add2, hz', x0, y0]
    unfold pz
    grind
  have ki := key i hi
  have kk := key k hk
  have kl := key l hl
  rw [KZ_self kz hi, kz.2 j i hj hi (fun g => h1 g.symm)] at ki
  rw [kz.2 i k hi hk h2, kz.2 j k hj hk h3] at kk
  rw [kz.2 i l hi hl h4, kz.2 j l hj hl h5] at kl
  rw [← e i hi, ← e k hk, ← e l hl]
  have hb : Z i 1 + Z j 1 ≠ 0 := by
    intro g
    rw [g] at kk
    simp at kk
  generalize Z i 1 + Z j 1 = b at *
  constructor
  · have : b * Z i 0 = 0 := by omega
    rcases Int.mul_eq_zero.mp this with g | g
    · exact absurd g hb
    · exact g
  · have : b * Z k 0 = b * Z l 0 := by omega
    exact Int.eq_of_mul_eq_mul_left hb this
/-- a kiss as it stands -/
def zK (f : Nat → Int32) : Nat → Nat → Int := fun i c => (f (4 * i + c)).toInt
theorem KZ_of {f : Nat → Int32} (h : ksz f) : KZ (zK f) := ⟨fun i hi => (h.1 i hi).2.2.2.2, fun i j hi hj hne => h.2 i j hi hj hne⟩
theorem BK_of {f : Nat → Int32} (h : KS f) (hs : 0 < sC f 0) : BK (fun i => (f (4 * i)).toInt) := by
  have hz := KZ_of (KS_z.mp h)
  refine ⟨zK f, hz, Fut_height hz ?_, fun i hi => rfl⟩
  unfold sC at hs
  exact hs
end CONE
