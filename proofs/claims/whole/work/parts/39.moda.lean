section MDA
variable {A : Nat → Nat → Int32} {B : Nat → Nat → Int64}
set_option maxHeartbeats 4000000 in
set_option maxRecDepth 100000 in
theorem give_ck (d : Nat) {p : Nat} (hp4 : p < 4) {Q : Option Value → hp_T → Prop} (kk : law4 (A 49) p → V mX8_give (d + 2) 0 0 Q 0 0 16 [some (.ref 33), some (.int (nI (p + 1)))] [] (hp A B)) (kf : ¬ law4 (A 49) p → Q (some (.int (-7))) (hp (rmA A 7) B)) : V mX8_give (d + 2) 0 0 Q 0 0 16 [some (.ref 33), some (.int (nI p))] [] (hp A B) := by
  iterate 2 (refine V.s omX8_give rfl rfl ?_)
  refine V.brF omX8_give rfl rfl (by rw [nIl_le 4 (by omega) (by decide)]; omega) ?_
  repeat (first | refine V.s omX8_give rfl rfl ?_ | refine V.gf omX8_give rfl rfl rfl rfl ?_ | refine V.ial omX8_give rfl rfl (ixN (nv_mul nv_lit nv_nI) (by omega) (by decide)) ?_ | refine V.ial omX8_give rfl rfl (ixN (nv_add (nv_mul nv_lit nv_nI) nv_lit) (by omega) (by decide)) ?_)
  refine V.cSf omX8_give omX8_isLawful rfl rfl (c8_isLawful d _ _ _ _ _) rfl rfl rfl rfl ?_
  refine V.br omX8_give rfl rfl (fun hg => ?_) (fun hg => ?_)
  · iterate 2 (refine V.s omX8_give rfl rfl ?_)
    rw [nI_1]
    exact kk (klF_ne.mp hg)
  · repeat (first | refine V.s omX8_give rfl rfl ?_ | refine V.gf omX8_give rfl rfl rfl rfl ?_ | refine V.cVf omX8_give omX8_no rfl rfl (c8_no _ _ (by decide)) rfl rfl rfl rfl rfl rfl ?_)
    exact V.iret omX8_give rfl rfl (kf (klF_eq0.mp hg))
set_option maxHeartbeats 4000000 in
set_option maxRecDepth 100000 in
theorem give_cp (d : Nat) (F : Nat → Int32) {Q : Option Value → hp_T → Prop} (kk : V mX8_give (d + 2) 0 0 Q 0 0 108 [some (.ref 33), some (.int (nI 16))] [] (hp (va_up A 40 (va_cpy (A 49) F 0 0 16)) B)) : ∀ (t s : Nat), s + t = 16 → V mX8_give (d + 2) 0 0 Q 0 0 84 [some (.ref 33), some (.int (nI s))] [] (hp (va_up A 40 (va_cpy (A 49) F 0 0 s)) B) := by
  intro t
  induction t with
  | zero =>
    intro s hs
    have : s = 16 := by omega
    subst this
    iterate 2 (refine V.s omX8_give rfl rfl ?_)
    refine V.brT omX8_give rfl rfl (by decide) (by decide) ?_
    exact kk
  | succ t ih =>
    intro s hs
    iterate 2 (refine V.s omX8_give rfl rfl ?_)
    refine V.brF omX8_give rfl rfl (by rw [nIl_le 16 (by omega) (by decide)]; omega) ?_
    repeat (first | refine V.s omX8_give rfl rfl ?_ | refine V.gf omX8_give rfl rfl rfl rfl ?_)
    refine V.ial omX8_give rfl rfl (ixN nv_nI (show s < 16 by omega) (by decide)) ?_
    refine V.iasH omX8_give rfl rfl (ixN nv_nI (by omega) (by decide)) ?_
    iterate 2 (refine V.s omX8_give rfl rfl ?_)
    rw [nI_1, bx_uu, va_up_self, va_up_ne _ _ (show (49 : Nat) ≠ 40 by decide), cpy_S2]
    exact ih (s + 1) (by omega)
theorem laws_1 {f : Nat → Int32} : lawsF f = 1 ↔ (law4 f 0 ∧ law4 f 1 ∧ law4 f 2 ∧ law4 f 3) := by
  unfold lawsF
  by_cases h : law4 f 0 ∧ law4 f 1 ∧ law4 f 2 ∧ law4 f 3
  · rw [if_pos h]; exact ⟨fun _ => h, fun _ => rfl⟩
  · rw [if_neg h]; exact ⟨fun g => absurd g (by decide), fun g => absurd g h⟩
def s8_give (A : Nat → Nat → Int32) (m : Nat) : Int32 × (Nat → Nat → Int32) := if A 33 28 = 0 then (-2, rmA A 2) else if lawsF (A 49) = 1 then s8_keep (va_up A 40 (va_cpy (A 49) (A 40) 0 0 16)) m else (-7, rmA A 7)
set_option maxHeartbeats 4000000 in
set_option maxRecDepth 100000 in
theorem c8_give (d : Nat) {m : Nat} (hm : A 33 6 = nI m) (h6 : m ≤ 6) : C mX8_give (d + 2) 0 0 [.ref 33] (hp A B) (fun r' h' => h' = hp (s8_give A m).2 B ∧ r' = some (.int (s8_give A m).1)) := by
  refine C.of [some (.ref 33), none] omX8_give rfl rfl rfl ?_
  repeat (first | refine V.s omX8_give rfl rfl ?_ | refine V.gf omX8_give rfl rfl rfl rfl ?_)
  by_cases hz : A 33 28 = 0
  · simp only [s8_give, if_pos hz]
    refine V.brF omX8_give rfl rfl (fun h => h hz) ?_
    repeat (first | refine V.s omX8_give rfl rfl ?_ | refine V.gf omX8_give rfl rfl rfl rfl ?_ | refine V.cVf omX8_give omX8_no rfl rfl (c8_no _ _ (by decide)) rfl rfl rfl rfl rfl rfl ?_)
    exact V.iret omX8_give rfl rfl ⟨rfl, rfl⟩
  simp only [s8_give, if_neg hz]
  refine V.brT omX8_give rfl rfl hz (fun h => h) ?_
  iterate 2 (refine V.s omX8_give rfl rfl ?_)
  generalize hX : (if lawsF (A 49) = 1 then s8_keep (va_up A 40 (va_cpy (A 49) (A 40) 0 0 16)) m else (-7, rmA A 7)) = X
  have no : ∀ h0 : ¬ lawsF (A 49) = 1, hp (rmA A 7) B = hp X.2 B ∧ some (Value.int (-7)) = some (.int X.1) := fun h0 => by rw [if_neg h0] at hX; subst hX; exact ⟨rfl, rfl⟩
  rw [laws_1] at no
  refine give_ck (p := 0) d (by decide) (fun g0 => ?_) (fun g => no (fun h => g h.1))
  refine give_ck (p := 1) d (by decide) (fun g1 => ?_) (fun g => no (fun h => g h.2.1))
  refine give_ck (p := 2) d (by decide) (fun g2 => ?_) (fun g => no (fun h => g h.2.2.1))
  refine give_ck (p := 3) d (by decide) (fun g3 => ?_) (fun g => no (fun h => g h.2.2.2))
  rw [if_pos (laws_1.mpr ⟨g0, g1, g2, g3⟩)] at hX
  iterate 2 (refine V.s omX8_give rfl rfl ?_)
  refine V.brT omX8_give rfl rfl (by decide) (by decide) ?_
  iterate 2 (refine V.s omX8_give rfl rfl ?_)
  have key := fun Q kk => give_cp (A := A) (B := B) (Q := Q) d (A 40) kk 16 0 (by omega)
  rw [cpy_0, va_self] at key
  refine key _ ?_
  refine V.s omX8_give rfl rfl ?_
  refine V.cVf omX8_give omX8_kisses rfl rfl (c8_kisses _ (m := m) (by rw [va_up_ne _ _ (show (33 : Nat) ≠ 40 by decide)]; exact hm) h6) rfl rfl rfl rfl rfl rfl ?_
  subst hX
  exact V.iret omX8_give rfl rfl ⟨rfl, rfl⟩
def om8 (A : Nat → Nat → Int32) (n : Nat) (p q : Int32) : Nat → Nat → Int32 := va_up (va_up (adA A n 2 (2 * q * q) (2 * p * p) (2 * p * q) 1) 36 (upd (A 36) n p)) 37 (upd (A 37) n q)
def s8_over (A : Nat → Nat → Int32) (n : Nat) (p q : Int32) (v : Bool) : Int32 × (Nat → Nat → Int32) := if v = true then (if n < 20 then (nI n, om8 A n p q) else (-8, rmA A 8)) else (-7, rmA A 7)
theorem mul3 (a b : Int32) : (2 * a.toInt64 * b.toInt64).toInt32 = 2 * a * b := by
  rw [Int64.toInt32_mul, Int64.toInt32_mul, i32_back, i32_back]
  rfl
set_option maxHeartbeats 4000000 in
set_option maxRecDepth 100000 in
theorem c8_over (d : Nat) {n : Nat} (hn : A 33 5 = nI n) (h20 : n ≤ 20) (p q : Int32) (v : Bool) (hv : v = true ↔ ovP p q) : C mX8_over (d + 2) 0 0 [.ref 33, .int p, .int q] (hp A B) (fun r' h' => h' = hp (s8_over A n p q v).2 B ∧ r' = some (.int (s8_over A n p q v).1)) := by
  refine C.of [some (.ref 33), some (.int p), some (.int q), none] omX8_over rfl rfl rfl ?_
  have bad : ¬ ovP p q → V mX8_over (d + 2) 0 0 (fun r' h' => h' = hp (s8_over A n p q v).2 B ∧ r' = some (.int (s8_over A n p q v).1)) 0 0 33 [some (.ref 33), some (.int p), some (.int q), none] [] (hp A B) := by
    intro hb
    have hvf : v = false := by
      cases v with
      | true => exact absurd (hv.mp rfl) hb
      | false => rfl
    subst hvf
    repeat (first | refine V.s omX8_over rfl rfl ?_ | refine V.gf omX8_over rfl rfl rfl rfl ?_ | refine V.cVf omX8_over omX8_no rfl rfl (c8_no _ _ (by decide)) rfl rfl rfl rfl rfl rfl ?_)
    exact V.iret omX8_over rfl rfl ⟨rfl, rfl⟩
  iterate 4 (refine V.s omX8_over rfl rfl ?_)
  by_cases h1 : 0 ≤ p ∧ p ≤ 999
  · refine V.cSf omX8_over omX8_isIn rfl rfl (c8_isInY _ ((inL 0 999 (by decide) (by decide)).mpr h1) _) rfl rfl rfl rfl ?_
    refine V.brF omX8_over rfl rfl (by decide) ?_
    iterate 4 (refine V.s omX8_over rfl rfl ?_)
    by_cases h2 : 1 ≤ q ∧ q ≤ 999
    · refine V.cSf omX8_over omX8_isIn rfl rfl (c8_isInY _ ((inL 1 999 (by decide) (by decide)).mpr h2) _) rfl rfl rfl rfl ?_
      refine V.brF omX8_over rfl rfl (by decide) ?_
      obtain ⟨a1, a2⟩ := h1
      obtain ⟨a3, a4⟩ := h2
      obtain ⟨P, hP, rfl⟩ := rngl (m := 999) (by decide) a1 a2
      obtain ⟨R, hR, rfl⟩ := rngl (m := 999) (by decide) (Int32.le_trans (by decide) a3) a4
      iterate 2 (refine V.s omX8_over rfl rfl ?_)
      refine V.cSf omX8_over omX8_divisor rfl rfl (c8_divisor _ (p := R) (q := P) _ (by omega) (by omega)) rfl rfl rfl rfl ?_
      refine V.s omX8_over rfl rfl ?_
      have e : ovP (nI P) (nI R) ↔ Nat.gcd R P = 1 := by
        unfold ovP cl
        rw [nI_clamp (by omega), nI_clamp (by omega), Nat.gcd_comm]
        exact ⟨fun h => h.2, fun h => ⟨⟨a1, a2, a3, a4⟩, h⟩⟩
      have hgl : Nat.gcd R P < 2 ^ 31 := by
        have : 0 < R := by
          rcases Nat.eq_zero_or_pos R with h | h
          · subst h; exact absurd a3 (by decide)
          · exact h
        have := Nat.le_of_dvd this (Nat.gcd_dvd_left R P)
        omega
      by_cases hg : Nat.gcd R P = 1
      · have hvt := hv.mpr (e.mpr hg)
        subst hvt
        refine V.brT omX8_over rfl rfl (by rw [hg]; rfl) (fun h g => g h) ?_
        repeat (first | refine V.s omX8_over rfl rfl ?_ | refine V.gf omX8_over rfl rfl rfl rfl ?_)
        simp only [s8_over, if_true]
        by_cases h3 : n < 20
        · simp only [if_pos h3]
          refine V.cVf omX8_over omX8_adds rfl rfl (c8_addsN d hn h3 _ _ _ _ _) rfl rfl rfl rfl rfl rfl ?_
          simp only [mul3]
          iterate 2 (refine V.s omX8_over rfl rfl ?_)
          refine V.brF omX8_over rfl rfl (nI_pos (by omega)) ?_
          repeat (first | refine V.s omX8_over rfl rfl ?_ | refine V.gf omX8_over rfl rfl rfl rfl ?_ | refine V.iasH omX8_over rfl rfl (ixN nv_nI (by omega) (by decide)) ?_)
          exact V.iret omX8_over rfl rfl ⟨rfl, rfl⟩
        · simp only [if_neg h3]
          refine V.cVf omX8_over omX8_adds rfl rfl (c8_addsF d (hn.trans (n20 h20 h3)) _ _ _ _ _) rfl rfl rfl rfl rfl rfl ?_
          iterate 2 (refine V.s omX8_over rfl rfl ?_)
          refine V.brT omX8_over rfl rfl (by decide) (by decide) ?_
          refine V.s omX8_over rfl rfl ?_
          exact V.iret omX8_over rfl rfl ⟨rfl, rfl⟩
      · refine V.brF omX8_over rfl rfl (by rw [show (1 : Int32) = nI 1 from rfl, nI_eq hgl (by decide)]; exact hg) ?_
        exact bad (fun h => hg (e.mp h))
    · refine V.cSf omX8_over omX8_isIn rfl rfl (c8_isInN _ (fun h => h2 ((inL 1 999 (by decide) (by decide)).mp h)) _) rfl rfl rfl rfl ?_
      refine V.brT omX8_over rfl rfl (by decide) (by decide) ?_
      exact bad (fun h => h2 h.1.2.2)
  · refine V.cSf omX8_over omX8_isIn rfl rfl (c8_isInN _ (fun h => h1 ((inL 0 999 (by decide) (by decide)).mp h)) _) rfl rfl rfl rfl ?_
    refine V.brT omX8_over rfl rfl (by decide) (by decide) ?_
    exact bad (fun h => h1 ⟨h.1.1, h.1.2.1⟩)
def s8_look (A : Nat → Nat → Int32) (n : Nat) (r w : Int32) : Int32 × (Nat → Nat → Int32) := if 0 ≤ r ∧ r < nI n then (if (w = 5 ∨ w = 6) ∧ ¬ A 35 (cl r) = 2 then (0, rmA A 5) else if 0 ≤ w ∧ w ≤ 6 then ((if w = 0 then A 35 (cl r) else if w = 5 then A 36 (cl r) else if w = 6 then A 37 (cl r) else A 34 (4 * cl r + (cl w - 1))), A) else (0, rmA A 7)) else (0, rmA A 3)
set_option maxHeartbeats 4000000 in
set_option maxRecDepth 100000 in
theorem c8_look (d : Nat) {n : Nat} (hn : A 33 5 = nI n) (h20 : n ≤ 20) (r w : Int32) : C mX8_look (d + 2) 0 0 [.ref 33, .int r, .int w] (hp A B) (fun r' h' => h' = hp (s8_look A n r w).2 B ∧ r' = some (.int (s8_look A n r w).1)) := by
  refine C.of [some (.ref 33), some (.int r), some (.int w)] omX8_look rfl rfl rfl ?_
  by_cases h1 : 0 ≤ r ∧ r < A 33 5
  · iterate 2 (refine V.s omX8_look rfl rfl ?_)
    refine V.cVf omX8_look omX8_isRound rfl rfl (c8_irY _ h1) rfl rfl rfl rfl rfl rfl ?_
    refine V.brT omX8_look rfl rfl (by decide) (by decide) ?_
    refine V.s omX8_look rfl rfl ?_
    rw [hn] at h1
    simp only [s8_look, if_pos h1]
    obtain ⟨i, hi, rfl⟩ := rng (by omega) h1
    simp only [cl_nI (show i < 20 by omega)]
    by_cases h2 : 0 ≤ w ∧ w ≤ 6
    · obtain ⟨c, hc, rfl⟩ := rngl (m := 6) (by decide) h2.1 h2.2
      rcases (show c = 0 ∨ c = 1 ∨ c = 2 ∨ c = 3 ∨ c = 4 ∨ c = 5 ∨ c = 6 by omega) with rfl | rfl | rfl | rfl | rfl | rfl | rfl
      · refine V.tIn (off := 44) (tgt := 60) omX8_look rfl (by decide) (by decide) (by decide) (by decide) ?_
        repeat (first | refine V.s omX8_look rfl rfl ?_ | refine V.gf omX8_look rfl rfl rfl rfl ?_ | refine V.ial omX8_look rfl rfl (ixN nv_nI (by omega) (by decide)) ?_)
        exact V.iret omX8_look rfl rfl (by simp +decide)
      · refine V.tIn (off := 51) (tgt := 67) omX8_look rfl (by decide) (by decide) (by decide) (by decide) ?_
        repeat (first | refine V.s omX8_look rfl rfl ?_ | refine V.gf omX8_look rfl rfl rfl rfl ?_)
        refine V.ial omX8_look rfl rfl (ixN (j := 4 * i) (nv_of (by rw [show (4 : Int32) * nI i = nI (4 * i) from nv_mul nv_lit nv_nI, nI_add]; exact nI_pred _)) (by omega) (by decide)) ?_
        exact V.iret omX8_look rfl rfl (by simp +decide [cl] <;> rfl)
      · refine V.tIn (off := 51) (tgt := 67) omX8_look rfl (by decide) (by decide) (by decide) (by decide) ?_
        repeat (first | refine V.s omX8_look rfl rfl ?_ | refine V.gf omX8_look rfl rfl rfl rfl ?_)
        refine V.ial omX8_look rfl rfl (ixN (j := 4 * i + 1) (nv_of (by rw [show (4 : Int32) * nI i = nI (4 * i) from nv_mul nv_lit nv_nI, nI_add]; exact nI_pred _)) (by omega) (by decide)) ?_
        exact V.iret omX8_look rfl rfl (by simp +decide [cl] <;> rfl)
      · refine V.tIn (off := 51) (tgt := 67) omX8_look rfl (by decide) (by decide) (by decide) (by decide) ?_
        repeat (first | refine V.s omX8_look rfl rfl ?_ | refine V.gf omX8_look rfl rfl rfl rfl ?_)
        refine V.ial omX8_look rfl rfl (ixN (j := 4 * i + 2) (nv_of (by rw [show (4 : Int32) * nI i = nI (4 * i) from nv_mul nv_lit nv_nI, nI_add]; exact nI_pred _)) (by omega) (by decide)) ?_
        exact V.iret omX8_look rfl rfl (by simp +decide [cl] <;> rfl)
      · refine V.tIn (off := 51) (tgt := 67) omX8_look rfl (by decide) (by decide) (by decide) (by decide) ?_
        repeat (first | refine V.s omX8_look rfl rfl ?_ | refine V.gf omX8_look rfl rfl rfl rfl ?_)
        refine V.ial omX8_look rfl rfl (ixN (j := 4 * i + 3) (nv_of (by rw [show (4 : Int32) * nI i = nI (4 * i) from nv_mul nv_lit nv_nI, nI_add]; exact nI_pred _)) (by omega) (by decide)) ?_
        exact V.iret omX8_look rfl rfl (by simp +decide [cl] <;> rfl)
      · refine V.tIn (off := 64) (tgt := 80) omX8_look rfl (by decide) (by decide) (by decide) (by decide) ?_
        repeat (first | refine V.s omX8_look rfl rfl ?_ | refine V.gf omX8_look rfl rfl rfl rfl ?_ | refine V.ial omX8_look rfl rfl (ixN nv_nI (by omega) (by decide)) ?_)
        by_cases h3 : A 35 i = 2
        · refine V.brT omX8_look rfl rfl h3 (fun h g => g h) ?_
          repeat (first | refine V.s omX8_look rfl rfl ?_ | refine V.gf omX8_look rfl rfl rfl rfl ?_ | refine V.brF omX8_look rfl rfl (by decide) ?_ | refine V.brT omX8_look rfl rfl (by decide) (by decide) ?_ | refine V.ial omX8_look rfl rfl (ixN nv_nI (by omega) (by decide)) ?_)
          exact V.iret omX8_look rfl rfl (by simp +decide [h3])
        · refine V.brF omX8_look rfl rfl h3 ?_
          repeat (first | refine V.s omX8_look rfl rfl ?_ | refine V.gf omX8_look rfl rfl rfl rfl ?_ | refine V.cVf omX8_look omX8_none rfl rfl (c8_none _ _ (by decide)) rfl rfl rfl rfl rfl rfl ?_)
          exact V.iret omX8_look rfl rfl (by rw [if_pos ⟨Or.inl rfl, h3⟩]; exact ⟨rfl, rfl⟩)
      · refine V.tIn (off := 64) (tgt := 80) omX8_look rfl (by decide) (by decide) (by decide) (by decide) ?_
        repeat (first | refine V.s omX8_look rfl rfl ?_ | refine V.gf omX8_look rfl rfl rfl rfl ?_ | refine V.ial omX8_look rfl rfl (ixN nv_nI (by omega) (by decide)) ?_)
        by_cases h3 : A 35 i = 2
        · refine V.brT omX8_look rfl rfl h3 (fun h g => g h) ?_
          repeat (first | refine V.s omX8_look rfl rfl ?_ | refine V.gf omX8_look rfl rfl rfl rfl ?_ | refine V.brF omX8_look rfl rfl (by decide) ?_ | refine V.brT omX8_look rfl rfl (by decide) (by decide) ?_ | refine V.ial omX8_look rfl rfl (ixN nv_nI (by omega) (by decide)) ?_)
          exact V.iret omX8_look rfl rfl (by simp +decide [h3])
        · refine V.brF omX8_look rfl rfl h3 ?_
          repeat (first | refine V.s omX8_look rfl rfl ?_ | refine V.gf omX8_look rfl rfl rfl rfl ?_ | refine V.cVf omX8_look omX8_none rfl rfl (c8_none _ _ (by decide)) rfl rfl rfl rfl rfl rfl ?_)
          exact V.iret omX8_look rfl rfl (by rw [if_pos ⟨Or.inr rfl, h3⟩]; exact ⟨rfl, rfl⟩)
    · have n5 : ¬ w = 5 := fun h => h2 (by subst h; decide)
      have n6 : ¬ w = 6 := fun h => h2 (by subst h; decide)
      rw [if_neg (fun h => h.1.elim n5 n6), if_neg h2]
      refine V.tOut (tgt := 118) omX8_look rfl ?_ (by decide) ?_
      · rw [Int32.le_iff_toInt_le, Int32.le_iff_toInt_le] at h2
        have e0 : (0 : Int32).toInt = 0 := by decide
        have e6 : (6 : Int32).toInt = 6 := by decide
        rw [e0, e6] at h2
        omega
      repeat (first | refine V.s omX8_look rfl rfl ?_ | refine V.gf omX8_look rfl rfl rfl rfl ?_ | refine V.cVf omX8_look omX8_none rfl rfl (c8_none _ _ (by decide)) rfl rfl rfl rfl rfl rfl ?_)
      exact V.iret omX8_look rfl rfl ⟨rfl, rfl⟩
  · iterate 2 (refine V.s omX8_look rfl rfl ?_)
    refine V.cVf omX8_look omX8_isRound rfl rfl (c8_irN _ h1) rfl rfl rfl rfl rfl rfl ?_
    refine V.brF omX8_look rfl rfl (by decide) ?_
    repeat (first | refine V.s omX8_look rfl rfl ?_ | refine V.gf omX8_look rfl rfl rfl rfl ?_ | refine V.cVf omX8_look omX8_none rfl rfl (c8_none _ _ (by decide)) rfl rfl rfl rfl rfl rfl ?_)
    rw [hn] at h1
    exact V.iret omX8_look rfl rfl (by simp only [s8_look, if_neg h1] <;> (refine ⟨?_, ?_⟩ <;> first | rfl | trivial))
end MDA
