section MDH
variable {A : Nat → Nat → Int32} {B : Nat → Nat → Int64}
abbrev FR (F : Nat) : Prop := 1 ≤ F % 100 ∧ F / 100 ≤ F % 100 ∧ Nat.gcd (F % 100) (F / 100) = 1
def frF (f : Int32) : Int32 := if 0 < f ∧ FR f.toNatClampNeg then 1 else 0
theorem frF_01 (f : Int32) : frF f = 0 ∨ frF f = 1 := by unfold frF; split <;> simp
theorem rem100 {F : Nat} (h : F < 2 ^ 31) : nI F - nI F / 100 * 100 = nI (F % 100) := pk_rem (d := 100) h (by decide) (by decide)
theorem div100 {F : Nat} (h : F < 2 ^ 31) : nI F / 100 = nI (F / 100) := pk_div (d := 100) h (by decide) (by decide)
theorem told100 (p q : Nat) : (100 : Int32) * nI p + nI q = nI (100 * p + q) := by rw [show (100 : Int32) = nI 100 from rfl, pk_mul, nI_add]
theorem frF_0 {f : Int32} (h : ¬ 0 < f) : frF f = 0 := by unfold frF; rw [if_neg (fun g => h g.1)]
theorem nIpos {F : Nat} (h0 : 0 < F) (h : F < 2 ^ 31) : 0 < nI F := Int32.not_le.mp (nI_nle h0 h)
theorem frF_n {F : Nat} (hF : F < 2 ^ 31) (h0 : 0 < nI F) : frF (nI F) = if FR F then 1 else 0 := by
  unfold frF
  rw [nI_clamp hF]
  by_cases h : FR F
  · rw [if_pos h, if_pos ⟨h0, h⟩]
  · rw [if_neg h, if_neg (fun g => h g.2)]
theorem frF_ex {f : Int32} (h : frF f = 1) : ∃ F, f = nI F ∧ FR F ∧ F < 10000 ∧ 0 < F := by
  by_cases h0 : 0 < f
  · obtain ⟨F, hF, rfl⟩ := nI_of (x := f) (fun g => Int32.lt_irrefl (Int32.lt_trans h0 g))
    rw [frF_n hF h0] at h
    by_cases hR : FR F
    · exact ⟨F, rfl, hR, by have := hR.1; have := hR.2.1; omega, by have := hR.1; omega⟩
    · rw [if_neg hR] at h
      exact absurd h (by decide)
  · rw [frF_0 h0] at h
    exact absurd h (by decide)
theorem frF_of {F : Nat} (h : FR F) : frF (nI F) = 1 := by
  have := h.1
  have := h.2.1
  rw [frF_n (by omega) (nIpos (by omega) (by omega)), if_pos h]
theorem gcd_sm {F : Nat} : Nat.gcd (F % 100) (F / 100) < 2 ^ 31 ∨ ¬ 1 ≤ F % 100 := by
  by_cases h : 1 ≤ F % 100
  · have := Nat.gcd_le_left (F / 100) (show 0 < F % 100 by omega)
    left; omega
  · right; exact h
set_option maxHeartbeats 4000000 in
set_option maxRecDepth 100000 in
theorem c8_isFraction (d : Nat) (f : Int32) (h : hp_T) : C mX8_isFraction (d + 1) 0 0 [.int f] h (fun r h' => h' = h ∧ r = some (.int (frF f))) := by
  refine C.of [some (.int f)] omX8_isFraction rfl rfl rfl ?_
  refine V.s omX8_isFraction rfl rfl ?_
  by_cases h0 : 0 < f
  · refine V.brF omX8_isFraction rfl rfl (Int32.not_le.mpr h0) ?_
    obtain ⟨F, hF, rfl⟩ := nI_of (x := f) (fun g => Int32.lt_irrefl (Int32.lt_trans h0 g))
    rw [frF_n hF h0]
    iterate 2 (refine V.s omX8_isFraction rfl rfl ?_)
    refine V.irem omX8_isFraction rfl (by decide) ?_
    rw [rem100 hF]
    by_cases h1 : 1 ≤ F % 100
    · refine V.brF omX8_isFraction rfl rfl (nI_nle h1 (by omega)) ?_
      iterate 2 (refine V.s omX8_isFraction rfl rfl ?_)
      refine V.idiv omX8_isFraction rfl (by decide) ?_
      rw [div100 hF]
      iterate 2 (refine V.s omX8_isFraction rfl rfl ?_)
      refine V.irem omX8_isFraction rfl (by decide) ?_
      rw [rem100 hF]
      by_cases h2 : F / 100 ≤ F % 100
      · refine V.brF omX8_isFraction rfl rfl (nI_nlt h2 (by omega)) ?_
        iterate 2 (refine V.s omX8_isFraction rfl rfl ?_)
        refine V.irem omX8_isFraction rfl (by decide) ?_
        rw [rem100 hF]
        iterate 2 (refine V.s omX8_isFraction rfl rfl ?_)
        refine V.idiv omX8_isFraction rfl (by decide) ?_
        rw [div100 hF]
        refine V.cSf omX8_isFraction omX8_divisor rfl rfl (c8_divisor _ _ (by omega) (by omega)) rfl rfl rfl rfl ?_
        refine V.s omX8_isFraction rfl rfl ?_
        have hg : Nat.gcd (F % 100) (F / 100) < 2 ^ 31 := by
          rcases gcd_sm (F := F) with g | g
          · exact g
          · exact absurd h1 g
        by_cases h3 : Nat.gcd (F % 100) (F / 100) = 1
        · refine V.brF omX8_isFraction rfl rfl (fun g => g (by rw [h3]; rfl)) ?_
          iterate 2 (refine V.s omX8_isFraction rfl rfl ?_)
          exact V.zret omX8_isFraction rfl rfl (by decide) ⟨rfl, by rw [if_pos ⟨h1, h2, h3⟩]⟩
        · refine V.brT omX8_isFraction rfl rfl (by rw [nIl_eq 1 hg (by decide)]; exact h3) (fun g => g) ?_
          refine V.s omX8_isFraction rfl rfl ?_
          exact V.zret omX8_isFraction rfl rfl (by decide) ⟨rfl, by rw [if_neg (fun g => h3 g.2.2)]⟩
      · refine V.brT omX8_isFraction rfl rfl (nI_lt (by omega) (by omega)) (fun g => Int32.not_le.mpr g) ?_
        refine V.s omX8_isFraction rfl rfl ?_
        exact V.zret omX8_isFraction rfl rfl (by decide) ⟨rfl, by rw [if_neg (fun g => h2 g.2.1)]⟩
    · have e : F % 100 = 0 := by omega
      refine V.brT omX8_isFraction rfl rfl (by rw [e]; decide) (fun g => Int32.not_lt.mpr g) ?_
      refine V.s omX8_isFraction rfl rfl ?_
      exact V.zret omX8_isFraction rfl rfl (by decide) ⟨rfl, by rw [if_neg (fun g => h1 g.1)]⟩
  · refine V.brT omX8_isFraction rfl rfl (Int32.not_lt.mp h0) (fun g => Int32.not_lt.mpr g) ?_
    refine V.s omX8_isFraction rfl rfl ?_
    exact V.zret omX8_isFraction rfl rfl (by decide) ⟨rfl, by rw [frF_0 h0]⟩
def dt (F G : Nat) : Int32 := nI (F / 100) * nI (G % 100) - nI (G / 100) * nI (F % 100)
set_option maxHeartbeats 4000000 in
set_option maxRecDepth 100000 in
theorem c8_determinant (d : Nat) {F G : Nat} (hF : F < 2 ^ 31) (hG : G < 2 ^ 31) (h : hp_T) : C mX8_determinant d 0 0 [.int (nI F), .int (nI G)] h (fun r h' => h' = h ∧ r = some (.int (dt F G))) := by
  refine C.of [some (.int (nI F)), some (.int (nI G))] omX8_determinant rfl rfl rfl ?_
  iterate 2 (refine V.s omX8_determinant rfl rfl ?_)
  refine V.idiv omX8_determinant rfl (by decide) ?_
  iterate 2 (refine V.s omX8_determinant rfl rfl ?_)
  refine V.irem omX8_determinant rfl (by decide) ?_
  iterate 3 (refine V.s omX8_determinant rfl rfl ?_)
  refine V.idiv omX8_determinant rfl (by decide) ?_
  iterate 2 (refine V.s omX8_determinant rfl rfl ?_)
  refine V.irem omX8_determinant rfl (by decide) ?_
  rw [rem100 hF, rem100 hG, div100 hF, div100 hG]
  iterate 2 (refine V.s omX8_determinant rfl rfl ?_)
  exact V.iret omX8_determinant rfl rfl ⟨rfl, rfl⟩
theorem dt_toInt {F G : Nat} (hF : F < 10000) (hG : G < 10000) : (dt F G).toInt = ((F / 100 * (G % 100) : Nat) : Int) - ((G / 100 * (F % 100) : Nat) : Int) := by
  unfold dt
  rw [pk_mul, pk_mul]
  have h1 : F / 100 * (G % 100) ≤ 100 * 100 := Nat.mul_le_mul (by omega) (by omega)
  have h2 : G / 100 * (F % 100) ≤ 100 * 100 := Nat.mul_le_mul (by omega) (by omega)
  exact pk_sub_toInt (by omega) (by omega)
abbrev gtD (y x : Nat) : Prop := x / 100 * (y % 100) < y / 100 * (x % 100)
abbrev nrP (F G : Nat) : Prop := F / 100 * (G % 100) = G / 100 * (F % 100) + 1 ∨ G / 100 * (F % 100) = F / 100 * (G % 100) + 1
theorem dt_le {y x : Nat} (hy : y < 10000) (hx : x < 10000) : dt y x ≤ 0 ↔ ¬ gtD y x := by
  rw [Int32.le_iff_toInt_le, dt_toInt hy hx, show (0 : Int32).toInt = 0 from rfl]
  unfold gtD
  omega
theorem dt_1 {y x : Nat} (hy : y < 10000) (hx : x < 10000) : dt y x = 1 ↔ y / 100 * (x % 100) = x / 100 * (y % 100) + 1 := by
  rw [← Int32.toInt_inj, dt_toInt hy hx, show (1 : Int32).toInt = 1 from rfl]
  omega
theorem dt_m1 {y x : Nat} (hy : y < 10000) (hx : x < 10000) : dt y x = -1 ↔ x / 100 * (y % 100) = y / 100 * (x % 100) + 1 := by
  rw [← Int32.toInt_inj, dt_toInt hy hx, show (-1 : Int32).toInt = -1 from rfl]
  omega
theorem dt_nr {y x : Nat} (hy : y < 10000) (hx : x < 10000) : (dt y x = 1 ∨ dt y x = -1) ↔ nrP y x := by rw [dt_1 hy hx, dt_m1 hy hx]
def s8_near (A : Nat → Nat → Int32) (f g : Int32) : Int32 × (Nat → Nat → Int32) := if frF f = 1 ∧ frF g = 1 then (if nrP f.toNatClampNeg g.toNatClampNeg then 1 else 0, A) else (-7, rmA A 7)
set_option maxHeartbeats 4000000 in
set_option maxRecDepth 100000 in
theorem c8_near (d : Nat) (f g : Int32) : C mX8_near (d + 2) 0 0 [.ref 33, .int f, .int g] (hp A B) (fun r h' => h' = hp (s8_near A f g).2 B ∧ r = some (.int (s8_near A f g).1)) := by
  refine C.of [some (.ref 33), some (.int f), some (.int g), none] omX8_near rfl rfl rfl ?_
  refine V.s omX8_near rfl rfl ?_
  refine V.cSf omX8_near omX8_isFraction rfl rfl (c8_isFraction _ _ _) rfl rfl rfl rfl ?_
  rcases frF_01 f with h1 | h1
  · rw [h1]
    refine V.brT omX8_near rfl rfl rfl (by decide) ?_
    iterate 2 (refine V.s omX8_near rfl rfl ?_)
    refine V.cVf omX8_near omX8_no rfl rfl (c8_no _ _ (by decide)) rfl rfl rfl rfl rfl rfl ?_
    have e : s8_near A f g = (-7, rmA A 7) := by unfold s8_near; rw [if_neg (fun q => absurd (h1.symm.trans q.1) (by decide))]
    rw [e]
    exact V.iret omX8_near rfl rfl ⟨rfl, rfl⟩
  · rw [h1]
    refine V.brF omX8_near rfl rfl (by decide) ?_
    refine V.s omX8_near rfl rfl ?_
    refine V.cSf omX8_near omX8_isFraction rfl rfl (c8_isFraction _ _ _) rfl rfl rfl rfl ?_
    rcases frF_01 g with h2 | h2
    · rw [h2]
      refine V.brF omX8_near rfl rfl (by decide) ?_
      iterate 2 (refine V.s omX8_near rfl rfl ?_)
      refine V.cVf omX8_near omX8_no rfl rfl (c8_no _ _ (by decide)) rfl rfl rfl rfl rfl rfl ?_
      have e : s8_near A f g = (-7, rmA A 7) := by unfold s8_near; rw [if_neg (fun q => absurd (h2.symm.trans q.2) (by decide))]
      rw [e]
      exact V.iret omX8_near rfl rfl ⟨rfl, rfl⟩
    · rw [h2]
      refine V.brT omX8_near rfl rfl (by decide) (by decide) ?_
      have e : s8_near A f g = (if nrP f.toNatClampNeg g.toNatClampNeg then 1 else 0, A) := by unfold s8_near; rw [if_pos ⟨h1, h2⟩]
      rw [e]
      obtain ⟨F, rfl, hF, hF1, -⟩ := frF_ex h1
      obtain ⟨G, rfl, hG, hG1, -⟩ := frF_ex h2
      rw [nI_clamp (by omega), nI_clamp (by omega)]
      iterate 2 (refine V.s omX8_near rfl rfl ?_)
      refine V.cSf omX8_near omX8_determinant rfl rfl (c8_determinant _ (show F < 2 ^ 31 by omega) (show G < 2 ^ 31 by omega) _) rfl rfl rfl rfl ?_
      iterate 3 (refine V.s omX8_near rfl rfl ?_)
      by_cases h3 : dt F G = 1
      · refine V.brT omX8_near rfl rfl h3 (fun h g => g h) ?_
        iterate 2 (refine V.s omX8_near rfl rfl ?_)
        exact V.iret omX8_near rfl rfl ⟨rfl, by rw [if_pos ((dt_nr hF1 hG1).mp (Or.inl h3))]⟩
      · refine V.brF omX8_near rfl rfl h3 ?_
        iterate 2 (refine V.s omX8_near rfl rfl ?_)
        by_cases h4 : dt F G = -1
        · refine V.brF omX8_near rfl rfl (fun g => g h4) ?_
          iterate 2 (refine V.s omX8_near rfl rfl ?_)
          exact V.iret omX8_near rfl rfl ⟨rfl, by rw [if_pos ((dt_nr hF1 hG1).mp (Or.inr h4))]⟩
        · refine V.brT omX8_near rfl rfl h4 (fun g => g) ?_
          refine V.s omX8_near rfl rfl ?_
          exact V.iret omX8_near rfl rfl ⟨rfl, by rw [if_neg (fun q => ((dt_nr hF1 hG1).mpr q).elim h3 h4)]⟩
def btN (F G : Nat) : Nat := 100 * (F / 100 + G / 100) + (F % 100 + G % 100)
def s8_between (A : Nat → Nat → Int32) (f g : Int32) : Int32 × (Nat → Nat → Int32) := if frF f = 1 ∧ frF g = 1 ∧ nrP f.toNatClampNeg g.toNatClampNeg then (if f.toNatClampNeg % 100 + g.toNatClampNeg % 100 ≤ 99 then (nI (btN f.toNatClampNeg g.toNatClampNeg), A) else (-8, rmA A 8)) else (-7, rmA A 7)
set_option maxHeartbeats 4000000 in
set_option maxRecDepth 100000 in
theorem bt8_44 (d : Nat) {F G : Nat} (hF : F < 10000) (hG : G < 10000) (x : Int32) (v4 : Option Value) : V mX8_between (d + 2) 0 0 (fun r h' => h' = hp (if F % 100 + G % 100 ≤ 99 then (nI (btN F G), A) else (-8, rmA A 8)).2 B ∧ r = some (.int (if F % 100 + G % 100 ≤ 99 then (nI (btN F G), A) else (-8, rmA A 8)).1)) 0 0 44 [some (.ref 33), some (.int (nI F)), some (.int (nI G)), some (.int x), v4] [] (hp A B) := by
  iterate 2 (refine V.s omX8_between rfl rfl ?_)
  refine V.irem omX8_between rfl (by decide) ?_
  iterate 2 (refine V.s omX8_between rfl rfl ?_)
  refine V.irem omX8_between rfl (by decide) ?_
  rw [rem100 (show F < 2 ^ 31 by omega), rem100 (show G < 2 ^ 31 by omega)]
  refine V.s omX8_between rfl rfl ?_
  rw [nI_add]
  iterate 3 (refine V.s omX8_between rfl rfl ?_)
  by_cases h : F % 100 + G % 100 ≤ 99
  · rw [if_pos h]
    refine V.brT omX8_between rfl rfl (nI_le h (by decide)) (fun h => Int32.not_lt.mpr h) ?_
    iterate 3 (refine V.s omX8_between rfl rfl ?_)
    refine V.idiv omX8_between rfl (by decide) ?_
    iterate 2 (refine V.s omX8_between rfl rfl ?_)
    refine V.idiv omX8_between rfl (by decide) ?_
    rw [div100 (show F < 2 ^ 31 by omega), div100 (show G < 2 ^ 31 by omega)]
    refine V.s omX8_between rfl rfl ?_
    rw [nI_add]
    iterate 3 (refine V.s omX8_between rfl rfl ?_)
    rw [told100]
    exact V.iret omX8_between rfl rfl ⟨rfl, rfl⟩
  · rw [if_neg h]
    refine V.brF omX8_between rfl rfl (fun g => h ((nI_leI (b := 99) (by omega) (by decide)).mp g)) ?_
    iterate 2 (refine V.s omX8_between rfl rfl ?_)
    refine V.cVf omX8_between omX8_no rfl rfl (c8_no _ _ (by decide)) rfl rfl rfl rfl rfl rfl ?_
    refine V.s omX8_between rfl rfl ?_
    exact V.iret omX8_between rfl rfl ⟨rfl, rfl⟩
set_option maxHeartbeats 4000000 in
set_option maxRecDepth 100000 in
theorem c8_between (d : Nat) (f g : Int32) : C mX8_between (d + 2) 0 0 [.ref 33, .int f, .int g] (hp A B) (fun r h' => h' = hp (s8_between A f g).2 B ∧ r = some (.int (s8_between A f g).1)) := by
  refine C.of [some (.ref 33), some (.int f), some (.int g), none, none] omX8_between rfl rfl rfl ?_
  refine V.s omX8_between rfl rfl ?_
  refine V.cSf omX8_between omX8_isFraction rfl rfl (c8_isFraction _ _ _) rfl rfl rfl rfl ?_
  rcases frF_01 f with h1 | h1
  · rw [h1]
    refine V.brT omX8_between rfl rfl rfl (by decide) ?_
    iterate 2 (refine V.s omX8_between rfl rfl ?_)
    refine V.cVf omX8_between omX8_no rfl rfl (c8_no _ _ (by decide)) rfl rfl rfl rfl rfl rfl ?_
    have e : s8_between A f g = (-7, rmA A 7) := by unfold s8_between; rw [if_neg (fun q => absurd (h1.symm.trans q.1) (by decide))]
    rw [e]
    exact V.iret omX8_between rfl rfl ⟨rfl, rfl⟩
  · rw [h1]
    refine V.brF omX8_between rfl rfl (by decide) ?_
    refine V.s omX8_between rfl rfl ?_
    refine V.cSf omX8_between omX8_isFraction rfl rfl (c8_isFraction _ _ _) rfl rfl rfl rfl ?_
    rcases frF_01 g with h2 | h2
    · rw [h2]
      refine V.brF omX8_between rfl rfl (by decide) ?_
      iterate 2 (refine V.s omX8_between rfl rfl ?_)
      refine V.cVf omX8_between omX8_no rfl rfl (c8_no _ _ (by decide)) rfl rfl rfl rfl rfl rfl ?_
      have e : s8_between A f g = (-7, rmA A 7) := by unfold s8_between; rw [if_neg (fun q => absurd (h2.symm.trans q.2.1) (by decide))]
      rw [e]
      exact V.iret omX8_between rfl rfl ⟨rfl, rfl⟩
    · rw [h2]
      refine V.brT omX8_between rfl rfl (by decide) (by decide) ?_
      obtain ⟨F, rfl, hF, hF1, -⟩ := frF_ex h1
      obtain ⟨G, rfl, hG, hG1, -⟩ := frF_ex h2
      iterate 2 (refine V.s omX8_between rfl rfl ?_)
      refine V.cSf omX8_between omX8_determinant rfl rfl (c8_determinant _ (show F < 2 ^ 31 by omega) (show G < 2 ^ 31 by omega) _) rfl rfl rfl rfl ?_
      iterate 3 (refine V.s omX8_between rfl rfl ?_)
      have eY : nrP F G → s8_between A (nI F) (nI G) = (if F % 100 + G % 100 ≤ 99 then (nI (btN F G), A) else (-8, rmA A 8)) := by
        intro q
        unfold s8_between
        rw [nI_clamp (show F < 2 ^ 31 by omega), nI_clamp (show G < 2 ^ 31 by omega), if_pos ⟨h1, h2, q⟩]
      have eN : ¬ nrP F G → s8_between A (nI F) (nI G) = (-7, rmA A 7) := by
        intro q
        unfold s8_between
        rw [nI_clamp (show F < 2 ^ 31 by omega), nI_clamp (show G < 2 ^ 31 by omega), if_neg (fun w => q w.2.2)]
      by_cases h3 : dt F G = 1
      · refine V.brT omX8_between rfl rfl h3 (fun h g => g h) ?_
        rw [eY ((dt_nr hF1 hG1).mp (Or.inl h3))]
        exact bt8_44 d hF1 hG1 _ _
      · refine V.brF omX8_between rfl rfl h3 ?_
        iterate 2 (refine V.s omX8_between rfl rfl ?_)
        by_cases h4 : dt F G = -1
        · refine V.brT omX8_between rfl rfl h4 (fun h g => g h) ?_
          rw [eY ((dt_nr hF1 hG1).mp (Or.inr h4))]
          exact bt8_44 d hF1 hG1 _ _
        · refine V.brF omX8_between rfl rfl h4 ?_
          rw [eN (fun q => ((dt_nr hF1 hG1).mpr q).elim h3 h4)]
          iterate 2 (refine V.s omX8_between rfl rfl ?_)
          refine V.cVf omX8_between omX8_no rfl rfl (c8_no _ _ (by decide)) rfl rfl rfl rfl rfl rfl ?_
          exact V.iret omX8_between rfl rfl ⟨rfl, rfl⟩
def orF (n : Int32) : Int32 := if 1 ≤ n ∧ n ≤ 30 then 1 else 0
theorem orF_01 (n : Int32) : orF n = 0 ∨ orF n = 1 := by unfold orF; split <;> simp
theorem orF_ex {n : Int32} (h : orF n = 1) : ∃ N, n = nI N ∧ 1 ≤ N ∧ N ≤ 30 := by
  unfold orF at h
  split at h
  · next g =>
    obtain ⟨j, hj, rfl⟩ := nI_of2 (x := n) (M := 30) (n := 30) rfl (fun q => Int32.not_lt.mpr (Int32.le_trans (by decide) g.1) q) g.2
    have := (nIl_le 1 (show j < 2 ^ 31 by omega) (by decide)).mp g.1
    exact ⟨j, rfl, this, hj⟩
  · exact absurd h (by decide)
set_option maxHeartbeats 4000000 in
set_option maxRecDepth 100000 in
theorem c8_isRow (d : Nat) (n : Int32) (h : hp_T) : C mX8_isRow d 0 0 [.int n] h (fun r h' => h' = h ∧ r = some (.int (orF n))) := by
  refine C.of [some (.int n)] omX8_isRow rfl rfl rfl ?_
  iterate 2 (refine V.s omX8_isRow rfl rfl ?_)
  by_cases h1 : n < 1
  · refine V.brT omX8_isRow rfl rfl h1 (fun g => Int32.not_le.mpr g) ?_
    refine V.s omX8_isRow rfl rfl ?_
    exact V.zret omX8_isRow rfl rfl (by decide) ⟨rfl, by unfold orF; rw [if_neg (fun q => Int32.not_le.mpr h1 q.1)]⟩
  · refine V.brF omX8_isRow rfl rfl h1 ?_
    iterate 2 (refine V.s omX8_isRow rfl rfl ?_)
    by_cases h2 : 30 < n
    · refine V.brT omX8_isRow rfl rfl h2 (fun g => Int32.not_le.mpr g) ?_
      refine V.s omX8_isRow rfl rfl ?_
      exact V.zret omX8_isRow rfl rfl (by decide) ⟨rfl, by unfold orF; rw [if_neg (fun q => Int32.not_le.mpr h2 q.2)]⟩
    · refine V.brF omX8_isRow rfl rfl h2 ?_
      iterate 2 (refine V.s omX8_isRow rfl rfl ?_)
      exact V.zret omX8_isRow rfl rfl (by decide) ⟨rfl, by unfold orF; rw [if_pos ⟨Int32.not_lt.mp h1, Int32.not_lt.mp h2⟩]⟩
def ofF (f n : Int32) : Int32 := if frF f = 1 ∧ nI (f.toNatClampNeg % 100) ≤ n then 1 else 0
theorem ofF_01 (f n : Int32) : ofF f n = 0 ∨ ofF f n = 1 := by unfold ofF; split <;> simp
set_option maxHeartbeats 4000000 in
set_option maxRecDepth 100000 in
theorem c8_isOf (d : Nat) (f n : Int32) : C mX8_isOf (d + 2) 0 0 [.ref 33, .int f, .int n] (hp A B) (fun r h' => h' = hp A B ∧ r = some (.int (ofF f n))) := by
  refine C.of [some (.ref 33), some (.int f), some (.int n)] omX8_isOf rfl rfl rfl ?_
  refine V.s omX8_isOf rfl rfl ?_
  refine V.cSf omX8_isOf omX8_isFraction rfl rfl (c8_isFraction _ _ _) rfl rfl rfl rfl ?_
  rcases frF_01 f with h1 | h1
  · rw [h1]
    refine V.brT omX8_isOf rfl rfl rfl (by decide) ?_
    refine V.s omX8_isOf rfl rfl ?_
    exact V.zret omX8_isOf rfl rfl (by decide) ⟨rfl, by unfold ofF; rw [if_neg (fun q => absurd (h1.symm.trans q.1) (by decide))]⟩
  · rw [h1]
    refine V.brF omX8_isOf rfl rfl (by decide) ?_
    obtain ⟨F, rfl, hF, hF1, -⟩ := frF_ex h1
    iterate 2 (refine V.s omX8_isOf rfl rfl ?_)
    refine V.irem omX8_isOf rfl (by decide) ?_
    rw [rem100 (show F < 2 ^ 31 by omega)]
    refine V.s omX8_isOf rfl rfl ?_
    unfold ofF
    rw [nI_clamp (show F < 2 ^ 31 by omega)]
    by_cases h2 : nI (F % 100) ≤ n
    · refine V.brF omX8_isOf rfl rfl (Int32.not_lt.mpr h2) ?_
      iterate 2 (refine V.s omX8_isOf rfl rfl ?_)
      exact V.zret omX8_isOf rfl rfl (by decide) ⟨rfl, by rw [if_pos ⟨h1, h2⟩]⟩
    · refine V.brT omX8_isOf rfl rfl (Int32.not_le.mp h2) (fun g => Int32.not_le.mpr g) ?_
      refine V.s omX8_isOf rfl rfl ?_
      exact V.zret omX8_isOf rfl rfl (by decide) ⟨rfl, by rw [if_neg (fun q => h2 q.2)]⟩
end MDH
