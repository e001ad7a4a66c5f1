section FRC
variable {A : Nat → Nat → Int32} {B : Nat → Nat → Int64}
theorem c_told (d p q : Nat) (h : hp_T) : C mX1_told d 0 0 [.int (nI p), .int (nI q)] h (fun r h' => h' = h ∧ r = some (.int (nI (100 * p + q)))) := by
  refine C.of [some (.int (nI p)), some (.int (nI q))] omX1_told rfl rfl rfl ?_
  iterate 5 (refine V.s omX1_told rfl rfl ?_)
  rw [told100]
  exact V.iret omX1_told rfl rfl ⟨rfl, rfl⟩
theorem c_top (d : Nat) {F : Nat} (hF : F < 2 ^ 31) (h : hp_T) : C mX1_top d 0 0 [.int (nI F)] h (fun r h' => h' = h ∧ r = some (.int (nI (F / 100)))) := by
  refine C.of [some (.int (nI F))] omX1_top rfl rfl rfl ?_
  iterate 2 (refine V.s omX1_top rfl rfl ?_)
  refine V.idiv omX1_top rfl (by decide) ?_
  rw [div100 hF]
  exact V.iret omX1_top rfl rfl ⟨rfl, rfl⟩
theorem c_bottom (d : Nat) {F : Nat} (hF : F < 2 ^ 31) (h : hp_T) : C mX1_bottom d 0 0 [.int (nI F)] h (fun r h' => h' = h ∧ r = some (.int (nI (F % 100)))) := by
  refine C.of [some (.int (nI F))] omX1_bottom rfl rfl rfl ?_
  iterate 2 (refine V.s omX1_bottom rfl rfl ?_)
  refine V.irem omX1_bottom rfl (by decide) ?_
  rw [rem100 hF]
  exact V.iret omX1_bottom rfl rfl ⟨rfl, rfl⟩
set_option maxHeartbeats 4000000 in
set_option maxRecDepth 100000 in
theorem c_isOne (d : Nat) (f : Int32) (h : hp_T) : C mX1_isOne (d + 1) 0 0 [.int f] h (fun r h' => h' = h ∧ r = some (.int (frF f))) := by
  refine C.of [some (.int f)] omX1_isOne rfl rfl rfl ?_
  refine V.s omX1_isOne rfl rfl ?_
  by_cases h0 : 0 < f
  · refine V.brF omX1_isOne rfl rfl (Int32.not_le.mpr h0) ?_
    obtain ⟨F, hF, rfl⟩ := nI_of (x := f) (fun g => Int32.lt_irrefl (Int32.lt_trans h0 g))
    rw [frF_n hF h0]
    refine V.s omX1_isOne rfl rfl ?_
    refine V.cSf omX1_isOne omX1_bottom rfl rfl (c_bottom _ hF _) rfl rfl rfl rfl ?_
    refine V.s omX1_isOne rfl rfl ?_
    by_cases h1 : 1 ≤ F % 100
    · refine V.brF omX1_isOne rfl rfl (nI_nlt (b := 1) h1 (by omega)) ?_
      refine V.s omX1_isOne rfl rfl ?_
      refine V.cSf omX1_isOne omX1_top rfl rfl (c_top _ hF _) rfl rfl rfl rfl ?_
      refine V.s omX1_isOne rfl rfl ?_
      refine V.cSf omX1_isOne omX1_bottom rfl rfl (c_bottom _ hF _) rfl rfl rfl rfl ?_
      by_cases h2 : F / 100 ≤ F % 100
      · refine V.brF omX1_isOne rfl rfl (nI_nlt h2 (by omega)) ?_
        refine V.s omX1_isOne rfl rfl ?_
        refine V.cSf omX1_isOne omX1_top rfl rfl (c_top _ hF _) rfl rfl rfl rfl ?_
        refine V.s omX1_isOne rfl rfl ?_
        refine V.cSf omX1_isOne omX1_bottom rfl rfl (c_bottom _ hF _) rfl rfl rfl rfl ?_
        refine V.cSf omX1_isOne omX2_isLowest rfl rfl (c_isLowest _ _ _ _ (show F / 100 < 2 ^ 31 by omega) (show F % 100 < 2 ^ 31 by omega)) rfl rfl rfl rfl ?_
        by_cases h3 : Nat.gcd (F / 100) (F % 100) = 1
        · rw [if_pos h3]
          refine V.brF omX1_isOne rfl rfl (by decide) ?_
          iterate 2 (refine V.s omX1_isOne rfl rfl ?_)
          exact V.zret omX1_isOne rfl rfl (by decide) ⟨rfl, by rw [if_pos ⟨h1, h2, by rw [Nat.gcd_comm]; exact h3⟩]⟩
        · rw [if_neg h3]
          refine V.brT omX1_isOne rfl rfl rfl (by decide) ?_
          refine V.s omX1_isOne rfl rfl ?_
          exact V.zret omX1_isOne rfl rfl (by decide) ⟨rfl, by rw [if_neg (fun g => h3 (by rw [Nat.gcd_comm]; exact g.2.2))]⟩
      · refine V.brT omX1_isOne rfl rfl (nI_lt (by omega) (by omega)) (fun g => Int32.not_le.mpr g) ?_
        refine V.s omX1_isOne rfl rfl ?_
        exact V.zret omX1_isOne rfl rfl (by decide) ⟨rfl, by rw [if_neg (fun g => h2 g.2.1)]⟩
    · refine V.brT omX1_isOne rfl rfl (nI_lt (b := 1) (by omega) (by decide)) (fun g => Int32.not_le.mpr g) ?_
      refine V.s omX1_isOne rfl rfl ?_
      exact V.zret omX1_isOne rfl rfl (by decide) ⟨rfl, by rw [if_neg (fun g => h1 g.1)]⟩
  · refine V.brT omX1_isOne rfl rfl (Int32.not_lt.mp h0) (fun g => Int32.not_lt.mpr g) ?_
    refine V.s omX1_isOne rfl rfl ?_
    exact V.zret omX1_isOne rfl rfl (by decide) ⟨rfl, by rw [frF_0 h0]⟩
set_option maxHeartbeats 4000000 in
set_option maxRecDepth 100000 in
theorem c_areNear (d : Nat) {F G : Nat} (hF : F < 10000) (hG : G < 10000) (h : hp_T) : C mX1_areNear (d + 1) 0 0 [.int (nI F), .int (nI G)] h (fun r h' => h' = h ∧ r = some (.int (if nrP F G then 1 else 0))) := by
  refine C.of [some (.int (nI F)), some (.int (nI G)), none] omX1_areNear rfl rfl rfl ?_
  refine V.s omX1_areNear rfl rfl ?_
  refine V.cSf omX1_areNear omX1_top rfl rfl (c_top _ (show F < 2 ^ 31 by omega) _) rfl rfl rfl rfl ?_
  refine V.s omX1_areNear rfl rfl ?_
  refine V.cSf omX1_areNear omX1_bottom rfl rfl (c_bottom _ (show G < 2 ^ 31 by omega) _) rfl rfl rfl rfl ?_
  iterate 2 (refine V.s omX1_areNear rfl rfl ?_)
  refine V.cSf omX1_areNear omX1_top rfl rfl (c_top _ (show G < 2 ^ 31 by omega) _) rfl rfl rfl rfl ?_
  refine V.s omX1_areNear rfl rfl ?_
  refine V.cSf omX1_areNear omX1_bottom rfl rfl (c_bottom _ (show F < 2 ^ 31 by omega) _) rfl rfl rfl rfl ?_
  iterate 5 (refine V.s omX1_areNear rfl rfl ?_)
  rw [show nI (F / 100) * nI (G % 100) - nI (G / 100) * nI (F % 100) = dt F G from rfl]
  by_cases h3 : dt F G = 1
  · refine V.brT omX1_areNear rfl rfl h3 (fun h g => g h) ?_
    iterate 2 (refine V.s omX1_areNear rfl rfl ?_)
    exact V.zret omX1_areNear rfl rfl (by decide) ⟨rfl, by rw [if_pos ((dt_nr hF hG).mp (Or.inl h3))]⟩
  · refine V.brF omX1_areNear rfl rfl h3 ?_
    iterate 2 (refine V.s omX1_areNear rfl rfl ?_)
    by_cases h4 : dt F G = -1
    · refine V.brF omX1_areNear rfl rfl (fun g => g h4) ?_
      iterate 2 (refine V.s omX1_areNear rfl rfl ?_)
      exact V.zret omX1_areNear rfl rfl (by decide) ⟨rfl, by rw [if_pos ((dt_nr hF hG).mp (Or.inr h4))]⟩
    · refine V.brT omX1_areNear rfl rfl h4 (fun g => g) ?_
      refine V.s omX1_areNear rfl rfl ?_
      exact V.zret omX1_areNear rfl rfl (by decide) ⟨rfl, by rw [if_neg (fun q => ((dt_nr hF hG).mpr q).elim h3 h4)]⟩
def s7_near (A : Nat → Nat → Int32) (f g : Int32) : Int32 × (Nat → Nat → Int32) := if frF f = 1 ∧ frF g = 1 then (if nrP f.toNatClampNeg g.toNatClampNeg then 1 else 0, A) else (-7, rfA A 7)
set_option maxHeartbeats 4000000 in
set_option maxRecDepth 100000 in
theorem c7_near (d : Nat) (f g : Int32) : C mX7_near (d + 2) 0 0 [.ref 0, .int f, .int g] (hp A B) (fun r h' => h' = hp (s7_near A f g).2 B ∧ r = some (.int (s7_near A f g).1)) := by
  refine C.of [some (.ref 0), some (.int f), some (.int g)] omX7_near rfl rfl rfl ?_
  have bad : s7_near A f g = (-7, rfA A 7) → V mX7_near (d + 2) 0 0 (fun r h' => h' = hp (s7_near A f g).2 B ∧ r = some (.int (s7_near A f g).1)) 0 0 14 [some (.ref 0), some (.int f), some (.int g)] [] (hp A B) := by
    intro e
    rw [e]
    iterate 2 (refine V.s omX7_near rfl rfl ?_)
    refine V.cVf omX7_near omX7_refuse rfl rfl (c_refuse _ _ (by decide)) rfl rfl rfl rfl rfl rfl ?_
    exact V.iret omX7_near rfl rfl ⟨rfl, rfl⟩
  refine V.s omX7_near rfl rfl ?_
  refine V.cSf omX7_near omX1_isOne rfl rfl (c_isOne _ _ _) rfl rfl rfl rfl ?_
  rcases frF_01 f with h1 | h1
  · rw [h1]
    refine V.brT omX7_near rfl rfl rfl (by decide) ?_
    exact bad (by unfold s7_near; rw [if_neg (fun q => absurd (h1.symm.trans q.1) (by decide))])
  rw [h1]
  refine V.brF omX7_near rfl rfl (by decide) ?_
  refine V.s omX7_near rfl rfl ?_
  refine V.cSf omX7_near omX1_isOne rfl rfl (c_isOne _ _ _) rfl rfl rfl rfl ?_
  rcases frF_01 g with h2 | h2
  · rw [h2]
    refine V.brF omX7_near rfl rfl (by decide) ?_
    exact bad (by unfold s7_near; rw [if_neg (fun q => absurd (h2.symm.trans q.2) (by decide))])
  rw [h2]
  refine V.brT omX7_near rfl rfl (by decide) (by decide) ?_
  have e : s7_near A f g = (if nrP f.toNatClampNeg g.toNatClampNeg then 1 else 0, A) := by unfold s7_near; rw [if_pos ⟨h1, h2⟩]
  rw [e]
  obtain ⟨F, rfl, hF, hF1, -⟩ := frF_ex h1
  obtain ⟨G, rfl, hG, hG1, -⟩ := frF_ex h2
  rw [nI_clamp (by omega), nI_clamp (by omega)]
  iterate 2 (refine V.s omX7_near rfl rfl ?_)
  refine V.cSf omX7_near omX1_areNear rfl rfl (c_areNear d hF1 hG1 _) rfl rfl rfl rfl ?_
  by_cases h3 : nrP F G
  · rw [if_pos h3]
    refine V.brF omX7_near rfl rfl (by decide) ?_
    iterate 2 (refine V.s omX7_near rfl rfl ?_)
    exact V.iret omX7_near rfl rfl ⟨rfl, rfl⟩
  · rw [if_neg h3]
    refine V.brT omX7_near rfl rfl rfl (by decide) ?_
    refine V.s omX7_near rfl rfl ?_
    exact V.iret omX7_near rfl rfl ⟨rfl, rfl⟩
def s7_between (A : Nat → Nat → Int32) (f g : Int32) : Int32 × (Nat → Nat → Int32) := if frF f = 1 ∧ frF g = 1 ∧ nrP f.toNatClampNeg g.toNatClampNeg then (if f.toNatClampNeg % 100 + g.toNatClampNeg % 100 ≤ 99 then (nI (btN f.toNatClampNeg g.toNatClampNeg), A) else (-8, rfA A 8)) else (-7, rfA A 7)
set_option maxHeartbeats 4000000 in
set_option maxRecDepth 100000 in
theorem c7_between (d : Nat) (f g : Int32) : C mX7_between (d + 2) 0 0 [.ref 0, .int f, .int g] (hp A B) (fun r h' => h' = hp (s7_between A f g).2 B ∧ r = some (.int (s7_between A f g).1)) := by
  refine C.of [some (.ref 0), some (.int f), some (.int g), none, none] omX7_between rfl rfl rfl ?_
  have bad : s7_between A f g = (-7, rfA A 7) → V mX7_between (d + 2) 0 0 (fun r h' => h' = hp (s7_between A f g).2 B ∧ r = some (.int (s7_between A f g).1)) 0 0 22 [some (.ref 0), some (.int f), some (.int g), none, none] [] (hp A B) := by
    intro e
    rw [e]
    iterate 2 (refine V.s omX7_between rfl rfl ?_)
    refine V.cVf omX7_between omX7_refuse rfl rfl (c_refuse _ _ (by decide)) rfl rfl rfl rfl rfl rfl ?_
    exact V.iret omX7_between rfl rfl ⟨rfl, rfl⟩
  refine V.s omX7_between rfl rfl ?_
  refine V.cSf omX7_between omX1_isOne rfl rfl (c_isOne _ _ _) rfl rfl rfl rfl ?_
  rcases frF_01 f with h1 | h1
  · rw [h1]
    refine V.brT omX7_between rfl rfl rfl (by decide) ?_
    exact bad (by unfold s7_between; rw [if_neg (fun q => absurd (h1.symm.trans q.1) (by decide))])
  rw [h1]
  refine V.brF omX7_between rfl rfl (by decide) ?_
  refine V.s omX7_between rfl rfl ?_
  refine V.cSf omX7_between omX1_isOne rfl rfl (c_isOne _ _ _) rfl rfl rfl rfl ?_
  rcases frF_01 g with h2 | h2
  · rw [h2]
    refine V.brT omX7_between rfl rfl rfl (by decide) ?_
    exact bad (by unfold s7_between; rw [if_neg (fun q => absurd (h2.symm.trans q.2.1) (by decide))])
  rw [h2]
  refine V.brF omX7_between rfl rfl (by decide) ?_
  obtain ⟨F, rfl, hF, hF1, -⟩ := frF_ex h1
  obtain ⟨G, rfl, hG, hG1, -⟩ := frF_ex h2
  iterate 2 (refine V.s omX7_between rfl rfl ?_)
  refine V.cSf omX7_between omX1_areNear rfl rfl (c_areNear d hF1 hG1 _) rfl rfl rfl rfl ?_
  by_cases h3 : nrP F G
  · rw [if_pos h3]
    refine V.brT omX7_between rfl rfl (by decide) (by decide) ?_
    have eY : s7_between A (nI F) (nI G) = (if F % 100 + G % 100 ≤ 99 then (nI (btN F G), A) else (-8, rfA A 8)) := by
      unfold s7_between
      rw [nI_clamp (show F < 2 ^ 31 by omega), nI_clamp (show G < 2 ^ 31 by omega), if_pos ⟨h1, h2, h3⟩]
    rw [eY]
    clear bad eY
    refine V.s omX7_between rfl rfl ?_
    refine V.cSf omX7_between omX1_top rfl rfl (c_top _ (show F < 2 ^ 31 by omega) _) rfl rfl rfl rfl ?_
    refine V.s omX7_between rfl rfl ?_
    refine V.cSf omX7_between omX1_top rfl rfl (c_top _ (show G < 2 ^ 31 by omega) _) rfl rfl rfl rfl ?_
    refine V.s omX7_between rfl rfl ?_
    rw [nI_add]
    iterate 2 (refine V.s omX7_between rfl rfl ?_)
    refine V.cSf omX7_between omX1_bottom rfl rfl (c_bottom _ (show F < 2 ^ 31 by omega) _) rfl rfl rfl rfl ?_
    refine V.s omX7_between rfl rfl ?_
    refine V.cSf omX7_between omX1_bottom rfl rfl (c_bottom _ (show G < 2 ^ 31 by omega) _) rfl rfl rfl rfl ?_
    refine V.s omX7_between rfl rfl ?_
    rw [nI_add]
    iterate 3 (refine V.s omX7_between rfl rfl ?_)
    by_cases h4 : F % 100 + G % 100 ≤ 99
    · rw [if_pos h4]
      refine V.brF omX7_between rfl rfl (nI_ge (b := 100) (by omega) (by decide)) ?_
      iterate 2 (refine V.s omX7_between rfl rfl ?_)
      refine V.cSf omX7_between omX1_told rfl rfl (c_told _ _ _ _) rfl rfl rfl rfl ?_
      refine V.s omX7_between rfl rfl ?_
      exact V.iret omX7_between rfl rfl ⟨rfl, rfl⟩
    · rw [if_neg h4]
      refine V.brT omX7_between rfl rfl (nI_le (a := 100) (by omega) (by omega)) (fun g => Int32.not_lt.mpr g) ?_
      iterate 2 (refine V.s omX7_between rfl rfl ?_)
      refine V.cVf omX7_between omX7_refuse rfl rfl (c_refuse _ _ (by decide)) rfl rfl rfl rfl rfl rfl ?_
      exact V.iret omX7_between rfl rfl ⟨rfl, rfl⟩
  · rw [if_neg h3]
    refine V.brF omX7_between rfl rfl (by decide) ?_
    exact bad (by
      unfold s7_between
      rw [nI_clamp (show F < 2 ^ 31 by omega), nI_clamp (show G < 2 ^ 31 by omega), if_neg (fun w => h3 w.2.2)])
set_option maxHeartbeats 4000000 in
set_option maxRecDepth 100000 in
theorem c7_isOrder (d : Nat) (n : Int32) (h : hp_T) : C mX7_isOrder d 0 0 [.int n] h (fun r h' => h' = h ∧ r = some (.int (orF n))) := by
  refine C.of [some (.int n)] omX7_isOrder rfl rfl rfl ?_
  iterate 2 (refine V.s omX7_isOrder rfl rfl ?_)
  by_cases h1 : n < 1
  · refine V.brT omX7_isOrder rfl rfl h1 (fun g => Int32.not_le.mpr g) ?_
    refine V.s omX7_isOrder rfl rfl ?_
    exact V.zret omX7_isOrder rfl rfl (by decide) ⟨rfl, by unfold orF; rw [if_neg (fun q => Int32.not_le.mpr h1 q.1)]⟩
  · refine V.brF omX7_isOrder rfl rfl h1 ?_
    iterate 2 (refine V.s omX7_isOrder rfl rfl ?_)
    by_cases h2 : 30 < n
    · refine V.brT omX7_isOrder rfl rfl h2 (fun g => Int32.not_le.mpr g) ?_
      refine V.s omX7_isOrder rfl rfl ?_
      exact V.zret omX7_isOrder rfl rfl (by decide) ⟨rfl, by unfold orF; rw [if_neg (fun q => Int32.not_le.mpr h2 q.2)]⟩
    · refine V.brF omX7_isOrder rfl rfl h2 ?_
      iterate 2 (refine V.s omX7_isOrder rfl rfl ?_)
      exact V.zret omX7_isOrder rfl rfl (by decide) ⟨rfl, by unfold orF; rw [if_pos ⟨Int32.not_lt.mp h1, Int32.not_lt.mp h2⟩]⟩
def irF (f n : Int32) : Int32 := if orF n = 1 ∧ ofF f n = 1 then 1 else 0
theorem irF_01 (f n : Int32) : irF f n = 0 ∨ irF f n = 1 := by unfold irF; split <;> simp
set_option maxHeartbeats 4000000 in
set_option maxRecDepth 100000 in
theorem c7_isInRow (d : Nat) (f n : Int32) (h : hp_T) : C mX7_isInRow (d + 2) 0 0 [.int f, .int n] h (fun r h' => h' = h ∧ r = some (.int (irF f n))) := by
  refine C.of [some (.int f), some (.int n)] omX7_isInRow rfl rfl rfl ?_
  have bad : irF f n = 0 → V mX7_isInRow (d + 2) 0 0 (fun r h' => h' = h ∧ r = some (.int (irF f n))) 0 0 26 [some (.int f), some (.int n)] [] h := by
    intro e
    rw [e]
    refine V.s omX7_isInRow rfl rfl ?_
    exact V.zret omX7_isInRow rfl rfl (by decide) ⟨rfl, rfl⟩
  refine V.s omX7_isInRow rfl rfl ?_
  refine V.cSf omX7_isInRow omX7_isOrder rfl rfl (c7_isOrder _ _ _) rfl rfl rfl rfl ?_
  rcases orF_01 n with h1 | h1
  · rw [h1]
    refine V.brT omX7_isInRow rfl rfl rfl (by decide) ?_
    exact bad (by unfold irF; rw [if_neg (fun q => absurd (h1.symm.trans q.1) (by decide))])
  rw [h1]
  refine V.brF omX7_isInRow rfl rfl (by decide) ?_
  refine V.s omX7_isInRow rfl rfl ?_
  refine V.cSf omX7_isInRow omX1_isOne rfl rfl (c_isOne _ _ _) rfl rfl rfl rfl ?_
  rcases frF_01 f with h2 | h2
  · rw [h2]
    refine V.brT omX7_isInRow rfl rfl rfl (by decide) ?_
    exact bad (by
      have e : ofF f n = 0 := by unfold ofF; rw [if_neg (fun q => absurd (h2.symm.trans q.1) (by decide))]
      unfold irF
      rw [if_neg (fun q => absurd (e.symm.trans q.2) (by decide))])
  rw [h2]
  refine V.brF omX7_isInRow rfl rfl (by decide) ?_
  obtain ⟨F, rfl, hF, hF1, -⟩ := frF_ex h2
  refine V.s omX7_isInRow rfl rfl ?_
  refine V.cSf omX7_isInRow omX1_bottom rfl rfl (c_bottom _ (show F < 2 ^ 31 by omega) _) rfl rfl rfl rfl ?_
  refine V.s omX7_isInRow rfl rfl ?_
  by_cases h3 : nI (F % 100) ≤ n
  · have e : irF (nI F) n = 1 := by
      have e0 : ofF (nI F) n = 1 := by
        unfold ofF
        rw [nI_clamp (show F < 2 ^ 31 by omega), if_pos ⟨h2, h3⟩]
      unfold irF
      rw [if_pos ⟨h1, e0⟩]
    rw [e]
    refine V.brF omX7_isInRow rfl rfl (Int32.not_lt.mpr h3) ?_
    iterate 2 (refine V.s omX7_isInRow rfl rfl ?_)
    exact V.zret omX7_isInRow rfl rfl (by decide) ⟨rfl, rfl⟩
  · refine V.brT omX7_isInRow rfl rfl (Int32.not_le.mp h3) (fun g => Int32.not_le.mpr g) ?_
    exact bad (by
      have e : ofF (nI F) n = 0 := by unfold ofF; rw [nI_clamp (show F < 2 ^ 31 by omega), if_neg (fun q => h3 q.2)]
      unfold irF
      rw [if_neg (fun q => absurd (e.symm.trans q.2) (by decide))])
/-! the row of an order -/
def sN {α : Type} (x : Nat) (f : Nat → α) : α := match x with
  | 0 => f 0
  | k + 1 => f (k + 1)
theorem sN_eq {α : Type} (x : Nat) (f : Nat → α) : sN x f = f x := by cases x <;> rfl
def fl (n : Nat) : Nat → Nat → Nat → Nat → Nat → List Nat → Option (List Nat)
  | 0, _, _, _, _, _ => none
  | t + 1, a, b, c, d, l => if l.length < 279 ∧ 0 < d then (if a < 100 ∧ b < 100 ∧ d < 100 then (if a = b then some ((100 * a + b) :: l) else (if a ≤ (n + b) / d * c ∧ b ≤ (n + b) / d * d then sN ((n + b) / d * c - a) (fun c' => sN ((n + b) / d * d - b) (fun d' => fl n t c d c' d' ((100 * a + b) :: l))) else none)) else none) else some l
set_option maxRecDepth 100000 in
theorem fl_B : (List.range 31).all (fun n => Nat.beq n 0 || decide (fl n 300 0 1 1 n [] = some (rowD n))) = true := by decide +kernel
theorem fl_row {n : Nat} (h1 : 1 ≤ n) (hn : n ≤ 30) : fl n 300 0 1 1 n [] = some (rowD n) := by
  have h := List.all_eq_true.mp fl_B n (List.mem_range.mpr (by omega))
  rw [Bool.or_eq_true] at h
  rcases h with h | h
  · have := Nat.eq_of_beq_eq_true h
    omega
  · exact of_decide_eq_true h
abbrev hF (A : Nat → Nat → Int32) (B : Nat → Nat → Int64) (X T : Nat → Int32) : hp_T := hp (va_up (va_up A 26 T) 25 X) B
theorem zA26 {X T : Nat → Int32} : va_up (va_up A 26 T) 25 X 26 = T := rfl
theorem zA26u {X T T2 : Nat → Int32} : va_up (va_up (va_up A 26 T) 25 X) 26 T2 = va_up (va_up A 26 T2) 25 X := by rw [va_cm _ (show (25 : Nat) ≠ 26 by decide), bx_uu]
set_option maxHeartbeats 4000000 in
set_option maxRecDepth 100000 in
theorem fi_29 (d0 : Nat) {n : Nat} (hn : n ≤ 30) {L : List Nat} {Q : Option Value → hp_T → Prop} (kk : ∀ T' X', AD T' L → X' 1 = nI n → X' 2 = nI L.length → Q none (hF A B X' T')) : ∀ (t a b c d : Nat) (l : List Nat) (T X : Nat → Int32) (v6 v7 v8 : Option Value), AD T l → X 1 = nI n → X 2 = nI l.length → l.length ≤ 279 → fl n t a b c d l = some L → V mX0_fill (d0 + 1) 0 0 Q 0 0 29 [some (.ref 25), some (.int (nI n)), some (.int (nI a)), some (.int (nI b)), some (.int (nI c)), some (.int (nI d)), v6, v7, v8] [] (hF A B X T) := by
  intro t
  induction t with
  | zero => intro a b c d l T X v6 v7 v8 _ _ _ _ h; cases h
  | succ t ih =>
    intro a b c d l T X v6 v7 v8 hA h1 h2 hl h
    simp only [fl, sN_eq] at h
    refine V.s omX0_fill rfl rfl ?_
    refine V.gf omX0_fill rfl rfl rfl rfl ?_
    rw [va_up_self, h2]
    refine V.s omX0_fill rfl rfl ?_
    by_cases hc : l.length < 279 ∧ 0 < d
    · rw [if_pos hc] at h
      by_cases hb : a < 100 ∧ b < 100 ∧ d < 100
      · rw [if_pos hb] at h
        refine V.brF omX0_fill rfl rfl (nI_ge (b := 279) hc.1 (by decide)) ?_
        refine V.s omX0_fill rfl rfl ?_
        refine V.brF omX0_fill rfl rfl (nI_nle hc.2 (by omega)) ?_
        refine V.s omX0_fill rfl rfl ?_
        refine V.gf omX0_fill rfl rfl rfl rfl ?_
        refine V.s omX0_fill rfl rfl ?_
        refine V.gf omX0_fill rfl rfl rfl rfl ?_
        rw [va_up_self, h2]
        iterate 2 (refine V.s omX0_fill rfl rfl ?_)
        refine V.cSf omX0_fill omX1_told rfl rfl (c_told _ _ _ _) rfl rfl rfl rfl ?_
        refine V.iasH omX0_fill rfl rfl (ixN nv_nI hc.1 (by decide)) ?_
        rw [zA26, zA26u]
        iterate 2 (refine V.s omX0_fill rfl rfl ?_)
        refine V.gf omX0_fill rfl rfl rfl rfl ?_
        rw [va_up_self, h2]
        iterate 2 (refine V.s omX0_fill rfl rfl ?_)
        rw [nI_1]
        refine V.pfH omX0_fill rfl rfl rfl rfl rfl rfl rfl ?_
        rw [bx_uu, va_up_self]
        have hA2 : AD (upd T l.length (nI (100 * a + b))) ((100 * a + b) :: l) := ⟨by omega, pk_us, AD_ext hA (fun k hk => pk_un (by omega))⟩
        iterate 2 (refine V.s omX0_fill rfl rfl ?_)
        by_cases hab : a = b
        · rw [if_pos hab] at h
          cases h
          refine V.brF omX0_fill rfl rfl (fun g => g (by rw [hab])) ?_
          have k2 := kk (upd T l.length (nI (100 * a + b))) (upd X 2 (nI (l.length + 1))) hA2 h1 rfl
          exact V.vret omX0_fill rfl rfl k2
        · rw [if_neg hab] at h
          by_cases hs : a ≤ (n + b) / d * c ∧ b ≤ (n + b) / d * d
          · rw [if_pos hs] at h
            refine V.brT omX0_fill rfl rfl (fun g => hab ((nI_eq (by omega) (by omega)).mp g)) (fun g => g) ?_
            iterate 3 (refine V.s omX0_fill rfl rfl ?_)
            rw [nI_add]
            refine V.s omX0_fill rfl rfl ?_
            refine V.idiv omX0_fill rfl (nI_ne0 hc.2 (by omega)) ?_
            rw [pk_div (by omega) hc.2 (by omega)]
            iterate 4 (refine V.s omX0_fill rfl rfl ?_)
            rw [pk_mul]
            iterate 2 (refine V.s omX0_fill rfl rfl ?_)
            rw [pk_sub hs.1]
            iterate 4 (refine V.s omX0_fill rfl rfl ?_)
            rw [pk_mul]
            iterate 2 (refine V.s omX0_fill rfl rfl ?_)
            rw [pk_sub hs.2]
            iterate 10 (refine V.s omX0_fill rfl rfl ?_)
            have k2 := ih c d ((n + b) / d * c - a) ((n + b) / d * d - b) ((100 * a + b) :: l) (upd T l.length (nI (100 * a + b))) (upd X 2 (nI (l.length + 1))) (some (.int (nI ((n + b) / d)))) (some (.int (nI ((n + b) / d * c - a)))) (some (.int (nI ((n + b) / d * d - b)))) hA2 h1 rfl (by simp only [List.length_cons]; omega) h
            exact k2
          · rw [if_neg hs] at h
            cases h
      · rw [if_neg hb] at h
        cases h
    · rw [if_neg hc] at h
      have hLl := Option.some.inj h
      rw [← hLl] at kk
      by_cases h3 : l.length < 279
      · have : d = 0 := by omega
        subst this
        refine V.brF omX0_fill rfl rfl (nI_ge (b := 279) h3 (by decide)) ?_
        refine V.s omX0_fill rfl rfl ?_
        refine V.brT omX0_fill rfl rfl (show nI 0 ≤ 0 by decide) (fun g => Int32.not_lt.mpr g) ?_
        exact V.vret omX0_fill rfl rfl (kk T X hA h1 h2)
      · refine V.brT omX0_fill rfl rfl (nI_le (a := 279) (by omega) (by omega)) (fun g => Int32.not_lt.mpr g) ?_
        exact V.vret omX0_fill rfl rfl (kk T X hA h1 h2)
def FC (A : Nat → Nat → Int32) : Prop := A 25 1 = 0 ∨ ∃ o, 1 ≤ o ∧ o ≤ 30 ∧ A 25 1 = nI o ∧ AD (A 26) (rowD o) ∧ A 25 2 = nI (rowD o).length
def JF (A A' : Nat → Nat → Int32) : Prop := ∀ q k, ¬ (q = 25 ∨ q = 26) → A' q k = A q k
theorem JF_r (A : Nat → Nat → Int32) : JF A A := fun _ _ _ => rfl
theorem JF_F (A : Nat → Nat → Int32) (X T : Nat → Int32) : JF A (va_up (va_up A 26 T) 25 X) := by
  intro q k h
  unfold va_up
  rw [if_neg (fun e => h (Or.inl e)), if_neg (fun e => h (Or.inr e))]
def FO (A : Nat → Nat → Int32) (n : Nat) : Prop := A 25 1 = nI n ∧ AD (A 26) (rowD n) ∧ A 25 2 = nI (rowD n).length
set_option maxHeartbeats 4000000 in
set_option maxRecDepth 100000 in
theorem c_fill (d : Nat) {n : Nat} (h1 : 1 ≤ n) (hn : n ≤ 30) (hc : FC A) : C mX0_fill (d + 1) 0 0 [.ref 25, .int (nI n)] (hp A B) (fun r h' => (∃ A', h' = hp A' B ∧ JF A A' ∧ FO A' n) ∧ r = none) := by
  refine C.of [some (.ref 25), some (.int (nI n)), none, none, none, none, none, none, none] omX0_fill rfl rfl rfl ?_
  iterate 2 (refine V.s omX0_fill rfl rfl ?_)
  refine V.gf omX0_fill rfl rfl rfl rfl ?_
  by_cases he : nI n = A 25 1
  · refine V.brF omX0_fill rfl rfl (fun g => g he) ?_
    refine V.vret omX0_fill rfl rfl ⟨⟨A, rfl, JF_r A, ?_⟩, rfl⟩
    rcases hc with hc | ⟨o, ho1, ho2, ho3, ho4, ho5⟩
    · rw [hc] at he
      exact absurd he (nI_ne0 (by omega) (by omega))
    · rw [ho3, nI_eq (by omega) (by omega)] at he
      subst he
      exact ⟨ho3, ho4, ho5⟩
  · refine V.brT omX0_fill rfl rfl he (fun g => g) ?_
    iterate 2 (refine V.s omX0_fill rfl rfl ?_)
    refine V.pfH omX0_fill rfl rfl rfl rfl rfl rfl rfl ?_
    iterate 2 (refine V.s omX0_fill rfl rfl ?_)
    refine V.pfH omX0_fill rfl rfl rfl rfl rfl rfl rfl ?_
    rw [bx_uu, va_up_self]
    iterate 8 (refine V.s omX0_fill rfl rfl ?_)
    have key := fi_29 (A := A) (B := B) (Q := fun r h' => (∃ A', h' = hp A' B ∧ JF A A' ∧ FO A' n) ∧ r = none) d hn (L := rowD n) (fun T' X' g1 g2 g3 => ⟨⟨va_up (va_up A 26 T') 25 X', rfl, JF_F A X' T', g2, g1, g3⟩, rfl⟩) 300 0 1 1 n [] (A 26) (upd (upd (A 25) 1 (nI n)) 2 0) none none none trivial rfl rfl (by decide) (fl_row h1 hn)
    unfold hF at key
    rw [va_self A 26] at key
    exact key
end FRC
