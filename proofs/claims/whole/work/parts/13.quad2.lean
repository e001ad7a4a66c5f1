section QUAD2
variable {A : Nat → Nat → Int32} {B : Nat → Nat → Int64} {k : Nat}
def negB (f : Nat → Int32) : Int32 := if f 0 < 0 ∨ f 4 < 0 ∨ f 8 < 0 ∨ f 12 < 0 then 1 else 0
theorem c_hasNeg (d : Nat) (hk : k < 8) : C mX4_hasBendBelowZero (d + 1) 0 0 [.ref (7 + 2 * k)] (hp A B) (fun r h' => h' = hp A B ∧ r = some (.int (negB (A (8 + 2 * k))))) := by
  refine C.of [some (.ref (7 + 2 * k)), none] omX4_hasBendBelowZero rfl rfl rfl ?_
  repeat' (first | refine V.s omX4_hasBendBelowZero rfl rfl ?_ | simp only [Int32.reduceAdd, Int32.reduceMul, Int32.reduceSub] | refine V.brF omX4_hasBendBelowZero rfl rfl (by decide) ?_ | refine V.brT omX4_hasBendBelowZero rfl rfl (by decide) (by decide) ?_ | refine V.cVf omX4_hasBendBelowZero omX4_bend rfl rfl (c_bend _ hk nv_lit (by decide)) rfl rfl (hpQ hk) rfl rfl rfl ?_ | refine V.br omX4_hasBendBelowZero rfl rfl (fun hc => ?_) (fun hc => ?_))
  all_goals refine V.zret omX4_hasBendBelowZero rfl rfl (by decide) ⟨rfl, ?_⟩
  all_goals simp only [← Int32.not_lt, Nat.reduceMul, Nat.mul_zero, Nat.mul_one] at *
  all_goals simp [negB, *]
def hoF (f : Nat → Int32) (b : Int32) : Int32 := (if f 0 = b then 1 else 0) + (if f 4 = b then 1 else 0) + (if f 8 = b then 1 else 0) + (if f 12 = b then 1 else 0)
theorem c_howOften (d : Nat) (hk : k < 8) (b : Int32) : C mX4_howOften (d + 1) 0 0 [.ref (7 + 2 * k), .int b] (hp A B) (fun r h' => h' = hp A B ∧ r = some (.int (hoF (A (8 + 2 * k)) b))) := by
  refine C.of [some (.ref (7 + 2 * k)), some (.int b), none, none] omX4_howOften rfl rfl rfl ?_
  repeat' (first | refine V.s omX4_howOften rfl rfl ?_ | simp only [Int32.reduceAdd, Int32.reduceMul, Int32.reduceSub] | refine V.brF omX4_howOften rfl rfl (by decide) ?_ | refine V.brT omX4_howOften rfl rfl (by decide) (by decide) ?_ | refine V.cVf omX4_howOften omX4_bend rfl rfl (c_bend _ hk nv_lit (by decide)) rfl rfl (hpQ hk) rfl rfl rfl ?_ | refine V.br omX4_howOften rfl rfl (fun hc => ?_) (fun hc => ?_))
  all_goals refine V.iret omX4_howOften rfl rfl ⟨rfl, ?_⟩
  all_goals simp only [Nat.reduceMul, Nat.mul_zero, Nat.mul_one] at *
  all_goals simp [hoF, *]
def hbF (f g : Nat → Int32) : Int32 := if hoF f (f 0) = hoF g (f 0) ∧ hoF f (f 4) = hoF g (f 4) ∧ hoF f (f 8) = hoF g (f 8) ∧ hoF f (f 12) = hoF g (f 12) then 1 else 0
theorem c_hasBendsOf (d : Nat) (hk : k < 8) {j : Nat} (hj : j < 8) : C mX4_hasBendsOf (d + 2) 0 0 [.ref (7 + 2 * k), .ref (7 + 2 * j)] (hp A B) (fun r h' => h' = hp A B ∧ r = some (.int (hbF (A (8 + 2 * k)) (A (8 + 2 * j))))) := by
  refine C.of [some (.ref (7 + 2 * k)), some (.ref (7 + 2 * j)), none] omX4_hasBendsOf rfl rfl rfl ?_
  repeat' (first | refine V.s omX4_hasBendsOf rfl rfl ?_ | simp only [Int32.reduceAdd, Int32.reduceMul, Int32.reduceSub] | refine V.brF omX4_hasBendsOf rfl rfl (by decide) ?_ | refine V.brT omX4_hasBendsOf rfl rfl (by decide) (by decide) ?_ | refine V.cVf omX4_hasBendsOf omX4_bend rfl rfl (c_bend _ hk nv_lit (by decide)) rfl rfl (hpQ hk) rfl rfl rfl ?_ | refine V.cVf omX4_hasBendsOf omX4_howOften rfl rfl (c_howOften _ hk _) rfl rfl (hpQ hk) rfl rfl rfl ?_ | refine V.cVf omX4_hasBendsOf omX4_howOften rfl rfl (c_howOften _ hj _) rfl rfl (hpQ hj) rfl rfl rfl ?_ | refine V.br omX4_hasBendsOf rfl rfl (fun hc => ?_) (fun hc => ?_))
  all_goals refine V.zret omX4_hasBendsOf rfl rfl (by decide) ⟨rfl, ?_⟩
  all_goals simp only [Nat.reduceMul, Nat.mul_zero, Nat.mul_one] at *
  all_goals simp [hbF, *]
abbrev law4 (f : Nat → Int32) (p : Nat) : Prop := lawP (f (4 * p)) (f (4 * p + 1)) (f (4 * p + 2)) (f (4 * p + 3))
def lawsF (f : Nat → Int32) : Int32 := if law4 f 0 ∧ law4 f 1 ∧ law4 f 2 ∧ law4 f 3 then 1 else 0
theorem klF_eq0 {a b x y : Int32} : klF a b x y = 0 ↔ ¬ lawP a b x y := by
  by_cases h : lawP a b x y
  · unfold klF; rw [if_pos h]; exact ⟨fun q => absurd q (by decide), fun q => absurd h q⟩
  · unfold klF; rw [if_neg h]; exact ⟨fun _ => h, fun _ => rfl⟩
theorem klF_ne {a b x y : Int32} : ¬ klF a b x y = 0 ↔ lawP a b x y := by
  rw [klF_eq0, Classical.not_not]
theorem c_keepsLaws (d : Nat) (hk : k < 8) : C mX4_keepsLaws (d + 2) 0 0 [.ref (7 + 2 * k)] (hp A B) (fun r h' => h' = hp A B ∧ r = some (.int (lawsF (A (8 + 2 * k))))) := by
  refine C.of [some (.ref (7 + 2 * k)), none] omX4_keepsLaws rfl rfl rfl ?_
  repeat' (first | refine V.s omX4_keepsLaws rfl rfl ?_ | simp only [Int32.reduceAdd, Int32.reduceMul, Int32.reduceSub] | refine V.brF omX4_keepsLaws rfl rfl (by decide) ?_ | refine V.brT omX4_keepsLaws rfl rfl (by decide) (by decide) ?_ | refine V.cVf omX4_keepsLaws omX4_number rfl rfl (c_number _ hk nv_lit nv_lit (by decide) (by decide)) rfl rfl (hpQ hk) rfl rfl rfl ?_ | refine V.cSf omX4_keepsLaws omX2_keepLaw rfl rfl (c_keepLaw _ _ _ _ _ _) rfl rfl rfl rfl ?_ | refine V.br omX4_keepsLaws rfl rfl (fun hc => ?_) (fun hc => ?_))
  all_goals refine V.zret omX4_keepsLaws rfl rfl (by decide) ⟨rfl, ?_⟩
  all_goals simp only [klF_ne, klF_eq0] at *
  all_goals simp [lawsF, law4, *]
def tchF (f : Nat → Int32) : Int32 := if prd f f 4 0 = -2 ∧ prd f f 8 0 = -2 ∧ prd f f 8 4 = -2 ∧ prd f f 12 0 = -2 ∧ prd f f 12 4 = -2 ∧ prd f f 12 8 = -2 then 1 else 0
end QUAD2
