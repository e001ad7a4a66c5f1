section TOUCH
variable {A : Nat → Nat → Int32} {B : Nat → Nat → Int64} {k : Nat}
theorem c_prodN (d : Nat) {q len i j : Nat} {f : Nat → Int32} {h : hp_T} (hq : h[q]? = some (.inl (len, .inl f))) {a b : Int32} (ha : NV a i) (hb : NV b j) (hi : i + 3 < len) (hj : j + 3 < len) (hl : len < 2 ^ 31) : C mX2_productAt d 0 0 [.ref q, .int a, .int b] h (fun r h' => h' = h ∧ r = some (.long (prd f f i j))) := by
  unfold NV at ha hb
  subst ha hb
  exact c_productAt d hq hi hj hl
set_option maxHeartbeats 4000000 in
set_option maxRecDepth 100000 in
theorem c_allTouch (d : Nat) (hk : k < 8) : C mX4_allTouch (d + 1) 0 0 [.ref (7 + 2 * k)] (hp A B) (fun r h' => h' = hp A B ∧ r = some (.int (tchF (A (8 + 2 * k))))) := by
  refine C.of [some (.ref (7 + 2 * k)), none, none] omX4_allTouch rfl rfl rfl ?_
  repeat' (first | refine V.s omX4_allTouch rfl rfl ?_ | simp only [Int32.reduceAdd, Int32.reduceMul, Int32.reduceSub] | refine V.brF omX4_allTouch rfl rfl (by decide) ?_ | refine V.brT omX4_allTouch rfl rfl (by decide) (by decide) ?_ | refine V.gf omX4_allTouch rfl (hpQ hk) rfl rfl ?_ | refine V.cSf omX4_allTouch omX2_productAt rfl rfl (c_prodN _ (hpR hk) nv_lit nv_lit (by decide) (by decide) (by decide)) rfl rfl rfl rfl ?_ | refine V.br omX4_allTouch rfl rfl (fun hc => ?_) (fun hc => ?_))
  all_goals refine V.zret omX4_allTouch rfl rfl (by decide) ⟨rfl, ?_⟩
  all_goals simp only [lgc_eq] at *
  all_goals simp [tchF, *]
end TOUCH
