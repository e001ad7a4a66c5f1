section MD4
variable {A : Nat → Nat → Int32} {B : Nat → Nat → Int64}
theorem w_le {a b : Int32} : a.toInt64 ≤ b.toInt64 ↔ a ≤ b := by
  rw [Int64.le_iff_toInt_le, Int32.le_iff_toInt_le, Int32.toInt_toInt64, Int32.toInt_toInt64]
theorem c8_isKiss (d : Nat) (r : Int32) : C mX8_isKiss d 0 0 [.ref 33, .int r] (hp A B) (fun r' h' => h' = hp A B ∧ r' = some (.int (if 0 ≤ r ∧ r < A 33 6 then 1 else 0))) := by
  refine C.of [some (.ref 33), some (.int r)] omX8_isKiss rfl rfl rfl ?_
  repeat' (first | refine V.s omX8_isKiss rfl rfl ?_ | refine V.gf omX8_isKiss rfl rfl rfl rfl ?_ | refine V.br omX8_isKiss rfl rfl (fun hc => ?_) (fun hc => ?_))
  all_goals refine V.zret omX8_isKiss rfl rfl (by decide) ⟨rfl, ?_⟩
  all_goals simp only [← Int32.not_lt] at *
  all_goals simp [*]
theorem c8_ikY (d : Nat) {r : Int32} (h : 0 ≤ r ∧ r < A 33 6) : C mX8_isKiss d 0 0 [.ref 33, .int r] (hp A B) (fun r' h' => h' = hp A B ∧ r' = some (.int 1)) := by
  have h1 := c8_isKiss (A := A) (B := B) d r
  rwa [if_pos h] at h1
theorem c8_ikN (d : Nat) {r : Int32} (h : ¬ (0 ≤ r ∧ r < A 33 6)) : C mX8_isKiss d 0 0 [.ref 33, .int r] (hp A B) (fun r' h' => h' = hp A B ∧ r' = some (.int 0)) := by
  have h1 := c8_isKiss (A := A) (B := B) d r
  rwa [if_neg h] at h1
theorem c8_isPlace (d : Nat) (p : Int32) (h : hp_T) : C mX8_isPlace d 0 0 [.int p] h (fun r' h' => h' = h ∧ r' = some (.int (if 0 ≤ p ∧ p < 4 then 1 else 0))) := by
  refine C.of [some (.int p)] omX8_isPlace rfl rfl rfl ?_
  repeat' (first | refine V.s omX8_isPlace rfl rfl ?_ | refine V.gf omX8_isPlace rfl rfl rfl rfl ?_ | refine V.br omX8_isPlace rfl rfl (fun hc => ?_) (fun hc => ?_))
  all_goals refine V.zret omX8_isPlace rfl rfl (by decide) ⟨rfl, ?_⟩
  all_goals simp only [← Int32.not_lt] at *
  all_goals simp [*]
theorem c8_ipY (d : Nat) {p : Int32} (g : 0 ≤ p ∧ p < 4) (h : hp_T) : C mX8_isPlace d 0 0 [.int p] h (fun r' h' => h' = h ∧ r' = some (.int 1)) := by
  have h1 := c8_isPlace d p h
  rwa [if_pos g] at h1
theorem c8_ipN (d : Nat) {p : Int32} (g : ¬ (0 ≤ p ∧ p < 4)) (h : hp_T) : C mX8_isPlace d 0 0 [.int p] h (fun r' h' => h' = h ∧ r' = some (.int 0)) := by
  have h1 := c8_isPlace d p h
  rwa [if_neg g] at h1
/-- kiss k of the reference, by its own sixteen numbers -/
def kz (f : Nat → Int32) (k : Nat) : Nat → Int32 := fun i => f (16 * k + i)
def bs8 (f : Nat → Int32) : Int64 := 0 + (f 0).toInt64 + (f 4).toInt64 + (f 8).toInt64 + (f 12).toInt64
set_option maxHeartbeats 4000000 in
set_option maxRecDepth 100000 in
theorem c8_heightOf (d : Nat) {k : Nat} (hk : k < 6) {a : Int32} (ha : NV a k) : C mX8_heightOf d 0 0 [.ref 33, .int a] (hp A B) (fun r h' => h' = hp A B ∧ r = some (.long (bs8 (kz (A 38) k)))) := by
  unfold NV at ha
  subst ha
  refine C.of [some (.ref 33), some (.int (nI k)), none, none, none] omX8_heightOf rfl rfl rfl ?_
  repeat (first | refine V.s omX8_heightOf rfl rfl ?_ | refine V.gf omX8_heightOf rfl rfl rfl rfl ?_ | simp only [Int32.reduceAdd, Int32.reduceMul, Int32.reduceSub] | refine V.brF omX8_heightOf rfl rfl (by decide) ?_ | refine V.brT omX8_heightOf rfl rfl (by decide) (by decide) ?_ | refine V.ial omX8_heightOf rfl rfl (ixN (nv_add (nv_mul nv_lit nv_nI) nv_lit) (by omega) (by decide)) ?_)
  exact V.lret omX8_heightOf rfl rfl ⟨rfl, rfl⟩
def sw8 (f : Nat → Int32) (p c : Nat) : Int64 := 2 * (0 + (f (0 + c)).toInt64 + (f (4 + c)).toInt64 + (f (8 + c)).toInt64 + (f (12 + c)).toInt64 - (f (4 * p + c)).toInt64) - (f (4 * p + c)).toInt64
set_option maxHeartbeats 4000000 in
set_option maxRecDepth 100000 in
theorem c8_swapped (d : Nat) {k p c : Nat} (hk : k < 6) (h4 : p < 4) (h5 : c < 4) {a b e : Int32} (ha : NV a k) (hb : NV b p) (he : NV e c) : C mX8_swapped d 0 0 [.ref 33, .int a, .int b, .int e] (hp A B) (fun r h' => h' = hp A B ∧ r = some (.long (sw8 (kz (A 38) k) p c))) := by
  unfold NV at ha hb he
  subst ha hb he
  refine C.of [some (.ref 33), some (.int (nI k)), some (.int (nI p)), some (.int (nI c)), none, none, none, none] omX8_swapped rfl rfl rfl ?_
  repeat (first | refine V.s omX8_swapped rfl rfl ?_ | refine V.gf omX8_swapped rfl rfl rfl rfl ?_ | simp only [Int32.reduceAdd, Int32.reduceMul, Int32.reduceSub] | refine V.brF omX8_swapped rfl rfl (by decide) ?_ | refine V.brT omX8_swapped rfl rfl (by decide) (by decide) ?_ | refine V.ial omX8_swapped rfl rfl (ixN (nv_add (nv_add (nv_mul nv_lit nv_nI) nv_lit) nv_nI) (by omega) (by decide)) ?_ | refine V.ial omX8_swapped rfl rfl (ixN (nv_add (nv_add (nv_mul nv_lit nv_nI) (nv_mul nv_lit nv_nI)) nv_nI) (by omega) (by decide)) ?_)
  refine V.lret omX8_swapped rfl rfl ⟨rfl, ?_⟩
  simp only [sw8, kz, Nat.add_assoc]
end MD4
