section MD5
variable {A : Nat → Nat → Int32} {B : Nat → Nat → Int64}
def s8_part (A : Nat → Nat → Int32) (m : Nat) : Int32 × (Nat → Nat → Int32) := if m = 0 then (-2, rmA A 2) else (nI (m - 1), va_up A 33 (upd (A 33) 6 (nI (m - 1))))
theorem c8_part (d : Nat) {m : Nat} (hm : A 33 6 = nI m) (h6 : m ≤ 6) : C mX8_part (d + 1) 0 0 [.ref 33] (hp A B) (fun r h' => h' = hp (s8_part A m).2 B ∧ r = some (.int (s8_part A m).1)) := by
  refine C.of [some (.ref 33)] omX8_part rfl rfl rfl ?_
  repeat (first | refine V.s omX8_part rfl rfl ?_ | refine V.gf omX8_part rfl rfl rfl rfl ?_)
  rw [hm]
  cases m with
  | zero =>
    refine V.brF omX8_part rfl rfl (by decide) ?_
    repeat (first | refine V.s omX8_part rfl rfl ?_ | refine V.gf omX8_part rfl rfl rfl rfl ?_ | refine V.cVf omX8_part omX8_no rfl rfl (c8_no _ _ (by decide)) rfl rfl rfl rfl rfl rfl ?_)
    exact V.iret omX8_part rfl rfl ⟨rfl, rfl⟩
  | succ m =>
    refine V.brT omX8_part rfl rfl (nI_ne0 (by omega) (by omega)) (fun h => h) ?_
    repeat (first | refine V.s omX8_part rfl rfl ?_ | refine V.gf omX8_part rfl rfl rfl rfl ?_)
    rw [hm, nI_pred]
    repeat (first | refine V.s omX8_part rfl rfl ?_ | refine V.gf omX8_part rfl rfl rfl rfl ?_ | refine V.pfH omX8_part rfl rfl rfl rfl rfl rfl rfl ?_)
    simp only [va_up_self, pk_us]
    exact V.iret omX8_part rfl rfl ⟨rfl, rfl⟩
def s8_height (A : Nat → Nat → Int32) (m : Nat) (r : Int32) : Int64 × (Nat → Nat → Int32) := if 0 ≤ r ∧ r < nI m then (bs8 (kz (A 38) (cl r)), A) else (0, rmA A 3)
set_option maxHeartbeats 4000000 in
set_option maxRecDepth 100000 in
theorem c8_height (d : Nat) {m : Nat} (hm : A 33 6 = nI m) (h6 : m ≤ 6) (r : Int32) : C mX8_height (d + 2) 0 0 [.ref 33, .int r] (hp A B) (fun r' h' => h' = hp (s8_height A m r).2 B ∧ r' = some (.long (s8_height A m r).1)) := by
  refine C.of [some (.ref 33), some (.int r)] omX8_height rfl rfl rfl ?_
  by_cases h1 : 0 ≤ r ∧ r < A 33 6
  · repeat (first | refine V.s omX8_height rfl rfl ?_ | refine V.gf omX8_height rfl rfl rfl rfl ?_ | refine V.brF omX8_height rfl rfl (by decide) ?_ | refine V.brT omX8_height rfl rfl (by decide) (by decide) ?_ | refine V.cVf omX8_height omX8_isKiss rfl rfl (c8_ikY _ h1) rfl rfl rfl rfl rfl rfl ?_)
    rw [hm] at h1
    simp only [s8_height, if_pos h1]
    obtain ⟨i, hi, rfl⟩ := rng (by omega) h1
    simp only [cl_nI (show i < 20 by omega)]
    refine V.cVf omX8_height omX8_heightOf rfl rfl (c8_heightOf _ (show i < 6 by omega) nv_nI) rfl rfl rfl rfl rfl rfl ?_
    refine V.s omX8_height rfl rfl ?_
    exact V.lret omX8_height rfl rfl ⟨rfl, rfl⟩
  · repeat (first | refine V.s omX8_height rfl rfl ?_ | refine V.gf omX8_height rfl rfl rfl rfl ?_ | refine V.brF omX8_height rfl rfl (by decide) ?_ | refine V.brT omX8_height rfl rfl (by decide) (by decide) ?_ | refine V.cVf omX8_height omX8_isKiss rfl rfl (c8_ikN _ h1) rfl rfl rfl rfl rfl rfl ?_ | refine V.cVf omX8_height omX8_none rfl rfl (c8_none _ _ (by decide)) rfl rfl rfl rfl rfl rfl ?_)
    rw [hm] at h1
    exact V.lret omX8_height rfl rfl (by simp only [s8_height, if_neg h1] <;> (refine ⟨?_, ?_⟩ <;> first | rfl | trivial))
def s8_fourth (A : Nat → Nat → Int32) (m : Nat) (r p : Int32) : Int64 × (Nat → Nat → Int32) := if (0 ≤ r ∧ r < nI m) ∧ 0 ≤ p ∧ p < 4 then (sw8 (kz (A 38) (cl r)) (cl p) 0, A) else (0, rmA A 3)
set_option maxHeartbeats 4000000 in
set_option maxRecDepth 100000 in
theorem c8_fourth (d : Nat) {m : Nat} (hm : A 33 6 = nI m) (h6 : m ≤ 6) (r p : Int32) : C mX8_fourth (d + 2) 0 0 [.ref 33, .int r, .int p] (hp A B) (fun r' h' => h' = hp (s8_fourth A m r p).2 B ∧ r' = some (.long (s8_fourth A m r p).1)) := by
  refine C.of [some (.ref 33), some (.int r), some (.int p)] omX8_fourth rfl rfl rfl ?_
  by_cases h1 : 0 ≤ r ∧ r < A 33 6
  · by_cases h2 : 0 ≤ p ∧ p < 4
    · repeat (first | refine V.s omX8_fourth rfl rfl ?_ | refine V.gf omX8_fourth rfl rfl rfl rfl ?_ | refine V.brF omX8_fourth rfl rfl (by decide) ?_ | refine V.brT omX8_fourth rfl rfl (by decide) (by decide) ?_ | refine V.cVf omX8_fourth omX8_isKiss rfl rfl (c8_ikY _ h1) rfl rfl rfl rfl rfl rfl ?_ | refine V.cSf omX8_fourth omX8_isPlace rfl rfl (c8_ipY _ h2 _) rfl rfl rfl rfl ?_)
      rw [hm] at h1
      have hh : (0 ≤ r ∧ r < nI m) ∧ 0 ≤ p ∧ p < 4 := ⟨h1, h2⟩
      simp only [s8_fourth, if_pos hh]
      obtain ⟨i, hi, rfl⟩ := rng (by omega) h1
      obtain ⟨j, hj, rfl⟩ := rng (n := 4) (by decide) h2
      simp only [cl_nI (show i < 20 by omega), cl_nI (show j < 20 by omega)]
      refine V.cVf omX8_fourth omX8_swapped rfl rfl (c8_swapped _ (show i < 6 by omega) hj (show 0 < 4 by decide) nv_nI nv_nI nv_lit) rfl rfl rfl rfl rfl rfl ?_
      refine V.s omX8_fourth rfl rfl ?_
      exact V.lret omX8_fourth rfl rfl ⟨rfl, rfl⟩
    · repeat (first | refine V.s omX8_fourth rfl rfl ?_ | refine V.gf omX8_fourth rfl rfl rfl rfl ?_ | refine V.brF omX8_fourth rfl rfl (by decide) ?_ | refine V.brT omX8_fourth rfl rfl (by decide) (by decide) ?_ | refine V.cVf omX8_fourth omX8_isKiss rfl rfl (c8_ikY _ h1) rfl rfl rfl rfl rfl rfl ?_ | refine V.cSf omX8_fourth omX8_isPlace rfl rfl (c8_ipN _ h2 _) rfl rfl rfl rfl ?_ | refine V.cVf omX8_fourth omX8_none rfl rfl (c8_none _ _ (by decide)) rfl rfl rfl rfl rfl rfl ?_)
      exact V.lret omX8_fourth rfl rfl (by simp only [s8_fourth, if_neg (show ¬ ((0 ≤ r ∧ r < nI m) ∧ 0 ≤ p ∧ p < 4) from fun h => h2 h.2)] <;> (refine ⟨?_, ?_⟩ <;> first | rfl | trivial))
  · repeat (first | refine V.s omX8_fourth rfl rfl ?_ | refine V.gf omX8_fourth rfl rfl rfl rfl ?_ | refine V.brF omX8_fourth rfl rfl (by decide) ?_ | refine V.brT omX8_fourth rfl rfl (by decide) (by decide) ?_ | refine V.cVf omX8_fourth omX8_isKiss rfl rfl (c8_ikN _ h1) rfl rfl rfl rfl rfl rfl ?_ | refine V.cVf omX8_fourth omX8_none rfl rfl (c8_none _ _ (by decide)) rfl rfl rfl rfl rfl rfl ?_)
    rw [hm] at h1
    exact V.lret omX8_fourth rfl rfl (by simp only [s8_fourth, if_neg (show ¬ ((0 ≤ r ∧ r < nI m) ∧ 0 ≤ p ∧ p < 4) from fun h => h1 h.1)] <;> (refine ⟨?_, ?_⟩ <;> first | rfl | trivial))
theorem c8_led (d : Nat) : C mX8_led d 0 0 [.ref 33] (hp A B) (fun r h' => h' = hp A B ∧ r = some (.int (A 33 7))) := by
  refine C.of [some (.ref 33)] omX8_led rfl rfl rfl ?_
  repeat (first | refine V.s omX8_led rfl rfl ?_ | refine V.gf omX8_led rfl rfl rfl rfl ?_)
  exact V.iret omX8_led rfl rfl ⟨rfl, rfl⟩
def s8_tear (A : Nat → Nat → Int32) : Int32 × (Nat → Nat → Int32) := (A 33 28, va_up A 33 (upd (A 33) 28 0))
theorem c8_tear (d : Nat) (hz : A 33 28 = 0 ∨ A 33 28 = 1) : C mX8_tear d 0 0 [.ref 33] (hp A B) (fun r h' => h' = hp (s8_tear A).2 B ∧ r = some (.int (s8_tear A).1)) := by
  refine C.of [some (.ref 33), none] omX8_tear rfl rfl rfl ?_
  repeat (first | refine V.s omX8_tear rfl rfl ?_ | refine V.gf omX8_tear rfl rfl rfl rfl ?_)
  unfold s8_tear
  rcases hz with hz | hz
  · rw [hz]
    refine V.brT omX8_tear rfl rfl rfl (by decide) ?_
    repeat (first | refine V.s omX8_tear rfl rfl ?_ | refine V.gf omX8_tear rfl rfl rfl rfl ?_ | refine V.pfH omX8_tear rfl rfl rfl rfl rfl rfl rfl ?_)
    exact V.iret omX8_tear rfl rfl ⟨rfl, rfl⟩
  · rw [hz]
    refine V.brF omX8_tear rfl rfl (by decide) ?_
    repeat (first | refine V.s omX8_tear rfl rfl ?_ | refine V.gf omX8_tear rfl rfl rfl rfl ?_ | refine V.pfH omX8_tear rfl rfl rfl rfl rfl rfl rfl ?_)
    exact V.iret omX8_tear rfl rfl ⟨rfl, rfl⟩
end MD5
