section MD6
variable {A : Nat → Nat → Int32} {B : Nat → Nat → Int64}
def s8U (F : Nat → Int32) (k p c : Nat) : Nat → Int32 := upd F (16 * k + 4 * p + c) (sw8 (kz F k) p c).toInt32
def s8S (F : Nat → Int32) (k p : Nat) : Nat → Int32 := s8U (s8U (s8U (s8U F k p 0) k p 1) k p 2) k p 3
abbrev fit8 (f : Nat → Int32) (p : Nat) : Prop := fitF (sw8 f p 0) = 1 ∧ fitF (sw8 f p 1) = 1 ∧ fitF (sw8 f p 2) = 1 ∧ fitF (sw8 f p 3) = 1
set_option maxHeartbeats 4000000 in
set_option maxRecDepth 100000 in
theorem swaps_st (d : Nat) {k p c : Nat} (hk : k < 6) (h4 : p < 4) (hc : c < 4) (F : Nat → Int32) {Q : Option Value → hp_T → Prop} (kk : V mX8_swaps (d + 1) 0 0 Q 0 0 36 [some (.ref 33), some (.int (nI k)), some (.int (nI p)), some (.int (nI (c + 1)))] [] (hp (va_up A 38 (s8U F k p c)) B)) : V mX8_swaps (d + 1) 0 0 Q 0 0 36 [some (.ref 33), some (.int (nI k)), some (.int (nI p)), some (.int (nI c))] [] (hp (va_up A 38 F) B) := by
  refine V.s omX8_swaps rfl rfl ?_
  refine V.s omX8_swaps rfl rfl ?_
  refine V.brF omX8_swaps rfl rfl (by rw [nIl_le 4 (by omega) (by decide)]; omega) ?_
  repeat (first | refine V.s omX8_swaps rfl rfl ?_ | refine V.gf omX8_swaps rfl rfl rfl rfl ?_)
  have cs := c8_swapped (A := va_up A 38 F) (B := B) d hk h4 hc (nv_nI (a := k)) (nv_nI (a := p)) (nv_nI (a := c))
  rw [va_up_self] at cs
  refine V.cVf omX8_swaps omX8_swapped rfl rfl cs rfl rfl rfl rfl rfl rfl ?_
  refine V.s omX8_swaps rfl rfl ?_
  refine V.iasH omX8_swaps rfl rfl (ixN (nv_add (nv_add (nv_mul nv_lit nv_nI) (nv_mul nv_lit nv_nI)) nv_nI) (by omega) (by decide)) ?_
  refine V.s omX8_swaps rfl rfl ?_
  refine V.s omX8_swaps rfl rfl ?_
  rw [nI_1, va_up_self, bx_uu]
  exact kk
set_option maxHeartbeats 4000000 in
set_option maxRecDepth 100000 in
theorem swaps_ck (d : Nat) {k p c : Nat} (hk : k < 6) (h4 : p < 4) (hc : c < 4) {Q : Option Value → hp_T → Prop} (kk : fitF (sw8 (kz (A 38) k) p c) = 1 → V mX8_swaps (d + 1) 0 0 Q 0 0 2 [some (.ref 33), some (.int (nI k)), some (.int (nI p)), some (.int (nI (c + 1)))] [] (hp A B)) (kf : fitF (sw8 (kz (A 38) k) p c) = 0 → Q (some (.int 0)) (hp A B)) : V mX8_swaps (d + 1) 0 0 Q 0 0 2 [some (.ref 33), some (.int (nI k)), some (.int (nI p)), some (.int (nI c))] [] (hp A B) := by
  have cf : ∀ v, C mX8_isIn d 0 0 [.long v, .long (-1000000000), .long 1000000000] (hp A B) (fun r h' => h' = hp A B ∧ r = some (.int (fitF v))) := fun v => c8_isIn _ v _ _ _
  refine V.s omX8_swaps rfl rfl ?_
  refine V.s omX8_swaps rfl rfl ?_
  refine V.brF omX8_swaps rfl rfl (by rw [nIl_le 4 (by omega) (by decide)]; omega) ?_
  repeat (first | refine V.s omX8_swaps rfl rfl ?_ | refine V.gf omX8_swaps rfl rfl rfl rfl ?_)
  refine V.cVf omX8_swaps omX8_swapped rfl rfl (c8_swapped d hk h4 hc (nv_nI (a := k)) (nv_nI (a := p)) (nv_nI (a := c))) rfl rfl rfl rfl rfl rfl ?_
  refine V.s omX8_swaps rfl rfl ?_
  refine V.s omX8_swaps rfl rfl ?_
  refine V.cSf omX8_swaps omX8_isIn rfl rfl (cf _) rfl rfl rfl rfl ?_
  refine V.br omX8_swaps rfl rfl (fun hg => ?_) (fun hg => ?_)
  · refine V.s omX8_swaps rfl rfl ?_
    refine V.s omX8_swaps rfl rfl ?_
    rw [nI_1]
    exact kk (fitF_ne.mp hg)
  · refine V.s omX8_swaps rfl rfl ?_
    exact V.zret omX8_swaps rfl rfl (by decide) (kf hg)
set_option maxHeartbeats 4000000 in
set_option maxRecDepth 100000 in
theorem c8_swaps (d : Nat) {k p : Nat} (hk : k < 6) (h4 : p < 4) {a b : Int32} (ha : NV a k) (hb : NV b p) : C mX8_swaps (d + 1) 0 0 [.ref 33, .int a, .int b] (hp A B) (fun r h' => h' = hp (if fit8 (kz (A 38) k) p then va_up A 38 (s8S (A 38) k p) else A) B ∧ r = some (.int (if fit8 (kz (A 38) k) p then 1 else 0))) := by
  unfold NV at ha hb
  subst ha hb
  refine C.of [some (.ref 33), some (.int (nI k)), some (.int (nI p)), none] omX8_swaps rfl rfl rfl ?_
  have no : ∀ h0 : ¬ fit8 (kz (A 38) k) p, hp A B = hp (if fit8 (kz (A 38) k) p then va_up A 38 (s8S (A 38) k p) else A) B ∧ some (Value.int 0) = some (.int (if fit8 (kz (A 38) k) p then 1 else 0)) := fun h0 => by rw [if_neg h0, if_neg h0]; exact ⟨rfl, rfl⟩
  refine V.s omX8_swaps rfl rfl ?_
  refine V.s omX8_swaps rfl rfl ?_
  refine swaps_ck (c := 0) d hk h4 (by decide) (fun g0 => ?_) (fun g => no (fun h => absurd (h.1.symm.trans g) (by decide)))
  refine swaps_ck (c := 1) d hk h4 (by decide) (fun g1 => ?_) (fun g => no (fun h => absurd (h.2.1.symm.trans g) (by decide)))
  refine swaps_ck (c := 2) d hk h4 (by decide) (fun g2 => ?_) (fun g => no (fun h => absurd (h.2.2.1.symm.trans g) (by decide)))
  refine swaps_ck (c := 3) d hk h4 (by decide) (fun g3 => ?_) (fun g => no (fun h => absurd (h.2.2.2.symm.trans g) (by decide)))
  have hf : fit8 (kz (A 38) k) p := ⟨g0, g1, g2, g3⟩
  rw [if_pos hf, if_pos hf]
  refine V.s omX8_swaps rfl rfl ?_
  refine V.s omX8_swaps rfl rfl ?_
  refine V.brT omX8_swaps rfl rfl (by decide) (by decide) ?_
  refine V.s omX8_swaps rfl rfl ?_
  refine V.s omX8_swaps rfl rfl ?_
  have e := va_self A 38
  rw [show hp A B = hp (va_up A 38 (A 38)) B by rw [e]]
  refine swaps_st (c := 0) d hk h4 (by decide) (A 38) ?_
  refine swaps_st (c := 1) d hk h4 (by decide) _ ?_
  refine swaps_st (c := 2) d hk h4 (by decide) _ ?_
  refine swaps_st (c := 3) d hk h4 (by decide) _ ?_
  refine V.s omX8_swaps rfl rfl ?_
  refine V.s omX8_swaps rfl rfl ?_
  refine V.brT omX8_swaps rfl rfl (by decide) (by decide) ?_
  refine V.s omX8_swaps rfl rfl ?_
  exact V.zret omX8_swaps rfl rfl (by decide) ⟨rfl, rfl⟩
def s8_swap (A : Nat → Nat → Int32) (m : Nat) (r p : Int32) : Int32 × (Nat → Nat → Int32) := if (0 ≤ r ∧ r < nI m) ∧ 0 ≤ p ∧ p < 4 then (if fit8 (kz (A 38) (cl r)) (cl p) then (1, va_up A 38 (s8S (A 38) (cl r) (cl p))) else (-8, rmA A 8)) else (-3, rmA A 3)
set_option maxHeartbeats 4000000 in
set_option maxRecDepth 100000 in
theorem c8_swap (d : Nat) {m : Nat} (hm : A 33 6 = nI m) (h6 : m ≤ 6) (r p : Int32) : C mX8_swap (d + 2) 0 0 [.ref 33, .int r, .int p] (hp A B) (fun r' h' => h' = hp (s8_swap A m r p).2 B ∧ r' = some (.int (s8_swap A m r p).1)) := by
  refine C.of [some (.ref 33), some (.int r), some (.int p)] omX8_swap rfl rfl rfl ?_
  by_cases h1 : 0 ≤ r ∧ r < A 33 6
  · by_cases h2 : 0 ≤ p ∧ p < 4
    · repeat (first | refine V.s omX8_swap rfl rfl ?_ | refine V.gf omX8_swap rfl rfl rfl rfl ?_ | refine V.brF omX8_swap rfl rfl (by decide) ?_ | refine V.brT omX8_swap rfl rfl (by decide) (by decide) ?_ | refine V.cVf omX8_swap omX8_isKiss rfl rfl (c8_ikY _ h1) rfl rfl rfl rfl rfl rfl ?_ | refine V.cSf omX8_swap omX8_isPlace rfl rfl (c8_ipY _ h2 _) rfl rfl rfl rfl ?_)
      rw [hm] at h1
      have hh : (0 ≤ r ∧ r < nI m) ∧ 0 ≤ p ∧ p < 4 := ⟨h1, h2⟩
      simp only [s8_swap, if_pos hh]
      obtain ⟨i, hi, rfl⟩ := rng (by omega) h1
      obtain ⟨j, hj, rfl⟩ := rng (n := 4) (by decide) h2
      simp only [cl_nI (show i < 20 by omega), cl_nI (show j < 20 by omega)]
      have ct := c8_swaps (A := A) (B := B) d (show i < 6 by omega) hj (nv_nI (a := i)) (nv_nI (a := j))
      by_cases h3 : fit8 (kz (A 38) i) j
      · rw [if_pos h3, if_pos h3] at ct
        refine V.cVf omX8_swap omX8_swaps rfl rfl ct rfl rfl rfl rfl rfl rfl ?_
        refine V.brF omX8_swap rfl rfl (by decide) ?_
        repeat (first | refine V.s omX8_swap rfl rfl ?_ | refine V.gf omX8_swap rfl rfl rfl rfl ?_)
        exact V.iret omX8_swap rfl rfl (by rw [if_pos h3]; exact ⟨rfl, rfl⟩)
      · rw [if_neg h3, if_neg h3] at ct
        refine V.cVf omX8_swap omX8_swaps rfl rfl ct rfl rfl rfl rfl rfl rfl ?_
        refine V.brT omX8_swap rfl rfl rfl (by decide) ?_
        repeat (first | refine V.s omX8_swap rfl rfl ?_ | refine V.gf omX8_swap rfl rfl rfl rfl ?_ | refine V.cVf omX8_swap omX8_no rfl rfl (c8_no _ _ (by decide)) rfl rfl rfl rfl rfl rfl ?_)
        exact V.iret omX8_swap rfl rfl (by rw [if_neg h3]; exact ⟨rfl, rfl⟩)
    · repeat (first | refine V.s omX8_swap rfl rfl ?_ | refine V.gf omX8_swap rfl rfl rfl rfl ?_ | refine V.brF omX8_swap rfl rfl (by decide) ?_ | refine V.brT omX8_swap rfl rfl (by decide) (by decide) ?_ | refine V.cVf omX8_swap omX8_isKiss rfl rfl (c8_ikY _ h1) rfl rfl rfl rfl rfl rfl ?_ | refine V.cSf omX8_swap omX8_isPlace rfl rfl (c8_ipN _ h2 _) rfl rfl rfl rfl ?_ | refine V.cVf omX8_swap omX8_no rfl rfl (c8_no _ _ (by decide)) rfl rfl rfl rfl rfl rfl ?_)
      exact V.iret omX8_swap rfl rfl (by simp only [s8_swap, if_neg (show ¬ ((0 ≤ r ∧ r < nI m) ∧ 0 ≤ p ∧ p < 4) from fun h => h2 h.2)] <;> (refine ⟨?_, ?_⟩ <;> first | rfl | trivial))
  · repeat (first | refine V.s omX8_swap rfl rfl ?_ | refine V.gf omX8_swap rfl rfl rfl rfl ?_ | refine V.brF omX8_swap rfl rfl (by decide) ?_ | refine V.brT omX8_swap rfl rfl (by decide) (by decide) ?_ | refine V.cVf omX8_swap omX8_isKiss rfl rfl (c8_ikN _ h1) rfl rfl rfl rfl rfl rfl ?_ | refine V.cVf omX8_swap omX8_no rfl rfl (c8_no _ _ (by decide)) rfl rfl rfl rfl rfl rfl ?_)
    rw [hm] at h1
    exact V.iret omX8_swap rfl rfl (by simp only [s8_swap, if_neg (show ¬ ((0 ≤ r ∧ r < nI m) ∧ 0 ≤ p ∧ p < 4) from fun h => h1 h.1)] <;> (refine ⟨?_, ?_⟩ <;> first | rfl | trivial))
end MD6
