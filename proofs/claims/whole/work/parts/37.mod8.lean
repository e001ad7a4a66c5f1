section MD8
variable {A : Nat → Nat → Int32} {B : Nat → Nat → Int64}
theorem cpy_0 (f g : Nat → Int32) (s d : Nat) : va_cpy f g s d 0 = g := by
  funext k
  unfold va_cpy
  rw [if_neg (by omega)]
theorem cpy_S (f g : Nat → Int32) (s d n : Nat) : upd (va_cpy f g s d n) (d + n) (f (s + n)) = va_cpy f g s d (n + 1) := by
  funext k
  unfold upd va_cpy
  by_cases h : k = d + n
  · subst h
    rw [if_pos rfl, if_pos (by omega), show d + n - d = n by omega]
  · rw [if_neg h]
    by_cases h2 : d ≤ k ∧ k < d + n
    · rw [if_pos h2, if_pos (by omega)]
    · rw [if_neg h2, if_neg (by omega)]
theorem cpy_S0 (f g : Nat → Int32) (d n : Nat) : upd (va_cpy f g 0 d n) (d + n) (f n) = va_cpy f g 0 d (n + 1) := by
  have h := cpy_S f g 0 d n
  rwa [Nat.zero_add] at h
theorem cpy_S1 (f g : Nat → Int32) (s n : Nat) : upd (va_cpy f g s 0 n) n (f (s + n)) = va_cpy f g s 0 (n + 1) := by
  have h := cpy_S f g s 0 n
  rwa [Nat.zero_add] at h
theorem cpy_S2 (f g : Nat → Int32) (n : Nat) : upd (va_cpy f g 0 0 n) n (f n) = va_cpy f g 0 0 (n + 1) := by
  have h := cpy_S f g 0 0 n
  rwa [Nat.zero_add] at h
def k8A (A : Nat → Nat → Int32) (m : Nat) : Nat → Nat → Int32 := va_up (va_up A 38 (va_cpy (A 40) (A 38) 0 (16 * m) 16)) 33 (upd (A 33) 6 (nI (m + 1)))
def s8_keep (A : Nat → Nat → Int32) (m : Nat) : Int32 × (Nat → Nat → Int32) := if tchF (A 40) = 1 then (if m < 6 then (nI m, k8A A m) else (-8, rmA A 8)) else (-7, rmA A 7)
set_option maxHeartbeats 4000000 in
set_option maxRecDepth 100000 in
theorem kisses_ck (d : Nat) {i j : Nat} (hi : i < 4) (hj : j < i) {Q : Option Value → hp_T → Prop} (kk : prd (A 40) (A 40) (4 * i) (4 * j) = -2 → V mX8_kisses (d + 1) 0 0 Q 0 0 9 [some (.ref 33), some (.int (nI i)), some (.int (nI (j + 1)))] [] (hp A B)) (kf : ¬ prd (A 40) (A 40) (4 * i) (4 * j) = -2 → Q (some (.int (-7))) (hp (rmA A 7) B)) : V mX8_kisses (d + 1) 0 0 Q 0 0 9 [some (.ref 33), some (.int (nI i)), some (.int (nI j))] [] (hp A B) := by
  iterate 2 (refine V.s omX8_kisses rfl rfl ?_)
  refine V.brF omX8_kisses rfl rfl (Int32.not_le.mpr (nI_lt hj (by omega))) ?_
  repeat (first | refine V.s omX8_kisses rfl rfl ?_ | refine V.gf omX8_kisses rfl rfl rfl rfl ?_)
  refine V.cSf omX8_kisses omX8_productOf rfl rfl (c8_productOf d (len := 16) (len2 := 16) (i := 4 * i) (j := 4 * j) rfl rfl (nv_mul nv_lit nv_nI) (nv_mul nv_lit nv_nI) (by omega) (by omega) (by decide) (by decide)) rfl rfl rfl rfl ?_
  iterate 2 (refine V.s omX8_kisses rfl rfl ?_)
  refine V.br omX8_kisses rfl rfl (fun hg => ?_) (fun hg => ?_)
  · iterate 2 (refine V.s omX8_kisses rfl rfl ?_)
    rw [nI_1]
    exact kk (lgc_eq.mp hg)
  · repeat (first | refine V.s omX8_kisses rfl rfl ?_ | refine V.gf omX8_kisses rfl rfl rfl rfl ?_ | refine V.cVf omX8_kisses omX8_no rfl rfl (c8_no _ _ (by decide)) rfl rfl rfl rfl rfl rfl ?_)
    exact V.iret omX8_kisses rfl rfl (kf (fun h => hg (lgc_eq.mpr h)))
set_option maxHeartbeats 4000000 in
set_option maxRecDepth 100000 in
theorem kisses_row (d : Nat) {i : Nat} (hi : i < 3) {Q : Option Value → hp_T → Prop} (kk : V mX8_kisses (d + 1) 0 0 Q 0 0 9 [some (.ref 33), some (.int (nI (i + 1))), some (.int 0)] [] (hp A B)) : V mX8_kisses (d + 1) 0 0 Q 0 0 9 [some (.ref 33), some (.int (nI i)), some (.int (nI i))] [] (hp A B) := by
  iterate 2 (refine V.s omX8_kisses rfl rfl ?_)
  refine V.brT omX8_kisses rfl rfl Int32.le_rfl (fun h => Int32.not_lt.mpr h) ?_
  iterate 2 (refine V.s omX8_kisses rfl rfl ?_)
  rw [nI_1]
  iterate 2 (refine V.s omX8_kisses rfl rfl ?_)
  refine V.brF omX8_kisses rfl rfl (by rw [nIl_le 4 (by omega) (by decide)]; omega) ?_
  iterate 2 (refine V.s omX8_kisses rfl rfl ?_)
  exact kk
set_option maxHeartbeats 4000000 in
set_option maxRecDepth 100000 in
theorem kisses_cp (d : Nat) {m : Nat} (hm : m < 6) (hA : A 33 6 = nI m) (F : Nat → Int32) (v2 : Option Value) {Q : Option Value → hp_T → Prop} (kk : V mX8_kisses (d + 1) 0 0 Q 0 0 107 [some (.ref 33), some (.int (nI 16)), v2] [] (hp (va_up A 38 (va_cpy (A 40) F 0 (16 * m) 16)) B)) : ∀ (t s : Nat), s + t = 16 → V mX8_kisses (d + 1) 0 0 Q 0 0 75 [some (.ref 33), some (.int (nI s)), v2] [] (hp (va_up A 38 (va_cpy (A 40) F 0 (16 * m) s)) B) := by
  intro t
  induction t with
  | zero =>
    intro s hs
    have : s = 16 := by omega
    subst this
    iterate 2 (refine V.s omX8_kisses rfl rfl ?_)
    refine V.brT omX8_kisses rfl rfl (by decide) (by decide) ?_
    exact kk
  | succ t ih =>
    intro s hs
    iterate 2 (refine V.s omX8_kisses rfl rfl ?_)
    refine V.brF omX8_kisses rfl rfl (by rw [nIl_le 16 (by omega) (by decide)]; omega) ?_
    repeat (first | refine V.s omX8_kisses rfl rfl ?_ | refine V.gf omX8_kisses rfl rfl rfl rfl ?_)
    refine V.ial omX8_kisses rfl rfl (ixN nv_nI (show s < 16 by omega) (by decide)) ?_
    rw [show va_up A 38 (va_cpy (A 40) F 0 (16 * m) s) 33 6 = nI m from hA]
    refine V.iasH omX8_kisses rfl rfl (ixN (nv_add (nv_mul nv_lit nv_nI) nv_nI) (by omega) (by decide)) ?_
    iterate 2 (refine V.s omX8_kisses rfl rfl ?_)
    rw [nI_1, bx_uu, va_up_self, va_up_ne _ _ (show (40 : Nat) ≠ 38 by decide), cpy_S0]
    exact ih (s + 1) (by omega)
theorem tch_1 {f : Nat → Int32} : tchF f = 1 ↔ (prd f f 4 0 = -2 ∧ prd f f 8 0 = -2 ∧ prd f f 8 4 = -2 ∧ prd f f 12 0 = -2 ∧ prd f f 12 4 = -2 ∧ prd f f 12 8 = -2) := by
  unfold tchF
  split <;> simp_all
set_option maxHeartbeats 4000000 in
set_option maxRecDepth 100000 in
theorem c8_kisses (d : Nat) {m : Nat} (hm : A 33 6 = nI m) (h6 : m ≤ 6) : C mX8_kisses (d + 1) 0 0 [.ref 33] (hp A B) (fun r h' => h' = hp (s8_keep A m).2 B ∧ r = some (.int (s8_keep A m).1)) := by
  refine C.of [some (.ref 33), none, none] omX8_kisses rfl rfl rfl ?_
  have no : ∀ h0 : ¬ tchF (A 40) = 1, hp (rmA A 7) B = hp (s8_keep A m).2 B ∧ some (Value.int (-7)) = some (.int (s8_keep A m).1) := fun h0 => by unfold s8_keep; rw [if_neg h0]; exact ⟨rfl, rfl⟩
  rw [tch_1] at no
  iterate 4 (refine V.s omX8_kisses rfl rfl ?_)
  refine V.brF omX8_kisses rfl rfl (by decide) ?_
  iterate 2 (refine V.s omX8_kisses rfl rfl ?_)
  refine kisses_row (i := 0) d (by decide) ?_
  refine kisses_ck (i := 1) (j := 0) d (by decide) (by decide) (fun g1 => ?_) (fun g => no (fun h => g h.1))
  refine kisses_row (i := 1) d (by decide) ?_
  refine kisses_ck (i := 2) (j := 0) d (by decide) (by decide) (fun g2 => ?_) (fun g => no (fun h => g h.2.1))
  refine kisses_ck (i := 2) (j := 1) d (by decide) (by decide) (fun g3 => ?_) (fun g => no (fun h => g h.2.2.1))
  refine kisses_row (i := 2) d (by decide) ?_
  refine kisses_ck (i := 3) (j := 0) d (by decide) (by decide) (fun g4 => ?_) (fun g => no (fun h => g h.2.2.2.1))
  refine kisses_ck (i := 3) (j := 1) d (by decide) (by decide) (fun g5 => ?_) (fun g => no (fun h => g h.2.2.2.2.1))
  refine kisses_ck (i := 3) (j := 2) d (by decide) (by decide) (fun g6 => ?_) (fun g => no (fun h => g h.2.2.2.2.2))
  have ht : tchF (A 40) = 1 := tch_1.mpr ⟨g1, g2, g3, g4, g5, g6⟩
  unfold s8_keep
  rw [if_pos ht]
  iterate 2 (refine V.s omX8_kisses rfl rfl ?_)
  refine V.brT omX8_kisses rfl rfl (by decide) (by decide) ?_
  iterate 4 (refine V.s omX8_kisses rfl rfl ?_)
  refine V.brT omX8_kisses rfl rfl (by decide) (by decide) ?_
  repeat (first | refine V.s omX8_kisses rfl rfl ?_ | refine V.gf omX8_kisses rfl rfl rfl rfl ?_)
  rw [hm]
  by_cases h3 : m < 6
  · refine V.brT omX8_kisses rfl rfl (by rw [nIl_eq 6 (by omega) (by decide)]; omega) (fun h => h) ?_
    rw [if_pos h3]
    iterate 2 (refine V.s omX8_kisses rfl rfl ?_)
    have key := fun Q v2 kk => kisses_cp (A := A) (B := B) (Q := Q) d h3 hm (A 38) v2 kk 16 0 (by omega)
    rw [cpy_0, va_self] at key
    refine key _ _ ?_
    repeat (first | refine V.s omX8_kisses rfl rfl ?_ | refine V.gf omX8_kisses rfl rfl rfl rfl ?_)
    rw [show va_up A 38 (va_cpy (A 40) (A 38) 0 (16 * m) 16) 33 6 = nI m from hm, nI_1]
    refine V.pfH omX8_kisses rfl rfl rfl rfl rfl rfl rfl ?_
    repeat (first | refine V.s omX8_kisses rfl rfl ?_ | refine V.gf omX8_kisses rfl rfl rfl rfl ?_)
    simp +decide only [va_up_self, va_up_ne, pk_us]
    rw [nI_pred]
    exact V.iret omX8_kisses rfl rfl ⟨rfl, rfl⟩
  · have : m = 6 := by omega
    subst this
    refine V.brF omX8_kisses rfl rfl (by decide) ?_
    rw [if_neg h3]
    repeat (first | refine V.s omX8_kisses rfl rfl ?_ | refine V.gf omX8_kisses rfl rfl rfl rfl ?_ | refine V.cVf omX8_kisses omX8_no rfl rfl (c8_no _ _ (by decide)) rfl rfl rfl rfl rfl rfl ?_)
    exact V.iret omX8_kisses rfl rfl ⟨rfl, rfl⟩
end MD8
