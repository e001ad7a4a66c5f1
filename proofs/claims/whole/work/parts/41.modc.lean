section MDC
variable {A : Nat → Nat → Int32} {B : Nat → Nat → Int64}
def BN (F : Nat → Int32) (k : Nat) : Nat → Int64 := fun i => (F (16 * k + 4 * i)).toInt64
theorem bq_at (b : Nat → Int64) (F : Nat → Int32) (k : Nat) : bq b F k 0 = BN F k 0 ∧ bq b F k 1 = BN F k 1 ∧ bq b F k 2 = BN F k 2 ∧ bq b F k 3 = BN F k 3 := ⟨rfl, rfl, rfl, rfl⟩
theorem b4_ext {b c : Nat → Int64} (h : b 0 = c 0 ∧ b 1 = c 1 ∧ b 2 = c 2 ∧ b 3 = c 3) {p : Nat} (hp4 : p < 4) : b p = c p := by
  rcases (show p = 0 ∨ p = 1 ∨ p = 2 ∨ p = 3 by omega) with rfl | rfl | rfl | rfl
  · exact h.1
  · exact h.2.1
  · exact h.2.2.1
  · exact h.2.2.2
theorem gix_ext {b c : Nat → Int64} (h : b 0 = c 0 ∧ b 1 = c 1 ∧ b 2 = c 2 ∧ b 3 = c 3) {i a : Nat} (hi : i < 4) (ha : a < 4) : gix b i a = gix c i a := by
  unfold gix
  rw [b4_ext h hi, b4_ext h ha]
theorem g8_ext {b c : Nat → Int64} (h : b 0 = c 0 ∧ b 1 = c 1 ∧ b 2 = c 2 ∧ b 3 = c 3) : g8 b = g8 c := by
  unfold g8
  rw [gix_ext h (i := 0) (a := 0) (by decide) (by decide), gix_ext h (i := 1) (by decide) (gix_lt (by decide) (by decide)), gix_ext h (i := 2) (by decide) (gix_lt (by decide) (gix_lt (by decide) (by decide))), gix_ext h (i := 3) (by decide) (gix_lt (by decide) (gix_lt (by decide) (gix_lt (by decide) (by decide))))]
theorem ex8_ext {b c : Nat → Int64} (h : b 0 = c 0 ∧ b 1 = c 1 ∧ b 2 = c 2 ∧ b 3 = c 3) {p : Nat} (hp4 : p < 4) : ex8 b p = ex8 c p := by
  unfold ex8
  rw [b4_ext h hp4, h.1, h.2.1, h.2.2.1, h.2.2.2]
theorem gr8_ext {b c : Nat → Int64} (h : b 0 = c 0 ∧ b 1 = c 1 ∧ b 2 = c 2 ∧ b 3 = c 3) : gr8 b = gr8 c := by
  unfold gr8
  rw [g8_ext h, ex8_ext h (g8_lt c), b4_ext h (g8_lt c)]
def l8 (k : Nat) : Nat → Nat → (Nat → Int32) → Int32 → Option (Bool × Nat × (Nat → Int32) × Int32)
  | 0, _, _, _ => none
  | n + 1, s, F, fp => if ex8 (BN F k) (g8 (BN F k)) < BN F k (g8 (BN F k)) then (if fit8 (kz F k) (g8 (BN F k)) then l8 k n (s + 1) (s8S F k (g8 (BN F k))) (lbP s fp (g8 (BN F k))) else some (false, s, F, fp)) else some (true, s, F, fp)
set_option maxHeartbeats 4000000 in
set_option maxRecDepth 100000 in
theorem least_cp (d : Nat) {k : Nat} (hk : k < 6) (F : Nat → Int32) (v3 v4 v5 : Option Value) {Q : Option Value → hp_T → Prop} (kk : V mX8_least (d + 2) 0 0 Q 0 0 63 [some (.ref 33), some (.int (nI k)), some (.int (nI 16)), v3, v4, v5] [] (hp (va_up A 42 (va_cpy (A 38) F (16 * k) 0 16)) B)) : ∀ (t s : Nat), s + t = 16 → V mX8_least (d + 2) 0 0 Q 0 0 34 [some (.ref 33), some (.int (nI k)), some (.int (nI s)), v3, v4, v5] [] (hp (va_up A 42 (va_cpy (A 38) F (16 * k) 0 s)) B) := by
  intro t
  induction t with
  | zero =>
    intro s hs
    have : s = 16 := by omega
    subst this
    iterate 2 (refine V.s omX8_least rfl rfl ?_)
    refine V.brT omX8_least rfl rfl (by decide) (by decide) ?_
    exact kk
  | succ t ih =>
    intro s hs
    iterate 2 (refine V.s omX8_least rfl rfl ?_)
    refine V.brF omX8_least rfl rfl (by rw [nIl_le 16 (by omega) (by decide)]; omega) ?_
    repeat (first | refine V.s omX8_least rfl rfl ?_ | refine V.gf omX8_least rfl rfl rfl rfl ?_)
    refine V.ial omX8_least rfl rfl (ixN (nv_add (nv_mul nv_lit nv_nI) nv_nI) (show 16 * k + s < 96 by omega) (by decide)) ?_
    refine V.iasH omX8_least rfl rfl (ixN nv_nI (by omega) (by decide)) ?_
    iterate 2 (refine V.s omX8_least rfl rfl ?_)
    rw [nI_1, bx_uu, va_up_self, va_up_ne _ _ (show (38 : Nat) ≠ 42 by decide), cpy_S1]
    exact ih (s + 1) (by omega)
set_option maxHeartbeats 4000000 in
set_option maxRecDepth 100000 in
theorem least_bk (d : Nat) {k : Nat} (hk : k < 6) (F : Nat → Int32) (v2 v3 : Option Value) (x4 : Int32) {Q : Option Value → hp_T → Prop} (kk : V mX8_least (d + 2) 0 0 Q 0 0 163 [some (.ref 33), some (.int (nI k)), v2, v3, some (.int x4), some (.int (nI 16))] [] (hp (va_up A 38 (va_cpy (A 42) F 0 (16 * k) 16)) B)) : ∀ (t s : Nat), s + t = 16 → V mX8_least (d + 2) 0 0 Q 0 0 131 [some (.ref 33), some (.int (nI k)), v2, v3, some (.int x4), some (.int (nI s))] [] (hp (va_up A 38 (va_cpy (A 42) F 0 (16 * k) s)) B) := by
  intro t
  induction t with
  | zero =>
    intro s hs
    have : s = 16 := by omega
    subst this
    iterate 2 (refine V.s omX8_least rfl rfl ?_)
    refine V.brT omX8_least rfl rfl (by decide) (by decide) ?_
    exact kk
  | succ t ih =>
    intro s hs
    iterate 2 (refine V.s omX8_least rfl rfl ?_)
    refine V.brF omX8_least rfl rfl (by rw [nIl_le 16 (by omega) (by decide)]; omega) ?_
    repeat (first | refine V.s omX8_least rfl rfl ?_ | refine V.gf omX8_least rfl rfl rfl rfl ?_)
    refine V.ial omX8_least rfl rfl (ixN nv_nI (show s < 16 by omega) (by decide)) ?_
    refine V.iasH omX8_least rfl rfl (ixN (nv_add (nv_mul nv_lit nv_nI) nv_nI) (show 16 * k + s < 96 by omega) (by decide)) ?_
    iterate 2 (refine V.s omX8_least rfl rfl ?_)
    rw [nI_1, bx_uu, va_up_self, va_up_ne _ _ (show (42 : Nat) ≠ 38 by decide), cpy_S0]
    exact ih (s + 1) (by omega)
set_option maxHeartbeats 4000000 in
set_option maxRecDepth 100000 in
theorem least_st (d : Nat) {k i : Nat} (hk : k < 6) (hi : i < 4) (b : Nat → Int64) (v2 v5 : Option Value) (x3 : Int32) {Q : Option Value → hp_T → Prop} (kk : V mX8_least (d + 2) 0 0 Q 0 0 70 [some (.ref 33), some (.int (nI k)), v2, some (.int x3), some (.int (nI (i + 1))), v5] [] (hp A (va_up B 41 (vp_updL b i (A 38 (16 * k + 4 * i)).toInt64)))) : V mX8_least (d + 2) 0 0 Q 0 0 70 [some (.ref 33), some (.int (nI k)), v2, some (.int x3), some (.int (nI i)), v5] [] (hp A (va_up B 41 b)) := by
  iterate 2 (refine V.s omX8_least rfl rfl ?_)
  refine V.brF omX8_least rfl rfl (by rw [nIl_le 4 (by omega) (by decide)]; omega) ?_
  repeat (first | refine V.s omX8_least rfl rfl ?_ | refine V.gf omX8_least rfl rfl rfl rfl ?_ | refine V.ial omX8_least rfl rfl (ixN (nv_add (nv_mul nv_lit nv_nI) (nv_mul nv_lit nv_nI)) (by omega) (by decide)) ?_)
  refine V.lasH omX8_least rfl rfl (ixN nv_nI hi (by decide)) ?_
  iterate 2 (refine V.s omX8_least rfl rfl ?_)
  rw [nI_1, bx_uu, va_up_self]
  exact kk
def l8X (A : Nat → Nat → Int32) (k : Nat) (R : Bool × Nat × (Nat → Int32) × Int32) : Int32 × (Nat → Nat → Int32) := if R.1 = true then (nI R.2.1, va_up (va_up A 38 R.2.2.1) 33 (upd (A 33) 7 R.2.2.2)) else (-8, rmA (va_up A 38 (va_cpy (A 42) R.2.2.1 0 (16 * k) 16)) 8)
set_option maxHeartbeats 4000000 in
set_option maxRecDepth 100000 in
theorem least_loop (d : Nat) {k : Nat} (hk : k < 6) (R : Bool × Nat × (Nat → Int32) × Int32) : ∀ (n s : Nat) (F : Nat → Int32) (fp : Int32) (b : Nat → Int64) (v4 v5 : Option Value), s + n < 2 ^ 31 → l8 k n s F fp = some R → V mX8_least (d + 2) 0 0 (fun r h' => (∃ B', h' = hp (l8X A k R).2 B') ∧ r = some (.int (l8X A k R).1)) 0 0 67 [some (.ref 33), some (.int (nI k)), some (.int (nI s)), some (.int fp), v4, v5] [] (hp (va_up A 38 F) (va_up B 41 b)) := by
  intro n
  induction n with
  | zero => intro s F fp b v4 v5 hs h; cases h
  | succ n ih =>
    intro s F fp b v4 v5 hs h
    have e8 := bq_at b F k
    have hg4 := g8_lt (BN F k)
    iterate 2 (refine V.s omX8_least rfl rfl ?_)
    refine least_st (A := va_up A 38 F) (i := 0) d hk (by decide) _ _ _ _ ?_
    refine least_st (A := va_up A 38 F) (i := 1) d hk (by decide) _ _ _ _ ?_
    refine least_st (A := va_up A 38 F) (i := 2) d hk (by decide) _ _ _ _ ?_
    refine least_st (A := va_up A 38 F) (i := 3) d hk (by decide) _ _ _ _ ?_
    rw [va_up_self, show vp_updL (vp_updL (vp_updL (vp_updL b 0 (F (16 * k + 4 * 0)).toInt64) 1 (F (16 * k + 4 * 1)).toInt64) 2 (F (16 * k + 4 * 2)).toInt64) 3 (F (16 * k + 4 * 3)).toInt64 = bq b F k from rfl]
    iterate 2 (refine V.s omX8_least rfl rfl ?_)
    refine V.brT omX8_least rfl rfl (by decide) (by decide) ?_
    refine V.s omX8_least rfl rfl ?_
    refine V.cVf omX8_least omX8_greatest rfl rfl (c8_gr _ (bq b F k)) rfl rfl rfl rfl rfl rfl ?_
    rw [gr8_ext e8]
    iterate 2 (refine V.s omX8_least rfl rfl ?_)
    by_cases hg : ex8 (BN F k) (g8 (BN F k)) < BN F k (g8 (BN F k))
    · simp only [l8, if_pos hg] at h
      have e : gr8 (BN F k) = nI (g8 (BN F k)) := by unfold gr8; rw [if_pos hg]
      rw [e]
      refine V.brT omX8_least rfl rfl (nI_pos' (by omega)) (fun h => Int32.not_lt.mpr h) ?_
      iterate 3 (refine V.s omX8_least rfl rfl ?_)
      have cs := c8_swaps (A := va_up A 38 F) (B := va_up B 41 (bq b F k)) d hk hg4 (nv_nI (a := k)) (nv_nI (a := g8 (BN F k)))
      rw [va_up_self, bx_uu] at cs
      by_cases hf : fit8 (kz F k) (g8 (BN F k))
      · rw [if_pos hf] at h
        rw [if_pos hf, if_pos hf] at cs
        refine V.cVf omX8_least omX8_swaps rfl rfl cs rfl rfl rfl rfl rfl rfl ?_
        refine V.brT omX8_least rfl rfl (by decide) (by decide) ?_
        iterate 2 (refine V.s omX8_least rfl rfl ?_)
        by_cases h15 : s < 15
        · refine V.brF omX8_least rfl rfl (by rw [nIl_le 15 (by omega) (by decide)]; omega) ?_
          rw [lbP, if_pos h15] at h
          iterate 8 (refine V.s omX8_least rfl rfl ?_)
          iterate 2 (refine V.s omX8_least rfl rfl ?_)
          rw [nI_1]
          exact ih _ _ _ _ _ _ (by omega) h
        · refine V.brT omX8_least rfl rfl (by rw [nIl_le 15 (by omega) (by decide)]; omega) (fun h => Int32.not_lt.mpr h) ?_
          rw [lbP, if_neg h15] at h
          iterate 2 (refine V.s omX8_least rfl rfl ?_)
          rw [nI_1]
          exact ih _ _ _ _ _ _ (by omega) h
      · rw [if_neg hf] at h
        rw [if_neg hf, if_neg hf] at cs
        cases h
        refine V.cVf omX8_least omX8_swaps rfl rfl cs rfl rfl rfl rfl rfl rfl ?_
        refine V.brF omX8_least rfl rfl (by decide) ?_
        iterate 2 (refine V.s omX8_least rfl rfl ?_)
        have key := fun B Q v2 v3 v4 kk => least_bk (A := A) (B := B) (Q := Q) d hk F v2 v3 v4 kk 16 0 (by omega)
        rw [cpy_0] at key
        refine key _ _ _ _ _ ?_
        repeat (first | refine V.s omX8_least rfl rfl ?_ | refine V.gf omX8_least rfl rfl rfl rfl ?_ | refine V.cVf omX8_least omX8_no rfl rfl (c8_no _ _ (by decide)) rfl rfl rfl rfl rfl rfl ?_)
        exact V.iret omX8_least rfl rfl ⟨⟨_, rfl⟩, rfl⟩
    · simp only [l8, if_neg hg] at h
      have e : gr8 (BN F k) = -1 := by unfold gr8; rw [if_neg hg]
      rw [e]
      cases h
      refine V.brF omX8_least rfl rfl (by decide) ?_
      iterate 3 (refine V.s omX8_least rfl rfl ?_)
      refine V.pfH omX8_least rfl rfl rfl rfl rfl rfl rfl ?_
      refine V.s omX8_least rfl rfl ?_
      exact V.iret omX8_least rfl rfl ⟨⟨_, rfl⟩, rfl⟩
def wn8 (A : Nat → Nat → Int32) (m : Nat) (r : Int32) : Int32 := if 0 ≤ r ∧ r < nI m then (if 0 < bs8 (kz (A 38) (cl r)) then 0 else -7) else -3
theorem rfB_wn8 {A : Nat → Nat → Int32} {m : Nat} {r : Int32} (h : ¬ wn8 A m r = 0) : rfB (wn8 A m r) = true := by
  unfold wn8 at *
  split at h
  · next h1 =>
    rw [if_pos h1]
    split at h
    · exact absurd rfl h
    · next h2 => rw [if_neg h2]; decide
  · next h1 => rw [if_neg h1]; decide
def kp8 (A : Nat → Nat → Int32) (k : Nat) : Nat → Nat → Int32 := va_up A 42 (va_cpy (A 38) (A 42) (16 * k) 0 16)
def s8_least (A : Nat → Nat → Int32) (m : Nat) (r : Int32) (R : Bool × Nat × (Nat → Int32) × Int32) : Int32 × (Nat → Nat → Int32) := if wn8 A m r = 0 then l8X (kp8 A (cl r)) (cl r) R else (wn8 A m r, rmA A (rfI (wn8 A m r)))
set_option maxHeartbeats 4000000 in
set_option maxRecDepth 100000 in
theorem c8_least (d : Nat) {m n : Nat} (hm : A 33 6 = nI m) (h6 : m ≤ 6) (r : Int32) (R : Bool × Nat × (Nat → Int32) × Int32) (hn : n < 2 ^ 31) (hR : wn8 A m r = 0 → l8 (cl r) n 0 (A 38) 0 = some R) : C mX8_least (d + 2) 0 0 [.ref 33, .int r] (hp A B) (fun r' h' => (∃ B', h' = hp (s8_least A m r R).2 B') ∧ r' = some (.int (s8_least A m r R).1)) := by
  refine C.of [some (.ref 33), some (.int r), none, none, none, none] omX8_least rfl rfl rfl ?_
  by_cases h1 : 0 ≤ r ∧ r < A 33 6
  · iterate 2 (refine V.s omX8_least rfl rfl ?_)
    refine V.cVf omX8_least omX8_isKiss rfl rfl (c8_ikY _ h1) rfl rfl rfl rfl rfl rfl ?_
    refine V.brT omX8_least rfl rfl (by decide) (by decide) ?_
    rw [hm] at h1
    iterate 2 (refine V.s omX8_least rfl rfl ?_)
    have hw : wn8 A m r = if 0 < bs8 (kz (A 38) (cl r)) then 0 else -7 := by unfold wn8; rw [if_pos h1]
    obtain ⟨i, hi, rfl⟩ := rng (by omega) h1
    simp only [s8_least, hw]
    rw [hw] at hR
    simp only [cl_nI (show i < 20 by omega)] at hR ⊢
    refine V.cVf omX8_least omX8_heightOf rfl rfl (c8_heightOf _ (show i < 6 by omega) nv_nI) rfl rfl rfl rfl rfl rfl ?_
    iterate 2 (refine V.s omX8_least rfl rfl ?_)
    by_cases h2 : 0 < bs8 (kz (A 38) i)
    · refine V.brT omX8_least rfl rfl (lgc_gt.mpr h2) (fun h => Int32.not_le.mpr h) ?_
      simp only [if_pos h2, if_true] at hR ⊢
      iterate 2 (refine V.s omX8_least rfl rfl ?_)
      have key := fun Q kk => least_cp (A := A) (B := B) (Q := Q) d (show i < 6 by omega) (A 42) none none none kk 16 0 (by omega)
      rw [cpy_0, va_self] at key
      refine key _ ?_
      iterate 4 (refine V.s omX8_least rfl rfl ?_)
      have k2 := least_loop (A := kp8 A i) (B := B) d (show i < 6 by omega) R n 0 (A 38) 0 (B 41) none none (by omega) (hR trivial)
      rw [show va_up (kp8 A i) 38 (A 38) = kp8 A i from va_self (kp8 A i) 38, vb_self] at k2
      exact k2
    · refine V.brF omX8_least rfl rfl (fun h => h2 (lgc_gt.mp h)) ?_
      simp only [if_neg h2]
      repeat (first | refine V.s omX8_least rfl rfl ?_ | refine V.gf omX8_least rfl rfl rfl rfl ?_ | refine V.cVf omX8_least omX8_no rfl rfl (c8_no _ _ (by decide)) rfl rfl rfl rfl rfl rfl ?_)
      exact V.iret omX8_least rfl rfl ⟨⟨B, rfl⟩, rfl⟩
  · iterate 2 (refine V.s omX8_least rfl rfl ?_)
    refine V.cVf omX8_least omX8_isKiss rfl rfl (c8_ikN _ h1) rfl rfl rfl rfl rfl rfl ?_
    refine V.brF omX8_least rfl rfl (by decide) ?_
    rw [hm] at h1
    repeat (first | refine V.s omX8_least rfl rfl ?_ | refine V.gf omX8_least rfl rfl rfl rfl ?_ | refine V.cVf omX8_least omX8_no rfl rfl (c8_no _ _ (by decide)) rfl rfl rfl rfl rfl rfl ?_)
    have hw : wn8 A m r = -3 := by unfold wn8; rw [if_neg h1]
    simp only [s8_least, hw]
    exact V.iret omX8_least rfl rfl ⟨⟨B, rfl⟩, rfl⟩
end MDC
