section RK7
variable {A : Nat → Nat → Int32} {B : Nat → Nat → Int64}
theorem rem20 {a : Nat} (ha : a < 2 ^ 31) : nI a - nI a / 20 * 20 = nI (a % 20) := pk_rem (d := 20) ha (by decide) (by decide)
theorem div20 {a : Nat} (ha : a < 2 ^ 31) : nI a / 20 = nI (a / 20) := pk_div (d := 20) ha (by decide) (by decide)
def kwL (f : Nat → Int32) (n : Nat) : Nat → Nat → Nat → (Nat → Int32) → Option (Nat → Int32)
  | 0, _, _, g => some g
  | m + 1, p, x, g => if x % 20 < n then kwL f n m (p + 1) (x / 20) (va_cpy f g (4 * (x % 20)) (4 * p) 4) else none
def kQ (A : Nat → Nat → Int32) (B : Nat → Nat → Int64) (m : Nat) (o : Option (Nat → Int32)) (r : Option Value) (h' : hp_T) : Prop := match o with
  | some g => h' = hp (s7_keep (va_up A 20 g) m).2 B ∧ r = some (.int (s7_keep (va_up A 20 g) m).1)
  | none => r = some (.int (-3)) ∧ ∃ g, h' = hp (rfA (va_up A 20 g) 3) B
set_option maxHeartbeats 4000000 in
set_option maxRecDepth 100000 in
theorem kiss_loop (d : Nat) {n m : Nat} (hn : A 1 4 = nI n) (h20 : n ≤ 20) (hm : A 0 9 = nI m) (h6 : m ≤ 6) (R : Int32) (o : Option (Nat → Int32)) : ∀ (t p x : Nat) (g : Nat → Int32) (v4 : Option Value), p + t = 4 → x < 2 ^ 31 → o = kwL (A 2) n t p x g →
    V mX7_kiss (d + 4) 0 0 (kQ A B m o) 0 0 21 [some (.ref 0), some (.int R), some (.int (nI x)), some (.int (nI p)), v4] [] (hp (va_up A 20 g) B) := by
  intro t
  induction t with
  | zero =>
    intro p x g v4 hp4 hx ho
    have : p = 4 := by omega
    subst this
    refine V.s omX7_kiss rfl rfl ?_
    refine V.s omX7_kiss rfl rfl ?_
    refine V.brT omX7_kiss rfl rfl (by decide) (by decide) ?_
    repeat (first | refine V.s omX7_kiss rfl rfl ?_ | refine V.gf omX7_kiss rfl rfl rfl rfl ?_)
    refine V.cVf omX7_kiss omX7_keepWork rfl rfl (c_keepWork d (m := m) (by rw [va_up_ne _ _ (show (0 : Nat) ≠ 20 by decide)]; exact hm) h6) rfl rfl rfl rfl rfl rfl ?_
    subst ho
    exact V.iret omX7_kiss rfl rfl ⟨rfl, rfl⟩
  | succ t ih =>
    intro p x g v4 hp4 hx ho
    refine V.s omX7_kiss rfl rfl ?_
    refine V.s omX7_kiss rfl rfl ?_
    refine V.brF omX7_kiss rfl rfl (by rw [nIl_le 4 (by omega) (by decide)]; omega) ?_
    refine V.s omX7_kiss rfl rfl ?_
    refine V.s omX7_kiss rfl rfl ?_
    refine V.irem omX7_kiss rfl (by decide) ?_
    rw [rem20 hx]
    refine V.s omX7_kiss rfl rfl ?_
    refine V.s omX7_kiss rfl rfl ?_
    refine V.s omX7_kiss rfl rfl ?_
    refine V.idiv omX7_kiss rfl (by decide) ?_
    rw [div20 hx]
    refine V.s omX7_kiss rfl rfl ?_
    repeat (first | refine V.s omX7_kiss rfl rfl ?_ | refine V.gf omX7_kiss rfl rfl rfl rfl ?_)
    have hn' : va_up A 20 g 1 4 = nI n := by rw [va_up_ne _ _ (show (1 : Nat) ≠ 20 by decide)]; exact hn
    by_cases h1 : x % 20 < n
    · simp only [kwL, if_pos h1] at ho
      refine V.cVf omX7_kiss omX5_has rfl rfl (c_hasY _ (by rw [hn']; exact rng_in h1 (by omega))) rfl rfl rfl rfl rfl rfl ?_
      refine V.brT omX7_kiss rfl rfl (by decide) (by decide) ?_
      repeat (first | refine V.s omX7_kiss rfl rfl ?_ | refine V.gf omX7_kiss rfl rfl rfl rfl ?_)
      refine V.cpH omX7_kiss rfl rfl rfl rfl (sj := 4 * (x % 20)) (dj := 4 * p) (nj := 4) ?_ ?_ (by decide) (by omega) (by omega) rfl ?_
      · rw [show (4 : Int32) * nI (x % 20) = nI (4 * (x % 20)) from nv_mul nv_lit nv_nI]
        exact ⟨nI_pos (by omega), nI_clamp (by omega)⟩
      · rw [show (4 : Int32) * nI p = nI (4 * p) from nv_mul nv_lit nv_nI]
        exact ⟨nI_pos (by omega), nI_clamp (by omega)⟩
      refine V.s omX7_kiss rfl rfl ?_
      refine V.s omX7_kiss rfl rfl ?_
      rw [nI_1, va_up_ne _ _ (show (2 : Nat) ≠ 20 by decide), va_up_self, bx_uu]
      exact ih (p + 1) (x / 20) _ _ (by omega) (by omega) ho
    · simp only [kwL, if_neg h1] at ho
      refine V.cVf omX7_kiss omX5_has rfl rfl (c_hasN _ (by rw [hn']; exact fun h => h1 ((nI_ltI (by omega) (by omega)).mp h.2))) rfl rfl rfl rfl rfl rfl ?_
      refine V.brF omX7_kiss rfl rfl (by decide) ?_
      repeat (first | refine V.s omX7_kiss rfl rfl ?_ | refine V.gf omX7_kiss rfl rfl rfl rfl ?_ | refine V.cVf omX7_kiss omX7_refuse rfl rfl (c_refuse _ _ (by decide)) rfl rfl rfl rfl rfl rfl ?_)
      subst ho
      exact V.iret omX7_kiss rfl rfl ⟨rfl, g, rfl⟩
set_option maxHeartbeats 4000000 in
set_option maxRecDepth 100000 in
theorem c7_kiss (d : Nat) {n m : Nat} (hn : A 1 4 = nI n) (h20 : n ≤ 20) (hm : A 0 9 = nI m) (h6 : m ≤ 6) (R : Int32) : C mX7_kiss (d + 4) 0 0 [.ref 0, .int R] (hp A B) (fun r' h' => kQ A B m (if 0 ≤ R ∧ R < 160000 then kwL (A 2) n 4 0 (cl R) (A 20) else none) r' h') := by
  refine C.of [some (.ref 0), some (.int R), none, none, none] omX7_kiss rfl rfl rfl ?_
  by_cases h1 : 0 ≤ R ∧ R < 160000
  · refine V.s omX7_kiss rfl rfl ?_
    refine V.brF omX7_kiss rfl rfl (Int32.not_lt.mpr h1.1) ?_
    refine V.s omX7_kiss rfl rfl ?_
    refine V.s omX7_kiss rfl rfl ?_
    refine V.brT omX7_kiss rfl rfl h1.2 (fun h => Int32.not_le.mpr h) ?_
    refine V.s omX7_kiss rfl rfl ?_
    refine V.s omX7_kiss rfl rfl ?_
    refine V.s omX7_kiss rfl rfl ?_
    refine V.s omX7_kiss rfl rfl ?_
    simp only [if_pos h1]
    obtain ⟨x, hx, rfl⟩ := rng (n := 160000) (by decide) h1
    have e : cl (nI x) = x := nI_clamp (by omega)
    rw [e]
    have key := kiss_loop (A := A) (B := B) d hn h20 hm h6 (nI x) _ 4 0 x (A 20) none rfl (by omega) rfl
    rw [va_self] at key
    exact key
  · simp only [if_neg h1]
    have key : ∀ r' h', h' = hp (rfA A 3) B ∧ r' = some (.int (-3)) → kQ A B m none r' h' := fun r' h' hq => ⟨hq.2, A 20, by rw [va_self]; exact hq.1⟩
    refine V.s omX7_kiss rfl rfl ?_
    refine V.br omX7_kiss rfl rfl (fun hc => ?_) (fun hc => ?_)
    · repeat (first | refine V.s omX7_kiss rfl rfl ?_ | refine V.gf omX7_kiss rfl rfl rfl rfl ?_ | refine V.cVf omX7_kiss omX7_refuse rfl rfl (c_refuse _ _ (by decide)) rfl rfl rfl rfl rfl rfl ?_)
      exact V.iret omX7_kiss rfl rfl (key _ _ ⟨rfl, rfl⟩)
    · refine V.s omX7_kiss rfl rfl ?_
      refine V.s omX7_kiss rfl rfl ?_
      refine V.brF omX7_kiss rfl rfl (fun hd => h1 ⟨hc, hd⟩) ?_
      repeat (first | refine V.s omX7_kiss rfl rfl ?_ | refine V.gf omX7_kiss rfl rfl rfl rfl ?_ | refine V.cVf omX7_kiss omX7_refuse rfl rfl (c_refuse _ _ (by decide)) rfl rfl rfl rfl rfl rfl ?_)
      exact V.iret omX7_kiss rfl rfl (key _ _ ⟨rfl, rfl⟩)
def s7_look (A : Nat → Nat → Int32) (n : Nat) (r w : Int32) : Int32 × (Nat → Nat → Int32) := if 0 ≤ r ∧ r < nI n then (if (w = 5 ∨ w = 6) ∧ ¬ A 3 (cl r) = 2 then (0, rfA A 5) else if 0 ≤ w ∧ w ≤ 6 then ((if w = 0 then A 3 (cl r) else if w = 5 then A 4 (cl r) else if w = 6 then A 5 (cl r) else A 2 (4 * cl r + (cl w - 1))), A) else (0, rfA A 7)) else (0, rfA A 3)
set_option maxHeartbeats 4000000 in
set_option maxRecDepth 100000 in
theorem c7_look (d : Nat) {n : Nat} (hn : A 1 4 = nI n) (h20 : n ≤ 20) (r w : Int32) : C mX7_look (d + 1) 0 0 [.ref 0, .int r, .int w] (hp A B) (fun r' h' => h' = hp (s7_look A n r w).2 B ∧ r' = some (.int (s7_look A n r w).1)) := by
  refine C.of [some (.ref 0), some (.int r), some (.int w)] omX7_look rfl rfl rfl ?_
  by_cases h1 : 0 ≤ r ∧ r < A 1 4
  · repeat (first | refine V.s omX7_look rfl rfl ?_ | refine V.gf omX7_look rfl rfl rfl rfl ?_ | refine V.brF omX7_look rfl rfl (by decide) ?_ | refine V.brT omX7_look rfl rfl (by decide) (by decide) ?_ | refine V.cVf omX7_look omX5_has rfl rfl (c_hasY _ h1) rfl rfl rfl rfl rfl rfl ?_)
    rw [hn] at h1
    simp only [s7_look, if_pos h1]
    obtain ⟨i, hi, rfl⟩ := rng (by omega) h1
    simp only [cl_nI (show i < 20 by omega)]
    by_cases h2 : 0 ≤ w ∧ w ≤ 6
    · obtain ⟨c, hc, rfl⟩ := rngl (m := 6) (by decide) h2.1 h2.2
      rcases (show c = 0 ∨ c = 1 ∨ c = 2 ∨ c = 3 ∨ c = 4 ∨ c = 5 ∨ c = 6 by omega) with rfl | rfl | rfl | rfl | rfl | rfl | rfl
      · repeat (first | refine V.s omX7_look rfl rfl ?_ | refine V.gf omX7_look rfl rfl rfl rfl ?_ | refine V.brF omX7_look rfl rfl (by decide) ?_ | refine V.brT omX7_look rfl rfl (by decide) (by decide) ?_)
        refine V.lsw (tgt := 100) (off := 33) omX7_look rfl (by decide) (by decide) (by decide) ?_
        repeat (first | refine V.s omX7_look rfl rfl ?_ | refine V.gf omX7_look rfl rfl rfl rfl ?_ | refine V.ial omX7_look rfl rfl (ixN nv_nI (by omega) (by decide)) ?_)
        exact V.iret omX7_look rfl rfl (by simp +decide)
      · repeat (first | refine V.s omX7_look rfl rfl ?_ | refine V.gf omX7_look rfl rfl rfl rfl ?_ | refine V.brF omX7_look rfl rfl (by decide) ?_ | refine V.brT omX7_look rfl rfl (by decide) (by decide) ?_)
        refine V.lsw (tgt := 130) (off := 63) omX7_look rfl (by decide) (by decide) (by decide) ?_
        repeat (first | refine V.s omX7_look rfl rfl ?_ | refine V.gf omX7_look rfl rfl rfl rfl ?_)
        refine V.cVf omX7_look omX5_number rfl rfl (c_num d (i := i) (c := 0) nv_nI (nv_of (by decide)) (by omega) (by decide)) rfl rfl rfl rfl rfl rfl ?_
        exact V.iret omX7_look rfl rfl (by simp +decide [cl] <;> rfl)
      · repeat (first | refine V.s omX7_look rfl rfl ?_ | refine V.gf omX7_look rfl rfl rfl rfl ?_ | refine V.brF omX7_look rfl rfl (by decide) ?_ | refine V.brT omX7_look rfl rfl (by decide) (by decide) ?_)
        refine V.lsw (tgt := 130) (off := 63) omX7_look rfl (by decide) (by decide) (by decide) ?_
        repeat (first | refine V.s omX7_look rfl rfl ?_ | refine V.gf omX7_look rfl rfl rfl rfl ?_)
        refine V.cVf omX7_look omX5_number rfl rfl (c_num d (i := i) (c := 1) nv_nI (nv_of (by decide)) (by omega) (by decide)) rfl rfl rfl rfl rfl rfl ?_
        exact V.iret omX7_look rfl rfl (by simp +decide [cl] <;> rfl)
      · repeat (first | refine V.s omX7_look rfl rfl ?_ | refine V.gf omX7_look rfl rfl rfl rfl ?_ | refine V.brF omX7_look rfl rfl (by decide) ?_ | refine V.brT omX7_look rfl rfl (by decide) (by decide) ?_)
        refine V.lsw (tgt := 130) (off := 63) omX7_look rfl (by decide) (by decide) (by decide) ?_
        repeat (first | refine V.s omX7_look rfl rfl ?_ | refine V.gf omX7_look rfl rfl rfl rfl ?_)
        refine V.cVf omX7_look omX5_number rfl rfl (c_num d (i := i) (c := 2) nv_nI (nv_of (by decide)) (by omega) (by decide)) rfl rfl rfl rfl rfl rfl ?_
        exact V.iret omX7_look rfl rfl (by simp +decide [cl] <;> rfl)
      · repeat (first | refine V.s omX7_look rfl rfl ?_ | refine V.gf omX7_look rfl rfl rfl rfl ?_ | refine V.brF omX7_look rfl rfl (by decide) ?_ | refine V.brT omX7_look rfl rfl (by decide) (by decide) ?_)
        refine V.lsw (tgt := 130) (off := 63) omX7_look rfl (by decide) (by decide) (by decide) ?_
        repeat (first | refine V.s omX7_look rfl rfl ?_ | refine V.gf omX7_look rfl rfl rfl rfl ?_)
        refine V.cVf omX7_look omX5_number rfl rfl (c_num d (i := i) (c := 3) nv_nI (nv_of (by decide)) (by omega) (by decide)) rfl rfl rfl rfl rfl rfl ?_
        exact V.iret omX7_look rfl rfl (by simp +decide [cl] <;> rfl)
      · repeat (first | refine V.s omX7_look rfl rfl ?_ | refine V.gf omX7_look rfl rfl rfl rfl ?_ | refine V.brF omX7_look rfl rfl (by decide) ?_ | refine V.brT omX7_look rfl rfl (by decide) (by decide) ?_ | refine V.ial omX7_look rfl rfl (ixN nv_nI (by omega) (by decide)) ?_)
        by_cases h3 : A 3 i = 2
        · refine V.brT omX7_look rfl rfl h3 (fun h g => g h) ?_
          repeat (first | refine V.s omX7_look rfl rfl ?_ | refine V.gf omX7_look rfl rfl rfl rfl ?_ | refine V.brF omX7_look rfl rfl (by decide) ?_ | refine V.brT omX7_look rfl rfl (by decide) (by decide) ?_)
          refine V.lsw (tgt := 110) (off := 43) omX7_look rfl (by decide) (by decide) (by decide) ?_
          repeat (first | refine V.s omX7_look rfl rfl ?_ | refine V.gf omX7_look rfl rfl rfl rfl ?_ | refine V.ial omX7_look rfl rfl (ixN nv_nI (by omega) (by decide)) ?_)
          exact V.iret omX7_look rfl rfl (by simp +decide [h3])
        · refine V.brF omX7_look rfl rfl h3 ?_
          repeat (first | refine V.s omX7_look rfl rfl ?_ | refine V.gf omX7_look rfl rfl rfl rfl ?_ | refine V.cVf omX7_look omX7_refuseByZero rfl rfl (c_refuseByZero _ _ (by decide)) rfl rfl rfl rfl rfl rfl ?_)
          exact V.iret omX7_look rfl rfl (by rw [if_pos ⟨Or.inl rfl, h3⟩]; exact ⟨rfl, rfl⟩)
      · repeat (first | refine V.s omX7_look rfl rfl ?_ | refine V.gf omX7_look rfl rfl rfl rfl ?_ | refine V.brF omX7_look rfl rfl (by decide) ?_ | refine V.brT omX7_look rfl rfl (by decide) (by decide) ?_ | refine V.ial omX7_look rfl rfl (ixN nv_nI (by omega) (by decide)) ?_)
        by_cases h3 : A 3 i = 2
        · refine V.brT omX7_look rfl rfl h3 (fun h g => g h) ?_
          repeat (first | refine V.s omX7_look rfl rfl ?_ | refine V.gf omX7_look rfl rfl rfl rfl ?_ | refine V.brF omX7_look rfl rfl (by decide) ?_ | refine V.brT omX7_look rfl rfl (by decide) (by decide) ?_)
          refine V.lsw (tgt := 120) (off := 53) omX7_look rfl (by decide) (by decide) (by decide) ?_
          repeat (first | refine V.s omX7_look rfl rfl ?_ | refine V.gf omX7_look rfl rfl rfl rfl ?_ | refine V.ial omX7_look rfl rfl (ixN nv_nI (by omega) (by decide)) ?_)
          exact V.iret omX7_look rfl rfl (by simp +decide [h3])
        · refine V.brF omX7_look rfl rfl h3 ?_
          repeat (first | refine V.s omX7_look rfl rfl ?_ | refine V.gf omX7_look rfl rfl rfl rfl ?_ | refine V.cVf omX7_look omX7_refuseByZero rfl rfl (c_refuseByZero _ _ (by decide)) rfl rfl rfl rfl rfl rfl ?_)
          exact V.iret omX7_look rfl rfl (by rw [if_pos ⟨Or.inr rfl, h3⟩]; exact ⟨rfl, rfl⟩)
    · have n5 : ¬ w = 5 := fun h => h2 (by subst h; decide)
      have n6 : ¬ w = 6 := fun h => h2 (by subst h; decide)
      rw [if_neg (fun h => h.1.elim n5 n6), if_neg h2]
      refine V.brF omX7_look rfl rfl n5 ?_
      refine V.s omX7_look rfl rfl ?_
      refine V.s omX7_look rfl rfl ?_
      refine V.brT omX7_look rfl rfl n6 (fun h => h) ?_
      refine V.s omX7_look rfl rfl ?_
      refine V.br omX7_look rfl rfl (fun hc => ?_) (fun hc => ?_)
      · repeat (first | refine V.s omX7_look rfl rfl ?_ | refine V.gf omX7_look rfl rfl rfl rfl ?_ | refine V.cVf omX7_look omX7_refuseByZero rfl rfl (c_refuseByZero _ _ (by decide)) rfl rfl rfl rfl rfl rfl ?_)
        exact V.iret omX7_look rfl rfl ⟨rfl, rfl⟩
      · refine V.s omX7_look rfl rfl ?_
        refine V.s omX7_look rfl rfl ?_
        refine V.brF omX7_look rfl rfl (fun h => h2 ⟨hc, h⟩) ?_
        repeat (first | refine V.s omX7_look rfl rfl ?_ | refine V.gf omX7_look rfl rfl rfl rfl ?_ | refine V.cVf omX7_look omX7_refuseByZero rfl rfl (c_refuseByZero _ _ (by decide)) rfl rfl rfl rfl rfl rfl ?_)
        exact V.iret omX7_look rfl rfl ⟨rfl, rfl⟩
  · repeat (first | refine V.s omX7_look rfl rfl ?_ | refine V.gf omX7_look rfl rfl rfl rfl ?_ | refine V.brF omX7_look rfl rfl (by decide) ?_ | refine V.brT omX7_look rfl rfl (by decide) (by decide) ?_ | refine V.cVf omX7_look omX5_has rfl rfl (c_hasN _ h1) rfl rfl rfl rfl rfl rfl ?_ | refine V.cVf omX7_look omX7_refuseByZero rfl rfl (c_refuseByZero _ _ (by decide)) rfl rfl rfl rfl rfl rfl ?_)
    rw [hn] at h1
    exact V.iret omX7_look rfl rfl (by simp only [s7_look, if_neg h1] <;> (refine ⟨?_, ?_⟩ <;> first | rfl | trivial))
end RK7
