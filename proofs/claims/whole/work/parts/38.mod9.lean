section MD9
variable {A : Nat → Nat → Int32} {B : Nat → Nat → Int64}
def k8Q (A : Nat → Nat → Int32) (B : Nat → Nat → Int64) (m : Nat) (o : Option (Nat → Int32)) (r : Option Value) (h' : hp_T) : Prop := match o with
  | some g => h' = hp (s8_keep (va_up A 40 g) m).2 B ∧ r = some (.int (s8_keep (va_up A 40 g) m).1)
  | none => r = some (.int (-3)) ∧ ∃ g, h' = hp (rmA (va_up A 40 g) 3) B
set_option maxHeartbeats 4000000 in
set_option maxRecDepth 100000 in
theorem kiss_cp (d : Nat) {x p : Nat} (hx : x < 20) (hp4 : p < 4) (R rest : Int32) (F : Nat → Int32) {Q : Option Value → hp_T → Prop} (kk : V mX8_kiss (d + 2) 0 0 Q 0 0 93 [some (.ref 33), some (.int R), some (.int rest), some (.int (nI p)), some (.int (nI x)), some (.int (nI 4))] [] (hp (va_up A 40 (va_cpy (A 34) F (4 * x) (4 * p) 4)) B)) : ∀ (t s : Nat), s + t = 4 → V mX8_kiss (d + 2) 0 0 Q 0 0 58 [some (.ref 33), some (.int R), some (.int rest), some (.int (nI p)), some (.int (nI x)), some (.int (nI s))] [] (hp (va_up A 40 (va_cpy (A 34) F (4 * x) (4 * p) s)) B) := by
  intro t
  induction t with
  | zero =>
    intro s hs
    have : s = 4 := by omega
    subst this
    iterate 2 (refine V.s omX8_kiss rfl rfl ?_)
    refine V.brT omX8_kiss rfl rfl (by decide) (by decide) ?_
    exact kk
  | succ t ih =>
    intro s hs
    iterate 2 (refine V.s omX8_kiss rfl rfl ?_)
    refine V.brF omX8_kiss rfl rfl (by rw [nIl_le 4 (by omega) (by decide)]; omega) ?_
    repeat (first | refine V.s omX8_kiss rfl rfl ?_ | refine V.gf omX8_kiss rfl rfl rfl rfl ?_)
    refine V.ial omX8_kiss rfl rfl (ixN (nv_add (nv_mul nv_lit nv_nI) nv_nI) (show 4 * x + s < 80 by omega) (by decide)) ?_
    refine V.iasH omX8_kiss rfl rfl (ixN (nv_add (nv_mul nv_lit nv_nI) nv_nI) (by omega) (by decide)) ?_
    iterate 2 (refine V.s omX8_kiss rfl rfl ?_)
    rw [nI_1, bx_uu, va_up_self, va_up_ne _ _ (show (34 : Nat) ≠ 40 by decide), cpy_S]
    exact ih (s + 1) (by omega)
set_option maxHeartbeats 4000000 in
set_option maxRecDepth 100000 in
theorem kiss8_loop (d : Nat) {n m : Nat} (hn : A 33 5 = nI n) (h20 : n ≤ 20) (hm : A 33 6 = nI m) (h6 : m ≤ 6) (R : Int32) (o : Option (Nat → Int32)) : ∀ (t p x : Nat) (g : Nat → Int32) (v4 v5 : Option Value), p + t = 4 → x < 2 ^ 31 → o = kwL (A 34) n t p x g →
    V mX8_kiss (d + 2) 0 0 (k8Q A B m o) 0 0 23 [some (.ref 33), some (.int R), some (.int (nI x)), some (.int (nI p)), v4, v5] [] (hp (va_up A 40 g) B) := by
  intro t
  induction t with
  | zero =>
    intro p x g v4 v5 hp4 hx ho
    have : p = 4 := by omega
    subst this
    iterate 2 (refine V.s omX8_kiss rfl rfl ?_)
    refine V.brT omX8_kiss rfl rfl (by decide) (by decide) ?_
    refine V.s omX8_kiss rfl rfl ?_
    refine V.cVf omX8_kiss omX8_kisses rfl rfl (c8_kisses _ (m := m) (by rw [va_up_ne _ _ (show (33 : Nat) ≠ 40 by decide)]; exact hm) h6) rfl rfl rfl rfl rfl rfl ?_
    subst ho
    exact V.iret omX8_kiss rfl rfl ⟨rfl, rfl⟩
  | succ t ih =>
    intro p x g v4 v5 hp4 hx ho
    iterate 2 (refine V.s omX8_kiss rfl rfl ?_)
    refine V.brF omX8_kiss rfl rfl (by rw [nIl_le 4 (by omega) (by decide)]; omega) ?_
    iterate 2 (refine V.s omX8_kiss rfl rfl ?_)
    refine V.irem omX8_kiss rfl (by decide) ?_
    rw [rem20 hx]
    iterate 3 (refine V.s omX8_kiss rfl rfl ?_)
    refine V.idiv omX8_kiss rfl (by decide) ?_
    rw [div20 hx]
    iterate 3 (refine V.s omX8_kiss rfl rfl ?_)
    have hn' : va_up A 40 g 33 5 = nI n := by rw [va_up_ne _ _ (show (33 : Nat) ≠ 40 by decide)]; exact hn
    by_cases h1 : x % 20 < n
    · simp only [kwL, if_pos h1] at ho
      refine V.cVf omX8_kiss omX8_isRound rfl rfl (c8_irY _ (by rw [hn']; exact rng_in h1 (by omega))) rfl rfl rfl rfl rfl rfl ?_
      refine V.brT omX8_kiss rfl rfl (by decide) (by decide) ?_
      iterate 2 (refine V.s omX8_kiss rfl rfl ?_)
      have key := fun Q rest kk => kiss_cp (A := A) (B := B) (Q := Q) d (show x % 20 < 20 by omega) (show p < 4 by omega) R rest g kk 4 0 (by omega)
      rw [cpy_0] at key
      refine key _ _ ?_
      iterate 2 (refine V.s omX8_kiss rfl rfl ?_)
      rw [nI_1]
      exact ih (p + 1) (x / 20) _ _ _ (by omega) (by omega) ho
    · simp only [kwL, if_neg h1] at ho
      refine V.cVf omX8_kiss omX8_isRound rfl rfl (c8_irN _ (by rw [hn']; exact fun h => h1 ((nI_ltI (by omega) (by omega)).mp h.2))) rfl rfl rfl rfl rfl rfl ?_
      refine V.brF omX8_kiss rfl rfl (by decide) ?_
      repeat (first | refine V.s omX8_kiss rfl rfl ?_ | refine V.gf omX8_kiss rfl rfl rfl rfl ?_ | refine V.cVf omX8_kiss omX8_no rfl rfl (c8_no _ _ (by decide)) rfl rfl rfl rfl rfl rfl ?_)
      subst ho
      exact V.iret omX8_kiss rfl rfl ⟨rfl, g, rfl⟩
set_option maxHeartbeats 4000000 in
set_option maxRecDepth 100000 in
theorem c8_kiss (d : Nat) {n m : Nat} (hn : A 33 5 = nI n) (h20 : n ≤ 20) (hm : A 33 6 = nI m) (h6 : m ≤ 6) (R : Int32) : C mX8_kiss (d + 2) 0 0 [.ref 33, .int R] (hp A B) (fun r' h' => k8Q A B m (if 0 ≤ R ∧ R < 160000 then kwL (A 34) n 4 0 (cl R) (A 40) else none) r' h') := by
  refine C.of [some (.ref 33), some (.int R), none, none, none, none] omX8_kiss rfl rfl rfl ?_
  by_cases h1 : 0 ≤ R ∧ R < 160000
  · have g3 : (0 : Int64) ≤ R.toInt64 ∧ R.toInt64 ≤ 159999 := (inL 0 159999 (by decide) (by decide)).mpr ⟨h1.1, (lt_le 159999 159999 (by decide) 160000 (by decide)).mp h1.2⟩
    iterate 4 (refine V.s omX8_kiss rfl rfl ?_)
    refine V.cSf omX8_kiss omX8_isIn rfl rfl (c8_isInY _ g3 _) rfl rfl rfl rfl ?_
    refine V.brT omX8_kiss rfl rfl (by decide) (by decide) ?_
    iterate 4 (refine V.s omX8_kiss rfl rfl ?_)
    simp only [if_pos h1]
    obtain ⟨x, hx, rfl⟩ := rng (n := 160000) (by decide) h1
    have e : cl (nI x) = x := nI_clamp (by omega)
    rw [e]
    have key := kiss8_loop (A := A) (B := B) d hn h20 hm h6 (nI x) _ 4 0 x (A 40) none none rfl (by omega) rfl
    rw [va_self] at key
    exact key
  · have g3 : ¬ ((0 : Int64) ≤ R.toInt64 ∧ R.toInt64 ≤ 159999) := fun h => h1 (by
      have h' := (inL 0 159999 (by decide) (by decide)).mp h
      exact ⟨h'.1, (lt_le 159999 159999 (by decide) 160000 (by decide)).mpr h'.2⟩)
    simp only [if_neg h1]
    iterate 4 (refine V.s omX8_kiss rfl rfl ?_)
    refine V.cSf omX8_kiss omX8_isIn rfl rfl (c8_isInN _ g3 _) rfl rfl rfl rfl ?_
    refine V.brF omX8_kiss rfl rfl (by decide) ?_
    repeat (first | refine V.s omX8_kiss rfl rfl ?_ | refine V.gf omX8_kiss rfl rfl rfl rfl ?_ | refine V.cVf omX8_kiss omX8_no rfl rfl (c8_no _ _ (by decide)) rfl rfl rfl rfl rfl rfl ?_)
    exact V.iret omX8_kiss rfl rfl ⟨rfl, A 40, by rw [va_self]; rfl⟩
set_option maxHeartbeats 4000000 in
set_option maxRecDepth 100000 in
theorem lay_cp (d : Nat) {k : Nat} (hk : k < 6) (F : Nat → Int32) {Q : Option Value → hp_T → Prop} (kk : V mX8_lay (d + 1) 0 0 Q 0 0 51 [some (.ref 33), some (.int (nI k)), some (.int (nI 16))] [] (hp (va_up A 49 (va_cpy (A 38) F (16 * k) 0 16)) B)) : ∀ (t s : Nat), s + t = 16 → V mX8_lay (d + 1) 0 0 Q 0 0 22 [some (.ref 33), some (.int (nI k)), some (.int (nI s))] [] (hp (va_up A 49 (va_cpy (A 38) F (16 * k) 0 s)) B) := by
  intro t
  induction t with
  | zero =>
    intro s hs
    have : s = 16 := by omega
    subst this
    iterate 2 (refine V.s omX8_lay rfl rfl ?_)
    refine V.brT omX8_lay rfl rfl (by decide) (by decide) ?_
    exact kk
  | succ t ih =>
    intro s hs
    iterate 2 (refine V.s omX8_lay rfl rfl ?_)
    refine V.brF omX8_lay rfl rfl (by rw [nIl_le 16 (by omega) (by decide)]; omega) ?_
    repeat (first | refine V.s omX8_lay rfl rfl ?_ | refine V.gf omX8_lay rfl rfl rfl rfl ?_)
    refine V.ial omX8_lay rfl rfl (ixN (nv_add (nv_mul nv_lit nv_nI) nv_nI) (show 16 * k + s < 96 by omega) (by decide)) ?_
    refine V.iasH omX8_lay rfl rfl (ixN nv_nI (by omega) (by decide)) ?_
    iterate 2 (refine V.s omX8_lay rfl rfl ?_)
    rw [nI_1, bx_uu, va_up_self, va_up_ne _ _ (show (38 : Nat) ≠ 49 by decide), cpy_S1]
    exact ih (s + 1) (by omega)
def l8A (A : Nat → Nat → Int32) (k : Nat) : Nat → Nat → Int32 := va_up (va_up A 33 (upd (A 33) 28 1)) 49 (va_cpy (A 38) (A 49) (16 * k) 0 16)
def s8_lay (A : Nat → Nat → Int32) (m : Nat) (r : Int32) : Int32 × (Nat → Nat → Int32) := if 0 ≤ r ∧ r < nI m then (16, l8A A (cl r)) else (-3, rmA A 3)
set_option maxHeartbeats 4000000 in
set_option maxRecDepth 100000 in
theorem c8_lay (d : Nat) {m : Nat} (hm : A 33 6 = nI m) (h6 : m ≤ 6) (r : Int32) : C mX8_lay (d + 1) 0 0 [.ref 33, .int r] (hp A B) (fun r' h' => h' = hp (s8_lay A m r).2 B ∧ r' = some (.int (s8_lay A m r).1)) := by
  refine C.of [some (.ref 33), some (.int r), none] omX8_lay rfl rfl rfl ?_
  by_cases h1 : 0 ≤ r ∧ r < A 33 6
  · iterate 2 (refine V.s omX8_lay rfl rfl ?_)
    refine V.cVf omX8_lay omX8_isKiss rfl rfl (c8_ikY _ h1) rfl rfl rfl rfl rfl rfl ?_
    refine V.brT omX8_lay rfl rfl (by decide) (by decide) ?_
    rw [hm] at h1
    simp only [s8_lay, if_pos h1]
    obtain ⟨i, hi, rfl⟩ := rng (by omega) h1
    simp only [cl_nI (show i < 20 by omega)]
    iterate 2 (refine V.s omX8_lay rfl rfl ?_)
    refine V.pfH omX8_lay rfl rfl rfl rfl rfl rfl rfl ?_
    iterate 2 (refine V.s omX8_lay rfl rfl ?_)
    have key := fun Q kk => lay_cp (A := va_up A 33 (upd (A 33) 28 1)) (B := B) (Q := Q) d (show i < 6 by omega) (A 49) kk 16 0 (by omega)
    rw [cpy_0, show va_up (va_up A 33 (upd (A 33) 28 1)) 49 (A 49) = va_up A 33 (upd (A 33) 28 1) from va_self (va_up A 33 (upd (A 33) 28 1)) 49] at key
    refine key _ ?_
    refine V.s omX8_lay rfl rfl ?_
    exact V.iret omX8_lay rfl rfl ⟨rfl, rfl⟩
  · iterate 2 (refine V.s omX8_lay rfl rfl ?_)
    refine V.cVf omX8_lay omX8_isKiss rfl rfl (c8_ikN _ h1) rfl rfl rfl rfl rfl rfl ?_
    refine V.brF omX8_lay rfl rfl (by decide) ?_
    repeat (first | refine V.s omX8_lay rfl rfl ?_ | refine V.gf omX8_lay rfl rfl rfl rfl ?_ | refine V.cVf omX8_lay omX8_no rfl rfl (c8_no _ _ (by decide)) rfl rfl rfl rfl rfl rfl ?_)
    rw [hm] at h1
    exact V.iret omX8_lay rfl rfl (by simp only [s8_lay, if_neg h1] <;> (refine ⟨?_, ?_⟩ <;> first | rfl | trivial))
set_option maxHeartbeats 4000000 in
set_option maxRecDepth 100000 in
theorem copy_c1 (d : Nat) {i n : Nat} (hi : i + n ≤ 16) (j : Int32) (F : Nat → Int32) {Q : Option Value → hp_T → Prop} (kk : V mX8_copy (d + 1) 0 0 Q 0 0 95 [some (.ref 33), some (.int (nI i)), some (.int j), some (.int (nI n)), some (.int (nI n))] [] (hp (va_up A 50 (va_cpy (A 49) F i 0 n)) B)) : ∀ (t s : Nat), s + t = n → V mX8_copy (d + 1) 0 0 Q 0 0 67 [some (.ref 33), some (.int (nI i)), some (.int j), some (.int (nI n)), some (.int (nI s))] [] (hp (va_up A 50 (va_cpy (A 49) F i 0 s)) B) := by
  intro t
  induction t with
  | zero =>
    intro s hs
    have : s = n := by omega
    subst this
    iterate 2 (refine V.s omX8_copy rfl rfl ?_)
    refine V.brT omX8_copy rfl rfl Int32.le_rfl (fun h => Int32.not_lt.mpr h) ?_
    exact kk
  | succ t ih =>
    intro s hs
    iterate 2 (refine V.s omX8_copy rfl rfl ?_)
    refine V.brF omX8_copy rfl rfl (Int32.not_le.mpr (nI_lt (by omega) (by omega))) ?_
    repeat (first | refine V.s omX8_copy rfl rfl ?_ | refine V.gf omX8_copy rfl rfl rfl rfl ?_)
    refine V.ial omX8_copy rfl rfl (ixN (nv_add nv_nI nv_nI) (show i + s < 16 by omega) (by decide)) ?_
    refine V.iasH omX8_copy rfl rfl (ixN nv_nI (by omega) (by decide)) ?_
    iterate 2 (refine V.s omX8_copy rfl rfl ?_)
    rw [nI_1, bx_uu, va_up_self, va_up_ne _ _ (show (49 : Nat) ≠ 50 by decide), cpy_S1]
    exact ih (s + 1) (by omega)
set_option maxHeartbeats 4000000 in
set_option maxRecDepth 100000 in
theorem copy_c2 (d : Nat) {j n : Nat} (hj : j + n ≤ 16) (i : Int32) (F : Nat → Int32) {Q : Option Value → hp_T → Prop} (kk : V mX8_copy (d + 1) 0 0 Q 0 0 126 [some (.ref 33), some (.int i), some (.int (nI j)), some (.int (nI n)), some (.int (nI n))] [] (hp (va_up A 49 (va_cpy (A 50) F 0 j n)) B)) : ∀ (t s : Nat), s + t = n → V mX8_copy (d + 1) 0 0 Q 0 0 98 [some (.ref 33), some (.int i), some (.int (nI j)), some (.int (nI n)), some (.int (nI s))] [] (hp (va_up A 49 (va_cpy (A 50) F 0 j s)) B) := by
  intro t
  induction t with
  | zero =>
    intro s hs
    have : s = n := by omega
    subst this
    iterate 2 (refine V.s omX8_copy rfl rfl ?_)
    refine V.brT omX8_copy rfl rfl Int32.le_rfl (fun h => Int32.not_lt.mpr h) ?_
    exact kk
  | succ t ih =>
    intro s hs
    iterate 2 (refine V.s omX8_copy rfl rfl ?_)
    refine V.brF omX8_copy rfl rfl (Int32.not_le.mpr (nI_lt (by omega) (by omega))) ?_
    repeat (first | refine V.s omX8_copy rfl rfl ?_ | refine V.gf omX8_copy rfl rfl rfl rfl ?_)
    refine V.ial omX8_copy rfl rfl (ixN nv_nI (show s < 16 by omega) (by decide)) ?_
    refine V.iasH omX8_copy rfl rfl (ixN (nv_add nv_nI nv_nI) (show j + s < 16 by omega) (by decide)) ?_
    iterate 2 (refine V.s omX8_copy rfl rfl ?_)
    rw [nI_1, bx_uu, va_up_self, va_up_ne _ _ (show (50 : Nat) ≠ 49 by decide), cpy_S0]
    exact ih (s + 1) (by omega)
def mv8 (A : Nat → Nat → Int32) (i n : Nat) : Nat → Int32 := va_cpy (A 49) (A 50) i 0 n
def c8A (A : Nat → Nat → Int32) (i j n : Nat) : Nat → Nat → Int32 := va_up (va_up A 50 (mv8 A i n)) 49 (va_cpy (mv8 A i n) (A 49) 0 j n)
def s8_copy (A : Nat → Nat → Int32) (i j n : Int32) : Int32 × (Nat → Nat → Int32) := if A 33 28 = 0 then (-2, rmA A 2) else if n < 0 then (-4, rmA A 4) else if 0 ≤ i ∧ 0 ≤ j ∧ i.toInt64 + n.toInt64 ≤ 16 ∧ j.toInt64 + n.toInt64 ≤ 16 then (n, c8A A (cl i) (cl j) (cl n)) else (-6, rmA A 6)
set_option maxHeartbeats 4000000 in
set_option maxRecDepth 100000 in
theorem c8_copy (d : Nat) (i j n : Int32) : C mX8_copy (d + 1) 0 0 [.ref 33, .int i, .int j, .int n] (hp A B) (fun r' h' => h' = hp (s8_copy A i j n).2 B ∧ r' = some (.int (s8_copy A i j n).1)) := by
  refine C.of [some (.ref 33), some (.int i), some (.int j), some (.int n), none] omX8_copy rfl rfl rfl ?_
  repeat (first | refine V.s omX8_copy rfl rfl ?_ | refine V.gf omX8_copy rfl rfl rfl rfl ?_)
  by_cases hz : A 33 28 = 0
  · simp only [s8_copy, if_pos hz]
    refine V.brF omX8_copy rfl rfl (fun h => h hz) ?_
    repeat (first | refine V.s omX8_copy rfl rfl ?_ | refine V.gf omX8_copy rfl rfl rfl rfl ?_ | refine V.cVf omX8_copy omX8_no rfl rfl (c8_no _ _ (by decide)) rfl rfl rfl rfl rfl rfl ?_)
    exact V.iret omX8_copy rfl rfl ⟨rfl, rfl⟩
  simp only [s8_copy, if_neg hz]
  refine V.brT omX8_copy rfl rfl hz (fun h => h) ?_
  refine V.s omX8_copy rfl rfl ?_
  by_cases hn : n < 0
  · simp only [if_pos hn]
    refine V.brF omX8_copy rfl rfl (Int32.not_le.mpr hn) ?_
    repeat (first | refine V.s omX8_copy rfl rfl ?_ | refine V.gf omX8_copy rfl rfl rfl rfl ?_ | refine V.cVf omX8_copy omX8_no rfl rfl (c8_no _ _ (by decide)) rfl rfl rfl rfl rfl rfl ?_)
    exact V.iret omX8_copy rfl rfl ⟨rfl, rfl⟩
  simp only [if_neg hn]
  refine V.brT omX8_copy rfl rfl (Int32.not_lt.mp hn) (fun _ h => hn h) ?_
  refine V.s omX8_copy rfl rfl ?_
  have bad : ¬ (0 ≤ i ∧ 0 ≤ j ∧ i.toInt64 + n.toInt64 ≤ 16 ∧ j.toInt64 + n.toInt64 ≤ 16) → V mX8_copy (d + 1) 0 0 (fun r' h' => h' = hp (if 0 ≤ i ∧ 0 ≤ j ∧ i.toInt64 + n.toInt64 ≤ 16 ∧ j.toInt64 + n.toInt64 ≤ 16 then (n, c8A A (cl i) (cl j) (cl n)) else (-6, rmA A 6)).2 B ∧ r' = some (.int (if 0 ≤ i ∧ 0 ≤ j ∧ i.toInt64 + n.toInt64 ≤ 16 ∧ j.toInt64 + n.toInt64 ≤ 16 then (n, c8A A (cl i) (cl j) (cl n)) else (-6, rmA A 6)).1)) 0 0 57 [some (.ref 33), some (.int i), some (.int j), some (.int n), none] [] (hp A B) := by
    intro hb
    rw [if_neg hb]
    repeat (first | refine V.s omX8_copy rfl rfl ?_ | refine V.gf omX8_copy rfl rfl rfl rfl ?_ | refine V.cVf omX8_copy omX8_no rfl rfl (c8_no _ _ (by decide)) rfl rfl rfl rfl rfl rfl ?_)
    exact V.iret omX8_copy rfl rfl ⟨rfl, rfl⟩
  refine V.br omX8_copy rfl rfl (fun g => bad (fun h => Int32.not_lt.mpr h.1 g)) (fun g1 => ?_)
  refine V.s omX8_copy rfl rfl ?_
  refine V.br omX8_copy rfl rfl (fun g => bad (fun h => Int32.not_lt.mpr h.2.1 g)) (fun g2 => ?_)
  repeat (first | refine V.s omX8_copy rfl rfl ?_ | refine V.gf omX8_copy rfl rfl rfl rfl ?_)
  refine V.br omX8_copy rfl rfl (fun g => bad (fun h => Int64.not_lt.mpr h.2.2.1 (lgc_gt.mp g))) (fun g3 => ?_)
  repeat (first | refine V.s omX8_copy rfl rfl ?_ | refine V.gf omX8_copy rfl rfl rfl rfl ?_)
  refine V.br omX8_copy rfl rfl (fun g4 => ?_) (fun g => bad (fun h => Int64.not_lt.mpr h.2.2.2 (lgc_gt.mp g)))
  rw [lgc_le] at g3 g4
  rw [if_pos ⟨g1, g2, g3, g4⟩]
  obtain ⟨a, ha, rfl⟩ := rngl (m := 2147483647) (M := 2147483647) (by decide) g1 (by rw [Int32.le_iff_toInt_le]; exact Int32.toInt_le i)
  obtain ⟨b, hb, rfl⟩ := rngl (m := 2147483647) (M := 2147483647) (by decide) g2 (by rw [Int32.le_iff_toInt_le]; exact Int32.toInt_le j)
  obtain ⟨c, hc, rfl⟩ := rngl (m := 2147483647) (M := 2147483647) (by decide) (Int32.not_lt.mp hn) (by rw [Int32.le_iff_toInt_le]; exact Int32.toInt_le n)
  rw [cp_le (by omega) (by omega)] at g3 g4
  simp only [cl_nI (show a < 20 by omega), cl_nI (show b < 20 by omega), cl_nI (show c < 20 by omega)]
  iterate 2 (refine V.s omX8_copy rfl rfl ?_)
  have k1 := fun Q kk => copy_c1 (A := A) (B := B) (Q := Q) d g3 (nI b) (A 50) kk c 0 (by omega)
  rw [cpy_0, va_self] at k1
  refine k1 _ ?_
  iterate 2 (refine V.s omX8_copy rfl rfl ?_)
  have k2 := fun Q kk => copy_c2 (A := va_up A 50 (mv8 A a c)) (B := B) (Q := Q) d g4 (nI a) (A 49) kk c 0 (by omega)
  rw [cpy_0, show va_up (va_up A 50 (mv8 A a c)) 49 (A 49) = va_up A 50 (mv8 A a c) from va_self (va_up A 50 (mv8 A a c)) 49] at k2
  refine k2 _ ?_
  refine V.s omX8_copy rfl rfl ?_
  exact V.iret omX8_copy rfl rfl ⟨rfl, rfl⟩
end MD9
