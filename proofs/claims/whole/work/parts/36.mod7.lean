section MD7
variable {A : Nat → Nat → Int32} {B : Nat → Nat → Int64}
theorem inL {w : Int32} (lo hi : Int32) {L H : Int64} (hL : lo.toInt64 = L) (hH : hi.toInt64 = H) : (L ≤ w.toInt64 ∧ w.toInt64 ≤ H) ↔ (lo ≤ w ∧ w ≤ hi) := by
  subst hL hH
  rw [w_le, w_le]
theorem lt_le {w : Int32} (m : Int32) (k : Nat) (hm : m.toInt = k) (M : Int32) (hM : M.toInt = k + 1) : w < M ↔ w ≤ m := by
  rw [Int32.lt_iff_toInt_lt, Int32.le_iff_toInt_le, hm, hM]
  omega
def s8_of (A : Nat → Nat → Int32) (m : Nat) (r p w : Int32) : Int32 × (Nat → Nat → Int32) := if (0 ≤ r ∧ r < nI m) ∧ 0 ≤ p ∧ p < 4 then (if 0 ≤ w ∧ w < 4 then (kz (A 38) (cl r) (4 * cl p + cl w), A) else (0, rmA A 7)) else (0, rmA A 3)
set_option maxHeartbeats 4000000 in
set_option maxRecDepth 100000 in
theorem c8_of (d : Nat) {m : Nat} (hm : A 33 6 = nI m) (h6 : m ≤ 6) (r p w : Int32) : C mX8_of (d + 2) 0 0 [.ref 33, .int r, .int p, .int w] (hp A B) (fun r' h' => h' = hp (s8_of A m r p w).2 B ∧ r' = some (.int (s8_of A m r p w).1)) := by
  refine C.of [some (.ref 33), some (.int r), some (.int p), some (.int w)] omX8_of rfl rfl rfl ?_
  by_cases h1 : 0 ≤ r ∧ r < A 33 6
  · by_cases h2 : 0 ≤ p ∧ p < 4
    · by_cases h3 : 0 ≤ w ∧ w < 4
      · have g3 : (0 : Int64) ≤ w.toInt64 ∧ w.toInt64 ≤ 3 := (inL 0 3 (by decide) (by decide)).mpr ⟨h3.1, (lt_le 3 3 (by decide) 4 (by decide)).mp h3.2⟩
        repeat (first | refine V.s omX8_of rfl rfl ?_ | refine V.gf omX8_of rfl rfl rfl rfl ?_ | refine V.brF omX8_of rfl rfl (by decide) ?_ | refine V.brT omX8_of rfl rfl (by decide) (by decide) ?_ | refine V.cVf omX8_of omX8_isKiss rfl rfl (c8_ikY _ h1) rfl rfl rfl rfl rfl rfl ?_ | refine V.cSf omX8_of omX8_isPlace rfl rfl (c8_ipY _ h2 _) rfl rfl rfl rfl ?_ | refine V.cSf omX8_of omX8_isIn rfl rfl (c8_isInY _ g3 _) rfl rfl rfl rfl ?_)
        rw [hm] at h1
        have hh : (0 ≤ r ∧ r < nI m) ∧ 0 ≤ p ∧ p < 4 := ⟨h1, h2⟩
        simp only [s8_of, if_pos hh, if_pos h3]
        obtain ⟨i, hi, rfl⟩ := rng (by omega) h1
        obtain ⟨j, hj, rfl⟩ := rng (n := 4) (by decide) h2
        obtain ⟨c, hc, rfl⟩ := rng (n := 4) (by decide) h3
        simp only [cl_nI (show i < 20 by omega), cl_nI (show j < 20 by omega), cl_nI (show c < 20 by omega)]
        repeat (first | refine V.s omX8_of rfl rfl ?_ | refine V.gf omX8_of rfl rfl rfl rfl ?_ | refine V.ial omX8_of rfl rfl (ixN (nv_add (nv_add (nv_mul nv_lit nv_nI) (nv_mul nv_lit nv_nI)) nv_nI) (by omega) (by decide)) ?_)
        exact V.iret omX8_of rfl rfl ⟨rfl, by simp only [kz, Nat.add_assoc]⟩
      · have g3 : ¬ ((0 : Int64) ≤ w.toInt64 ∧ w.toInt64 ≤ 3) := fun h => h3 (by
          have h' := (inL 0 3 (by decide) (by decide)).mp h
          exact ⟨h'.1, (lt_le 3 3 (by decide) 4 (by decide)).mpr h'.2⟩)
        repeat (first | refine V.s omX8_of rfl rfl ?_ | refine V.gf omX8_of rfl rfl rfl rfl ?_ | refine V.brF omX8_of rfl rfl (by decide) ?_ | refine V.brT omX8_of rfl rfl (by decide) (by decide) ?_ | refine V.cVf omX8_of omX8_isKiss rfl rfl (c8_ikY _ h1) rfl rfl rfl rfl rfl rfl ?_ | refine V.cSf omX8_of omX8_isPlace rfl rfl (c8_ipY _ h2 _) rfl rfl rfl rfl ?_ | refine V.cSf omX8_of omX8_isIn rfl rfl (c8_isInN _ g3 _) rfl rfl rfl rfl ?_ | refine V.cVf omX8_of omX8_none rfl rfl (c8_none _ _ (by decide)) rfl rfl rfl rfl rfl rfl ?_)
        rw [hm] at h1
        have hh : (0 ≤ r ∧ r < nI m) ∧ 0 ≤ p ∧ p < 4 := ⟨h1, h2⟩
        simp only [s8_of, if_pos hh, if_neg h3]
        exact V.iret omX8_of rfl rfl ⟨rfl, rfl⟩
    · repeat (first | refine V.s omX8_of rfl rfl ?_ | refine V.gf omX8_of rfl rfl rfl rfl ?_ | refine V.brF omX8_of rfl rfl (by decide) ?_ | refine V.brT omX8_of rfl rfl (by decide) (by decide) ?_ | refine V.cVf omX8_of omX8_isKiss rfl rfl (c8_ikY _ h1) rfl rfl rfl rfl rfl rfl ?_ | refine V.cSf omX8_of omX8_isPlace rfl rfl (c8_ipN _ h2 _) rfl rfl rfl rfl ?_ | refine V.cVf omX8_of omX8_none rfl rfl (c8_none _ _ (by decide)) rfl rfl rfl rfl rfl rfl ?_)
      exact V.iret omX8_of rfl rfl (by simp only [s8_of, if_neg (show ¬ ((0 ≤ r ∧ r < nI m) ∧ 0 ≤ p ∧ p < 4) from fun h => h2 h.2)] <;> (refine ⟨?_, ?_⟩ <;> first | rfl | trivial))
  · repeat (first | refine V.s omX8_of rfl rfl ?_ | refine V.gf omX8_of rfl rfl rfl rfl ?_ | refine V.brF omX8_of rfl rfl (by decide) ?_ | refine V.brT omX8_of rfl rfl (by decide) (by decide) ?_ | refine V.cVf omX8_of omX8_isKiss rfl rfl (c8_ikN _ h1) rfl rfl rfl rfl rfl rfl ?_ | refine V.cVf omX8_of omX8_none rfl rfl (c8_none _ _ (by decide)) rfl rfl rfl rfl rfl rfl ?_)
    rw [hm] at h1
    exact V.iret omX8_of rfl rfl (by simp only [s8_of, if_neg (show ¬ ((0 ≤ r ∧ r < nI m) ∧ 0 ≤ p ∧ p < 4) from fun h => h1 h.1)] <;> (refine ⟨?_, ?_⟩ <;> first | rfl | trivial))
def s8_row (A : Nat → Nat → Int32) (r : Int32) : Int32 × (Nat → Nat → Int32) := if A 33 28 = 0 then (0, rmA A 2) else if 0 ≤ r ∧ r < 16 then (A 49 (cl r), A) else (0, rmA A 3)
set_option maxHeartbeats 4000000 in
set_option maxRecDepth 100000 in
theorem c8_row (d : Nat) (r : Int32) : C mX8_row (d + 2) 0 0 [.ref 33, .int r] (hp A B) (fun r' h' => h' = hp (s8_row A r).2 B ∧ r' = some (.int (s8_row A r).1)) := by
  refine C.of [some (.ref 33), some (.int r)] omX8_row rfl rfl rfl ?_
  repeat (first | refine V.s omX8_row rfl rfl ?_ | refine V.gf omX8_row rfl rfl rfl rfl ?_)
  by_cases hz : A 33 28 = 0
  · simp only [s8_row, if_pos hz]
    refine V.brF omX8_row rfl rfl (fun h => h hz) ?_
    repeat (first | refine V.s omX8_row rfl rfl ?_ | refine V.gf omX8_row rfl rfl rfl rfl ?_ | refine V.cVf omX8_row omX8_none rfl rfl (c8_none _ _ (by decide)) rfl rfl rfl rfl rfl rfl ?_)
    exact V.iret omX8_row rfl rfl ⟨rfl, rfl⟩
  · simp only [s8_row, if_neg hz]
    refine V.brT omX8_row rfl rfl hz (fun h => h) ?_
    by_cases h2 : 0 ≤ r ∧ r < 16
    · have g3 : (0 : Int64) ≤ r.toInt64 ∧ r.toInt64 ≤ 15 := (inL 0 15 (by decide) (by decide)).mpr ⟨h2.1, (lt_le 15 15 (by decide) 16 (by decide)).mp h2.2⟩
      simp only [if_pos h2]
      repeat (first | refine V.s omX8_row rfl rfl ?_ | refine V.gf omX8_row rfl rfl rfl rfl ?_ | refine V.brF omX8_row rfl rfl (by decide) ?_ | refine V.brT omX8_row rfl rfl (by decide) (by decide) ?_ | refine V.cSf omX8_row omX8_isIn rfl rfl (c8_isInY _ g3 _) rfl rfl rfl rfl ?_)
      obtain ⟨c, hc, rfl⟩ := rng (n := 16) (by decide) h2
      simp only [cl_nI (show c < 20 by omega)]
      repeat (first | refine V.s omX8_row rfl rfl ?_ | refine V.gf omX8_row rfl rfl rfl rfl ?_ | refine V.ial omX8_row rfl rfl (ixN nv_nI (by omega) (by decide)) ?_)
      exact V.iret omX8_row rfl rfl ⟨rfl, rfl⟩
    · have g3 : ¬ ((0 : Int64) ≤ r.toInt64 ∧ r.toInt64 ≤ 15) := fun h => h2 (by
        have h' := (inL 0 15 (by decide) (by decide)).mp h
        exact ⟨h'.1, (lt_le 15 15 (by decide) 16 (by decide)).mpr h'.2⟩)
      simp only [if_neg h2]
      repeat (first | refine V.s omX8_row rfl rfl ?_ | refine V.gf omX8_row rfl rfl rfl rfl ?_ | refine V.brF omX8_row rfl rfl (by decide) ?_ | refine V.brT omX8_row rfl rfl (by decide) (by decide) ?_ | refine V.cSf omX8_row omX8_isIn rfl rfl (c8_isInN _ g3 _) rfl rfl rfl rfl ?_ | refine V.cVf omX8_row omX8_none rfl rfl (c8_none _ _ (by decide)) rfl rfl rfl rfl rfl rfl ?_)
      exact V.iret omX8_row rfl rfl ⟨rfl, rfl⟩
def s8_status (A : Nat → Nat → Int32) (r : Int32) : Int32 × (Nat → Nat → Int32) := if r ≤ -2 ∧ -8 ≤ r then (A 39 (rfI r), A) else (-7, rmA A 7)
set_option maxHeartbeats 4000000 in
set_option maxRecDepth 100000 in
theorem c8_status (d : Nat) (r : Int32) : C mX8_status (d + 1) 0 0 [.ref 33, .int r] (hp A B) (fun r' h' => h' = hp (s8_status A r).2 B ∧ r' = some (.int (s8_status A r).1)) := by
  refine C.of [some (.ref 33), some (.int r)] omX8_status rfl rfl rfl ?_
  by_cases h2 : r ≤ -2 ∧ -8 ≤ r
  · have g3 : (-8 : Int64) ≤ r.toInt64 ∧ r.toInt64 ≤ -2 := (inL (-8) (-2) (by decide) (by decide)).mpr ⟨h2.2, h2.1⟩
    simp only [s8_status, if_pos h2]
    repeat (first | refine V.s omX8_status rfl rfl ?_ | refine V.gf omX8_status rfl rfl rfl rfl ?_ | refine V.brF omX8_status rfl rfl (by decide) ?_ | refine V.brT omX8_status rfl rfl (by decide) (by decide) ?_ | refine V.cSf omX8_status omX8_isIn rfl rfl (c8_isInY _ g3 _) rfl rfl rfl rfl ?_)
    refine V.ial omX8_status rfl rfl (st_ix h2) ?_
    refine V.s omX8_status rfl rfl ?_
    exact V.iret omX8_status rfl rfl ⟨rfl, rfl⟩
  · have g3 : ¬ ((-8 : Int64) ≤ r.toInt64 ∧ r.toInt64 ≤ -2) := fun h => h2 (by
      have h' := (inL (-8) (-2) (by decide) (by decide)).mp h
      exact ⟨h'.2, h'.1⟩)
    simp only [s8_status, if_neg h2]
    repeat (first | refine V.s omX8_status rfl rfl ?_ | refine V.gf omX8_status rfl rfl rfl rfl ?_ | refine V.brF omX8_status rfl rfl (by decide) ?_ | refine V.brT omX8_status rfl rfl (by decide) (by decide) ?_ | refine V.cSf omX8_status omX8_isIn rfl rfl (c8_isInN _ g3 _) rfl rfl rfl rfl ?_ | refine V.cVf omX8_status omX8_no rfl rfl (c8_no _ _ (by decide)) rfl rfl rfl rfl rfl rfl ?_)
    exact V.iret omX8_status rfl rfl ⟨rfl, rfl⟩
def wd8 (dg : Int32) (k : Nat) : Nat → Nat → (Nat → Int32) → Nat × (Nat → Int32)
  | 0, s, F => (s, F)
  | m + 1, s, F => if fit8 (kz F k) (pdg dg s) then wd8 dg k m (s + 1) (s8S F k (pdg dg s)) else (s, F)
set_option maxHeartbeats 4000000 in
set_option maxRecDepth 100000 in
theorem word8_loop (d : Nat) {i N : Nat} (hi : i < 6) (hN : N ≤ 15) (dg : Int32) (R : Nat × (Nat → Int32)) : ∀ (m s : Nat) (F : Nat → Int32), s + m = N → R = wd8 dg i m s F →
    V mX8_word (d + 2) 0 0 (fun r h' => h' = hp (va_up A 38 R.2) B ∧ r = some (.int (nI R.1))) 0 0 55 [some (.ref 33), some (.int (nI i)), some (.int dg), some (.int (nI N)), some (.int (nI s))] [] (hp (va_up A 38 F) B) := by
  intro m
  induction m with
  | zero =>
    intro s F hs hR
    have : s = N := by omega
    subst this
    refine V.s omX8_word rfl rfl ?_
    refine V.s omX8_word rfl rfl ?_
    refine V.brT omX8_word rfl rfl Int32.le_rfl (fun h => Int32.not_lt.mpr h) ?_
    refine V.s omX8_word rfl rfl ?_
    subst hR
    exact V.iret omX8_word rfl rfl ⟨rfl, rfl⟩
  | succ m ih =>
    intro s F hs hR
    refine V.s omX8_word rfl rfl ?_
    refine V.s omX8_word rfl rfl ?_
    refine V.brF omX8_word rfl rfl (Int32.not_le.mpr (nI_lt (by omega) (by omega))) ?_
    repeat (first | refine V.s omX8_word rfl rfl ?_)
    have ct := c8_swaps (A := va_up A 38 F) (B := B) d hi (show pdg dg s < 4 from Nat.mod_lt _ (by decide)) (nv_nI (a := i)) (pdg_nv dg s)
    rw [va_up_self, bx_uu] at ct
    by_cases h2 : fit8 (kz F i) (pdg dg s)
    · rw [if_pos h2, if_pos h2] at ct
      simp only [wd8, if_pos h2] at hR
      refine V.cVf omX8_word omX8_swaps rfl rfl ct rfl rfl rfl rfl rfl rfl ?_
      refine V.brF omX8_word rfl rfl (by decide) ?_
      refine V.s omX8_word rfl rfl ?_
      refine V.s omX8_word rfl rfl ?_
      rw [nI_1]
      exact ih (s + 1) _ (by omega) hR
    · rw [if_neg h2, if_neg h2] at ct
      simp only [wd8, if_neg h2] at hR
      refine V.cVf omX8_word omX8_swaps rfl rfl ct rfl rfl rfl rfl rfl rfl ?_
      refine V.brT omX8_word rfl rfl rfl (by decide) ?_
      refine V.s omX8_word rfl rfl ?_
      subst hR
      exact V.iret omX8_word rfl rfl ⟨rfl, rfl⟩
def s8_word (A : Nat → Nat → Int32) (m : Nat) (r dg n : Int32) : Int32 × (Nat → Nat → Int32) := if 0 ≤ r ∧ r < nI m then (if n < 0 then (-4, rmA A 4) else if n ≤ 15 ∧ 0 ≤ dg ∧ dg < (1 <<< ((2 * n) &&& 31)) then (nI (wd8 dg (cl r) (cl n) 0 (A 38)).1, va_up A 38 (wd8 dg (cl r) (cl n) 0 (A 38)).2) else (-7, rmA A 7)) else (-3, rmA A 3)
set_option maxHeartbeats 4000000 in
set_option maxRecDepth 100000 in
theorem c8_word (d : Nat) {m : Nat} (hm : A 33 6 = nI m) (h6 : m ≤ 6) (r dg n : Int32) : C mX8_word (d + 2) 0 0 [.ref 33, .int r, .int dg, .int n] (hp A B) (fun r' h' => h' = hp (s8_word A m r dg n).2 B ∧ r' = some (.int (s8_word A m r dg n).1)) := by
  refine C.of [some (.ref 33), some (.int r), some (.int dg), some (.int n), none] omX8_word rfl rfl rfl ?_
  by_cases h1 : 0 ≤ r ∧ r < A 33 6
  · repeat (first | refine V.s omX8_word rfl rfl ?_ | refine V.gf omX8_word rfl rfl rfl rfl ?_ | refine V.brF omX8_word rfl rfl (by decide) ?_ | refine V.brT omX8_word rfl rfl (by decide) (by decide) ?_ | refine V.cVf omX8_word omX8_isKiss rfl rfl (c8_ikY _ h1) rfl rfl rfl rfl rfl rfl ?_)
    rw [hm] at h1
    simp only [s8_word, if_pos h1]
    by_cases hn : n < 0
    · simp only [if_pos hn]
      refine V.brF omX8_word rfl rfl (Int32.not_le.mpr hn) ?_
      repeat (first | refine V.s omX8_word rfl rfl ?_ | refine V.gf omX8_word rfl rfl rfl rfl ?_ | refine V.cVf omX8_word omX8_no rfl rfl (c8_no _ _ (by decide)) rfl rfl rfl rfl rfl rfl ?_)
      exact V.iret omX8_word rfl rfl ⟨rfl, rfl⟩
    simp only [if_neg hn]
    refine V.brT omX8_word rfl rfl (Int32.not_lt.mp hn) (fun _ h => hn h) ?_
    refine V.s omX8_word rfl rfl ?_
    refine V.s omX8_word rfl rfl ?_
    have bad : ¬ (n ≤ 15 ∧ 0 ≤ dg ∧ dg < (1 <<< ((2 * n) &&& 31))) → V mX8_word (d + 2) 0 0 (fun r' h' => h' = hp (if n ≤ 15 ∧ 0 ≤ dg ∧ dg < (1 <<< ((2 * n) &&& 31)) then (nI (wd8 dg (cl r) (cl n) 0 (A 38)).1, va_up A 38 (wd8 dg (cl r) (cl n) 0 (A 38)).2) else (-7, rmA A 7)).2 B ∧ r' = some (.int (if n ≤ 15 ∧ 0 ≤ dg ∧ dg < (1 <<< ((2 * n) &&& 31)) then (nI (wd8 dg (cl r) (cl n) 0 (A 38)).1, va_up A 38 (wd8 dg (cl r) (cl n) 0 (A 38)).2) else (-7, rmA A 7)).1)) 0 0 45 [some (.ref 33), some (.int r), some (.int dg), some (.int n), none] [] (hp A B) := by
      intro hb
      rw [if_neg hb]
      repeat (first | refine V.s omX8_word rfl rfl ?_ | refine V.gf omX8_word rfl rfl rfl rfl ?_ | refine V.cVf omX8_word omX8_no rfl rfl (c8_no _ _ (by decide)) rfl rfl rfl rfl rfl rfl ?_)
      exact V.iret omX8_word rfl rfl ⟨rfl, rfl⟩
    refine V.br omX8_word rfl rfl (fun g1 => bad (fun h => Int32.not_lt.mpr h.1 g1)) (fun g1 => ?_)
    refine V.s omX8_word rfl rfl ?_
    refine V.br omX8_word rfl rfl (fun g2 => bad (fun h => Int32.not_lt.mpr h.2.1 g2)) (fun g2 => ?_)
    repeat (first | refine V.s omX8_word rfl rfl ?_)
    refine V.br omX8_word rfl rfl (fun g3 => ?_) (fun g3 => bad (fun h => Int32.not_lt.mpr g3 h.2.2))
    rw [if_pos ⟨g1, g2, g3⟩]
    refine V.s omX8_word rfl rfl ?_
    refine V.s omX8_word rfl rfl ?_
    obtain ⟨i, hi, rfl⟩ := rng (by omega) h1
    obtain ⟨N, hN, rfl⟩ := rngl (m := 15) (by decide) (Int32.not_lt.mp hn) g1
    simp only [cl_nI (show i < 20 by omega), cl_nI (show N < 20 by omega)]
    have key := word8_loop (A := A) (B := B) d (show i < 6 by omega) hN dg _ N 0 (A 38) (by omega) rfl
    rw [va_self] at key
    exact key
  · repeat (first | refine V.s omX8_word rfl rfl ?_ | refine V.gf omX8_word rfl rfl rfl rfl ?_ | refine V.brF omX8_word rfl rfl (by decide) ?_ | refine V.brT omX8_word rfl rfl (by decide) (by decide) ?_ | refine V.cVf omX8_word omX8_isKiss rfl rfl (c8_ikN _ h1) rfl rfl rfl rfl rfl rfl ?_ | refine V.cVf omX8_word omX8_no rfl rfl (c8_no _ _ (by decide)) rfl rfl rfl rfl rfl rfl ?_)
    rw [hm] at h1
    exact V.iret omX8_word rfl rfl (by simp only [s8_word, if_neg h1] <;> (refine ⟨?_, ?_⟩ <;> first | rfl | trivial))
end MD7
