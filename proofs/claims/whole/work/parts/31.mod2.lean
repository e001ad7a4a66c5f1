section MD2
variable {A : Nat → Nat → Int32} {B : Nat → Nat → Int64}
set_option maxHeartbeats 4000000 in
set_option maxRecDepth 100000 in
theorem c8_productOf (d : Nat) {q q2 len len2 i j : Nat} {f g : Nat → Int32} {h : hp_T} (hq : h[q]? = some (.inl (len, .inl f))) (hq2 : h[q2]? = some (.inl (len2, .inl g))) {a b : Int32} (ha : NV a i) (hb : NV b j) (hi : i + 3 < len) (hj : j + 3 < len2) (hl : len < 2 ^ 31) (hl2 : len2 < 2 ^ 31) : C mX8_productOf d 0 0 [.ref q, .int a, .ref q2, .int b] h (fun r h' => h' = h ∧ r = some (.long (prd f g i j))) := by
  unfold NV at ha hb
  subst ha hb
  refine C.of [some (.ref q), some (.int (nI i)), some (.ref q2), some (.int (nI j)), none, none] omX8_productOf rfl rfl rfl ?_
  have e1 : ∀ c, i + c < len → ix (nI i + nI c) (i + c) len := fun c hc => ixN (nv_add nv_nI nv_nI) hc hl
  have e2 : ∀ c, j + c < len2 → ix (nI j + nI c) (j + c) len2 := fun c hc => ixN (nv_add nv_nI nv_nI) hc hl2
  repeat (first | refine V.s omX8_productOf rfl rfl ?_ | refine V.ial omX8_productOf rfl hq (ixN nv_nI (show i < len by omega) hl) ?_ | refine V.ial omX8_productOf rfl hq2 (ixN nv_nI (show j < len2 by omega) hl2) ?_ | refine V.ial omX8_productOf rfl hq (e1 2 (by omega)) ?_ | refine V.ial omX8_productOf rfl hq (e1 3 (by omega)) ?_ | refine V.ial omX8_productOf rfl hq (e1 1 (by omega)) ?_ | refine V.ial omX8_productOf rfl hq2 (e2 2 (by omega)) ?_ | refine V.ial omX8_productOf rfl hq2 (e2 3 (by omega)) ?_ | refine V.ial omX8_productOf rfl hq2 (e2 1 (by omega)) ?_)
  exact V.lret omX8_productOf rfl rfl ⟨rfl, rfl⟩
def s8_product (A : Nat → Nat → Int32) (n : Nat) (r o : Int32) : Int64 × (Nat → Nat → Int32) := if (0 ≤ r ∧ r < nI n) ∧ (0 ≤ o ∧ o < nI n) then (prd (A 34) (A 34) (4 * cl r) (4 * cl o), A) else (0, rmA A 3)
theorem c8_pr (d : Nat) {i j : Nat} (hi : i < 20) (hj : j < 20) : C mX8_productOf d 0 0 [.ref 34, .int (4 * nI i), .ref 34, .int (4 * nI j)] (hp A B) (fun r h' => h' = hp A B ∧ r = some (.long (prd (A 34) (A 34) (4 * i) (4 * j)))) := c8_productOf d (len := 80) (len2 := 80) rfl rfl (nv_mul nv_lit nv_nI) (nv_mul nv_lit nv_nI) (by omega) (by omega) (by decide) (by decide)
set_option maxHeartbeats 4000000 in
set_option maxRecDepth 100000 in
theorem c8_product (d : Nat) {n : Nat} (hn : A 33 5 = nI n) (h20 : n ≤ 20) (r o : Int32) : C mX8_product (d + 2) 0 0 [.ref 33, .int r, .int o] (hp A B) (fun r' h' => h' = hp (s8_product A n r o).2 B ∧ r' = some (.long (s8_product A n r o).1)) := by
  refine C.of [some (.ref 33), some (.int r), some (.int o)] omX8_product rfl rfl rfl ?_
  by_cases h1 : 0 ≤ r ∧ r < A 33 5
  · by_cases h2 : 0 ≤ o ∧ o < A 33 5
    · repeat (first | refine V.s omX8_product rfl rfl ?_ | refine V.gf omX8_product rfl rfl rfl rfl ?_ | refine V.brF omX8_product rfl rfl (by decide) ?_ | refine V.brT omX8_product rfl rfl (by decide) (by decide) ?_ | refine V.cVf omX8_product omX8_isRound rfl rfl (c8_irY _ h1) rfl rfl rfl rfl rfl rfl ?_ | refine V.cVf omX8_product omX8_isRound rfl rfl (c8_irY _ h2) rfl rfl rfl rfl rfl rfl ?_)
      rw [hn] at h1 h2
      have hp2 : (0 ≤ r ∧ r < nI n) ∧ (0 ≤ o ∧ o < nI n) := ⟨h1, h2⟩
      simp only [s8_product, if_pos hp2]
      obtain ⟨i, hi, rfl⟩ := rng (by omega) h1
      obtain ⟨j, hj, rfl⟩ := rng (by omega) h2
      simp only [cl_nI (show i < 20 by omega), cl_nI (show j < 20 by omega)]
      refine V.cSf omX8_product omX8_productOf rfl rfl (c8_pr _ (show i < 20 by omega) (show j < 20 by omega)) rfl rfl rfl rfl ?_
      exact V.lret omX8_product rfl rfl ⟨rfl, rfl⟩
    · repeat (first | refine V.s omX8_product rfl rfl ?_ | refine V.gf omX8_product rfl rfl rfl rfl ?_ | refine V.brF omX8_product rfl rfl (by decide) ?_ | refine V.brT omX8_product rfl rfl (by decide) (by decide) ?_ | refine V.cVf omX8_product omX8_isRound rfl rfl (c8_irY _ h1) rfl rfl rfl rfl rfl rfl ?_ | refine V.cVf omX8_product omX8_isRound rfl rfl (c8_irN _ h2) rfl rfl rfl rfl rfl rfl ?_ | refine V.cVf omX8_product omX8_none rfl rfl (c8_none _ _ (by decide)) rfl rfl rfl rfl rfl rfl ?_)
      rw [hn] at h1 h2
      exact V.lret omX8_product rfl rfl (by simp only [s8_product, if_neg (show ¬ ((0 ≤ r ∧ r < nI n) ∧ (0 ≤ o ∧ o < nI n)) from fun h => h2 h.2)] <;> (refine ⟨?_, ?_⟩ <;> first | rfl | trivial))
  · repeat (first | refine V.s omX8_product rfl rfl ?_ | refine V.gf omX8_product rfl rfl rfl rfl ?_ | refine V.brF omX8_product rfl rfl (by decide) ?_ | refine V.brT omX8_product rfl rfl (by decide) (by decide) ?_ | refine V.cVf omX8_product omX8_isRound rfl rfl (c8_irN _ h1) rfl rfl rfl rfl rfl rfl ?_ | refine V.cVf omX8_product omX8_none rfl rfl (c8_none _ _ (by decide)) rfl rfl rfl rfl rfl rfl ?_)
    rw [hn] at h1
    exact V.lret omX8_product rfl rfl (by simp only [s8_product, if_neg (show ¬ ((0 ≤ r ∧ r < nI n) ∧ (0 ≤ o ∧ o < nI n)) from fun h => h1 h.1)] <;> (refine ⟨?_, ?_⟩ <;> first | rfl | trivial))
def mt8 (v : Int64) : Int32 := if v = -2 then 1 else if v = 2 then 2 else if v = 0 then 3 else if v = 1 ∨ v = -1 then 4 else if v < 0 then 5 else 6
set_option maxHeartbeats 4000000 in
set_option maxRecDepth 100000 in
theorem meet8_tail (d : Nat) (a b : Int32) {i j : Nat} (hi : i < 20) (hj : j < 20) : V mX8_meet (d + 2) 0 0 (fun r' h' => h' = hp A B ∧ r' = some (.int (mt8 (prd (A 34) (A 34) (4 * i) (4 * j))))) 0 0 95 [some (.ref 33), some (.int a), some (.int b), some (.int 0), some (.int 4), none] [.int (4 * nI j), .ref 34, .int (4 * nI i), .ref 34] (hp A B) := by
  refine V.cSf omX8_meet omX8_productOf rfl rfl (c8_pr _ hi hj) rfl rfl rfl rfl ?_
  generalize prd (A 34) (A 34) (4 * i) (4 * j) = v
  repeat' (first | refine V.s omX8_meet rfl rfl ?_ | refine V.gf omX8_meet rfl rfl rfl rfl ?_ | refine V.br omX8_meet rfl rfl (fun hc => ?_) (fun hc => ?_))
  all_goals refine V.iret omX8_meet rfl rfl ⟨rfl, ?_⟩
  all_goals simp only [lgc_lt, lgc_eq, lgc_ge, ← Int64.not_lt] at *
  all_goals simp [mt8, *]
def s8_meet (A : Nat → Nat → Int32) (n : Nat) (r o : Int32) : Int32 × (Nat → Nat → Int32) := if (0 ≤ r ∧ r < nI n) ∧ (0 ≤ o ∧ o < nI n) then (if alF (A 34) (cl r) (cl o) = 1 then 0 else mt8 (prd (A 34) (A 34) (4 * cl r) (4 * cl o)), A) else (-3, rmA A 3)
set_option maxHeartbeats 4000000 in
set_option maxRecDepth 100000 in
theorem c8_meet (d : Nat) {n : Nat} (hn : A 33 5 = nI n) (h20 : n ≤ 20) (r o : Int32) : C mX8_meet (d + 2) 0 0 [.ref 33, .int r, .int o] (hp A B) (fun r' h' => h' = hp (s8_meet A n r o).2 B ∧ r' = some (.int (s8_meet A n r o).1)) := by
  refine C.of [some (.ref 33), some (.int r), some (.int o), none, none, none] omX8_meet rfl rfl rfl ?_
  by_cases h1 : 0 ≤ r ∧ r < A 33 5
  · by_cases h2 : 0 ≤ o ∧ o < A 33 5
    · refine V.s omX8_meet rfl rfl ?_
      refine V.s omX8_meet rfl rfl ?_
      refine V.cVf omX8_meet omX8_isRound rfl rfl (c8_irY _ h1) rfl rfl rfl rfl rfl rfl ?_
      refine V.brF omX8_meet rfl rfl (by decide) ?_
      refine V.s omX8_meet rfl rfl ?_
      refine V.s omX8_meet rfl rfl ?_
      refine V.cVf omX8_meet omX8_isRound rfl rfl (c8_irY _ h2) rfl rfl rfl rfl rfl rfl ?_
      refine V.brT omX8_meet rfl rfl (by decide) (by decide) ?_
      rw [hn] at h1 h2
      have hp2 : (0 ≤ r ∧ r < nI n) ∧ (0 ≤ o ∧ o < nI n) := ⟨h1, h2⟩
      simp only [s8_meet, if_pos hp2]
      obtain ⟨i, hi, rfl⟩ := rng (by omega) h1
      obtain ⟨j, hj, rfl⟩ := rng (by omega) h2
      simp only [cl_nI (show i < 20 by omega), cl_nI (show j < 20 by omega)]
      by_cases ha : alF (A 34) i j = 1
      · rw [if_pos ha]
        have hh : A 34 (4 * i + 0) = A 34 (4 * j + 0) ∧ A 34 (4 * i + 1) = A 34 (4 * j + 1) ∧ A 34 (4 * i + 2) = A 34 (4 * j + 2) ∧ A 34 (4 * i + 3) = A 34 (4 * j + 3) := by
          unfold alF at ha
          split at ha
          · assumption
          · exact absurd ha (by decide)
        obtain ⟨g0, g1, g2, g3⟩ := hh
        repeat (first | refine V.s omX8_meet rfl rfl ?_ | refine V.gf omX8_meet rfl rfl rfl rfl ?_ | simp only [Int32.reduceAdd, Int32.reduceMul, Int32.reduceSub] | refine V.brF omX8_meet rfl rfl (by decide) ?_ | refine V.brT omX8_meet rfl rfl (by decide) (by decide) ?_ | refine V.ial omX8_meet rfl rfl (ixN (nv_add (nv_mul nv_lit nv_nI) nv_lit) (by omega) (by decide)) ?_ | refine V.brF omX8_meet rfl rfl (fun h => h g0) ?_ | refine V.brF omX8_meet rfl rfl (fun h => h g1) ?_ | refine V.brF omX8_meet rfl rfl (fun h => h g2) ?_ | refine V.brF omX8_meet rfl rfl (fun h => h g3) ?_)
        exact V.iret omX8_meet rfl rfl ⟨rfl, rfl⟩
      · rw [if_neg ha]
        have fin := meet8_tail (A := A) (B := B) d (nI i) (nI j) (show i < 20 by omega) (show j < 20 by omega)
        repeat' (first | refine V.s omX8_meet rfl rfl ?_ | refine V.gf omX8_meet rfl rfl rfl rfl ?_ | simp only [Int32.reduceAdd, Int32.reduceMul, Int32.reduceSub] | refine V.brF omX8_meet rfl rfl (by decide) ?_ | refine V.brT omX8_meet rfl rfl (by decide) (by decide) ?_ | refine V.ial omX8_meet rfl rfl (ixN (nv_add (nv_mul nv_lit nv_nI) nv_lit) (by omega) (by decide)) ?_ | refine V.br omX8_meet rfl rfl (fun hc => ?_) (fun hc => ?_))
        all_goals first | (exfalso; apply ha; unfold alF; rw [if_pos]; exact ⟨by assumption, by assumption, by assumption, by assumption⟩) | exact fin
    · repeat (first | refine V.s omX8_meet rfl rfl ?_ | refine V.gf omX8_meet rfl rfl rfl rfl ?_ | refine V.brF omX8_meet rfl rfl (by decide) ?_ | refine V.brT omX8_meet rfl rfl (by decide) (by decide) ?_ | refine V.cVf omX8_meet omX8_isRound rfl rfl (c8_irY _ h1) rfl rfl rfl rfl rfl rfl ?_ | refine V.cVf omX8_meet omX8_isRound rfl rfl (c8_irN _ h2) rfl rfl rfl rfl rfl rfl ?_ | refine V.cVf omX8_meet omX8_no rfl rfl (c8_no _ _ (by decide)) rfl rfl rfl rfl rfl rfl ?_)
      rw [hn] at h1 h2
      exact V.iret omX8_meet rfl rfl (by simp only [s8_meet, if_neg (show ¬ ((0 ≤ r ∧ r < nI n) ∧ (0 ≤ o ∧ o < nI n)) from fun h => h2 h.2)] <;> (refine ⟨?_, ?_⟩ <;> first | rfl | trivial))
  · repeat (first | refine V.s omX8_meet rfl rfl ?_ | refine V.gf omX8_meet rfl rfl rfl rfl ?_ | refine V.brF omX8_meet rfl rfl (by decide) ?_ | refine V.brT omX8_meet rfl rfl (by decide) (by decide) ?_ | refine V.cVf omX8_meet omX8_isRound rfl rfl (c8_irN _ h1) rfl rfl rfl rfl rfl rfl ?_ | refine V.cVf omX8_meet omX8_no rfl rfl (c8_no _ _ (by decide)) rfl rfl rfl rfl rfl rfl ?_)
    rw [hn] at h1
    exact V.iret omX8_meet rfl rfl (by simp only [s8_meet, if_neg (show ¬ ((0 ≤ r ∧ r < nI n) ∧ (0 ≤ o ∧ o < nI n)) from fun h => h1 h.1)] <;> (refine ⟨?_, ?_⟩ <;> first | rfl | trivial))
theorem c8_mirrored (d : Nat) {a b e : Int32} {i j c : Nat} (ha : NV a i) (hb : NV b j) (he : NV e c) (hi : i < 20) (hj : j < 20) (hc : c < 4) (v : Int64) : C mX8_mirrored d 0 0 [.ref 33, .int a, .int b, .int e, .long v] (hp A B) (fun r h' => h' = hp A B ∧ r = some (.long (mrr (A 34) i j c v))) := by
  unfold NV at ha hb he
  subst ha hb he
  refine C.of [some (.ref 33), some (.int (nI i)), some (.int (nI j)), some (.int (nI c)), some (.long v), none] omX8_mirrored rfl rfl rfl ?_
  repeat (first | refine V.s omX8_mirrored rfl rfl ?_ | refine V.gf omX8_mirrored rfl rfl rfl rfl ?_ | refine V.ial omX8_mirrored rfl rfl (ixN (nv_add (nv_mul nv_lit nv_nI) nv_nI) (by omega) (by decide)) ?_)
  exact V.lret omX8_mirrored rfl rfl ⟨rfl, rfl⟩
abbrev mf8 (f : Nat → Int32) (i j : Nat) : Prop := (-4000000000 ≤ prd f f (4 * i) (4 * j) ∧ prd f f (4 * i) (4 * j) ≤ 4000000000) ∧ fitF (mrr f i j 0 (prd f f (4 * i) (4 * j))) = 1 ∧ fitF (mrr f i j 1 (prd f f (4 * i) (4 * j))) = 1 ∧ fitF (mrr f i j 2 (prd f f (4 * i) (4 * j))) = 1 ∧ fitF (mrr f i j 3 (prd f f (4 * i) (4 * j))) = 1
def m8A (A : Nat → Nat → Int32) (n i j : Nat) : Nat → Nat → Int32 := adA A n 3 (mrr (A 34) i j 0 (prd (A 34) (A 34) (4 * i) (4 * j))).toInt32 (mrr (A 34) i j 1 (prd (A 34) (A 34) (4 * i) (4 * j))).toInt32 (mrr (A 34) i j 2 (prd (A 34) (A 34) (4 * i) (4 * j))).toInt32 (mrr (A 34) i j 3 (prd (A 34) (A 34) (4 * i) (4 * j))).toInt32
def s8_mirror (A : Nat → Nat → Int32) (n : Nat) (r o : Int32) : Int32 × (Nat → Nat → Int32) := if (0 ≤ r ∧ r < nI n) ∧ (0 ≤ o ∧ o < nI n) then (if n < 20 ∧ mf8 (A 34) (cl r) (cl o) then (nI n, m8A A n (cl r) (cl o)) else (-8, rmA A 8)) else (-3, rmA A 3)
def inF (v : Int64) : Int32 := if (-4000000000 : Int64) ≤ v ∧ v ≤ 4000000000 then 1 else 0
theorem inF_ne {v : Int64} : ¬ inF v = 0 ↔ (-4000000000 : Int64) ≤ v ∧ v ≤ 4000000000 := by
  unfold inF
  split
  · exact ⟨fun _ => by assumption, fun _ => by decide⟩
  · exact ⟨fun h => absurd rfl h, fun h => absurd h (by assumption)⟩
theorem inF_eq {v : Int64} : inF v = 0 ↔ ¬ ((-4000000000 : Int64) ≤ v ∧ v ≤ 4000000000) := by
  rw [← inF_ne, Classical.not_not]
set_option maxHeartbeats 4000000 in
set_option maxRecDepth 100000 in
theorem mirror8_put (d : Nat) {n i j : Nat} (hn : A 33 5 = nI n) (h20 : n ≤ 20) (hi : i < 20) (hj : j < 20) (s5 s6 : Int32) : V mX8_mirror (d + 2) 0 0 (fun r' h' => h' = hp (if n < 20 then (nI n, m8A A n i j) else (-8, rmA A 8)).2 B ∧ r' = some (.int (if n < 20 then (nI n, m8A A n i j) else (-8, rmA A 8)).1)) 0 0 105 [some (.ref 33), some (.int (nI i)), some (.int (nI j)), some (.long (prd (A 34) (A 34) (4 * i) (4 * j))), none, some (.int s5), some (.int s6)] [] (hp A B) := by
  repeat (first | refine V.s omX8_mirror rfl rfl ?_ | refine V.gf omX8_mirror rfl rfl rfl rfl ?_ | refine V.cVf omX8_mirror omX8_mirrored rfl rfl (c8_mirrored _ nv_nI nv_nI nv_lit hi hj (by decide) _) rfl rfl rfl rfl rfl rfl ?_)
  by_cases h2 : n < 20
  · simp only [if_pos h2]
    refine V.cVf omX8_mirror omX8_adds rfl rfl (c8_addsN d hn h2 _ _ _ _ _) rfl rfl rfl rfl rfl rfl ?_
    exact V.iret omX8_mirror rfl rfl ⟨rfl, rfl⟩
  · simp only [if_neg h2]
    refine V.cVf omX8_mirror omX8_adds rfl rfl (c8_addsF d (hn.trans (n20 h20 h2)) _ _ _ _ _) rfl rfl rfl rfl rfl rfl ?_
    exact V.iret omX8_mirror rfl rfl ⟨rfl, rfl⟩
end MD2
