section MDE
variable {A : Nat → Nat → Int32} {B : Nat → Nat → Int64}
theorem V.pfL {M : mt_T} {d mc ms k n pc np j : Nat} {Q : Option Value → hp_T → Prop} {L : List (Option Value)} {st : List Value} {v : Int64} (hM : mOK M) (hi : lkf (m_tab M) pc = some (.putfield j, np, 401)) (kk : V M d mc ms Q k n np L st (hp A (va_up B 33 (vp_updL (B 33) 17 v)))) : V M d mc ms Q k n pc L (.long v :: .ref 33 :: st) (hp A B) :=
  V.pf _ hM hi rfl rfl rfl rfl (show (17 : Nat) < 29 by decide) rfl kk
theorem V.pfL7 {M : mt_T} {d mc ms k n pc np j : Nat} {Q : Option Value → hp_T → Prop} {L : List (Option Value)} {st : List Value} {v : Int64} (hM : mOK M) (hi : lkf (m_tab M) pc = some (.putfield j, np, 71)) (kk : V M d mc ms Q k n np L st (hp A (va_up B 23 (vp_updL (B 23) 7 v)))) : V M d mc ms Q k n pc L (.long v :: .ref 23 :: st) (hp A B) :=
  V.pf _ hM hi rfl rfl rfl rfl (show (7 : Nat) < 10 by decide) rfl kk
theorem upd_ne {f : Nat → Int32} {k j : Nat} {x : Int32} (h : j ≠ k) : upd f k x j = f j := if_neg h
def r24 (v : Int64) : Int64 := v - v / 24 * 24
def rb8 (v : Int64) : Int32 := (1 : Int32) <<< ((r24 (r24 v + 24)).toInt32 &&& 31)
def cn3 (F : Nat → Int32) (v : Int64) (ex : Int32) : Nat → Int32 := upd (upd (upd F 13 (F 13 + 1)) 14 (F 14 + (if v = ex.toInt64 then 1 else 0))) 15 (F 15 ||| rb8 v)
def cnF (F : Nat → Int32) (v : Int64) (ex ab : Int32) : Nat → Int32 := if ab.toInt64 < v ∧ (F 20 = 0 ∨ v < (F 16).toInt64) then upd (upd (cn3 F v ex) 16 v.toInt32) 20 1 else cn3 F v ex
def cnG (G : Nat → Int64) (v : Int64) : Nat → Int64 := vp_updL G 17 (G 17 + v)
set_option maxHeartbeats 4000000 in
set_option maxRecDepth 100000 in
theorem counts_tail (d : Nat) (v : Int64) (ex ab : Int32) (F : Nat → Int32) (BB : Nat → Nat → Int64) : V mX8_counts d 0 0 (fun r h' => h' = hp (va_up A 33 (if ab.toInt64 < v ∧ (F 20 = 0 ∨ v < (F 16).toInt64) then upd (upd F 16 v.toInt32) 20 1 else F)) BB ∧ r = none) 0 0 66 [some (.ref 33), some (.long v), none, some (.int ex), some (.int ab)] [] (hp (va_up A 33 F) BB) := by
  iterate 4 (refine V.s omX8_counts rfl rfl ?_)
  by_cases h1 : ab.toInt64 < v
  · refine V.brF omX8_counts rfl rfl (fun h => Int64.not_le.mpr h1 (lgc_le.mp h)) ?_
    repeat (first | refine V.s omX8_counts rfl rfl ?_ | refine V.gf omX8_counts rfl rfl rfl rfl ?_)
    rw [va_up_self]
    by_cases h2 : F 20 = 0
    · refine V.brT omX8_counts rfl rfl h2 (fun h g => g h) ?_
      repeat (first | refine V.s omX8_counts rfl rfl ?_ | refine V.gf omX8_counts rfl rfl rfl rfl ?_ | refine V.pfH omX8_counts rfl rfl rfl rfl rfl rfl rfl ?_)
      rw [bx_uu, bx_uu, va_up_self, va_up_self]
      exact V.vret omX8_counts rfl rfl ⟨by rw [if_pos ⟨h1, Or.inl h2⟩], rfl⟩
    · refine V.brF omX8_counts rfl rfl h2 ?_
      repeat (first | refine V.s omX8_counts rfl rfl ?_ | refine V.gf omX8_counts rfl rfl rfl rfl ?_)
      rw [va_up_self]
      by_cases h3 : v < (F 16).toInt64
      · refine V.brF omX8_counts rfl rfl (fun h => Int64.not_lt.mpr (lgc_ge.mp h) h3) ?_
        repeat (first | refine V.s omX8_counts rfl rfl ?_ | refine V.gf omX8_counts rfl rfl rfl rfl ?_ | refine V.pfH omX8_counts rfl rfl rfl rfl rfl rfl rfl ?_)
        rw [bx_uu, bx_uu, va_up_self, va_up_self]
        exact V.vret omX8_counts rfl rfl ⟨by rw [if_pos ⟨h1, Or.inr h3⟩], rfl⟩
      · refine V.brT omX8_counts rfl rfl (lgc_ge.mpr (Int64.not_lt.mp h3)) (fun h => Int32.not_lt.mpr h) ?_
        exact V.vret omX8_counts rfl rfl ⟨by rw [if_neg (fun h => h.2.elim h2 h3)], rfl⟩
  · refine V.brT omX8_counts rfl rfl (lgc_le.mpr (Int64.not_lt.mp h1)) (fun h => Int32.not_lt.mpr h) ?_
    exact V.vret omX8_counts rfl rfl ⟨by rw [if_neg (fun h => h1 h.1)], rfl⟩
set_option maxHeartbeats 4000000 in
set_option maxRecDepth 100000 in
theorem c8_counts (d : Nat) (v : Int64) (ex ab : Int32) : C mX8_counts d 0 0 [.ref 33, .long v, .int ex, .int ab] (hp A B) (fun r h' => h' = hp (va_up A 33 (cnF (A 33) v ex ab)) (va_up B 33 (cnG (B 33) v)) ∧ r = none) := by
  refine C.of [some (.ref 33), some (.long v), none, some (.int ex), some (.int ab)] omX8_counts rfl rfl rfl ?_
  repeat (first | refine V.s omX8_counts rfl rfl ?_ | refine V.gf omX8_counts rfl rfl rfl rfl ?_ | refine V.pfH omX8_counts rfl rfl rfl rfl rfl rfl rfl ?_)
  refine V.pfL omX8_counts rfl ?_
  repeat (first | refine V.s omX8_counts rfl rfl ?_ | refine V.gf omX8_counts rfl rfl rfl rfl ?_)
  have fin : ∀ x : Int32, x = (if v = ex.toInt64 then 1 else 0) → V mX8_counts d 0 0 (fun r h' => h' = hp (va_up A 33 (cnF (A 33) v ex ab)) (va_up B 33 (cnG (B 33) v)) ∧ r = none) 0 0 37 [some (.ref 33), some (.long v), none, some (.int ex), some (.int ab)] [.int x, .int (A 33 14), .ref 33] (hp (va_up A 33 (upd (A 33) 13 (A 33 13 + 1))) (va_up B 33 (vp_updL (B 33) 17 (B 33 17 + v)))) := by
    intro x hx
    subst hx
    refine V.s omX8_counts rfl rfl ?_
    refine V.pfH omX8_counts rfl rfl rfl rfl rfl rfl rfl ?_
    repeat (first | refine V.s omX8_counts rfl rfl ?_ | refine V.gf omX8_counts rfl rfl rfl rfl ?_)
    refine V.lrem omX8_counts rfl (by decide) ?_
    iterate 2 (refine V.s omX8_counts rfl rfl ?_)
    refine V.s omX8_counts rfl rfl ?_
    refine V.lrem omX8_counts rfl (by decide) ?_
    iterate 3 (refine V.s omX8_counts rfl rfl ?_)
    refine V.pfH omX8_counts rfl rfl rfl rfl rfl rfl rfl ?_
    rw [bx_uu, bx_uu]
    have key := counts_tail (A := A) d v ex ab (cn3 (A 33) v ex) (va_up B 33 (cnG (B 33) v))
    exact key
  by_cases h1 : v = ex.toInt64
  · refine V.brF omX8_counts rfl rfl (fun h => h (lgc_eq.mpr h1)) ?_
    iterate 2 (refine V.s omX8_counts rfl rfl ?_)
    exact fin 1 (by rw [if_pos h1])
  · refine V.brT omX8_counts rfl rfl (fun h => h1 (lgc_eq.mp h)) (fun h => h) ?_
    refine V.s omX8_counts rfl rfl ?_
    exact fin 0 (by rw [if_neg h1])
def mi (P : Nat → Int32) : Nat → Nat → Int32
  | 0, _ => 1
  | n + 1, j => if ¬ mi P n j = 0 ∧ ¬ P n = nI j then 1 else 0
theorem mi_01 (P : Nat → Int32) (n j : Nat) : mi P n j = 0 ∨ mi P n j = 1 := by
  cases n with
  | zero => exact Or.inr rfl
  | succ n => unfold mi; split <;> simp
set_option maxHeartbeats 4000000 in
set_option maxRecDepth 100000 in
theorem meets_in (d : Nat) {n j : Nat} (hn : n ≤ 400) {Q : Option Value → hp_T → Prop} (kk : V mX8_meets d 0 0 Q 0 0 45 [some (.ref 33), some (.int (nI n)), some (.int (nI j)), some (.int (mi (A 45) n j)), some (.int (nI n))] [] (hp A B)) : ∀ (t k : Nat), k + t = n → V mX8_meets d 0 0 Q 0 0 12 [some (.ref 33), some (.int (nI n)), some (.int (nI j)), some (.int (mi (A 45) k j)), some (.int (nI k))] [] (hp A B) := by
  intro t
  induction t with
  | zero =>
    intro k hk
    have : k = n := by omega
    subst this
    iterate 2 (refine V.s omX8_meets rfl rfl ?_)
    refine V.brT omX8_meets rfl rfl Int32.le_rfl (fun h => Int32.not_lt.mpr h) ?_
    exact kk
  | succ t ih =>
    intro k hk
    iterate 2 (refine V.s omX8_meets rfl rfl ?_)
    refine V.brF omX8_meets rfl rfl (Int32.not_le.mpr (nI_lt (by omega) (by omega))) ?_
    refine V.s omX8_meets rfl rfl ?_
    have ih := ih (k + 1) (by omega)
    rw [mi] at ih
    by_cases h1 : mi (A 45) k j = 0
    · rw [if_neg (fun h => h.1 h1)] at ih
      refine V.brT omX8_meets rfl rfl h1 (fun h g => g h) ?_
      iterate 4 (refine V.s omX8_meets rfl rfl ?_)
      rw [nI_1]
      exact ih
    · refine V.brF omX8_meets rfl rfl h1 ?_
      repeat (first | refine V.s omX8_meets rfl rfl ?_ | refine V.gf omX8_meets rfl rfl rfl rfl ?_ | refine V.ial omX8_meets rfl rfl (ixN nv_nI (by omega) (by decide)) ?_)
      by_cases h2 : A 45 k = nI j
      · rw [if_neg (fun h => h.2 h2)] at ih
        refine V.brT omX8_meets rfl rfl h2 (fun h g => g h) ?_
        iterate 4 (refine V.s omX8_meets rfl rfl ?_)
        rw [nI_1]
        exact ih
      · rw [if_pos ⟨h1, h2⟩] at ih
        refine V.brF omX8_meets rfl rfl h2 ?_
        iterate 5 (refine V.s omX8_meets rfl rfl ?_)
        rw [nI_1]
        exact ih
set_option maxHeartbeats 4000000 in
set_option maxRecDepth 100000 in
theorem meets_st (d : Nat) {n j : Nat} (hn : n ≤ 400) (hj : j < 4) (T : Nat → Int32) (v3 v4 : Option Value) {Q : Option Value → hp_T → Prop} (kk : ∀ x y, V mX8_meets d 0 0 Q 0 0 2 [some (.ref 33), some (.int (nI n)), some (.int (nI (j + 1))), some (.int x), some (.int y)] [] (hp (va_up A 44 (upd T j (T j + mi (A 45) n j))) B)) : V mX8_meets d 0 0 Q 0 0 2 [some (.ref 33), some (.int (nI n)), some (.int (nI j)), v3, v4] [] (hp (va_up A 44 T) B) := by
  iterate 2 (refine V.s omX8_meets rfl rfl ?_)
  refine V.brF omX8_meets rfl rfl (by rw [nIl_le 4 (by omega) (by decide)]; omega) ?_
  iterate 4 (refine V.s omX8_meets rfl rfl ?_)
  refine meets_in (A := va_up A 44 T) d (n := n) (j := j) hn ?_ n 0 (by omega)
  rw [va_up_ne _ _ (show (45 : Nat) ≠ 44 by decide)]
  repeat (first | refine V.s omX8_meets rfl rfl ?_ | refine V.gf omX8_meets rfl rfl rfl rfl ?_ | refine V.ial omX8_meets rfl rfl (ixN nv_nI (by omega) (by decide)) ?_)
  rw [va_up_self]
  have fin : ∀ z : Int32, z = mi (A 45) n j → V mX8_meets d 0 0 Q 0 0 61 [some (.ref 33), some (.int (nI n)), some (.int (nI j)), some (.int (mi (A 45) n j)), some (.int (nI n))] [.int z, .int (T j), .int (nI j), .ref 44] (hp (va_up A 44 T) B) := by
    intro z hz
    subst hz
    refine V.s omX8_meets rfl rfl ?_
    refine V.iasH omX8_meets rfl rfl (ixN nv_nI hj (by decide)) ?_
    iterate 2 (refine V.s omX8_meets rfl rfl ?_)
    rw [nI_1, bx_uu, va_up_self]
    exact kk _ _
  rcases mi_01 (A 45) n j with h | h
  · refine V.brT omX8_meets rfl rfl h (fun h g => g h) ?_
    refine V.s omX8_meets rfl rfl ?_
    exact fin 0 h.symm
  · refine V.brF omX8_meets rfl rfl (fun g => absurd (g.symm.trans h) (by decide)) ?_
    iterate 2 (refine V.s omX8_meets rfl rfl ?_)
    exact fin 1 h.symm
def mtT (T P : Nat → Int32) (n : Nat) : Nat → Int32 := upd (upd (upd (upd T 0 (T 0 + mi P n 0)) 1 (T 1 + mi P n 1)) 2 (T 2 + mi P n 2)) 3 (T 3 + mi P n 3)
set_option maxHeartbeats 4000000 in
set_option maxRecDepth 100000 in
theorem c8_meets (d : Nat) {n : Nat} (hn : n ≤ 400) {a : Int32} (ha : NV a n) : C mX8_meets d 0 0 [.ref 33, .int a] (hp A B) (fun r h' => h' = hp (va_up A 44 (mtT (A 44) (A 45) n)) B ∧ r = none) := by
  unfold NV at ha
  subst ha
  refine C.of [some (.ref 33), some (.int (nI n)), none, none, none] omX8_meets rfl rfl rfl ?_
  iterate 2 (refine V.s omX8_meets rfl rfl ?_)
  have key : V mX8_meets d 0 0 (fun r h' => h' = hp (va_up A 44 (mtT (A 44) (A 45) n)) B ∧ r = none) 0 0 2 [some (.ref 33), some (.int (nI n)), some (.int (nI 0)), none, none] [] (hp (va_up A 44 (A 44)) B) := by
    refine meets_st (j := 0) d hn (by decide) _ _ _ (fun x y => ?_)
    refine meets_st (j := 1) d hn (by decide) _ _ _ (fun x y => ?_)
    refine meets_st (j := 2) d hn (by decide) _ _ _ (fun x y => ?_)
    refine meets_st (j := 3) d hn (by decide) _ _ _ (fun x y => ?_)
    iterate 2 (refine V.s omX8_meets rfl rfl ?_)
    refine V.brT omX8_meets rfl rfl (by decide) (by decide) ?_
    exact V.vret omX8_meets rfl rfl ⟨rfl, rfl⟩
  rw [va_self] at key
  exact key
end MDE
