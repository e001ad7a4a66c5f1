section MDB
variable {A : Nat → Nat → Int32} {B : Nat → Nat → Int64}
def gix (b : Nat → Int64) (i a : Nat) : Nat := if b a < b i then i else a
def g8 (b : Nat → Int64) : Nat := gix b 3 (gix b 2 (gix b 1 (gix b 0 0)))
def ex8 (b : Nat → Int64) (p : Nat) : Int64 := 2 * (b 0 + b 1 + b 2 + b 3 - b p) - b p
theorem gix_lt {b : Nat → Int64} {i a : Nat} (hi : i < 4) (ha : a < 4) : gix b i a < 4 := by
  unfold gix
  split <;> assumption
theorem g8_lt (b : Nat → Int64) : g8 b < 4 := gix_lt (by decide) (gix_lt (by decide) (gix_lt (by decide) (gix_lt (by decide) (by decide))))
set_option maxHeartbeats 4000000 in
set_option maxRecDepth 100000 in
theorem greatest_st (d : Nat) {i a : Nat} (hi : i < 4) (ha : a < 4) (S : Int64) {Q : Option Value → hp_T → Prop} (kk : V mX8_greatest d 0 0 Q 0 0 7 [some (.ref 33), some (.int (nI (gix (B 41) i a))), some (.long (S + B 41 i)), none, some (.int (nI (i + 1)))] [] (hp A B)) : V mX8_greatest d 0 0 Q 0 0 7 [some (.ref 33), some (.int (nI a)), some (.long S), none, some (.int (nI i))] [] (hp A B) := by
  iterate 2 (refine V.s omX8_greatest rfl rfl ?_)
  refine V.brF omX8_greatest rfl rfl (by rw [nIl_le 4 (by omega) (by decide)]; omega) ?_
  repeat (first | refine V.s omX8_greatest rfl rfl ?_ | refine V.gf omX8_greatest rfl rfl rfl rfl ?_ | refine V.lal omX8_greatest rfl rfl (ixN nv_nI (by omega) (by decide)) ?_)
  unfold gix at kk
  refine V.br omX8_greatest rfl rfl (fun hg => ?_) (fun hg => ?_)
  · rw [lgc_le] at hg
    rw [if_neg (Int64.not_lt.mpr hg)] at kk
    iterate 2 (refine V.s omX8_greatest rfl rfl ?_)
    rw [nI_1]
    exact kk
  · rw [lgc_gt] at hg
    rw [if_pos hg] at kk
    iterate 4 (refine V.s omX8_greatest rfl rfl ?_)
    rw [nI_1]
    exact kk
def gr8 (b : Nat → Int64) : Int32 := if ex8 b (g8 b) < b (g8 b) then nI (g8 b) else -1
set_option maxHeartbeats 4000000 in
set_option maxRecDepth 100000 in
theorem c8_greatest (d : Nat) : C mX8_greatest d 0 0 [.ref 33] (hp A B) (fun r h' => h' = hp A B ∧ r = some (.int (gr8 (B 41)))) := by
  refine C.of [some (.ref 33), none, none, none, none] omX8_greatest rfl rfl rfl ?_
  iterate 6 (refine V.s omX8_greatest rfl rfl ?_)
  refine greatest_st (i := 0) (a := 0) d (by decide) (by decide) _ ?_
  refine greatest_st (i := 1) d (by decide) (gix_lt (by decide) (by decide)) _ ?_
  refine greatest_st (i := 2) d (by decide) (gix_lt (by decide) (gix_lt (by decide) (by decide))) _ ?_
  refine greatest_st (i := 3) d (by decide) (gix_lt (by decide) (gix_lt (by decide) (gix_lt (by decide) (by decide)))) _ ?_
  have hg := g8_lt (B 41)
  rw [show gix (B 41) 3 (gix (B 41) 2 (gix (B 41) 1 (gix (B 41) 0 0))) = g8 (B 41) from rfl]
  generalize he : g8 (B 41) = p at hg ⊢
  iterate 2 (refine V.s omX8_greatest rfl rfl ?_)
  refine V.brT omX8_greatest rfl rfl (by decide) (by decide) ?_
  repeat (first | refine V.s omX8_greatest rfl rfl ?_ | refine V.gf omX8_greatest rfl rfl rfl rfl ?_ | refine V.lal omX8_greatest rfl rfl (ixN nv_nI (by omega) (by decide)) ?_)
  rw [Int64.zero_add]
  unfold gr8 ex8
  rw [he]
  refine V.br omX8_greatest rfl rfl (fun hg => ?_) (fun hg => ?_)
  · rw [lgc_ge] at hg
    refine V.s omX8_greatest rfl rfl ?_
    exact V.iret omX8_greatest rfl rfl ⟨rfl, by rw [if_neg (Int64.not_lt.mpr hg)]⟩
  · rw [lgc_lt] at hg
    iterate 2 (refine V.s omX8_greatest rfl rfl ?_)
    exact V.iret omX8_greatest rfl rfl ⟨rfl, by rw [if_pos hg]⟩
set_option maxHeartbeats 4000000 in
set_option maxRecDepth 100000 in
theorem c8_exchanges (d : Nat) {p : Nat} (hp4 : p < 4) {a : Int32} (ha : NV a p) : C mX8_exchanges d 0 0 [.ref 33, .int a] (hp A B) (fun r h' => h' = hp A (va_up B 41 (vp_updL (B 41) p (ex8 (B 41) p))) ∧ r = none) := by
  unfold NV at ha
  subst ha
  refine C.of [some (.ref 33), some (.int (nI p))] omX8_exchanges rfl rfl rfl ?_
  repeat (first | refine V.s omX8_exchanges rfl rfl ?_ | refine V.gf omX8_exchanges rfl rfl rfl rfl ?_ | refine V.lal omX8_exchanges rfl rfl (ixN nv_nI (by omega) (by decide)) ?_ | refine V.lal omX8_exchanges rfl rfl (ixN nv_lit (by omega) (by decide)) ?_)
  refine V.lasH omX8_exchanges rfl rfl (ixN nv_nI hp4 (by decide)) ?_
  exact V.vret omX8_exchanges rfl rfl ⟨rfl, rfl⟩
def is8 (b : Nat → Int64) : Int32 := if b 0 < 0 ∨ b 1 < 0 ∨ b 2 < 0 ∨ b 3 < 0 then 1 else 0
set_option maxHeartbeats 4000000 in
set_option maxRecDepth 100000 in
theorem c8_isShut (d : Nat) : C mX8_isShut d 0 0 [.ref 33] (hp A B) (fun r h' => h' = hp A B ∧ r = some (.int (is8 (B 41)))) := by
  refine C.of [some (.ref 33), none, none] omX8_isShut rfl rfl rfl ?_
  repeat' (first | refine V.s omX8_isShut rfl rfl ?_ | refine V.gf omX8_isShut rfl rfl rfl rfl ?_ | simp only [Int32.reduceAdd, Int32.reduceMul, Int32.reduceSub] | refine V.brF omX8_isShut rfl rfl (by decide) ?_ | refine V.brT omX8_isShut rfl rfl (by decide) (by decide) ?_ | refine V.lal omX8_isShut rfl rfl (ixN nv_lit (by omega) (by decide)) ?_ | refine V.br omX8_isShut rfl rfl (fun hc => ?_) (fun hc => ?_))
  all_goals refine V.zret omX8_isShut rfl rfl (by decide) ⟨rfl, ?_⟩
  all_goals simp only [lgc_lt, lgc_ge, ← Int64.not_lt] at *
  all_goals simp [is8, *]
def ins8 : Nat → (Nat → Int64) → Int64 → (Nat → Int64)
  | 0, f, v => vp_updL f 0 v
  | a + 1, f, v => if v < f a then ins8 a (vp_updL f (a + 1) (f a)) v else vp_updL f (a + 1) v
set_option maxHeartbeats 4000000 in
set_option maxRecDepth 100000 in
theorem sorts_in (d : Nat) {i : Nat} (hi : i < 4) (F : Nat → Int64) {Q : Option Value → hp_T → Prop} (kk : ∀ x, V mX8_sorts d 0 0 Q 0 0 63 [some (.ref 33), some (.int (nI i)), some (.int x)] [] (hp A (va_up B 43 F))) : ∀ (a : Nat) (f : Nat → Int64), a < 4 → F = ins8 a f (B 41 i) → V mX8_sorts d 0 0 Q 0 0 9 [some (.ref 33), some (.int (nI i)), some (.int (nI a))] [] (hp A (va_up B 43 f)) := by
  intro a
  induction a with
  | zero =>
    intro f ha hF
    refine V.s omX8_sorts rfl rfl ?_
    refine V.brT omX8_sorts rfl rfl (by decide) (by decide) ?_
    repeat (first | refine V.s omX8_sorts rfl rfl ?_ | refine V.gf omX8_sorts rfl rfl rfl rfl ?_ | refine V.lal omX8_sorts rfl rfl (ixN nv_nI (by omega) (by decide)) ?_)
    refine V.lasH omX8_sorts rfl rfl (ixN nv_nI (show 0 < 4 by decide) (by decide)) ?_
    rw [bx_uu, va_up_self, va_up_ne _ _ (show (41 : Nat) ≠ 43 by decide)]
    subst hF
    exact kk _
  | succ a ih =>
    intro f ha hF
    refine V.s omX8_sorts rfl rfl ?_
    refine V.brF omX8_sorts rfl rfl (by rw [Int32.not_le]; exact (show nI 0 < nI (a + 1) from nI_lt (by omega) (by omega))) ?_
    repeat (first | refine V.s omX8_sorts rfl rfl ?_ | refine V.gf omX8_sorts rfl rfl rfl rfl ?_)
    rw [nI_pred]
    repeat (first | refine V.s omX8_sorts rfl rfl ?_ | refine V.gf omX8_sorts rfl rfl rfl rfl ?_ | refine V.lal omX8_sorts rfl rfl (ixN nv_nI (by omega) (by decide)) ?_)
    rw [va_up_self, va_up_ne _ _ (show (41 : Nat) ≠ 43 by decide)]
    refine V.br omX8_sorts rfl rfl (fun hg => ?_) (fun hg => ?_)
    · rw [lgc_le] at hg
      simp only [ins8, if_neg (Int64.not_lt.mpr hg)] at hF
      repeat (first | refine V.s omX8_sorts rfl rfl ?_ | refine V.gf omX8_sorts rfl rfl rfl rfl ?_ | refine V.lal omX8_sorts rfl rfl (ixN nv_nI (by omega) (by decide)) ?_)
      refine V.lasH omX8_sorts rfl rfl (ixN nv_nI ha (by decide)) ?_
      rw [bx_uu, va_up_self, va_up_ne _ _ (show (41 : Nat) ≠ 43 by decide)]
      subst hF
      exact kk _
    · rw [lgc_gt] at hg
      simp only [ins8, if_pos hg] at hF
      repeat (first | refine V.s omX8_sorts rfl rfl ?_ | refine V.gf omX8_sorts rfl rfl rfl rfl ?_)
      rw [nI_pred]
      refine V.lal omX8_sorts rfl rfl (ixN nv_nI (show a < 4 by omega) (by decide)) ?_
      refine V.lasH omX8_sorts rfl rfl (ixN nv_nI ha (by decide)) ?_
      iterate 2 (refine V.s omX8_sorts rfl rfl ?_)
      rw [bx_uu, va_up_self, show nI (a + 1) + -1 = nI a from (Int32.sub_eq_add_neg (nI (a + 1)) 1).symm.trans (nI_pred a)]
      exact ih _ (by omega) hF
def so8 (b f : Nat → Int64) : Nat → Int64 := ins8 3 (ins8 2 (ins8 1 (ins8 0 f (b 0)) (b 1)) (b 2)) (b 3)
set_option maxHeartbeats 4000000 in
set_option maxRecDepth 100000 in
theorem sorts_st (d : Nat) {i : Nat} (hi : i < 4) (f : Nat → Int64) (v : Option Value) {Q : Option Value → hp_T → Prop} (kk : ∀ x, V mX8_sorts d 0 0 Q 0 0 2 [some (.ref 33), some (.int (nI (i + 1))), some (.int x)] [] (hp A (va_up B 43 (ins8 i f (B 41 i))))) : V mX8_sorts d 0 0 Q 0 0 2 [some (.ref 33), some (.int (nI i)), v] [] (hp A (va_up B 43 f)) := by
  iterate 2 (refine V.s omX8_sorts rfl rfl ?_)
  refine V.brF omX8_sorts rfl rfl (by rw [nIl_le 4 (by omega) (by decide)]; omega) ?_
  iterate 2 (refine V.s omX8_sorts rfl rfl ?_)
  refine sorts_in d hi _ (fun x => ?_) i f hi rfl
  iterate 2 (refine V.s omX8_sorts rfl rfl ?_)
  rw [nI_1]
  exact kk x
set_option maxHeartbeats 4000000 in
set_option maxRecDepth 100000 in
theorem c8_sorts (d : Nat) : C mX8_sorts d 0 0 [.ref 33] (hp A B) (fun r h' => h' = hp A (va_up B 43 (so8 (B 41) (B 43))) ∧ r = none) := by
  refine C.of [some (.ref 33), none, none] omX8_sorts rfl rfl rfl ?_
  iterate 2 (refine V.s omX8_sorts rfl rfl ?_)
  have e : va_up B 43 (B 43) = B := by
    funext j
    unfold va_up
    split
    · next h => rw [h]
    · rfl
  have key : V mX8_sorts d 0 0 (fun r h' => h' = hp A (va_up B 43 (so8 (B 41) (B 43))) ∧ r = none) 0 0 2 [some (.ref 33), some (.int (nI 0)), none] [] (hp A (va_up B 43 (B 43))) := by
    refine sorts_st (i := 0) d (by decide) _ _ (fun x => ?_)
    refine sorts_st (i := 1) d (by decide) _ _ (fun x => ?_)
    refine sorts_st (i := 2) d (by decide) _ _ (fun x => ?_)
    refine sorts_st (i := 3) d (by decide) _ _ (fun x => ?_)
    iterate 2 (refine V.s omX8_sorts rfl rfl ?_)
    refine V.brT omX8_sorts rfl rfl (by decide) (by decide) ?_
    exact V.vret omX8_sorts rfl rfl ⟨rfl, rfl⟩
  rw [e] at key
  exact key
def bq (b : Nat → Int64) (F : Nat → Int32) (k : Nat) : Nat → Int64 := vp_updL (vp_updL (vp_updL (vp_updL b 0 (F (16 * k)).toInt64) 1 (F (16 * k + 4)).toInt64) 2 (F (16 * k + 8)).toInt64) 3 (F (16 * k + 12)).toInt64
set_option maxHeartbeats 4000000 in
set_option maxRecDepth 100000 in
theorem leads_st (d : Nat) {k i : Nat} (hk : k < 6) (hi : i < 4) (b : Nat → Int64) {Q : Option Value → hp_T → Prop} (kk : V mX8_leads (d + 1) 0 0 Q 0 0 2 [some (.ref 33), some (.int (nI k)), some (.int (nI (i + 1)))] [] (hp A (va_up B 41 (vp_updL b i (A 38 (16 * k + 4 * i)).toInt64)))) : V mX8_leads (d + 1) 0 0 Q 0 0 2 [some (.ref 33), some (.int (nI k)), some (.int (nI i))] [] (hp A (va_up B 41 b)) := by
  iterate 2 (refine V.s omX8_leads rfl rfl ?_)
  refine V.brF omX8_leads rfl rfl (by rw [nIl_le 4 (by omega) (by decide)]; omega) ?_
  repeat (first | refine V.s omX8_leads rfl rfl ?_ | refine V.gf omX8_leads rfl rfl rfl rfl ?_ | refine V.ial omX8_leads rfl rfl (ixN (nv_add (nv_mul nv_lit nv_nI) (nv_mul nv_lit nv_nI)) (by omega) (by decide)) ?_)
  refine V.lasH omX8_leads rfl rfl (ixN nv_nI hi (by decide)) ?_
  iterate 2 (refine V.s omX8_leads rfl rfl ?_)
  rw [nI_1, bx_uu, va_up_self]
  exact kk
def ldF : Nat → (Nat → Int64) → Option (Nat → Int64)
  | 0, _ => none
  | n + 1, b => if ex8 b (g8 b) < b (g8 b) then ldF n (vp_updL b (g8 b) (ex8 b (g8 b))) else some b
theorem c8_gr (d : Nat) (b : Nat → Int64) : C mX8_greatest d 0 0 [.ref 33] (hp A (va_up B 41 b)) (fun r h' => h' = hp A (va_up B 41 b) ∧ r = some (.int (gr8 b))) := by
  have h := c8_greatest (A := A) (B := va_up B 41 b) d
  rwa [va_up_self] at h
set_option maxHeartbeats 4000000 in
set_option maxRecDepth 100000 in
theorem leads_loop (d : Nat) (v1 v2 : Option Value) (b' : Nat → Int64) : ∀ (n : Nat) (b : Nat → Int64), ldF n b = some b' → V mX8_leads (d + 1) 0 0 (fun r h' => h' = hp A (va_up B 41 b') ∧ r = none) 0 0 33 [some (.ref 33), v1, v2] [] (hp A (va_up B 41 b)) := by
  intro n
  induction n with
  | zero => intro b h; cases h
  | succ n ih =>
    intro b h
    have hg4 := g8_lt b
    refine V.s omX8_leads rfl rfl ?_
    refine V.cVf omX8_leads omX8_greatest rfl rfl (c8_gr d b) rfl rfl rfl rfl rfl rfl ?_
    by_cases hg : ex8 b (g8 b) < b (g8 b)
    · simp only [ldF, if_pos hg] at h
      have e : gr8 b = nI (g8 b) := by unfold gr8; rw [if_pos hg]
      rw [e]
      refine V.brF omX8_leads rfl rfl (nI_pos (by omega)) ?_
      iterate 2 (refine V.s omX8_leads rfl rfl ?_)
      refine V.cVf omX8_leads omX8_greatest rfl rfl (c8_gr d b) rfl rfl rfl rfl rfl rfl ?_
      rw [e]
      refine V.cVv omX8_leads omX8_exchanges rfl rfl (c8_exchanges d hg4 nv_nI) rfl rfl rfl rfl rfl rfl ?_
      rw [va_up_self, bx_uu]
      refine V.s omX8_leads rfl rfl ?_
      exact ih _ h
    · simp only [ldF, if_neg hg] at h
      have e : gr8 b = -1 := by unfold gr8; rw [if_neg hg]
      rw [e]
      refine V.brT omX8_leads rfl rfl (by decide) (by decide) ?_
      cases h
      exact V.vret omX8_leads rfl rfl ⟨rfl, rfl⟩
theorem vb_self (B : Nat → Nat → Int64) (q : Nat) : va_up B q (B q) = B := by
  funext j
  unfold va_up
  split
  · next h => rw [h]
  · rfl
set_option maxHeartbeats 4000000 in
set_option maxRecDepth 100000 in
theorem c8_leads (d : Nat) {k n : Nat} (hk : k < 6) {a : Int32} (ha : NV a k) {b' : Nat → Int64} (hL : ldF n (bq (B 41) (A 38) k) = some b') : C mX8_leads (d + 1) 0 0 [.ref 33, .int a] (hp A B) (fun r h' => h' = hp A (va_up B 41 b') ∧ r = none) := by
  unfold NV at ha
  subst ha
  refine C.of [some (.ref 33), some (.int (nI k)), none] omX8_leads rfl rfl rfl ?_
  iterate 2 (refine V.s omX8_leads rfl rfl ?_)
  have key : V mX8_leads (d + 1) 0 0 (fun r h' => h' = hp A (va_up B 41 b') ∧ r = none) 0 0 2 [some (.ref 33), some (.int (nI k)), some (.int (nI 0))] [] (hp A (va_up B 41 (B 41))) := by
    refine leads_st (i := 0) d hk (by decide) _ ?_
    refine leads_st (i := 1) d hk (by decide) _ ?_
    refine leads_st (i := 2) d hk (by decide) _ ?_
    refine leads_st (i := 3) d hk (by decide) _ ?_
    iterate 2 (refine V.s omX8_leads rfl rfl ?_)
    refine V.brT omX8_leads rfl rfl (by decide) (by decide) ?_
    exact leads_loop d _ _ b' n _ hL
  rw [vb_self] at key
  exact key
end MDB
