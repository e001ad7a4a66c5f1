section PL
variable {A : Nat → Nat → Int32} {B : Nat → Nat → Int64} {F q : Nat → Int32} {G : Nat → Int64}
def v7 (up bar : Int32) (w : Nat → Int32) (i : Nat) : List Int32 := if nI i = bar ∨ up < w (4 * i) then [] else [w (4 * i)]
set_option maxHeartbeats 4000000 in
set_option maxRecDepth 100000 in
theorem sv_st (d : Nat) {i : Nat} (hi : i < 4) (S : Sn) {up bar : Int32} (e1 : S.1 1 = up) (e2 : S.1 2 = bar) {Q : Option Value → hp_T → Prop} (kk : V mX3_survey (d + 2) 0 0 Q 0 0 38 [some (.ref 23), some (.ref 19), some (.int up), some (.int bar), some (.int (nI (i + 1)))] [] (hG A B ((v7 up bar (A 20) i).foldl nv S).1 ((v7 up bar (A 20) i).foldl nv S).2 (upd q i (A 20 (4 * i))))) : V mX3_survey (d + 2) 0 0 Q 0 0 38 [some (.ref 23), some (.ref 19), some (.int up), some (.int bar), some (.int (nI i))] [] (hG A B S.1 S.2 q) := by
  iterate 2 (refine V.s omX3_survey rfl rfl ?_)
  refine V.brF omX3_survey rfl rfl (by rw [nIl_le 4 (by omega) (by decide)]; omega) ?_
  refine V.s omX3_survey rfl rfl ?_
  refine V.gf omX3_survey rfl rfl rfl rfl ?_
  iterate 3 (refine V.s omX3_survey rfl rfl ?_)
  have cb : C mX4_bend (d + 1) 0 0 [.ref 19, .int (nI i)] (hG A B S.1 S.2 q) (fun r h' => h' = hG A B S.1 S.2 q ∧ r = some (.int (A 20 (4 * i)))) := c_bend (A := va_up (va_up A 24 q) 23 S.1) (B := va_up B 23 S.2) (k := 6) (d + 1) (by decide) nv_nI hi
  refine V.cVf omX3_survey omX4_bend rfl rfl cb rfl rfl rfl rfl rfl rfl ?_
  refine V.iasH omX3_survey rfl rfl (ixN nv_nI hi (by decide)) ?_
  rw [xA24, xA24u]
  have fin : (nI i = bar ∨ up < A 20 (4 * i)) → V mX3_survey (d + 2) 0 0 Q 0 0 91 [some (.ref 23), some (.ref 19), some (.int up), some (.int bar), some (.int (nI i))] [] (hG A B S.1 S.2 (upd q i (A 20 (4 * i)))) := by
    intro hs
    iterate 2 (refine V.s omX3_survey rfl rfl ?_)
    rw [nI_1]
    unfold v7 at kk
    rw [if_pos hs] at kk
    exact kk
  iterate 2 (refine V.s omX3_survey rfl rfl ?_)
  refine V.gf omX3_survey rfl rfl rfl rfl ?_
  rw [va_up_self, e2]
  by_cases h1 : nI i = bar
  · refine V.brT omX3_survey rfl rfl h1 (fun h g => g h) ?_
    exact fin (Or.inl h1)
  refine V.brF omX3_survey rfl rfl h1 ?_
  refine V.s omX3_survey rfl rfl ?_
  refine V.gf omX3_survey rfl rfl rfl rfl ?_
  refine V.s omX3_survey rfl rfl ?_
  refine V.ial omX3_survey rfl rfl (ixN nv_nI hi (by decide)) ?_
  rw [xA24, pk_us]
  refine V.s omX3_survey rfl rfl ?_
  refine V.gf omX3_survey rfl rfl rfl rfl ?_
  rw [va_up_self, e1]
  by_cases h2 : up < A 20 (4 * i)
  · refine V.brT omX3_survey rfl rfl h2 (fun h => Int32.not_le.mpr h) ?_
    exact fin (Or.inr h2)
  refine V.brF omX3_survey rfl rfl h2 ?_
  iterate 2 (refine V.s omX3_survey rfl rfl ?_)
  refine V.gf omX3_survey rfl rfl rfl rfl ?_
  refine V.s omX3_survey rfl rfl ?_
  refine V.ial omX3_survey rfl rfl (ixN nv_nI hi (by decide)) ?_
  rw [xA24, pk_us]
  refine V.cVv omX3_survey omX3_note rfl rfl (hG_nt d _) rfl rfl rfl rfl rfl rfl ?_
  iterate 2 (refine V.s omX3_survey rfl rfl ?_)
  rw [nI_1]
  unfold v7 at kk
  rw [if_neg (fun g => g.elim h1 h2)] at kk
  exact kk
def qn (w q : Nat → Int32) : Nat → Int32 := upd (upd (upd (upd q 0 (w (4 * 0))) 1 (w (4 * 1))) 2 (w (4 * 2))) 3 (w (4 * 3))
def F07 (F : Nat → Int32) (up bar : Int32) : Nat → Int32 := upd (upd (upd (upd (upd (upd F 1 up) 2 bar) 4 0) 5 0) 6 0) 8 0
def vs7 (up bar : Int32) (w q : Nat → Int32) : List Int32 := v7 up bar w 0 ++ (v7 up bar w 1 ++ (v7 up bar w 2 ++ (v7 up bar w 3 ++ gk up bar 40 (-1) (qn w q))))
def S7 (up bar : Int32) (w F : Nat → Int32) (G : Nat → Int64) (q : Nat → Int32) : Sn := (vs7 up bar w q).foldl nv (F07 F up bar, vp_updL G 7 0)
theorem nv12 {k : Nat} (h : k = 1 ∨ k = 2) (l : List Int32) (S : Sn) : (l.foldl nv S).1 k = S.1 k := nv_ne (by omega) (by omega) (by omega) (by omega) (by omega) l S
theorem nv3 (l : List Int32) (S : Sn) : (l.foldl nv S).1 3 = S.1 3 := nv_ne (by omega) (by omega) (by omega) (by omega) (by omega) l S
set_option maxHeartbeats 4000000 in
set_option maxRecDepth 100000 in
theorem sv_97 {S : Sn} {up bar : Int32} {K : List Int32} (e1 : S.1 1 = up) (e2 : S.1 2 = bar) (hK : gk up bar 40 (-1) q = K) {Q : Option Value → hp_T → Prop} (hQ : Q none (hG A B (K.foldl nv S).1 (K.foldl nv S).2 q)) : V mX3_survey 43 0 0 Q 0 0 97 [some (.ref 23), some (.ref 19), some (.int up), some (.int bar), some (.int (nI 4))] [] (hG A B S.1 S.2 q) := by
  have cg := c_grow 40 0 rfl (va_up (va_up A 24 q) 23 S.1) (va_up B 23 S.2) (-1)
  rw [gRes_hG, e1, e2, hK] at cg
  clear hK e1 e2
  iterate 3 (refine V.s omX3_survey rfl rfl ?_)
  refine V.cSv (d := 42) omX3_survey omX3_grow rfl rfl cg rfl rfl rfl rfl ?_
  exact V.vret omX3_survey rfl rfl hQ
set_option maxHeartbeats 4000000 in
set_option maxRecDepth 100000 in
theorem c_survey (up bar : Int32) : C mX3_survey 43 0 0 [.ref 23, .ref 19, .int up, .int bar] (hp A B) (fun r h' => h' = hG A B (S7 up bar (A 20) (A 23) (B 23) (A 24)).1 (S7 up bar (A 20) (A 23) (B 23) (A 24)).2 (qn (A 20) (A 24)) ∧ r = none) := by
  refine C.of [some (.ref 23), some (.ref 19), some (.int up), some (.int bar), none] omX3_survey rfl rfl rfl ?_
  have key : ∀ (Q : Option Value → hp_T → Prop), Q none (hG A B (S7 up bar (A 20) (A 23) (B 23) (A 24)).1 (S7 up bar (A 20) (A 23) (B 23) (A 24)).2 (qn (A 20) (A 24))) → V mX3_survey 43 0 0 Q 0 0 0 [some (.ref 23), some (.ref 19), some (.int up), some (.int bar), none] [] (hG A B (A 23) (B 23) (A 24)) := by
    intro Q hQ
    obtain ⟨K, hK⟩ : ∃ K, K = gk up bar 40 (-1) (qn (A 20) (A 24)) := ⟨_, rfl⟩
    iterate 2 (refine V.s omX3_survey rfl rfl ?_)
    refine V.pfH omX3_survey rfl rfl rfl rfl rfl rfl rfl ?_
    rw [bx_uu, va_up_self]
    iterate 2 (refine V.s omX3_survey rfl rfl ?_)
    refine V.pfH omX3_survey rfl rfl rfl rfl rfl rfl rfl ?_
    rw [bx_uu, va_up_self]
    iterate 2 (refine V.s omX3_survey rfl rfl ?_)
    refine V.pfH omX3_survey rfl rfl rfl rfl rfl rfl rfl ?_
    rw [bx_uu, va_up_self]
    iterate 2 (refine V.s omX3_survey rfl rfl ?_)
    refine V.pfH omX3_survey rfl rfl rfl rfl rfl rfl rfl ?_
    rw [bx_uu, va_up_self]
    iterate 2 (refine V.s omX3_survey rfl rfl ?_)
    refine V.pfH omX3_survey rfl rfl rfl rfl rfl rfl rfl ?_
    rw [bx_uu, va_up_self]
    iterate 2 (refine V.s omX3_survey rfl rfl ?_)
    refine V.pfL7 omX3_survey rfl ?_
    rw [bx_uu, va_up_self]
    iterate 2 (refine V.s omX3_survey rfl rfl ?_)
    refine V.pfH omX3_survey rfl rfl rfl rfl rfl rfl rfl ?_
    rw [bx_uu, va_up_self]
    iterate 2 (refine V.s omX3_survey rfl rfl ?_)
    refine sv_st (i := 0) 41 (by decide) (F07 (A 23) up bar, vp_updL (B 23) 7 0) rfl rfl ?_
    refine sv_st (i := 1) 41 (by decide) _ (nv12 (Or.inl rfl) _ _) (nv12 (Or.inr rfl) _ _) ?_
    refine sv_st (i := 2) 41 (by decide) _ ((nv12 (Or.inl rfl) _ _).trans (nv12 (Or.inl rfl) _ _)) ((nv12 (Or.inr rfl) _ _).trans (nv12 (Or.inr rfl) _ _)) ?_
    refine sv_st (i := 3) 41 (by decide) _ ((nv12 (Or.inl rfl) _ _).trans ((nv12 (Or.inl rfl) _ _).trans (nv12 (Or.inl rfl) _ _))) ((nv12 (Or.inr rfl) _ _).trans ((nv12 (Or.inr rfl) _ _).trans (nv12 (Or.inr rfl) _ _))) ?_
    iterate 2 (refine V.s omX3_survey rfl rfl ?_)
    refine V.brT omX3_survey rfl rfl (by decide) (by decide) ?_
    unfold S7 vs7 at hQ
    rw [← hK] at hQ
    simp only [List.foldl_append] at hQ
    exact sv_97 (K := K) (up := up) (bar := bar) ((nv12 (Or.inl rfl) _ _).trans ((nv12 (Or.inl rfl) _ _).trans ((nv12 (Or.inl rfl) _ _).trans (nv12 (Or.inl rfl) _ _)))) ((nv12 (Or.inr rfl) _ _).trans ((nv12 (Or.inr rfl) _ _).trans ((nv12 (Or.inr rfl) _ _).trans (nv12 (Or.inr rfl) _ _)))) hK.symm hQ
  have k1 := key (fun r h' => h' = hG A B (S7 up bar (A 20) (A 23) (B 23) (A 24)).1 (S7 up bar (A 20) (A 23) (B 23) (A 24)).2 (qn (A 20) (A 24)) ∧ r = none) ⟨rfl, rfl⟩
  unfold hG at k1
  rw [va_self A 24, va_self A 23, vb_self] at k1
  exact k1
def J7 (A A' : Nat → Nat → Int32) : Prop := ∀ q k, ¬ (q = 19 ∨ q = 20 ∨ q = 23 ∨ q = 24) → A' q k = A q k
theorem J7_r (A : Nat → Nat → Int32) : J7 A A := fun _ _ _ => rfl
theorem J7_t {A A1 A2 : Nat → Nat → Int32} (h : J7 A A1) (g : J7 A1 A2) : J7 A A2 := fun q k hq => (g q k hq).trans (h q k hq)
theorem J7_hG (A : Nat → Nat → Int32) (F q : Nat → Int32) : J7 A (va_up (va_up A 24 q) 23 F) := by
  intro z k h
  unfold va_up
  rw [if_neg (fun e => h (Or.inr (Or.inr (Or.inl e)))), if_neg (fun e => h (Or.inr (Or.inr (Or.inr e))))]
theorem J7_Lh (A : Nat → Nat → Int32) (f : Nat → Int32) (v : Int32) : J7 A (Lh A 6 f v) := by
  intro z k h
  unfold Lh va_up
  rw [if_neg (fun e => h (Or.inl e)), if_neg (fun e => h (Or.inr (Or.inl e)))]
theorem J7_rf {A X : Nat → Nat → Int32} (h : J7 A X) (c : Nat) : J7 (rfA A c) (rfA X c) := by
  intro z k hz
  have e : X 32 = A 32 := funext (fun k => h 32 k (by decide))
  unfold rfA va_up
  split
  · rw [e]
  · exact h z k hz
theorem J7_23 (A : Nat → Nat → Int32) (F : Nat → Int32) : J7 A (va_up A 23 F) := by
  intro z k h
  unfold va_up
  rw [if_neg (fun e => h (Or.inr (Or.inr (Or.inl e))))]
set_option maxHeartbeats 4000000 in
set_option maxRecDepth 100000 in
theorem c_leastAbove (n : Int32) : C mX3_leastBendAbove 44 0 0 [.ref 23, .ref 19, .int n] (hp A B) (fun r h' => (∃ A' B', h' = hp A' B' ∧ J7 A A') ∧ ∃ F G, F 3 = n ∧ r = some (.int (if (S7 300 (-1) (A 20) F G (A 24)).1 8 = 0 then -1 else (S7 300 (-1) (A 20) F G (A 24)).1 9))) := by
  refine C.of [some (.ref 23), some (.ref 19), some (.int n)] omX3_leastBendAbove rfl rfl rfl ?_
  iterate 2 (refine V.s omX3_leastBendAbove rfl rfl ?_)
  refine V.pfH omX3_leastBendAbove rfl rfl rfl rfl rfl rfl rfl ?_
  iterate 4 (refine V.s omX3_leastBendAbove rfl rfl ?_)
  have cs := c_survey (A := va_up A 23 (upd (A 23) 3 n)) (B := B) 300 (-1)
  rw [va_up_self, show va_up A 23 (upd (A 23) 3 n) 20 = A 20 from rfl, show va_up A 23 (upd (A 23) 3 n) 24 = A 24 from rfl] at cs
  refine V.cVv omX3_leastBendAbove omX3_survey rfl rfl cs rfl rfl rfl rfl rfl rfl ?_
  refine V.s omX3_leastBendAbove rfl rfl ?_
  refine V.gf omX3_leastBendAbove rfl rfl rfl rfl ?_
  rw [va_up_self]
  refine V.br omX3_leastBendAbove rfl rfl (fun hc => ?_) (fun hc => ?_)
  · refine V.s omX3_leastBendAbove rfl rfl ?_
    exact V.iret omX3_leastBendAbove rfl rfl ⟨⟨_, _, rfl, J7_t (J7_23 _ _) (J7_hG _ _ _)⟩, upd (A 23) 3 n, B 23, rfl, by rw [if_pos hc]⟩
  · refine V.s omX3_leastBendAbove rfl rfl ?_
    refine V.gf omX3_leastBendAbove rfl rfl rfl rfl ?_
    rw [va_up_self]
    refine V.s omX3_leastBendAbove rfl rfl ?_
    exact V.iret omX3_leastBendAbove rfl rfl ⟨⟨_, _, rfl, J7_t (J7_23 _ _) (J7_hG _ _ _)⟩, upd (A 23) 3 n, B 23, rfl, by rw [if_neg hc]⟩
def wL (A : Nat → Nat → Int32) (r : Int32) : Int32 × (Nat → Int32) × Int32 := lbB (A (8 + 2 * cl r)) (A 20)
def wp (A : Nat → Nat → Int32) (m : Nat) (r : Int32) : Int32 := if wn A m r = 0 then (if negB (wL A r).2.1 = 1 then 0 else -7) else wn A m r
def wpA (A : Nat → Nat → Int32) (m : Nat) (r : Int32) : Nat → Nat → Int32 := if wn A m r = 0 then Lh A 6 (wL A r).2.1 (wL A r).2.2 else A
def wu (A : Nat → Nat → Int32) (m : Nat) (r n : Int32) : Int32 := if wp A m r = 0 then (if 0 ≤ n ∧ n ≤ 300 then 0 else -7) else wp A m r
theorem wp_c (A : Nat → Nat → Int32) (m : Nat) (r : Int32) : wp A m r = 0 ∨ wp A m r = -7 ∨ wp A m r = -3 := by
  unfold wp
  rcases wn_c A m r with h | h | h
  · rw [if_pos h]; split <;> simp
  · rw [if_neg (by rw [h]; decide), h]; simp
  · rw [if_neg (by rw [h]; decide), h]; simp
theorem wu_c (A : Nat → Nat → Int32) (m : Nat) (r n : Int32) : wu A m r n = 0 ∨ wu A m r n = -7 ∨ wu A m r n = -3 := by
  unfold wu
  rcases wp_c A m r with h | h | h
  · rw [if_pos h]; split <;> simp
  · rw [if_neg (by rw [h]; decide), h]; simp
  · rw [if_neg (by rw [h]; decide), h]; simp
theorem rfB_c {v : Int32} (h : v = 0 ∨ v = -7 ∨ v = -3) (h0 : ¬ v = 0) : rfB v = true := by
  rcases h with h | h | h
  · exact absurd h h0
  · rw [h]; decide
  · rw [h]; decide
theorem wp_0 {m : Nat} {r : Int32} (h : wp A m r = 0) : wn A m r = 0 := by
  by_cases g : wn A m r = 0
  · exact g
  · unfold wp at h
    rw [if_neg g] at h
    exact h
theorem wu_0 {m : Nat} {r n : Int32} (h : wu A m r n = 0) : wp A m r = 0 := by
  by_cases g : wp A m r = 0
  · exact g
  · unfold wu at h
    rw [if_neg g] at h
    exact h
theorem J7_wpA (A : Nat → Nat → Int32) (m : Nat) (r : Int32) : J7 A (wpA A m r) := by
  unfold wpA
  split
  · exact J7_Lh _ _ _
  · exact J7_r _
set_option maxHeartbeats 4000000 in
set_option maxRecDepth 100000 in
theorem c_whyNoPacking (d : Nat) {m : Nat} (hm : A 0 9 = nI m) (h6 : m ≤ 6) (r : Int32) : C mX7_whyNoPacking (d + 4) 0 0 [.ref 0, .int r] (hp A B) (fun r' h' => h' = hp (wpA A m r) B ∧ r' = some (.int (wp A m r))) := by
  refine C.of [some (.ref 0), some (.int r), none] omX7_whyNoPacking rfl rfl rfl ?_
  iterate 2 (refine V.s omX7_whyNoPacking rfl rfl ?_)
  refine V.cVf omX7_whyNoPacking omX7_whyNoLeast rfl rfl (c_whyNoLeast (d + 1) hm h6 r) rfl rfl rfl rfl rfl rfl ?_
  iterate 2 (refine V.s omX7_whyNoPacking rfl rfl ?_)
  by_cases h0 : wn A m r = 0
  · simp only [wp, wpA, if_pos h0]
    refine V.brT omX7_whyNoPacking rfl rfl h0 (fun h g => g h) ?_
    obtain ⟨i, hi, rfl⟩ := rng (by omega) (wn_0 h0).1
    simp only [wL, cl_nI (show i < 20 by omega)]
    refine V.s omX7_whyNoPacking rfl rfl ?_
    refine V.gf omX7_whyNoPacking rfl rfl rfl rfl ?_
    refine V.s omX7_whyNoPacking rfl rfl ?_
    refine V.gf omX7_whyNoPacking rfl rfl rfl rfl ?_
    refine V.s omX7_whyNoPacking rfl rfl ?_
    refine V.aal omX7_whyNoPacking rfl rfl (ixN nv_nI (show i < 6 by omega) (by decide)) (kisF_at (show i < 6 by omega)) ?_
    refine V.cVv omX7_whyNoPacking omX4_takeLeastBends rfl rfl (c_tlb d (show i < 8 by omega)) rfl rfl rfl rfl rfl rfl ?_
    refine V.s omX7_whyNoPacking rfl rfl ?_
    refine V.gf omX7_whyNoPacking rfl rfl rfl rfl ?_
    refine V.cVf omX7_whyNoPacking omX4_hasBendBelowZero rfl rfl (c_neg6 _) rfl rfl rfl rfl rfl rfl ?_
    rw [Lh_20]
    rcases negB_01 (lbB (A (8 + 2 * i)) (A 20)).2.1 with hb | hb
    · rw [hb]
      refine V.brT omX7_whyNoPacking rfl rfl rfl (by decide) ?_
      refine V.s omX7_whyNoPacking rfl rfl ?_
      exact V.iret omX7_whyNoPacking rfl rfl ⟨rfl, rfl⟩
    · rw [hb]
      refine V.brF omX7_whyNoPacking rfl rfl (by decide) ?_
      iterate 2 (refine V.s omX7_whyNoPacking rfl rfl ?_)
      exact V.iret omX7_whyNoPacking rfl rfl ⟨rfl, rfl⟩
  · simp only [wp, wpA, if_neg h0]
    refine V.brF omX7_whyNoPacking rfl rfl h0 ?_
    refine V.s omX7_whyNoPacking rfl rfl ?_
    exact V.iret omX7_whyNoPacking rfl rfl ⟨rfl, rfl⟩
set_option maxHeartbeats 4000000 in
set_option maxRecDepth 100000 in
theorem c_whyUpTo (d : Nat) {m : Nat} (hm : A 0 9 = nI m) (h6 : m ≤ 6) (r n : Int32) : C mX7_whyNoPackingUpTo (d + 5) 0 0 [.ref 0, .int r, .int n] (hp A B) (fun r' h' => h' = hp (wpA A m r) B ∧ r' = some (.int (wu A m r n))) := by
  refine C.of [some (.ref 0), some (.int r), some (.int n), none] omX7_whyNoPackingUpTo rfl rfl rfl ?_
  iterate 2 (refine V.s omX7_whyNoPackingUpTo rfl rfl ?_)
  refine V.cVf omX7_whyNoPackingUpTo omX7_whyNoPacking rfl rfl (c_whyNoPacking d hm h6 r) rfl rfl rfl rfl rfl rfl ?_
  iterate 2 (refine V.s omX7_whyNoPackingUpTo rfl rfl ?_)
  by_cases h0 : wp A m r = 0
  · refine V.brT omX7_whyNoPackingUpTo rfl rfl h0 (fun h g => g h) ?_
    simp only [wu, if_pos h0]
    refine V.s omX7_whyNoPackingUpTo rfl rfl ?_
    by_cases h1 : 0 ≤ n
    · refine V.brF omX7_whyNoPackingUpTo rfl rfl (Int32.not_lt.mpr h1) ?_
      iterate 2 (refine V.s omX7_whyNoPackingUpTo rfl rfl ?_)
      by_cases h2 : n ≤ 300
      · refine V.brF omX7_whyNoPackingUpTo rfl rfl (Int32.not_lt.mpr h2) ?_
        iterate 2 (refine V.s omX7_whyNoPackingUpTo rfl rfl ?_)
        exact V.iret omX7_whyNoPackingUpTo rfl rfl ⟨rfl, by rw [if_pos ⟨h1, h2⟩]⟩
      · refine V.brT omX7_whyNoPackingUpTo rfl rfl (Int32.not_le.mp h2) (fun h => Int32.not_le.mpr h) ?_
        refine V.s omX7_whyNoPackingUpTo rfl rfl ?_
        exact V.iret omX7_whyNoPackingUpTo rfl rfl ⟨rfl, by rw [if_neg (fun g => h2 g.2)]⟩
    · refine V.brT omX7_whyNoPackingUpTo rfl rfl (Int32.not_le.mp h1) (fun h => Int32.not_le.mpr h) ?_
      refine V.s omX7_whyNoPackingUpTo rfl rfl ?_
      exact V.iret omX7_whyNoPackingUpTo rfl rfl ⟨rfl, by rw [if_neg (fun g => h1 g.1)]⟩
  · refine V.brF omX7_whyNoPackingUpTo rfl rfl h0 ?_
    simp only [wu, if_neg h0]
    refine V.s omX7_whyNoPackingUpTo rfl rfl ?_
    exact V.iret omX7_whyNoPackingUpTo rfl rfl ⟨rfl, rfl⟩
theorem wpA_y {m : Nat} {r : Int32} (h : wp A m r = 0) : wpA A m r = Lh A 6 (wL A r).2.1 (wL A r).2.2 := by unfold wpA; rw [if_pos (wp_0 h)]
theorem c_sv6 (up bar : Int32) (w : Nat → Int32) (v : Int32) : C mX3_survey 43 0 0 [.ref 23, .ref 19, .int up, .int bar] (hp (Lh A 6 w v) B) (fun r h' => h' = hG (Lh A 6 w v) B (S7 up bar w (A 23) (B 23) (A 24)).1 (S7 up bar w (A 23) (B 23) (A 24)).2 (qn w (A 24)) ∧ r = none) := c_survey (A := Lh A 6 w v) (B := B) up bar
set_option maxHeartbeats 4000000 in
set_option maxRecDepth 100000 in
theorem c7_count {m : Nat} (hm : A 0 9 = nI m) (h6 : m ≤ 6) (r n : Int32) : C mX7_count 44 0 0 [.ref 0, .int r, .int n] (hp A B) (fun r' h' => (∃ A' B', h' = hp A' B' ∧ J7 (if wu A m r n = 0 then A else rfA A (rfI (wu A m r n))) A') ∧ ∃ F G q, r' = some (.int (if wu A m r n = 0 then (S7 n (-1) (wL A r).2.1 F G q).1 4 else wu A m r n))) := by
  refine C.of [some (.ref 0), some (.int r), some (.int n), none] omX7_count rfl rfl rfl ?_
  iterate 3 (refine V.s omX7_count rfl rfl ?_)
  refine V.cVf omX7_count omX7_whyNoPackingUpTo rfl rfl (c_whyUpTo 38 hm h6 r n) rfl rfl rfl rfl rfl rfl ?_
  iterate 2 (refine V.s omX7_count rfl rfl ?_)
  by_cases h0 : wu A m r n = 0
  · refine V.brT omX7_count rfl rfl h0 (fun h g => g h) ?_
    simp only [if_pos h0]
    rw [wpA_y (wu_0 h0)]
    refine V.s omX7_count rfl rfl ?_
    refine V.gf omX7_count rfl rfl rfl rfl ?_
    refine V.s omX7_count rfl rfl ?_
    refine V.gf omX7_count rfl rfl rfl rfl ?_
    iterate 2 (refine V.s omX7_count rfl rfl ?_)
    refine V.cVv omX7_count omX3_survey rfl rfl (c_sv6 n (-1) (wL A r).2.1 (wL A r).2.2) rfl rfl rfl rfl rfl rfl ?_
    refine V.s omX7_count rfl rfl ?_
    refine V.gf omX7_count rfl rfl rfl rfl ?_
    refine V.gf omX7_count rfl rfl rfl rfl ?_
    rw [va_up_self]
    exact V.iret omX7_count rfl rfl ⟨⟨_, _, rfl, J7_t (J7_Lh _ _ _) (J7_hG _ _ _)⟩, A 23, B 23, A 24, rfl⟩
  · refine V.brF omX7_count rfl rfl h0 ?_
    simp only [if_neg h0]
    iterate 2 (refine V.s omX7_count rfl rfl ?_)
    refine V.cVf omX7_count omX7_refuse rfl rfl (c_refuse _ _ (rfB_c (wu_c A m r n) h0)) rfl rfl rfl rfl rfl rfl ?_
    exact V.iret omX7_count rfl rfl ⟨⟨_, _, rfl, J7_rf (J7_wpA A m r) _⟩, A 23, B 23, A 24, rfl⟩
set_option maxHeartbeats 4000000 in
set_option maxRecDepth 100000 in
theorem c7_bends {m : Nat} (hm : A 0 9 = nI m) (h6 : m ≤ 6) (r n : Int32) : C mX7_bends 44 0 0 [.ref 0, .int r, .int n] (hp A B) (fun r' h' => (∃ A' B', h' = hp A' B' ∧ J7 (if wu A m r n = 0 then A else rfA A (rfI (wu A m r n))) A') ∧ ∃ F G q, r' = some (.int (if wu A m r n = 0 then (S7 n (-1) (wL A r).2.1 F G q).1 5 else wu A m r n))) := by
  refine C.of [some (.ref 0), some (.int r), some (.int n), none] omX7_bends rfl rfl rfl ?_
  iterate 3 (refine V.s omX7_bends rfl rfl ?_)
  refine V.cVf omX7_bends omX7_whyNoPackingUpTo rfl rfl (c_whyUpTo 38 hm h6 r n) rfl rfl rfl rfl rfl rfl ?_
  iterate 2 (refine V.s omX7_bends rfl rfl ?_)
  by_cases h0 : wu A m r n = 0
  · refine V.brT omX7_bends rfl rfl h0 (fun h g => g h) ?_
    simp only [if_pos h0]
    rw [wpA_y (wu_0 h0)]
    refine V.s omX7_bends rfl rfl ?_
    refine V.gf omX7_bends rfl rfl rfl rfl ?_
    refine V.s omX7_bends rfl rfl ?_
    refine V.gf omX7_bends rfl rfl rfl rfl ?_
    iterate 2 (refine V.s omX7_bends rfl rfl ?_)
    refine V.cVv omX7_bends omX3_survey rfl rfl (c_sv6 n (-1) (wL A r).2.1 (wL A r).2.2) rfl rfl rfl rfl rfl rfl ?_
    refine V.s omX7_bends rfl rfl ?_
    refine V.gf omX7_bends rfl rfl rfl rfl ?_
    refine V.gf omX7_bends rfl rfl rfl rfl ?_
    rw [va_up_self]
    exact V.iret omX7_bends rfl rfl ⟨⟨_, _, rfl, J7_t (J7_Lh _ _ _) (J7_hG _ _ _)⟩, A 23, B 23, A 24, rfl⟩
  · refine V.brF omX7_bends rfl rfl h0 ?_
    simp only [if_neg h0]
    iterate 2 (refine V.s omX7_bends rfl rfl ?_)
    refine V.cVf omX7_bends omX7_refuse rfl rfl (c_refuse _ _ (rfB_c (wu_c A m r n) h0)) rfl rfl rfl rfl rfl rfl ?_
    exact V.iret omX7_bends rfl rfl ⟨⟨_, _, rfl, J7_rf (J7_wpA A m r) _⟩, A 23, B 23, A 24, rfl⟩
set_option maxHeartbeats 4000000 in
set_option maxRecDepth 100000 in
theorem c7_rests {m : Nat} (hm : A 0 9 = nI m) (h6 : m ≤ 6) (r n : Int32) : C mX7_rests 44 0 0 [.ref 0, .int r, .int n] (hp A B) (fun r' h' => (∃ A' B', h' = hp A' B' ∧ J7 (if wu A m r n = 0 then A else rfA A (rfI (wu A m r n))) A') ∧ ∃ F G q, r' = some (.int (if wu A m r n = 0 then (S7 n (-1) (wL A r).2.1 F G q).1 6 else wu A m r n))) := by
  refine C.of [some (.ref 0), some (.int r), some (.int n), none] omX7_rests rfl rfl rfl ?_
  iterate 3 (refine V.s omX7_rests rfl rfl ?_)
  refine V.cVf omX7_rests omX7_whyNoPackingUpTo rfl rfl (c_whyUpTo 38 hm h6 r n) rfl rfl rfl rfl rfl rfl ?_
  iterate 2 (refine V.s omX7_rests rfl rfl ?_)
  by_cases h0 : wu A m r n = 0
  · refine V.brT omX7_rests rfl rfl h0 (fun h g => g h) ?_
    simp only [if_pos h0]
    rw [wpA_y (wu_0 h0)]
    refine V.s omX7_rests rfl rfl ?_
    refine V.gf omX7_rests rfl rfl rfl rfl ?_
    refine V.s omX7_rests rfl rfl ?_
    refine V.gf omX7_rests rfl rfl rfl rfl ?_
    iterate 2 (refine V.s omX7_rests rfl rfl ?_)
    refine V.cVv omX7_rests omX3_survey rfl rfl (c_sv6 n (-1) (wL A r).2.1 (wL A r).2.2) rfl rfl rfl rfl rfl rfl ?_
    refine V.s omX7_rests rfl rfl ?_
    refine V.gf omX7_rests rfl rfl rfl rfl ?_
    refine V.gf omX7_rests rfl rfl rfl rfl ?_
    rw [va_up_self]
    exact V.iret omX7_rests rfl rfl ⟨⟨_, _, rfl, J7_t (J7_Lh _ _ _) (J7_hG _ _ _)⟩, A 23, B 23, A 24, rfl⟩
  · refine V.brF omX7_rests rfl rfl h0 ?_
    simp only [if_neg h0]
    iterate 2 (refine V.s omX7_rests rfl rfl ?_)
    refine V.cVf omX7_rests omX7_refuse rfl rfl (c_refuse _ _ (rfB_c (wu_c A m r n) h0)) rfl rfl rfl rfl rfl rfl ?_
    exact V.iret omX7_rests rfl rfl ⟨⟨_, _, rfl, J7_rf (J7_wpA A m r) _⟩, A 23, B 23, A 24, rfl⟩
def wx (A : Nat → Nat → Int32) (m : Nat) (r n : Int32) : Int32 := if wp A m r = 0 then (if -1000000000 ≤ n ∧ n < 300 then 0 else -7) else wp A m r
theorem wx_c (A : Nat → Nat → Int32) (m : Nat) (r n : Int32) : wx A m r n = 0 ∨ wx A m r n = -7 ∨ wx A m r n = -3 := by
  unfold wx
  rcases wp_c A m r with h | h | h
  · rw [if_pos h]; split <;> simp
  · rw [if_neg (by rw [h]; decide), h]; simp
  · rw [if_neg (by rw [h]; decide), h]; simp
set_option maxHeartbeats 4000000 in
set_option maxRecDepth 100000 in
theorem c7_next {m : Nat} (hm : A 0 9 = nI m) (h6 : m ≤ 6) (r n : Int32) : C mX7_next 45 0 0 [.ref 0, .int r, .int n] (hp A B) (fun r' h' => (∃ A' B', h' = hp A' B' ∧ J7 (if wx A m r n = 0 then A else rfA A (rfI (wx A m r n))) A') ∧ ∃ F G q, F 3 = n ∧ r' = some (.int (if wx A m r n = 0 then (if (S7 300 (-1) (wL A r).2.1 F G q).1 8 = 0 then -1 else (S7 300 (-1) (wL A r).2.1 F G q).1 9) else wx A m r n))) := by
  refine C.of [some (.ref 0), some (.int r), some (.int n), none] omX7_next rfl rfl rfl ?_
  iterate 2 (refine V.s omX7_next rfl rfl ?_)
  refine V.cVf omX7_next omX7_whyNoPacking rfl rfl (c_whyNoPacking 40 hm h6 r) rfl rfl rfl rfl rfl rfl ?_
  iterate 2 (refine V.s omX7_next rfl rfl ?_)
  have bad : ∀ y, wx A m r n = y → ¬ y = 0 → V mX7_next 45 0 0 (fun r' h' => (∃ A' B', h' = hp A' B' ∧ J7 (if wx A m r n = 0 then A else rfA A (rfI (wx A m r n))) A') ∧ ∃ F G q, F 3 = n ∧ r' = some (.int (if wx A m r n = 0 then (if (S7 300 (-1) (wL A r).2.1 F G q).1 8 = 0 then -1 else (S7 300 (-1) (wL A r).2.1 F G q).1 9) else wx A m r n))) 0 0 26 [some (.ref 0), some (.int r), some (.int n), some (.int y)] [] (hp (wpA A m r) B) := by
    intro y hy h0
    subst hy
    refine V.s omX7_next rfl rfl ?_
    refine V.brF omX7_next rfl rfl h0 ?_
    simp only [if_neg h0]
    iterate 2 (refine V.s omX7_next rfl rfl ?_)
    refine V.cVf omX7_next omX7_refuse rfl rfl (c_refuse _ _ (rfB_c (wx_c A m r n) h0)) rfl rfl rfl rfl rfl rfl ?_
    exact V.iret omX7_next rfl rfl ⟨⟨_, _, rfl, J7_rf (J7_wpA A m r) _⟩, (fun _ => n), B 23, A 24, rfl, rfl⟩
  by_cases h0 : wp A m r = 0
  · refine V.brF omX7_next rfl rfl (fun g => g h0) ?_
    iterate 2 (refine V.s omX7_next rfl rfl ?_)
    by_cases h1 : n < -1000000000
    · refine V.brT omX7_next rfl rfl h1 (fun h => Int32.not_le.mpr h) ?_
      iterate 2 (refine V.s omX7_next rfl rfl ?_)
      exact bad (-7) (by unfold wx; rw [if_pos h0, if_neg (fun g => Int32.not_le.mpr h1 g.1)]) (by decide)
    · refine V.brF omX7_next rfl rfl h1 ?_
      iterate 2 (refine V.s omX7_next rfl rfl ?_)
      by_cases h2 : n < 300
      · refine V.brT omX7_next rfl rfl h2 (fun h => Int32.not_le.mpr h) ?_
        have hx : wx A m r n = 0 := by unfold wx; rw [if_pos h0, if_pos ⟨Int32.not_lt.mp h1, h2⟩]
        simp only [if_pos hx]
        refine V.s omX7_next rfl rfl ?_
        refine V.brT omX7_next rfl rfl h0 (fun h g => g h) ?_
        rw [wpA_y h0]
        refine V.s omX7_next rfl rfl ?_
        refine V.gf omX7_next rfl rfl rfl rfl ?_
        refine V.s omX7_next rfl rfl ?_
        refine V.gf omX7_next rfl rfl rfl rfl ?_
        refine V.s omX7_next rfl rfl ?_
        refine V.cV omX7_next omX3_leastBendAbove (c_leastAbove (A := Lh A 6 (wL A r).2.1 (wL A r).2.2) (B := B) n) rfl rfl rfl rfl rfl rfl rfl rfl (by omega) (by omega) (fun r' h' hQ => ?_)
        obtain ⟨⟨A', B', rfl, hJ⟩, F, G, hF, rfl⟩ := hQ
        show V mX7_next 45 0 0 _ 0 0 48 _ [.int _] _
        exact V.iret omX7_next rfl rfl ⟨⟨_, _, rfl, J7_t (J7_Lh _ _ _) hJ⟩, F, G, A 24, hF, rfl⟩
      · refine V.brF omX7_next rfl rfl h2 ?_
        iterate 2 (refine V.s omX7_next rfl rfl ?_)
        exact bad (-7) (by unfold wx; rw [if_pos h0, if_neg (fun g => h2 g.2)]) (by decide)
  · refine V.brT omX7_next rfl rfl h0 (fun g => g) ?_
    exact bad _ (by unfold wx; rw [if_neg h0]) h0
set_option maxHeartbeats 4000000 in
set_option maxRecDepth 100000 in
theorem c7_sum {m : Nat} (hm : A 0 9 = nI m) (h6 : m ≤ 6) (r n v : Int32) : C mX7_sum 44 0 0 [.ref 0, .int r, .int n, .int v] (hp A B) (fun r' h' => (∃ A' B', h' = hp A' B' ∧ J7 (if wz8 (wu A m r n) v = 0 then A else rfA A (rfI (wz8 (wu A m r n) v))) A') ∧ ∃ F G q, r' = some (.long (if wz8 (wu A m r n) v = 0 then (if v = 0 then (S7 n (-1) (wL A r).2.1 F G q).2 7 else ((S7 n (v - 1) (wL A r).2.1 F G q).1 4).toInt64) else 0))) := by
  refine C.of [some (.ref 0), some (.int r), some (.int n), some (.int v), none] omX7_sum rfl rfl rfl ?_
  iterate 3 (refine V.s omX7_sum rfl rfl ?_)
  refine V.cVf omX7_sum omX7_whyNoPackingUpTo rfl rfl (c_whyUpTo 38 hm h6 r n) rfl rfl rfl rfl rfl rfl ?_
  iterate 2 (refine V.s omX7_sum rfl rfl ?_)
  have wzc : wz8 (wu A m r n) v = 0 ∨ wz8 (wu A m r n) v = -7 ∨ wz8 (wu A m r n) v = -3 := by
    unfold wz8
    rcases wu_c A m r n with h | h | h
    · rw [if_pos h]; split <;> simp
    · rw [if_neg (by rw [h]; decide), h]; simp
    · rw [if_neg (by rw [h]; decide), h]; simp
  have bad : ∀ y, wz8 (wu A m r n) v = y → ¬ y = 0 → V mX7_sum 44 0 0 (fun r' h' => (∃ A' B', h' = hp A' B' ∧ J7 (if wz8 (wu A m r n) v = 0 then A else rfA A (rfI (wz8 (wu A m r n) v))) A') ∧ ∃ F G q, r' = some (.long (if wz8 (wu A m r n) v = 0 then (if v = 0 then (S7 n (-1) (wL A r).2.1 F G q).2 7 else ((S7 n (v - 1) (wL A r).2.1 F G q).1 4).toInt64) else 0))) 0 0 26 [some (.ref 0), some (.int r), some (.int n), some (.int v), some (.int y)] [] (hp (wpA A m r) B) := by
    intro y hy h0
    subst hy
    refine V.s omX7_sum rfl rfl ?_
    refine V.brF omX7_sum rfl rfl h0 ?_
    simp only [if_neg h0]
    iterate 2 (refine V.s omX7_sum rfl rfl ?_)
    refine V.cVf omX7_sum omX7_refuseByZero rfl rfl (c_refuseByZero _ _ (rfB_c wzc h0)) rfl rfl rfl rfl rfl rfl ?_
    refine V.s omX7_sum rfl rfl ?_
    exact V.lret omX7_sum rfl rfl ⟨⟨_, _, rfl, J7_rf (J7_wpA A m r) _⟩, A 23, B 23, A 24, rfl⟩
  by_cases h0 : wu A m r n = 0
  · refine V.brF omX7_sum rfl rfl (fun g => g h0) ?_
    refine V.s omX7_sum rfl rfl ?_
    by_cases h1 : v < 0
    · refine V.brT omX7_sum rfl rfl h1 (fun h => Int32.not_le.mpr h) ?_
      iterate 2 (refine V.s omX7_sum rfl rfl ?_)
      exact bad (-7) (by unfold wz8; rw [if_pos h0, if_neg (fun g => Int32.not_le.mpr h1 g.1)]) (by decide)
    refine V.brF omX7_sum rfl rfl h1 ?_
    iterate 2 (refine V.s omX7_sum rfl rfl ?_)
    by_cases h2 : v ≤ 4
    · refine V.brT omX7_sum rfl rfl h2 (fun h => Int32.not_lt.mpr h) ?_
      have hz : wz8 (wu A m r n) v = 0 := by unfold wz8; rw [if_pos h0, if_pos ⟨Int32.not_lt.mp h1, h2⟩]
      simp only [if_pos hz]
      refine V.s omX7_sum rfl rfl ?_
      refine V.brT omX7_sum rfl rfl h0 (fun h g => g h) ?_
      rw [wpA_y (wu_0 h0)]
      refine V.s omX7_sum rfl rfl ?_
      refine V.gf omX7_sum rfl rfl rfl rfl ?_
      refine V.s omX7_sum rfl rfl ?_
      refine V.gf omX7_sum rfl rfl rfl rfl ?_
      iterate 2 (refine V.s omX7_sum rfl rfl ?_)
      by_cases h3 : v = 0
      · refine V.brF omX7_sum rfl rfl (fun g => g h3) ?_
        iterate 2 (refine V.s omX7_sum rfl rfl ?_)
        refine V.cVv omX7_sum omX3_survey rfl rfl (c_sv6 n (-1) (wL A r).2.1 (wL A r).2.2) rfl rfl rfl rfl rfl rfl ?_
        refine V.s omX7_sum rfl rfl ?_
        refine V.brF omX7_sum rfl rfl (fun g => g h3) ?_
        refine V.s omX7_sum rfl rfl ?_
        refine V.gf omX7_sum rfl rfl rfl rfl ?_
        refine V.gf omX7_sum rfl rfl rfl rfl ?_
        rw [va_up_self]
        refine V.s omX7_sum rfl rfl ?_
        exact V.lret omX7_sum rfl rfl ⟨⟨_, _, rfl, J7_t (J7_Lh _ _ _) (J7_hG _ _ _)⟩, A 23, B 23, A 24, by rw [if_pos h3]⟩
      · refine V.brT omX7_sum rfl rfl h3 (fun g => g) ?_
        iterate 3 (refine V.s omX7_sum rfl rfl ?_)
        refine V.cVv omX7_sum omX3_survey rfl rfl (c_sv6 n (v - 1) (wL A r).2.1 (wL A r).2.2) rfl rfl rfl rfl rfl rfl ?_
        refine V.s omX7_sum rfl rfl ?_
        refine V.brT omX7_sum rfl rfl h3 (fun g => g) ?_
        refine V.s omX7_sum rfl rfl ?_
        refine V.gf omX7_sum rfl rfl rfl rfl ?_
        refine V.gf omX7_sum rfl rfl rfl rfl ?_
        rw [va_up_self]
        refine V.s omX7_sum rfl rfl ?_
        exact V.lret omX7_sum rfl rfl ⟨⟨_, _, rfl, J7_t (J7_Lh _ _ _) (J7_hG _ _ _)⟩, A 23, B 23, A 24, by rw [if_neg h3]⟩
    · refine V.brF omX7_sum rfl rfl h2 ?_
      iterate 2 (refine V.s omX7_sum rfl rfl ?_)
      exact bad (-7) (by unfold wz8; rw [if_pos h0, if_neg (fun g => h2 g.2)]) (by decide)
  · refine V.brT omX7_sum rfl rfl h0 (fun g => g) ?_
    exact bad _ (by unfold wz8; rw [if_neg h0]) h0
end PL
