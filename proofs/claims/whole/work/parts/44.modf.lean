section MDF
variable {A : Nat → Nat → Int32} {B : Nat → Nat → Int64} {F T P : Nat → Int32} {G b : Nat → Int64}
theorem va_cm {α : Type} (f : Nat → α) {j k : Nat} (h : j ≠ k) (v w : α) : va_up (va_up f j v) k w = va_up (va_up f k w) j v := by
  funext i
  unfold va_up
  by_cases h1 : i = k
  · have h2 : ¬ i = j := fun e => h (e.symm.trans h1)
    simp [h1, h2]
    intro e
    exact absurd e.symm h
  · by_cases h2 : i = j <;> simp [h1, h2]
    intro e
    exact absurd e h
abbrev hW (A : Nat → Nat → Int32) (B : Nat → Nat → Int64) (F : Nat → Int32) (G : Nat → Int64) (T P : Nat → Int32) (b : Nat → Int64) : hp_T := hp (va_up (va_up (va_up A 45 P) 44 T) 33 F) (va_up (va_up B 33 G) 41 b)
theorem yB33 : va_up (va_up B 33 G) 41 b 33 = G := rfl
theorem yB33u {G2 : Nat → Int64} : va_up (va_up (va_up B 33 G) 41 b) 33 G2 = va_up (va_up B 33 G2) 41 b := by rw [va_cm _ (show (41 : Nat) ≠ 33 by decide), bx_uu]
theorem xA45 : va_up (va_up (va_up A 45 P) 44 T) 33 F 45 = P := rfl
theorem xA44 : va_up (va_up (va_up A 45 P) 44 T) 33 F 44 = T := rfl
theorem xA45u {P2 : Nat → Int32} : va_up (va_up (va_up (va_up A 45 P) 44 T) 33 F) 45 P2 = va_up (va_up (va_up A 45 P2) 44 T) 33 F := by rw [va_cm _ (show (33 : Nat) ≠ 45 by decide), va_cm _ (show (44 : Nat) ≠ 45 by decide), bx_uu]
theorem xA44u {T2 : Nat → Int32} : va_up (va_up (va_up (va_up A 45 P) 44 T) 33 F) 44 T2 = va_up (va_up (va_up A 45 P) 44 T2) 33 F := by rw [va_cm _ (show (33 : Nat) ≠ 44 by decide), bx_uu]
theorem hW_0 : hW A B (A 33) (B 33) (A 44) (A 45) (B 41) = hp A B := by
  unfold hW
  rw [va_self A 45, va_self A 44, va_self A 33, vb_self B 33, vb_self B 41]
theorem hW_ex (d : Nat) {p : Nat} (hp4 : p < 4) : C mX8_exchanges d 0 0 [.ref 33, .int (nI p)] (hW A B F G T P b) (fun r h' => h' = hW A B F G T P (vp_updL b p (ex8 b p)) ∧ r = none) := by
  have h := c8_exchanges (A := va_up (va_up (va_up A 45 P) 44 T) 33 F) (B := va_up (va_up B 33 G) 41 b) d hp4 (nv_nI (a := p))
  rw [va_up_self, bx_uu] at h
  exact h
theorem hW_cn (d : Nat) (v : Int64) (ex ab : Int32) : C mX8_counts d 0 0 [.ref 33, .long v, .int ex, .int ab] (hW A B F G T P b) (fun r h' => h' = hW A B (cnF F v ex ab) (cnG G v) T P b ∧ r = none) := by
  have h := c8_counts (A := va_up (va_up (va_up A 45 P) 44 T) 33 F) (B := va_up (va_up B 33 G) 41 b) d v ex ab
  rw [yB33, yB33u, va_up_self, bx_uu] at h
  exact h
theorem hW_mt (d : Nat) {n : Nat} (hn : n ≤ 400) : C mX8_meets d 0 0 [.ref 33, .int (nI n)] (hW A B F G T P b) (fun r h' => h' = hW A B F G (mtT T P n) P b ∧ r = none) := by
  have h := c8_meets (A := va_up (va_up (va_up A 45 P) 44 T) 33 F) (B := va_up (va_up B 33 G) 41 b) d hn (nv_nI (a := n))
  rw [xA44, xA45, xA44u] at h
  exact h
def PR (P : Nat → Int32) : List Nat → Prop
  | [] => True
  | a :: p => a < 4 ∧ P p.length = nI a ∧ PR P p
theorem PR_ext {P P' : Nat → Int32} : ∀ {p : List Nat}, PR P p → (∀ k, k < p.length → P' k = P k) → PR P' p
  | [], _, _ => trivial
  | a :: p, h, e => ⟨h.1, (e p.length (by simp)).trans h.2.1, PR_ext h.2.2 (fun k hk => e k (by simp; omega))⟩
theorem PR_up {P : Nat → Int32} {p : List Nat} {a : Nat} (h : PR P p) (ha : a < 4) : PR (upd P p.length (nI a)) (a :: p) :=
  ⟨ha, pk_us, PR_ext h (fun k hk => pk_un (by omega))⟩
def nb (l : List Nat) (j : Nat) : Int32 := if j ∈ l then 0 else 1
theorem mi_nb {P : Nat → Int32} {j : Nat} (hj : j < 4) : ∀ {p : List Nat}, PR P p → mi P p.length j = nb p j
  | [], _ => rfl
  | a :: p, h => by
    have ih := mi_nb hj h.2.2
    have ha := h.1
    show (if ¬ mi P p.length j = 0 ∧ ¬ P p.length = nI j then (1 : Int32) else 0) = nb (a :: p) j
    have e : (nI a = nI j) ↔ a = j := nI_eq (by omega) (by omega)
    simp only [ih, h.2.1, e]
    unfold nb
    by_cases h1 : j ∈ p
    · simp [h1]
    · by_cases h2 : a = j
      · subst h2; simp
      · have h3 : ¬ j = a := fun e => h2 e.symm
        simp [h1, h2, h3]
def mtL (T : Nat → Int32) (l : List Nat) : Nat → Int32 := upd (upd (upd (upd T 0 (T 0 + nb l 0)) 1 (T 1 + nb l 1)) 2 (T 2 + nb l 2)) 3 (T 3 + nb l 3)
theorem mtT_L {P : Nat → Int32} {p : List Nat} (h : PR P p) : mtT T P p.length = mtL T p := by
  unfold mtT mtL
  rw [mi_nb (j := 0) (by decide) h, mi_nb (j := 1) (by decide) h, mi_nb (j := 2) (by decide) h, mi_nb (j := 3) (by decide) h]
abbrev skp (most : Int64) (path : List Nat) (b : Nat → Int64) (a : Nat) : Prop := path.head? = some a ∨ most < ex8 b a
def wv (f : List Nat → (Nat → Int64) → List (Int64 × List Nat)) (most : Int64) (path : List Nat) (b : Nat → Int64) (a : Nat) : List (Int64 × List Nat) := if skp most path b a then [] else (ex8 b a, a :: path) :: f (a :: path) (vp_updL b a (ex8 b a))
def wk (most : Int64) : Nat → List Nat → (Nat → Int64) → List (Int64 × List Nat)
  | 0 => fun _ _ => []
  | n + 1 => fun path b => wv (wk most n) most path b 0 ++ (wv (wk most n) most path b 1 ++ (wv (wk most n) most path b 2 ++ wv (wk most n) most path b 3))
def wkOK (most : Int64) : Nat → List Nat → (Nat → Int64) → Prop
  | 0, _, _ => False
  | n + 1, path, b => ∀ a, a < 4 → ¬ skp most path b a → wkOK most n (a :: path) (vp_updL b a (ex8 b a))
abbrev St8 := (Nat → Int32) × (Nat → Int64) × (Nat → Int32)
def vf (ex ab : Int32) (S : St8) (x : Int64 × List Nat) : St8 := (cnF S.1 x.1 ex ab, cnG S.2.1 x.1, mtL S.2.2 x.2)
abbrev LW (most : Int64) (ex ab : Int32) (deep a : Nat) : List (Option Value) := [some (.ref 33), some (.long most), none, some (.int ex), some (.int ab), some (.int (nI deep)), some (.int (nI a))]
theorem ex8_ex8 (b : Nat → Int64) {a : Nat} (ha : a < 4) : vp_updL (vp_updL b a (ex8 b a)) a (ex8 (vp_updL b a (ex8 b a)) a) = b := by
  have key : ex8 (vp_updL b a (ex8 b a)) a = b a := by
    rcases (show a = 0 ∨ a = 1 ∨ a = 2 ∨ a = 3 by omega) with rfl | rfl | rfl | rfl
    · show 2 * (ex8 b 0 + b 1 + b 2 + b 3 - ex8 b 0) - ex8 b 0 = b 0
      unfold ex8
      grind
    · show 2 * (b 0 + ex8 b 1 + b 2 + b 3 - ex8 b 1) - ex8 b 1 = b 1
      unfold ex8
      grind
    · show 2 * (b 0 + b 1 + ex8 b 2 + b 3 - ex8 b 2) - ex8 b 2 = b 2
      unfold ex8
      grind
    · show 2 * (b 0 + b 1 + b 2 + ex8 b 3 - ex8 b 3) - ex8 b 3 = b 3
      unfold ex8
      grind
  rw [key]
  funext j
  unfold vp_updL
  by_cases h : j = a
  · simp [h]
  · simp [h]
set_option maxHeartbeats 4000000 in
set_option maxRecDepth 100000 in
theorem gt_190 (d : Nat) {most : Int64} {ex ab : Int32} {deep a : Nat} (ha : a < 4) {Q : Option Value → hp_T → Prop} (ky : ¬ most < ex8 b a → V mX8_goesThrough (d + 1) 0 0 Q 0 0 248 (LW most ex ab deep a) [] (hW A B F G T P b)) (kn : most < ex8 b a → V mX8_goesThrough (d + 1) 0 0 Q 0 0 242 (LW most ex ab deep a) [] (hW A B F G T P b)) : V mX8_goesThrough (d + 1) 0 0 Q 0 0 190 (LW most ex ab deep a) [] (hW A B F G T P b) := by
  repeat (first | refine V.s omX8_goesThrough rfl rfl ?_ | refine V.gf omX8_goesThrough rfl rfl rfl rfl ?_ | refine V.lal omX8_goesThrough rfl rfl (ixN nv_nI (by omega) (by decide)) ?_ | refine V.lal omX8_goesThrough rfl rfl (ixN nv_lit (by omega) (by decide)) ?_)
  refine V.br omX8_goesThrough rfl rfl (fun hc => ?_) (fun hc => ?_)
  · exact ky (Int64.not_lt.mpr (lgc_le.mp hc))
  · exact kn (lgc_gt.mp hc)
set_option maxHeartbeats 4000000 in
set_option maxRecDepth 100000 in
theorem gt_135 (d : Nat) {most : Int64} {ex ab : Int32} {path : List Nat} {a : Nat} (ha : a < 4) (hP : PR P path) (hl : path.length < 400) {Q : Option Value → hp_T → Prop} (ky : ¬ skp most path b a → V mX8_goesThrough (d + 1) 0 0 Q 0 0 248 (LW most ex ab path.length a) [] (hW A B F G T P b)) (kn : skp most path b a → V mX8_goesThrough (d + 1) 0 0 Q 0 0 242 (LW most ex ab path.length a) [] (hW A B F G T P b)) : V mX8_goesThrough (d + 1) 0 0 Q 0 0 135 (LW most ex ab path.length a) [] (hW A B F G T P b) := by
  iterate 2 (refine V.s omX8_goesThrough rfl rfl ?_)
  refine V.brT omX8_goesThrough rfl rfl (by rw [nIl_eq 4 (by omega) (by decide)]; omega) (fun h => h) ?_
  refine V.s omX8_goesThrough rfl rfl ?_
  cases path with
  | nil =>
    refine V.brT omX8_goesThrough rfl rfl (show nI 0 ≤ 0 by decide) (fun h => Int32.not_lt.mpr h) ?_
    exact gt_190 d ha (fun h => ky (fun g => g.elim (fun e => by cases e) h)) (fun h => kn (Or.inr h))
  | cons c p =>
    have hc4 := hP.1
    simp only [List.length_cons] at hl ⊢ ky kn
    refine V.brF omX8_goesThrough rfl rfl (nI_nle (by omega) (by omega)) ?_
    refine V.s omX8_goesThrough rfl rfl ?_
    refine V.gf omX8_goesThrough rfl rfl rfl rfl ?_
    iterate 3 (refine V.s omX8_goesThrough rfl rfl ?_)
    rw [nI_pred]
    refine V.ial omX8_goesThrough rfl rfl (ixN nv_nI (show p.length < 400 by omega) (by decide)) ?_
    rw [xA45, hP.2.1]
    refine V.s omX8_goesThrough rfl rfl ?_
    refine V.br omX8_goesThrough rfl rfl (fun hc => ?_) (fun hc => ?_)
    · rw [nI_eq (by omega) (by omega)] at hc
      exact kn (Or.inl (by rw [hc]; rfl))
    · rw [nI_eq (by omega) (by omega)] at hc
      exact gt_190 d ha (fun h => ky (fun g => g.elim (fun e => hc (by cases e; rfl)) h)) (fun h => kn (Or.inr h))
set_option maxHeartbeats 4000000 in
set_option maxRecDepth 100000 in
theorem gt_skip (d : Nat) {most : Int64} {ex ab : Int32} {deep a : Nat} {Q : Option Value → hp_T → Prop} (kk : V mX8_goesThrough (d + 1) 0 0 Q 0 0 135 (LW most ex ab deep (a + 1)) [] (hW A B F G T P b)) : V mX8_goesThrough (d + 1) 0 0 Q 0 0 242 (LW most ex ab deep a) [] (hW A B F G T P b) := by
  iterate 2 (refine V.s omX8_goesThrough rfl rfl ?_)
  rw [nI_1]
  exact kk
set_option maxHeartbeats 4000000 in
set_option maxRecDepth 100000 in
theorem gt_enter (d : Nat) {most : Int64} {ex ab : Int32} {path : List Nat} {a : Nat} (ha : a < 4) (hP : PR P path) (hl : path.length < 400) {Q : Option Value → hp_T → Prop} (kk : V mX8_goesThrough (d + 1) 0 0 Q 0 0 135 (LW most ex ab (path.length + 1) 0) [] (hW A B (cnF F (ex8 b a) ex ab) (cnG G (ex8 b a)) (mtL T (a :: path)) (upd P path.length (nI a)) (vp_updL b a (ex8 b a)))) : V mX8_goesThrough (d + 1) 0 0 Q 0 0 248 (LW most ex ab path.length a) [] (hW A B F G T P b) := by
  iterate 2 (refine V.s omX8_goesThrough rfl rfl ?_)
  refine V.cVv omX8_goesThrough omX8_exchanges rfl rfl (hW_ex d ha) rfl rfl rfl rfl rfl rfl ?_
  refine V.s omX8_goesThrough rfl rfl ?_
  refine V.gf omX8_goesThrough rfl rfl rfl rfl ?_
  iterate 2 (refine V.s omX8_goesThrough rfl rfl ?_)
  refine V.iasH omX8_goesThrough rfl rfl (ixN nv_nI (show path.length < 400 by omega) (by decide)) ?_
  rw [xA45, xA45u]
  refine V.s omX8_goesThrough rfl rfl ?_
  rw [nI_1]
  repeat (first | refine V.s omX8_goesThrough rfl rfl ?_ | refine V.gf omX8_goesThrough rfl rfl rfl rfl ?_ | refine V.lal omX8_goesThrough rfl rfl (ixN nv_nI (by omega) (by decide)) ?_)
  rw [va_up_self, pk_uLs]
  refine V.cVv omX8_goesThrough omX8_counts rfl rfl (hW_cn d _ _ _) rfl rfl rfl rfl rfl rfl ?_
  iterate 2 (refine V.s omX8_goesThrough rfl rfl ?_)
  refine V.cVv omX8_goesThrough omX8_meets rfl rfl (hW_mt d (show path.length + 1 ≤ 400 by omega)) rfl rfl rfl rfl rfl rfl ?_
  rw [show path.length + 1 = (a :: path).length from rfl, mtT_L (PR_up hP ha)]
  iterate 3 (refine V.s omX8_goesThrough rfl rfl ?_)
  exact kk
set_option maxHeartbeats 4000000 in
set_option maxRecDepth 100000 in
theorem gt_leave (d : Nat) {most : Int64} {ex ab : Int32} {k a : Nat} (ha : a < 4) (hl : k < 400) (hP : P k = nI a) {Q : Option Value → hp_T → Prop} (kk : V mX8_goesThrough (d + 1) 0 0 Q 0 0 135 (LW most ex ab k (a + 1)) [] (hW A B F G T P (vp_updL b a (ex8 b a)))) : V mX8_goesThrough (d + 1) 0 0 Q 0 0 135 (LW most ex ab (k + 1) 4) [] (hW A B F G T P b) := by
  iterate 2 (refine V.s omX8_goesThrough rfl rfl ?_)
  refine V.brF omX8_goesThrough rfl rfl (by decide) ?_
  refine V.s omX8_goesThrough rfl rfl ?_
  refine V.brT omX8_goesThrough rfl rfl (nI_ne0 (by omega) (by omega)) (fun h => h) ?_
  refine V.s omX8_goesThrough rfl rfl ?_
  rw [pk_m1]
  refine V.s omX8_goesThrough rfl rfl ?_
  refine V.gf omX8_goesThrough rfl rfl rfl rfl ?_
  refine V.s omX8_goesThrough rfl rfl ?_
  refine V.ial omX8_goesThrough rfl rfl (ixN nv_nI hl (by decide)) ?_
  rw [xA45, hP]
  iterate 3 (refine V.s omX8_goesThrough rfl rfl ?_)
  refine V.cVv omX8_goesThrough omX8_exchanges rfl rfl (hW_ex d ha) rfl rfl rfl rfl rfl rfl ?_
  iterate 2 (refine V.s omX8_goesThrough rfl rfl ?_)
  rw [nI_1]
  exact kk
theorem gt_walk (d : Nat) {most : Int64} {ex ab : Int32} {Q : Option Value → hp_T → Prop} : ∀ (n : Nat) (path : List Nat) (b : Nat → Int64) (S : St8) (P : Nat → Int32), PR P path → path.length + n ≤ 400 → wkOK most n path b → (∀ P', PR P' path → V mX8_goesThrough (d + 1) 0 0 Q 0 0 135 (LW most ex ab path.length 4) [] (hW A B ((wk most n path b).foldl (vf ex ab) S).1 ((wk most n path b).foldl (vf ex ab) S).2.1 ((wk most n path b).foldl (vf ex ab) S).2.2 P' b)) → V mX8_goesThrough (d + 1) 0 0 Q 0 0 135 (LW most ex ab path.length 0) [] (hW A B S.1 S.2.1 S.2.2 P b) := by
  intro n
  induction n with
  | zero => intro path b S P _ _ h; exact h.elim
  | succ n ih =>
    intro path b S P hP hl hk kk
    have st : ∀ (a : Nat), a < 4 → ∀ (S : St8) (P : Nat → Int32), PR P path → (∀ P', PR P' path → V mX8_goesThrough (d + 1) 0 0 Q 0 0 135 (LW most ex ab path.length (a + 1)) [] (hW A B ((wv (wk most n) most path b a).foldl (vf ex ab) S).1 ((wv (wk most n) most path b a).foldl (vf ex ab) S).2.1 ((wv (wk most n) most path b a).foldl (vf ex ab) S).2.2 P' b)) → V mX8_goesThrough (d + 1) 0 0 Q 0 0 135 (LW most ex ab path.length a) [] (hW A B S.1 S.2.1 S.2.2 P b) := by
      intro a ha S P hP kk
      refine gt_135 d ha hP (by omega) (fun hs => ?_) (fun hs => ?_)
      · refine gt_enter d ha hP (by omega) ?_
        refine ih (a :: path) (vp_updL b a (ex8 b a)) (vf ex ab S (ex8 b a, a :: path)) _ (PR_up hP ha) (by simp only [List.length_cons]; omega) (hk a ha hs) (fun P' hP' => ?_)
        refine gt_leave d ha (by omega) hP'.2.1 ?_
        rw [ex8_ex8 b ha]
        have k2 := kk P' hP'.2.2
        unfold wv at k2
        rw [if_neg hs, List.foldl_cons] at k2
        exact k2
      · refine gt_skip d ?_
        have k2 := kk P hP
        unfold wv at k2
        rw [if_pos hs] at k2
        exact k2
    refine st 0 (by decide) _ _ hP (fun P1 h1 => ?_)
    refine st 1 (by decide) _ _ h1 (fun P2 h2 => ?_)
    refine st 2 (by decide) _ _ h2 (fun P3 h3 => ?_)
    refine st 3 (by decide) _ _ h3 (fun P4 h4 => ?_)
    have k2 := kk P4 h4
    simp only [wk, List.foldl_append] at k2
    exact k2
set_option maxHeartbeats 4000000 in
set_option maxRecDepth 100000 in
theorem gt_z (d : Nat) {most : Int64} {ex ab : Int32} {i : Nat} (hi : i < 4) (v6 : Option Value) {Q : Option Value → hp_T → Prop} (kk : V mX8_goesThrough (d + 1) 0 0 Q 0 0 28 [some (.ref 33), some (.long most), none, some (.int ex), some (.int ab), some (.int (nI (i + 1))), v6] [] (hW A B F G (upd T i 0) P b)) : V mX8_goesThrough (d + 1) 0 0 Q 0 0 28 [some (.ref 33), some (.long most), none, some (.int ex), some (.int ab), some (.int (nI i)), v6] [] (hW A B F G T P b) := by
  iterate 2 (refine V.s omX8_goesThrough rfl rfl ?_)
  refine V.brF omX8_goesThrough rfl rfl (by rw [nIl_le 4 (by omega) (by decide)]; omega) ?_
  refine V.s omX8_goesThrough rfl rfl ?_
  refine V.gf omX8_goesThrough rfl rfl rfl rfl ?_
  iterate 2 (refine V.s omX8_goesThrough rfl rfl ?_)
  refine V.iasH omX8_goesThrough rfl rfl (ixN nv_nI hi (by decide)) ?_
  rw [xA44, xA44u]
  iterate 2 (refine V.s omX8_goesThrough rfl rfl ?_)
  rw [nI_1]
  exact kk
set_option maxHeartbeats 4000000 in
set_option maxRecDepth 100000 in
theorem gt_j (d : Nat) {most : Int64} {ex ab : Int32} {i j : Nat} (hi : i < 4) (hj : j < 4) {Q : Option Value → hp_T → Prop} (kk : V mX8_goesThrough (d + 1) 0 0 Q 0 0 89 (LW most ex ab i (j + 1)) [] (hW A B F G (upd T j (T j + nb [i] j)) P b)) : V mX8_goesThrough (d + 1) 0 0 Q 0 0 89 (LW most ex ab i j) [] (hW A B F G T P b) := by
  iterate 2 (refine V.s omX8_goesThrough rfl rfl ?_)
  refine V.brF omX8_goesThrough rfl rfl (by rw [nIl_le 4 (by omega) (by decide)]; omega) ?_
  refine V.s omX8_goesThrough rfl rfl ?_
  refine V.gf omX8_goesThrough rfl rfl rfl rfl ?_
  iterate 2 (refine V.s omX8_goesThrough rfl rfl ?_)
  refine V.ial omX8_goesThrough rfl rfl (ixN nv_nI hj (by decide)) ?_
  rw [xA44]
  iterate 2 (refine V.s omX8_goesThrough rfl rfl ?_)
  have fin : ∀ z : Int32, z = nb [i] j → V mX8_goesThrough (d + 1) 0 0 Q 0 0 115 (LW most ex ab i j) [.int z, .int (T j), .int (nI j), .ref 44] (hW A B F G T P b) := by
    intro z hz
    subst hz
    refine V.s omX8_goesThrough rfl rfl ?_
    refine V.iasH omX8_goesThrough rfl rfl (ixN nv_nI hj (by decide)) ?_
    rw [xA44, xA44u]
    iterate 2 (refine V.s omX8_goesThrough rfl rfl ?_)
    rw [nI_1]
    exact kk
  refine V.br omX8_goesThrough rfl rfl (fun hc => ?_) (fun hc => ?_)
  · rw [nI_eq (by omega) (by omega)] at hc
    refine V.s omX8_goesThrough rfl rfl ?_
    exact fin 0 (by unfold nb; simp [hc])
  · rw [nI_eq (by omega) (by omega)] at hc
    iterate 2 (refine V.s omX8_goesThrough rfl rfl ?_)
    exact fin 1 (by unfold nb; simp [hc])
def v0 (most : Int64) (b : Nat → Int64) (i : Nat) : List (Int64 × List Nat) := if most < b i then [] else [(b i, [i])]
set_option maxHeartbeats 4000000 in
set_option maxRecDepth 100000 in
theorem gt_i (d : Nat) {most : Int64} {ex ab : Int32} {i : Nat} (hi : i < 4) (v6 : Option Value) (S : St8) {Q : Option Value → hp_T → Prop} (kk : ∀ v6, V mX8_goesThrough (d + 1) 0 0 Q 0 0 51 [some (.ref 33), some (.long most), none, some (.int ex), some (.int ab), some (.int (nI (i + 1))), v6] [] (hW A B ((v0 most b i).foldl (vf ex ab) S).1 ((v0 most b i).foldl (vf ex ab) S).2.1 ((v0 most b i).foldl (vf ex ab) S).2.2 P b)) : V mX8_goesThrough (d + 1) 0 0 Q 0 0 51 [some (.ref 33), some (.long most), none, some (.int ex), some (.int ab), some (.int (nI i)), v6] [] (hW A B S.1 S.2.1 S.2.2 P b) := by
  iterate 2 (refine V.s omX8_goesThrough rfl rfl ?_)
  refine V.brF omX8_goesThrough rfl rfl (by rw [nIl_le 4 (by omega) (by decide)]; omega) ?_
  repeat (first | refine V.s omX8_goesThrough rfl rfl ?_ | refine V.gf omX8_goesThrough rfl rfl rfl rfl ?_ | refine V.lal omX8_goesThrough rfl rfl (ixN nv_nI (by omega) (by decide)) ?_)
  rw [va_up_self]
  refine V.br omX8_goesThrough rfl rfl (fun hc => ?_) (fun hc => ?_)
  · rw [lgc_le] at hc
    repeat (first | refine V.s omX8_goesThrough rfl rfl ?_ | refine V.gf omX8_goesThrough rfl rfl rfl rfl ?_ | refine V.lal omX8_goesThrough rfl rfl (ixN nv_nI (by omega) (by decide)) ?_)
    rw [va_up_self]
    refine V.cVv omX8_goesThrough omX8_counts rfl rfl (hW_cn d _ _ _) rfl rfl rfl rfl rfl rfl ?_
    iterate 2 (refine V.s omX8_goesThrough rfl rfl ?_)
    refine gt_j (j := 0) d hi (by decide) ?_
    refine gt_j (j := 1) d hi (by decide) ?_
    refine gt_j (j := 2) d hi (by decide) ?_
    refine gt_j (j := 3) d hi (by decide) ?_
    iterate 2 (refine V.s omX8_goesThrough rfl rfl ?_)
    refine V.brT omX8_goesThrough rfl rfl (by decide) (by decide) ?_
    iterate 2 (refine V.s omX8_goesThrough rfl rfl ?_)
    rw [nI_1]
    have k2 := kk (some (.int (nI 4)))
    unfold v0 at k2
    rw [if_neg (Int64.not_lt.mpr hc)] at k2
    exact k2
  · rw [lgc_gt] at hc
    iterate 3 (refine V.s omX8_goesThrough rfl rfl ?_)
    rw [nI_1]
    have k2 := kk v6
    unfold v0 at k2
    rw [if_pos hc] at k2
    exact k2
def F08 (F : Nat → Int32) : Nat → Int32 := upd (upd (upd (upd F 13 0) 14 0) 15 0) 20 0
def T08 (T : Nat → Int32) : Nat → Int32 := upd (upd (upd (upd T 0 0) 1 0) 2 0) 3 0
def vis (most : Int64) (n : Nat) (b : Nat → Int64) : List (Int64 × List Nat) := v0 most b 0 ++ (v0 most b 1 ++ (v0 most b 2 ++ (v0 most b 3 ++ wk most n [] b)))
def gS (most : Int64) (ex ab : Int32) (n : Nat) (b : Nat → Int64) (F : Nat → Int32) (G : Nat → Int64) (T : Nat → Int32) : St8 := (vis most n b).foldl (vf ex ab) (F08 F, vp_updL G 17 0, T08 T)
set_option maxHeartbeats 4000000 in
set_option maxRecDepth 100000 in
theorem c8_goesThrough (d : Nat) {most : Int64} {ex ab : Int32} {n : Nat} (hn : n ≤ 400) (hk : wkOK most n [] (B 41)) : C mX8_goesThrough (d + 1) 0 0 [.ref 33, .long most, .int ex, .int ab] (hp A B) (fun r h' => (∃ P', h' = hW A B (gS most ex ab n (B 41) (A 33) (B 33) (A 44)).1 (gS most ex ab n (B 41) (A 33) (B 33) (A 44)).2.1 (gS most ex ab n (B 41) (A 33) (B 33) (A 44)).2.2 P' (B 41)) ∧ r = none) := by
  refine C.of [some (.ref 33), some (.long most), none, some (.int ex), some (.int ab), none, none] omX8_goesThrough rfl rfl rfl ?_
  have key : ∀ (Q : Option Value → hp_T → Prop), (∀ P', Q none (hW A B (gS most ex ab n (B 41) (A 33) (B 33) (A 44)).1 (gS most ex ab n (B 41) (A 33) (B 33) (A 44)).2.1 (gS most ex ab n (B 41) (A 33) (B 33) (A 44)).2.2 P' (B 41))) → V mX8_goesThrough (d + 1) 0 0 Q 0 0 0 [some (.ref 33), some (.long most), none, some (.int ex), some (.int ab), none, none] [] (hW A B (A 33) (B 33) (A 44) (A 45) (B 41)) := by
    intro Q hQ
    iterate 2 (refine V.s omX8_goesThrough rfl rfl ?_)
    refine V.pfH omX8_goesThrough rfl rfl rfl rfl rfl rfl rfl ?_
    rw [bx_uu, va_up_self]
    iterate 2 (refine V.s omX8_goesThrough rfl rfl ?_)
    refine V.pfH omX8_goesThrough rfl rfl rfl rfl rfl rfl rfl ?_
    rw [bx_uu, va_up_self]
    iterate 2 (refine V.s omX8_goesThrough rfl rfl ?_)
    refine V.pfH omX8_goesThrough rfl rfl rfl rfl rfl rfl rfl ?_
    rw [bx_uu, va_up_self]
    iterate 2 (refine V.s omX8_goesThrough rfl rfl ?_)
    refine V.pfL omX8_goesThrough rfl ?_
    rw [yB33, yB33u]
    iterate 2 (refine V.s omX8_goesThrough rfl rfl ?_)
    refine V.pfH omX8_goesThrough rfl rfl rfl rfl rfl rfl rfl ?_
    rw [bx_uu, va_up_self]
    iterate 2 (refine V.s omX8_goesThrough rfl rfl ?_)
    refine gt_z (i := 0) d (by decide) _ ?_
    refine gt_z (i := 1) d (by decide) _ ?_
    refine gt_z (i := 2) d (by decide) _ ?_
    refine gt_z (i := 3) d (by decide) _ ?_
    iterate 2 (refine V.s omX8_goesThrough rfl rfl ?_)
    refine V.brT omX8_goesThrough rfl rfl (by decide) (by decide) ?_
    iterate 2 (refine V.s omX8_goesThrough rfl rfl ?_)
    refine gt_i (i := 0) d (by decide) _ (F08 (A 33), vp_updL (B 33) 17 0, T08 (A 44)) (fun v6 => ?_)
    refine gt_i (i := 1) d (by decide) _ _ (fun v6 => ?_)
    refine gt_i (i := 2) d (by decide) _ _ (fun v6 => ?_)
    refine gt_i (i := 3) d (by decide) _ _ (fun v6 => ?_)
    iterate 2 (refine V.s omX8_goesThrough rfl rfl ?_)
    refine V.brT omX8_goesThrough rfl rfl (by decide) (by decide) ?_
    iterate 4 (refine V.s omX8_goesThrough rfl rfl ?_)
    refine gt_walk d n [] (B 41) _ _ trivial (by simp only [List.length_nil]; omega) hk (fun P' _ => ?_)
    iterate 2 (refine V.s omX8_goesThrough rfl rfl ?_)
    refine V.brF omX8_goesThrough rfl rfl (by decide) ?_
    refine V.s omX8_goesThrough rfl rfl ?_
    refine V.brF omX8_goesThrough rfl rfl (by decide) ?_
    refine V.vret omX8_goesThrough rfl rfl ?_
    have h2 := hQ P'
    unfold gS vis at h2
    simp only [List.foldl_append] at h2
    exact h2
  have k1 := key (fun r h' => (∃ P', h' = hW A B (gS most ex ab n (B 41) (A 33) (B 33) (A 44)).1 (gS most ex ab n (B 41) (A 33) (B 33) (A 44)).2.1 (gS most ex ab n (B 41) (A 33) (B 33) (A 44)).2.2 P' (B 41)) ∧ r = none) (fun P' => ⟨⟨P', rfl⟩, rfl⟩)
  rw [hW_0] at k1
  exact k1
end MDF
