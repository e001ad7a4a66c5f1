section MDJ
variable {A : Nat → Nat → Int32} {B : Nat → Nat → Int64} {R W Y X : Nat → Int32}
theorem AD_lt {R : Nat → Int32} : ∀ {l : List Nat}, AD R l → ∀ k, k < l.length → atD l k < 10000
  | [], _, k, hk => by simp at hk
  | y :: t, h, k, hk => by
    simp only [List.length_cons] at hk
    by_cases hkt : k = t.length
    · subst hkt
      unfold atD
      simp
      exact h.1
    · have := AD_lt h.2.2 k (by omega)
      unfold atD at this ⊢
      simp only [List.length_cons]
      rw [show t.length + 1 - 1 - k = (t.length - 1 - k) + 1 by omega]
      simpa using this
def bsI (k : Nat) (down : Int32) : Int32 := if down = 0 then nI k + 1 else nI k + (-1)
theorem bsI_ix {k : Nat} {down : Int32} (s : Nat) (hs : s < 2 ^ 30) (hk : k < s) : (0 ≤ bsI k down ∧ bsI k down < nI s) ↔ (if down = 0 then k + 1 < s else 1 ≤ k) := by
  unfold bsI
  split
  · rw [nI_1]
    constructor
    · intro h
      exact (nI_ltI (by omega) (by omega)).mp h.2
    · intro h
      exact ⟨nI_pos' (by omega), nI_lt h (by omega)⟩
  · cases k with
    | zero =>
      constructor
      · intro h
        exact absurd h.1 (by decide)
      · intro h
        omega
    | succ k =>
      rw [pk_m1]
      constructor
      · intro _
        omega
      · intro _
        exact ⟨nI_pos' (by omega), nI_lt (by omega) (by omega)⟩
def bsN (k : Nat) (down : Int32) : Nat := if down = 0 then k + 1 else k - 1
theorem bsI_N {k : Nat} {down : Int32} {s : Nat} (h : if down = 0 then k + 1 < s else 1 ≤ k) : bsI k down = nI (bsN k down) := by
  unfold bsI bsN
  split
  · rw [nI_1]
  · next hd =>
    rw [if_neg hd] at h
    cases k with
    | zero => omega
    | succ k => rw [pk_m1]; rfl
def besV (l : List Nat) (k : Nat) (down : Int32) : Int32 := if 0 ≤ bsI k down ∧ bsI k down < nI l.length then nI (atD l (bsN k down)) else -1
def inR (f n : Int32) : Prop := orF n = 1 ∧ ofF f n = 1
set_option maxHeartbeats 4000000 in
set_option maxRecDepth 100000 in
theorem c8_besideY (d : Nat) {F N k : Nat} (down : Int32) (hN1 : 1 ≤ N) (hN : N ≤ 30) (hf : ofF (nI F) (nI N) = 1) (hF : F < 10000) (hk : k < (rowD N).length) (hk1 : atD (rowD N) k = F) (hk2 : ∀ j, j < k → ¬ atD (rowD N) j = F) : C mX8_beside (d + 3) 0 0 [.ref 33, .int (nI F), .int (nI N), .int down] (hp A B) (fun r' h' => (∃ A', h' = hp A' B ∧ J9 A A') ∧ r' = some (.int (besV (rowD N) k down))) := by
  refine C.of [some (.ref 33), some (.int (nI F)), some (.int (nI N)), some (.int down), none] omX8_beside rfl rfl rfl ?_
  refine V.s omX8_beside rfl rfl ?_
  refine V.cSf omX8_beside omX8_isRow rfl rfl (c8_isRow _ _ _) rfl rfl rfl rfl ?_
  have hor : orF (nI N) = 1 := by unfold orF; rw [if_pos ⟨(nIl_le 1 (by omega) (by decide)).mpr hN1, (nI_leI (b := 30) (by omega) (by decide)).mpr hN⟩]
  rw [hor]
  refine V.brF omX8_beside rfl rfl (by decide) ?_
  iterate 3 (refine V.s omX8_beside rfl rfl ?_)
  refine V.cVf omX8_beside omX8_isOf rfl rfl (c8_isOf d _ _) rfl rfl rfl rfl rfl rfl ?_
  rw [hf]
  refine V.brT omX8_beside rfl rfl (by decide) (by decide) ?_
  iterate 2 (refine V.s omX8_beside rfl rfl ?_)
  refine V.cV omX8_beside omX8_makesRow (c8_makesRow (d + 1) hN) rfl rfl rfl rfl rfl rfl rfl rfl (by omega) (by omega) (fun r' h' hQ => ?_)
  obtain ⟨⟨R', hA, rfl⟩, rfl⟩ := hQ
  show V mX8_beside (d + 3) 0 0 _ 0 0 28 _ [] _
  have hl := rowD_len hN
  iterate 2 (refine V.s omX8_beside rfl rfl ?_)
  have cp : C mX8_placeOf (d + 2) 0 0 [.ref 33, .int (nI F)] (hR A B R' (rowD N).length) (fun r h' => h' = hR A B R' (rowD N).length ∧ r = some (.int (nI k))) := by
    refine c8_placeOf (d + 2) (show k < 300 by omega) ?_ ?_
    · rw [xA46, AD_at hA k hk, hk1]
    · intro j hj h
      rw [xA46, AD_at hA j (by omega)] at h
      have := AD_lt hA j (by omega)
      exact hk2 j hj ((nI_eq (by omega) (by omega)).mp h)
  refine V.cVf omX8_beside omX8_placeOf rfl rfl cp rfl rfl rfl rfl rfl rfl ?_
  have fin : ∀ v4, V mX8_beside (d + 3) 0 0 (fun r' h' => (∃ A', h' = hp A' B ∧ J9 A A') ∧ r' = some (.int (besV (rowD N) k down))) 0 0 43 [some (.ref 33), some (.int (nI F)), some (.int (nI N)), some (.int down), v4] [.int (bsI k down)] (hR A B R' (rowD N).length) := by
    intro v4
    iterate 4 (refine V.s omX8_beside rfl rfl ?_)
    refine V.s omX8_beside rfl rfl ?_
    refine V.gf omX8_beside rfl rfl rfl rfl ?_
    rw [va_up_self, pk_us]
    refine V.s omX8_beside rfl rfl ?_
    obtain ⟨s, hs⟩ : ∃ s, (rowD N).length = s + 1 := ⟨(rowD N).length - 1, by omega⟩
    unfold besV
    rw [hs] at hk hl ⊢
    have hiff := bsI_ix (down := down) (s + 1) (by omega) hk
    refine V.s omX8_beside rfl rfl ?_
    rw [nI_pred]
    refine V.s omX8_beside rfl rfl ?_
    refine V.cSf omX8_beside omX8_isIn rfl rfl (isIn_nI _ _ (show s < 2 ^ 31 by omega) _) rfl rfl rfl rfl ?_
    by_cases hb : 0 ≤ bsI k down ∧ bsI k down < nI (s + 1)
    · have h1 := hiff.mp hb
      have h2 : 0 ≤ bsI k down ∧ bsI k down ≤ nI s := by
        obtain ⟨i, hi, e⟩ := rng (show s + 1 < 2 ^ 31 by omega) hb
        rw [e]
        exact ⟨nI_pos' (by omega), nI_le (by omega) (by omega)⟩
      rw [if_pos hb, if_pos h2]
      have h3 : bsN k down < s + 1 := by
        unfold bsN
        split
        · next hd => rw [if_pos hd] at h1; omega
        · omega
      rw [bsI_N h1]
      refine V.brF omX8_beside rfl rfl (by decide) ?_
      refine V.s omX8_beside rfl rfl ?_
      refine V.gf omX8_beside rfl rfl rfl rfl ?_
      refine V.s omX8_beside rfl rfl ?_
      refine V.ial omX8_beside rfl rfl (ixN nv_nI (show bsN k down < 300 by omega) (by decide)) ?_
      rw [xA46, AD_at hA _ (by omega)]
      refine V.s omX8_beside rfl rfl ?_
      exact V.iret omX8_beside rfl rfl ⟨⟨_, rfl, J9_R _ _ _⟩, rfl⟩
    · have h2 : ¬ (0 ≤ bsI k down ∧ bsI k down ≤ nI s) := by
        intro g
        obtain ⟨i, hi, e⟩ := inle (show s < 2 ^ 31 by omega) g
        rw [e] at hb
        exact hb ⟨nI_pos' (by omega), nI_lt (by omega) (by omega)⟩
      rw [if_neg hb, if_neg h2]
      refine V.brT omX8_beside rfl rfl rfl (by decide) ?_
      refine V.s omX8_beside rfl rfl ?_
      exact V.iret omX8_beside rfl rfl ⟨⟨_, rfl, J9_R _ _ _⟩, rfl⟩
  refine V.s omX8_beside rfl rfl ?_
  by_cases hd : down = 0
  · refine V.brT omX8_beside rfl rfl hd (fun h g => g h) ?_
    iterate 2 (refine V.s omX8_beside rfl rfl ?_)
    have e : bsI k down = nI k + 1 := by unfold bsI; rw [if_pos hd]
    have f1 := fin none
    rw [e] at f1
    exact f1
  · refine V.brF omX8_beside rfl rfl hd ?_
    iterate 3 (refine V.s omX8_beside rfl rfl ?_)
    have e : bsI k down = nI k + (-1) := by unfold bsI; rw [if_neg hd]
    have f1 := fin none
    rw [e] at f1
    exact f1
set_option maxHeartbeats 4000000 in
set_option maxRecDepth 100000 in
theorem c8_besideN (d : Nat) (f n down : Int32) (h : ¬ inR f n) : C mX8_beside (d + 3) 0 0 [.ref 33, .int f, .int n, .int down] (hp A B) (fun r' h' => h' = hp (rmA A 7) B ∧ r' = some (.int (-7))) := by
  refine C.of [some (.ref 33), some (.int f), some (.int n), some (.int down), none] omX8_beside rfl rfl rfl ?_
  refine V.s omX8_beside rfl rfl ?_
  refine V.cSf omX8_beside omX8_isRow rfl rfl (c8_isRow _ _ _) rfl rfl rfl rfl ?_
  rcases orF_01 n with h1 | h1
  · rw [h1]
    refine V.brT omX8_beside rfl rfl rfl (by decide) ?_
    iterate 2 (refine V.s omX8_beside rfl rfl ?_)
    refine V.cVf omX8_beside omX8_no rfl rfl (c8_no _ _ (by decide)) rfl rfl rfl rfl rfl rfl ?_
    exact V.iret omX8_beside rfl rfl ⟨rfl, rfl⟩
  · rw [h1]
    refine V.brF omX8_beside rfl rfl (by decide) ?_
    iterate 3 (refine V.s omX8_beside rfl rfl ?_)
    refine V.cVf omX8_beside omX8_isOf rfl rfl (c8_isOf d _ _) rfl rfl rfl rfl rfl rfl ?_
    rcases ofF_01 f n with h2 | h2
    · rw [h2]
      refine V.brF omX8_beside rfl rfl (by decide) ?_
      iterate 2 (refine V.s omX8_beside rfl rfl ?_)
      refine V.cVf omX8_beside omX8_no rfl rfl (c8_no _ _ (by decide)) rfl rfl rfl rfl rfl rfl ?_
      exact V.iret omX8_beside rfl rfl ⟨rfl, rfl⟩
    · exact absurd ⟨h1, h2⟩ h
set_option maxHeartbeats 4000000 in
set_option maxRecDepth 100000 in
theorem c8_areNear (d : Nat) {i j a b : Nat} (hi : i < 300) (hj : j < 300) (ha : a < 10000) (hb : b < 10000) (e1 : A 46 i = nI a) (e2 : A 46 j = nI b) : C mX8_areNear (d + 1) 0 0 [.ref 33, .int (nI i), .int (nI j)] (hp A B) (fun r h' => h' = hp A B ∧ r = some (.int (if nrP a b then 1 else 0))) := by
  refine C.of [some (.ref 33), some (.int (nI i)), some (.int (nI j)), none] omX8_areNear rfl rfl rfl ?_
  refine V.s omX8_areNear rfl rfl ?_
  refine V.gf omX8_areNear rfl rfl rfl rfl ?_
  refine V.s omX8_areNear rfl rfl ?_
  refine V.ial omX8_areNear rfl rfl (ixN nv_nI hi (by decide)) ?_
  refine V.s omX8_areNear rfl rfl ?_
  refine V.gf omX8_areNear rfl rfl rfl rfl ?_
  refine V.s omX8_areNear rfl rfl ?_
  refine V.ial omX8_areNear rfl rfl (ixN nv_nI hj (by decide)) ?_
  rw [e1, e2]
  refine V.cSf omX8_areNear omX8_determinant rfl rfl (c8_determinant d (show a < 2 ^ 31 by omega) (show b < 2 ^ 31 by omega) _) rfl rfl rfl rfl ?_
  iterate 3 (refine V.s omX8_areNear rfl rfl ?_)
  by_cases h3 : dt a b = 1
  · refine V.brT omX8_areNear rfl rfl h3 (fun h g => g h) ?_
    iterate 2 (refine V.s omX8_areNear rfl rfl ?_)
    exact V.zret omX8_areNear rfl rfl (by decide) ⟨rfl, by rw [if_pos ((dt_nr ha hb).mp (Or.inl h3))]⟩
  · refine V.brF omX8_areNear rfl rfl h3 ?_
    iterate 2 (refine V.s omX8_areNear rfl rfl ?_)
    by_cases h4 : dt a b = -1
    · refine V.brF omX8_areNear rfl rfl (fun g => g h4) ?_
      iterate 2 (refine V.s omX8_areNear rfl rfl ?_)
      exact V.zret omX8_areNear rfl rfl (by decide) ⟨rfl, by rw [if_pos ((dt_nr ha hb).mp (Or.inr h4))]⟩
    · refine V.brT omX8_areNear rfl rfl h4 (fun g => g) ?_
      refine V.s omX8_areNear rfl rfl ?_
      exact V.zret omX8_areNear rfl rfl (by decide) ⟨rfl, by rw [if_neg (fun q => ((dt_nr ha hb).mpr q).elim h3 h4)]⟩
abbrev hY (A : Nat → Nat → Int32) (B : Nat → Nat → Int64) (X R W Y : Nat → Int32) : hp_T := hp (va_up (va_up (va_up (va_up A 48 Y) 47 W) 46 R) 33 X) B
theorem yA46 : va_up (va_up (va_up (va_up A 48 Y) 47 W) 46 R) 33 X 46 = R := rfl
theorem yA47 : va_up (va_up (va_up (va_up A 48 Y) 47 W) 46 R) 33 X 47 = W := rfl
theorem yA48 : va_up (va_up (va_up (va_up A 48 Y) 47 W) 46 R) 33 X 48 = Y := rfl
theorem yA47u {W2 : Nat → Int32} : va_up (va_up (va_up (va_up (va_up A 48 Y) 47 W) 46 R) 33 X) 47 W2 = va_up (va_up (va_up (va_up A 48 Y) 47 W2) 46 R) 33 X := by rw [va_cm _ (show (33 : Nat) ≠ 47 by decide), va_cm _ (show (46 : Nat) ≠ 47 by decide), bx_uu]
theorem yA48u {Y2 : Nat → Int32} : va_up (va_up (va_up (va_up (va_up A 48 Y) 47 W) 46 R) 33 X) 48 Y2 = va_up (va_up (va_up (va_up A 48 Y2) 47 W) 46 R) 33 X := by rw [va_cm _ (show (33 : Nat) ≠ 48 by decide), va_cm _ (show (46 : Nat) ≠ 48 by decide), va_cm _ (show (47 : Nat) ≠ 48 by decide), bx_uu]
/-- the rows and their near ones -/
def W0p (g m : Nat) (Z : Nat → Int32) : Nat → Int32 := fun k => if k < m then (if k = g then 0 else 1000) else Z k
theorem W0p_s (g m : Nat) (Z : Nat → Int32) : upd (W0p g m Z) m (if m = g then 0 else 1000) = W0p g (m + 1) Z := by
  funext k
  unfold upd W0p
  by_cases h1 : k = m
  · subst h1; simp
  · rw [if_neg h1]
    by_cases h2 : k < m
    · rw [if_pos h2, if_pos (show k < m + 1 by omega)]
    · rw [if_neg h2, if_neg (by omega)]
def stJ (e : Nat → Nat) (d k m : Nat) (W : Nat → Int32) : Nat → Int32 := fun j => if j < m ∧ W j = 1000 ∧ nrP (e k) (e j) then nI (d + 1) else W j
theorem stJ_0 (e : Nat → Nat) (d k : Nat) (W : Nat → Int32) : stJ e d k 0 W = W := by
  funext j
  unfold stJ
  rw [if_neg (fun h => by omega)]
theorem stJ_y {e : Nat → Nat} {d k m : Nat} {W : Nat → Int32} (h1 : W m = 1000) (h2 : nrP (e k) (e m)) : upd (stJ e d k m W) m (nI (d + 1)) = stJ e d k (m + 1) W := by
  funext j
  unfold upd stJ
  by_cases h : j = m
  · subst h; rw [if_pos rfl, if_pos ⟨by omega, h1, h2⟩]
  · rw [if_neg h]
    by_cases g : j < m ∧ W j = 1000 ∧ nrP (e k) (e j)
    · rw [if_pos g, if_pos ⟨by omega, g.2⟩]
    · rw [if_neg g, if_neg (fun q => g ⟨by omega, q.2⟩)]
theorem stJ_n {e : Nat → Nat} {d k m : Nat} {W : Nat → Int32} (h1 : ¬ (W m = 1000 ∧ nrP (e k) (e m))) : stJ e d k m W = stJ e d k (m + 1) W := by
  funext j
  unfold stJ
  by_cases g : j < m ∧ W j = 1000 ∧ nrP (e k) (e j)
  · rw [if_pos g, if_pos ⟨by omega, g.2⟩]
  · rw [if_neg g, if_neg (fun q => ?_)]
    by_cases h : j = m
    · subst h; exact h1 q.2
    · exact g ⟨by omega, q.2⟩
theorem stJ_m {e : Nat → Nat} {d k m : Nat} {W : Nat → Int32} : stJ e d k m W m = W m := by
  unfold stJ
  rw [if_neg (fun h => by omega)]
def bk (e : Nat → Nat) (N d : Nat) (W : Nat → Int32) : Nat → (Nat → Int32) × Int32
  | 0 => (W, 0)
  | m + 1 => if (bk e N d W m).1 m = nI d then (stJ e d m N (bk e N d W m).1, 1) else bk e N d W m
theorem bk_01 (e : Nat → Nat) (N d : Nat) (W : Nat → Int32) (m : Nat) : (bk e N d W m).2 = 0 ∨ (bk e N d W m).2 = 1 := by
  induction m with
  | zero => exact Or.inl rfl
  | succ m ih =>
    unfold bk
    split
    · exact Or.inr rfl
    · exact ih
def wl (e : Nat → Nat) (N : Nat) : Nat → Nat → (Nat → Int32) → Option (Nat → Int32)
  | 0, _, _ => none
  | n + 1, d, W => if (bk e N d W N).2 = 0 then some (bk e N d W N).1 else wl e N n (d + 1) (bk e N d W N).1
abbrev rwH (R : Nat → Int32) (e : Nat → Nat) (N : Nat) (X : Nat → Int32) : Prop := (∀ k, k < N → R k = nI (e k) ∧ e k < 10000) ∧ N < 300 ∧ X 24 = nI N
set_option maxHeartbeats 4000000 in
set_option maxRecDepth 100000 in
theorem wy_47 (d : Nat) {f g n : Int32} {e : Nat → Nat} {N kg : Nat} (hH : rwH R e N X) (hg : kg < N) {Z : Nat → Int32} (v6 v7 v8 : Option Value) {Q : Option Value → hp_T → Prop} (kk : ∀ v5, V mX8_way (d + 3) 0 0 Q 0 0 83 [some (.ref 33), some (.int f), some (.int g), some (.int n), some (.int (nI kg)), v5, v6, v7, v8] [] (hY A B X R (W0p kg N Z) Y)) : ∀ (t k : Nat), k + t = N → V mX8_way (d + 3) 0 0 Q 0 0 47 [some (.ref 33), some (.int f), some (.int g), some (.int n), some (.int (nI kg)), some (.int (nI k)), v6, v7, v8] [] (hY A B X R (W0p kg k Z) Y) := by
  obtain ⟨h1, hN, hX⟩ := hH
  intro t
  induction t with
  | zero =>
    intro k hk
    have : k = N := by omega
    subst this
    iterate 2 (refine V.s omX8_way rfl rfl ?_)
    refine V.gf omX8_way rfl rfl rfl rfl ?_
    rw [va_up_self, hX]
    refine V.brT omX8_way rfl rfl Int32.le_rfl (fun h => Int32.not_lt.mpr h) ?_
    exact kk _
  | succ t ih =>
    intro k hk
    iterate 2 (refine V.s omX8_way rfl rfl ?_)
    refine V.gf omX8_way rfl rfl rfl rfl ?_
    rw [va_up_self, hX]
    refine V.brF omX8_way rfl rfl (nI_ge (by omega) (by omega)) ?_
    refine V.s omX8_way rfl rfl ?_
    refine V.gf omX8_way rfl rfl rfl rfl ?_
    iterate 3 (refine V.s omX8_way rfl rfl ?_)
    have fin : ∀ z : Int32, z = (if k = kg then 0 else 1000) → V mX8_way (d + 3) 0 0 Q 0 0 76 [some (.ref 33), some (.int f), some (.int g), some (.int n), some (.int (nI kg)), some (.int (nI k)), v6, v7, v8] [.int z, .int (nI k), .ref 47] (hY A B X R (W0p kg k Z) Y) := by
      intro z hz
      subst hz
      refine V.iasH omX8_way rfl rfl (ixN nv_nI (show k < 300 by omega) (by decide)) ?_
      rw [yA47, yA47u, W0p_s]
      iterate 2 (refine V.s omX8_way rfl rfl ?_)
      rw [nI_1]
      exact ih (k + 1) (by omega)
    by_cases hc : k = kg
    · refine V.brF omX8_way rfl rfl (fun q => q (by rw [hc])) ?_
      iterate 2 (refine V.s omX8_way rfl rfl ?_)
      exact fin 0 (by rw [if_pos hc])
    · refine V.brT omX8_way rfl rfl (fun q => hc ((nI_eq (by omega) (by omega)).mp q)) (fun q => q) ?_
      refine V.s omX8_way rfl rfl ?_
      exact fin 1000 (by rw [if_neg hc])
set_option maxHeartbeats 4000000 in
set_option maxRecDepth 100000 in
theorem wy_130 (d : Nat) {f g n en mo : Int32} {e : Nat → Nat} {N D k : Nat} (hH : rwH R e N X) (hk : k < N) {Q : Option Value → hp_T → Prop} (kk : ∀ v8, V mX8_way (d + 3) 0 0 Q 0 0 180 [some (.ref 33), some (.int f), some (.int g), some (.int n), some (.int en), some (.int mo), some (.int (nI D)), some (.int (nI k)), v8] [] (hY A B X R (stJ e D k N W) Y)) : ∀ (t j : Nat), j + t = N → V mX8_way (d + 3) 0 0 Q 0 0 130 [some (.ref 33), some (.int f), some (.int g), some (.int n), some (.int en), some (.int mo), some (.int (nI D)), some (.int (nI k)), some (.int (nI j))] [] (hY A B X R (stJ e D k j W) Y) := by
  obtain ⟨h1, hN, hX⟩ := hH
  intro t
  induction t with
  | zero =>
    intro j hj
    have : j = N := by omega
    subst this
    iterate 2 (refine V.s omX8_way rfl rfl ?_)
    refine V.gf omX8_way rfl rfl rfl rfl ?_
    rw [va_up_self, hX]
    refine V.brT omX8_way rfl rfl Int32.le_rfl (fun h => Int32.not_lt.mpr h) ?_
    exact kk _
  | succ t ih =>
    intro j hj
    iterate 2 (refine V.s omX8_way rfl rfl ?_)
    refine V.gf omX8_way rfl rfl rfl rfl ?_
    rw [va_up_self, hX]
    refine V.brF omX8_way rfl rfl (nI_ge (by omega) (by omega)) ?_
    refine V.s omX8_way rfl rfl ?_
    refine V.gf omX8_way rfl rfl rfl rfl ?_
    refine V.s omX8_way rfl rfl ?_
    refine V.ial omX8_way rfl rfl (ixN nv_nI (show j < 300 by omega) (by decide)) ?_
    rw [yA47, stJ_m]
    refine V.s omX8_way rfl rfl ?_
    have no : ¬ (W j = 1000 ∧ nrP (e k) (e j)) → V mX8_way (d + 3) 0 0 Q 0 0 174 [some (.ref 33), some (.int f), some (.int g), some (.int n), some (.int en), some (.int mo), some (.int (nI D)), some (.int (nI k)), some (.int (nI j))] [] (hY A B X R (stJ e D k j W) Y) := by
      intro q
      iterate 2 (refine V.s omX8_way rfl rfl ?_)
      rw [nI_1, stJ_n q]
      exact ih (j + 1) (by omega)
    by_cases hc : W j = 1000
    · refine V.brF omX8_way rfl rfl (fun q => q hc) ?_
      iterate 3 (refine V.s omX8_way rfl rfl ?_)
      have hkk := h1 k hk
      have hjj := h1 j (by omega)
      refine V.cVf omX8_way omX8_areNear rfl rfl (c8_areNear (d + 1) (show k < 300 by omega) (show j < 300 by omega) hkk.2 hjj.2 hkk.1 hjj.1) rfl rfl rfl rfl rfl rfl ?_
      by_cases hn : nrP (e k) (e j)
      · rw [if_pos hn]
        refine V.brF omX8_way rfl rfl (by decide) ?_
        refine V.s omX8_way rfl rfl ?_
        refine V.gf omX8_way rfl rfl rfl rfl ?_
        iterate 4 (refine V.s omX8_way rfl rfl ?_)
        rw [nI_1]
        refine V.iasH omX8_way rfl rfl (ixN nv_nI (show j < 300 by omega) (by decide)) ?_
        rw [yA47, yA47u, stJ_y hc hn]
        iterate 2 (refine V.s omX8_way rfl rfl ?_)
        rw [nI_1]
        exact ih (j + 1) (by omega)
      · rw [if_neg hn]
        refine V.brT omX8_way rfl rfl rfl (by decide) ?_
        exact no (fun q => hn q.2)
    · refine V.brT omX8_way rfl rfl hc (fun q => q) ?_
      exact no (fun q => hc q.1)
set_option maxHeartbeats 4000000 in
set_option maxRecDepth 100000 in
theorem wy_100 (d : Nat) {f g n en : Int32} {e : Nat → Nat} {N D : Nat} (hH : rwH R e N X) {Q : Option Value → hp_T → Prop} (kk : ∀ v7 v8, V mX8_way (d + 3) 0 0 Q 0 0 186 [some (.ref 33), some (.int f), some (.int g), some (.int n), some (.int en), some (.int (bk e N D W N).2), some (.int (nI D)), v7, v8] [] (hY A B X R (bk e N D W N).1 Y)) : ∀ (t k : Nat) (v8 : Option Value), k + t = N → V mX8_way (d + 3) 0 0 Q 0 0 100 [some (.ref 33), some (.int f), some (.int g), some (.int n), some (.int en), some (.int (bk e N D W k).2), some (.int (nI D)), some (.int (nI k)), v8] [] (hY A B X R (bk e N D W k).1 Y) := by
  have hH0 := hH
  obtain ⟨h1, hN, hX⟩ := hH
  intro t
  induction t with
  | zero =>
    intro k v8 hk
    have : k = N := by omega
    subst this
    iterate 2 (refine V.s omX8_way rfl rfl ?_)
    refine V.gf omX8_way rfl rfl rfl rfl ?_
    rw [va_up_self, hX]
    refine V.brT omX8_way rfl rfl Int32.le_rfl (fun h => Int32.not_lt.mpr h) ?_
    exact kk _ _
  | succ t ih =>
    intro k v8 hk
    iterate 2 (refine V.s omX8_way rfl rfl ?_)
    refine V.gf omX8_way rfl rfl rfl rfl ?_
    rw [va_up_self, hX]
    refine V.brF omX8_way rfl rfl (nI_ge (by omega) (by omega)) ?_
    refine V.s omX8_way rfl rfl ?_
    refine V.gf omX8_way rfl rfl rfl rfl ?_
    refine V.s omX8_way rfl rfl ?_
    refine V.ial omX8_way rfl rfl (ixN nv_nI (show k < 300 by omega) (by decide)) ?_
    rw [yA47]
    refine V.s omX8_way rfl rfl ?_
    by_cases hc : (bk e N D W k).1 k = nI D
    · refine V.brT omX8_way rfl rfl hc (fun h q => q h) ?_
      iterate 4 (refine V.s omX8_way rfl rfl ?_)
      have key := wy_130 (A := A) (B := B) (Y := Y) (X := X) (R := R) (W := (bk e N D W k).1) (f := f) (g := g) (n := n) (en := en) (mo := 1) (D := D) (Q := Q) d hH0 (show k < N by omega) (fun v8 => ?_) N 0 (by omega)
      · rw [stJ_0] at key
        exact key
      · iterate 2 (refine V.s omX8_way rfl rfl ?_)
        rw [nI_1]
        have k2 := ih (k + 1) v8 (by omega)
        have eb : bk e N D W (k + 1) = (stJ e D k N (bk e N D W k).1, 1) := by
          show (if (bk e N D W k).1 k = nI D then (stJ e D k N (bk e N D W k).1, (1 : Int32)) else bk e N D W k) = _
          rw [if_pos hc]
        rw [eb] at k2
        exact k2
    · refine V.brF omX8_way rfl rfl hc ?_
      iterate 3 (refine V.s omX8_way rfl rfl ?_)
      rw [nI_1]
      have k2 := ih (k + 1) v8 (by omega)
      have eb : bk e N D W (k + 1) = bk e N D W k := by
        show (if (bk e N D W k).1 k = nI D then (stJ e D k N (bk e N D W k).1, (1 : Int32)) else bk e N D W k) = _
        rw [if_neg hc]
      rw [eb] at k2
      exact k2
set_option maxHeartbeats 4000000 in
set_option maxRecDepth 100000 in
theorem wy_89 (d : Nat) {f g n en : Int32} {e : Nat → Nat} {N : Nat} (hH : rwH R e N X) {W' : Nat → Int32} {Q : Option Value → hp_T → Prop} (kk : ∀ v5 v6 v7 v8, V mX8_way (d + 3) 0 0 Q 0 0 192 [some (.ref 33), some (.int f), some (.int g), some (.int n), some (.int en), some (.int v5), some (.int v6), v7, v8] [] (hY A B X R W' Y)) : ∀ (t D : Nat) (W : Nat → Int32) (v7 v8 : Option Value), D + t < 2 ^ 31 → wl e N t D W = some W' → V mX8_way (d + 3) 0 0 Q 0 0 89 [some (.ref 33), some (.int f), some (.int g), some (.int n), some (.int en), some (.int 1), some (.int (nI D)), v7, v8] [] (hY A B X R W Y) := by
  intro t
  induction t with
  | zero => intro D W v7 v8 _ h; cases h
  | succ t ih =>
    intro D W v7 v8 hD h
    refine V.s omX8_way rfl rfl ?_
    refine V.brF omX8_way rfl rfl (by decide) ?_
    iterate 4 (refine V.s omX8_way rfl rfl ?_)
    refine wy_100 (W := W) d hH (fun v7 v8 => ?_) N 0 _ (by omega)
    iterate 2 (refine V.s omX8_way rfl rfl ?_)
    rw [nI_1]
    rcases bk_01 e N D W N with hb | hb
    · simp only [wl, if_pos hb] at h
      rw [hb]
      refine V.s omX8_way rfl rfl ?_
      refine V.brT omX8_way rfl rfl rfl (by decide) ?_
      cases h
      exact kk _ _ _ _
    · have hb0 : ¬ (bk e N D W N).2 = 0 := by rw [hb]; decide
      simp only [wl, if_neg hb0] at h
      rw [hb]
      exact ih (D + 1) _ _ _ (by omega) h
set_option maxHeartbeats 4000000 in
set_option maxRecDepth 100000 in
theorem wy_232 (d : Nat) {f g n en v5 : Int32} {e : Nat → Nat} {N L a i s : Nat} (hH : rwH R e N X) (h25 : X 25 = nI L) (ha : a < N) (hi : i ≤ L) (hL : L < 2 ^ 31) (hs : s < N) (c1 : W s = nI (L - i)) (c2 : nrP (e a) (e s)) (c3 : ∀ j, j < s → ¬ (W j = nI (L - i) ∧ nrP (e a) (e j))) {Q : Option Value → hp_T → Prop} (kk : V mX8_way (d + 3) 0 0 Q 0 0 266 [some (.ref 33), some (.int f), some (.int g), some (.int n), some (.int en), some (.int v5), some (.int (nI a)), some (.int (nI i)), some (.int (nI s))] [] (hY A B X R W Y)) : ∀ (t j : Nat), j + t = s → V mX8_way (d + 3) 0 0 Q 0 0 232 [some (.ref 33), some (.int f), some (.int g), some (.int n), some (.int en), some (.int v5), some (.int (nI a)), some (.int (nI i)), some (.int (nI j))] [] (hY A B X R W Y) := by
  obtain ⟨h1, hN, hX⟩ := hH
  have haa := h1 a ha
  intro t
  induction t with
  | zero =>
    intro j hj
    have : j = s := by omega
    subst this
    have hss := h1 j hs
    refine V.s omX8_way rfl rfl ?_
    refine V.gf omX8_way rfl rfl rfl rfl ?_
    refine V.s omX8_way rfl rfl ?_
    refine V.ial omX8_way rfl rfl (ixN nv_nI (show j < 300 by omega) (by decide)) ?_
    rw [yA47, c1]
    refine V.s omX8_way rfl rfl ?_
    refine V.gf omX8_way rfl rfl rfl rfl ?_
    rw [va_up_self, h25]
    iterate 2 (refine V.s omX8_way rfl rfl ?_)
    rw [pk_sub hi]
    refine V.brF omX8_way rfl rfl (fun q => q rfl) ?_
    iterate 3 (refine V.s omX8_way rfl rfl ?_)
    refine V.cVf omX8_way omX8_areNear rfl rfl (c8_areNear (d + 1) (show a < 300 by omega) (show j < 300 by omega) haa.2 hss.2 haa.1 hss.1) rfl rfl rfl rfl rfl rfl ?_
    rw [if_pos c2]
    refine V.brT omX8_way rfl rfl (by decide) (by decide) ?_
    exact kk
  | succ t ih =>
    intro j hj
    have hjj := h1 j (by omega)
    have cc := c3 j (by omega)
    have nx : V mX8_way (d + 3) 0 0 Q 0 0 260 [some (.ref 33), some (.int f), some (.int g), some (.int n), some (.int en), some (.int v5), some (.int (nI a)), some (.int (nI i)), some (.int (nI j))] [] (hY A B X R W Y) := by
      iterate 2 (refine V.s omX8_way rfl rfl ?_)
      rw [nI_1]
      exact ih (j + 1) (by omega)
    refine V.s omX8_way rfl rfl ?_
    refine V.gf omX8_way rfl rfl rfl rfl ?_
    refine V.s omX8_way rfl rfl ?_
    refine V.ial omX8_way rfl rfl (ixN nv_nI (show j < 300 by omega) (by decide)) ?_
    rw [yA47]
    refine V.s omX8_way rfl rfl ?_
    refine V.gf omX8_way rfl rfl rfl rfl ?_
    rw [va_up_self, h25]
    iterate 2 (refine V.s omX8_way rfl rfl ?_)
    rw [pk_sub hi]
    by_cases hc : W j = nI (L - i)
    · refine V.brF omX8_way rfl rfl (fun q => q hc) ?_
      iterate 3 (refine V.s omX8_way rfl rfl ?_)
      refine V.cVf omX8_way omX8_areNear rfl rfl (c8_areNear (d + 1) (show a < 300 by omega) (show j < 300 by omega) haa.2 hjj.2 haa.1 hjj.1) rfl rfl rfl rfl rfl rfl ?_
      rw [if_neg (fun q => cc ⟨hc, q⟩)]
      refine V.brF omX8_way rfl rfl (by decide) ?_
      exact nx
    · refine V.brT omX8_way rfl rfl hc (fun q => q) ?_
      exact nx
/-- a way told by places: each next one is the first that is one nearer and near -/
def isWay (e : Nat → Nat) (N L : Nat) (T : Nat → Nat → Prop) (s : Nat → Nat) : Prop := ∀ i, i < L → s (i + 1) < N ∧ T (L - (i + 1)) (s (i + 1)) ∧ nrP (e (s i)) (e (s (i + 1))) ∧ ∀ j, j < s (i + 1) → ¬ (T (L - (i + 1)) j ∧ nrP (e (s i)) (e j))
set_option maxHeartbeats 4000000 in
set_option maxRecDepth 100000 in
theorem wy_220 (d : Nat) {f g n en v5 : Int32} {e : Nat → Nat} {N L : Nat} {s : Nat → Nat} (hH : rwH R e N X) (h25 : X 25 = nI L) (hL : L < 300) (h0 : s 0 < N) (hs : isWay e N L (fun c j => W j = nI c) s) {Q : Option Value → hp_T → Prop} (kk : ∀ Y', (∀ i, i ≤ L → Y' i = nI (e (s i))) → Q (some (.int (nI L))) (hY A B X R W Y')) : ∀ (t i : Nat) (Y : Nat → Int32) (v8 : Option Value), i + t = L → (∀ j, j ≤ i → Y j = nI (e (s j))) → V mX8_way (d + 3) 0 0 Q 0 0 220 [some (.ref 33), some (.int f), some (.int g), some (.int n), some (.int en), some (.int v5), some (.int (nI (s i))), some (.int (nI (i + 1))), v8] [] (hY A B X R W Y) := by
  have hH0 := hH
  obtain ⟨h1, hN, hX⟩ := hH
  have hsN : ∀ i, i ≤ L → s i < N := by
    intro i hi
    cases i with
    | zero => exact h0
    | succ i => exact (hs i (by omega)).1
  intro t
  induction t with
  | zero =>
    intro i Y v8 hi hY'
    have : i = L := by omega
    subst this
    iterate 2 (refine V.s omX8_way rfl rfl ?_)
    refine V.gf omX8_way rfl rfl rfl rfl ?_
    rw [va_up_self, h25]
    refine V.brT omX8_way rfl rfl (nI_lt (by omega) (by omega)) (fun h => Int32.not_le.mpr h) ?_
    refine V.s omX8_way rfl rfl ?_
    refine V.gf omX8_way rfl rfl rfl rfl ?_
    rw [va_up_self, h25]
    exact V.iret omX8_way rfl rfl (kk Y hY')
  | succ t ih =>
    intro i Y v8 hi hY'
    iterate 2 (refine V.s omX8_way rfl rfl ?_)
    refine V.gf omX8_way rfl rfl rfl rfl ?_
    rw [va_up_self, h25]
    refine V.brF omX8_way rfl rfl (nI_nlt (by omega) (by omega)) ?_
    iterate 2 (refine V.s omX8_way rfl rfl ?_)
    obtain ⟨q1, q2, q3, q4⟩ := hs i (by omega)
    refine wy_232 d hH0 h25 (hsN i (by omega)) (show i + 1 ≤ L by omega) (by omega) q1 q2 q3 q4 ?_ (s (i + 1)) 0 (by omega)
    iterate 3 (refine V.s omX8_way rfl rfl ?_)
    refine V.gf omX8_way rfl rfl rfl rfl ?_
    iterate 2 (refine V.s omX8_way rfl rfl ?_)
    refine V.gf omX8_way rfl rfl rfl rfl ?_
    refine V.s omX8_way rfl rfl ?_
    refine V.ial omX8_way rfl rfl (ixN nv_nI (show s (i + 1) < 300 by omega) (by decide)) ?_
    rw [yA46, (h1 _ q1).1]
    refine V.iasH omX8_way rfl rfl (ixN nv_nI (show i + 1 < 300 by omega) (by decide)) ?_
    rw [yA48, yA48u]
    iterate 2 (refine V.s omX8_way rfl rfl ?_)
    rw [nI_1]
    refine ih (i + 1) _ _ (by omega) (fun j hj => ?_)
    by_cases hj1 : j = i + 1
    · subst hj1
      exact pk_us
    · rw [pk_un hj1]
      exact hY' j (by omega)
end MDJ
