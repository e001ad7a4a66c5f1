section MDI
variable {A : Nat → Nat → Int32} {B : Nat → Nat → Int64} {R : Nat → Int32}
def insD (x : Nat) : List Nat → List Nat
  | [] => [x]
  | y :: t => if gtD y x then y :: insD x t else x :: y :: t
theorem insD_len (x : Nat) : ∀ l, (insD x l).length = l.length + 1
  | [] => rfl
  | y :: t => by
    unfold insD
    split
    · simp only [List.length_cons, insD_len x t]
    · simp only [List.length_cons]
def rwP (q : Nat) : Nat → Nat → List Nat → List Nat
  | 0, _, l => l
  | t + 1, p, l => rwP q t (p + 1) (if Nat.gcd q p = 1 then insD (100 * p + q) l else l)
def rwQ : Nat → Nat → List Nat → List Nat
  | 0, _, l => l
  | t + 1, q, l => rwQ t (q + 1) (rwP q (q + 1) 0 l)
def rowD (n : Nat) : List Nat := rwQ n 1 []
theorem rwP_len (q : Nat) : ∀ (t p : Nat) (l : List Nat), l.length ≤ (rwP q t p l).length
  | 0, _, _ => Nat.le_refl _
  | t + 1, p, l => by
    have h := rwP_len q t (p + 1) (if Nat.gcd q p = 1 then insD (100 * p + q) l else l)
    unfold rwP
    split at h
    · next g => rw [insD_len] at h; rw [if_pos g]; omega
    · next g => rw [if_neg g]; exact h
theorem rwQ_len : ∀ (t q : Nat) (l : List Nat), l.length ≤ (rwQ t q l).length
  | 0, _, _ => Nat.le_refl _
  | t + 1, q, l => Nat.le_trans (rwP_len q (q + 1) 0 l) (rwQ_len t (q + 1) _)
def AD (R : Nat → Int32) : List Nat → Prop
  | [] => True
  | y :: t => y < 10000 ∧ R t.length = nI y ∧ AD R t
theorem AD_ext {R R' : Nat → Int32} : ∀ {p : List Nat}, AD R p → (∀ k, k < p.length → R' k = R k) → AD R' p
  | [], _, _ => trivial
  | a :: p, h, e => ⟨h.1, (e p.length (by simp)).trans h.2.1, AD_ext h.2.2 (fun k hk => e k (by simp; omega))⟩
abbrev hR (A : Nat → Nat → Int32) (B : Nat → Nat → Int64) (R : Nat → Int32) (s : Nat) : hp_T := hp (va_up (va_up A 46 R) 33 (upd (A 33) 24 (nI s))) B
theorem xA46 {F : Nat → Int32} : va_up (va_up A 46 R) 33 F 46 = R := rfl
theorem xA46u {F R2 : Nat → Int32} : va_up (va_up (va_up A 46 R) 33 F) 46 R2 = va_up (va_up A 46 R2) 33 F := by rw [va_cm _ (show (33 : Nat) ≠ 46 by decide), bx_uu]
theorem upd_uu {f : Nat → Int32} {k : Nat} {x y : Int32} : upd (upd f k x) k y = upd f k y := by
  funext j
  unfold upd
  split <;> rfl
set_option maxHeartbeats 4000000 in
set_option maxRecDepth 100000 in
theorem mr_85 (d : Nat) {p q a s : Nat} (n : Int32) (ha : a < 300) {Q : Option Value → hp_T → Prop} (kk : V mX8_makesRow (d + 1) 0 0 Q 0 0 98 [some (.ref 33), some (.int n), some (.int (nI q)), some (.int (nI p)), some (.int (nI a))] [] (hR A B (upd R a (nI (100 * p + q))) s)) : V mX8_makesRow (d + 1) 0 0 Q 0 0 85 [some (.ref 33), some (.int n), some (.int (nI q)), some (.int (nI p)), some (.int (nI a))] [] (hR A B R s) := by
  refine V.s omX8_makesRow rfl rfl ?_
  refine V.gf omX8_makesRow rfl rfl rfl rfl ?_
  iterate 6 (refine V.s omX8_makesRow rfl rfl ?_)
  rw [told100]
  refine V.iasH omX8_makesRow rfl rfl (ixN nv_nI ha (by decide)) ?_
  rw [xA46, xA46u]
  exact kk
set_option maxHeartbeats 4000000 in
set_option maxRecDepth 100000 in
theorem mr_37 (d : Nat) {p q s : Nat} (n : Int32) (hx : 100 * p + q < 10000) {Q : Option Value → hp_T → Prop} : ∀ (t : List Nat) (R : Nat → Int32), AD R t → t.length < 300 → (∀ (R' : Nat → Int32) (a : Nat), AD R' (insD (100 * p + q) t) → (∀ k, t.length < k → R' k = R k) → V mX8_makesRow (d + 1) 0 0 Q 0 0 98 [some (.ref 33), some (.int n), some (.int (nI q)), some (.int (nI p)), some (.int (nI a))] [] (hR A B R' s)) → V mX8_makesRow (d + 1) 0 0 Q 0 0 37 [some (.ref 33), some (.int n), some (.int (nI q)), some (.int (nI p)), some (.int (nI t.length))] [] (hR A B R s)
  | [], R, hA, hl, kk => by
    refine V.s omX8_makesRow rfl rfl ?_
    refine V.brT omX8_makesRow rfl rfl (show nI 0 ≤ 0 by decide) (fun h => Int32.not_lt.mpr h) ?_
    refine mr_85 d n (a := 0) (by decide) ?_
    exact kk _ 0 ⟨hx, pk_us, trivial⟩ (fun k hk => pk_un (by simp only [List.length_nil] at hk; omega))
  | y :: t, R, hA, hl, kk => by
    simp only [List.length_cons] at hl ⊢
    refine V.s omX8_makesRow rfl rfl ?_
    refine V.brF omX8_makesRow rfl rfl (nI_nle (by omega) (by omega)) ?_
    refine V.s omX8_makesRow rfl rfl ?_
    refine V.gf omX8_makesRow rfl rfl rfl rfl ?_
    iterate 3 (refine V.s omX8_makesRow rfl rfl ?_)
    rw [nI_pred]
    refine V.ial omX8_makesRow rfl rfl (ixN nv_nI (show t.length < 300 by omega) (by decide)) ?_
    rw [xA46, hA.2.1]
    iterate 5 (refine V.s omX8_makesRow rfl rfl ?_)
    rw [told100]
    have hy := hA.1
    refine V.cSf omX8_makesRow omX8_determinant rfl rfl (c8_determinant d (show y < 2 ^ 31 by omega) (show 100 * p + q < 2 ^ 31 by omega) _) rfl rfl rfl rfl ?_
    by_cases hg : gtD y (100 * p + q)
    · refine V.brF omX8_makesRow rfl rfl (fun h => (dt_le hy hx).mp h hg) ?_
      refine V.s omX8_makesRow rfl rfl ?_
      refine V.gf omX8_makesRow rfl rfl rfl rfl ?_
      iterate 2 (refine V.s omX8_makesRow rfl rfl ?_)
      refine V.gf omX8_makesRow rfl rfl rfl rfl ?_
      iterate 3 (refine V.s omX8_makesRow rfl rfl ?_)
      rw [nI_pred]
      refine V.ial omX8_makesRow rfl rfl (ixN nv_nI (show t.length < 300 by omega) (by decide)) ?_
      rw [xA46, hA.2.1]
      refine V.iasH omX8_makesRow rfl rfl (ixN nv_nI (show t.length + 1 < 300 by omega) (by decide)) ?_
      rw [xA46, xA46u]
      refine V.s omX8_makesRow rfl rfl ?_
      rw [pk_m1]
      refine V.s omX8_makesRow rfl rfl ?_
      refine mr_37 d n hx t _ (AD_ext hA.2.2 (fun k hk => pk_un (by omega))) (by omega) (fun R' a h1 h2 => ?_)
      refine kk R' a ?_ (fun k hk => ?_)
      · unfold insD
        rw [if_pos hg]
        exact ⟨hy, by rw [insD_len, h2 _ (by omega)]; exact pk_us, h1⟩
      · simp only [List.length_cons] at hk
        rw [h2 k (by omega)]
        exact pk_un (by omega)
    · refine V.brT omX8_makesRow rfl rfl ((dt_le hy hx).mpr hg) (fun h => Int32.not_lt.mpr h) ?_
      refine mr_85 d n (by omega) ?_
      refine kk _ _ ?_ (fun k hk => ?_)
      · unfold insD
        rw [if_neg hg]
        exact ⟨hx, pk_us, hy, (pk_un (by simp)).trans hA.2.1, AD_ext hA.2.2 (fun k hk => pk_un (by omega))⟩
      · simp only [List.length_cons] at hk
        exact pk_un (by omega)
set_option maxHeartbeats 4000000 in
set_option maxRecDepth 100000 in
theorem mr_14 (d : Nat) {q : Nat} (n : Int32) (hq1 : 1 ≤ q) (hq : q < 100) {Q : Option Value → hp_T → Prop} : ∀ (t p : Nat) (l : List Nat) (R : Nat → Int32) (v4 : Option Value), p + t = q + 1 → AD R l → (rwP q t p l).length ≤ 300 → (∀ (R' : Nat → Int32) (v3 v4 : Option Value), AD R' (rwP q t p l) → V mX8_makesRow (d + 1) 0 0 Q 0 0 114 [some (.ref 33), some (.int n), some (.int (nI q)), v3, v4] [] (hR A B R' (rwP q t p l).length)) → V mX8_makesRow (d + 1) 0 0 Q 0 0 14 [some (.ref 33), some (.int n), some (.int (nI q)), some (.int (nI p)), v4] [] (hR A B R l.length) := by
  intro t
  induction t with
  | zero =>
    intro p l R v4 hp' hA hl kk
    have : p = q + 1 := by omega
    subst this
    iterate 2 (refine V.s omX8_makesRow rfl rfl ?_)
    refine V.brT omX8_makesRow rfl rfl (nI_lt (by omega) (by omega)) (fun h => Int32.not_le.mpr h) ?_
    exact kk R _ _ hA
  | succ t ih =>
    intro p l R v4 hp' hA hl kk
    iterate 2 (refine V.s omX8_makesRow rfl rfl ?_)
    refine V.brF omX8_makesRow rfl rfl (nI_nlt (by omega) (by omega)) ?_
    iterate 2 (refine V.s omX8_makesRow rfl rfl ?_)
    refine V.cSf omX8_makesRow omX8_divisor rfl rfl (c8_divisor d _ (show q < 2 ^ 31 by omega) (show p < 2 ^ 31 by omega)) rfl rfl rfl rfl ?_
    refine V.s omX8_makesRow rfl rfl ?_
    have hg2 : Nat.gcd q p < 2 ^ 31 := by
      have := Nat.gcd_le_left p (show 0 < q by omega)
      omega
    simp only [rwP] at hl kk
    by_cases hg : Nat.gcd q p = 1
    · rw [if_pos hg] at hl kk
      have hl2 := rwP_len q t (p + 1) (insD (100 * p + q) l)
      rw [insD_len] at hl2
      refine V.brT omX8_makesRow rfl rfl (by rw [hg]; rfl) (fun h g => g h) ?_
      refine V.s omX8_makesRow rfl rfl ?_
      refine V.gf omX8_makesRow rfl rfl rfl rfl ?_
      rw [va_up_self, pk_us]
      refine V.s omX8_makesRow rfl rfl ?_
      refine mr_37 d n (by omega) l R hA (by omega) (fun R' a h1 h2 => ?_)
      iterate 2 (refine V.s omX8_makesRow rfl rfl ?_)
      refine V.gf omX8_makesRow rfl rfl rfl rfl ?_
      rw [va_up_self, pk_us]
      iterate 2 (refine V.s omX8_makesRow rfl rfl ?_)
      rw [nI_1]
      refine V.pfH omX8_makesRow rfl rfl rfl rfl rfl rfl rfl ?_
      rw [bx_uu, va_up_self, upd_uu]
      iterate 2 (refine V.s omX8_makesRow rfl rfl ?_)
      rw [nI_1]
      have k2 := ih (p + 1) (insD (100 * p + q) l) R' (some (.int (nI a))) (by omega) h1 hl kk
      rw [insD_len] at k2
      exact k2
    · rw [if_neg hg] at hl kk
      refine V.brF omX8_makesRow rfl rfl (by rw [nIl_eq 1 hg2 (by decide)]; exact hg) ?_
      iterate 3 (refine V.s omX8_makesRow rfl rfl ?_)
      rw [nI_1]
      exact ih (p + 1) l R v4 (by omega) hA hl kk
set_option maxHeartbeats 4000000 in
set_option maxRecDepth 100000 in
theorem mr_7 (d : Nat) {N : Nat} (hN : N ≤ 30) {Q : Option Value → hp_T → Prop} : ∀ (t q : Nat) (l : List Nat) (R : Nat → Int32) (v3 v4 : Option Value), q + t = N + 1 → 1 ≤ q → AD R l → (rwQ t q l).length ≤ 300 → (∀ (R' : Nat → Int32), AD R' (rwQ t q l) → Q none (hR A B R' (rwQ t q l).length)) → V mX8_makesRow (d + 1) 0 0 Q 0 0 7 [some (.ref 33), some (.int (nI N)), some (.int (nI q)), v3, v4] [] (hR A B R l.length) := by
  intro t
  induction t with
  | zero =>
    intro q l R v3 v4 hq h1 hA hl kk
    have : q = N + 1 := by omega
    subst this
    iterate 2 (refine V.s omX8_makesRow rfl rfl ?_)
    refine V.brT omX8_makesRow rfl rfl (nI_lt (by omega) (by omega)) (fun h => Int32.not_le.mpr h) ?_
    exact V.vret omX8_makesRow rfl rfl (kk R hA)
  | succ t ih =>
    intro q l R v3 v4 hq h1 hA hl kk
    iterate 2 (refine V.s omX8_makesRow rfl rfl ?_)
    refine V.brF omX8_makesRow rfl rfl (nI_nlt (by omega) (by omega)) ?_
    iterate 2 (refine V.s omX8_makesRow rfl rfl ?_)
    have hl2 : (rwP q (q + 1) 0 l).length ≤ (rwQ (t + 1) q l).length := rwQ_len t (q + 1) _
    refine mr_14 d (nI N) h1 (by omega) (q + 1) 0 l R _ (by omega) hA (by omega) (fun R' v3 v4 hA' => ?_)
    iterate 2 (refine V.s omX8_makesRow rfl rfl ?_)
    rw [nI_1]
    exact ih (q + 1) _ R' v3 v4 (by omega) (by omega) hA' hl kk
set_option maxRecDepth 100000 in
theorem rowD_lenB : (List.range 31).all (fun n => Nat.ble (rowD n).length 279) = true := by decide +kernel
theorem rowD_len {n : Nat} (h : n ≤ 30) : (rowD n).length ≤ 279 := Nat.le_of_ble_eq_true (List.all_eq_true.mp rowD_lenB n (List.mem_range.mpr (by omega)))
set_option maxHeartbeats 4000000 in
set_option maxRecDepth 100000 in
theorem c8_makesRow (d : Nat) {N : Nat} (hN : N ≤ 30) : C mX8_makesRow (d + 1) 0 0 [.ref 33, .int (nI N)] (hp A B) (fun r h' => (∃ R', AD R' (rowD N) ∧ h' = hR A B R' (rowD N).length) ∧ r = none) := by
  refine C.of [some (.ref 33), some (.int (nI N)), none, none, none] omX8_makesRow rfl rfl rfl ?_
  iterate 2 (refine V.s omX8_makesRow rfl rfl ?_)
  refine V.pfH omX8_makesRow rfl rfl rfl rfl rfl rfl rfl ?_
  iterate 2 (refine V.s omX8_makesRow rfl rfl ?_)
  have h := rowD_len hN
  have key := mr_7 (A := A) (B := B) (Q := fun r h' => (∃ R', AD R' (rowD N) ∧ h' = hR A B R' (rowD N).length) ∧ r = none) d hN N 1 [] (A 46) none none (by omega) (by decide) trivial (show (rowD N).length ≤ 300 by omega) (fun R' hA => ⟨⟨R', hA, rfl⟩, rfl⟩)
  unfold hR at key
  rw [va_self A 46] at key
  exact key
def J9 (A A' : Nat → Nat → Int32) : Prop := ∀ q k, ¬ (q = 46 ∨ (q = 33 ∧ k = 24)) → A' q k = A q k
theorem J9_R (A : Nat → Nat → Int32) (R : Nat → Int32) (x : Int32) : J9 A (va_up (va_up A 46 R) 33 (upd (A 33) 24 x)) := by
  intro q k h
  unfold va_up
  by_cases h33 : q = 33
  · subst h33
    rw [if_pos rfl]
    exact pk_un (fun e => h (Or.inr ⟨rfl, e⟩))
  · rw [if_neg h33, if_neg (fun e => h (Or.inl e))]
theorem J9_r (A : Nat → Nat → Int32) : J9 A A := fun _ _ _ => rfl
set_option maxHeartbeats 4000000 in
set_option maxRecDepth 100000 in
theorem c8_fractions (d : Nat) (n : Int32) : C mX8_fractions (d + 2) 0 0 [.ref 33, .int n] (hp A B) (fun r' h' => (∃ A', h' = hp A' B ∧ J9 (if orF n = 1 then A else rmA A 7) A') ∧ r' = some (.int (if orF n = 1 then nI (rowD n.toNatClampNeg).length else -7))) := by
  refine C.of [some (.ref 33), some (.int n)] omX8_fractions rfl rfl rfl ?_
  refine V.s omX8_fractions rfl rfl ?_
  refine V.cSf omX8_fractions omX8_isRow rfl rfl (c8_isRow _ _ _) rfl rfl rfl rfl ?_
  rcases orF_01 n with h | h
  · rw [h]
    refine V.brF omX8_fractions rfl rfl (by decide) ?_
    iterate 2 (refine V.s omX8_fractions rfl rfl ?_)
    refine V.cVf omX8_fractions omX8_no rfl rfl (c8_no _ _ (by decide)) rfl rfl rfl rfl rfl rfl ?_
    exact V.iret omX8_fractions rfl rfl ⟨⟨_, rfl, J9_r _⟩, rfl⟩
  · rw [h]
    obtain ⟨N, rfl, hN1, hN⟩ := orF_ex h
    refine V.brT omX8_fractions rfl rfl (by decide) (by decide) ?_
    iterate 2 (refine V.s omX8_fractions rfl rfl ?_)
    refine V.cV omX8_fractions omX8_makesRow (c8_makesRow d hN) rfl rfl rfl rfl rfl rfl rfl rfl (by omega) (by omega) (fun r' h' hQ => ?_)
    obtain ⟨⟨R', hA, rfl⟩, rfl⟩ := hQ
    show V mX8_fractions (d + 2) 0 0 _ 0 0 19 _ [] _
    refine V.s omX8_fractions rfl rfl ?_
    refine V.gf omX8_fractions rfl rfl rfl rfl ?_
    rw [va_up_self, pk_us, nI_clamp (show N < 2 ^ 31 by omega)]
    exact V.iret omX8_fractions rfl rfl ⟨⟨_, rfl, J9_R _ _ _⟩, rfl⟩
/-- what stands at a place of a row, counted from below -/
def atD (l : List Nat) (k : Nat) : Nat := l.getD (l.length - 1 - k) 0
theorem AD_at {R : Nat → Int32} : ∀ {l : List Nat}, AD R l → ∀ k, k < l.length → R k = nI (atD l k)
  | [], _, k, hk => by simp at hk
  | y :: t, h, k, hk => by
    simp only [List.length_cons] at hk
    by_cases hkt : k = t.length
    · subst hkt
      rw [h.2.1]
      unfold atD
      simp
    · rw [AD_at h.2.2 k (by omega)]
      unfold atD
      simp only [List.length_cons]
      rw [show t.length + 1 - 1 - k = (t.length - 1 - k) + 1 by omega]
      simp
theorem isIn_nI (d : Nat) (i : Int32) {s : Nat} (hs : s < 2 ^ 31) (h : hp_T) : C mX8_isIn d 0 0 [.long i.toInt64, .long 0, .long (nI s).toInt64] h (fun r h' => h' = h ∧ r = some (.int (if 0 ≤ i ∧ i ≤ nI s then 1 else 0))) := by
  have h1 := c8_isIn d i.toInt64 0 (nI s).toInt64 h
  rw [show (0 : Int64) = (0 : Int32).toInt64 from rfl] at h1 ⊢
  simp only [Int32.toInt64_le] at h1
  exact h1
theorem inle {i : Int32} {s : Nat} (hs : s < 2 ^ 31) : (0 ≤ i ∧ i ≤ nI s) → ∃ k, k ≤ s ∧ i = nI k := by
  intro h
  exact nI_of2 (x := i) (M := nI s) (n := s) (by rw [nI_toInt hs]) (Int32.not_lt.mpr h.1) h.2
set_option maxHeartbeats 4000000 in
set_option maxRecDepth 100000 in
theorem c8_fraction (d : Nat) (n i : Int32) : C mX8_fraction (d + 2) 0 0 [.ref 33, .int n, .int i] (hp A B) (fun r' h' => (∃ A', h' = hp A' B ∧ J9 (if orF n = 1 then (if 0 ≤ i ∧ i < nI (rowD n.toNatClampNeg).length then A else rmA A 3) else rmA A 7) A') ∧ r' = some (.int (if orF n = 1 then (if 0 ≤ i ∧ i < nI (rowD n.toNatClampNeg).length then nI (atD (rowD n.toNatClampNeg) i.toNatClampNeg) else -3) else -7))) := by
  refine C.of [some (.ref 33), some (.int n), some (.int i)] omX8_fraction rfl rfl rfl ?_
  refine V.s omX8_fraction rfl rfl ?_
  refine V.cSf omX8_fraction omX8_isRow rfl rfl (c8_isRow _ _ _) rfl rfl rfl rfl ?_
  rcases orF_01 n with h | h
  · rw [h]
    refine V.brF omX8_fraction rfl rfl (by decide) ?_
    iterate 2 (refine V.s omX8_fraction rfl rfl ?_)
    refine V.cVf omX8_fraction omX8_no rfl rfl (c8_no _ _ (by decide)) rfl rfl rfl rfl rfl rfl ?_
    exact V.iret omX8_fraction rfl rfl ⟨⟨_, rfl, J9_r _⟩, rfl⟩
  · rw [h]
    obtain ⟨N, rfl, hN1, hN⟩ := orF_ex h
    refine V.brT omX8_fraction rfl rfl (by decide) (by decide) ?_
    iterate 2 (refine V.s omX8_fraction rfl rfl ?_)
    refine V.cV omX8_fraction omX8_makesRow (c8_makesRow d hN) rfl rfl rfl rfl rfl rfl rfl rfl (by omega) (by omega) (fun r' h' hQ => ?_)
    obtain ⟨⟨R', hA, rfl⟩, rfl⟩ := hQ
    have hl := rowD_len hN
    rw [nI_clamp (show N < 2 ^ 31 by omega)]
    show V mX8_fraction (d + 2) 0 0 _ 0 0 19 _ [] _
    iterate 4 (refine V.s omX8_fraction rfl rfl ?_)
    refine V.gf omX8_fraction rfl rfl rfl rfl ?_
    rw [va_up_self, pk_us]
    iterate 2 (refine V.s omX8_fraction rfl rfl ?_)
    simp only [if_true]
    generalize hs : (rowD N).length = s at *
    cases s with
    | zero =>
      have hz : ¬ (0 ≤ i ∧ i < nI 0) := fun q => Int32.lt_irrefl (Int32.lt_of_le_of_lt q.1 q.2)
      simp only [if_neg hz]
      have e : nI 0 - 1 = -1 := by decide
      rw [e]
      refine V.s omX8_fraction rfl rfl ?_
      refine V.cSf omX8_fraction omX8_isIn rfl rfl (c8_isInN _ (v := i.toInt64) (lo := 0) (hi := (-1 : Int32).toInt64) (fun q => absurd (Int64.le_trans q.1 q.2) (by decide)) _) rfl rfl rfl rfl ?_
      refine V.brT omX8_fraction rfl rfl rfl (by decide) ?_
      iterate 2 (refine V.s omX8_fraction rfl rfl ?_)
      refine V.cVf omX8_fraction omX8_no rfl rfl (c8_no _ _ (by decide)) rfl rfl rfl rfl rfl rfl ?_
      refine V.iret omX8_fraction rfl rfl ⟨⟨_, rfl, ?_⟩, rfl⟩
      have hj := J9_R (rmA A 3) R' (nI 0)
      have e2 : va_up (va_up (rmA A 3) 46 R') 33 (upd (rmA A 3 33) 24 (nI 0)) = rmA (va_up (va_up A 46 R') 33 (upd (A 33) 24 (nI 0))) (rfI (-3)) := by
        unfold rmA
        rw [va_cm _ (show (39 : Nat) ≠ 46 by decide), va_cm _ (show (39 : Nat) ≠ 33 by decide)]
        rfl
      rw [e2] at hj
      exact hj
    | succ s =>
      rw [nI_pred]
      refine V.s omX8_fraction rfl rfl ?_
      refine V.cSf omX8_fraction omX8_isIn rfl rfl (isIn_nI _ i (show s < 2 ^ 31 by omega) _) rfl rfl rfl rfl ?_
      by_cases hi : 0 ≤ i ∧ i ≤ nI s
      · rw [if_pos hi]
        obtain ⟨k, hk, rfl⟩ := inle (show s < 2 ^ 31 by omega) hi
        have hz : 0 ≤ nI k ∧ nI k < nI (s + 1) := ⟨hi.1, nI_lt (by omega) (by omega)⟩
        simp only [if_pos hz]
        refine V.brF omX8_fraction rfl rfl (by decide) ?_
        refine V.s omX8_fraction rfl rfl ?_
        refine V.gf omX8_fraction rfl rfl rfl rfl ?_
        refine V.s omX8_fraction rfl rfl ?_
        refine V.ial omX8_fraction rfl rfl (ixN nv_nI (show k < 300 by omega) (by decide)) ?_
        rw [xA46, AD_at hA k (by omega)]
        refine V.s omX8_fraction rfl rfl ?_
        exact V.iret omX8_fraction rfl rfl ⟨⟨_, rfl, J9_R _ _ _⟩, by rw [nI_clamp (by omega)]⟩
      · rw [if_neg hi]
        have hz : ¬ (0 ≤ i ∧ i < nI (s + 1)) := by
          intro q
          obtain ⟨k, hk, rfl⟩ := rng (show s + 1 < 2 ^ 31 by omega) q
          exact hi ⟨q.1, nI_le (by omega) (by omega)⟩
        simp only [if_neg hz]
        refine V.brT omX8_fraction rfl rfl rfl (by decide) ?_
        iterate 2 (refine V.s omX8_fraction rfl rfl ?_)
        refine V.cVf omX8_fraction omX8_no rfl rfl (c8_no _ _ (by decide)) rfl rfl rfl rfl rfl rfl ?_
        refine V.iret omX8_fraction rfl rfl ⟨⟨_, rfl, ?_⟩, rfl⟩
        have hj := J9_R (rmA A 3) R' (nI (s + 1))
        have e2 : va_up (va_up (rmA A 3) 46 R') 33 (upd (rmA A 3 33) 24 (nI (s + 1))) = rmA (va_up (va_up A 46 R') 33 (upd (A 33) 24 (nI (s + 1)))) (rfI (-3)) := by
          unfold rmA
          rw [va_cm _ (show (39 : Nat) ≠ 46 by decide), va_cm _ (show (39 : Nat) ≠ 33 by decide)]
          rfl
        rw [e2] at hj
        exact hj
set_option maxHeartbeats 4000000 in
set_option maxRecDepth 100000 in
theorem c8_placeOf (d : Nat) {f : Int32} {k : Nat} (hk : k < 300) (h1 : A 46 k = f) (h2 : ∀ j, j < k → ¬ A 46 j = f) : C mX8_placeOf d 0 0 [.ref 33, .int f] (hp A B) (fun r h' => h' = hp A B ∧ r = some (.int (nI k))) := by
  refine C.of [some (.ref 33), some (.int f), none] omX8_placeOf rfl rfl rfl ?_
  iterate 2 (refine V.s omX8_placeOf rfl rfl ?_)
  have key : ∀ (t i : Nat), i + t = k → V mX8_placeOf d 0 0 (fun r h' => h' = hp A B ∧ r = some (.int (nI k))) 0 0 2 [some (.ref 33), some (.int f), some (.int (nI i))] [] (hp A B) := by
    intro t
    induction t with
    | zero =>
      intro i hi
      have : i = k := by omega
      subst this
      refine V.s omX8_placeOf rfl rfl ?_
      refine V.gf omX8_placeOf rfl rfl rfl rfl ?_
      refine V.s omX8_placeOf rfl rfl ?_
      refine V.ial omX8_placeOf rfl rfl (ixN nv_nI hk (by decide)) ?_
      refine V.s omX8_placeOf rfl rfl ?_
      refine V.brT omX8_placeOf rfl rfl h1 (fun h g => g h) ?_
      refine V.s omX8_placeOf rfl rfl ?_
      exact V.iret omX8_placeOf rfl rfl ⟨rfl, rfl⟩
    | succ t ih =>
      intro i hi
      refine V.s omX8_placeOf rfl rfl ?_
      refine V.gf omX8_placeOf rfl rfl rfl rfl ?_
      refine V.s omX8_placeOf rfl rfl ?_
      refine V.ial omX8_placeOf rfl rfl (ixN nv_nI (show i < 300 by omega) (by decide)) ?_
      refine V.s omX8_placeOf rfl rfl ?_
      refine V.brF omX8_placeOf rfl rfl (h2 i (by omega)) ?_
      iterate 2 (refine V.s omX8_placeOf rfl rfl ?_)
      rw [nI_1]
      exact ih (i + 1) (by omega)
  exact key k 0 (by omega)
end MDI
