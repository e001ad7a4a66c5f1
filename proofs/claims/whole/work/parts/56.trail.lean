section TRL
variable {A : Nat → Nat → Int32} {B : Nat → Nat → Int64} {X H U Y : Nat → Int32}
theorem cJ_max (d : Nat) (a b : Int32) (h : hp_T) : C mJ9_max d 0 0 [.int a, .int b] h (fun r h' => h' = h ∧ r = some (.int (if a < b then b else a))) := by
  refine C.of [some (.int a), some (.int b)] omJ9_max rfl rfl rfl ?_
  iterate 2 (refine V.s omJ9_max rfl rfl ?_)
  by_cases h1 : a < b
  · refine V.brT omJ9_max rfl rfl h1 (fun g => Int32.not_le.mpr g) ?_
    refine V.s omJ9_max rfl rfl ?_
    exact V.iret omJ9_max rfl rfl ⟨rfl, by rw [if_pos h1]⟩
  · refine V.brF omJ9_max rfl rfl h1 ?_
    iterate 2 (refine V.s omJ9_max rfl rfl ?_)
    exact V.iret omJ9_max rfl rfl ⟨rfl, by rw [if_neg h1]⟩
def zp (m : Nat) (Z : Nat → Int32) : Nat → Int32 := fun k => if k < m then 0 else Z k
theorem zp_s (m : Nat) (Z : Nat → Int32) : upd (zp m Z) m 0 = zp (m + 1) Z := by
  funext k
  unfold upd zp
  by_cases h1 : k = m
  · subst h1; simp
  · rw [if_neg h1]
    by_cases h2 : k < m
    · rw [if_pos h2, if_pos (show k < m + 1 by omega)]
    · rw [if_neg h2, if_neg (show ¬ k < m + 1 by omega)]
set_option maxHeartbeats 4000000 in
set_option maxRecDepth 100000 in
theorem cJ_fill (d : Nat) : C mJ7_fill d 0 0 [.ref 28, .int 0] (hp A B) (fun r h' => h' = hp (va_up A 28 (zp 961 (A 28))) B ∧ r = none) := by
  refine C.of [some (.ref 28), some (.int 0), none, none] omJ7_fill rfl rfl rfl ?_
  iterate 3 (refine V.s omJ7_fill rfl rfl ?_)
  refine V.alen omJ7_fill rfl rfl ?_
  refine V.s omJ7_fill rfl rfl ?_
  have key : ∀ (t i : Nat), i + t = 961 → V mJ7_fill d 0 0 (fun r h' => h' = hp (va_up A 28 (zp 961 (A 28))) B ∧ r = none) 0 0 5 [some (.ref 28), some (.int 0), some (.int (nI i)), some (.int (nI 961))] [] (hp (va_up A 28 (zp i (A 28))) B) := by
    intro t
    induction t with
    | zero =>
      intro i hi
      have : i = 961 := by omega
      subst this
      iterate 2 (refine V.s omJ7_fill rfl rfl ?_)
      refine V.brT omJ7_fill rfl rfl (by decide) (by decide) ?_
      exact V.vret omJ7_fill rfl rfl ⟨rfl, rfl⟩
    | succ t ih =>
      intro i hi
      iterate 2 (refine V.s omJ7_fill rfl rfl ?_)
      refine V.brF omJ7_fill rfl rfl (nI_ge (show i < 961 by omega) (by decide)) ?_
      iterate 3 (refine V.s omJ7_fill rfl rfl ?_)
      refine V.iasH omJ7_fill rfl rfl (ixN nv_nI (show i < 961 by omega) (by decide)) ?_
      rw [bx_uu, va_up_self, zp_s]
      iterate 2 (refine V.s omJ7_fill rfl rfl ?_)
      rw [nI_1]
      exact ih (i + 1) (by omega)
  have k0 := key 961 0 (by omega)
  have e : zp 0 (A 28) = A 28 := by
    funext k
    unfold zp
    rw [if_neg (by omega)]
  rw [e, va_self] at k0
  exact k0
def kyN (F : Nat) : Nat := 31 * (F / 100) + F % 100
theorem c_key (d : Nat) {F : Nat} (hF : F < 2 ^ 31) (h : hp_T) : C mX6_key d 0 0 [.int (nI F)] h (fun r h' => h' = h ∧ r = some (.int (nI (kyN F)))) := by
  refine C.of [some (.int (nI F))] omX6_key rfl rfl rfl ?_
  iterate 3 (refine V.s omX6_key rfl rfl ?_)
  refine V.idiv omX6_key rfl (by decide) ?_
  rw [div100 hF]
  iterate 3 (refine V.s omX6_key rfl rfl ?_)
  refine V.irem omX6_key rfl (by decide) ?_
  rw [rem100 hF, show (31 : Int32) = nI 31 from rfl, pk_mul]
  refine V.s omX6_key rfl rfl ?_
  rw [nI_add]
  exact V.iret omX6_key rfl rfl ⟨rfl, rfl⟩
abbrev okF (N x : Nat) : Prop := 1 ≤ x % 100 ∧ x / 100 ≤ x % 100 ∧ x % 100 ≤ N
theorem okF_ky {N x : Nat} (h : okF N x) (hN : N ≤ 30) : kyN x < 961 ∧ x < 10000 := by
  unfold kyN
  obtain ⟨h1, h2, h3⟩ := h
  omega
abbrev TS := (Nat → Int32) × List Nat
def fd (S : TS) (x : Nat) (c : Int32) : TS := if S.1 (kyN x) = 0 ∧ S.2.length < 279 then (upd S.1 (kyN x) c, x :: S.2) else S
abbrev hT (A : Nat → Nat → Int32) (B : Nat → Nat → Int64) (X U Y H : Nat → Int32) (n : Nat) : hp_T := hp (va_up (va_up (va_up (va_up A 30 Y) 29 U) 28 H) 27 (upd X 3 (nI n))) B
theorem tA28 {Z : Nat → Int32} : va_up (va_up (va_up (va_up A 30 Y) 29 U) 28 H) 27 Z 28 = H := rfl
theorem tA29 {Z : Nat → Int32} : va_up (va_up (va_up (va_up A 30 Y) 29 U) 28 H) 27 Z 29 = U := rfl
theorem tA30 {Z : Nat → Int32} : va_up (va_up (va_up (va_up A 30 Y) 29 U) 28 H) 27 Z 30 = Y := rfl
theorem tA28u {Z H2 : Nat → Int32} : va_up (va_up (va_up (va_up (va_up A 30 Y) 29 U) 28 H) 27 Z) 28 H2 = va_up (va_up (va_up (va_up A 30 Y) 29 U) 28 H2) 27 Z := by rw [va_cm _ (show (27 : Nat) ≠ 28 by decide), bx_uu]
theorem tA29u {Z U2 : Nat → Int32} : va_up (va_up (va_up (va_up (va_up A 30 Y) 29 U) 28 H) 27 Z) 29 U2 = va_up (va_up (va_up (va_up A 30 Y) 29 U2) 28 H) 27 Z := by rw [va_cm _ (show (27 : Nat) ≠ 29 by decide), va_cm _ (show (28 : Nat) ≠ 29 by decide), bx_uu]
theorem tA30u {Z Y2 : Nat → Int32} : va_up (va_up (va_up (va_up (va_up A 30 Y) 29 U) 28 H) 27 Z) 30 Y2 = va_up (va_up (va_up (va_up A 30 Y2) 29 U) 28 H) 27 Z := by rw [va_cm _ (show (27 : Nat) ≠ 30 by decide), va_cm _ (show (28 : Nat) ≠ 30 by decide), va_cm _ (show (29 : Nat) ≠ 30 by decide), bx_uu]
def okL (N : Nat) (l : List Nat) : Prop := ∀ x, x ∈ l → okF N x
/-- the heap holds the state S of the search -/
def hTS (A : Nat → Nat → Int32) (B : Nat → Nat → Int64) (X Y : Nat → Int32) (N : Nat) (S : TS) (h : hp_T) : Prop := ∃ U, AD U S.2 ∧ S.2.length ≤ 279 ∧ okL N S.2 ∧ h = hT A B X U Y S.1 S.2.length
set_option maxHeartbeats 4000000 in
set_option maxRecDepth 100000 in
theorem c_find (d : Nat) {N x : Nat} (hx : okF N x) (hN : N ≤ 30) (c : Int32) (S : TS) {h : hp_T} (hS : hTS A B X Y N S h) : C mX6_find (d + 1) 0 0 [.ref 27, .int (nI x), .int c] h (fun r h' => hTS A B X Y N (fd S x c) h' ∧ r = none) := by
  obtain ⟨U, hA, hl, hok, rfl⟩ := hS
  obtain ⟨hk, hx4⟩ := okF_ky hx hN
  refine C.of [some (.ref 27), some (.int (nI x)), some (.int c)] omX6_find rfl rfl rfl ?_
  refine V.s omX6_find rfl rfl ?_
  refine V.gf omX6_find rfl rfl rfl rfl ?_
  refine V.s omX6_find rfl rfl ?_
  refine V.cSf omX6_find omX6_key rfl rfl (c_key _ (show x < 2 ^ 31 by omega) _) rfl rfl rfl rfl ?_
  refine V.ial omX6_find rfl rfl (ixN nv_nI hk (by decide)) ?_
  rw [tA28]
  by_cases h1 : S.1 (kyN x) = 0
  · refine V.brF omX6_find rfl rfl (fun g => g h1) ?_
    refine V.s omX6_find rfl rfl ?_
    refine V.gf omX6_find rfl rfl rfl rfl ?_
    rw [va_up_self, pk_us]
    refine V.s omX6_find rfl rfl ?_
    by_cases h2 : S.2.length < 279
    · refine V.brF omX6_find rfl rfl (nI_ge (b := 279) h2 (by decide)) ?_
      refine V.s omX6_find rfl rfl ?_
      refine V.gf omX6_find rfl rfl rfl rfl ?_
      refine V.s omX6_find rfl rfl ?_
      refine V.cSf omX6_find omX6_key rfl rfl (c_key _ (show x < 2 ^ 31 by omega) _) rfl rfl rfl rfl ?_
      refine V.s omX6_find rfl rfl ?_
      refine V.iasH omX6_find rfl rfl (ixN nv_nI hk (by decide)) ?_
      rw [tA28, tA28u]
      refine V.s omX6_find rfl rfl ?_
      refine V.gf omX6_find rfl rfl rfl rfl ?_
      refine V.s omX6_find rfl rfl ?_
      refine V.gf omX6_find rfl rfl rfl rfl ?_
      rw [va_up_self, pk_us]
      refine V.s omX6_find rfl rfl ?_
      refine V.iasH omX6_find rfl rfl (ixN nv_nI h2 (by decide)) ?_
      rw [tA29, tA29u]
      iterate 2 (refine V.s omX6_find rfl rfl ?_)
      refine V.gf omX6_find rfl rfl rfl rfl ?_
      rw [va_up_self, pk_us]
      iterate 2 (refine V.s omX6_find rfl rfl ?_)
      rw [nI_1]
      refine V.pfH omX6_find rfl rfl rfl rfl rfl rfl rfl ?_
      rw [bx_uu, va_up_self, upd_uu]
      refine V.vret omX6_find rfl rfl ⟨?_, rfl⟩
      have e : fd S x c = (upd S.1 (kyN x) c, x :: S.2) := by unfold fd; rw [if_pos ⟨h1, h2⟩]
      rw [e]
      refine ⟨upd U S.2.length (nI x), ⟨hx4, pk_us, AD_ext hA (fun k hk => pk_un (by omega))⟩, by simp only [List.length_cons]; omega, ?_, rfl⟩
      intro y hy
      rcases List.mem_cons.mp hy with g | g
      · subst g; exact hx
      · exact hok y g
    · refine V.brT omX6_find rfl rfl (nI_le (a := 279) (by omega) (by omega)) (fun g => Int32.not_lt.mpr g) ?_
      refine V.vret omX6_find rfl rfl ⟨?_, rfl⟩
      have e : fd S x c = S := by unfold fd; rw [if_neg (fun g => h2 g.2)]
      rw [e]
      exact ⟨U, hA, hl, hok, rfl⟩
  · refine V.brT omX6_find rfl rfl h1 (fun g => g) ?_
    refine V.vret omX6_find rfl rfl ⟨?_, rfl⟩
    have e : fd S x c = S := by unfold fd; rw [if_neg (fun g => h1 g.1)]
    rw [e]
    exact ⟨U, hA, hl, hok, rfl⟩
def cq (D b low : Nat) : List Nat := if D % b = 0 ∧ D / b ≤ low then [100 * (D / b) + low] else []
theorem hTS_27 {N : Nat} {S : TS} {h : hp_T} (hS : hTS A B X Y N S h) : ∃ fs, h[27]? = some (.inr (4, fs)) := by
  obtain ⟨U, -, -, -, rfl⟩ := hS
  exact ⟨_, rfl⟩
set_option maxHeartbeats 4000000 in
set_option maxRecDepth 100000 in
theorem c_fqY (d : Nat) {N D b low : Nat} (hD : D < 2 ^ 31) (hb1 : 1 ≤ b) (hb : b < 2 ^ 31) (hlow1 : 1 ≤ low) (hlow : low ≤ N) (hN : N ≤ 30) (c : Int32) (S : TS) {h : hp_T} (hS : hTS A B X Y N S h) : C mX6_findQuotient (d + 2) 0 0 [.ref 27, .int (nI D), .int (nI b), .int (nI low), .int c] h (fun r h' => hTS A B X Y N ((cq D b low).foldl (fun S x => fd S x c) S) h' ∧ r = none) := by
  refine C.of [some (.ref 27), some (.int (nI D)), some (.int (nI b)), some (.int (nI low)), some (.int c), none] omX6_findQuotient rfl rfl rfl ?_
  obtain ⟨fs, hq⟩ := hTS_27 hS
  unfold cq
  refine V.s omX6_findQuotient rfl rfl ?_
  refine V.brF omX6_findQuotient rfl rfl (nI_pos hD) ?_
  refine V.s omX6_findQuotient rfl rfl ?_
  refine V.brF omX6_findQuotient rfl rfl (nI_nle hb1 hb) ?_
  iterate 2 (refine V.s omX6_findQuotient rfl rfl ?_)
  refine V.irem omX6_findQuotient rfl (nI_ne0 hb1 hb) ?_
  rw [pk_rem hD hb1 hb]
  have hm : D % b < b := Nat.mod_lt _ (by omega)
  by_cases h1 : D % b = 0
  · rw [h1]
    refine V.brT omX6_findQuotient rfl rfl rfl (by decide) ?_
    iterate 2 (refine V.s omX6_findQuotient rfl rfl ?_)
    refine V.idiv omX6_findQuotient rfl (nI_ne0 hb1 hb) ?_
    rw [pk_div hD hb1 hb]
    have hdd : D / b ≤ D := Nat.div_le_self D b
    iterate 3 (refine V.s omX6_findQuotient rfl rfl ?_)
    by_cases h2 : D / b ≤ low
    · refine V.brF omX6_findQuotient rfl rfl (nI_nlt h2 (by omega)) ?_
      rw [if_pos ⟨rfl, h2⟩]
      iterate 3 (refine V.s omX6_findQuotient rfl rfl ?_)
      refine V.cSf omX6_findQuotient omX1_told rfl rfl (c_told _ _ _ _) rfl rfl rfl rfl ?_
      refine V.s omX6_findQuotient rfl rfl ?_
      have hx : okF N (100 * (D / b) + low) := by omega
      refine V.cV omX6_findQuotient omX6_find (c_find d hx hN c S hS) rfl rfl rfl rfl hq rfl rfl rfl (by omega) (by omega) (fun r' h' hQ => ?_)
      obtain ⟨hS', rfl⟩ := hQ
      show V mX6_findQuotient (d + 2) 0 0 _ 0 0 38 _ [] _
      exact V.vret omX6_findQuotient rfl rfl ⟨hS', rfl⟩
    · refine V.brT omX6_findQuotient rfl rfl (nI_lt (by omega) (by omega)) (fun g => Int32.not_le.mpr g) ?_
      rw [if_neg (fun g => h2 g.2)]
      exact V.vret omX6_findQuotient rfl rfl ⟨hS, rfl⟩
  · refine V.brF omX6_findQuotient rfl rfl (nI_ne0 (by omega) (by omega)) ?_
    rw [if_neg (fun g => h1 g.1)]
    exact V.vret omX6_findQuotient rfl rfl ⟨hS, rfl⟩
set_option maxHeartbeats 4000000 in
set_option maxRecDepth 100000 in
theorem c_fqN (d : Nat) {D b low c : Int32} (hD : D < 0) (h : hp_T) : C mX6_findQuotient (d + 2) 0 0 [.ref 27, .int D, .int b, .int low, .int c] h (fun r h' => h' = h ∧ r = none) := by
  refine C.of [some (.ref 27), some (.int D), some (.int b), some (.int low), some (.int c), none] omX6_findQuotient rfl rfl rfl ?_
  refine V.s omX6_findQuotient rfl rfl ?_
  refine V.brT omX6_findQuotient rfl rfl hD (fun g => Int32.not_le.mpr g) ?_
  exact V.vret omX6_findQuotient rfl rfl ⟨rfl, rfl⟩
def cm1 (p b low : Nat) : List Nat := if p * low = 0 then [] else cq (p * low - 1) b low
def cand (p b : Nat) : Nat → Nat → List Nat
  | 0, _ => []
  | t + 1, low => cm1 p b low ++ (cq (p * low + 1) b low ++ cand p b t (low + 1))
def fa (N : Nat) (S : TS) (G : Nat) : TS := (cand (G / 100) (G % 100) N 1).foldl (fun S' x => fd S' x (S.1 (kyN G) + 1)) S
set_option maxHeartbeats 4000000 in
set_option maxRecDepth 100000 in
theorem an_21 (d : Nat) {N G : Nat} (hG : okF N G) (hN : N ≤ 30) (c : Int32) {Q : Option Value → hp_T → Prop} : ∀ (t low : Nat) (S : TS) (h : hp_T) (v6 : Option Value), low + t = N + 1 → 1 ≤ low → hTS A B X Y N S h → (∀ h', hTS A B X Y N ((cand (G / 100) (G % 100) t low).foldl (fun S' x => fd S' x c) S) h' → Q none h') → V mX6_findAllNear (d + 3) 0 0 Q 0 0 21 [some (.ref 27), some (.int (nI G)), some (.int (nI N)), some (.int c), some (.int (nI (G % 100))), some (.int (nI low)), v6] [] h := by
  intro t
  induction t with
  | zero =>
    intro low S h v6 hl h1 hS kk
    have : low = N + 1 := by omega
    subst this
    iterate 2 (refine V.s omX6_findAllNear rfl rfl ?_)
    refine V.brT omX6_findAllNear rfl rfl (nI_lt (by omega) (by omega)) (fun g => Int32.not_le.mpr g) ?_
    exact V.vret omX6_findAllNear rfl rfl (kk h hS)
  | succ t ih =>
    intro low S h v6 hl h1 hS kk
    obtain ⟨g1, g2, g3⟩ := hG
    obtain ⟨fs, hq⟩ := hTS_27 hS
    have hmul : G / 100 * low ≤ 30 * 30 := Nat.mul_le_mul (by omega) (by omega)
    iterate 2 (refine V.s omX6_findAllNear rfl rfl ?_)
    refine V.brF omX6_findAllNear rfl rfl (nI_nlt (by omega) (by omega)) ?_
    refine V.s omX6_findAllNear rfl rfl ?_
    refine V.cSf omX6_findAllNear omX1_top rfl rfl (c_top _ (show G < 2 ^ 31 by omega) _) rfl rfl rfl rfl ?_
    iterate 2 (refine V.s omX6_findAllNear rfl rfl ?_)
    rw [pk_mul]
    refine V.s omX6_findAllNear rfl rfl ?_
    iterate 4 (refine V.s omX6_findAllNear rfl rfl ?_)
    iterate 3 (refine V.s omX6_findAllNear rfl rfl ?_)
    have rest : ∀ h', hTS A B X Y N ((cm1 (G / 100) (G % 100) low).foldl (fun S' x => fd S' x c) S) h' → V mX6_findAllNear (d + 3) 0 0 Q 0 0 49 [some (.ref 27), some (.int (nI G)), some (.int (nI N)), some (.int c), some (.int (nI (G % 100))), some (.int (nI low)), some (.int (nI (G / 100 * low)))] [] h' := by
      intro h' hS'
      obtain ⟨fs', hq'⟩ := hTS_27 hS'
      iterate 4 (refine V.s omX6_findAllNear rfl rfl ?_)
      rw [nI_1]
      iterate 3 (refine V.s omX6_findAllNear rfl rfl ?_)
      refine V.cV omX6_findAllNear omX6_findQuotient (c_fqY d (show G / 100 * low + 1 < 2 ^ 31 by omega) g1 (by omega) h1 (show low ≤ N by omega) hN c _ hS') rfl rfl rfl rfl hq' rfl rfl rfl (by omega) (by omega) (fun r2 h2 hQ => ?_)
      obtain ⟨hS2, rfl⟩ := hQ
      show V mX6_findAllNear (d + 3) 0 0 _ 0 0 62 _ [] _
      iterate 2 (refine V.s omX6_findAllNear rfl rfl ?_)
      rw [nI_1]
      refine ih (low + 1) _ h2 _ (by omega) (by omega) hS2 (fun h3 hS3 => kk h3 ?_)
      simp only [cand, List.foldl_append]
      exact hS3
    by_cases hz : G / 100 * low = 0
    · have e : cm1 (G / 100) (G % 100) low = [] := by unfold cm1; rw [if_pos hz]
      rw [e] at rest
      rw [hz]
      rw [hz] at rest
      refine V.cV omX6_findAllNear omX6_findQuotient (c_fqN d (show nI 0 - 1 < 0 by decide) h) rfl rfl rfl rfl hq rfl rfl rfl (by omega) (by omega) (fun r2 h2 hQ => ?_)
      obtain ⟨rfl, rfl⟩ := hQ
      show V mX6_findAllNear (d + 3) 0 0 _ 0 0 49 _ [] _
      exact rest _ hS
    · have e : cm1 (G / 100) (G % 100) low = cq (G / 100 * low - 1) (G % 100) low := by unfold cm1; rw [if_neg hz]
      rw [e] at rest
      have e2 : nI (G / 100 * low) - 1 = nI (G / 100 * low - 1) := pk_sub (b := 1) (by omega)
      rw [e2]
      refine V.cV omX6_findAllNear omX6_findQuotient (c_fqY d (show G / 100 * low - 1 < 2 ^ 31 by omega) g1 (by omega) h1 (show low ≤ N by omega) hN c _ hS) rfl rfl rfl rfl hq rfl rfl rfl (by omega) (by omega) (fun r2 h2 hQ => ?_)
      obtain ⟨hS2, rfl⟩ := hQ
      show V mX6_findAllNear (d + 3) 0 0 _ 0 0 49 _ [] _
      exact rest _ hS2
set_option maxHeartbeats 4000000 in
set_option maxRecDepth 100000 in
theorem c_allNear (d : Nat) {N G : Nat} (hG : okF N G) (hN : N ≤ 30) (S : TS) {h : hp_T} (hS : hTS A B X Y N S h) : C mX6_findAllNear (d + 3) 0 0 [.ref 27, .int (nI G), .int (nI N)] h (fun r h' => hTS A B X Y N (fa N S G) h' ∧ r = none) := by
  refine C.of [some (.ref 27), some (.int (nI G)), some (.int (nI N)), none, none, none, none] omX6_findAllNear rfl rfl rfl ?_
  have hS0 := hS
  obtain ⟨U, hA, hl, hok, rfl⟩ := hS
  obtain ⟨hk, hx4⟩ := okF_ky hG hN
  refine V.s omX6_findAllNear rfl rfl ?_
  refine V.gf omX6_findAllNear rfl rfl rfl rfl ?_
  refine V.s omX6_findAllNear rfl rfl ?_
  refine V.cSf omX6_findAllNear omX6_key rfl rfl (c_key _ (show G < 2 ^ 31 by omega) _) rfl rfl rfl rfl ?_
  refine V.ial omX6_findAllNear rfl rfl (ixN nv_nI hk (by decide)) ?_
  rw [tA28]
  iterate 4 (refine V.s omX6_findAllNear rfl rfl ?_)
  refine V.cSf omX6_findAllNear omX1_bottom rfl rfl (c_bottom _ (show G < 2 ^ 31 by omega) _) rfl rfl rfl rfl ?_
  iterate 3 (refine V.s omX6_findAllNear rfl rfl ?_)
  exact an_21 d hG hN (S.1 (kyN G) + 1) N 1 S _ none (by omega) (by decide) hS0 (fun h' hS' => ⟨hS', rfl⟩)
def sl (N F : Nat) : Nat → Nat → TS → Option TS
  | 0, _, _ => none
  | n + 1, i, S => if i < S.2.length ∧ S.1 (kyN F) = 0 then sl N F n (i + 1) (fa N S (atD S.2 i)) else some S
theorem atD_mem : ∀ (l : List Nat) (k : Nat), k < l.length → atD l k ∈ l := by
  intro l k hk
  unfold atD
  rw [List.getD_eq_getElem?_getD, List.getElem?_eq_getElem (show l.length - 1 - k < l.length by omega)]
  exact List.getElem_mem _
set_option maxHeartbeats 4000000 in
set_option maxRecDepth 100000 in
theorem sp_22 (d : Nat) {N F : Nat} (G : Int32) (hF : okF N F) (hN : N ≤ 30) {S' : TS} {Q : Option Value → hp_T → Prop} (kk : ∀ h', hTS A B X Y N S' h' → Q none h') : ∀ (t i : Nat) (S : TS) (h : hp_T), i + t < 2 ^ 31 → hTS A B X Y N S h → sl N F t i S = some S' → V mX6_spread (d + 4) 0 0 Q 0 0 22 [some (.ref 27), some (.int (nI N)), some (.int G), some (.int (nI F)), some (.int (nI i))] [] h := by
  obtain ⟨hk, hx4⟩ := okF_ky hF hN
  intro t
  induction t with
  | zero => intro i S h _ _ e; cases e
  | succ t ih =>
    intro i S h hi hS e
    have hS0 := hS
    obtain ⟨U, hA, hl, hok, rfl⟩ := hS
    simp only [sl] at e
    iterate 2 (refine V.s omX6_spread rfl rfl ?_)
    refine V.gf omX6_spread rfl rfl rfl rfl ?_
    rw [va_up_self, pk_us]
    by_cases h1 : i < S.2.length
    · refine V.brF omX6_spread rfl rfl (nI_ge h1 (by omega)) ?_
      refine V.s omX6_spread rfl rfl ?_
      refine V.gf omX6_spread rfl rfl rfl rfl ?_
      refine V.s omX6_spread rfl rfl ?_
      refine V.cSf omX6_spread omX6_key rfl rfl (c_key _ (show F < 2 ^ 31 by omega) _) rfl rfl rfl rfl ?_
      refine V.ial omX6_spread rfl rfl (ixN nv_nI hk (by decide)) ?_
      rw [tA28]
      by_cases h2 : S.1 (kyN F) = 0
      · refine V.brF omX6_spread rfl rfl (fun g => g h2) ?_
        rw [if_pos ⟨h1, h2⟩] at e
        iterate 2 (refine V.s omX6_spread rfl rfl ?_)
        refine V.gf omX6_spread rfl rfl rfl rfl ?_
        refine V.s omX6_spread rfl rfl ?_
        refine V.ial omX6_spread rfl rfl (ixN nv_nI (show i < 279 by omega) (by decide)) ?_
        rw [tA29, AD_at hA i h1]
        refine V.s omX6_spread rfl rfl ?_
        refine V.cV omX6_spread omX6_findAllNear (c_allNear d (hok _ (atD_mem _ _ h1)) hN S hS0) rfl rfl rfl rfl rfl rfl rfl rfl (by omega) (by omega) (fun r2 h2 hQ => ?_)
        obtain ⟨hS2, rfl⟩ := hQ
        show V mX6_spread (d + 4) 0 0 _ 0 0 55 _ [] _
        iterate 2 (refine V.s omX6_spread rfl rfl ?_)
        rw [nI_1]
        exact ih (i + 1) _ _ (by omega) hS2 e
      · refine V.brT omX6_spread rfl rfl h2 (fun g => g) ?_
        rw [if_neg (fun g => h2 g.2)] at e
        cases e
        exact V.vret omX6_spread rfl rfl (kk _ hS0)
    · refine V.brT omX6_spread rfl rfl (nI_le (by omega) (by omega)) (fun g => Int32.not_lt.mpr g) ?_
      rw [if_neg (fun g => h1 g.1)] at e
      cases e
      exact V.vret omX6_spread rfl rfl (kk _ hS0)
def S0 (G : Nat) (Z : Nat → Int32) : TS := fd (zp 961 Z, []) G 1
set_option maxHeartbeats 4000000 in
set_option maxRecDepth 100000 in
theorem c_spread (d : Nat) {N F G n : Nat} (hF : okF N F) (hG : okF N G) (hN : N ≤ 30) (hn : n < 2 ^ 31) {S' : TS} (hs : sl N F n 0 (S0 G (A 28)) = some S') : C mX6_spread (d + 4) 0 0 [.ref 27, .int (nI N), .int (nI G), .int (nI F)] (hp A B) (fun r h' => hTS A B (A 27) (A 30) N S' h' ∧ r = none) := by
  refine C.of [some (.ref 27), some (.int (nI N)), some (.int (nI G)), some (.int (nI F)), none] omX6_spread rfl rfl rfl ?_
  refine V.s omX6_spread rfl rfl ?_
  refine V.gf omX6_spread rfl rfl rfl rfl ?_
  refine V.s omX6_spread rfl rfl ?_
  refine V.cSv omX6_spread omJ7_fill rfl rfl (cJ_fill _) rfl rfl rfl rfl ?_
  iterate 2 (refine V.s omX6_spread rfl rfl ?_)
  refine V.pfH omX6_spread rfl rfl rfl rfl rfl rfl rfl ?_
  have hS : hTS A B (A 27) (A 30) N (zp 961 (A 28), []) (hp (va_up (va_up A 28 (zp 961 (A 28))) 27 (upd (va_up A 28 (zp 961 (A 28)) 27) 3 0)) B) := by
    refine ⟨A 29, trivial, Nat.zero_le 279, (fun x hx => absurd hx List.not_mem_nil), ?_⟩
    unfold hT
    rw [va_self A 30, va_self A 29]
    rfl
  iterate 3 (refine V.s omX6_spread rfl rfl ?_)
  refine V.cV omX6_spread omX6_find (c_find (d + 2) hG hN 1 _ hS) rfl rfl rfl rfl rfl rfl rfl rfl (by omega) (by omega) (fun r2 h2 hQ => ?_)
  obtain ⟨hS2, rfl⟩ := hQ
  show V mX6_spread (d + 4) 0 0 _ 0 0 19 _ [] _
  iterate 2 (refine V.s omX6_spread rfl rfl ?_)
  exact sp_22 d (nI G) hF hN (fun h' hS' => ⟨hS', rfl⟩) n 0 _ _ (by omega) hS2 hs
end TRL
