section TRM
variable {A : Nat → Nat → Int32} {B : Nat → Nat → Int64} {Z H U Y : Nat → Int32}
set_option maxHeartbeats 4000000 in
set_option maxRecDepth 100000 in
theorem c_leastNear (d : Nat) {N F s : Nat} {dist : Int32} (hN : N ≤ 30) (hO : FO A N) (hF : F < 10000) (hrow : ∀ j, j < (rowD N).length → okF N (atD (rowD N) j)) (hs : s < (rowD N).length) (c1 : A 28 (kyN (atD (rowD N) s)) = dist) (c2 : nrP F (atD (rowD N) s)) (c3 : ∀ j, j < s → ¬ (A 28 (kyN (atD (rowD N) j)) = dist ∧ nrP F (atD (rowD N) j))) : C mX6_leastNear (d + 2) 0 0 [.ref 27, .ref 25, .int (nI F), .int dist] (hp A B) (fun r h' => h' = hp A B ∧ r = some (.int (nI (atD (rowD N) s)))) := by
  obtain ⟨f1, f2, f3⟩ := hO
  have hl := rowD_len hN
  generalize rowD N = l at *
  refine C.of [some (.ref 27), some (.ref 25), some (.int (nI F)), some (.int dist), none, none] omX6_leastNear rfl rfl rfl ?_
  iterate 2 (refine V.s omX6_leastNear rfl rfl ?_)
  have key : ∀ (t i : Nat) (v5 : Option Value), i + t = s → V mX6_leastNear (d + 2) 0 0 (fun r h' => h' = hp A B ∧ r = some (.int (nI (atD l s)))) 0 0 3 [some (.ref 27), some (.ref 25), some (.int (nI F)), some (.int dist), some (.int (nI i)), v5] [] (hp A B) := by
    intro t
    induction t with
    | zero =>
      intro i v5 hi
      have : i = s := by omega
      subst this
      obtain ⟨hk, hx4⟩ := okF_ky (hrow i hs) hN
      iterate 2 (refine V.s omX6_leastNear rfl rfl ?_)
      refine V.gf omX6_leastNear rfl rfl rfl rfl ?_
      rw [f3]
      refine V.brF omX6_leastNear rfl rfl (nI_ge hs (by omega)) ?_
      refine V.s omX6_leastNear rfl rfl ?_
      refine V.gf omX6_leastNear rfl rfl rfl rfl ?_
      refine V.s omX6_leastNear rfl rfl ?_
      refine V.ial omX6_leastNear rfl rfl (ixN nv_nI (show i < 279 by omega) (by decide)) ?_
      rw [AD_at f2 i hs]
      iterate 2 (refine V.s omX6_leastNear rfl rfl ?_)
      refine V.gf omX6_leastNear rfl rfl rfl rfl ?_
      refine V.s omX6_leastNear rfl rfl ?_
      refine V.cSf omX6_leastNear omX6_key rfl rfl (c_key _ (show atD l i < 2 ^ 31 by omega) _) rfl rfl rfl rfl ?_
      refine V.ial omX6_leastNear rfl rfl (ixN nv_nI hk (by decide)) ?_
      rw [c1]
      refine V.s omX6_leastNear rfl rfl ?_
      refine V.brF omX6_leastNear rfl rfl (fun g => g rfl) ?_
      iterate 2 (refine V.s omX6_leastNear rfl rfl ?_)
      refine V.cSf omX6_leastNear omX1_areNear rfl rfl (c_areNear d hF hx4 _) rfl rfl rfl rfl ?_
      rw [if_pos c2]
      refine V.brF omX6_leastNear rfl rfl (by decide) ?_
      refine V.s omX6_leastNear rfl rfl ?_
      exact V.iret omX6_leastNear rfl rfl ⟨rfl, rfl⟩
    | succ t ih =>
      intro i v5 hi
      obtain ⟨hk, hx4⟩ := okF_ky (hrow i (by omega)) hN
      have cc := c3 i (by omega)
      have nx : V mX6_leastNear (d + 2) 0 0 (fun r h' => h' = hp A B ∧ r = some (.int (nI (atD l s)))) 0 0 47 [some (.ref 27), some (.ref 25), some (.int (nI F)), some (.int dist), some (.int (nI i)), some (.int (nI (atD l i)))] [] (hp A B) := by
        iterate 2 (refine V.s omX6_leastNear rfl rfl ?_)
        rw [nI_1]
        exact ih (i + 1) _ (by omega)
      iterate 2 (refine V.s omX6_leastNear rfl rfl ?_)
      refine V.gf omX6_leastNear rfl rfl rfl rfl ?_
      rw [f3]
      refine V.brF omX6_leastNear rfl rfl (nI_ge (show i < l.length by omega) (by omega)) ?_
      refine V.s omX6_leastNear rfl rfl ?_
      refine V.gf omX6_leastNear rfl rfl rfl rfl ?_
      refine V.s omX6_leastNear rfl rfl ?_
      refine V.ial omX6_leastNear rfl rfl (ixN nv_nI (show i < 279 by omega) (by decide)) ?_
      rw [AD_at f2 i (by omega)]
      iterate 2 (refine V.s omX6_leastNear rfl rfl ?_)
      refine V.gf omX6_leastNear rfl rfl rfl rfl ?_
      refine V.s omX6_leastNear rfl rfl ?_
      refine V.cSf omX6_leastNear omX6_key rfl rfl (c_key _ (show atD l i < 2 ^ 31 by omega) _) rfl rfl rfl rfl ?_
      refine V.ial omX6_leastNear rfl rfl (ixN nv_nI hk (by decide)) ?_
      refine V.s omX6_leastNear rfl rfl ?_
      by_cases h1 : A 28 (kyN (atD l i)) = dist
      · refine V.brF omX6_leastNear rfl rfl (fun g => g h1) ?_
        iterate 2 (refine V.s omX6_leastNear rfl rfl ?_)
        refine V.cSf omX6_leastNear omX1_areNear rfl rfl (c_areNear d hF hx4 _) rfl rfl rfl rfl ?_
        rw [if_neg (fun g => cc ⟨h1, g⟩)]
        refine V.brT omX6_leastNear rfl rfl rfl (by decide) ?_
        exact nx
      · refine V.brT omX6_leastNear rfl rfl h1 (fun g => g) ?_
        exact nx
  exact key s 0 none (by omega)
abbrev hL (A : Nat → Nat → Int32) (B : Nat → Nat → Int64) (Z U Y H : Nat → Int32) : hp_T := hp (va_up (va_up (va_up (va_up A 30 Y) 29 U) 28 H) 27 Z) B
set_option maxHeartbeats 4000000 in
set_option maxRecDepth 100000 in
theorem ld_39 (d : Nat) {N L : Nat} {fr go : Int32} {s : Nat → Nat} (hN : N ≤ 30) (hO : FO A N) (hrow : ∀ j, j < (rowD N).length → okF N (atD (rowD N) j)) (h4 : Z 4 = nI L) (hLL : L < 279) (h0 : s 0 < (rowD N).length) (hs : isWay (atD (rowD N)) (rowD N).length L (fun c j => H (kyN (atD (rowD N) j)) = nI (c + 1)) s) {Q : Option Value → hp_T → Prop} (kk : ∀ Y', (∀ i, i ≤ L → Y' i = nI (atD (rowD N) (s i))) → Q none (hL A B Z U Y' H)) : ∀ (t i : Nat) (Y : Nat → Int32), i + t = L → (∀ j, j ≤ i → Y j = nI (atD (rowD N) (s j))) → V mX6_lead (d + 3) 0 0 Q 0 0 39 [some (.ref 27), some (.ref 25), some (.int fr), some (.int go), some (.int (nI (i + 1)))] [] (hL A B Z U Y H) := by
  have hsN : ∀ i, i ≤ L → s i < (rowD N).length := by
    intro i hi
    cases i with
    | zero => exact h0
    | succ i => exact (hs i (by omega)).1
  intro t
  induction t with
  | zero =>
    intro i Y hi hY
    have : i = L := by omega
    subst this
    iterate 2 (refine V.s omX6_lead rfl rfl ?_)
    refine V.gf omX6_lead rfl rfl rfl rfl ?_
    rw [va_up_self, h4]
    refine V.brT omX6_lead rfl rfl (nI_lt (by omega) (by omega)) (fun g => Int32.not_le.mpr g) ?_
    exact V.vret omX6_lead rfl rfl (kk Y hY)
  | succ t ih =>
    intro i Y hi hY
    iterate 2 (refine V.s omX6_lead rfl rfl ?_)
    refine V.gf omX6_lead rfl rfl rfl rfl ?_
    rw [va_up_self, h4]
    refine V.brF omX6_lead rfl rfl (nI_nlt (by omega) (by omega)) ?_
    refine V.s omX6_lead rfl rfl ?_
    refine V.gf omX6_lead rfl rfl rfl rfl ?_
    iterate 4 (refine V.s omX6_lead rfl rfl ?_)
    refine V.gf omX6_lead rfl rfl rfl rfl ?_
    iterate 3 (refine V.s omX6_lead rfl rfl ?_)
    rw [nI_pred]
    refine V.ial omX6_lead rfl rfl (ixN nv_nI (show i < 279 by omega) (by decide)) ?_
    rw [tA30, hY i (Nat.le_refl i)]
    refine V.s omX6_lead rfl rfl ?_
    refine V.gf omX6_lead rfl rfl rfl rfl ?_
    rw [va_up_self, h4]
    iterate 2 (refine V.s omX6_lead rfl rfl ?_)
    rw [pk_sub (show i + 1 ≤ L by omega)]
    iterate 2 (refine V.s omX6_lead rfl rfl ?_)
    rw [nI_1]
    obtain ⟨q1, q2, q3, q4⟩ := hs i (by omega)
    have hx := okF_ky (hrow _ (hsN i (by omega))) hN
    have cl := c_leastNear (A := va_up (va_up (va_up (va_up A 30 Y) 29 U) 28 H) 27 Z) (B := B) (d := d) (s := s (i + 1)) (dist := nI (L - (i + 1) + 1)) hN hO hx.2 hrow q1 q2 q3 q4
    refine V.cVf omX6_lead omX6_leastNear rfl rfl cl rfl rfl rfl rfl rfl rfl ?_
    refine V.iasH omX6_lead rfl rfl (ixN nv_nI (show i + 1 < 279 by omega) (by decide)) ?_
    rw [tA30, tA30u]
    iterate 2 (refine V.s omX6_lead rfl rfl ?_)
    rw [nI_1]
    refine ih (i + 1) _ (by omega) (fun j hj => ?_)
    by_cases hj1 : j = i + 1
    · subst hj1
      exact pk_us
    · rw [pk_un hj1]
      exact hY j (by omega)
def J27 (A A' : Nat → Nat → Int32) : Prop := ∀ q k, ¬ (q = 27 ∨ q = 28 ∨ q = 29 ∨ q = 30) → A' q k = A q k
theorem J27_L : J27 A (va_up (va_up (va_up (va_up A 30 Y) 29 U) 28 H) 27 Z) := by
  intro q k h
  unfold va_up
  rw [if_neg (fun e => h (Or.inl e)), if_neg (fun e => h (Or.inr (Or.inl e))), if_neg (fun e => h (Or.inr (Or.inr (Or.inl e)))), if_neg (fun e => h (Or.inr (Or.inr (Or.inr e))))]
set_option maxHeartbeats 4000000 in
set_option maxRecDepth 100000 in
theorem c_lead (d : Nat) {N F G L n : Nat} {s : Nat → Nat} {S' : TS} (hN : N ≤ 30) (hO : FO A N) (hrow : ∀ j, j < (rowD N).length → okF N (atD (rowD N) j)) (hF : okF N F) (hG : okF N G) (hn : n < 2 ^ 31) (hsl : sl N F n 0 (S0 G (A 28)) = some S') (hLL : L < 279) (hWf : S'.1 (kyN F) = nI (L + 1)) (h0 : s 0 < (rowD N).length) (h00 : atD (rowD N) (s 0) = F) (hs : isWay (atD (rowD N)) (rowD N).length L (fun c j => S'.1 (kyN (atD (rowD N) j)) = nI (c + 1)) s) : C mX6_lead (d + 5) 0 0 [.ref 27, .ref 25, .int (nI F), .int (nI G)] (hp A B) (fun r h' => (∃ A', h' = hp A' B ∧ J27 A A' ∧ A' 27 4 = nI L ∧ ∀ i, i ≤ L → A' 30 i = nI (atD (rowD N) (s i))) ∧ r = none) := by
  obtain ⟨hk, hx4⟩ := okF_ky hF hN
  refine C.of [some (.ref 27), some (.ref 25), some (.int (nI F)), some (.int (nI G)), none] omX6_lead rfl rfl rfl ?_
  iterate 2 (refine V.s omX6_lead rfl rfl ?_)
  refine V.gf omX6_lead rfl rfl rfl rfl ?_
  rw [hO.1]
  iterate 2 (refine V.s omX6_lead rfl rfl ?_)
  refine V.cV omX6_lead omX6_spread (c_spread d hF hG hN hn hsl) rfl rfl rfl rfl rfl rfl rfl rfl (by omega) (by omega) (fun r2 h2 hQ => ?_)
  obtain ⟨⟨U, hA, hl, hok, rfl⟩, rfl⟩ := hQ
  show V mX6_lead (d + 5) 0 0 _ 0 0 10 _ [] _
  iterate 3 (refine V.s omX6_lead rfl rfl ?_)
  refine V.gf omX6_lead rfl rfl rfl rfl ?_
  refine V.s omX6_lead rfl rfl ?_
  refine V.cSf omX6_lead omX6_key rfl rfl (c_key _ (show F < 2 ^ 31 by omega) _) rfl rfl rfl rfl ?_
  refine V.ial omX6_lead rfl rfl (ixN nv_nI hk (by decide)) ?_
  rw [tA28, hWf]
  iterate 2 (refine V.s omX6_lead rfl rfl ?_)
  rw [nI_pred]
  refine V.cSf omX6_lead omJ9_max rfl rfl (cJ_max _ _ _ _) rfl rfl rfl rfl ?_
  have em : (if (0 : Int32) < nI L then nI L else 0) = nI L := by
    by_cases h : L = 0
    · subst h; decide
    · rw [if_pos (nIpos (by omega) (by omega))]
  rw [em]
  refine V.pfH omX6_lead rfl rfl rfl rfl rfl rfl rfl ?_
  rw [bx_uu, va_up_self]
  refine V.s omX6_lead rfl rfl ?_
  refine V.gf omX6_lead rfl rfl rfl rfl ?_
  iterate 2 (refine V.s omX6_lead rfl rfl ?_)
  refine V.iasH omX6_lead rfl rfl (ixN (nv_nI (a := 0)) (show 0 < 279 by decide) (by decide)) ?_
  rw [tA30, tA30u]
  iterate 2 (refine V.s omX6_lead rfl rfl ?_)
  exact ld_39 (A := A) (B := B) (Z := upd (upd (A 27) 3 (nI S'.2.length)) 4 (nI L)) (U := U) (H := S'.1) (fr := nI F) (go := nI G) (d + 2) hN hO hrow pk_us hLL h0 hs (fun Y' hY' => ⟨⟨_, rfl, J27_L, rfl, hY'⟩, rfl⟩) L 0 (upd (A 30) 0 (nI F)) (by omega) (fun j hj => by
    have : j = 0 := by omega
    subst this
    rw [pk_us, h00])
def JW (A A' : Nat → Nat → Int32) : Prop := ∀ q k, ¬ (q = 25 ∨ q = 26 ∨ q = 27 ∨ q = 28 ∨ q = 29 ∨ q = 30) → A' q k = A q k
theorem ofF_ok {F N : Nat} (hN : N ≤ 30) (h : ofF (nI F) (nI N) = 1) (hF : F < 10000) : okF N F ∧ FR F := by
  unfold ofF at h
  split at h
  · next g =>
    rw [nI_clamp (show F < 2 ^ 31 by omega)] at g
    obtain ⟨F', e, hR, hF', -⟩ := frF_ex g.1
    have e2 := (nI_eq (show F < 2 ^ 31 by omega) (show F' < 2 ^ 31 by omega)).mp e
    subst e2
    have := (nI_leI (by omega) (by omega)).mp g.2
    exact ⟨⟨hR.1, hR.2.1, this⟩, hR⟩
  · exact absurd h (by decide)
set_option maxHeartbeats 4000000 in
set_option maxRecDepth 100000 in
theorem c7_wayY (d : Nat) {F G N L n : Nat} {s : Nat → Nat} {S' : TS} (hN1 : 1 ≤ N) (hN : N ≤ 30) (hf : ofF (nI F) (nI N) = 1) (hg : ofF (nI G) (nI N) = 1) (hF : F < 10000) (hG : G < 10000) (hc : FC A) (hrow : ∀ j, j < (rowD N).length → okF N (atD (rowD N) j)) (hn : n < 2 ^ 31) (hsl : sl N F n 0 (S0 G (A 28)) = some S') (hLL : L < 279) (hWf : S'.1 (kyN F) = nI (L + 1)) (h0 : s 0 < (rowD N).length) (h00 : atD (rowD N) (s 0) = F) (hs : isWay (atD (rowD N)) (rowD N).length L (fun c j => S'.1 (kyN (atD (rowD N) j)) = nI (c + 1)) s) : C mX7_way (d + 6) 0 0 [.ref 0, .int (nI F), .int (nI G), .int (nI N)] (hp A B) (fun r' h' => (∃ A', h' = hp A' B ∧ JW A A' ∧ FC A' ∧ A' 27 4 = nI L ∧ ∀ i, i ≤ L → A' 30 i = nI (atD (rowD N) (s i))) ∧ r' = some (.int (nI L))) := by
  refine C.of [some (.ref 0), some (.int (nI F)), some (.int (nI G)), some (.int (nI N))] omX7_way rfl rfl rfl ?_
  iterate 2 (refine V.s omX7_way rfl rfl ?_)
  refine V.cSf omX7_way omX7_isInRow rfl rfl (c7_isInRow (d + 3) _ _ _) rfl rfl rfl rfl ?_
  have e : irF (nI F) (nI N) = 1 := by unfold irF; rw [if_pos ⟨orN hN1 hN, hf⟩]
  rw [e]
  refine V.brF omX7_way rfl rfl (by decide) ?_
  iterate 2 (refine V.s omX7_way rfl rfl ?_)
  refine V.cSf omX7_way omX7_isInRow rfl rfl (c7_isInRow (d + 3) _ _ _) rfl rfl rfl rfl ?_
  have e2 : irF (nI G) (nI N) = 1 := by unfold irF; rw [if_pos ⟨orN hN1 hN, hg⟩]
  rw [e2]
  refine V.brT omX7_way rfl rfl (by decide) (by decide) ?_
  refine V.s omX7_way rfl rfl ?_
  refine V.gf omX7_way rfl rfl rfl rfl ?_
  refine V.s omX7_way rfl rfl ?_
  refine V.cV omX7_way omX0_fill (c_fill (d + 4) hN1 hN hc) rfl rfl rfl rfl rfl rfl rfl rfl (by omega) (by omega) (fun r' h' hQ => ?_)
  obtain ⟨⟨A', rfl, hJ, hO⟩, rfl⟩ := hQ
  show V mX7_way (d + 6) 0 0 _ 0 0 31 _ [] _
  have e28 : A' 28 = A 28 := funext (fun k => hJ 28 k (by decide))
  rw [← e28] at hsl
  refine V.s omX7_way rfl rfl ?_
  refine V.gf omX7_way rfl rfl rfl rfl ?_
  refine V.s omX7_way rfl rfl ?_
  refine V.gf omX7_way rfl rfl rfl rfl ?_
  iterate 2 (refine V.s omX7_way rfl rfl ?_)
  refine V.cV omX7_way omX6_lead (c_lead d hN hO hrow (ofF_ok hN hf hF).1 (ofF_ok hN hg hG).1 hn hsl hLL hWf h0 h00 hs) rfl rfl rfl rfl rfl rfl rfl rfl (by omega) (by omega) (fun r' h' hQ => ?_)
  obtain ⟨⟨A2, rfl, hJ2, hL4, hY2⟩, rfl⟩ := hQ
  show V mX7_way (d + 6) 0 0 _ 0 0 44 _ [] _
  refine V.s omX7_way rfl rfl ?_
  refine V.gf omX7_way rfl rfl rfl rfl ?_
  refine V.gf omX7_way rfl rfl rfl rfl ?_
  rw [hL4]
  refine V.iret omX7_way rfl rfl ⟨⟨A2, rfl, ?_, ?_, hL4, hY2⟩, rfl⟩
  · intro q k h
    rw [hJ2 q k (fun g => h (by omega)), hJ q k (fun g => h (by omega))]
  · have e25 : A2 25 = A' 25 := funext (fun k => hJ2 25 k (by decide))
    have e26 : A2 26 = A' 26 := funext (fun k => hJ2 26 k (by decide))
    refine FC_of hN1 hN ?_
    unfold FO
    rw [e25, e26]
    exact hO
set_option maxHeartbeats 4000000 in
set_option maxRecDepth 100000 in
theorem c7_wayN (d : Nat) (f g n : Int32) (h : ¬ inW f g n) : C mX7_way (d + 6) 0 0 [.ref 0, .int f, .int g, .int n] (hp A B) (fun r' h' => h' = hp (rfA A 7) B ∧ r' = some (.int (-7))) := by
  refine C.of [some (.ref 0), some (.int f), some (.int g), some (.int n)] omX7_way rfl rfl rfl ?_
  have bad : V mX7_way (d + 6) 0 0 (fun r' h' => h' = hp (rfA A 7) B ∧ r' = some (.int (-7))) 0 0 16 [some (.ref 0), some (.int f), some (.int g), some (.int n)] [] (hp A B) := by
    iterate 2 (refine V.s omX7_way rfl rfl ?_)
    refine V.cVf omX7_way omX7_refuse rfl rfl (c_refuse _ _ (by decide)) rfl rfl rfl rfl rfl rfl ?_
    exact V.iret omX7_way rfl rfl ⟨rfl, rfl⟩
  iterate 2 (refine V.s omX7_way rfl rfl ?_)
  refine V.cSf omX7_way omX7_isInRow rfl rfl (c7_isInRow (d + 3) _ _ _) rfl rfl rfl rfl ?_
  by_cases h1 : orF n = 1 ∧ ofF f n = 1
  · have e : irF f n = 1 := by unfold irF; rw [if_pos h1]
    rw [e]
    refine V.brF omX7_way rfl rfl (by decide) ?_
    iterate 2 (refine V.s omX7_way rfl rfl ?_)
    refine V.cSf omX7_way omX7_isInRow rfl rfl (c7_isInRow (d + 3) _ _ _) rfl rfl rfl rfl ?_
    have e2 : irF g n = 0 := by unfold irF; rw [if_neg (fun q => h ⟨h1.1, h1.2, q.2⟩)]
    rw [e2]
    refine V.brF omX7_way rfl rfl (by decide) ?_
    exact bad
  · have e : irF f n = 0 := by unfold irF; rw [if_neg h1]
    rw [e]
    refine V.brT omX7_way rfl rfl rfl (by decide) ?_
    exact bad
def s7_step (A : Nat → Nat → Int32) (i : Int32) : Int32 × (Nat → Nat → Int32) := if A 27 4 < 0 then (-2, rfA A 2) else if 0 ≤ i ∧ i ≤ A 27 4 then (A 30 i.toNatClampNeg, A) else (-3, rfA A 3)
set_option maxHeartbeats 4000000 in
set_option maxRecDepth 100000 in
theorem c7_step (d : Nat) (i : Int32) (hb : A 27 4 < 0 ∨ ∃ L, L < 279 ∧ A 27 4 = nI L) : C mX7_step (d + 1) 0 0 [.ref 0, .int i] (hp A B) (fun r h' => h' = hp (s7_step A i).2 B ∧ r = some (.int (s7_step A i).1)) := by
  refine C.of [some (.ref 0), some (.int i)] omX7_step rfl rfl rfl ?_
  have ct : C mX6_isThere d 0 0 [.ref 27] (hp A B) (fun r h' => h' = hp A B ∧ r = some (.int (if A 27 4 < 0 then 0 else 1))) := by
    refine C.of [some (.ref 27)] omX6_isThere rfl rfl rfl ?_
    refine V.s omX6_isThere rfl rfl ?_
    refine V.gf omX6_isThere rfl rfl rfl rfl ?_
    by_cases h1 : A 27 4 < 0
    · refine V.brT omX6_isThere rfl rfl h1 (fun g => Int32.not_le.mpr g) ?_
      refine V.s omX6_isThere rfl rfl ?_
      exact V.zret omX6_isThere rfl rfl (by decide) ⟨rfl, by rw [if_pos h1]⟩
    · refine V.brF omX6_isThere rfl rfl h1 ?_
      iterate 2 (refine V.s omX6_isThere rfl rfl ?_)
      exact V.zret omX6_isThere rfl rfl (by decide) ⟨rfl, by rw [if_neg h1]⟩
  refine V.s omX7_step rfl rfl ?_
  refine V.gf omX7_step rfl rfl rfl rfl ?_
  refine V.cVf omX7_step omX6_isThere rfl rfl ct rfl rfl rfl rfl rfl rfl ?_
  by_cases h1 : A 27 4 < 0
  · have e : s7_step A i = (-2, rfA A 2) := by unfold s7_step; rw [if_pos h1]
    rw [e, if_pos h1]
    refine V.brF omX7_step rfl rfl (by decide) ?_
    iterate 2 (refine V.s omX7_step rfl rfl ?_)
    refine V.cVf omX7_step omX7_refuse rfl rfl (c_refuse _ _ (by decide)) rfl rfl rfl rfl rfl rfl ?_
    exact V.iret omX7_step rfl rfl ⟨rfl, rfl⟩
  · rw [if_neg h1]
    obtain ⟨L, hL, e4⟩ := hb.resolve_left h1
    refine V.brT omX7_step rfl rfl (by decide) (by decide) ?_
    have bad : ¬ (0 ≤ i ∧ i ≤ nI L) → V mX7_step (d + 1) 0 0 (fun r h' => h' = hp (s7_step A i).2 B ∧ r = some (.int (s7_step A i).1)) 0 0 44 [some (.ref 0), some (.int i)] [] (hp A B) := by
      intro h2
      have e : s7_step A i = (-3, rfA A 3) := by unfold s7_step; rw [if_neg h1, e4, if_neg h2]
      rw [e]
      iterate 2 (refine V.s omX7_step rfl rfl ?_)
      refine V.cVf omX7_step omX7_refuse rfl rfl (c_refuse _ _ (by decide)) rfl rfl rfl rfl rfl rfl ?_
      exact V.iret omX7_step rfl rfl ⟨rfl, rfl⟩
    refine V.s omX7_step rfl rfl ?_
    by_cases h0 : 0 ≤ i
    · refine V.brF omX7_step rfl rfl (Int32.not_lt.mpr h0) ?_
      iterate 2 (refine V.s omX7_step rfl rfl ?_)
      refine V.gf omX7_step rfl rfl rfl rfl ?_
      refine V.gf omX7_step rfl rfl rfl rfl ?_
      rw [e4]
      by_cases h2 : i ≤ nI L
      · refine V.brF omX7_step rfl rfl (Int32.not_lt.mpr h2) ?_
        have e : s7_step A i = (A 30 i.toNatClampNeg, A) := by unfold s7_step; rw [if_neg h1, e4, if_pos ⟨h0, h2⟩]
        rw [e]
        obtain ⟨k, hk, rfl⟩ := inle (show L < 2 ^ 31 by omega) ⟨h0, h2⟩
        rw [nI_clamp (by omega)]
        refine V.s omX7_step rfl rfl ?_
        refine V.gf omX7_step rfl rfl rfl rfl ?_
        refine V.gf omX7_step rfl rfl rfl rfl ?_
        refine V.s omX7_step rfl rfl ?_
        refine V.ial omX7_step rfl rfl (ixN nv_nI (show k < 279 by omega) (by decide)) ?_
        refine V.s omX7_step rfl rfl ?_
        exact V.iret omX7_step rfl rfl ⟨rfl, rfl⟩
      · refine V.brT omX7_step rfl rfl (Int32.not_le.mp h2) (fun g => Int32.not_le.mpr g) ?_
        exact bad (fun g => h2 g.2)
    · refine V.brT omX7_step rfl rfl (Int32.not_le.mp h0) (fun g => Int32.not_le.mpr g) ?_
      exact bad (fun g => h0 g.1)
end TRM
