/-! numbers -/
theorem lgc_lt {x y : Int64} : lg_cmp x y < 0 ↔ x < y := by
  unfold lg_cmp
  split
  · next h => exact ⟨fun q => absurd q (by decide), fun q => (Int64.lt_irrefl (Int64.lt_trans q h)).elim⟩
  · next h => split
              · next h2 => subst h2; exact ⟨fun q => absurd q (by decide), fun q => (Int64.lt_irrefl q).elim⟩
              · next h2 => exact ⟨fun _ => (Int64.lt_or_eq_of_le (Int64.not_lt.mp h)).resolve_right h2, fun _ => by decide⟩
theorem lgc_eq {x y : Int64} : lg_cmp x y = 0 ↔ x = y := by
  unfold lg_cmp
  split
  · next h => exact ⟨fun q => absurd q (by decide), fun q => by subst q; exact (Int64.lt_irrefl h).elim⟩
  · next h => split
              · next h2 => exact ⟨fun _ => h2, fun _ => rfl⟩
              · next h2 => exact ⟨fun q => absurd q (by decide), fun q => absurd q h2⟩
theorem lgc_gt {x y : Int64} : 0 < lg_cmp x y ↔ y < x := by
  unfold lg_cmp
  split
  · next h => exact ⟨fun _ => h, fun _ => by decide⟩
  · next h => split
              · next h2 => exact ⟨fun q => absurd q (by decide), fun q => absurd q h⟩
              · next h2 => exact ⟨fun q => absurd q (by decide), fun q => absurd q h⟩
theorem lgc_ge {x y : Int64} : 0 ≤ lg_cmp x y ↔ y ≤ x := by
  rw [← Int32.not_lt, ← Int64.not_lt, lgc_lt]
theorem lgc_le {x y : Int64} : lg_cmp x y ≤ 0 ↔ x ≤ y := by
  rw [← Int32.not_lt, ← Int64.not_lt, lgc_gt]
/-- a number that is a natural one -/
def NV (i : Int32) (a : Nat) : Prop := i = nI a
theorem nv_nI {a : Nat} : NV (nI a) a := rfl
theorem nv_lit {n : Nat} : NV (OfNat.ofNat n) (OfNat.ofNat n) := rfl
theorem nv_add {i j : Int32} {a b : Nat} (h : NV i a) (g : NV j b) : NV (i + j) (a + b) := by unfold NV at *; rw [h, g, nI_add]
theorem nv_mul {i j : Int32} {a b : Nat} (h : NV i a) (g : NV j b) : NV (i * j) (a * b) := by unfold NV at *; rw [h, g, pk_mul]
theorem nv_of {i : Int32} {a : Nat} (h : i = nI a) : NV i a := h
theorem ixN {i : Int32} {j n : Nat} (h : NV i j) (hj : j < n) (hn : n < 2 ^ 31) : ix i j n := by unfold NV at h; rw [h]; exact ix_nI hj hn
/-! the class Numbers -/
def fitF (v : Int64) : Int32 := if -1000000000 ≤ v ∧ v ≤ 1000000000 then 1 else 0
theorem fitF_01 (v : Int64) : fitF v = 0 ∨ fitF v = 1 := by unfold fitF; split <;> simp
theorem c_fits (d : Nat) (v : Int64) (h : hp_T) : C mX2_fits d 0 0 [.long v] h (fun r h' => h' = h ∧ r = some (.int (fitF v))) := by
  refine C.of [some (.long v), none] omX2_fits rfl rfl rfl ?_
  repeat' (first | refine V.s omX2_fits rfl rfl ?_ | refine V.gf omX2_fits rfl rfl rfl rfl ?_ | refine V.br omX2_fits rfl rfl (fun hc => ?_) (fun hc => ?_))
  · refine V.zret omX2_fits rfl rfl (by decide) ⟨rfl, ?_⟩
    rw [lgc_lt] at hc
    simp [fitF, Int64.not_le.mpr hc]
  · refine V.zret omX2_fits rfl rfl (by decide) ⟨rfl, ?_⟩
    rw [lgc_gt] at hc
    simp [fitF, Int64.not_le.mpr hc]
  · refine V.zret omX2_fits rfl rfl (by decide) ⟨rfl, ?_⟩
    next h1 =>
    rw [lgc_ge] at h1
    rw [lgc_le] at hc
    simp [fitF, h1, hc]
def kbF (a : Int32) : Int32 := if a = 0 then 1 else 0
theorem c_kindByBend (d : Nat) (a : Int32) (h : hp_T) : C mX2_kindByBend d 0 0 [.int a] h (fun r h' => h' = h ∧ r = some (.int (kbF a))) := by
  refine C.of [some (.int a)] omX2_kindByBend rfl rfl rfl ?_
  repeat' (first | refine V.s omX2_kindByBend rfl rfl ?_ | refine V.gf omX2_kindByBend rfl rfl rfl rfl ?_ | refine V.br omX2_kindByBend rfl rfl (fun hc => ?_) (fun hc => ?_))
  · exact V.iret omX2_kindByBend rfl rfl ⟨rfl, by simp [kbF, hc]⟩
  · exact V.iret omX2_kindByBend rfl rfl ⟨rfl, by simp [kbF, hc]⟩
def mtF (v : Int64) : Int32 := if v < -2 then 5 else if 2 < v then 6 else if v = -2 then 1 else if v = 2 then 2 else if v = 0 then 3 else 4
theorem c_meetingBy (d : Nat) (v : Int64) (h : hp_T) : C mX2_meetingBy d 0 0 [.long v] h (fun r h' => h' = h ∧ r = some (.int (mtF v))) := by
  refine C.of [some (.long v), none] omX2_meetingBy rfl rfl rfl ?_
  repeat' (first | refine V.s omX2_meetingBy rfl rfl ?_ | refine V.gf omX2_meetingBy rfl rfl rfl rfl ?_ | refine V.br omX2_meetingBy rfl rfl (fun hc => ?_) (fun hc => ?_))
  all_goals refine V.iret omX2_meetingBy rfl rfl ⟨rfl, ?_⟩
  all_goals simp only [lgc_lt, lgc_eq, lgc_gt, lgc_ge, lgc_le, ← Int64.not_lt] at *
  all_goals simp [mtF, *]
def prd (f g : Nat → Int32) (i j : Nat) : Int64 := 2 * ((f (i + 2)).toInt64 * (g (j + 2)).toInt64 + (f (i + 3)).toInt64 * (g (j + 3)).toInt64) - (f i).toInt64 * (g (j + 1)).toInt64 - (g j).toInt64 * (f (i + 1)).toInt64
theorem c_productAt (d : Nat) {q len i j : Nat} {f : Nat → Int32} {h : hp_T} (hq : h[q]? = some (.inl (len, .inl f))) (hi : i + 3 < len) (hj : j + 3 < len) (hl : len < 2 ^ 31) : C mX2_productAt d 0 0 [.ref q, .int (nI i), .int (nI j)] h (fun r h' => h' = h ∧ r = some (.long (prd f f i j))) := by
  refine C.of [some (.ref q), some (.int (nI i)), some (.int (nI j)), none, none] omX2_productAt rfl rfl rfl ?_
  repeat (first | refine V.s omX2_productAt rfl rfl ?_ | refine V.ial omX2_productAt rfl hq (ixN nv_nI (by omega) hl) ?_ | refine V.ial omX2_productAt rfl hq (ixN (nv_add nv_nI nv_lit) (by omega) hl) ?_)
  exact V.lret omX2_productAt rfl rfl ⟨rfl, rfl⟩
theorem fitF_ne {v : Int64} : ¬ fitF v = 0 ↔ fitF v = 1 := by
  rcases fitF_01 v with h | h <;> simp [h]
abbrev lawP (a b x y : Int32) : Prop := fitF a.toInt64 = 1 ∧ fitF b.toInt64 = 1 ∧ fitF x.toInt64 = 1 ∧ fitF y.toInt64 = 1 ∧ x.toInt64 * x.toInt64 + y.toInt64 * y.toInt64 - a.toInt64 * b.toInt64 = 1
def klF (a b x y : Int32) : Int32 := if lawP a b x y then 1 else 0
theorem klF_01 (a b x y : Int32) : klF a b x y = 0 ∨ klF a b x y = 1 := by unfold klF; split <;> simp
theorem c_keepLaw (d : Nat) (a b x y : Int32) (h : hp_T) : C mX2_keepLaw (d + 1) 0 0 [.int a, .int b, .int x, .int y] h (fun r h' => h' = h ∧ r = some (.int (klF a b x y))) := by
  refine C.of [some (.int a), some (.int b), some (.int x), some (.int y)] omX2_keepLaw rfl rfl rfl ?_
  repeat' (first | refine V.s omX2_keepLaw rfl rfl ?_ | refine V.gf omX2_keepLaw rfl rfl rfl rfl ?_ | refine V.cSf omX2_keepLaw omX2_fits rfl rfl (c_fits _ _ _) rfl rfl rfl rfl ?_ | refine V.br omX2_keepLaw rfl rfl (fun hc => ?_) (fun hc => ?_))
  all_goals refine V.zret omX2_keepLaw rfl rfl (by decide) ⟨rfl, ?_⟩
  all_goals try simp only [lgc_eq, fitF_ne] at *
  all_goals simp [klF, lawP, *]
/-! Euclid's way -/
def euF : Nat → Nat → Nat → Nat
  | 0, p, _ => p
  | k + 1, p, q => if q = 0 then p else euF k q (p % q)
theorem euF_gcd : ∀ (k p q : Nat), q ≤ p → q < 2 ^ k → euF (2 * k) p q = Nat.gcd p q
  | 0, p, q, _, h => by
    have : q = 0 := by omega
    subst this; simp [euF]
  | k + 1, p, q, hp, h => by
    rw [show 2 * (k + 1) = (2 * k) + 1 + 1 by omega]
    unfold euF
    by_cases hq : q = 0
    · simp [hq]
    rw [if_neg hq]
    unfold euF
    have hr : p % q < q := Nat.mod_lt _ (by omega)
    by_cases hr0 : p % q = 0
    · rw [if_pos hr0, Nat.gcd_comm, Nat.gcd_rec, hr0]
      simp
    rw [if_neg hr0]
    have hs : q % (p % q) < p % q := Nat.mod_lt _ (by omega)
    have h2 : q % (p % q) < 2 ^ k := by
      rw [Nat.pow_succ] at h
      have := Nat.mod_add_div q (p % q)
      have h1 : 1 ≤ q / (p % q) := Nat.div_pos (by omega) (by omega)
      have h3 : p % q * 1 ≤ p % q * (q / (p % q)) := Nat.mul_le_mul_left _ h1
      omega
    rw [euF_gcd k (p % q) (q % (p % q)) (by omega) h2]
    rw [Nat.gcd_comm p q, Nat.gcd_rec q p, Nat.gcd_comm, Nat.gcd_comm (p % q) q]
    rw [Nat.gcd_comm q (p % q), Nat.gcd_rec (p % q) q, Nat.gcd_comm]
theorem euF_100 (p q : Nat) (hp : p < 2 ^ 31) (hq : q < 2 ^ 31) : euF 100 p q = Nat.gcd p q := by
  by_cases h : q ≤ p
  · exact euF_gcd 50 p q h (by omega)
  · unfold euF
    rw [if_neg (by omega), Nat.mod_eq_of_lt (by omega)]
    unfold euF
    by_cases h0 : p = 0
    · simp [h0]
    rw [if_neg h0, euF_gcd 49 p (q % p) (Nat.le_of_lt (Nat.mod_lt _ (by omega))) (by have := Nat.mod_lt q (show 0 < p by omega); omega)]
    rw [Nat.gcd_comm, Nat.gcd_rec p q]
theorem nIl_eq {p : Nat} (n : Nat) (hp : p < 2 ^ 31) (hn : n < 2 ^ 31) : (nI p = OfNat.ofNat n) ↔ p = n := nI_eq hp hn
theorem nIl_le {p : Nat} (n : Nat) (hp : p < 2 ^ 31) (hn : n < 2 ^ 31) : ((OfNat.ofNat n : Int32) ≤ nI p) ↔ n ≤ p := nI_leI hn hp
theorem nIl_lt {p : Nat} (n : Nat) (hp : p < 2 ^ 31) (hn : n < 2 ^ 31) : (nI p < (OfNat.ofNat n : Int32)) ↔ p < n := nI_ltI hp hn
theorem isLowest_end (d : Nat) (h : hp_T) (R : Int32) (v0 v1 v3 v4 v5 : Option Value) (p : Nat) (hp : p < 2 ^ 31) (hR : R = (if p = 1 then 1 else 0)) :
    V mX2_isLowest d 0 0 (fun r h' => h' = h ∧ r = some (.int R)) 0 0 34 [v0, v1, some (.int (nI p)), v3, v4, v5] [] h := by
  have e := nIl_eq 1 hp (by decide)
  repeat' (first | refine V.s omX2_isLowest rfl rfl ?_ | refine V.gf omX2_isLowest rfl rfl rfl rfl ?_ | refine V.br omX2_isLowest rfl rfl (fun hc => ?_) (fun hc => ?_))
  all_goals refine V.zret omX2_isLowest rfl rfl (by decide) ⟨rfl, ?_⟩
  all_goals rw [e] at hc
  all_goals simp [hR, hc]
theorem isLowest_loop (d : Nat) (h : hp_T) (R : Int32) (a0 b0 : Int32) : ∀ (m i p q : Nat) (v5 : Option Value), i + m = 100 → p < 2 ^ 31 → q < 2 ^ 31 → R = (if euF m p q = 1 then 1 else 0) →
    V mX2_isLowest d 0 0 (fun r h' => h' = h ∧ r = some (.int R)) 0 0 7 [some (.int a0), some (.int b0), some (.int (nI p)), some (.int (nI q)), some (.int (nI i)), v5] [] h := by
  intro m
  induction m with
  | zero =>
    intro i p q v5 hi hp hq hR
    have : i = 100 := by omega
    subst this
    refine V.s omX2_isLowest rfl rfl ?_
    refine V.s omX2_isLowest rfl rfl ?_
    refine V.brT omX2_isLowest rfl rfl (by decide) (by decide) ?_
    exact isLowest_end d h R _ _ _ _ _ p hp hR
  | succ m ih =>
    intro i p q v5 hi hp hq hR
    refine V.s omX2_isLowest rfl rfl ?_
    refine V.s omX2_isLowest rfl rfl ?_
    refine V.br omX2_isLowest rfl rfl (fun hc => ?_) (fun hc => ?_)
    · rw [nIl_le 100 (by omega) (by decide)] at hc
      omega
    refine V.s omX2_isLowest rfl rfl ?_
    refine V.br omX2_isLowest rfl rfl (fun hc => ?_) (fun hc => ?_)
    · rw [nIl_eq 0 hq (by decide)] at hc
      simp only [euF, if_pos hc] at hR
      exact isLowest_end d h R _ _ _ _ _ p hp hR
    · have hc' := hc
      rw [nIl_eq 0 hq (by decide)] at hc'
      simp only [euF, if_neg hc'] at hR
      repeat (first | refine V.s omX2_isLowest rfl rfl ?_ | refine V.gf omX2_isLowest rfl rfl rfl rfl ?_)
      refine V.irem omX2_isLowest rfl hc ?_
      rw [pk_rem hp (by omega) hq]
      refine V.s omX2_isLowest rfl rfl ?_
      refine V.s omX2_isLowest rfl rfl ?_
      refine V.s omX2_isLowest rfl rfl ?_
      refine V.s omX2_isLowest rfl rfl ?_
      refine V.s omX2_isLowest rfl rfl ?_
      refine V.s omX2_isLowest rfl rfl ?_
      refine V.s omX2_isLowest rfl rfl ?_
      rw [nI_1]
      exact ih (i + 1) q (p % q) _ (by omega) hq (by have := Nat.mod_lt p (show 0 < q by omega); omega) hR
theorem c_isLowest (d : Nat) (p q : Nat) (h : hp_T) (hp : p < 2 ^ 31) (hq : q < 2 ^ 31) : C mX2_isLowest d 0 0 [.int (nI p), .int (nI q)] h (fun r h' => h' = h ∧ r = some (.int (if Nat.gcd p q = 1 then 1 else 0))) := by
  refine C.of [some (.int (nI p)), some (.int (nI q)), none, none, none, none] omX2_isLowest rfl rfl rfl ?_
  refine V.s omX2_isLowest rfl rfl ?_
  refine V.s omX2_isLowest rfl rfl ?_
  refine V.s omX2_isLowest rfl rfl ?_
  refine V.s omX2_isLowest rfl rfl ?_
  refine V.s omX2_isLowest rfl rfl ?_
  refine V.s omX2_isLowest rfl rfl ?_
  exact isLowest_loop d h _ _ _ 100 0 p q _ rfl hp hq (by rw [euF_100 p q hp hq])
