section MD1
variable {A : Nat → Nat → Int32} {B : Nat → Nat → Int64}
theorem c8_isIn (d : Nat) (v lo hi : Int64) (h : hp_T) : C mX8_isIn d 0 0 [.long v, .long lo, .long hi] h (fun r h' => h' = h ∧ r = some (.int (if lo ≤ v ∧ v ≤ hi then 1 else 0))) := by
  refine C.of [some (.long v), none, some (.long lo), none, some (.long hi), none] omX8_isIn rfl rfl rfl ?_
  repeat' (first | refine V.s omX8_isIn rfl rfl ?_ | refine V.gf omX8_isIn rfl rfl rfl rfl ?_ | refine V.br omX8_isIn rfl rfl (fun hc => ?_) (fun hc => ?_))
  · refine V.zret omX8_isIn rfl rfl (by decide) ⟨rfl, ?_⟩
    rw [lgc_lt] at hc
    rw [if_neg (fun h => Int64.not_le.mpr hc h.1)]
  · refine V.zret omX8_isIn rfl rfl (by decide) ⟨rfl, ?_⟩
    rw [lgc_gt] at hc
    rw [if_neg (fun h => Int64.not_le.mpr hc h.2)]
  · next h1 =>
    refine V.zret omX8_isIn rfl rfl (by decide) ⟨rfl, ?_⟩
    rw [lgc_ge] at h1
    rw [lgc_le] at hc
    rw [if_pos ⟨h1, hc⟩]
theorem c8_isInY (d : Nat) {v lo hi : Int64} (g : lo ≤ v ∧ v ≤ hi) (h : hp_T) : C mX8_isIn d 0 0 [.long v, .long lo, .long hi] h (fun r h' => h' = h ∧ r = some (.int 1)) := by
  have h1 := c8_isIn d v lo hi h
  rwa [if_pos g] at h1
theorem c8_isInN (d : Nat) {v lo hi : Int64} (g : ¬ (lo ≤ v ∧ v ≤ hi)) (h : hp_T) : C mX8_isIn d 0 0 [.long v, .long lo, .long hi] h (fun r h' => h' = h ∧ r = some (.int 0)) := by
  have h1 := c8_isIn d v lo hi h
  rwa [if_neg g] at h1
def rmA (A : Nat → Nat → Int32) (c : Nat) : Nat → Nat → Int32 := va_up A 39 (upd (A 39) c (A 39 c + 1))
theorem c8_no (d : Nat) (v : Int32) (hv : rfB v = true) : C mX8_no d 0 0 [.ref 33, .int v] (hp A B) (fun r h' => h' = hp (rmA A (rfI v)) B ∧ r = some (.int v)) := by
  have hx : ix (-v) (rfI v) 9 := ⟨rfl, show ¬ (-v < 0 ∨ 9 ≤ (-v).toNatClampNeg) from of_decide_eq_true hv⟩
  refine C.of [some (.ref 33), some (.int v)] omX8_no rfl rfl rfl ?_
  repeat (first | refine V.s omX8_no rfl rfl ?_ | refine V.gf omX8_no rfl rfl rfl rfl ?_)
  refine V.ial omX8_no rfl rfl hx ?_
  repeat (first | refine V.s omX8_no rfl rfl ?_ | refine V.gf omX8_no rfl rfl rfl rfl ?_)
  refine V.iasH omX8_no rfl rfl hx ?_
  repeat (first | refine V.s omX8_no rfl rfl ?_ | refine V.gf omX8_no rfl rfl rfl rfl ?_)
  exact V.iret omX8_no rfl rfl ⟨rfl, rfl⟩
theorem c8_none (d : Nat) (v : Int32) (hv : rfB v = true) : C mX8_none (d + 1) 0 0 [.ref 33, .int v] (hp A B) (fun r h' => h' = hp (rmA A (rfI v)) B ∧ r = some (.int 0)) := by
  refine C.of [some (.ref 33), some (.int v), none] omX8_none rfl rfl rfl ?_
  repeat (first | refine V.s omX8_none rfl rfl ?_ | refine V.gf omX8_none rfl rfl rfl rfl ?_)
  refine V.cVf omX8_none omX8_no rfl rfl (c8_no _ v hv) rfl rfl rfl rfl rfl rfl ?_
  repeat (first | refine V.s omX8_none rfl rfl ?_ | refine V.gf omX8_none rfl rfl rfl rfl ?_)
  exact V.iret omX8_none rfl rfl ⟨rfl, rfl⟩
theorem c8_isRound (d : Nat) (r : Int32) : C mX8_isRound d 0 0 [.ref 33, .int r] (hp A B) (fun r' h' => h' = hp A B ∧ r' = some (.int (if 0 ≤ r ∧ r < A 33 5 then 1 else 0))) := by
  refine C.of [some (.ref 33), some (.int r)] omX8_isRound rfl rfl rfl ?_
  repeat' (first | refine V.s omX8_isRound rfl rfl ?_ | refine V.gf omX8_isRound rfl rfl rfl rfl ?_ | refine V.br omX8_isRound rfl rfl (fun hc => ?_) (fun hc => ?_))
  all_goals refine V.zret omX8_isRound rfl rfl (by decide) ⟨rfl, ?_⟩
  all_goals simp only [← Int32.not_lt] at *
  all_goals simp [*]
theorem c8_irY (d : Nat) {r : Int32} (h : 0 ≤ r ∧ r < A 33 5) : C mX8_isRound d 0 0 [.ref 33, .int r] (hp A B) (fun r' h' => h' = hp A B ∧ r' = some (.int 1)) := by
  have h1 := c8_isRound (A := A) (B := B) d r
  rwa [if_pos h] at h1
theorem c8_irN (d : Nat) {r : Int32} (h : ¬ (0 ≤ r ∧ r < A 33 5)) : C mX8_isRound d 0 0 [.ref 33, .int r] (hp A B) (fun r' h' => h' = hp A B ∧ r' = some (.int 0)) := by
  have h1 := c8_isRound (A := A) (B := B) d r
  rwa [if_neg h] at h1
theorem isIn_fit (v : Int64) : (if (-1000000000 : Int64) ≤ v ∧ v ≤ 1000000000 then (1 : Int32) else 0) = fitF v := rfl
set_option maxHeartbeats 4000000 in
set_option maxRecDepth 100000 in
theorem c8_isLawful (d : Nat) (a b x y : Int32) (h : hp_T) : C mX8_isLawful (d + 1) 0 0 [.long a.toInt64, .long b.toInt64, .long x.toInt64, .long y.toInt64] h (fun r h' => h' = h ∧ r = some (.int (klF a b x y))) := by
  refine C.of [some (.long a.toInt64), none, some (.long b.toInt64), none, some (.long x.toInt64), none, some (.long y.toInt64), none] omX8_isLawful rfl rfl rfl ?_
  have cf : ∀ v, C mX8_isIn d 0 0 [.long v, .long (-1000000000), .long 1000000000] h (fun r h' => h' = h ∧ r = some (.int (fitF v))) := fun v => c8_isIn d v _ _ h
  repeat' (first | refine V.s omX8_isLawful rfl rfl ?_ | refine V.gf omX8_isLawful rfl rfl rfl rfl ?_ | refine V.cSf omX8_isLawful omX8_isIn rfl rfl (cf _) rfl rfl rfl rfl ?_ | refine V.br omX8_isLawful rfl rfl (fun hc => ?_) (fun hc => ?_))
  all_goals refine V.zret omX8_isLawful rfl rfl (by decide) ⟨rfl, ?_⟩
  all_goals try simp only [lgc_eq, fitF_ne] at *
  all_goals simp [klF, lawP, *]
def adA (A : Nat → Nat → Int32) (n : Nat) (kd a b x y : Int32) : Nat → Nat → Int32 := va_up (va_up (va_up A 34 (putN (A 34) n a b x y)) 35 (upd (A 35) n kd)) 33 (upd (A 33) 5 (nI (n + 1)))
set_option maxHeartbeats 4000000 in
set_option maxRecDepth 100000 in
theorem c8_addsN (d : Nat) {n : Nat} (hn : A 33 5 = nI n) (h20 : n < 20) (a b x y : Int64) (kd : Int32) : C mX8_adds (d + 1) 0 0 [.ref 33, .long a, .long b, .long x, .long y, .int kd] (hp A B) (fun r h' => h' = hp (adA A n kd a.toInt32 b.toInt32 x.toInt32 y.toInt32) B ∧ r = some (.int (nI n))) := by
  refine C.of [some (.ref 33), some (.long a), none, some (.long b), none, some (.long x), none, some (.long y), none, some (.int kd)] omX8_adds rfl rfl rfl ?_
  repeat (first | refine V.s omX8_adds rfl rfl ?_ | refine V.gf omX8_adds rfl rfl rfl rfl ?_)
  rw [hn]
  refine V.brT omX8_adds rfl rfl (by rw [nIl_eq 20 (by omega) (by decide)]; omega) (fun h => h) ?_
  repeat (first | refine V.s omX8_adds rfl rfl ?_ | refine V.gf omX8_adds rfl rfl rfl rfl ?_)
  rw [hn]
  repeat (first | refine V.s omX8_adds rfl rfl ?_ | refine V.gf omX8_adds rfl rfl rfl rfl ?_ | refine V.iasH omX8_adds rfl rfl (ixN (nv_mul nv_lit nv_nI) (by omega) (by decide)) ?_)
  simp +decide only [va_up_self, va_up_ne, bx_uu, hn]
  repeat (first | refine V.s omX8_adds rfl rfl ?_ | refine V.gf omX8_adds rfl rfl rfl rfl ?_ | refine V.iasH omX8_adds rfl rfl (ixN (nv_add (nv_mul nv_lit nv_nI) nv_lit) (by omega) (by decide)) ?_)
  simp +decide only [va_up_self, va_up_ne, bx_uu, hn]
  repeat (first | refine V.s omX8_adds rfl rfl ?_ | refine V.gf omX8_adds rfl rfl rfl rfl ?_ | refine V.iasH omX8_adds rfl rfl (ixN (nv_add (nv_mul nv_lit nv_nI) nv_lit) (by omega) (by decide)) ?_)
  simp +decide only [va_up_self, va_up_ne, bx_uu, hn]
  repeat (first | refine V.s omX8_adds rfl rfl ?_ | refine V.gf omX8_adds rfl rfl rfl rfl ?_ | refine V.iasH omX8_adds rfl rfl (ixN (nv_add (nv_mul nv_lit nv_nI) nv_lit) (by omega) (by decide)) ?_)
  simp +decide only [va_up_self, va_up_ne, bx_uu, hn]
  repeat (first | refine V.s omX8_adds rfl rfl ?_ | refine V.gf omX8_adds rfl rfl rfl rfl ?_ | refine V.iasH omX8_adds rfl rfl (ixN nv_nI (by omega) (by decide)) ?_)
  simp +decide only [va_up_self, va_up_ne, bx_uu, hn]
  rw [nI_1]
  refine V.pfH omX8_adds rfl rfl rfl rfl rfl rfl rfl ?_
  repeat (first | refine V.s omX8_adds rfl rfl ?_ | refine V.gf omX8_adds rfl rfl rfl rfl ?_)
  simp +decide only [va_up_self, va_up_ne, bx_uu, pk_us]
  rw [nI_pred]
  refine V.iret omX8_adds rfl rfl ⟨?_, rfl⟩
  rfl
theorem c8_addsF (d : Nat) (hn : A 33 5 = 20) (a b x y : Int64) (kd : Int32) : C mX8_adds (d + 1) 0 0 [.ref 33, .long a, .long b, .long x, .long y, .int kd] (hp A B) (fun r h' => h' = hp (rmA A 8) B ∧ r = some (.int (-8))) := by
  refine C.of [some (.ref 33), some (.long a), none, some (.long b), none, some (.long x), none, some (.long y), none, some (.int kd)] omX8_adds rfl rfl rfl ?_
  repeat (first | refine V.s omX8_adds rfl rfl ?_ | refine V.gf omX8_adds rfl rfl rfl rfl ?_)
  rw [hn]
  refine V.brF omX8_adds rfl rfl (by decide) ?_
  repeat (first | refine V.s omX8_adds rfl rfl ?_ | refine V.gf omX8_adds rfl rfl rfl rfl ?_ | refine V.cVf omX8_adds omX8_no rfl rfl (c8_no _ _ (by decide)) rfl rfl rfl rfl rfl rfl ?_)
  exact V.iret omX8_adds rfl rfl ⟨rfl, rfl⟩
def s8_round (A : Nat → Nat → Int32) (n : Nat) (a b x y : Int32) : Int32 × (Nat → Nat → Int32) := if lawP a b x y then (if n < 20 then (nI n, adA A n (kbF a) a b x y) else (-8, rmA A 8)) else (-7, rmA A 7)
theorem i32_back (a : Int32) : a.toInt64.toInt32 = a := Int32.toInt32_toInt64 a
theorem n20 {n : Nat} (h20 : n ≤ 20) (h : ¬ n < 20) : nI n = 20 := by
  have : n = 20 := by omega
  subst this; rfl
set_option maxHeartbeats 4000000 in
set_option maxRecDepth 100000 in
theorem c8_round (d : Nat) {n : Nat} (hn : A 33 5 = nI n) (h20 : n ≤ 20) (a b x y : Int32) : C mX8_round (d + 2) 0 0 [.ref 33, .int a, .int b, .int x, .int y] (hp A B) (fun r h' => h' = hp (s8_round A n a b x y).2 B ∧ r = some (.int (s8_round A n a b x y).1)) := by
  refine C.of [some (.ref 33), some (.int a), some (.int b), some (.int x), some (.int y)] omX8_round rfl rfl rfl ?_
  repeat (first | refine V.s omX8_round rfl rfl ?_ | refine V.gf omX8_round rfl rfl rfl rfl ?_)
  refine V.cSf omX8_round omX8_isLawful rfl rfl (c8_isLawful d a b x y _) rfl rfl rfl rfl ?_
  by_cases hl : lawP a b x y
  · refine V.brF omX8_round rfl rfl (klF_ne.mpr hl) ?_
    simp only [s8_round, if_pos hl]
    repeat (first | refine V.s omX8_round rfl rfl ?_ | refine V.gf omX8_round rfl rfl rfl rfl ?_)
    have fin : ∀ kd, kd = kbF a → V mX8_round (d + 2) 0 0 (fun r h' => h' = hp (if n < 20 then (nI n, adA A n (kbF a) a b x y) else (-8, rmA A 8)).2 B ∧ r = some (.int (if n < 20 then (nI n, adA A n (kbF a) a b x y) else (-8, rmA A 8)).1)) 0 0 34 [some (.ref 33), some (.int a), some (.int b), some (.int x), some (.int y)] [.int kd, .long y.toInt64, .long x.toInt64, .long b.toInt64, .long a.toInt64, .ref 33] (hp A B) := by
      intro kd hk
      subst hk
      by_cases h2 : n < 20
      · simp only [if_pos h2]
        refine V.cVf omX8_round omX8_adds rfl rfl (c8_addsN d hn h2 _ _ _ _ _) rfl rfl rfl rfl rfl rfl ?_
        simp only [i32_back]
        refine V.s omX8_round rfl rfl ?_
        exact V.iret omX8_round rfl rfl ⟨rfl, rfl⟩
      · simp only [if_neg h2]
        refine V.cVf omX8_round omX8_adds rfl rfl (c8_addsF d (hn.trans (n20 h20 h2)) _ _ _ _ _) rfl rfl rfl rfl rfl rfl ?_
        refine V.s omX8_round rfl rfl ?_
        exact V.iret omX8_round rfl rfl ⟨rfl, rfl⟩
    by_cases ha : a = 0
    · refine V.brF omX8_round rfl rfl (fun h => h ha) ?_
      refine V.s omX8_round rfl rfl ?_
      refine V.s omX8_round rfl rfl ?_
      exact fin 1 (by simp [kbF, ha])
    · refine V.brT omX8_round rfl rfl ha (fun h => h) ?_
      refine V.s omX8_round rfl rfl ?_
      exact fin 0 (by simp [kbF, ha])
  · refine V.brT omX8_round rfl rfl (klF_eq0.mpr hl) (fun h g => g h) ?_
    simp only [s8_round, if_neg hl]
    repeat (first | refine V.s omX8_round rfl rfl ?_ | refine V.gf omX8_round rfl rfl rfl rfl ?_ | refine V.cVf omX8_round omX8_no rfl rfl (c8_no _ _ (by decide)) rfl rfl rfl rfl rfl rfl ?_)
    exact V.iret omX8_round rfl rfl ⟨rfl, rfl⟩
def s8_drop (A : Nat → Nat → Int32) (n : Nat) : Int32 × (Nat → Nat → Int32) := if n = 0 then (-2, rmA A 2) else (nI (n - 1), va_up A 33 (upd (A 33) 5 (nI (n - 1))))
theorem c8_drop (d : Nat) {n : Nat} (hn : A 33 5 = nI n) (h20 : n ≤ 20) : C mX8_drop (d + 1) 0 0 [.ref 33] (hp A B) (fun r h' => h' = hp (s8_drop A n).2 B ∧ r = some (.int (s8_drop A n).1)) := by
  refine C.of [some (.ref 33)] omX8_drop rfl rfl rfl ?_
  repeat (first | refine V.s omX8_drop rfl rfl ?_ | refine V.gf omX8_drop rfl rfl rfl rfl ?_)
  rw [hn]
  cases n with
  | zero =>
    refine V.brF omX8_drop rfl rfl (by decide) ?_
    repeat (first | refine V.s omX8_drop rfl rfl ?_ | refine V.gf omX8_drop rfl rfl rfl rfl ?_ | refine V.cVf omX8_drop omX8_no rfl rfl (c8_no _ _ (by decide)) rfl rfl rfl rfl rfl rfl ?_)
    exact V.iret omX8_drop rfl rfl ⟨rfl, rfl⟩
  | succ n =>
    refine V.brT omX8_drop rfl rfl (nI_ne0 (by omega) (by omega)) (fun h => h) ?_
    repeat (first | refine V.s omX8_drop rfl rfl ?_ | refine V.gf omX8_drop rfl rfl rfl rfl ?_)
    rw [hn, nI_pred]
    repeat (first | refine V.s omX8_drop rfl rfl ?_ | refine V.gf omX8_drop rfl rfl rfl rfl ?_ | refine V.pfH omX8_drop rfl rfl rfl rfl rfl rfl rfl ?_)
    simp only [va_up_self, pk_us]
    exact V.iret omX8_drop rfl rfl ⟨rfl, rfl⟩
theorem divisor_loop (d : Nat) (h : hp_T) (a0 b0 : Int32) (G : Nat) : ∀ (q p : Nat) (v4 : Option Value), p < 2 ^ 31 → q < 2 ^ 31 → G = Nat.gcd p q →
    V mX8_divisor d 0 0 (fun r h' => h' = h ∧ r = some (.int (nI G))) 0 0 4 [some (.int a0), some (.int b0), some (.int (nI p)), some (.int (nI q)), v4] [] h := by
  intro q
  induction q using Nat.strongRecOn with
  | ind q ih =>
    intro p v4 hp hq hG
    refine V.s omX8_divisor rfl rfl ?_
    by_cases h0 : q = 0
    · subst h0
      refine V.brT omX8_divisor rfl rfl rfl (by decide) ?_
      refine V.s omX8_divisor rfl rfl ?_
      rw [Nat.gcd_zero_right] at hG
      subst hG
      exact V.iret omX8_divisor rfl rfl ⟨rfl, rfl⟩
    · have hne : ¬ nI q = 0 := nI_ne0 (by omega) hq
      refine V.brF omX8_divisor rfl rfl hne ?_
      refine V.s omX8_divisor rfl rfl ?_
      refine V.s omX8_divisor rfl rfl ?_
      refine V.irem omX8_divisor rfl hne ?_
      rw [pk_rem hp (by omega) hq]
      refine V.s omX8_divisor rfl rfl ?_
      refine V.s omX8_divisor rfl rfl ?_
      refine V.s omX8_divisor rfl rfl ?_
      refine V.s omX8_divisor rfl rfl ?_
      refine V.s omX8_divisor rfl rfl ?_
      refine V.s omX8_divisor rfl rfl ?_
      have hl := Nat.mod_lt p (show 0 < q by omega)
      exact ih (p % q) hl q _ hq (by omega) (by rw [hG, Nat.gcd_comm, Nat.gcd_rec, Nat.gcd_comm])
theorem c8_divisor (d : Nat) {p q : Nat} (h : hp_T) (hp : p < 2 ^ 31) (hq : q < 2 ^ 31) : C mX8_divisor d 0 0 [.int (nI p), .int (nI q)] h (fun r h' => h' = h ∧ r = some (.int (nI (Nat.gcd p q)))) := by
  refine C.of [some (.int (nI p)), some (.int (nI q)), none, none, none] omX8_divisor rfl rfl rfl ?_
  refine V.s omX8_divisor rfl rfl ?_
  refine V.s omX8_divisor rfl rfl ?_
  refine V.s omX8_divisor rfl rfl ?_
  refine V.s omX8_divisor rfl rfl ?_
  exact divisor_loop d h _ _ _ q p _ hp hq rfl
end MD1
