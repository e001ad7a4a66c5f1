section SWAP
variable {A : Nat → Nat → Int32} {B : Nat → Nat → Int64}
/-- the product of the rounds at two places, in whole numbers -/
def TZ (f : Nat → Int32) (i j : Nat) : Int := pz (f (4 * i)).toInt (f (4 * i + 1)).toInt (f (4 * i + 2)).toInt (f (4 * i + 3)).toInt (f (4 * j)).toInt (f (4 * j + 1)).toInt (f (4 * j + 2)).toInt (f (4 * j + 3)).toInt
def LQ (f : Nat → Int32) (i : Nat) : Prop := LZ (f (4 * i)).toInt (f (4 * i + 1)).toInt (f (4 * i + 2)).toInt (f (4 * i + 3)).toInt
theorem TZ_c (f : Nat → Int32) (i j : Nat) : TZ f i j = TZ f j i := by
  unfold TZ pz
  grind
theorem LQ_bz {f : Nat → Int32} {i : Nat} (h : LQ f i) : ∀ c, c < 4 → bz (f (4 * i + c)).toInt := by
  intro c hc
  rcases (show c = 0 ∨ c = 1 ∨ c = 2 ∨ c = 3 by omega) with rfl | rfl | rfl | rfl
  · exact h.1
  · exact h.2.1
  · exact h.2.2.1
  · exact h.2.2.2.1
theorem tz_iff {f : Nat → Int32} {i j : Nat} (hi : LQ f i) (hj : LQ f j) : prd f f (4 * i) (4 * j) = -2 ↔ TZ f i j = -2 := by
  have e := prd_z (LQ_bz hi) (LQ_bz hj)
  unfold TZ
  rw [← e, ← Int64.toInt_inj]
  exact Iff.rfl
def ksz (f : Nat → Int32) : Prop := (∀ i, i < 4 → LQ f i) ∧ ∀ i j, i < 4 → j < 4 → i ≠ j → TZ f i j = -2
theorem KS_z {f : Nat → Int32} : KS f ↔ ksz f := by
  have hl : lawsF f = 1 ↔ ∀ i, i < 4 → LQ f i := by
    unfold lawsF
    constructor
    · intro h
      split at h
      · next g =>
        intro i hi
        rcases (show i = 0 ∨ i = 1 ∨ i = 2 ∨ i = 3 by omega) with rfl | rfl | rfl | rfl
        · exact law_z.mp g.1
        · exact law_z.mp g.2.1
        · exact law_z.mp g.2.2.1
        · exact law_z.mp g.2.2.2
      · exact absurd h (by decide)
    · intro h
      rw [if_pos ⟨law_z.mpr (h 0 (by omega)), law_z.mpr (h 1 (by omega)), law_z.mpr (h 2 (by omega)), law_z.mpr (h 3 (by omega))⟩]
  unfold KS ksz
  constructor
  · rintro ⟨h1, h2⟩
    have h1 := hl.mp h1
    refine ⟨h1, ?_⟩
    unfold tchF at h2
    split at h2
    · next g =>
      have t10 := (tz_iff (h1 1 (by omega)) (h1 0 (by omega))).mp g.1
      have t20 := (tz_iff (h1 2 (by omega)) (h1 0 (by omega))).mp g.2.1
      have t21 := (tz_iff (h1 2 (by omega)) (h1 1 (by omega))).mp g.2.2.1
      have t30 := (tz_iff (h1 3 (by omega)) (h1 0 (by omega))).mp g.2.2.2.1
      have t31 := (tz_iff (h1 3 (by omega)) (h1 1 (by omega))).mp g.2.2.2.2.1
      have t32 := (tz_iff (h1 3 (by omega)) (h1 2 (by omega))).mp g.2.2.2.2.2
      intro i j hi hj hne
      rcases (show i = 0 ∨ i = 1 ∨ i = 2 ∨ i = 3 by omega) with rfl | rfl | rfl | rfl <;> rcases (show j = 0 ∨ j = 1 ∨ j = 2 ∨ j = 3 by omega) with rfl | rfl | rfl | rfl <;> first | exact absurd rfl hne | assumption | (rw [TZ_c]; assumption)
    · exact absurd h2 (by decide)
  · rintro ⟨h1, h2⟩
    refine ⟨hl.mpr h1, ?_⟩
    unfold tchF
    rw [if_pos ⟨(tz_iff (h1 1 (by omega)) (h1 0 (by omega))).mpr (h2 1 0 (by omega) (by omega) (by omega)), (tz_iff (h1 2 (by omega)) (h1 0 (by omega))).mpr (h2 2 0 (by omega) (by omega) (by omega)), (tz_iff (h1 2 (by omega)) (h1 1 (by omega))).mpr (h2 2 1 (by omega) (by omega) (by omega)), (tz_iff (h1 3 (by omega)) (h1 0 (by omega))).mpr (h2 3 0 (by omega) (by omega) (by omega)), (tz_iff (h1 3 (by omega)) (h1 1 (by omega))).mpr (h2 3 1 (by omega) (by omega) (by omega)), (tz_iff (h1 3 (by omega)) (h1 2 (by omega))).mpr (h2 3 2 (by omega) (by omega) (by omega))⟩]
def sC (f : Nat → Int32) (c : Nat) : Int := (f c).toInt + (f (4 + c)).toInt + (f (8 + c)).toInt + (f (12 + c)).toInt
theorem swp_z {f : Nat → Int32} (h : ∀ i, i < 16 → bz (f i).toInt) {p c : Nat} (hp4 : p < 4) (hc : c < 4) : (swp f p c).toInt = 2 * sC f c - 3 * (f (4 * p + c)).toInt := by
  have b0 := h c (by omega)
  have b1 := h (4 + c) (by omega)
  have b2 := h (8 + c) (by omega)
  have b3 := h (12 + c) (by omega)
  have bp := h (4 * p + c) (by omega)
  unfold bz at *
  unfold swp sC
  have e1 : ((f c).toInt64 + (f (4 + c)).toInt64).toInt = (f c).toInt + (f (4 + c)).toInt := by rw [zadd, z32, z32] <;> (rw [z32, z32]; omega)
  have e2 : ((f c).toInt64 + (f (4 + c)).toInt64 + (f (8 + c)).toInt64).toInt = (f c).toInt + (f (4 + c)).toInt + (f (8 + c)).toInt := by rw [zadd, e1, z32] <;> (rw [e1, z32]; omega)
  have e3 : ((f c).toInt64 + (f (4 + c)).toInt64 + (f (8 + c)).toInt64 + (f (12 + c)).toInt64).toInt = (f c).toInt + (f (4 + c)).toInt + (f (8 + c)).toInt + (f (12 + c)).toInt := by rw [zadd, e2, z32] <;> (rw [e2, z32]; omega)
  have e4 : (2 * ((f c).toInt64 + (f (4 + c)).toInt64 + (f (8 + c)).toInt64 + (f (12 + c)).toInt64)).toInt = 2 * ((f c).toInt + (f (4 + c)).toInt + (f (8 + c)).toInt + (f (12 + c)).toInt) := by rw [zmul, e3, show (2 : Int64).toInt = 2 from rfl] <;> (rw [e3, show (2 : Int64).toInt = 2 from rfl]; omega)
  have e5 : (3 * (f (4 * p + c)).toInt64).toInt = 3 * (f (4 * p + c)).toInt := by rw [zmul, z32, show (3 : Int64).toInt = 3 from rfl] <;> (rw [z32, show (3 : Int64).toInt = 3 from rfl]; omega)
  rw [zsub, e4, e5] <;> (rw [e4, e5]; omega)
theorem swp_u {f : Nat → Int32} {p c d : Nat} {x : Int32} (hp4 : p < 4) (hc : c < 4) (hd : d < 4) (h : c ≠ d) : swp (upd f (4 * p + c) x) p d = swp f p d := by
  unfold swp
  rw [pk_un (by omega), pk_un (by omega), pk_un (by omega), pk_un (by omega), pk_un (by omega)]
theorem sw4_at (f : Nat → Int32) {p q c : Nat} (hp4 : p < 4) (hq : q < 4) (hc : c < 4) : sw4 f p (4 * q + c) = if q = p then (swp f p c).toInt32 else f (4 * q + c) := by
  have e1 : swp (swU f p 0) p 1 = swp f p 1 := swp_u hp4 (by omega) (by omega) (by omega)
  have e2 : swp (swU (swU f p 0) p 1) p 2 = swp f p 2 := (swp_u hp4 (by omega) (by omega) (by omega)).trans (swp_u hp4 (by omega) (by omega) (by omega))
  have e3 : swp (swU (swU (swU f p 0) p 1) p 2) p 3 = swp f p 3 := (swp_u hp4 (by omega) (by omega) (by omega)).trans ((swp_u hp4 (by omega) (by omega) (by omega)).trans (swp_u hp4 (by omega) (by omega) (by omega)))
  have e : sw4 f p = upd (upd (upd (upd f (4 * p + 0) (swp f p 0).toInt32) (4 * p + 1) (swp f p 1).toInt32) (4 * p + 2) (swp f p 2).toInt32) (4 * p + 3) (swp f p 3).toInt32 := by
    show upd (swU (swU (swU f p 0) p 1) p 2) (4 * p + 3) (swp (swU (swU (swU f p 0) p 1) p 2) p 3).toInt32 = _
    rw [e3]
    show upd (upd (swU (swU f p 0) p 1) (4 * p + 2) (swp (swU (swU f p 0) p 1) p 2).toInt32) _ _ = _
    rw [e2]
    show upd (upd (upd (swU f p 0) (4 * p + 1) (swp (swU f p 0) p 1).toInt32) _ _) _ _ = _
    rw [e1]
    rfl
  rw [e]
  by_cases h : q = p
  · subst h
    rw [if_pos rfl]
    rcases (show c = 0 ∨ c = 1 ∨ c = 2 ∨ c = 3 by omega) with rfl | rfl | rfl | rfl
    · rw [pk_un (by omega), pk_un (by omega), pk_un (by omega), pk_us]
    · rw [pk_un (by omega), pk_un (by omega), pk_us]
    · rw [pk_un (by omega), pk_us]
    · rw [pk_us]
  · rw [if_neg h, pk_un (by omega), pk_un (by omega), pk_un (by omega), pk_un (by omega)]
theorem ksz_b {f : Nat → Int32} (h : ksz f) : ∀ i, i < 16 → bz (f i).toInt := by
  intro i hi
  have := LQ_bz (h.1 (i / 4) (by omega)) (i % 4) (by omega)
  rw [show 4 * (i / 4) + i % 4 = i by omega] at this
  exact this
theorem fit4_c {f : Nat → Int32} {p : Nat} (h : fit4 f p) : ∀ c, c < 4 → fitF (swp f p c) = 1 := by
  intro c hc
  rcases (show c = 0 ∨ c = 1 ∨ c = 2 ∨ c = 3 by omega) with rfl | rfl | rfl | rfl
  · exact h.1
  · exact h.2.1
  · exact h.2.2.1
  · exact h.2.2.2
theorem sw4_z {f : Nat → Int32} (h : ksz f) {p : Nat} (hp4 : p < 4) (hf : fit4 f p) {q c : Nat} (hq : q < 4) (hc : c < 4) : (sw4 f p (4 * q + c)).toInt = if q = p then 2 * sC f c - 3 * (f (4 * p + c)).toInt else (f (4 * q + c)).toInt := by
  rw [sw4_at f hp4 hq hc]
  by_cases e : q = p
  · rw [if_pos e, if_pos e, fit_32 (fit4_c hf c hc), swp_z (ksz_b h) hp4 hc]
  · rw [if_neg e, if_neg e]
theorem sw_poly_l {a0 b0 x0 y0 a1 b1 x1 y1 a2 b2 x2 y2 a3 b3 x3 y3 a b x y : Int} (q0 : x0 * x0 + y0 * y0 - a0 * b0 = 1) (q1 : x1 * x1 + y1 * y1 - a1 * b1 = 1) (q2 : x2 * x2 + y2 * y2 - a2 * b2 = 1) (q3 : x3 * x3 + y3 * y3 - a3 * b3 = 1) (qp : x * x + y * y - a * b = 1)
    (t10 : pz a1 b1 x1 y1 a0 b0 x0 y0 = -2) (t20 : pz a2 b2 x2 y2 a0 b0 x0 y0 = -2) (t21 : pz a2 b2 x2 y2 a1 b1 x1 y1 = -2) (t30 : pz a3 b3 x3 y3 a0 b0 x0 y0 = -2) (t31 : pz a3 b3 x3 y3 a1 b1 x1 y1 = -2) (t32 : pz a3 b3 x3 y3 a2 b2 x2 y2 = -2)
    (s : pz a0 b0 x0 y0 a b x y + pz a1 b1 x1 y1 a b x y + pz a2 b2 x2 y2 a b x y + pz a3 b3 x3 y3 a b x y = -4) :
    (2 * (x0 + x1 + x2 + x3) - 3 * x) * (2 * (x0 + x1 + x2 + x3) - 3 * x) + (2 * (y0 + y1 + y2 + y3) - 3 * y) * (2 * (y0 + y1 + y2 + y3) - 3 * y) - (2 * (a0 + a1 + a2 + a3) - 3 * a) * (2 * (b0 + b1 + b2 + b3) - 3 * b) = 1 := by
  have e : (2 * (x0 + x1 + x2 + x3) - 3 * x) * (2 * (x0 + x1 + x2 + x3) - 3 * x) + (2 * (y0 + y1 + y2 + y3) - 3 * y) * (2 * (y0 + y1 + y2 + y3) - 3 * y) - (2 * (a0 + a1 + a2 + a3) - 3 * a) * (2 * (b0 + b1 + b2 + b3) - 3 * b) = 4 * ((x0 * x0 + y0 * y0 - a0 * b0) + (x1 * x1 + y1 * y1 - a1 * b1) + (x2 * x2 + y2 * y2 - a2 * b2) + (x3 * x3 + y3 * y3 - a3 * b3)) + 4 * (pz a1 b1 x1 y1 a0 b0 x0 y0 + pz a2 b2 x2 y2 a0 b0 x0 y0 + pz a2 b2 x2 y2 a1 b1 x1 y1 + pz a3 b3 x3 y3 a0 b0 x0 y0 + pz a3 b3 x3 y3 a1 b1 x1 y1 + pz a3 b3 x3 y3 a2 b2 x2 y2) - 6 * (pz a0 b0 x0 y0 a b x y + pz a1 b1 x1 y1 a b x y + pz a2 b2 x2 y2 a b x y + pz a3 b3 x3 y3 a b x y) + 9 * (x * x + y * y - a * b) := by
    unfold pz
    grind
  rw [e, q0, q1, q2, q3, qp, t10, t20, t21, t30, t31, t32, s]
  decide
theorem sw_poly_t {a0 b0 x0 y0 a1 b1 x1 y1 a2 b2 x2 y2 a3 b3 x3 y3 a b x y c d z w : Int} (s : pz a0 b0 x0 y0 c d z w + pz a1 b1 x1 y1 c d z w + pz a2 b2 x2 y2 c d z w + pz a3 b3 x3 y3 c d z w = -4) (t : pz a b x y c d z w = -2) :
    pz (2 * (a0 + a1 + a2 + a3) - 3 * a) (2 * (b0 + b1 + b2 + b3) - 3 * b) (2 * (x0 + x1 + x2 + x3) - 3 * x) (2 * (y0 + y1 + y2 + y3) - 3 * y) c d z w = -2 := by
  have e : pz (2 * (a0 + a1 + a2 + a3) - 3 * a) (2 * (b0 + b1 + b2 + b3) - 3 * b) (2 * (x0 + x1 + x2 + x3) - 3 * x) (2 * (y0 + y1 + y2 + y3) - 3 * y) c d z w = 2 * (pz a0 b0 x0 y0 c d z w + pz a1 b1 x1 y1 c d z w + pz a2 b2 x2 y2 c d z w + pz a3 b3 x3 y3 c d z w) - 3 * pz a b x y c d z w := by
    unfold pz
    grind
  rw [e, s, t]
  decide
theorem TZ_self {f : Nat → Int32} {i : Nat} (h : LQ f i) : TZ f i i = 2 := by
  have q := h.2.2.2.2
  unfold TZ pz
  generalize (f (4 * i)).toInt = a at *
  generalize (f (4 * i + 1)).toInt = b at *
  generalize (f (4 * i + 2)).toInt = x at *
  generalize (f (4 * i + 3)).toInt = y at *
  grind
theorem TZ_sum {f : Nat → Int32} (h : ksz f) {j : Nat} (hj : j < 4) : TZ f 0 j + TZ f 1 j + TZ f 2 j + TZ f 3 j = -4 := by
  have ts := fun i (hi : i < 4) => TZ_self (h.1 i hi)
  rcases (show j = 0 ∨ j = 1 ∨ j = 2 ∨ j = 3 by omega) with rfl | rfl | rfl | rfl
  · rw [ts 0 (by omega), h.2 1 0 (by omega) (by omega) (by omega), h.2 2 0 (by omega) (by omega) (by omega), h.2 3 0 (by omega) (by omega) (by omega)]; decide
  · rw [ts 1 (by omega), h.2 0 1 (by omega) (by omega) (by omega), h.2 2 1 (by omega) (by omega) (by omega), h.2 3 1 (by omega) (by omega) (by omega)]; decide
  · rw [ts 2 (by omega), h.2 0 2 (by omega) (by omega) (by omega), h.2 1 2 (by omega) (by omega) (by omega), h.2 3 2 (by omega) (by omega) (by omega)]; decide
  · rw [ts 3 (by omega), h.2 0 3 (by omega) (by omega) (by omega), h.2 1 3 (by omega) (by omega) (by omega), h.2 2 3 (by omega) (by omega) (by omega)]; decide
theorem ksz_swap {f : Nat → Int32} (h : ksz f) {p : Nat} (hp4 : p < 4) (hf : fit4 f p) : ksz (sw4 f p) := by
  have z := fun q c hq hc => sw4_z h hp4 hf (q := q) (c := c) hq hc
  have zo : ∀ q, q < 4 → q ≠ p → (sw4 f p (4 * q)).toInt = (f (4 * q)).toInt ∧ (sw4 f p (4 * q + 1)).toInt = (f (4 * q + 1)).toInt ∧ (sw4 f p (4 * q + 2)).toInt = (f (4 * q + 2)).toInt ∧ (sw4 f p (4 * q + 3)).toInt = (f (4 * q + 3)).toInt := by
    intro q hq hne
    have a0 := z q 0 hq (by omega)
    have a1 := z q 1 hq (by omega)
    have a2 := z q 2 hq (by omega)
    have a3 := z q 3 hq (by omega)
    rw [if_neg hne] at a0 a1 a2 a3
    exact ⟨a0, a1, a2, a3⟩
  have n0 := z p 0 hp4 (by omega)
  have n1 := z p 1 hp4 (by omega)
  have n2 := z p 2 hp4 (by omega)
  have n3 := z p 3 hp4 (by omega)
  rw [if_pos rfl] at n0 n1 n2 n3
  rw [Nat.add_zero] at n0
  have touch : ∀ j, j < 4 → j ≠ p → TZ (sw4 f p) p j = -2 := by
    intro j hj hne
    obtain ⟨o0, o1, o2, o3⟩ := zo j hj hne
    have hs := TZ_sum h hj
    have ht := h.2 p j hp4 hj (fun e => hne e.symm)
    unfold TZ at hs ht ⊢
    rw [n0, n1, n2, n3, o0, o1, o2, o3]
    exact sw_poly_t hs ht
  refine ⟨fun q hq => ?_, fun i j hi hj hne => ?_⟩
  · by_cases e : q = p
    · subst e
      have g := fun c hc => fit_z.mp (fit4_c hf c hc)
      have b := fun c (hc : c < 4) => swp_z (ksz_b h) hp4 hc
      unfold LQ
      rw [n0, n1, n2, n3]
      refine ⟨?_, ?_, ?_, ?_, ?_⟩
      · have := g 0 (by omega); rw [b 0 (by omega)] at this; exact this
      · have := g 1 (by omega); rw [b 1 (by omega)] at this; exact this
      · have := g 2 (by omega); rw [b 2 (by omega)] at this; exact this
      · have := g 3 (by omega); rw [b 3 (by omega)] at this; exact this
      · have hs := TZ_sum h hq
        have t10 := h.2 1 0 (by omega) (by omega) (by omega)
        have t20 := h.2 2 0 (by omega) (by omega) (by omega)
        have t21 := h.2 2 1 (by omega) (by omega) (by omega)
        have t30 := h.2 3 0 (by omega) (by omega) (by omega)
        have t31 := h.2 3 1 (by omega) (by omega) (by omega)
        have t32 := h.2 3 2 (by omega) (by omega) (by omega)
        unfold TZ at hs t10 t20 t21 t30 t31 t32
        exact sw_poly_l (h.1 0 (by omega)).2.2.2.2 (h.1 1 (by omega)).2.2.2.2 (h.1 2 (by omega)).2.2.2.2 (h.1 3 (by omega)).2.2.2.2 (h.1 q hq).2.2.2.2 t10 t20 t21 t30 t31 t32 hs
    · obtain ⟨o0, o1, o2, o3⟩ := zo q hq e
      have := h.1 q hq
      unfold LQ at this ⊢
      rw [o0, o1, o2, o3]
      exact this
  · by_cases e : i = p
    · subst e
      exact touch j hj (fun g => hne g.symm)
    · by_cases e2 : j = p
      · subst e2
        rw [TZ_c]
        exact touch i hi e
      · obtain ⟨o0, o1, o2, o3⟩ := zo i hi e
        obtain ⟨u0, u1, u2, u3⟩ := zo j hj e2
        have := h.2 i j hi hj hne
        unfold TZ at this ⊢
        rw [o0, o1, o2, o3, u0, u1, u2, u3]
        exact this
theorem KS_swap {f : Nat → Int32} (h : KS f) {p : Nat} (hp4 : p < 4) (hf : fit4 f p) : KS (sw4 f p) := KS_z.mpr (ksz_swap (KS_z.mp h) hp4 hf)
theorem sw8_u {F : Nat → Int32} {k p c d : Nat} {x : Int32} (hp4 : p < 4) (hc : c < 4) (hd : d < 4) (h : c ≠ d) : sw8 (kz (upd F (16 * k + 4 * p + c) x) k) p d = sw8 (kz F k) p d := by
  unfold sw8 kz
  rw [pk_un (by omega), pk_un (by omega), pk_un (by omega), pk_un (by omega), pk_un (by omega)]
theorem s8S_at (F : Nat → Int32) (k : Nat) {p : Nat} (hp4 : p < 4) (j : Nat) : s8S F k p j = if 16 * k + 4 * p ≤ j ∧ j < 16 * k + 4 * p + 4 then (sw8 (kz F k) p (j - (16 * k + 4 * p))).toInt32 else F j := by
  have e1 : sw8 (kz (s8U F k p 0) k) p 1 = sw8 (kz F k) p 1 := sw8_u hp4 (by omega) (by omega) (by omega)
  have e2 : sw8 (kz (s8U (s8U F k p 0) k p 1) k) p 2 = sw8 (kz F k) p 2 := (sw8_u hp4 (by omega) (by omega) (by omega)).trans (sw8_u hp4 (by omega) (by omega) (by omega))
  have e3 : sw8 (kz (s8U (s8U (s8U F k p 0) k p 1) k p 2) k) p 3 = sw8 (kz F k) p 3 := (sw8_u hp4 (by omega) (by omega) (by omega)).trans ((sw8_u hp4 (by omega) (by omega) (by omega)).trans (sw8_u hp4 (by omega) (by omega) (by omega)))
  have e : s8S F k p = upd (upd (upd (upd F (16 * k + 4 * p + 0) (sw8 (kz F k) p 0).toInt32) (16 * k + 4 * p + 1) (sw8 (kz F k) p 1).toInt32) (16 * k + 4 * p + 2) (sw8 (kz F k) p 2).toInt32) (16 * k + 4 * p + 3) (sw8 (kz F k) p 3).toInt32 := by
    show upd (s8U (s8U (s8U F k p 0) k p 1) k p 2) (16 * k + 4 * p + 3) (sw8 (kz (s8U (s8U (s8U F k p 0) k p 1) k p 2) k) p 3).toInt32 = _
    rw [e3]
    show upd (upd (s8U (s8U F k p 0) k p 1) (16 * k + 4 * p + 2) (sw8 (kz (s8U (s8U F k p 0) k p 1) k) p 2).toInt32) _ _ = _
    rw [e2]
    show upd (upd (upd (s8U F k p 0) (16 * k + 4 * p + 1) (sw8 (kz (s8U F k p 0) k) p 1).toInt32) _ _) _ _ = _
    rw [e1]
    rfl
  rw [e]
  by_cases h : 16 * k + 4 * p ≤ j ∧ j < 16 * k + 4 * p + 4
  · rw [if_pos h]
    rcases (show j = 16 * k + 4 * p + 0 ∨ j = 16 * k + 4 * p + 1 ∨ j = 16 * k + 4 * p + 2 ∨ j = 16 * k + 4 * p + 3 by omega) with rfl | rfl | rfl | rfl
    · rw [pk_un (by omega), pk_un (by omega), pk_un (by omega), pk_us, show 16 * k + 4 * p + 0 - (16 * k + 4 * p) = 0 by omega]
    · rw [pk_un (by omega), pk_un (by omega), pk_us, show 16 * k + 4 * p + 1 - (16 * k + 4 * p) = 1 by omega]
    · rw [pk_un (by omega), pk_us, show 16 * k + 4 * p + 2 - (16 * k + 4 * p) = 2 by omega]
    · rw [pk_us, show 16 * k + 4 * p + 3 - (16 * k + 4 * p) = 3 by omega]
  · rw [if_neg h, pk_un (by omega), pk_un (by omega), pk_un (by omega), pk_un (by omega)]
theorem fit_iff {f g : Nat → Int32} (h : ∀ i, i < 16 → f i = g i) {p : Nat} (hp4 : p < 4) : fit8 f p ↔ fit4 g p := by
  unfold fit8 fit4
  rw [sw_eq h hp4 (c := 0) (by omega), sw_eq h hp4 (c := 1) (by omega), sw_eq h hp4 (c := 2) (by omega), sw_eq h hp4 (c := 3) (by omega)]
/-- the kisses of both sides stay alike by a swap -/
theorem swap_at {F : Nat → Int32} {i p : Nat} {f : Nat → Int32} (hp4 : p < 4) (h : ∀ j, j < 16 → kz F i j = f j) : ∀ j, j < 16 → kz (s8S F i p) i j = sw4 f p j := by
  intro j hj
  show s8S F i p (16 * i + j) = _
  rw [s8S_at F i hp4]
  have ej : j = 4 * (j / 4) + j % 4 := by omega
  have e4 := sw4_at f hp4 (q := j / 4) (c := j % 4) (by omega) (by omega)
  rw [← ej] at e4
  rw [e4]
  by_cases e : j / 4 = p
  · rw [if_pos (by omega), if_pos e, show 16 * i + j - (16 * i + 4 * p) = j % 4 by omega, sw_eq h hp4 (by omega)]
  · rw [if_neg (by omega), if_neg e]
    exact h j hj
theorem s8S_o {F : Nat → Int32} {i p k j : Nat} (hp4 : p < 4) (hj : j < 16) (h : k ≠ i) : s8S F i p (16 * k + j) = F (16 * k + j) := by
  rw [s8S_at F i hp4, if_neg (by omega)]
/-- one kiss of both sides is made new -/
theorem Rel_new {i m : Nat} (hi : i < m) {f F : Nat → Int32} (hf : KS f) (ha : ∀ j, j < 16 → kz F i j = f j) (ho : ∀ k, k ≠ i → ∀ j, j < 16 → F (16 * k + j) = A 38 (16 * k + j)) (hK : RelK A m) (h : Rel A) : Rel (va_up (va_up A (8 + 2 * i) f) 38 F) := by
  obtain ⟨⟨n, hR⟩, -, hM, hW⟩ := h
  obtain ⟨h0, h1, h2, h3, h4⟩ := hK
  have ne : ∀ z k, ¬ (z = 38 ∨ z = 8 + 2 * i) → va_up (va_up A (8 + 2 * i) f) 38 F z k = A z k := by
    intro z k s
    rw [va_sel (by omega), va_sel (by omega)]
  refine ⟨⟨n, RelR_c (fun z k s => ne z k (by unfold selR at s; omega)) hR⟩, ⟨m, h0, ?_, ?_, fun k hk j hj => ?_, fun k hk => ?_⟩, RelM_c (fun z k s => ne z k (by unfold selM at s; omega)) hM, RelW_c (fun z k s => ne z k (by unfold selW at s; omega)) hW⟩
  · rw [ne 0 9 (by omega)]
    exact h1
  · rw [ne 33 6 (by omega)]
    exact h2
  · rw [va_up_self]
    by_cases e : k = i
    · subst e
      rw [va_up_ne _ _ (show 8 + 2 * k ≠ 38 by omega), va_up_self]
      exact ha j hj
    · rw [ne (8 + 2 * k) j (by omega), ho k e j hj]
      exact h3 k hk j hj
  · by_cases e : k = i
    · subst e
      rw [va_up_ne _ _ (show 8 + 2 * k ≠ 38 by omega), va_up_self]
      exact hf
    · have e2 : va_up (va_up A (8 + 2 * i) f) 38 F (8 + 2 * k) = A (8 + 2 * k) := funext (fun j => ne _ j (by omega))
      rw [e2]
      exact h4 k hk
theorem g_swap (r p : Int32) : Good mX7_swap mX8_swap [.int r, .int p] false := by
  refine Good_i 2 2 (by decide) (by decide) (fun A hA => ?_)
  obtain ⟨m, hK⟩ := hA.2.1
  have h6 := hK.1
  have e : (s8_swap (s7_swap A m r p).2 m r p).1 = (s7_swap A m r p).1 ∧ Rel (s8_swap (s7_swap A m r p).2 m r p).2 ∧ (s7_swap A m r p).2 33 6 = nI m := by
    unfold s8_swap s7_swap
    by_cases c1 : (0 ≤ r ∧ r < nI m) ∧ 0 ≤ p ∧ p < 4
    · simp only [if_pos c1]
      obtain ⟨i, hi, rfl⟩ := rng (by omega) c1.1
      obtain ⟨j, hj, rfl⟩ := rng (n := 4) (by omega) c1.2
      rw [cl_nI (by omega), cl_nI (by omega)]
      have hz : ∀ t, t < 16 → kz (A 38) i t = A (8 + 2 * i) t := fun t ht => kzA hK (by omega) ht
      by_cases c2 : fit4 (A (8 + 2 * i)) j
      · have e38 : va_up A (8 + 2 * i) (sw4 (A (8 + 2 * i)) j) 38 = A 38 := va_up_ne _ _ (by omega)
        have c2' : fit8 (kz (A 38) i) j := (fit_iff hz hj).mpr c2
        simp only [if_pos c2, e38, if_pos c2']
        refine ⟨trivial, ?_, ?_⟩
        · exact Rel_new hi (KS_swap (hK.2.2.2.2 i hi) hj c2) (swap_at hj hz) (fun k hk t ht => s8S_o hj ht hk) hK hA
        · rw [va_sel (by omega)]
          exact hK.2.2.1
      · have c2' : ¬ fit8 (kz (rfA A 8 38) i) j := fun g => c2 ((fit_iff hz hj).mp g)
        simp only [if_neg c2, if_neg c2']
        exact ⟨(by first | trivial | rfl), Rel_rf 8 hA, hK.2.2.1⟩
    · simp only [if_neg c1]
      exact ⟨(by first | trivial | rfl), Rel_rf 3 hA, hK.2.2.1⟩
  refine ⟨_, _, _, fun B => c7_swap 0 hK.2.1 h6 r p, fun B => ?_, e.2.1⟩
  rw [← e.1]
  exact c8_swap 0 e.2.2 h6 r p
theorem pdg_lt (dg : Int32) (s : Nat) : pdg dg s < 4 := by unfold pdg; omega
theorem word_pair (dg : Int32) (i : Nat) : ∀ (t s : Nat) (f F : Nat → Int32), KS f → (∀ j, j < 16 → kz F i j = f j) → (wd8 dg i t s F).1 = (wdF dg t s f).1 ∧ KS (wdF dg t s f).2 ∧ (∀ j, j < 16 → kz (wd8 dg i t s F).2 i j = (wdF dg t s f).2 j) ∧ ∀ k, k ≠ i → ∀ j, j < 16 → (wd8 dg i t s F).2 (16 * k + j) = F (16 * k + j)
  | 0, s, f, F, hf, h => ⟨rfl, hf, h, fun _ _ _ _ => rfl⟩
  | t + 1, s, f, F, hf, h => by
    have hd := pdg_lt dg s
    unfold wd8 wdF
    by_cases c : fit4 f (pdg dg s)
    · rw [if_pos c, if_pos ((fit_iff h hd).mpr c)]
      obtain ⟨k1, k2, k3, k4⟩ := word_pair dg i t (s + 1) (sw4 f (pdg dg s)) (s8S F i (pdg dg s)) (KS_swap hf hd c) (swap_at hd h)
      exact ⟨k1, k2, k3, fun k hk j hj => by rw [k4 k hk j hj, s8S_o hd hj hk]⟩
    · rw [if_neg c, if_neg (fun g => c ((fit_iff h hd).mp g))]
      exact ⟨rfl, hf, h, fun _ _ _ _ => rfl⟩
theorem g_word (r dg n : Int32) : Good mX7_word mX8_word [.int r, .int dg, .int n] false := by
  refine Good_i 2 2 (by decide) (by decide) (fun A hA => ?_)
  obtain ⟨m, hK⟩ := hA.2.1
  have h6 := hK.1
  have e : (s8_word (s7_word A m r dg n).2 m r dg n).1 = (s7_word A m r dg n).1 ∧ Rel (s8_word (s7_word A m r dg n).2 m r dg n).2 ∧ (s7_word A m r dg n).2 33 6 = nI m := by
    unfold s8_word s7_word
    by_cases c1 : 0 ≤ r ∧ r < nI m
    · by_cases c2 : n < 0
      · simp only [if_pos c1, if_pos c2]
        exact ⟨(by first | trivial | rfl), Rel_rf 4 hA, hK.2.2.1⟩
      · by_cases c3 : n ≤ 15 ∧ 0 ≤ dg ∧ dg < (1 <<< ((2 * n) &&& 31))
        · simp only [if_pos c1, if_neg c2, if_pos c3]
          obtain ⟨i, hi, rfl⟩ := rng (by omega) c1
          rw [cl_nI (by omega)]
          have hz : ∀ t, t < 16 → kz (A 38) i t = A (8 + 2 * i) t := fun t ht => kzA hK (by omega) ht
          have e38 : va_up A (8 + 2 * i) (wdF dg (cl n) 0 (A (8 + 2 * i))).2 38 = A 38 := va_up_ne _ _ (by omega)
          obtain ⟨k1, k2, k3, k4⟩ := word_pair dg i (cl n) 0 (A (8 + 2 * i)) (A 38) (hK.2.2.2.2 i hi) hz
          rw [e38]
          refine ⟨by rw [k1], Rel_new hi k2 k3 k4 hK hA, ?_⟩
          rw [va_sel (by omega)]
          exact hK.2.2.1
        · simp only [if_pos c1, if_neg c2, if_neg c3]
          exact ⟨(by first | trivial | rfl), Rel_rf 7 hA, hK.2.2.1⟩
    · simp only [if_neg c1]
      exact ⟨(by first | trivial | rfl), Rel_rf 3 hA, hK.2.2.1⟩
  refine ⟨_, _, _, fun B => c7_word 0 hK.2.1 h6 r dg n, fun B => ?_, e.2.1⟩
  rw [← e.1]
  exact c8_word 0 e.2.2 h6 r dg n
end SWAP
