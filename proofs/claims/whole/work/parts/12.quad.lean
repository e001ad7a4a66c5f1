section QUAD
variable {A : Nat → Nat → Int32} {B : Nat → Nat → Int64} {k : Nat}
theorem c_number (d : Nat) (hk : k < 8) {a b : Int32} {p c : Nat} (ha : NV a p) (hb : NV b c) (h4 : p < 4) (h5 : c < 4) : C mX4_number d 0 0 [.ref (7 + 2 * k), .int a, .int b] (hp A B) (fun r h' => h' = hp A B ∧ r = some (.int (A (8 + 2 * k) (4 * p + c)))) := by
  unfold NV at ha hb
  subst ha hb
  refine C.of [some (.ref (7 + 2 * k)), some (.int (nI p)), some (.int (nI c))] omX4_number rfl rfl rfl ?_
  repeat (first | refine V.s omX4_number rfl rfl ?_ | refine V.gf omX4_number rfl (hpQ hk) rfl rfl ?_ | refine V.ial omX4_number rfl (hpR hk) (ixN (nv_add (nv_mul nv_lit nv_nI) nv_nI) (by omega) (by decide)) ?_)
  exact V.iret omX4_number rfl rfl ⟨rfl, rfl⟩
theorem c_bend (d : Nat) (hk : k < 8) {a : Int32} {p : Nat} (ha : NV a p) (h4 : p < 4) : C mX4_bend d 0 0 [.ref (7 + 2 * k), .int a] (hp A B) (fun r h' => h' = hp A B ∧ r = some (.int (A (8 + 2 * k) (4 * p)))) := by
  unfold NV at ha
  subst ha
  refine C.of [some (.ref (7 + 2 * k)), some (.int (nI p))] omX4_bend rfl rfl rfl ?_
  repeat (first | refine V.s omX4_bend rfl rfl ?_ | refine V.gf omX4_bend rfl (hpQ hk) rfl rfl ?_ | refine V.ial omX4_bend rfl (hpR hk) (ixN (nv_mul nv_lit nv_nI) (by omega) (by decide)) ?_)
  exact V.iret omX4_bend rfl rfl ⟨rfl, rfl⟩
def bsm (f : Nat → Int32) : Int64 := (f 0).toInt64 + (f 4).toInt64 + (f 8).toInt64 + (f 12).toInt64
theorem c_bendSum (d : Nat) (hk : k < 8) : C mX4_bendSum (d + 1) 0 0 [.ref (7 + 2 * k)] (hp A B) (fun r h' => h' = hp A B ∧ r = some (.long (bsm (A (8 + 2 * k))))) := by
  refine C.of [some (.ref (7 + 2 * k))] omX4_bendSum rfl rfl rfl ?_
  repeat (first | refine V.s omX4_bendSum rfl rfl ?_ | refine V.cVf omX4_bendSum omX4_bend rfl rfl (c_bend _ hk nv_lit (by decide)) rfl rfl (hpQ hk) rfl rfl rfl ?_)
  exact V.lret omX4_bendSum rfl rfl ⟨rfl, rfl⟩
def swp (f : Nat → Int32) (p c : Nat) : Int64 := 2 * ((f c).toInt64 + (f (4 + c)).toInt64 + (f (8 + c)).toInt64 + (f (12 + c)).toInt64) - 3 * (f (4 * p + c)).toInt64
theorem c_swapped (d : Nat) (hk : k < 8) {a b : Int32} {p c : Nat} (ha : NV a p) (hb : NV b c) (h4 : p < 4) (h5 : c < 4) : C mX4_swapped d 0 0 [.ref (7 + 2 * k), .int a, .int b] (hp A B) (fun r h' => h' = hp A B ∧ r = some (.long (swp (A (8 + 2 * k)) p c))) := by
  unfold NV at ha hb
  subst ha hb
  refine C.of [some (.ref (7 + 2 * k)), some (.int (nI p)), some (.int (nI c)), none, none] omX4_swapped rfl rfl rfl ?_
  repeat (first | refine V.s omX4_swapped rfl rfl ?_ | refine V.gf omX4_swapped rfl (hpQ hk) rfl rfl ?_ | refine V.ial omX4_swapped rfl (hpR hk) (ixN nv_nI (by omega) (by decide)) ?_ | refine V.ial omX4_swapped rfl (hpR hk) (ixN (nv_add nv_lit nv_nI) (by omega) (by decide)) ?_ | refine V.ial omX4_swapped rfl (hpR hk) (ixN (nv_add (nv_mul nv_lit nv_nI) nv_nI) (by omega) (by decide)) ?_)
  exact V.lret omX4_swapped rfl rfl ⟨rfl, rfl⟩
theorem c_take (d : Nat) (hk : k < 8) {j : Nat} (hj : j < 8) : C mX4_take d 0 0 [.ref (7 + 2 * k), .ref (7 + 2 * j)] (hp A B) (fun r h' => h' = hp (va_up A (8 + 2 * k) (va_cpy (A (8 + 2 * j)) (A (8 + 2 * k)) 0 0 16)) B ∧ r = none) := by
  refine C.of [some (.ref (7 + 2 * k)), some (.ref (7 + 2 * j))] omX4_take rfl rfl rfl ?_
  repeat (first | refine V.s omX4_take rfl rfl ?_ | refine V.gf omX4_take rfl (hpQ hk) rfl rfl ?_ | refine V.gf omX4_take rfl (hpQ hj) rfl rfl ?_ | refine V.cpH omX4_take rfl rfl (hpR hj) (hpR hk) (sj := 0) (dj := 0) (nj := 16) (by decide) (by decide) (by decide) (by decide) (by decide) rfl ?_)
  exact V.vret omX4_take rfl rfl ⟨rfl, rfl⟩
/-! a swap -/
def swU (f : Nat → Int32) (p c : Nat) : Nat → Int32 := upd f (4 * p + c) (swp f p c).toInt32
def sw4 (f : Nat → Int32) (p : Nat) : Nat → Int32 := swU (swU (swU (swU f p 0) p 1) p 2) p 3
def sw1 (f : Nat → Int32) (p : Nat) : Nat → Int32 := swU f p 0
abbrev fit4 (f : Nat → Int32) (p : Nat) : Prop := fitF (swp f p 0) = 1 ∧ fitF (swp f p 1) = 1 ∧ fitF (swp f p 2) = 1 ∧ fitF (swp f p 3) = 1
theorem c_trySwap1 (d : Nat) (hk : k < 8) {a : Int32} {p : Nat} (ha : NV a p) (h4 : p < 4) : C mX4_trySwap (d + 1) 0 0 [.ref (7 + 2 * k), .int a, .int 1] (hp A B) (fun r h' => h' = hp (if fitF (swp (A (8 + 2 * k)) p 0) = 1 then va_up A (8 + 2 * k) (sw1 (A (8 + 2 * k)) p) else A) B ∧ r = some (.int (fitF (swp (A (8 + 2 * k)) p 0)))) := by
  unfold NV at ha
  subst ha
  refine C.of [some (.ref (7 + 2 * k)), some (.int (nI p)), some (.int 1), none] omX4_trySwap rfl rfl rfl ?_
  repeat' (first | refine V.s omX4_trySwap rfl rfl ?_ | simp only [Int32.reduceAdd, Int32.reduceMul, Int32.reduceSub] | refine V.brF omX4_trySwap rfl rfl (by decide) ?_ | refine V.brT omX4_trySwap rfl rfl (by decide) (by decide) ?_ | refine V.gf omX4_trySwap rfl (hpQ hk) rfl rfl ?_ | refine V.cVf omX4_trySwap omX4_swapped rfl rfl (c_swapped _ hk nv_nI nv_lit h4 (by decide)) rfl rfl (hpQ hk) rfl rfl rfl ?_ | refine V.cSf omX4_trySwap omX2_fits rfl rfl (c_fits _ _ _) rfl rfl rfl rfl ?_ | refine V.iasH omX4_trySwap rfl (hpR hk) (ixN (nv_add (nv_mul nv_lit nv_nI) nv_lit) (by omega) (by decide)) ?_ | refine V.br omX4_trySwap rfl rfl (fun hc => ?_) (fun hc => ?_))
  · rw [fitF_ne] at hc
    exact V.zret omX4_trySwap rfl rfl (by decide) ⟨by rw [if_pos hc]; rfl, by rw [hc]⟩
  · exact V.zret omX4_trySwap rfl rfl (by decide) ⟨by rw [if_neg (by rw [hc]; decide)], by rw [hc]⟩
theorem c_trySwap4 (d : Nat) (hk : k < 8) {a : Int32} {p : Nat} (ha : NV a p) (h4 : p < 4) : C mX4_trySwap (d + 1) 0 0 [.ref (7 + 2 * k), .int a, .int 4] (hp A B) (fun r h' => h' = hp (if fit4 (A (8 + 2 * k)) p then va_up A (8 + 2 * k) (sw4 (A (8 + 2 * k)) p) else A) B ∧ r = some (.int (if fit4 (A (8 + 2 * k)) p then 1 else 0))) := by
  unfold NV at ha
  subst ha
  refine C.of [some (.ref (7 + 2 * k)), some (.int (nI p)), some (.int 4), none] omX4_trySwap rfl rfl rfl ?_
  repeat' (first | refine V.s omX4_trySwap rfl rfl ?_ | simp only [Int32.reduceAdd, Int32.reduceMul, Int32.reduceSub] | refine V.brF omX4_trySwap rfl rfl (by decide) ?_ | refine V.brT omX4_trySwap rfl rfl (by decide) (by decide) ?_ | refine V.gf omX4_trySwap rfl (hpQ hk) rfl rfl ?_ | refine V.cVf omX4_trySwap omX4_swapped rfl rfl (c_swapped _ hk nv_nI nv_lit h4 (by decide)) rfl rfl (hpQ hk) rfl rfl rfl ?_ | refine V.cSf omX4_trySwap omX2_fits rfl rfl (c_fits _ _ _) rfl rfl rfl rfl ?_ | refine V.iasH omX4_trySwap rfl (hpR hk) (ixN (nv_add (nv_mul nv_lit nv_nI) nv_lit) (by omega) (by decide)) ?_ | refine V.br omX4_trySwap rfl rfl (fun hc => ?_) (fun hc => ?_))
  · next h1 h2 h3 =>
    rw [fitF_ne] at h1 h2 h3 hc
    have hf : fit4 (A (8 + 2 * k)) p := ⟨h1, h2, h3, hc⟩
    refine V.zret omX4_trySwap rfl rfl (by decide) ⟨?_, by rw [if_pos hf]⟩
    rw [if_pos hf]
    simp only [va_up_self, bx_uu]
    rfl
  all_goals exact V.zret omX4_trySwap rfl rfl (by decide) ⟨by rw [if_neg (fun hf => by simp [fit4, hc] at hf)], by rw [if_neg (fun hf => by simp [fit4, hc] at hf)]⟩
def gs1 (f : Nat → Int32) : Nat := if f 0 < f 4 then 1 else 0
def gs2 (f : Nat → Int32) : Nat := if f (4 * gs1 f) < f 8 then 2 else gs1 f
def gst (f : Nat → Int32) : Nat := if f (4 * gs2 f) < f 12 then 3 else gs2 f
theorem gst_lt (f : Nat → Int32) : gst f < 4 := by
  unfold gst gs2 gs1
  split <;> (try split) <;> (try split) <;> omega
theorem c_greatestBend (d : Nat) (hk : k < 8) : C mX4_placeOfGreatestBend (d + 1) 0 0 [.ref (7 + 2 * k)] (hp A B) (fun r h' => h' = hp A B ∧ r = some (.int (nI (gst (A (8 + 2 * k)))))) := by
  refine C.of [some (.ref (7 + 2 * k)), none, none] omX4_placeOfGreatestBend rfl rfl rfl ?_
  repeat' (first | refine V.s omX4_placeOfGreatestBend rfl rfl ?_ | simp only [Int32.reduceAdd, Int32.reduceMul, Int32.reduceSub] | refine V.brF omX4_placeOfGreatestBend rfl rfl (by decide) ?_ | refine V.brT omX4_placeOfGreatestBend rfl rfl (by decide) (by decide) ?_ | refine V.cVf omX4_placeOfGreatestBend omX4_bend rfl rfl (c_bend _ hk nv_lit (by decide)) rfl rfl (hpQ hk) rfl rfl rfl ?_ | refine V.br omX4_placeOfGreatestBend rfl rfl (fun hc => ?_) (fun hc => ?_))
  all_goals refine V.iret omX4_placeOfGreatestBend rfl rfl ⟨rfl, ?_⟩
  all_goals simp only [← Int32.not_lt, Nat.reduceMul, Nat.mul_zero, Nat.mul_one] at *
  all_goals simp [gst, gs2, gs1, *]
  all_goals rfl
def lbOk (c4 : Bool) (f : Nat → Int32) (p : Nat) : Bool := bif c4 then decide (fit4 f p) else decide (fitF (swp f p 0) = 1)
def lbS (c4 : Bool) (f : Nat → Int32) (p : Nat) : Nat → Int32 := bif c4 then sw4 f p else sw1 f p
def lbP (s : Nat) (fp : Int32) (p : Nat) : Int32 := if s < 15 then fp ||| (nI p <<< ((2 * nI s) &&& 31)) else fp
def lb (c4 : Bool) : Nat → Nat → (Nat → Int32) → Int32 → Int32 × (Nat → Int32) × Int32
  | 0, _, f, fp => (1000000, f, fp)
  | m + 1, s, f, fp => if swp f (gst f) 0 < (f (4 * gst f)).toInt64 then (if lbOk c4 f (gst f) = true then lb c4 m (s + 1) (lbS c4 f (gst f)) (lbP s fp (gst f)) else (-1, f, fp)) else (nI s, f, fp)
def Lh (A : Nat → Nat → Int32) (k : Nat) (f : Nat → Int32) (fp : Int32) : Nat → Nat → Int32 := va_up (va_up A (8 + 2 * k) f) (7 + 2 * k) (upd (A (7 + 2 * k)) 1 fp)
theorem Lh_arr {f : Nat → Int32} {fp : Int32} : Lh A k f fp (8 + 2 * k) = f := by
  unfold Lh
  rw [va_up_ne _ _ (by omega), va_up_self]
theorem Lh_fp {f : Nat → Int32} {fp : Int32} : Lh A k f fp (7 + 2 * k) 1 = fp := by
  unfold Lh
  rw [va_up_self]
  simp [upd]
theorem Lh_set {f g : Nat → Int32} {fp : Int32} : va_up (Lh A k f fp) (8 + 2 * k) g = Lh A k g fp := by
  unfold Lh
  funext z
  by_cases h1 : z = 8 + 2 * k
  · subst h1
    rw [va_up_self, va_up_ne _ _ (by omega), va_up_self]
  · rw [va_up_ne _ _ h1]
    by_cases h2 : z = 7 + 2 * k
    · subst h2
      rw [va_up_self, va_up_self]
    · rw [va_up_ne _ _ h2, va_up_ne _ _ h2, va_up_ne _ _ h1, va_up_ne _ _ h1]
theorem Lh_put {f : Nat → Int32} {fp v : Int32} : va_up (Lh A k f fp) (7 + 2 * k) (upd (Lh A k f fp (7 + 2 * k)) 1 v) = Lh A k f v := by
  unfold Lh
  rw [va_up_self, bx_uu]
  congr 1
  funext z
  unfold upd
  split <;> rfl
theorem Lh_0 {v : Int32} : va_up A (7 + 2 * k) (upd (A (7 + 2 * k)) 1 v) = Lh A k (A (8 + 2 * k)) v := by
  unfold Lh
  congr 1
  funext z
  by_cases h1 : z = 8 + 2 * k
  · subst h1; rw [va_up_self]
  · rw [va_up_ne _ _ h1]
theorem c_trySwapC (d : Nat) (hk : k < 8) (c4 : Bool) {a : Int32} {p : Nat} (ha : NV a p) (h4 : p < 4) : C mX4_trySwap (d + 1) 0 0 [.ref (7 + 2 * k), .int a, .int (bif c4 then 4 else 1)] (hp A B) (fun r h' => h' = hp (if lbOk c4 (A (8 + 2 * k)) p = true then va_up A (8 + 2 * k) (lbS c4 (A (8 + 2 * k)) p) else A) B ∧ r = some (.int (if lbOk c4 (A (8 + 2 * k)) p = true then 1 else 0))) := by
  cases c4 with
  | true =>
    refine (c_trySwap4 d hk ha h4).mono (fun r h' hq => ?_)
    simpa [lbOk, lbS] using hq
  | false =>
    refine (c_trySwap1 d hk ha h4).mono (fun r h' hq => ?_)
    have e : (if lbOk false (A (8 + 2 * k)) p = true then (1 : Int32) else 0) = fitF (swp (A (8 + 2 * k)) p 0) := by
      rcases fitF_01 (swp (A (8 + 2 * k)) p 0) with g | g <;> simp [lbOk, g]
    rw [e]
    simpa [lbOk, lbS] using hq
end QUAD
