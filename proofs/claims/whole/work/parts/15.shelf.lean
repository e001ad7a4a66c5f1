section SHELF
variable {A : Nat → Nat → Int32} {B : Nat → Nat → Int64} {k : Nat}
theorem c_has (d : Nat) (r : Int32) : C mX5_has d 0 0 [.ref 1, .int r] (hp A B) (fun r' h' => h' = hp A B ∧ r' = some (.int (if 0 ≤ r ∧ r < A 1 4 then 1 else 0))) := by
  refine C.of [some (.ref 1), some (.int r)] omX5_has rfl rfl rfl ?_
  repeat' (first | refine V.s omX5_has rfl rfl ?_ | refine V.gf omX5_has rfl rfl rfl rfl ?_ | refine V.br omX5_has rfl rfl (fun hc => ?_) (fun hc => ?_))
  all_goals refine V.zret omX5_has rfl rfl (by decide) ⟨rfl, ?_⟩
  all_goals simp only [← Int32.not_lt] at *
  all_goals simp [*]
theorem c_isFull (d : Nat) : C mX5_isFull d 0 0 [.ref 1] (hp A B) (fun r' h' => h' = hp A B ∧ r' = some (.int (if 20 ≤ A 1 4 then 1 else 0))) := by
  refine C.of [some (.ref 1)] omX5_isFull rfl rfl rfl ?_
  repeat' (first | refine V.s omX5_isFull rfl rfl ?_ | refine V.gf omX5_isFull rfl rfl rfl rfl ?_ | refine V.br omX5_isFull rfl rfl (fun hc => ?_) (fun hc => ?_))
  all_goals refine V.zret omX5_isFull rfl rfl (by decide) ⟨rfl, ?_⟩
  all_goals simp only [← Int32.not_lt] at *
  all_goals simp [*]
theorem c_num (d : Nat) {a b : Int32} {i c : Nat} (ha : NV a i) (hb : NV b c) (hi : i < 20) (hc : c < 4) : C mX5_number d 0 0 [.ref 1, .int a, .int b] (hp A B) (fun r h' => h' = hp A B ∧ r = some (.int (A 2 (4 * i + c)))) := by
  unfold NV at ha hb
  subst ha hb
  refine C.of [some (.ref 1), some (.int (nI i)), some (.int (nI c))] omX5_number rfl rfl rfl ?_
  repeat (first | refine V.s omX5_number rfl rfl ?_ | refine V.gf omX5_number rfl rfl rfl rfl ?_ | refine V.ial omX5_number rfl rfl (ixN (nv_add (nv_mul nv_lit nv_nI) nv_nI) (by omega) (by decide)) ?_)
  exact V.iret omX5_number rfl rfl ⟨rfl, rfl⟩
def putN (f : Nat → Int32) (n : Nat) (a b x y : Int32) : Nat → Int32 := upd (upd (upd (upd f (4 * n) a) (4 * n + 1) b) (4 * n + 2) x) (4 * n + 3) y
def putA (A : Nat → Nat → Int32) (n : Nat) (kd a b x y : Int32) : Nat → Nat → Int32 := va_up (va_up (va_up A 2 (putN (A 2) n a b x y)) 3 (upd (A 3) n kd)) 1 (upd (A 1) 4 (nI (n + 1)))
theorem c_put (d : Nat) {n : Nat} (hn : A 1 4 = nI n) (h20 : n < 20) (kd a b x y : Int32) : C mX5_put d 0 0 [.ref 1, .int kd, .int a, .int b, .int x, .int y] (hp A B) (fun r h' => h' = hp (putA A n kd a b x y) B ∧ r = some (.int (nI n))) := by
  refine C.of [some (.ref 1), some (.int kd), some (.int a), some (.int b), some (.int x), some (.int y), none] omX5_put rfl rfl rfl ?_
  refine V.s omX5_put rfl rfl ?_
  refine V.s omX5_put rfl rfl ?_
  refine V.gf omX5_put rfl rfl rfl rfl ?_
  rw [hn]
  repeat (first | refine V.s omX5_put rfl rfl ?_ | refine V.gf omX5_put rfl rfl rfl rfl ?_ | refine V.iasH omX5_put rfl rfl (ixN (nv_mul nv_lit nv_nI) (by omega) (by decide)) ?_ | refine V.iasH omX5_put rfl rfl (ixN (nv_add (nv_mul nv_lit nv_nI) nv_lit) (by omega) (by decide)) ?_)
  simp +decide only [va_up_self, va_up_ne, bx_uu, hn]
  refine V.iasH omX5_put rfl rfl (ixN nv_nI (by omega) (by decide)) ?_
  repeat (first | refine V.s omX5_put rfl rfl ?_ | refine V.gf omX5_put rfl rfl rfl rfl ?_)
  simp +decide only [va_up_self, va_up_ne, bx_uu, hn]
  rw [nI_1]
  refine V.pfH omX5_put rfl rfl rfl rfl rfl rfl rfl ?_
  repeat (first | refine V.s omX5_put rfl rfl ?_ | refine V.gf omX5_put rfl rfl rfl rfl ?_)
  simp +decide only [va_up_self, va_up_ne, bx_uu, pk_us]
  rw [nI_pred]
  refine V.iret omX5_put rfl rfl ⟨?_, rfl⟩
  rfl
def ovA (A : Nat → Nat → Int32) (n : Nat) (p q : Int32) : Nat → Nat → Int32 := putA (va_up (va_up A 4 (upd (A 4) n p)) 5 (upd (A 5) n q)) n 2 (2 * q * q) (2 * p * p) (2 * p * q) 1
theorem c_putOver (d : Nat) {n : Nat} (hn : A 1 4 = nI n) (h20 : n < 20) (p q : Int32) : C mX5_putOver (d + 1) 0 0 [.ref 1, .int p, .int q] (hp A B) (fun r h' => h' = hp (ovA A n p q) B ∧ r = some (.int (nI n))) := by
  refine C.of [some (.ref 1), some (.int p), some (.int q)] omX5_putOver rfl rfl rfl ?_
  repeat (first | refine V.s omX5_putOver rfl rfl ?_ | refine V.gf omX5_putOver rfl rfl rfl rfl ?_)
  rw [hn]
  repeat (first | refine V.s omX5_putOver rfl rfl ?_ | refine V.gf omX5_putOver rfl rfl rfl rfl ?_ | refine V.iasH omX5_putOver rfl rfl (ixN nv_nI (by omega) (by decide)) ?_)
  simp +decide only [va_up_ne, hn]
  repeat (first | refine V.s omX5_putOver rfl rfl ?_ | refine V.gf omX5_putOver rfl rfl rfl rfl ?_ | refine V.iasH omX5_putOver rfl rfl (ixN nv_nI (by omega) (by decide)) ?_)
  simp +decide only [va_up_ne]
  refine V.cVf omX5_putOver omX5_put rfl rfl (c_put d (n := n) (by simp +decide only [va_up_ne, hn]) h20 _ _ _ _ _) rfl rfl rfl rfl rfl rfl ?_
  exact V.iret omX5_putOver rfl rfl ⟨rfl, rfl⟩
def flA (A : Nat → Nat → Int32) (n i : Nat) : Nat → Nat → Int32 := putA A n (kbF (-(A 2 (4 * i + 0)))) (-(A 2 (4 * i + 0))) (-(A 2 (4 * i + 1))) (-(A 2 (4 * i + 2))) (-(A 2 (4 * i + 3)))
set_option maxHeartbeats 4000000 in
set_option maxRecDepth 100000 in
theorem c_putOtherSide (d : Nat) {n i : Nat} (hn : A 1 4 = nI n) (h20 : n < 20) (hi : i < 20) {a : Int32} (ha : NV a i) : C mX5_putOtherSide (d + 1) 0 0 [.ref 1, .int a] (hp A B) (fun r h' => h' = hp (flA A n i) B ∧ r = some (.int (nI n))) := by
  unfold NV at ha
  subst ha
  refine C.of [some (.ref 1), some (.int (nI i)), none] omX5_putOtherSide rfl rfl rfl ?_
  repeat (first | refine V.s omX5_putOtherSide rfl rfl ?_ | refine V.gf omX5_putOtherSide rfl rfl rfl rfl ?_ | refine V.cVf omX5_putOtherSide omX5_number rfl rfl (c_num _ nv_nI nv_lit hi (by decide)) rfl rfl rfl rfl rfl rfl ?_ | refine V.cSf omX5_putOtherSide omX2_kindByBend rfl rfl (c_kindByBend _ _ _) rfl rfl rfl rfl ?_)
  refine V.cVf omX5_putOtherSide omX5_put rfl rfl (c_put d hn h20 _ _ _ _ _) rfl rfl rfl rfl rfl rfl ?_
  exact V.iret omX5_putOtherSide rfl rfl ⟨rfl, rfl⟩
theorem c_takeLatest (d : Nat) {n : Nat} (hn : A 1 4 = nI (n + 1)) : C mX5_takeLatest d 0 0 [.ref 1] (hp A B) (fun r h' => h' = hp (va_up A 1 (upd (A 1) 4 (nI n))) B ∧ r = some (.int (nI n))) := by
  refine C.of [some (.ref 1)] omX5_takeLatest rfl rfl rfl ?_
  repeat (first | refine V.s omX5_takeLatest rfl rfl ?_ | refine V.gf omX5_takeLatest rfl rfl rfl rfl ?_)
  rw [hn, nI_pred]
  repeat (first | refine V.s omX5_takeLatest rfl rfl ?_ | refine V.gf omX5_takeLatest rfl rfl rfl rfl ?_ | refine V.pfH omX5_takeLatest rfl rfl rfl rfl rfl rfl rfl ?_)
  simp only [va_up_self, pk_us]
  exact V.iret omX5_takeLatest rfl rfl ⟨rfl, rfl⟩
theorem c_productOf (d : Nat) {a b : Int32} {i j : Nat} (ha : NV a i) (hb : NV b j) (hi : i < 20) (hj : j < 20) : C mX5_productOf (d + 1) 0 0 [.ref 1, .int a, .int b] (hp A B) (fun r h' => h' = hp A B ∧ r = some (.long (prd (A 2) (A 2) (4 * i) (4 * j)))) := by
  unfold NV at ha hb
  subst ha hb
  refine C.of [some (.ref 1), some (.int (nI i)), some (.int (nI j))] omX5_productOf rfl rfl rfl ?_
  repeat (first | refine V.s omX5_productOf rfl rfl ?_ | refine V.gf omX5_productOf rfl rfl rfl rfl ?_)
  rw [show (4 : Int32) * nI i = nI (4 * i) from nv_mul nv_lit nv_nI, show (4 : Int32) * nI j = nI (4 * j) from nv_mul nv_lit nv_nI]
  refine V.cSf omX5_productOf omX2_productAt rfl rfl (c_productAt d (len := 80) (f := A 2) rfl (by omega) (by omega) (by decide)) rfl rfl rfl rfl ?_
  exact V.lret omX5_productOf rfl rfl ⟨rfl, rfl⟩
def alF (f : Nat → Int32) (i j : Nat) : Int32 := if f (4 * i + 0) = f (4 * j + 0) ∧ f (4 * i + 1) = f (4 * j + 1) ∧ f (4 * i + 2) = f (4 * j + 2) ∧ f (4 * i + 3) = f (4 * j + 3) then 1 else 0
theorem c_isAlike (d : Nat) {a b : Int32} {i j : Nat} (ha : NV a i) (hb : NV b j) (hi : i < 20) (hj : j < 20) : C mX5_isAlike (d + 1) 0 0 [.ref 1, .int a, .int b] (hp A B) (fun r h' => h' = hp A B ∧ r = some (.int (alF (A 2) i j))) := by
  unfold NV at ha hb
  subst ha hb
  refine C.of [some (.ref 1), some (.int (nI i)), some (.int (nI j)), none] omX5_isAlike rfl rfl rfl ?_
  repeat' (first | refine V.s omX5_isAlike rfl rfl ?_ | refine V.gf omX5_isAlike rfl rfl rfl rfl ?_ | simp only [Int32.reduceAdd, Int32.reduceMul, Int32.reduceSub] | refine V.brF omX5_isAlike rfl rfl (by decide) ?_ | refine V.brT omX5_isAlike rfl rfl (by decide) (by decide) ?_ | refine V.cVf omX5_isAlike omX5_number rfl rfl (c_num _ (nv_nI (a := i)) nv_lit hi (by decide)) rfl rfl rfl rfl rfl rfl ?_ | refine V.cVf omX5_isAlike omX5_number rfl rfl (c_num _ (nv_nI (a := j)) nv_lit hj (by decide)) rfl rfl rfl rfl rfl rfl ?_ | refine V.br omX5_isAlike rfl rfl (fun hc => ?_) (fun hc => ?_))
  all_goals refine V.zret omX5_isAlike rfl rfl (by decide) ⟨rfl, ?_⟩
  all_goals simp only [Nat.add_zero] at *
  all_goals simp [alF, *]
def mrr (f : Nat → Int32) (i j c : Nat) (v : Int64) : Int64 := (f (4 * i + c)).toInt64 - v * (f (4 * j + c)).toInt64
theorem c_mirrored (d : Nat) {a b e : Int32} {i j c : Nat} (ha : NV a i) (hb : NV b j) (he : NV e c) (hi : i < 20) (hj : j < 20) (hc : c < 4) (v : Int64) : C mX5_mirrored (d + 1) 0 0 [.ref 1, .int a, .int b, .int e, .long v] (hp A B) (fun r h' => h' = hp A B ∧ r = some (.long (mrr (A 2) i j c v))) := by
  unfold NV at ha hb he
  subst ha hb he
  refine C.of [some (.ref 1), some (.int (nI i)), some (.int (nI j)), some (.int (nI c)), some (.long v), none] omX5_mirrored rfl rfl rfl ?_
  repeat (first | refine V.s omX5_mirrored rfl rfl ?_ | refine V.gf omX5_mirrored rfl rfl rfl rfl ?_ | refine V.cVf omX5_mirrored omX5_number rfl rfl (c_num _ (nv_nI (a := i)) (nv_nI (a := c)) hi hc) rfl rfl rfl rfl rfl rfl ?_ | refine V.cVf omX5_mirrored omX5_number rfl rfl (c_num _ (nv_nI (a := j)) (nv_nI (a := c)) hj hc) rfl rfl rfl rfl rfl rfl ?_)
  exact V.lret omX5_mirrored rfl rfl ⟨rfl, rfl⟩
abbrev mfP (f : Nat → Int32) (i j : Nat) : Prop := (-2000000000 ≤ prd f f (4 * i) (4 * j) ∧ prd f f (4 * i) (4 * j) ≤ 2000000000) ∧ fitF (mrr f i j 0 (prd f f (4 * i) (4 * j))) = 1 ∧ fitF (mrr f i j 1 (prd f f (4 * i) (4 * j))) = 1 ∧ fitF (mrr f i j 2 (prd f f (4 * i) (4 * j))) = 1 ∧ fitF (mrr f i j 3 (prd f f (4 * i) (4 * j))) = 1
set_option maxHeartbeats 4000000 in
set_option maxRecDepth 100000 in
theorem c_mirrorFits (d : Nat) {a b : Int32} {i j : Nat} (ha : NV a i) (hb : NV b j) (hi : i < 20) (hj : j < 20) : C mX5_mirrorFits (d + 2) 0 0 [.ref 1, .int a, .int b] (hp A B) (fun r h' => h' = hp A B ∧ r = some (.int (if mfP (A 2) i j then 1 else 0))) := by
  unfold NV at ha hb
  subst ha hb
  refine C.of [some (.ref 1), some (.int (nI i)), some (.int (nI j)), none, none, none] omX5_mirrorFits rfl rfl rfl ?_
  repeat' (first | refine V.s omX5_mirrorFits rfl rfl ?_ | refine V.gf omX5_mirrorFits rfl rfl rfl rfl ?_ | simp only [Int32.reduceAdd, Int32.reduceMul, Int32.reduceSub] | refine V.brF omX5_mirrorFits rfl rfl (by decide) ?_ | refine V.brT omX5_mirrorFits rfl rfl (by decide) (by decide) ?_ | refine V.cVf omX5_mirrorFits omX5_productOf rfl rfl (c_productOf _ nv_nI nv_nI hi hj) rfl rfl rfl rfl rfl rfl ?_ | refine V.cVf omX5_mirrorFits omX5_mirrored rfl rfl (c_mirrored _ nv_nI nv_nI nv_lit hi hj (by decide) _) rfl rfl rfl rfl rfl rfl ?_ | refine V.cSf omX5_mirrorFits omX2_fits rfl rfl (c_fits _ _ _) rfl rfl rfl rfl ?_ | refine V.br omX5_mirrorFits rfl rfl (fun hc => ?_) (fun hc => ?_))
  all_goals refine V.zret omX5_mirrorFits rfl rfl (by decide) ⟨rfl, ?_⟩
  all_goals try simp only [lgc_lt, lgc_ge, lgc_le, lgc_gt, fitF_ne, ← Int64.not_lt] at *
  all_goals simp [mfP, ← Int64.not_lt, *]
def mrA (A : Nat → Nat → Int32) (n i j : Nat) : Nat → Nat → Int32 := putA A n 3 (mrr (A 2) i j 0 (prd (A 2) (A 2) (4 * i) (4 * j))).toInt32 (mrr (A 2) i j 1 (prd (A 2) (A 2) (4 * i) (4 * j))).toInt32 (mrr (A 2) i j 2 (prd (A 2) (A 2) (4 * i) (4 * j))).toInt32 (mrr (A 2) i j 3 (prd (A 2) (A 2) (4 * i) (4 * j))).toInt32
set_option maxHeartbeats 4000000 in
set_option maxRecDepth 100000 in
theorem c_putMirror (d : Nat) {n i j : Nat} (hn : A 1 4 = nI n) (h20 : n < 20) {a b : Int32} (ha : NV a i) (hb : NV b j) (hi : i < 20) (hj : j < 20) : C mX5_putMirror (d + 2) 0 0 [.ref 1, .int a, .int b] (hp A B) (fun r h' => h' = hp (mrA A n i j) B ∧ r = some (.int (nI n))) := by
  unfold NV at ha hb
  subst ha hb
  refine C.of [some (.ref 1), some (.int (nI i)), some (.int (nI j)), none, none] omX5_putMirror rfl rfl rfl ?_
  repeat (first | refine V.s omX5_putMirror rfl rfl ?_ | refine V.gf omX5_putMirror rfl rfl rfl rfl ?_ | refine V.cVf omX5_putMirror omX5_productOf rfl rfl (c_productOf _ nv_nI nv_nI hi hj) rfl rfl rfl rfl rfl rfl ?_ | refine V.cVf omX5_putMirror omX5_mirrored rfl rfl (c_mirrored _ nv_nI nv_nI nv_lit hi hj (by decide) _) rfl rfl rfl rfl rfl rfl ?_)
  refine V.cVf omX5_putMirror omX5_put rfl rfl (c_put _ hn h20 _ _ _ _ _) rfl rfl rfl rfl rfl rfl ?_
  exact V.iret omX5_putMirror rfl rfl ⟨rfl, rfl⟩
end SHELF
