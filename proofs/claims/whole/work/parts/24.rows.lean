section RK5
variable {A : Nat → Nat → Int32} {B : Nat → Nat → Int64}
def s7_lay (A : Nat → Nat → Int32) (m : Nat) (r : Int32) : Int32 × (Nat → Nat → Int32) := if 0 ≤ r ∧ r < nI m then (16, va_up (va_up A 31 (va_cpy (A (8 + 2 * cl r)) (A 31) 0 0 16)) 0 (upd (A 0) 11 1)) else (-3, rfA A 3)
set_option maxHeartbeats 4000000 in
set_option maxRecDepth 100000 in
theorem c7_lay (d : Nat) {m : Nat} (hm : A 0 9 = nI m) (h6 : m ≤ 6) (r : Int32) : C mX7_lay (d + 1) 0 0 [.ref 0, .int r] (hp A B) (fun r' h' => h' = hp (s7_lay A m r).2 B ∧ r' = some (.int (s7_lay A m r).1)) := by
  refine C.of [some (.ref 0), some (.int r)] omX7_lay rfl rfl rfl ?_
  by_cases h1 : 0 ≤ r ∧ r < A 0 9
  · repeat (first | refine V.s omX7_lay rfl rfl ?_ | refine V.gf omX7_lay rfl rfl rfl rfl ?_ | refine V.brF omX7_lay rfl rfl (by decide) ?_ | refine V.brT omX7_lay rfl rfl (by decide) (by decide) ?_ | refine V.cVf omX7_lay omX7_hasKiss rfl rfl (c_hkY _ h1) rfl rfl rfl rfl rfl rfl ?_)
    rw [hm] at h1
    simp only [s7_lay, if_pos h1]
    obtain ⟨i, hi, rfl⟩ := rng (by omega) h1
    simp only [cl_nI (show i < 20 by omega)]
    refine V.aal omX7_lay rfl rfl (ixN nv_nI (show i < 6 by omega) (by decide)) (kisF_at (show i < 6 by omega)) ?_
    refine V.gf omX7_lay rfl (hpQ (show i < 8 by omega)) rfl rfl ?_
    repeat (first | refine V.s omX7_lay rfl rfl ?_ | refine V.gf omX7_lay rfl rfl rfl rfl ?_)
    refine V.cpH omX7_lay rfl rfl (hpR (show i < 8 by omega)) rfl (sj := 0) (dj := 0) (nj := 16) (by decide) (by decide) (by decide) (by decide) (by decide) rfl ?_
    repeat (first | refine V.s omX7_lay rfl rfl ?_ | refine V.gf omX7_lay rfl rfl rfl rfl ?_ | refine V.pfH omX7_lay rfl rfl rfl rfl rfl rfl rfl ?_)
    refine V.iret omX7_lay rfl rfl ⟨?_, rfl⟩
    rw [va_up_ne _ _ (show (0 : Nat) ≠ 31 by decide)]
  · repeat (first | refine V.s omX7_lay rfl rfl ?_ | refine V.gf omX7_lay rfl rfl rfl rfl ?_ | refine V.brF omX7_lay rfl rfl (by decide) ?_ | refine V.brT omX7_lay rfl rfl (by decide) (by decide) ?_ | refine V.cVf omX7_lay omX7_hasKiss rfl rfl (c_hkN _ h1) rfl rfl rfl rfl rfl rfl ?_ | refine V.cVf omX7_lay omX7_refuse rfl rfl (c_refuse _ _ (by decide)) rfl rfl rfl rfl rfl rfl ?_)
    rw [hm] at h1
    exact V.iret omX7_lay rfl rfl (by simp only [s7_lay, if_neg h1] <;> (refine ⟨?_, ?_⟩ <;> first | rfl | trivial))
def cpP (i j n : Int32) : Prop := 0 ≤ i ∧ 0 ≤ j ∧ i.toInt64 + n.toInt64 ≤ 16 ∧ j.toInt64 + n.toInt64 ≤ 16
theorem cp_le {a c : Nat} (ha : a < 2 ^ 31) (hc : c < 2 ^ 31) : ((nI a).toInt64 + (nI c).toInt64 ≤ 16) ↔ a + c ≤ 16 := by
  rw [nI_l ha, nI_l hc, lN_add]
  exact pk_lLE (by omega) (by decide)
def s7_copy (A : Nat → Nat → Int32) (i j n : Int32) : Int32 × (Nat → Nat → Int32) := if A 0 11 = 0 then (-2, rfA A 2) else if n < 0 then (-4, rfA A 4) else if 0 ≤ i ∧ 0 ≤ j ∧ i.toInt64 + n.toInt64 ≤ 16 ∧ j.toInt64 + n.toInt64 ≤ 16 then (n, va_up A 31 (va_cpy (A 31) (A 31) (cl i) (cl j) (cl n))) else (-6, rfA A 6)
set_option maxHeartbeats 4000000 in
set_option maxRecDepth 100000 in
theorem c7_copy (d : Nat) (i j n : Int32) : C mX7_copy (d + 1) 0 0 [.ref 0, .int i, .int j, .int n] (hp A B) (fun r' h' => h' = hp (s7_copy A i j n).2 B ∧ r' = some (.int (s7_copy A i j n).1)) := by
  refine C.of [some (.ref 0), some (.int i), some (.int j), some (.int n)] omX7_copy rfl rfl rfl ?_
  repeat (first | refine V.s omX7_copy rfl rfl ?_ | refine V.gf omX7_copy rfl rfl rfl rfl ?_)
  by_cases hz : A 0 11 = 0
  · simp only [s7_copy, if_pos hz]
    refine V.brF omX7_copy rfl rfl (fun h => h hz) ?_
    repeat (first | refine V.s omX7_copy rfl rfl ?_ | refine V.gf omX7_copy rfl rfl rfl rfl ?_ | refine V.cVf omX7_copy omX7_refuse rfl rfl (c_refuse _ _ (by decide)) rfl rfl rfl rfl rfl rfl ?_)
    exact V.iret omX7_copy rfl rfl ⟨rfl, rfl⟩
  simp only [s7_copy, if_neg hz]
  refine V.brT omX7_copy rfl rfl hz (fun h => h) ?_
  repeat (first | refine V.s omX7_copy rfl rfl ?_ | refine V.gf omX7_copy rfl rfl rfl rfl ?_)
  by_cases hn : n < 0
  · simp only [if_pos hn]
    refine V.brF omX7_copy rfl rfl (Int32.not_le.mpr hn) ?_
    repeat (first | refine V.s omX7_copy rfl rfl ?_ | refine V.gf omX7_copy rfl rfl rfl rfl ?_ | refine V.cVf omX7_copy omX7_refuse rfl rfl (c_refuse _ _ (by decide)) rfl rfl rfl rfl rfl rfl ?_)
    exact V.iret omX7_copy rfl rfl ⟨rfl, rfl⟩
  simp only [if_neg hn]
  refine V.brT omX7_copy rfl rfl (Int32.not_lt.mp hn) (fun _ h => hn h) ?_
  by_cases h2 : 0 ≤ i ∧ 0 ≤ j ∧ i.toInt64 + n.toInt64 ≤ 16 ∧ j.toInt64 + n.toInt64 ≤ 16
  · simp only [if_pos h2]
    obtain ⟨a1, a2, a3, a4⟩ := h2
    repeat (first | refine V.s omX7_copy rfl rfl ?_ | refine V.gf omX7_copy rfl rfl rfl rfl ?_ | refine V.brF omX7_copy rfl rfl (Int32.not_lt.mpr a1) ?_ | refine V.brF omX7_copy rfl rfl (Int32.not_lt.mpr a2) ?_ | refine V.brF omX7_copy rfl rfl (Int32.not_lt.mpr (lgc_le.mpr a3)) ?_)
    refine V.brT omX7_copy rfl rfl (lgc_le.mpr a4) (fun h => Int32.not_lt.mpr h) ?_
    repeat (first | refine V.s omX7_copy rfl rfl ?_ | refine V.gf omX7_copy rfl rfl rfl rfl ?_)
    obtain ⟨a, ha, rfl⟩ := nI_of (Int32.not_lt.mpr a1)
    obtain ⟨b, hb, rfl⟩ := nI_of (Int32.not_lt.mpr a2)
    obtain ⟨c, hc, rfl⟩ := nI_of hn
    rw [cp_le ha hc] at a3
    rw [cp_le hb hc] at a4
    simp only [cl_nI (show a < 20 by omega), cl_nI (show b < 20 by omega), cl_nI (show c < 20 by omega)]
    refine V.cpH omX7_copy rfl rfl rfl rfl (sj := a) (dj := b) (nj := c) ⟨nI_pos ha, nI_clamp ha⟩ ⟨nI_pos hb, nI_clamp hb⟩ ⟨hn, nI_clamp hc⟩ a3 a4 rfl ?_
    repeat (first | refine V.s omX7_copy rfl rfl ?_ | refine V.gf omX7_copy rfl rfl rfl rfl ?_)
    exact V.iret omX7_copy rfl rfl ⟨rfl, rfl⟩
  · simp only [if_neg h2]
    repeat' (first | refine V.s omX7_copy rfl rfl ?_ | refine V.gf omX7_copy rfl rfl rfl rfl ?_ | simp only [Int32.reduceAdd, Int32.reduceMul, Int32.reduceSub] | refine V.brF omX7_copy rfl rfl (by decide) ?_ | refine V.brT omX7_copy rfl rfl (by decide) (by decide) ?_ | refine V.cVf omX7_copy omX7_refuse rfl rfl (c_refuse _ _ (by decide)) rfl rfl rfl rfl rfl rfl ?_ | refine V.br omX7_copy rfl rfl (fun hc => ?_) (fun hc => ?_))
    all_goals first | exact V.iret omX7_copy rfl rfl ⟨rfl, rfl⟩ | skip
    next g1 g2 g3 =>
    exact absurd ⟨g1, g2, lgc_le.mp g3, lgc_le.mp hc⟩ h2
def s7_give (A : Nat → Nat → Int32) (m : Nat) : Int32 × (Nat → Nat → Int32) := if A 0 11 = 0 then (-2, rfA A 2) else s7_keep (va_up A 20 (va_cpy (A 31) (A 20) 0 0 16)) m
set_option maxHeartbeats 4000000 in
set_option maxRecDepth 100000 in
theorem c7_give (d : Nat) {m : Nat} (hm : A 0 9 = nI m) (h6 : m ≤ 6) : C mX7_give (d + 4) 0 0 [.ref 0] (hp A B) (fun r' h' => h' = hp (s7_give A m).2 B ∧ r' = some (.int (s7_give A m).1)) := by
  refine C.of [some (.ref 0)] omX7_give rfl rfl rfl ?_
  repeat (first | refine V.s omX7_give rfl rfl ?_ | refine V.gf omX7_give rfl rfl rfl rfl ?_)
  by_cases hz : A 0 11 = 0
  · simp only [s7_give, if_pos hz]
    refine V.brF omX7_give rfl rfl (fun h => h hz) ?_
    repeat (first | refine V.s omX7_give rfl rfl ?_ | refine V.gf omX7_give rfl rfl rfl rfl ?_ | refine V.cVf omX7_give omX7_refuse rfl rfl (c_refuse _ _ (by decide)) rfl rfl rfl rfl rfl rfl ?_)
    exact V.iret omX7_give rfl rfl ⟨rfl, rfl⟩
  simp only [s7_give, if_neg hz]
  refine V.brT omX7_give rfl rfl hz (fun h => h) ?_
  repeat (first | refine V.s omX7_give rfl rfl ?_ | refine V.gf omX7_give rfl rfl rfl rfl ?_)
  refine V.cpH omX7_give rfl rfl rfl rfl (sj := 0) (dj := 0) (nj := 16) (by decide) (by decide) (by decide) (by decide) (by decide) rfl ?_
  repeat (first | refine V.s omX7_give rfl rfl ?_ | refine V.gf omX7_give rfl rfl rfl rfl ?_)
  refine V.cVf omX7_give omX7_keepWork rfl rfl (c_keepWork d (m := m) (by rw [va_up_ne _ _ (show (0 : Nat) ≠ 20 by decide)]; exact hm) h6) rfl rfl rfl rfl rfl rfl ?_
  exact V.iret omX7_give rfl rfl ⟨rfl, rfl⟩
theorem Lh_ne {k q : Nat} {f : Nat → Int32} {v : Int32} (h1 : q ≠ 8 + 2 * k) (h2 : q ≠ 7 + 2 * k) : Lh A k f v q = A q := by
  unfold Lh
  rw [va_up_ne _ _ h2, va_up_ne _ _ h1]
def ls1 (A : Nat → Nat → Int32) (i : Nat) : Int32 × (Nat → Int32) × Int32 := lb true 1000000 0 (va_cpy (A (8 + 2 * i)) (A 20) 0 0 16) 0
def lsA (A : Nat → Nat → Int32) (i : Nat) : Nat → Nat → Int32 := Lh A 6 (ls1 A i).2.1 (ls1 A i).2.2
def s7_least (A : Nat → Nat → Int32) (m : Nat) (r : Int32) : Int32 × (Nat → Nat → Int32) := if wn A m r = 0 then (if (ls1 A (cl r)).1 < 0 then (-8, rfA (lsA A (cl r)) 8) else ((ls1 A (cl r)).1, va_up (va_up (lsA A (cl r)) (8 + 2 * cl r) (va_cpy (ls1 A (cl r)).2.1 (A (8 + 2 * cl r)) 0 0 16)) 0 (upd (A 0) 10 (ls1 A (cl r)).2.2))) else (wn A m r, rfA A (rfI (wn A m r)))
set_option maxHeartbeats 4000000 in
set_option maxRecDepth 100000 in
theorem c7_least (d : Nat) {m : Nat} (hm : A 0 9 = nI m) (h6 : m ≤ 6) (r : Int32) : C mX7_least (d + 3) 0 0 [.ref 0, .int r] (hp A B) (fun r' h' => h' = hp (s7_least A m r).2 B ∧ r' = some (.int (s7_least A m r).1)) := by
  refine C.of [some (.ref 0), some (.int r), none, none] omX7_least rfl rfl rfl ?_
  repeat (first | refine V.s omX7_least rfl rfl ?_ | refine V.gf omX7_least rfl rfl rfl rfl ?_)
  refine V.cVf omX7_least omX7_whyNoLeast rfl rfl (c_whyNoLeast d hm h6 r) rfl rfl rfl rfl rfl rfl ?_
  repeat (first | refine V.s omX7_least rfl rfl ?_ | refine V.gf omX7_least rfl rfl rfl rfl ?_)
  by_cases h0 : wn A m r = 0
  · simp only [s7_least, if_pos h0]
    rw [h0]
    refine V.brT omX7_least rfl rfl rfl (by decide) ?_
    obtain ⟨i, hi, rfl⟩ := rng (by omega) (wn_0 h0).1
    simp only [cl_nI (show i < 20 by omega)]
    repeat (first | refine V.s omX7_least rfl rfl ?_ | refine V.gf omX7_least rfl rfl rfl rfl ?_)
    refine V.aal omX7_least rfl rfl (ixN nv_nI (show i < 6 by omega) (by decide)) (kisF_at (show i < 6 by omega)) ?_
    have ct : C mX4_take (d + 2) 0 0 [.ref 19, .ref (7 + 2 * i)] (hp A B) (fun r h' => h' = hp (va_up A 20 (va_cpy (A (8 + 2 * i)) (A 20) 0 0 16)) B ∧ r = none) := c_take (k := 6) _ (by decide) (by omega)
    refine V.cVv omX7_least omX4_take rfl rfl ct rfl rfl rfl rfl rfl rfl ?_
    repeat (first | refine V.s omX7_least rfl rfl ?_ | refine V.gf omX7_least rfl rfl rfl rfl ?_)
    have cl4 : C mX4_leadBack (d + 2) 0 0 [.ref 19, .int 4] (hp (va_up A 20 (va_cpy (A (8 + 2 * i)) (A 20) 0 0 16)) B) (fun r h' => h' = hp (lsA A i) B ∧ r = some (.int (ls1 A i).1)) := by
      refine (c_leadBack (k := 6) (A := va_up A 20 (va_cpy (A (8 + 2 * i)) (A 20) 0 0 16)) (B := B) d (by decide) true).mono (fun r h' hq => ?_)
      have e : va_up A 20 (va_cpy (A (8 + 2 * i)) (A 20) 0 0 16) (8 + 2 * 6) = va_cpy (A (8 + 2 * i)) (A 20) 0 0 16 := va_up_self _ _ _
      rw [e] at hq
      refine ⟨hq.1.trans ?_, hq.2⟩
      unfold lsA ls1 Lh
      rw [bx_uu, va_up_ne _ _ (show 7 + 2 * 6 ≠ 20 by decide)]
    refine V.cVf omX7_least omX4_leadBack rfl rfl cl4 rfl rfl rfl rfl rfl rfl ?_
    refine V.s omX7_least rfl rfl ?_
    refine V.s omX7_least rfl rfl ?_
    by_cases hneg : (ls1 A i).1 < 0
    · simp only [if_pos hneg]
      refine V.brF omX7_least rfl rfl (Int32.not_le.mpr hneg) ?_
      repeat (first | refine V.s omX7_least rfl rfl ?_ | refine V.gf omX7_least rfl rfl rfl rfl ?_ | refine V.cVf omX7_least omX7_refuse rfl rfl (c_refuse _ _ (by decide)) rfl rfl rfl rfl rfl rfl ?_)
      exact V.iret omX7_least rfl rfl ⟨rfl, rfl⟩
    · simp only [if_neg hneg]
      refine V.brT omX7_least rfl rfl (Int32.not_lt.mp hneg) (fun _ h => hneg h) ?_
      repeat (first | refine V.s omX7_least rfl rfl ?_ | refine V.gf omX7_least rfl rfl rfl rfl ?_)
      refine V.aal omX7_least rfl rfl (ixN nv_nI (show i < 6 by omega) (by decide)) (kisF_at (show i < 6 by omega)) ?_
      repeat (first | refine V.s omX7_least rfl rfl ?_ | refine V.gf omX7_least rfl rfl rfl rfl ?_)
      have ct2 : C mX4_take (d + 2) 0 0 [.ref (7 + 2 * i), .ref 19] (hp (lsA A i) B) (fun r h' => h' = hp (va_up (lsA A i) (8 + 2 * i) (va_cpy (ls1 A i).2.1 (A (8 + 2 * i)) 0 0 16)) B ∧ r = none) := by
        refine (c_take (k := i) (j := 6) (A := lsA A i) (B := B) _ (by omega) (by decide)).mono (fun r h' hq => ?_)
        have e1 : lsA A i (8 + 2 * 6) = (ls1 A i).2.1 := Lh_arr
        have e2 : lsA A i (8 + 2 * i) = A (8 + 2 * i) := Lh_ne (by omega) (by omega)
        rwa [e1, e2] at hq
      refine V.cVv omX7_least omX4_take rfl rfl ct2 rfl rfl (hpQ (show i < 8 by omega)) rfl rfl rfl ?_
      repeat (first | refine V.s omX7_least rfl rfl ?_ | refine V.gf omX7_least rfl rfl rfl rfl ?_)
      rw [va_up_ne _ _ (show (19 : Nat) ≠ 8 + 2 * i by omega), show lsA A i 19 1 = (ls1 A i).2.2 from Lh_fp (k := 6)]
      refine V.pfH omX7_least rfl rfl rfl rfl rfl rfl rfl ?_
      rw [va_up_ne _ _ (show (0 : Nat) ≠ 8 + 2 * i by omega), show lsA A i 0 = A 0 from Lh_ne (by decide) (by decide)]
      repeat (first | refine V.s omX7_least rfl rfl ?_ | refine V.gf omX7_least rfl rfl rfl rfl ?_)
      exact V.iret omX7_least rfl rfl ⟨rfl, rfl⟩
  · simp only [s7_least, if_neg h0]
    refine V.brF omX7_least rfl rfl h0 ?_
    repeat (first | refine V.s omX7_least rfl rfl ?_ | refine V.gf omX7_least rfl rfl rfl rfl ?_)
    refine V.cVf omX7_least omX7_refuse rfl rfl (c_refuse _ _ (rfB_wn h0)) rfl rfl rfl rfl rfl rfl ?_
    exact V.iret omX7_least rfl rfl ⟨rfl, rfl⟩
end RK5
