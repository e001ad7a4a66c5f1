section LEAD
variable {A : Nat → Nat → Int32} {B : Nat → Nat → Int64} {k : Nat}
set_option maxHeartbeats 4000000 in
set_option maxRecDepth 100000 in
theorem leadBack_loop (d : Nat) (hk : k < 8) (c4 : Bool) (R : Int32 × (Nat → Int32) × Int32) : ∀ (m s : Nat) (f : Nat → Int32) (fp : Int32) (v3 : Option Value), s + m = 1000000 → R = lb c4 m s f fp →
    V mX4_leadBack (d + 2) 0 0 (fun r h' => h' = hp (Lh A k R.2.1 R.2.2) B ∧ r = some (.int R.1)) 0 0 7 [some (.ref (7 + 2 * k)), some (.int (bif c4 then 4 else 1)), some (.int (nI s)), v3] [] (hp (Lh A k f fp) B) := by
  intro m
  induction m with
  | zero =>
    intro s f fp v3 hs hR
    have : s = 1000000 := by omega
    subst this
    refine V.s omX4_leadBack rfl rfl ?_
    refine V.s omX4_leadBack rfl rfl ?_
    refine V.brT omX4_leadBack rfl rfl (by decide) (by decide) ?_
    refine V.s omX4_leadBack rfl rfl ?_
    subst hR
    exact V.iret omX4_leadBack rfl rfl ⟨rfl, rfl⟩
  | succ m ih =>
    intro s f fp v3 hs hR
    refine V.s omX4_leadBack rfl rfl ?_
    refine V.s omX4_leadBack rfl rfl ?_
    refine V.brF omX4_leadBack rfl rfl (by rw [nIl_le 1000000 (by omega) (by decide)]; omega) ?_
    have cg : C mX4_placeOfGreatestBend (d + 1) 0 0 [.ref (7 + 2 * k)] (hp (Lh A k f fp) B) (fun r h' => h' = hp (Lh A k f fp) B ∧ r = some (.int (nI (gst f)))) := by
      have h := c_greatestBend (A := Lh A k f fp) (B := B) d hk
      rwa [Lh_arr] at h
    have cs : C mX4_swapped (d + 1) 0 0 [.ref (7 + 2 * k), .int (nI (gst f)), .int 0] (hp (Lh A k f fp) B) (fun r h' => h' = hp (Lh A k f fp) B ∧ r = some (.long (swp f (gst f) 0))) := by
      have h := c_swapped (A := Lh A k f fp) (B := B) (d + 1) hk (nv_nI (a := gst f)) (nv_lit (n := 0)) (gst_lt f) (by decide)
      rwa [Lh_arr] at h
    have cb : C mX4_bend (d + 1) 0 0 [.ref (7 + 2 * k), .int (nI (gst f))] (hp (Lh A k f fp) B) (fun r h' => h' = hp (Lh A k f fp) B ∧ r = some (.int (f (4 * gst f)))) := by
      have h := c_bend (A := Lh A k f fp) (B := B) (d + 1) hk (nv_nI (a := gst f)) (gst_lt f)
      rwa [Lh_arr] at h
    have ct : C mX4_trySwap (d + 1) 0 0 [.ref (7 + 2 * k), .int (nI (gst f)), .int (bif c4 then 4 else 1)] (hp (Lh A k f fp) B) (fun r h' => h' = hp (if lbOk c4 f (gst f) = true then Lh A k (lbS c4 f (gst f)) fp else Lh A k f fp) B ∧ r = some (.int (if lbOk c4 f (gst f) = true then 1 else 0))) := by
      have h := c_trySwapC (A := Lh A k f fp) (B := B) d hk c4 (nv_nI (a := gst f)) (gst_lt f)
      rwa [Lh_arr, Lh_set] at h
    repeat (first | refine V.s omX4_leadBack rfl rfl ?_ | refine V.cVf omX4_leadBack omX4_placeOfGreatestBend rfl rfl (cg) rfl rfl (hpQ hk) rfl rfl rfl ?_ | refine V.cVf omX4_leadBack omX4_swapped rfl rfl (cs) rfl rfl (hpQ hk) rfl rfl rfl ?_ | refine V.cVf omX4_leadBack omX4_bend rfl rfl (cb) rfl rfl (hpQ hk) rfl rfl rfl ?_)
    refine V.br omX4_leadBack rfl rfl (fun hc => ?_) (fun hc => ?_)
    · rw [lgc_lt] at hc
      simp only [lb, if_pos hc] at hR
      refine V.s omX4_leadBack rfl rfl ?_
      refine V.s omX4_leadBack rfl rfl ?_
      refine V.s omX4_leadBack rfl rfl ?_
      refine V.cVf (q := 7 + 2 * k) (As := [.int (nI (gst f)), .int (bif c4 then 4 else 1)]) (rest := []) (v := .int (if lbOk c4 f (gst f) = true then 1 else 0)) (H' := hp (if lbOk c4 f (gst f) = true then Lh A k (lbS c4 f (gst f)) fp else Lh A k f fp) B) omX4_leadBack omX4_trySwap rfl rfl ct rfl rfl (hpQ hk) rfl rfl rfl ?_
      by_cases ho : lbOk c4 f (gst f) = true
      · simp only [if_pos ho] at hR ⊢
        refine V.brT omX4_leadBack rfl rfl (by decide) (by decide) ?_
        refine V.s omX4_leadBack rfl rfl ?_
        refine V.s omX4_leadBack rfl rfl ?_
        refine V.br omX4_leadBack rfl rfl (fun hd => ?_) (fun hd => ?_)
        · rw [nIl_le 15 (by omega) (by decide)] at hd
          refine V.s omX4_leadBack rfl rfl ?_
          refine V.s omX4_leadBack rfl rfl ?_
          rw [nI_1]
          refine ih (s + 1) _ _ _ (by omega) ?_
          rw [hR, lbP, if_neg (Nat.not_lt.mpr hd)]
        · rw [nIl_lt 15 (by omega) (by decide)] at hd
          repeat (first | refine V.s omX4_leadBack rfl rfl ?_ | refine V.gf omX4_leadBack rfl (hpQ hk) rfl rfl ?_)
          refine V.pfH omX4_leadBack rfl (hpQ hk) rfl rfl rfl rfl rfl ?_
          refine V.s omX4_leadBack rfl rfl ?_
          refine V.s omX4_leadBack rfl rfl ?_
          rw [nI_1, Lh_put, Lh_fp]
          refine ih (s + 1) _ _ _ (by omega) ?_
          rw [hR, lbP, if_pos hd]
      · simp only [if_neg ho] at hR ⊢
        refine V.brF omX4_leadBack rfl rfl (by decide) ?_
        refine V.s omX4_leadBack rfl rfl ?_
        subst hR
        exact V.iret omX4_leadBack rfl rfl ⟨rfl, rfl⟩
    · rw [lgc_ge] at hc
      simp only [lb, if_neg (Int64.not_lt.mpr hc)] at hR
      refine V.s omX4_leadBack rfl rfl ?_
      subst hR
      exact V.iret omX4_leadBack rfl rfl ⟨rfl, rfl⟩
theorem c_leadBack (d : Nat) (hk : k < 8) (c4 : Bool) : C mX4_leadBack (d + 2) 0 0 [.ref (7 + 2 * k), .int (bif c4 then 4 else 1)] (hp A B) (fun r h' => h' = hp (Lh A k (lb c4 1000000 0 (A (8 + 2 * k)) 0).2.1 (lb c4 1000000 0 (A (8 + 2 * k)) 0).2.2) B ∧ r = some (.int (lb c4 1000000 0 (A (8 + 2 * k)) 0).1)) := by
  refine C.of [some (.ref (7 + 2 * k)), some (.int (bif c4 then 4 else 1)), none, none] omX4_leadBack rfl rfl rfl ?_
  refine V.s omX4_leadBack rfl rfl ?_
  refine V.s omX4_leadBack rfl rfl ?_
  refine V.pfH omX4_leadBack rfl (hpQ hk) rfl rfl rfl rfl rfl ?_
  refine V.s omX4_leadBack rfl rfl ?_
  refine V.s omX4_leadBack rfl rfl ?_
  rw [Lh_0]
  exact leadBack_loop d hk c4 _ 1000000 0 _ _ _ rfl rfl
/-- what the least bends are, out of a kiss -/
def lbB (f g : Nat → Int32) : Int32 × (Nat → Int32) × Int32 := lb false 1000000 0 (va_cpy f g 0 0 16) 0
theorem c_takeLeastBends (d : Nat) (hk : k < 8) {j : Nat} (hj : j < 8) : C mX4_takeLeastBends (d + 3) 0 0 [.ref (7 + 2 * k), .ref (7 + 2 * j)] (hp A B) (fun r h' => h' = hp (Lh A k (lbB (A (8 + 2 * j)) (A (8 + 2 * k))).2.1 (lbB (A (8 + 2 * j)) (A (8 + 2 * k))).2.2) B ∧ r = none) := by
  refine C.of [some (.ref (7 + 2 * k)), some (.ref (7 + 2 * j))] omX4_takeLeastBends rfl rfl rfl ?_
  refine V.s omX4_takeLeastBends rfl rfl ?_
  refine V.s omX4_takeLeastBends rfl rfl ?_
  refine V.cVv omX4_takeLeastBends omX4_take rfl rfl (c_take _ hk hj) rfl rfl (hpQ hk) rfl rfl rfl ?_
  refine V.s omX4_takeLeastBends rfl rfl ?_
  refine V.s omX4_takeLeastBends rfl rfl ?_
  refine V.cVf omX4_takeLeastBends omX4_leadBack rfl rfl (c_leadBack d hk false) rfl rfl (hpQ hk) rfl rfl rfl ?_
  refine V.s omX4_takeLeastBends rfl rfl ?_
  refine V.vret omX4_takeLeastBends rfl rfl ⟨?_, rfl⟩
  rw [va_up_self]
  unfold lbB Lh
  rw [bx_uu, va_up_ne _ _ (show 7 + 2 * k ≠ 8 + 2 * k by omega)]
end LEAD
