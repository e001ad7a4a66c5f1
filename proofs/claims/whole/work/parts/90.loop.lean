section LAWL
variable {p : Program} {l : Launch} {e : Env} {s : State} {m : MethodId} {below : List Frame} {meth : Method} {c : Code} {b L : Nat} {xs : Nat → Int32} {w : wd_T} {i : Nat} {ls : Array Slot} {A : Nat → Nat → Int32} {B : Nat → Nat → Int64} {H : Heap} {locs : List Loc}
theorem dl_0 : decode code 0 = .ok (.new 7, 3) := by decide +kernel
theorem dl_3 : decode code 3 = .ok (.dup, 1) := by decide +kernel
theorem dl_4 : decode code 4 = .ok (.invokespecial 9, 3) := by decide +kernel
theorem dl_7 : decode code 7 = .ok (.astore_n 1, 1) := by decide +kernel
theorem dl_8 : decode code 8 = .ok (.new 10, 3) := by decide +kernel
theorem dl_11 : decode code 11 = .ok (.dup, 1) := by decide +kernel
theorem dl_12 : decode code 12 = .ok (.invokespecial 12, 3) := by decide +kernel
theorem dl_15 : decode code 15 = .ok (.astore_n 2, 1) := by decide +kernel
theorem dl_16 : decode code 16 = .ok (.iconst 0, 1) := by decide +kernel
theorem dl_17 : decode code 17 = .ok (.istore_n 3, 1) := by decide +kernel
theorem dl_18 : decode code 18 = .ok (.iload_n 3, 1) := by decide +kernel
theorem dl_19 : decode code 19 = .ok (.aload_n 0, 1) := by decide +kernel
theorem dl_20 : decode code 20 = .ok (.arraylength, 1) := by decide +kernel
theorem dl_21 : decode code 21 = .ok (.iconst 5, 1) := by decide +kernel
theorem dl_22 : decode code 22 = .ok (.isub, 1) := by decide +kernel
theorem dl_23 : decode code 23 = .ok (.if_icmp .gt 1300, 3) := by decide +kernel
theorem dl_26 : decode code 26 = .ok (.aload_n 0, 1) := by decide +kernel
theorem dl_27 : decode code 27 = .ok (.iload_n 3, 1) := by decide +kernel
theorem dl_28 : decode code 28 = .ok (.iaload, 1) := by decide +kernel
theorem dl_29 : decode code 29 = .ok (.bipush 63, 2) := by decide +kernel
theorem dl_31 : decode code 31 = .ok (.iand, 1) := by decide +kernel
theorem dl_32 : decode code 32 = .ok (.tableswitch 1285 0 36 #[164, 217, 250, 263, 296, 330, 363, 396, 419, 442, 455, 498, 522, 556, 589, 632, 655, 668, 701, 724, 757, 790, 823, 856, 900, 933, 966, 989, 1022, 1081, 1124, 1147, 1170, 1183, 1206, 1249, 1262], 164) := by decide +kernel
theorem dl_1317 : decode code 1317 = .ok (.iinc 3 5, 3) := by decide +kernel
theorem dl_1320 : decode code 1320 = .ok (.goto (-1302), 3) := by decide +kernel
theorem dl_1323 : decode code 1323 = .ok (.iconst 1, 1) := by decide +kernel
theorem dl_1324 : decode code 1324 = .ok (.ireturn, 1) := by decide +kernel
theorem sub5 {i L : Nat} (hL : L ≤ 2560) (hi : i ≤ 2565) (h : ¬ nI L - 5 < nI i) : i + 5 ≤ L := by
  refine Classical.byContradiction (fun q => h ?_)
  by_cases g : 5 ≤ L
  · have e : nI L - 5 = nI (L - 5) := by
      have h1 : nI L = nI (L - 5) + 5 := by
        rw [show (5 : Int32) = nI 5 from rfl, nI_add, show L - 5 + 5 = L by omega]
      rw [h1]
      exact Int32.add_sub_cancel _ _
    rw [e]
    exact nI_lt (by omega) (by omega)
  · have h0 : nI L - 5 < 0 := by
      rcases (show L = 0 ∨ L = 1 ∨ L = 2 ∨ L = 3 ∨ L = 4 by omega) with rfl | rfl | rfl | rfl | rfl <;> decide
    exact Int32.lt_of_lt_of_le h0 (nI_pos' (by omega))
theorem sw_in {v : Int32} (h : 0 ≤ v ∧ v < 37) : ∃ k, k < 37 ∧ v = nI k := rng (n := 37) (by decide) h
theorem sw_out {v : Int32} (h : ¬ (0 ≤ v ∧ v < 37)) : v.toInt < 0 ∨ 36 < v.toInt := by
  rw [Int32.le_iff_toInt_le, Int32.lt_iff_toInt_lt, show (0 : Int32).toInt = 0 from rfl, show (37 : Int32).toInt = 37 by decide] at h
  omega
set_option maxHeartbeats 4000000 in
set_option maxRecDepth 100000 in
/-- the switch: each case comes to 1317 -/
theorem law_sw (h : CT p l e s m below meth c b L xs w i ls A B H locs) (v : Int32) : LWr p l e s m below meth c b H locs (F0 m 32 ls [.int v]) := by
  have hx := h.1.1
  have hb := h.1.2.1
  by_cases hv : 0 ≤ v ∧ v < 37
  · obtain ⟨k, hk, rfl⟩ := sw_in hv
    match k, hk with
    | 0, _ => exact lv_tableIn (off := 164) (tgt := 196) hx hb dl_32 (by decide) (by decide) (by decide +kernel) (by decide) (ca_0 h)
    | 1, _ => exact lv_tableIn (off := 217) (tgt := 249) hx hb dl_32 (by decide) (by decide) (by decide +kernel) (by decide) (ca_1 h)
    | 2, _ => exact lv_tableIn (off := 250) (tgt := 282) hx hb dl_32 (by decide) (by decide) (by decide +kernel) (by decide) (ca_2 h)
    | 3, _ => exact lv_tableIn (off := 263) (tgt := 295) hx hb dl_32 (by decide) (by decide) (by decide +kernel) (by decide) (ca_3 h)
    | 4, _ => exact lv_tableIn (off := 296) (tgt := 328) hx hb dl_32 (by decide) (by decide) (by decide +kernel) (by decide) (ca_4 h)
    | 5, _ => exact lv_tableIn (off := 330) (tgt := 362) hx hb dl_32 (by decide) (by decide) (by decide +kernel) (by decide) (ca_5 h)
    | 6, _ => exact lv_tableIn (off := 363) (tgt := 395) hx hb dl_32 (by decide) (by decide) (by decide +kernel) (by decide) (ca_6 h)
    | 7, _ => exact lv_tableIn (off := 396) (tgt := 428) hx hb dl_32 (by decide) (by decide) (by decide +kernel) (by decide) (ca_7 h)
    | 8, _ => exact lv_tableIn (off := 419) (tgt := 451) hx hb dl_32 (by decide) (by decide) (by decide +kernel) (by decide) (ca_8 h)
    | 9, _ => exact lv_tableIn (off := 442) (tgt := 474) hx hb dl_32 (by decide) (by decide) (by decide +kernel) (by decide) (ca_9 h)
    | 10, _ => exact lv_tableIn (off := 455) (tgt := 487) hx hb dl_32 (by decide) (by decide) (by decide +kernel) (by decide) (ca_10 h)
    | 11, _ => exact lv_tableIn (off := 498) (tgt := 530) hx hb dl_32 (by decide) (by decide) (by decide +kernel) (by decide) (ca_11 h)
    | 12, _ => exact lv_tableIn (off := 522) (tgt := 554) hx hb dl_32 (by decide) (by decide) (by decide +kernel) (by decide) (ca_12 h)
    | 13, _ => exact lv_tableIn (off := 556) (tgt := 588) hx hb dl_32 (by decide) (by decide) (by decide +kernel) (by decide) (ca_13 h)
    | 14, _ => exact lv_tableIn (off := 589) (tgt := 621) hx hb dl_32 (by decide) (by decide) (by decide +kernel) (by decide) (ca_14 h)
    | 15, _ => exact lv_tableIn (off := 632) (tgt := 664) hx hb dl_32 (by decide) (by decide) (by decide +kernel) (by decide) (ca_15 h)
    | 16, _ => exact lv_tableIn (off := 655) (tgt := 687) hx hb dl_32 (by decide) (by decide) (by decide +kernel) (by decide) (ca_16 h)
    | 17, _ => exact lv_tableIn (off := 668) (tgt := 700) hx hb dl_32 (by decide) (by decide) (by decide +kernel) (by decide) (ca_17 h)
    | 18, _ => exact lv_tableIn (off := 701) (tgt := 733) hx hb dl_32 (by decide) (by decide) (by decide +kernel) (by decide) (ca_18 h)
    | 19, _ => exact lv_tableIn (off := 724) (tgt := 756) hx hb dl_32 (by decide) (by decide) (by decide +kernel) (by decide) (ca_19 h)
    | 20, _ => exact lv_tableIn (off := 757) (tgt := 789) hx hb dl_32 (by decide) (by decide) (by decide +kernel) (by decide) (ca_20 h)
    | 21, _ => exact lv_tableIn (off := 790) (tgt := 822) hx hb dl_32 (by decide) (by decide) (by decide +kernel) (by decide) (ca_21 h)
    | 22, _ => exact lv_tableIn (off := 823) (tgt := 855) hx hb dl_32 (by decide) (by decide) (by decide +kernel) (by decide) (ca_22 h)
    | 23, _ => exact lv_tableIn (off := 856) (tgt := 888) hx hb dl_32 (by decide) (by decide) (by decide +kernel) (by decide) (ca_23 h)
    | 24, _ => exact lv_tableIn (off := 900) (tgt := 932) hx hb dl_32 (by decide) (by decide) (by decide +kernel) (by decide) (ca_24 h)
    | 25, _ => exact lv_tableIn (off := 933) (tgt := 965) hx hb dl_32 (by decide) (by decide) (by decide +kernel) (by decide) (ca_25 h)
    | 26, _ => exact lv_tableIn (off := 966) (tgt := 998) hx hb dl_32 (by decide) (by decide) (by decide +kernel) (by decide) (ca_26 h)
    | 27, _ => exact lv_tableIn (off := 989) (tgt := 1021) hx hb dl_32 (by decide) (by decide) (by decide +kernel) (by decide) (ca_27 h)
    | 28, _ => exact lv_tableIn (off := 1022) (tgt := 1054) hx hb dl_32 (by decide) (by decide) (by decide +kernel) (by decide) (ca_28 h)
    | 29, _ => exact lv_tableIn (off := 1081) (tgt := 1113) hx hb dl_32 (by decide) (by decide) (by decide +kernel) (by decide) (ca_29 h)
    | 30, _ => exact lv_tableIn (off := 1124) (tgt := 1156) hx hb dl_32 (by decide) (by decide) (by decide +kernel) (by decide) (ca_30 h)
    | 31, _ => exact lv_tableIn (off := 1147) (tgt := 1179) hx hb dl_32 (by decide) (by decide) (by decide +kernel) (by decide) (ca_31 h)
    | 32, _ => exact lv_tableIn (off := 1170) (tgt := 1202) hx hb dl_32 (by decide) (by decide) (by decide +kernel) (by decide) (ca_32 h)
    | 33, _ => exact lv_tableIn (off := 1183) (tgt := 1215) hx hb dl_32 (by decide) (by decide) (by decide +kernel) (by decide) (ca_33 h)
    | 34, _ => exact lv_tableIn (off := 1206) (tgt := 1238) hx hb dl_32 (by decide) (by decide) (by decide +kernel) (by decide) (ca_34 h)
    | 35, _ => exact lv_tableIn (off := 1249) (tgt := 1281) hx hb dl_32 (by decide) (by decide) (by decide +kernel) (by decide) (ca_35 h)
    | 36, _ => exact lv_tableIn (off := 1262) (tgt := 1294) hx hb dl_32 (by decide) (by decide) (by decide +kernel) (by decide) (ca_36 h)
    | k + 37, hk => omega
  · refine lv_tableOut (tgt := 1317) hx hb dl_32 (sw_out hv) (by decide) ?_
    obtain ⟨C0, hK, hN, hL, hi, hl, hA, hS, hH, kk⟩ := h
    exact kk A B H locs hA hS hH
end LAWL
