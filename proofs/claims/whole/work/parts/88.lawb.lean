section LAWB
variable {p : Program} {l : Launch} {e : Env} {s : State} {m : MethodId} {below : List Frame} {meth : Method} {c : Code} {b L : Nat} {xs : Nat → Int32} {w : wd_T} {i : Nat} {ls : Array Slot} {A : Nat → Nat → Int32} {B : Nat → Nat → Int64} {H : Heap} {locs : List Loc}
def boB (x : Int32) : Int32 := if x = 0 then 0 else 1
def booB (pc : Nat) : Bool := argB pc [1, 2] && (argB (pc + 10) [3] && (dcq (pc + 15) (.ifCond .eq 7) 3 && (dcq (pc + 18) (.iconst 1) 1 && (dcq (pc + 19) (.goto 4) 3 && dcq (pc + 22) (.iconst 0) 1))))
/-- two words of the script, and whether the third is 0 -/
theorem ld_b (C0 : lw_At p s m meth c b L xs) (hL : L ≤ 2560) (hi : i + 5 ≤ L) (hl : lv_has ls 4 (lvs b s.heap.size i)) {pc : Nat} (h : booB pc = true) : LD p l e s m below meth c b ls pc 23 [.int (xs (i + 1)), .int (xs (i + 2)), .int (boB (xs (i + 3)))] := by
  intro H locs st hS kk
  unfold booB at h
  simp only [Bool.and_eq_true] at h
  obtain ⟨h1, h2, h3, h4, h5, h6⟩ := h
  refine ld_n C0 hL hi hl [1, 2] pc h1 H locs st hS ?_
  show LWr p l e s m below meth c b H locs (F0 m (pc + 10) ls (.int (xs (i + 2)) :: .int (xs (i + 1)) :: st))
  refine ld_n C0 hL hi hl [3] (pc + 10) h2 H locs _ hS ?_
  show LWr p l e s m below meth c b H locs (F0 m (pc + 15) ls (.int (xs (i + 3)) :: .int (xs (i + 2)) :: .int (xs (i + 1)) :: st))
  obtain ⟨hx, hb, hr, hml, hown, hts, hX, hbl, hlocks, hgv⟩ := C0
  refine lv_if_eq (pc := pc + 15) (tgt := pc + 22) hx hb (dcq_ok h3) (by omega) (fun q => ?_) (fun q => ?_)
  · refine lv_iconst hx hb (dcq_ok h6) (show Int32.ofInt 0 = 0 from rfl) ?_
    have eb : boB (xs (i + 3)) = 0 := if_pos q
    rw [eb] at kk
    exact kk
  · refine lv_iconst (pc := pc + 18) hx hb (dcq_ok h4) (show Int32.ofInt 1 = 1 from rfl) ?_
    refine lv_goto (pc := pc + 19) (tgt := pc + 23) hx hb (dcq_ok h5) (by omega) ?_
    have eb : boB (xs (i + 3)) = 1 := if_neg q
    rw [eb] at kk
    exact kk
def besB (pc j7 j8 x7 x8 : Nat) (o : Int) : Bool := dcq pc (.aload_n 1) 1 && (booB (pc + 1) && (dcq (pc + 24) (.invokevirtual j7) 3 && (dcq (pc + 27) (.aload_n 2) 1 && (booB (pc + 28) && (dcq (pc + 51) (.invokevirtual j8) 3 && (has3 mlL 11 j7 x7 && (has3 mlL 11 j8 x8 && (vnB x7 3 && (vnB x8 3 && endI (pc + 54) o)))))))))
theorem la_B (h : CT p l e s m below meth c b L xs w i ls A B H locs) {pc j7 j8 x7 x8 : Nat} {o : Int} {M7 M8 : mt_T} (hM7 : mOK M7) (hM8 : mOK M8) (e7 : mn x7 = M7.1) (e8 : mn x8 = M8.1) (k7 : kC 5 = M7.1.cls) (k8 : kC 6 = M8.1.cls) (hc : besB pc j7 j8 x7 x8 o = true) (hG : Good M7 M8 [.int (xs (i + 1)), .int (xs (i + 2)), .int (boB (xs (i + 3)))] false) : LWr p l e s m below meth c b H locs (F0 m pc ls []) := by
  unfold besB endI at hc
  simp only [Bool.and_eq_true, decide_eq_true_eq] at hc
  obtain ⟨h1, h2, h3, h4, h5, h6, h7, h8, h9, h10, h11, h12⟩ := hc
  obtain ⟨C0, hK, hN, hL, hi, hl, hA, hS, hH, kk⟩ := h
  refine la_pre C0 hK hN hl (n := 23) hM7 hM8 e7 e8 k7 k8 rfl (dcq_ok h1) (ld_b C0 hL hi hl h2) (dcq_ok h3) (dcq_ok h4) (ld_b C0 hL hi hl h5) (dcq_ok h6) h7 h8 h9 h10 hG hA hS hH (fun r A' B' H' locs' hv hA' hS' hH' => ?_)
  obtain ⟨v, rfl⟩ := hv
  refine lv_icmp_eq (pc := pc + 54) (tgt := 1317) C0.1 C0.2.1 (dcq_ok h11) h12 (fun _ => ?_) (fun q => absurd rfl q)
  exact kk A' B' H' locs' hA' hS' hH'
end LAWB
