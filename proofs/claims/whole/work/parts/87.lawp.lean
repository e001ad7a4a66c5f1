section LAWP
variable {p : Program} {l : Launch} {e : Env} {s : State} {m : MethodId} {below : List Frame} {meth : Method} {c : Code} {b L : Nat} {xs : Nat → Int32} {w : wd_T} {i : Nat} {ls : Array Slot} {A : Nat → Nat → Int32} {B : Nat → Nat → Int64} {H : Heap} {locs : List Loc}
def isV (lg : Bool) (r : Value) : Prop := if lg = true then ∃ v : Int64, r = .long v else ∃ v : Int32, r = .int v
set_option maxHeartbeats 4000000 in
set_option maxRecDepth 100000 in
/-- the two calls of a case: what they leave on the stack -/
theorem la_pre (C0 : lw_At p s m meth c b L xs) (hK : va_K (w.1, w.2.1) kcl (wty w) s) (hN : NX s) (hl : lv_has ls 4 (lvs b s.heap.size i)) {pc n j7 j8 x7 x8 : Nat} {as : List Value} {M7 M8 : mt_T} {lg : Bool} (hM7 : mOK M7) (hM8 : mOK M8) (e7 : mn x7 = M7.1) (e8 : mn x8 = M8.1) (k7 : kC 5 = M7.1.cls) (k8 : kC 6 = M8.1.cls) (has : as.map (cvV s.heap.size) = as)
    (hd1 : decode code pc = .ok (.aload_n 1, 1)) (l1 : LD p l e s m below meth c b ls (pc + 1) n as) (hd2 : decode code (pc + 1 + n) = .ok (.invokevirtual j7, 3)) (hd3 : decode code (pc + 1 + n + 3) = .ok (.aload_n 2, 1)) (l2 : LD p l e s m below meth c b ls (pc + 1 + n + 3 + 1) n as) (hd4 : decode code (pc + 1 + n + 3 + 1 + n) = .ok (.invokevirtual j8, 3))
    (m7 : has3 mlL 11 j7 x7 = true) (m8 : has3 mlL 11 j8 x8 = true) (v7 : vnB x7 as.length = true) (v8 : vnB x8 as.length = true) (hG : Good M7 M8 as lg) (hA : Rel A) (hS : va_S (fun q => s.heap.size ≤ q) s.heap H locs) (hH : HR w s.heap.size (hp A B) H)
    (kk : ∀ (r : Value) (A' : Nat → Nat → Int32) (B' : Nat → Nat → Int64) (H' : Heap) (locs' : List Loc), isV lg r → Rel A' → va_S (fun q => s.heap.size ≤ q) s.heap H' locs' → HR w s.heap.size (hp A' B') H' → LWr p l e s m below meth c b H' locs' (F0 m (pc + 1 + n + 3 + 1 + n + 3) ls [r, r])) : LWr p l e s m below meth c b H locs (F0 m pc ls []) := by
  obtain ⟨hx, hb, hr, hml, hown, hts, hX, hbl, hlocks, hgv⟩ := C0
  have S : CallFix p m c code 4 s #[Value.ref b] tg (cn 11) := ⟨hx, hb, hml, hown, fun w hw => hts w (List.mem_filter.mp hw).1⟩
  obtain ⟨p7, hp7⟩ := has3_ex m7
  obtain ⟨p8, hp8⟩ := has3_ex m8
  refine lv_aload_n hx hb hd1 rfl (lv_at hl 1 rfl) ?_
  refine l1 H locs _ hS ?_
  obtain ⟨d7, Q7, l7, c7, g7⟩ := hG A B hA
  have f1 : (51 + 0 ≤ room_1.cells ∧ 3802 + 0 ≤ room_1.slots) := ⟨by show 51 + 0 ≤ 600000; omega, by show 3802 + 0 ≤ 7302249; omega⟩
  have f2 : ∀ d, d ≤ 50 → d + 3 ≤ room_1.frames ∧ 40 * d + 100 ≤ room_1.locals := fun d hd => ⟨by show d + 3 ≤ 2048; omega, by show 40 * d + 100 ≤ 84000; omega⟩
  have s1 : as.reverse ++ [Value.ref (s.heap.size + 0)] = (as.map (cvV s.heap.size)).reverse ++ Value.ref (s.heap.size + 0) :: [] := by rw [has]
  rw [s1]
  refine w_cV (R := room_1) (w := w) (b := s.heap.size) (q := 0) (ci := 5) (mc := 0) (ms := 0) S hM7 c7 e7 (ml_w hp7) v7 rfl (by decide) k7 (by decide) f1 (f2 d7 l7) hd2 hl.1 hK hN hS hH (show s.heap.size + 51 ≤ s.heap.size + 51 from Nat.le_refl _) (Nat.le_refl _) (fun r1 h1 H1 locs1 q1 hH1 hZ1 hS1 => ?_)
  obtain ⟨A1, B1, d8, Q8, l8, rfl, c8, g8⟩ := g7 r1 h1 q1
  refine lv_aload_n hx hb hd3 rfl (lv_at hl 2 rfl) ?_
  refine l2 H1 locs1 _ hS1 ?_
  have s2 : as.reverse ++ Value.ref (s.heap.size + 33) :: ((r1.map (cvV s.heap.size)).toList ++ []) = (as.map (cvV s.heap.size)).reverse ++ Value.ref (s.heap.size + 33) :: ((r1.map (cvV s.heap.size)).toList ++ []) := by rw [has]
  rw [s2]
  refine w_cV (R := room_1) (w := w) (b := s.heap.size) (q := 33) (ci := 6) (mc := 0) (ms := 0) S hM8 c8 e8 (ml_w hp8) v8 rfl (by decide) k8 (rm1 r1) f1 (f2 d8 l8) hd4 hl.1 hK hN hS1 hH1 (show s.heap.size + 51 ≤ s.heap.size + 51 from Nat.le_refl _) (Nat.le_refl _) (fun r2 h2 H2 locs2 q2 hH2 hZ2 hS2 => ?_)
  obtain ⟨A2, B2, rfl, hR2, rfl, ht⟩ := g8 r2 h2 q2
  cases lg with
  | true =>
    rw [if_pos rfl] at ht
    obtain ⟨v, rfl⟩ := ht
    exact kk (.long v) A2 B2 H2 locs2 (by unfold isV; rw [if_pos rfl]; exact ⟨v, rfl⟩) hR2 hS2 hH2
  | false =>
    rw [if_neg (by decide)] at ht
    obtain ⟨v, rfl⟩ := ht
    exact kk (.int v) A2 B2 H2 locs2 (by unfold isV; rw [if_neg (by decide)]; exact ⟨v, rfl⟩) hR2 hS2 hH2
/-- what stands before a case -/
def CT (p : Program) (l : Launch) (e : Env) (s : State) (m : MethodId) (below : List Frame) (meth : Method) (c : Code) (b L : Nat) (xs : Nat → Int32) (w : wd_T) (i : Nat) (ls : Array Slot) (A : Nat → Nat → Int32) (B : Nat → Nat → Int64) (H : Heap) (locs : List Loc) : Prop :=
  lw_At p s m meth c b L xs ∧ va_K (w.1, w.2.1) kcl (wty w) s ∧ NX s ∧ L ≤ 2560 ∧ i + 5 ≤ L ∧ lv_has ls 4 (lvs b s.heap.size i) ∧ Rel A ∧ va_S (fun q => s.heap.size ≤ q) s.heap H locs ∧ HR w s.heap.size (hp A B) H ∧ ∀ (A' : Nat → Nat → Int32) (B' : Nat → Nat → Int64) (H' : Heap) (locs' : List Loc), Rel A' → va_S (fun q => s.heap.size ≤ q) s.heap H' locs' → HR w s.heap.size (hp A' B') H' → LWr p l e s m below meth c b H' locs' (F0 m 1317 ls [])
def preB (pc : Nat) (js : List Nat) (j7 j8 x7 x8 : Nat) : Bool := dcq pc (.aload_n 1) 1 && (argB (pc + 1) js && (dcq (pc + 1 + 5 * js.length) (.invokevirtual j7) 3 && (dcq (pc + 1 + 5 * js.length + 3) (.aload_n 2) 1 && (argB (pc + 1 + 5 * js.length + 3 + 1) js && (dcq (pc + 1 + 5 * js.length + 3 + 1 + 5 * js.length) (.invokevirtual j8) 3 && (has3 mlL 11 j7 x7 && (has3 mlL 11 j8 x8 && (vnB x7 js.length && vnB x8 js.length))))))))
def endI (pc : Nat) (o : Int) : Bool := dcq pc (.if_icmp .eq o) 3 && decide ((pc : Int) + o = ((1317 : Nat) : Int))
def endL (pc : Nat) (o : Int) : Bool := dcq pc .lcmp 1 && (dcq (pc + 1) (.ifCond .eq o) 3 && decide (((pc + 1 : Nat) : Int) + o = ((1317 : Nat) : Int)))
theorem pre_ok (h : CT p l e s m below meth c b L xs w i ls A B H locs) {pc j7 j8 x7 x8 : Nat} {js : List Nat} {M7 M8 : mt_T} {lg : Bool} (hM7 : mOK M7) (hM8 : mOK M8) (e7 : mn x7 = M7.1) (e8 : mn x8 = M8.1) (k7 : kC 5 = M7.1.cls) (k8 : kC 6 = M8.1.cls) (hc : preB pc js j7 j8 x7 x8 = true) (hG : Good M7 M8 (js.map (fun j => Value.int (xs (i + j)))) lg)
    (kk : ∀ (r : Value) (A' : Nat → Nat → Int32) (B' : Nat → Nat → Int64) (H' : Heap) (locs' : List Loc), isV lg r → Rel A' → va_S (fun q => s.heap.size ≤ q) s.heap H' locs' → HR w s.heap.size (hp A' B') H' → LWr p l e s m below meth c b H' locs' (F0 m (pc + 1 + 5 * js.length + 3 + 1 + 5 * js.length + 3) ls [r, r])) : LWr p l e s m below meth c b H locs (F0 m pc ls []) := by
  obtain ⟨C0, hK, hN, hL, hi, hl, hA, hS, hH, -⟩ := h
  unfold preB at hc
  simp only [Bool.and_eq_true] at hc
  obtain ⟨h1, h2, h3, h4, h5, h6, h7, h8, h9, h10⟩ := hc
  refine la_pre C0 hK hN hl (n := 5 * js.length) hM7 hM8 e7 e8 k7 k8 (by rw [List.map_map]; rfl) (dcq_ok h1) (ld_n C0 hL hi hl js _ h2) (dcq_ok h3) (dcq_ok h4) (ld_n C0 hL hi hl js _ h5) (dcq_ok h6) h7 h8 (by rw [List.length_map]; exact h9) (by rw [List.length_map]; exact h10) hG hA hS hH kk
theorem la_I (h : CT p l e s m below meth c b L xs w i ls A B H locs) {pc j7 j8 x7 x8 : Nat} {o : Int} {js : List Nat} {M7 M8 : mt_T} (hM7 : mOK M7) (hM8 : mOK M8) (e7 : mn x7 = M7.1) (e8 : mn x8 = M8.1) (k7 : kC 5 = M7.1.cls) (k8 : kC 6 = M8.1.cls) (hc : (preB pc js j7 j8 x7 x8 && endI (pc + 1 + 5 * js.length + 3 + 1 + 5 * js.length + 3) o) = true) (hG : Good M7 M8 (js.map (fun j => Value.int (xs (i + j)))) false) : LWr p l e s m below meth c b H locs (F0 m pc ls []) := by
  rw [Bool.and_eq_true] at hc
  have h2 := hc.2
  unfold endI at h2
  simp only [Bool.and_eq_true, decide_eq_true_eq] at h2
  refine pre_ok h hM7 hM8 e7 e8 k7 k8 hc.1 hG (fun r A' B' H' locs' hv hA' hS' hH' => ?_)
  obtain ⟨v, rfl⟩ := hv
  refine lv_icmp_eq (tgt := 1317) h.1.1 h.1.2.1 (dcq_ok h2.1) h2.2 (fun _ => ?_) (fun q => absurd rfl q)
  exact h.2.2.2.2.2.2.2.2.2 A' B' H' locs' hA' hS' hH'
theorem la_L (h : CT p l e s m below meth c b L xs w i ls A B H locs) {pc j7 j8 x7 x8 : Nat} {o : Int} {js : List Nat} {M7 M8 : mt_T} (hM7 : mOK M7) (hM8 : mOK M8) (e7 : mn x7 = M7.1) (e8 : mn x8 = M8.1) (k7 : kC 5 = M7.1.cls) (k8 : kC 6 = M8.1.cls) (hc : (preB pc js j7 j8 x7 x8 && endL (pc + 1 + 5 * js.length + 3 + 1 + 5 * js.length + 3) o) = true) (hG : Good M7 M8 (js.map (fun j => Value.int (xs (i + j)))) true) : LWr p l e s m below meth c b H locs (F0 m pc ls []) := by
  rw [Bool.and_eq_true] at hc
  have h2 := hc.2
  unfold endL at h2
  simp only [Bool.and_eq_true, decide_eq_true_eq] at h2
  refine pre_ok h hM7 hM8 e7 e8 k7 k8 hc.1 hG (fun r A' B' H' locs' hv hA' hS' hH' => ?_)
  obtain ⟨v, rfl⟩ := hv
  refine W.lcmp h.1.1 h.1.2.1 (dcq_ok h2.1) ?_
  rw [lgc_eq.mpr rfl]
  refine lv_if_eq (tgt := 1317) h.1.1 h.1.2.1 (dcq_ok h2.2.1) h2.2.2 (fun _ => ?_) (fun q => absurd rfl q)
  exact h.2.2.2.2.2.2.2.2.2 A' B' H' locs' hA' hS' hH'
end LAWP
