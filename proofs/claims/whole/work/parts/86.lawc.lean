section LAWC
def dcq (pc : Nat) (i : Instr) (n : Nat) : Bool := decide (decode code pc = .ok (i, n))
theorem dcq_ok {pc n : Nat} {i : Instr} (h : dcq pc i n = true) : decode code pc = .ok (i, n) := of_decide_eq_true h
/-- the rows that load the words j of the script -/
def argB : Nat → List Nat → Bool
  | _, [] => true
  | pc, j :: js => (Nat.blt j 5 && (dcq pc (.aload_n 0) 1 && (dcq (pc + 1) (.iload_n 3) 1 && (dcq (pc + 2) (.iconst (Int.ofNat j)) 1 && (dcq (pc + 3) .iadd 1 && dcq (pc + 4) .iaload 1))))) && argB (pc + 5) js
abbrev LWr (p : Program) (l : Launch) (e : Env) (s : State) (m : MethodId) (below : List Frame) (meth : Method) (c : Code) (b : Nat) (H : Heap) (locs : List Loc) (g : JFrame) : Prop := W p l e room_1 s m #[Value.ref b] below meth c H locs 51 3802 (lw_Z below #[Value.ref b] s) g
abbrev lvs (b z i : Nat) : List (Nat × Value) := [(0, .ref b), (1, .ref (z + 0)), (2, .ref (z + 33)), (3, .int (nI i))]
variable {p : Program} {l : Launch} {e : Env} {s : State} {m : MethodId} {below : List Frame} {meth : Method} {c : Code} {b L : Nat} {xs : Nat → Int32} {w : wd_T} {i : Nat} {ls : Array Slot} {A : Nat → Nat → Int32} {B : Nat → Nat → Int64} {H : Heap} {locs : List Loc}
def LD (p : Program) (l : Launch) (e : Env) (s : State) (m : MethodId) (below : List Frame) (meth : Method) (c : Code) (b : Nat) (ls : Array Slot) (pc n : Nat) (as : List Value) : Prop := ∀ (H : Heap) (locs : List Loc) (st : List Value), va_S (fun q => s.heap.size ≤ q) s.heap H locs → LWr p l e s m below meth c b H locs (F0 m (pc + n) ls (as.reverse ++ st)) → LWr p l e s m below meth c b H locs (F0 m pc ls st)
theorem ic_nI {j : Nat} (h : j < 5) : Int32.ofInt (Int.ofNat j) = nI j := by
  rcases (show j = 0 ∨ j = 1 ∨ j = 2 ∨ j = 3 ∨ j = 4 by omega) with rfl | rfl | rfl | rfl | rfl <;> rfl
/-- one word of the script -/
theorem ld_1 (C0 : lw_At p s m meth c b L xs) (hL : L ≤ 2560) (hi : i + 5 ≤ L) (hl : lv_has ls 4 (lvs b s.heap.size i)) {j pc : Nat} (h : (Nat.blt j 5 && (dcq pc (.aload_n 0) 1 && (dcq (pc + 1) (.iload_n 3) 1 && (dcq (pc + 2) (.iconst (Int.ofNat j)) 1 && (dcq (pc + 3) .iadd 1 && dcq (pc + 4) .iaload 1))))) = true) {st : List Value} (hS : va_S (fun q => s.heap.size ≤ q) s.heap H locs) (kk : LWr p l e s m below meth c b H locs (F0 m (pc + 5) ls (.int (xs (i + j)) :: st))) : LWr p l e s m below meth c b H locs (F0 m pc ls st) := by
  obtain ⟨hx, hb, hr, hml, hown, hts, hX, hbl, hlocks, hgv⟩ := C0
  simp only [Bool.and_eq_true] at h
  obtain ⟨hj, h1, h2, h3, h4, h5⟩ := h
  have hj : j < 5 := by simpa [Nat.blt_eq] using hj
  refine lv_aload_n hx hb (dcq_ok h1) rfl (lv_at hl 0 rfl) ?_
  refine lv_iload_n hx hb (dcq_ok h2) rfl (lv_at hl 3 rfl) ?_
  refine lv_iconst hx hb (dcq_ok h3) (ic_nI hj) ?_
  refine lv_iadd hx hb (dcq_ok h4) ?_
  rw [nI_add]
  refine va_sld hx hb hX hbl (Nat.not_le.mpr hbl) hS (vp_in_nI (show i + j < L by omega) (by omega)) (dcq_ok h5) ?_
  rw [nI_clamp (by omega)]
  exact kk
theorem ld_n (C0 : lw_At p s m meth c b L xs) (hL : L ≤ 2560) (hi : i + 5 ≤ L) (hl : lv_has ls 4 (lvs b s.heap.size i)) : ∀ (js : List Nat) (pc : Nat), argB pc js = true → LD p l e s m below meth c b ls pc (5 * js.length) (js.map (fun j => Value.int (xs (i + j))))
  | [], pc, _ => fun H locs st hS kk => kk
  | j :: js, pc, h => fun H locs st hS kk => by
    simp only [argB, Bool.and_eq_true] at h
    refine ld_1 C0 hL hi hl (j := j) (by simp only [Bool.and_eq_true]; exact h.1) hS ?_
    refine ld_n C0 hL hi hl js (pc + 5) h.2 H locs _ hS ?_
    rw [show pc + 5 + 5 * js.length = pc + 5 * (j :: js).length by simp only [List.length_cons]; omega]
    rw [List.map_cons, List.reverse_cons, List.append_assoc] at kk
    exact kk
theorem rm1 {z : Nat} (r : Option Value) : (((r.map (cvV z)).toList ++ []).map fun (v : Value) => v.category).sum ≤ 8 := by
  cases r with
  | none => exact Nat.zero_le _
  | some v => cases v <;> exact Nat.le_of_ble_eq_true rfl
end LAWC
