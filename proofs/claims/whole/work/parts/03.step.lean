def lkf : List (Nat × Instr × Nat × Nat) → Nat → Option (Instr × Nat × Nat)
  | [], _ => none
  | (a, r) :: t, pc => bif Nat.beq a pc then some r else lkf t pc
theorem lkf_mem : ∀ {t : List (Nat × Instr × Nat × Nat)} {pc : Nat} {r : Instr × Nat × Nat}, lkf t pc = some r → (pc, r) ∈ t
  | [], pc, r, h => by simp [lkf] at h
  | (a, q) :: t, pc, r, h => by
    simp only [lkf] at h
    cases hb : Nat.beq a pc with
    | true =>
      rw [hb] at h
      have e : a = pc := Nat.eq_of_beq_eq_true hb
      simp at h
      subst h; subst e
      exact List.mem_cons_self
    | false =>
      rw [hb] at h
      exact List.mem_cons_of_mem _ (lkf_mem h)
def ilen (i : Instr) : Nat := match i with
  | .bipush _ => 2
  | .ldc _ => 2
  | .iload _ => 2
  | .lload _ => 2
  | .aload _ => 2
  | .istore _ => 2
  | .lstore _ => 2
  | .astore _ => 2
  | .newarray _ => 2
  | .sipush _ => 3
  | .ldc2_w _ => 3
  | .iinc _ _ => 3
  | .goto _ => 3
  | .ifCond _ _ => 3
  | .if_icmp _ _ => 3
  | .getfield _ => 3
  | .putfield _ => 3
  | .invokevirtual _ => 3
  | .invokestatic _ => 3
  | .invokespecial _ => 3
  | .new _ => 3
  | .anewarray _ => 3
  | .tableswitch _ _ _ _ => 0
  | .lookupswitch _ _ => 0
  | _ => 1
def has3 (l : List (Nat × Nat × Nat × Nat)) (a b x : Nat) : Bool := l.any (fun q => Nat.beq q.1 a && (Nat.beq q.2.1 b && Nat.beq q.2.2.1 x))
def has2 (l : List (Nat × Nat × Nat)) (a b : Nat) : Bool := l.any (fun q => Nat.beq q.1 a && Nat.beq q.2.1 b)
def auxB (cid pc : Nat) (i : Instr) (x : Nat) : Bool := match i with
  | .iconst n => decide (ics[x]? = some (Int32.ofInt n))
  | .bipush n => decide (ics[x]? = some (Int8.ofInt n).toInt32)
  | .sipush n => decide (ics[x]? = some (Int16.ofInt n).toInt32)
  | .iinc _ n => decide (ics[x]? = some (Int32.ofInt n))
  | .ldc j => has3 icL cid j x
  | .lconst n => decide (lcs[x]? = some (Int64.ofNat (n : Nat)))
  | .ldc2_w j => has3 lcL cid j x
  | .ifCond _ o => decide ((pc : Int) + o = (x : Int))
  | .if_icmp _ o => decide ((pc : Int) + o = (x : Int))
  | .goto o => decide ((pc : Int) + o = (x : Int))
  | .getfield j => has3 flN cid j x || has3 flX cid j x
  | .putfield j => has3 flN cid j x || has3 flX cid j x
  | .invokevirtual j => has3 mlL cid j x
  | .invokestatic j => has3 mlL cid j x || (Nat.beq x 1001 && has2 acL cid j)
  | .invokespecial j => has3 mlL cid j x || (Nat.beq x 1000 && has2 oiL cid j)
  | .new j => has3 clL cid j x
  | .anewarray j => has3 clL cid j x
  | _ => true
def rowB (cc : ByteArray) (cid : Nat) (q : Nat × Instr × Nat × Nat) : Bool :=
  decide (decode cc q.1 = .ok (q.2.1, q.2.2.1 - q.1)) && (Nat.blt q.1 q.2.2.1 && ((Nat.beq (ilen q.2.1) 0 || Nat.beq (q.2.2.1 - q.1) (ilen q.2.1)) && auxB cid q.1 q.2.1 q.2.2.2))
def m_ok (M : mt_T) : Bool := (plainFor M.1 && (decide (cn M.2.2.2.2.1 = M.1.cls) && Nat.ble M.2.2.1 21)) && M.2.2.2.2.2.all (rowB M.2.1 M.2.2.2.2.1)
abbrev m_tab (M : mt_T) : List (Nat × Instr × Nat × Nat) := M.2.2.2.2.2
abbrev m_cw (M : mt_T) : Cond := Cond.code M.1 M.2.1 M.2.2.1 M.2.2.2.1
def mOK (M : mt_T) : Prop := m_ok M = true ∧ m_cw M ∈ lw_tbl
theorem m_row {M : mt_T} (hM : mOK M) {pc np x : Nat} {i : Instr} (hi : lkf (m_tab M) pc = some (i, np, x)) : decode M.2.1 pc = .ok (i, np - pc) ∧ pc < np ∧ (ilen i = 0 ∨ np - pc = ilen i) ∧ auxB M.2.2.2.2.1 pc i x = true := by
  have h := hM.1
  unfold m_ok at h
  simp only [Bool.and_eq_true] at h
  have h1 := List.all_eq_true.mp h.2 _ (lkf_mem hi)
  unfold rowB at h1
  simp only [Bool.and_eq_true, Bool.or_eq_true, decide_eq_true_eq] at h1
  obtain ⟨e1, e2, e3, e4⟩ := h1
  have e2' : pc < np := by simpa [Nat.blt_eq] using e2
  refine ⟨e1, e2', ?_, e4⟩
  rcases e3 with e3 | e3
  · exact Or.inl (Nat.eq_of_beq_eq_true e3)
  · exact Or.inr (Nat.eq_of_beq_eq_true e3)
theorem m_dec {M : mt_T} (hM : mOK M) {pc np x : Nat} {i : Instr} (hi : lkf (m_tab M) pc = some (i, np, x)) (hz : ilen i ≠ 0) : decode M.2.1 pc = .ok (i, ilen i) ∧ np = pc + ilen i ∧ auxB M.2.2.2.2.1 pc i x = true := by
  obtain ⟨h1, h2, h3, h4⟩ := m_row hM hi
  have h3 : np - pc = ilen i := by rcases h3 with h | h; exact absurd h hz; exact h
  exact ⟨by rw [← h3]; exact h1, by omega, h4⟩
theorem m_cn {M : mt_T} (hM : mOK M) : cn M.2.2.2.2.1 = M.1.cls ∧ M.2.2.1 ≤ 21 ∧ plainFor M.1 = true := by
  have h := hM.1
  unfold m_ok at h
  simp only [Bool.and_eq_true, decide_eq_true_eq] at h
  exact ⟨h.1.2.1, Nat.le_of_ble_eq_true h.1.2.2, h.1.1⟩
theorem has3_ex {l : List (Nat × Nat × Nat × Nat)} {a b x : Nat} (h : has3 l a b x = true) : ∃ p, (a, b, x, p) ∈ l := by
  unfold has3 at h
  obtain ⟨q, hq, h1⟩ := List.any_eq_true.mp h
  simp only [Bool.and_eq_true] at h1
  obtain ⟨q1, q2, q3, q4⟩ := q
  have e1 := Nat.eq_of_beq_eq_true h1.1
  have e2 := Nat.eq_of_beq_eq_true h1.2.1
  have e3 := Nat.eq_of_beq_eq_true h1.2.2
  simp only at e1 e2 e3
  subst e1; subst e2; subst e3
  exact ⟨q4, hq⟩
theorem has2_ex {l : List (Nat × Nat × Nat)} {a b : Nat} (h : has2 l a b = true) : ∃ p, (a, b, p) ∈ l := by
  unfold has2 at h
  obtain ⟨q, hq, h1⟩ := List.any_eq_true.mp h
  simp only [Bool.and_eq_true] at h1
  obtain ⟨q1, q2, q3⟩ := q
  have e1 := Nat.eq_of_beq_eq_true h1.1
  have e2 := Nat.eq_of_beq_eq_true h1.2
  simp only at e1 e2
  subst e1; subst e2
  exact ⟨q3, hq⟩
/-! facts of the lists -/
set_option maxRecDepth 100000 in
theorem icL_ok : icL.all (fun q => (match ics[q.2.2.1]? with | some v => decide (lw_tbl[q.2.2.2]? = some (.constant (cn q.1) q.2.1 v)) | none => false)) = true := by decide +kernel
set_option maxRecDepth 100000 in
theorem lcL_ok : lcL.all (fun q => (match lcs[q.2.2.1]? with | some v => decide (lw_tbl[q.2.2.2]? = some (.constantLong (cn q.1) q.2.1 v)) | none => false)) = true := by decide +kernel
theorem icL_w {a b x p : Nat} (h : (a, b, x, p) ∈ icL) {v : Int32} (hv : ics[x]? = some v) : Cond.constant (cn a) b v ∈ tg := by
  have h1 := List.all_eq_true.mp icL_ok _ h
  simp only [hv, decide_eq_true_eq] at h1
  exact tg_at h1 rfl
theorem lcL_w {a b x p : Nat} (h : (a, b, x, p) ∈ lcL) {v : Int64} (hv : lcs[x]? = some v) : Cond.constantLong (cn a) b v ∈ tg := by
  have h1 := List.all_eq_true.mp lcL_ok _ h
  simp only [hv, decide_eq_true_eq] at h1
  exact tg_at h1 rfl
/-! the judgement -/
def rmR (d mc ms : Nat) : Room := { frames := d + 2, cells := mc, slots := ms, locals := 40 * d + 60 }
def QcR (w : wd_T) (b mc : Nat) (Q : Option Value → hp_T → Prop) : Array Value → State → Outcome → State → Prop := fun _ st oc t => (∃ r h', Q r h' ∧ oc = .returned (r.map (cvV b)) ∧ HR w b h' t.heap ∧ st.heap.size + mc ≤ b + h'.length) ∧ va_F (fun q => b ≤ q) st t
def V (M : mt_T) (d mc ms : Nat) (Q : Option Value → hp_T → Prop) (k n : Nat) (pc : Nat) (L : List (Option Value)) (st : List Value) (h : hp_T) : Prop :=
  ∀ (p : Program) (l : Launch) (e : Env) (s : State) (m : MethodId) (args : Array Value) (below : List Frame) (meth : Method) (c : Code) (w : wd_T) (b : Nat) (H : Heap) (locs : List Loc) (ls : Array Slot),
    Cx p s m args meth c M w b → va_S (fun q => b ≤ q) s.heap H locs → HR w b h H → s.heap.size + k ≤ b + h.length → LR b ls M.2.2.1 L →
    W p l e (rmR d mc ms) s m args below meth c H locs k n (MQ below (QcR w b mc Q) args s mc ms (fun q => b ≤ q)) (F0 m pc ls (st.map (cvV b)))
/-! straight steps -/
def stK1 {R : Type} : List (Option Value) → Nat → Value → (List (Option Value) → Option R) → Option R
  | [], _, _, _ => none
  | _ :: t, 0, v, K => K (some v :: t)
  | a :: t, 1, v, K => match a with
    | some (.int y) => stK1 t 0 v (fun t' => K (some (.int y) :: t'))
    | some (.ref y) => stK1 t 0 v (fun t' => K (some (.ref y) :: t'))
    | some (.long _) => stK1 t 0 v (fun t' => K (none :: t'))
    | none => stK1 t 0 v (fun t' => K (none :: t'))
    | a => stK1 t 0 v (fun t' => K (drL a :: t'))
  | a :: t, i + 2, v, K => stK1 t (i + 1) v (fun t' => K (a :: t'))
def stK2 {R : Type} : List (Option Value) → Nat → Value → (List (Option Value) → Option R) → Option R
  | [], _, _, _ => none
  | _ :: _ :: t, 0, v, K => K (some v :: none :: t)
  | _ :: [], 0, _, _ => none
  | a :: t, 1, v, K => match a with
    | some (.int y) => stK2 t 0 v (fun t' => K (some (.int y) :: t'))
    | some (.ref y) => stK2 t 0 v (fun t' => K (some (.ref y) :: t'))
    | some (.long _) => stK2 t 0 v (fun t' => K (none :: t'))
    | none => stK2 t 0 v (fun t' => K (none :: t'))
    | a => stK2 t 0 v (fun t' => K (drL a :: t'))
  | a :: t, i + 2, v, K => stK2 t (i + 1) v (fun t' => K (a :: t'))
theorem stK1_eq {R : Type} : ∀ (L : List (Option Value)) (i : Nat) (v : Value) (K : List (Option Value) → Option R), stK1 L i v K = (st1 L i v).bind K
  | [], _, _, _ => rfl
  | _ :: t, 0, v, K => rfl
  | a :: t, 1, v, K => by
    have ih := fun K => stK1_eq (R := R) t 0 v K
    cases a with
    | none => simp only [stK1, st1, ih]; cases st1 t 0 v <;> rfl
    | some y => cases y <;> (simp only [stK1, st1, ih]; cases st1 t 0 v <;> rfl)
  | a :: t, i + 2, v, K => by
    simp only [stK1, st1, stK1_eq t (i + 1)]
    cases st1 t (i + 1) v <;> rfl
theorem stK2_eq {R : Type} : ∀ (L : List (Option Value)) (i : Nat) (v : Value) (K : List (Option Value) → Option R), stK2 L i v K = (st2 L i v).bind K
  | [], _, _, _ => rfl
  | _ :: _ :: t, 0, v, K => rfl
  | [_], 0, v, K => rfl
  | a :: t, 1, v, K => by
    have ih := fun K => stK2_eq (R := R) t 0 v K
    have e : st2 (a :: t) 1 v = (st2 t 0 v).map (fun t' => drL a :: t') := by cases t <;> rfl
    rw [e]
    cases t with
    | nil => cases a with
      | none => rfl
      | some y => cases y <;> rfl
    | cons b t =>
    cases a with
    | none => simp only [stK2, ih]; cases st2 (b :: t) 0 v <;> rfl
    | some y => cases y <;> (simp only [stK2, ih]; cases st2 (b :: t) 0 v <;> rfl)
  | a :: t, i + 2, v, K => by
    have e : st2 (a :: t) (i + 2) v = (st2 t (i + 1) v).map (fun t' => a :: t') := by cases t <;> rfl
    have e2 : stK2 (a :: t) (i + 2) v K = stK2 t (i + 1) v (fun t' => K (a :: t')) := by cases t <;> rfl
    rw [e, e2, stK2_eq t (i + 1)]
    cases st2 t (i + 1) v <;> rfl
def stp (i : Instr) (np x : Nat) (L : List (Option Value)) (st : List Value) : Option (Nat × List (Option Value) × List Value) := match i with
  | .iconst _ => match ics[x]? with
    | some v => some (np, L, .int v :: st)
    | none => none
  | .bipush _ => match ics[x]? with
    | some v => some (np, L, .int v :: st)
    | none => none
  | .sipush _ => match ics[x]? with
    | some v => some (np, L, .int v :: st)
    | none => none
  | .ldc _ => match ics[x]? with
    | some v => some (np, L, .int v :: st)
    | none => none
  | .lconst _ => match lcs[x]? with
    | some v => some (np, L, .long v :: st)
    | none => none
  | .ldc2_w _ => match lcs[x]? with
    | some v => some (np, L, .long v :: st)
    | none => none
  | .iload_n n => match ldL L n.val with
    | some (.int v) => some (np, L, .int v :: st)
    | _ => none
  | .iload n => match ldL L n with
    | some (.int v) => some (np, L, .int v :: st)
    | _ => none
  | .lload_n n => match ldL L n.val with
    | some (.long v) => some (np, L, .long v :: st)
    | _ => none
  | .lload n => match ldL L n with
    | some (.long v) => some (np, L, .long v :: st)
    | _ => none
  | .aload_n n => match ldL L n.val with
    | some (.ref v) => some (np, L, .ref v :: st)
    | _ => none
  | .istore_n n => match st with
    | .int v :: st => stK1 L n.val (.int v) (fun L' => some (np, L', st))
    | _ => none
  | .istore n => match st with
    | .int v :: st => stK1 L n (.int v) (fun L' => some (np, L', st))
    | _ => none
  | .lstore_n n => match st with
    | .long v :: st => stK2 L n.val (.long v) (fun L' => some (np, L', st))
    | _ => none
  | .lstore n => match st with
    | .long v :: st => stK2 L n (.long v) (fun L' => some (np, L', st))
    | _ => none
  | .astore_n n => match st with
    | .ref v :: st => stK1 L n.val (.ref v) (fun L' => some (np, L', st))
    | _ => none
  | .iinc n _ => match ldL L n with
    | some (.int v) => match ics[x]? with
      | some u => stK1 L n (.int (v + u)) (fun L' => some (np, L', st))
      | none => none
    | _ => none
  | .iadd => match st with
    | .int y :: .int z :: st => some (np, L, .int (z + y) :: st)
    | _ => none
  | .isub => match st with
    | .int y :: .int z :: st => some (np, L, .int (z - y) :: st)
    | _ => none
  | .imul => match st with
    | .int y :: .int z :: st => some (np, L, .int (z * y) :: st)
    | _ => none
  | .iand => match st with
    | .int y :: .int z :: st => some (np, L, .int (z &&& y) :: st)
    | _ => none
  | .ior => match st with
    | .int y :: .int z :: st => some (np, L, .int (z ||| y) :: st)
    | _ => none
  | .ixor => match st with
    | .int y :: .int z :: st => some (np, L, .int (z ^^^ y) :: st)
    | _ => none
  | .ishl => match st with
    | .int y :: .int z :: st => some (np, L, .int (z <<< (y &&& 31)) :: st)
    | _ => none
  | .ishr => match st with
    | .int y :: .int z :: st => some (np, L, .int (z >>> (y &&& 31)) :: st)
    | _ => none
  | .ineg => match st with
    | .int z :: st => some (np, L, .int (-z) :: st)
    | _ => none
  | .ladd => match st with
    | .long y :: .long z :: st => some (np, L, .long (z + y) :: st)
    | _ => none
  | .lsub => match st with
    | .long y :: .long z :: st => some (np, L, .long (z - y) :: st)
    | _ => none
  | .lmul => match st with
    | .long y :: .long z :: st => some (np, L, .long (z * y) :: st)
    | _ => none
  | .i2l => match st with
    | .int z :: st => some (np, L, .long z.toInt64 :: st)
    | _ => none
  | .l2i => match st with
    | .long z :: st => some (np, L, .int z.toInt32 :: st)
    | _ => none
  | .lcmp => match st with
    | .long y :: .long z :: st => some (np, L, .int (lg_cmp z y) :: st)
    | _ => none
  | .dup => match st with
    | .int y :: st => some (np, L, .int y :: .int y :: st)
    | .ref y :: st => some (np, L, .ref y :: .ref y :: st)
    | _ => none
  | .dup2 => match st with
    | .int y :: .ref z :: st => some (np, L, .int y :: .ref z :: .int y :: .ref z :: st)
    | _ => none
  | .pop => match st with
    | .int _ :: st => some (np, L, st)
    | _ => none
  | .goto _ => some (x, L, st)
  | _ => none
set_option maxHeartbeats 4000000 in
theorem V.s {M : mt_T} {d mc ms k n pc np x np' : Nat} {i : Instr} {Q : Option Value → hp_T → Prop} {L L' : List (Option Value)} {st st' : List Value} {h : hp_T} (hM : mOK M) (hi : lkf (m_tab M) pc = some (i, np, x)) (hs : stp i np x L st = some (np', L', st')) (kk : V M d mc ms Q k n np' L' st' h) : V M d mc ms Q k n pc L st h := by
  have hz : ilen i ≠ 0 := by
    intro hz
    cases i <;> first | (cases hs; done) | (simp [ilen] at hz)
  obtain ⟨hd, hnp, hax⟩ := m_dec hM hi hz
  have hcn := (m_cn hM).1
  intro p l e s m args below meth c w b H locs ls X hS hH hZ hL
  have kk := fun ls' hL' => kk p l e s m args below meth c w b H locs ls' X hS hH hZ hL'
  obtain ⟨hx, hb, hml, hown, hts, -, -, -, -, -, -⟩ := id X
  rw [← hcn] at hown
  subst hnp
  cases i with
  | iconst j =>
    simp only [stp] at hs
    split at hs
    · next v hv =>
      cases hs
      have hax : ics[x]? = some (Int32.ofInt j) := of_decide_eq_true hax
      exact lv_iconst hx hb hd (Option.some.inj (hax.symm.trans hv)) (kk ls hL)
    · cases hs
  | bipush j =>
    simp only [stp] at hs
    split at hs
    · next v hv =>
      cases hs
      have hax : ics[x]? = some (Int8.ofInt j).toInt32 := of_decide_eq_true hax
      exact lv_bipush hx hb hd (Option.some.inj (hax.symm.trans hv)) (kk ls hL)
    · cases hs
  | sipush j =>
    simp only [stp] at hs
    split at hs
    · next v hv =>
      cases hs
      have hax : ics[x]? = some (Int16.ofInt j).toInt32 := of_decide_eq_true hax
      exact lv_sipush hx hb hd (Option.some.inj (hax.symm.trans hv)) (kk ls hL)
    · cases hs
  | ldc j =>
    simp only [stp] at hs
    split at hs
    · next v hv =>
      cases hs
      obtain ⟨p0, hp0⟩ := has3_ex (show has3 icL M.2.2.2.2.1 j x = true from hax)
      exact lv_ldc hx hb hown (hts _ (icL_w hp0 hv)) hd (kk ls hL)
    · cases hs
  | lconst j =>
    simp only [stp] at hs
    split at hs
    · next v hv =>
      cases hs
      have hax : lcs[x]? = some (Int64.ofNat (j : Nat)) := of_decide_eq_true hax
      exact lv_lconst hx hb hd (Option.some.inj (hax.symm.trans hv)) (kk ls hL)
    · cases hs
  | ldc2_w j =>
    simp only [stp] at hs
    split at hs
    · next v hv =>
      cases hs
      obtain ⟨p0, hp0⟩ := has3_ex (show has3 lcL M.2.2.2.2.1 j x = true from hax)
      exact lv_ldc2 hx hb hown (hts _ (lcL_w hp0 hv)) hd (kk ls hL)
    · cases hs
  | iload_n j =>
    simp only [stp] at hs
    split at hs
    · next v hv => cases hs; exact lv_iload_n hx hb hd rfl (hL.at hv) (kk ls hL)
    · cases hs
  | iload j =>
    simp only [stp] at hs
    split at hs
    · next v hv => cases hs; exact lv_iload hx hb hd (hL.at hv) (kk ls hL)
    · cases hs
  | lload_n j =>
    simp only [stp] at hs
    split at hs
    · next v hv => cases hs; exact lv_lload_n hx hb hd rfl (hL.at hv) (kk ls hL)
    · cases hs
  | lload j =>
    simp only [stp] at hs
    split at hs
    · next v hv => cases hs; exact lv_lload hx hb hd (hL.at hv) (kk ls hL)
    · cases hs
  | aload_n j =>
    simp only [stp] at hs
    split at hs
    · next v hv => cases hs; exact lv_aload_n hx hb hd rfl (hL.at hv) (kk ls hL)
    · cases hs
  | istore_n j =>
    simp only [stp] at hs
    split at hs
    · next _ v st0 =>
      rw [stK1_eq] at hs
      cases hv : st1 L j.val (.int v) with
      | none => rw [hv] at hs; cases hs
      | some L0 =>
        rw [hv] at hs
        cases hs
        exact lv_istore_n hx hb hd rfl hL.2 (by have := (st1_spec hv).1; have := hL.1; omega) rfl (fun ls' h' => kk ls' (LR.st1 hL.1 hv h'))
    · cases hs
  | istore j =>
    simp only [stp] at hs
    split at hs
    · next _ v st0 =>
      rw [stK1_eq] at hs
      cases hv : st1 L j (.int v) with
      | none => rw [hv] at hs; cases hs
      | some L0 =>
        rw [hv] at hs
        cases hs
        exact lv_istore hx hb hd hL.2 (by have := (st1_spec hv).1; have := hL.1; omega) rfl (fun ls' h' => kk ls' (LR.st1 hL.1 hv h'))
    · cases hs
  | lstore_n j =>
    simp only [stp] at hs
    split at hs
    · next _ v st0 =>
      rw [stK2_eq] at hs
      cases hv : st2 L j.val (.long v) with
      | none => rw [hv] at hs; cases hs
      | some L0 =>
        rw [hv] at hs
        cases hs
        exact lv_lstore_n hx hb hd rfl hL.2 (by have := (st2_spec hv).1; have := hL.1; omega) rfl (fun ls' h' => kk ls' (LR.st2 hL.1 hv h'))
    · cases hs
  | lstore j =>
    simp only [stp] at hs
    split at hs
    · next _ v st0 =>
      rw [stK2_eq] at hs
      cases hv : st2 L j (.long v) with
      | none => rw [hv] at hs; cases hs
      | some L0 =>
        rw [hv] at hs
        cases hs
        exact lv_lstore hx hb hd hL.2 (by have := (st2_spec hv).1; have := hL.1; omega) rfl (fun ls' h' => kk ls' (LR.st2 hL.1 hv h'))
    · cases hs
  | astore_n j =>
    simp only [stp] at hs
    split at hs
    · next _ v st0 =>
      rw [stK1_eq] at hs
      cases hv : st1 L j.val (.ref v) with
      | none => rw [hv] at hs; cases hs
      | some L0 =>
        rw [hv] at hs
        cases hs
        exact lv_astore_n hx hb hd rfl hL.2 (by have := (st1_spec hv).1; have := hL.1; omega) rfl (fun ls' h' => kk ls' (LR.st1 hL.1 hv h'))
    · cases hs
  | iinc j q =>
    simp only [stp] at hs
    split at hs
    · next v hv =>
      split at hs
      · next u hu =>
        rw [stK1_eq] at hs
        cases hv2 : st1 L j (.int (v + u)) with
        | none => rw [hv2] at hs; cases hs
        | some L0 =>
          rw [hv2] at hs
          cases hs
          have hax : ics[x]? = some (Int32.ofInt q) := of_decide_eq_true hax
          obtain ⟨kq, hkq⟩ := List.getElem?_of_mem (asl_in (b := b) (k := 0) (ldL_get hv))
          rw [Nat.zero_add] at hkq
          exact lv_iinc (v := v + u) hx hb hd hL.2 hkq (by rw [Option.some.inj (hax.symm.trans hu)]) (by have := (st1_spec hv2).1; have := hL.1; omega) rfl (fun ls' h' => kk ls' (LR.st1 hL.1 hv2 h'))
      · cases hs
    · cases hs
  | iadd =>
    simp only [stp] at hs
    split at hs
    · cases hs; exact lv_iadd hx hb hd (kk ls hL)
    · cases hs
  | isub =>
    simp only [stp] at hs
    split at hs
    · cases hs; exact lv_isub hx hb hd (kk ls hL)
    · cases hs
  | imul =>
    simp only [stp] at hs
    split at hs
    · cases hs; exact lv_imul hx hb hd (kk ls hL)
    · cases hs
  | iand =>
    simp only [stp] at hs
    split at hs
    · cases hs; exact lv_iand hx hb hd (kk ls hL)
    · cases hs
  | ior =>
    simp only [stp] at hs
    split at hs
    · cases hs; exact lv_ior hx hb hd (kk ls hL)
    · cases hs
  | ixor =>
    simp only [stp] at hs
    split at hs
    · cases hs; exact lv_ixor hx hb hd (kk ls hL)
    · cases hs
  | ishl =>
    simp only [stp] at hs
    split at hs
    · cases hs; exact lv_ishl hx hb hd (kk ls hL)
    · cases hs
  | ishr =>
    simp only [stp] at hs
    split at hs
    · cases hs; exact lv_ishr hx hb hd (kk ls hL)
    · cases hs
  | ineg =>
    simp only [stp] at hs
    split at hs
    · cases hs; exact lv_ineg hx hb hd (kk ls hL)
    · cases hs
  | ladd =>
    simp only [stp] at hs
    split at hs
    · cases hs; exact lv_ladd hx hb hd (kk ls hL)
    · cases hs
  | lsub =>
    simp only [stp] at hs
    split at hs
    · cases hs; exact lv_lsub hx hb hd (kk ls hL)
    · cases hs
  | lmul =>
    simp only [stp] at hs
    split at hs
    · cases hs; exact lv_lmul hx hb hd (kk ls hL)
    · cases hs
  | i2l =>
    simp only [stp] at hs
    split at hs
    · cases hs; exact lv_i2l hx hb hd rfl (kk ls hL)
    · cases hs
  | l2i =>
    simp only [stp] at hs
    split at hs
    · cases hs; exact lv_l2i hx hb hd rfl (kk ls hL)
    · cases hs
  | lcmp =>
    simp only [stp] at hs
    split at hs
    · cases hs; exact W.lcmp hx hb hd (kk ls hL)
    · cases hs
  | dup =>
    simp only [stp] at hs
    split at hs
    · cases hs; exact lv_dup hx hb hd rfl (kk ls hL)
    · cases hs; exact lv_dup hx hb hd rfl (kk ls hL)
    · cases hs
  | dup2 =>
    simp only [stp] at hs
    split at hs
    · cases hs; exact lv_dup2_11 hx hb hd rfl rfl (kk ls hL)
    · cases hs
  | pop =>
    simp only [stp] at hs
    split at hs
    · cases hs; exact lv_pop hx hb hd rfl (kk ls hL)
    · cases hs
  | goto o =>
    simp only [stp] at hs
    cases hs
    exact lv_goto hx hb hd (of_decide_eq_true hax) (kk ls hL)
  | _ => cases hs
