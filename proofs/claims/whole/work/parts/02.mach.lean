/-! ===== the abstract machine: cells by their number, addresses from b on ===== -/
abbrev mt_T : Type := MethodName × ByteArray × Nat × Option FieldType × Nat × List (Nat × Instr × Nat × Nat)
abbrev wd_T : Type := (Nat → ClassId) × (Nat → Nat → Nat) × ClassId × ClassId × ClassId
abbrev ac_T : Type := vp_A ⊕ (Nat × List Value)
abbrev hp_T : Type := List ac_T
def cvV (b : Nat) (v : Value) : Value := match v with
  | .ref i => .ref (b + i)
  | v => v
def cvA (b : Nat) (a : vp_A) : vp_A := match a with
  | (n, .inr (.inr (.inr (.inr f)))) => (n, .inr (.inr (.inr (.inr (fun k => (f k).map (fun i => b + i))))))
  | a => a
def cvC (w : wd_T) (a : vp_A) : ClassId := match a.2 with
  | .inl _ => w.2.2.1
  | .inr (.inl _) => w.2.2.2.1
  | _ => w.2.2.2.2
def cvE (w : wd_T) (b : Nat) (c : ac_T) : va_E := match c with
  | .inl a => .inl (cvC w a, cvA b a)
  | .inr o => .inr (o.1, o.2.map (cvV b))
def cvH (w : wd_T) (b : Nat) (h : hp_T) : va_W := h.mapIdx (fun i c => (b + i, cvE w b c))
theorem cvH_get {w : wd_T} {b i : Nat} {h : hp_T} {c : ac_T} (hh : h[i]? = some c) : (cvH w b h)[i]? = some (b + i, cvE w b c) := by
  simp [cvH, hh]
theorem cvH_set {w : wd_T} {b i : Nat} {h : hp_T} {c : ac_T} : cvH w b (h.set i c) = (cvH w b h).set i (b + i, cvE w b c) := by
  apply List.ext_getElem?
  intro j
  by_cases hj : i = j
  · subst hj
    by_cases hl : i < h.length
    · simp [cvH, hl]
    · simp [cvH, hl]
  · simp [cvH, List.getElem?_set_ne hj]
theorem cvH_app {w : wd_T} {b : Nat} {h : hp_T} {c : ac_T} : cvH w b (h ++ [c]) = cvH w b h ++ [(b + h.length, cvE w b c)] := by
  simp [cvH]
theorem cvH_D {w : wd_T} {b : Nat} {h : hp_T} : va_D (fun q => b ≤ q) (cvH w b h) := by
  refine ⟨fun i j x y hi hj hxy => ?_, fun k q hk => ?_⟩
  · simp only [cvH, List.getElem?_mapIdx, Option.map_eq_some_iff] at hi hj
    obtain ⟨c1, -, rfl⟩ := hi
    obtain ⟨c2, -, rfl⟩ := hj
    simp only at hxy
    omega
  · simp only [cvH, List.getElem?_mapIdx, Option.map_eq_some_iff] at hk
    obtain ⟨c1, -, rfl⟩ := hk
    exact Nat.le_add_right _ _
def wty (w : wd_T) : List (ClassId × FieldType) := [(w.2.2.1, .int), (w.2.2.2.1, .long), (w.2.2.2.2, .object "RoundKiss$Quad")]
def HR (w : wd_T) (b : Nat) (h : hp_T) (H : Heap) : Prop := va_P (w.1, w.2.1) kcl (cvH w b h) H
def nxL : List Cond := flX.map (fun q => Cond.fieldLinkNest (cn q.1) q.2.1 (kC (q.2.2.1 / 64)) (kT (q.2.2.1 / 64) (q.2.2.1 % 64)).2.1 (kT (q.2.2.1 / 64) (q.2.2.1 % 64)).2.2.1 "RoundKiss")
def NX (U : State) : Prop := (∀ q ∈ nxL, va_Nw q U) ∧ va_AO "RoundKiss$Quad" U
theorem NX.warm {s U : State} (hW : s.WarmedH U.vm) (h : NX s) : NX U := by
  refine ⟨fun q hq => ?_, h.2.moved hW.alike⟩
  have h1 := h.1 q hq
  obtain ⟨x, -, rfl⟩ := List.mem_map.mp hq
  exact va_Nw.warmF hW h1
theorem NX.same {u U : State} (hv : u.vm = U.vm) (h : NX u) : NX U := by
  refine ⟨fun q hq => ?_, h.2.moved (by rw [hv]; exact Vm.Alike.refl _)⟩
  have h1 := h.1 q hq
  obtain ⟨x, -, rfl⟩ := List.mem_map.mp hq
  exact va_Nw.same rfl hv h1
def tg : List Cond := lw_tbl.filter goodWord
theorem tg_at {p : Nat} {w : Cond} (h : lw_tbl[p]? = some w) (hg : goodWord w = true) : w ∈ tg := List.mem_filter.mpr ⟨List.mem_of_getElem? h, hg⟩
theorem tg_good {ws : List Cond} (h : ∀ w ∈ ws, w ∈ tg) : GoodIn tg ws := fun w hw => ⟨h w hw, good_of_word (List.mem_filter.mp (h w hw)).2⟩
def Cx (p : Program) (s : State) (m : MethodId) (args : Array Value) (meth : Method) (c : Code) (M : mt_T) (w : wd_T) (b : Nat) : Prop :=
  p.tables.exec = Jvm.exec ∧ c.code = M.2.1 ∧ c.maxLocals = M.2.2.1 ∧ s.vm.findClass M.1.cls = some m.cls ∧ (∀ x ∈ tg, x.before args s = true) ∧ meth.sig.returnType = M.2.2.2.1 ∧ meth.locks = false ∧ va_K (w.1, w.2.1) kcl (wty w) s ∧ NX s ∧ meth.name = M.1.name ∧ b ≤ s.heap.size
def asl (b : Nat) : Nat → List (Option Value) → List (Nat × Value)
  | _, [] => []
  | k, none :: t => asl b (k + 1) t
  | k, some v :: t => (k, cvV b v) :: asl b (k + 1) t
theorem asl_mem {b : Nat} {j : Nat} {u : Value} : ∀ {L : List (Option Value)} {k : Nat}, (j, u) ∈ asl b k L → ∃ i v, L[i]? = some (some v) ∧ j = k + i ∧ u = cvV b v
  | [], k, h => by simp [asl] at h
  | none :: t, k, h => by
    simp only [asl] at h
    obtain ⟨i, v, h1, h2, h3⟩ := asl_mem h
    exact ⟨i + 1, v, by simpa using h1, by omega, h3⟩
  | some x :: t, k, h => by
    simp only [asl, List.mem_cons, Prod.mk.injEq] at h
    rcases h with ⟨h1, h2⟩ | h
    · exact ⟨0, x, rfl, by omega, h2⟩
    · obtain ⟨i, v, h1, h2, h3⟩ := asl_mem h
      exact ⟨i + 1, v, by simpa using h1, by omega, h3⟩
theorem asl_in {b : Nat} {v : Value} : ∀ {L : List (Option Value)} {k i : Nat}, L[i]? = some (some v) → (k + i, cvV b v) ∈ asl b k L
  | [], k, i, h => by simp at h
  | none :: t, k, 0, h => by simp at h
  | some x :: t, k, 0, h => by
    simp at h
    subst h
    simp [asl]
  | none :: t, k, i + 1, h => by
    simp only [asl]
    have h1 := asl_in (b := b) (k := k + 1) (i := i) (L := t) (v := v) (by simpa using h)
    rwa [show k + (i + 1) = k + 1 + i by omega]
  | some x :: t, k, i + 1, h => by
    simp only [asl]
    have h1 := asl_in (b := b) (k := k + 1) (i := i) (L := t) (v := v) (by simpa using h)
    rw [show k + (i + 1) = k + 1 + i by omega]
    exact List.mem_cons_of_mem _ h1
def LR (b : Nat) (ls : Array Slot) (nL : Nat) (L : List (Option Value)) : Prop := L.length = nL ∧ lv_has ls nL (asl b 0 L)
theorem lv_mono {ls : Array Slot} {n : Nat} {l l' : List (Nat × Value)} (h : lv_has ls n l) (hm : ∀ q ∈ l', q ∈ l) : lv_has ls n l' := ⟨h.1, h.2.1, fun q hq => h.2.2 q (hm q hq)⟩
def ldL : List (Option Value) → Nat → Option Value
  | [], _ => none
  | a :: _, 0 => a
  | _ :: t, i + 1 => ldL t i
theorem ldL_get : ∀ {L : List (Option Value)} {i : Nat} {v : Value}, ldL L i = some v → L[i]? = some (some v)
  | [], i, v, h => by simp [ldL] at h
  | a :: t, 0, v, h => by simp [ldL] at h; simp [h]
  | a :: t, i + 1, v, h => by
    simp only [ldL] at h
    simpa using ldL_get h
theorem LR.at {b : Nat} {ls : Array Slot} {nL : Nat} {L : List (Option Value)} (h : LR b ls nL L) {i : Nat} {v : Value} (hv : ldL L i = some v) : ls[i]? = some (.val (cvV b v)) := by
  have h1 := h.2.2.2 (0 + i, cvV b v) (asl_in (ldL_get hv))
  simpa using h1
theorem LR.lt {b : Nat} {ls : Array Slot} {nL : Nat} {L : List (Option Value)} (h : LR b ls nL L) : ls.size = nL := h.2.1
def drL (a : Option Value) : Option Value := match a with
  | some (.long _) => none
  | some (.double _) => none
  | a => a
theorem drL_some {a : Option Value} {u : Value} (h : drL a = some u) : a = some u ∧ ¬ u.category = 2 := by
  unfold drL at h
  split at h
  · cases h
  · cases h
  · rename_i n1 n2
    refine ⟨h, fun hc => ?_⟩
    cases u <;> simp [Value.category] at hc
    · exact n1 _ h
    · exact n2 _ h
/-- a store of one slot: what stood there goes, and a long whose second half stood there -/
def st1 : List (Option Value) → Nat → Value → Option (List (Option Value))
  | [], _, _ => none
  | _ :: t, 0, v => some (some v :: t)
  | a :: t, 1, v => (st1 t 0 v).map (fun t' => drL a :: t')
  | a :: t, i + 2, v => (st1 t (i + 1) v).map (fun t' => a :: t')
def st2 : List (Option Value) → Nat → Value → Option (List (Option Value))
  | [], _, _ => none
  | _ :: _ :: t, 0, v => some (some v :: none :: t)
  | _ :: [], 0, _ => none
  | a :: t, 1, v => (st2 t 0 v).map (fun t' => drL a :: t')
  | a :: t, i + 2, v => (st2 t (i + 1) v).map (fun t' => a :: t')
theorem st1_spec : ∀ {L : List (Option Value)} {i : Nat} {v : Value} {L' : List (Option Value)}, st1 L i v = some L' →
    i < L.length ∧ L'.length = L.length ∧ ∀ j u, L'[j]? = some (some u) → (j = i ∧ u = v) ∨ (j ≠ i ∧ L[j]? = some (some u) ∧ ¬ (j + 1 = i ∧ u.category = 2))
  | [], i, v, L', h => by simp [st1] at h
  | a :: t, 0, v, L', h => by
    simp [st1] at h
    subst h
    refine ⟨by simp, by simp, fun j u hj => ?_⟩
    cases j with
    | zero => simp at hj; exact Or.inl ⟨rfl, hj.symm⟩
    | succ j => exact Or.inr ⟨by omega, by simpa using hj, by omega⟩
  | a :: t, 1, v, L', h => by
    simp only [st1, Option.map_eq_some_iff] at h
    obtain ⟨t', ht, rfl⟩ := h
    obtain ⟨h1, h2, h3⟩ := st1_spec ht
    refine ⟨by simp; omega, by simp; omega, fun j u hj => ?_⟩
    cases j with
    | zero =>
      refine Or.inr ⟨by omega, ?_⟩
      simp only [List.getElem?_cons_zero, Option.some.injEq] at hj ⊢
      obtain ⟨d1, d2⟩ := drL_some hj
      exact ⟨d1, fun hc => d2 hc.2⟩
    | succ j =>
      rcases h3 j u (by simpa using hj) with ⟨e1, e2⟩ | ⟨e1, e2, e3⟩
      · exact Or.inl ⟨by omega, e2⟩
      · exact Or.inr ⟨by omega, by simpa using e2, fun hc => by omega⟩
  | a :: t, i + 2, v, L', h => by
    simp only [st1, Option.map_eq_some_iff] at h
    obtain ⟨t', ht, rfl⟩ := h
    obtain ⟨h1, h2, h3⟩ := st1_spec ht
    refine ⟨by simp; omega, by simp; omega, fun j u hj => ?_⟩
    cases j with
    | zero => exact Or.inr ⟨by omega, by simpa using hj, by omega⟩
    | succ j =>
      rcases h3 j u (by simpa using hj) with ⟨e1, e2⟩ | ⟨e1, e2, e3⟩
      · exact Or.inl ⟨by omega, e2⟩
      · exact Or.inr ⟨by omega, by simpa using e2, fun hc => e3 ⟨by omega, hc.2⟩⟩
theorem st2_spec : ∀ {L : List (Option Value)} {i : Nat} {v : Value} {L' : List (Option Value)}, st2 L i v = some L' →
    i + 1 < L.length ∧ L'.length = L.length ∧ ∀ j u, L'[j]? = some (some u) → (j = i ∧ u = v) ∨ (j ≠ i ∧ j ≠ i + 1 ∧ L[j]? = some (some u) ∧ ¬ (j + 1 = i ∧ u.category = 2))
  | [], i, v, L', h => by simp [st2] at h
  | [a], 0, v, L', h => by simp [st2] at h
  | a :: a2 :: t, 0, v, L', h => by
    simp [st2] at h
    subst h
    refine ⟨by simp, by simp, fun j u hj => ?_⟩
    match j with
    | 0 => simp at hj; exact Or.inl ⟨rfl, hj.symm⟩
    | 1 => simp at hj
    | j + 2 => exact Or.inr ⟨by omega, by omega, by simpa using hj, by omega⟩
  | a :: t, 1, v, L', h => by
    have h : (st2 t 0 v).map (fun t' => drL a :: t') = some L' := by
      cases t <;> exact h
    simp only [Option.map_eq_some_iff] at h
    obtain ⟨t', ht, rfl⟩ := h
    obtain ⟨h1, h2, h3⟩ := st2_spec ht
    refine ⟨by simp; omega, by simp; omega, fun j u hj => ?_⟩
    cases j with
    | zero =>
      refine Or.inr ⟨by omega, by omega, ?_⟩
      simp only [List.getElem?_cons_zero, Option.some.injEq] at hj ⊢
      obtain ⟨d1, d2⟩ := drL_some hj
      exact ⟨d1, fun hc => d2 hc.2⟩
    | succ j =>
      rcases h3 j u (by simpa using hj) with ⟨e1, e2⟩ | ⟨e1, e2, e3, e4⟩
      · exact Or.inl ⟨by omega, e2⟩
      · exact Or.inr ⟨by omega, by omega, by simpa using e3, fun hc => by omega⟩
  | a :: t, i + 2, v, L', h => by
    have h : (st2 t (i + 1) v).map (fun t' => a :: t') = some L' := by
      cases t <;> exact h
    simp only [Option.map_eq_some_iff] at h
    obtain ⟨t', ht, rfl⟩ := h
    obtain ⟨h1, h2, h3⟩ := st2_spec ht
    refine ⟨by simp; omega, by simp; omega, fun j u hj => ?_⟩
    cases j with
    | zero => exact Or.inr ⟨by omega, by omega, by simpa using hj, by omega⟩
    | succ j =>
      rcases h3 j u (by simpa using hj) with ⟨e1, e2⟩ | ⟨e1, e2, e3, e4⟩
      · exact Or.inl ⟨by omega, e2⟩
      · exact Or.inr ⟨by omega, by omega, by simpa using e3, fun hc => e4 ⟨by omega, hc.2⟩⟩
theorem cvV_cat {b : Nat} {v : Value} : (cvV b v).category = v.category := by cases v <;> rfl
theorem LR.st1 {b : Nat} {ls' : Array Slot} {nL i : Nat} {v : Value} {L L' : List (Option Value)} (hlen : L.length = nL) (hs : st1 L i v = some L') (h' : lv_has ls' nL ((i, cvV b v) :: (asl b 0 L).filter (fun q => !(q.1 == i) && !(q.1 + 1 == i && q.2.category == 2)))) : LR b ls' nL L' := by
  obtain ⟨h1, h2, h3⟩ := st1_spec hs
  refine ⟨by omega, lv_mono h' fun q hq => ?_⟩
  obtain ⟨j, u⟩ := q
  obtain ⟨i2, v2, e1, e2, e3⟩ := asl_mem hq
  rcases h3 i2 v2 e1 with ⟨r1, r2⟩ | ⟨r1, r2, r3⟩
  · subst r2
    rw [e2, e3, r1, Nat.zero_add]
    exact List.mem_cons_self
  · refine List.mem_cons_of_mem _ (List.mem_filter.mpr ⟨?_, ?_⟩)
    · rw [e2, e3]
      exact asl_in r2
    · subst e3
      simp only [cvV_cat]
      have : j ≠ i := by omega
      simp only [Bool.and_eq_true, Bool.not_eq_true', beq_eq_false_iff_ne, ne_eq, Bool.and_eq_false_iff]
      refine ⟨this, ?_⟩
      by_cases hc : j + 1 = i
      · right; exact fun h => r3 ⟨by omega, h⟩
      · left; exact hc
theorem LR.st2 {b : Nat} {ls' : Array Slot} {nL i : Nat} {v : Value} {L L' : List (Option Value)} (hlen : L.length = nL) (hs : st2 L i v = some L') (h' : lv_has ls' nL ((i, cvV b v) :: (asl b 0 L).filter (fun q => !(q.1 == i) && (!(q.1 == i + 1) && !(q.1 + 1 == i && q.2.category == 2))))) : LR b ls' nL L' := by
  obtain ⟨h1, h2, h3⟩ := st2_spec hs
  refine ⟨by omega, lv_mono h' fun q hq => ?_⟩
  obtain ⟨j, u⟩ := q
  obtain ⟨i2, v2, e1, e2, e3⟩ := asl_mem hq
  rcases h3 i2 v2 e1 with ⟨r1, r2⟩ | ⟨r0, r1, r2, r3⟩
  · subst r2
    rw [e2, e3, r1, Nat.zero_add]
    exact List.mem_cons_self
  · refine List.mem_cons_of_mem _ (List.mem_filter.mpr ⟨?_, ?_⟩)
    · rw [e2, e3]
      exact asl_in r2
    · subst e3
      simp only [cvV_cat]
      have hj : j ≠ i := by omega
      have hj2 : j ≠ i + 1 := by omega
      simp only [Bool.and_eq_true, Bool.not_eq_true', beq_eq_false_iff_ne, ne_eq, Bool.and_eq_false_iff]
      refine ⟨hj, hj2, ?_⟩
      by_cases hc : j + 1 = i
      · right; exact fun h => r3 ⟨by omega, h⟩
      · left; exact hc
