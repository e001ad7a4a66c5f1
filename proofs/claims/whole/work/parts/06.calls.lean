/-! answers -/
section RULES5
variable {M : mt_T} {d mc ms k n pc np x : Nat} {Q : Option Value → hp_T → Prop} {L : List (Option Value)} {st st' : List Value} {h : hp_T}
theorem V.iret {v : Int32} (hM : mOK M) (hi : lkf (m_tab M) pc = some (.ireturn, np, x)) (hr : M.2.2.2.1 = some .int) (hQ : Q (some (.int v)) h) : V M d mc ms Q mc ms pc L [.int v] h := by
  obtain ⟨hd, hnp, hax⟩ := m_dec hM hi (by simp [ilen])
  intro p l e s m args below meth c w b H locs ls X hS hH hZ hL
  obtain ⟨hx, hb, hml, hown, hts, hret, hlocks, hK, hN2, -, hb0⟩ := id X
  exact W.iret (v := v) hx hb (hret.trans hr) (fun t ht hW => ⟨⟨some (.int v), h, hQ, rfl, by rw [ht]; exact hH, hZ⟩, hS.F ht⟩) hS.2.2 hd
theorem V.zret {v : Int32} (hM : mOK M) (hi : lkf (m_tab M) pc = some (.ireturn, np, x)) (hr : M.2.2.2.1 = some .boolean) (hv : v = 0 ∨ v = 1) (hQ : Q (some (.int v)) h) : V M d mc ms Q mc ms pc L [.int v] h := by
  obtain ⟨hd, hnp, hax⟩ := m_dec hM hi (by simp [ilen])
  intro p l e s m args below meth c w b H locs ls X hS hH hZ hL
  obtain ⟨hx, hb, hml, hown, hts, hret, hlocks, hK, hN2, -, hb0⟩ := id X
  refine W.zret (v := v) hx hb (hret.trans hr) ?_ (fun t ht hW => ⟨⟨some (.int v), h, hQ, rfl, by rw [ht]; exact hH, hZ⟩, hS.F ht⟩) hS.2.2 hd
  rcases hv with rfl | rfl
  · decide +kernel
  · decide +kernel
theorem V.lret {v : Int64} (hM : mOK M) (hi : lkf (m_tab M) pc = some (.lreturn, np, x)) (hr : M.2.2.2.1 = some .long) (hQ : Q (some (.long v)) h) : V M d mc ms Q mc ms pc L [.long v] h := by
  obtain ⟨hd, hnp, hax⟩ := m_dec hM hi (by simp [ilen])
  intro p l e s m args below meth c w b H locs ls X hS hH hZ hL
  obtain ⟨hx, hb, hml, hown, hts, hret, hlocks, hK, hN2, -, hb0⟩ := id X
  exact W.lret (v := v) hx hb (hret.trans hr) (fun t ht hW => ⟨⟨some (.long v), h, hQ, rfl, by rw [ht]; exact hH, hZ⟩, hS.F ht⟩) hS.2.2 hd
theorem V.vret (hM : mOK M) (hi : lkf (m_tab M) pc = some (.return_, np, x)) (hr : M.2.2.2.1 = none) (hQ : Q none h) : V M d mc ms Q mc ms pc L [] h := by
  obtain ⟨hd, hnp, hax⟩ := m_dec hM hi (by simp [ilen])
  intro p l e s m args below meth c w b H locs ls X hS hH hZ hL
  obtain ⟨hx, hb, hml, hown, hts, hret, hlocks, hK, hN2, -, hb0⟩ := id X
  exact W.vret hx hb (hret.trans hr) (fun t ht hW => ⟨⟨none, h, hQ, rfl, by rw [ht]; exact hH, hZ⟩, hS.F ht⟩) hS.2.2 hd
end RULES5
/-! contracts -/
def C (M : mt_T) (d mc ms : Nat) (vs : List Value) (h : hp_T) (Q : Option Value → hp_T → Prop) : Prop :=
  ∀ (l : Launch) (w : wd_T) (b : Nat), Met l M.1 (m_cw M :: tg) (rmR d mc ms) (va_Pc (vs.map (cvV b)) (fun U => HR w b h U.heap ∧ U.heap.size ≤ b + h.length ∧ b ≤ U.heap.size ∧ va_K (w.1, w.2.1) kcl (wty w) U ∧ NX U)) (QcR w b mc Q) mc ms (fun q => b ≤ q)
def enL : Nat → List Value → List (Option Value)
  | 0, _ => []
  | n + 1, [] => none :: enL n []
  | 1, .long x :: _ => [some (.long x)]
  | n + 2, .long x :: t => some (.long x) :: none :: enL n t
  | n + 1, v :: t => some v :: enL n t
def enN : List Value → Nat
  | [] => 0
  | v :: t => v.category + enN t
theorem enN_len : ∀ (vs : List Value) (b : Nat), (lg_sl (vs.map (cvV b))).length = enN vs
  | [], b => rfl
  | v :: t, b => by
    have ih := enN_len t b
    simp only [lg_sl, List.map_cons, List.flatMap_cons, List.length_append] at ih ⊢
    rw [ih, enN]
    cases v <;> simp [cvV, Value.category]
def noD (v : Value) : Bool := match v with
  | .double _ => false
  | _ => true
theorem enL_get : ∀ (n : Nat) (vs : List Value), vs.all noD = true → ∀ (i : Nat) (v : Value) (k b : Nat), (enL n vs)[i]? = some (some v) → (k + i, cvV b v) ∈ lv_args k (vs.map (cvV b)) := by
  intro n vs
  induction n, vs using enL.induct with
  | case1 vs => intro _ i v k b h; simp [enL] at h
  | case2 n ih =>
    intro hd i v k b h
    cases i with
    | zero => simp [enL] at h
    | succ i =>
      have h1 := ih hd i v k b (by simpa [enL] using h)
      simp [lv_args] at h1
  | case3 x t =>
    intro hd i v k b h
    cases i with
    | zero => simp [enL] at h; subst h; simp [lv_args, cvV]
    | succ i => simp [enL] at h
  | case4 n x t ih =>
    intro hd i v k b h
    match i with
    | 0 => simp [enL] at h; subst h; simp [lv_args, cvV]
    | 1 => simp [enL] at h
    | i + 2 =>
      have h1 := ih (by simp at hd ⊢; exact hd.2) i v (k + 2) b (by simpa [enL] using h)
      simp only [List.map_cons, lv_args, cvV, Value.category, if_true]
      rw [show k + (i + 2) = k + 2 + i by omega]
      exact List.mem_cons_of_mem _ h1
  | case5 n v0 t hx1 hx2 ih =>
    intro hd i v k b h
    have e : enL (n + 1) (v0 :: t) = some v0 :: enL n t := by
      cases n with
      | zero => cases v0 <;> first | rfl | exact absurd rfl (hx1 _ rfl)
      | succ n => cases v0 <;> first | rfl | exact absurd rfl (hx2 _ _ rfl)
    have hc : (cvV b v0).category ≠ 2 := by
      cases v0 <;> first | (simp [cvV, Value.category]; done) | skip
      · cases n with
        | zero => exact absurd rfl (hx1 _ rfl)
        | succ n => exact absurd rfl (hx2 _ _ rfl)
      · simp [noD] at hd
    rw [e] at h
    simp only [List.map_cons, lv_args, if_neg hc]
    cases i with
    | zero => simp at h; subst h; exact List.mem_cons_self
    | succ i =>
      have h1 := ih (by simp at hd ⊢; exact hd.2) i v (k + 1) b (by simpa using h)
      rw [show k + (i + 1) = k + 1 + i by omega]
      exact List.mem_cons_of_mem _ h1
theorem enL_len : ∀ (n : Nat) (vs : List Value), (enL n vs).length = n := by
  intro n vs
  induction n, vs using enL.induct with
  | case1 vs => rfl
  | case2 n ih => simp [enL, ih]
  | case3 x t => rfl
  | case4 n x t ih => simp [enL, ih]
  | case5 n v0 t hx1 hx2 ih =>
    have e : enL (n + 1) (v0 :: t) = some v0 :: enL n t := by
      cases n with
      | zero => cases v0 <;> first | rfl | exact absurd rfl (hx1 _ rfl)
      | succ n => cases v0 <;> first | rfl | exact absurd rfl (hx2 _ _ rfl)
    rw [e]; simp [ih]
theorem C.of {M : mt_T} {d mc ms : Nat} {vs : List Value} {h : hp_T} {Q : Option Value → hp_T → Prop} (L : List (Option Value)) (hM : mOK M) (hL : enL M.2.2.1 vs = L) (hd : vs.all noD = true) (hn : Nat.ble (enN vs) M.2.2.1 = true) (kk : V M d mc ms Q 0 0 0 L [] h) : C M d mc ms vs h Q := by
  intro l w b
  refine va_MetF (cc := M.2.1) (maxL := M.2.2.1) (ret := M.2.2.2.1) (m_cn hM).2.2 rfl ?_
  intro p e s m args below meth c s₁ B hml hv
  obtain ⟨rfl, hH, hsz, hb0, hK, hN⟩ := hv
  have hts := atoms_spec (ws := m_cw M :: tg) B.pre
  rw [lg_entry_eq]
  have hl := lv_entry (vs.map (cvV b)) (n := M.2.2.1) (by rw [enN_len]; exact Nat.le_of_ble_eq_true hn)
  refine kk p l e s m _ below meth c w b s.heap [] _ ⟨B.exec, B.bytes, hml, findClass_of_methodNamed B.named, fun q hq => hts q (List.mem_cons_of_mem _ hq), B.returns, B.notSynchronized, hK, hN, (name_of_methodNamed B.named B.method).1, hb0⟩ va_S.rf hH (by omega) ⟨by rw [← hL]; exact enL_len _ _, lv_mono hl fun q hq => ?_⟩
  obtain ⟨j, u⟩ := q
  obtain ⟨i, v, h1, h2, h3⟩ := asl_mem hq
  rw [← hL] at h1
  have h4 := enL_get _ vs hd i v 0 b h1
  rw [h2, h3]
  exact h4
theorem C.mono {M : mt_T} {d mc ms : Nat} {vs : List Value} {h : hp_T} {Q Q' : Option Value → hp_T → Prop} (hC : C M d mc ms vs h Q) (hq : ∀ r h', Q r h' → Q' r h') : C M d mc ms vs h Q' := by
  intro l w b p e ha hc hk s m args below
  have h1 := hC l w b p e ha hc hk s m args below
  intro hf h2 h3 h4
  obtain ⟨j, o, g1, g2, g3, ⟨⟨⟨r, h', e1, e2⟩, e3⟩, e4⟩⟩ := h1 hf h2 h3 h4
  exact ⟨j, o, g1, g2, g3, ⟨⟨⟨r, h', hq _ _ e1, e2⟩, e3⟩, e4⟩⟩
/-! calls -/
theorem w_call {p : Program} {l : Launch} {e : Env} {R : Room} {s : State} {m : MethodId} {args : Array Value} {below : List Frame} {meth : Method} {c : Code} {H : Heap} {locs : List Loc} {k n mc ms : Nat} {Qf : State → Prop} {pc : Nat} {ls : Array Slot} {st0 rest : List Value} {a : Array Value} {w : wd_T} {b : Nat} {h : hp_T} {Q : Option Value → hp_T → Prop}
    (hr : va_Run p l e R s m args below meth c H locs k n mc ms (F0 m pc ls st0) rest (QcR w b mc Q a) (fun q => b ≤ q)) (hS : va_S (fun q => b ≤ q) s.heap H locs) (hH : HR w b h H) (hZ : s.heap.size + k ≤ b + h.length) (hb0 : b ≤ s.heap.size)
    (kk : ∀ r h' H1 locs1, Q r h' → HR w b h' H1 → s.heap.size + (k + mc) ≤ b + h'.length → va_S (fun q => b ≤ q) s.heap H1 locs1 → W p l e R s m args below meth c H1 locs1 (k + mc) (n + ms) Qf (F0 m (pc + 3) ls ((r.map (cvV b)).toList ++ rest))) : W p l e R s m args below meth c H locs k n Qf (F0 m pc ls st0) := by
  intro T hT X
  obtain ⟨v, st₀, t, T', L, h0, X', hL, e1, e2, ⟨⟨r, h', hq, hv, hb, hz⟩, hf, hk⟩, stp⟩ := hr T hT X
  cases hv
  have hlo := hH.lo (Nat.le_trans hb0 hS.1)
  rw [h0] at hf hk hz
  obtain ⟨t2, a1, b1⟩ := kk r h' T'.heap (locs ++ L) hq (by rw [e1]; exact hb) (by omega) ⟨Nat.le_trans hS.1 (by rw [e1]; exact hf), fun q h1 h2 => by rw [e1, hk q (Nat.lt_of_lt_of_le h1 hS.1) h2]; exact hS.2.1 q h1 h2, fun q hq => by
      rcases List.mem_append.mp hq with h | h
      · exact hS.2.2 q h
      · exact hL q h⟩ T' rfl X'
  exact ⟨t2, stp t2 a1, b1⟩
