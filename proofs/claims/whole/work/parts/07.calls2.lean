set_option maxRecDepth 100000 in
theorem mlL_ok : mlL.all (fun q => decide (lw_tbl[q.2.2.2]? = some (.methodLink (cn q.1) q.2.1 (mn q.2.2.1)))) = true := by decide +kernel
theorem ml_w {a j x p : Nat} (h : (a, j, x, p) ∈ mlL) : Cond.methodLink (cn a) j (mn x) ∈ tg := by
  have h1 := List.all_eq_true.mp mlL_ok _ h
  simp only [decide_eq_true_eq] at h1
  exact tg_at h1 rfl
def mdB (y : MethodName) (na : Nat) : Bool := decide (y.cls ≠ "java/lang/invoke/MethodHandle" ∧ y.cls ≠ "java/lang/invoke/VarHandle") && decide ((parseMethodDescriptor y.desc).map (fun d => d.parameters.length) = some na)
set_option maxRecDepth 100000 in
theorem vlL_ok : vlL.all (fun q => decide (lw_tbl[q.2.1]? = some (.instanceMethod (mn q.1))) && (decide (lw_tbl[q.2.2.1]? = some (.selects (mn q.1).cls (mn q.1) (mn q.1))) && (decide (lw_tbl[q.2.2.2.1]? = some (.initialized (mn q.1).cls)) && mdB (mn q.1) q.2.2.2.2))) = true := by decide +kernel
set_option maxRecDepth 100000 in
theorem slL_ok : slL.all (fun q => decide (lw_tbl[q.2.1]? = some (.static (mn q.1))) && (decide (lw_tbl[q.2.2.1]? = some (.initialized (mn q.1).cls)) && mdB (mn q.1) q.2.2.2)) = true := by decide +kernel
set_option maxRecDepth 100000 in
theorem ilL_ok : ilL.all (fun q => decide (lw_tbl[q.2.1]? = some (.instanceMethod (mn q.1))) && (decide (lw_tbl[q.2.2.1]? = some (.initialized (mn q.1).cls)) && (mdB (mn q.1) q.2.2.2 && decide ((mn q.1).name = "<init>")))) = true := by decide +kernel
def vnB (x na : Nat) : Bool := vlL.any (fun q => Nat.beq q.1 x && Nat.beq q.2.2.2.2 na)
def snB (x na : Nat) : Bool := slL.any (fun q => Nat.beq q.1 x && Nat.beq q.2.2.2 na)
def inB (x na : Nat) : Bool := ilL.any (fun q => Nat.beq q.1 x && Nat.beq q.2.2.2 na)
theorem vn_w {x na : Nat} (h : vnB x na = true) : Cond.instanceMethod (mn x) ∈ tg ∧ Cond.selects (mn x).cls (mn x) (mn x) ∈ tg ∧ Cond.initialized (mn x).cls ∈ tg ∧ mdB (mn x) na = true := by
  obtain ⟨q, hq, h1⟩ := List.any_eq_true.mp h
  simp only [Bool.and_eq_true] at h1
  have e1 := Nat.eq_of_beq_eq_true h1.1
  have e2 := Nat.eq_of_beq_eq_true h1.2
  have h2 := List.all_eq_true.mp vlL_ok q hq
  simp only [Bool.and_eq_true, decide_eq_true_eq] at h2
  rw [e1, e2] at h2
  exact ⟨tg_at h2.1 rfl, tg_at h2.2.1 rfl, tg_at h2.2.2.1 rfl, h2.2.2.2⟩
theorem sn_w {x na : Nat} (h : snB x na = true) : Cond.static (mn x) ∈ tg ∧ Cond.initialized (mn x).cls ∈ tg ∧ mdB (mn x) na = true := by
  obtain ⟨q, hq, h1⟩ := List.any_eq_true.mp h
  simp only [Bool.and_eq_true] at h1
  have e1 := Nat.eq_of_beq_eq_true h1.1
  have e2 := Nat.eq_of_beq_eq_true h1.2
  have h2 := List.all_eq_true.mp slL_ok q hq
  simp only [Bool.and_eq_true, decide_eq_true_eq] at h2
  rw [e1, e2] at h2
  exact ⟨tg_at h2.1 rfl, tg_at h2.2.1 rfl, h2.2.2⟩
theorem in_w {x na : Nat} (h : inB x na = true) : Cond.instanceMethod (mn x) ∈ tg ∧ Cond.initialized (mn x).cls ∈ tg ∧ mdB (mn x) na = true ∧ (mn x).name = "<init>" := by
  obtain ⟨q, hq, h1⟩ := List.any_eq_true.mp h
  simp only [Bool.and_eq_true] at h1
  have e1 := Nat.eq_of_beq_eq_true h1.1
  have e2 := Nat.eq_of_beq_eq_true h1.2
  have h2 := List.all_eq_true.mp ilL_ok q hq
  simp only [Bool.and_eq_true, decide_eq_true_eq] at h2
  rw [e1, e2] at h2
  exact ⟨tg_at h2.1 rfl, tg_at h2.2.1 rfl, h2.2.2.1, h2.2.2.2⟩
theorem m_cw_tg {M : mt_T} (hM : mOK M) : m_cw M ∈ tg := List.mem_filter.mpr ⟨hM.2, rfl⟩
theorem pc_blind {w : wd_T} {b : Nat} {h : hp_T} {vs : List Value} : FrameBlind (va_Pc vs (fun U => HR w b h U.heap ∧ U.heap.size ≤ b + h.length ∧ b ≤ U.heap.size ∧ va_K (w.1, w.2.1) kcl (wty w) U ∧ NX U)) := by
  intro a U g mk q
  obtain ⟨q0, q1, q2, q3, q4, q5⟩ := q
  exact ⟨q0, q1, q2, q3, va_K.moved (u := U) (U := U.calling g mk a) (Vm.Alike.refl U.vm) q4, NX.same (u := U) (U := U.calling g mk a) rfl q5⟩
section WCALL
variable {p : Program} {l : Launch} {e : Env} {R : Room} {s : State} {m : MethodId} {args : Array Value} {below : List Frame} {meth : Method} {c : Code} {H : Heap} {locs : List Loc} {k n mc ms : Nat} {Qf : State → Prop} {pc : Nat} {ls : Array Slot} {rest As : List Value} {w : wd_T} {b : Nat} {h : hp_T} {Q : Option Value → hp_T → Prop} {M' : mt_T} {d j x q ci : Nat} {fs : List Value} {own : String} {cc : ByteArray} {nL : Nat}
theorem w_cV (S : CallFix p m c cc nL s args tg own) (hM' : mOK M') (hC : C M' d mc ms (.ref q :: As) h Q) (hmn : mn x = M'.1) (hl : Cond.methodLink own j (mn x) ∈ tg) (hv : vnB x As.length = true) (hq : h[q]? = some (.inr (ci, fs))) (hci : ci < 7) (hcls : kC ci = M'.1.cls) (hroom : (rest.map fun v => v.category).sum ≤ 8) (hf : k + mc ≤ R.cells ∧ n + ms ≤ R.slots) (hR : d + 3 ≤ R.frames ∧ 40 * d + 100 ≤ R.locals)
    (hd : decode cc pc = .ok (.invokevirtual j, 3)) (hls : ls.size = nL) (hK : va_K (w.1, w.2.1) kcl (wty w) s) (hN : NX s) (hS : va_S (fun q => b ≤ q) s.heap H locs) (hH : HR w b h H) (hZ : s.heap.size + k ≤ b + h.length) (hb0 : b ≤ s.heap.size)
    (kk : ∀ r h' H1 locs1, Q r h' → HR w b h' H1 → s.heap.size + (k + mc) ≤ b + h'.length → va_S (fun q => b ≤ q) s.heap H1 locs1 → W p l e R s m args below meth c H1 locs1 (k + mc) (n + ms) Qf (F0 m (pc + 3) ls ((r.map (cvV b)).toList ++ rest))) : W p l e R s m args below meth c H locs k n Qf (F0 m pc ls ((As.map (cvV b)).reverse ++ .ref (b + q) :: rest)) := by
  obtain ⟨w1, w2, w3, w4⟩ := vn_w hv
  unfold mdB at w4
  simp only [Bool.and_eq_true, decide_eq_true_eq] at w4
  have hnl := (m_cn hM').2.1
  rw [hmn] at w1 w2 w3 w4 hl
  refine W_sz (fun hhi => ?_)
  refine w_call (mc := mc) (ms := ms) (Q := Q) (h := h) (w := w) (b := b) (a := (Value.ref (b + q) :: As.map (cvV b)).toArray) (rest := rest) ?_ hS hH hZ hb0 kk
  refine va_runV (As := As.map (cvV b)) (rest := rest) (C := M'.1.cls) (b := b + q) S (hC l w b) (cwV (ws' := tg) As.length S.2.2.2.2 (tg_good ?_) rfl rfl rfl ⟨rfl, w4.1.1, w4.1.2, w4.2⟩ ⟨?_, ?_⟩) ⟨pc_blind, ?_, fun U hU hW => ⟨rfl, by rw [hU]; exact hH, by rw [hU]; omega, by rw [hU]; exact Nat.le_trans hb0 hS.1, va_K.moved hW.alike hK, hN.warm hW⟩⟩ rfl (by simp) hls rfl (lv_room hroom) hd hf
  · intro z hz
    simp only [wsV, List.mem_append, List.mem_cons, List.not_mem_nil, or_false] at hz
    rcases hz with (rfl | rfl | rfl | rfl) | rfl | hz
    · exact hl
    · exact w1
    · exact w2
    · exact w3
    · exact m_cw_tg hM'
    · exact hz
  · show d + 2 + 1 ≤ _
    omega
  · show 8 + (M'.2.2.1 + 11) + (40 * d + 60) ≤ _
    omega
  · have h1 := va_recv hK hH (kcl_at hci) (cvH_get hq)
    rw [← hcls]
    exact h1
theorem w_cS (S : CallFix p m c cc nL s args tg own) (hM' : mOK M') (hC : C M' d mc ms As h Q) (hmn : mn x = M'.1) (hl : Cond.methodLink own j (mn x) ∈ tg) (hv : snB x As.length = true) (hroom : (rest.map fun v => v.category).sum ≤ 8) (hf : k + mc ≤ R.cells ∧ n + ms ≤ R.slots) (hR : d + 3 ≤ R.frames ∧ 40 * d + 100 ≤ R.locals)
    (hd : decode cc pc = .ok (.invokestatic j, 3)) (hls : ls.size = nL) (hK : va_K (w.1, w.2.1) kcl (wty w) s) (hN : NX s) (hS : va_S (fun q => b ≤ q) s.heap H locs) (hH : HR w b h H) (hZ : s.heap.size + k ≤ b + h.length) (hb0 : b ≤ s.heap.size)
    (kk : ∀ r h' H1 locs1, Q r h' → HR w b h' H1 → s.heap.size + (k + mc) ≤ b + h'.length → va_S (fun q => b ≤ q) s.heap H1 locs1 → W p l e R s m args below meth c H1 locs1 (k + mc) (n + ms) Qf (F0 m (pc + 3) ls ((r.map (cvV b)).toList ++ rest))) : W p l e R s m args below meth c H locs k n Qf (F0 m pc ls ((As.map (cvV b)).reverse ++ rest)) := by
  obtain ⟨w1, w3, w4⟩ := sn_w hv
  unfold mdB at w4
  simp only [Bool.and_eq_true, decide_eq_true_eq] at w4
  have hnl := (m_cn hM').2.1
  rw [hmn] at w1 w3 w4 hl
  refine W_sz (fun hhi => ?_)
  refine w_call (mc := mc) (ms := ms) (Q := Q) (h := h) (w := w) (b := b) (a := (As.map (cvV b)).toArray) (rest := rest) ?_ hS hH hZ hb0 kk
  refine va_runS (As := As.map (cvV b)) (rest := rest) S (hC l w b) (va_cwS (ws' := tg) As.length S.2.2.2.2 (tg_good ?_) rfl rfl rfl ⟨w4.1.1, w4.1.2, w4.2⟩ ⟨?_, ?_⟩) ⟨pc_blind, fun U hU hW => ⟨rfl, by rw [hU]; exact hH, by rw [hU]; omega, by rw [hU]; exact Nat.le_trans hb0 hS.1, va_K.moved hW.alike hK, hN.warm hW⟩⟩ rfl (by simp) hls rfl (lv_room hroom) hd hf
  · intro z hz
    simp only [va_wsS, List.mem_append, List.mem_cons, List.not_mem_nil, or_false] at hz
    rcases hz with (rfl | rfl | rfl) | rfl | hz
    · exact hl
    · exact w1
    · exact w3
    · exact m_cw_tg hM'
    · exact hz
  · show d + 2 + 1 ≤ _
    omega
  · show 8 + (M'.2.2.1 + 11) + (40 * d + 60) ≤ _
    omega
theorem w_cI (S : CallFix p m c cc nL s args tg own) (hM' : mOK M') (hC : C M' d mc ms (.ref q :: As) h Q) (hmn : mn x = M'.1) (hr0 : M'.2.2.2.1 = none) (hl : Cond.methodLink own j (mn x) ∈ tg) (hv : inB x As.length = true) (hroom : (rest.map fun v => v.category).sum ≤ 8) (hf : k + mc ≤ R.cells ∧ n + ms ≤ R.slots) (hR : d + 3 ≤ R.frames ∧ 40 * d + 100 ≤ R.locals)
    (hd : decode cc pc = .ok (.invokespecial j, 3)) (hls : ls.size = nL) (hK : va_K (w.1, w.2.1) kcl (wty w) s) (hN : NX s) (hS : va_S (fun q => b ≤ q) s.heap H locs) (hH : HR w b h H) (hZ : s.heap.size + k ≤ b + h.length) (hb0 : b ≤ s.heap.size)
    (kk : ∀ r h' H1 locs1, Q r h' → HR w b h' H1 → s.heap.size + (k + mc) ≤ b + h'.length → va_S (fun q => b ≤ q) s.heap H1 locs1 → W p l e R s m args below meth c H1 locs1 (k + mc) (n + ms) Qf (F0 m (pc + 3) ls ((r.map (cvV b)).toList ++ rest))) : W p l e R s m args below meth c H locs k n Qf (F0 m pc ls ((As.map (cvV b)).reverse ++ .ref (b + q) :: rest)) := by
  obtain ⟨w1, w3, w4, w5⟩ := in_w hv
  unfold mdB at w4
  simp only [Bool.and_eq_true, decide_eq_true_eq] at w4
  have hnl := (m_cn hM').2.1
  rw [hmn] at w1 w3 w4 hl w5
  refine W_sz (fun hhi => ?_)
  refine w_call (mc := mc) (ms := ms) (Q := Q) (h := h) (w := w) (b := b) (a := (Value.ref (b + q) :: As.map (cvV b)).toArray) (rest := rest) ?_ hS hH hZ hb0 kk
  have hcw : (m_cw M' :: tg) = Cond.code M'.1 M'.2.1 M'.2.2.1 none :: tg := by unfold m_cw; rw [hr0]
  refine va_runI (As := As.map (cvV b)) (rest := rest) (b := b + q) S (hC l w b) (cwI (ws' := tg) As.length S.2.2.2.2 (tg_good ?_) hcw rfl rfl (S.2.2.2.2 _ w3) (S.2.2.2.2 _ hl) (S.2.2.2.2 _ w1) w5 ⟨w4.1.1, w4.1.2, w4.2⟩ ⟨?_, ?_⟩) ⟨pc_blind, fun U hU hW => ⟨rfl, by rw [hU]; exact hH, by rw [hU]; omega, by rw [hU]; exact Nat.le_trans hb0 hS.1, va_K.moved hW.alike hK, hN.warm hW⟩⟩ rfl (by simp) hls rfl (lv_room hroom) hd hf
  · intro z hz
    rcases List.mem_cons.mp hz with rfl | hz
    · exact m_cw_tg hM'
    · exact hz
  · show d + 2 + 1 ≤ _
    omega
  · show 8 + (M'.2.2.1 + 11) + (40 * d + 60) ≤ _
    omega
end WCALL
theorem cv_rev {b : Nat} {As rest : List Value} : (As.reverse ++ rest).map (cvV b) = (As.map (cvV b)).reverse ++ rest.map (cvV b) := by simp
theorem cv_cat {b : Nat} : ∀ (rest : List Value), ((rest.map (cvV b)).map fun v => v.category).sum = (rest.map fun v => v.category).sum
  | [] => rfl
  | v :: t => by simp only [List.map_cons, List.sum_cons, cvV_cat, cv_cat t]
section RULES6
variable {M M' : mt_T} {d mc ms k n pc np x j q ci mc' ms' : Nat} {Q Q' : Option Value → hp_T → Prop} {L : List (Option Value)} {st rest As : List Value} {h : hp_T} {fs : List Value}
theorem V.cV (hM : mOK M) (hM' : mOK M') (hC : C M' d mc' ms' (.ref q :: As) h Q') (hi : lkf (m_tab M) pc = some (.invokevirtual j, np, x)) (hst : As.reverse ++ .ref q :: rest = st) (hmn : mn x = M'.1) (hv : vnB x As.length = true) (hq : h[q]? = some (.inr (ci, fs))) (hci : Nat.blt ci 7 = true) (hcls : kC ci = M'.1.cls) (hroom : Nat.ble (rest.map fun v => v.category).sum 8 = true) (hk : k + mc' ≤ mc) (hn : n + ms' ≤ ms)
    (kk : ∀ r h', Q' r h' → V M (d + 1) mc ms Q (k + mc') (n + ms') np L (r.toList ++ rest) h') : V M (d + 1) mc ms Q k n pc L st h := by
  obtain ⟨hd, hnp, hax⟩ := m_dec hM hi (by simp [ilen])
  have hcn := (m_cn hM).1
  subst hnp; subst hst
  intro p l e s m args below meth c w b H locs ls X hS hH hZ hL
  obtain ⟨hx, hb, hml, hown, hts, -, -, hK, hN, -, hb0⟩ := id X
  rw [← hcn] at hown
  obtain ⟨p0, hp0⟩ := has3_ex (show has3 mlL M.2.2.2.2.1 j x = true from hax)
  rw [show As.reverse ++ Value.ref q :: rest = As.reverse ++ ([.ref q] ++ rest) by simp, cv_rev, List.map_append]
  refine w_cV (rest := rest.map (cvV b)) ⟨hx, hb, hml, hown, hts⟩ hM' hC hmn (ml_w hp0) hv hq (by simpa [Nat.blt_eq] using hci) hcls (by rw [cv_cat]; exact Nat.le_of_ble_eq_true hroom) ⟨hk, hn⟩ ⟨by show d + 3 ≤ d + 1 + 2; omega, by show 40 * d + 100 ≤ 40 * (d + 1) + 60; omega⟩ hd hL.lt hK hN hS hH hZ hb0 (fun r h' H1 locs1 hq' hH1 hZ1 hS1 => ?_)
  have k1 := kk r h' hq' p l e s m args below meth c w b H1 locs1 ls X hS1 hH1 hZ1 hL
  rw [List.map_append] at k1
  cases r <;> exact k1
theorem V.cS (hM : mOK M) (hM' : mOK M') (hC : C M' d mc' ms' As h Q') (hi : lkf (m_tab M) pc = some (.invokestatic j, np, x)) (hst : As.reverse ++ rest = st) (hmn : mn x = M'.1) (hv : snB x As.length = true) (hml' : has3 mlL M.2.2.2.2.1 j x = true) (hroom : Nat.ble (rest.map fun v => v.category).sum 8 = true) (hk : k + mc' ≤ mc) (hn : n + ms' ≤ ms)
    (kk : ∀ r h', Q' r h' → V M (d + 1) mc ms Q (k + mc') (n + ms') np L (r.toList ++ rest) h') : V M (d + 1) mc ms Q k n pc L st h := by
  obtain ⟨hd, hnp, hax⟩ := m_dec hM hi (by simp [ilen])
  have hcn := (m_cn hM).1
  subst hnp; subst hst
  intro p l e s m args below meth c w b H locs ls X hS hH hZ hL
  obtain ⟨hx, hb, hml, hown, hts, -, -, hK, hN, -, hb0⟩ := id X
  rw [← hcn] at hown
  obtain ⟨p0, hp0⟩ := has3_ex hml'
  rw [cv_rev]
  refine w_cS (rest := rest.map (cvV b)) ⟨hx, hb, hml, hown, hts⟩ hM' hC hmn (ml_w hp0) hv (by rw [cv_cat]; exact Nat.le_of_ble_eq_true hroom) ⟨hk, hn⟩ ⟨by show d + 3 ≤ d + 1 + 2; omega, by show 40 * d + 100 ≤ 40 * (d + 1) + 60; omega⟩ hd hL.lt hK hN hS hH hZ hb0 (fun r h' H1 locs1 hq' hH1 hZ1 hS1 => ?_)
  have k1 := kk r h' hq' p l e s m args below meth c w b H1 locs1 ls X hS1 hH1 hZ1 hL
  rw [List.map_append] at k1
  cases r <;> exact k1
theorem V.cI (hM : mOK M) (hM' : mOK M') (hC : C M' d mc' ms' (.ref q :: As) h Q') (hi : lkf (m_tab M) pc = some (.invokespecial j, np, x)) (hst : As.reverse ++ .ref q :: rest = st) (hmn : mn x = M'.1) (hr0 : M'.2.2.2.1 = none) (hv : inB x As.length = true) (hml' : has3 mlL M.2.2.2.2.1 j x = true) (hroom : Nat.ble (rest.map fun v => v.category).sum 8 = true) (hk : k + mc' ≤ mc) (hn : n + ms' ≤ ms)
    (kk : ∀ r h', Q' r h' → V M (d + 1) mc ms Q (k + mc') (n + ms') np L (r.toList ++ rest) h') : V M (d + 1) mc ms Q k n pc L st h := by
  obtain ⟨hd, hnp, hax⟩ := m_dec hM hi (by simp [ilen])
  have hcn := (m_cn hM).1
  subst hnp; subst hst
  intro p l e s m args below meth c w b H locs ls X hS hH hZ hL
  obtain ⟨hx, hb, hml, hown, hts, -, -, hK, hN, -, hb0⟩ := id X
  rw [← hcn] at hown
  obtain ⟨p0, hp0⟩ := has3_ex hml'
  rw [show As.reverse ++ Value.ref q :: rest = As.reverse ++ ([.ref q] ++ rest) by simp, cv_rev, List.map_append]
  refine w_cI (rest := rest.map (cvV b)) ⟨hx, hb, hml, hown, hts⟩ hM' hC hmn hr0 (ml_w hp0) hv (by rw [cv_cat]; exact Nat.le_of_ble_eq_true hroom) ⟨hk, hn⟩ ⟨by show d + 3 ≤ d + 1 + 2; omega, by show 40 * d + 100 ≤ 40 * (d + 1) + 60; omega⟩ hd hL.lt hK hN hS hH hZ hb0 (fun r h' H1 locs1 hq' hH1 hZ1 hS1 => ?_)
  have k1 := kk r h' hq' p l e s m args below meth c w b H1 locs1 ls X hS1 hH1 hZ1 hL
  rw [List.map_append] at k1
  cases r <;> exact k1
end RULES6
