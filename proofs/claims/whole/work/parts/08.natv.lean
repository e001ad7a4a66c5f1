set_option maxRecDepth 100000 in
theorem oiL_ok : oiL.all (fun q => decide (lw_tbl[q.2.2]? = some (.methodLink (cn q.1) q.2.1 Lib.objectInit))) = true := by decide +kernel
set_option maxRecDepth 100000 in
theorem acL_ok : acL.all (fun q => decide (lw_tbl[q.2.2]? = some (.methodLink (cn q.1) q.2.1 arraycopyName))) = true := by decide +kernel
theorem posOI_w : Cond.instanceMethod Lib.objectInit ∈ tg := tg_at (p := posOI) (by decide +kernel) rfl
theorem posOC_w : Cond.code Lib.objectInit ⟨#[0xb1]⟩ 1 none ∈ tg := tg_at (p := posOC) rfl rfl
theorem posCN_w : Cond.native arraycopyName ∈ tg := tg_at (p := posCN) (by decide +kernel) rfl
theorem posCS_w : Cond.static arraycopyName ∈ tg := tg_at (p := posCS) (by decide +kernel) rfl
theorem posCI_w : Cond.initialized "java/lang/System" ∈ tg := tg_at (p := posCI) (by decide +kernel) rfl
section RULES7
variable {M M' : mt_T} {d mc ms k n pc np x j q ci mc' ms' : Nat} {Q Q' : Option Value → hp_T → Prop} {L : List (Option Value)} {st rest As : List Value} {h : hp_T} {fs : List Value}
theorem V.oi (hM : mOK M) (hi : lkf (m_tab M) pc = some (.invokespecial j, np, 1000)) (ho : has2 oiL M.2.2.2.2.1 j = true) (hroom : Nat.ble (st.map fun v => v.category).sum 8 = true) (kk : V M d mc ms Q k n np L st h) : V M d mc ms Q k n pc L (.ref q :: st) h := by
  obtain ⟨hd, hnp, hax⟩ := m_dec hM hi (by simp [ilen])
  have hcn := (m_cn hM).1
  subst hnp
  intro p l e s m args below meth c w b H locs ls X hS hH hZ hL
  have kk := kk p l e s m args below meth c w b H locs ls X hS hH hZ hL
  obtain ⟨hx, hb, hml, hown, hts, -, -, hK, hN, -, hb0⟩ := id X
  rw [← hcn] at hown
  obtain ⟨p0, hp0⟩ := has2_ex ho
  have h1 := List.all_eq_true.mp oiL_ok _ hp0
  simp only [decide_eq_true_eq] at h1
  have hr := Nat.le_of_ble_eq_true hroom
  refine W.objInit hx hb hown (hts _ (tg_at h1 rfl)) (hts _ posOI_w) (hts _ posOC_w) rfl (by rw [hml]; exact hL.lt) rfl hd (by show 1 ≤ d + 2; omega) ?_ kk
  show 2 * 0 + ((st.map (cvV b)).map fun v => v.category).sum + 12 ≤ 40 * d + 60
  rw [cv_cat]
  omega
theorem V.cp {q0 q1 n0 n1 sj dj nj : Nat} {f g : Nat → Int32} {sp dp cnt : Int32} (h' : hp_T) (hM : mOK M) (hi : lkf (m_tab M) pc = some (.invokestatic j, np, 1001)) (ho : has2 acL M.2.2.2.2.1 j = true) (hq0 : h[q0]? = some (.inl (n0, .inl f))) (hq1 : h[q1]? = some (.inl (n1, .inl g))) (h1 : ¬ sp < 0 ∧ sp.toNatClampNeg = sj) (h2 : ¬ dp < 0 ∧ dp.toNatClampNeg = dj) (h3 : ¬ cnt < 0 ∧ cnt.toNatClampNeg = nj) (h4 : sj + nj ≤ n0) (h5 : dj + nj ≤ n1) (hroom : Nat.ble (st.map fun v => v.category).sum 8 = true) (hset : h.set q1 (.inl (n1, .inl (va_cpy f g sj dj nj))) = h') (kk : V M d mc ms Q k n np L st h') : V M d mc ms Q k n pc L (.int cnt :: .int dp :: .ref q1 :: .int sp :: .ref q0 :: st) h := by
  obtain ⟨hd, hnp, hax⟩ := m_dec hM hi (by simp [ilen])
  have hcn := (m_cn hM).1
  subst hnp; subst hset
  intro p l e s m args below meth c w b H locs ls X hS hH hZ hL
  obtain ⟨hx, hb, hml, hown, hts, -, -, hK, hN, -, hb0⟩ := id X
  rw [← hcn] at hown
  obtain ⟨p0, hp0⟩ := has2_ex ho
  have hw := List.all_eq_true.mp acL_ok _ hp0
  simp only [decide_eq_true_eq] at hw
  have hr := Nat.le_of_ble_eq_true hroom
  obtain ⟨h1, rfl⟩ := h1
  obtain ⟨h2, rfl⟩ := h2
  obtain ⟨h3, rfl⟩ := h3
  refine va_copyi (ty := .int) hx hb (by rw [hml]; exact hL.lt.symm) hown (hts _ (tg_at hw rfl)) (hts _ posCN_w) (hts _ posCS_w) (hts _ posCI_w) hK hH cvH_D hS q0 q1 0 0 (cvH_get hq0) (cvH_get hq1) rfl rfl rfl h1 h2 h3 h4 h5 (fun _ _ => rfl) (by show 1 ≤ d + 2; omega) ?_ hd (fun H1 locs1 hP1 _ hS1 => kk p l e s m args below meth c w b H1 locs1 ls X hS1 (by unfold HR; rw [cvH_set]; exact hP1) (by rw [List.length_set]; exact hZ) hL)
  rw [cv_cat]
  show _ ≤ 40 * d + 60
  have e : nativeFrameWords "java/lang/System" "arraycopy" 5 + 11 ≤ 52 := by decide +kernel
  omega
end RULES7
