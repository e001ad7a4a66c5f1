theorem HR.lo {w : wd_T} {b : Nat} {h : hp_T} {H : Heap} (hH : HR w b h H) (hb : b ≤ H.size) : b + h.length ≤ H.size := by
  cases hl : h.length with
  | zero => simpa using hb
  | succ n =>
    have hn : n < h.length := by omega
    have h1 := (hH n _ (cvH_get (w := w) (b := b) (List.getElem?_eq_getElem hn))).lt
    simp only at h1
    omega
/-! branches -/
def brp (i : Instr) (st : List Value) : Option (Prop × Prop × List Value) := match i with
  | .ifCond c _ => match st with
    | .int a :: st => match c with
      | .eq => some (a = 0, ¬ a = 0, st)
      | .ne => some (¬ a = 0, a = 0, st)
      | .lt => some (a < 0, 0 ≤ a, st)
      | .ge => some (0 ≤ a, a < 0, st)
      | .gt => some (0 < a, a ≤ 0, st)
      | .le => some (a ≤ 0, 0 < a, st)
    | _ => none
  | .if_icmp c _ => match st with
    | .int y :: .int a :: st => match c with
      | .eq => some (a = y, ¬ a = y, st)
      | .ne => some (¬ a = y, a = y, st)
      | .lt => some (a < y, y ≤ a, st)
      | .ge => some (y ≤ a, a < y, st)
      | .gt => some (y < a, a ≤ y, st)
      | .le => some (a ≤ y, y < a, st)
    | _ => none
  | _ => none
section RULES
variable {M : mt_T} {d mc ms k n pc np x : Nat} {Q : Option Value → hp_T → Prop} {L : List (Option Value)} {st st' : List Value} {h : hp_T}
theorem V.br {i : Instr} {P P' : Prop} (hM : mOK M) (hi : lkf (m_tab M) pc = some (i, np, x)) (hs : brp i st = some (P, P', st')) (kt : P → V M d mc ms Q k n x L st' h) (kf : P' → V M d mc ms Q k n np L st' h) : V M d mc ms Q k n pc L st h := by
  have hz : ilen i ≠ 0 := by
    intro hz
    cases i <;> first | (cases hs; done) | (simp [ilen] at hz)
  obtain ⟨hd, hnp, hax⟩ := m_dec hM hi hz
  intro p l e s m args below meth c w b H locs ls X hS hH hZ hL
  have kt := fun hp => kt hp p l e s m args below meth c w b H locs ls X hS hH hZ hL
  have kf := fun hp => kf hp p l e s m args below meth c w b H locs ls X hS hH hZ hL
  obtain ⟨hx, hb, hml, hown, hts, -, -, -, -, -, -⟩ := id X
  subst hnp
  cases i with
  | ifCond cd o =>
    have ho : (pc : Int) + o = (x : Int) := of_decide_eq_true hax
    match st, hs with
    | .int a :: st, hs =>
      cases cd <;> cases hs
      · exact lv_if_eq hx hb hd ho kt kf
      · exact lv_if_ne hx hb hd ho kt kf
      · exact lv_if_lt hx hb hd ho kt (fun g => kf (Int32.not_lt.mp g))
      · exact lv_if_ge hx hb hd ho kt (fun g => kf (Int32.not_le.mp g))
      · exact lv_if_gt hx hb hd ho kt (fun g => kf (Int32.not_lt.mp g))
      · exact lv_if_le hx hb hd ho kt (fun g => kf (Int32.not_le.mp g))
  | if_icmp cd o =>
    have ho : (pc : Int) + o = (x : Int) := of_decide_eq_true hax
    match st, hs with
    | .int y :: .int a :: st, hs =>
      cases cd <;> cases hs
      · exact lv_icmp_eq hx hb hd ho kt kf
      · exact lv_icmp_ne hx hb hd ho kt kf
      · exact lv_icmp_lt hx hb hd ho kt (fun g => kf (Int32.not_lt.mp g))
      · exact lv_icmp_ge hx hb hd ho kt (fun g => kf (Int32.not_le.mp g))
      · exact lv_icmp_gt hx hb hd ho kt (fun g => kf (Int32.not_lt.mp g))
      · exact lv_icmp_le hx hb hd ho kt (fun g => kf (Int32.not_le.mp g))
  | _ => cases hs
theorem V.tIn {dflt lo hi : Int} {offs : Array Int} {a : Int32} {off : Int} {tgt : Nat} (hM : mOK M) (hi' : lkf (m_tab M) pc = some (.tableswitch dflt lo hi offs, np, x)) (h1 : ¬ a.toInt < lo) (h2 : ¬ hi < a.toInt) (ho : offs[(a.toInt - lo).toNat]? = some off) (ht : (pc : Int) + off = (tgt : Int)) (kk : V M d mc ms Q k n tgt L st h) : V M d mc ms Q k n pc L (.int a :: st) h := by
  obtain ⟨hd, -⟩ := m_row hM hi'
  intro p l e s m args below meth c w b H locs ls X hS hH hZ hL
  exact lv_tableIn X.1 X.2.1 hd h1 h2 ho ht (kk p l e s m args below meth c w b H locs ls X hS hH hZ hL)
theorem V.tOut {dflt lo hi : Int} {offs : Array Int} {a : Int32} {tgt : Nat} (hM : mOK M) (hi' : lkf (m_tab M) pc = some (.tableswitch dflt lo hi offs, np, x)) (h1 : a.toInt < lo ∨ hi < a.toInt) (ht : (pc : Int) + dflt = (tgt : Int)) (kk : V M d mc ms Q k n tgt L st h) : V M d mc ms Q k n pc L (.int a :: st) h := by
  obtain ⟨hd, -⟩ := m_row hM hi'
  intro p l e s m args below meth c w b H locs ls X hS hH hZ hL
  exact lv_tableOut X.1 X.2.1 hd h1 ht (kk p l e s m args below meth c w b H locs ls X hS hH hZ hL)
theorem V.lsw {dflt : Int} {ps : Array (Int × Int)} {a : Int32} {off : Int} {tgt : Nat} (hM : mOK M) (hi' : lkf (m_tab M) pc = some (.lookupswitch dflt ps, np, x)) (hp : (ps.toList.zip (ps.toList.drop 1)).all (fun (a, next) => a.1 < next.1) = true) (ho : Op.lookupswitch.offset ps.toList dflt a.toInt = off) (ht : (pc : Int) + off = (tgt : Int)) (kk : V M d mc ms Q k n tgt L st h) : V M d mc ms Q k n pc L (.int a :: st) h := by
  obtain ⟨hd, -⟩ := m_row hM hi'
  intro p l e s m args below meth c w b H locs ls X hS hH hZ hL
  exact lv_lookup X.1 X.2.1 hd hp ho ht (kk p l e s m args below meth c w b H locs ls X hS hH hZ hL)
/-! division -/
theorem V.idiv {a y : Int32} (hM : mOK M) (hi : lkf (m_tab M) pc = some (.idiv, np, x)) (hne : ¬ y = 0) (kk : V M d mc ms Q k n np L (.int (a / y) :: st) h) : V M d mc ms Q k n pc L (.int y :: .int a :: st) h := by
  obtain ⟨hd, hnp, hax⟩ := m_dec hM hi (by simp [ilen])
  subst hnp
  intro p l e s m args below meth c w b H locs ls X hS hH hZ hL
  exact lv_idiv X.1 X.2.1 hd hne (kk p l e s m args below meth c w b H locs ls X hS hH hZ hL)
theorem V.irem {a y : Int32} (hM : mOK M) (hi : lkf (m_tab M) pc = some (.irem, np, x)) (hne : ¬ y = 0) (kk : V M d mc ms Q k n np L (.int (a - a / y * y) :: st) h) : V M d mc ms Q k n pc L (.int y :: .int a :: st) h := by
  obtain ⟨hd, hnp, hax⟩ := m_dec hM hi (by simp [ilen])
  subst hnp
  intro p l e s m args below meth c w b H locs ls X hS hH hZ hL
  exact lv_irem X.1 X.2.1 hd hne (kk p l e s m args below meth c w b H locs ls X hS hH hZ hL)
theorem V.lrem {a y : Int64} (hM : mOK M) (hi : lkf (m_tab M) pc = some (.lrem, np, x)) (hne : ¬ y = 0) (kk : V M d mc ms Q k n np L (.long (a - a / y * y) :: st) h) : V M d mc ms Q k n pc L (.long y :: .long a :: st) h := by
  obtain ⟨hd, hnp, hax⟩ := m_dec hM hi (by simp [ilen])
  subst hnp
  intro p l e s m args below meth c w b H locs ls X hS hH hZ hL
  exact lv_lrem X.1 X.2.1 hd hne (kk p l e s m args below meth c w b H locs ls X hS hH hZ hL)
end RULES
/-! fields -/
theorem kcl_at : ∀ {ci : Nat}, ci < 7 → kcl[ci]? = some (kC ci, kT ci, kN ci)
  | 0, _ => rfl
  | 1, _ => rfl
  | 2, _ => rfl
  | 3, _ => rfl
  | 4, _ => rfl
  | 5, _ => rfl
  | 6, _ => rfl
set_option maxRecDepth 100000 in
theorem k_wsB : (List.range 7).all (fun ci => (u_ws (kC ci) (kT ci) (kN ci)).all (fun w => decide (w ∈ lw_tbl) && goodWord w)) = true := by decide +kernel
theorem k_ws {ci : Nat} (hc : ci < 7) : ∀ w ∈ u_ws (kC ci) (kT ci) (kN ci), w ∈ tg := by
  intro w hw
  have h := List.all_eq_true.mp (List.all_eq_true.mp k_wsB ci (List.mem_range.mpr hc)) w hw
  simp only [Bool.and_eq_true, decide_eq_true_eq] at h
  exact List.mem_filter.mpr h
theorem k_nm : ∀ {ci : Nat}, ci < 7 → ∀ a, a < kN ci → ∀ b, b < kN ci → a ≠ b → (kT ci a).2.1 ≠ (kT ci b).2.1
  | 0, _ => nmX0
  | 1, _ => nmX3
  | 2, _ => nmX4
  | 3, _ => nmX5
  | 4, _ => nmX6
  | 5, _ => nmX7
  | 6, _ => nmX8
theorem k_ty : ∀ {ci : Nat}, ci < 7 → ∀ k, k < kN ci → parseFieldDescriptor (kT ci k).2.2.1 = some (kty ci k)
  | 0, _ => tyX0_ok
  | 1, _ => tyX3_ok
  | 2, _ => tyX4_ok
  | 3, _ => tyX5_ok
  | 4, _ => tyX6_ok
  | 5, _ => tyX7_ok
  | 6, _ => tyX8_ok
def flB (f : Nat × Nat × Nat × Nat → Cond) (q : Nat × Nat × Nat × Nat) : Bool :=
  decide (lw_tbl[q.2.2.2]? = some (f q)) && (decide ((kT (q.2.2.1 / 64) (q.2.2.1 % 64)).1 = kC (q.2.2.1 / 64)) && (Nat.blt (q.2.2.1 % 64) (kN (q.2.2.1 / 64)) && Nat.blt (q.2.2.1 / 64) 7))
def flF (q : Nat × Nat × Nat × Nat) : Cond := Cond.fieldLink (cn q.1) q.2.1 (kC (q.2.2.1 / 64)) (kT (q.2.2.1 / 64) (q.2.2.1 % 64)).2.1 (kT (q.2.2.1 / 64) (q.2.2.1 % 64)).2.2.1
def flG (q : Nat × Nat × Nat × Nat) : Cond := Cond.fieldLinkNest (cn q.1) q.2.1 (kC (q.2.2.1 / 64)) (kT (q.2.2.1 / 64) (q.2.2.1 % 64)).2.1 (kT (q.2.2.1 / 64) (q.2.2.1 % 64)).2.2.1 "RoundKiss"
set_option maxRecDepth 100000 in
theorem flN_ok : flN.all (flB flF) = true := by decide +kernel
set_option maxRecDepth 100000 in
theorem flX_ok : flX.all (flB flG) = true := by decide +kernel
theorem flB_w {f : Nat × Nat × Nat × Nat → Cond} {l : List (Nat × Nat × Nat × Nat)} (hl : l.all (flB f) = true) {a j x p : Nat} (h : (a, j, x, p) ∈ l) : lw_tbl[p]? = some (f (a, j, x, p)) ∧ (kT (x / 64) (x % 64)).1 = kC (x / 64) ∧ x % 64 < kN (x / 64) ∧ x / 64 < 7 := by
  have h1 := List.all_eq_true.mp hl _ h
  unfold flB at h1
  simp only [Bool.and_eq_true, decide_eq_true_eq] at h1
  exact ⟨h1.1, h1.2.1, by simpa [Nat.blt_eq] using h1.2.2.1, by simpa [Nat.blt_eq] using h1.2.2.2⟩
/-- what may be laid into a field -/
def okv (ty : FieldType) (v : Value) : Bool := match ty with
  | .int => match v with
    | .int _ => true
    | _ => false
  | .long => match v with
    | .long _ => true
    | _ => false
  | .boolean => match v with
    | .int y => decide (y = 0) || decide (y = 1)
    | _ => false
  | .array _ => match v with
    | .ref _ => true
    | _ => false
  | .object _ => match v with
    | .ref _ => true
    | _ => false
  | _ => false
theorem okv_spec {ty : FieldType} {v : Value} {b : Nat} (h : okv ty v = true) : narrow ty (cvV b v) = cvV b v ∧ fits ty (cvV b v) = true := by
  unfold okv at h
  split at h
  · split at h
    · exact ⟨rfl, rfl⟩
    · cases h
  · split at h
    · exact ⟨rfl, rfl⟩
    · cases h
  · split at h
    · simp only [Bool.or_eq_true, decide_eq_true_eq] at h
      rcases h with rfl | rfl
      · exact ⟨show narrow .boolean (.int 0) = .int 0 by decide +kernel, show fits .boolean (.int 0) = true by decide +kernel⟩
      · exact ⟨show narrow .boolean (.int 1) = .int 1 by decide +kernel, show fits .boolean (.int 1) = true by decide +kernel⟩
    · cases h
  · split at h
    · exact ⟨rfl, rfl⟩
    · cases h
  · split at h
    · exact ⟨rfl, rfl⟩
    · cases h
  · cases h
section RULES2
variable {M : mt_T} {d mc ms k n pc np x : Nat} {Q : Option Value → hp_T → Prop} {L : List (Option Value)} {st st' : List Value} {h : hp_T}
theorem V.gf {j q ci : Nat} {fs : List Value} {v : Value} (hM : mOK M) (hi : lkf (m_tab M) pc = some (.getfield j, np, x)) (hq : h[q]? = some (.inr (ci, fs))) (hc : x / 64 = ci) (hv : fs[x % 64]? = some v) (kk : V M d mc ms Q k n np L (v :: st) h) : V M d mc ms Q k n pc L (.ref q :: st) h := by
  obtain ⟨hd, hnp, hax⟩ := m_dec hM hi (by simp [ilen])
  have hcn := (m_cn hM).1
  subst hnp; subst hc
  intro p l e s m args below meth c w b H locs ls X hS hH hZ hL
  have kk := kk p l e s m args below meth c w b H locs ls X hS hH hZ hL
  obtain ⟨hx, hb, hml, hown, hts, -, -, hK, hN, -, -⟩ := id X
  rw [← hcn] at hown
  rcases Bool.or_eq_true_iff.mp (show (has3 flN M.2.2.2.2.1 j x || has3 flX M.2.2.2.2.1 j x) = true from hax) with h1 | h1
  · obtain ⟨p0, hp0⟩ := has3_ex h1
    obtain ⟨hw, hdecl, hk, hci⟩ := flB_w flN_ok hp0
    exact va_get (D := (w.1, w.2.1)) (ref := kC (x / 64)) (v := cvV b v) hx hb hts (k_ws hci) hown hK hH q (fs := fs.map (cvV b)) (cvH_get hq) (kcl_at hci) (x % 64) hk (hts _ (tg_at hw rfl)) (fun y hy => by rw [hdecl] at hy; exact hy) (by simp [hv]) hd kk
  · obtain ⟨p0, hp0⟩ := has3_ex h1
    obtain ⟨hw, hdecl, hk, hci⟩ := flB_w flX_ok hp0
    have hn := hN.1 _ (List.mem_map.mpr ⟨_, hp0, rfl⟩)
    exact va_getN (D := (w.1, w.2.1)) (ref := kC (x / 64)) (v := cvV b v) hx hb hts (k_ws hci) hown hK hH q (fs := fs.map (cvV b)) (cvH_get hq) (kcl_at hci) (x % 64) hk (va_Nw.use rfl hn) (fun y hy => by rw [hdecl] at hy; exact hy) (by simp [hv]) hd kk
theorem V.pf {j q ci : Nat} {fs : List Value} {v : Value} (h' : hp_T) (hM : mOK M) (hi : lkf (m_tab M) pc = some (.putfield j, np, x)) (hq : h[q]? = some (.inr (ci, fs))) (hc : x / 64 = ci) (hf : (kT ci (x % 64)).2.2.2 = false) (hv : okv (kty ci (x % 64)) v = true) (hl : x % 64 < fs.length) (hset : h.set q (.inr (ci, fs.set (x % 64) v)) = h') (kk : V M d mc ms Q k n np L st h') : V M d mc ms Q k n pc L (v :: .ref q :: st) h := by
  obtain ⟨hd, hnp, hax⟩ := m_dec hM hi (by simp [ilen])
  have hcn := (m_cn hM).1
  subst hnp; subst hc; subst hset
  intro p l e s m args below meth c w b H locs ls X hS hH hZ hL
  have kk := fun H1 locs1 hS1 hH1 => kk p l e s m args below meth c w b H1 locs1 ls X hS1 hH1 (by rw [List.length_set]; exact hZ) hL
  obtain ⟨hx, hb, hml, hown, hts, -, -, hK, hN, -, -⟩ := id X
  rw [← hcn] at hown
  obtain ⟨o1, o2⟩ := okv_spec (b := b) hv
  have key : ∀ H1, va_P (w.1, w.2.1) kcl ((cvH w b h).set q (b + q, .inr (x / 64, (fs.map (cvV b)).set (x % 64) (cvV b v)))) H1 → HR w b (h.set q (.inr (x / 64, fs.set (x % 64) v))) H1 := by
    intro H1 hP
    unfold HR
    rw [cvH_set]
    have e : cvE w b (.inr (x / 64, fs.set (x % 64) v)) = .inr (x / 64, (fs.map (cvV b)).set (x % 64) (cvV b v)) := by
      show (Sum.inr _ : va_E) = _
      rw [List.map_set]
    rw [e]
    exact hP
  rcases Bool.or_eq_true_iff.mp (show (has3 flN M.2.2.2.2.1 j x || has3 flX M.2.2.2.2.1 j x) = true from hax) with h1 | h1
  · obtain ⟨p0, hp0⟩ := has3_ex h1
    obtain ⟨hw, hdecl, hk, hci⟩ := flB_w flN_ok hp0
    exact va_put (D := (w.1, w.2.1)) (ref := kC (x / 64)) (v := cvV b v) hx hb hts (k_ws hci) (kty (x / 64)) (k_ty hci) (k_nm hci) hown hK hH cvH_D hS q (fs := fs.map (cvV b)) (cvH_get hq) (kcl_at hci) (x % 64) hk (hts _ (tg_at hw rfl)) (fun y hy => by rw [hdecl] at hy; exact hy) hf (k_ty hci _ hk) o1 o2 (by simpa using hl) hd (fun H1 locs1 hP1 _ hS1 => kk H1 locs1 hS1 (key H1 hP1))
  · obtain ⟨p0, hp0⟩ := has3_ex h1
    obtain ⟨hw, hdecl, hk, hci⟩ := flB_w flX_ok hp0
    have hn := hN.1 _ (List.mem_map.mpr ⟨_, hp0, rfl⟩)
    exact va_putN (D := (w.1, w.2.1)) (ref := kC (x / 64)) (v := cvV b v) hx hb hts (k_ws hci) (kty (x / 64)) (k_ty hci) (k_nm hci) hown hK hH cvH_D hS q (fs := fs.map (cvV b)) (cvH_get hq) (kcl_at hci) (x % 64) hk (va_Nw.use rfl hn) (fun y hy => by rw [hdecl] at hy; exact hy) hf (k_ty hci _ hk) o1 o2 (by simpa using hl) hd (fun H1 locs1 hP1 _ hS1 => kk H1 locs1 hS1 (key H1 hP1))
/-- a final field, in its constructor -/
theorem V.pfF {j q ci : Nat} {fs : List Value} {v : Value} (h' : hp_T) (hM : mOK M) (hi : lkf (m_tab M) pc = some (.putfield j, np, x)) (hq : h[q]? = some (.inr (ci, fs))) (hc : x / 64 = ci) (hf : (kT ci (x % 64)).2.2.2 = true) (hnm : M.1.name = "<init>") (hcc : kC ci = cn M.2.2.2.2.1) (hfl : has3 flN M.2.2.2.2.1 j x = true) (hv : okv (kty ci (x % 64)) v = true) (hl : x % 64 < fs.length) (hset : h.set q (.inr (ci, fs.set (x % 64) v)) = h') (kk : V M d mc ms Q k n np L st h') : V M d mc ms Q k n pc L (v :: .ref q :: st) h := by
  obtain ⟨hd, hnp, hax⟩ := m_dec hM hi (by simp [ilen])
  have hcn := (m_cn hM).1
  subst hnp; subst hc; subst hset
  intro p l e s m args below meth c w b H locs ls X hS hH hZ hL
  have kk := fun H1 locs1 hS1 hH1 => kk p l e s m args below meth c w b H1 locs1 ls X hS1 hH1 (by rw [List.length_set]; exact hZ) hL
  obtain ⟨hx, hb, hml, hown, hts, -, -, hK, hN, hmn, -⟩ := id X
  rw [← hcn] at hown
  obtain ⟨o1, o2⟩ := okv_spec (b := b) hv
  have key : ∀ H1, va_P (w.1, w.2.1) kcl ((cvH w b h).set q (b + q, .inr (x / 64, (fs.map (cvV b)).set (x % 64) (cvV b v)))) H1 → HR w b (h.set q (.inr (x / 64, fs.set (x % 64) v))) H1 := by
    intro H1 hP
    unfold HR
    rw [cvH_set]
    have e : cvE w b (.inr (x / 64, fs.set (x % 64) v)) = .inr (x / 64, (fs.map (cvV b)).set (x % 64) (cvV b v)) := by
      show (Sum.inr _ : va_E) = _
      rw [List.map_set]
    rw [e]
    exact hP
  obtain ⟨p0, hp0⟩ := has3_ex hfl
  obtain ⟨hw, hdecl, hk, hci⟩ := flB_w flN_ok hp0
  exact va_putF (D := (w.1, w.2.1)) (ref := kC (x / 64)) (v := cvV b v) hx hb hts (k_ws hci) (kty (x / 64)) (k_ty hci) (k_nm hci) hown hK hH cvH_D hS q (fs := fs.map (cvV b)) (cvH_get hq) (kcl_at hci) (x % 64) hk (hts _ (tg_at hw rfl)) (fun y hy => by rw [hdecl] at hy; exact hy) hf (by rw [hmn]; exact hnm) (by rw [hdecl]; exact hcc) (k_ty hci _ hk) o1 o2 (by simpa using hl) hd (fun H1 locs1 hP1 _ hS1 => kk H1 locs1 hS1 (key H1 hP1))
end RULES2
