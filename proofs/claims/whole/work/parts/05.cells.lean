def ix (i : Int32) (j n : Nat) : Prop := i.toNatClampNeg = j ∧ vp_in i n
theorem ix_nI {j n : Nat} (h : j < n) (hn : n < 2 ^ 31) : ix (nI j) j n := ⟨nI_clamp (by omega), vp_in_nI h hn⟩
section RULES3
variable {M : mt_T} {d mc ms k n pc np x : Nat} {Q : Option Value → hp_T → Prop} {L : List (Option Value)} {st st' : List Value} {h : hp_T}
theorem V.ial {q len j : Nat} {f : Nat → Int32} {i : Int32} (hM : mOK M) (hi : lkf (m_tab M) pc = some (.iaload, np, x)) (hq : h[q]? = some (.inl (len, .inl f))) (hin : ix i j len) (kk : V M d mc ms Q k n np L (.int (f j) :: st) h) : V M d mc ms Q k n pc L (.int i :: .ref q :: st) h := by
  obtain ⟨hd, hnp, hax⟩ := m_dec hM hi (by simp [ilen])
  obtain ⟨rfl, hin⟩ := hin
  subst hnp
  intro p l e s m args below meth c w b H locs ls X hS hH hZ hL
  obtain ⟨hx, hb, hml, hown, hts, -, -, hK, hN, -, -⟩ := id X
  exact va_iald hx hb hK hH q 0 (cvH_get hq) rfl hin hd (kk p l e s m args below meth c w b H locs ls X hS hH hZ hL)
theorem V.lal {q len j : Nat} {f : Nat → Int64} {i : Int32} (hM : mOK M) (hi : lkf (m_tab M) pc = some (.laload, np, x)) (hq : h[q]? = some (.inl (len, .inr (.inl f)))) (hin : ix i j len) (kk : V M d mc ms Q k n np L (.long (f j) :: st) h) : V M d mc ms Q k n pc L (.int i :: .ref q :: st) h := by
  obtain ⟨hd, hnp, hax⟩ := m_dec hM hi (by simp [ilen])
  obtain ⟨rfl, hin⟩ := hin
  subst hnp
  intro p l e s m args below meth c w b H locs ls X hS hH hZ hL
  obtain ⟨hx, hb, hml, hown, hts, -, -, hK, hN, -, -⟩ := id X
  exact va_lald hx hb hK hH q 1 (cvH_get hq) rfl hin hd (kk p l e s m args below meth c w b H locs ls X hS hH hZ hL)
theorem V.aal {q len j a : Nat} {f : Nat → Option Nat} {i : Int32} (hM : mOK M) (hi : lkf (m_tab M) pc = some (.aaload, np, x)) (hq : h[q]? = some (.inl (len, .inr (.inr (.inr (.inr f)))))) (hin : ix i j len) (hf : f j = some a) (kk : V M d mc ms Q k n np L (.ref a :: st) h) : V M d mc ms Q k n pc L (.int i :: .ref q :: st) h := by
  obtain ⟨hd, hnp, hax⟩ := m_dec hM hi (by simp [ilen])
  obtain ⟨rfl, hin⟩ := hin
  subst hnp
  intro p l e s m args below meth c w b H locs ls X hS hH hZ hL
  have kk := kk p l e s m args below meth c w b H locs ls X hS hH hZ hL
  obtain ⟨hx, hb, hml, hown, hts, -, -, hK, hN, -, -⟩ := id X
  refine va_aldq (C := "RoundKiss$Quad") hx hb hK hH q 2 (cvH_get hq) rfl hin hd ?_
  simp only [hf, Option.map_some]
  exact kk
theorem V.ias {q len j : Nat} {f : Nat → Int32} {i v : Int32} (h' : hp_T) (hM : mOK M) (hi : lkf (m_tab M) pc = some (.iastore, np, x)) (hq : h[q]? = some (.inl (len, .inl f))) (hin : ix i j len) (hset : h.set q (.inl (len, .inl (upd f j v))) = h') (kk : V M d mc ms Q k n np L st h') : V M d mc ms Q k n pc L (.int v :: .int i :: .ref q :: st) h := by
  obtain ⟨hd, hnp, hax⟩ := m_dec hM hi (by simp [ilen])
  obtain ⟨rfl, hin⟩ := hin
  subst hnp; subst hset
  intro p l e s m args below meth c w b H locs ls X hS hH hZ hL
  obtain ⟨hx, hb, hml, hown, hts, -, -, hK, hN, -, -⟩ := id X
  exact va_iast hx hb hK hH cvH_D hS q 0 (cvH_get hq) rfl hin hd (fun H1 locs1 hP1 _ hS1 => kk p l e s m args below meth c w b H1 locs1 ls X hS1 (by unfold HR; rw [cvH_set]; exact hP1) (by rw [List.length_set]; exact hZ) hL)
theorem V.las {q len j : Nat} {f : Nat → Int64} {i : Int32} {v : Int64} (h' : hp_T) (hM : mOK M) (hi : lkf (m_tab M) pc = some (.lastore, np, x)) (hq : h[q]? = some (.inl (len, .inr (.inl f)))) (hin : ix i j len) (hset : h.set q (.inl (len, .inr (.inl (vp_updL f j v)))) = h') (kk : V M d mc ms Q k n np L st h') : V M d mc ms Q k n pc L (.long v :: .int i :: .ref q :: st) h := by
  obtain ⟨hd, hnp, hax⟩ := m_dec hM hi (by simp [ilen])
  obtain ⟨rfl, hin⟩ := hin
  subst hnp; subst hset
  intro p l e s m args below meth c w b H locs ls X hS hH hZ hL
  obtain ⟨hx, hb, hml, hown, hts, -, -, hK, hN, -, -⟩ := id X
  exact va_last hx hb hK hH cvH_D hS q 1 (cvH_get hq) rfl hin hd (fun H1 locs1 hP1 _ hS1 => kk p l e s m args below meth c w b H1 locs1 ls X hS1 (by unfold HR; rw [cvH_set]; exact hP1) (by rw [List.length_set]; exact hZ) hL)
theorem V.aas {q len j a : Nat} {f : Nat → Option Nat} {fs : List Value} {i : Int32} (h' : hp_T) (hM : mOK M) (hi : lkf (m_tab M) pc = some (.aastore, np, x)) (hq : h[q]? = some (.inl (len, .inr (.inr (.inr (.inr f)))))) (ha : h[a]? = some (.inr (2, fs))) (hin : ix i j len) (hset : h.set q (.inl (len, .inr (.inr (.inr (.inr (va_up f j (some a))))))) = h') (kk : V M d mc ms Q k n np L st h') : V M d mc ms Q k n pc L (.ref a :: .int i :: .ref q :: st) h := by
  obtain ⟨hd, hnp, hax⟩ := m_dec hM hi (by simp [ilen])
  obtain ⟨rfl, hin⟩ := hin
  subst hnp; subst hset
  intro p l e s m args below meth c w b H locs ls X hS hH hZ hL
  obtain ⟨hx, hb, hml, hown, hts, -, -, hK, hN, -, -⟩ := id X
  refine va_astq (r := (kC 2, kT 2, kN 2)) hx hb hK hH cvH_D hS q 2 a 2 (cvH_get hq) rfl (cvH_get ha) (kcl_at (by decide)) hin hd (fun H1 locs1 hP1 _ hS1 => kk p l e s m args below meth c w b H1 locs1 ls X hS1 ?_ (by rw [List.length_set]; exact hZ) hL)
  unfold HR
  rw [cvH_set]
  have e : (fun k => (va_up f i.toNatClampNeg (some a) k).map (fun i => b + i)) = va_up (fun k => (f k).map (fun i => b + i)) i.toNatClampNeg (some (b + a)) := by
    funext z
    unfold va_up
    by_cases hz : z = i.toNatClampNeg <;> simp [hz]
  show va_P _ _ ((cvH w b h).set q (b + q, .inl (w.2.2.2.2, len, .inr (.inr (.inr (.inr (fun k => (va_up f i.toNatClampNeg (some a) k).map (fun i => b + i)))))))) H1
  rw [e]
  exact hP1
theorem V.alen {q len : Nat} {f : Nat → Int32} (hM : mOK M) (hi : lkf (m_tab M) pc = some (.arraylength, np, x)) (hq : h[q]? = some (.inl (len, .inl f))) (kk : V M d mc ms Q k n np L (.int (nI len) :: st) h) : V M d mc ms Q k n pc L (.ref q :: st) h := by
  obtain ⟨hd, hnp, hax⟩ := m_dec hM hi (by simp [ilen])
  subst hnp
  intro p l e s m args below meth c w b H locs ls X hS hH hZ hL
  obtain ⟨hx, hb, hml, hown, hts, -, -, hK, hN, -, -⟩ := id X
  exact va_alen hx hb hK hH q 0 (cvH_get hq) rfl rfl hd (kk p l e s m args below meth c w b H locs ls X hS hH hZ hL)
theorem W_sz {p : Program} {l : Launch} {e : Env} {R : Room} {s : State} {m : MethodId} {args : Array Value} {below : List Frame} {meth : Method} {c : Code} {H : Heap} {locs : List Loc} {cells slots : Nat} {Qf : State → Prop} {g : JFrame} (f : H.size ≤ s.heap.size + cells → W p l e R s m args below meth c H locs cells slots Qf g) : W p l e R s m args below meth c H locs cells slots Qf g := fun T hT X => f (by rw [← hT]; exact X.heapSize) T hT X
/-! the cell that comes has the next number -/
theorem HR.push {w : wd_T} {b : Nat} {h : hp_T} {H H1 : Heap} {c : ac_T} (hH : HR w b h H) (o1 : ∀ q, q < b + h.length → H1[q]? = H[q]?) (hsz : H.size = b + h.length) (hc : va_at (w.1, w.2.1) kcl (b + h.length, cvE w b c) H1) : HR w b (h ++ [c]) H1 := by
  unfold HR
  rw [cvH_app]
  refine va_P.app (hH.kept fun k x hx => o1 _ (by rw [← hsz]; exact (hH k x hx).lt)) ?_
  intro k q hk
  have hz : k < 1 := (List.getElem?_eq_some_iff.mp hk).1
  rw [show k = 0 by omega] at hk
  cases hk
  exact hc
theorem va_S.push {A : Nat → Prop} {H0 H H1 : Heap} {locs : List Loc} (hS : va_S A H0 H locs) (o1 : ∀ q, q < H.size → H1[q]? = H[q]?) (hsz : H.size ≤ H1.size) : va_S A H0 H1 locs :=
  ⟨Nat.le_trans hS.1 hsz, fun q h1 h2 => (o1 q (Nat.lt_of_lt_of_le h1 hS.1)).trans (hS.2.1 q h1 h2), hS.2.2⟩
theorem posAI_w : Cond.arrayClass .int ∈ tg := tg_at (p := posAI) (by decide +kernel) rfl
theorem posAL_w : Cond.arrayClass .long ∈ tg := tg_at (p := posAL) (by decide +kernel) rfl
theorem V.newI {N : Nat} {a : Int32} (hM : mOK M) (hi : lkf (m_tab M) pc = some (.newarray .int, np, x)) (ha : ¬ a < 0) (hN : a.toNatClampNeg = N) (hsm : N ≤ 100000) (hk : k + 1 ≤ mc) (hn : n + N ≤ ms) (kk : V M d mc ms Q (k + 1) (n + N) np L (.ref h.length :: st) (h ++ [.inl (N, .inl (fun _ => 0))])) : V M d mc ms Q k n pc L (.int a :: st) h := by
  obtain ⟨hd, hnp, hax⟩ := m_dec hM hi (by simp [ilen])
  subst hnp
  intro p l e s m args below meth c w b H locs ls X hS hH hZ hL
  obtain ⟨hx, hb, hml, hown, hts, -, -, hK, hN2, -, hb0⟩ := id X
  have hlo := hH.lo (Nat.le_trans hb0 hS.1)
  refine W_sz (fun hhi => ?_)
  have hsz : H.size = b + h.length := by omega
  refine va_newaK (atype := .int) hx hb (hts _ posAI_w) rfl hd rfl ha hN (by show N * 4 ≤ _; omega) hk hn hsz (fun H1 cA e1 z1 o1 hAr hNm => ?_)
  have hcA : cA = w.2.2.1 := by
    have h2 : s.vm.findClass ("[" ++ (FieldType.int).toString) = some w.2.2.1 := (hK.2 0 _ rfl).2
    exact Option.some.inj (hNm.symm.trans h2)
  subst hcA
  exact kk p l e s m args below meth c w b H1 locs ls X (hS.push (fun q hq => o1 q (by omega)) (by omega)) (hH.push o1 hsz e1) (by simp; omega) hL
theorem V.newL {N : Nat} {a : Int32} (hM : mOK M) (hi : lkf (m_tab M) pc = some (.newarray .long, np, x)) (ha : ¬ a < 0) (hN : a.toNatClampNeg = N) (hsm : N ≤ 100000) (hk : k + 1 ≤ mc) (hn : n + N ≤ ms) (kk : V M d mc ms Q (k + 1) (n + N) np L (.ref h.length :: st) (h ++ [.inl (N, .inr (.inl (fun _ => 0)))])) : V M d mc ms Q k n pc L (.int a :: st) h := by
  obtain ⟨hd, hnp, hax⟩ := m_dec hM hi (by simp [ilen])
  subst hnp
  intro p l e s m args below meth c w b H locs ls X hS hH hZ hL
  obtain ⟨hx, hb, hml, hown, hts, -, -, hK, hN2, -, hb0⟩ := id X
  have hlo := hH.lo (Nat.le_trans hb0 hS.1)
  refine W_sz (fun hhi => ?_)
  have hsz : H.size = b + h.length := by omega
  refine va_newaK (atype := .long) hx hb (hts _ posAL_w) rfl hd rfl ha hN (by show N * 8 ≤ _; omega) hk hn hsz (fun H1 cA e1 z1 o1 hAr hNm => ?_)
  have hcA : cA = w.2.2.2.1 := by
    have h2 : s.vm.findClass ("[" ++ (FieldType.long).toString) = some w.2.2.2.1 := (hK.2 1 _ rfl).2
    exact Option.some.inj (hNm.symm.trans h2)
  subst hcA
  exact kk p l e s m args below meth c w b H1 locs ls X (hS.push (fun q hq => o1 q (by omega)) (by omega)) (hH.push o1 hsz e1) (by simp; omega) hL
end RULES3
def nlB (q : Nat × Nat × Nat × Nat) : Bool := decide (lw_tbl[q.2.1]? = some (.instantiable (kC q.1) (kN q.1))) && (decide (lw_tbl[q.2.2.1]? = some (.initialized (kC q.1))) && Nat.blt q.1 7)
set_option maxRecDepth 100000 in
theorem nlL_ok : nlL.all nlB = true := by decide +kernel
theorem nlL_all : (List.range 7).all (fun c => nlL.any (fun q => Nat.beq q.1 c)) = true := by decide +kernel
theorem nl_w {ci : Nat} (hc : ci < 7) : Cond.instantiable (kC ci) (kN ci) ∈ tg ∧ Cond.initialized (kC ci) ∈ tg := by
  have h1 := List.all_eq_true.mp nlL_all ci (List.mem_range.mpr hc)
  obtain ⟨q, hq, e⟩ := List.any_eq_true.mp h1
  have e := Nat.eq_of_beq_eq_true e
  have h2 := List.all_eq_true.mp nlL_ok q hq
  unfold nlB at h2
  simp only [Bool.and_eq_true, decide_eq_true_eq] at h2
  rw [e] at h2
  exact ⟨tg_at h2.1 rfl, tg_at h2.2.1 rfl⟩
set_option maxRecDepth 100000 in
theorem clL_ok : clL.all (fun q => decide (lw_tbl[q.2.2.2]? = some (.classLink (cn q.1) q.2.1 (kC q.2.2.1))) && Nat.blt q.2.2.1 7) = true := by decide +kernel
theorem cl_w {a j x p : Nat} (h : (a, j, x, p) ∈ clL) : Cond.classLink (cn a) j (kC x) ∈ tg ∧ x < 7 := by
  have h1 := List.all_eq_true.mp clL_ok _ h
  simp only [Bool.and_eq_true, decide_eq_true_eq] at h1
  exact ⟨tg_at h1.1 rfl, by simpa [Nat.blt_eq] using h1.2⟩
def dfv (ty : FieldType) : Value := defaultValue ty
def dfL (c : Nat) : List Value := match c with
  | 0 => [.null, .int 0, .int 0]
  | 1 => [.null, .int 0, .int 0, .int 0, .int 0, .int 0, .int 0, .long 0, .int 0, .int 0]
  | 2 => [.null, .int 0]
  | 3 => [.null, .null, .null, .null, .int 0]
  | 4 => [.null, .null, .null, .int 0, .int 0]
  | 5 => [.null, .null, .null, .null, .null, .null, .null, .null, .null, .int 0, .int 0, .int 0]
  | _ => (List.range 29).map (fun j => defaultValue (tyX8 j))
theorem dfL_ok : ∀ {ci : Nat}, ci < 7 → ∀ b j, j < kN ci → defaultValue (kty ci j) = vp_V ((dfL ci).map (cvV b)) j := by
  intro ci hc b j hj
  have h : (List.range 7).all (fun c => (List.range (kN c)).all (fun j => decide (defaultValue (kty c j) = vp_V (dfL c) j) && (match (dfL c)[j]? with | some (.ref _) => false | some _ => true | none => false))) = true := by decide +kernel
  have h1 := List.all_eq_true.mp (List.all_eq_true.mp h ci (List.mem_range.mpr hc)) j (List.mem_range.mpr hj)
  simp only [Bool.and_eq_true, decide_eq_true_eq] at h1
  rw [h1.1]
  unfold vp_V
  cases hv : (dfL ci)[j]? with
  | none => rw [hv] at h1; simp at h1
  | some v =>
    rw [hv] at h1
    have : cvV b v = v := by cases v <;> first | rfl | (simp at h1)
    simp [List.getD_eq_getElem?_getD, hv, this]
section RULES4
variable {M : mt_T} {d mc ms k n pc np x : Nat} {Q : Option Value → hp_T → Prop} {L : List (Option Value)} {st st' : List Value} {h : hp_T}
theorem V.new {j : Nat} (hM : mOK M) (hi : lkf (m_tab M) pc = some (.new j, np, x)) (hk : k + 1 ≤ mc) (hn : n + kN x ≤ ms) (kk : V M d mc ms Q (k + 1) (n + kN x) np L (.ref h.length :: st) (h ++ [.inr (x, dfL x)])) : V M d mc ms Q k n pc L st h := by
  obtain ⟨hd, hnp, hax⟩ := m_dec hM hi (by simp [ilen])
  have hcn := (m_cn hM).1
  subst hnp
  intro p l e s m args below meth c w b H locs ls X hS hH hZ hL
  obtain ⟨hx, hb, hml, hown, hts, -, -, hK, hN2, -, hb0⟩ := id X
  rw [← hcn] at hown
  obtain ⟨p0, hp0⟩ := has3_ex (show has3 clL M.2.2.2.2.1 j x = true from hax)
  obtain ⟨hcw, hc7⟩ := cl_w hp0
  have hlo := hH.lo (Nat.le_trans hb0 hS.1)
  refine W_sz (fun hhi => ?_)
  have hsz : H.size = b + h.length := by omega
  have hKn := hK.1 x _ (kcl_at hc7)
  refine W.newcK hx hb hown (hts _ hcw) (hts _ (nl_w hc7).1) (hts _ (nl_w hc7).2) rfl hd hk hn hKn.2.1 hsz (fun H1 kC1 hkC e1 z1 o1 => ?_)
  refine kk p l e s m args below meth c w b H1 locs ls X (hS.push (fun q hq => o1 q (by omega)) (by omega)) (hH.push o1 hsz ?_) (by simp; omega) hL
  exact ⟨_, kcl_at hc7, (u_born (kty x) hts (k_ws hc7) hKn hkC e1 (k_ty hc7)).to (dfL_ok hc7 b)⟩
theorem V.anew {j N : Nat} {a : Int32} (hM : mOK M) (hi : lkf (m_tab M) pc = some (.anewarray j, np, 2)) (ha : ¬ a < 0) (hN : a.toNatClampNeg = N) (hsm : N ≤ 100000) (hk : k + 1 ≤ mc) (hn : n + N ≤ ms) (kk : V M d mc ms Q (k + 1) (n + N) np L (.ref h.length :: st) (h ++ [.inl (N, .inr (.inr (.inr (.inr (fun _ => none)))))])) : V M d mc ms Q k n pc L (.int a :: st) h := by
  obtain ⟨hd, hnp, hax⟩ := m_dec hM hi (by simp [ilen])
  have hcn := (m_cn hM).1
  subst hnp
  intro p l e s m args below meth c w b H locs ls X hS hH hZ hL
  obtain ⟨hx, hb, hml, hown, hts, -, -, hK, hN2, -, hb0⟩ := id X
  rw [← hcn] at hown
  obtain ⟨p0, hp0⟩ := has3_ex (show has3 clL M.2.2.2.2.1 j 2 = true from hax)
  obtain ⟨hcw, hc7⟩ := cl_w hp0
  have hlo := hH.lo (Nat.le_trans hb0 hS.1)
  refine W_sz (fun hhi => ?_)
  have hsz : H.size = b + h.length := by omega
  subst hN
  refine W.anew (C := "RoundKiss$Quad") hx hb hown (hts _ hcw) (va_AO.use hN2.2) rfl hd rfl ha (by omega) hk hn (fun cA kA comp f1 f2 f3 f4 => ?_)
  have hcA : cA = w.2.2.2.2 := by
    obtain ⟨kA', comp', g1, g2, g3, g4⟩ := (hK.2 2 _ rfl).2
    exact Option.some.inj (f1.symm.trans g4)
  subst hcA
  generalize hH1 : H.push ({ cls := w.2.2.2.2, slots := Array.replicate a.toNatClampNeg .null, vm := .none } : Cell) = H1
  have z1 : H1.size = H.size + 1 := by rw [← hH1, Array.size_push]
  have e1 : H1[H.size]? = some (arrV w.2.2.2.2 a.toNatClampNeg (fun _ => .null)) := by rw [← hH1, Array.getElem?_push_size, ← arrV_new]
  have o1 : ∀ q, q < H.size → H1[q]? = H[q]? := fun q hq => by rw [← hH1, Array.getElem?_push, if_neg (Nat.ne_of_lt hq)]
  rw [hsz]
  refine kk p l e s m args below meth c w b H1 locs ls X (hS.push o1 (by omega)) (hH.push (fun q hq => o1 q (by omega)) hsz ?_) (by simp; omega) hL
  show H1[b + h.length]? = some (vp_cell _ _)
  rw [← hsz, e1]
  rfl
end RULES4
