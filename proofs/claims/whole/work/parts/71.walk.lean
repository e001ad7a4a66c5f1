section WALK
theorem gfr_z {q : Nat → Int32} {d : Nat → Int} (hq : ∀ i, i < 4 → (q i).toInt = d i) (hb : ∀ i, i < 4 → bz (d i)) {p : Nat} (hp4 : p < 4) : (gfr q p).toInt = swB d p p := by
  have q0 := hq 0 (by omega)
  have q1 := hq 1 (by omega)
  have q2 := hq 2 (by omega)
  have q3 := hq 3 (by omega)
  have qp := hq p hp4
  have b0 := hb 0 (by omega)
  have b1 := hb 1 (by omega)
  have b2 := hb 2 (by omega)
  have b3 := hb 3 (by omega)
  have bp := hb p hp4
  rw [swB_own]
  unfold gfr sm4 su
  unfold bz at *
  have e1 : ((q 0).toInt64 + (q 1).toInt64).toInt = d 0 + d 1 := by rw [zadd, z32, z32, q0, q1] <;> (rw [z32, z32, q0, q1]; omega)
  have e2 : ((q 0).toInt64 + (q 1).toInt64 + (q 2).toInt64).toInt = d 0 + d 1 + d 2 := by rw [zadd, e1, z32, q2] <;> (rw [e1, z32, q2]; omega)
  have e3 : ((q 0).toInt64 + (q 1).toInt64 + (q 2).toInt64 + (q 3).toInt64).toInt = d 0 + d 1 + d 2 + d 3 := by rw [zadd, e2, z32, q3] <;> (rw [e2, z32, q3]; omega)
  have e4 : (2 * ((q 0).toInt64 + (q 1).toInt64 + (q 2).toInt64 + (q 3).toInt64)).toInt = 2 * (d 0 + d 1 + d 2 + d 3) := by rw [zmul, e3, show (2 : Int64).toInt = 2 from rfl] <;> (rw [e3, show (2 : Int64).toInt = 2 from rfl]; omega)
  have e5 : (3 * (q p).toInt64).toInt = 3 * d p := by rw [zmul, z32, qp, show (3 : Int64).toInt = 3 from rfl] <;> (rw [z32, qp, show (3 : Int64).toInt = 3 from rfl]; omega)
  rw [zsub, e4, e5] <;> (rw [e4, e5]; omega)
def okb (bar : Int32) (x : Int64 × List Nat) : Bool := x.2.all (fun a => decide (nI a ≠ bar))
def lastOK (last : Int32) : List Nat → Prop
  | [] => last = -1
  | l :: _ => last = nI l ∧ l < 4
theorem m1_ne {a : Nat} (ha : a < 4) : nI a ≠ -1 := by
  rcases (show a = 0 ∨ a = 1 ∨ a = 2 ∨ a = 3 by omega) with rfl | rfl | rfl | rfl <;> decide
theorem last_iff {last : Int32} {path : List Nat} (h : lastOK last path) {a : Nat} (ha : a < 4) : nI a = last ↔ path.head? = some a := by
  cases path with
  | nil =>
    rw [show last = -1 from h]
    exact ⟨fun g => absurd g (m1_ne ha), fun g => by cases g⟩
  | cons l t =>
    rw [h.1, nI_eq (by omega) (by have := h.2; omega)]
    exact ⟨fun g => by rw [g]; rfl, fun g => by cases g; rfl⟩
theorem wk_in {most : Int64} : ∀ (n : Nat) (path : List Nat) (b : Nat → Int64), ∀ x, x ∈ wk most n path b → ∀ c, c ∈ path → c ∈ x.2
  | 0, path, b, x, h, c, hc => absurd h List.not_mem_nil
  | n + 1, path, b, x, h, c, hc => by
    have one : ∀ a, x ∈ wv (wk most n) most path b a → c ∈ x.2 := by
      intro a ha
      unfold wv at ha
      split at ha
      · exact absurd ha List.not_mem_nil
      · rcases List.mem_cons.mp ha with g | g
        · rw [g]; exact List.mem_cons_of_mem _ hc
        · exact wk_in n (a :: path) _ x g c (List.mem_cons_of_mem _ hc)
    simp only [wk, List.mem_append] at h
    rcases h with h | h | h | h
    · exact one 0 h
    · exact one 1 h
    · exact one 2 h
    · exact one 3 h
theorem wk_bar {most : Int64} {bar : Int32} {n : Nat} {path : List Nat} {b : Nat → Int64} {c : Nat} (hc : c ∈ path) (he : nI c = bar) : (wk most n path b).filter (okb bar) = [] := by
  rw [List.filter_eq_nil_iff]
  intro x hx g
  unfold okb at g
  have := List.all_eq_true.mp g c (wk_in n path b x hx c hc)
  exact of_decide_eq_true this he
theorem okb_y {bar : Int32} {v : Int64} {l : List Nat} (h : ∀ a, a ∈ l → nI a ≠ bar) : okb bar (v, l) = true := List.all_eq_true.mpr (fun a ha => decide_eq_true (h a ha))
theorem gk_wk {lim bar : Int32} {most : Int64} (hm : most = lim.toInt64) (hm3 : most.toInt ≤ 300) : ∀ (n : Nat) (path : List Nat) (b : Nat → Int64) (q : Nat → Int32) (last : Int32), nd (bd8 b) path → (∀ i, i < 4 → (q i).toInt = bd8 b i) → lastOK last path → (∀ a, a ∈ path → nI a ≠ bar) → gk lim bar n last q = ((wk most n path b).filter (okb bar)).map (fun x => x.1.toInt32)
  | 0, path, b, q, last, _, _, _, _ => rfl
  | n + 1, path, b, q, last, h, hq, hl, hp => by
    have hb := h.1.2.1
    have one : ∀ a, a < 4 → gv (gk lim bar n) lim bar last q a = ((wv (wk most n) most path b a).filter (okb bar)).map (fun x => x.1.toInt32) := by
      intro a ha
      have e1 := gfr_z hq hb ha
      have e2 := ex8_z hb ha
      have eg : gfr q a = ex8 b a := Int64.toInt_inj.mp (by rw [e1, e2])
      have hli := last_iff hl ha
      unfold gv wv
      by_cases hs : skp most path b a
      · have hs' : gsk lim bar last q a := by
          rcases hs with g | g
          · exact Or.inl (hli.mpr g)
          · refine Or.inr (Or.inr ?_)
            rw [eg, ← hm]
            exact g
        rw [if_pos hs, if_pos hs']
        rfl
      · rw [if_neg hs]
        have hne : path.head? ≠ some a := fun g => hs (Or.inl g)
        have hlt : ¬ most < ex8 b a := fun g => hs (Or.inr g)
        by_cases hbar : nI a = bar
        · rw [if_pos (show gsk lim bar last q a from Or.inr (Or.inl hbar))]
          rw [List.filter_cons]
          have : ¬ okb bar (ex8 b a, a :: path) = true := by
            intro g
            unfold okb at g
            exact of_decide_eq_true (List.all_eq_true.mp g a List.mem_cons_self) hbar
          rw [if_neg this, wk_bar List.mem_cons_self hbar]
          rfl
        · have hs' : ¬ gsk lim bar last q a := by
            rintro (g | g | g)
            · exact hne (hli.mp g)
            · exact hbar g
            · rw [eg, ← hm] at g
              exact hlt g
          rw [if_neg hs', eg]
          have hp' : ∀ c, c ∈ a :: path → nI c ≠ bar := by
            intro c hc
            rcases List.mem_cons.mp hc with g | g
            · rw [g]; exact hbar
            · exact hp c g
          rw [List.filter_cons, if_pos (okb_y hp'), List.map_cons]
          have hle : (ex8 b a).toInt ≤ most.toInt := Int64.le_iff_toInt_le.mp (Int64.not_lt.mp hlt)
          obtain ⟨hst, h1⟩ := nd_step h ha hne (by rw [← e2]; omega)
          have eb : bd8 (vp_updL b a (ex8 b a)) = swB (bd8 b) a := by
            funext i
            show (vp_updL b a (ex8 b a) i).toInt = _
            by_cases g : i = a
            · subst g
              rw [pk_uLs, e2]
            · rw [pk_uLn g, swB_oth _ g]
              rfl
          have hfit : fitF (ex8 b a) = 1 := by
            rw [fit_z]
            rw [← e2] at h1
            omega
          rw [gk_wk hm hm3 n (a :: path) (vp_updL b a (ex8 b a)) (upd q a (ex8 b a).toInt32) (nI a) (by rw [eb]; exact hst) (fun i hi => ?_) ⟨rfl, ha⟩ hp']
          show (upd q a (ex8 b a).toInt32 i).toInt = (vp_updL b a (ex8 b a) i).toInt
          by_cases g : i = a
          · subst g
            rw [pk_us, pk_uLs, fit_32 hfit]
          · rw [pk_un g, pk_uLn g]
            exact hq i hi
    simp only [gk, wk, List.filter_append, List.map_append]
    rw [one 0 (by omega), one 1 (by omega), one 2 (by omega), one 3 (by omega)]
/-- the lists of both sides -/
theorem vs_vis {up bar : Int32} {w q : Nat → Int32} {b : Nat → Int64} (hm3 : up ≤ 300) (h : nd (bd8 b) []) (hw : ∀ i, i < 4 → (w (4 * i)).toInt = bd8 b i) : vs7 up bar w q = ((vis up.toInt64 40 b).filter (okb bar)).map (fun x => x.1.toInt32) := by
  have hb := h.1.2.1
  have hm : up.toInt64.toInt ≤ 300 := by
    rw [z32]
    exact Int32.le_iff_toInt_le.mp hm3
  have hg := gk_wk (lim := up) (bar := bar) rfl hm 40 [] b (qn w q) (-1) h (fun i hi => by
    rcases (show i = 0 ∨ i = 1 ∨ i = 2 ∨ i = 3 by omega) with rfl | rfl | rfl | rfl
    · exact hw 0 (by omega)
    · exact hw 1 (by omega)
    · exact hw 2 (by omega)
    · exact hw 3 (by omega)) rfl (fun a ha => absurd ha List.not_mem_nil)
  have one : ∀ i, i < 4 → v7 up bar w i = ((v0 up.toInt64 b i).filter (okb bar)).map (fun x => x.1.toInt32) := by
    intro i hi
    have e : b i = (w (4 * i)).toInt64 := Int64.toInt_inj.mp (by rw [z32]; exact (hw i hi).symm)
    unfold v7 v0
    rw [e]
    by_cases c1 : up.toInt64 < (w (4 * i)).toInt64
    · have c1' := Int32.toInt64_lt.mp c1
      rw [if_pos c1, if_pos (Or.inr c1')]
      rfl
    · have c1' : ¬ up < w (4 * i) := fun g => c1 (Int32.toInt64_lt.mpr g)
      rw [if_neg c1]
      by_cases c2 : nI i = bar
      · rw [if_pos (Or.inl c2), List.filter_cons]
        have : ¬ okb bar ((w (4 * i)).toInt64, [i]) = true := by
          intro g
          unfold okb at g
          exact of_decide_eq_true (List.all_eq_true.mp g i List.mem_cons_self) c2
        rw [if_neg this]
        rfl
      · rw [if_neg (fun g => g.elim c2 c1'), List.filter_cons, if_pos (okb_y (fun a ha => by rw [List.mem_singleton.mp ha]; exact c2))]
        show _ = [(w (4 * i)).toInt64.toInt32]
        rw [Int32.toInt32_toInt64]
  unfold vs7 vis
  rw [hg, one 0 (by omega), one 1 (by omega), one 2 (by omega), one 3 (by omega)]
  simp only [List.filter_append, List.map_append]
end WALK
