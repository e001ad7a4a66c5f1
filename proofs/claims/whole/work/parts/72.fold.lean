section FOLD
theorem fold_rel {ex ab : Int32} (P : St8 → Sn → Prop) : ∀ (l : List (Int64 × List Nat)), (∀ S8 S7 x, x ∈ l → P S8 S7 → P (vf ex ab S8 x) (nv S7 x.1.toInt32)) → ∀ S8 S7, P S8 S7 → P (l.foldl (vf ex ab) S8) ((l.map (fun x => x.1.toInt32)).foldl nv S7)
  | [], _, _, _, h => h
  | x :: l, hs, S8, S7, h => by
    rw [List.foldl_cons, List.map_cons, List.foldl_cons]
    exact fold_rel P l (fun a b y hy => hs a b y (List.mem_cons_of_mem _ hy)) _ _ (hs S8 S7 x List.mem_cons_self h)
theorem nt3_o {F : Nat → Int32} {v : Int32} {k : Nat} (h : k ≠ 5) : nt3 F v k = nt2 F v k := by
  unfold nt3
  split
  · exact pk_un h
  · rfl
theorem ntF_o {F : Nat → Int32} {v : Int32} {k : Nat} (h8 : k ≠ 8) (h9 : k ≠ 9) : ntF F v k = nt3 F v k := by
  unfold ntF
  split
  · rw [pk_un h9, pk_un h8]
  · rfl
theorem ntF_4 {F : Nat → Int32} {v : Int32} : ntF F v 4 = F 4 + 1 := by rw [ntF_o (by decide) (by decide), nt3_o (by decide)]; rfl
theorem ntF_5 {F : Nat → Int32} {v : Int32} : ntF F v 5 = if v = F 1 then F 5 + 1 else F 5 := by
  rw [ntF_o (by decide) (by decide)]
  unfold nt3
  split
  · exact pk_us
  · rfl
theorem ntF_6 {F : Nat → Int32} {v : Int32} : ntF F v 6 = F 6 ||| (1 : Int32) <<< (fmI v &&& 31) := by rw [ntF_o (by decide) (by decide), nt3_o (by decide)]; rfl
theorem ntF_8 {F : Nat → Int32} {v : Int32} : ntF F v 8 = (if F 3 < v ∧ (F 8 = 0 ∨ v < F 9) then 1 else F 8) ∧ ntF F v 9 = (if F 3 < v ∧ (F 8 = 0 ∨ v < F 9) then v else F 9) := by
  unfold ntF
  split
  · exact ⟨rfl, rfl⟩
  · rw [nt3_o (by decide), nt3_o (by decide)]
    exact ⟨rfl, rfl⟩
theorem cnF_13 {F : Nat → Int32} {v : Int64} {ex ab : Int32} : cnF F v ex ab 13 = F 13 + 1 ∧ cnF F v ex ab 14 = F 14 + (if v = ex.toInt64 then 1 else 0) ∧ cnF F v ex ab 15 = F 15 ||| rb8 v := by
  unfold cnF
  split <;> exact ⟨rfl, rfl, rfl⟩
theorem cnF_20 {F : Nat → Int32} {v : Int64} {ex ab : Int32} : cnF F v ex ab 20 = (if ab.toInt64 < v ∧ (F 20 = 0 ∨ v < (F 16).toInt64) then 1 else F 20) ∧ cnF F v ex ab 16 = (if ab.toInt64 < v ∧ (F 20 = 0 ∨ v < (F 16).toInt64) then v.toInt32 else F 16) := by
  unfold cnF
  split <;> exact ⟨rfl, rfl⟩
theorem fit_b {v : Int64} (h : fitF v = 1) : v.toInt32.toInt64 = v := Int64.toInt_inj.mp (by rw [z32, fit_32 h])
theorem tdv (z : Int) : -24 < z - z.tdiv 24 * 24 ∧ z - z.tdiv 24 * 24 < 24 ∧ (0 ≤ z → 0 ≤ z - z.tdiv 24 * 24) ∧ (z < 0 → z - z.tdiv 24 * 24 ≤ 0) := by
  have e : z - z.tdiv 24 * 24 = z.tmod 24 := by
    have := Int.tmod_add_mul_tdiv z 24
    omega
  rw [e]
  rcases (show 0 ≤ z ∨ z < 0 by omega) with h | h
  · have h1 := Int.tmod_nonneg 24 h
    have h2 := Int.tmod_lt_of_pos z (show (0 : Int) < 24 by decide)
    exact ⟨by omega, h2, fun _ => h1, fun g => by omega⟩
  · have h1 := Int.tmod_nonneg 24 (show 0 ≤ -z by omega)
    have h2 := Int.tmod_lt_of_pos (-z) (show (0 : Int) < 24 by decide)
    rw [Int.neg_tmod] at h1 h2
    exact ⟨by omega, by omega, fun g => by omega, fun _ => by omega⟩
theorem r24_z {v : Int64} (h : -2000000000 ≤ v.toInt) (h2 : v.toInt ≤ 2000000000) : (r24 v).toInt = v.toInt - v.toInt.tdiv 24 * 24 := by
  have t := tdv v.toInt
  unfold r24
  have e1 : (v / 24).toInt = v.toInt.tdiv 24 := by
    rw [Int64.toInt_div]
    exact Int.bmod_eq_of_le_mul_two (by rw [show (24 : Int64).toInt = 24 from rfl]; omega) (by rw [show (24 : Int64).toInt = 24 from rfl]; omega)
  have e2 : (v / 24 * 24).toInt = v.toInt.tdiv 24 * 24 := by rw [zmul, e1, show (24 : Int64).toInt = 24 from rfl] <;> (rw [e1, show (24 : Int64).toInt = 24 from rfl]; omega)
  rw [zsub, e2] <;> (rw [e2]; omega)
theorem xor_neg (v : Int32) : v ^^^ 24 < 0 ↔ v < 0 := by
  rw [Int32.lt_iff_toInt_lt, Int32.lt_iff_toInt_lt, show (0 : Int32).toInt = 0 from rfl]
  have k : ∀ x : Int32, x.toInt < 0 ↔ x.toBitVec.msb = true := by
    intro x
    have : x.toBitVec.msb = decide (x.toBitVec.toInt < 0) := BitVec.msb_eq_toInt
    rw [this, decide_eq_true_iff]
    exact Iff.rfl
  rw [k, k, Int32.toBitVec_xor, BitVec.msb_xor, show ((24 : Int32).toBitVec).msb = false from by decide]
  simp
theorem fm_eq {v : Int64} (h : fitF v = 1) : (r24 (r24 v + 24)).toInt32 = fmI v.toInt32 := by
  have hb := fit_z.mp h
  have t := tdv v.toInt
  have e1 := r24_z (v := v) (by omega) (by omega)
  have e2 : (r24 v + 24).toInt = v.toInt - v.toInt.tdiv 24 * 24 + 24 := by rw [zadd, e1, show (24 : Int64).toInt = 24 from rfl] <;> (rw [e1, show (24 : Int64).toInt = 24 from rfl]; omega)
  have e3 := r24_z (v := r24 v + 24) (by omega) (by omega)
  have e4 : ((r24 (r24 v + 24)).toInt32).toInt = (r24 (r24 v + 24)).toInt := fit_32 (fit_z.mpr (by have := tdv (r24 v + 24).toInt; omega))
  have ev := fit_32 h
  have e5 : (v.toInt32 / 24).toInt = v.toInt.tdiv 24 := by
    rw [Int32.toInt_div, ev]
    exact Int.bmod_eq_of_le_mul_two (by rw [show (24 : Int32).toInt = 24 from rfl]; omega) (by rw [show (24 : Int32).toInt = 24 from rfl]; omega)
  have e6 : (v.toInt32 / 24 * 24).toInt = v.toInt.tdiv 24 * 24 := by
    rw [Int32.toInt_mul, e5, show (24 : Int32).toInt = 24 from rfl]
    exact Int.bmod_eq_of_le_mul_two (by omega) (by omega)
  have e7 : (v.toInt32 - v.toInt32 / 24 * 24).toInt = v.toInt - v.toInt.tdiv 24 * 24 := by
    rw [Int32.toInt_sub, e6, ev]
    exact Int.bmod_eq_of_le_mul_two (by omega) (by omega)
  have e8 : (v.toInt32 - v.toInt32 / 24 * 24 + 24).toInt = v.toInt - v.toInt.tdiv 24 * 24 + 24 := by
    rw [Int32.toInt_add, e7, show (24 : Int32).toInt = 24 from rfl]
    exact Int.bmod_eq_of_le_mul_two (by omega) (by omega)
  apply Int32.toInt_inj.mp
  rw [e4, e3, e2]
  unfold fmI
  have hz : (v.toInt32 - v.toInt32 / 24 * 24 = 0) ↔ v.toInt - v.toInt.tdiv 24 * 24 = 0 := by
    rw [← Int32.toInt_inj, e7]
    exact Iff.rfl
  have hn : v.toInt32 ^^^ 24 < 0 ↔ v.toInt < 0 := by
    rw [xor_neg, Int32.lt_iff_toInt_lt, ev]
    exact Iff.rfl
  generalize hr : v.toInt - v.toInt.tdiv 24 * 24 = r at *
  have tq := tdv (r + 24)
  have hd : ∃ k : Int, (r + 24).tdiv 24 = k := ⟨_, rfl⟩
  obtain ⟨k, hk⟩ := hd
  rw [hk] at tq ⊢
  by_cases c : v.toInt32 ^^^ 24 < 0 ∧ ¬ v.toInt32 - v.toInt32 / 24 * 24 = 0
  · rw [if_pos c, e8]
    have c1 := hn.mp c.1
    have c2 : ¬ r = 0 := fun g => c.2 (hz.mpr g)
    omega
  · rw [if_neg c, e7]
    by_cases c1 : v.toInt < 0
    · have c2 : r = 0 := by
        by_cases g : r = 0
        · exact g
        · exact absurd ⟨hn.mpr c1, fun q => g (hz.mp q)⟩ c
      omega
    · omega
theorem wk_fit {most : Int64} (hm3 : most.toInt ≤ 300) : ∀ (n : Nat) (path : List Nat) (b : Nat → Int64), nd (bd8 b) path → (∀ a, a ∈ path → a < 4) → ∀ x, x ∈ wk most n path b → fitF x.1 = 1 ∧ ∀ a, a ∈ x.2 → a < 4
  | 0, path, b, _, _, x, hx => absurd hx List.not_mem_nil
  | n + 1, path, b, h, hp, x, hx => by
    have one : ∀ a, a < 4 → x ∈ wv (wk most n) most path b a → fitF x.1 = 1 ∧ ∀ a, a ∈ x.2 → a < 4 := by
      intro a ha hxa
      unfold wv at hxa
      by_cases hs : skp most path b a
      · rw [if_pos hs] at hxa
        exact absurd hxa List.not_mem_nil
      · rw [if_neg hs] at hxa
        have e2 := ex8_z h.1.2.1 ha
        have hne : path.head? ≠ some a := fun g => hs (Or.inl g)
        have hlt : ¬ most < ex8 b a := fun g => hs (Or.inr g)
        have hle : (ex8 b a).toInt ≤ most.toInt := Int64.le_iff_toInt_le.mp (Int64.not_lt.mp hlt)
        obtain ⟨hst, h1⟩ := nd_step h ha hne (by rw [← e2]; omega)
        have hp' : ∀ c, c ∈ a :: path → c < 4 := by
          intro c hc
          rcases List.mem_cons.mp hc with g | g
          · rw [g]; exact ha
          · exact hp c g
        rcases List.mem_cons.mp hxa with g | g
        · rw [g]
          have hle2 := hle
          rw [e2] at hle2
          have hf : fitF (ex8 b a) = 1 := fit_z.mpr (by rw [e2]; omega)
          exact ⟨hf, hp'⟩
        · have eb : bd8 (vp_updL b a (ex8 b a)) = swB (bd8 b) a := by
            funext i
            show (vp_updL b a (ex8 b a) i).toInt = _
            by_cases g : i = a
            · subst g
              rw [pk_uLs, e2]
            · rw [pk_uLn g, swB_oth _ g]
              rfl
          exact wk_fit hm3 n (a :: path) _ (by rw [eb]; exact hst) hp' x g
    simp only [wk, List.mem_append] at hx
    rcases hx with g | g | g | g
    · exact one 0 (by omega) g
    · exact one 1 (by omega) g
    · exact one 2 (by omega) g
    · exact one 3 (by omega) g
theorem vis_fit {most : Int64} (hm3 : most.toInt ≤ 300) {b : Nat → Int64} (h : nd (bd8 b) []) {n : Nat} : ∀ x, x ∈ vis most n b → fitF x.1 = 1 ∧ ∀ a, a ∈ x.2 → a < 4 := by
  intro x hx
  have one : ∀ i, i < 4 → x ∈ v0 most b i → fitF x.1 = 1 ∧ ∀ a, a ∈ x.2 → a < 4 := by
    intro i hi g
    unfold v0 at g
    split at g
    · exact absurd g List.not_mem_nil
    · rw [List.mem_singleton.mp g]
      exact ⟨fit_z.mpr (h.1.2.1 i hi), fun a ha => by rw [List.mem_singleton.mp ha]; exact hi⟩
  unfold vis at hx
  simp only [List.mem_append] at hx
  rcases hx with g | g | g | g | g
  · exact one 0 (by omega) g
  · exact one 1 (by omega) g
  · exact one 2 (by omega) g
  · exact one 3 (by omega) g
  · exact wk_fit hm3 n [] b h (fun a ha => absurd ha List.not_mem_nil) x g
end FOLD
