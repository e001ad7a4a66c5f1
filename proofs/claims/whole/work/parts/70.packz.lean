section PACKZ
/-- bends of a node of a shut packing: no bend is 0 -/
def NB (d : Nat → Int) : Prop := BK d ∧ (∀ i, i < 4 → bz (d i)) ∧ ∀ i, i < 4 → d i ≠ 0
def wz (d : Nat → Int) (j : Nat) : Int := su d - 2 * d j
theorem NB_pair {d : Nat → Int} (h : NB d) {i j : Nat} (hi : i < 4) (hj : j < 4) (hne : i ≠ j) : 1 ≤ d i + d j := by
  have h1 := BK_pair h.1 hi hj hne
  by_cases e : d i + d j = 0
  · obtain ⟨a, b, ha, hb, n1, n2, n3, n4, n5, -⟩ := rest2 hi hj hne
    exact absurd (BK_zero h.1 hi hj ha hb hne (fun q => n2 q.symm) (fun q => n3 q.symm) (fun q => n4 q.symm) (fun q => n5 q.symm) e).1 (h.2.2 i hi)
  · omega
theorem gz_max (d : Nat → Int) : ∀ j, j < 4 → d j ≤ d (gz d) := by
  have k : ∀ i a, d a ≤ d (gzi d i a) ∧ d i ≤ d (gzi d i a) := by
    intro i a
    unfold gzi
    split
    · exact ⟨by omega, by omega⟩
    · exact ⟨by omega, by omega⟩
  intro j hj
  have k1 := k 1 0
  have k2 := k 2 (gzi d 1 0)
  have k3 := k 3 (gzi d 2 (gzi d 1 0))
  unfold gz
  rcases (show j = 0 ∨ j = 1 ∨ j = 2 ∨ j = 3 by omega) with rfl | rfl | rfl | rfl <;> omega
theorem NB_root {d : Nat → Int} (h : BK d) (hb : ∀ i, i < 4 → bz (d i)) {i : Nat} (hi : i < 4) (hn : d i < 0) : NB d := by
  refine ⟨h, hb, fun j hj => ?_⟩
  by_cases e : j = i
  · subst e; omega
  · have := BK_pair h hj hi e
    omega
theorem wz_root {d : Nat → Int} (hu : ¬ 0 < uz d) : ∀ j, j < 4 → 0 ≤ wz d j := by
  intro j hj
  have := gz_max d j hj
  unfold uz at hu
  unfold wz
  omega
/-- a node: how deep it lies, the last place, the last step -/
def nd (d : Nat → Int) (path : List Nat) : Prop := NB d ∧ match path with
  | [] => ∀ j, j < 4 → 0 ≤ wz d j
  | l :: p => l < 4 ∧ ∃ x : Int, 2 * (p.length : Int) ≤ x ∧ (∀ j, j < 4 → j ≠ l → x + 2 ≤ wz d j) ∧ ((p.length : Int) + 1) * ((p.length : Int) + 1) - 1 ≤ d l
theorem su3 {d : Nat → Int} {p : Nat} (hp4 : p < 4) (h : NB d) : 2 ≤ su d - d p := by
  obtain ⟨c, hc, hne⟩ : ∃ c, c < 4 ∧ p ≠ c := by
    by_cases e : p = 0
    · exact ⟨1, by omega, by omega⟩
    · exact ⟨0, by omega, e⟩
  obtain ⟨a, b, ha, hb, n1, n2, n3, n4, n5, hs⟩ := rest2 hp4 hc hne
  have h1 := NB_pair h ha hb n1
  have h2 := NB_pair h ha hc n3
  have h3 := NB_pair h hb hc n5
  rw [hs d]
  omega
theorem nd_step {d : Nat → Int} {path : List Nat} (h : nd d path) {p : Nat} (hp4 : p < 4) (hne : path.head? ≠ some p) (hle : swB d p p ≤ 300) : nd (swB d p) (p :: path) ∧ 1 ≤ swB d p p := by
  have hN := h.1
  have h3 := su3 hp4 hN
  have own := swB_own d p
  have hw : 0 ≤ wz d p ∧ 2 * (path.length : Int) ≤ wz d p := by
    cases path with
    | nil => exact ⟨h.2 p hp4, by have := h.2 p hp4; simpa using this⟩
    | cons l t =>
      obtain ⟨hl, x, x1, x2, x3⟩ := h.2
      have e : p ≠ l := fun q => hne (by rw [q]; rfl)
      have := x2 p hp4 e
      simp only [List.length_cons]
      push_cast
      exact ⟨by omega, by omega⟩
  have hnew : swB d p p = (su d - d p) + wz d p := by rw [own]; unfold wz; omega
  have h1 : 1 ≤ swB d p p := by rw [hnew]; omega
  refine ⟨⟨⟨BK_swap hN.1 hp4, fun i hi => ?_, fun i hi => ?_⟩, hp4, wz d p, hw.2, fun j hj hjp => ?_, ?_⟩, h1⟩
  · by_cases e : i = p
    · rw [e]; exact ⟨by omega, by omega⟩
    · rw [swB_oth d e]; exact hN.2.1 i hi
  · by_cases e : i = p
    · rw [e]; omega
    · rw [swB_oth d e]; exact hN.2.2 i hi
  · obtain ⟨a, b, ha, hb, n1, n2, n3, n4, n5, hs⟩ := rest2 hp4 hj (fun q => hjp q.symm)
    have hp := NB_pair hN ha hb n1
    have e := su_swB d hp4
    unfold wz
    rw [e, swB_oth d hjp]
    have := hs d
    omega
  · rw [hnew]
    cases path with
    | nil => simp only [List.length_nil]; omega
    | cons l t =>
      obtain ⟨hl, x, x1, x2, x3⟩ := h.2
      have e : p ≠ l := fun q => hne (by rw [q]; rfl)
      obtain ⟨a, b, ha, hb, n1, n2, n3, n4, n5, hs⟩ := rest2 hp4 hl e
      have hp := NB_pair hN ha hb n1
      have hs' := hs d
      have hw2 := hw.2
      simp only [List.length_cons] at hw2 ⊢
      push_cast at hw2 ⊢
      have en : ((t.length : Int) + 1 + 1) * ((t.length : Int) + 1 + 1) - 1 = (((t.length : Int) + 1) * ((t.length : Int) + 1) - 1) + 2 * ((t.length : Int) + 1) + 1 := by grind
      rw [en]
      omega
theorem nd_deep {d : Nat → Int} {l : Nat} {p : List Nat} (h : nd d (l :: p)) (hle : d l ≤ 300) : p.length ≤ 16 := by
  obtain ⟨hl, x, x1, x2, x3⟩ := h.2
  by_cases g : p.length ≤ 16
  · exact g
  · exfalso
    have h17 : (17 : Int) ≤ (p.length : Int) := by omega
    have := Int.mul_le_mul (show (18 : Int) ≤ (p.length : Int) + 1 by omega) (show (18 : Int) ≤ (p.length : Int) + 1 by omega) (by omega) (by omega)
    omega
/-- the reference's walk ends -/
theorem wk_ok {most : Int64} (hm : most.toInt ≤ 300) : ∀ (n : Nat) (path : List Nat) (b : Nat → Int64), nd (bd8 b) path → (∀ l p, path = l :: p → bd8 b l ≤ 300) → 19 ≤ n + path.length → wkOK most n path b
  | 0, path, b, h, hl, hn => by
    cases path with
    | nil => simp at hn
    | cons l p =>
      have := nd_deep h (hl l p rfl)
      simp only [List.length_cons] at hn
      omega
  | n + 1, path, b, h, hl, hn => by
    intro a ha hs
    have hb := h.1.2.1
    have e := ex8_z hb ha
    have hne : path.head? ≠ some a := fun q => hs (Or.inl q)
    have hle : (ex8 b a).toInt ≤ most.toInt := by
      have : ¬ most < ex8 b a := fun q => hs (Or.inr q)
      exact Int64.le_iff_toInt_le.mp (Int64.not_lt.mp this)
    have hst := (nd_step h ha hne (by rw [← e]; omega)).1
    have eb : bd8 (vp_updL b a (ex8 b a)) = swB (bd8 b) a := by
      funext i
      show (vp_updL b a (ex8 b a) i).toInt = _
      by_cases g : i = a
      · subst g
        rw [pk_uLs, e]
      · rw [pk_uLn g, swB_oth _ g]
        rfl
    refine wk_ok hm n (a :: path) _ (by rw [eb]; exact hst) (fun l p q => ?_) (by simp only [List.length_cons]; omega)
    cases q
    rw [eb, ← e]
    omega
end PACKZ
