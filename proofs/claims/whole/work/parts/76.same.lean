section SAME
variable {A : Nat → Nat → Int32} {B : Nat → Nat → Int64}
abbrev l4 (f : Nat → Int32) : List Int32 := [f 12, f 8, f 4, f 0]
theorem ho_n (f : Nat → Int32) (b : Int32) : hoF f b = nI (List.count b (l4 f)) := by
  unfold hoF l4
  simp only [List.count_cons, List.count_nil]
  by_cases h0 : f 0 = b <;> by_cases h1 : f 4 = b <;> by_cases h2 : f 8 = b <;> by_cases h3 : f 12 = b <;> simp [h0, h1, h2, h3] <;> rfl
theorem perm4 {l m : List Int32} (hl : l.length = m.length) : (∀ a, a ∈ l → List.count a l = List.count a m) ↔ l.Perm m := by
  constructor
  · intro h
    have hp : l.Perm (m.filter (fun a => decide (a ∈ l))) := by
      rw [List.perm_iff_count]
      intro a
      by_cases ha : a ∈ l
      · rw [List.count_filter (p := fun a => decide (a ∈ l)) (show (fun a => decide (a ∈ l)) a = true from decide_eq_true ha)]
        exact h a ha
      · rw [List.count_eq_zero.mpr ha, List.count_eq_zero.mpr]
        intro g
        exact ha (of_decide_eq_true (List.mem_filter.mp g).2)
    have e : (m.filter (fun a => decide (a ∈ l))).length = m.length := hp.length_eq.symm.trans hl
    rw [List.length_filter_eq_length_iff] at e
    rw [List.filter_eq_self.mpr e] at hp
    exact hp
  · intro h a _
    exact List.perm_iff_count.mp h a
theorem ho_eq {f g : Nat → Int32} {b : Int32} : hoF f b = hoF g b ↔ List.count b (l4 f) = List.count b (l4 g) := by
  rw [ho_n, ho_n]
  have h1 := List.count_le_length (a := b) (l := l4 f)
  have h2 := List.count_le_length (a := b) (l := l4 g)
  have e1 : (l4 f).length = 4 := rfl
  have e2 : (l4 g).length = 4 := rfl
  exact nI_eq (by omega) (by omega)
theorem hb_iff {f g : Nat → Int32} : hbF f g = 1 ↔ (l4 f).Perm (l4 g) := by
  rw [← perm4 (l := l4 f) (m := l4 g) rfl]
  unfold hbF
  constructor
  · intro h
    split at h
    · next q =>
      intro a ha
      simp only [List.mem_cons, List.not_mem_nil, or_false] at ha
      rcases ha with rfl | rfl | rfl | rfl
      · exact ho_eq.mp q.2.2.2
      · exact ho_eq.mp q.2.2.1
      · exact ho_eq.mp q.2.1
      · exact ho_eq.mp q.1
    · exact absurd h (by decide)
  · intro h
    rw [if_pos ⟨ho_eq.mpr (h _ (by simp)), ho_eq.mpr (h _ (by simp)), ho_eq.mpr (h _ (by simp)), ho_eq.mpr (h _ (by simp))⟩]
theorem eq8_iff {a b : Nat → Int64} : eq8 a b = 1 ↔ tk a 4 = tk b 4 := by
  have e : ∀ f : Nat → Int64, tk f 4 = [f 0, f 1, f 2, f 3] := fun f => rfl
  rw [e, e]
  unfold eq8
  constructor
  · intro h
    split at h
    · next q => rw [q.1, q.2.1, q.2.2.1, q.2.2.2]
    · exact absurd h (by decide)
  · intro h
    simp only [List.cons.injEq, and_true] at h
    rw [if_pos h]
theorem eq8_01 (a b : Nat → Int64) : eq8 a b = 0 ∨ eq8 a b = 1 := by unfold eq8; split <;> simp
theorem same_eq {f g : Nat → Int32} {b c x y : Nat → Int64} {d e : Nat → Int} (hf : ∀ i, i < 4 → bd f i = d i) (hb : ∀ i, i < 4 → bd8 b i = d i) (hg : ∀ i, i < 4 → bd g i = e i) (hc : ∀ i, i < 4 → bd8 c i = e i) : hbF f g = eq8 (so8 b x) (so8 c y) := by
  have up : ∀ (f : Nat → Int32) (b : Nat → Int64) (d : Nat → Int), (∀ i, i < 4 → bd f i = d i) → (∀ i, i < 4 → bd8 b i = d i) → ∀ i, i < 4 → b i = (f (4 * i)).toInt64 := by
    intro f b d h1 h2 i hi
    apply Int64.toInt_inj.mp
    rw [z32]
    exact (h2 i hi).trans (h1 i hi).symm
  have ub := up f b d hf hb
  have uc := up g c e hg hc
  have lb : [b 3, b 2, b 1, b 0] = (l4 f).map Int32.toInt64 := by
    rw [ub 0 (by omega), ub 1 (by omega), ub 2 (by omega), ub 3 (by omega)]
    rfl
  have lc : [c 3, c 2, c 1, c 0] = (l4 g).map Int32.toInt64 := by
    rw [uc 0 (by omega), uc 1 (by omega), uc 2 (by omega), uc 3 (by omega)]
    rfl
  have back : ∀ l : List Int32, (l.map Int32.toInt64).map Int64.toInt32 = l := by
    intro l
    rw [List.map_map]
    conv => rhs; rw [← List.map_id l]
    congr 1
    funext z
    exact Int32.toInt32_toInt64 z
  have key : hbF f g = 1 ↔ eq8 (so8 b x) (so8 c y) = 1 := by
    rw [hb_iff, eq8_iff, so8_iff, lb, lc]
    constructor
    · intro h
      exact h.map _
    · intro h
      have := h.map Int64.toInt32
      rw [back, back] at this
      exact this
  rcases hbF_01 f g with h | h <;> rcases eq8_01 (so8 b x) (so8 c y) with k | k
  · rw [h, k]
  · rw [key.mpr k] at h
    exact absurd h (by decide)
  · rw [key.mp h] at k
    exact absurd k (by decide)
  · rw [h, k]
end SAME
