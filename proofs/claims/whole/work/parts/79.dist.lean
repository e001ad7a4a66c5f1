section WAYD
/-- x comes to G in d steps over near ones of l -/
def wkG (l : List Nat) (G : Nat) : Nat → Nat → Prop
  | 0, x => x = G
  | d + 1, x => ∃ y, y ∈ l ∧ nrP x y ∧ wkG l G d y
/-- D is the distance from G in l -/
def DST (l : List Nat) (G : Nat) (D : Nat → Nat) : Prop := (∀ x, x ∈ l → (D x = 0 ↔ x = G)) ∧ (∀ x d, x ∈ l → D x = d + 1 → ∃ y, y ∈ l ∧ nrP x y ∧ D y = d) ∧ (∀ x y, x ∈ l → y ∈ l → nrP x y → D x ≤ D y + 1) ∧ ∀ x, x ∈ l → D x < l.length
theorem wkG_up {l : List Nat} (ha : adj l = true) {G kg : Nat} (hg : kg < l.length) (hG : atD l kg = G) : ∀ t k, k + t = kg → wkG l G t (atD l k)
  | 0, k, h => by
    have : k = kg := by omega
    subst this
    exact hG
  | t + 1, k, h => ⟨atD l (k + 1), atD_mem l _ (by omega), adj_at l ha k (by omega), wkG_up ha hg hG t (k + 1) (by omega)⟩
theorem wkG_dn {l : List Nat} (ha : adj l = true) {G kg : Nat} (hG : atD l kg = G) : ∀ t, kg + t < l.length → wkG l G t (atD l (kg + t))
  | 0, _ => hG
  | t + 1, h => ⟨atD l (kg + t), atD_mem l _ (by omega), nrP_c.mp (adj_at l ha (kg + t) (by omega)), wkG_dn ha hG t (by omega)⟩
theorem wkG_ex {l : List Nat} (ha : adj l = true) {G kg : Nat} (hg : kg < l.length) (hG : atD l kg = G) {x : Nat} (hx : x ∈ l) : ∃ d, d < l.length ∧ wkG l G d x := by
  obtain ⟨k, hk, e, -⟩ := plc_ex hx
  rw [← e]
  by_cases h : k ≤ kg
  · exact ⟨kg - k, by omega, wkG_up ha hg hG (kg - k) k (by omega)⟩
  · have := wkG_dn ha hG (k - kg) (by omega)
    rw [show kg + (k - kg) = k by omega] at this
    exact ⟨k - kg, by omega, this⟩
theorem DST_ex {l : List Nat} (ha : adj l = true) {G kg : Nat} (hg : kg < l.length) (hG : atD l kg = G) : ∃ D, DST l G D := by
  have hex : ∀ x, ∃ k, x ∈ l → (wkG l G k x ∧ ∀ j, j < k → ¬ wkG l G j x) ∧ k < l.length := by
    intro x
    by_cases hx : x ∈ l
    · obtain ⟨d, hd, hw⟩ := wkG_ex ha hg hG hx
      obtain ⟨k, k1, k2⟩ := pk_least (fun k => wkG l G k x) ⟨d, hw⟩
      refine ⟨k, fun _ => ⟨⟨k1, k2⟩, ?_⟩⟩
      by_cases g : k ≤ d
      · omega
      · exact absurd hw (k2 d (by omega))
    · exact ⟨0, fun h => absurd h hx⟩
  obtain ⟨D, hD⟩ := Classical.axiomOfChoice hex
  have lst : ∀ x, x ∈ l → ∀ j, wkG l G j x → D x ≤ j := by
    intro x hx j hj
    by_cases g : D x ≤ j
    · exact g
    · exact absurd hj ((hD x hx).1.2 j (by omega))
  refine ⟨D, fun x hx => ⟨fun h => ?_, fun h => ?_⟩, fun x d hx h => ?_, fun x y hx hy hn => ?_, fun x hx => (hD x hx).2⟩
  · have := (hD x hx).1.1
    rw [h] at this
    exact this
  · have := lst x hx 0 h
    omega
  · have := (hD x hx).1.1
    rw [h] at this
    obtain ⟨y, hy, hn, hw⟩ := this
    have h1 := lst y hy d hw
    have h2 := lst x hx (D y + 1) ⟨y, hy, hn, (hD y hy).1.1⟩
    exact ⟨y, hy, hn, by omega⟩
  · exact lst x hx (D y + 1) ⟨y, hy, hn, (hD y hy).1.1⟩
/-- all distances below one that is there are there -/
theorem DST_all {l : List Nat} {G : Nat} {D : Nat → Nat} (h : DST l G D) {d : Nat} : ∀ t x, x ∈ l → D x = d + t → ∃ y, y ∈ l ∧ D y = d
  | 0, x, hx, e => ⟨x, hx, e⟩
  | t + 1, x, hx, e => by
    obtain ⟨y, hy, -, e2⟩ := h.2.1 x (d + t) hx e
    exact DST_all h t y hy e2
/-- no member stands twice in a row -/
def ndb : List Nat → Bool
  | [] => true
  | a :: t => !(t.contains a) && ndb t
set_option maxRecDepth 100000 in
theorem ndb_B : (List.range 31).all (fun n => ndb (rowD n)) = true := by decide +kernel
theorem ndb_row {N : Nat} (hN : N ≤ 30) : ndb (rowD N) = true := List.all_eq_true.mp ndb_B N (List.mem_range.mpr (by omega))
theorem atD_inj : ∀ (l : List Nat), ndb l = true → ∀ j k, j < l.length → k < l.length → atD l j = atD l k → j = k
  | [], _, j, k, hj, _, _ => by simp at hj
  | a :: t, h, j, k, hj, hk, e => by
    have h' : (!(t.contains a) && ndb t) = true := h
    rw [Bool.and_eq_true] at h'
    have hn : ¬ a ∈ t := by
      intro g
      have : t.contains a = true := List.contains_iff_mem.mpr g
      rw [this] at h'
      exact absurd h'.1 (by decide)
    simp only [List.length_cons] at hj hk
    by_cases ej : j = t.length
    · by_cases ek : k = t.length
      · omega
      · subst ej
        rw [atD_top, atD_cons (show k < t.length by omega)] at e
        exact absurd (show a ∈ t by rw [e]; exact atD_mem t k (by omega)) hn
    · by_cases ek : k = t.length
      · subst ek
        rw [atD_top, atD_cons (show j < t.length by omega)] at e
        exact absurd (show a ∈ t by rw [← e]; exact atD_mem t j (by omega)) hn
      · rw [atD_cons (show j < t.length by omega), atD_cons (show k < t.length by omega)] at e
        exact atD_inj t h'.2 j k (by omega) (by omega) e
end WAYD
