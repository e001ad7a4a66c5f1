section NEARZ
theorem nrP_c {a b : Nat} : nrP a b ↔ nrP b a := ⟨fun h => h.elim Or.inr Or.inl, fun h => h.elim Or.inr Or.inl⟩
def adj : List Nat → Bool
  | [] => true
  | a :: t => (match t with | [] => true | b :: _ => decide (nrP a b)) && adj t
set_option maxRecDepth 100000 in
theorem adj_B : (List.range 31).all (fun n => adj (rowD n)) = true := by decide +kernel
theorem adj_row {N : Nat} (hN : N ≤ 30) : adj (rowD N) = true := List.all_eq_true.mp adj_B N (List.mem_range.mpr (by omega))
theorem atD_cons {y : Nat} {t : List Nat} {k : Nat} (hk : k < t.length) : atD (y :: t) k = atD t k := by
  unfold atD
  simp only [List.length_cons]
  rw [show t.length + 1 - 1 - k = (t.length - 1 - k) + 1 by omega]
  simp
theorem atD_top {y : Nat} {t : List Nat} : atD (y :: t) t.length = y := by
  unfold atD
  simp
/-- neighbours in a row are near -/
theorem adj_at : ∀ (l : List Nat), adj l = true → ∀ k, k + 1 < l.length → nrP (atD l k) (atD l (k + 1))
  | [], _, k, hk => by simp at hk
  | [a], _, k, hk => by simp at hk
  | a :: b :: t, h, k, hk => by
    have h' : (decide (nrP a b) && adj (b :: t)) = true := h
    rw [Bool.and_eq_true] at h'
    simp only [List.length_cons] at hk
    by_cases e : k = t.length
    · subst e
      have e1 : atD (a :: b :: t) t.length = b := (atD_cons (by simp)).trans atD_top
      have e2 : atD (a :: b :: t) (t.length + 1) = a := atD_top (t := b :: t)
      rw [e1, e2, nrP_c]
      exact of_decide_eq_true h'.1
    · rw [atD_cons (show k < (b :: t).length by simp; omega), atD_cons (show k + 1 < (b :: t).length by simp; omega)]
      exact adj_at (b :: t) h'.2 k (by simp; omega)
end NEARZ
