section ROWS
variable {A A1 A2 : Nat → Nat → Int32} {B : Nat → Nat → Int64}
theorem mem_insD {x y : Nat} : ∀ {l : List Nat}, y ∈ insD x l ↔ y = x ∨ y ∈ l
  | [] => by simp [insD]
  | z :: t => by
    unfold insD
    split
    · rw [List.mem_cons, mem_insD, List.mem_cons]
      constructor
      · rintro (h | h | h)
        · exact Or.inr (Or.inl h)
        · exact Or.inl h
        · exact Or.inr (Or.inr h)
      · rintro (h | h | h)
        · exact Or.inr (Or.inl h)
        · exact Or.inl h
        · exact Or.inr (Or.inr h)
    · rw [List.mem_cons]
theorem mem_rwP {q y : Nat} : ∀ {t p : Nat} {l : List Nat}, y ∈ rwP q t p l ↔ y ∈ l ∨ ∃ p', p ≤ p' ∧ p' < p + t ∧ Nat.gcd q p' = 1 ∧ y = 100 * p' + q
  | 0, p, l => by
    constructor
    · exact Or.inl
    · rintro (h | ⟨p', h1, h2, -⟩)
      · exact h
      · omega
  | t + 1, p, l => by
    unfold rwP
    rw [mem_rwP]
    by_cases g : Nat.gcd q p = 1
    · rw [if_pos g, mem_insD]
      constructor
      · rintro ((h | h) | ⟨p', h1, h2, h3⟩)
        · exact Or.inr ⟨p, by omega, by omega, g, h⟩
        · exact Or.inl h
        · exact Or.inr ⟨p', by omega, by omega, h3⟩
      · rintro (h | ⟨p', h1, h2, h3, h4⟩)
        · exact Or.inl (Or.inr h)
        · by_cases e : p' = p
          · subst e; exact Or.inl (Or.inl h4)
          · exact Or.inr ⟨p', by omega, by omega, h3, h4⟩
    · rw [if_neg g]
      constructor
      · rintro (h | ⟨p', h1, h2, h3⟩)
        · exact Or.inl h
        · exact Or.inr ⟨p', by omega, by omega, h3⟩
      · rintro (h | ⟨p', h1, h2, h3, h4⟩)
        · exact Or.inl h
        · by_cases e : p' = p
          · subst e; exact absurd h3 g
          · exact Or.inr ⟨p', by omega, by omega, h3, h4⟩
theorem mem_rwQ {y : Nat} : ∀ {t q : Nat} {l : List Nat}, y ∈ rwQ t q l ↔ y ∈ l ∨ ∃ q' p', q ≤ q' ∧ q' < q + t ∧ p' ≤ q' ∧ Nat.gcd q' p' = 1 ∧ y = 100 * p' + q'
  | 0, q, l => by
    constructor
    · exact Or.inl
    · rintro (h | ⟨q', p', h1, h2, -⟩)
      · exact h
      · omega
  | t + 1, q, l => by
    unfold rwQ
    rw [mem_rwQ, mem_rwP]
    constructor
    · rintro ((h | ⟨p', h1, h2, h3, h4⟩) | ⟨q', p', h1, h2, h3⟩)
      · exact Or.inl h
      · exact Or.inr ⟨q, p', by omega, by omega, by omega, h3, h4⟩
      · exact Or.inr ⟨q', p', by omega, by omega, h3⟩
    · rintro (h | ⟨q', p', h1, h2, h3, h4, h5⟩)
      · exact Or.inl (Or.inl h)
      · by_cases e : q' = q
        · subst e; exact Or.inl (Or.inr ⟨p', by omega, by omega, h4, h5⟩)
        · exact Or.inr ⟨q', p', by omega, by omega, h3, h4, h5⟩
theorem mem_row {N y : Nat} (hN : N ≤ 30) : y ∈ rowD N ↔ okF N y ∧ FR y := by
  unfold rowD
  rw [mem_rwQ]
  constructor
  · rintro (h | ⟨q, p, h1, h2, h3, h4, h5⟩)
    · exact absurd h List.not_mem_nil
    · subst h5
      have e1 : (100 * p + q) % 100 = q := by omega
      have e2 : (100 * p + q) / 100 = p := by omega
      unfold okF FR
      rw [e1, e2]
      exact ⟨⟨h1, h3, by omega⟩, h1, h3, h4⟩
  · rintro ⟨⟨h1, h2, h3⟩, h4, h5, h6⟩
    exact Or.inr ⟨y % 100, y / 100, h1, by omega, h2, h6, by omega⟩
theorem atD_ok {N : Nat} (hN : N ≤ 30) : ∀ j, j < (rowD N).length → okF N (atD (rowD N) j) := fun j hj => ((mem_row hN).mp (atD_mem _ j hj)).1
theorem plc_ex {l : List Nat} {F : Nat} (h : F ∈ l) : ∃ k, plc l F k := by
  obtain ⟨i, hi, e⟩ := List.getElem_of_mem h
  have h0 : ∃ k, k < l.length ∧ atD l k = F := by
    refine ⟨l.length - 1 - i, by omega, ?_⟩
    unfold atD
    rw [show l.length - 1 - (l.length - 1 - i) = i by omega, List.getD_eq_getElem?_getD, List.getElem?_eq_getElem hi, e]
    rfl
  obtain ⟨k, ⟨k1, k2⟩, k3⟩ := pk_least (fun k => k < l.length ∧ atD l k = F) h0
  exact ⟨k, k1, k2, fun j hj g => k3 j hj ⟨by omega, g⟩⟩
theorem Rel_JF (j : JF A A1) (hc : FC A1) (h : Rel A) : Rel A1 := by
  obtain ⟨⟨n, hR⟩, ⟨m, hK⟩, hM, ⟨w1, w2, -⟩⟩ := h
  refine ⟨⟨n, RelR_c (fun q k s => j q k (by unfold selR at s; omega)) hR⟩, ⟨m, RelK_c (fun q k s => j q k (by unfold selK at s; omega)) hK⟩, RelM_c (fun q k s => j q k (by unfold selM at s; omega)) hM, ?_, ?_, hc⟩
  · rw [j 33 25 (by omega), j 27 4 (by omega)]
    exact w1
  · rw [j 27 4 (by omega)]
    rcases w2 with g | ⟨L, g1, g2, g3⟩
    · exact Or.inl g
    · exact Or.inr ⟨L, g1, g2, fun i hi => by rw [j 48 i (by omega), j 30 i (by omega)]; exact g3 i hi⟩
theorem Rel_J9 (j : J9 A A1) (h : Rel A) : Rel A1 := Rel_c (fun q k s => j q k (by unfold selR selK selM selW at s; omega)) h
theorem JF_rm (j : JF A A1) (c : Nat) : JF (rmA A c) (rmA A1 c) := by
  intro z k hz
  have e : A1 39 = A 39 := funext (fun k => j 39 k (by decide))
  unfold rmA va_up
  split
  · rw [e]
  · exact j z k hz
theorem g_fractions (n : Int32) : Good mX7_fractions mX8_fractions [.int n] false := by
  intro A B hA
  have c7 := c7_fractions (A := A) (B := B) 0 n hA.2.2.2.2.2
  refine ⟨2, _, by decide, c7, fun r1 h1 q1 => ?_⟩
  obtain ⟨⟨A1, rfl, j1, f1⟩, rfl⟩ := q1
  have c8 := c8_fractions (A := A1) (B := B) 0 n
  refine ⟨A1, B, 2, _, by decide, rfl, c8, fun r2 h2 q2 => ?_⟩
  obtain ⟨⟨A2, rfl, j2⟩, rfl⟩ := q2
  refine ⟨A2, B, rfl, ?_, rfl, _, rfl⟩
  by_cases hc : orF n = 1
  · rw [if_pos hc] at j1 j2
    exact Rel_J9 j2 (Rel_JF j1 f1 hA)
  · rw [if_neg hc] at j1 j2
    exact Rel_J9 j2 (Rel_JF (JF_rm j1 7) f1 (Rel_rf 7 hA))
theorem g_fraction (n i : Int32) : Good mX7_fraction mX8_fraction [.int n, .int i] false := by
  intro A B hA
  have c7 := c7_fraction (A := A) (B := B) 0 n i hA.2.2.2.2.2
  refine ⟨2, _, by decide, c7, fun r1 h1 q1 => ?_⟩
  obtain ⟨⟨A1, rfl, j1, f1⟩, rfl⟩ := q1
  have c8 := c8_fraction (A := A1) (B := B) 0 n i
  refine ⟨A1, B, 2, _, by decide, rfl, c8, fun r2 h2 q2 => ?_⟩
  obtain ⟨⟨A2, rfl, j2⟩, rfl⟩ := q2
  refine ⟨A2, B, rfl, ?_, rfl, _, rfl⟩
  by_cases hc : orF n = 1
  · rw [if_pos hc] at j1 j2
    by_cases hi : 0 ≤ i ∧ i < nI (rowD n.toNatClampNeg).length
    · rw [if_pos hi] at j1 j2
      exact Rel_J9 j2 (Rel_JF j1 f1 hA)
    · rw [if_neg hi] at j1 j2
      exact Rel_J9 j2 (Rel_JF (JF_rm j1 3) f1 (Rel_rf 3 hA))
  · rw [if_neg hc] at j1 j2
    exact Rel_J9 j2 (Rel_JF (JF_rm j1 7) f1 (Rel_rf 7 hA))
theorem of_ex {f n : Int32} (h1 : orF n = 1) (h2 : ofF f n = 1) : ∃ F N, f = nI F ∧ n = nI N ∧ 1 ≤ N ∧ N ≤ 30 ∧ F < 10000 ∧ F ∈ rowD N := by
  obtain ⟨N, rfl, hN1, hN⟩ := orF_ex h1
  have h3 : frF f = 1 := by
    unfold ofF at h2
    split at h2
    · next g => exact g.1
    · exact absurd h2 (by decide)
  obtain ⟨F, rfl, hF, hF4, -⟩ := frF_ex h3
  exact ⟨F, N, rfl, rfl, hN1, hN, hF4, (mem_row hN).mpr (ofF_ok hN h2 hF4)⟩
theorem g_beside (f n down : Int32) : Good mX7_beside mX8_beside [.int f, .int n, .int down] false := by
  intro A B hA
  by_cases hc : inR f n
  · obtain ⟨F, N, rfl, rfl, hN1, hN, hF, hm⟩ := of_ex hc.1 hc.2
    obtain ⟨k, hk⟩ := plc_ex hm
    have c7 := c7_besideY (A := A) (B := B) 0 down hN1 hN hc.2 hF hA.2.2.2.2.2 hk
    refine ⟨3, _, by decide, c7, fun r1 h1 q1 => ?_⟩
    obtain ⟨⟨A1, rfl, j1, f1⟩, rfl⟩ := q1
    have c8 := c8_besideY (A := A1) (B := B) 0 down hN1 hN hc.2 hF hk.1 hk.2.1 hk.2.2
    refine ⟨A1, B, 3, _, by decide, rfl, c8, fun r2 h2 q2 => ?_⟩
    obtain ⟨⟨A2, rfl, j2⟩, rfl⟩ := q2
    exact ⟨A2, B, rfl, Rel_J9 j2 (Rel_JF j1 f1 hA), rfl, _, rfl⟩
  · have c7 := c7_besideN (A := A) (B := B) 0 f n down hc
    refine ⟨3, _, by decide, c7, fun r1 h1 q1 => ?_⟩
    obtain ⟨rfl, rfl⟩ := q1
    have c8 := c8_besideN (A := rfA A 7) (B := B) 0 f n down hc
    refine ⟨_, B, 3, _, by decide, rfl, c8, fun r2 h2 q2 => ?_⟩
    obtain ⟨rfl, rfl⟩ := q2
    exact ⟨_, B, rfl, Rel_rf 7 hA, rfl, _, rfl⟩
end ROWS
