section WAYQ
theorem mem_cq {D b low y : Nat} (hb : 1 ≤ b) : y ∈ cq D b low ↔ ∃ a, a * b = D ∧ a ≤ low ∧ y = 100 * a + low := by
  unfold cq
  constructor
  · intro h
    split at h
    · next g =>
      rw [List.mem_singleton] at h
      exact ⟨D / b, Nat.div_mul_cancel (Nat.dvd_of_mod_eq_zero g.1), g.2, h⟩
    · exact absurd h List.not_mem_nil
  · rintro ⟨a, rfl, h2, h3⟩
    have e1 : a * b / b = a := Nat.mul_div_cancel a hb
    rw [if_pos ⟨Nat.mul_mod_left a b, by rw [e1]; exact h2⟩, e1, List.mem_singleton]
    exact h3
theorem mem_cm1 {p b low y : Nat} (hb : 1 ≤ b) : y ∈ cm1 p b low ↔ ∃ a, a ≤ low ∧ y = 100 * a + low ∧ p * low = a * b + 1 := by
  unfold cm1
  by_cases g : p * low = 0
  · rw [if_pos g]
    exact ⟨fun h => absurd h List.not_mem_nil, fun ⟨a, _, _, h⟩ => by omega⟩
  · rw [if_neg g, mem_cq hb]
    exact ⟨fun ⟨a, h1, h2, h3⟩ => ⟨a, h2, h3, by omega⟩, fun ⟨a, h1, h2, h3⟩ => ⟨a, by omega, h1, h2⟩⟩
theorem mem_cand {p b y : Nat} (hb : 1 ≤ b) : ∀ {t low : Nat}, y ∈ cand p b t low ↔ ∃ q a, low ≤ q ∧ q < low + t ∧ a ≤ q ∧ y = 100 * a + q ∧ (p * q = a * b + 1 ∨ a * b = p * q + 1)
  | 0, low => by
    unfold cand
    exact ⟨fun h => absurd h List.not_mem_nil, fun ⟨q, a, h1, h2, _⟩ => by omega⟩
  | t + 1, low => by
    unfold cand
    rw [List.mem_append, List.mem_append, mem_cq hb, mem_cand hb, mem_cm1 hb]
    constructor
    · rintro (⟨a, h1, h2, h3⟩ | ⟨a, h1, h2, h3⟩ | ⟨q, a, h1, h2, h3⟩)
      · exact ⟨low, a, by omega, by omega, h1, h2, Or.inl h3⟩
      · exact ⟨low, a, by omega, by omega, h2, h3, Or.inr h1⟩
      · exact ⟨q, a, by omega, by omega, h3⟩
    · rintro ⟨q, a, h1, h2, h3, h4, h5⟩
      by_cases e : q = low
      · subst e
        rcases h5 with h5 | h5
        · exact Or.inl ⟨a, h3, h4, h5⟩
        · exact Or.inr (Or.inl ⟨a, h5, h3, h4⟩)
      · exact Or.inr (Or.inr ⟨q, a, by omega, by omega, h3, h4, h5⟩)
/-- the candidates are just the near ones of the row -/
theorem cand_near {N G y : Nat} (hN : N ≤ 30) (hG : okF N G) : y ∈ cand (G / 100) (G % 100) N 1 ↔ y ∈ rowD N ∧ nrP G y := by
  rw [mem_cand hG.1, mem_row hN]
  constructor
  · rintro ⟨q, a, h1, h2, h3, rfl, h5⟩
    have e1 : (100 * a + q) % 100 = q := by omega
    have e2 : (100 * a + q) / 100 = a := by omega
    unfold okF FR nrP
    rw [e1, e2]
    refine ⟨⟨⟨h1, h3, by omega⟩, h1, h3, ?_⟩, h5⟩
    have d1 : Nat.gcd q a ∣ G / 100 * q := Nat.dvd_trans (Nat.gcd_dvd_left q a) (Nat.dvd_mul_left q _)
    have d2 : Nat.gcd q a ∣ a * (G % 100) := Nat.dvd_trans (Nat.gcd_dvd_right q a) (Nat.dvd_mul_right a _)
    apply Nat.dvd_one.mp
    rcases h5 with h5 | h5
    · rw [h5] at d1
      exact (Nat.dvd_add_right d2).mp d1
    · rw [h5] at d2
      exact (Nat.dvd_add_right d1).mp d2
  · rintro ⟨⟨⟨h1, h2, h3⟩, -⟩, hn⟩
    exact ⟨y % 100, y / 100, h1, by omega, h2, by omega, hn⟩
theorem kyN_inj {N x y : Nat} (hN : N ≤ 30) (hx : okF N x) (hy : okF N y) (h : kyN x = kyN y) : x = y := by
  unfold kyN at h
  obtain ⟨h1, h2, h3⟩ := hx
  obtain ⟨g1, g2, g3⟩ := hy
  omega
theorem nd_len : ∀ (L l : List Nat), L.Nodup → (∀ x, x ∈ L → x ∈ l) → L.length ≤ l.length
  | [], l, _, _ => Nat.zero_le _
  | x :: t, l, hd, hs => by
    have hx : x ∈ l := hs x List.mem_cons_self
    have h1 := List.nodup_cons.mp hd
    have h2 := nd_len t (l.erase x) h1.2 (fun y hy => (List.mem_erase_of_ne (fun (g : y = x) => h1.1 (g ▸ hy))).mpr (hs y (List.mem_cons_of_mem _ hy)))
    rw [List.length_erase_of_mem hx] at h2
    have h3 : 0 < l.length := List.length_pos_of_mem hx
    simp only [List.length_cons]
    omega
theorem atD_app {l : List Nat} {k : Nat} (hk : k < l.length) : ∀ (p : List Nat), atD (p ++ l) k = atD l k
  | [] => rfl
  | a :: p => by
    show atD (a :: (p ++ l)) k = _
    rw [atD_cons (by rw [List.length_append]; omega)]
    exact atD_app hk p
/-- the state of the search is exact -/
def QX (N : Nat) (D : Nat → Nat) (S : TS) : Prop := (∀ x, x ∈ S.2 → x ∈ rowD N) ∧ S.2.Nodup ∧ (∀ x, x ∈ S.2 → S.1 (kyN x) = nI (D x + 1)) ∧ (∀ x, x ∈ rowD N → x ∉ S.2 → S.1 (kyN x) = 0) ∧ ∀ j k, j ≤ k → k < S.2.length → D (atD S.2 j) ≤ D (atD S.2 k)
theorem fd_QX {N : Nat} {D : Nat → Nat} {S : TS} {dd x : Nat} (hN : N ≤ 30) (hD : ∀ y, y ∈ rowD N → D y < 279) (h : QX N D S) (hx : x ∈ rowD N) (hm : ∀ y, y ∈ S.2 → D y ≤ dd) (hu : x ∉ S.2 → D x = dd) : QX N D (fd S x (nI (dd + 1))) ∧ (∀ y, y ∈ (fd S x (nI (dd + 1))).2 → D y ≤ dd) ∧ x ∈ (fd S x (nI (dd + 1))).2 ∧ ∃ p, (fd S x (nI (dd + 1))).2 = p ++ S.2 := by
  have h0 := h
  obtain ⟨h1, h2, h3, h4, h5⟩ := h
  by_cases hi : x ∈ S.2
  · have e : fd S x (nI (dd + 1)) = S := by
      unfold fd
      rw [if_neg]
      intro g
      rw [h3 x hi] at g
      have := (nI_eq (a := D x + 1) (b := 0) (by have := hD x hx; omega) (by decide)).mp g.1
      omega
    rw [e]
    exact ⟨h0, hm, hi, [], rfl⟩
  · have hl : S.2.length < 279 := by
      have a1 := nd_len (x :: S.2) (rowD N) (List.nodup_cons.mpr ⟨hi, h2⟩) (fun y hy => (List.mem_cons.mp hy).elim (fun g => by rw [g]; exact hx) (h1 y))
      have a2 := rowD_len hN
      simp only [List.length_cons] at a1
      omega
    have e : fd S x (nI (dd + 1)) = (upd S.1 (kyN x) (nI (dd + 1)), x :: S.2) := by
      unfold fd
      rw [if_pos ⟨h4 x hx hi, hl⟩]
    have dx := hu hi
    have ok : ∀ y, y ∈ rowD N → okF N y := fun y hy => ((mem_row hN).mp hy).1
    rw [e]
    have hm2 : ∀ y, y ∈ x :: S.2 → D y ≤ dd := fun y hy => (List.mem_cons.mp hy).elim (fun g => by rw [g, dx]; exact Nat.le_refl _) (hm y)
    refine ⟨⟨fun y hy => (List.mem_cons.mp hy).elim (fun g => by rw [g]; exact hx) (h1 y), List.nodup_cons.mpr ⟨hi, h2⟩, fun y hy => ?_, fun y hy hn => ?_, fun j k hjk hk => ?_⟩, hm2, List.mem_cons_self, [x], rfl⟩
    · show upd S.1 (kyN x) (nI (dd + 1)) (kyN y) = _
      by_cases g : y = x
      · subst g
        rw [pk_us, dx]
      · have hy2 : y ∈ S.2 := (List.mem_cons.mp hy).elim (fun q => absurd q g) id
        rw [pk_un (fun q => g (kyN_inj hN (ok y (h1 y hy2)) (ok x hx) q))]
        exact h3 y hy2
    · show upd S.1 (kyN x) (nI (dd + 1)) (kyN y) = _
      have g : ¬ y = x := fun q => hn (by rw [q]; exact List.mem_cons_self)
      rw [pk_un (fun q => g (kyN_inj hN (ok y hy) (ok x hx) q))]
      exact h4 y hy (fun q => hn (List.mem_cons_of_mem _ q))
    · show D (atD (x :: S.2) j) ≤ D (atD (x :: S.2) k)
      have hk' : k < S.2.length + 1 := hk
      by_cases ek : k = S.2.length
      · subst ek
        rw [atD_top, dx]
        exact hm2 _ (atD_mem (x :: S.2) j (by simp only [List.length_cons]; omega))
      · rw [atD_cons (show j < S.2.length by omega), atD_cons (show k < S.2.length by omega)]
        exact h5 j k hjk (by omega)
theorem fold_QX {N : Nat} {D : Nat → Nat} {dd : Nat} (hN : N ≤ 30) (hD : ∀ y, y ∈ rowD N → D y < 279) : ∀ (cs : List Nat) (S : TS), QX N D S → (∀ y, y ∈ S.2 → D y ≤ dd) → (∀ x, x ∈ cs → x ∈ rowD N ∧ (x ∉ S.2 → D x = dd)) → QX N D (cs.foldl (fun S' x => fd S' x (nI (dd + 1))) S) ∧ (∀ y, y ∈ (cs.foldl (fun S' x => fd S' x (nI (dd + 1))) S).2 → D y ≤ dd) ∧ (∀ x, x ∈ cs → x ∈ (cs.foldl (fun S' x => fd S' x (nI (dd + 1))) S).2) ∧ ∃ p, (cs.foldl (fun S' x => fd S' x (nI (dd + 1))) S).2 = p ++ S.2
  | [], S, h, hm, _ => ⟨h, hm, fun x hx => absurd hx List.not_mem_nil, [], rfl⟩
  | c :: cs, S, h, hm, hc => by
    obtain ⟨a1, a2, a3, p, a4⟩ := fd_QX hN hD h (hc c List.mem_cons_self).1 hm (hc c List.mem_cons_self).2
    rw [List.foldl_cons]
    generalize fd S c (nI (dd + 1)) = S2 at a1 a2 a3 a4 ⊢
    obtain ⟨b1, b2, b3, p2, b4⟩ := fold_QX hN hD cs S2 a1 a2 (fun x hx => ⟨(hc x (List.mem_cons_of_mem _ hx)).1, fun g => (hc x (List.mem_cons_of_mem _ hx)).2 (fun q => g (by rw [a4]; exact List.mem_append_right _ q))⟩)
    refine ⟨b1, b2, fun x hx => ?_, p2 ++ p, by rw [b4, a4, List.append_assoc]⟩
    rcases List.mem_cons.mp hx with g | g
    · rw [b4]
      rw [g]
      exact List.mem_append_right _ a3
    · exact b3 x g
end WAYQ
