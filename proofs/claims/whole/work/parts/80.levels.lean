section WAYR
variable {e : Nat → Nat} {Nn kg : Nat} {E : Nat → Nat}
/-- E is the distance by place -/
def DSE (e : Nat → Nat) (Nn kg : Nat) (E : Nat → Nat) : Prop := (∀ j, j < Nn → (E j = 0 ↔ j = kg)) ∧ (∀ j d, j < Nn → E j = d + 1 → ∃ k, k < Nn ∧ nrP (e j) (e k) ∧ E k = d) ∧ (∀ j k, j < Nn → k < Nn → nrP (e j) (e k) → E j ≤ E k + 1) ∧ ∀ j, j < Nn → E j < 279
theorem DSE_of {l : List Nat} (hd : ndb l = true) (hl : l.length ≤ 279) {G : Nat} {D : Nat → Nat} (h : DST l G D) (hg : kg < l.length) (hG : atD l kg = G) : DSE (atD l) l.length kg (fun j => D (atD l j)) := by
  obtain ⟨h1, h2, h3, h4⟩ := h
  refine ⟨fun j hj => ?_, fun j d hj ej => ?_, fun j k hj hk hn => h3 _ _ (atD_mem l j hj) (atD_mem l k hk) hn, fun j hj => ?_⟩
  · show D (atD l j) = 0 ↔ j = kg
    rw [h1 _ (atD_mem l j hj), ← hG]
    exact ⟨fun g => atD_inj l hd j kg hj hg g, fun g => by rw [g]⟩
  · obtain ⟨y, hy, hn, ey⟩ := h2 _ d (atD_mem l j hj) ej
    obtain ⟨k, hk, ek, -⟩ := plc_ex hy
    exact ⟨k, hk, by rw [ek]; exact hn, by show D (atD l k) = d; rw [ek]; exact ey⟩
  · have := h4 _ (atD_mem l j hj)
    show D (atD l j) < 279
    omega
theorem DSE_all (h : DSE e Nn kg E) {d : Nat} : ∀ t j, j < Nn → E j = d + t → ∃ k, k < Nn ∧ E k = d
  | 0, j, hj, g => ⟨j, hj, g⟩
  | t + 1, j, hj, g => by
    obtain ⟨k, hk, -, ek⟩ := h.2.1 j (d + t) hj g
    exact DSE_all h t k hk ek
def LV (E : Nat → Nat) (Nn d : Nat) (W : Nat → Int32) : Prop := ∀ j, j < Nn → (E j ≤ d → W j = nI (E j)) ∧ (d < E j → W j = 1000)
def LvP (e : Nat → Nat) (E : Nat → Nat) (d m j : Nat) (v : Int32) : Prop := (E j ≤ d → v = nI (E j)) ∧ (d < E j → (∃ k, k < m ∧ E k = d ∧ nrP (e k) (e j)) → v = nI (d + 1)) ∧ (d < E j → (¬ ∃ k, k < m ∧ E k = d ∧ nrP (e k) (e j)) → v = 1000)
theorem n1000 {a : Nat} (h : a < 300) : ¬ nI a = 1000 := fun g => absurd ((nI_eq (b := 1000) (by omega) (by decide)).mp g) (by omega)
theorem LP_d {d m j : Nat} {v : Int32} (hd : d < 290) (hE : E j < 279) (h : LvP e E d m j v) : v = nI d ↔ E j = d := by
  by_cases g : E j ≤ d
  · rw [h.1 g]
    exact nI_eq (by omega) (by omega)
  · by_cases x : ∃ k, k < m ∧ E k = d ∧ nrP (e k) (e j)
    · rw [h.2.1 (by omega) x, nI_eq (by omega) (by omega)]
      omega
    · rw [h.2.2 (by omega) x]
      exact ⟨fun q => absurd q.symm (n1000 (by omega)), fun q => by omega⟩
theorem bk_lv (h : DSE e Nn kg E) {d : Nat} (hd : d < 290) {W : Nat → Int32} (hW : LV E Nn d W) : ∀ m, m ≤ Nn → (∀ j, j < Nn → LvP e E d m j ((bk e Nn d W m).1 j)) ∧ ((bk e Nn d W m).2 = 0 ↔ ∀ k, k < m → E k ≠ d)
  | 0, _ => by
    refine ⟨fun j hj => ⟨(hW j hj).1, fun _ g => ?_, fun g _ => (hW j hj).2 g⟩, fun _ k hk => by omega, fun _ => rfl⟩
    obtain ⟨k, hk, -⟩ := g
    omega
  | m + 1, hm => by
    obtain ⟨ih1, ih2⟩ := bk_lv h hd hW m (by omega)
    have hmm := LP_d hd (h.2.2.2 m (by omega)) (ih1 m (by omega))
    by_cases g : E m = d
    · have e1 : bk e Nn d W (m + 1) = (stJ e d m Nn (bk e Nn d W m).1, 1) := by
        show (if (bk e Nn d W m).1 m = nI d then (stJ e d m Nn (bk e Nn d W m).1, (1 : Int32)) else bk e Nn d W m) = _
        rw [if_pos (hmm.mpr g)]
      rw [e1]
      refine ⟨fun j hj => ?_, fun q => absurd (show (1 : Int32) = 0 from q) (by decide), fun q => absurd g (q m (by omega))⟩
      obtain ⟨p1, p2, p3⟩ := ih1 j hj
      show LvP e E d (m + 1) j (stJ e d m Nn (bk e Nn d W m).1 j)
      unfold stJ
      by_cases c : j < Nn ∧ (bk e Nn d W m).1 j = 1000 ∧ nrP (e m) (e j)
      · rw [if_pos c]
        refine ⟨fun q => ?_, fun _ _ => rfl, fun _ q => absurd ⟨m, by omega, g, c.2.2⟩ q⟩
        have := p1 q
        rw [c.2.1] at this
        exact absurd this.symm (n1000 (by have := h.2.2.2 j hj; omega))
      · rw [if_neg c]
        refine ⟨p1, fun q1 q2 => ?_, fun q1 q2 => p3 q1 (fun ⟨k, k1, k2⟩ => q2 ⟨k, by omega, k2⟩)⟩
        by_cases x : ∃ k, k < m ∧ E k = d ∧ nrP (e k) (e j)
        · exact p2 q1 x
        · obtain ⟨k, k1, k2, k3⟩ := q2
          by_cases km : k = m
          · subst km
            exact absurd ⟨hj, p3 q1 x, k3⟩ c
          · exact absurd ⟨k, by omega, k2, k3⟩ x
    · have e1 : bk e Nn d W (m + 1) = bk e Nn d W m := by
        show (if (bk e Nn d W m).1 m = nI d then (stJ e d m Nn (bk e Nn d W m).1, (1 : Int32)) else bk e Nn d W m) = _
        rw [if_neg (fun q => g (hmm.mp q))]
      rw [e1]
      refine ⟨fun j hj => ?_, fun q k hk => ?_, fun q => ih2.mpr (fun k hk => q k (by omega))⟩
      · obtain ⟨p1, p2, p3⟩ := ih1 j hj
        refine ⟨p1, fun q1 q2 => p2 q1 ?_, fun q1 q2 => p3 q1 (fun ⟨k, k1, k2⟩ => q2 ⟨k, by omega, k2⟩)⟩
        obtain ⟨k, k1, k2, k3⟩ := q2
        by_cases km : k = m
        · subst km
          exact absurd k2 g
        · exact ⟨k, by omega, k2, k3⟩
      · by_cases km : k = m
        · subst km
          exact g
        · exact ih2.mp q k (by omega)
theorem LP_lv (h : DSE e Nn kg E) {d : Nat} {W : Nat → Int32} (hW : ∀ j, j < Nn → LvP e E d Nn j (W j)) : LV E Nn (d + 1) W := by
  intro j hj
  obtain ⟨p1, p2, p3⟩ := hW j hj
  refine ⟨fun q => ?_, fun q => p3 (by omega) (fun ⟨k, k1, k2, k3⟩ => ?_)⟩
  · by_cases g : E j ≤ d
    · exact p1 g
    · have ej : E j = d + 1 := by omega
      obtain ⟨k, hk, hn, ek⟩ := h.2.1 j d hj ej
      rw [ej]
      exact p2 (by omega) ⟨k, hk, ek, nrP_c.mp hn⟩
  · have := h.2.2.1 j k hj k1 (nrP_c.mp k3)
    omega
/-- the search by levels ends with the distances -/
theorem wl_ok (h : DSE e Nn kg E) : ∀ (t d : Nat) (W : Nat → Int32), d + t = 281 → d ≤ 280 → LV E Nn d W → ∃ W', wl e Nn t d W = some W' ∧ ∀ j, j < Nn → W' j = nI (E j)
  | 0, d, W, h1, h2, _ => by omega
  | t + 1, d, W, h1, h2, hW => by
    obtain ⟨b1, b2⟩ := bk_lv h (show d < 290 by omega) hW Nn (Nat.le_refl _)
    by_cases g : (bk e Nn d W Nn).2 = 0
    · have e1 : wl e Nn (t + 1) d W = some (bk e Nn d W Nn).1 := by
        show (if (bk e Nn d W Nn).2 = 0 then some (bk e Nn d W Nn).1 else wl e Nn t (d + 1) (bk e Nn d W Nn).1) = _
        rw [if_pos g]
      refine ⟨_, e1, fun j hj => ?_⟩
      by_cases c : E j ≤ d
      · exact (b1 j hj).1 c
      · obtain ⟨k, hk, ek⟩ := DSE_all h (d := d) (E j - d) j hj (by omega)
        exact absurd ek (b2.mp g k hk)
    · have e1 : wl e Nn (t + 1) d W = wl e Nn t (d + 1) (bk e Nn d W Nn).1 := by
        show (if (bk e Nn d W Nn).2 = 0 then some (bk e Nn d W Nn).1 else wl e Nn t (d + 1) (bk e Nn d W Nn).1) = _
        rw [if_neg g]
      rw [e1]
      refine wl_ok h t (d + 1) _ (by omega) ?_ (LP_lv h b1)
      by_cases c : ∀ k, k < Nn → E k ≠ d
      · exact absurd (b2.mpr c) g
      · have : ∃ k, k < Nn ∧ E k = d := by
          refine Classical.byContradiction (fun q => c (fun k hk ek => q ⟨k, hk, ek⟩))
        obtain ⟨k, hk, ek⟩ := this
        have := h.2.2.2 k hk
        omega
theorem LV_0 (h : DSE e Nn kg E) (Z : Nat → Int32) : LV E Nn 0 (W0p kg Nn Z) := by
  intro j hj
  unfold W0p
  rw [if_pos hj]
  refine ⟨fun q => ?_, fun q => ?_⟩
  · have : E j = 0 := by omega
    rw [if_pos ((h.1 j hj).mp this)]
    exact (congrArg nI this).symm
  · rw [if_neg (fun g => by have := (h.1 j hj).mpr g; omega)]
/-- the way: at each step the least place that is nearer by one -/
theorem way_ex (h : DSE e Nn kg E) {kf : Nat} (hf : kf < Nn) : ∃ s : Nat → Nat, s 0 = kf ∧ isWay e Nn (E kf) (fun c j => E j = c) s := by
  have hex : ∀ p : Nat × Nat, ∃ j, (∃ k, k < Nn ∧ E k = p.1 ∧ nrP (e p.2) (e k)) → (j < Nn ∧ E j = p.1 ∧ nrP (e p.2) (e j)) ∧ ∀ i, i < j → ¬ (E i = p.1 ∧ nrP (e p.2) (e i)) := by
    intro p
    by_cases x : ∃ k, k < Nn ∧ E k = p.1 ∧ nrP (e p.2) (e k)
    · obtain ⟨j, j1, j2⟩ := pk_least (fun k => k < Nn ∧ E k = p.1 ∧ nrP (e p.2) (e k)) x
      exact ⟨j, fun _ => ⟨j1, fun i hi g => j2 i hi ⟨by have := j1.1; omega, g⟩⟩⟩
    · exact ⟨0, fun g => absurd g x⟩
  obtain ⟨nx, hnx⟩ := Classical.axiomOfChoice hex
  obtain ⟨s, s0, s1⟩ : ∃ s : Nat → Nat, s 0 = kf ∧ ∀ i, s (i + 1) = nx (E kf - (i + 1), s i) := ⟨fun i => Nat.rec (motive := fun _ => Nat) kf (fun i k => nx (E kf - (i + 1), k)) i, rfl, fun i => rfl⟩
  have st : ∀ i, i < E kf → s i < Nn → E (s i) = E kf - i → (s (i + 1) < Nn ∧ E (s (i + 1)) = E kf - (i + 1) ∧ nrP (e (s i)) (e (s (i + 1)))) ∧ ∀ j, j < s (i + 1) → ¬ (E j = E kf - (i + 1) ∧ nrP (e (s i)) (e j)) := by
    intro i hi h1 h2
    obtain ⟨k, hk, hn, ek⟩ := h.2.1 (s i) (E kf - (i + 1)) h1 (by omega)
    rw [s1 i]
    exact hnx (E kf - (i + 1), s i) ⟨k, hk, ek, hn⟩
  have iv : ∀ i, i ≤ E kf → s i < Nn ∧ E (s i) = E kf - i := by
    intro i
    induction i with
    | zero => intro _; exact ⟨by rw [s0]; exact hf, by rw [s0, Nat.sub_zero]⟩
    | succ i ih =>
      intro hi
      obtain ⟨h1, h2⟩ := ih (by omega)
      have := (st i (by omega) h1 h2).1
      exact ⟨this.1, this.2.1⟩
  refine ⟨s, s0, fun i hi => ?_⟩
  obtain ⟨h1, h2⟩ := iv i (by omega)
  obtain ⟨⟨q1, q2, q3⟩, q4⟩ := st i hi h1 h2
  exact ⟨q1, q2, q3, q4⟩
end WAYR
