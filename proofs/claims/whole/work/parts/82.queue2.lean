section WAYS
/-- the queue of the search at its i-th place -/
def QI (N G : Nat) (D : Nat → Nat) (i : Nat) (S : TS) : Prop := QX N D S ∧ G ∈ S.2 ∧ (∀ j, j < i → j < S.2.length → ∀ y, y ∈ rowD N → nrP (atD S.2 j) y → y ∈ S.2) ∧ ∀ j k, i ≤ j → j < S.2.length → k < S.2.length → D (atD S.2 k) ≤ D (atD S.2 j) + 1
theorem QI_all {N G : Nat} {D : Nat → Nat} {i : Nat} {S : TS} (hD : DST (rowD N) G D) (h : QI N G D i S) : ∀ d, (∀ k, i ≤ k → k < S.2.length → d ≤ D (atD S.2 k)) → ∀ x, x ∈ rowD N → D x = d → x ∈ S.2
  | 0, _, x, hx, e => by
    rw [(hD.1 x hx).mp e]
    exact h.2.1
  | d + 1, hk, x, hx, e => by
    obtain ⟨y, hy, hn, ey⟩ := hD.2.1 x d hx e
    have hy2 := QI_all hD h d (fun k h1 h2 => by have := hk k h1 h2; omega) y hy ey
    obtain ⟨k, k1, k2, -⟩ := plc_ex hy2
    have ki : k < i := by
      by_cases g : i ≤ k
      · have := hk k g k1
        rw [k2, ey] at this
        omega
      · omega
    exact h.2.2.1 k ki k1 x hx (by rw [k2]; exact nrP_c.mp hn)
theorem QI_step {N G : Nat} {D : Nat → Nat} {i : Nat} {S : TS} (hN : N ≤ 30) (hD : DST (rowD N) G D) (h : QI N G D i S) (hi : i < S.2.length) : QI N G D (i + 1) (fa N S (atD S.2 i)) := by
  have hl := rowD_len hN
  have hD4 : ∀ y, y ∈ rowD N → D y < 279 := fun y hy => by have := hD.2.2.2 y hy; omega
  have hall := QI_all hD h
  obtain ⟨hq, hG, hc, hs⟩ := h
  have hm := atD_mem S.2 i hi
  have hr := hq.1 _ hm
  have hok := ((mem_row hN).mp hr).1
  have e : S.1 (kyN (atD S.2 i)) + 1 = nI (D (atD S.2 i) + 1 + 1) := by
    rw [hq.2.2.1 _ hm, nI_1]
  have ef : fa N S (atD S.2 i) = (cand (atD S.2 i / 100) (atD S.2 i % 100) N 1).foldl (fun S' x => fd S' x (nI (D (atD S.2 i) + 1 + 1))) S := by
    unfold fa
    rw [e]
  rw [ef]
  have hcs : ∀ x, x ∈ cand (atD S.2 i / 100) (atD S.2 i % 100) N 1 ↔ x ∈ rowD N ∧ nrP (atD S.2 i) x := fun x => cand_near hN hok
  generalize cand (atD S.2 i / 100) (atD S.2 i % 100) N 1 = cs at hcs ⊢
  obtain ⟨b1, b2, b3, p, b4⟩ := fold_QX hN hD4 (dd := D (atD S.2 i) + 1) cs S hq (fun y hy => by
    obtain ⟨k, k1, k2, -⟩ := plc_ex hy
    rw [← k2]
    exact hs i k (Nat.le_refl _) hi k1) (fun x hx => by
    obtain ⟨x1, x2⟩ := (hcs x).mp hx
    refine ⟨x1, fun hn => ?_⟩
    have l1 := hD.2.2.1 x _ x1 hr (nrP_c.mp x2)
    by_cases g : D x ≤ D (atD S.2 i)
    · exact absurd (hall (D x) (fun k k1 k2 => Nat.le_trans g (hq.2.2.2.2 i k k1 k2)) x x1 rfl) hn
    · omega)
  generalize cs.foldl (fun S' x => fd S' x (nI (D (atD S.2 i) + 1 + 1))) S = S2 at b1 b2 b3 b4 ⊢
  have hle : S.2.length ≤ S2.2.length := by rw [b4, List.length_append]; omega
  have hat : ∀ k, k < S.2.length → atD S2.2 k = atD S.2 k := fun k hk => by rw [b4]; exact atD_app hk p
  have hsub : ∀ x, x ∈ S.2 → x ∈ S2.2 := fun x hx => by rw [b4]; exact List.mem_append_right _ hx
  refine ⟨b1, hsub _ hG, fun j hj hj2 y hy hn => ?_, fun j k hj hj2 hk => ?_⟩
  · rw [hat j (by omega)] at hn
    by_cases g : j = i
    · subst g
      exact b3 y ((hcs y).mpr ⟨hy, hn⟩)
    · exact hsub y (hc j (by omega) (by omega) y hy hn)
  · have l1 := b2 _ (atD_mem S2.2 k hk)
    have l2 := b1.2.2.2.2 i j (by omega) hj2
    rw [hat i hi] at l2
    omega
theorem sl_ok {N F G : Nat} {D : Nat → Nat} (hN : N ≤ 30) (hD : DST (rowD N) G D) : ∀ (t i : Nat) (S : TS), i + t = 281 → i ≤ 280 → QI N G D i S → ∃ S' i', sl N F t i S = some S' ∧ QI N G D i' S' ∧ (i' < S'.2.length → S'.1 (kyN F) ≠ 0)
  | 0, i, S, h1, h2, _ => by omega
  | t + 1, i, S, h1, h2, h => by
    by_cases g : i < S.2.length ∧ S.1 (kyN F) = 0
    · have e1 : sl N F (t + 1) i S = sl N F t (i + 1) (fa N S (atD S.2 i)) := by
        show (if i < S.2.length ∧ S.1 (kyN F) = 0 then sl N F t (i + 1) (fa N S (atD S.2 i)) else some S) = _
        rw [if_pos g]
      rw [e1]
      have a1 := nd_len S.2 (rowD N) h.1.2.1 h.1.1
      have a2 := rowD_len hN
      exact sl_ok hN hD t (i + 1) _ (by omega) (by omega) (QI_step hN hD h g.1)
    · have e1 : sl N F (t + 1) i S = some S := by
        show (if i < S.2.length ∧ S.1 (kyN F) = 0 then sl N F t (i + 1) (fa N S (atD S.2 i)) else some S) = _
        rw [if_neg g]
      exact ⟨S, i, e1, h, fun q1 q2 => g ⟨q1, q2⟩⟩
theorem QI_0 {N G : Nat} {D : Nat → Nat} (hN : N ≤ 30) (hD : DST (rowD N) G D) (hG : G ∈ rowD N) (Z : Nat → Int32) : QI N G D 0 (S0 G Z) := by
  have hl := rowD_len hN
  have hD4 : ∀ y, y ∈ rowD N → D y < 279 := fun y hy => by have := hD.2.2.2 y hy; omega
  have h0 : QX N D (zp 961 Z, []) := by
    refine ⟨fun x hx => absurd hx List.not_mem_nil, List.nodup_nil, fun x hx => absurd hx List.not_mem_nil, fun x hx _ => ?_, fun j k _ hk => absurd hk (Nat.not_lt_zero _)⟩
    show zp 961 Z (kyN x) = 0
    unfold zp
    rw [if_pos (okF_ky ((mem_row hN).mp hx).1 hN).1]
  obtain ⟨b1, b2, b3, p, b4⟩ := fd_QX (dd := 0) hN hD4 h0 hG (fun y hy => absurd hy List.not_mem_nil) (fun _ => (hD.1 G hG).mpr rfl)
  have e : S0 G Z = fd (zp 961 Z, []) G (nI (0 + 1)) := rfl
  rw [e]
  generalize fd (zp 961 Z, []) G (nI (0 + 1)) = S at b1 b2 b3 b4 ⊢
  refine ⟨b1, b3, fun j hj => absurd hj (Nat.not_lt_zero _), fun j k _ _ hk => ?_⟩
  have := b2 _ (atD_mem S.2 k hk)
  omega
/-- the search with the queue ends with the distances, up to that of the start -/
theorem sl_end {N F G : Nat} {D : Nat → Nat} (hN : N ≤ 30) (hD : DST (rowD N) G D) (hG : G ∈ rowD N) (hF : F ∈ rowD N) (Z : Nat → Int32) : ∃ S', sl N F 281 0 (S0 G Z) = some S' ∧ S'.1 (kyN F) = nI (D F + 1) ∧ ∀ x, x ∈ rowD N → ∀ c, c < D F → (S'.1 (kyN x) = nI (c + 1) ↔ D x = c) := by
  have hl := rowD_len hN
  have hD4 : ∀ y, y ∈ rowD N → D y < 279 := fun y hy => by have := hD.2.2.2 y hy; omega
  obtain ⟨S', i, e, h, hf⟩ := sl_ok (F := F) hN hD 281 0 (S0 G Z) (by decide) (by decide) (QI_0 hN hD hG Z)
  have hall := QI_all hD h
  obtain ⟨hq, -, -, hs⟩ := h
  have hF2 : F ∈ S'.2 := by
    by_cases g : i < S'.2.length
    · refine Classical.byContradiction (fun q => hf g (hq.2.2.2.1 F hF q))
    · exact hall (D F) (fun k h1 h2 => by omega) F hF rfl
  refine ⟨S', e, hq.2.2.1 F hF2, fun x hx c hc => ⟨fun q => ?_, fun q => ?_⟩⟩
  · have h4 := hD4 F hF
    have h5 := hD4 x hx
    by_cases g : x ∈ S'.2
    · rw [hq.2.2.1 x g] at q
      have := (nI_eq (by omega) (by omega)).mp q
      omega
    · rw [hq.2.2.2.1 x hx g] at q
      have := (nI_eq (a := 0) (by omega) (by omega)).mp q
      omega
  · have hx2 : x ∈ S'.2 := by
      refine hall c (fun k h1 h2 => ?_) x hx q
      obtain ⟨kF, k1, k2, -⟩ := plc_ex hF2
      have := hs k kF h1 h2 k1
      rw [k2] at this
      omega
    rw [hq.2.2.1 x hx2, q]
end WAYS
