section SAMEC
variable {A : Nat → Nat → Int32} {B : Nat → Nat → Int64}
theorem Lh7 {f : Nat → Int32} {v : Int32} {z k : Nat} (h1 : z ≠ 21) (h2 : z ≠ 22) : Lh A 7 f v z k = A z k := by
  unfold Lh
  rw [va_sel (show z ≠ 7 + 2 * 7 from h1), va_sel (show z ≠ 8 + 2 * 7 from h2)]
theorem g_same (r o : Int32) : Good mX7_same mX8_same [.int r, .int o] false := by
  intro A B hA
  obtain ⟨m, hK⟩ := hA.2.1
  have c7 := c7_same (A := A) (B := B) 0 hK.2.1 hK.1 r o
  refine ⟨4, _, by decide, c7, fun r1 h1 q1 => ?_⟩
  obtain ⟨rfl, rfl⟩ := q1
  obtain ⟨b1, p1, -⟩ := pack_pre hK r (B 41)
  obtain ⟨b2, p2, -⟩ := pack_pre hK o b1
  have c8 : ∀ A1 : Nat → Nat → Int32, (∀ z k, 33 ≤ z → A1 z k = A z k) → (∀ x, wn8 A1 m x = wn A m x) ∧ C mX8_same (0 + 2) 0 0 [.ref 33, .int r, .int o] (hp A1 B) (fun r' h' => (∃ B', h' = hp (s8_same A1 m r o b1 b2 (B 43)).2 B') ∧ r' = some (.int (s8_same A1 m r o b1 b2 (B 43)).1)) := by
    intro A1 hi
    have e38 : A1 38 = A 38 := funext (fun k => hi 38 k (by decide))
    have ew : ∀ x, wn8 A1 m x = wn A m x := by
      intro x
      rw [← wn_eq hK x]
      unfold wn8
      rw [e38]
    refine ⟨ew, c8_same (A := A1) (B := B) (n := 50000) (n2 := 50000) 0 ((hi 33 6 (by decide)).trans hK.2.2.1) hK.1 r o b1 b2 (fun g => ?_) (fun g => ?_)⟩
    · rw [e38]; exact p1 ((ew r).symm.trans g)
    · rw [e38]; exact p2 ((ew o).symm.trans g)
  by_cases hc : (0 ≤ r ∧ r < nI m) ∧ (0 ≤ o ∧ o < nI m)
  · by_cases hw : wn A m r = 0 ∧ wn A m o = 0
    · obtain ⟨d1, -, -, -, k4, k5⟩ := leads_pair hK hw.1
      obtain ⟨d2, -, -, -, l4', l5⟩ := leads_pair hK hw.2
      obtain ⟨b1', k6, k7⟩ := k5 (B 41)
      have e1 : b1' = b1 := Option.some.inj (k6.symm.trans (p1 hw.1))
      subst e1
      obtain ⟨b2', l6, l7⟩ := l5 b1'
      have e2 : b2' = b2 := Option.some.inj (l6.symm.trans (p2 hw.2))
      subst e2
      have hs := same_eq (x := B 43) (y := so8 b1' (B 43)) (k4 (A 20)) k7 (l4' (A 22)) l7
      have e7 : s7_same A m r o = (hbF (lbB (A (8 + 2 * cl r)) (A 20)).2.1 (lbB (A (8 + 2 * cl o)) (A 22)).2.1, Lh (Lh A 6 (lbB (A (8 + 2 * cl r)) (A 20)).2.1 (lbB (A (8 + 2 * cl r)) (A 20)).2.2) 7 (lbB (A (8 + 2 * cl o)) (A 22)).2.1 (lbB (A (8 + 2 * cl o)) (A 22)).2.2) := by unfold s7_same; rw [if_pos hc, if_pos hw]
      rw [e7]
      generalize lbB (A (8 + 2 * cl r)) (A 20) = L1 at *
      generalize lbB (A (8 + 2 * cl o)) (A 22) = L2 at *
      have hi : ∀ z k, z ≠ 19 → z ≠ 20 → z ≠ 21 → z ≠ 22 → Lh (Lh A 6 L1.2.1 L1.2.2) 7 L2.2.1 L2.2.2 z k = A z k := by
        intro z k h1 h2 h3 h4
        rw [Lh7 h3 h4, LhJ h1 h2]
      obtain ⟨ew, c⟩ := c8 (Lh (Lh A 6 L1.2.1 L1.2.2) 7 L2.2.1 L2.2.2) (fun z k hz => hi z k (by omega) (by omega) (by omega) (by omega))
      refine ⟨_, B, 2, _, by decide, rfl, c, fun r2 h2 q2 => ?_⟩
      obtain ⟨⟨B', rfl⟩, rfl⟩ := q2
      have es : s8_same (Lh (Lh A 6 L1.2.1 L1.2.2) 7 L2.2.1 L2.2.2) m r o b1' b2' (B 43) = (eq8 (so8 b1' (B 43)) (so8 b2' (so8 b1' (B 43))), Lh (Lh A 6 L1.2.1 L1.2.2) 7 L2.2.1 L2.2.2) := by
        unfold s8_same
        rw [if_pos hc, ew, ew, if_pos hw]
      rw [es]
      exact ⟨_, _, rfl, Rel_c (fun z k s => hi z k (by unfold selR selK selM selW at s; omega) (by unfold selR selK selM selW at s; omega) (by unfold selR selK selM selW at s; omega) (by unfold selR selK selM selW at s; omega)) hA, by rw [hs], _, rfl⟩
    · have e7 : s7_same A m r o = (-7, rfA A 7) := by unfold s7_same; rw [if_pos hc, if_neg hw]
      rw [e7]
      obtain ⟨ew, c⟩ := c8 (rfA A 7) (fun z k hz => rf_ne (by omega))
      refine ⟨_, B, 2, _, by decide, rfl, c, fun r2 h2 q2 => ?_⟩
      obtain ⟨⟨B', rfl⟩, rfl⟩ := q2
      have es : s8_same (rfA A 7) m r o b1 b2 (B 43) = (-7, rmA (rfA A 7) 7) := by
        unfold s8_same
        rw [if_pos hc, ew, ew, if_neg hw]
      rw [es]
      exact ⟨_, _, rfl, Rel_rf 7 hA, rfl, _, rfl⟩
  · have e7 : s7_same A m r o = (-3, rfA A 3) := by unfold s7_same; rw [if_neg hc]
    rw [e7]
    obtain ⟨ew, c⟩ := c8 (rfA A 3) (fun z k hz => rf_ne (by omega))
    refine ⟨_, B, 2, _, by decide, rfl, c, fun r2 h2 q2 => ?_⟩
    obtain ⟨⟨B', rfl⟩, rfl⟩ := q2
    have es : s8_same (rfA A 3) m r o b1 b2 (B 43) = (-3, rmA (rfA A 3) 3) := by
      unfold s8_same
      rw [if_neg hc]
    rw [es]
    exact ⟨_, _, rfl, Rel_rf 3 hA, rfl, _, rfl⟩
end SAMEC
