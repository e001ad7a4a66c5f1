section GWAY
variable {A A1 A2 : Nat → Nat → Int32} {B : Nat → Nat → Int64}
theorem Rel_way {L : Nat} (j1 : JW A A1) (hc : FC A1) (e1 : A1 27 4 = nI L) (hL : L < 279) (j2 : J10 A1 A2) (e2 : A2 33 25 = nI L) (hs : ∀ i, i ≤ L → A2 48 i = A1 30 i) (h : Rel A) : Rel A2 := by
  obtain ⟨⟨n, hR⟩, ⟨m, hK⟩, hM, -⟩ := h
  have e25 : A2 25 = A1 25 := funext (fun k => j2 25 k (by omega))
  have e26 : A2 26 = A1 26 := funext (fun k => j2 26 k (by omega))
  have e30 : A2 30 = A1 30 := funext (fun k => j2 30 k (by omega))
  have e4 : A2 27 4 = nI L := (j2 27 4 (by omega)).trans e1
  have hc2 : FC A2 := by
    unfold FC
    rw [e25, e26]
    exact hc
  refine ⟨⟨n, RelR_c (fun q k s => (j2 q k (by unfold selR at s; omega)).trans (j1 q k (by unfold selR at s; omega))) hR⟩, ⟨m, RelK_c (fun q k s => (j2 q k (by unfold selK at s; omega)).trans (j1 q k (by unfold selK at s; omega))) hK⟩, RelM_c (fun q k s => (j2 q k (by unfold selM at s; omega)).trans (j1 q k (by unfold selM at s; omega))) hM, e2.trans e4.symm, Or.inr ⟨L, hL, e4, fun i hi => ?_⟩, hc2⟩
  rw [hs i hi, e30]
theorem isWay_c {e : Nat → Nat} {N L : Nat} {T T' : Nat → Nat → Prop} {s : Nat → Nat} (h : ∀ c j, c < L → j < N → (T c j ↔ T' c j)) (hs : isWay e N L T s) : isWay e N L T' s := by
  intro i hi
  obtain ⟨q1, q2, q3, q4⟩ := hs i hi
  exact ⟨q1, (h _ _ (by omega) q1).mp q2, q3, fun j hj g => q4 j hj ⟨(h _ _ (by omega) (by omega)).mpr g.1, g.2⟩⟩
theorem g_way (f g n : Int32) : Good mX7_way mX8_way [.int f, .int g, .int n] false := by
  intro A B hA
  by_cases hc : inW f g n
  · obtain ⟨F, N, rfl, rfl, hN1, hN, hF, hFm⟩ := of_ex hc.1 hc.2.1
    obtain ⟨G, N', rfl, eN, -, hN', hG, hGm⟩ := of_ex hc.1 hc.2.2
    have eN2 := (nI_eq (by omega) (by omega)).mp eN
    subst eN2
    obtain ⟨kf, hkf⟩ := plc_ex hFm
    obtain ⟨kg, hkg⟩ := plc_ex hGm
    obtain ⟨D, hD⟩ := DST_ex (adj_row hN) hkg.1 hkg.2.1
    have hE := DSE_of (ndb_row hN) (rowD_len hN) hD hkg.1 hkg.2.1
    obtain ⟨s, s0, hs⟩ := way_ex hE hkf.1
    obtain ⟨S', e7, f7, t7⟩ := sl_end hN hD hGm hFm (A 28)
    have eL : D (atD (rowD N) kf) = D F := by rw [hkf.2.1]
    have hs : isWay (atD (rowD N)) (rowD N).length (D F) (fun c j => D (atD (rowD N) j) = c) s := by
      rw [← eL]
      exact hs
    have hlen := rowD_len hN
    have hL : D F < 279 := by
      have := hD.2.2.2 F hFm
      omega
    have c7 := c7_wayY (A := A) (B := B) 0 hN1 hN hc.2.1 hc.2.2 hF hG hA.2.2.2.2.2 (atD_ok hN) (n := 281) (by decide) e7 hL f7 (s := s) (by rw [s0]; exact hkf.1) (by rw [s0]; exact hkf.2.1) (isWay_c (fun c j h1 h2 => (t7 _ (atD_mem _ j h2) c h1).symm) hs)
    refine ⟨6, _, by decide, c7, fun r1 h1 q1 => ?_⟩
    obtain ⟨⟨A1, rfl, j1, fc1, l1, st1⟩, rfl⟩ := q1
    obtain ⟨W, w1, w2⟩ := wl_ok hE 281 0 (W0p kg (rowD N).length (A1 47)) rfl (by decide) (LV_0 hE _)
    have c8 := c8_wayY (A := A1) (B := B) 0 hN1 hN hc.2.1 hc.2.2 hF hG hkf hkg (n := 281) (L := D F) (by decide) w1 (by omega) s0 (by rw [w2 kf hkf.1]; exact congrArg nI eL) (isWay_c (fun c j h1 h2 => by
      rw [w2 j h2]
      have h3 : D (atD (rowD N) j) < 279 := hE.2.2.2 j h2
      exact (nI_eq (a := D (atD (rowD N) j)) (b := c) (by omega) (by omega)).symm) hs)
    refine ⟨A1, B, 3, _, by decide, rfl, c8, fun r2 h2 q2 => ?_⟩
    obtain ⟨⟨A2, rfl, j2, l2, st2⟩, rfl⟩ := q2
    exact ⟨A2, B, rfl, Rel_way j1 fc1 l1 hL j2 l2 (fun i hi => (st2 i hi).trans (st1 i hi).symm) hA, rfl, _, rfl⟩
  · have c7 := c7_wayN (A := A) (B := B) 0 f g n hc
    refine ⟨6, _, by decide, c7, fun r1 h1 q1 => ?_⟩
    obtain ⟨rfl, rfl⟩ := q1
    have c8 := c8_wayN (A := rfA A 7) (B := B) 0 f g n hc
    refine ⟨_, B, 3, _, by decide, rfl, c8, fun r2 h2 q2 => ?_⟩
    obtain ⟨rfl, rfl⟩ := q2
    exact ⟨_, B, rfl, Rel_rf 7 hA, rfl, _, rfl⟩
end GWAY
