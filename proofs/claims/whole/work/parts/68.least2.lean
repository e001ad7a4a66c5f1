section LEASTD
variable {A : Nat → Nat → Int32} {B : Nat → Nat → Int64}
theorem kp8_38 (A : Nat → Nat → Int32) (i : Nat) : kp8 A i 38 = A 38 := rfl
theorem LhJ {f : Nat → Int32} {v : Int32} {z k : Nat} (h1 : z ≠ 19) (h2 : z ≠ 20) : Lh A 6 f v z k = A z k := by
  unfold Lh
  rw [va_sel (show z ≠ 7 + 2 * 6 from h1), va_sel (show z ≠ 8 + 2 * 6 from h2)]
theorem g_least (r : Int32) : Good mX7_least mX8_least [.int r] false := by
  intro A B hA
  obtain ⟨m, hK⟩ := hA.2.1
  have h6 := hK.1
  have c7 := c7_least (A := A) (B := B) 0 hK.2.1 hK.1 r
  refine ⟨3, _, by decide, c7, fun r1 h1 q1 => ?_⟩
  obtain ⟨rfl, rfl⟩ := q1
  have e8 := wn_eq hK r
  by_cases hw : wn A m r = 0
  · obtain ⟨w1, w2⟩ := wn_0 hw
    obtain ⟨i, hi, rfl⟩ := rng (by omega) w1
    rw [cl_nI (by omega)] at w2
    have hk := hK.2.2.2.2 i hi
    have ag : ∀ j, j < 16 → va_cpy (A (8 + 2 * i)) (A 20) 0 0 16 j = A (8 + 2 * i) j := fun j hj => by rw [pk_cpy_in (by omega) (by omega), show 0 + (j - 0) = j by omega]
    have hk' : KS (va_cpy (A (8 + 2 * i)) (A 20) 0 0 16) := KS_ext ag hk
    have hB := KS_BK hk w2
    have hbd : ∀ j, j < 4 → bd (va_cpy (A (8 + 2 * i)) (A 20) 0 0 16) j = bd (A (8 + 2 * i)) j := fun j hj => by
      show (va_cpy (A (8 + 2 * i)) (A 20) 0 0 16 (4 * j)).toInt = (A (8 + 2 * i) (4 * j)).toInt
      rw [ag (4 * j) (by omega)]
    obtain ⟨d', e⟩ := lz_ends hB (KS_bz hk)
    have hz : ∀ j, j < 16 → kz (A 38) i j = A (8 + 2 * i) j := fun j hj => kzA hK (by omega) hj
    obtain ⟨R, p1, p2, p3, p4, p5⟩ := least_pair i 50000 1000000 0 (va_cpy (A (8 + 2 * i)) (A 20) 0 0 16) (A 38) 0 hk' (BK_ext hB hbd) (fun j hj => by rw [ag j hj]; exact hz j hj) (lz_ext 50000 _ _ hbd (by rw [e]; exact fun q => by cases q)) (by omega) (by omega)
    have els : lb true 1000000 0 (va_cpy (A (8 + 2 * i)) (A 20) 0 0 16) 0 = ls1 A i := rfl
    rw [els] at p4 p5
    by_cases hR : R.1 = true
    · obtain ⟨f1, f2, f3, f4⟩ := p4 hR
      have hn : ¬ (ls1 A i).1 < 0 := by rw [f1]; exact nI_pos p3
      have e7 : s7_least A m (nI i) = ((ls1 A i).1, va_up (va_up (lsA A i) (8 + 2 * i) (va_cpy (ls1 A i).2.1 (A (8 + 2 * i)) 0 0 16)) 0 (upd (A 0) 10 (ls1 A i).2.2)) := by
        unfold s7_least
        rw [if_pos hw, cl_nI (by omega), if_neg hn]
      rw [e7]
      generalize hL : ls1 A i = L at *
      have hlsA : lsA A i = Lh A 6 L.2.1 L.2.2 := by unfold lsA; rw [hL]
      rw [hlsA]
      have hi38 : ∀ z k, 33 ≤ z → va_up (va_up (Lh A 6 L.2.1 L.2.2) (8 + 2 * i) (va_cpy L.2.1 (A (8 + 2 * i)) 0 0 16)) 0 (upd (A 0) 10 L.2.2) z k = A z k := by
        intro z k hz
        rw [va_sel (by omega), va_sel (by omega)]
        exact LhJ (by omega) (by omega)
      have x38 : va_up (va_up (Lh A 6 L.2.1 L.2.2) (8 + 2 * i) (va_cpy L.2.1 (A (8 + 2 * i)) 0 0 16)) 0 (upd (A 0) 10 L.2.2) 38 = A 38 := funext (fun k => hi38 38 k (by decide))
      have ew : wn8 (va_up (va_up (Lh A 6 L.2.1 L.2.2) (8 + 2 * i) (va_cpy L.2.1 (A (8 + 2 * i)) 0 0 16)) 0 (upd (A 0) 10 L.2.2)) m (nI i) = 0 := by
        have : wn8 A m (nI i) = 0 := e8.trans hw
        unfold wn8 at this ⊢
        rw [x38]
        exact this
      have c8 := c8_least (A := va_up (va_up (Lh A 6 L.2.1 L.2.2) (8 + 2 * i) (va_cpy L.2.1 (A (8 + 2 * i)) 0 0 16)) 0 (upd (A 0) 10 L.2.2)) (B := B) (m := m) (n := 50000) 0 ((hi38 33 6 (by decide)).trans hK.2.2.1) hK.1 (nI i) R (by omega) (fun _ => by rw [cl_nI (by omega), x38]; exact p1)
      refine ⟨_, B, 2, _, by decide, rfl, c8, fun r2 h2 q2 => ?_⟩
      obtain ⟨⟨B', rfl⟩, rfl⟩ := q2
      have es : ∀ X : Nat → Nat → Int32, wn8 X m (nI i) = 0 → s8_least X m (nI i) R = (nI R.2.1, va_up (va_up (kp8 X i) 38 R.2.2.1) 33 (upd (X 33) 7 R.2.2.2)) := by
        intro X hX
        unfold s8_least
        rw [if_pos hX, cl_nI (by omega)]
        unfold l8X
        rw [if_pos hR]
        rfl
      rw [es _ ew]
      refine ⟨_, _, rfl, (show Rel (va_up (va_up (kp8 (va_up (va_up (Lh A 6 L.2.1 L.2.2) (8 + 2 * i) (va_cpy L.2.1 (A (8 + 2 * i)) 0 0 16)) 0 (upd (A 0) 10 L.2.2)) i) 38 R.2.2.1) 33 (upd ((va_up (va_up (Lh A 6 L.2.1 L.2.2) (8 + 2 * i) (va_cpy L.2.1 (A (8 + 2 * i)) 0 0 16)) 0 (upd (A 0) 10 L.2.2)) 33) 7 R.2.2.2)) from ?_), by rw [f1], _, rfl⟩
      have ne : ∀ z k, ¬ (z = 19 ∨ z = 20 ∨ z = 38 ∨ z = 42 ∨ z = 8 + 2 * i) → ¬ (z = 0 ∧ k = 10) → ¬ (z = 33 ∧ k = 7) → va_up (va_up (kp8 (va_up (va_up (Lh A 6 L.2.1 L.2.2) (8 + 2 * i) (va_cpy L.2.1 (A (8 + 2 * i)) 0 0 16)) 0 (upd (A 0) 10 L.2.2)) i) 38 R.2.2.1) 33 (upd (va_up (va_up (Lh A 6 L.2.1 L.2.2) (8 + 2 * i) (va_cpy L.2.1 (A (8 + 2 * i)) 0 0 16)) 0 (upd (A 0) 10 L.2.2) 33) 7 R.2.2.2) z k = A z k := by
        intro z k s0 s1 s2
        by_cases e : z = 33
        · subst e
          rw [va_up_self, pk_un (by omega)]
          exact hi38 33 k (by decide)
        · rw [va_sel e, va_sel (by omega)]
          unfold kp8
          rw [va_sel (by omega)]
          by_cases e0 : z = 0
          · subst e0
            rw [va_up_self, pk_un (by omega)]
          · rw [va_sel e0, va_sel (by omega)]
            exact LhJ (by omega) (by omega)
      obtain ⟨⟨n, hRr⟩, -, hM, hW⟩ := hA
      obtain ⟨m1, m2, m3, m4, m5⟩ := hM
      refine ⟨⟨n, RelR_c (fun z k s => ne z k (by unfold selR at s; omega) (by unfold selR at s; omega) (by unfold selR at s; omega)) hRr⟩, ⟨m, hK.1, ?_, ?_, fun k hk2 j hj => ?_, fun k hk2 => ?_⟩, ⟨?_, ?_, ?_, ?_, ?_⟩, RelW_c (fun z k s => ne z k (by unfold selW at s; omega) (by unfold selW at s; omega) (by unfold selW at s; omega)) hW⟩
      · rw [ne 0 9 (by omega) (by omega) (by omega)]; exact hK.2.1
      · rw [ne 33 6 (by omega) (by omega) (by omega)]; exact hK.2.2.1
      · rw [va_up_ne _ _ (show (38 : Nat) ≠ 33 by decide), va_up_self]
        by_cases ek : k = i
        · subst ek
          rw [va_sel (by omega), va_sel (by omega)]
          unfold kp8
          rw [va_sel (by omega), va_sel (by omega), va_up_self, pk_cpy_in (by omega) (by omega), show 0 + (j - 0) = j by omega]
          exact f4 j hj
        · rw [p2 k ek j hj, ne (8 + 2 * k) j (by omega) (by omega) (by omega)]
          exact hK.2.2.2.1 k hk2 j hj
      · by_cases ek : k = i
        · subst ek
          refine KS_ext (fun j hj => ?_) f3
          rw [va_sel (by omega), va_sel (by omega)]
          unfold kp8
          rw [va_sel (by omega), va_sel (by omega), va_up_self, pk_cpy_in (by omega) (by omega), show 0 + (j - 0) = j by omega]
        · have := hK.2.2.2.2 k hk2
          exact KS_ext (fun j hj => ne (8 + 2 * k) j (by omega) (by omega) (by omega)) this
      · funext k
        rw [ne 39 k (by omega) (by omega) (by omega), ne 32 k (by omega) (by omega) (by omega), m1]
      · show R.2.2.2 = L.2.2
        exact f2.symm
      · rw [ne 33 28 (by omega) (by omega) (by omega), ne 0 11 (by omega) (by omega) (by omega)]; exact m3
      · rw [ne 0 11 (by omega) (by omega) (by omega)]; exact m4
      · intro j hj
        rw [ne 49 j (by omega) (by omega) (by omega), ne 31 j (by omega) (by omega) (by omega)]
        exact m5 j hj
    · have f1 := p5 hR
      have hn : (ls1 A i).1 < 0 := by rw [f1]; decide
      have e7 : s7_least A m (nI i) = (-8, rfA (lsA A i) 8) := by
        unfold s7_least
        rw [if_pos hw, cl_nI (by omega), if_pos hn]
      rw [e7]
      unfold lsA
      generalize hL : ls1 A i = L at *
      have hi38 : ∀ z k, 33 ≤ z → rfA (Lh A 6 L.2.1 L.2.2) 8 z k = A z k := by
        intro z k hz
        rw [rf_ne (by omega)]
        exact LhJ (by omega) (by omega)
      have x38 : rfA (Lh A 6 L.2.1 L.2.2) 8 38 = A 38 := funext (fun k => hi38 38 k (by decide))
      have ew : wn8 (rfA (Lh A 6 L.2.1 L.2.2) 8) m (nI i) = 0 := by
        have : wn8 A m (nI i) = 0 := e8.trans hw
        unfold wn8 at this ⊢
        rw [x38]
        exact this
      have c8 := c8_least (A := rfA (Lh A 6 L.2.1 L.2.2) 8) (B := B) (m := m) (n := 50000) 0 ((hi38 33 6 (by decide)).trans hK.2.2.1) hK.1 (nI i) R (by omega) (fun _ => by rw [cl_nI (by omega), x38]; exact p1)
      refine ⟨_, B, 2, _, by decide, rfl, c8, fun r2 h2 q2 => ?_⟩
      obtain ⟨⟨B', rfl⟩, rfl⟩ := q2
      have es : s8_least (rfA (Lh A 6 L.2.1 L.2.2) 8) m (nI i) R = (-8, rmA (va_up (kp8 (rfA (Lh A 6 L.2.1 L.2.2) 8) i) 38 (va_cpy (kp8 (rfA (Lh A 6 L.2.1 L.2.2) 8) i 42) R.2.2.1 0 (16 * i) 16)) 8) := by
        unfold s8_least
        rw [if_pos ew, cl_nI (by omega)]
        unfold l8X
        rw [if_neg hR]
      rw [es]
      refine ⟨_, _, rfl, (show Rel (rmA (va_up (kp8 (rfA (Lh A 6 L.2.1 L.2.2) 8) i) 38 (va_cpy (kp8 (rfA (Lh A 6 L.2.1 L.2.2) 8) i 42) R.2.2.1 0 (16 * i) 16)) 8) from ?_), rfl, _, rfl⟩
      have ne : ∀ z k, ¬ (z = 19 ∨ z = 20 ∨ z = 38 ∨ z = 42) → rmA (va_up (kp8 (rfA (Lh A 6 L.2.1 L.2.2) 8) i) 38 (va_cpy (kp8 (rfA (Lh A 6 L.2.1 L.2.2) 8) i 42) R.2.2.1 0 (16 * i) 16)) 8 z k = rmA (rfA A 8) 8 z k := by
        intro z k s0
        by_cases e : z = 39
        · subst e
          rfl
        · rw [rm_ne e, rm_ne e, va_sel (by omega)]
          unfold kp8
          rw [va_sel (by omega)]
          by_cases e2 : z = 32
          · subst e2
            rfl
          · rw [rf_ne e2, rf_ne e2]
            exact LhJ (by omega) (by omega)
      obtain ⟨⟨n, hRr⟩, -, hM, hW⟩ := Rel_rf 8 hA
      refine ⟨⟨n, RelR_c (fun z k s => ne z k (by unfold selR at s; omega)) hRr⟩, ⟨m, hK.1, ?_, ?_, fun k hk2 j hj => ?_, fun k hk2 => ?_⟩, RelM_c (fun z k s => ne z k (by unfold selM at s; omega)) hM, RelW_c (fun z k s => ne z k (by unfold selW at s; omega)) hW⟩
      · rw [ne 0 9 (by omega)]; exact hK.2.1
      · rw [ne 33 6 (by omega)]; exact hK.2.2.1
      · rw [rm_ne (by omega), va_up_self, ne (8 + 2 * k) j (by omega), rfm_ne (by omega) (by omega)]
        by_cases ek : k = i
        · subst ek
          rw [pk_cpy_in (by omega) (by omega), show 0 + (16 * k + j - 16 * k) = j by omega]
          unfold kp8
          rw [va_up_self, pk_cpy_in (by omega) (by omega), show 16 * k + (j - 0) = 16 * k + j by omega, x38]
          exact hK.2.2.2.1 k hk2 j hj
        · rw [pk_cpy_out (by omega), p2 k ek j hj]
          exact hK.2.2.2.1 k hk2 j hj
      · have := hK.2.2.2.2 k hk2
        exact KS_ext (fun j hj => by rw [ne (8 + 2 * k) j (by omega), rfm_ne (by omega) (by omega)]) this
  · have e7 : s7_least A m r = (wn A m r, rfA A (rfI (wn A m r))) := by unfold s7_least; rw [if_neg hw]
    rw [e7]
    have ew : wn8 (rfA A (rfI (wn A m r))) m r = wn A m r := e8
    have c8 := c8_least (A := rfA A (rfI (wn A m r))) (B := B) (m := m) (n := 0) 0 hK.2.2.1 hK.1 r (true, 0, A 38, 0) (by decide) (fun g => absurd (ew.symm.trans g) hw)
    refine ⟨_, B, 2, _, by decide, rfl, c8, fun r2 h2 q2 => ?_⟩
    obtain ⟨⟨B', rfl⟩, rfl⟩ := q2
    have es : s8_least (rfA A (rfI (wn A m r))) m r (true, 0, A 38, 0) = (wn A m r, rmA (rfA A (rfI (wn A m r))) (rfI (wn A m r))) := by unfold s8_least; rw [ew, if_neg hw]
    rw [es]
    exact ⟨_, _, rfl, Rel_rf _ hA, rfl, _, rfl⟩
end LEASTD
