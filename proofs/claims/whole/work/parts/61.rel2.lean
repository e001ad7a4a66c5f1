section REL2
variable {A A' : Nat → Nat → Int32} {B : Nat → Nat → Int64}
theorem kzA {m k i : Nat} (h : RelK A m) (hk : k < 6) (hi : i < 16) : kz (A 38) k i = A (8 + 2 * k) i := h.2.2.2.1 k hk i hi
theorem g_part : Good mX7_part mX8_part [] false := by
  refine Good_i 1 1 (by decide) (by decide) (fun A hA => ?_)
  obtain ⟨m, hK⟩ := hA.2.1
  obtain ⟨h0, h1, h2, h3, h4⟩ := hK
  have e : (s8_part (s7_part A m).2 m).1 = (s7_part A m).1 ∧ Rel (s8_part (s7_part A m).2 m).2 ∧ (s7_part A m).2 33 6 = nI m := by
    unfold s8_part s7_part
    by_cases c1 : m = 0
    · simp only [if_pos c1]
      exact ⟨(by first | trivial | rfl), Rel_rf 2 hA, h2⟩
    · simp only [if_neg c1]
      refine ⟨(by first | trivial | rfl), ?_, h2⟩
      have ne : ∀ q k, ¬ (q = 0 ∧ k = 9) → ¬ (q = 33 ∧ k = 6) → va_up (va_up A 0 (upd (A 0) 9 (nI (m - 1)))) 33 (upd (va_up A 0 (upd (A 0) 9 (nI (m - 1))) 33) 6 (nI (m - 1))) q k = A q k := by
        intro q k s1 s2
        by_cases g : q = 33
        · subst g
          show upd (A 33) 6 _ k = _
          exact pk_un (by omega)
        · rw [va_sel g]
          by_cases g0 : q = 0
          · subst g0
            show upd (A 0) 9 _ k = _
            exact pk_un (by omega)
          · exact va_sel g0
      obtain ⟨⟨n, hR⟩, -, hM, hW⟩ := hA
      refine ⟨⟨n, RelR_c (fun q k s => ne q k (by unfold selR at s; omega) (by unfold selR at s; omega)) hR⟩, ⟨m - 1, by omega, rfl, rfl, fun k hk i hi => ?_, fun k hk => ?_⟩, RelM_c (fun q k s => ne q k (by unfold selM at s; omega) (by unfold selM at s; omega)) hM, RelW_c (fun q k s => ne q k (by unfold selW at s; omega) (by unfold selW at s; omega)) hW⟩
      · rw [ne _ _ (by omega) (by omega), ne _ _ (by omega) (by omega)]
        exact h3 k hk i hi
      · have := h4 k (by omega)
        have eq : va_up (va_up A 0 (upd (A 0) 9 (nI (m - 1)))) 33 (upd (va_up A 0 (upd (A 0) 9 (nI (m - 1))) 33) 6 (nI (m - 1))) (8 + 2 * k) = A (8 + 2 * k) := funext (fun i => ne _ _ (by omega) (by omega))
        rw [eq]
        exact this
  refine ⟨_, _, _, fun B => c7_part 0 h1 h0, fun B => ?_, e.2.1⟩
  rw [← e.1]
  exact c8_part 0 e.2.2 h0
theorem g_of (r p w : Int32) : Good mX7_of mX8_of [.int r, .int p, .int w] false := by
  refine Good_i 2 2 (by decide) (by decide) (fun A hA => ?_)
  obtain ⟨m, hK⟩ := hA.2.1
  have hK0 := hK
  obtain ⟨h0, h1, h2, h3, h4⟩ := hK
  have e : (s8_of (s7_of A m r p w).2 m r p w).1 = (s7_of A m r p w).1 ∧ Rel (s8_of (s7_of A m r p w).2 m r p w).2 ∧ (s7_of A m r p w).2 33 6 = nI m := by
    unfold s8_of s7_of
    by_cases c1 : (0 ≤ r ∧ r < nI m) ∧ 0 ≤ p ∧ p < 4
    · by_cases c2 : 0 ≤ w ∧ w < 4
      · simp only [if_pos c1, if_pos c2]
        obtain ⟨i, hi, rfl⟩ := rng (by omega) c1.1
        obtain ⟨j, hj, rfl⟩ := rng (n := 4) (by omega) c1.2
        obtain ⟨l, hl, rfl⟩ := rng (n := 4) (by omega) c2
        rw [cl_nI (by omega), cl_nI (by omega), cl_nI (by omega), kzA hK0 (by omega) (by omega)]
        exact ⟨(by first | trivial | rfl), hA, h2⟩
      · simp only [if_pos c1, if_neg c2]
        exact ⟨(by first | trivial | rfl), Rel_rf 7 hA, h2⟩
    · simp only [if_neg c1]
      exact ⟨(by first | trivial | rfl), Rel_rf 3 hA, h2⟩
  refine ⟨_, _, _, fun B => c7_of 0 h1 h0 r p w, fun B => ?_, e.2.1⟩
  rw [← e.1]
  exact c8_of 0 e.2.2 h0 r p w
theorem bs_eq {f g : Nat → Int32} (h : ∀ i, i < 16 → f i = g i) : bs8 f = bsm g := by
  unfold bs8 bsm
  rw [h 0 (by omega), h 4 (by omega), h 8 (by omega), h 12 (by omega), Int64.zero_add]
theorem sw_eq {f g : Nat → Int32} (h : ∀ i, i < 16 → f i = g i) {p c : Nat} (hp4 : p < 4) (hc : c < 4) : sw8 f p c = swp g p c := by
  unfold sw8 swp
  rw [h (0 + c) (by omega), h (4 + c) (by omega), h (8 + c) (by omega), h (12 + c) (by omega), h (4 * p + c) (by omega), Nat.zero_add, Int64.zero_add]
  grind
theorem g_height (r : Int32) : Good mX7_height mX8_height [.int r] true := by
  refine Good_l 2 2 (by decide) (by decide) (fun A hA => ?_)
  obtain ⟨m, hK⟩ := hA.2.1
  have hK0 := hK
  obtain ⟨h0, h1, h2, h3, h4⟩ := hK
  have e : (s8_height (s7_height A m r).2 m r).1 = (s7_height A m r).1 ∧ Rel (s8_height (s7_height A m r).2 m r).2 ∧ (s7_height A m r).2 33 6 = nI m := by
    unfold s8_height s7_height
    by_cases c1 : 0 ≤ r ∧ r < nI m
    · simp only [if_pos c1]
      obtain ⟨i, hi, rfl⟩ := rng (by omega) c1
      rw [cl_nI (by omega), bs_eq (fun j hj => kzA hK0 (show i < 6 by omega) hj)]
      exact ⟨(by first | trivial | rfl), hA, h2⟩
    · simp only [if_neg c1]
      exact ⟨(by first | trivial | rfl), Rel_rf 3 hA, h2⟩
  refine ⟨_, _, _, fun B => c7_height 0 h1 h0 r, fun B => ?_, e.2.1⟩
  rw [← e.1]
  exact c8_height 0 e.2.2 h0 r
theorem g_fourth (r p : Int32) : Good mX7_fourth mX8_fourth [.int r, .int p] true := by
  refine Good_l 2 2 (by decide) (by decide) (fun A hA => ?_)
  obtain ⟨m, hK⟩ := hA.2.1
  have hK0 := hK
  obtain ⟨h0, h1, h2, h3, h4⟩ := hK
  have e : (s8_fourth (s7_fourth A m r p).2 m r p).1 = (s7_fourth A m r p).1 ∧ Rel (s8_fourth (s7_fourth A m r p).2 m r p).2 ∧ (s7_fourth A m r p).2 33 6 = nI m := by
    unfold s8_fourth s7_fourth
    by_cases c1 : (0 ≤ r ∧ r < nI m) ∧ 0 ≤ p ∧ p < 4
    · simp only [if_pos c1]
      obtain ⟨i, hi, rfl⟩ := rng (by omega) c1.1
      obtain ⟨j, hj, rfl⟩ := rng (n := 4) (by omega) c1.2
      rw [cl_nI (by omega), cl_nI (by omega), sw_eq (fun j hj => kzA hK0 (show i < 6 by omega) hj) hj (by decide)]
      exact ⟨(by first | trivial | rfl), hA, h2⟩
    · simp only [if_neg c1]
      exact ⟨(by first | trivial | rfl), Rel_rf 3 hA, h2⟩
  refine ⟨_, _, _, fun B => c7_fourth 0 h1 h0 r p, fun B => ?_, e.2.1⟩
  rw [← e.1]
  exact c8_fourth 0 e.2.2 h0 r p
theorem g_led : Good mX7_led mX8_led [] false := by
  refine Good_i 0 0 (by decide) (by decide) (fun A hA => ?_)
  obtain ⟨h1, h2, h3, h4, h5⟩ := hA.2.2.1
  refine ⟨A 0 10, A, A, fun B => c7_led 0, fun B => ?_, hA⟩
  rw [← h2]
  exact c8_led 0
theorem g_tear : Good mX7_tear mX8_tear [] false := by
  refine Good_i 0 0 (by decide) (by decide) (fun A hA => ?_)
  obtain ⟨⟨n, hR⟩, ⟨m, hK⟩, ⟨h1, h2, h3, h4, h5⟩, hW⟩ := hA
  have ne : ∀ q k, ¬ (q = 0 ∧ k = 11) → ¬ (q = 33 ∧ k = 28) → (s8_tear (s7_tear A).2).2 q k = A q k := by
    intro q k s1 s2
    unfold s8_tear s7_tear
    by_cases g : q = 33
    · subst g
      show upd (A 33) 28 _ k = _
      exact pk_un (by omega)
    · show va_up (va_up A 0 _) 33 _ q k = _
      rw [va_sel g]
      by_cases g0 : q = 0
      · subst g0
        show upd (A 0) 11 _ k = _
        exact pk_un (by omega)
      · exact va_sel g0
  refine ⟨_, _, (s8_tear (s7_tear A).2).2, fun B => c7_tear 0 h4, fun B => ?_, ⟨n, RelR_c (fun q k s => ne q k (by unfold selR at s; omega) (by unfold selR at s; omega)) hR⟩, ⟨m, RelK_c (fun q k s => ne q k (by unfold selK at s; omega) (by unfold selK at s; omega)) hK⟩, ⟨h1, h2, rfl, Or.inl rfl, h5⟩, RelW_c (fun q k s => ne q k (by unfold selW at s; omega) (by unfold selW at s; omega)) hW⟩
  have e : (s7_tear A).1 = (s8_tear (s7_tear A).2).1 := h3.symm
  rw [e]
  exact c8_tear 0 (show A 33 28 = 0 ∨ A 33 28 = 1 by rw [h3]; exact h4)
theorem g_row (r : Int32) : Good mX7_row mX8_row [.int r] false := by
  refine Good_i 1 2 (by decide) (by decide) (fun A hA => ?_)
  obtain ⟨h1, h2, h3, h4, h5⟩ := hA.2.2.1
  have e : (s8_row (s7_row A r).2 r).1 = (s7_row A r).1 ∧ Rel (s8_row (s7_row A r).2 r).2 := by
    unfold s8_row s7_row
    by_cases c1 : A 0 11 = 0
    · simp only [if_pos c1]
      have c1' : rfA A 2 33 28 = 0 := h3.trans c1
      simp only [if_pos c1']
      exact ⟨(by first | trivial | rfl), Rel_rf 2 hA⟩
    · have c1' : ¬ A 33 28 = 0 := by rw [h3]; exact c1
      by_cases c2 : 0 ≤ r ∧ r < 16
      · simp only [if_neg c1, if_pos c2, if_neg c1']
        obtain ⟨i, hi, rfl⟩ := rng (n := 16) (by omega) c2
        rw [cl_nI (by omega)]
        exact ⟨h5 i hi, hA⟩
      · have c1'' : ¬ rfA A 3 33 28 = 0 := c1'
        simp only [if_neg c1, if_neg c2, if_neg c1'']
        exact ⟨(by first | trivial | rfl), Rel_rf 3 hA⟩
  refine ⟨_, _, _, fun B => c7_row 0 r, fun B => ?_, e.2⟩
  rw [← e.1]
  exact c8_row 0 r
theorem g_status (r : Int32) : Good mX7_status mX8_status [.int r] false := by
  refine Good_i 1 1 (by decide) (by decide) (fun A hA => ?_)
  obtain ⟨h1, h2, h3, h4, h5⟩ := hA.2.2.1
  have e : (s8_status (s7_status A r).2 r).1 = (s7_status A r).1 ∧ Rel (s8_status (s7_status A r).2 r).2 := by
    unfold s8_status s7_status
    by_cases c1 : r ≤ -2 ∧ -8 ≤ r
    · simp only [if_pos c1, h1]
      exact ⟨(by first | trivial | rfl), hA⟩
    · simp only [if_neg c1]
      exact ⟨(by first | trivial | rfl), Rel_rf 7 hA⟩
  refine ⟨_, _, _, fun B => c7_status 0 r, fun B => ?_, e.2⟩
  rw [← e.1]
  exact c8_status 0 r
theorem g_near (f g : Int32) : Good mX7_near mX8_near [.int f, .int g] false := by
  refine Good_i 2 2 (by decide) (by decide) (fun A hA => ?_)
  have e : (s8_near (s7_near A f g).2 f g).1 = (s7_near A f g).1 ∧ Rel (s8_near (s7_near A f g).2 f g).2 := by
    unfold s8_near s7_near
    by_cases c1 : frF f = 1 ∧ frF g = 1
    · simp only [if_pos c1]
      exact ⟨(by first | trivial | rfl), hA⟩
    · simp only [if_neg c1]
      exact ⟨(by first | trivial | rfl), Rel_rf 7 hA⟩
  refine ⟨_, _, _, fun B => c7_near 0 f g, fun B => ?_, e.2⟩
  rw [← e.1]
  exact c8_near 0 f g
theorem g_between (f g : Int32) : Good mX7_between mX8_between [.int f, .int g] false := by
  refine Good_i 2 2 (by decide) (by decide) (fun A hA => ?_)
  have e : (s8_between (s7_between A f g).2 f g).1 = (s7_between A f g).1 ∧ Rel (s8_between (s7_between A f g).2 f g).2 := by
    unfold s8_between s7_between
    by_cases c1 : frF f = 1 ∧ frF g = 1 ∧ nrP f.toNatClampNeg g.toNatClampNeg
    · by_cases c2 : f.toNatClampNeg % 100 + g.toNatClampNeg % 100 ≤ 99
      · simp only [if_pos c1, if_pos c2]
        exact ⟨(by first | trivial | rfl), hA⟩
      · simp only [if_pos c1, if_neg c2]
        exact ⟨(by first | trivial | rfl), Rel_rf 8 hA⟩
    · simp only [if_neg c1]
      exact ⟨(by first | trivial | rfl), Rel_rf 7 hA⟩
  refine ⟨_, _, _, fun B => c7_between 0 f g, fun B => ?_, e.2⟩
  rw [← e.1]
  exact c8_between 0 f g
theorem g_step (i : Int32) : Good mX7_step mX8_step [.int i] false := by
  refine Good_i 1 1 (by decide) (by decide) (fun A hA => ?_)
  obtain ⟨h1, h2, h3⟩ := hA.2.2.2
  have hb8 : ∀ X : Nat → Nat → Int32, X 33 25 = A 33 25 → (X 33 25 < 0 ∨ ∃ L, L < 300 ∧ X 33 25 = nI L) := by
    intro X hX
    rw [hX, h1]
    rcases h2 with g | ⟨L, g1, g2, -⟩
    · exact Or.inl g
    · exact Or.inr ⟨L, by omega, g2⟩
  have hb7 : A 27 4 < 0 ∨ ∃ L, L < 279 ∧ A 27 4 = nI L := by
    rcases h2 with g | ⟨L, g1, g2, -⟩
    · exact Or.inl g
    · exact Or.inr ⟨L, g1, g2⟩
  have e : (s8_step (s7_step A i).2 i).1 = (s7_step A i).1 ∧ Rel (s8_step (s7_step A i).2 i).2 ∧ (s7_step A i).2 33 25 = A 33 25 := by
    unfold s8_step s7_step
    by_cases c1 : A 27 4 < 0
    · have c1' : rfA A 2 33 25 < 0 := by show A 33 25 < 0; rw [h1]; exact c1
      simp only [if_pos c1, if_pos c1']
      exact ⟨(by first | trivial | rfl), Rel_rf 2 hA, rfl⟩
    · have c1' : ¬ A 33 25 < 0 := by rw [h1]; exact c1
      by_cases c2 : 0 ≤ i ∧ i ≤ A 27 4
      · have c2' : 0 ≤ i ∧ i ≤ A 33 25 := by rw [h1]; exact c2
        simp only [if_neg c1, if_pos c2, if_neg c1', if_pos c2']
        obtain ⟨L, g1, g2, g3⟩ := h2.resolve_left c1
        rw [g2] at c2
        obtain ⟨k, hk, rfl⟩ := inle (show L < 2 ^ 31 by omega) c2
        rw [nI_clamp (by omega)]
        exact ⟨g3 k hk, hA, trivial⟩
      · have c2' : ¬ (0 ≤ i ∧ i ≤ rfA A 3 33 25) := by show ¬ (0 ≤ i ∧ i ≤ A 33 25); rw [h1]; exact c2
        have c1'' : ¬ rfA A 3 33 25 < 0 := c1'
        simp only [if_neg c1, if_neg c2, if_neg c1'', if_neg c2']
        exact ⟨(by first | trivial | rfl), Rel_rf 3 hA, rfl⟩
  refine ⟨_, _, _, fun B => c7_step 0 i hb7, fun B => ?_, e.2.1⟩
  rw [← e.1]
  exact c8_step 0 i (hb8 _ e.2.2)
theorem g_lay (r : Int32) : Good mX7_lay mX8_lay [.int r] false := by
  refine Good_i 1 1 (by decide) (by decide) (fun A hA => ?_)
  obtain ⟨m, hK⟩ := hA.2.1
  have hK0 := hK
  obtain ⟨h0, h1, h2, h3, h4⟩ := hK
  obtain ⟨g1, g2, g3, g4, g5⟩ := hA.2.2.1
  have e : (s8_lay (s7_lay A m r).2 m r).1 = (s7_lay A m r).1 ∧ Rel (s8_lay (s7_lay A m r).2 m r).2 ∧ (s7_lay A m r).2 33 6 = nI m := by
    unfold s8_lay s7_lay
    by_cases c1 : 0 ≤ r ∧ r < nI m
    · simp only [if_pos c1]
      obtain ⟨i, hi, rfl⟩ := rng (by omega) c1
      rw [cl_nI (by omega)]
      refine ⟨(by first | trivial | rfl), ?_, h2⟩
      have ne : ∀ q k, ¬ (q = 31 ∨ q = 49) → ¬ (q = 0 ∧ k = 11) → ¬ (q = 33 ∧ k = 28) → l8A (va_up (va_up A 31 (va_cpy (A (8 + 2 * i)) (A 31) 0 0 16)) 0 (upd (A 0) 11 1)) i q k = A q k := by
        intro q k s0 s1 s2
        unfold l8A
        rw [va_sel (by omega)]
        by_cases g : q = 33
        · subst g
          show upd (A 33) 28 _ k = _
          exact pk_un (by omega)
        · rw [va_sel g]
          by_cases g0 : q = 0
          · subst g0
            show upd (A 0) 11 _ k = _
            exact pk_un (by omega)
          · rw [va_sel g0, va_sel (by omega)]
      obtain ⟨⟨n, hR⟩, -, hM, hW⟩ := hA
      refine ⟨⟨n, RelR_c (fun q k s => ne q k (by unfold selR at s; omega) (by unfold selR at s; omega) (by unfold selR at s; omega)) hR⟩, ⟨m, RelK_c (fun q k s => ne q k (by unfold selK at s; omega) (by unfold selK at s; omega) (by unfold selK at s; omega)) hK0⟩, ⟨g1, g2, rfl, Or.inr rfl, fun j hj => ?_⟩, RelW_c (fun q k s => ne q k (by unfold selW at s; omega) (by unfold selW at s; omega) (by unfold selW at s; omega)) hW⟩
      show va_cpy (A 38) (A 49) (16 * i) 0 16 j = va_cpy (A (8 + 2 * i)) (A 31) 0 0 16 j
      rw [pk_cpy_in (by omega) (by omega), pk_cpy_in (by omega) (by omega), Nat.sub_zero, Nat.zero_add]
      exact h3 i (by omega) j hj
    · simp only [if_neg c1]
      exact ⟨(by first | trivial | rfl), Rel_rf 3 hA, h2⟩
  refine ⟨_, _, _, fun B => c7_lay 0 h1 h0 r, fun B => ?_, e.2.1⟩
  rw [← e.1]
  exact c8_lay 0 e.2.2 h0 r
end REL2
