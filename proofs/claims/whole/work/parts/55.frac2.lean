section FRD
variable {A : Nat → Nat → Int32} {B : Nat → Nat → Int64}
theorem FC_of {n : Nat} (h1 : 1 ≤ n) (hn : n ≤ 30) (h : FO A n) : FC A := Or.inr ⟨n, h1, hn, h.1, h.2.1, h.2.2⟩
set_option maxHeartbeats 4000000 in
set_option maxRecDepth 100000 in
theorem c_placeOf (d : Nat) {n F k : Nat} (hn : n ≤ 30) (hF : F < 10000) (h : FO A n) (hk : plc (rowD n) F k) : C mX0_placeOf d 0 0 [.ref 25, .int (nI F)] (hp A B) (fun r h' => h' = hp A B ∧ r = some (.int (nI k))) := by
  obtain ⟨hk, hk1, hk2⟩ := hk
  obtain ⟨f1, f2, f3⟩ := h
  have hl := rowD_len hn
  refine C.of [some (.ref 25), some (.int (nI F)), none] omX0_placeOf rfl rfl rfl ?_
  iterate 2 (refine V.s omX0_placeOf rfl rfl ?_)
  have key : ∀ (t i : Nat), i + t = k → V mX0_placeOf d 0 0 (fun r h' => h' = hp A B ∧ r = some (.int (nI k))) 0 0 2 [some (.ref 25), some (.int (nI F)), some (.int (nI i))] [] (hp A B) := by
    intro t
    induction t with
    | zero =>
      intro i hi
      have : i = k := by omega
      subst this
      iterate 2 (refine V.s omX0_placeOf rfl rfl ?_)
      refine V.gf omX0_placeOf rfl rfl rfl rfl ?_
      rw [f3]
      refine V.brF omX0_placeOf rfl rfl (nI_ge hk (by omega)) ?_
      refine V.s omX0_placeOf rfl rfl ?_
      refine V.gf omX0_placeOf rfl rfl rfl rfl ?_
      refine V.s omX0_placeOf rfl rfl ?_
      refine V.ial omX0_placeOf rfl rfl (ixN nv_nI (show i < 279 by omega) (by decide)) ?_
      rw [AD_at f2 i hk, hk1]
      refine V.s omX0_placeOf rfl rfl ?_
      refine V.brF omX0_placeOf rfl rfl (fun g => g rfl) ?_
      refine V.s omX0_placeOf rfl rfl ?_
      exact V.iret omX0_placeOf rfl rfl ⟨rfl, rfl⟩
    | succ t ih =>
      intro i hi
      iterate 2 (refine V.s omX0_placeOf rfl rfl ?_)
      refine V.gf omX0_placeOf rfl rfl rfl rfl ?_
      rw [f3]
      refine V.brF omX0_placeOf rfl rfl (nI_ge (show i < (rowD n).length by omega) (by omega)) ?_
      refine V.s omX0_placeOf rfl rfl ?_
      refine V.gf omX0_placeOf rfl rfl rfl rfl ?_
      refine V.s omX0_placeOf rfl rfl ?_
      refine V.ial omX0_placeOf rfl rfl (ixN nv_nI (show i < 279 by omega) (by decide)) ?_
      rw [AD_at f2 i (by omega)]
      refine V.s omX0_placeOf rfl rfl ?_
      have := AD_lt f2 i (by omega)
      refine V.brT omX0_placeOf rfl rfl (fun g => hk2 i (by omega) ((nI_eq (by omega) (by omega)).mp g)) (fun g => g) ?_
      iterate 2 (refine V.s omX0_placeOf rfl rfl ?_)
      rw [nI_1]
      exact ih (i + 1) (by omega)
  exact key k 0 (by omega)
theorem FC_rf {c : Nat} (h : FC A) : FC (rfA A c) := h
set_option maxHeartbeats 4000000 in
set_option maxRecDepth 100000 in
theorem c7_fractions (d : Nat) (n : Int32) (hc : FC A) : C mX7_fractions (d + 2) 0 0 [.ref 0, .int n] (hp A B) (fun r' h' => (∃ A', h' = hp A' B ∧ JF (if orF n = 1 then A else rfA A 7) A' ∧ FC A') ∧ r' = some (.int (if orF n = 1 then nI (rowD n.toNatClampNeg).length else -7))) := by
  refine C.of [some (.ref 0), some (.int n)] omX7_fractions rfl rfl rfl ?_
  refine V.s omX7_fractions rfl rfl ?_
  refine V.cSf omX7_fractions omX7_isOrder rfl rfl (c7_isOrder _ _ _) rfl rfl rfl rfl ?_
  rcases orF_01 n with h | h
  · rw [h]
    refine V.brF omX7_fractions rfl rfl (by decide) ?_
    iterate 2 (refine V.s omX7_fractions rfl rfl ?_)
    refine V.cVf omX7_fractions omX7_refuse rfl rfl (c_refuse _ _ (by decide)) rfl rfl rfl rfl rfl rfl ?_
    exact V.iret omX7_fractions rfl rfl ⟨⟨rfA A 7, rfl, JF_r _, FC_rf hc⟩, rfl⟩
  · rw [h]
    obtain ⟨N, rfl, hN1, hN⟩ := orF_ex h
    refine V.brT omX7_fractions rfl rfl (by decide) (by decide) ?_
    refine V.s omX7_fractions rfl rfl ?_
    refine V.gf omX7_fractions rfl rfl rfl rfl ?_
    refine V.s omX7_fractions rfl rfl ?_
    refine V.cV omX7_fractions omX0_fill (c_fill d hN1 hN hc) rfl rfl rfl rfl rfl rfl rfl rfl (by omega) (by omega) (fun r' h' hQ => ?_)
    obtain ⟨⟨A', rfl, hJ, hO⟩, rfl⟩ := hQ
    show V mX7_fractions (d + 2) 0 0 _ 0 0 22 _ [] _
    refine V.s omX7_fractions rfl rfl ?_
    refine V.gf omX7_fractions rfl rfl rfl rfl ?_
    refine V.gf omX7_fractions rfl rfl rfl rfl ?_
    rw [hO.2.2, nI_clamp (show N < 2 ^ 31 by omega)]
    exact V.iret omX7_fractions rfl rfl ⟨⟨A', rfl, hJ, FC_of hN1 hN hO⟩, rfl⟩
theorem JF_rf {A A' : Nat → Nat → Int32} (h : JF A A') (c : Nat) : JF (rfA A c) (rfA A' c) := by
  intro z k hz
  have e : A' 32 = A 32 := funext (fun k => h 32 k (by decide))
  unfold rfA va_up
  split
  · rw [e]
  · exact h z k hz
set_option maxHeartbeats 4000000 in
set_option maxRecDepth 100000 in
theorem c7_fraction (d : Nat) (n i : Int32) (hc : FC A) : C mX7_fraction (d + 2) 0 0 [.ref 0, .int n, .int i] (hp A B) (fun r' h' => (∃ A', h' = hp A' B ∧ JF (if orF n = 1 then (if 0 ≤ i ∧ i < nI (rowD n.toNatClampNeg).length then A else rfA A 3) else rfA A 7) A' ∧ FC A') ∧ r' = some (.int (if orF n = 1 then (if 0 ≤ i ∧ i < nI (rowD n.toNatClampNeg).length then nI (atD (rowD n.toNatClampNeg) i.toNatClampNeg) else -3) else -7))) := by
  refine C.of [some (.ref 0), some (.int n), some (.int i)] omX7_fraction rfl rfl rfl ?_
  refine V.s omX7_fraction rfl rfl ?_
  refine V.cSf omX7_fraction omX7_isOrder rfl rfl (c7_isOrder _ _ _) rfl rfl rfl rfl ?_
  rcases orF_01 n with h | h
  · rw [h]
    refine V.brF omX7_fraction rfl rfl (by decide) ?_
    iterate 2 (refine V.s omX7_fraction rfl rfl ?_)
    refine V.cVf omX7_fraction omX7_refuse rfl rfl (c_refuse _ _ (by decide)) rfl rfl rfl rfl rfl rfl ?_
    exact V.iret omX7_fraction rfl rfl ⟨⟨rfA A 7, rfl, JF_r _, FC_rf hc⟩, rfl⟩
  · rw [h]
    obtain ⟨N, rfl, hN1, hN⟩ := orF_ex h
    refine V.brT omX7_fraction rfl rfl (by decide) (by decide) ?_
    refine V.s omX7_fraction rfl rfl ?_
    refine V.gf omX7_fraction rfl rfl rfl rfl ?_
    refine V.s omX7_fraction rfl rfl ?_
    refine V.cV omX7_fraction omX0_fill (c_fill d hN1 hN hc) rfl rfl rfl rfl rfl rfl rfl rfl (by omega) (by omega) (fun r' h' hQ => ?_)
    obtain ⟨⟨A', rfl, hJ, hO⟩, rfl⟩ := hQ
    rw [nI_clamp (show N < 2 ^ 31 by omega)]
    show V mX7_fraction (d + 2) 0 0 _ 0 0 22 _ [] _
    have hl := rowD_len hN
    have bad : ¬ (0 ≤ i ∧ i < nI (rowD N).length) → V mX7_fraction (d + 2) 0 0 (fun r' h' => (∃ A', h' = hp A' B ∧ JF (if (1 : Int32) = 1 then (if 0 ≤ i ∧ i < nI (rowD N).length then A else rfA A 3) else rfA A 7) A' ∧ FC A') ∧ r' = some (.int (if (1 : Int32) = 1 then (if 0 ≤ i ∧ i < nI (rowD N).length then nI (atD (rowD N) i.toNatClampNeg) else -3) else -7))) 0 0 49 [some (.ref 0), some (.int (nI N)), some (.int i)] [] (hp A' B) := by
      intro hz
      simp only [if_true, if_neg hz]
      iterate 2 (refine V.s omX7_fraction rfl rfl ?_)
      refine V.cVf omX7_fraction omX7_refuse rfl rfl (c_refuse _ _ (by decide)) rfl rfl rfl rfl rfl rfl ?_
      exact V.iret omX7_fraction rfl rfl ⟨⟨rfA A' 3, rfl, JF_rf hJ 3, FC_rf (FC_of hN1 hN hO)⟩, rfl⟩
    refine V.s omX7_fraction rfl rfl ?_
    by_cases h0 : 0 ≤ i
    · refine V.brF omX7_fraction rfl rfl (Int32.not_lt.mpr h0) ?_
      iterate 2 (refine V.s omX7_fraction rfl rfl ?_)
      refine V.gf omX7_fraction rfl rfl rfl rfl ?_
      refine V.gf omX7_fraction rfl rfl rfl rfl ?_
      rw [hO.2.2]
      by_cases h2 : i < nI (rowD N).length
      · refine V.brF omX7_fraction rfl rfl (Int32.not_le.mpr h2) ?_
        simp only [if_true, if_pos (And.intro h0 h2)]
        obtain ⟨k, hk, rfl⟩ := rng (show (rowD N).length < 2 ^ 31 by omega) ⟨h0, h2⟩
        refine V.s omX7_fraction rfl rfl ?_
        refine V.gf omX7_fraction rfl rfl rfl rfl ?_
        refine V.gf omX7_fraction rfl rfl rfl rfl ?_
        refine V.s omX7_fraction rfl rfl ?_
        refine V.ial omX7_fraction rfl rfl (ixN nv_nI (show k < 279 by omega) (by decide)) ?_
        rw [AD_at hO.2.1 k hk]
        refine V.s omX7_fraction rfl rfl ?_
        exact V.iret omX7_fraction rfl rfl ⟨⟨A', rfl, hJ, FC_of hN1 hN hO⟩, by rw [nI_clamp (show k < 2 ^ 31 by omega)]⟩
      · refine V.brT omX7_fraction rfl rfl (Int32.not_lt.mp h2) (fun g => Int32.not_lt.mpr g) ?_
        exact bad (fun g => h2 g.2)
    · refine V.brT omX7_fraction rfl rfl (Int32.not_le.mp h0) (fun g => Int32.not_le.mpr g) ?_
      exact bad (fun g => h0 g.1)
set_option maxHeartbeats 4000000 in
set_option maxRecDepth 100000 in
theorem c7_besideY (d : Nat) {F N k : Nat} (down : Int32) (hN1 : 1 ≤ N) (hN : N ≤ 30) (hf : ofF (nI F) (nI N) = 1) (hF : F < 10000) (hc : FC A) (hk : plc (rowD N) F k) : C mX7_beside (d + 3) 0 0 [.ref 0, .int (nI F), .int (nI N), .int down] (hp A B) (fun r' h' => (∃ A', h' = hp A' B ∧ JF A A' ∧ FC A') ∧ r' = some (.int (besV (rowD N) k down))) := by
  refine C.of [some (.ref 0), some (.int (nI F)), some (.int (nI N)), some (.int down), none] omX7_beside rfl rfl rfl ?_
  iterate 2 (refine V.s omX7_beside rfl rfl ?_)
  refine V.cSf omX7_beside omX7_isInRow rfl rfl (c7_isInRow d _ _ _) rfl rfl rfl rfl ?_
  have e : irF (nI F) (nI N) = 1 := by unfold irF; rw [if_pos ⟨orN hN1 hN, hf⟩]
  rw [e]
  refine V.brT omX7_beside rfl rfl (by decide) (by decide) ?_
  refine V.s omX7_beside rfl rfl ?_
  refine V.gf omX7_beside rfl rfl rfl rfl ?_
  refine V.s omX7_beside rfl rfl ?_
  refine V.cV omX7_beside omX0_fill (c_fill (d + 1) hN1 hN hc) rfl rfl rfl rfl rfl rfl rfl rfl (by omega) (by omega) (fun r' h' hQ => ?_)
  obtain ⟨⟨A', rfl, hJ, hO⟩, rfl⟩ := hQ
  show V mX7_beside (d + 3) 0 0 _ 0 0 23 _ [] _
  have hl := rowD_len hN
  refine V.s omX7_beside rfl rfl ?_
  refine V.gf omX7_beside rfl rfl rfl rfl ?_
  refine V.s omX7_beside rfl rfl ?_
  refine V.cVf omX7_beside omX0_placeOf rfl rfl (c_placeOf _ hN hF hO hk) rfl rfl rfl rfl rfl rfl ?_
  have fin : ∀ v4, V mX7_beside (d + 3) 0 0 (fun r' h' => (∃ A', h' = hp A' B ∧ JF A A' ∧ FC A') ∧ r' = some (.int (besV (rowD N) k down))) 0 0 41 [some (.ref 0), some (.int (nI F)), some (.int (nI N)), some (.int down), v4] [.int (bsI k down)] (hp A' B) := by
    intro v4
    have hiff := bsI_ix (down := down) (rowD N).length (by omega) hk.1
    unfold besV
    have bad : ¬ (0 ≤ bsI k down ∧ bsI k down < nI (rowD N).length) → V mX7_beside (d + 3) 0 0 (fun r' h' => (∃ A', h' = hp A' B ∧ JF A A' ∧ FC A') ∧ r' = some (.int (if 0 ≤ bsI k down ∧ bsI k down < nI (rowD N).length then nI (atD (rowD N) (bsN k down)) else -1))) 0 0 73 [some (.ref 0), some (.int (nI F)), some (.int (nI N)), some (.int down), some (.int (bsI k down))] [] (hp A' B) := by
      intro hz
      refine V.s omX7_beside rfl rfl ?_
      exact V.iret omX7_beside rfl rfl ⟨⟨A', rfl, hJ, FC_of hN1 hN hO⟩, by rw [if_neg hz]⟩
    iterate 2 (refine V.s omX7_beside rfl rfl ?_)
    by_cases h0 : 0 ≤ bsI k down
    · refine V.brF omX7_beside rfl rfl (Int32.not_lt.mpr h0) ?_
      iterate 2 (refine V.s omX7_beside rfl rfl ?_)
      refine V.gf omX7_beside rfl rfl rfl rfl ?_
      refine V.gf omX7_beside rfl rfl rfl rfl ?_
      rw [hO.2.2]
      by_cases h2 : bsI k down < nI (rowD N).length
      · refine V.brF omX7_beside rfl rfl (Int32.not_le.mpr h2) ?_
        have h1 := hiff.mp ⟨h0, h2⟩
        have h3 : bsN k down < (rowD N).length := by
          have := hk.1
          unfold bsN
          split
          · next hd => rw [if_pos hd] at h1; omega
          · omega
        rw [if_pos (And.intro h0 h2), bsI_N h1]
        refine V.s omX7_beside rfl rfl ?_
        refine V.gf omX7_beside rfl rfl rfl rfl ?_
        refine V.gf omX7_beside rfl rfl rfl rfl ?_
        refine V.s omX7_beside rfl rfl ?_
        refine V.ial omX7_beside rfl rfl (ixN nv_nI (show bsN k down < 279 by omega) (by decide)) ?_
        rw [AD_at hO.2.1 _ h3]
        refine V.s omX7_beside rfl rfl ?_
        exact V.iret omX7_beside rfl rfl ⟨⟨A', rfl, hJ, FC_of hN1 hN hO⟩, rfl⟩
      · refine V.brT omX7_beside rfl rfl (Int32.not_lt.mp h2) (fun g => Int32.not_lt.mpr g) ?_
        exact bad (fun g => h2 g.2)
    · refine V.brT omX7_beside rfl rfl (Int32.not_le.mp h0) (fun g => Int32.not_le.mpr g) ?_
      exact bad (fun g => h0 g.1)
  refine V.s omX7_beside rfl rfl ?_
  by_cases hd : down = 0
  · refine V.brT omX7_beside rfl rfl hd (fun h g => g h) ?_
    iterate 2 (refine V.s omX7_beside rfl rfl ?_)
    have e : bsI k down = nI k + 1 := by unfold bsI; rw [if_pos hd]
    have f1 := fin none
    rw [e] at f1
    exact f1
  · refine V.brF omX7_beside rfl rfl hd ?_
    iterate 3 (refine V.s omX7_beside rfl rfl ?_)
    have e : bsI k down = nI k + (-1) := by unfold bsI; rw [if_neg hd]
    have f1 := fin none
    rw [e] at f1
    exact f1
set_option maxHeartbeats 4000000 in
set_option maxRecDepth 100000 in
theorem c7_besideN (d : Nat) (f n down : Int32) (h : ¬ inR f n) : C mX7_beside (d + 3) 0 0 [.ref 0, .int f, .int n, .int down] (hp A B) (fun r' h' => h' = hp (rfA A 7) B ∧ r' = some (.int (-7))) := by
  refine C.of [some (.ref 0), some (.int f), some (.int n), some (.int down), none] omX7_beside rfl rfl rfl ?_
  iterate 2 (refine V.s omX7_beside rfl rfl ?_)
  refine V.cSf omX7_beside omX7_isInRow rfl rfl (c7_isInRow d _ _ _) rfl rfl rfl rfl ?_
  have e : irF f n = 0 := by unfold irF; rw [if_neg (show ¬ (orF n = 1 ∧ ofF f n = 1) from h)]
  rw [e]
  refine V.brF omX7_beside rfl rfl (by decide) ?_
  iterate 2 (refine V.s omX7_beside rfl rfl ?_)
  refine V.cVf omX7_beside omX7_refuse rfl rfl (c_refuse _ _ (by decide)) rfl rfl rfl rfl rfl rfl ?_
  exact V.iret omX7_beside rfl rfl ⟨rfl, rfl⟩
end FRD
