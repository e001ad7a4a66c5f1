section MDK
variable {A : Nat → Nat → Int32} {B : Nat → Nat → Int64}
def J10 (A A' : Nat → Nat → Int32) : Prop := ∀ q k, ¬ (q = 46 ∨ q = 47 ∨ q = 48 ∨ (q = 33 ∧ (k = 24 ∨ k = 25))) → A' q k = A q k
theorem orN {N : Nat} (h1 : 1 ≤ N) (hN : N ≤ 30) : orF (nI N) = 1 := by unfold orF; rw [if_pos ⟨(nIl_le 1 (by omega) (by decide)).mpr h1, (nI_leI (b := 30) (by omega) (by decide)).mpr hN⟩]
/-- the first place of a fraction in a row -/
def plc (l : List Nat) (F k : Nat) : Prop := k < l.length ∧ atD l k = F ∧ ∀ j, j < k → ¬ atD l j = F
theorem hR_Y {R : Nat → Int32} {s : Nat} : hR A B R s = hY A B (upd (A 33) 24 (nI s)) R (A 47) (A 48) := by
  unfold hR hY
  rw [va_self A 48, va_self A 47]
theorem cp8 (d : Nat) {X R W Y : Nat → Int32} {l : List Nat} {F k : Nat} (hA : AD R l) (hl : l.length < 300) (hF : F < 10000) (hk : plc l F k) : C mX8_placeOf d 0 0 [.ref 33, .int (nI F)] (hY A B X R W Y) (fun r h' => h' = hY A B X R W Y ∧ r = some (.int (nI k))) := by
  obtain ⟨hk, hk1, hk2⟩ := hk
  refine c8_placeOf d (show k < 300 by omega) ?_ ?_
  · rw [yA46, AD_at hA k hk, hk1]
  · intro j hj h
    rw [yA46, AD_at hA j (by omega)] at h
    have := AD_lt hA j (by omega)
    exact hk2 j hj ((nI_eq (by omega) (by omega)).mp h)
theorem J10_Y {R W Y : Nat → Int32} {x y : Int32} : J10 A (va_up (va_up (va_up (va_up A 48 Y) 47 W) 46 R) 33 (upd (upd (A 33) 24 x) 25 y)) := by
  intro q k h
  unfold va_up
  by_cases h33 : q = 33
  · subst h33
    rw [if_pos rfl, pk_un (fun e => h (Or.inr (Or.inr (Or.inr ⟨rfl, Or.inr e⟩)))), pk_un (fun e => h (Or.inr (Or.inr (Or.inr ⟨rfl, Or.inl e⟩))))]
  · rw [if_neg h33, if_neg (fun e => h (Or.inl e)), if_neg (fun e => h (Or.inr (Or.inl e))), if_neg (fun e => h (Or.inr (Or.inr (Or.inl e))))]
set_option maxHeartbeats 4000000 in
set_option maxRecDepth 100000 in
theorem c8_wayY (d : Nat) {F G N kf kg L n : Nat} (hN1 : 1 ≤ N) (hN : N ≤ 30) (hf : ofF (nI F) (nI N) = 1) (hg : ofF (nI G) (nI N) = 1) (hF : F < 10000) (hG : G < 10000) (hkf : plc (rowD N) F kf) (hkg : plc (rowD N) G kg) {W : Nat → Int32} {s : Nat → Nat} (hn : n < 2 ^ 31) (hW : wl (atD (rowD N)) (rowD N).length n 0 (W0p kg (rowD N).length (A 47)) = some W) (hL : L < 300) (h0 : s 0 = kf) (hWf : W kf = nI L) (hs : isWay (atD (rowD N)) (rowD N).length L (fun c j => W j = nI c) s) : C mX8_way (d + 3) 0 0 [.ref 33, .int (nI F), .int (nI G), .int (nI N)] (hp A B) (fun r' h' => (∃ A', h' = hp A' B ∧ J10 A A' ∧ A' 33 25 = nI L ∧ ∀ i, i ≤ L → A' 48 i = nI (atD (rowD N) (s i))) ∧ r' = some (.int (nI L))) := by
  refine C.of [some (.ref 33), some (.int (nI F)), some (.int (nI G)), some (.int (nI N)), none, none, none, none, none] omX8_way rfl rfl rfl ?_
  refine V.s omX8_way rfl rfl ?_
  refine V.cSf omX8_way omX8_isRow rfl rfl (c8_isRow _ _ _) rfl rfl rfl rfl ?_
  rw [orN hN1 hN]
  refine V.brF omX8_way rfl rfl (by decide) ?_
  iterate 3 (refine V.s omX8_way rfl rfl ?_)
  refine V.cVf omX8_way omX8_isOf rfl rfl (c8_isOf d _ _) rfl rfl rfl rfl rfl rfl ?_
  rw [hf]
  refine V.brF omX8_way rfl rfl (by decide) ?_
  iterate 3 (refine V.s omX8_way rfl rfl ?_)
  refine V.cVf omX8_way omX8_isOf rfl rfl (c8_isOf d _ _) rfl rfl rfl rfl rfl rfl ?_
  rw [hg]
  refine V.brT omX8_way rfl rfl (by decide) (by decide) ?_
  iterate 2 (refine V.s omX8_way rfl rfl ?_)
  refine V.cV omX8_way omX8_makesRow (c8_makesRow (d + 1) hN) rfl rfl rfl rfl rfl rfl rfl rfl (by omega) (by omega) (fun r' h' hQ => ?_)
  obtain ⟨⟨R', hA, rfl⟩, rfl⟩ := hQ
  show V mX8_way (d + 3) 0 0 _ 0 0 37 _ [] _
  have hl := rowD_len hN
  rw [hR_Y]
  generalize rowD N = l at *
  have hH : rwH R' (atD l) l.length (upd (A 33) 24 (nI l.length)) := ⟨fun k hk => ⟨AD_at hA k hk, AD_lt hA k hk⟩, by omega, pk_us⟩
  iterate 2 (refine V.s omX8_way rfl rfl ?_)
  refine V.cVf omX8_way omX8_placeOf rfl rfl (cp8 _ hA (by omega) hG hkg) rfl rfl rfl rfl rfl rfl ?_
  iterate 3 (refine V.s omX8_way rfl rfl ?_)
  have key := wy_47 (A := A) (B := B) (X := upd (A 33) 24 (nI l.length)) (R := R') (Y := A 48) (f := nI F) (g := nI G) (n := nI N) (Z := A 47) (Q := fun r' h' => (∃ A', h' = hp A' B ∧ J10 A A' ∧ A' 33 25 = nI L ∧ ∀ i, i ≤ L → A' 48 i = nI (atD l (s i))) ∧ r' = some (.int (nI L))) d hH hkg.1 none none none (fun v5 => ?_) l.length 0 (by omega)
  · have e0 : W0p kg 0 (A 47) = A 47 := by
      funext k
      unfold W0p
      rw [if_neg (by omega)]
    rw [e0] at key
    exact key
  iterate 4 (refine V.s omX8_way rfl rfl ?_)
  refine wy_89 d hH (W' := W) (fun v5 v6 v7 v8 => ?_) n 0 _ _ _ (by omega) hW
  iterate 2 (refine V.s omX8_way rfl rfl ?_)
  refine V.cVf omX8_way omX8_placeOf rfl rfl (cp8 _ hA (by omega) hF hkf) rfl rfl rfl rfl rfl rfl ?_
  iterate 3 (refine V.s omX8_way rfl rfl ?_)
  refine V.gf omX8_way rfl rfl rfl rfl ?_
  refine V.s omX8_way rfl rfl ?_
  refine V.ial omX8_way rfl rfl (ixN nv_nI (show kf < 300 by have := hkf.1; omega) (by decide)) ?_
  rw [yA47, hWf]
  refine V.pfH omX8_way rfl rfl rfl rfl rfl rfl rfl ?_
  rw [bx_uu, va_up_self]
  refine V.s omX8_way rfl rfl ?_
  refine V.gf omX8_way rfl rfl rfl rfl ?_
  iterate 2 (refine V.s omX8_way rfl rfl ?_)
  refine V.iasH omX8_way rfl rfl (ixN (nv_nI (a := 0)) (show 0 < 300 by decide) (by decide)) ?_
  rw [yA48, yA48u]
  iterate 2 (refine V.s omX8_way rfl rfl ?_)
  have hH2 : rwH R' (atD l) l.length (upd (upd (A 33) 24 (nI l.length)) 25 (nI L)) := ⟨hH.1, hH.2.1, rfl⟩
  have k3 := wy_220 (A := A) (B := B) (X := upd (upd (A 33) 24 (nI l.length)) 25 (nI L)) (R := R') (W := W) (f := nI F) (g := nI G) (n := nI N) (en := nI kg) (v5 := v5) (Q := fun r' h' => (∃ A', h' = hp A' B ∧ J10 A A' ∧ A' 33 25 = nI L ∧ ∀ i, i ≤ L → A' 48 i = nI (atD l (s i))) ∧ r' = some (.int (nI L))) d hH2 pk_us hL (by rw [h0]; exact hkf.1) hs (fun Y' hY' => ⟨⟨_, rfl, J10_Y, rfl, hY'⟩, rfl⟩) L 0 (upd (A 48) 0 (nI F)) v8 (by omega) (fun j hj => by
    have : j = 0 := by omega
    subst this
    rw [pk_us, h0, hkf.2.1])
  rw [h0] at k3
  exact k3
def inW (f g n : Int32) : Prop := orF n = 1 ∧ ofF f n = 1 ∧ ofF g n = 1
set_option maxHeartbeats 4000000 in
set_option maxRecDepth 100000 in
theorem c8_wayN (d : Nat) (f g n : Int32) (h : ¬ inW f g n) : C mX8_way (d + 3) 0 0 [.ref 33, .int f, .int g, .int n] (hp A B) (fun r' h' => h' = hp (rmA A 7) B ∧ r' = some (.int (-7))) := by
  refine C.of [some (.ref 33), some (.int f), some (.int g), some (.int n), none, none, none, none, none] omX8_way rfl rfl rfl ?_
  have bad : V mX8_way (d + 3) 0 0 (fun r' h' => h' = hp (rmA A 7) B ∧ r' = some (.int (-7))) 0 0 25 [some (.ref 33), some (.int f), some (.int g), some (.int n), none, none, none, none, none] [] (hp A B) := by
    iterate 2 (refine V.s omX8_way rfl rfl ?_)
    refine V.cVf omX8_way omX8_no rfl rfl (c8_no _ _ (by decide)) rfl rfl rfl rfl rfl rfl ?_
    exact V.iret omX8_way rfl rfl ⟨rfl, rfl⟩
  refine V.s omX8_way rfl rfl ?_
  refine V.cSf omX8_way omX8_isRow rfl rfl (c8_isRow _ _ _) rfl rfl rfl rfl ?_
  rcases orF_01 n with h1 | h1
  · rw [h1]
    refine V.brT omX8_way rfl rfl rfl (by decide) ?_
    exact bad
  rw [h1]
  refine V.brF omX8_way rfl rfl (by decide) ?_
  iterate 3 (refine V.s omX8_way rfl rfl ?_)
  refine V.cVf omX8_way omX8_isOf rfl rfl (c8_isOf d _ _) rfl rfl rfl rfl rfl rfl ?_
  rcases ofF_01 f n with h2 | h2
  · rw [h2]
    refine V.brT omX8_way rfl rfl rfl (by decide) ?_
    exact bad
  rw [h2]
  refine V.brF omX8_way rfl rfl (by decide) ?_
  iterate 3 (refine V.s omX8_way rfl rfl ?_)
  refine V.cVf omX8_way omX8_isOf rfl rfl (c8_isOf d _ _) rfl rfl rfl rfl rfl rfl ?_
  rcases ofF_01 g n with h3 | h3
  · rw [h3]
    refine V.brF omX8_way rfl rfl (by decide) ?_
    exact bad
  · exact absurd ⟨h1, h2, h3⟩ h
def s8_step (A : Nat → Nat → Int32) (i : Int32) : Int32 × (Nat → Nat → Int32) := if A 33 25 < 0 then (-2, rmA A 2) else if 0 ≤ i ∧ i ≤ A 33 25 then (A 48 i.toNatClampNeg, A) else (-3, rmA A 3)
set_option maxHeartbeats 4000000 in
set_option maxRecDepth 100000 in
theorem c8_step (d : Nat) (i : Int32) (hb : A 33 25 < 0 ∨ ∃ L, L < 300 ∧ A 33 25 = nI L) : C mX8_step (d + 1) 0 0 [.ref 33, .int i] (hp A B) (fun r h' => h' = hp (s8_step A i).2 B ∧ r = some (.int (s8_step A i).1)) := by
  refine C.of [some (.ref 33), some (.int i)] omX8_step rfl rfl rfl ?_
  refine V.s omX8_step rfl rfl ?_
  refine V.gf omX8_step rfl rfl rfl rfl ?_
  by_cases h1 : A 33 25 < 0
  · refine V.brF omX8_step rfl rfl (Int32.not_le.mpr h1) ?_
    iterate 2 (refine V.s omX8_step rfl rfl ?_)
    refine V.cVf omX8_step omX8_no rfl rfl (c8_no _ _ (by decide)) rfl rfl rfl rfl rfl rfl ?_
    have e : s8_step A i = (-2, rmA A 2) := by unfold s8_step; rw [if_pos h1]
    rw [e]
    exact V.iret omX8_step rfl rfl ⟨rfl, rfl⟩
  · refine V.brT omX8_step rfl rfl (Int32.not_lt.mp h1) (fun h => Int32.not_lt.mpr h) ?_
    obtain ⟨L, hL, e25⟩ := hb.resolve_left h1
    iterate 4 (refine V.s omX8_step rfl rfl ?_)
    refine V.gf omX8_step rfl rfl rfl rfl ?_
    rw [e25]
    refine V.s omX8_step rfl rfl ?_
    refine V.cSf omX8_step omX8_isIn rfl rfl (isIn_nI _ _ (show L < 2 ^ 31 by omega) _) rfl rfl rfl rfl ?_
    by_cases h2 : 0 ≤ i ∧ i ≤ nI L
    · have e : s8_step A i = (A 48 i.toNatClampNeg, A) := by unfold s8_step; rw [if_neg h1, e25, if_pos h2]
      rw [e, if_pos h2]
      obtain ⟨k, hk, rfl⟩ := inle (show L < 2 ^ 31 by omega) h2
      rw [nI_clamp (by omega)]
      refine V.brF omX8_step rfl rfl (by decide) ?_
      refine V.s omX8_step rfl rfl ?_
      refine V.gf omX8_step rfl rfl rfl rfl ?_
      refine V.s omX8_step rfl rfl ?_
      refine V.ial omX8_step rfl rfl (ixN nv_nI (show k < 300 by omega) (by decide)) ?_
      refine V.s omX8_step rfl rfl ?_
      exact V.iret omX8_step rfl rfl ⟨rfl, rfl⟩
    · have e : s8_step A i = (-3, rmA A 3) := by unfold s8_step; rw [if_neg h1, e25, if_neg h2]
      rw [e, if_neg h2]
      refine V.brT omX8_step rfl rfl rfl (by decide) ?_
      iterate 2 (refine V.s omX8_step rfl rfl ?_)
      refine V.cVf omX8_step omX8_no rfl rfl (c8_no _ _ (by decide)) rfl rfl rfl rfl rfl rfl ?_
      exact V.iret omX8_step rfl rfl ⟨rfl, rfl⟩
end MDK
