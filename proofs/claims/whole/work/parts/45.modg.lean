section MDG
variable {A : Nat → Nat → Int32} {B : Nat → Nat → Int64}
def J8 (A A' : Nat → Nat → Int32) : Prop := ∀ q k, ¬ (q = 44 ∨ q = 45 ∨ (q = 33 ∧ (k = 13 ∨ k = 14 ∨ k = 15 ∨ k = 16 ∨ k = 20))) → A' q k = A q k
theorem J8_r (A : Nat → Nat → Int32) : J8 A A := fun _ _ _ => rfl
def jk (k : Nat) : Prop := k = 13 ∨ k = 14 ∨ k = 15 ∨ k = 16 ∨ k = 20
theorem cnF_ne {F : Nat → Int32} {v : Int64} {ex ab : Int32} {k : Nat} (h : ¬ jk k) : cnF F v ex ab k = F k := by
  unfold jk at h
  have h13 : k ≠ 13 := fun e => h (Or.inl e)
  have h14 : k ≠ 14 := fun e => h (Or.inr (Or.inl e))
  have h15 : k ≠ 15 := fun e => h (Or.inr (Or.inr (Or.inl e)))
  have h16 : k ≠ 16 := fun e => h (Or.inr (Or.inr (Or.inr (Or.inl e))))
  have h20 : k ≠ 20 := fun e => h (Or.inr (Or.inr (Or.inr (Or.inr e))))
  unfold cnF
  split
  · rw [pk_un h20, pk_un h16]
    unfold cn3
    rw [pk_un h15, pk_un h14, pk_un h13]
  · unfold cn3
    rw [pk_un h15, pk_un h14, pk_un h13]
theorem vf_ne {ex ab : Int32} {k : Nat} (h : ¬ jk k) : ∀ (l : List (Int64 × List Nat)) (S : St8), (l.foldl (vf ex ab) S).1 k = S.1 k
  | [], _ => rfl
  | x :: l, S => by
    rw [List.foldl_cons, vf_ne h l]
    exact cnF_ne h
theorem gS_ne {most : Int64} {ex ab : Int32} {n : Nat} {b : Nat → Int64} {F : Nat → Int32} {G : Nat → Int64} {T : Nat → Int32} {k : Nat} (h : ¬ jk k) : (gS most ex ab n b F G T).1 k = F k := by
  unfold gS
  rw [vf_ne h]
  unfold jk at h
  have h13 : k ≠ 13 := fun e => h (Or.inl e)
  have h14 : k ≠ 14 := fun e => h (Or.inr (Or.inl e))
  have h15 : k ≠ 15 := fun e => h (Or.inr (Or.inr (Or.inl e)))
  have h20 : k ≠ 20 := fun e => h (Or.inr (Or.inr (Or.inr (Or.inr e))))
  show F08 F k = F k
  unfold F08
  rw [pk_un h20, pk_un h15, pk_un h14, pk_un h13]
theorem J8_gS {most : Int64} {ex ab : Int32} {n : Nat} {b : Nat → Int64} {G : Nat → Int64} {T T' P' : Nat → Int32} : J8 A (va_up (va_up (va_up A 45 P') 44 T') 33 (gS most ex ab n b (A 33) G T).1) := by
  intro q k h
  unfold va_up
  by_cases h33 : q = 33
  · subst h33
    rw [if_pos rfl]
    exact gS_ne (fun g => h (Or.inr (Or.inr ⟨rfl, g⟩)))
  · rw [if_neg h33, if_neg (fun e => h (Or.inl e)), if_neg (fun e => h (Or.inr (Or.inl e)))]
theorem wy8_0 {m : Nat} {r w lo hi : Int32} {b' : Nat → Int64} (h : wy8 A m r w lo hi b' = 0) : wn8 A m r = 0 := by
  unfold wy8 at h
  split at h
  · assumption
  · exact h
theorem wy8_rf {m : Nat} {r w lo hi : Int32} {b' : Nat → Int64} (h : ¬ wy8 A m r w lo hi b' = 0) : rfB (wy8 A m r w lo hi b') = true := by
  by_cases h1 : wn8 A m r = 0
  · unfold wy8 at h ⊢
    rw [if_pos h1] at h ⊢
    split at h
    · exact absurd rfl h
    · next h2 => rw [if_neg h2]; decide
  · have e : wy8 A m r w lo hi b' = wn8 A m r := by unfold wy8; rw [if_neg h1]
    rw [e]
    exact rfB_wn8 h1
set_option maxHeartbeats 4000000 in
set_option maxRecDepth 100000 in
theorem c8_count (d : Nat) {m n nn : Nat} (hm : A 33 6 = nI m) (h6 : m ≤ 6) (r w : Int32) (b' : Nat → Int64) (hL : wn8 A m r = 0 → ldF n (bq (B 41) (A 38) (cl r)) = some b') (hn : nn ≤ 400) (hk : wy8 A m r w 0 300 b' = 0 → wkOK w.toInt64 nn [] b') : C mX8_count (d + 3) 0 0 [.ref 33, .int r, .int w] (hp A B) (fun r' h' => (∃ A' B', h' = hp A' B' ∧ J8 (if wy8 A m r w 0 300 b' = 0 then A else rmA A (rfI (wy8 A m r w 0 300 b'))) A') ∧ ∃ G T, r' = some (.int (if wy8 A m r w 0 300 b' = 0 then (gS w.toInt64 w 0 nn b' (A 33) G T).1 13 else wy8 A m r w 0 300 b'))) := by
  refine C.of [some (.ref 33), some (.int r), some (.int w), none] omX8_count rfl rfl rfl ?_
  iterate 5 (refine V.s omX8_count rfl rfl ?_)
  refine V.cVf omX8_count omX8_whyNot rfl rfl (c8_whyNot d hm h6 r w 0 300 b' hL) rfl rfl rfl rfl rfl rfl ?_
  iterate 2 (refine V.s omX8_count rfl rfl ?_)
  by_cases hw : wy8 A m r w 0 300 b' = 0
  · have hk := hk hw
    simp only [if_pos hw, if_pos (wy8_0 hw)]
    refine V.brT omX8_count rfl rfl hw (fun h g => g h) ?_
    iterate 5 (refine V.s omX8_count rfl rfl ?_)
    have cg := c8_goesThrough (A := A) (B := va_up B 41 b') (d + 1) (most := w.toInt64) (ex := w) (ab := 0) hn (by rw [va_up_self]; exact hk)
    rw [va_up_self] at cg
    refine V.cV omX8_count omX8_goesThrough cg rfl rfl rfl rfl rfl rfl rfl rfl (by omega) (by omega) (fun r' h' hQ => ?_)
    obtain ⟨⟨P', rfl⟩, rfl⟩ := hQ
    show V mX8_count (d + 3) 0 0 _ 0 0 29 _ [] _
    refine V.s omX8_count rfl rfl ?_
    refine V.gf omX8_count rfl rfl rfl rfl ?_
    exact V.iret omX8_count rfl rfl ⟨⟨_, _, rfl, J8_gS⟩, _, _, rfl⟩
  · simp only [if_neg hw]
    refine V.brF omX8_count rfl rfl hw ?_
    iterate 2 (refine V.s omX8_count rfl rfl ?_)
    refine V.cVf omX8_count omX8_no rfl rfl (c8_no _ _ (wy8_rf hw)) rfl rfl rfl rfl rfl rfl ?_
    exact V.iret omX8_count rfl rfl ⟨⟨_, _, rfl, J8_r _⟩, B 33, A 44, rfl⟩
set_option maxHeartbeats 4000000 in
set_option maxRecDepth 100000 in
theorem c8_bends (d : Nat) {m n nn : Nat} (hm : A 33 6 = nI m) (h6 : m ≤ 6) (r w : Int32) (b' : Nat → Int64) (hL : wn8 A m r = 0 → ldF n (bq (B 41) (A 38) (cl r)) = some b') (hn : nn ≤ 400) (hk : wy8 A m r w 0 300 b' = 0 → wkOK w.toInt64 nn [] b') : C mX8_bends (d + 3) 0 0 [.ref 33, .int r, .int w] (hp A B) (fun r' h' => (∃ A' B', h' = hp A' B' ∧ J8 (if wy8 A m r w 0 300 b' = 0 then A else rmA A (rfI (wy8 A m r w 0 300 b'))) A') ∧ ∃ G T, r' = some (.int (if wy8 A m r w 0 300 b' = 0 then (gS w.toInt64 w 0 nn b' (A 33) G T).1 14 else wy8 A m r w 0 300 b'))) := by
  refine C.of [some (.ref 33), some (.int r), some (.int w), none] omX8_bends rfl rfl rfl ?_
  iterate 5 (refine V.s omX8_bends rfl rfl ?_)
  refine V.cVf omX8_bends omX8_whyNot rfl rfl (c8_whyNot d hm h6 r w 0 300 b' hL) rfl rfl rfl rfl rfl rfl ?_
  iterate 2 (refine V.s omX8_bends rfl rfl ?_)
  by_cases hw : wy8 A m r w 0 300 b' = 0
  · have hk := hk hw
    simp only [if_pos hw, if_pos (wy8_0 hw)]
    refine V.brT omX8_bends rfl rfl hw (fun h g => g h) ?_
    iterate 5 (refine V.s omX8_bends rfl rfl ?_)
    have cg := c8_goesThrough (A := A) (B := va_up B 41 b') (d + 1) (most := w.toInt64) (ex := w) (ab := 0) hn (by rw [va_up_self]; exact hk)
    rw [va_up_self] at cg
    refine V.cV omX8_bends omX8_goesThrough cg rfl rfl rfl rfl rfl rfl rfl rfl (by omega) (by omega) (fun r' h' hQ => ?_)
    obtain ⟨⟨P', rfl⟩, rfl⟩ := hQ
    show V mX8_bends (d + 3) 0 0 _ 0 0 29 _ [] _
    refine V.s omX8_bends rfl rfl ?_
    refine V.gf omX8_bends rfl rfl rfl rfl ?_
    exact V.iret omX8_bends rfl rfl ⟨⟨_, _, rfl, J8_gS⟩, _, _, rfl⟩
  · simp only [if_neg hw]
    refine V.brF omX8_bends rfl rfl hw ?_
    iterate 2 (refine V.s omX8_bends rfl rfl ?_)
    refine V.cVf omX8_bends omX8_no rfl rfl (c8_no _ _ (wy8_rf hw)) rfl rfl rfl rfl rfl rfl ?_
    exact V.iret omX8_bends rfl rfl ⟨⟨_, _, rfl, J8_r _⟩, B 33, A 44, rfl⟩
set_option maxHeartbeats 4000000 in
set_option maxRecDepth 100000 in
theorem c8_rests (d : Nat) {m n nn : Nat} (hm : A 33 6 = nI m) (h6 : m ≤ 6) (r w : Int32) (b' : Nat → Int64) (hL : wn8 A m r = 0 → ldF n (bq (B 41) (A 38) (cl r)) = some b') (hn : nn ≤ 400) (hk : wy8 A m r w 0 300 b' = 0 → wkOK w.toInt64 nn [] b') : C mX8_rests (d + 3) 0 0 [.ref 33, .int r, .int w] (hp A B) (fun r' h' => (∃ A' B', h' = hp A' B' ∧ J8 (if wy8 A m r w 0 300 b' = 0 then A else rmA A (rfI (wy8 A m r w 0 300 b'))) A') ∧ ∃ G T, r' = some (.int (if wy8 A m r w 0 300 b' = 0 then (gS w.toInt64 w 0 nn b' (A 33) G T).1 15 else wy8 A m r w 0 300 b'))) := by
  refine C.of [some (.ref 33), some (.int r), some (.int w), none] omX8_rests rfl rfl rfl ?_
  iterate 5 (refine V.s omX8_rests rfl rfl ?_)
  refine V.cVf omX8_rests omX8_whyNot rfl rfl (c8_whyNot d hm h6 r w 0 300 b' hL) rfl rfl rfl rfl rfl rfl ?_
  iterate 2 (refine V.s omX8_rests rfl rfl ?_)
  by_cases hw : wy8 A m r w 0 300 b' = 0
  · have hk := hk hw
    simp only [if_pos hw, if_pos (wy8_0 hw)]
    refine V.brT omX8_rests rfl rfl hw (fun h g => g h) ?_
    iterate 5 (refine V.s omX8_rests rfl rfl ?_)
    have cg := c8_goesThrough (A := A) (B := va_up B 41 b') (d + 1) (most := w.toInt64) (ex := w) (ab := 0) hn (by rw [va_up_self]; exact hk)
    rw [va_up_self] at cg
    refine V.cV omX8_rests omX8_goesThrough cg rfl rfl rfl rfl rfl rfl rfl rfl (by omega) (by omega) (fun r' h' hQ => ?_)
    obtain ⟨⟨P', rfl⟩, rfl⟩ := hQ
    show V mX8_rests (d + 3) 0 0 _ 0 0 29 _ [] _
    refine V.s omX8_rests rfl rfl ?_
    refine V.gf omX8_rests rfl rfl rfl rfl ?_
    exact V.iret omX8_rests rfl rfl ⟨⟨_, _, rfl, J8_gS⟩, _, _, rfl⟩
  · simp only [if_neg hw]
    refine V.brF omX8_rests rfl rfl hw ?_
    iterate 2 (refine V.s omX8_rests rfl rfl ?_)
    refine V.cVf omX8_rests omX8_no rfl rfl (c8_no _ _ (wy8_rf hw)) rfl rfl rfl rfl rfl rfl ?_
    exact V.iret omX8_rests rfl rfl ⟨⟨_, _, rfl, J8_r _⟩, B 33, A 44, rfl⟩
set_option maxHeartbeats 4000000 in
set_option maxRecDepth 100000 in
theorem c8_next (d : Nat) {m n nn : Nat} (hm : A 33 6 = nI m) (h6 : m ≤ 6) (r w : Int32) (b' : Nat → Int64) (hL : wn8 A m r = 0 → ldF n (bq (B 41) (A 38) (cl r)) = some b') (hn : nn ≤ 400) (hk : wy8 A m r w (-1000000000) 299 b' = 0 → wkOK 300 nn [] b') : C mX8_next (d + 3) 0 0 [.ref 33, .int r, .int w] (hp A B) (fun r' h' => (∃ A' B', h' = hp A' B' ∧ J8 (if wy8 A m r w (-1000000000) 299 b' = 0 then A else rmA A (rfI (wy8 A m r w (-1000000000) 299 b'))) A') ∧ ∃ G T, r' = some (.int (if wy8 A m r w (-1000000000) 299 b' = 0 then (if (gS 300 0 w nn b' (A 33) G T).1 20 = 0 then -1 else (gS 300 0 w nn b' (A 33) G T).1 16) else wy8 A m r w (-1000000000) 299 b'))) := by
  refine C.of [some (.ref 33), some (.int r), some (.int w), none] omX8_next rfl rfl rfl ?_
  iterate 5 (refine V.s omX8_next rfl rfl ?_)
  refine V.cVf omX8_next omX8_whyNot rfl rfl (c8_whyNot d hm h6 r w (-1000000000) 299 b' hL) rfl rfl rfl rfl rfl rfl ?_
  iterate 2 (refine V.s omX8_next rfl rfl ?_)
  by_cases hw : wy8 A m r w (-1000000000) 299 b' = 0
  · have hk := hk hw
    simp only [if_pos hw, if_pos (wy8_0 hw)]
    refine V.brT omX8_next rfl rfl hw (fun h g => g h) ?_
    iterate 4 (refine V.s omX8_next rfl rfl ?_)
    have cg := c8_goesThrough (A := A) (B := va_up B 41 b') (d + 1) (most := 300) (ex := 0) (ab := w) hn (by rw [va_up_self]; exact hk)
    rw [va_up_self] at cg
    refine V.cV omX8_next omX8_goesThrough cg rfl rfl rfl rfl rfl rfl rfl rfl (by omega) (by omega) (fun r' h' hQ => ?_)
    obtain ⟨⟨P', rfl⟩, rfl⟩ := hQ
    show V mX8_next (d + 3) 0 0 _ 0 0 31 _ [] _
    refine V.s omX8_next rfl rfl ?_
    refine V.gf omX8_next rfl rfl rfl rfl ?_
    rw [va_up_self]
    refine V.br omX8_next rfl rfl (fun hc => ?_) (fun hc => ?_)
    · refine V.s omX8_next rfl rfl ?_
      exact V.iret omX8_next rfl rfl ⟨⟨_, _, rfl, J8_gS⟩, va_up B 41 b' 33, A 44, by rw [if_pos hc]⟩
    · refine V.s omX8_next rfl rfl ?_
      refine V.gf omX8_next rfl rfl rfl rfl ?_
      rw [va_up_self]
      refine V.s omX8_next rfl rfl ?_
      exact V.iret omX8_next rfl rfl ⟨⟨_, _, rfl, J8_gS⟩, va_up B 41 b' 33, A 44, by rw [if_neg hc]⟩
  · simp only [if_neg hw]
    refine V.brF omX8_next rfl rfl hw ?_
    iterate 2 (refine V.s omX8_next rfl rfl ?_)
    refine V.cVf omX8_next omX8_no rfl rfl (c8_no _ _ (wy8_rf hw)) rfl rfl rfl rfl rfl rfl ?_
    exact V.iret omX8_next rfl rfl ⟨⟨_, _, rfl, J8_r _⟩, B 33, A 44, rfl⟩
def wz8 (y v : Int32) : Int32 := if y = 0 then (if 0 ≤ v ∧ v ≤ 4 then 0 else -7) else y
theorem c8_i04 (d : Nat) (v : Int32) (h : hp_T) : C mX8_isIn d 0 0 [.long v.toInt64, .long 0, .long 4] h (fun r h' => h' = h ∧ r = some (.int (if 0 ≤ v ∧ v ≤ 4 then 1 else 0))) := by
  have h1 := c8_isIn d v.toInt64 0 4 h
  rw [show (0 : Int64) = (0 : Int32).toInt64 from rfl, show (4 : Int64) = (4 : Int32).toInt64 from rfl] at h1 ⊢
  simp only [Int32.toInt64_le] at h1
  exact h1
set_option maxHeartbeats 4000000 in
set_option maxRecDepth 100000 in
theorem c8_sum (d : Nat) {m n nn : Nat} (hm : A 33 6 = nI m) (h6 : m ≤ 6) (r w v : Int32) (b' : Nat → Int64) (hL : wn8 A m r = 0 → ldF n (bq (B 41) (A 38) (cl r)) = some b') (hn : nn ≤ 400) (hk : wy8 A m r w 0 300 b' = 0 → wkOK w.toInt64 nn [] b') : C mX8_sum (d + 3) 0 0 [.ref 33, .int r, .int w, .int v] (hp A B) (fun r' h' => (∃ A' B', h' = hp A' B' ∧ J8 (if wz8 (wy8 A m r w 0 300 b') v = 0 then A else rmA A (rfI (wz8 (wy8 A m r w 0 300 b') v))) A') ∧ ∃ G T, r' = some (.long (if wz8 (wy8 A m r w 0 300 b') v = 0 then (if v = 0 then (gS w.toInt64 w 0 nn b' (A 33) G T).2.1 17 else ((gS w.toInt64 w 0 nn b' (A 33) G T).2.2 (v.toNatClampNeg - 1)).toInt64) else 0))) := by
  refine C.of [some (.ref 33), some (.int r), some (.int w), some (.int v), none] omX8_sum rfl rfl rfl ?_
  iterate 5 (refine V.s omX8_sum rfl rfl ?_)
  refine V.cVf omX8_sum omX8_whyNot rfl rfl (c8_whyNot d hm h6 r w 0 300 b' hL) rfl rfl rfl rfl rfl rfl ?_
  iterate 2 (refine V.s omX8_sum rfl rfl ?_)
  have bad : ∀ (y : Int32) (X : Nat → Nat → Int64), ¬ y = 0 → rfB y = true → wz8 (wy8 A m r w 0 300 b') v = y → V mX8_sum (d + 3) 0 0 (fun r' h' => (∃ A' B', h' = hp A' B' ∧ J8 (if wz8 (wy8 A m r w 0 300 b') v = 0 then A else rmA A (rfI (wz8 (wy8 A m r w 0 300 b') v))) A') ∧ ∃ G T, r' = some (.long (if wz8 (wy8 A m r w 0 300 b') v = 0 then (if v = 0 then (gS w.toInt64 w 0 nn b' (A 33) G T).2.1 17 else ((gS w.toInt64 w 0 nn b' (A 33) G T).2.2 (v.toNatClampNeg - 1)).toInt64) else 0))) 0 0 33 [some (.ref 33), some (.int r), some (.int w), some (.int v), some (.int y)] [] (hp A X) := by
    intro y X hy hr he
    simp only [he, if_neg hy]
    refine V.s omX8_sum rfl rfl ?_
    refine V.brF omX8_sum rfl rfl hy ?_
    iterate 2 (refine V.s omX8_sum rfl rfl ?_)
    refine V.cVf omX8_sum omX8_none rfl rfl (c8_none _ _ hr) rfl rfl rfl rfl rfl rfl ?_
    refine V.s omX8_sum rfl rfl ?_
    exact V.lret omX8_sum rfl rfl ⟨⟨_, _, rfl, J8_r _⟩, B 33, A 44, rfl⟩
  by_cases hw : wy8 A m r w 0 300 b' = 0
  · have hk := hk hw
    simp only [if_pos (wy8_0 hw)]
    refine V.brF omX8_sum rfl rfl (fun h => h hw) ?_
    iterate 4 (refine V.s omX8_sum rfl rfl ?_)
    refine V.cSf omX8_sum omX8_isIn rfl rfl (c8_i04 _ v _) rfl rfl rfl rfl ?_
    by_cases hv : 0 ≤ v ∧ v ≤ 4
    · have hz : wz8 (wy8 A m r w 0 300 b') v = 0 := by unfold wz8; rw [if_pos hw, if_pos hv]
      simp only [hz, if_true]
      rw [if_pos hv]
      refine V.brT omX8_sum rfl rfl (by decide) (by decide) ?_
      refine V.s omX8_sum rfl rfl ?_
      refine V.brT omX8_sum rfl rfl hw (fun h g => g h) ?_
      iterate 5 (refine V.s omX8_sum rfl rfl ?_)
      have cg := c8_goesThrough (A := A) (B := va_up B 41 b') (d + 1) (most := w.toInt64) (ex := w) (ab := 0) hn (by rw [va_up_self]; exact hk)
      rw [va_up_self] at cg
      refine V.cV omX8_sum omX8_goesThrough cg rfl rfl rfl rfl rfl rfl rfl rfl (by omega) (by omega) (fun r' h' hQ => ?_)
      obtain ⟨⟨P', rfl⟩, rfl⟩ := hQ
      show V mX8_sum (d + 3) 0 0 _ 0 0 54 _ [] _
      refine V.s omX8_sum rfl rfl ?_
      by_cases h0 : v = 0
      · refine V.brF omX8_sum rfl rfl (fun h => h h0) ?_
        refine V.s omX8_sum rfl rfl ?_
        refine V.gf omX8_sum rfl rfl rfl rfl ?_
        refine V.s omX8_sum rfl rfl ?_
        exact V.lret omX8_sum rfl rfl ⟨⟨_, _, rfl, J8_gS⟩, va_up B 41 b' 33, A 44, by rw [if_pos h0]; rfl⟩
      · refine V.brT omX8_sum rfl rfl h0 (fun h => h) ?_
        have : ∃ j, j < 4 ∧ v = nI (j + 1) := by
          obtain ⟨j, hj, e⟩ := nI_of2 (x := v) (M := 4) (n := 4) rfl (Int32.not_lt.mpr hv.1) hv.2
          cases j with
          | zero => exact absurd e h0
          | succ j => exact ⟨j, by omega, e⟩
        obtain ⟨j, hj, rfl⟩ := this
        refine V.s omX8_sum rfl rfl ?_
        refine V.gf omX8_sum rfl rfl rfl rfl ?_
        iterate 3 (refine V.s omX8_sum rfl rfl ?_)
        rw [nI_pred]
        refine V.ial omX8_sum rfl rfl (ixN nv_nI hj (by decide)) ?_
        rw [xA44]
        refine V.s omX8_sum rfl rfl ?_
        exact V.lret omX8_sum rfl rfl ⟨⟨_, _, rfl, J8_gS⟩, va_up B 41 b' 33, A 44, by rw [if_neg h0, nI_clamp (by omega)]; rfl⟩
    · rw [if_neg hv]
      refine V.brF omX8_sum rfl rfl (by decide) ?_
      iterate 2 (refine V.s omX8_sum rfl rfl ?_)
      exact bad (-7) _ (by decide) (by decide) (by unfold wz8; rw [if_pos hw, if_neg hv])
  · refine V.brT omX8_sum rfl rfl hw (fun h => h) ?_
    exact bad _ _ hw (wy8_rf hw) (by unfold wz8; rw [if_neg hw])
end MDG
