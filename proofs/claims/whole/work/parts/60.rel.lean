section REL
variable {A A' : Nat → Nat → Int32} {B : Nat → Nat → Int64}
def selR (q k : Nat) : Prop := q = 1 ∨ q = 2 ∨ q = 3 ∨ q = 4 ∨ q = 5 ∨ q = 34 ∨ q = 35 ∨ q = 36 ∨ q = 37 ∨ (q = 33 ∧ k = 5)
def selK (q k : Nat) : Prop := q = 8 ∨ q = 10 ∨ q = 12 ∨ q = 14 ∨ q = 16 ∨ q = 18 ∨ q = 38 ∨ (q = 0 ∧ k = 9) ∨ (q = 33 ∧ k = 6)
def selM (q k : Nat) : Prop := q = 32 ∨ q = 39 ∨ q = 31 ∨ q = 49 ∨ (q = 0 ∧ k = 10) ∨ (q = 0 ∧ k = 11) ∨ (q = 33 ∧ k = 7) ∨ (q = 33 ∧ k = 28)
def selW (q k : Nat) : Prop := q = 30 ∨ q = 48 ∨ q = 25 ∨ q = 26 ∨ (q = 27 ∧ k = 4) ∨ (q = 33 ∧ k = 25)
def lawR (N : Nat → Int32) (r : Nat) : Prop := lawP (N (4 * r)) (N (4 * r + 1)) (N (4 * r + 2)) (N (4 * r + 3))
def KS (f : Nat → Int32) : Prop := lawsF f = 1 ∧ tchF f = 1
def RelR (A : Nat → Nat → Int32) (n : Nat) : Prop := n ≤ 20 ∧ A 1 4 = nI n ∧ A 33 5 = nI n ∧ A 34 = A 2 ∧ A 35 = A 3 ∧ A 36 = A 4 ∧ A 37 = A 5 ∧ ∀ r, r < n → lawR (A 2) r
def RelK (A : Nat → Nat → Int32) (m : Nat) : Prop := m ≤ 6 ∧ A 0 9 = nI m ∧ A 33 6 = nI m ∧ (∀ k, k < 6 → ∀ i, i < 16 → A 38 (16 * k + i) = A (8 + 2 * k) i) ∧ ∀ k, k < m → KS (A (8 + 2 * k))
def RelM (A : Nat → Nat → Int32) : Prop := A 39 = A 32 ∧ A 33 7 = A 0 10 ∧ A 33 28 = A 0 11 ∧ (A 0 11 = 0 ∨ A 0 11 = 1) ∧ ∀ i, i < 16 → A 49 i = A 31 i
def RelW (A : Nat → Nat → Int32) : Prop := A 33 25 = A 27 4 ∧ (A 27 4 < 0 ∨ ∃ L, L < 279 ∧ A 27 4 = nI L ∧ ∀ i, i ≤ L → A 48 i = A 30 i) ∧ FC A
def Rel (A : Nat → Nat → Int32) : Prop := (∃ n, RelR A n) ∧ (∃ m, RelK A m) ∧ RelM A ∧ RelW A
theorem RelR_c {n : Nat} (e : ∀ q k, selR q k → A' q k = A q k) (h : RelR A n) : RelR A' n := by
  obtain ⟨h0, h1, h2, h3, h4, h5, h6, h7⟩ := h
  have e1 : A' 1 = A 1 := funext (fun k => e 1 k (by unfold selR; omega))
  have e2 : A' 2 = A 2 := funext (fun k => e 2 k (by unfold selR; omega))
  have e3 : A' 3 = A 3 := funext (fun k => e 3 k (by unfold selR; omega))
  have e4 : A' 4 = A 4 := funext (fun k => e 4 k (by unfold selR; omega))
  have e5 : A' 5 = A 5 := funext (fun k => e 5 k (by unfold selR; omega))
  have e34 : A' 34 = A 34 := funext (fun k => e 34 k (by unfold selR; omega))
  have e35 : A' 35 = A 35 := funext (fun k => e 35 k (by unfold selR; omega))
  have e36 : A' 36 = A 36 := funext (fun k => e 36 k (by unfold selR; omega))
  have e37 : A' 37 = A 37 := funext (fun k => e 37 k (by unfold selR; omega))
  unfold RelR
  rw [e1, e2, e3, e4, e5, e34, e35, e36, e37, e 33 5 (by unfold selR; omega)]
  exact ⟨h0, h1, h2, h3, h4, h5, h6, h7⟩
theorem k6 {k : Nat} (hk : k < 6) : k = 0 ∨ k = 1 ∨ k = 2 ∨ k = 3 ∨ k = 4 ∨ k = 5 := by omega
theorem RelK_c {m : Nat} (e : ∀ q k, selK q k → A' q k = A q k) (h : RelK A m) : RelK A' m := by
  obtain ⟨h0, h1, h2, h3, h4⟩ := h
  have eq : ∀ k, k < 6 → A' (8 + 2 * k) = A (8 + 2 * k) := fun k hk => funext (fun i => e _ i (by unfold selK; omega))
  have e38 : A' 38 = A 38 := funext (fun k => e 38 k (by unfold selK; omega))
  refine ⟨h0, (e 0 9 (by unfold selK; omega)).trans h1, (e 33 6 (by unfold selK; omega)).trans h2, fun k hk i hi => ?_, fun k hk => ?_⟩
  · rw [e38, eq k hk]
    exact h3 k hk i hi
  · rw [eq k (by omega)]
    exact h4 k hk
theorem RelM_c (e : ∀ q k, selM q k → A' q k = A q k) (h : RelM A) : RelM A' := by
  obtain ⟨h1, h2, h3, h4, h5⟩ := h
  have e39 : A' 39 = A 39 := funext (fun k => e 39 k (by unfold selM; omega))
  have e32 : A' 32 = A 32 := funext (fun k => e 32 k (by unfold selM; omega))
  have e31 : A' 31 = A 31 := funext (fun k => e 31 k (by unfold selM; omega))
  have e49 : A' 49 = A 49 := funext (fun k => e 49 k (by unfold selM; omega))
  unfold RelM
  rw [e39, e32, e31, e49, e 33 7 (by unfold selM; omega), e 0 10 (by unfold selM; omega), e 33 28 (by unfold selM; omega), e 0 11 (by unfold selM; omega)]
  exact ⟨h1, h2, h3, h4, h5⟩
theorem RelW_c (e : ∀ q k, selW q k → A' q k = A q k) (h : RelW A) : RelW A' := by
  obtain ⟨h1, h2, h3⟩ := h
  have e30 : A' 30 = A 30 := funext (fun k => e 30 k (by unfold selW; omega))
  have e48 : A' 48 = A 48 := funext (fun k => e 48 k (by unfold selW; omega))
  have e25 : A' 25 = A 25 := funext (fun k => e 25 k (by unfold selW; omega))
  have e26 : A' 26 = A 26 := funext (fun k => e 26 k (by unfold selW; omega))
  unfold RelW FC
  rw [e30, e48, e25, e26, e 33 25 (by unfold selW; omega), e 27 4 (by unfold selW; omega)]
  exact ⟨h1, h2, h3⟩
theorem Rel_c (e : ∀ q k, selR q k ∨ selK q k ∨ selM q k ∨ selW q k → A' q k = A q k) (h : Rel A) : Rel A' := by
  obtain ⟨⟨n, hR⟩, ⟨m, hK⟩, hM, hW⟩ := h
  exact ⟨⟨n, RelR_c (fun q k s => e q k (Or.inl s)) hR⟩, ⟨m, RelK_c (fun q k s => e q k (Or.inr (Or.inl s))) hK⟩, RelM_c (fun q k s => e q k (Or.inr (Or.inr (Or.inl s)))) hM, RelW_c (fun q k s => e q k (Or.inr (Or.inr (Or.inr s)))) hW⟩
theorem va_sel {f : Nat → Nat → Int32} {z : Nat} {g : Nat → Int32} {q k : Nat} (h : q ≠ z) : va_up f z g q k = f q k := by rw [va_up_ne _ _ h]
theorem rf_ne {c q k : Nat} (h : q ≠ 32) : rfA A c q k = A q k := va_sel h
theorem rm_ne {c q k : Nat} (h : q ≠ 39) : rmA A c q k = A q k := va_sel h
theorem rfm_ne {c q k : Nat} (h : q ≠ 32) (g : q ≠ 39) : rmA (rfA A c) c q k = A q k := (rm_ne g).trans (rf_ne h)
theorem RelM_rf (c : Nat) (h : RelM A) : RelM (rmA (rfA A c) c) := by
  obtain ⟨h1, h2, h3, h4, h5⟩ := h
  refine ⟨?_, h2, h3, h4, h5⟩
  show upd (A 39) c (A 39 c + 1) = upd (A 32) c (A 32 c + 1)
  rw [h1]
theorem Rel_rf (c : Nat) (h : Rel A) : Rel (rmA (rfA A c) c) := by
  obtain ⟨⟨n, hR⟩, ⟨m, hK⟩, hM, hW⟩ := h
  refine ⟨⟨n, RelR_c (fun q k s => rfm_ne (by unfold selR at s; omega) (by unfold selR at s; omega)) hR⟩, ⟨m, RelK_c (fun q k s => rfm_ne (by unfold selK at s; omega) (by unfold selK at s; omega)) hK⟩, RelM_rf c hM, RelW_c (fun q k s => rfm_ne (by unfold selW at s; omega) (by unfold selW at s; omega)) hW⟩
/-- a call: the class answers, then the reference; they answer alike, and the relation holds again -/
def Good (M7 M8 : mt_T) (as : List Value) (lg : Bool) : Prop := ∀ A B, Rel A → ∃ d7 Q7, d7 ≤ 50 ∧ C M7 d7 0 0 (.ref 0 :: as) (hp A B) Q7 ∧ ∀ r1 h1, Q7 r1 h1 → ∃ A1 B1 d8 Q8, d8 ≤ 50 ∧ h1 = hp A1 B1 ∧ C M8 d8 0 0 (.ref 33 :: as) (hp A1 B1) Q8 ∧ ∀ r2 h2, Q8 r2 h2 → ∃ A2 B2, h2 = hp A2 B2 ∧ Rel A2 ∧ r1 = r2 ∧ (if lg = true then ∃ v : Int64, r1 = some (.long v) else ∃ v : Int32, r1 = some (.int v))
theorem Good_i {M7 M8 : mt_T} {as : List Value} (d7 d8 : Nat) (h7 : d7 ≤ 50) (h8 : d8 ≤ 50) (h : ∀ A, Rel A → ∃ (v : Int32) (A1 A2 : Nat → Nat → Int32), (∀ B, C M7 d7 0 0 (.ref 0 :: as) (hp A B) (fun r h' => h' = hp A1 B ∧ r = some (.int v))) ∧ (∀ B, C M8 d8 0 0 (.ref 33 :: as) (hp A1 B) (fun r h' => h' = hp A2 B ∧ r = some (.int v))) ∧ Rel A2) : Good M7 M8 as false := by
  intro A B hA
  obtain ⟨v, A1, A2, c7, c8, hR⟩ := h A hA
  refine ⟨d7, _, h7, c7 B, fun r1 h1 q1 => ?_⟩
  obtain ⟨rfl, rfl⟩ := q1
  refine ⟨A1, B, d8, _, h8, rfl, c8 B, fun r2 h2 q2 => ?_⟩
  obtain ⟨rfl, rfl⟩ := q2
  exact ⟨A2, B, rfl, hR, rfl, v, rfl⟩
theorem Good_l {M7 M8 : mt_T} {as : List Value} (d7 d8 : Nat) (h7 : d7 ≤ 50) (h8 : d8 ≤ 50) (h : ∀ A, Rel A → ∃ (v : Int64) (A1 A2 : Nat → Nat → Int32), (∀ B, C M7 d7 0 0 (.ref 0 :: as) (hp A B) (fun r h' => h' = hp A1 B ∧ r = some (.long v))) ∧ (∀ B, C M8 d8 0 0 (.ref 33 :: as) (hp A1 B) (fun r h' => h' = hp A2 B ∧ r = some (.long v))) ∧ Rel A2) : Good M7 M8 as true := by
  intro A B hA
  obtain ⟨v, A1, A2, c7, c8, hR⟩ := h A hA
  refine ⟨d7, _, h7, c7 B, fun r1 h1 q1 => ?_⟩
  obtain ⟨rfl, rfl⟩ := q1
  refine ⟨A1, B, d8, _, h8, rfl, c8 B, fun r2 h2 q2 => ?_⟩
  obtain ⟨rfl, rfl⟩ := q2
  exact ⟨A2, B, rfl, hR, rfl, v, rfl⟩
/-! a round more -/
theorem putN_0 {f : Nat → Int32} {n : Nat} {a b x y : Int32} : putN f n a b x y (4 * n) = a ∧ putN f n a b x y (4 * n + 1) = b ∧ putN f n a b x y (4 * n + 2) = x ∧ putN f n a b x y (4 * n + 3) = y := by
  unfold putN
  refine ⟨?_, ?_, ?_, pk_us⟩
  · rw [pk_un (by omega), pk_un (by omega), pk_un (by omega), pk_us]
  · rw [pk_un (by omega), pk_un (by omega), pk_us]
  · rw [pk_un (by omega), pk_us]
theorem putN_ne {f : Nat → Int32} {n k : Nat} {a b x y : Int32} (h : k < 4 * n) : putN f n a b x y k = f k := by
  unfold putN
  rw [pk_un (by omega), pk_un (by omega), pk_un (by omega), pk_un (by omega)]
theorem RelR_put {n : Nat} (hn : n < 20) {kd a b x y : Int32} (hl : lawP a b x y) (h : RelR A n) : RelR (adA (putA A n kd a b x y) n kd a b x y) (n + 1) := by
  obtain ⟨h0, h1, h2, h3, h4, h5, h6, h7⟩ := h
  refine ⟨by omega, rfl, rfl, ?_, ?_, h5, h6, ?_⟩
  · show putN (A 34) n a b x y = putN (A 2) n a b x y
    rw [h3]
  · show upd (A 35) n kd = upd (A 3) n kd
    rw [h4]
  · intro r hr
    show lawR (putN (A 2) n a b x y) r
    unfold lawR
    by_cases e : r = n
    · subst e
      obtain ⟨p0, p1, p2, p3⟩ := putN_0 (f := A 2) (n := r) (a := a) (b := b) (x := x) (y := y)
      rw [p0, p1, p2, p3]
      exact hl
    · rw [putN_ne (by omega), putN_ne (by omega), putN_ne (by omega), putN_ne (by omega)]
      exact h7 r (by omega)
theorem put_ne {n : Nat} {kd a b x y : Int32} {q k : Nat} (h : ¬ selR q k) (g : ¬ q = 33) : adA (putA A n kd a b x y) n kd a b x y q k = A q k := by
  unfold selR at h
  unfold adA putA
  rw [va_sel (by omega), va_sel (by omega), va_sel (by omega), va_sel (by omega), va_sel (by omega), va_sel (by omega)]
theorem put_33 {n : Nat} {kd a b x y : Int32} {k : Nat} (h : k ≠ 5) : adA (putA A n kd a b x y) n kd a b x y 33 k = A 33 k := by
  show upd (A 33) 5 _ k = _
  exact pk_un h
theorem put_s {n : Nat} {kd a b x y : Int32} {q k : Nat} (h : ¬ selR q k) : adA (putA A n kd a b x y) n kd a b x y q k = A q k := by
  by_cases g : q = 33
  · subst g
    exact put_33 (by unfold selR at h; omega)
  · exact put_ne h g
theorem Rel_put {n : Nat} (hn : n < 20) {kd a b x y : Int32} (hl : lawP a b x y) (hR : RelR A n) (h : Rel A) : Rel (adA (putA A n kd a b x y) n kd a b x y) := by
  obtain ⟨-, ⟨m, hK⟩, hM, hW⟩ := h
  exact ⟨⟨n + 1, RelR_put hn hl hR⟩, ⟨m, RelK_c (fun q k s => put_s (by unfold selK at s; unfold selR; omega)) hK⟩, RelM_c (fun q k s => put_s (by unfold selM at s; unfold selR; omega)) hM, RelW_c (fun q k s => put_s (by unfold selW at s; unfold selR; omega)) hW⟩
theorem g_round (a b x y : Int32) : Good mX7_round mX8_round [.int a, .int b, .int x, .int y] false := by
  refine Good_i 2 2 (by decide) (by decide) (fun A hA => ?_)
  obtain ⟨n, hR⟩ := hA.1
  have hR0 := hR
  obtain ⟨h0, h1, h2, h3, h4, h5, h6, h7⟩ := hR
  have e : (s8_round (s7_round A n a b x y).2 n a b x y).1 = (s7_round A n a b x y).1 ∧ Rel (s8_round (s7_round A n a b x y).2 n a b x y).2 ∧ (s7_round A n a b x y).2 33 5 = nI n := by
    unfold s8_round s7_round
    by_cases c1 : lawP a b x y
    · by_cases c2 : n < 20
      · simp only [if_pos c1, if_pos c2]
        exact ⟨(by first | trivial | rfl), Rel_put c2 c1 hR0 hA, h2⟩
      · simp only [if_pos c1, if_neg c2]
        exact ⟨(by first | trivial | rfl), Rel_rf 8 hA, h2⟩
    · simp only [if_neg c1]
      exact ⟨(by first | trivial | rfl), Rel_rf 7 hA, h2⟩
  refine ⟨_, _, _, fun B => c7_round 0 h1 h0 a b x y, fun B => ?_, e.2.1⟩
  rw [← e.1]
  exact c8_round 0 e.2.2 h0 a b x y
theorem g_drop : Good mX7_drop mX8_drop [] false := by
  refine Good_i 1 1 (by decide) (by decide) (fun A hA => ?_)
  obtain ⟨n, hR⟩ := hA.1
  have hR0 := hR
  obtain ⟨h0, h1, h2, h3, h4, h5, h6, h7⟩ := hR
  have e : (s8_drop (s7_drop A n).2 n).1 = (s7_drop A n).1 ∧ Rel (s8_drop (s7_drop A n).2 n).2 ∧ (s7_drop A n).2 33 5 = nI n := by
    unfold s8_drop s7_drop
    by_cases c1 : n = 0
    · simp only [if_pos c1]
      exact ⟨(by first | trivial | rfl), Rel_rf 2 hA, h2⟩
    · simp only [if_neg c1]
      refine ⟨(by first | trivial | rfl), ?_, h2⟩
      have ne : ∀ q k, ¬ selR q k → va_up (va_up A 1 (upd (A 1) 4 (nI (n - 1)))) 33 (upd (va_up A 1 (upd (A 1) 4 (nI (n - 1))) 33) 5 (nI (n - 1))) q k = A q k := by
        intro q k s
        unfold selR at s
        by_cases g : q = 33
        · subst g
          show upd (A 33) 5 _ k = _
          exact pk_un (by omega)
        · rw [va_sel g, va_sel (by omega)]
      obtain ⟨-, ⟨m, hK⟩, hM, hW⟩ := hA
      refine ⟨⟨n - 1, by omega, rfl, rfl, h3, h4, h5, h6, fun r hr => h7 r (by omega)⟩, ⟨m, RelK_c (fun q k s => ne q k (by unfold selK at s; unfold selR; omega)) hK⟩, RelM_c (fun q k s => ne q k (by unfold selM at s; unfold selR; omega)) hM, RelW_c (fun q k s => ne q k (by unfold selW at s; unfold selR; omega)) hW⟩
  refine ⟨_, _, _, fun B => c7_drop 0 h1 h0, fun B => ?_, e.2.1⟩
  rw [← e.1]
  exact c8_drop 0 e.2.2 h0
theorem g_look (r w : Int32) : Good mX7_look mX8_look [.int r, .int w] false := by
  refine Good_i 1 2 (by decide) (by decide) (fun A hA => ?_)
  obtain ⟨n, hR⟩ := hA.1
  obtain ⟨h0, h1, h2, h3, h4, h5, h6, h7⟩ := hR
  have e : (s8_look (s7_look A n r w).2 n r w).1 = (s7_look A n r w).1 ∧ Rel (s8_look (s7_look A n r w).2 n r w).2 ∧ (s7_look A n r w).2 33 5 = nI n := by
    have k3 : ∀ c, rfA A c 35 = A 3 := fun c => h4
    unfold s8_look s7_look
    by_cases c1 : 0 ≤ r ∧ r < nI n
    · by_cases c2 : (w = 5 ∨ w = 6) ∧ ¬ A 3 (cl r) = 2
      · simp only [if_pos c1, if_pos c2, k3]
        exact ⟨(by first | trivial | rfl), Rel_rf 5 hA, h2⟩
      · by_cases c3 : 0 ≤ w ∧ w ≤ 6
        · simp only [if_pos c1, if_neg c2, if_pos c3, h4, h3, h5, h6]
          exact ⟨(by first | trivial | rfl), hA, h2⟩
        · simp only [if_pos c1, if_neg c2, if_neg c3, k3]
          exact ⟨(by first | trivial | rfl), Rel_rf 7 hA, h2⟩
    · simp only [if_neg c1]
      exact ⟨(by first | trivial | rfl), Rel_rf 3 hA, h2⟩
  refine ⟨_, _, _, fun B => c7_look 0 h1 h0 r w, fun B => ?_, e.2.1⟩
  rw [← e.1]
  exact c8_look 0 e.2.2 h0 r w
theorem g_product (r w : Int32) : Good mX7_product mX8_product [.int r, .int w] true := by
  refine Good_l 2 2 (by decide) (by decide) (fun A hA => ?_)
  obtain ⟨n, hR⟩ := hA.1
  obtain ⟨h0, h1, h2, h3, h4, h5, h6, h7⟩ := hR
  have e : (s8_product (s7_product A n r w).2 n r w).1 = (s7_product A n r w).1 ∧ Rel (s8_product (s7_product A n r w).2 n r w).2 ∧ (s7_product A n r w).2 33 5 = nI n := by
    unfold s8_product s7_product cl
    by_cases c1 : (0 ≤ r ∧ r < nI n) ∧ (0 ≤ w ∧ w < nI n)
    · simp only [if_pos c1, h3]
      exact ⟨(by first | trivial | rfl), hA, h2⟩
    · simp only [if_neg c1]
      exact ⟨(by first | trivial | rfl), Rel_rf 3 hA, h2⟩
  refine ⟨_, _, _, fun B => c7_product 0 h1 h0 r w, fun B => ?_, e.2.1⟩
  rw [← e.1]
  exact c8_product 0 e.2.2 h0 r w
theorem mt_eq (v : Int64) : mt8 v = mtF v := by
  unfold mt8 mtF
  by_cases h1 : v = -2
  · subst h1; decide
  by_cases h2 : v = 2
  · subst h2; decide
  by_cases h3 : v = 0
  · subst h3; decide
  by_cases h4 : v = 1
  · subst h4; decide
  by_cases h5 : v = -1
  · subst h5; decide
  rw [if_neg h1, if_neg h2, if_neg h3, if_neg (fun g => g.elim h4 h5)]
  have key : ∀ x : Int, v.toInt ≠ x ∨ v = Int64.ofInt x := by
    intro x
    by_cases h : v.toInt = x
    · right
      rw [← h]
      exact (Int64.ofInt_toInt v).symm
    · exact Or.inl h
  have k1 := (key (-2)).resolve_right (fun g => h1 (g.trans (by decide)))
  have k2 := (key 2).resolve_right h2
  have k3 := (key 0).resolve_right h3
  have k4 := (key 1).resolve_right h4
  have k5 := (key (-1)).resolve_right (fun g => h5 (g.trans (by decide)))
  by_cases h6 : v < 0
  · have g := Int64.lt_iff_toInt_lt.mp h6
    rw [show (0 : Int64).toInt = 0 from rfl] at g
    rw [if_pos h6, if_pos (Int64.lt_iff_toInt_lt.mpr (by rw [show (-2 : Int64).toInt = -2 from rfl]; omega))]
  · have g : ¬ v.toInt < 0 := fun q => h6 (Int64.lt_iff_toInt_lt.mpr (by rw [show (0 : Int64).toInt = 0 from rfl]; exact q))
    rw [if_neg h6, if_neg (fun q => by have := Int64.lt_iff_toInt_lt.mp q; rw [show (-2 : Int64).toInt = -2 from rfl] at this; omega), if_pos (Int64.lt_iff_toInt_lt.mpr (by rw [show (2 : Int64).toInt = 2 from rfl]; omega))]
theorem g_meet (r w : Int32) : Good mX7_meet mX8_meet [.int r, .int w] false := by
  refine Good_i 2 2 (by decide) (by decide) (fun A hA => ?_)
  obtain ⟨n, hR⟩ := hA.1
  obtain ⟨h0, h1, h2, h3, h4, h5, h6, h7⟩ := hR
  have e : (s8_meet (s7_meet A n r w).2 n r w).1 = (s7_meet A n r w).1 ∧ Rel (s8_meet (s7_meet A n r w).2 n r w).2 ∧ (s7_meet A n r w).2 33 5 = nI n := by
    unfold s8_meet s7_meet
    by_cases c1 : (0 ≤ r ∧ r < nI n) ∧ (0 ≤ w ∧ w < nI n)
    · simp only [if_pos c1, h3, mt_eq]
      exact ⟨(by first | trivial | rfl), hA, h2⟩
    · simp only [if_neg c1]
      exact ⟨(by first | trivial | rfl), Rel_rf 3 hA, h2⟩
  refine ⟨_, _, _, fun B => c7_meet 0 h1 h0 r w, fun B => ?_, e.2.1⟩
  rw [← e.1]
  exact c8_meet 0 e.2.2 h0 r w
end REL
