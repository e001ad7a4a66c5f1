section PK
variable {A : Nat → Nat → Int32} {B : Nat → Nat → Int64} {F q : Nat → Int32} {G : Nat → Int64}
def fmI (v : Int32) : Int32 := if v ^^^ 24 < 0 ∧ ¬ v - v / 24 * 24 = 0 then v - v / 24 * 24 + 24 else v - v / 24 * 24
set_option maxHeartbeats 4000000 in
set_option maxRecDepth 100000 in
theorem cJ_floorMod (d : Nat) (v : Int32) (h : hp_T) : C mJ9_floorMod d 0 0 [.int v, .int 24] h (fun r h' => h' = h ∧ r = some (.int (fmI v))) := by
  refine C.of [some (.int v), some (.int 24), none] omJ9_floorMod rfl rfl rfl ?_
  iterate 2 (refine V.s omJ9_floorMod rfl rfl ?_)
  refine V.irem omJ9_floorMod rfl (by decide) ?_
  iterate 4 (refine V.s omJ9_floorMod rfl rfl ?_)
  by_cases h1 : v ^^^ 24 < 0
  · refine V.brF omJ9_floorMod rfl rfl (Int32.not_le.mpr h1) ?_
    refine V.s omJ9_floorMod rfl rfl ?_
    by_cases h2 : v - v / 24 * 24 = 0
    · refine V.brT omJ9_floorMod rfl rfl h2 (fun h g => g h) ?_
      refine V.s omJ9_floorMod rfl rfl ?_
      exact V.iret omJ9_floorMod rfl rfl ⟨rfl, by unfold fmI; rw [if_neg (fun g => g.2 h2)]⟩
    · refine V.brF omJ9_floorMod rfl rfl h2 ?_
      iterate 3 (refine V.s omJ9_floorMod rfl rfl ?_)
      exact V.iret omJ9_floorMod rfl rfl ⟨rfl, by unfold fmI; rw [if_pos ⟨h1, h2⟩]⟩
  · refine V.brT omJ9_floorMod rfl rfl (Int32.not_lt.mp h1) (fun h => Int32.not_lt.mpr h) ?_
    refine V.s omJ9_floorMod rfl rfl ?_
    exact V.iret omJ9_floorMod rfl rfl ⟨rfl, by unfold fmI; rw [if_neg (fun g => h1 g.1)]⟩
def nt2 (F : Nat → Int32) (v : Int32) : Nat → Int32 := upd (upd F 4 (F 4 + 1)) 6 (F 6 ||| (1 : Int32) <<< (fmI v &&& 31))
def nt3 (F : Nat → Int32) (v : Int32) : Nat → Int32 := if v = F 1 then upd (nt2 F v) 5 (F 5 + 1) else nt2 F v
def ntF (F : Nat → Int32) (v : Int32) : Nat → Int32 := if F 3 < v ∧ (F 8 = 0 ∨ v < F 9) then upd (upd (nt3 F v) 8 1) 9 v else nt3 F v
def ntG (G : Nat → Int64) (v : Int32) : Nat → Int64 := vp_updL G 7 (G 7 + v.toInt64)
set_option maxHeartbeats 4000000 in
set_option maxRecDepth 100000 in
theorem nt_56 (d : Nat) (v : Int32) (F0 : Nat → Int32) (e3 : F 3 = F0 3) (e8 : F 8 = F0 8) (e9 : F 9 = F0 9) : V mX3_note (d + 1) 0 0 (fun r h' => h' = hp (va_up A 23 (if F0 3 < v ∧ (F0 8 = 0 ∨ v < F0 9) then upd (upd F 8 1) 9 v else F)) B ∧ r = none) 0 0 56 [some (.ref 23), some (.int v)] [] (hp (va_up A 23 F) B) := by
  iterate 2 (refine V.s omX3_note rfl rfl ?_)
  refine V.gf omX3_note rfl rfl rfl rfl ?_
  rw [va_up_self, e3]
  by_cases h1 : F0 3 < v
  · refine V.brF omX3_note rfl rfl (Int32.not_le.mpr h1) ?_
    refine V.s omX3_note rfl rfl ?_
    refine V.gf omX3_note rfl rfl rfl rfl ?_
    rw [va_up_self, e8]
    by_cases h2 : F0 8 = 0
    · refine V.brT omX3_note rfl rfl h2 (fun h g => g h) ?_
      iterate 2 (refine V.s omX3_note rfl rfl ?_)
      refine V.pfH omX3_note rfl rfl rfl rfl rfl rfl rfl ?_
      rw [bx_uu, va_up_self]
      iterate 2 (refine V.s omX3_note rfl rfl ?_)
      refine V.pfH omX3_note rfl rfl rfl rfl rfl rfl rfl ?_
      rw [bx_uu, va_up_self]
      exact V.vret omX3_note rfl rfl ⟨by rw [if_pos ⟨h1, Or.inl h2⟩], rfl⟩
    · refine V.brF omX3_note rfl rfl h2 ?_
      iterate 2 (refine V.s omX3_note rfl rfl ?_)
      refine V.gf omX3_note rfl rfl rfl rfl ?_
      rw [va_up_self, e9]
      by_cases h3 : v < F0 9
      · refine V.brF omX3_note rfl rfl (Int32.not_le.mpr h3) ?_
        iterate 2 (refine V.s omX3_note rfl rfl ?_)
        refine V.pfH omX3_note rfl rfl rfl rfl rfl rfl rfl ?_
        rw [bx_uu, va_up_self]
        iterate 2 (refine V.s omX3_note rfl rfl ?_)
        refine V.pfH omX3_note rfl rfl rfl rfl rfl rfl rfl ?_
        rw [bx_uu, va_up_self]
        exact V.vret omX3_note rfl rfl ⟨by rw [if_pos ⟨h1, Or.inr h3⟩], rfl⟩
      · refine V.brT omX3_note rfl rfl (Int32.not_lt.mp h3) (fun h => Int32.not_lt.mpr h) ?_
        exact V.vret omX3_note rfl rfl ⟨by rw [if_neg (fun g => g.2.elim h2 h3)], rfl⟩
  · refine V.brT omX3_note rfl rfl (Int32.not_lt.mp h1) (fun h => Int32.not_lt.mpr h) ?_
    exact V.vret omX3_note rfl rfl ⟨by rw [if_neg (fun g => h1 g.1)], rfl⟩
set_option maxHeartbeats 4000000 in
set_option maxRecDepth 100000 in
theorem c_note (d : Nat) (v : Int32) : C mX3_note (d + 1) 0 0 [.ref 23, .int v] (hp A B) (fun r h' => h' = hp (va_up A 23 (ntF (A 23) v)) (va_up B 23 (ntG (B 23) v)) ∧ r = none) := by
  refine C.of [some (.ref 23), some (.int v)] omX3_note rfl rfl rfl ?_
  iterate 2 (refine V.s omX3_note rfl rfl ?_)
  refine V.gf omX3_note rfl rfl rfl rfl ?_
  iterate 2 (refine V.s omX3_note rfl rfl ?_)
  refine V.pfH omX3_note rfl rfl rfl rfl rfl rfl rfl ?_
  iterate 2 (refine V.s omX3_note rfl rfl ?_)
  refine V.gf omX3_note rfl rfl rfl rfl ?_
  iterate 3 (refine V.s omX3_note rfl rfl ?_)
  refine V.pfL7 omX3_note rfl ?_
  iterate 2 (refine V.s omX3_note rfl rfl ?_)
  refine V.gf omX3_note rfl rfl rfl rfl ?_
  iterate 3 (refine V.s omX3_note rfl rfl ?_)
  refine V.cSf omX3_note omJ9_floorMod rfl rfl (cJ_floorMod _ _ _) rfl rfl rfl rfl ?_
  iterate 2 (refine V.s omX3_note rfl rfl ?_)
  refine V.pfH omX3_note rfl rfl rfl rfl rfl rfl rfl ?_
  rw [bx_uu, va_up_self]
  iterate 2 (refine V.s omX3_note rfl rfl ?_)
  refine V.gf omX3_note rfl rfl rfl rfl ?_
  have e1 : va_up A 23 (upd (upd (A 23) 4 (A 23 4 + 1)) 6 (upd (A 23) 4 (A 23 4 + 1) 6 ||| (1 : Int32) <<< (fmI v &&& 31))) = va_up A 23 (nt2 (A 23) v) := rfl
  rw [e1]
  by_cases h1 : v = A 23 1
  · refine V.brF omX3_note rfl rfl (fun g => g h1) ?_
    iterate 2 (refine V.s omX3_note rfl rfl ?_)
    refine V.gf omX3_note rfl rfl rfl rfl ?_
    iterate 2 (refine V.s omX3_note rfl rfl ?_)
    refine V.pfH omX3_note rfl rfl rfl rfl rfl rfl rfl ?_
    rw [bx_uu, va_up_self]
    have k2 := nt_56 (A := A) (B := va_up B 23 (ntG (B 23) v)) (F := upd (nt2 (A 23) v) 5 (A 23 5 + 1)) d v (A 23) rfl rfl rfl
    have e2 : nt3 (A 23) v = upd (nt2 (A 23) v) 5 (A 23 5 + 1) := by unfold nt3; rw [if_pos h1]
    unfold ntF
    rw [e2]
    exact k2
  · refine V.brT omX3_note rfl rfl h1 (fun g => g) ?_
    have k2 := nt_56 (A := A) (B := va_up B 23 (ntG (B 23) v)) (F := nt2 (A 23) v) d v (A 23) rfl rfl rfl
    have e2 : nt3 (A 23) v = nt2 (A 23) v := by unfold nt3; rw [if_neg h1]
    unfold ntF
    rw [e2]
    exact k2
theorem ntF_ne {F : Nat → Int32} {v : Int32} {k : Nat} (h4 : k ≠ 4) (h5 : k ≠ 5) (h6 : k ≠ 6) (h8 : k ≠ 8) (h9 : k ≠ 9) : ntF F v k = F k := by
  have e2 : nt2 F v k = F k := by unfold nt2; rw [pk_un h6, pk_un h4]
  have e3 : nt3 F v k = F k := by
    unfold nt3
    split
    · rw [pk_un h5, e2]
    · exact e2
  unfold ntF
  split
  · rw [pk_un h9, pk_un h8, e3]
  · exact e3
abbrev hG (A : Nat → Nat → Int32) (B : Nat → Nat → Int64) (F : Nat → Int32) (G : Nat → Int64) (q : Nat → Int32) : hp_T := hp (va_up (va_up A 24 q) 23 F) (va_up B 23 G)
theorem xA24 : va_up (va_up A 24 q) 23 F 24 = q := rfl
theorem xA24u {q2 : Nat → Int32} : va_up (va_up (va_up A 24 q) 23 F) 24 q2 = va_up (va_up A 24 q2) 23 F := by rw [va_cm _ (show (23 : Nat) ≠ 24 by decide), bx_uu]
theorem hG_nt (d : Nat) (v : Int32) : C mX3_note (d + 1) 0 0 [.ref 23, .int v] (hG A B F G q) (fun r h' => h' = hG A B (ntF F v) (ntG G v) q ∧ r = none) := by
  have h := c_note (A := va_up (va_up A 24 q) 23 F) (B := va_up B 23 G) d v
  rw [va_up_self, va_up_self, bx_uu, bx_uu] at h
  exact h
abbrev Sn := (Nat → Int32) × (Nat → Int64)
def nv (S : Sn) (v : Int32) : Sn := (ntF S.1 v, ntG S.2 v)
theorem nv_ne {k : Nat} (h4 : k ≠ 4) (h5 : k ≠ 5) (h6 : k ≠ 6) (h8 : k ≠ 8) (h9 : k ≠ 9) : ∀ (l : List Int32) (S : Sn), (l.foldl nv S).1 k = S.1 k
  | [], _ => rfl
  | x :: l, S => by
    rw [List.foldl_cons, nv_ne h4 h5 h6 h8 h9 l]
    exact ntF_ne h4 h5 h6 h8 h9
def sm4 (q : Nat → Int32) : Int64 := (q 0).toInt64 + (q 1).toInt64 + (q 2).toInt64 + (q 3).toInt64
def gfr (q : Nat → Int32) (p : Nat) : Int64 := 2 * sm4 q - 3 * (q p).toInt64
abbrev gsk (lim bar last : Int32) (q : Nat → Int32) (p : Nat) : Prop := nI p = last ∨ nI p = bar ∨ lim.toInt64 < gfr q p
def gv (f : Int32 → (Nat → Int32) → List Int32) (lim bar last : Int32) (q : Nat → Int32) (p : Nat) : List Int32 := if gsk lim bar last q p then [] else (gfr q p).toInt32 :: f (nI p) (upd q p (gfr q p).toInt32)
def gk (lim bar : Int32) : Nat → Int32 → (Nat → Int32) → List Int32
  | 0 => fun _ _ => []
  | n + 1 => fun last q => gv (gk lim bar n) lim bar last q 0 ++ (gv (gk lim bar n) lim bar last q 1 ++ (gv (gk lim bar n) lim bar last q 2 ++ gv (gk lim bar n) lim bar last q 3))
def gRes (A : Nat → Nat → Int32) (B : Nat → Nat → Int64) (n : Nat) (last : Int32) : hp_T := hp (va_up A 23 ((gk (A 23 1) (A 23 2) n last (A 24)).foldl nv (A 23, B 23)).1) (va_up B 23 ((gk (A 23 1) (A 23 2) n last (A 24)).foldl nv (A 23, B 23)).2)
theorem gRes_hG {n : Nat} {last : Int32} : gRes (va_up (va_up A 24 q) 23 F) (va_up B 23 G) n last = hG A B ((gk (F 1) (F 2) n last q).foldl nv (F, G)).1 ((gk (F 1) (F 2) n last q).foldl nv (F, G)).2 q := by
  show hp (va_up (va_up (va_up A 24 q) 23 F) 23 ((gk (F 1) (F 2) n last q).foldl nv (F, G)).1) (va_up (va_up B 23 G) 23 ((gk (F 1) (F 2) n last q).foldl nv (F, G)).2) = _
  rw [bx_uu, bx_uu]
abbrev LG (last : Int32) (dp : Nat) (all : Int64) (p : Nat) (v7 v8 v9 : Option Value) : List (Option Value) := [some (.ref 23), some (.int last), some (.int (nI dp)), some (.ref 24), some (.long all), none, some (.int (nI p)), v7, v8, v9]
theorem upd_back {q : Nat → Int32} {p : Nat} {x : Int32} : upd (upd q p x) p (q p) = q := by
  funext j
  unfold upd
  by_cases h : j = p
  · simp [h]
  · simp [h]
set_option maxHeartbeats 4000000 in
set_option maxRecDepth 100000 in
theorem gr_st (n dp : Nat) (IH : ∀ (A : Nat → Nat → Int32) (B : Nat → Nat → Int64) (last : Int32), C mX3_grow (n + 2) 0 0 [.ref 23, .int last, .int (nI (dp + 1))] (hp A B) (fun r h' => h' = gRes A B n last ∧ r = none)) {last : Int32} {p : Nat} (h4 : p < 4) (S : Sn) {lim bar : Int32} (e1 : S.1 1 = lim) (e2 : S.1 2 = bar) (v7 v8 v9 : Option Value) {Q : Option Value → hp_T → Prop} (kk : ∀ v7 v8 v9, V mX3_grow (n + 3) 0 0 Q 0 0 36 (LG last dp (sm4 q) (p + 1) v7 v8 v9) [] (hG A B ((gv (gk lim bar n) lim bar last q p).foldl nv S).1 ((gv (gk lim bar n) lim bar last q p).foldl nv S).2 q)) : V mX3_grow (n + 3) 0 0 Q 0 0 36 (LG last dp (sm4 q) p v7 v8 v9) [] (hG A B S.1 S.2 q) := by
  iterate 2 (refine V.s omX3_grow rfl rfl ?_)
  refine V.brF omX3_grow rfl rfl (by rw [nIl_le 4 (by omega) (by decide)]; omega) ?_
  iterate 2 (refine V.s omX3_grow rfl rfl ?_)
  refine V.ial omX3_grow rfl rfl (ixN nv_nI h4 (by decide)) ?_
  rw [xA24]
  iterate 10 (refine V.s omX3_grow rfl rfl ?_)
  iterate 2 (refine V.s omX3_grow rfl rfl ?_)
  have end120 : ∀ (v7 v8 v9 : Option Value), gsk lim bar last q p → V mX3_grow (n + 3) 0 0 Q 0 0 120 (LG last dp (sm4 q) p v7 v8 v9) [] (hG A B S.1 S.2 q) := by
    intro v7 v8 v9 hs
    iterate 2 (refine V.s omX3_grow rfl rfl ?_)
    rw [nI_1]
    have k2 := kk v7 v8 v9
    unfold gv at k2
    rw [if_pos hs] at k2
    exact k2
  by_cases h1 : nI p = last
  · refine V.brT omX3_grow rfl rfl h1 (fun h g => g h) ?_
    exact end120 _ _ _ (Or.inl h1)
  refine V.brF omX3_grow rfl rfl h1 ?_
  iterate 2 (refine V.s omX3_grow rfl rfl ?_)
  refine V.gf omX3_grow rfl rfl rfl rfl ?_
  rw [va_up_self, e2]
  by_cases h2 : nI p = bar
  · refine V.brT omX3_grow rfl rfl h2 (fun h g => g h) ?_
    exact end120 _ _ _ (Or.inr (Or.inl h2))
  refine V.brF omX3_grow rfl rfl h2 ?_
  iterate 2 (refine V.s omX3_grow rfl rfl ?_)
  refine V.gf omX3_grow rfl rfl rfl rfl ?_
  rw [va_up_self, e1]
  iterate 2 (refine V.s omX3_grow rfl rfl ?_)
  by_cases h3 : lim.toInt64 < gfr q p
  · refine V.brT omX3_grow rfl rfl (lgc_gt.mpr h3) (fun h => Int32.not_le.mpr h) ?_
    exact end120 _ _ _ (Or.inr (Or.inr h3))
  refine V.brF omX3_grow rfl rfl (fun h => h3 (lgc_gt.mp h)) ?_
  have hs : ¬ gsk lim bar last q p := fun g => g.elim h1 (fun g => g.elim h2 h3)
  iterate 4 (refine V.s omX3_grow rfl rfl ?_)
  refine V.iasH omX3_grow rfl rfl (ixN nv_nI h4 (by decide)) ?_
  rw [xA24, xA24u]
  rw [show (2 * sm4 q - 3 * (q p).toInt64) = gfr q p from rfl]
  iterate 3 (refine V.s omX3_grow rfl rfl ?_)
  refine V.ial omX3_grow rfl rfl (ixN nv_nI h4 (by decide)) ?_
  rw [xA24, pk_us]
  refine V.cVv omX3_grow omX3_note rfl rfl (hG_nt (n + 1) _) rfl rfl rfl rfl rfl rfl ?_
  iterate 5 (refine V.s omX3_grow rfl rfl ?_)
  rw [nI_1]
  have cg := IH (va_up (va_up A 24 (upd q p (gfr q p).toInt32)) 23 (ntF S.1 (gfr q p).toInt32)) (va_up B 23 (ntG S.2 (gfr q p).toInt32)) (nI p)
  rw [gRes_hG, ntF_ne (by decide) (by decide) (by decide) (by decide) (by decide), ntF_ne (by decide) (by decide) (by decide) (by decide) (by decide), e1, e2] at cg
  refine V.cSv omX3_grow omX3_grow rfl rfl cg rfl rfl rfl rfl ?_
  iterate 3 (refine V.s omX3_grow rfl rfl ?_)
  refine V.iasH omX3_grow rfl rfl (ixN nv_nI h4 (by decide)) ?_
  rw [xA24, xA24u, upd_back]
  iterate 2 (refine V.s omX3_grow rfl rfl ?_)
  rw [nI_1]
  have k2 := kk (some (.int (q p))) (some (.long (gfr q p))) none
  unfold gv at k2
  rw [if_neg hs, List.foldl_cons] at k2
  exact k2
set_option maxHeartbeats 4000000 in
set_option maxRecDepth 100000 in
theorem c_grow : ∀ (n dp : Nat), dp + n = 40 → ∀ (A : Nat → Nat → Int32) (B : Nat → Nat → Int64) (last : Int32), C mX3_grow (n + 2) 0 0 [.ref 23, .int last, .int (nI dp)] (hp A B) (fun r h' => h' = gRes A B n last ∧ r = none) := by
  intro n
  induction n with
  | zero =>
    intro dp hd A B last
    have : dp = 40 := by omega
    subst this
    refine C.of [some (.ref 23), some (.int last), some (.int (nI 40)), none, none, none, none, none, none, none] omX3_grow rfl rfl rfl ?_
    iterate 2 (refine V.s omX3_grow rfl rfl ?_)
    refine V.brF omX3_grow rfl rfl (by decide) ?_
    refine V.vret omX3_grow rfl rfl ⟨?_, rfl⟩
    show hp A B = hp (va_up A 23 (A 23)) (va_up B 23 (B 23))
    rw [va_self, vb_self]
  | succ n ih =>
    intro dp hd A B last
    refine C.of [some (.ref 23), some (.int last), some (.int (nI dp)), none, none, none, none, none, none, none] omX3_grow rfl rfl rfl ?_
    iterate 2 (refine V.s omX3_grow rfl rfl ?_)
    refine V.brT omX3_grow rfl rfl (by rw [nIl_lt 40 (by omega) (by decide)]; omega) (fun h => Int32.not_le.mpr h) ?_
    refine V.s omX3_grow rfl rfl ?_
    refine V.gf omX3_grow rfl rfl rfl rfl ?_
    have key : ∀ (Q : Option Value → hp_T → Prop), Q none (gRes A B (n + 1) last) → V mX3_grow (n + 3) 0 0 Q 0 0 36 (LG last dp (sm4 (A 24)) 0 none none none) [] (hG A B (A 23) (B 23) (A 24)) := by
      intro Q hQ
      refine gr_st n dp (ih (dp + 1) (by omega)) (p := 0) (by decide) (A 23, B 23) (lim := A 23 1) (bar := A 23 2) rfl rfl _ _ _ (fun v7 v8 v9 => ?_)
      refine gr_st n dp (ih (dp + 1) (by omega)) (p := 1) (by decide) _ (lim := A 23 1) (bar := A 23 2) (nv_ne (by decide) (by decide) (by decide) (by decide) (by decide) _ _) (nv_ne (by decide) (by decide) (by decide) (by decide) (by decide) _ _) _ _ _ (fun v7 v8 v9 => ?_)
      refine gr_st n dp (ih (dp + 1) (by omega)) (p := 2) (by decide) _ (lim := A 23 1) (bar := A 23 2) ((nv_ne (by decide) (by decide) (by decide) (by decide) (by decide) _ _).trans (nv_ne (by decide) (by decide) (by decide) (by decide) (by decide) _ _)) ((nv_ne (by decide) (by decide) (by decide) (by decide) (by decide) _ _).trans (nv_ne (by decide) (by decide) (by decide) (by decide) (by decide) _ _)) _ _ _ (fun v7 v8 v9 => ?_)
      refine gr_st n dp (ih (dp + 1) (by omega)) (p := 3) (by decide) _ (lim := A 23 1) (bar := A 23 2) ((nv_ne (by decide) (by decide) (by decide) (by decide) (by decide) _ _).trans ((nv_ne (by decide) (by decide) (by decide) (by decide) (by decide) _ _).trans (nv_ne (by decide) (by decide) (by decide) (by decide) (by decide) _ _))) ((nv_ne (by decide) (by decide) (by decide) (by decide) (by decide) _ _).trans ((nv_ne (by decide) (by decide) (by decide) (by decide) (by decide) _ _).trans (nv_ne (by decide) (by decide) (by decide) (by decide) (by decide) _ _))) _ _ _ (fun v7 v8 v9 => ?_)
      iterate 2 (refine V.s omX3_grow rfl rfl ?_)
      refine V.brT omX3_grow rfl rfl (by decide) (by decide) ?_
      refine V.vret omX3_grow rfl rfl ?_
      unfold gRes at hQ
      simp only [gk, List.foldl_append] at hQ
      unfold hG
      rw [va_self A 24]
      exact hQ
    have k1 := key (fun r h' => h' = gRes A B (n + 1) last ∧ r = none) ⟨rfl, rfl⟩
    unfold hG at k1
    rw [va_self A 24, va_self A 23, vb_self] at k1
    iterate 3 (refine V.s omX3_grow rfl rfl ?_)
    refine V.ial omX3_grow rfl rfl (ixN nv_lit (by omega) (by decide)) ?_
    iterate 3 (refine V.s omX3_grow rfl rfl ?_)
    refine V.ial omX3_grow rfl rfl (ixN nv_lit (by omega) (by decide)) ?_
    iterate 4 (refine V.s omX3_grow rfl rfl ?_)
    refine V.ial omX3_grow rfl rfl (ixN nv_lit (by omega) (by decide)) ?_
    iterate 4 (refine V.s omX3_grow rfl rfl ?_)
    refine V.ial omX3_grow rfl rfl (ixN nv_lit (by omega) (by decide)) ?_
    iterate 5 (refine V.s omX3_grow rfl rfl ?_)
    exact k1
end PK
