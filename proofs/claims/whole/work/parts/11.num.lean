/-! numbers -/
theorem lgc_lt {x y : Int64} : lg_cmp x y < 0 ↔ x < y := by
  unfold lg_cmp
  split
  · next h => exact ⟨fun q => absurd q (by decide), fun q => (Int64.lt_irrefl (Int64.lt_trans q h)).elim⟩
  · next h => split
              · next h2 => subst h2; exact ⟨fun q => absurd q (by decide), fun q => (Int64.lt_irrefl q).elim⟩
              · next h2 => exact ⟨fun _ => (Int64.lt_or_eq_of_le (Int64.not_lt.mp h)).resolve_right h2, fun _ => by decide⟩
theorem lgc_eq {x y : Int64} : lg_cmp x y = 0 ↔ x = y := by
  unfold lg_cmp
  split
  · next h => exact ⟨fun q => absurd q (by decide), fun q => by subst q; exact (Int64.lt_irrefl h).elim⟩
  · next h => split
              · next h2 => exact ⟨fun _ => h2, fun _ => rfl⟩
              · next h2 => exact ⟨fun q => absurd q (by decide), fun q => absurd q h2⟩
theorem lgc_gt {x y : Int64} : 0 < lg_cmp x y ↔ y < x := by
  unfold lg_cmp
  split
  · next h => exact ⟨fun _ => h, fun _ => by decide⟩
  · next h => split
              · next h2 => exact ⟨fun q => absurd q (by decide), fun q => absurd q h⟩
              · next h2 => exact ⟨fun q => absurd q (by decide), fun q => absurd q h⟩
theorem lgc_ge {x y : Int64} : 0 ≤ lg_cmp x y ↔ y ≤ x := by
  rw [← Int32.not_lt, ← Int64.not_lt, lgc_lt]
theorem lgc_le {x y : Int64} : lg_cmp x y ≤ 0 ↔ x ≤ y := by
  rw [← Int32.not_lt, ← Int64.not_lt, lgc_gt]
/-- a number that is a natural one -/
def NV (i : Int32) (a : Nat) : Prop := i = nI a
theorem nv_nI {a : Nat} : NV (nI a) a := rfl
theorem nv_lit {n : Nat} : NV (OfNat.ofNat n) (OfNat.ofNat n) := rfl
theorem nv_add {i j : Int32} {a b : Nat} (h : NV i a) (g : NV j b) : NV (i + j) (a + b) := by unfold NV at *; rw [h, g, nI_add]
theorem nv_mul {i j : Int32} {a b : Nat} (h : NV i a) (g : NV j b) : NV (i * j) (a * b) := by unfold NV at *; rw [h, g, pk_mul]
theorem nv_of {i : Int32} {a : Nat} (h : i = nI a) : NV i a := h
theorem ixN {i : Int32} {j n : Nat} (h : NV i j) (hj : j < n) (hn : n < 2 ^ 31) : ix i j n := by unfold NV at h; rw [h]; exact ix_nI hj hn
/-! the class Numbers -/
def fitF (v : Int64) : Int32 := if -1000000000 ≤ v ∧ v ≤ 1000000000 then 1 else 0
theorem fitF_01 (v : Int64) : fitF v = 0 ∨ fitF v = 1 := by unfold fitF; split <;> simp
theorem c_fits (d : Nat) (v : Int64) (h : hp_T) : C mX2_fits d 0 0 [.long v] h (fun r h' => h' = h ∧ r = some (.int (fitF v))) := by
  refine C.of [some (.long v), none] omX2_fits rfl rfl rfl ?_
  repeat' (first | refine V.s omX2_fits rfl rfl ?_ | refine V.gf omX2_fits rfl rfl rfl rfl ?_ | refine V.br omX2_fits rfl rfl (fun hc => ?_) (fun hc => ?_))
  · refine V.zret omX2_fits rfl rfl (by decide) ⟨rfl, ?_⟩
    rw [lgc_lt] at hc
    simp [fitF, Int64.not_le.mpr hc]
  · refine V.zret omX2_fits rfl rfl (by decide) ⟨rfl, ?_⟩
    rw [lgc_gt] at hc
    simp [fitF, Int64.not_le.mpr hc]
  · refine V.zret omX2_fits rfl rfl (by decide) ⟨rfl, ?_⟩
    next h1 =>
    rw [lgc_ge] at h1
    rw [lgc_le] at hc
    simp [fitF, h1, hc]
def kbF (a : Int32) : Int32 := if a = 0 then 1 else 0
theorem c_kindByBend (d : Nat) (a : Int32) (h : hp_T) : C mX2_kindByBend d 0 0 [.int a] h (fun r h' => h' = h ∧ r = some (.int (kbF a))) := by
  refine C.of [some (.int a)] omX2_kindByBend rfl rfl rfl ?_
  repeat' (first | refine V.s omX2_kindByBend rfl rfl ?_ | refine V.gf omX2_kindByBend rfl rfl rfl rfl ?_ | refine V.br omX2_kindByBend rfl rfl (fun hc => ?_) (fun hc => ?_))
  · exact V.iret omX2_kindByBend rfl rfl ⟨rfl, by simp [kbF, hc]⟩
  · exact V.iret omX2_kindByBend rfl rfl ⟨rfl, by simp [kbF, hc]⟩
def mtF (v : Int64) : Int32 := if v < -2 then 5 else if 2 < v then 6 else if v = -2 then 1 else if v = 2 then 2 else if v = 0 then 3 else 4
theorem c_meetingBy (d : Nat) (v : Int64) (h : hp_T) : C mX2_meetingBy d 0 0 [.long v] h (fun r h' => h' = h ∧ r = some (.int (mtF v))) := by
  refine C.of [some (.long v), none] omX2_meetingBy rfl rfl rfl ?_
  repeat' (first | refine V.s omX2_meetingBy rfl rfl ?_ | refine V.gf omX2_meetingBy rfl rfl rfl rfl ?_ | refine V.br omX2_meetingBy rfl rfl (fun hc => ?_) (fun hc => ?_))
  all_goals refine V.iret omX2_meetingBy rfl rfl ⟨rfl, ?_⟩
  all_goals simp only [lgc_lt, lgc_eq, lgc_gt, lgc_ge, lgc_le, ← Int64.not_lt] at *
  all_goals simp [mtF, *]
def prd (f g : Nat → Int32) (i j : Nat) : Int64 := 2 * ((f (i + 2)).toInt64 * (g (j + 2)).toInt64 + (f (i + 3)).toInt64 * (g (j + 3)).toInt64) - (f i).toInt64 * (g (j + 1)).toInt64 - (g j).toInt64 * (f (i + 1)).toInt64
theorem c_productAt (d : Nat) {q len i j : Nat} {f : Nat → Int32} {h : hp_T} (hq : h[q]? = some (.inl (len, .inl f))) (hi : i + 3 < len) (hj : j + 3 < len) (hl : len < 2 ^ 31) : C mX2_productAt d 0 0 [.ref q, .int (nI i), .int (nI j)] h (fun r h' => h' = h ∧ r = some (.long (prd f f i j))) := by
  refine C.of [some (.ref q), some (.int (nI i)), some (.int (nI j)), none, none] omX2_productAt rfl rfl rfl ?_
  repeat (first | refine V.s omX2_productAt rfl rfl ?_ | refine V.ial omX2_productAt rfl hq (ixN nv_nI (by omega) hl) ?_ | refine V.ial omX2_productAt rfl hq (ixN (nv_add nv_nI nv_lit) (by omega) hl) ?_)
  exact V.lret omX2_productAt rfl rfl ⟨rfl, rfl⟩
