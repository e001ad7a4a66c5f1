section SORT
def tk (f : Nat → Int64) : Nat → List Int64
  | 0 => []
  | n + 1 => tk f n ++ [f n]
theorem tk_ext {f g : Nat → Int64} : ∀ {n : Nat}, (∀ i, i < n → f i = g i) → tk f n = tk g n
  | 0, _ => rfl
  | n + 1, h => by
    show tk f n ++ [f n] = tk g n ++ [g n]
    rw [tk_ext (n := n) (fun i hi => h i (by omega)), h n (by omega)]
theorem ins8_hi : ∀ (a : Nat) (f : Nat → Int64) (v : Int64) (k : Nat), a < k → ins8 a f v k = f k
  | 0, f, v, k, h => pk_uLn (by omega)
  | a + 1, f, v, k, h => by
    unfold ins8
    split
    · rw [ins8_hi a _ v k (by omega), pk_uLn (by omega)]
    · exact pk_uLn (by omega)
theorem ins8_perm : ∀ (a : Nat) (f : Nat → Int64) (v : Int64), (tk (ins8 a f v) (a + 1)).Perm (v :: tk f a)
  | 0, f, v => by
    show ([] ++ [vp_updL f 0 v 0]).Perm [v]
    rw [pk_uLs]
    exact List.Perm.refl _
  | a + 1, f, v => by
    unfold ins8
    by_cases c : v < f a
    · rw [if_pos c]
      show (tk (ins8 a (vp_updL f (a + 1) (f a)) v) (a + 1) ++ [ins8 a (vp_updL f (a + 1) (f a)) v (a + 1)]).Perm (v :: (tk f a ++ [f a]))
      rw [ins8_hi a _ v (a + 1) (by omega), pk_uLs]
      have ih := ins8_perm a (vp_updL f (a + 1) (f a)) v
      rw [tk_ext (n := a) (f := vp_updL f (a + 1) (f a)) (g := f) (fun i hi => pk_uLn (by omega))] at ih
      exact ih.append_right [f a]
    · rw [if_neg c]
      show (tk (vp_updL f (a + 1) v) (a + 1) ++ [vp_updL f (a + 1) v (a + 1)]).Perm (v :: tk f (a + 1))
      rw [pk_uLs, tk_ext (n := a + 1) (f := vp_updL f (a + 1) v) (g := f) (fun i hi => pk_uLn (by omega))]
      exact List.perm_append_singleton v _
theorem ins8_sort : ∀ (a : Nat) (f : Nat → Int64) (v : Int64), (tk f a).Pairwise (· ≤ ·) → (tk (ins8 a f v) (a + 1)).Pairwise (· ≤ ·)
  | 0, f, v, _ => List.pairwise_singleton _ _
  | a + 1, f, v, h => by
    have h' : (tk f a ++ [f a]).Pairwise (· ≤ ·) := h
    rw [List.pairwise_append] at h'
    obtain ⟨h1, -, h3⟩ := h'
    have hx : ∀ x, x ∈ tk f a → x ≤ f a := fun x hx => h3 x hx (f a) List.mem_cons_self
    unfold ins8
    by_cases c : v < f a
    · rw [if_pos c]
      show (tk (ins8 a (vp_updL f (a + 1) (f a)) v) (a + 1) ++ [ins8 a (vp_updL f (a + 1) (f a)) v (a + 1)]).Pairwise (· ≤ ·)
      rw [ins8_hi a _ v (a + 1) (by omega), pk_uLs]
      have et : tk (vp_updL f (a + 1) (f a)) a = tk f a := tk_ext (fun i hi => pk_uLn (by omega))
      rw [List.pairwise_append]
      refine ⟨ins8_sort a _ v (by rw [et]; exact h1), List.pairwise_singleton _ _, fun x hx2 y hy => ?_⟩
      rw [List.mem_singleton.mp hy]
      have hp := (ins8_perm a (vp_updL f (a + 1) (f a)) v).mem_iff.mp hx2
      rw [et] at hp
      rcases List.mem_cons.mp hp with g | g
      · rw [g]; exact Int64.le_of_lt c
      · exact hx x g
    · rw [if_neg c]
      show (tk (vp_updL f (a + 1) v) (a + 1) ++ [vp_updL f (a + 1) v (a + 1)]).Pairwise (· ≤ ·)
      rw [pk_uLs, tk_ext (n := a + 1) (f := vp_updL f (a + 1) v) (g := f) (fun i hi => pk_uLn (by omega)), List.pairwise_append]
      refine ⟨h, List.pairwise_singleton _ _, fun x hx2 y hy => ?_⟩
      rw [List.mem_singleton.mp hy]
      have hv : f a ≤ v := Int64.not_lt.mp c
      rcases List.mem_append.mp (show x ∈ tk f a ++ [f a] from hx2) with g | g
      · exact Int64.le_trans (hx x g) hv
      · rw [List.mem_singleton.mp g]; exact hv
theorem so8_perm (b f : Nat → Int64) : (tk (so8 b f) 4).Perm [b 3, b 2, b 1, b 0] := by
  unfold so8
  refine (ins8_perm 3 _ (b 3)).trans (List.Perm.cons _ ?_)
  refine (ins8_perm 2 _ (b 2)).trans (List.Perm.cons _ ?_)
  refine (ins8_perm 1 _ (b 1)).trans (List.Perm.cons _ ?_)
  exact ins8_perm 0 _ (b 0)
theorem so8_sort (b f : Nat → Int64) : (tk (so8 b f) 4).Pairwise (· ≤ ·) := by
  unfold so8
  exact ins8_sort 3 _ _ (ins8_sort 2 _ _ (ins8_sort 1 _ _ (ins8_sort 0 _ _ List.Pairwise.nil)))
theorem so8_iff {b c f g : Nat → Int64} : tk (so8 b f) 4 = tk (so8 c g) 4 ↔ [b 3, b 2, b 1, b 0].Perm [c 3, c 2, c 1, c 0] := by
  constructor
  · intro h
    have h1 := so8_perm b f
    rw [h] at h1
    exact h1.symm.trans (so8_perm c g)
  · intro h
    exact List.Perm.eq_of_pairwise (fun x y _ _ h1 h2 => Int64.le_antisymm h1 h2) (so8_sort b f) (so8_sort c g) ((so8_perm b f).trans (h.trans (so8_perm c g).symm))
end SORT
