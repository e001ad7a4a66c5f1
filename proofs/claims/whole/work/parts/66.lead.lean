section LEADZ
variable {A : Nat → Nat → Int32} {B : Nat → Nat → Int64}
def gzi (d : Nat → Int) (i a : Nat) : Nat := if d a < d i then i else a
def gz (d : Nat → Int) : Nat := gzi d 3 (gzi d 2 (gzi d 1 0))
theorem gzi_lt {d : Nat → Int} {i a : Nat} (hi : i < 4) (ha : a < 4) : gzi d i a < 4 := by unfold gzi; split <;> assumption
theorem gz_lt (d : Nat → Int) : gz d < 4 := gzi_lt (by decide) (gzi_lt (by decide) (gzi_lt (by decide) (by decide)))
def su (d : Nat → Int) : Int := d 0 + d 1 + d 2 + d 3
def uz (d : Nat → Int) : Int := 2 * d (gz d) - su d
theorem swB_own (d : Nat → Int) (p : Nat) : swB d p p = 2 * su d - 3 * d p := if_pos rfl
theorem swB_oth (d : Nat → Int) {p i : Nat} (h : i ≠ p) : swB d p i = d i := if_neg h
theorem su_swB (d : Nat → Int) {p : Nat} (hp4 : p < 4) : su (swB d p) = 3 * su d - 4 * d p := by
  have own := swB_own d p
  unfold su at own
  unfold su
  rcases (show p = 0 ∨ p = 1 ∨ p = 2 ∨ p = 3 by omega) with rfl | rfl | rfl | rfl
  · rw [own, swB_oth d (i := 1) (by omega), swB_oth d (i := 2) (by omega), swB_oth d (i := 3) (by omega)]; omega
  · rw [own, swB_oth d (i := 0) (by omega), swB_oth d (i := 2) (by omega), swB_oth d (i := 3) (by omega)]; omega
  · rw [own, swB_oth d (i := 0) (by omega), swB_oth d (i := 1) (by omega), swB_oth d (i := 3) (by omega)]; omega
  · rw [own, swB_oth d (i := 0) (by omega), swB_oth d (i := 1) (by omega), swB_oth d (i := 2) (by omega)]; omega
theorem BK_su {d : Nat → Int} (h : BK d) : 0 ≤ su d := by
  have h1 := BK_pair h (i := 0) (j := 1) (by omega) (by omega) (by omega)
  have h2 := BK_pair h (i := 2) (j := 3) (by omega) (by omega) (by omega)
  unfold su
  omega
/-- two places and the two others -/
theorem rest2 {g c : Nat} (hg : g < 4) (hc : c < 4) (h : g ≠ c) : ∃ a b, a < 4 ∧ b < 4 ∧ a ≠ b ∧ a ≠ g ∧ a ≠ c ∧ b ≠ g ∧ b ≠ c ∧ ∀ d : Nat → Int, su d = d g + d c + (d a + d b) := by
  unfold su
  rcases (show g = 0 ∨ g = 1 ∨ g = 2 ∨ g = 3 by omega) with rfl | rfl | rfl | rfl <;> rcases (show c = 0 ∨ c = 1 ∨ c = 2 ∨ c = 3 by omega) with rfl | rfl | rfl | rfl
  · exact absurd rfl h
  · exact ⟨2, 3, by omega, by omega, by omega, by omega, by omega, by omega, by omega, fun d => by omega⟩
  · exact ⟨1, 3, by omega, by omega, by omega, by omega, by omega, by omega, by omega, fun d => by omega⟩
  · exact ⟨1, 2, by omega, by omega, by omega, by omega, by omega, by omega, by omega, fun d => by omega⟩
  · exact ⟨2, 3, by omega, by omega, by omega, by omega, by omega, by omega, by omega, fun d => by omega⟩
  · exact absurd rfl h
  · exact ⟨0, 3, by omega, by omega, by omega, by omega, by omega, by omega, by omega, fun d => by omega⟩
  · exact ⟨0, 2, by omega, by omega, by omega, by omega, by omega, by omega, by omega, fun d => by omega⟩
  · exact ⟨1, 3, by omega, by omega, by omega, by omega, by omega, by omega, by omega, fun d => by omega⟩
  · exact ⟨0, 3, by omega, by omega, by omega, by omega, by omega, by omega, by omega, fun d => by omega⟩
  · exact absurd rfl h
  · exact ⟨0, 1, by omega, by omega, by omega, by omega, by omega, by omega, by omega, fun d => by omega⟩
  · exact ⟨1, 2, by omega, by omega, by omega, by omega, by omega, by omega, by omega, fun d => by omega⟩
  · exact ⟨0, 2, by omega, by omega, by omega, by omega, by omega, by omega, by omega, fun d => by omega⟩
  · exact ⟨0, 1, by omega, by omega, by omega, by omega, by omega, by omega, by omega, fun d => by omega⟩
  · exact absurd rfl h
theorem u_step {d : Nat → Int} (h : BK d) (hu : 0 < uz d) (hu' : 0 < uz (swB d (gz d))) : uz (swB d (gz d)) + 2 ≤ uz d := by
  have hg := gz_lt d
  have hc := gz_lt (swB d (gz d))
  unfold uz at *
  generalize gz (swB d (gz d)) = c at *
  generalize gz d = g at *
  rw [su_swB d hg] at *
  by_cases e : g = c
  · subst e
    rw [swB_own] at hu'
    omega
  · rw [swB_oth d (fun q => e q.symm)] at *
    obtain ⟨a, b, ha, hb, n1, n2, n3, n4, n5, hs⟩ := rest2 hg hc e
    have hp := BK_pair h ha hb n1
    rw [hs d] at *
    by_cases z : d a + d b = 0
    · have := (BK_zero h ha hb hg hc n1 n2 n4 n3 n5 z).2
      omega
    · omega
def lz : Nat → (Nat → Int) → Option (Nat → Int)
  | 0, _ => none
  | n + 1, d => if 0 < uz d then lz n (swB d (gz d)) else some d
theorem lz_none : ∀ (n : Nat) (d : Nat → Int), BK d → lz n d = none → 2 * (n : Int) * n ≤ su d ∧ (1 ≤ n → 2 * (n : Int) - 1 ≤ uz d)
  | 0, d, h, _ => ⟨by have := BK_su h; simpa using this, fun g => by omega⟩
  | n + 1, d, h, e => by
    by_cases hu : 0 < uz d
    · simp only [lz, if_pos hu] at e
      have ih := lz_none n _ (BK_swap h (gz_lt d)) e
      have es := su_swB d (gz_lt d)
      have hu1 : 2 * ((n : Int) + 1) - 1 ≤ uz d := by
        by_cases hn : 1 ≤ n
        · have i2 := ih.2 hn
          have := u_step h hu (by omega)
          omega
        · have : n = 0 := by omega
          subst this
          omega
      refine ⟨?_, fun _ => by push_cast; exact hu1⟩
      have i1 := ih.1
      rw [es] at i1
      unfold uz at hu1
      have en : 2 * ((n : Int) + 1) * ((n : Int) + 1) = 2 * (n : Int) * n + 4 * n + 2 := by grind
      push_cast
      rw [en]
      omega
    · simp only [lz, if_neg hu] at e
      cases e
theorem lz_ends {d : Nat → Int} (h : BK d) (hb : ∀ i, i < 4 → bz (d i)) : ∃ d', lz 50000 d = some d' := by
  cases e : lz 50000 d with
  | some d' => exact ⟨d', rfl⟩
  | none =>
    have := (lz_none 50000 d h e).1
    have b0 := hb 0 (by omega)
    have b1 := hb 1 (by omega)
    have b2 := hb 2 (by omega)
    have b3 := hb 3 (by omega)
    unfold bz at *
    unfold su at this
    omega
theorem bz_swap {d : Nat → Int} (h : BK d) (hb : ∀ i, i < 4 → bz (d i)) (hu : 0 < uz d) : ∀ i, i < 4 → bz (swB d (gz d) i) := by
  intro i hi
  have hg := gz_lt d
  by_cases e : i = gz d
  · have h1 := BK_swap h hg
    obtain ⟨j, hj, hne⟩ : ∃ j, j < 4 ∧ j ≠ gz d := by
      by_cases g : gz d = 0
      · exact ⟨1, by omega, by omega⟩
      · exact ⟨0, by omega, fun q => g q.symm⟩
    have h2 := BK_pair h1 hg hj (fun q => hne q.symm)
    rw [swB_oth d hne] at h2
    have bj := hb j hj
    have bg := hb (gz d) hg
    rw [e]
    rw [swB_own] at h2 ⊢
    unfold uz at hu
    unfold bz at *
    omega
  · rw [swB_oth d e]
    exact hb i hi
theorem lz_BK : ∀ (n : Nat) (d d' : Nat → Int), BK d → (∀ i, i < 4 → bz (d i)) → lz n d = some d' → BK d' ∧ (∀ i, i < 4 → bz (d' i)) ∧ ¬ 0 < uz d'
  | 0, d, d', _, _, e => by cases e
  | n + 1, d, d', h, hb, e => by
    by_cases hu : 0 < uz d
    · simp only [lz, if_pos hu] at e
      exact lz_BK n _ d' (BK_swap h (gz_lt d)) (bz_swap h hb hu) e
    · simp only [lz, if_neg hu] at e
      cases e
      exact ⟨h, hb, hu⟩
/-! the class's own numbers -/
def bd (f : Nat → Int32) : Nat → Int := fun i => (f (4 * i)).toInt
theorem gst_z (f : Nat → Int32) : gst f = gz (bd f) := by
  have e1 : gs1 f = gzi (bd f) 1 0 := by
    unfold gs1 gzi bd
    by_cases h : f 0 < f 4
    · rw [if_pos h, if_pos (Int32.lt_iff_toInt_lt.mp h)]
    · rw [if_neg h, if_neg (fun g => h (Int32.lt_iff_toInt_lt.mpr g))]
  have e2 : gs2 f = gzi (bd f) 2 (gzi (bd f) 1 0) := by
    unfold gs2
    rw [e1]
    generalize gzi (bd f) 1 0 = a
    unfold gzi bd
    by_cases h : f (4 * a) < f 8
    · rw [if_pos h, if_pos (Int32.lt_iff_toInt_lt.mp h)]
    · rw [if_neg h, if_neg (fun g => h (Int32.lt_iff_toInt_lt.mpr g))]
  unfold gst gz
  rw [e2]
  generalize gzi (bd f) 2 (gzi (bd f) 1 0) = a
  unfold gzi bd
  by_cases h : f (4 * a) < f 12
  · rw [if_pos h, if_pos (Int32.lt_iff_toInt_lt.mp h)]
  · rw [if_neg h, if_neg (fun g => h (Int32.lt_iff_toInt_lt.mpr g))]
theorem swp0_z {f : Nat → Int32} (h : ∀ i, i < 4 → bz (bd f i)) {p : Nat} (hp4 : p < 4) : (swp f p 0).toInt = swB (bd f) p p := by
  have b0 : bz (f 0).toInt := h 0 (by omega)
  have b1 : bz (f 4).toInt := h 1 (by omega)
  have b2 : bz (f 8).toInt := h 2 (by omega)
  have b3 : bz (f 12).toInt := h 3 (by omega)
  have bp : bz (f (4 * p)).toInt := h p hp4
  have es : swB (bd f) p p = 2 * ((f 0).toInt + (f 4).toInt + (f 8).toInt + (f 12).toInt) - 3 * (f (4 * p)).toInt := swB_own (bd f) p
  rw [es]
  show (2 * ((f 0).toInt64 + (f 4).toInt64 + (f 8).toInt64 + (f 12).toInt64) - 3 * (f (4 * p)).toInt64).toInt = _
  clear es h
  unfold bz at *
  have e1 : ((f 0).toInt64 + (f 4).toInt64).toInt = (f 0).toInt + (f 4).toInt := by rw [zadd, z32, z32] <;> (rw [z32, z32]; omega)
  have e2 : ((f 0).toInt64 + (f 4).toInt64 + (f 8).toInt64).toInt = (f 0).toInt + (f 4).toInt + (f 8).toInt := by rw [zadd, e1, z32] <;> (rw [e1, z32]; omega)
  have e3 : ((f 0).toInt64 + (f 4).toInt64 + (f 8).toInt64 + (f 12).toInt64).toInt = (f 0).toInt + (f 4).toInt + (f 8).toInt + (f 12).toInt := by rw [zadd, e2, z32] <;> (rw [e2, z32]; omega)
  have e4 : (2 * ((f 0).toInt64 + (f 4).toInt64 + (f 8).toInt64 + (f 12).toInt64)).toInt = 2 * ((f 0).toInt + (f 4).toInt + (f 8).toInt + (f 12).toInt) := by rw [zmul, e3, show (2 : Int64).toInt = 2 from rfl] <;> (rw [e3, show (2 : Int64).toInt = 2 from rfl]; omega)
  have e5 : (3 * (f (4 * p)).toInt64).toInt = 3 * (f (4 * p)).toInt := by rw [zmul, z32, show (3 : Int64).toInt = 3 from rfl] <;> (rw [z32, show (3 : Int64).toInt = 3 from rfl]; omega)
  rw [zsub, e4, e5] <;> (rw [e4, e5]; omega)
theorem swp0_lt {f : Nat → Int32} (h : ∀ i, i < 4 → bz (bd f i)) : swp f (gst f) 0 < (f (4 * gst f)).toInt64 ↔ 0 < uz (bd f) := by
  rw [Int64.lt_iff_toInt_lt, swp0_z h (gst_lt f), z32, swB_own, gst_z]
  unfold uz bd
  omega
theorem bd_sw1 {f : Nat → Int32} (hk : BK (bd f)) (h : ∀ i, i < 4 → bz (bd f i)) (hu : 0 < uz (bd f)) : fitF (swp f (gst f) 0) = 1 ∧ ∀ i, i < 4 → bd (sw1 f (gst f)) i = swB (bd f) (gz (bd f)) i := by
  have hf : fitF (swp f (gst f) 0) = 1 := by
    rw [fit_z, swp0_z h (gst_lt f), gst_z]
    exact bz_swap hk h hu _ (gz_lt _)
  refine ⟨hf, fun i hi => ?_⟩
  rw [← gst_z]
  show (sw1 f (gst f) (4 * i)).toInt = _
  unfold sw1 swU
  by_cases e : i = gst f
  · subst e
    rw [Nat.add_zero, pk_us, fit_32 hf, swp0_z h (gst_lt f)]
  · rw [pk_un (by omega), swB_oth _ e]
    rfl
theorem BK_ext {d e : Nat → Int} (h : BK d) (g : ∀ i, i < 4 → e i = d i) : BK e := by
  obtain ⟨Z, k, f, q⟩ := h
  exact ⟨Z, k, f, fun i hi => by rw [g i hi]; exact q i hi⟩
theorem gz_ext {d e : Nat → Int} (g : ∀ i, i < 4 → e i = d i) : gz e = gz d := by
  have gi : ∀ i a, i < 4 → a < 4 → gzi e i a = gzi d i a := fun i a hi ha => by unfold gzi; rw [g i hi, g a ha]
  unfold gz
  rw [gi 1 0 (by omega) (by omega), gi 2 _ (by omega) (gzi_lt (by omega) (by omega)), gi 3 _ (by omega) (gzi_lt (by omega) (gzi_lt (by omega) (by omega)))]
theorem uz_ext {d e : Nat → Int} (g : ∀ i, i < 4 → e i = d i) : uz e = uz d := by
  unfold uz su
  rw [gz_ext g, g _ (gz_lt d), g 0 (by omega), g 1 (by omega), g 2 (by omega), g 3 (by omega)]
theorem swB_ext {d e : Nat → Int} (g : ∀ i, i < 4 → e i = d i) {p : Nat} (hp4 : p < 4) : ∀ i, i < 4 → swB e p i = swB d p i := by
  intro i hi
  unfold swB
  rw [g 0 (by omega), g 1 (by omega), g 2 (by omega), g 3 (by omega), g p hp4, g i hi]
/-- the class leads back just as the whole numbers do -/
theorem lb_lz : ∀ (n m s : Nat) (f : Nat → Int32) (fp : Int32) (d d' : Nat → Int), BK d → (∀ i, i < 4 → bz (d i)) → (∀ i, i < 4 → bd f i = d i) → lz n d = some d' → n ≤ m → ∀ i, i < 4 → bd (lb false m s f fp).2.1 i = d' i
  | 0, _, _, _, _, _, _, _, _, _, e, _ => by cases e
  | n + 1, 0, _, _, _, _, _, _, _, _, _, hm => by omega
  | n + 1, m + 1, s, f, fp, d, d', h, hb, hd, e, hm => by
    have hb' : ∀ i, i < 4 → bz (bd f i) := fun i hi => by rw [hd i hi]; exact hb i hi
    have hk' := BK_ext h hd
    by_cases hu : 0 < uz d
    · simp only [lz, if_pos hu] at e
      have hu' : 0 < uz (bd f) := by rw [uz_ext hd]; exact hu
      obtain ⟨f1, f2⟩ := bd_sw1 hk' hb' hu'
      have c1 := (swp0_lt hb').mpr hu'
      have c2 : lbOk false f (gst f) = true := decide_eq_true f1
      simp only [lb, if_pos c1, if_pos c2]
      refine lb_lz n m (s + 1) (sw1 f (gst f)) _ _ d' (BK_swap h (gz_lt d)) (bz_swap h hb hu) (fun i hi => ?_) e (by omega)
      rw [f2 i hi, gz_ext hd]
      exact swB_ext hd (gz_lt d) i hi
    · simp only [lz, if_neg hu] at e
      cases e
      have hu' : ¬ 0 < uz (bd f) := by rw [uz_ext hd]; exact hu
      have c1 : ¬ swp f (gst f) 0 < (f (4 * gst f)).toInt64 := fun g => hu' ((swp0_lt hb').mp g)
      simp only [lb, if_neg c1]
      exact hd
/-! the reference's own numbers -/
def bd8 (b : Nat → Int64) : Nat → Int := fun i => (b i).toInt
theorem g8_z (b : Nat → Int64) : g8 b = gz (bd8 b) := by
  have gi : ∀ i a, gix b i a = gzi (bd8 b) i a := by
    intro i a
    unfold gix gzi bd8
    by_cases h : b a < b i
    · rw [if_pos h, if_pos (Int64.lt_iff_toInt_lt.mp h)]
    · rw [if_neg h, if_neg (fun g => h (Int64.lt_iff_toInt_lt.mpr g))]
  have g0 : gzi (bd8 b) 0 0 = 0 := by unfold gzi; split <;> rfl
  unfold g8 gz
  rw [gi, gi, gi, gi, g0]
theorem ex8_z {b : Nat → Int64} (h : ∀ i, i < 4 → bz (bd8 b i)) {p : Nat} (hp4 : p < 4) : (ex8 b p).toInt = swB (bd8 b) p p := by
  have b0 := h 0 (by omega)
  have b1 := h 1 (by omega)
  have b2 := h 2 (by omega)
  have b3 := h 3 (by omega)
  have bp := h p hp4
  rw [swB_own]
  unfold su
  unfold bd8 bz at *
  unfold ex8
  have e1 : (b 0 + b 1).toInt = (b 0).toInt + (b 1).toInt := by rw [zadd] <;> omega
  have e2 : (b 0 + b 1 + b 2).toInt = (b 0).toInt + (b 1).toInt + (b 2).toInt := by rw [zadd, e1] <;> (rw [e1]; omega)
  have e3 : (b 0 + b 1 + b 2 + b 3).toInt = (b 0).toInt + (b 1).toInt + (b 2).toInt + (b 3).toInt := by rw [zadd, e2] <;> (rw [e2]; omega)
  have e4 : (b 0 + b 1 + b 2 + b 3 - b p).toInt = (b 0).toInt + (b 1).toInt + (b 2).toInt + (b 3).toInt - (b p).toInt := by rw [zsub, e3] <;> (rw [e3]; omega)
  have e5 : (2 * (b 0 + b 1 + b 2 + b 3 - b p)).toInt = 2 * ((b 0).toInt + (b 1).toInt + (b 2).toInt + (b 3).toInt - (b p).toInt) := by rw [zmul, e4, show (2 : Int64).toInt = 2 from rfl] <;> (rw [e4, show (2 : Int64).toInt = 2 from rfl]; omega)
  have e6 : (2 * (b 0 + b 1 + b 2 + b 3 - b p) - b p).toInt = 2 * ((b 0).toInt + (b 1).toInt + (b 2).toInt + (b 3).toInt - (b p).toInt) - (b p).toInt := by rw [zsub, e5] <;> (rw [e5]; omega)
  rw [e6]
  omega
theorem ex8_lt {b : Nat → Int64} (h : ∀ i, i < 4 → bz (bd8 b i)) : ex8 b (g8 b) < b (g8 b) ↔ 0 < uz (bd8 b) := by
  rw [Int64.lt_iff_toInt_lt, ex8_z h (g8_lt b), swB_own, g8_z]
  unfold uz bd8
  omega
theorem bd8_up {b : Nat → Int64} (h : ∀ i, i < 4 → bz (bd8 b i)) : ∀ i, i < 4 → bd8 (vp_updL b (g8 b) (ex8 b (g8 b))) i = swB (bd8 b) (gz (bd8 b)) i := by
  intro i hi
  rw [← g8_z]
  show (vp_updL b (g8 b) (ex8 b (g8 b)) i).toInt = _
  by_cases e : i = g8 b
  · subst e
    rw [pk_uLs, ex8_z h (g8_lt b)]
  · rw [pk_uLn e, swB_oth _ e]
    rfl
theorem ld_lz : ∀ (n : Nat) (b : Nat → Int64) (d d' : Nat → Int), BK d → (∀ i, i < 4 → bz (d i)) → (∀ i, i < 4 → bd8 b i = d i) → lz n d = some d' → ∃ b', ldF n b = some b' ∧ ∀ i, i < 4 → bd8 b' i = d' i
  | 0, _, _, _, _, _, _, e => by cases e
  | n + 1, b, d, d', h, hb, hd, e => by
    have hb' : ∀ i, i < 4 → bz (bd8 b i) := fun i hi => by rw [hd i hi]; exact hb i hi
    by_cases hu : 0 < uz d
    · simp only [lz, if_pos hu] at e
      have hu' : 0 < uz (bd8 b) := by rw [uz_ext hd]; exact hu
      have c1 := (ex8_lt hb').mpr hu'
      simp only [ldF, if_pos c1]
      refine ld_lz n _ _ d' (BK_swap h (gz_lt d)) (bz_swap h hb hu) (fun i hi => ?_) e
      rw [bd8_up hb' i hi, gz_ext hd]
      exact swB_ext hd (gz_lt d) i hi
    · simp only [lz, if_neg hu] at e
      cases e
      have hu' : ¬ 0 < uz (bd8 b) := by rw [uz_ext hd]; exact hu
      have c1 : ¬ ex8 b (g8 b) < b (g8 b) := fun g => hu' ((ex8_lt hb').mp g)
      simp only [ldF, if_neg c1]
      exact ⟨b, rfl, hd⟩
end LEADZ
