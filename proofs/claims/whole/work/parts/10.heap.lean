def kisF : Nat → Option Nat := va_up (va_up (va_up (va_up (va_up (va_up (fun _ => none) 0 (some 7)) 1 (some 9)) 2 (some 11)) 3 (some 13)) 4 (some 15)) 5 (some 17)
def hp (A : Nat → Nat → Int32) (B : Nat → Nat → Int64) : hp_T := [.inr (5, [.ref 1, .ref 6, .ref 19, .ref 21, .ref 23, .ref 25, .ref 27, .ref 31, .ref 32, .int (A 0 9), .int (A 0 10), .int (A 0 11)]),
  .inr (3, [.ref 2, .ref 3, .ref 4, .ref 5, .int (A 1 4)]),
  .inl (80, .inl (A 2)),
  .inl (20, .inl (A 3)),
  .inl (20, .inl (A 4)),
  .inl (20, .inl (A 5)),
  .inl (6, .inr (.inr (.inr (.inr kisF)))),
  .inr (2, [.ref 8, .int (A 7 1)]),
  .inl (16, .inl (A 8)),
  .inr (2, [.ref 10, .int (A 9 1)]),
  .inl (16, .inl (A 10)),
  .inr (2, [.ref 12, .int (A 11 1)]),
  .inl (16, .inl (A 12)),
  .inr (2, [.ref 14, .int (A 13 1)]),
  .inl (16, .inl (A 14)),
  .inr (2, [.ref 16, .int (A 15 1)]),
  .inl (16, .inl (A 16)),
  .inr (2, [.ref 18, .int (A 17 1)]),
  .inl (16, .inl (A 18)),
  .inr (2, [.ref 20, .int (A 19 1)]),
  .inl (16, .inl (A 20)),
  .inr (2, [.ref 22, .int (A 21 1)]),
  .inl (16, .inl (A 22)),
  .inr (1, [.ref 24, .int (A 23 1), .int (A 23 2), .int (A 23 3), .int (A 23 4), .int (A 23 5), .int (A 23 6), .long (B 23 7), .int (A 23 8), .int (A 23 9)]),
  .inl (4, .inl (A 24)),
  .inr (0, [.ref 26, .int (A 25 1), .int (A 25 2)]),
  .inl (279, .inl (A 26)),
  .inr (4, [.ref 28, .ref 29, .ref 30, .int (A 27 3), .int (A 27 4)]),
  .inl (961, .inl (A 28)),
  .inl (279, .inl (A 29)),
  .inl (279, .inl (A 30)),
  .inl (16, .inl (A 31)),
  .inl (9, .inl (A 32)),
  .inr (6, [.ref 34, .ref 35, .ref 36, .ref 37, .ref 38, .int (A 33 5), .int (A 33 6), .int (A 33 7), .ref 39, .ref 40, .ref 41, .ref 42, .ref 43, .int (A 33 13), .int (A 33 14), .int (A 33 15), .int (A 33 16), .long (B 33 17), .ref 44, .ref 45, .int (A 33 20), .ref 46, .ref 47, .ref 48, .int (A 33 24), .int (A 33 25), .ref 49, .ref 50, .int (A 33 28)]),
  .inl (80, .inl (A 34)),
  .inl (20, .inl (A 35)),
  .inl (20, .inl (A 36)),
  .inl (20, .inl (A 37)),
  .inl (96, .inl (A 38)),
  .inl (9, .inl (A 39)),
  .inl (16, .inl (A 40)),
  .inl (4, .inr (.inl (B 41))),
  .inl (16, .inl (A 42)),
  .inl (4, .inr (.inl (B 43))),
  .inl (4, .inl (A 44)),
  .inl (400, .inl (A 45)),
  .inl (300, .inl (A 46)),
  .inl (300, .inl (A 47)),
  .inl (300, .inl (A 48)),
  .inl (16, .inl (A 49)),
  .inl (16, .inl (A 50))]
theorem kisF_at {k : Nat} (hk : k < 6) : kisF k = some (7 + 2 * k) := by
  rcases (show k = 0 ∨ k = 1 ∨ k = 2 ∨ k = 3 ∨ k = 4 ∨ k = 5 by omega) with rfl | rfl | rfl | rfl | rfl | rfl <;> rfl
theorem hpQ {A : Nat → Nat → Int32} {B : Nat → Nat → Int64} {k : Nat} (hk : k < 8) : (hp A B)[7 + 2 * k]? = some (.inr (2, [.ref (8 + 2 * k), .int (A (7 + 2 * k) 1)])) := by
  rcases (show k = 0 ∨ k = 1 ∨ k = 2 ∨ k = 3 ∨ k = 4 ∨ k = 5 ∨ k = 6 ∨ k = 7 by omega) with rfl | rfl | rfl | rfl | rfl | rfl | rfl | rfl <;> rfl
theorem hpR {A : Nat → Nat → Int32} {B : Nat → Nat → Int64} {k : Nat} (hk : k < 8) : (hp A B)[8 + 2 * k]? = some (.inl (16, .inl (A (8 + 2 * k)))) := by
  rcases (show k = 0 ∨ k = 1 ∨ k = 2 ∨ k = 3 ∨ k = 4 ∨ k = 5 ∨ k = 6 ∨ k = 7 by omega) with rfl | rfl | rfl | rfl | rfl | rfl | rfl | rfl <;> rfl
theorem hp_set {A : Nat → Nat → Int32} {B : Nat → Nat → Int64} {len : Nat} {f : Nat → Int32} (g : Nat → Int32) : ∀ {q : Nat}, (hp A B)[q]? = some (.inl (len, .inl f)) → (hp A B).set q (.inl (len, .inl g)) = hp (va_up A q g) B
  | 0, hq => by cases hq
  | 1, hq => by cases hq
  | 2, hq => by cases hq; rfl
  | 3, hq => by cases hq; rfl
  | 4, hq => by cases hq; rfl
  | 5, hq => by cases hq; rfl
  | 6, hq => by cases hq
  | 7, hq => by cases hq
  | 8, hq => by cases hq; rfl
  | 9, hq => by cases hq
  | 10, hq => by cases hq; rfl
  | 11, hq => by cases hq
  | 12, hq => by cases hq; rfl
  | 13, hq => by cases hq
  | 14, hq => by cases hq; rfl
  | 15, hq => by cases hq
  | 16, hq => by cases hq; rfl
  | 17, hq => by cases hq
  | 18, hq => by cases hq; rfl
  | 19, hq => by cases hq
  | 20, hq => by cases hq; rfl
  | 21, hq => by cases hq
  | 22, hq => by cases hq; rfl
  | 23, hq => by cases hq
  | 24, hq => by cases hq; rfl
  | 25, hq => by cases hq
  | 26, hq => by cases hq; rfl
  | 27, hq => by cases hq
  | 28, hq => by cases hq; rfl
  | 29, hq => by cases hq; rfl
  | 30, hq => by cases hq; rfl
  | 31, hq => by cases hq; rfl
  | 32, hq => by cases hq; rfl
  | 33, hq => by cases hq
  | 34, hq => by cases hq; rfl
  | 35, hq => by cases hq; rfl
  | 36, hq => by cases hq; rfl
  | 37, hq => by cases hq; rfl
  | 38, hq => by cases hq; rfl
  | 39, hq => by cases hq; rfl
  | 40, hq => by cases hq; rfl
  | 41, hq => by cases hq
  | 42, hq => by cases hq; rfl
  | 43, hq => by cases hq
  | 44, hq => by cases hq; rfl
  | 45, hq => by cases hq; rfl
  | 46, hq => by cases hq; rfl
  | 47, hq => by cases hq; rfl
  | 48, hq => by cases hq; rfl
  | 49, hq => by cases hq; rfl
  | 50, hq => by cases hq; rfl
  | n + 51, hq => by cases hq
theorem hp_setL {A : Nat → Nat → Int32} {B : Nat → Nat → Int64} {len : Nat} {f : Nat → Int64} (g : Nat → Int64) : ∀ {q : Nat}, (hp A B)[q]? = some (.inl (len, .inr (.inl f))) → (hp A B).set q (.inl (len, .inr (.inl g))) = hp A (va_up B q g)
  | 0, hq => by cases hq
  | 1, hq => by cases hq
  | 2, hq => by cases hq
  | 3, hq => by cases hq
  | 4, hq => by cases hq
  | 5, hq => by cases hq
  | 6, hq => by cases hq
  | 7, hq => by cases hq
  | 8, hq => by cases hq
  | 9, hq => by cases hq
  | 10, hq => by cases hq
  | 11, hq => by cases hq
  | 12, hq => by cases hq
  | 13, hq => by cases hq
  | 14, hq => by cases hq
  | 15, hq => by cases hq
  | 16, hq => by cases hq
  | 17, hq => by cases hq
  | 18, hq => by cases hq
  | 19, hq => by cases hq
  | 20, hq => by cases hq
  | 21, hq => by cases hq
  | 22, hq => by cases hq
  | 23, hq => by cases hq
  | 24, hq => by cases hq
  | 25, hq => by cases hq
  | 26, hq => by cases hq
  | 27, hq => by cases hq
  | 28, hq => by cases hq
  | 29, hq => by cases hq
  | 30, hq => by cases hq
  | 31, hq => by cases hq
  | 32, hq => by cases hq
  | 33, hq => by cases hq
  | 34, hq => by cases hq
  | 35, hq => by cases hq
  | 36, hq => by cases hq
  | 37, hq => by cases hq
  | 38, hq => by cases hq
  | 39, hq => by cases hq
  | 40, hq => by cases hq
  | 41, hq => by cases hq; rfl
  | 42, hq => by cases hq
  | 43, hq => by cases hq; rfl
  | 44, hq => by cases hq
  | 45, hq => by cases hq
  | 46, hq => by cases hq
  | 47, hq => by cases hq
  | 48, hq => by cases hq
  | 49, hq => by cases hq
  | 50, hq => by cases hq
  | n + 51, hq => by cases hq
theorem hp_get {A : Nat → Nat → Int32} {B : Nat → Nat → Int64} {len : Nat} {f : Nat → Int32} : ∀ {q : Nat}, (hp A B)[q]? = some (.inl (len, .inl f)) → f = A q
  | 0, hq => by cases hq
  | 1, hq => by cases hq
  | 2, hq => by cases hq; rfl
  | 3, hq => by cases hq; rfl
  | 4, hq => by cases hq; rfl
  | 5, hq => by cases hq; rfl
  | 6, hq => by cases hq
  | 7, hq => by cases hq
  | 8, hq => by cases hq; rfl
  | 9, hq => by cases hq
  | 10, hq => by cases hq; rfl
  | 11, hq => by cases hq
  | 12, hq => by cases hq; rfl
  | 13, hq => by cases hq
  | 14, hq => by cases hq; rfl
  | 15, hq => by cases hq
  | 16, hq => by cases hq; rfl
  | 17, hq => by cases hq
  | 18, hq => by cases hq; rfl
  | 19, hq => by cases hq
  | 20, hq => by cases hq; rfl
  | 21, hq => by cases hq
  | 22, hq => by cases hq; rfl
  | 23, hq => by cases hq
  | 24, hq => by cases hq; rfl
  | 25, hq => by cases hq
  | 26, hq => by cases hq; rfl
  | 27, hq => by cases hq
  | 28, hq => by cases hq; rfl
  | 29, hq => by cases hq; rfl
  | 30, hq => by cases hq; rfl
  | 31, hq => by cases hq; rfl
  | 32, hq => by cases hq; rfl
  | 33, hq => by cases hq
  | 34, hq => by cases hq; rfl
  | 35, hq => by cases hq; rfl
  | 36, hq => by cases hq; rfl
  | 37, hq => by cases hq; rfl
  | 38, hq => by cases hq; rfl
  | 39, hq => by cases hq; rfl
  | 40, hq => by cases hq; rfl
  | 41, hq => by cases hq
  | 42, hq => by cases hq; rfl
  | 43, hq => by cases hq
  | 44, hq => by cases hq; rfl
  | 45, hq => by cases hq; rfl
  | 46, hq => by cases hq; rfl
  | 47, hq => by cases hq; rfl
  | 48, hq => by cases hq; rfl
  | 49, hq => by cases hq; rfl
  | 50, hq => by cases hq; rfl
  | n + 51, hq => by cases hq
theorem hf_0 {A : Nat → Nat → Int32} {B : Nat → Nat → Int64} {v0 v : Int32} : ∀ {k : Nat}, ([.ref 1, .ref 6, .ref 19, .ref 21, .ref 23, .ref 25, .ref 27, .ref 31, .ref 32, .int (A 0 9), .int (A 0 10), .int (A 0 11)] : List Value)[k]? = some (.int v0) → (hp A B).set 0 (.inr (5, ([.ref 1, .ref 6, .ref 19, .ref 21, .ref 23, .ref 25, .ref 27, .ref 31, .ref 32, .int (A 0 9), .int (A 0 10), .int (A 0 11)] : List Value).set k (.int v))) = hp (va_up A 0 (upd (A 0) k v)) B
  | 0, hk => by cases hk
  | 1, hk => by cases hk
  | 2, hk => by cases hk
  | 3, hk => by cases hk
  | 4, hk => by cases hk
  | 5, hk => by cases hk
  | 6, hk => by cases hk
  | 7, hk => by cases hk
  | 8, hk => by cases hk
  | 9, hk => by cases hk; rfl
  | 10, hk => by cases hk; rfl
  | 11, hk => by cases hk; rfl
  | n + 12, hk => by cases hk
theorem hf_1 {A : Nat → Nat → Int32} {B : Nat → Nat → Int64} {v0 v : Int32} : ∀ {k : Nat}, ([.ref 2, .ref 3, .ref 4, .ref 5, .int (A 1 4)] : List Value)[k]? = some (.int v0) → (hp A B).set 1 (.inr (3, ([.ref 2, .ref 3, .ref 4, .ref 5, .int (A 1 4)] : List Value).set k (.int v))) = hp (va_up A 1 (upd (A 1) k v)) B
  | 0, hk => by cases hk
  | 1, hk => by cases hk
  | 2, hk => by cases hk
  | 3, hk => by cases hk
  | 4, hk => by cases hk; rfl
  | n + 5, hk => by cases hk
theorem hf_7 {A : Nat → Nat → Int32} {B : Nat → Nat → Int64} {v0 v : Int32} : ∀ {k : Nat}, ([.ref 8, .int (A 7 1)] : List Value)[k]? = some (.int v0) → (hp A B).set 7 (.inr (2, ([.ref 8, .int (A 7 1)] : List Value).set k (.int v))) = hp (va_up A 7 (upd (A 7) k v)) B
  | 0, hk => by cases hk
  | 1, hk => by cases hk; rfl
  | n + 2, hk => by cases hk
theorem hf_9 {A : Nat → Nat → Int32} {B : Nat → Nat → Int64} {v0 v : Int32} : ∀ {k : Nat}, ([.ref 10, .int (A 9 1)] : List Value)[k]? = some (.int v0) → (hp A B).set 9 (.inr (2, ([.ref 10, .int (A 9 1)] : List Value).set k (.int v))) = hp (va_up A 9 (upd (A 9) k v)) B
  | 0, hk => by cases hk
  | 1, hk => by cases hk; rfl
  | n + 2, hk => by cases hk
theorem hf_11 {A : Nat → Nat → Int32} {B : Nat → Nat → Int64} {v0 v : Int32} : ∀ {k : Nat}, ([.ref 12, .int (A 11 1)] : List Value)[k]? = some (.int v0) → (hp A B).set 11 (.inr (2, ([.ref 12, .int (A 11 1)] : List Value).set k (.int v))) = hp (va_up A 11 (upd (A 11) k v)) B
  | 0, hk => by cases hk
  | 1, hk => by cases hk; rfl
  | n + 2, hk => by cases hk
theorem hf_13 {A : Nat → Nat → Int32} {B : Nat → Nat → Int64} {v0 v : Int32} : ∀ {k : Nat}, ([.ref 14, .int (A 13 1)] : List Value)[k]? = some (.int v0) → (hp A B).set 13 (.inr (2, ([.ref 14, .int (A 13 1)] : List Value).set k (.int v))) = hp (va_up A 13 (upd (A 13) k v)) B
  | 0, hk => by cases hk
  | 1, hk => by cases hk; rfl
  | n + 2, hk => by cases hk
theorem hf_15 {A : Nat → Nat → Int32} {B : Nat → Nat → Int64} {v0 v : Int32} : ∀ {k : Nat}, ([.ref 16, .int (A 15 1)] : List Value)[k]? = some (.int v0) → (hp A B).set 15 (.inr (2, ([.ref 16, .int (A 15 1)] : List Value).set k (.int v))) = hp (va_up A 15 (upd (A 15) k v)) B
  | 0, hk => by cases hk
  | 1, hk => by cases hk; rfl
  | n + 2, hk => by cases hk
theorem hf_17 {A : Nat → Nat → Int32} {B : Nat → Nat → Int64} {v0 v : Int32} : ∀ {k : Nat}, ([.ref 18, .int (A 17 1)] : List Value)[k]? = some (.int v0) → (hp A B).set 17 (.inr (2, ([.ref 18, .int (A 17 1)] : List Value).set k (.int v))) = hp (va_up A 17 (upd (A 17) k v)) B
  | 0, hk => by cases hk
  | 1, hk => by cases hk; rfl
  | n + 2, hk => by cases hk
theorem hf_19 {A : Nat → Nat → Int32} {B : Nat → Nat → Int64} {v0 v : Int32} : ∀ {k : Nat}, ([.ref 20, .int (A 19 1)] : List Value)[k]? = some (.int v0) → (hp A B).set 19 (.inr (2, ([.ref 20, .int (A 19 1)] : List Value).set k (.int v))) = hp (va_up A 19 (upd (A 19) k v)) B
  | 0, hk => by cases hk
  | 1, hk => by cases hk; rfl
  | n + 2, hk => by cases hk
theorem hf_21 {A : Nat → Nat → Int32} {B : Nat → Nat → Int64} {v0 v : Int32} : ∀ {k : Nat}, ([.ref 22, .int (A 21 1)] : List Value)[k]? = some (.int v0) → (hp A B).set 21 (.inr (2, ([.ref 22, .int (A 21 1)] : List Value).set k (.int v))) = hp (va_up A 21 (upd (A 21) k v)) B
  | 0, hk => by cases hk
  | 1, hk => by cases hk; rfl
  | n + 2, hk => by cases hk
theorem hf_23 {A : Nat → Nat → Int32} {B : Nat → Nat → Int64} {v0 v : Int32} : ∀ {k : Nat}, ([.ref 24, .int (A 23 1), .int (A 23 2), .int (A 23 3), .int (A 23 4), .int (A 23 5), .int (A 23 6), .long (B 23 7), .int (A 23 8), .int (A 23 9)] : List Value)[k]? = some (.int v0) → (hp A B).set 23 (.inr (1, ([.ref 24, .int (A 23 1), .int (A 23 2), .int (A 23 3), .int (A 23 4), .int (A 23 5), .int (A 23 6), .long (B 23 7), .int (A 23 8), .int (A 23 9)] : List Value).set k (.int v))) = hp (va_up A 23 (upd (A 23) k v)) B
  | 0, hk => by cases hk
  | 1, hk => by cases hk; rfl
  | 2, hk => by cases hk; rfl
  | 3, hk => by cases hk; rfl
  | 4, hk => by cases hk; rfl
  | 5, hk => by cases hk; rfl
  | 6, hk => by cases hk; rfl
  | 7, hk => by cases hk
  | 8, hk => by cases hk; rfl
  | 9, hk => by cases hk; rfl
  | n + 10, hk => by cases hk
theorem hf_25 {A : Nat → Nat → Int32} {B : Nat → Nat → Int64} {v0 v : Int32} : ∀ {k : Nat}, ([.ref 26, .int (A 25 1), .int (A 25 2)] : List Value)[k]? = some (.int v0) → (hp A B).set 25 (.inr (0, ([.ref 26, .int (A 25 1), .int (A 25 2)] : List Value).set k (.int v))) = hp (va_up A 25 (upd (A 25) k v)) B
  | 0, hk => by cases hk
  | 1, hk => by cases hk; rfl
  | 2, hk => by cases hk; rfl
  | n + 3, hk => by cases hk
theorem hf_27 {A : Nat → Nat → Int32} {B : Nat → Nat → Int64} {v0 v : Int32} : ∀ {k : Nat}, ([.ref 28, .ref 29, .ref 30, .int (A 27 3), .int (A 27 4)] : List Value)[k]? = some (.int v0) → (hp A B).set 27 (.inr (4, ([.ref 28, .ref 29, .ref 30, .int (A 27 3), .int (A 27 4)] : List Value).set k (.int v))) = hp (va_up A 27 (upd (A 27) k v)) B
  | 0, hk => by cases hk
  | 1, hk => by cases hk
  | 2, hk => by cases hk
  | 3, hk => by cases hk; rfl
  | 4, hk => by cases hk; rfl
  | n + 5, hk => by cases hk
theorem hf_33 {A : Nat → Nat → Int32} {B : Nat → Nat → Int64} {v0 v : Int32} : ∀ {k : Nat}, ([.ref 34, .ref 35, .ref 36, .ref 37, .ref 38, .int (A 33 5), .int (A 33 6), .int (A 33 7), .ref 39, .ref 40, .ref 41, .ref 42, .ref 43, .int (A 33 13), .int (A 33 14), .int (A 33 15), .int (A 33 16), .long (B 33 17), .ref 44, .ref 45, .int (A 33 20), .ref 46, .ref 47, .ref 48, .int (A 33 24), .int (A 33 25), .ref 49, .ref 50, .int (A 33 28)] : List Value)[k]? = some (.int v0) → (hp A B).set 33 (.inr (6, ([.ref 34, .ref 35, .ref 36, .ref 37, .ref 38, .int (A 33 5), .int (A 33 6), .int (A 33 7), .ref 39, .ref 40, .ref 41, .ref 42, .ref 43, .int (A 33 13), .int (A 33 14), .int (A 33 15), .int (A 33 16), .long (B 33 17), .ref 44, .ref 45, .int (A 33 20), .ref 46, .ref 47, .ref 48, .int (A 33 24), .int (A 33 25), .ref 49, .ref 50, .int (A 33 28)] : List Value).set k (.int v))) = hp (va_up A 33 (upd (A 33) k v)) B
  | 0, hk => by cases hk
  | 1, hk => by cases hk
  | 2, hk => by cases hk
  | 3, hk => by cases hk
  | 4, hk => by cases hk
  | 5, hk => by cases hk; rfl
  | 6, hk => by cases hk; rfl
  | 7, hk => by cases hk; rfl
  | 8, hk => by cases hk
  | 9, hk => by cases hk
  | 10, hk => by cases hk
  | 11, hk => by cases hk
  | 12, hk => by cases hk
  | 13, hk => by cases hk; rfl
  | 14, hk => by cases hk; rfl
  | 15, hk => by cases hk; rfl
  | 16, hk => by cases hk; rfl
  | 17, hk => by cases hk
  | 18, hk => by cases hk
  | 19, hk => by cases hk
  | 20, hk => by cases hk; rfl
  | 21, hk => by cases hk
  | 22, hk => by cases hk
  | 23, hk => by cases hk
  | 24, hk => by cases hk; rfl
  | 25, hk => by cases hk; rfl
  | 26, hk => by cases hk
  | 27, hk => by cases hk
  | 28, hk => by cases hk; rfl
  | n + 29, hk => by cases hk
theorem hp_setF {A : Nat → Nat → Int32} {B : Nat → Nat → Int64} {ci k : Nat} {fs : List Value} {v0 v : Int32} : ∀ {q : Nat}, (hp A B)[q]? = some (.inr (ci, fs)) → fs[k]? = some (.int v0) → (hp A B).set q (.inr (ci, fs.set k (.int v))) = hp (va_up A q (upd (A q) k v)) B
  | 0, hq, hk => by cases hq; exact hf_0 hk
  | 1, hq, hk => by cases hq; exact hf_1 hk
  | 2, hq, hk => by cases hq
  | 3, hq, hk => by cases hq
  | 4, hq, hk => by cases hq
  | 5, hq, hk => by cases hq
  | 6, hq, hk => by cases hq
  | 7, hq, hk => by cases hq; exact hf_7 hk
  | 8, hq, hk => by cases hq
  | 9, hq, hk => by cases hq; exact hf_9 hk
  | 10, hq, hk => by cases hq
  | 11, hq, hk => by cases hq; exact hf_11 hk
  | 12, hq, hk => by cases hq
  | 13, hq, hk => by cases hq; exact hf_13 hk
  | 14, hq, hk => by cases hq
  | 15, hq, hk => by cases hq; exact hf_15 hk
  | 16, hq, hk => by cases hq
  | 17, hq, hk => by cases hq; exact hf_17 hk
  | 18, hq, hk => by cases hq
  | 19, hq, hk => by cases hq; exact hf_19 hk
  | 20, hq, hk => by cases hq
  | 21, hq, hk => by cases hq; exact hf_21 hk
  | 22, hq, hk => by cases hq
  | 23, hq, hk => by cases hq; exact hf_23 hk
  | 24, hq, hk => by cases hq
  | 25, hq, hk => by cases hq; exact hf_25 hk
  | 26, hq, hk => by cases hq
  | 27, hq, hk => by cases hq; exact hf_27 hk
  | 28, hq, hk => by cases hq
  | 29, hq, hk => by cases hq
  | 30, hq, hk => by cases hq
  | 31, hq, hk => by cases hq
  | 32, hq, hk => by cases hq
  | 33, hq, hk => by cases hq; exact hf_33 hk
  | 34, hq, hk => by cases hq
  | 35, hq, hk => by cases hq
  | 36, hq, hk => by cases hq
  | 37, hq, hk => by cases hq
  | 38, hq, hk => by cases hq
  | 39, hq, hk => by cases hq
  | 40, hq, hk => by cases hq
  | 41, hq, hk => by cases hq
  | 42, hq, hk => by cases hq
  | 43, hq, hk => by cases hq
  | 44, hq, hk => by cases hq
  | 45, hq, hk => by cases hq
  | 46, hq, hk => by cases hq
  | 47, hq, hk => by cases hq
  | 48, hq, hk => by cases hq
  | 49, hq, hk => by cases hq
  | 50, hq, hk => by cases hq
  | n + 51, hq, hk => by cases hq
theorem hp_setG23 {A : Nat → Nat → Int32} {B : Nat → Nat → Int64} {v : Int64} : (hp A B).set 23 (.inr (1, ([.ref 24, .int (A 23 1), .int (A 23 2), .int (A 23 3), .int (A 23 4), .int (A 23 5), .int (A 23 6), .long (B 23 7), .int (A 23 8), .int (A 23 9)] : List Value).set 7 (.long v))) = hp A (va_up B 23 (vp_updL (B 23) 7 v)) := rfl
theorem hp_setG33 {A : Nat → Nat → Int32} {B : Nat → Nat → Int64} {v : Int64} : (hp A B).set 33 (.inr (6, ([.ref 34, .ref 35, .ref 36, .ref 37, .ref 38, .int (A 33 5), .int (A 33 6), .int (A 33 7), .ref 39, .ref 40, .ref 41, .ref 42, .ref 43, .int (A 33 13), .int (A 33 14), .int (A 33 15), .int (A 33 16), .long (B 33 17), .ref 44, .ref 45, .int (A 33 20), .ref 46, .ref 47, .ref 48, .int (A 33 24), .int (A 33 25), .ref 49, .ref 50, .int (A 33 28)] : List Value).set 17 (.long v))) = hp A (va_up B 33 (vp_updL (B 33) 17 v)) := rfl
section RULESH
variable {M : mt_T} {d mc ms k n pc np x : Nat} {Q : Option Value → hp_T → Prop} {L : List (Option Value)} {st st' : List Value} {A : Nat → Nat → Int32} {B : Nat → Nat → Int64}
theorem V.iasH {q len j : Nat} {f : Nat → Int32} {i v : Int32} (hM : mOK M) (hi : lkf (m_tab M) pc = some (.iastore, np, x)) (hq : (hp A B)[q]? = some (.inl (len, .inl f))) (hin : ix i j len) (kk : V M d mc ms Q k n np L st (hp (va_up A q (upd (A q) j v)) B)) : V M d mc ms Q k n pc L (.int v :: .int i :: .ref q :: st) (hp A B) :=
  V.ias _ hM hi hq hin (by rw [hp_get hq]; exact hp_set _ hq) kk
theorem V.lasH {q len j : Nat} {f : Nat → Int64} {i : Int32} {v : Int64} (hM : mOK M) (hi : lkf (m_tab M) pc = some (.lastore, np, x)) (hq : (hp A B)[q]? = some (.inl (len, .inr (.inl f)))) (hin : ix i j len) (kk : V M d mc ms Q k n np L st (hp A (va_up B q (vp_updL f j v)))) : V M d mc ms Q k n pc L (.long v :: .int i :: .ref q :: st) (hp A B) :=
  V.las _ hM hi hq hin (hp_setL _ hq) kk
theorem V.pfH {j q ci kx : Nat} {fs : List Value} {v v0 : Int32} (hM : mOK M) (hi : lkf (m_tab M) pc = some (.putfield j, np, x)) (hq : (hp A B)[q]? = some (.inr (ci, fs))) (hc : x / 64 = ci) (hkx : x % 64 = kx) (hf : (kT ci kx).2.2.2 = false) (hv : okv (kty ci kx) (.int v) = true) (h0 : fs[kx]? = some (.int v0)) (kk : V M d mc ms Q k n np L st (hp (va_up A q (upd (A q) kx v)) B)) : V M d mc ms Q k n pc L (.int v :: .ref q :: st) (hp A B) := by
  subst hkx
  exact V.pf _ hM hi hq hc hf hv (List.getElem?_eq_some_iff.mp h0).1 (hp_setF hq h0) kk
theorem V.cpH {j q0 q1 n0 n1 sj dj nj : Nat} {f g : Nat → Int32} {sp dp cnt : Int32} (hM : mOK M) (hi : lkf (m_tab M) pc = some (.invokestatic j, np, 1001)) (ho : has2 acL M.2.2.2.2.1 j = true) (hq0 : (hp A B)[q0]? = some (.inl (n0, .inl f))) (hq1 : (hp A B)[q1]? = some (.inl (n1, .inl g))) (h1 : ¬ sp < 0 ∧ sp.toNatClampNeg = sj) (h2 : ¬ dp < 0 ∧ dp.toNatClampNeg = dj) (h3 : ¬ cnt < 0 ∧ cnt.toNatClampNeg = nj) (h4 : sj + nj ≤ n0) (h5 : dj + nj ≤ n1) (hroom : Nat.ble (st.map fun v => v.category).sum 8 = true) (kk : V M d mc ms Q k n np L st (hp (va_up A q1 (va_cpy (A q0) (A q1) sj dj nj)) B)) : V M d mc ms Q k n pc L (.int cnt :: .int dp :: .ref q1 :: .int sp :: .ref q0 :: st) (hp A B) :=
  V.cp _ hM hi ho hq0 hq1 h1 h2 h3 h4 h5 hroom (by rw [hp_get hq0, hp_get hq1]; exact hp_set _ hq1) kk
end RULESH
