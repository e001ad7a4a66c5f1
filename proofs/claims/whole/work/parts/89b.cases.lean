section LAWK
variable {p : Program} {l : Launch} {e : Env} {s : State} {m : MethodId} {below : List Frame} {meth : Method} {c : Code} {b L : Nat} {xs : Nat → Int32} {w : wd_T} {i : Nat} {ls : Array Slot} {A : Nat → Nat → Int32} {B : Nat → Nat → Int64} {H : Heap} {locs : List Loc}
set_option maxRecDepth 100000 in
theorem cs_10 : (preB 487 [1, 2, 3] 58 62 67 127 && endI (487 + 1 + 5 * ([1, 2, 3] : List Nat).length + 3 + 1 + 5 * ([1, 2, 3] : List Nat).length + 3) 792) = true := by decide +kernel
set_option maxHeartbeats 4000000 in
set_option maxRecDepth 100000 in
theorem ca_10 (h : CT p l e s m below meth c b L xs w i ls A B H locs) : LWr p l e s m below meth c b H locs (F0 m 487 ls []) := la_I (x7 := 67) (x8 := 127) h omX7_of omX8_of rfl rfl rfl rfl cs_10 (g_of _ _ _)
set_option maxRecDepth 100000 in
theorem cs_11 : (preB 530 [1] 63 67 68 129 && endL (530 + 1 + 5 * ([1] : List Nat).length + 3 + 1 + 5 * ([1] : List Nat).length + 3) 768) = true := by decide +kernel
set_option maxHeartbeats 4000000 in
set_option maxRecDepth 100000 in
theorem ca_11 (h : CT p l e s m below meth c b L xs w i ls A B H locs) : LWr p l e s m below meth c b H locs (F0 m 530 ls []) := la_L (x7 := 68) (x8 := 129) h omX7_height omX8_height rfl rfl rfl rfl cs_11 (g_height _)
set_option maxRecDepth 100000 in
theorem cs_12 : (preB 554 [1, 2] 68 71 69 131 && endL (554 + 1 + 5 * ([1, 2] : List Nat).length + 3 + 1 + 5 * ([1, 2] : List Nat).length + 3) 734) = true := by decide +kernel
set_option maxHeartbeats 4000000 in
set_option maxRecDepth 100000 in
theorem ca_12 (h : CT p l e s m below meth c b L xs w i ls A B H locs) : LWr p l e s m below meth c b H locs (F0 m 554 ls []) := la_L (x7 := 69) (x8 := 131) h omX7_fourth omX8_fourth rfl rfl rfl rfl cs_12 (g_fourth _ _)
set_option maxRecDepth 100000 in
theorem cs_13 : (preB 588 [1, 2] 72 75 70 133 && endI (588 + 1 + 5 * ([1, 2] : List Nat).length + 3 + 1 + 5 * ([1, 2] : List Nat).length + 3) 701) = true := by decide +kernel
set_option maxHeartbeats 4000000 in
set_option maxRecDepth 100000 in
theorem ca_13 (h : CT p l e s m below meth c b L xs w i ls A B H locs) : LWr p l e s m below meth c b H locs (F0 m 588 ls []) := la_I (x7 := 70) (x8 := 133) h omX7_swap omX8_swap rfl rfl rfl rfl cs_13 (g_swap _ _)
set_option maxRecDepth 100000 in
theorem cs_14 : (preB 621 [1, 2, 3] 76 79 71 134 && endI (621 + 1 + 5 * ([1, 2, 3] : List Nat).length + 3 + 1 + 5 * ([1, 2, 3] : List Nat).length + 3) 658) = true := by decide +kernel
set_option maxHeartbeats 4000000 in
set_option maxRecDepth 100000 in
theorem ca_14 (h : CT p l e s m below meth c b L xs w i ls A B H locs) : LWr p l e s m below meth c b H locs (F0 m 621 ls []) := la_I (x7 := 71) (x8 := 134) h omX7_word omX8_word rfl rfl rfl rfl cs_14 (g_word _ _ _)
set_option maxRecDepth 100000 in
theorem cs_15 : (preB 664 [1] 80 83 72 138 && endI (664 + 1 + 5 * ([1] : List Nat).length + 3 + 1 + 5 * ([1] : List Nat).length + 3) 635) = true := by decide +kernel
set_option maxHeartbeats 4000000 in
set_option maxRecDepth 100000 in
theorem ca_15 (h : CT p l e s m below meth c b L xs w i ls A B H locs) : LWr p l e s m below meth c b H locs (F0 m 664 ls []) := la_I (x7 := 72) (x8 := 138) h omX7_least omX8_least rfl rfl rfl rfl cs_15 (g_least _)
set_option maxRecDepth 100000 in
theorem cs_16 : (preB 687 [] 84 87 73 139 && endI (687 + 1 + 5 * ([] : List Nat).length + 3 + 1 + 5 * ([] : List Nat).length + 3) 622) = true := by decide +kernel
set_option maxHeartbeats 4000000 in
set_option maxRecDepth 100000 in
theorem ca_16 (h : CT p l e s m below meth c b L xs w i ls A B H locs) : LWr p l e s m below meth c b H locs (F0 m 687 ls []) := la_I (x7 := 73) (x8 := 139) h omX7_led omX8_led rfl rfl rfl rfl cs_16 (g_led)
set_option maxRecDepth 100000 in
theorem cs_17 : (preB 700 [1, 2] 88 91 74 141 && endI (700 + 1 + 5 * ([1, 2] : List Nat).length + 3 + 1 + 5 * ([1, 2] : List Nat).length + 3) 589) = true := by decide +kernel
set_option maxHeartbeats 4000000 in
set_option maxRecDepth 100000 in
theorem ca_17 (h : CT p l e s m below meth c b L xs w i ls A B H locs) : LWr p l e s m below meth c b H locs (F0 m 700 ls []) := la_I (x7 := 74) (x8 := 141) h omX7_same omX8_same rfl rfl rfl rfl cs_17 (g_same _ _)
set_option maxRecDepth 100000 in
theorem cs_18 : (preB 733 [1] 92 95 75 143 && endI (733 + 1 + 5 * ([1] : List Nat).length + 3 + 1 + 5 * ([1] : List Nat).length + 3) 566) = true := by decide +kernel
set_option maxHeartbeats 4000000 in
set_option maxRecDepth 100000 in
theorem ca_18 (h : CT p l e s m below meth c b L xs w i ls A B H locs) : LWr p l e s m below meth c b H locs (F0 m 733 ls []) := la_I (x7 := 75) (x8 := 143) h omX7_shut omX8_shut rfl rfl rfl rfl cs_18 (g_shut _)
set_option maxRecDepth 100000 in
theorem cs_19 : (preB 756 [1, 2] 96 99 76 148 && endI (756 + 1 + 5 * ([1, 2] : List Nat).length + 3 + 1 + 5 * ([1, 2] : List Nat).length + 3) 533) = true := by decide +kernel
set_option maxHeartbeats 4000000 in
set_option maxRecDepth 100000 in
theorem ca_19 (h : CT p l e s m below meth c b L xs w i ls A B H locs) : LWr p l e s m below meth c b H locs (F0 m 756 ls []) := la_I (x7 := 76) (x8 := 148) h omX7_count omX8_count rfl rfl rfl rfl cs_19 (g_count _ _)
end LAWK
