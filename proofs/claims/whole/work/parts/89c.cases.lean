section LAWK
variable {p : Program} {l : Launch} {e : Env} {s : State} {m : MethodId} {below : List Frame} {meth : Method} {c : Code} {b L : Nat} {xs : Nat → Int32} {w : wd_T} {i : Nat} {ls : Array Slot} {A : Nat → Nat → Int32} {B : Nat → Nat → Int64} {H : Heap} {locs : List Loc}
set_option maxRecDepth 100000 in
theorem cs_20 : (preB 789 [1, 2] 100 103 77 149 && endI (789 + 1 + 5 * ([1, 2] : List Nat).length + 3 + 1 + 5 * ([1, 2] : List Nat).length + 3) 500) = true := by decide +kernel
set_option maxHeartbeats 4000000 in
set_option maxRecDepth 100000 in
theorem ca_20 (h : CT p l e s m below meth c b L xs w i ls A B H locs) : LWr p l e s m below meth c b H locs (F0 m 789 ls []) := la_I (x7 := 77) (x8 := 149) h omX7_bends omX8_bends rfl rfl rfl rfl cs_20 (g_bends _ _)
set_option maxRecDepth 100000 in
theorem cs_21 : (preB 822 [1, 2] 104 107 78 150 && endI (822 + 1 + 5 * ([1, 2] : List Nat).length + 3 + 1 + 5 * ([1, 2] : List Nat).length + 3) 467) = true := by decide +kernel
set_option maxHeartbeats 4000000 in
set_option maxRecDepth 100000 in
theorem ca_21 (h : CT p l e s m below meth c b L xs w i ls A B H locs) : LWr p l e s m below meth c b H locs (F0 m 822 ls []) := la_I (x7 := 78) (x8 := 150) h omX7_next omX8_next rfl rfl rfl rfl cs_21 (g_next _ _)
set_option maxRecDepth 100000 in
theorem cs_22 : (preB 855 [1, 2] 108 111 79 151 && endI (855 + 1 + 5 * ([1, 2] : List Nat).length + 3 + 1 + 5 * ([1, 2] : List Nat).length + 3) 434) = true := by decide +kernel
set_option maxHeartbeats 4000000 in
set_option maxRecDepth 100000 in
theorem ca_22 (h : CT p l e s m below meth c b L xs w i ls A B H locs) : LWr p l e s m below meth c b H locs (F0 m 855 ls []) := la_I (x7 := 79) (x8 := 151) h omX7_rests omX8_rests rfl rfl rfl rfl cs_22 (g_rests _ _)
set_option maxRecDepth 100000 in
theorem cs_23 : (preB 888 [1, 2, 3] 112 116 80 152 && endL (888 + 1 + 5 * ([1, 2, 3] : List Nat).length + 3 + 1 + 5 * ([1, 2, 3] : List Nat).length + 3) 390) = true := by decide +kernel
set_option maxHeartbeats 4000000 in
set_option maxRecDepth 100000 in
theorem ca_23 (h : CT p l e s m below meth c b L xs w i ls A B H locs) : LWr p l e s m below meth c b H locs (F0 m 888 ls []) := la_L (x7 := 80) (x8 := 152) h omX7_sum omX8_sum rfl rfl rfl rfl cs_23 (g_sum _ _ _)
set_option maxRecDepth 100000 in
theorem cs_24 : (preB 932 [1, 2] 117 120 81 155 && endI (932 + 1 + 5 * ([1, 2] : List Nat).length + 3 + 1 + 5 * ([1, 2] : List Nat).length + 3) 357) = true := by decide +kernel
set_option maxHeartbeats 4000000 in
set_option maxRecDepth 100000 in
theorem ca_24 (h : CT p l e s m below meth c b L xs w i ls A B H locs) : LWr p l e s m below meth c b H locs (F0 m 932 ls []) := la_I (x7 := 81) (x8 := 155) h omX7_near omX8_near rfl rfl rfl rfl cs_24 (g_near _ _)
set_option maxRecDepth 100000 in
theorem cs_25 : (preB 965 [1, 2] 121 124 82 156 && endI (965 + 1 + 5 * ([1, 2] : List Nat).length + 3 + 1 + 5 * ([1, 2] : List Nat).length + 3) 324) = true := by decide +kernel
set_option maxHeartbeats 4000000 in
set_option maxRecDepth 100000 in
theorem ca_25 (h : CT p l e s m below meth c b L xs w i ls A B H locs) : LWr p l e s m below meth c b H locs (F0 m 965 ls []) := la_I (x7 := 82) (x8 := 156) h omX7_between omX8_between rfl rfl rfl rfl cs_25 (g_between _ _)
set_option maxRecDepth 100000 in
theorem cs_26 : (preB 998 [1] 125 128 83 160 && endI (998 + 1 + 5 * ([1] : List Nat).length + 3 + 1 + 5 * ([1] : List Nat).length + 3) 301) = true := by decide +kernel
set_option maxHeartbeats 4000000 in
set_option maxRecDepth 100000 in
theorem ca_26 (h : CT p l e s m below meth c b L xs w i ls A B H locs) : LWr p l e s m below meth c b H locs (F0 m 998 ls []) := la_I (x7 := 83) (x8 := 160) h omX7_fractions omX8_fractions rfl rfl rfl rfl cs_26 (g_fractions _)
set_option maxRecDepth 100000 in
theorem cs_27 : (preB 1021 [1, 2] 129 132 84 161 && endI (1021 + 1 + 5 * ([1, 2] : List Nat).length + 3 + 1 + 5 * ([1, 2] : List Nat).length + 3) 268) = true := by decide +kernel
set_option maxHeartbeats 4000000 in
set_option maxRecDepth 100000 in
theorem ca_27 (h : CT p l e s m below meth c b L xs w i ls A B H locs) : LWr p l e s m below meth c b H locs (F0 m 1021 ls []) := la_I (x7 := 84) (x8 := 161) h omX7_fraction omX8_fraction rfl rfl rfl rfl cs_27 (g_fraction _ _)
set_option maxRecDepth 100000 in
theorem cs_28 : besB 1054 133 137 85 163 209 = true := by decide +kernel
set_option maxHeartbeats 4000000 in
set_option maxRecDepth 100000 in
theorem ca_28 (h : CT p l e s m below meth c b L xs w i ls A B H locs) : LWr p l e s m below meth c b H locs (F0 m 1054 ls []) := la_B (x7 := 85) (x8 := 163) h omX7_beside omX8_beside rfl rfl rfl rfl cs_28 (g_beside _ _ _)
end LAWK
