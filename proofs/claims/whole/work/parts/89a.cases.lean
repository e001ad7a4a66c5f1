section LAWK
variable {p : Program} {l : Launch} {e : Env} {s : State} {m : MethodId} {below : List Frame} {meth : Method} {c : Code} {b L : Nat} {xs : Nat → Int32} {w : wd_T} {i : Nat} {ls : Array Slot} {A : Nat → Nat → Int32} {B : Nat → Nat → Int64} {H : Heap} {locs : List Loc}
set_option maxRecDepth 100000 in
theorem cs_0 : (preB 196 [1, 2, 3, 4] 13 17 57 111 && endI (196 + 1 + 5 * ([1, 2, 3, 4] : List Nat).length + 3 + 1 + 5 * ([1, 2, 3, 4] : List Nat).length + 3) 1073) = true := by decide +kernel
set_option maxHeartbeats 4000000 in
set_option maxRecDepth 100000 in
theorem ca_0 (h : CT p l e s m below meth c b L xs w i ls A B H locs) : LWr p l e s m below meth c b H locs (F0 m 196 ls []) := la_I (x7 := 57) (x8 := 111) h omX7_round omX8_round rfl rfl rfl rfl cs_0 (g_round _ _ _ _)
set_option maxRecDepth 100000 in
theorem cs_1 : (preB 249 [1, 2] 18 22 58 113 && endI (249 + 1 + 5 * ([1, 2] : List Nat).length + 3 + 1 + 5 * ([1, 2] : List Nat).length + 3) 1040) = true := by decide +kernel
set_option maxHeartbeats 4000000 in
set_option maxRecDepth 100000 in
theorem ca_1 (h : CT p l e s m below meth c b L xs w i ls A B H locs) : LWr p l e s m below meth c b H locs (F0 m 249 ls []) := la_I (x7 := 58) (x8 := 113) h omX7_over omX8_over rfl rfl rfl rfl cs_1 (g_over _ _)
set_option maxRecDepth 100000 in
theorem cs_2 : (preB 282 [] 23 27 59 114 && endI (282 + 1 + 5 * ([] : List Nat).length + 3 + 1 + 5 * ([] : List Nat).length + 3) 1027) = true := by decide +kernel
set_option maxHeartbeats 4000000 in
set_option maxRecDepth 100000 in
theorem ca_2 (h : CT p l e s m below meth c b L xs w i ls A B H locs) : LWr p l e s m below meth c b H locs (F0 m 282 ls []) := la_I (x7 := 59) (x8 := 114) h omX7_drop omX8_drop rfl rfl rfl rfl cs_2 (g_drop)
set_option maxRecDepth 100000 in
theorem cs_3 : (preB 295 [1, 2] 28 31 60 115 && endI (295 + 1 + 5 * ([1, 2] : List Nat).length + 3 + 1 + 5 * ([1, 2] : List Nat).length + 3) 994) = true := by decide +kernel
set_option maxHeartbeats 4000000 in
set_option maxRecDepth 100000 in
theorem ca_3 (h : CT p l e s m below meth c b L xs w i ls A B H locs) : LWr p l e s m below meth c b H locs (F0 m 295 ls []) := la_I (x7 := 60) (x8 := 115) h omX7_look omX8_look rfl rfl rfl rfl cs_3 (g_look _ _)
set_option maxRecDepth 100000 in
theorem cs_4 : (preB 328 [1, 2] 32 36 61 117 && endL (328 + 1 + 5 * ([1, 2] : List Nat).length + 3 + 1 + 5 * ([1, 2] : List Nat).length + 3) 960) = true := by decide +kernel
set_option maxHeartbeats 4000000 in
set_option maxRecDepth 100000 in
theorem ca_4 (h : CT p l e s m below meth c b L xs w i ls A B H locs) : LWr p l e s m below meth c b H locs (F0 m 328 ls []) := la_L (x7 := 61) (x8 := 117) h omX7_product omX8_product rfl rfl rfl rfl cs_4 (g_product _ _)
set_option maxRecDepth 100000 in
theorem cs_5 : (preB 362 [1, 2] 37 40 62 118 && endI (362 + 1 + 5 * ([1, 2] : List Nat).length + 3 + 1 + 5 * ([1, 2] : List Nat).length + 3) 927) = true := by decide +kernel
set_option maxHeartbeats 4000000 in
set_option maxRecDepth 100000 in
theorem ca_5 (h : CT p l e s m below meth c b L xs w i ls A B H locs) : LWr p l e s m below meth c b H locs (F0 m 362 ls []) := la_I (x7 := 62) (x8 := 118) h omX7_meet omX8_meet rfl rfl rfl rfl cs_5 (g_meet _ _)
set_option maxRecDepth 100000 in
theorem cs_6 : (preB 395 [1, 2] 41 44 63 119 && endI (395 + 1 + 5 * ([1, 2] : List Nat).length + 3 + 1 + 5 * ([1, 2] : List Nat).length + 3) 894) = true := by decide +kernel
set_option maxHeartbeats 4000000 in
set_option maxRecDepth 100000 in
theorem ca_6 (h : CT p l e s m below meth c b L xs w i ls A B H locs) : LWr p l e s m below meth c b H locs (F0 m 395 ls []) := la_I (x7 := 63) (x8 := 119) h omX7_mirror omX8_mirror rfl rfl rfl rfl cs_6 (g_mirror _ _)
set_option maxRecDepth 100000 in
theorem cs_7 : (preB 428 [1] 45 49 64 121 && endI (428 + 1 + 5 * ([1] : List Nat).length + 3 + 1 + 5 * ([1] : List Nat).length + 3) 871) = true := by decide +kernel
set_option maxHeartbeats 4000000 in
set_option maxRecDepth 100000 in
theorem ca_7 (h : CT p l e s m below meth c b L xs w i ls A B H locs) : LWr p l e s m below meth c b H locs (F0 m 428 ls []) := la_I (x7 := 64) (x8 := 121) h omX7_flip omX8_flip rfl rfl rfl rfl cs_7 (g_flip _)
set_option maxRecDepth 100000 in
theorem cs_8 : (preB 451 [1] 50 53 65 123 && endI (451 + 1 + 5 * ([1] : List Nat).length + 3 + 1 + 5 * ([1] : List Nat).length + 3) 848) = true := by decide +kernel
set_option maxHeartbeats 4000000 in
set_option maxRecDepth 100000 in
theorem ca_8 (h : CT p l e s m below meth c b L xs w i ls A B H locs) : LWr p l e s m below meth c b H locs (F0 m 451 ls []) := la_I (x7 := 65) (x8 := 123) h omX7_kiss omX8_kiss rfl rfl rfl rfl cs_8 (g_kiss _)
set_option maxRecDepth 100000 in
theorem cs_9 : (preB 474 [] 54 57 66 124 && endI (474 + 1 + 5 * ([] : List Nat).length + 3 + 1 + 5 * ([] : List Nat).length + 3) 835) = true := by decide +kernel
set_option maxHeartbeats 4000000 in
set_option maxRecDepth 100000 in
theorem ca_9 (h : CT p l e s m below meth c b L xs w i ls A B H locs) : LWr p l e s m below meth c b H locs (F0 m 474 ls []) := la_I (x7 := 66) (x8 := 124) h omX7_part omX8_part rfl rfl rfl rfl cs_9 (g_part)
end LAWK
