section LAWK
variable {p : Program} {l : Launch} {e : Env} {s : State} {m : MethodId} {below : List Frame} {meth : Method} {c : Code} {b L : Nat} {xs : Nat → Int32} {w : wd_T} {i : Nat} {ls : Array Slot} {A : Nat → Nat → Int32} {B : Nat → Nat → Int64} {H : Heap} {locs : List Loc}
set_option maxRecDepth 100000 in
theorem cs_29 : (preB 1113 [1, 2, 3] 138 141 86 165 && endI (1113 + 1 + 5 * ([1, 2, 3] : List Nat).length + 3 + 1 + 5 * ([1, 2, 3] : List Nat).length + 3) 166) = true := by decide +kernel
set_option maxHeartbeats 4000000 in
set_option maxRecDepth 100000 in
theorem ca_29 (h : CT p l e s m below meth c b L xs w i ls A B H locs) : LWr p l e s m below meth c b H locs (F0 m 1113 ls []) := la_I (x7 := 86) (x8 := 165) h omX7_way omX8_way rfl rfl rfl rfl cs_29 (g_way _ _ _)
set_option maxRecDepth 100000 in
theorem cs_30 : (preB 1156 [1] 142 145 87 166 && endI (1156 + 1 + 5 * ([1] : List Nat).length + 3 + 1 + 5 * ([1] : List Nat).length + 3) 143) = true := by decide +kernel
set_option maxHeartbeats 4000000 in
set_option maxRecDepth 100000 in
theorem ca_30 (h : CT p l e s m below meth c b L xs w i ls A B H locs) : LWr p l e s m below meth c b H locs (F0 m 1156 ls []) := la_I (x7 := 87) (x8 := 166) h omX7_step omX8_step rfl rfl rfl rfl cs_30 (g_step _)
set_option maxRecDepth 100000 in
theorem cs_31 : (preB 1179 [1] 146 149 88 167 && endI (1179 + 1 + 5 * ([1] : List Nat).length + 3 + 1 + 5 * ([1] : List Nat).length + 3) 120) = true := by decide +kernel
set_option maxHeartbeats 4000000 in
set_option maxRecDepth 100000 in
theorem ca_31 (h : CT p l e s m below meth c b L xs w i ls A B H locs) : LWr p l e s m below meth c b H locs (F0 m 1179 ls []) := la_I (x7 := 88) (x8 := 167) h omX7_lay omX8_lay rfl rfl rfl rfl cs_31 (g_lay _)
set_option maxRecDepth 100000 in
theorem cs_32 : (preB 1202 [] 150 153 89 168 && endI (1202 + 1 + 5 * ([] : List Nat).length + 3 + 1 + 5 * ([] : List Nat).length + 3) 107) = true := by decide +kernel
set_option maxHeartbeats 4000000 in
set_option maxRecDepth 100000 in
theorem ca_32 (h : CT p l e s m below meth c b L xs w i ls A B H locs) : LWr p l e s m below meth c b H locs (F0 m 1202 ls []) := la_I (x7 := 89) (x8 := 168) h omX7_tear omX8_tear rfl rfl rfl rfl cs_32 (g_tear)
set_option maxRecDepth 100000 in
theorem cs_33 : (preB 1215 [1] 154 157 90 169 && endI (1215 + 1 + 5 * ([1] : List Nat).length + 3 + 1 + 5 * ([1] : List Nat).length + 3) 84) = true := by decide +kernel
set_option maxHeartbeats 4000000 in
set_option maxRecDepth 100000 in
theorem ca_33 (h : CT p l e s m below meth c b L xs w i ls A B H locs) : LWr p l e s m below meth c b H locs (F0 m 1215 ls []) := la_I (x7 := 90) (x8 := 169) h omX7_row omX8_row rfl rfl rfl rfl cs_33 (g_row _)
set_option maxRecDepth 100000 in
theorem cs_34 : (preB 1238 [1, 2, 3] 158 161 91 170 && endI (1238 + 1 + 5 * ([1, 2, 3] : List Nat).length + 3 + 1 + 5 * ([1, 2, 3] : List Nat).length + 3) 41) = true := by decide +kernel
set_option maxHeartbeats 4000000 in
set_option maxRecDepth 100000 in
theorem ca_34 (h : CT p l e s m below meth c b L xs w i ls A B H locs) : LWr p l e s m below meth c b H locs (F0 m 1238 ls []) := la_I (x7 := 91) (x8 := 170) h omX7_copy omX8_copy rfl rfl rfl rfl cs_34 (g_copy _ _ _)
set_option maxRecDepth 100000 in
theorem cs_35 : (preB 1281 [] 162 165 92 171 && endI (1281 + 1 + 5 * ([] : List Nat).length + 3 + 1 + 5 * ([] : List Nat).length + 3) 28) = true := by decide +kernel
set_option maxHeartbeats 4000000 in
set_option maxRecDepth 100000 in
theorem ca_35 (h : CT p l e s m below meth c b L xs w i ls A B H locs) : LWr p l e s m below meth c b H locs (F0 m 1281 ls []) := la_I (x7 := 92) (x8 := 171) h omX7_give omX8_give rfl rfl rfl rfl cs_35 (g_give)
set_option maxRecDepth 100000 in
theorem cs_36 : (preB 1294 [1] 166 169 93 172 && endI (1294 + 1 + 5 * ([1] : List Nat).length + 3 + 1 + 5 * ([1] : List Nat).length + 3) 5) = true := by decide +kernel
set_option maxHeartbeats 4000000 in
set_option maxRecDepth 100000 in
theorem ca_36 (h : CT p l e s m below meth c b L xs w i ls A B H locs) : LWr p l e s m below meth c b H locs (F0 m 1294 ls []) := la_I (x7 := 93) (x8 := 172) h omX7_status omX8_status rfl rfl rfl rfl cs_36 (g_status _)
end LAWK
