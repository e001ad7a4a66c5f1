section
-- ===== PART A: goes FIRST, ahead of the names: the tables' words, and 'selects' of the private methods out of them =====
/-- a private method of a class that the tables say can be made, by its rows of tables_1 -/
def lw_okq (q : MethodName × Nat) : Prop := (q.1.cls ≠ "java/lang/invoke/MethodHandle" ∧ q.1.cls ≠ "java/lang/invoke/VarHandle") ∧ Cond.instantiable q.1.cls q.2 ∈ tables_1 ∧ Cond.privateMethod q.1 ∈ tables_1 ∧ Cond.instanceMethod q.1 ∈ tables_1
theorem lw_p0 : lw_okq (⟨"RoundKiss", "refuse", "(I)I"⟩, 12) := ⟨⟨by decide +kernel, by decide +kernel⟩, List.mem_of_getElem? (i := 14) (by decide +kernel), List.mem_of_getElem? (i := 201) (by decide +kernel), List.mem_of_getElem? (i := 202) (by decide +kernel)⟩
theorem lw_p1 : lw_okq (⟨"RoundKiss", "refuseByZero", "(I)I"⟩, 12) := ⟨⟨by decide +kernel, by decide +kernel⟩, List.mem_of_getElem? (i := 14) (by decide +kernel), List.mem_of_getElem? (i := 244) (by decide +kernel), List.mem_of_getElem? (i := 245) (by decide +kernel)⟩
theorem lw_p2 : lw_okq (⟨"RoundKiss$Shelf", "mirrored", "(IIIJ)J"⟩, 5) := ⟨⟨by decide +kernel, by decide +kernel⟩, List.mem_of_getElem? (i := 22) (by decide +kernel), List.mem_of_getElem? (i := 288) (by decide +kernel), List.mem_of_getElem? (i := 289) (by decide +kernel)⟩
theorem lw_p3 : lw_okq (⟨"RoundKiss", "keepWork", "()I"⟩, 12) := ⟨⟨by decide +kernel, by decide +kernel⟩, List.mem_of_getElem? (i := 14) (by decide +kernel), List.mem_of_getElem? (i := 314) (by decide +kernel), List.mem_of_getElem? (i := 315) (by decide +kernel)⟩
theorem lw_p4 : lw_okq (⟨"RoundKiss", "hasPlace", "(II)Z"⟩, 12) := ⟨⟨by decide +kernel, by decide +kernel⟩, List.mem_of_getElem? (i := 14) (by decide +kernel), List.mem_of_getElem? (i := 346) (by decide +kernel), List.mem_of_getElem? (i := 347) (by decide +kernel)⟩
theorem lw_p5 : lw_okq (⟨"RoundKiss", "hasKiss", "(I)Z"⟩, 12) := ⟨⟨by decide +kernel, by decide +kernel⟩, List.mem_of_getElem? (i := 14) (by decide +kernel), List.mem_of_getElem? (i := 350) (by decide +kernel), List.mem_of_getElem? (i := 351) (by decide +kernel)⟩
theorem lw_p6 : lw_okq (⟨"RoundKiss", "whyNoLeast", "(I)I"⟩, 12) := ⟨⟨by decide +kernel, by decide +kernel⟩, List.mem_of_getElem? (i := 14) (by decide +kernel), List.mem_of_getElem? (i := 395) (by decide +kernel), List.mem_of_getElem? (i := 396) (by decide +kernel)⟩
theorem lw_p7 : lw_okq (⟨"RoundKiss$Quad", "placeOfGreatestBend", "()I"⟩, 2) := ⟨⟨by decide +kernel, by decide +kernel⟩, List.mem_of_getElem? (i := 51) (by decide +kernel), List.mem_of_getElem? (i := 404) (by decide +kernel), List.mem_of_getElem? (i := 405) (by decide +kernel)⟩
theorem lw_p8 : lw_okq (⟨"RoundKiss$Quad", "howOften", "(I)I"⟩, 2) := ⟨⟨by decide +kernel, by decide +kernel⟩, List.mem_of_getElem? (i := 51) (by decide +kernel), List.mem_of_getElem? (i := 427) (by decide +kernel), List.mem_of_getElem? (i := 428) (by decide +kernel)⟩
theorem lw_p9 : lw_okq (⟨"RoundKiss", "whyNoPackingUpTo", "(II)I"⟩, 12) := ⟨⟨by decide +kernel, by decide +kernel⟩, List.mem_of_getElem? (i := 14) (by decide +kernel), List.mem_of_getElem? (i := 443) (by decide +kernel), List.mem_of_getElem? (i := 444) (by decide +kernel)⟩
theorem lw_p10 : lw_okq (⟨"RoundKiss", "whyNoPacking", "(I)I"⟩, 12) := ⟨⟨by decide +kernel, by decide +kernel⟩, List.mem_of_getElem? (i := 14) (by decide +kernel), List.mem_of_getElem? (i := 447) (by decide +kernel), List.mem_of_getElem? (i := 448) (by decide +kernel)⟩
theorem lw_p11 : lw_okq (⟨"RoundKiss$Packing", "note", "(I)V"⟩, 10) := ⟨⟨by decide +kernel, by decide +kernel⟩, List.mem_of_getElem? (i := 66) (by decide +kernel), List.mem_of_getElem? (i := 456) (by decide +kernel), List.mem_of_getElem? (i := 457) (by decide +kernel)⟩
theorem lw_p12 : lw_okq (⟨"RoundKiss$Trail", "spread", "(III)V"⟩, 5) := ⟨⟨by decide +kernel, by decide +kernel⟩, List.mem_of_getElem? (i := 128) (by decide +kernel), List.mem_of_getElem? (i := 551) (by decide +kernel), List.mem_of_getElem? (i := 552) (by decide +kernel)⟩
theorem lw_p13 : lw_okq (⟨"RoundKiss$Trail", "find", "(II)V"⟩, 5) := ⟨⟨by decide +kernel, by decide +kernel⟩, List.mem_of_getElem? (i := 128) (by decide +kernel), List.mem_of_getElem? (i := 558) (by decide +kernel), List.mem_of_getElem? (i := 559) (by decide +kernel)⟩
theorem lw_p14 : lw_okq (⟨"RoundKiss$Trail", "findAllNear", "(II)V"⟩, 5) := ⟨⟨by decide +kernel, by decide +kernel⟩, List.mem_of_getElem? (i := 128) (by decide +kernel), List.mem_of_getElem? (i := 565) (by decide +kernel), List.mem_of_getElem? (i := 566) (by decide +kernel)⟩
theorem lw_p15 : lw_okq (⟨"RoundKiss$Trail", "findQuotient", "(IIII)V"⟩, 5) := ⟨⟨by decide +kernel, by decide +kernel⟩, List.mem_of_getElem? (i := 128) (by decide +kernel), List.mem_of_getElem? (i := 571) (by decide +kernel), List.mem_of_getElem? (i := 572) (by decide +kernel)⟩
def lw_privs_1 : List (MethodName × Nat) := [(⟨"RoundKiss", "refuse", "(I)I"⟩, 12), (⟨"RoundKiss", "refuseByZero", "(I)I"⟩, 12), (⟨"RoundKiss$Shelf", "mirrored", "(IIIJ)J"⟩, 5), (⟨"RoundKiss", "keepWork", "()I"⟩, 12), (⟨"RoundKiss", "hasPlace", "(II)Z"⟩, 12), (⟨"RoundKiss", "hasKiss", "(I)Z"⟩, 12), (⟨"RoundKiss", "whyNoLeast", "(I)I"⟩, 12), (⟨"RoundKiss$Quad", "placeOfGreatestBend", "()I"⟩, 2), (⟨"RoundKiss$Quad", "howOften", "(I)I"⟩, 2), (⟨"RoundKiss", "whyNoPackingUpTo", "(II)I"⟩, 12), (⟨"RoundKiss", "whyNoPacking", "(I)I"⟩, 12), (⟨"RoundKiss$Packing", "note", "(I)V"⟩, 10), (⟨"RoundKiss$Trail", "spread", "(III)V"⟩, 5), (⟨"RoundKiss$Trail", "find", "(II)V"⟩, 5), (⟨"RoundKiss$Trail", "findAllNear", "(II)V"⟩, 5), (⟨"RoundKiss$Trail", "findQuotient", "(IIII)V"⟩, 5)]
theorem lw_r1 : ∀ q ∈ lw_privs_1, lw_okq q := List.forall_mem_cons.mpr ⟨lw_p0, List.forall_mem_cons.mpr ⟨lw_p1, List.forall_mem_cons.mpr ⟨lw_p2, List.forall_mem_cons.mpr ⟨lw_p3, List.forall_mem_cons.mpr ⟨lw_p4, List.forall_mem_cons.mpr ⟨lw_p5, List.forall_mem_cons.mpr ⟨lw_p6, List.forall_mem_cons.mpr ⟨lw_p7, List.forall_mem_cons.mpr ⟨lw_p8, List.forall_mem_cons.mpr ⟨lw_p9, List.forall_mem_cons.mpr ⟨lw_p10, List.forall_mem_cons.mpr ⟨lw_p11, List.forall_mem_cons.mpr ⟨lw_p12, List.forall_mem_cons.mpr ⟨lw_p13, List.forall_mem_cons.mpr ⟨lw_p14, List.forall_mem_cons.mpr ⟨lw_p15, fun _ h => absurd h List.not_mem_nil⟩⟩⟩⟩⟩⟩⟩⟩⟩⟩⟩⟩⟩⟩⟩⟩
theorem lw_p16 : lw_okq (⟨"RoundKiss$Trail", "leastNear", "(LRoundKiss$FareyRow;II)I"⟩, 5) := ⟨⟨by decide +kernel, by decide +kernel⟩, List.mem_of_getElem? (i := 128) (by decide +kernel), List.mem_of_getElem? (i := 579) (by decide +kernel), List.mem_of_getElem? (i := 580) (by decide +kernel)⟩
theorem lw_p17 : lw_okq (⟨"RoundKissModel", "adds", "(JJJJI)I"⟩, 29) := ⟨⟨by decide +kernel, by decide +kernel⟩, List.mem_of_getElem? (i := 617) (by decide +kernel), List.mem_of_getElem? (i := 724) (by decide +kernel), List.mem_of_getElem? (i := 725) (by decide +kernel)⟩
theorem lw_p18 : lw_okq (⟨"RoundKissModel", "no", "(I)I"⟩, 29) := ⟨⟨by decide +kernel, by decide +kernel⟩, List.mem_of_getElem? (i := 617) (by decide +kernel), List.mem_of_getElem? (i := 728) (by decide +kernel), List.mem_of_getElem? (i := 729) (by decide +kernel)⟩
theorem lw_p19 : lw_okq (⟨"RoundKissModel", "isRound", "(I)Z"⟩, 29) := ⟨⟨by decide +kernel, by decide +kernel⟩, List.mem_of_getElem? (i := 617) (by decide +kernel), List.mem_of_getElem? (i := 749) (by decide +kernel), List.mem_of_getElem? (i := 750) (by decide +kernel)⟩
theorem lw_p20 : lw_okq (⟨"RoundKissModel", "none", "(I)I"⟩, 29) := ⟨⟨by decide +kernel, by decide +kernel⟩, List.mem_of_getElem? (i := 617) (by decide +kernel), List.mem_of_getElem? (i := 753) (by decide +kernel), List.mem_of_getElem? (i := 754) (by decide +kernel)⟩
theorem lw_p21 : lw_okq (⟨"RoundKissModel", "mirrored", "(IIIJ)J"⟩, 29) := ⟨⟨by decide +kernel, by decide +kernel⟩, List.mem_of_getElem? (i := 617) (by decide +kernel), List.mem_of_getElem? (i := 776) (by decide +kernel), List.mem_of_getElem? (i := 777) (by decide +kernel)⟩
theorem lw_p22 : lw_okq (⟨"RoundKissModel", "kisses", "()I"⟩, 29) := ⟨⟨by decide +kernel, by decide +kernel⟩, List.mem_of_getElem? (i := 617) (by decide +kernel), List.mem_of_getElem? (i := 789) (by decide +kernel), List.mem_of_getElem? (i := 790) (by decide +kernel)⟩
theorem lw_p23 : lw_okq (⟨"RoundKissModel", "isKiss", "(I)Z"⟩, 29) := ⟨⟨by decide +kernel, by decide +kernel⟩, List.mem_of_getElem? (i := 617) (by decide +kernel), List.mem_of_getElem? (i := 801) (by decide +kernel), List.mem_of_getElem? (i := 802) (by decide +kernel)⟩
theorem lw_p24 : lw_okq (⟨"RoundKissModel", "heightOf", "(I)J"⟩, 29) := ⟨⟨by decide +kernel, by decide +kernel⟩, List.mem_of_getElem? (i := 617) (by decide +kernel), List.mem_of_getElem? (i := 813) (by decide +kernel), List.mem_of_getElem? (i := 814) (by decide +kernel)⟩
theorem lw_p25 : lw_okq (⟨"RoundKissModel", "swapped", "(III)J"⟩, 29) := ⟨⟨by decide +kernel, by decide +kernel⟩, List.mem_of_getElem? (i := 617) (by decide +kernel), List.mem_of_getElem? (i := 821) (by decide +kernel), List.mem_of_getElem? (i := 822) (by decide +kernel)⟩
theorem lw_p26 : lw_okq (⟨"RoundKissModel", "swaps", "(II)Z"⟩, 29) := ⟨⟨by decide +kernel, by decide +kernel⟩, List.mem_of_getElem? (i := 617) (by decide +kernel), List.mem_of_getElem? (i := 829) (by decide +kernel), List.mem_of_getElem? (i := 830) (by decide +kernel)⟩
theorem lw_p27 : lw_okq (⟨"RoundKissModel", "greatest", "()I"⟩, 29) := ⟨⟨by decide +kernel, by decide +kernel⟩, List.mem_of_getElem? (i := 617) (by decide +kernel), List.mem_of_getElem? (i := 841) (by decide +kernel), List.mem_of_getElem? (i := 842) (by decide +kernel)⟩
theorem lw_p28 : lw_okq (⟨"RoundKissModel", "leads", "(I)V"⟩, 29) := ⟨⟨by decide +kernel, by decide +kernel⟩, List.mem_of_getElem? (i := 617) (by decide +kernel), List.mem_of_getElem? (i := 853) (by decide +kernel), List.mem_of_getElem? (i := 854) (by decide +kernel)⟩
theorem lw_p29 : lw_okq (⟨"RoundKissModel", "exchanges", "(I)V"⟩, 29) := ⟨⟨by decide +kernel, by decide +kernel⟩, List.mem_of_getElem? (i := 617) (by decide +kernel), List.mem_of_getElem? (i := 857) (by decide +kernel), List.mem_of_getElem? (i := 858) (by decide +kernel)⟩
theorem lw_p30 : lw_okq (⟨"RoundKissModel", "sorts", "()V"⟩, 29) := ⟨⟨by decide +kernel, by decide +kernel⟩, List.mem_of_getElem? (i := 617) (by decide +kernel), List.mem_of_getElem? (i := 861) (by decide +kernel), List.mem_of_getElem? (i := 862) (by decide +kernel)⟩
theorem lw_p31 : lw_okq (⟨"RoundKissModel", "isShut", "()Z"⟩, 29) := ⟨⟨by decide +kernel, by decide +kernel⟩, List.mem_of_getElem? (i := 617) (by decide +kernel), List.mem_of_getElem? (i := 869) (by decide +kernel), List.mem_of_getElem? (i := 870) (by decide +kernel)⟩
def lw_privs_2 : List (MethodName × Nat) := [(⟨"RoundKiss$Trail", "leastNear", "(LRoundKiss$FareyRow;II)I"⟩, 5), (⟨"RoundKissModel", "adds", "(JJJJI)I"⟩, 29), (⟨"RoundKissModel", "no", "(I)I"⟩, 29), (⟨"RoundKissModel", "isRound", "(I)Z"⟩, 29), (⟨"RoundKissModel", "none", "(I)I"⟩, 29), (⟨"RoundKissModel", "mirrored", "(IIIJ)J"⟩, 29), (⟨"RoundKissModel", "kisses", "()I"⟩, 29), (⟨"RoundKissModel", "isKiss", "(I)Z"⟩, 29), (⟨"RoundKissModel", "heightOf", "(I)J"⟩, 29), (⟨"RoundKissModel", "swapped", "(III)J"⟩, 29), (⟨"RoundKissModel", "swaps", "(II)Z"⟩, 29), (⟨"RoundKissModel", "greatest", "()I"⟩, 29), (⟨"RoundKissModel", "leads", "(I)V"⟩, 29), (⟨"RoundKissModel", "exchanges", "(I)V"⟩, 29), (⟨"RoundKissModel", "sorts", "()V"⟩, 29), (⟨"RoundKissModel", "isShut", "()Z"⟩, 29)]
theorem lw_r2 : ∀ q ∈ lw_privs_2, lw_okq q := List.forall_mem_cons.mpr ⟨lw_p16, List.forall_mem_cons.mpr ⟨lw_p17, List.forall_mem_cons.mpr ⟨lw_p18, List.forall_mem_cons.mpr ⟨lw_p19, List.forall_mem_cons.mpr ⟨lw_p20, List.forall_mem_cons.mpr ⟨lw_p21, List.forall_mem_cons.mpr ⟨lw_p22, List.forall_mem_cons.mpr ⟨lw_p23, List.forall_mem_cons.mpr ⟨lw_p24, List.forall_mem_cons.mpr ⟨lw_p25, List.forall_mem_cons.mpr ⟨lw_p26, List.forall_mem_cons.mpr ⟨lw_p27, List.forall_mem_cons.mpr ⟨lw_p28, List.forall_mem_cons.mpr ⟨lw_p29, List.forall_mem_cons.mpr ⟨lw_p30, List.forall_mem_cons.mpr ⟨lw_p31, fun _ h => absurd h List.not_mem_nil⟩⟩⟩⟩⟩⟩⟩⟩⟩⟩⟩⟩⟩⟩⟩⟩
theorem lw_p32 : lw_okq (⟨"RoundKissModel", "whyNot", "(IIII)I"⟩, 29) := ⟨⟨by decide +kernel, by decide +kernel⟩, List.mem_of_getElem? (i := 617) (by decide +kernel), List.mem_of_getElem? (i := 877) (by decide +kernel), List.mem_of_getElem? (i := 878) (by decide +kernel)⟩
theorem lw_p33 : lw_okq (⟨"RoundKissModel", "goesThrough", "(JII)V"⟩, 29) := ⟨⟨by decide +kernel, by decide +kernel⟩, List.mem_of_getElem? (i := 617) (by decide +kernel), List.mem_of_getElem? (i := 881) (by decide +kernel), List.mem_of_getElem? (i := 882) (by decide +kernel)⟩
theorem lw_p34 : lw_okq (⟨"RoundKissModel", "counts", "(JII)V"⟩, 29) := ⟨⟨by decide +kernel, by decide +kernel⟩, List.mem_of_getElem? (i := 617) (by decide +kernel), List.mem_of_getElem? (i := 885) (by decide +kernel), List.mem_of_getElem? (i := 886) (by decide +kernel)⟩
theorem lw_p35 : lw_okq (⟨"RoundKissModel", "meets", "(I)V"⟩, 29) := ⟨⟨by decide +kernel, by decide +kernel⟩, List.mem_of_getElem? (i := 617) (by decide +kernel), List.mem_of_getElem? (i := 890) (by decide +kernel), List.mem_of_getElem? (i := 891) (by decide +kernel)⟩
theorem lw_p36 : lw_okq (⟨"RoundKissModel", "makesRow", "(I)V"⟩, 29) := ⟨⟨by decide +kernel, by decide +kernel⟩, List.mem_of_getElem? (i := 617) (by decide +kernel), List.mem_of_getElem? (i := 934) (by decide +kernel), List.mem_of_getElem? (i := 935) (by decide +kernel)⟩
theorem lw_p37 : lw_okq (⟨"RoundKissModel", "isOf", "(II)Z"⟩, 29) := ⟨⟨by decide +kernel, by decide +kernel⟩, List.mem_of_getElem? (i := 617) (by decide +kernel), List.mem_of_getElem? (i := 946) (by decide +kernel), List.mem_of_getElem? (i := 947) (by decide +kernel)⟩
theorem lw_p38 : lw_okq (⟨"RoundKissModel", "placeOf", "(I)I"⟩, 29) := ⟨⟨by decide +kernel, by decide +kernel⟩, List.mem_of_getElem? (i := 617) (by decide +kernel), List.mem_of_getElem? (i := 950) (by decide +kernel), List.mem_of_getElem? (i := 951) (by decide +kernel)⟩
theorem lw_p39 : lw_okq (⟨"RoundKissModel", "areNear", "(II)Z"⟩, 29) := ⟨⟨by decide +kernel, by decide +kernel⟩, List.mem_of_getElem? (i := 617) (by decide +kernel), List.mem_of_getElem? (i := 958) (by decide +kernel), List.mem_of_getElem? (i := 959) (by decide +kernel)⟩
def lw_privs_3 : List (MethodName × Nat) := [(⟨"RoundKissModel", "whyNot", "(IIII)I"⟩, 29), (⟨"RoundKissModel", "goesThrough", "(JII)V"⟩, 29), (⟨"RoundKissModel", "counts", "(JII)V"⟩, 29), (⟨"RoundKissModel", "meets", "(I)V"⟩, 29), (⟨"RoundKissModel", "makesRow", "(I)V"⟩, 29), (⟨"RoundKissModel", "isOf", "(II)Z"⟩, 29), (⟨"RoundKissModel", "placeOf", "(I)I"⟩, 29), (⟨"RoundKissModel", "areNear", "(II)Z"⟩, 29)]
theorem lw_r3 : ∀ q ∈ lw_privs_3, lw_okq q := List.forall_mem_cons.mpr ⟨lw_p32, List.forall_mem_cons.mpr ⟨lw_p33, List.forall_mem_cons.mpr ⟨lw_p34, List.forall_mem_cons.mpr ⟨lw_p35, List.forall_mem_cons.mpr ⟨lw_p36, List.forall_mem_cons.mpr ⟨lw_p37, List.forall_mem_cons.mpr ⟨lw_p38, List.forall_mem_cons.mpr ⟨lw_p39, fun _ h => absurd h List.not_mem_nil⟩⟩⟩⟩⟩⟩⟩⟩
def lw_privs : List (MethodName × Nat) := lw_privs_1 ++ (lw_privs_2 ++ (lw_privs_3))
def lw_tbl : List Cond := k2_sels lw_privs ++ tables_1
theorem lw_privs_ok : ∀ q ∈ lw_privs, lw_okq q := by
  show ∀ q ∈ lw_privs_1 ++ (lw_privs_2 ++ (lw_privs_3)), lw_okq q
  exact List.forall_mem_append.mpr ⟨lw_r1, List.forall_mem_append.mpr ⟨lw_r2, lw_r3⟩⟩
def RX0 : String := "RoundKiss$FareyRow"
def TX0 : u_T := fun k => match k with
  | 0 => ("RoundKiss$FareyRow", "told", "[I", true)
  | 1 => ("RoundKiss$FareyRow", "order", "I", false)
  | _ => ("RoundKiss$FareyRow", "size", "I", false)
def tyX0 : Nat → FieldType := fun k => match k with
  | 0 => .array .int
  | 1 => .int
  | _ => .int
theorem nmX0 : ∀ a, a < 3 → ∀ b, b < 3 → a ≠ b → (TX0 a).2.1 ≠ (TX0 b).2.1 := by decide +kernel
theorem tyX0_ok : ∀ k, k < 3 → parseFieldDescriptor (TX0 k).2.2.1 = some (tyX0 k) := by decide +kernel
def RX1 : String := "RoundKiss$Fractions"
def TX1 : u_T := fun k => match k with
  | _ => ("", "", "", false)
def tyX1 : Nat → FieldType := fun k => match k with
  | _ => .int
theorem nmX1 : ∀ a, a < 0 → ∀ b, b < 0 → a ≠ b → (TX1 a).2.1 ≠ (TX1 b).2.1 := by decide +kernel
theorem tyX1_ok : ∀ k, k < 0 → parseFieldDescriptor (TX1 k).2.2.1 = some (tyX1 k) := by decide +kernel
def RX2 : String := "RoundKiss$Numbers"
def TX2 : u_T := fun k => match k with
  | _ => ("", "", "", false)
def tyX2 : Nat → FieldType := fun k => match k with
  | _ => .int
theorem nmX2 : ∀ a, a < 0 → ∀ b, b < 0 → a ≠ b → (TX2 a).2.1 ≠ (TX2 b).2.1 := by decide +kernel
theorem tyX2_ok : ∀ k, k < 0 → parseFieldDescriptor (TX2 k).2.2.1 = some (tyX2 k) := by decide +kernel
def RX3 : String := "RoundKiss$Packing"
def TX3 : u_T := fun k => match k with
  | 0 => ("RoundKiss$Packing", "quad", "[I", true)
  | 1 => ("RoundKiss$Packing", "limit", "I", false)
  | 2 => ("RoundKiss$Packing", "barred", "I", false)
  | 3 => ("RoundKiss$Packing", "floor", "I", false)
  | 4 => ("RoundKiss$Packing", "tally", "I", false)
  | 5 => ("RoundKiss$Packing", "tallyAtLimit", "I", false)
  | 6 => ("RoundKiss$Packing", "restBits", "I", false)
  | 7 => ("RoundKiss$Packing", "bendTotal", "J", false)
  | 8 => ("RoundKiss$Packing", "isAboveFound", "Z", false)
  | _ => ("RoundKiss$Packing", "leastAbove", "I", false)
def tyX3 : Nat → FieldType := fun k => match k with
  | 0 => .array .int
  | 1 => .int
  | 2 => .int
  | 3 => .int
  | 4 => .int
  | 5 => .int
  | 6 => .int
  | 7 => .long
  | 8 => .boolean
  | _ => .int
theorem nmX3 : ∀ a, a < 10 → ∀ b, b < 10 → a ≠ b → (TX3 a).2.1 ≠ (TX3 b).2.1 := by decide +kernel
theorem tyX3_ok : ∀ k, k < 10 → parseFieldDescriptor (TX3 k).2.2.1 = some (tyX3 k) := by decide +kernel
def RX4 : String := "RoundKiss$Quad"
def TX4 : u_T := fun k => match k with
  | 0 => ("RoundKiss$Quad", "numbers", "[I", true)
  | _ => ("RoundKiss$Quad", "firstPlaces", "I", false)
def tyX4 : Nat → FieldType := fun k => match k with
  | 0 => .array .int
  | _ => .int
theorem nmX4 : ∀ a, a < 2 → ∀ b, b < 2 → a ≠ b → (TX4 a).2.1 ≠ (TX4 b).2.1 := by decide +kernel
theorem tyX4_ok : ∀ k, k < 2 → parseFieldDescriptor (TX4 k).2.2.1 = some (tyX4 k) := by decide +kernel
def RX5 : String := "RoundKiss$Shelf"
def TX5 : u_T := fun k => match k with
  | 0 => ("RoundKiss$Shelf", "numbers", "[I", true)
  | 1 => ("RoundKiss$Shelf", "kinds", "[I", true)
  | 2 => ("RoundKiss$Shelf", "tops", "[I", true)
  | 3 => ("RoundKiss$Shelf", "bottoms", "[I", true)
  | _ => ("RoundKiss$Shelf", "size", "I", false)
def tyX5 : Nat → FieldType := fun k => match k with
  | 0 => .array .int
  | 1 => .array .int
  | 2 => .array .int
  | 3 => .array .int
  | _ => .int
theorem nmX5 : ∀ a, a < 5 → ∀ b, b < 5 → a ≠ b → (TX5 a).2.1 ≠ (TX5 b).2.1 := by decide +kernel
theorem tyX5_ok : ∀ k, k < 5 → parseFieldDescriptor (TX5 k).2.2.1 = some (tyX5 k) := by decide +kernel
def RX6 : String := "RoundKiss$Trail"
def TX6 : u_T := fun k => match k with
  | 0 => ("RoundKiss$Trail", "reach", "[I", true)
  | 1 => ("RoundKiss$Trail", "found", "[I", true)
  | 2 => ("RoundKiss$Trail", "stops", "[I", true)
  | 3 => ("RoundKiss$Trail", "foundThere", "I", false)
  | _ => ("RoundKiss$Trail", "steps", "I", false)
def tyX6 : Nat → FieldType := fun k => match k with
  | 0 => .array .int
  | 1 => .array .int
  | 2 => .array .int
  | 3 => .int
  | _ => .int
theorem nmX6 : ∀ a, a < 5 → ∀ b, b < 5 → a ≠ b → (TX6 a).2.1 ≠ (TX6 b).2.1 := by decide +kernel
theorem tyX6_ok : ∀ k, k < 5 → parseFieldDescriptor (TX6 k).2.2.1 = some (tyX6 k) := by decide +kernel
def RX7 : String := "RoundKiss"
def TX7 : u_T := fun k => match k with
  | 0 => ("RoundKiss", "shelf", "LRoundKiss$Shelf;", true)
  | 1 => ("RoundKiss", "kisses", "[LRoundKiss$Quad;", true)
  | 2 => ("RoundKiss", "work", "LRoundKiss$Quad;", true)
  | 3 => ("RoundKiss", "secondWork", "LRoundKiss$Quad;", true)
  | 4 => ("RoundKiss", "packing", "LRoundKiss$Packing;", true)
  | 5 => ("RoundKiss", "farey", "LRoundKiss$FareyRow;", true)
  | 6 => ("RoundKiss", "trail", "LRoundKiss$Trail;", true)
  | 7 => ("RoundKiss", "laid", "[I", true)
  | 8 => ("RoundKiss", "refusals", "[I", true)
  | 9 => ("RoundKiss", "kissesThere", "I", false)
  | 10 => ("RoundKiss", "ledPlaces", "I", false)
  | _ => ("RoundKiss", "isLaid", "Z", false)
def tyX7 : Nat → FieldType := fun k => match k with
  | 0 => .object "RoundKiss$Shelf"
  | 1 => .array (.object "RoundKiss$Quad")
  | 2 => .object "RoundKiss$Quad"
  | 3 => .object "RoundKiss$Quad"
  | 4 => .object "RoundKiss$Packing"
  | 5 => .object "RoundKiss$FareyRow"
  | 6 => .object "RoundKiss$Trail"
  | 7 => .array .int
  | 8 => .array .int
  | 9 => .int
  | 10 => .int
  | _ => .boolean
theorem nmX7 : ∀ a, a < 12 → ∀ b, b < 12 → a ≠ b → (TX7 a).2.1 ≠ (TX7 b).2.1 := by decide +kernel
theorem tyX7_ok : ∀ k, k < 12 → parseFieldDescriptor (TX7 k).2.2.1 = some (tyX7 k) := by decide +kernel
def RX8 : String := "RoundKissModel"
def TX8 : u_T := fun k => match k with
  | 0 => ("RoundKissModel", "rounds", "[I", true)
  | 1 => ("RoundKissModel", "kind", "[I", true)
  | 2 => ("RoundKissModel", "upper", "[I", true)
  | 3 => ("RoundKissModel", "lower", "[I", true)
  | 4 => ("RoundKissModel", "kisses", "[I", true)
  | 5 => ("RoundKissModel", "many", "I", false)
  | 6 => ("RoundKissModel", "kissed", "I", false)
  | 7 => ("RoundKissModel", "ledTo", "I", false)
  | 8 => ("RoundKissModel", "refused", "[I", true)
  | 9 => ("RoundKissModel", "four", "[I", true)
  | 10 => ("RoundKissModel", "bend", "[J", true)
  | 11 => ("RoundKissModel", "kept", "[I", true)
  | 12 => ("RoundKissModel", "sorted", "[J", true)
  | 13 => ("RoundKissModel", "rounds0", "I", false)
  | 14 => ("RoundKissModel", "exactly", "I", false)
  | 15 => ("RoundKissModel", "restBits", "I", false)
  | 16 => ("RoundKissModel", "nextOne", "I", false)
  | 17 => ("RoundKissModel", "sumAll", "J", false)
  | 18 => ("RoundKissModel", "touching", "[I", true)
  | 19 => ("RoundKissModel", "path", "[I", true)
  | 20 => ("RoundKissModel", "hasNext", "Z", false)
  | 21 => ("RoundKissModel", "row", "[I", true)
  | 22 => ("RoundKissModel", "from", "[I", true)
  | 23 => ("RoundKissModel", "way", "[I", true)
  | 24 => ("RoundKissModel", "rowSize", "I", false)
  | 25 => ("RoundKissModel", "wayLong", "I", false)
  | 26 => ("RoundKissModel", "told", "[I", true)
  | 27 => ("RoundKissModel", "moved", "[I", true)
  | _ => ("RoundKissModel", "hasRow", "Z", false)
def tyX8 : Nat → FieldType := fun k => match k with
  | 0 => .array .int
  | 1 => .array .int
  | 2 => .array .int
  | 3 => .array .int
  | 4 => .array .int
  | 5 => .int
  | 6 => .int
  | 7 => .int
  | 8 => .array .int
  | 9 => .array .int
  | 10 => .array .long
  | 11 => .array .int
  | 12 => .array .long
  | 13 => .int
  | 14 => .int
  | 15 => .int
  | 16 => .int
  | 17 => .long
  | 18 => .array .int
  | 19 => .array .int
  | 20 => .boolean
  | 21 => .array .int
  | 22 => .array .int
  | 23 => .array .int
  | 24 => .int
  | 25 => .int
  | 26 => .array .int
  | 27 => .array .int
  | _ => .boolean
theorem nmX8 : ∀ a, a < 29 → ∀ b, b < 29 → a ≠ b → (TX8 a).2.1 ≠ (TX8 b).2.1 := by decide +kernel
theorem tyX8_ok : ∀ k, k < 29 → parseFieldDescriptor (TX8 k).2.2.1 = some (tyX8 k) := by decide +kernel
def RJ9 : String := "java/lang/Math"
def RJ10 : String := "java/lang/System"
def RJ7 : String := "java/util/Arrays"
def RL : String := "RoundKissLaw"
def cn (c : Nat) : String := match c with
  | 0 => RX0
  | 1 => RX1
  | 2 => RX2
  | 3 => RX3
  | 4 => RX4
  | 5 => RX5
  | 6 => RX6
  | 7 => RX7
  | 8 => RX8
  | 9 => RJ9
  | 10 => RJ7
  | _ => RL
def kC (c : Nat) : String := match c with
  | 0 => RX0
  | 1 => RX3
  | 2 => RX4
  | 3 => RX5
  | 4 => RX6
  | 5 => RX7
  | _ => RX8
def kT (c : Nat) : u_T := match c with
  | 0 => TX0
  | 1 => TX3
  | 2 => TX4
  | 3 => TX5
  | 4 => TX6
  | 5 => TX7
  | _ => TX8
def kN (c : Nat) : Nat := match c with
  | 0 => 3
  | 1 => 10
  | 2 => 2
  | 3 => 5
  | 4 => 5
  | 5 => 12
  | _ => 29
def kty (c : Nat) : Nat → FieldType := match c with
  | 0 => tyX0
  | 1 => tyX3
  | 2 => tyX4
  | 3 => tyX5
  | 4 => tyX6
  | 5 => tyX7
  | _ => tyX8
def kcl : List vw_C := [(RX0, TX0, 3), (RX3, TX3, 10), (RX4, TX4, 2), (RX5, TX5, 5), (RX6, TX6, 5), (RX7, TX7, 12), (RX8, TX8, 29)]
def mnL : List MethodName := [⟨RX0, "<init>", "()V"⟩, ⟨RX0, "fill", "(I)V"⟩, ⟨RX0, "placeOf", "(I)I"⟩, ⟨RX1, "told", "(II)I"⟩, ⟨RX1, "top", "(I)I"⟩, ⟨RX1, "bottom", "(I)I"⟩, ⟨RX1, "isOne", "(I)Z"⟩, ⟨RX1, "areNear", "(II)Z"⟩, ⟨RX2, "fits", "(J)Z"⟩, ⟨RX2, "keepLaw", "(IIII)Z"⟩, ⟨RX2, "productAt", "([III)J"⟩, ⟨RX2, "kindByBend", "(I)I"⟩, ⟨RX2, "meetingBy", "(J)I"⟩, ⟨RX2, "isLowest", "(II)Z"⟩, ⟨RX3, "<init>", "()V"⟩, ⟨RX3, "survey", "(LRoundKiss$Quad;II)V"⟩, ⟨RX3, "leastBendAbove", "(LRoundKiss$Quad;I)I"⟩, ⟨RX3, "grow", "(LRoundKiss$Packing;II)V"⟩, ⟨RX3, "note", "(I)V"⟩, ⟨RX4, "<init>", "()V"⟩, ⟨RX4, "take", "(LRoundKiss$Quad;)V"⟩, ⟨RX4, "number", "(II)I"⟩, ⟨RX4, "bend", "(I)I"⟩, ⟨RX4, "bendSum", "()J"⟩, ⟨RX4, "swapped", "(II)J"⟩, ⟨RX4, "trySwap", "(II)Z"⟩, ⟨RX4, "placeOfGreatestBend", "()I"⟩, ⟨RX4, "leadBack", "(I)I"⟩, ⟨RX4, "takeLeastBends", "(LRoundKiss$Quad;)V"⟩, ⟨RX4, "hasBendBelowZero", "()Z"⟩, ⟨RX4, "hasBendsOf", "(LRoundKiss$Quad;)Z"⟩, ⟨RX4, "howOften", "(I)I"⟩, ⟨RX4, "keepsLaws", "()Z"⟩, ⟨RX4, "allTouch", "()Z"⟩, ⟨RX5, "<init>", "()V"⟩, ⟨RX5, "has", "(I)Z"⟩, ⟨RX5, "isFull", "()Z"⟩, ⟨RX5, "number", "(II)I"⟩, ⟨RX5, "put", "(IIIII)I"⟩, ⟨RX5, "putOver", "(II)I"⟩, ⟨RX5, "putOtherSide", "(I)I"⟩, ⟨RX5, "takeLatest", "()I"⟩, ⟨RX5, "productOf", "(II)J"⟩, ⟨RX5, "isAlike", "(II)Z"⟩, ⟨RX5, "mirrorFits", "(II)Z"⟩, ⟨RX5, "putMirror", "(II)I"⟩, ⟨RX5, "mirrored", "(IIIJ)J"⟩, ⟨RX6, "<init>", "()V"⟩, ⟨RX6, "isThere", "()Z"⟩, ⟨RX6, "lead", "(LRoundKiss$FareyRow;II)V"⟩, ⟨RX6, "key", "(I)I"⟩, ⟨RX6, "spread", "(III)V"⟩, ⟨RX6, "findAllNear", "(II)V"⟩, ⟨RX6, "findQuotient", "(IIII)V"⟩, ⟨RX6, "find", "(II)V"⟩, ⟨RX6, "leastNear", "(LRoundKiss$FareyRow;II)I"⟩, ⟨RX7, "<init>", "()V"⟩, ⟨RX7, "round", "(IIII)I"⟩, ⟨RX7, "over", "(II)I"⟩, ⟨RX7, "drop", "()I"⟩, ⟨RX7, "look", "(II)I"⟩, ⟨RX7, "product", "(II)J"⟩, ⟨RX7, "meet", "(II)I"⟩, ⟨RX7, "mirror", "(II)I"⟩, ⟨RX7, "flip", "(I)I"⟩, ⟨RX7, "kiss", "(I)I"⟩, ⟨RX7, "part", "()I"⟩, ⟨RX7, "of", "(III)I"⟩, ⟨RX7, "height", "(I)J"⟩, ⟨RX7, "fourth", "(II)J"⟩, ⟨RX7, "swap", "(II)I"⟩, ⟨RX7, "word", "(III)I"⟩, ⟨RX7, "least", "(I)I"⟩, ⟨RX7, "led", "()I"⟩, ⟨RX7, "same", "(II)I"⟩, ⟨RX7, "shut", "(I)I"⟩, ⟨RX7, "count", "(II)I"⟩, ⟨RX7, "bends", "(II)I"⟩, ⟨RX7, "next", "(II)I"⟩, ⟨RX7, "rests", "(II)I"⟩, ⟨RX7, "sum", "(III)J"⟩, ⟨RX7, "near", "(II)I"⟩, ⟨RX7, "between", "(II)I"⟩, ⟨RX7, "fractions", "(I)I"⟩, ⟨RX7, "fraction", "(II)I"⟩, ⟨RX7, "beside", "(IIZ)I"⟩, ⟨RX7, "way", "(III)I"⟩, ⟨RX7, "step", "(I)I"⟩, ⟨RX7, "lay", "(I)I"⟩, ⟨RX7, "tear", "()I"⟩, ⟨RX7, "row", "(I)I"⟩, ⟨RX7, "copy", "(III)I"⟩, ⟨RX7, "give", "()I"⟩, ⟨RX7, "status", "(I)I"⟩, ⟨RX7, "refuse", "(I)I"⟩, ⟨RX7, "refuseByZero", "(I)I"⟩, ⟨RX7, "hasKiss", "(I)Z"⟩, ⟨RX7, "hasPlace", "(II)Z"⟩, ⟨RX7, "keepWork", "()I"⟩, ⟨RX7, "whyNoLeast", "(I)I"⟩, ⟨RX7, "whyNoPacking", "(I)I"⟩, ⟨RX7, "whyNoPackingUpTo", "(II)I"⟩, ⟨RX7, "isOrder", "(I)Z"⟩, ⟨RX7, "isInRow", "(II)Z"⟩, ⟨RX8, "<init>", "()V"⟩, ⟨RX8, "isIn", "(JJJ)Z"⟩, ⟨RX8, "no", "(I)I"⟩, ⟨RX8, "none", "(I)I"⟩, ⟨RX8, "isRound", "(I)Z"⟩, ⟨RX8, "isLawful", "(JJJJ)Z"⟩, ⟨RX8, "adds", "(JJJJI)I"⟩, ⟨RX8, "round", "(IIII)I"⟩, ⟨RX8, "divisor", "(II)I"⟩, ⟨RX8, "over", "(II)I"⟩, ⟨RX8, "drop", "()I"⟩, ⟨RX8, "look", "(II)I"⟩, ⟨RX8, "productOf", "([II[II)J"⟩, ⟨RX8, "product", "(II)J"⟩, ⟨RX8, "meet", "(II)I"⟩, ⟨RX8, "mirror", "(II)I"⟩, ⟨RX8, "mirrored", "(IIIJ)J"⟩, ⟨RX8, "flip", "(I)I"⟩, ⟨RX8, "kisses", "()I"⟩, ⟨RX8, "kiss", "(I)I"⟩, ⟨RX8, "part", "()I"⟩, ⟨RX8, "isKiss", "(I)Z"⟩, ⟨RX8, "isPlace", "(I)Z"⟩, ⟨RX8, "of", "(III)I"⟩, ⟨RX8, "heightOf", "(I)J"⟩, ⟨RX8, "height", "(I)J"⟩, ⟨RX8, "swapped", "(III)J"⟩, ⟨RX8, "fourth", "(II)J"⟩, ⟨RX8, "swaps", "(II)Z"⟩, ⟨RX8, "swap", "(II)I"⟩, ⟨RX8, "word", "(III)I"⟩, ⟨RX8, "greatest", "()I"⟩, ⟨RX8, "exchanges", "(I)V"⟩, ⟨RX8, "leads", "(I)V"⟩, ⟨RX8, "least", "(I)I"⟩, ⟨RX8, "led", "()I"⟩, ⟨RX8, "sorts", "()V"⟩, ⟨RX8, "same", "(II)I"⟩, ⟨RX8, "isShut", "()Z"⟩, ⟨RX8, "shut", "(I)I"⟩, ⟨RX8, "whyNot", "(IIII)I"⟩, ⟨RX8, "counts", "(JII)V"⟩, ⟨RX8, "goesThrough", "(JII)V"⟩, ⟨RX8, "meets", "(I)V"⟩, ⟨RX8, "count", "(II)I"⟩, ⟨RX8, "bends", "(II)I"⟩, ⟨RX8, "next", "(II)I"⟩, ⟨RX8, "rests", "(II)I"⟩, ⟨RX8, "sum", "(III)J"⟩, ⟨RX8, "isFraction", "(I)Z"⟩, ⟨RX8, "determinant", "(II)I"⟩, ⟨RX8, "near", "(II)I"⟩, ⟨RX8, "between", "(II)I"⟩, ⟨RX8, "makesRow", "(I)V"⟩, ⟨RX8, "isRow", "(I)Z"⟩, ⟨RX8, "isOf", "(II)Z"⟩, ⟨RX8, "fractions", "(I)I"⟩, ⟨RX8, "fraction", "(II)I"⟩, ⟨RX8, "placeOf", "(I)I"⟩, ⟨RX8, "beside", "(IIZ)I"⟩, ⟨RX8, "areNear", "(II)Z"⟩, ⟨RX8, "way", "(III)I"⟩, ⟨RX8, "step", "(I)I"⟩, ⟨RX8, "lay", "(I)I"⟩, ⟨RX8, "tear", "()I"⟩, ⟨RX8, "row", "(I)I"⟩, ⟨RX8, "copy", "(III)I"⟩, ⟨RX8, "give", "()I"⟩, ⟨RX8, "status", "(I)I"⟩, ⟨RJ9, "floorMod", "(II)I"⟩, ⟨RJ9, "max", "(II)I"⟩, ⟨RJ7, "fill", "([II)V"⟩]
def mn (i : Nat) : MethodName := mnL.getD i ⟨"", "", ""⟩
def flN : List (Nat × Nat × Nat × Nat) := [(5, 9, 192, 67), (5, 15, 193, 69), (5, 18, 194, 71), (5, 21, 195, 73), (5, 24, 196, 75), (4, 9, 128, 96), (4, 39, 129, 98), (3, 9, 64, 111), (3, 15, 65, 112), (3, 19, 66, 113), (3, 53, 67, 114), (3, 22, 68, 115), (3, 25, 69, 117), (3, 28, 70, 119), (3, 31, 71, 121), (3, 35, 72, 123), (3, 60, 73, 124), (0, 9, 0, 152), (0, 15, 1, 155), (0, 19, 2, 157), (6, 11, 256, 173), (6, 15, 257, 174), (6, 18, 258, 175), (6, 54, 259, 177), (6, 21, 260, 178), (7, 12, 320, 191), (7, 18, 321, 192), (7, 23, 322, 193), (7, 27, 323, 194), (7, 33, 324, 195), (7, 40, 325, 196), (7, 47, 326, 197), (7, 51, 327, 198), (7, 55, 328, 199), (7, 148, 329, 200), (7, 181, 330, 201), (7, 268, 331, 202), (8, 7, 384, 662), (8, 13, 385, 663), (8, 16, 386, 664), (8, 19, 387, 665), (8, 22, 388, 666), (8, 70, 389, 667), (8, 120, 390, 668), (8, 155, 391, 669), (8, 25, 392, 670), (8, 28, 393, 671), (8, 31, 394, 672), (8, 35, 395, 673), (8, 38, 396, 674), (8, 168, 397, 675), (8, 175, 398, 676), (8, 178, 399, 677), (8, 187, 400, 678), (8, 171, 401, 679), (8, 41, 402, 680), (8, 44, 403, 681), (8, 183, 404, 682), (8, 47, 405, 683), (8, 50, 406, 684), (8, 53, 407, 685), (8, 215, 408, 686), (8, 56, 409, 687), (8, 60, 410, 688), (8, 63, 411, 689), (8, 233, 412, 690)]
def flX : List (Nat × Nat × Nat × Nat) := [(7, 135, 192, 68), (7, 102, 193, 70), (7, 105, 194, 72), (7, 108, 195, 74), (7, 87, 196, 76), (7, 138, 128, 97), (7, 178, 129, 99), (7, 201, 68, 116), (7, 204, 69, 118), (7, 215, 70, 120), (7, 218, 71, 122), (6, 82, 0, 153), (7, 247, 0, 154), (6, 25, 1, 156), (6, 79, 2, 158), (7, 246, 2, 159), (7, 265, 258, 176), (7, 259, 260, 179)]
def mlL : List (Nat × Nat × Nat × Nat) := [(11, 9, 56, 55), (7, 11, 34, 63), (7, 22, 19, 92), (7, 32, 14, 107), (7, 39, 0, 148), (7, 46, 47, 169), (11, 13, 57, 228), (7, 58, 9, 232), (2, 13, 8, 235), (7, 64, 94, 240), (7, 68, 36, 244), (7, 72, 11, 248), (7, 75, 38, 251), (11, 18, 58, 255), (7, 79, 13, 259), (7, 83, 39, 262), (5, 28, 38, 266), (11, 23, 59, 267), (7, 91, 41, 271), (11, 28, 60, 275), (7, 95, 35, 279), (7, 99, 95, 283), (7, 111, 37, 287), (11, 32, 61, 291), (7, 114, 42, 295), (5, 42, 10, 299), (11, 37, 62, 303), (7, 118, 43, 307), (5, 32, 37, 311), (7, 121, 12, 312), (11, 41, 63, 316), (7, 125, 44, 320), (5, 46, 42, 324), (5, 54, 46, 327), (5, 58, 8, 331), (7, 128, 45, 332), (11, 45, 64, 336), (7, 131, 40, 340), (5, 36, 11, 344), (11, 50, 65, 345), (7, 145, 98, 353), (7, 274, 32, 357), (4, 62, 21, 361), (4, 66, 9, 365), (7, 277, 33, 366), (4, 70, 10, 370), (7, 171, 20, 372), (11, 54, 66, 377), (11, 58, 67, 381), (7, 151, 97, 385), (7, 155, 96, 389), (7, 154, 21, 393), (11, 63, 68, 394), (7, 158, 23, 398), (4, 21, 22, 402), (11, 68, 69, 406), (7, 162, 24, 410), (11, 72, 70, 416), (7, 165, 25, 420), (4, 29, 24, 424), (4, 33, 8, 425), (11, 76, 71, 426), (11, 80, 72, 430), (7, 168, 99, 434), (7, 175, 27, 438), (4, 44, 26, 443), (4, 48, 25, 447), (11, 84, 73, 448), (11, 88, 74, 452), (7, 184, 28, 456), (4, 52, 20, 460), (4, 56, 27, 461), (7, 187, 30, 462), (4, 59, 31, 466), (11, 92, 75, 470), (7, 191, 29, 474), (11, 96, 76, 478), (7, 194, 101, 482), (7, 207, 100, 486), (7, 197, 15, 490), (3, 39, 22, 494), (3, 45, 18, 495), (3, 67, 173, 499), (3, 49, 17, 502), (11, 100, 77, 507), (11, 104, 78, 511), (7, 211, 16, 516), (3, 56, 15, 520), (11, 108, 79, 521), (11, 112, 80, 525), (11, 117, 81, 529), (7, 222, 6, 533), (1, 9, 5, 536), (1, 15, 4, 539), (1, 18, 13, 542), (7, 227, 7, 543), (11, 121, 82, 546), (7, 230, 4, 550), (7, 233, 5, 551), (7, 236, 3, 552), (11, 125, 83, 555), (7, 239, 102, 559), (7, 242, 1, 562), (0, 22, 3, 566), (11, 129, 84, 567), (11, 133, 85, 571), (7, 249, 103, 575), (7, 252, 2, 578), (11, 138, 86, 582), (7, 255, 49, 586), (6, 30, 51, 590), (6, 48, 175, 594), (6, 57, 54, 597), (6, 34, 50, 601), (6, 61, 52, 604), (6, 64, 5, 608), (6, 69, 4, 609), (6, 72, 53, 610), (6, 76, 3, 614), (6, 38, 174, 615), (6, 44, 55, 618), (6, 84, 7, 622), (11, 142, 87, 623), (7, 262, 48, 627), (11, 146, 88, 631), (11, 150, 89, 635), (11, 154, 90, 639), (11, 158, 91, 643), (11, 162, 92, 648), (11, 166, 93, 652), (11, 12, 104, 658), (11, 17, 111, 751), (8, 81, 109, 755), (8, 77, 105, 760), (8, 85, 110, 763), (8, 66, 106, 767), (11, 22, 113, 771), (8, 91, 112, 776), (11, 27, 114, 780), (11, 31, 115, 784), (8, 97, 108, 788), (8, 101, 107, 792), (11, 36, 117, 796), (8, 104, 116, 800), (11, 40, 118, 803), (11, 44, 119, 809), (8, 116, 120, 815), (11, 49, 121, 819), (11, 53, 123, 823), (8, 125, 122, 828), (11, 57, 124, 832), (11, 62, 127, 836), (8, 128, 125, 840), (8, 131, 126, 844), (11, 67, 129, 848), (8, 136, 128, 852), (11, 71, 131, 856), (8, 140, 130, 860), (11, 75, 133, 864), (8, 144, 132, 868), (11, 79, 134, 872), (11, 83, 138, 876), (8, 148, 135, 880), (11, 87, 139, 884), (11, 91, 141, 888), (8, 158, 137, 892), (8, 151, 136, 896), (8, 161, 140, 900), (11, 95, 143, 904), (8, 164, 142, 908), (11, 99, 148, 912), (8, 197, 144, 916), (8, 201, 146, 920), (8, 190, 145, 924), (8, 194, 147, 929), (11, 103, 149, 933), (11, 107, 150, 937), (11, 111, 151, 943), (11, 116, 152, 947), (11, 120, 155, 952), (8, 209, 153, 956), (8, 212, 154, 959), (11, 124, 156, 962), (11, 128, 160, 966), (8, 218, 158, 970), (8, 221, 157, 973), (11, 132, 161, 977), (11, 137, 163, 981), (8, 224, 159, 985), (8, 227, 162, 989), (11, 141, 165, 993), (8, 230, 164, 997), (11, 145, 166, 1001), (11, 149, 167, 1005), (11, 153, 168, 1009), (11, 157, 169, 1013), (11, 161, 170, 1018), (11, 165, 171, 1023), (11, 169, 172, 1027)]
def clL : List (Nat × Nat × Nat × Nat) := [(11, 7, 5, 53), (7, 9, 3, 61), (7, 16, 2, 89), (7, 30, 1, 105), (7, 37, 0, 146), (7, 44, 4, 167), (11, 10, 6, 656)]
def icL : List (Nat × Nat × Nat × Nat) := [(7, 134, 7, 349), (4, 43, 8, 442), (7, 210, 9, 515), (8, 204, 9, 941)]
def lcL : List (Nat × Nat × Nat × Nat) := [(2, 9, 2, 238), (2, 11, 3, 239), (2, 19, 4, 302), (2, 21, 5, 315), (5, 50, 6, 325), (5, 52, 7, 326), (4, 74, 5, 371), (4, 25, 4, 414), (4, 27, 8, 415), (3, 63, 4, 505), (3, 65, 8, 506), (7, 272, 9, 647), (8, 73, 2, 758), (8, 75, 3, 759), (8, 89, 10, 775), (8, 95, 4, 779), (8, 108, 5, 807), (8, 110, 11, 808), (8, 112, 12, 813), (8, 114, 13, 814), (8, 123, 14, 827), (8, 134, 8, 847), (8, 181, 15, 928), (8, 205, 16, 942), (8, 207, 17, 951), (8, 236, 18, 1017), (8, 238, 9, 1022), (8, 240, 19, 1031)]
def oiL : List (Nat × Nat × Nat) := [(7, 3, 58), (5, 3, 66), (4, 3, 95), (3, 3, 110), (0, 3, 151), (6, 3, 172), (8, 1, 661)]
def acL : List (Nat × Nat × Nat) := [(7, 139, 350), (4, 15, 376)]
def vlL : List (Nat × Nat × Nat × Nat × Nat) := [(1, 563, 564, 45, 1), (2, 579, 580, 45, 1), (15, 491, 492, 44, 3), (16, 517, 518, 44, 2), (18, 497, 11, 44, 1), (20, 373, 374, 43, 1), (21, 362, 363, 43, 2), (22, 403, 404, 43, 1), (23, 399, 400, 43, 0), (24, 411, 412, 43, 2), (25, 421, 422, 43, 2), (26, 445, 7, 43, 0), (27, 439, 440, 43, 1), (28, 457, 458, 43, 1), (29, 475, 476, 43, 0), (30, 463, 464, 43, 1), (31, 468, 8, 43, 1), (32, 358, 359, 43, 0), (33, 367, 368, 43, 0), (35, 280, 281, 42, 1), (36, 245, 246, 42, 0), (37, 288, 289, 42, 2), (38, 252, 253, 42, 5), (39, 263, 264, 42, 2), (40, 341, 342, 42, 1), (41, 272, 273, 42, 0), (42, 296, 297, 42, 2), (43, 308, 309, 42, 2), (44, 321, 322, 42, 2), (45, 333, 334, 42, 2), (46, 329, 2, 42, 4), (48, 628, 629, 46, 0), (49, 587, 588, 46, 3), (51, 592, 12, 46, 3), (52, 606, 14, 46, 2), (53, 612, 15, 46, 4), (54, 599, 13, 46, 2), (55, 620, 16, 46, 3), (57, 229, 230, 41, 4), (58, 256, 257, 41, 2), (59, 268, 269, 41, 0), (60, 276, 277, 41, 2), (61, 292, 293, 41, 2), (62, 304, 305, 41, 2), (63, 317, 318, 41, 2), (64, 337, 338, 41, 1), (65, 346, 347, 41, 1), (66, 378, 379, 41, 0), (67, 382, 383, 41, 3), (68, 395, 396, 41, 1), (69, 407, 408, 41, 2), (70, 417, 418, 41, 2), (71, 427, 428, 41, 3), (72, 431, 432, 41, 1), (73, 449, 450, 41, 0), (74, 453, 454, 41, 2), (75, 471, 472, 41, 1), (76, 479, 480, 41, 2), (77, 508, 509, 41, 2), (78, 512, 513, 41, 2), (79, 522, 523, 41, 2), (80, 526, 527, 41, 3), (81, 530, 531, 41, 2), (82, 547, 548, 41, 2), (83, 556, 557, 41, 1), (84, 568, 569, 41, 2), (85, 572, 573, 41, 3), (86, 583, 584, 41, 3), (87, 624, 625, 41, 1), (88, 632, 633, 41, 1), (89, 636, 637, 41, 0), (90, 640, 641, 41, 1), (91, 644, 645, 41, 3), (92, 649, 650, 41, 0), (93, 653, 654, 41, 1), (94, 242, 0, 41, 1), (95, 285, 1, 41, 1), (96, 391, 5, 41, 1), (97, 387, 4, 41, 2), (98, 355, 3, 41, 0), (99, 436, 6, 41, 1), (100, 488, 10, 41, 1), (101, 484, 9, 41, 2), (106, 769, 18, 47, 1), (107, 794, 20, 47, 1), (108, 790, 19, 47, 1), (110, 765, 17, 47, 5), (111, 752, 753, 47, 4), (113, 772, 773, 47, 2), (114, 781, 782, 47, 0), (115, 785, 786, 47, 2), (117, 797, 798, 47, 2), (118, 804, 805, 47, 2), (119, 810, 811, 47, 2), (120, 817, 21, 47, 4), (121, 820, 821, 47, 1), (122, 830, 22, 47, 0), (123, 824, 825, 47, 1), (124, 833, 834, 47, 0), (125, 842, 23, 47, 1), (127, 837, 838, 47, 3), (128, 854, 24, 47, 1), (129, 849, 850, 47, 1), (130, 862, 25, 47, 3), (131, 857, 858, 47, 2), (132, 870, 26, 47, 2), (133, 865, 866, 47, 2), (134, 873, 874, 47, 3), (135, 882, 27, 47, 0), (136, 898, 29, 47, 1), (137, 894, 28, 47, 1), (138, 877, 878, 47, 1), (139, 885, 886, 47, 0), (140, 902, 30, 47, 0), (141, 889, 890, 47, 2), (142, 910, 31, 47, 0), (143, 905, 906, 47, 1), (144, 918, 32, 47, 4), (145, 926, 34, 47, 3), (146, 922, 33, 47, 3), (147, 931, 35, 47, 1), (148, 913, 914, 47, 2), (149, 934, 935, 47, 2), (150, 938, 939, 47, 2), (151, 944, 945, 47, 2), (152, 948, 949, 47, 3), (155, 953, 954, 47, 2), (156, 963, 964, 47, 2), (157, 975, 36, 47, 1), (159, 987, 37, 47, 2), (160, 967, 968, 47, 1), (161, 978, 979, 47, 2), (162, 991, 38, 47, 1), (163, 982, 983, 47, 3), (164, 999, 39, 47, 2), (165, 994, 995, 47, 3), (166, 1002, 1003, 47, 1), (167, 1006, 1007, 47, 1), (168, 1010, 1011, 47, 0), (169, 1014, 1015, 47, 1), (170, 1019, 1020, 47, 3), (171, 1024, 1025, 47, 0), (172, 1028, 1029, 47, 1)]
def slL : List (Nat × Nat × Nat × Nat) := [(3, 553, 51, 2), (4, 540, 51, 1), (5, 537, 51, 1), (6, 534, 51, 1), (7, 544, 51, 2), (8, 236, 48, 1), (9, 233, 48, 4), (10, 300, 48, 3), (11, 249, 48, 1), (12, 313, 48, 1), (13, 260, 48, 2), (17, 503, 44, 3), (50, 602, 46, 1), (102, 560, 41, 1), (103, 576, 41, 2), (105, 761, 47, 3), (109, 756, 47, 4), (112, 777, 47, 2), (116, 801, 47, 4), (126, 845, 47, 1), (153, 957, 47, 1), (154, 960, 47, 2), (158, 971, 47, 1), (173, 500, 50, 2), (174, 616, 50, 2), (175, 595, 52, 2)]
def ilL : List (Nat × Nat × Nat × Nat) := [(0, 149, 45, 0), (14, 108, 44, 0), (19, 93, 43, 0), (34, 64, 42, 0), (47, 170, 46, 0), (56, 56, 41, 0), (104, 659, 47, 0)]
def nlL : List (Nat × Nat × Nat × Nat) := [(5, 54, 41, 12), (3, 62, 42, 5), (2, 91, 43, 2), (1, 106, 44, 10), (0, 147, 45, 3), (4, 168, 46, 5), (6, 657, 47, 29)]
def ics : List Int32 := [0, 1, 2, 3, 4, 5, -1, 160000, 1000000, -1000000000, 279, 100, 6, 300, 40, 24, 16, 8, 12, 15, 80, 20, 961, 31, 9, -7, -8, 999, -2, -3, -5, -4, -6, 30, 96, 400, 299, 99, 1000]
def lcs : List Int64 := [0, 1, -1000000000, 1000000000, 2, -2, -2000000000, 2000000000, 3, 16, 999, -1, -4000000000, 4000000000, 159999, 24, 300, 4, 15, -8]
def posAO : Nat := 90
def posAI : Nat := 88
def posAL : Nat := 750
def posOC : Nat := 60
def posOI : Nat := 59
def posCN : Nat := 352
def posCS : Nat := 351
def posCI : Nat := 49
end
section
/-! ===== the abstract machine: cells by their number, addresses from b on ===== -/
abbrev mt_T : Type := MethodName × ByteArray × Nat × Option FieldType × Nat × List (Nat × Instr × Nat × Nat)
abbrev wd_T : Type := (Nat → ClassId) × (Nat → Nat → Nat) × ClassId × ClassId × ClassId
abbrev ac_T : Type := vp_A ⊕ (Nat × List Value)
abbrev hp_T : Type := List ac_T
def cvV (b : Nat) (v : Value) : Value := match v with
  | .ref i => .ref (b + i)
  | v => v
def cvA (b : Nat) (a : vp_A) : vp_A := match a with
  | (n, .inr (.inr (.inr (.inr f)))) => (n, .inr (.inr (.inr (.inr (fun k => (f k).map (fun i => b + i))))))
  | a => a
def cvC (w : wd_T) (a : vp_A) : ClassId := match a.2 with
  | .inl _ => w.2.2.1
  | .inr (.inl _) => w.2.2.2.1
  | _ => w.2.2.2.2
def cvE (w : wd_T) (b : Nat) (c : ac_T) : va_E := match c with
  | .inl a => .inl (cvC w a, cvA b a)
  | .inr o => .inr (o.1, o.2.map (cvV b))
def cvH (w : wd_T) (b : Nat) (h : hp_T) : va_W := h.mapIdx (fun i c => (b + i, cvE w b c))
theorem cvH_get {w : wd_T} {b i : Nat} {h : hp_T} {c : ac_T} (hh : h[i]? = some c) : (cvH w b h)[i]? = some (b + i, cvE w b c) := by
  simp [cvH, hh]
theorem cvH_set {w : wd_T} {b i : Nat} {h : hp_T} {c : ac_T} : cvH w b (h.set i c) = (cvH w b h).set i (b + i, cvE w b c) := by
  apply List.ext_getElem?
  intro j
  by_cases hj : i = j
  · subst hj
    by_cases hl : i < h.length
    · simp [cvH, hl]
    · simp [cvH, hl]
  · simp [cvH, List.getElem?_set_ne hj]
theorem cvH_app {w : wd_T} {b : Nat} {h : hp_T} {c : ac_T} : cvH w b (h ++ [c]) = cvH w b h ++ [(b + h.length, cvE w b c)] := by
  simp [cvH]
theorem cvH_D {w : wd_T} {b : Nat} {h : hp_T} : va_D (fun q => b ≤ q) (cvH w b h) := by
  refine ⟨fun i j x y hi hj hxy => ?_, fun k q hk => ?_⟩
  · simp only [cvH, List.getElem?_mapIdx, Option.map_eq_some_iff] at hi hj
    obtain ⟨c1, -, rfl⟩ := hi
    obtain ⟨c2, -, rfl⟩ := hj
    simp only at hxy
    omega
  · simp only [cvH, List.getElem?_mapIdx, Option.map_eq_some_iff] at hk
    obtain ⟨c1, -, rfl⟩ := hk
    exact Nat.le_add_right _ _
def wty (w : wd_T) : List (ClassId × FieldType) := [(w.2.2.1, .int), (w.2.2.2.1, .long), (w.2.2.2.2, .object "RoundKiss$Quad")]
def HR (w : wd_T) (b : Nat) (h : hp_T) (H : Heap) : Prop := va_P (w.1, w.2.1) kcl (cvH w b h) H
def nxL : List Cond := flX.map (fun q => Cond.fieldLinkNest (cn q.1) q.2.1 (kC (q.2.2.1 / 64)) (kT (q.2.2.1 / 64) (q.2.2.1 % 64)).2.1 (kT (q.2.2.1 / 64) (q.2.2.1 % 64)).2.2.1 "RoundKiss")
def NX (U : State) : Prop := (∀ q ∈ nxL, va_Nw q U) ∧ va_AO "RoundKiss$Quad" U
theorem NX.warm {s U : State} (hW : s.WarmedH U.vm) (h : NX s) : NX U := by
  refine ⟨fun q hq => ?_, h.2.moved hW.alike⟩
  have h1 := h.1 q hq
  obtain ⟨x, -, rfl⟩ := List.mem_map.mp hq
  exact va_Nw.warmF hW h1
theorem NX.same {u U : State} (hv : u.vm = U.vm) (h : NX u) : NX U := by
  refine ⟨fun q hq => ?_, h.2.moved (by rw [hv]; exact Vm.Alike.refl _)⟩
  have h1 := h.1 q hq
  obtain ⟨x, -, rfl⟩ := List.mem_map.mp hq
  exact va_Nw.same rfl hv h1
def tg : List Cond := lw_tbl.filter goodWord
theorem tg_at {p : Nat} {w : Cond} (h : lw_tbl[p]? = some w) (hg : goodWord w = true) : w ∈ tg := List.mem_filter.mpr ⟨List.mem_of_getElem? h, hg⟩
theorem tg_good {ws : List Cond} (h : ∀ w ∈ ws, w ∈ tg) : GoodIn tg ws := fun w hw => ⟨h w hw, good_of_word (List.mem_filter.mp (h w hw)).2⟩
def Cx (p : Program) (s : State) (m : MethodId) (args : Array Value) (meth : Method) (c : Code) (M : mt_T) (w : wd_T) (b : Nat) : Prop :=
  p.tables.exec = Jvm.exec ∧ c.code = M.2.1 ∧ c.maxLocals = M.2.2.1 ∧ s.vm.findClass M.1.cls = some m.cls ∧ (∀ x ∈ tg, x.before args s = true) ∧ meth.sig.returnType = M.2.2.2.1 ∧ meth.locks = false ∧ va_K (w.1, w.2.1) kcl (wty w) s ∧ NX s ∧ meth.name = M.1.name ∧ b ≤ s.heap.size
def asl (b : Nat) : Nat → List (Option Value) → List (Nat × Value)
  | _, [] => []
  | k, none :: t => asl b (k + 1) t
  | k, some v :: t => (k, cvV b v) :: asl b (k + 1) t
theorem asl_mem {b : Nat} {j : Nat} {u : Value} : ∀ {L : List (Option Value)} {k : Nat}, (j, u) ∈ asl b k L → ∃ i v, L[i]? = some (some v) ∧ j = k + i ∧ u = cvV b v
  | [], k, h => by simp [asl] at h
  | none :: t, k, h => by
    simp only [asl] at h
    obtain ⟨i, v, h1, h2, h3⟩ := asl_mem h
    exact ⟨i + 1, v, by simpa using h1, by omega, h3⟩
  | some x :: t, k, h => by
    simp only [asl, List.mem_cons, Prod.mk.injEq] at h
    rcases h with ⟨h1, h2⟩ | h
    · exact ⟨0, x, rfl, by omega, h2⟩
    · obtain ⟨i, v, h1, h2, h3⟩ := asl_mem h
      exact ⟨i + 1, v, by simpa using h1, by omega, h3⟩
theorem asl_in {b : Nat} {v : Value} : ∀ {L : List (Option Value)} {k i : Nat}, L[i]? = some (some v) → (k + i, cvV b v) ∈ asl b k L
  | [], k, i, h => by simp at h
  | none :: t, k, 0, h => by simp at h
  | some x :: t, k, 0, h => by
    simp at h
    subst h
    simp [asl]
  | none :: t, k, i + 1, h => by
    simp only [asl]
    have h1 := asl_in (b := b) (k := k + 1) (i := i) (L := t) (v := v) (by simpa using h)
    rwa [show k + (i + 1) = k + 1 + i by omega]
  | some x :: t, k, i + 1, h => by
    simp only [asl]
    have h1 := asl_in (b := b) (k := k + 1) (i := i) (L := t) (v := v) (by simpa using h)
    rw [show k + (i + 1) = k + 1 + i by omega]
    exact List.mem_cons_of_mem _ h1
def LR (b : Nat) (ls : Array Slot) (nL : Nat) (L : List (Option Value)) : Prop := L.length = nL ∧ lv_has ls nL (asl b 0 L)
theorem lv_mono {ls : Array Slot} {n : Nat} {l l' : List (Nat × Value)} (h : lv_has ls n l) (hm : ∀ q ∈ l', q ∈ l) : lv_has ls n l' := ⟨h.1, h.2.1, fun q hq => h.2.2 q (hm q hq)⟩
def ldL : List (Option Value) → Nat → Option Value
  | [], _ => none
  | a :: _, 0 => a
  | _ :: t, i + 1 => ldL t i
theorem ldL_get : ∀ {L : List (Option Value)} {i : Nat} {v : Value}, ldL L i = some v → L[i]? = some (some v)
  | [], i, v, h => by simp [ldL] at h
  | a :: t, 0, v, h => by simp [ldL] at h; simp [h]
  | a :: t, i + 1, v, h => by
    simp only [ldL] at h
    simpa using ldL_get h
theorem LR.at {b : Nat} {ls : Array Slot} {nL : Nat} {L : List (Option Value)} (h : LR b ls nL L) {i : Nat} {v : Value} (hv : ldL L i = some v) : ls[i]? = some (.val (cvV b v)) := by
  have h1 := h.2.2.2 (0 + i, cvV b v) (asl_in (ldL_get hv))
  simpa using h1
theorem LR.lt {b : Nat} {ls : Array Slot} {nL : Nat} {L : List (Option Value)} (h : LR b ls nL L) : ls.size = nL := h.2.1
def drL (a : Option Value) : Option Value := match a with
  | some (.long _) => none
  | some (.double _) => none
  | a => a
theorem drL_some {a : Option Value} {u : Value} (h : drL a = some u) : a = some u ∧ ¬ u.category = 2 := by
  unfold drL at h
  split at h
  · cases h
  · cases h
  · rename_i n1 n2
    refine ⟨h, fun hc => ?_⟩
    cases u <;> simp [Value.category] at hc
    · exact n1 _ h
    · exact n2 _ h
/-- a store of one slot: what stood there goes, and a long whose second half stood there -/
def st1 : List (Option Value) → Nat → Value → Option (List (Option Value))
  | [], _, _ => none
  | _ :: t, 0, v => some (some v :: t)
  | a :: t, 1, v => (st1 t 0 v).map (fun t' => drL a :: t')
  | a :: t, i + 2, v => (st1 t (i + 1) v).map (fun t' => a :: t')
def st2 : List (Option Value) → Nat → Value → Option (List (Option Value))
  | [], _, _ => none
  | _ :: _ :: t, 0, v => some (some v :: none :: t)
  | _ :: [], 0, _ => none
  | a :: t, 1, v => (st2 t 0 v).map (fun t' => drL a :: t')
  | a :: t, i + 2, v => (st2 t (i + 1) v).map (fun t' => a :: t')
theorem st1_spec : ∀ {L : List (Option Value)} {i : Nat} {v : Value} {L' : List (Option Value)}, st1 L i v = some L' →
    i < L.length ∧ L'.length = L.length ∧ ∀ j u, L'[j]? = some (some u) → (j = i ∧ u = v) ∨ (j ≠ i ∧ L[j]? = some (some u) ∧ ¬ (j + 1 = i ∧ u.category = 2))
  | [], i, v, L', h => by simp [st1] at h
  | a :: t, 0, v, L', h => by
    simp [st1] at h
    subst h
    refine ⟨by simp, by simp, fun j u hj => ?_⟩
    cases j with
    | zero => simp at hj; exact Or.inl ⟨rfl, hj.symm⟩
    | succ j => exact Or.inr ⟨by omega, by simpa using hj, by omega⟩
  | a :: t, 1, v, L', h => by
    simp only [st1, Option.map_eq_some_iff] at h
    obtain ⟨t', ht, rfl⟩ := h
    obtain ⟨h1, h2, h3⟩ := st1_spec ht
    refine ⟨by simp; omega, by simp; omega, fun j u hj => ?_⟩
    cases j with
    | zero =>
      refine Or.inr ⟨by omega, ?_⟩
      simp only [List.getElem?_cons_zero, Option.some.injEq] at hj ⊢
      obtain ⟨d1, d2⟩ := drL_some hj
      exact ⟨d1, fun hc => d2 hc.2⟩
    | succ j =>
      rcases h3 j u (by simpa using hj) with ⟨e1, e2⟩ | ⟨e1, e2, e3⟩
      · exact Or.inl ⟨by omega, e2⟩
      · exact Or.inr ⟨by omega, by simpa using e2, fun hc => by omega⟩
  | a :: t, i + 2, v, L', h => by
    simp only [st1, Option.map_eq_some_iff] at h
    obtain ⟨t', ht, rfl⟩ := h
    obtain ⟨h1, h2, h3⟩ := st1_spec ht
    refine ⟨by simp; omega, by simp; omega, fun j u hj => ?_⟩
    cases j with
    | zero => exact Or.inr ⟨by omega, by simpa using hj, by omega⟩
    | succ j =>
      rcases h3 j u (by simpa using hj) with ⟨e1, e2⟩ | ⟨e1, e2, e3⟩
      · exact Or.inl ⟨by omega, e2⟩
      · exact Or.inr ⟨by omega, by simpa using e2, fun hc => e3 ⟨by omega, hc.2⟩⟩
theorem st2_spec : ∀ {L : List (Option Value)} {i : Nat} {v : Value} {L' : List (Option Value)}, st2 L i v = some L' →
    i + 1 < L.length ∧ L'.length = L.length ∧ ∀ j u, L'[j]? = some (some u) → (j = i ∧ u = v) ∨ (j ≠ i ∧ j ≠ i + 1 ∧ L[j]? = some (some u) ∧ ¬ (j + 1 = i ∧ u.category = 2))
  | [], i, v, L', h => by simp [st2] at h
  | [a], 0, v, L', h => by simp [st2] at h
  | a :: a2 :: t, 0, v, L', h => by
    simp [st2] at h
    subst h
    refine ⟨by simp, by simp, fun j u hj => ?_⟩
    match j with
    | 0 => simp at hj; exact Or.inl ⟨rfl, hj.symm⟩
    | 1 => simp at hj
    | j + 2 => exact Or.inr ⟨by omega, by omega, by simpa using hj, by omega⟩
  | a :: t, 1, v, L', h => by
    have h : (st2 t 0 v).map (fun t' => drL a :: t') = some L' := by
      cases t <;> exact h
    simp only [Option.map_eq_some_iff] at h
    obtain ⟨t', ht, rfl⟩ := h
    obtain ⟨h1, h2, h3⟩ := st2_spec ht
    refine ⟨by simp; omega, by simp; omega, fun j u hj => ?_⟩
    cases j with
    | zero =>
      refine Or.inr ⟨by omega, by omega, ?_⟩
      simp only [List.getElem?_cons_zero, Option.some.injEq] at hj ⊢
      obtain ⟨d1, d2⟩ := drL_some hj
      exact ⟨d1, fun hc => d2 hc.2⟩
    | succ j =>
      rcases h3 j u (by simpa using hj) with ⟨e1, e2⟩ | ⟨e1, e2, e3, e4⟩
      · exact Or.inl ⟨by omega, e2⟩
      · exact Or.inr ⟨by omega, by omega, by simpa using e3, fun hc => by omega⟩
  | a :: t, i + 2, v, L', h => by
    have h : (st2 t (i + 1) v).map (fun t' => a :: t') = some L' := by
      cases t <;> exact h
    simp only [Option.map_eq_some_iff] at h
    obtain ⟨t', ht, rfl⟩ := h
    obtain ⟨h1, h2, h3⟩ := st2_spec ht
    refine ⟨by simp; omega, by simp; omega, fun j u hj => ?_⟩
    cases j with
    | zero => exact Or.inr ⟨by omega, by omega, by simpa using hj, by omega⟩
    | succ j =>
      rcases h3 j u (by simpa using hj) with ⟨e1, e2⟩ | ⟨e1, e2, e3, e4⟩
      · exact Or.inl ⟨by omega, e2⟩
      · exact Or.inr ⟨by omega, by omega, by simpa using e3, fun hc => e4 ⟨by omega, hc.2⟩⟩
theorem cvV_cat {b : Nat} {v : Value} : (cvV b v).category = v.category := by cases v <;> rfl
theorem LR.st1 {b : Nat} {ls' : Array Slot} {nL i : Nat} {v : Value} {L L' : List (Option Value)} (hlen : L.length = nL) (hs : st1 L i v = some L') (h' : lv_has ls' nL ((i, cvV b v) :: (asl b 0 L).filter (fun q => !(q.1 == i) && !(q.1 + 1 == i && q.2.category == 2)))) : LR b ls' nL L' := by
  obtain ⟨h1, h2, h3⟩ := st1_spec hs
  refine ⟨by omega, lv_mono h' fun q hq => ?_⟩
  obtain ⟨j, u⟩ := q
  obtain ⟨i2, v2, e1, e2, e3⟩ := asl_mem hq
  rcases h3 i2 v2 e1 with ⟨r1, r2⟩ | ⟨r1, r2, r3⟩
  · subst r2
    rw [e2, e3, r1, Nat.zero_add]
    exact List.mem_cons_self
  · refine List.mem_cons_of_mem _ (List.mem_filter.mpr ⟨?_, ?_⟩)
    · rw [e2, e3]
      exact asl_in r2
    · subst e3
      simp only [cvV_cat]
      have : j ≠ i := by omega
      simp only [Bool.and_eq_true, Bool.not_eq_true', beq_eq_false_iff_ne, ne_eq, Bool.and_eq_false_iff]
      refine ⟨this, ?_⟩
      by_cases hc : j + 1 = i
      · right; exact fun h => r3 ⟨by omega, h⟩
      · left; exact hc
theorem LR.st2 {b : Nat} {ls' : Array Slot} {nL i : Nat} {v : Value} {L L' : List (Option Value)} (hlen : L.length = nL) (hs : st2 L i v = some L') (h' : lv_has ls' nL ((i, cvV b v) :: (asl b 0 L).filter (fun q => !(q.1 == i) && (!(q.1 == i + 1) && !(q.1 + 1 == i && q.2.category == 2))))) : LR b ls' nL L' := by
  obtain ⟨h1, h2, h3⟩ := st2_spec hs
  refine ⟨by omega, lv_mono h' fun q hq => ?_⟩
  obtain ⟨j, u⟩ := q
  obtain ⟨i2, v2, e1, e2, e3⟩ := asl_mem hq
  rcases h3 i2 v2 e1 with ⟨r1, r2⟩ | ⟨r0, r1, r2, r3⟩
  · subst r2
    rw [e2, e3, r1, Nat.zero_add]
    exact List.mem_cons_self
  · refine List.mem_cons_of_mem _ (List.mem_filter.mpr ⟨?_, ?_⟩)
    · rw [e2, e3]
      exact asl_in r2
    · subst e3
      simp only [cvV_cat]
      have hj : j ≠ i := by omega
      have hj2 : j ≠ i + 1 := by omega
      simp only [Bool.and_eq_true, Bool.not_eq_true', beq_eq_false_iff_ne, ne_eq, Bool.and_eq_false_iff]
      refine ⟨hj, hj2, ?_⟩
      by_cases hc : j + 1 = i
      · right; exact fun h => r3 ⟨by omega, h⟩
      · left; exact hc
end
section
def lkf : List (Nat × Instr × Nat × Nat) → Nat → Option (Instr × Nat × Nat)
  | [], _ => none
  | (a, r) :: t, pc => bif Nat.beq a pc then some r else lkf t pc
theorem lkf_mem : ∀ {t : List (Nat × Instr × Nat × Nat)} {pc : Nat} {r : Instr × Nat × Nat}, lkf t pc = some r → (pc, r) ∈ t
  | [], pc, r, h => by simp [lkf] at h
  | (a, q) :: t, pc, r, h => by
    simp only [lkf] at h
    cases hb : Nat.beq a pc with
    | true =>
      rw [hb] at h
      have e : a = pc := Nat.eq_of_beq_eq_true hb
      simp at h
      subst h; subst e
      exact List.mem_cons_self
    | false =>
      rw [hb] at h
      exact List.mem_cons_of_mem _ (lkf_mem h)
def ilen (i : Instr) : Nat := match i with
  | .bipush _ => 2
  | .ldc _ => 2
  | .iload _ => 2
  | .lload _ => 2
  | .aload _ => 2
  | .istore _ => 2
  | .lstore _ => 2
  | .astore _ => 2
  | .newarray _ => 2
  | .sipush _ => 3
  | .ldc2_w _ => 3
  | .iinc _ _ => 3
  | .goto _ => 3
  | .ifCond _ _ => 3
  | .if_icmp _ _ => 3
  | .getfield _ => 3
  | .putfield _ => 3
  | .invokevirtual _ => 3
  | .invokestatic _ => 3
  | .invokespecial _ => 3
  | .new _ => 3
  | .anewarray _ => 3
  | .tableswitch _ _ _ _ => 0
  | .lookupswitch _ _ => 0
  | _ => 1
def has3 (l : List (Nat × Nat × Nat × Nat)) (a b x : Nat) : Bool := l.any (fun q => Nat.beq q.1 a && (Nat.beq q.2.1 b && Nat.beq q.2.2.1 x))
def has2 (l : List (Nat × Nat × Nat)) (a b : Nat) : Bool := l.any (fun q => Nat.beq q.1 a && Nat.beq q.2.1 b)
def auxB (cid pc : Nat) (i : Instr) (x : Nat) : Bool := match i with
  | .iconst n => decide (ics[x]? = some (Int32.ofInt n))
  | .bipush n => decide (ics[x]? = some (Int8.ofInt n).toInt32)
  | .sipush n => decide (ics[x]? = some (Int16.ofInt n).toInt32)
  | .iinc _ n => decide (ics[x]? = some (Int32.ofInt n))
  | .ldc j => has3 icL cid j x
  | .lconst n => decide (lcs[x]? = some (Int64.ofNat (n : Nat)))
  | .ldc2_w j => has3 lcL cid j x
  | .ifCond _ o => decide ((pc : Int) + o = (x : Int))
  | .if_icmp _ o => decide ((pc : Int) + o = (x : Int))
  | .goto o => decide ((pc : Int) + o = (x : Int))
  | .getfield j => has3 flN cid j x || has3 flX cid j x
  | .putfield j => has3 flN cid j x || has3 flX cid j x
  | .invokevirtual j => has3 mlL cid j x
  | .invokestatic j => has3 mlL cid j x || (Nat.beq x 1001 && has2 acL cid j)
  | .invokespecial j => has3 mlL cid j x || (Nat.beq x 1000 && has2 oiL cid j)
  | .new j => has3 clL cid j x
  | .anewarray j => has3 clL cid j x
  | _ => true
def rowB (cc : ByteArray) (cid : Nat) (q : Nat × Instr × Nat × Nat) : Bool :=
  decide (decode cc q.1 = .ok (q.2.1, q.2.2.1 - q.1)) && (Nat.blt q.1 q.2.2.1 && ((Nat.beq (ilen q.2.1) 0 || Nat.beq (q.2.2.1 - q.1) (ilen q.2.1)) && auxB cid q.1 q.2.1 q.2.2.2))
def m_ok (M : mt_T) : Bool := (plainFor M.1 && (decide (cn M.2.2.2.2.1 = M.1.cls) && Nat.ble M.2.2.1 21)) && M.2.2.2.2.2.all (rowB M.2.1 M.2.2.2.2.1)
abbrev m_tab (M : mt_T) : List (Nat × Instr × Nat × Nat) := M.2.2.2.2.2
abbrev m_cw (M : mt_T) : Cond := Cond.code M.1 M.2.1 M.2.2.1 M.2.2.2.1
def mOK (M : mt_T) : Prop := m_ok M = true ∧ m_cw M ∈ lw_tbl
theorem m_row {M : mt_T} (hM : mOK M) {pc np x : Nat} {i : Instr} (hi : lkf (m_tab M) pc = some (i, np, x)) : decode M.2.1 pc = .ok (i, np - pc) ∧ pc < np ∧ (ilen i = 0 ∨ np - pc = ilen i) ∧ auxB M.2.2.2.2.1 pc i x = true := by
  have h := hM.1
  unfold m_ok at h
  simp only [Bool.and_eq_true] at h
  have h1 := List.all_eq_true.mp h.2 _ (lkf_mem hi)
  unfold rowB at h1
  simp only [Bool.and_eq_true, Bool.or_eq_true, decide_eq_true_eq] at h1
  obtain ⟨e1, e2, e3, e4⟩ := h1
  have e2' : pc < np := by simpa [Nat.blt_eq] using e2
  refine ⟨e1, e2', ?_, e4⟩
  rcases e3 with e3 | e3
  · exact Or.inl (Nat.eq_of_beq_eq_true e3)
  · exact Or.inr (Nat.eq_of_beq_eq_true e3)
theorem m_dec {M : mt_T} (hM : mOK M) {pc np x : Nat} {i : Instr} (hi : lkf (m_tab M) pc = some (i, np, x)) (hz : ilen i ≠ 0) : decode M.2.1 pc = .ok (i, ilen i) ∧ np = pc + ilen i ∧ auxB M.2.2.2.2.1 pc i x = true := by
  obtain ⟨h1, h2, h3, h4⟩ := m_row hM hi
  have h3 : np - pc = ilen i := by rcases h3 with h | h; exact absurd h hz; exact h
  exact ⟨by rw [← h3]; exact h1, by omega, h4⟩
theorem m_cn {M : mt_T} (hM : mOK M) : cn M.2.2.2.2.1 = M.1.cls ∧ M.2.2.1 ≤ 21 ∧ plainFor M.1 = true := by
  have h := hM.1
  unfold m_ok at h
  simp only [Bool.and_eq_true, decide_eq_true_eq] at h
  exact ⟨h.1.2.1, Nat.le_of_ble_eq_true h.1.2.2, h.1.1⟩
theorem has3_ex {l : List (Nat × Nat × Nat × Nat)} {a b x : Nat} (h : has3 l a b x = true) : ∃ p, (a, b, x, p) ∈ l := by
  unfold has3 at h
  obtain ⟨q, hq, h1⟩ := List.any_eq_true.mp h
  simp only [Bool.and_eq_true] at h1
  obtain ⟨q1, q2, q3, q4⟩ := q
  have e1 := Nat.eq_of_beq_eq_true h1.1
  have e2 := Nat.eq_of_beq_eq_true h1.2.1
  have e3 := Nat.eq_of_beq_eq_true h1.2.2
  simp only at e1 e2 e3
  subst e1; subst e2; subst e3
  exact ⟨q4, hq⟩
theorem has2_ex {l : List (Nat × Nat × Nat)} {a b : Nat} (h : has2 l a b = true) : ∃ p, (a, b, p) ∈ l := by
  unfold has2 at h
  obtain ⟨q, hq, h1⟩ := List.any_eq_true.mp h
  simp only [Bool.and_eq_true] at h1
  obtain ⟨q1, q2, q3⟩ := q
  have e1 := Nat.eq_of_beq_eq_true h1.1
  have e2 := Nat.eq_of_beq_eq_true h1.2
  simp only at e1 e2
  subst e1; subst e2
  exact ⟨q3, hq⟩
/-! facts of the lists -/
set_option maxRecDepth 100000 in
theorem icL_ok : icL.all (fun q => (match ics[q.2.2.1]? with | some v => decide (lw_tbl[q.2.2.2]? = some (.constant (cn q.1) q.2.1 v)) | none => false)) = true := by decide +kernel
set_option maxRecDepth 100000 in
theorem lcL_ok : lcL.all (fun q => (match lcs[q.2.2.1]? with | some v => decide (lw_tbl[q.2.2.2]? = some (.constantLong (cn q.1) q.2.1 v)) | none => false)) = true := by decide +kernel
theorem icL_w {a b x p : Nat} (h : (a, b, x, p) ∈ icL) {v : Int32} (hv : ics[x]? = some v) : Cond.constant (cn a) b v ∈ tg := by
  have h1 := List.all_eq_true.mp icL_ok _ h
  simp only [hv, decide_eq_true_eq] at h1
  exact tg_at h1 rfl
theorem lcL_w {a b x p : Nat} (h : (a, b, x, p) ∈ lcL) {v : Int64} (hv : lcs[x]? = some v) : Cond.constantLong (cn a) b v ∈ tg := by
  have h1 := List.all_eq_true.mp lcL_ok _ h
  simp only [hv, decide_eq_true_eq] at h1
  exact tg_at h1 rfl
/-! the judgement -/
def rmR (d mc ms : Nat) : Room := { frames := d + 2, cells := mc, slots := ms, locals := 40 * d + 60 }
def QcR (w : wd_T) (b mc : Nat) (Q : Option Value → hp_T → Prop) : Array Value → State → Outcome → State → Prop := fun _ st oc t => (∃ r h', Q r h' ∧ oc = .returned (r.map (cvV b)) ∧ HR w b h' t.heap ∧ st.heap.size + mc ≤ b + h'.length) ∧ va_F (fun q => b ≤ q) st t
def V (M : mt_T) (d mc ms : Nat) (Q : Option Value → hp_T → Prop) (k n : Nat) (pc : Nat) (L : List (Option Value)) (st : List Value) (h : hp_T) : Prop :=
  ∀ (p : Program) (l : Launch) (e : Env) (s : State) (m : MethodId) (args : Array Value) (below : List Frame) (meth : Method) (c : Code) (w : wd_T) (b : Nat) (H : Heap) (locs : List Loc) (ls : Array Slot),
    Cx p s m args meth c M w b → va_S (fun q => b ≤ q) s.heap H locs → HR w b h H → s.heap.size + k ≤ b + h.length → LR b ls M.2.2.1 L →
    W p l e (rmR d mc ms) s m args below meth c H locs k n (MQ below (QcR w b mc Q) args s mc ms (fun q => b ≤ q)) (F0 m pc ls (st.map (cvV b)))
/-! straight steps -/
def stK1 {R : Type} : List (Option Value) → Nat → Value → (List (Option Value) → Option R) → Option R
  | [], _, _, _ => none
  | _ :: t, 0, v, K => K (some v :: t)
  | a :: t, 1, v, K => match a with
    | some (.int y) => stK1 t 0 v (fun t' => K (some (.int y) :: t'))
    | some (.ref y) => stK1 t 0 v (fun t' => K (some (.ref y) :: t'))
    | some (.long _) => stK1 t 0 v (fun t' => K (none :: t'))
    | none => stK1 t 0 v (fun t' => K (none :: t'))
    | a => stK1 t 0 v (fun t' => K (drL a :: t'))
  | a :: t, i + 2, v, K => stK1 t (i + 1) v (fun t' => K (a :: t'))
def stK2 {R : Type} : List (Option Value) → Nat → Value → (List (Option Value) → Option R) → Option R
  | [], _, _, _ => none
  | _ :: _ :: t, 0, v, K => K (some v :: none :: t)
  | _ :: [], 0, _, _ => none
  | a :: t, 1, v, K => match a with
    | some (.int y) => stK2 t 0 v (fun t' => K (some (.int y) :: t'))
    | some (.ref y) => stK2 t 0 v (fun t' => K (some (.ref y) :: t'))
    | some (.long _) => stK2 t 0 v (fun t' => K (none :: t'))
    | none => stK2 t 0 v (fun t' => K (none :: t'))
    | a => stK2 t 0 v (fun t' => K (drL a :: t'))
  | a :: t, i + 2, v, K => stK2 t (i + 1) v (fun t' => K (a :: t'))
theorem stK1_eq {R : Type} : ∀ (L : List (Option Value)) (i : Nat) (v : Value) (K : List (Option Value) → Option R), stK1 L i v K = (st1 L i v).bind K
  | [], _, _, _ => rfl
  | _ :: t, 0, v, K => rfl
  | a :: t, 1, v, K => by
    have ih := fun K => stK1_eq (R := R) t 0 v K
    cases a with
    | none => simp only [stK1, st1, ih]; cases st1 t 0 v <;> rfl
    | some y => cases y <;> (simp only [stK1, st1, ih]; cases st1 t 0 v <;> rfl)
  | a :: t, i + 2, v, K => by
    simp only [stK1, st1, stK1_eq t (i + 1)]
    cases st1 t (i + 1) v <;> rfl
theorem stK2_eq {R : Type} : ∀ (L : List (Option Value)) (i : Nat) (v : Value) (K : List (Option Value) → Option R), stK2 L i v K = (st2 L i v).bind K
  | [], _, _, _ => rfl
  | _ :: _ :: t, 0, v, K => rfl
  | [_], 0, v, K => rfl
  | a :: t, 1, v, K => by
    have ih := fun K => stK2_eq (R := R) t 0 v K
    have e : st2 (a :: t) 1 v = (st2 t 0 v).map (fun t' => drL a :: t') := by cases t <;> rfl
    rw [e]
    cases t with
    | nil => cases a with
      | none => rfl
      | some y => cases y <;> rfl
    | cons b t =>
    cases a with
    | none => simp only [stK2, ih]; cases st2 (b :: t) 0 v <;> rfl
    | some y => cases y <;> (simp only [stK2, ih]; cases st2 (b :: t) 0 v <;> rfl)
  | a :: t, i + 2, v, K => by
    have e : st2 (a :: t) (i + 2) v = (st2 t (i + 1) v).map (fun t' => a :: t') := by cases t <;> rfl
    have e2 : stK2 (a :: t) (i + 2) v K = stK2 t (i + 1) v (fun t' => K (a :: t')) := by cases t <;> rfl
    rw [e, e2, stK2_eq t (i + 1)]
    cases st2 t (i + 1) v <;> rfl
def stp (i : Instr) (np x : Nat) (L : List (Option Value)) (st : List Value) : Option (Nat × List (Option Value) × List Value) := match i with
  | .iconst _ => match ics[x]? with
    | some v => some (np, L, .int v :: st)
    | none => none
  | .bipush _ => match ics[x]? with
    | some v => some (np, L, .int v :: st)
    | none => none
  | .sipush _ => match ics[x]? with
    | some v => some (np, L, .int v :: st)
    | none => none
  | .ldc _ => match ics[x]? with
    | some v => some (np, L, .int v :: st)
    | none => none
  | .lconst _ => match lcs[x]? with
    | some v => some (np, L, .long v :: st)
    | none => none
  | .ldc2_w _ => match lcs[x]? with
    | some v => some (np, L, .long v :: st)
    | none => none
  | .iload_n n => match ldL L n.val with
    | some (.int v) => some (np, L, .int v :: st)
    | _ => none
  | .iload n => match ldL L n with
    | some (.int v) => some (np, L, .int v :: st)
    | _ => none
  | .lload_n n => match ldL L n.val with
    | some (.long v) => some (np, L, .long v :: st)
    | _ => none
  | .lload n => match ldL L n with
    | some (.long v) => some (np, L, .long v :: st)
    | _ => none
  | .aload_n n => match ldL L n.val with
    | some (.ref v) => some (np, L, .ref v :: st)
    | _ => none
  | .istore_n n => match st with
    | .int v :: st => stK1 L n.val (.int v) (fun L' => some (np, L', st))
    | _ => none
  | .istore n => match st with
    | .int v :: st => stK1 L n (.int v) (fun L' => some (np, L', st))
    | _ => none
  | .lstore_n n => match st with
    | .long v :: st => stK2 L n.val (.long v) (fun L' => some (np, L', st))
    | _ => none
  | .lstore n => match st with
    | .long v :: st => stK2 L n (.long v) (fun L' => some (np, L', st))
    | _ => none
  | .astore_n n => match st with
    | .ref v :: st => stK1 L n.val (.ref v) (fun L' => some (np, L', st))
    | _ => none
  | .iinc n _ => match ldL L n with
    | some (.int v) => match ics[x]? with
      | some u => stK1 L n (.int (v + u)) (fun L' => some (np, L', st))
      | none => none
    | _ => none
  | .iadd => match st with
    | .int y :: .int z :: st => some (np, L, .int (z + y) :: st)
    | _ => none
  | .isub => match st with
    | .int y :: .int z :: st => some (np, L, .int (z - y) :: st)
    | _ => none
  | .imul => match st with
    | .int y :: .int z :: st => some (np, L, .int (z * y) :: st)
    | _ => none
  | .iand => match st with
    | .int y :: .int z :: st => some (np, L, .int (z &&& y) :: st)
    | _ => none
  | .ior => match st with
    | .int y :: .int z :: st => some (np, L, .int (z ||| y) :: st)
    | _ => none
  | .ixor => match st with
    | .int y :: .int z :: st => some (np, L, .int (z ^^^ y) :: st)
    | _ => none
  | .ishl => match st with
    | .int y :: .int z :: st => some (np, L, .int (z <<< (y &&& 31)) :: st)
    | _ => none
  | .ishr => match st with
    | .int y :: .int z :: st => some (np, L, .int (z >>> (y &&& 31)) :: st)
    | _ => none
  | .ineg => match st with
    | .int z :: st => some (np, L, .int (-z) :: st)
    | _ => none
  | .ladd => match st with
    | .long y :: .long z :: st => some (np, L, .long (z + y) :: st)
    | _ => none
  | .lsub => match st with
    | .long y :: .long z :: st => some (np, L, .long (z - y) :: st)
    | _ => none
  | .lmul => match st with
    | .long y :: .long z :: st => some (np, L, .long (z * y) :: st)
    | _ => none
  | .i2l => match st with
    | .int z :: st => some (np, L, .long z.toInt64 :: st)
    | _ => none
  | .l2i => match st with
    | .long z :: st => some (np, L, .int z.toInt32 :: st)
    | _ => none
  | .lcmp => match st with
    | .long y :: .long z :: st => some (np, L, .int (lg_cmp z y) :: st)
    | _ => none
  | .dup => match st with
    | .int y :: st => some (np, L, .int y :: .int y :: st)
    | .ref y :: st => some (np, L, .ref y :: .ref y :: st)
    | _ => none
  | .dup2 => match st with
    | .int y :: .ref z :: st => some (np, L, .int y :: .ref z :: .int y :: .ref z :: st)
    | _ => none
  | .pop => match st with
    | .int _ :: st => some (np, L, st)
    | _ => none
  | .goto _ => some (x, L, st)
  | _ => none
set_option maxHeartbeats 4000000 in
theorem V.s {M : mt_T} {d mc ms k n pc np x np' : Nat} {i : Instr} {Q : Option Value → hp_T → Prop} {L L' : List (Option Value)} {st st' : List Value} {h : hp_T} (hM : mOK M) (hi : lkf (m_tab M) pc = some (i, np, x)) (hs : stp i np x L st = some (np', L', st')) (kk : V M d mc ms Q k n np' L' st' h) : V M d mc ms Q k n pc L st h := by
  have hz : ilen i ≠ 0 := by
    intro hz
    cases i <;> first | (cases hs; done) | (simp [ilen] at hz)
  obtain ⟨hd, hnp, hax⟩ := m_dec hM hi hz
  have hcn := (m_cn hM).1
  intro p l e s m args below meth c w b H locs ls X hS hH hZ hL
  have kk := fun ls' hL' => kk p l e s m args below meth c w b H locs ls' X hS hH hZ hL'
  obtain ⟨hx, hb, hml, hown, hts, -, -, -, -, -, -⟩ := id X
  rw [← hcn] at hown
  subst hnp
  cases i with
  | iconst j =>
    simp only [stp] at hs
    split at hs
    · next v hv =>
      cases hs
      have hax : ics[x]? = some (Int32.ofInt j) := of_decide_eq_true hax
      exact lv_iconst hx hb hd (Option.some.inj (hax.symm.trans hv)) (kk ls hL)
    · cases hs
  | bipush j =>
    simp only [stp] at hs
    split at hs
    · next v hv =>
      cases hs
      have hax : ics[x]? = some (Int8.ofInt j).toInt32 := of_decide_eq_true hax
      exact lv_bipush hx hb hd (Option.some.inj (hax.symm.trans hv)) (kk ls hL)
    · cases hs
  | sipush j =>
    simp only [stp] at hs
    split at hs
    · next v hv =>
      cases hs
      have hax : ics[x]? = some (Int16.ofInt j).toInt32 := of_decide_eq_true hax
      exact lv_sipush hx hb hd (Option.some.inj (hax.symm.trans hv)) (kk ls hL)
    · cases hs
  | ldc j =>
    simp only [stp] at hs
    split at hs
    · next v hv =>
      cases hs
      obtain ⟨p0, hp0⟩ := has3_ex (show has3 icL M.2.2.2.2.1 j x = true from hax)
      exact lv_ldc hx hb hown (hts _ (icL_w hp0 hv)) hd (kk ls hL)
    · cases hs
  | lconst j =>
    simp only [stp] at hs
    split at hs
    · next v hv =>
      cases hs
      have hax : lcs[x]? = some (Int64.ofNat (j : Nat)) := of_decide_eq_true hax
      exact lv_lconst hx hb hd (Option.some.inj (hax.symm.trans hv)) (kk ls hL)
    · cases hs
  | ldc2_w j =>
    simp only [stp] at hs
    split at hs
    · next v hv =>
      cases hs
      obtain ⟨p0, hp0⟩ := has3_ex (show has3 lcL M.2.2.2.2.1 j x = true from hax)
      exact lv_ldc2 hx hb hown (hts _ (lcL_w hp0 hv)) hd (kk ls hL)
    · cases hs
  | iload_n j =>
    simp only [stp] at hs
    split at hs
    · next v hv => cases hs; exact lv_iload_n hx hb hd rfl (hL.at hv) (kk ls hL)
    · cases hs
  | iload j =>
    simp only [stp] at hs
    split at hs
    · next v hv => cases hs; exact lv_iload hx hb hd (hL.at hv) (kk ls hL)
    · cases hs
  | lload_n j =>
    simp only [stp] at hs
    split at hs
    · next v hv => cases hs; exact lv_lload_n hx hb hd rfl (hL.at hv) (kk ls hL)
    · cases hs
  | lload j =>
    simp only [stp] at hs
    split at hs
    · next v hv => cases hs; exact lv_lload hx hb hd (hL.at hv) (kk ls hL)
    · cases hs
  | aload_n j =>
    simp only [stp] at hs
    split at hs
    · next v hv => cases hs; exact lv_aload_n hx hb hd rfl (hL.at hv) (kk ls hL)
    · cases hs
  | istore_n j =>
    simp only [stp] at hs
    split at hs
    · next _ v st0 =>
      rw [stK1_eq] at hs
      cases hv : st1 L j.val (.int v) with
      | none => rw [hv] at hs; cases hs
      | some L0 =>
        rw [hv] at hs
        cases hs
        exact lv_istore_n hx hb hd rfl hL.2 (by have := (st1_spec hv).1; have := hL.1; omega) rfl (fun ls' h' => kk ls' (LR.st1 hL.1 hv h'))
    · cases hs
  | istore j =>
    simp only [stp] at hs
    split at hs
    · next _ v st0 =>
      rw [stK1_eq] at hs
      cases hv : st1 L j (.int v) with
      | none => rw [hv] at hs; cases hs
      | some L0 =>
        rw [hv] at hs
        cases hs
        exact lv_istore hx hb hd hL.2 (by have := (st1_spec hv).1; have := hL.1; omega) rfl (fun ls' h' => kk ls' (LR.st1 hL.1 hv h'))
    · cases hs
  | lstore_n j =>
    simp only [stp] at hs
    split at hs
    · next _ v st0 =>
      rw [stK2_eq] at hs
      cases hv : st2 L j.val (.long v) with
      | none => rw [hv] at hs; cases hs
      | some L0 =>
        rw [hv] at hs
        cases hs
        exact lv_lstore_n hx hb hd rfl hL.2 (by have := (st2_spec hv).1; have := hL.1; omega) rfl (fun ls' h' => kk ls' (LR.st2 hL.1 hv h'))
    · cases hs
  | lstore j =>
    simp only [stp] at hs
    split at hs
    · next _ v st0 =>
      rw [stK2_eq] at hs
      cases hv : st2 L j (.long v) with
      | none => rw [hv] at hs; cases hs
      | some L0 =>
        rw [hv] at hs
        cases hs
        exact lv_lstore hx hb hd hL.2 (by have := (st2_spec hv).1; have := hL.1; omega) rfl (fun ls' h' => kk ls' (LR.st2 hL.1 hv h'))
    · cases hs
  | astore_n j =>
    simp only [stp] at hs
    split at hs
    · next _ v st0 =>
      rw [stK1_eq] at hs
      cases hv : st1 L j.val (.ref v) with
      | none => rw [hv] at hs; cases hs
      | some L0 =>
        rw [hv] at hs
        cases hs
        exact lv_astore_n hx hb hd rfl hL.2 (by have := (st1_spec hv).1; have := hL.1; omega) rfl (fun ls' h' => kk ls' (LR.st1 hL.1 hv h'))
    · cases hs
  | iinc j q =>
    simp only [stp] at hs
    split at hs
    · next v hv =>
      split at hs
      · next u hu =>
        rw [stK1_eq] at hs
        cases hv2 : st1 L j (.int (v + u)) with
        | none => rw [hv2] at hs; cases hs
        | some L0 =>
          rw [hv2] at hs
          cases hs
          have hax : ics[x]? = some (Int32.ofInt q) := of_decide_eq_true hax
          obtain ⟨kq, hkq⟩ := List.getElem?_of_mem (asl_in (b := b) (k := 0) (ldL_get hv))
          rw [Nat.zero_add] at hkq
          exact lv_iinc (v := v + u) hx hb hd hL.2 hkq (by rw [Option.some.inj (hax.symm.trans hu)]) (by have := (st1_spec hv2).1; have := hL.1; omega) rfl (fun ls' h' => kk ls' (LR.st1 hL.1 hv2 h'))
      · cases hs
    · cases hs
  | iadd =>
    simp only [stp] at hs
    split at hs
    · cases hs; exact lv_iadd hx hb hd (kk ls hL)
    · cases hs
  | isub =>
    simp only [stp] at hs
    split at hs
    · cases hs; exact lv_isub hx hb hd (kk ls hL)
    · cases hs
  | imul =>
    simp only [stp] at hs
    split at hs
    · cases hs; exact lv_imul hx hb hd (kk ls hL)
    · cases hs
  | iand =>
    simp only [stp] at hs
    split at hs
    · cases hs; exact lv_iand hx hb hd (kk ls hL)
    · cases hs
  | ior =>
    simp only [stp] at hs
    split at hs
    · cases hs; exact lv_ior hx hb hd (kk ls hL)
    · cases hs
  | ixor =>
    simp only [stp] at hs
    split at hs
    · cases hs; exact lv_ixor hx hb hd (kk ls hL)
    · cases hs
  | ishl =>
    simp only [stp] at hs
    split at hs
    · cases hs; exact lv_ishl hx hb hd (kk ls hL)
    · cases hs
  | ishr =>
    simp only [stp] at hs
    split at hs
    · cases hs; exact lv_ishr hx hb hd (kk ls hL)
    · cases hs
  | ineg =>
    simp only [stp] at hs
    split at hs
    · cases hs; exact lv_ineg hx hb hd (kk ls hL)
    · cases hs
  | ladd =>
    simp only [stp] at hs
    split at hs
    · cases hs; exact lv_ladd hx hb hd (kk ls hL)
    · cases hs
  | lsub =>
    simp only [stp] at hs
    split at hs
    · cases hs; exact lv_lsub hx hb hd (kk ls hL)
    · cases hs
  | lmul =>
    simp only [stp] at hs
    split at hs
    · cases hs; exact lv_lmul hx hb hd (kk ls hL)
    · cases hs
  | i2l =>
    simp only [stp] at hs
    split at hs
    · cases hs; exact lv_i2l hx hb hd rfl (kk ls hL)
    · cases hs
  | l2i =>
    simp only [stp] at hs
    split at hs
    · cases hs; exact lv_l2i hx hb hd rfl (kk ls hL)
    · cases hs
  | lcmp =>
    simp only [stp] at hs
    split at hs
    · cases hs; exact W.lcmp hx hb hd (kk ls hL)
    · cases hs
  | dup =>
    simp only [stp] at hs
    split at hs
    · cases hs; exact lv_dup hx hb hd rfl (kk ls hL)
    · cases hs; exact lv_dup hx hb hd rfl (kk ls hL)
    · cases hs
  | dup2 =>
    simp only [stp] at hs
    split at hs
    · cases hs; exact lv_dup2_11 hx hb hd rfl rfl (kk ls hL)
    · cases hs
  | pop =>
    simp only [stp] at hs
    split at hs
    · cases hs; exact lv_pop hx hb hd rfl (kk ls hL)
    · cases hs
  | goto o =>
    simp only [stp] at hs
    cases hs
    exact lv_goto hx hb hd (of_decide_eq_true hax) (kk ls hL)
  | _ => cases hs
end
section
theorem HR.lo {w : wd_T} {b : Nat} {h : hp_T} {H : Heap} (hH : HR w b h H) (hb : b ≤ H.size) : b + h.length ≤ H.size := by
  cases hl : h.length with
  | zero => simpa using hb
  | succ n =>
    have hn : n < h.length := by omega
    have h1 := (hH n _ (cvH_get (w := w) (b := b) (List.getElem?_eq_getElem hn))).lt
    simp only at h1
    omega
/-! branches -/
def brp (i : Instr) (st : List Value) : Option (Prop × Prop × List Value) := match i with
  | .ifCond c _ => match st with
    | .int a :: st => match c with
      | .eq => some (a = 0, ¬ a = 0, st)
      | .ne => some (¬ a = 0, a = 0, st)
      | .lt => some (a < 0, 0 ≤ a, st)
      | .ge => some (0 ≤ a, a < 0, st)
      | .gt => some (0 < a, a ≤ 0, st)
      | .le => some (a ≤ 0, 0 < a, st)
    | _ => none
  | .if_icmp c _ => match st with
    | .int y :: .int a :: st => match c with
      | .eq => some (a = y, ¬ a = y, st)
      | .ne => some (¬ a = y, a = y, st)
      | .lt => some (a < y, y ≤ a, st)
      | .ge => some (y ≤ a, a < y, st)
      | .gt => some (y < a, a ≤ y, st)
      | .le => some (a ≤ y, y < a, st)
    | _ => none
  | _ => none
section RULES
variable {M : mt_T} {d mc ms k n pc np x : Nat} {Q : Option Value → hp_T → Prop} {L : List (Option Value)} {st st' : List Value} {h : hp_T}
theorem V.br {i : Instr} {P P' : Prop} (hM : mOK M) (hi : lkf (m_tab M) pc = some (i, np, x)) (hs : brp i st = some (P, P', st')) (kt : P → V M d mc ms Q k n x L st' h) (kf : P' → V M d mc ms Q k n np L st' h) : V M d mc ms Q k n pc L st h := by
  have hz : ilen i ≠ 0 := by
    intro hz
    cases i <;> first | (cases hs; done) | (simp [ilen] at hz)
  obtain ⟨hd, hnp, hax⟩ := m_dec hM hi hz
  intro p l e s m args below meth c w b H locs ls X hS hH hZ hL
  have kt := fun hp => kt hp p l e s m args below meth c w b H locs ls X hS hH hZ hL
  have kf := fun hp => kf hp p l e s m args below meth c w b H locs ls X hS hH hZ hL
  obtain ⟨hx, hb, hml, hown, hts, -, -, -, -, -, -⟩ := id X
  subst hnp
  cases i with
  | ifCond cd o =>
    have ho : (pc : Int) + o = (x : Int) := of_decide_eq_true hax
    match st, hs with
    | .int a :: st, hs =>
      cases cd <;> cases hs
      · exact lv_if_eq hx hb hd ho kt kf
      · exact lv_if_ne hx hb hd ho kt kf
      · exact lv_if_lt hx hb hd ho kt (fun g => kf (Int32.not_lt.mp g))
      · exact lv_if_ge hx hb hd ho kt (fun g => kf (Int32.not_le.mp g))
      · exact lv_if_gt hx hb hd ho kt (fun g => kf (Int32.not_lt.mp g))
      · exact lv_if_le hx hb hd ho kt (fun g => kf (Int32.not_le.mp g))
  | if_icmp cd o =>
    have ho : (pc : Int) + o = (x : Int) := of_decide_eq_true hax
    match st, hs with
    | .int y :: .int a :: st, hs =>
      cases cd <;> cases hs
      · exact lv_icmp_eq hx hb hd ho kt kf
      · exact lv_icmp_ne hx hb hd ho kt kf
      · exact lv_icmp_lt hx hb hd ho kt (fun g => kf (Int32.not_lt.mp g))
      · exact lv_icmp_ge hx hb hd ho kt (fun g => kf (Int32.not_le.mp g))
      · exact lv_icmp_gt hx hb hd ho kt (fun g => kf (Int32.not_lt.mp g))
      · exact lv_icmp_le hx hb hd ho kt (fun g => kf (Int32.not_le.mp g))
  | _ => cases hs
theorem V.tIn {dflt lo hi : Int} {offs : Array Int} {a : Int32} {off : Int} {tgt : Nat} (hM : mOK M) (hi' : lkf (m_tab M) pc = some (.tableswitch dflt lo hi offs, np, x)) (h1 : ¬ a.toInt < lo) (h2 : ¬ hi < a.toInt) (ho : offs[(a.toInt - lo).toNat]? = some off) (ht : (pc : Int) + off = (tgt : Int)) (kk : V M d mc ms Q k n tgt L st h) : V M d mc ms Q k n pc L (.int a :: st) h := by
  obtain ⟨hd, -⟩ := m_row hM hi'
  intro p l e s m args below meth c w b H locs ls X hS hH hZ hL
  exact lv_tableIn X.1 X.2.1 hd h1 h2 ho ht (kk p l e s m args below meth c w b H locs ls X hS hH hZ hL)
theorem V.tOut {dflt lo hi : Int} {offs : Array Int} {a : Int32} {tgt : Nat} (hM : mOK M) (hi' : lkf (m_tab M) pc = some (.tableswitch dflt lo hi offs, np, x)) (h1 : a.toInt < lo ∨ hi < a.toInt) (ht : (pc : Int) + dflt = (tgt : Int)) (kk : V M d mc ms Q k n tgt L st h) : V M d mc ms Q k n pc L (.int a :: st) h := by
  obtain ⟨hd, -⟩ := m_row hM hi'
  intro p l e s m args below meth c w b H locs ls X hS hH hZ hL
  exact lv_tableOut X.1 X.2.1 hd h1 ht (kk p l e s m args below meth c w b H locs ls X hS hH hZ hL)
theorem V.lsw {dflt : Int} {ps : Array (Int × Int)} {a : Int32} {off : Int} {tgt : Nat} (hM : mOK M) (hi' : lkf (m_tab M) pc = some (.lookupswitch dflt ps, np, x)) (hp : (ps.toList.zip (ps.toList.drop 1)).all (fun (a, next) => a.1 < next.1) = true) (ho : Op.lookupswitch.offset ps.toList dflt a.toInt = off) (ht : (pc : Int) + off = (tgt : Int)) (kk : V M d mc ms Q k n tgt L st h) : V M d mc ms Q k n pc L (.int a :: st) h := by
  obtain ⟨hd, -⟩ := m_row hM hi'
  intro p l e s m args below meth c w b H locs ls X hS hH hZ hL
  exact lv_lookup X.1 X.2.1 hd hp ho ht (kk p l e s m args below meth c w b H locs ls X hS hH hZ hL)
/-! division -/
theorem V.idiv {a y : Int32} (hM : mOK M) (hi : lkf (m_tab M) pc = some (.idiv, np, x)) (hne : ¬ y = 0) (kk : V M d mc ms Q k n np L (.int (a / y) :: st) h) : V M d mc ms Q k n pc L (.int y :: .int a :: st) h := by
  obtain ⟨hd, hnp, hax⟩ := m_dec hM hi (by simp [ilen])
  subst hnp
  intro p l e s m args below meth c w b H locs ls X hS hH hZ hL
  exact lv_idiv X.1 X.2.1 hd hne (kk p l e s m args below meth c w b H locs ls X hS hH hZ hL)
theorem V.irem {a y : Int32} (hM : mOK M) (hi : lkf (m_tab M) pc = some (.irem, np, x)) (hne : ¬ y = 0) (kk : V M d mc ms Q k n np L (.int (a - a / y * y) :: st) h) : V M d mc ms Q k n pc L (.int y :: .int a :: st) h := by
  obtain ⟨hd, hnp, hax⟩ := m_dec hM hi (by simp [ilen])
  subst hnp
  intro p l e s m args below meth c w b H locs ls X hS hH hZ hL
  exact lv_irem X.1 X.2.1 hd hne (kk p l e s m args below meth c w b H locs ls X hS hH hZ hL)
theorem V.lrem {a y : Int64} (hM : mOK M) (hi : lkf (m_tab M) pc = some (.lrem, np, x)) (hne : ¬ y = 0) (kk : V M d mc ms Q k n np L (.long (a - a / y * y) :: st) h) : V M d mc ms Q k n pc L (.long y :: .long a :: st) h := by
  obtain ⟨hd, hnp, hax⟩ := m_dec hM hi (by simp [ilen])
  subst hnp
  intro p l e s m args below meth c w b H locs ls X hS hH hZ hL
  exact lv_lrem X.1 X.2.1 hd hne (kk p l e s m args below meth c w b H locs ls X hS hH hZ hL)
end RULES
/-! fields -/
theorem kcl_at : ∀ {ci : Nat}, ci < 7 → kcl[ci]? = some (kC ci, kT ci, kN ci)
  | 0, _ => rfl
  | 1, _ => rfl
  | 2, _ => rfl
  | 3, _ => rfl
  | 4, _ => rfl
  | 5, _ => rfl
  | 6, _ => rfl
set_option maxRecDepth 100000 in
theorem k_wsB : (List.range 7).all (fun ci => (u_ws (kC ci) (kT ci) (kN ci)).all (fun w => decide (w ∈ lw_tbl) && goodWord w)) = true := by decide +kernel
theorem k_ws {ci : Nat} (hc : ci < 7) : ∀ w ∈ u_ws (kC ci) (kT ci) (kN ci), w ∈ tg := by
  intro w hw
  have h := List.all_eq_true.mp (List.all_eq_true.mp k_wsB ci (List.mem_range.mpr hc)) w hw
  simp only [Bool.and_eq_true, decide_eq_true_eq] at h
  exact List.mem_filter.mpr h
theorem k_nm : ∀ {ci : Nat}, ci < 7 → ∀ a, a < kN ci → ∀ b, b < kN ci → a ≠ b → (kT ci a).2.1 ≠ (kT ci b).2.1
  | 0, _ => nmX0
  | 1, _ => nmX3
  | 2, _ => nmX4
  | 3, _ => nmX5
  | 4, _ => nmX6
  | 5, _ => nmX7
  | 6, _ => nmX8
theorem k_ty : ∀ {ci : Nat}, ci < 7 → ∀ k, k < kN ci → parseFieldDescriptor (kT ci k).2.2.1 = some (kty ci k)
  | 0, _ => tyX0_ok
  | 1, _ => tyX3_ok
  | 2, _ => tyX4_ok
  | 3, _ => tyX5_ok
  | 4, _ => tyX6_ok
  | 5, _ => tyX7_ok
  | 6, _ => tyX8_ok
def flB (f : Nat × Nat × Nat × Nat → Cond) (q : Nat × Nat × Nat × Nat) : Bool :=
  decide (lw_tbl[q.2.2.2]? = some (f q)) && (decide ((kT (q.2.2.1 / 64) (q.2.2.1 % 64)).1 = kC (q.2.2.1 / 64)) && (Nat.blt (q.2.2.1 % 64) (kN (q.2.2.1 / 64)) && Nat.blt (q.2.2.1 / 64) 7))
def flF (q : Nat × Nat × Nat × Nat) : Cond := Cond.fieldLink (cn q.1) q.2.1 (kC (q.2.2.1 / 64)) (kT (q.2.2.1 / 64) (q.2.2.1 % 64)).2.1 (kT (q.2.2.1 / 64) (q.2.2.1 % 64)).2.2.1
def flG (q : Nat × Nat × Nat × Nat) : Cond := Cond.fieldLinkNest (cn q.1) q.2.1 (kC (q.2.2.1 / 64)) (kT (q.2.2.1 / 64) (q.2.2.1 % 64)).2.1 (kT (q.2.2.1 / 64) (q.2.2.1 % 64)).2.2.1 "RoundKiss"
set_option maxRecDepth 100000 in
theorem flN_ok : flN.all (flB flF) = true := by decide +kernel
set_option maxRecDepth 100000 in
theorem flX_ok : flX.all (flB flG) = true := by decide +kernel
theorem flB_w {f : Nat × Nat × Nat × Nat → Cond} {l : List (Nat × Nat × Nat × Nat)} (hl : l.all (flB f) = true) {a j x p : Nat} (h : (a, j, x, p) ∈ l) : lw_tbl[p]? = some (f (a, j, x, p)) ∧ (kT (x / 64) (x % 64)).1 = kC (x / 64) ∧ x % 64 < kN (x / 64) ∧ x / 64 < 7 := by
  have h1 := List.all_eq_true.mp hl _ h
  unfold flB at h1
  simp only [Bool.and_eq_true, decide_eq_true_eq] at h1
  exact ⟨h1.1, h1.2.1, by simpa [Nat.blt_eq] using h1.2.2.1, by simpa [Nat.blt_eq] using h1.2.2.2⟩
/-- what may be laid into a field -/
def okv (ty : FieldType) (v : Value) : Bool := match ty with
  | .int => match v with
    | .int _ => true
    | _ => false
  | .long => match v with
    | .long _ => true
    | _ => false
  | .boolean => match v with
    | .int y => decide (y = 0) || decide (y = 1)
    | _ => false
  | .array _ => match v with
    | .ref _ => true
    | _ => false
  | .object _ => match v with
    | .ref _ => true
    | _ => false
  | _ => false
theorem okv_spec {ty : FieldType} {v : Value} {b : Nat} (h : okv ty v = true) : narrow ty (cvV b v) = cvV b v ∧ fits ty (cvV b v) = true := by
  unfold okv at h
  split at h
  · split at h
    · exact ⟨rfl, rfl⟩
    · cases h
  · split at h
    · exact ⟨rfl, rfl⟩
    · cases h
  · split at h
    · simp only [Bool.or_eq_true, decide_eq_true_eq] at h
      rcases h with rfl | rfl
      · exact ⟨show narrow .boolean (.int 0) = .int 0 by decide +kernel, show fits .boolean (.int 0) = true by decide +kernel⟩
      · exact ⟨show narrow .boolean (.int 1) = .int 1 by decide +kernel, show fits .boolean (.int 1) = true by decide +kernel⟩
    · cases h
  · split at h
    · exact ⟨rfl, rfl⟩
    · cases h
  · split at h
    · exact ⟨rfl, rfl⟩
    · cases h
  · cases h
section RULES2
variable {M : mt_T} {d mc ms k n pc np x : Nat} {Q : Option Value → hp_T → Prop} {L : List (Option Value)} {st st' : List Value} {h : hp_T}
theorem V.gf {j q ci : Nat} {fs : List Value} {v : Value} (hM : mOK M) (hi : lkf (m_tab M) pc = some (.getfield j, np, x)) (hq : h[q]? = some (.inr (ci, fs))) (hc : x / 64 = ci) (hv : fs[x % 64]? = some v) (kk : V M d mc ms Q k n np L (v :: st) h) : V M d mc ms Q k n pc L (.ref q :: st) h := by
  obtain ⟨hd, hnp, hax⟩ := m_dec hM hi (by simp [ilen])
  have hcn := (m_cn hM).1
  subst hnp; subst hc
  intro p l e s m args below meth c w b H locs ls X hS hH hZ hL
  have kk := kk p l e s m args below meth c w b H locs ls X hS hH hZ hL
  obtain ⟨hx, hb, hml, hown, hts, -, -, hK, hN, -, -⟩ := id X
  rw [← hcn] at hown
  rcases Bool.or_eq_true_iff.mp (show (has3 flN M.2.2.2.2.1 j x || has3 flX M.2.2.2.2.1 j x) = true from hax) with h1 | h1
  · obtain ⟨p0, hp0⟩ := has3_ex h1
    obtain ⟨hw, hdecl, hk, hci⟩ := flB_w flN_ok hp0
    exact va_get (D := (w.1, w.2.1)) (ref := kC (x / 64)) (v := cvV b v) hx hb hts (k_ws hci) hown hK hH q (fs := fs.map (cvV b)) (cvH_get hq) (kcl_at hci) (x % 64) hk (hts _ (tg_at hw rfl)) (fun y hy => by rw [hdecl] at hy; exact hy) (by simp [hv]) hd kk
  · obtain ⟨p0, hp0⟩ := has3_ex h1
    obtain ⟨hw, hdecl, hk, hci⟩ := flB_w flX_ok hp0
    have hn := hN.1 _ (List.mem_map.mpr ⟨_, hp0, rfl⟩)
    exact va_getN (D := (w.1, w.2.1)) (ref := kC (x / 64)) (v := cvV b v) hx hb hts (k_ws hci) hown hK hH q (fs := fs.map (cvV b)) (cvH_get hq) (kcl_at hci) (x % 64) hk (va_Nw.use rfl hn) (fun y hy => by rw [hdecl] at hy; exact hy) (by simp [hv]) hd kk
theorem V.pf {j q ci : Nat} {fs : List Value} {v : Value} (h' : hp_T) (hM : mOK M) (hi : lkf (m_tab M) pc = some (.putfield j, np, x)) (hq : h[q]? = some (.inr (ci, fs))) (hc : x / 64 = ci) (hf : (kT ci (x % 64)).2.2.2 = false) (hv : okv (kty ci (x % 64)) v = true) (hl : x % 64 < fs.length) (hset : h.set q (.inr (ci, fs.set (x % 64) v)) = h') (kk : V M d mc ms Q k n np L st h') : V M d mc ms Q k n pc L (v :: .ref q :: st) h := by
  obtain ⟨hd, hnp, hax⟩ := m_dec hM hi (by simp [ilen])
  have hcn := (m_cn hM).1
  subst hnp; subst hc; subst hset
  intro p l e s m args below meth c w b H locs ls X hS hH hZ hL
  have kk := fun H1 locs1 hS1 hH1 => kk p l e s m args below meth c w b H1 locs1 ls X hS1 hH1 (by rw [List.length_set]; exact hZ) hL
  obtain ⟨hx, hb, hml, hown, hts, -, -, hK, hN, -, -⟩ := id X
  rw [← hcn] at hown
  obtain ⟨o1, o2⟩ := okv_spec (b := b) hv
  have key : ∀ H1, va_P (w.1, w.2.1) kcl ((cvH w b h).set q (b + q, .inr (x / 64, (fs.map (cvV b)).set (x % 64) (cvV b v)))) H1 → HR w b (h.set q (.inr (x / 64, fs.set (x % 64) v))) H1 := by
    intro H1 hP
    unfold HR
    rw [cvH_set]
    have e : cvE w b (.inr (x / 64, fs.set (x % 64) v)) = .inr (x / 64, (fs.map (cvV b)).set (x % 64) (cvV b v)) := by
      show (Sum.inr _ : va_E) = _
      rw [List.map_set]
    rw [e]
    exact hP
  rcases Bool.or_eq_true_iff.mp (show (has3 flN M.2.2.2.2.1 j x || has3 flX M.2.2.2.2.1 j x) = true from hax) with h1 | h1
  · obtain ⟨p0, hp0⟩ := has3_ex h1
    obtain ⟨hw, hdecl, hk, hci⟩ := flB_w flN_ok hp0
    exact va_put (D := (w.1, w.2.1)) (ref := kC (x / 64)) (v := cvV b v) hx hb hts (k_ws hci) (kty (x / 64)) (k_ty hci) (k_nm hci) hown hK hH cvH_D hS q (fs := fs.map (cvV b)) (cvH_get hq) (kcl_at hci) (x % 64) hk (hts _ (tg_at hw rfl)) (fun y hy => by rw [hdecl] at hy; exact hy) hf (k_ty hci _ hk) o1 o2 (by simpa using hl) hd (fun H1 locs1 hP1 _ hS1 => kk H1 locs1 hS1 (key H1 hP1))
  · obtain ⟨p0, hp0⟩ := has3_ex h1
    obtain ⟨hw, hdecl, hk, hci⟩ := flB_w flX_ok hp0
    have hn := hN.1 _ (List.mem_map.mpr ⟨_, hp0, rfl⟩)
    exact va_putN (D := (w.1, w.2.1)) (ref := kC (x / 64)) (v := cvV b v) hx hb hts (k_ws hci) (kty (x / 64)) (k_ty hci) (k_nm hci) hown hK hH cvH_D hS q (fs := fs.map (cvV b)) (cvH_get hq) (kcl_at hci) (x % 64) hk (va_Nw.use rfl hn) (fun y hy => by rw [hdecl] at hy; exact hy) hf (k_ty hci _ hk) o1 o2 (by simpa using hl) hd (fun H1 locs1 hP1 _ hS1 => kk H1 locs1 hS1 (key H1 hP1))
/-- a final field, in its constructor -/
theorem V.pfF {j q ci : Nat} {fs : List Value} {v : Value} (h' : hp_T) (hM : mOK M) (hi : lkf (m_tab M) pc = some (.putfield j, np, x)) (hq : h[q]? = some (.inr (ci, fs))) (hc : x / 64 = ci) (hf : (kT ci (x % 64)).2.2.2 = true) (hnm : M.1.name = "<init>") (hcc : kC ci = cn M.2.2.2.2.1) (hfl : has3 flN M.2.2.2.2.1 j x = true) (hv : okv (kty ci (x % 64)) v = true) (hl : x % 64 < fs.length) (hset : h.set q (.inr (ci, fs.set (x % 64) v)) = h') (kk : V M d mc ms Q k n np L st h') : V M d mc ms Q k n pc L (v :: .ref q :: st) h := by
  obtain ⟨hd, hnp, hax⟩ := m_dec hM hi (by simp [ilen])
  have hcn := (m_cn hM).1
  subst hnp; subst hc; subst hset
  intro p l e s m args below meth c w b H locs ls X hS hH hZ hL
  have kk := fun H1 locs1 hS1 hH1 => kk p l e s m args below meth c w b H1 locs1 ls X hS1 hH1 (by rw [List.length_set]; exact hZ) hL
  obtain ⟨hx, hb, hml, hown, hts, -, -, hK, hN, hmn, -⟩ := id X
  rw [← hcn] at hown
  obtain ⟨o1, o2⟩ := okv_spec (b := b) hv
  have key : ∀ H1, va_P (w.1, w.2.1) kcl ((cvH w b h).set q (b + q, .inr (x / 64, (fs.map (cvV b)).set (x % 64) (cvV b v)))) H1 → HR w b (h.set q (.inr (x / 64, fs.set (x % 64) v))) H1 := by
    intro H1 hP
    unfold HR
    rw [cvH_set]
    have e : cvE w b (.inr (x / 64, fs.set (x % 64) v)) = .inr (x / 64, (fs.map (cvV b)).set (x % 64) (cvV b v)) := by
      show (Sum.inr _ : va_E) = _
      rw [List.map_set]
    rw [e]
    exact hP
  obtain ⟨p0, hp0⟩ := has3_ex hfl
  obtain ⟨hw, hdecl, hk, hci⟩ := flB_w flN_ok hp0
  exact va_putF (D := (w.1, w.2.1)) (ref := kC (x / 64)) (v := cvV b v) hx hb hts (k_ws hci) (kty (x / 64)) (k_ty hci) (k_nm hci) hown hK hH cvH_D hS q (fs := fs.map (cvV b)) (cvH_get hq) (kcl_at hci) (x % 64) hk (hts _ (tg_at hw rfl)) (fun y hy => by rw [hdecl] at hy; exact hy) hf (by rw [hmn]; exact hnm) (by rw [hdecl]; exact hcc) (k_ty hci _ hk) o1 o2 (by simpa using hl) hd (fun H1 locs1 hP1 _ hS1 => kk H1 locs1 hS1 (key H1 hP1))
end RULES2
end
section
def ix (i : Int32) (j n : Nat) : Prop := i.toNatClampNeg = j ∧ vp_in i n
theorem ix_nI {j n : Nat} (h : j < n) (hn : n < 2 ^ 31) : ix (nI j) j n := ⟨nI_clamp (by omega), vp_in_nI h hn⟩
section RULES3
variable {M : mt_T} {d mc ms k n pc np x : Nat} {Q : Option Value → hp_T → Prop} {L : List (Option Value)} {st st' : List Value} {h : hp_T}
theorem V.ial {q len j : Nat} {f : Nat → Int32} {i : Int32} (hM : mOK M) (hi : lkf (m_tab M) pc = some (.iaload, np, x)) (hq : h[q]? = some (.inl (len, .inl f))) (hin : ix i j len) (kk : V M d mc ms Q k n np L (.int (f j) :: st) h) : V M d mc ms Q k n pc L (.int i :: .ref q :: st) h := by
  obtain ⟨hd, hnp, hax⟩ := m_dec hM hi (by simp [ilen])
  obtain ⟨rfl, hin⟩ := hin
  subst hnp
  intro p l e s m args below meth c w b H locs ls X hS hH hZ hL
  obtain ⟨hx, hb, hml, hown, hts, -, -, hK, hN, -, -⟩ := id X
  exact va_iald hx hb hK hH q 0 (cvH_get hq) rfl hin hd (kk p l e s m args below meth c w b H locs ls X hS hH hZ hL)
theorem V.lal {q len j : Nat} {f : Nat → Int64} {i : Int32} (hM : mOK M) (hi : lkf (m_tab M) pc = some (.laload, np, x)) (hq : h[q]? = some (.inl (len, .inr (.inl f)))) (hin : ix i j len) (kk : V M d mc ms Q k n np L (.long (f j) :: st) h) : V M d mc ms Q k n pc L (.int i :: .ref q :: st) h := by
  obtain ⟨hd, hnp, hax⟩ := m_dec hM hi (by simp [ilen])
  obtain ⟨rfl, hin⟩ := hin
  subst hnp
  intro p l e s m args below meth c w b H locs ls X hS hH hZ hL
  obtain ⟨hx, hb, hml, hown, hts, -, -, hK, hN, -, -⟩ := id X
  exact va_lald hx hb hK hH q 1 (cvH_get hq) rfl hin hd (kk p l e s m args below meth c w b H locs ls X hS hH hZ hL)
theorem V.aal {q len j a : Nat} {f : Nat → Option Nat} {i : Int32} (hM : mOK M) (hi : lkf (m_tab M) pc = some (.aaload, np, x)) (hq : h[q]? = some (.inl (len, .inr (.inr (.inr (.inr f)))))) (hin : ix i j len) (hf : f j = some a) (kk : V M d mc ms Q k n np L (.ref a :: st) h) : V M d mc ms Q k n pc L (.int i :: .ref q :: st) h := by
  obtain ⟨hd, hnp, hax⟩ := m_dec hM hi (by simp [ilen])
  obtain ⟨rfl, hin⟩ := hin
  subst hnp
  intro p l e s m args below meth c w b H locs ls X hS hH hZ hL
  have kk := kk p l e s m args below meth c w b H locs ls X hS hH hZ hL
  obtain ⟨hx, hb, hml, hown, hts, -, -, hK, hN, -, -⟩ := id X
  refine va_aldq (C := "RoundKiss$Quad") hx hb hK hH q 2 (cvH_get hq) rfl hin hd ?_
  simp only [hf, Option.map_some]
  exact kk
theorem V.ias {q len j : Nat} {f : Nat → Int32} {i v : Int32} (h' : hp_T) (hM : mOK M) (hi : lkf (m_tab M) pc = some (.iastore, np, x)) (hq : h[q]? = some (.inl (len, .inl f))) (hin : ix i j len) (hset : h.set q (.inl (len, .inl (upd f j v))) = h') (kk : V M d mc ms Q k n np L st h') : V M d mc ms Q k n pc L (.int v :: .int i :: .ref q :: st) h := by
  obtain ⟨hd, hnp, hax⟩ := m_dec hM hi (by simp [ilen])
  obtain ⟨rfl, hin⟩ := hin
  subst hnp; subst hset
  intro p l e s m args below meth c w b H locs ls X hS hH hZ hL
  obtain ⟨hx, hb, hml, hown, hts, -, -, hK, hN, -, -⟩ := id X
  exact va_iast hx hb hK hH cvH_D hS q 0 (cvH_get hq) rfl hin hd (fun H1 locs1 hP1 _ hS1 => kk p l e s m args below meth c w b H1 locs1 ls X hS1 (by unfold HR; rw [cvH_set]; exact hP1) (by rw [List.length_set]; exact hZ) hL)
theorem V.las {q len j : Nat} {f : Nat → Int64} {i : Int32} {v : Int64} (h' : hp_T) (hM : mOK M) (hi : lkf (m_tab M) pc = some (.lastore, np, x)) (hq : h[q]? = some (.inl (len, .inr (.inl f)))) (hin : ix i j len) (hset : h.set q (.inl (len, .inr (.inl (vp_updL f j v)))) = h') (kk : V M d mc ms Q k n np L st h') : V M d mc ms Q k n pc L (.long v :: .int i :: .ref q :: st) h := by
  obtain ⟨hd, hnp, hax⟩ := m_dec hM hi (by simp [ilen])
  obtain ⟨rfl, hin⟩ := hin
  subst hnp; subst hset
  intro p l e s m args below meth c w b H locs ls X hS hH hZ hL
  obtain ⟨hx, hb, hml, hown, hts, -, -, hK, hN, -, -⟩ := id X
  exact va_last hx hb hK hH cvH_D hS q 1 (cvH_get hq) rfl hin hd (fun H1 locs1 hP1 _ hS1 => kk p l e s m args below meth c w b H1 locs1 ls X hS1 (by unfold HR; rw [cvH_set]; exact hP1) (by rw [List.length_set]; exact hZ) hL)
theorem V.aas {q len j a : Nat} {f : Nat → Option Nat} {fs : List Value} {i : Int32} (h' : hp_T) (hM : mOK M) (hi : lkf (m_tab M) pc = some (.aastore, np, x)) (hq : h[q]? = some (.inl (len, .inr (.inr (.inr (.inr f)))))) (ha : h[a]? = some (.inr (2, fs))) (hin : ix i j len) (hset : h.set q (.inl (len, .inr (.inr (.inr (.inr (va_up f j (some a))))))) = h') (kk : V M d mc ms Q k n np L st h') : V M d mc ms Q k n pc L (.ref a :: .int i :: .ref q :: st) h := by
  obtain ⟨hd, hnp, hax⟩ := m_dec hM hi (by simp [ilen])
  obtain ⟨rfl, hin⟩ := hin
  subst hnp; subst hset
  intro p l e s m args below meth c w b H locs ls X hS hH hZ hL
  obtain ⟨hx, hb, hml, hown, hts, -, -, hK, hN, -, -⟩ := id X
  refine va_astq (r := (kC 2, kT 2, kN 2)) hx hb hK hH cvH_D hS q 2 a 2 (cvH_get hq) rfl (cvH_get ha) (kcl_at (by decide)) hin hd (fun H1 locs1 hP1 _ hS1 => kk p l e s m args below meth c w b H1 locs1 ls X hS1 ?_ (by rw [List.length_set]; exact hZ) hL)
  unfold HR
  rw [cvH_set]
  have e : (fun k => (va_up f i.toNatClampNeg (some a) k).map (fun i => b + i)) = va_up (fun k => (f k).map (fun i => b + i)) i.toNatClampNeg (some (b + a)) := by
    funext z
    unfold va_up
    by_cases hz : z = i.toNatClampNeg <;> simp [hz]
  show va_P _ _ ((cvH w b h).set q (b + q, .inl (w.2.2.2.2, len, .inr (.inr (.inr (.inr (fun k => (va_up f i.toNatClampNeg (some a) k).map (fun i => b + i)))))))) H1
  rw [e]
  exact hP1
theorem V.alen {q len : Nat} {f : Nat → Int32} (hM : mOK M) (hi : lkf (m_tab M) pc = some (.arraylength, np, x)) (hq : h[q]? = some (.inl (len, .inl f))) (kk : V M d mc ms Q k n np L (.int (nI len) :: st) h) : V M d mc ms Q k n pc L (.ref q :: st) h := by
  obtain ⟨hd, hnp, hax⟩ := m_dec hM hi (by simp [ilen])
  subst hnp
  intro p l e s m args below meth c w b H locs ls X hS hH hZ hL
  obtain ⟨hx, hb, hml, hown, hts, -, -, hK, hN, -, -⟩ := id X
  exact va_alen hx hb hK hH q 0 (cvH_get hq) rfl rfl hd (kk p l e s m args below meth c w b H locs ls X hS hH hZ hL)
theorem W_sz {p : Program} {l : Launch} {e : Env} {R : Room} {s : State} {m : MethodId} {args : Array Value} {below : List Frame} {meth : Method} {c : Code} {H : Heap} {locs : List Loc} {cells slots : Nat} {Qf : State → Prop} {g : JFrame} (f : H.size ≤ s.heap.size + cells → W p l e R s m args below meth c H locs cells slots Qf g) : W p l e R s m args below meth c H locs cells slots Qf g := fun T hT X => f (by rw [← hT]; exact X.heapSize) T hT X
/-! the cell that comes has the next number -/
theorem HR.push {w : wd_T} {b : Nat} {h : hp_T} {H H1 : Heap} {c : ac_T} (hH : HR w b h H) (o1 : ∀ q, q < b + h.length → H1[q]? = H[q]?) (hsz : H.size = b + h.length) (hc : va_at (w.1, w.2.1) kcl (b + h.length, cvE w b c) H1) : HR w b (h ++ [c]) H1 := by
  unfold HR
  rw [cvH_app]
  refine va_P.app (hH.kept fun k x hx => o1 _ (by rw [← hsz]; exact (hH k x hx).lt)) ?_
  intro k q hk
  have hz : k < 1 := (List.getElem?_eq_some_iff.mp hk).1
  rw [show k = 0 by omega] at hk
  cases hk
  exact hc
theorem va_S.push {A : Nat → Prop} {H0 H H1 : Heap} {locs : List Loc} (hS : va_S A H0 H locs) (o1 : ∀ q, q < H.size → H1[q]? = H[q]?) (hsz : H.size ≤ H1.size) : va_S A H0 H1 locs :=
  ⟨Nat.le_trans hS.1 hsz, fun q h1 h2 => (o1 q (Nat.lt_of_lt_of_le h1 hS.1)).trans (hS.2.1 q h1 h2), hS.2.2⟩
theorem posAI_w : Cond.arrayClass .int ∈ tg := tg_at (p := posAI) (by decide +kernel) rfl
theorem posAL_w : Cond.arrayClass .long ∈ tg := tg_at (p := posAL) (by decide +kernel) rfl
theorem V.newI {N : Nat} {a : Int32} (hM : mOK M) (hi : lkf (m_tab M) pc = some (.newarray .int, np, x)) (ha : ¬ a < 0) (hN : a.toNatClampNeg = N) (hsm : N ≤ 100000) (hk : k + 1 ≤ mc) (hn : n + N ≤ ms) (kk : V M d mc ms Q (k + 1) (n + N) np L (.ref h.length :: st) (h ++ [.inl (N, .inl (fun _ => 0))])) : V M d mc ms Q k n pc L (.int a :: st) h := by
  obtain ⟨hd, hnp, hax⟩ := m_dec hM hi (by simp [ilen])
  subst hnp
  intro p l e s m args below meth c w b H locs ls X hS hH hZ hL
  obtain ⟨hx, hb, hml, hown, hts, -, -, hK, hN2, -, hb0⟩ := id X
  have hlo := hH.lo (Nat.le_trans hb0 hS.1)
  refine W_sz (fun hhi => ?_)
  have hsz : H.size = b + h.length := by omega
  refine va_newaK (atype := .int) hx hb (hts _ posAI_w) rfl hd rfl ha hN (by show N * 4 ≤ _; omega) hk hn hsz (fun H1 cA e1 z1 o1 hAr hNm => ?_)
  have hcA : cA = w.2.2.1 := by
    have h2 : s.vm.findClass ("[" ++ (FieldType.int).toString) = some w.2.2.1 := (hK.2 0 _ rfl).2
    exact Option.some.inj (hNm.symm.trans h2)
  subst hcA
  exact kk p l e s m args below meth c w b H1 locs ls X (hS.push (fun q hq => o1 q (by omega)) (by omega)) (hH.push o1 hsz e1) (by simp; omega) hL
theorem V.newL {N : Nat} {a : Int32} (hM : mOK M) (hi : lkf (m_tab M) pc = some (.newarray .long, np, x)) (ha : ¬ a < 0) (hN : a.toNatClampNeg = N) (hsm : N ≤ 100000) (hk : k + 1 ≤ mc) (hn : n + N ≤ ms) (kk : V M d mc ms Q (k + 1) (n + N) np L (.ref h.length :: st) (h ++ [.inl (N, .inr (.inl (fun _ => 0)))])) : V M d mc ms Q k n pc L (.int a :: st) h := by
  obtain ⟨hd, hnp, hax⟩ := m_dec hM hi (by simp [ilen])
  subst hnp
  intro p l e s m args below meth c w b H locs ls X hS hH hZ hL
  obtain ⟨hx, hb, hml, hown, hts, -, -, hK, hN2, -, hb0⟩ := id X
  have hlo := hH.lo (Nat.le_trans hb0 hS.1)
  refine W_sz (fun hhi => ?_)
  have hsz : H.size = b + h.length := by omega
  refine va_newaK (atype := .long) hx hb (hts _ posAL_w) rfl hd rfl ha hN (by show N * 8 ≤ _; omega) hk hn hsz (fun H1 cA e1 z1 o1 hAr hNm => ?_)
  have hcA : cA = w.2.2.2.1 := by
    have h2 : s.vm.findClass ("[" ++ (FieldType.long).toString) = some w.2.2.2.1 := (hK.2 1 _ rfl).2
    exact Option.some.inj (hNm.symm.trans h2)
  subst hcA
  exact kk p l e s m args below meth c w b H1 locs ls X (hS.push (fun q hq => o1 q (by omega)) (by omega)) (hH.push o1 hsz e1) (by simp; omega) hL
end RULES3
def nlB (q : Nat × Nat × Nat × Nat) : Bool := decide (lw_tbl[q.2.1]? = some (.instantiable (kC q.1) (kN q.1))) && (decide (lw_tbl[q.2.2.1]? = some (.initialized (kC q.1))) && Nat.blt q.1 7)
set_option maxRecDepth 100000 in
theorem nlL_ok : nlL.all nlB = true := by decide +kernel
theorem nlL_all : (List.range 7).all (fun c => nlL.any (fun q => Nat.beq q.1 c)) = true := by decide +kernel
theorem nl_w {ci : Nat} (hc : ci < 7) : Cond.instantiable (kC ci) (kN ci) ∈ tg ∧ Cond.initialized (kC ci) ∈ tg := by
  have h1 := List.all_eq_true.mp nlL_all ci (List.mem_range.mpr hc)
  obtain ⟨q, hq, e⟩ := List.any_eq_true.mp h1
  have e := Nat.eq_of_beq_eq_true e
  have h2 := List.all_eq_true.mp nlL_ok q hq
  unfold nlB at h2
  simp only [Bool.and_eq_true, decide_eq_true_eq] at h2
  rw [e] at h2
  exact ⟨tg_at h2.1 rfl, tg_at h2.2.1 rfl⟩
set_option maxRecDepth 100000 in
theorem clL_ok : clL.all (fun q => decide (lw_tbl[q.2.2.2]? = some (.classLink (cn q.1) q.2.1 (kC q.2.2.1))) && Nat.blt q.2.2.1 7) = true := by decide +kernel
theorem cl_w {a j x p : Nat} (h : (a, j, x, p) ∈ clL) : Cond.classLink (cn a) j (kC x) ∈ tg ∧ x < 7 := by
  have h1 := List.all_eq_true.mp clL_ok _ h
  simp only [Bool.and_eq_true, decide_eq_true_eq] at h1
  exact ⟨tg_at h1.1 rfl, by simpa [Nat.blt_eq] using h1.2⟩
def dfv (ty : FieldType) : Value := defaultValue ty
def dfL (c : Nat) : List Value := match c with
  | 0 => [.null, .int 0, .int 0]
  | 1 => [.null, .int 0, .int 0, .int 0, .int 0, .int 0, .int 0, .long 0, .int 0, .int 0]
  | 2 => [.null, .int 0]
  | 3 => [.null, .null, .null, .null, .int 0]
  | 4 => [.null, .null, .null, .int 0, .int 0]
  | 5 => [.null, .null, .null, .null, .null, .null, .null, .null, .null, .int 0, .int 0, .int 0]
  | _ => (List.range 29).map (fun j => defaultValue (tyX8 j))
theorem dfL_ok : ∀ {ci : Nat}, ci < 7 → ∀ b j, j < kN ci → defaultValue (kty ci j) = vp_V ((dfL ci).map (cvV b)) j := by
  intro ci hc b j hj
  have h : (List.range 7).all (fun c => (List.range (kN c)).all (fun j => decide (defaultValue (kty c j) = vp_V (dfL c) j) && (match (dfL c)[j]? with | some (.ref _) => false | some _ => true | none => false))) = true := by decide +kernel
  have h1 := List.all_eq_true.mp (List.all_eq_true.mp h ci (List.mem_range.mpr hc)) j (List.mem_range.mpr hj)
  simp only [Bool.and_eq_true, decide_eq_true_eq] at h1
  rw [h1.1]
  unfold vp_V
  cases hv : (dfL ci)[j]? with
  | none => rw [hv] at h1; simp at h1
  | some v =>
    rw [hv] at h1
    have : cvV b v = v := by cases v <;> first | rfl | (simp at h1)
    simp [List.getD_eq_getElem?_getD, hv, this]
section RULES4
variable {M : mt_T} {d mc ms k n pc np x : Nat} {Q : Option Value → hp_T → Prop} {L : List (Option Value)} {st st' : List Value} {h : hp_T}
theorem V.new {j : Nat} (hM : mOK M) (hi : lkf (m_tab M) pc = some (.new j, np, x)) (hk : k + 1 ≤ mc) (hn : n + kN x ≤ ms) (kk : V M d mc ms Q (k + 1) (n + kN x) np L (.ref h.length :: st) (h ++ [.inr (x, dfL x)])) : V M d mc ms Q k n pc L st h := by
  obtain ⟨hd, hnp, hax⟩ := m_dec hM hi (by simp [ilen])
  have hcn := (m_cn hM).1
  subst hnp
  intro p l e s m args below meth c w b H locs ls X hS hH hZ hL
  obtain ⟨hx, hb, hml, hown, hts, -, -, hK, hN2, -, hb0⟩ := id X
  rw [← hcn] at hown
  obtain ⟨p0, hp0⟩ := has3_ex (show has3 clL M.2.2.2.2.1 j x = true from hax)
  obtain ⟨hcw, hc7⟩ := cl_w hp0
  have hlo := hH.lo (Nat.le_trans hb0 hS.1)
  refine W_sz (fun hhi => ?_)
  have hsz : H.size = b + h.length := by omega
  have hKn := hK.1 x _ (kcl_at hc7)
  refine W.newcK hx hb hown (hts _ hcw) (hts _ (nl_w hc7).1) (hts _ (nl_w hc7).2) rfl hd hk hn hKn.2.1 hsz (fun H1 kC1 hkC e1 z1 o1 => ?_)
  refine kk p l e s m args below meth c w b H1 locs ls X (hS.push (fun q hq => o1 q (by omega)) (by omega)) (hH.push o1 hsz ?_) (by simp; omega) hL
  exact ⟨_, kcl_at hc7, (u_born (kty x) hts (k_ws hc7) hKn hkC e1 (k_ty hc7)).to (dfL_ok hc7 b)⟩
theorem V.anew {j N : Nat} {a : Int32} (hM : mOK M) (hi : lkf (m_tab M) pc = some (.anewarray j, np, 2)) (ha : ¬ a < 0) (hN : a.toNatClampNeg = N) (hsm : N ≤ 100000) (hk : k + 1 ≤ mc) (hn : n + N ≤ ms) (kk : V M d mc ms Q (k + 1) (n + N) np L (.ref h.length :: st) (h ++ [.inl (N, .inr (.inr (.inr (.inr (fun _ => none)))))])) : V M d mc ms Q k n pc L (.int a :: st) h := by
  obtain ⟨hd, hnp, hax⟩ := m_dec hM hi (by simp [ilen])
  have hcn := (m_cn hM).1
  subst hnp
  intro p l e s m args below meth c w b H locs ls X hS hH hZ hL
  obtain ⟨hx, hb, hml, hown, hts, -, -, hK, hN2, -, hb0⟩ := id X
  rw [← hcn] at hown
  obtain ⟨p0, hp0⟩ := has3_ex (show has3 clL M.2.2.2.2.1 j 2 = true from hax)
  obtain ⟨hcw, hc7⟩ := cl_w hp0
  have hlo := hH.lo (Nat.le_trans hb0 hS.1)
  refine W_sz (fun hhi => ?_)
  have hsz : H.size = b + h.length := by omega
  subst hN
  refine W.anew (C := "RoundKiss$Quad") hx hb hown (hts _ hcw) (va_AO.use hN2.2) rfl hd rfl ha (by omega) hk hn (fun cA kA comp f1 f2 f3 f4 => ?_)
  have hcA : cA = w.2.2.2.2 := by
    obtain ⟨kA', comp', g1, g2, g3, g4⟩ := (hK.2 2 _ rfl).2
    exact Option.some.inj (f1.symm.trans g4)
  subst hcA
  generalize hH1 : H.push ({ cls := w.2.2.2.2, slots := Array.replicate a.toNatClampNeg .null, vm := .none } : Cell) = H1
  have z1 : H1.size = H.size + 1 := by rw [← hH1, Array.size_push]
  have e1 : H1[H.size]? = some (arrV w.2.2.2.2 a.toNatClampNeg (fun _ => .null)) := by rw [← hH1, Array.getElem?_push_size, ← arrV_new]
  have o1 : ∀ q, q < H.size → H1[q]? = H[q]? := fun q hq => by rw [← hH1, Array.getElem?_push, if_neg (Nat.ne_of_lt hq)]
  rw [hsz]
  refine kk p l e s m args below meth c w b H1 locs ls X (hS.push o1 (by omega)) (hH.push (fun q hq => o1 q (by omega)) hsz ?_) (by simp; omega) hL
  show H1[b + h.length]? = some (vp_cell _ _)
  rw [← hsz, e1]
  rfl
end RULES4
end
section
/-! answers -/
section RULES5
variable {M : mt_T} {d mc ms k n pc np x : Nat} {Q : Option Value → hp_T → Prop} {L : List (Option Value)} {st st' : List Value} {h : hp_T}
theorem V.iret {v : Int32} (hM : mOK M) (hi : lkf (m_tab M) pc = some (.ireturn, np, x)) (hr : M.2.2.2.1 = some .int) (hQ : Q (some (.int v)) h) : V M d mc ms Q mc ms pc L [.int v] h := by
  obtain ⟨hd, hnp, hax⟩ := m_dec hM hi (by simp [ilen])
  intro p l e s m args below meth c w b H locs ls X hS hH hZ hL
  obtain ⟨hx, hb, hml, hown, hts, hret, hlocks, hK, hN2, -, hb0⟩ := id X
  exact W.iret (v := v) hx hb (hret.trans hr) (fun t ht hW => ⟨⟨some (.int v), h, hQ, rfl, by rw [ht]; exact hH, hZ⟩, hS.F ht⟩) hS.2.2 hd
theorem V.zret {v : Int32} (hM : mOK M) (hi : lkf (m_tab M) pc = some (.ireturn, np, x)) (hr : M.2.2.2.1 = some .boolean) (hv : v = 0 ∨ v = 1) (hQ : Q (some (.int v)) h) : V M d mc ms Q mc ms pc L [.int v] h := by
  obtain ⟨hd, hnp, hax⟩ := m_dec hM hi (by simp [ilen])
  intro p l e s m args below meth c w b H locs ls X hS hH hZ hL
  obtain ⟨hx, hb, hml, hown, hts, hret, hlocks, hK, hN2, -, hb0⟩ := id X
  refine W.zret (v := v) hx hb (hret.trans hr) ?_ (fun t ht hW => ⟨⟨some (.int v), h, hQ, rfl, by rw [ht]; exact hH, hZ⟩, hS.F ht⟩) hS.2.2 hd
  rcases hv with rfl | rfl
  · decide +kernel
  · decide +kernel
theorem V.lret {v : Int64} (hM : mOK M) (hi : lkf (m_tab M) pc = some (.lreturn, np, x)) (hr : M.2.2.2.1 = some .long) (hQ : Q (some (.long v)) h) : V M d mc ms Q mc ms pc L [.long v] h := by
  obtain ⟨hd, hnp, hax⟩ := m_dec hM hi (by simp [ilen])
  intro p l e s m args below meth c w b H locs ls X hS hH hZ hL
  obtain ⟨hx, hb, hml, hown, hts, hret, hlocks, hK, hN2, -, hb0⟩ := id X
  exact W.lret (v := v) hx hb (hret.trans hr) (fun t ht hW => ⟨⟨some (.long v), h, hQ, rfl, by rw [ht]; exact hH, hZ⟩, hS.F ht⟩) hS.2.2 hd
theorem V.vret (hM : mOK M) (hi : lkf (m_tab M) pc = some (.return_, np, x)) (hr : M.2.2.2.1 = none) (hQ : Q none h) : V M d mc ms Q mc ms pc L [] h := by
  obtain ⟨hd, hnp, hax⟩ := m_dec hM hi (by simp [ilen])
  intro p l e s m args below meth c w b H locs ls X hS hH hZ hL
  obtain ⟨hx, hb, hml, hown, hts, hret, hlocks, hK, hN2, -, hb0⟩ := id X
  exact W.vret hx hb (hret.trans hr) (fun t ht hW => ⟨⟨none, h, hQ, rfl, by rw [ht]; exact hH, hZ⟩, hS.F ht⟩) hS.2.2 hd
end RULES5
/-! contracts -/
def C (M : mt_T) (d mc ms : Nat) (vs : List Value) (h : hp_T) (Q : Option Value → hp_T → Prop) : Prop :=
  ∀ (l : Launch) (w : wd_T) (b : Nat), Met l M.1 (m_cw M :: tg) (rmR d mc ms) (va_Pc (vs.map (cvV b)) (fun U => HR w b h U.heap ∧ U.heap.size ≤ b + h.length ∧ b ≤ U.heap.size ∧ va_K (w.1, w.2.1) kcl (wty w) U ∧ NX U)) (QcR w b mc Q) mc ms (fun q => b ≤ q)
def enL : Nat → List Value → List (Option Value)
  | 0, _ => []
  | n + 1, [] => none :: enL n []
  | 1, .long x :: _ => [some (.long x)]
  | n + 2, .long x :: t => some (.long x) :: none :: enL n t
  | n + 1, v :: t => some v :: enL n t
def enN : List Value → Nat
  | [] => 0
  | v :: t => v.category + enN t
theorem enN_len : ∀ (vs : List Value) (b : Nat), (lg_sl (vs.map (cvV b))).length = enN vs
  | [], b => rfl
  | v :: t, b => by
    have ih := enN_len t b
    simp only [lg_sl, List.map_cons, List.flatMap_cons, List.length_append] at ih ⊢
    rw [ih, enN]
    cases v <;> simp [cvV, Value.category]
def noD (v : Value) : Bool := match v with
  | .double _ => false
  | _ => true
theorem enL_get : ∀ (n : Nat) (vs : List Value), vs.all noD = true → ∀ (i : Nat) (v : Value) (k b : Nat), (enL n vs)[i]? = some (some v) → (k + i, cvV b v) ∈ lv_args k (vs.map (cvV b)) := by
  intro n vs
  induction n, vs using enL.induct with
  | case1 vs => intro _ i v k b h; simp [enL] at h
  | case2 n ih =>
    intro hd i v k b h
    cases i with
    | zero => simp [enL] at h
    | succ i =>
      have h1 := ih hd i v k b (by simpa [enL] using h)
      simp [lv_args] at h1
  | case3 x t =>
    intro hd i v k b h
    cases i with
    | zero => simp [enL] at h; subst h; simp [lv_args, cvV]
    | succ i => simp [enL] at h
  | case4 n x t ih =>
    intro hd i v k b h
    match i with
    | 0 => simp [enL] at h; subst h; simp [lv_args, cvV]
    | 1 => simp [enL] at h
    | i + 2 =>
      have h1 := ih (by simp at hd ⊢; exact hd.2) i v (k + 2) b (by simpa [enL] using h)
      simp only [List.map_cons, lv_args, cvV, Value.category, if_true]
      rw [show k + (i + 2) = k + 2 + i by omega]
      exact List.mem_cons_of_mem _ h1
  | case5 n v0 t hx1 hx2 ih =>
    intro hd i v k b h
    have e : enL (n + 1) (v0 :: t) = some v0 :: enL n t := by
      cases n with
      | zero => cases v0 <;> first | rfl | exact absurd rfl (hx1 _ rfl)
      | succ n => cases v0 <;> first | rfl | exact absurd rfl (hx2 _ _ rfl)
    have hc : (cvV b v0).category ≠ 2 := by
      cases v0 <;> first | (simp [cvV, Value.category]; done) | skip
      · cases n with
        | zero => exact absurd rfl (hx1 _ rfl)
        | succ n => exact absurd rfl (hx2 _ _ rfl)
      · simp [noD] at hd
    rw [e] at h
    simp only [List.map_cons, lv_args, if_neg hc]
    cases i with
    | zero => simp at h; subst h; exact List.mem_cons_self
    | succ i =>
      have h1 := ih (by simp at hd ⊢; exact hd.2) i v (k + 1) b (by simpa using h)
      rw [show k + (i + 1) = k + 1 + i by omega]
      exact List.mem_cons_of_mem _ h1
theorem enL_len : ∀ (n : Nat) (vs : List Value), (enL n vs).length = n := by
  intro n vs
  induction n, vs using enL.induct with
  | case1 vs => rfl
  | case2 n ih => simp [enL, ih]
  | case3 x t => rfl
  | case4 n x t ih => simp [enL, ih]
  | case5 n v0 t hx1 hx2 ih =>
    have e : enL (n + 1) (v0 :: t) = some v0 :: enL n t := by
      cases n with
      | zero => cases v0 <;> first | rfl | exact absurd rfl (hx1 _ rfl)
      | succ n => cases v0 <;> first | rfl | exact absurd rfl (hx2 _ _ rfl)
    rw [e]; simp [ih]
theorem C.of {M : mt_T} {d mc ms : Nat} {vs : List Value} {h : hp_T} {Q : Option Value → hp_T → Prop} (L : List (Option Value)) (hM : mOK M) (hL : enL M.2.2.1 vs = L) (hd : vs.all noD = true) (hn : Nat.ble (enN vs) M.2.2.1 = true) (kk : V M d mc ms Q 0 0 0 L [] h) : C M d mc ms vs h Q := by
  intro l w b
  refine va_MetF (cc := M.2.1) (maxL := M.2.2.1) (ret := M.2.2.2.1) (m_cn hM).2.2 rfl ?_
  intro p e s m args below meth c s₁ B hml hv
  obtain ⟨rfl, hH, hsz, hb0, hK, hN⟩ := hv
  have hts := atoms_spec (ws := m_cw M :: tg) B.pre
  rw [lg_entry_eq]
  have hl := lv_entry (vs.map (cvV b)) (n := M.2.2.1) (by rw [enN_len]; exact Nat.le_of_ble_eq_true hn)
  refine kk p l e s m _ below meth c w b s.heap [] _ ⟨B.exec, B.bytes, hml, findClass_of_methodNamed B.named, fun q hq => hts q (List.mem_cons_of_mem _ hq), B.returns, B.notSynchronized, hK, hN, (name_of_methodNamed B.named B.method).1, hb0⟩ va_S.rf hH (by omega) ⟨by rw [← hL]; exact enL_len _ _, lv_mono hl fun q hq => ?_⟩
  obtain ⟨j, u⟩ := q
  obtain ⟨i, v, h1, h2, h3⟩ := asl_mem hq
  rw [← hL] at h1
  have h4 := enL_get _ vs hd i v 0 b h1
  rw [h2, h3]
  exact h4
theorem C.mono {M : mt_T} {d mc ms : Nat} {vs : List Value} {h : hp_T} {Q Q' : Option Value → hp_T → Prop} (hC : C M d mc ms vs h Q) (hq : ∀ r h', Q r h' → Q' r h') : C M d mc ms vs h Q' := by
  intro l w b p e ha hc hk s m args below
  have h1 := hC l w b p e ha hc hk s m args below
  intro hf h2 h3 h4
  obtain ⟨j, o, g1, g2, g3, ⟨⟨⟨r, h', e1, e2⟩, e3⟩, e4⟩⟩ := h1 hf h2 h3 h4
  exact ⟨j, o, g1, g2, g3, ⟨⟨⟨r, h', hq _ _ e1, e2⟩, e3⟩, e4⟩⟩
/-! calls -/
theorem w_call {p : Program} {l : Launch} {e : Env} {R : Room} {s : State} {m : MethodId} {args : Array Value} {below : List Frame} {meth : Method} {c : Code} {H : Heap} {locs : List Loc} {k n mc ms : Nat} {Qf : State → Prop} {pc : Nat} {ls : Array Slot} {st0 rest : List Value} {a : Array Value} {w : wd_T} {b : Nat} {h : hp_T} {Q : Option Value → hp_T → Prop}
    (hr : va_Run p l e R s m args below meth c H locs k n mc ms (F0 m pc ls st0) rest (QcR w b mc Q a) (fun q => b ≤ q)) (hS : va_S (fun q => b ≤ q) s.heap H locs) (hH : HR w b h H) (hZ : s.heap.size + k ≤ b + h.length) (hb0 : b ≤ s.heap.size)
    (kk : ∀ r h' H1 locs1, Q r h' → HR w b h' H1 → s.heap.size + (k + mc) ≤ b + h'.length → va_S (fun q => b ≤ q) s.heap H1 locs1 → W p l e R s m args below meth c H1 locs1 (k + mc) (n + ms) Qf (F0 m (pc + 3) ls ((r.map (cvV b)).toList ++ rest))) : W p l e R s m args below meth c H locs k n Qf (F0 m pc ls st0) := by
  intro T hT X
  obtain ⟨v, st₀, t, T', L, h0, X', hL, e1, e2, ⟨⟨r, h', hq, hv, hb, hz⟩, hf, hk⟩, stp⟩ := hr T hT X
  cases hv
  have hlo := hH.lo (Nat.le_trans hb0 hS.1)
  rw [h0] at hf hk hz
  obtain ⟨t2, a1, b1⟩ := kk r h' T'.heap (locs ++ L) hq (by rw [e1]; exact hb) (by omega) ⟨Nat.le_trans hS.1 (by rw [e1]; exact hf), fun q h1 h2 => by rw [e1, hk q (Nat.lt_of_lt_of_le h1 hS.1) h2]; exact hS.2.1 q h1 h2, fun q hq => by
      rcases List.mem_append.mp hq with h | h
      · exact hS.2.2 q h
      · exact hL q h⟩ T' rfl X'
  exact ⟨t2, stp t2 a1, b1⟩
end
section
set_option maxRecDepth 100000 in
theorem mlL_ok : mlL.all (fun q => decide (lw_tbl[q.2.2.2]? = some (.methodLink (cn q.1) q.2.1 (mn q.2.2.1)))) = true := by decide +kernel
theorem ml_w {a j x p : Nat} (h : (a, j, x, p) ∈ mlL) : Cond.methodLink (cn a) j (mn x) ∈ tg := by
  have h1 := List.all_eq_true.mp mlL_ok _ h
  simp only [decide_eq_true_eq] at h1
  exact tg_at h1 rfl
def mdB (y : MethodName) (na : Nat) : Bool := decide (y.cls ≠ "java/lang/invoke/MethodHandle" ∧ y.cls ≠ "java/lang/invoke/VarHandle") && decide ((parseMethodDescriptor y.desc).map (fun d => d.parameters.length) = some na)
set_option maxRecDepth 100000 in
theorem vlL_ok : vlL.all (fun q => decide (lw_tbl[q.2.1]? = some (.instanceMethod (mn q.1))) && (decide (lw_tbl[q.2.2.1]? = some (.selects (mn q.1).cls (mn q.1) (mn q.1))) && (decide (lw_tbl[q.2.2.2.1]? = some (.initialized (mn q.1).cls)) && mdB (mn q.1) q.2.2.2.2))) = true := by decide +kernel
set_option maxRecDepth 100000 in
theorem slL_ok : slL.all (fun q => decide (lw_tbl[q.2.1]? = some (.static (mn q.1))) && (decide (lw_tbl[q.2.2.1]? = some (.initialized (mn q.1).cls)) && mdB (mn q.1) q.2.2.2)) = true := by decide +kernel
set_option maxRecDepth 100000 in
theorem ilL_ok : ilL.all (fun q => decide (lw_tbl[q.2.1]? = some (.instanceMethod (mn q.1))) && (decide (lw_tbl[q.2.2.1]? = some (.initialized (mn q.1).cls)) && (mdB (mn q.1) q.2.2.2 && decide ((mn q.1).name = "<init>")))) = true := by decide +kernel
def vnB (x na : Nat) : Bool := vlL.any (fun q => Nat.beq q.1 x && Nat.beq q.2.2.2.2 na)
def snB (x na : Nat) : Bool := slL.any (fun q => Nat.beq q.1 x && Nat.beq q.2.2.2 na)
def inB (x na : Nat) : Bool := ilL.any (fun q => Nat.beq q.1 x && Nat.beq q.2.2.2 na)
theorem vn_w {x na : Nat} (h : vnB x na = true) : Cond.instanceMethod (mn x) ∈ tg ∧ Cond.selects (mn x).cls (mn x) (mn x) ∈ tg ∧ Cond.initialized (mn x).cls ∈ tg ∧ mdB (mn x) na = true := by
  obtain ⟨q, hq, h1⟩ := List.any_eq_true.mp h
  simp only [Bool.and_eq_true] at h1
  have e1 := Nat.eq_of_beq_eq_true h1.1
  have e2 := Nat.eq_of_beq_eq_true h1.2
  have h2 := List.all_eq_true.mp vlL_ok q hq
  simp only [Bool.and_eq_true, decide_eq_true_eq] at h2
  rw [e1, e2] at h2
  exact ⟨tg_at h2.1 rfl, tg_at h2.2.1 rfl, tg_at h2.2.2.1 rfl, h2.2.2.2⟩
theorem sn_w {x na : Nat} (h : snB x na = true) : Cond.static (mn x) ∈ tg ∧ Cond.initialized (mn x).cls ∈ tg ∧ mdB (mn x) na = true := by
  obtain ⟨q, hq, h1⟩ := List.any_eq_true.mp h
  simp only [Bool.and_eq_true] at h1
  have e1 := Nat.eq_of_beq_eq_true h1.1
  have e2 := Nat.eq_of_beq_eq_true h1.2
  have h2 := List.all_eq_true.mp slL_ok q hq
  simp only [Bool.and_eq_true, decide_eq_true_eq] at h2
  rw [e1, e2] at h2
  exact ⟨tg_at h2.1 rfl, tg_at h2.2.1 rfl, h2.2.2⟩
theorem in_w {x na : Nat} (h : inB x na = true) : Cond.instanceMethod (mn x) ∈ tg ∧ Cond.initialized (mn x).cls ∈ tg ∧ mdB (mn x) na = true ∧ (mn x).name = "<init>" := by
  obtain ⟨q, hq, h1⟩ := List.any_eq_true.mp h
  simp only [Bool.and_eq_true] at h1
  have e1 := Nat.eq_of_beq_eq_true h1.1
  have e2 := Nat.eq_of_beq_eq_true h1.2
  have h2 := List.all_eq_true.mp ilL_ok q hq
  simp only [Bool.and_eq_true, decide_eq_true_eq] at h2
  rw [e1, e2] at h2
  exact ⟨tg_at h2.1 rfl, tg_at h2.2.1 rfl, h2.2.2.1, h2.2.2.2⟩
theorem m_cw_tg {M : mt_T} (hM : mOK M) : m_cw M ∈ tg := List.mem_filter.mpr ⟨hM.2, rfl⟩
theorem pc_blind {w : wd_T} {b : Nat} {h : hp_T} {vs : List Value} : FrameBlind (va_Pc vs (fun U => HR w b h U.heap ∧ U.heap.size ≤ b + h.length ∧ b ≤ U.heap.size ∧ va_K (w.1, w.2.1) kcl (wty w) U ∧ NX U)) := by
  intro a U g mk q
  obtain ⟨q0, q1, q2, q3, q4, q5⟩ := q
  exact ⟨q0, q1, q2, q3, va_K.moved (u := U) (U := U.calling g mk a) (Vm.Alike.refl U.vm) q4, NX.same (u := U) (U := U.calling g mk a) rfl q5⟩
section WCALL
variable {p : Program} {l : Launch} {e : Env} {R : Room} {s : State} {m : MethodId} {args : Array Value} {below : List Frame} {meth : Method} {c : Code} {H : Heap} {locs : List Loc} {k n mc ms : Nat} {Qf : State → Prop} {pc : Nat} {ls : Array Slot} {rest As : List Value} {w : wd_T} {b : Nat} {h : hp_T} {Q : Option Value → hp_T → Prop} {M' : mt_T} {d j x q ci : Nat} {fs : List Value} {own : String} {cc : ByteArray} {nL : Nat}
theorem w_cV (S : CallFix p m c cc nL s args tg own) (hM' : mOK M') (hC : C M' d mc ms (.ref q :: As) h Q) (hmn : mn x = M'.1) (hl : Cond.methodLink own j (mn x) ∈ tg) (hv : vnB x As.length = true) (hq : h[q]? = some (.inr (ci, fs))) (hci : ci < 7) (hcls : kC ci = M'.1.cls) (hroom : (rest.map fun v => v.category).sum ≤ 8) (hf : k + mc ≤ R.cells ∧ n + ms ≤ R.slots) (hR : d + 3 ≤ R.frames ∧ 40 * d + 100 ≤ R.locals)
    (hd : decode cc pc = .ok (.invokevirtual j, 3)) (hls : ls.size = nL) (hK : va_K (w.1, w.2.1) kcl (wty w) s) (hN : NX s) (hS : va_S (fun q => b ≤ q) s.heap H locs) (hH : HR w b h H) (hZ : s.heap.size + k ≤ b + h.length) (hb0 : b ≤ s.heap.size)
    (kk : ∀ r h' H1 locs1, Q r h' → HR w b h' H1 → s.heap.size + (k + mc) ≤ b + h'.length → va_S (fun q => b ≤ q) s.heap H1 locs1 → W p l e R s m args below meth c H1 locs1 (k + mc) (n + ms) Qf (F0 m (pc + 3) ls ((r.map (cvV b)).toList ++ rest))) : W p l e R s m args below meth c H locs k n Qf (F0 m pc ls ((As.map (cvV b)).reverse ++ .ref (b + q) :: rest)) := by
  obtain ⟨w1, w2, w3, w4⟩ := vn_w hv
  unfold mdB at w4
  simp only [Bool.and_eq_true, decide_eq_true_eq] at w4
  have hnl := (m_cn hM').2.1
  rw [hmn] at w1 w2 w3 w4 hl
  refine W_sz (fun hhi => ?_)
  refine w_call (mc := mc) (ms := ms) (Q := Q) (h := h) (w := w) (b := b) (a := (Value.ref (b + q) :: As.map (cvV b)).toArray) (rest := rest) ?_ hS hH hZ hb0 kk
  refine va_runV (As := As.map (cvV b)) (rest := rest) (C := M'.1.cls) (b := b + q) S (hC l w b) (cwV (ws' := tg) As.length S.2.2.2.2 (tg_good ?_) rfl rfl rfl ⟨rfl, w4.1.1, w4.1.2, w4.2⟩ ⟨?_, ?_⟩) ⟨pc_blind, ?_, fun U hU hW => ⟨rfl, by rw [hU]; exact hH, by rw [hU]; omega, by rw [hU]; exact Nat.le_trans hb0 hS.1, va_K.moved hW.alike hK, hN.warm hW⟩⟩ rfl (by simp) hls rfl (lv_room hroom) hd hf
  · intro z hz
    simp only [wsV, List.mem_append, List.mem_cons, List.not_mem_nil, or_false] at hz
    rcases hz with (rfl | rfl | rfl | rfl) | rfl | hz
    · exact hl
    · exact w1
    · exact w2
    · exact w3
    · exact m_cw_tg hM'
    · exact hz
  · show d + 2 + 1 ≤ _
    omega
  · show 8 + (M'.2.2.1 + 11) + (40 * d + 60) ≤ _
    omega
  · have h1 := va_recv hK hH (kcl_at hci) (cvH_get hq)
    rw [← hcls]
    exact h1
theorem w_cS (S : CallFix p m c cc nL s args tg own) (hM' : mOK M') (hC : C M' d mc ms As h Q) (hmn : mn x = M'.1) (hl : Cond.methodLink own j (mn x) ∈ tg) (hv : snB x As.length = true) (hroom : (rest.map fun v => v.category).sum ≤ 8) (hf : k + mc ≤ R.cells ∧ n + ms ≤ R.slots) (hR : d + 3 ≤ R.frames ∧ 40 * d + 100 ≤ R.locals)
    (hd : decode cc pc = .ok (.invokestatic j, 3)) (hls : ls.size = nL) (hK : va_K (w.1, w.2.1) kcl (wty w) s) (hN : NX s) (hS : va_S (fun q => b ≤ q) s.heap H locs) (hH : HR w b h H) (hZ : s.heap.size + k ≤ b + h.length) (hb0 : b ≤ s.heap.size)
    (kk : ∀ r h' H1 locs1, Q r h' → HR w b h' H1 → s.heap.size + (k + mc) ≤ b + h'.length → va_S (fun q => b ≤ q) s.heap H1 locs1 → W p l e R s m args below meth c H1 locs1 (k + mc) (n + ms) Qf (F0 m (pc + 3) ls ((r.map (cvV b)).toList ++ rest))) : W p l e R s m args below meth c H locs k n Qf (F0 m pc ls ((As.map (cvV b)).reverse ++ rest)) := by
  obtain ⟨w1, w3, w4⟩ := sn_w hv
  unfold mdB at w4
  simp only [Bool.and_eq_true, decide_eq_true_eq] at w4
  have hnl := (m_cn hM').2.1
  rw [hmn] at w1 w3 w4 hl
  refine W_sz (fun hhi => ?_)
  refine w_call (mc := mc) (ms := ms) (Q := Q) (h := h) (w := w) (b := b) (a := (As.map (cvV b)).toArray) (rest := rest) ?_ hS hH hZ hb0 kk
  refine va_runS (As := As.map (cvV b)) (rest := rest) S (hC l w b) (va_cwS (ws' := tg) As.length S.2.2.2.2 (tg_good ?_) rfl rfl rfl ⟨w4.1.1, w4.1.2, w4.2⟩ ⟨?_, ?_⟩) ⟨pc_blind, fun U hU hW => ⟨rfl, by rw [hU]; exact hH, by rw [hU]; omega, by rw [hU]; exact Nat.le_trans hb0 hS.1, va_K.moved hW.alike hK, hN.warm hW⟩⟩ rfl (by simp) hls rfl (lv_room hroom) hd hf
  · intro z hz
    simp only [va_wsS, List.mem_append, List.mem_cons, List.not_mem_nil, or_false] at hz
    rcases hz with (rfl | rfl | rfl) | rfl | hz
    · exact hl
    · exact w1
    · exact w3
    · exact m_cw_tg hM'
    · exact hz
  · show d + 2 + 1 ≤ _
    omega
  · show 8 + (M'.2.2.1 + 11) + (40 * d + 60) ≤ _
    omega
theorem w_cI (S : CallFix p m c cc nL s args tg own) (hM' : mOK M') (hC : C M' d mc ms (.ref q :: As) h Q) (hmn : mn x = M'.1) (hr0 : M'.2.2.2.1 = none) (hl : Cond.methodLink own j (mn x) ∈ tg) (hv : inB x As.length = true) (hroom : (rest.map fun v => v.category).sum ≤ 8) (hf : k + mc ≤ R.cells ∧ n + ms ≤ R.slots) (hR : d + 3 ≤ R.frames ∧ 40 * d + 100 ≤ R.locals)
    (hd : decode cc pc = .ok (.invokespecial j, 3)) (hls : ls.size = nL) (hK : va_K (w.1, w.2.1) kcl (wty w) s) (hN : NX s) (hS : va_S (fun q => b ≤ q) s.heap H locs) (hH : HR w b h H) (hZ : s.heap.size + k ≤ b + h.length) (hb0 : b ≤ s.heap.size)
    (kk : ∀ r h' H1 locs1, Q r h' → HR w b h' H1 → s.heap.size + (k + mc) ≤ b + h'.length → va_S (fun q => b ≤ q) s.heap H1 locs1 → W p l e R s m args below meth c H1 locs1 (k + mc) (n + ms) Qf (F0 m (pc + 3) ls ((r.map (cvV b)).toList ++ rest))) : W p l e R s m args below meth c H locs k n Qf (F0 m pc ls ((As.map (cvV b)).reverse ++ .ref (b + q) :: rest)) := by
  obtain ⟨w1, w3, w4, w5⟩ := in_w hv
  unfold mdB at w4
  simp only [Bool.and_eq_true, decide_eq_true_eq] at w4
  have hnl := (m_cn hM').2.1
  rw [hmn] at w1 w3 w4 hl w5
  refine W_sz (fun hhi => ?_)
  refine w_call (mc := mc) (ms := ms) (Q := Q) (h := h) (w := w) (b := b) (a := (Value.ref (b + q) :: As.map (cvV b)).toArray) (rest := rest) ?_ hS hH hZ hb0 kk
  have hcw : (m_cw M' :: tg) = Cond.code M'.1 M'.2.1 M'.2.2.1 none :: tg := by unfold m_cw; rw [hr0]
  refine va_runI (As := As.map (cvV b)) (rest := rest) (b := b + q) S (hC l w b) (cwI (ws' := tg) As.length S.2.2.2.2 (tg_good ?_) hcw rfl rfl (S.2.2.2.2 _ w3) (S.2.2.2.2 _ hl) (S.2.2.2.2 _ w1) w5 ⟨w4.1.1, w4.1.2, w4.2⟩ ⟨?_, ?_⟩) ⟨pc_blind, fun U hU hW => ⟨rfl, by rw [hU]; exact hH, by rw [hU]; omega, by rw [hU]; exact Nat.le_trans hb0 hS.1, va_K.moved hW.alike hK, hN.warm hW⟩⟩ rfl (by simp) hls rfl (lv_room hroom) hd hf
  · intro z hz
    rcases List.mem_cons.mp hz with rfl | hz
    · exact m_cw_tg hM'
    · exact hz
  · show d + 2 + 1 ≤ _
    omega
  · show 8 + (M'.2.2.1 + 11) + (40 * d + 60) ≤ _
    omega
end WCALL
theorem cv_rev {b : Nat} {As rest : List Value} : (As.reverse ++ rest).map (cvV b) = (As.map (cvV b)).reverse ++ rest.map (cvV b) := by simp
theorem cv_cat {b : Nat} : ∀ (rest : List Value), ((rest.map (cvV b)).map fun v => v.category).sum = (rest.map fun v => v.category).sum
  | [] => rfl
  | v :: t => by simp only [List.map_cons, List.sum_cons, cvV_cat, cv_cat t]
section RULES6
variable {M M' : mt_T} {d mc ms k n pc np x j q ci mc' ms' : Nat} {Q Q' : Option Value → hp_T → Prop} {L : List (Option Value)} {st rest As : List Value} {h : hp_T} {fs : List Value}
theorem V.cV (hM : mOK M) (hM' : mOK M') (hC : C M' d mc' ms' (.ref q :: As) h Q') (hi : lkf (m_tab M) pc = some (.invokevirtual j, np, x)) (hst : As.reverse ++ .ref q :: rest = st) (hmn : mn x = M'.1) (hv : vnB x As.length = true) (hq : h[q]? = some (.inr (ci, fs))) (hci : Nat.blt ci 7 = true) (hcls : kC ci = M'.1.cls) (hroom : Nat.ble (rest.map fun v => v.category).sum 8 = true) (hk : k + mc' ≤ mc) (hn : n + ms' ≤ ms)
    (kk : ∀ r h', Q' r h' → V M (d + 1) mc ms Q (k + mc') (n + ms') np L (r.toList ++ rest) h') : V M (d + 1) mc ms Q k n pc L st h := by
  obtain ⟨hd, hnp, hax⟩ := m_dec hM hi (by simp [ilen])
  have hcn := (m_cn hM).1
  subst hnp; subst hst
  intro p l e s m args below meth c w b H locs ls X hS hH hZ hL
  obtain ⟨hx, hb, hml, hown, hts, -, -, hK, hN, -, hb0⟩ := id X
  rw [← hcn] at hown
  obtain ⟨p0, hp0⟩ := has3_ex (show has3 mlL M.2.2.2.2.1 j x = true from hax)
  rw [show As.reverse ++ Value.ref q :: rest = As.reverse ++ ([.ref q] ++ rest) by simp, cv_rev, List.map_append]
  refine w_cV (rest := rest.map (cvV b)) ⟨hx, hb, hml, hown, hts⟩ hM' hC hmn (ml_w hp0) hv hq (by simpa [Nat.blt_eq] using hci) hcls (by rw [cv_cat]; exact Nat.le_of_ble_eq_true hroom) ⟨hk, hn⟩ ⟨by show d + 3 ≤ d + 1 + 2; omega, by show 40 * d + 100 ≤ 40 * (d + 1) + 60; omega⟩ hd hL.lt hK hN hS hH hZ hb0 (fun r h' H1 locs1 hq' hH1 hZ1 hS1 => ?_)
  have k1 := kk r h' hq' p l e s m args below meth c w b H1 locs1 ls X hS1 hH1 hZ1 hL
  rw [List.map_append] at k1
  cases r <;> exact k1
theorem V.cS (hM : mOK M) (hM' : mOK M') (hC : C M' d mc' ms' As h Q') (hi : lkf (m_tab M) pc = some (.invokestatic j, np, x)) (hst : As.reverse ++ rest = st) (hmn : mn x = M'.1) (hv : snB x As.length = true) (hml' : has3 mlL M.2.2.2.2.1 j x = true) (hroom : Nat.ble (rest.map fun v => v.category).sum 8 = true) (hk : k + mc' ≤ mc) (hn : n + ms' ≤ ms)
    (kk : ∀ r h', Q' r h' → V M (d + 1) mc ms Q (k + mc') (n + ms') np L (r.toList ++ rest) h') : V M (d + 1) mc ms Q k n pc L st h := by
  obtain ⟨hd, hnp, hax⟩ := m_dec hM hi (by simp [ilen])
  have hcn := (m_cn hM).1
  subst hnp; subst hst
  intro p l e s m args below meth c w b H locs ls X hS hH hZ hL
  obtain ⟨hx, hb, hml, hown, hts, -, -, hK, hN, -, hb0⟩ := id X
  rw [← hcn] at hown
  obtain ⟨p0, hp0⟩ := has3_ex hml'
  rw [cv_rev]
  refine w_cS (rest := rest.map (cvV b)) ⟨hx, hb, hml, hown, hts⟩ hM' hC hmn (ml_w hp0) hv (by rw [cv_cat]; exact Nat.le_of_ble_eq_true hroom) ⟨hk, hn⟩ ⟨by show d + 3 ≤ d + 1 + 2; omega, by show 40 * d + 100 ≤ 40 * (d + 1) + 60; omega⟩ hd hL.lt hK hN hS hH hZ hb0 (fun r h' H1 locs1 hq' hH1 hZ1 hS1 => ?_)
  have k1 := kk r h' hq' p l e s m args below meth c w b H1 locs1 ls X hS1 hH1 hZ1 hL
  rw [List.map_append] at k1
  cases r <;> exact k1
theorem V.cI (hM : mOK M) (hM' : mOK M') (hC : C M' d mc' ms' (.ref q :: As) h Q') (hi : lkf (m_tab M) pc = some (.invokespecial j, np, x)) (hst : As.reverse ++ .ref q :: rest = st) (hmn : mn x = M'.1) (hr0 : M'.2.2.2.1 = none) (hv : inB x As.length = true) (hml' : has3 mlL M.2.2.2.2.1 j x = true) (hroom : Nat.ble (rest.map fun v => v.category).sum 8 = true) (hk : k + mc' ≤ mc) (hn : n + ms' ≤ ms)
    (kk : ∀ r h', Q' r h' → V M (d + 1) mc ms Q (k + mc') (n + ms') np L (r.toList ++ rest) h') : V M (d + 1) mc ms Q k n pc L st h := by
  obtain ⟨hd, hnp, hax⟩ := m_dec hM hi (by simp [ilen])
  have hcn := (m_cn hM).1
  subst hnp; subst hst
  intro p l e s m args below meth c w b H locs ls X hS hH hZ hL
  obtain ⟨hx, hb, hml, hown, hts, -, -, hK, hN, -, hb0⟩ := id X
  rw [← hcn] at hown
  obtain ⟨p0, hp0⟩ := has3_ex hml'
  rw [show As.reverse ++ Value.ref q :: rest = As.reverse ++ ([.ref q] ++ rest) by simp, cv_rev, List.map_append]
  refine w_cI (rest := rest.map (cvV b)) ⟨hx, hb, hml, hown, hts⟩ hM' hC hmn hr0 (ml_w hp0) hv (by rw [cv_cat]; exact Nat.le_of_ble_eq_true hroom) ⟨hk, hn⟩ ⟨by show d + 3 ≤ d + 1 + 2; omega, by show 40 * d + 100 ≤ 40 * (d + 1) + 60; omega⟩ hd hL.lt hK hN hS hH hZ hb0 (fun r h' H1 locs1 hq' hH1 hZ1 hS1 => ?_)
  have k1 := kk r h' hq' p l e s m args below meth c w b H1 locs1 ls X hS1 hH1 hZ1 hL
  rw [List.map_append] at k1
  cases r <;> exact k1
end RULES6
end
section
set_option maxRecDepth 100000 in
theorem oiL_ok : oiL.all (fun q => decide (lw_tbl[q.2.2]? = some (.methodLink (cn q.1) q.2.1 Lib.objectInit))) = true := by decide +kernel
set_option maxRecDepth 100000 in
theorem acL_ok : acL.all (fun q => decide (lw_tbl[q.2.2]? = some (.methodLink (cn q.1) q.2.1 arraycopyName))) = true := by decide +kernel
theorem posOI_w : Cond.instanceMethod Lib.objectInit ∈ tg := tg_at (p := posOI) (by decide +kernel) rfl
theorem posOC_w : Cond.code Lib.objectInit ⟨#[0xb1]⟩ 1 none ∈ tg := tg_at (p := posOC) rfl rfl
theorem posCN_w : Cond.native arraycopyName ∈ tg := tg_at (p := posCN) (by decide +kernel) rfl
theorem posCS_w : Cond.static arraycopyName ∈ tg := tg_at (p := posCS) (by decide +kernel) rfl
theorem posCI_w : Cond.initialized "java/lang/System" ∈ tg := tg_at (p := posCI) (by decide +kernel) rfl
section RULES7
variable {M M' : mt_T} {d mc ms k n pc np x j q ci mc' ms' : Nat} {Q Q' : Option Value → hp_T → Prop} {L : List (Option Value)} {st rest As : List Value} {h : hp_T} {fs : List Value}
theorem V.oi (hM : mOK M) (hi : lkf (m_tab M) pc = some (.invokespecial j, np, 1000)) (ho : has2 oiL M.2.2.2.2.1 j = true) (hroom : Nat.ble (st.map fun v => v.category).sum 8 = true) (kk : V M d mc ms Q k n np L st h) : V M d mc ms Q k n pc L (.ref q :: st) h := by
  obtain ⟨hd, hnp, hax⟩ := m_dec hM hi (by simp [ilen])
  have hcn := (m_cn hM).1
  subst hnp
  intro p l e s m args below meth c w b H locs ls X hS hH hZ hL
  have kk := kk p l e s m args below meth c w b H locs ls X hS hH hZ hL
  obtain ⟨hx, hb, hml, hown, hts, -, -, hK, hN, -, hb0⟩ := id X
  rw [← hcn] at hown
  obtain ⟨p0, hp0⟩ := has2_ex ho
  have h1 := List.all_eq_true.mp oiL_ok _ hp0
  simp only [decide_eq_true_eq] at h1
  have hr := Nat.le_of_ble_eq_true hroom
  refine W.objInit hx hb hown (hts _ (tg_at h1 rfl)) (hts _ posOI_w) (hts _ posOC_w) rfl (by rw [hml]; exact hL.lt) rfl hd (by show 1 ≤ d + 2; omega) ?_ kk
  show 2 * 0 + ((st.map (cvV b)).map fun v => v.category).sum + 12 ≤ 40 * d + 60
  rw [cv_cat]
  omega
theorem V.cp {q0 q1 n0 n1 sj dj nj : Nat} {f g : Nat → Int32} {sp dp cnt : Int32} (h' : hp_T) (hM : mOK M) (hi : lkf (m_tab M) pc = some (.invokestatic j, np, 1001)) (ho : has2 acL M.2.2.2.2.1 j = true) (hq0 : h[q0]? = some (.inl (n0, .inl f))) (hq1 : h[q1]? = some (.inl (n1, .inl g))) (h1 : ¬ sp < 0 ∧ sp.toNatClampNeg = sj) (h2 : ¬ dp < 0 ∧ dp.toNatClampNeg = dj) (h3 : ¬ cnt < 0 ∧ cnt.toNatClampNeg = nj) (h4 : sj + nj ≤ n0) (h5 : dj + nj ≤ n1) (hroom : Nat.ble (st.map fun v => v.category).sum 8 = true) (hset : h.set q1 (.inl (n1, .inl (va_cpy f g sj dj nj))) = h') (kk : V M d mc ms Q k n np L st h') : V M d mc ms Q k n pc L (.int cnt :: .int dp :: .ref q1 :: .int sp :: .ref q0 :: st) h := by
  obtain ⟨hd, hnp, hax⟩ := m_dec hM hi (by simp [ilen])
  have hcn := (m_cn hM).1
  subst hnp; subst hset
  intro p l e s m args below meth c w b H locs ls X hS hH hZ hL
  obtain ⟨hx, hb, hml, hown, hts, -, -, hK, hN, -, hb0⟩ := id X
  rw [← hcn] at hown
  obtain ⟨p0, hp0⟩ := has2_ex ho
  have hw := List.all_eq_true.mp acL_ok _ hp0
  simp only [decide_eq_true_eq] at hw
  have hr := Nat.le_of_ble_eq_true hroom
  obtain ⟨h1, rfl⟩ := h1
  obtain ⟨h2, rfl⟩ := h2
  obtain ⟨h3, rfl⟩ := h3
  refine va_copyi (ty := .int) hx hb (by rw [hml]; exact hL.lt.symm) hown (hts _ (tg_at hw rfl)) (hts _ posCN_w) (hts _ posCS_w) (hts _ posCI_w) hK hH cvH_D hS q0 q1 0 0 (cvH_get hq0) (cvH_get hq1) rfl rfl rfl h1 h2 h3 h4 h5 (fun _ _ => rfl) (by show 1 ≤ d + 2; omega) ?_ hd (fun H1 locs1 hP1 _ hS1 => kk p l e s m args below meth c w b H1 locs1 ls X hS1 (by unfold HR; rw [cvH_set]; exact hP1) (by rw [List.length_set]; exact hZ) hL)
  rw [cv_cat]
  show _ ≤ 40 * d + 60
  have e : nativeFrameWords "java/lang/System" "arraycopy" 5 + 11 ≤ 52 := by decide +kernel
  omega
end RULES7
end
section
def mX0_init : mt_T := (mn 0, prog_2_method_1_code, 1, none, 0, [(0, .aload_n 0, 1, 0), (1, .invokespecial 3, 4, 1000), (4, .aload_n 0, 5, 0), (5, .sipush 279, 8, 10), (8, .newarray .int, 10, 0), (10, .putfield 9, 13, 0), (13, .return_, 14, 0)])
set_option maxRecDepth 100000 in
theorem omX0_init : mOK mX0_init := ⟨by decide +kernel, List.mem_of_getElem? (i := 150) rfl⟩
def mX0_fill : mt_T := (mn 1, prog_2_method_2_code, 9, none, 0, [(0, .iload_n 1, 1, 0), (1, .aload_n 0, 2, 0), (2, .getfield 15, 5, 1), (5, .if_icmp .ne 4, 8, 9), (8, .return_, 9, 0), (9, .aload_n 0, 10, 0), (10, .iload_n 1, 11, 0), (11, .putfield 15, 14, 1), (14, .aload_n 0, 15, 0), (15, .iconst 0, 16, 0), (16, .putfield 19, 19, 2), (19, .iconst 0, 20, 0), (20, .istore_n 2, 21, 0), (21, .iconst 1, 22, 1), (22, .istore_n 3, 23, 0), (23, .iconst 1, 24, 1), (24, .istore 4, 26, 0), (26, .iload_n 1, 27, 0), (27, .istore 5, 29, 0), (29, .aload_n 0, 30, 0), (30, .getfield 19, 33, 2), (33, .sipush 279, 36, 10), (36, .if_icmp .ge 81, 39, 117), (39, .iload 5, 41, 0), (41, .ifCond .le 76, 44, 117), (44, .aload_n 0, 45, 0), (45, .getfield 9, 48, 0), (48, .aload_n 0, 49, 0), (49, .getfield 19, 52, 2), (52, .iload_n 2, 53, 0), (53, .iload_n 3, 54, 0), (54, .invokestatic 22, 57, 3), (57, .iastore, 58, 0), (58, .aload_n 0, 59, 0), (59, .dup, 60, 0), (60, .getfield 19, 63, 2), (63, .iconst 1, 64, 1), (64, .iadd, 65, 0), (65, .putfield 19, 68, 2), (68, .iload_n 2, 69, 0), (69, .iload_n 3, 70, 0), (70, .if_icmp .ne 4, 73, 74), (73, .return_, 74, 0), (74, .iload_n 1, 75, 0), (75, .iload_n 3, 76, 0), (76, .iadd, 77, 0), (77, .iload 5, 79, 0), (79, .idiv, 80, 0), (80, .istore 6, 82, 0), (82, .iload 6, 84, 0), (84, .iload 4, 86, 0), (86, .imul, 87, 0), (87, .iload_n 2, 88, 0), (88, .isub, 89, 0), (89, .istore 7, 91, 0), (91, .iload 6, 93, 0), (93, .iload 5, 95, 0), (95, .imul, 96, 0), (96, .iload_n 3, 97, 0), (97, .isub, 98, 0), (98, .istore 8, 100, 0), (100, .iload 4, 102, 0), (102, .istore_n 2, 103, 0), (103, .iload 5, 105, 0), (105, .istore_n 3, 106, 0), (106, .iload 7, 108, 0), (108, .istore 4, 110, 0), (110, .iload 8, 112, 0), (112, .istore 5, 114, 0), (114, .goto (-85), 117, 29), (117, .return_, 118, 0)])
set_option maxRecDepth 100000 in
theorem omX0_fill : mOK mX0_fill := ⟨by decide +kernel, List.mem_of_getElem? (i := 565) rfl⟩
def mX0_placeOf : mt_T := (mn 2, prog_2_method_3_code, 3, some .int, 0, [(0, .iconst 0, 1, 0), (1, .istore_n 2, 2, 0), (2, .iload_n 2, 3, 0), (3, .aload_n 0, 4, 0), (4, .getfield 19, 7, 2), (7, .if_icmp .ge 21, 10, 28), (10, .aload_n 0, 11, 0), (11, .getfield 9, 14, 0), (14, .iload_n 2, 15, 0), (15, .iaload, 16, 0), (16, .iload_n 1, 17, 0), (17, .if_icmp .ne 5, 20, 22), (20, .iload_n 2, 21, 0), (21, .ireturn, 22, 0), (22, .iinc 2 1, 25, 1), (25, .goto (-23), 28, 2), (28, .iconst (-1), 29, 6), (29, .ireturn, 30, 0)])
set_option maxRecDepth 100000 in
theorem omX0_placeOf : mOK mX0_placeOf := ⟨by decide +kernel, List.mem_of_getElem? (i := 581) rfl⟩
def mX1_told : mt_T := (mn 3, prog_3_method_2_code, 2, some .int, 1, [(0, .bipush 100, 2, 11), (2, .iload_n 0, 3, 0), (3, .imul, 4, 0), (4, .iload_n 1, 5, 0), (5, .iadd, 6, 0), (6, .ireturn, 7, 0)])
set_option maxRecDepth 100000 in
theorem omX1_told : mOK mX1_told := ⟨by decide +kernel, List.mem_of_getElem? (i := 554) rfl⟩
def mX1_top : mt_T := (mn 4, prog_3_method_3_code, 1, some .int, 1, [(0, .iload_n 0, 1, 0), (1, .bipush 100, 3, 11), (3, .idiv, 4, 0), (4, .ireturn, 5, 0)])
set_option maxRecDepth 100000 in
theorem omX1_top : mOK mX1_top := ⟨by decide +kernel, List.mem_of_getElem? (i := 541) rfl⟩
def mX1_bottom : mt_T := (mn 5, prog_3_method_4_code, 1, some .int, 1, [(0, .iload_n 0, 1, 0), (1, .bipush 100, 3, 11), (3, .irem, 4, 0), (4, .ireturn, 5, 0)])
set_option maxRecDepth 100000 in
theorem omX1_bottom : mOK mX1_bottom := ⟨by decide +kernel, List.mem_of_getElem? (i := 538) rfl⟩
def mX1_isOne : mt_T := (mn 6, prog_3_method_5_code, 1, some .boolean, 1, [(0, .iload_n 0, 1, 0), (1, .ifCond .le 40, 4, 41), (4, .iload_n 0, 5, 0), (5, .invokestatic 9, 8, 5), (8, .iconst 1, 9, 1), (9, .if_icmp .lt 32, 12, 41), (12, .iload_n 0, 13, 0), (13, .invokestatic 15, 16, 4), (16, .iload_n 0, 17, 0), (17, .invokestatic 9, 20, 5), (20, .if_icmp .gt 21, 23, 41), (23, .iload_n 0, 24, 0), (24, .invokestatic 15, 27, 4), (27, .iload_n 0, 28, 0), (28, .invokestatic 9, 31, 5), (31, .invokestatic 18, 34, 13), (34, .ifCond .eq 7, 37, 41), (37, .iconst 1, 38, 1), (38, .goto 4, 41, 42), (41, .iconst 0, 42, 0), (42, .ireturn, 43, 0)])
set_option maxRecDepth 100000 in
theorem omX1_isOne : mOK mX1_isOne := ⟨by decide +kernel, List.mem_of_getElem? (i := 535) rfl⟩
def mX1_areNear : mt_T := (mn 7, prog_3_method_6_code, 3, some .boolean, 1, [(0, .iload_n 0, 1, 0), (1, .invokestatic 15, 4, 4), (4, .iload_n 1, 5, 0), (5, .invokestatic 9, 8, 5), (8, .imul, 9, 0), (9, .iload_n 1, 10, 0), (10, .invokestatic 15, 13, 4), (13, .iload_n 0, 14, 0), (14, .invokestatic 9, 17, 5), (17, .imul, 18, 0), (18, .isub, 19, 0), (19, .istore_n 2, 20, 0), (20, .iload_n 2, 21, 0), (21, .iconst 1, 22, 1), (22, .if_icmp .eq 8, 25, 30), (25, .iload_n 2, 26, 0), (26, .iconst (-1), 27, 6), (27, .if_icmp .ne 7, 30, 34), (30, .iconst 1, 31, 1), (31, .goto 4, 34, 35), (34, .iconst 0, 35, 0), (35, .ireturn, 36, 0)])
set_option maxRecDepth 100000 in
theorem omX1_areNear : mOK mX1_areNear := ⟨by decide +kernel, List.mem_of_getElem? (i := 545) rfl⟩
def mX2_fits : mt_T := (mn 8, prog_4_method_2_code, 2, some .boolean, 2, [(0, .lload_n 0, 1, 0), (1, .ldc2_w 9, 4, 2), (4, .lcmp, 5, 0), (5, .ifCond .lt 15, 8, 20), (8, .lload_n 0, 9, 0), (9, .ldc2_w 11, 12, 3), (12, .lcmp, 13, 0), (13, .ifCond .gt 7, 16, 20), (16, .iconst 1, 17, 1), (17, .goto 4, 20, 21), (20, .iconst 0, 21, 0), (21, .ireturn, 22, 0)])
set_option maxRecDepth 100000 in
theorem omX2_fits : mOK mX2_fits := ⟨by decide +kernel, List.mem_of_getElem? (i := 237) rfl⟩
def mX2_keepLaw : mt_T := (mn 9, prog_4_method_3_code, 4, some .boolean, 2, [(0, .iload_n 0, 1, 0), (1, .i2l, 2, 0), (2, .invokestatic 13, 5, 8), (5, .ifCond .eq 27, 8, 32), (8, .iload_n 1, 9, 0), (9, .i2l, 10, 0), (10, .invokestatic 13, 13, 8), (13, .ifCond .eq 19, 16, 32), (16, .iload_n 2, 17, 0), (17, .i2l, 18, 0), (18, .invokestatic 13, 21, 8), (21, .ifCond .eq 11, 24, 32), (24, .iload_n 3, 25, 0), (25, .i2l, 26, 0), (26, .invokestatic 13, 29, 8), (29, .ifCond .ne 5, 32, 34), (32, .iconst 0, 33, 0), (33, .ireturn, 34, 0), (34, .iload_n 2, 35, 0), (35, .i2l, 36, 0), (36, .iload_n 2, 37, 0), (37, .i2l, 38, 0), (38, .lmul, 39, 0), (39, .iload_n 3, 40, 0), (40, .i2l, 41, 0), (41, .iload_n 3, 42, 0), (42, .i2l, 43, 0), (43, .lmul, 44, 0), (44, .ladd, 45, 0), (45, .iload_n 0, 46, 0), (46, .i2l, 47, 0), (47, .iload_n 1, 48, 0), (48, .i2l, 49, 0), (49, .lmul, 50, 0), (50, .lsub, 51, 0), (51, .lconst 1, 52, 1), (52, .lcmp, 53, 0), (53, .ifCond .ne 7, 56, 60), (56, .iconst 1, 57, 1), (57, .goto 4, 60, 61), (60, .iconst 0, 61, 0), (61, .ireturn, 62, 0)])
set_option maxRecDepth 100000 in
theorem omX2_keepLaw : mOK mX2_keepLaw := ⟨by decide +kernel, List.mem_of_getElem? (i := 234) rfl⟩
def mX2_productAt : mt_T := (mn 10, prog_4_method_4_code, 5, some .long, 2, [(0, .aload_n 0, 1, 0), (1, .iload_n 1, 2, 0), (2, .iconst 2, 3, 2), (3, .iadd, 4, 0), (4, .iaload, 5, 0), (5, .i2l, 6, 0), (6, .aload_n 0, 7, 0), (7, .iload_n 2, 8, 0), (8, .iconst 2, 9, 2), (9, .iadd, 10, 0), (10, .iaload, 11, 0), (11, .i2l, 12, 0), (12, .lmul, 13, 0), (13, .aload_n 0, 14, 0), (14, .iload_n 1, 15, 0), (15, .iconst 3, 16, 3), (16, .iadd, 17, 0), (17, .iaload, 18, 0), (18, .i2l, 19, 0), (19, .aload_n 0, 20, 0), (20, .iload_n 2, 21, 0), (21, .iconst 3, 22, 3), (22, .iadd, 23, 0), (23, .iaload, 24, 0), (24, .i2l, 25, 0), (25, .lmul, 26, 0), (26, .ladd, 27, 0), (27, .lstore_n 3, 28, 0), (28, .ldc2_w 19, 31, 4), (31, .lload_n 3, 32, 0), (32, .lmul, 33, 0), (33, .aload_n 0, 34, 0), (34, .iload_n 1, 35, 0), (35, .iaload, 36, 0), (36, .i2l, 37, 0), (37, .aload_n 0, 38, 0), (38, .iload_n 2, 39, 0), (39, .iconst 1, 40, 1), (40, .iadd, 41, 0), (41, .iaload, 42, 0), (42, .i2l, 43, 0), (43, .lmul, 44, 0), (44, .lsub, 45, 0), (45, .aload_n 0, 46, 0), (46, .iload_n 2, 47, 0), (47, .iaload, 48, 0), (48, .i2l, 49, 0), (49, .aload_n 0, 50, 0), (50, .iload_n 1, 51, 0), (51, .iconst 1, 52, 1), (52, .iadd, 53, 0), (53, .iaload, 54, 0), (54, .i2l, 55, 0), (55, .lmul, 56, 0), (56, .lsub, 57, 0), (57, .lreturn, 58, 0)])
set_option maxRecDepth 100000 in
theorem omX2_productAt : mOK mX2_productAt := ⟨by decide +kernel, List.mem_of_getElem? (i := 301) rfl⟩
def mX2_kindByBend : mt_T := (mn 11, prog_4_method_5_code, 1, some .int, 2, [(0, .iload_n 0, 1, 0), (1, .ifCond .ne 7, 4, 8), (4, .iconst 1, 5, 1), (5, .goto 4, 8, 9), (8, .iconst 0, 9, 0), (9, .ireturn, 10, 0)])
set_option maxRecDepth 100000 in
theorem omX2_kindByBend : mOK mX2_kindByBend := ⟨by decide +kernel, List.mem_of_getElem? (i := 250) rfl⟩
def mX2_meetingBy : mt_T := (mn 12, prog_4_method_6_code, 2, some .int, 2, [(0, .lload_n 0, 1, 0), (1, .ldc2_w 21, 4, 5), (4, .lcmp, 5, 0), (5, .ifCond .ge 5, 8, 10), (8, .iconst 5, 9, 5), (9, .ireturn, 10, 0), (10, .lload_n 0, 11, 0), (11, .ldc2_w 19, 14, 4), (14, .lcmp, 15, 0), (15, .ifCond .le 6, 18, 21), (18, .bipush 6, 20, 12), (20, .ireturn, 21, 0), (21, .lload_n 0, 22, 0), (22, .ldc2_w 21, 25, 5), (25, .lcmp, 26, 0), (26, .ifCond .ne 5, 29, 31), (29, .iconst 1, 30, 1), (30, .ireturn, 31, 0), (31, .lload_n 0, 32, 0), (32, .ldc2_w 19, 35, 4), (35, .lcmp, 36, 0), (36, .ifCond .ne 5, 39, 41), (39, .iconst 2, 40, 2), (40, .ireturn, 41, 0), (41, .lload_n 0, 42, 0), (42, .lconst 0, 43, 0), (43, .lcmp, 44, 0), (44, .ifCond .ne 7, 47, 51), (47, .iconst 3, 48, 3), (48, .goto 4, 51, 52), (51, .iconst 4, 52, 4), (52, .ireturn, 53, 0)])
set_option maxRecDepth 100000 in
theorem omX2_meetingBy : mOK mX2_meetingBy := ⟨by decide +kernel, List.mem_of_getElem? (i := 314) rfl⟩
def mX2_isLowest : mt_T := (mn 13, prog_4_method_7_code, 6, some .boolean, 2, [(0, .iload_n 0, 1, 0), (1, .istore_n 2, 2, 0), (2, .iload_n 1, 3, 0), (3, .istore_n 3, 4, 0), (4, .iconst 0, 5, 0), (5, .istore 4, 7, 0), (7, .iload 4, 9, 0), (9, .bipush 100, 11, 11), (11, .if_icmp .ge 23, 14, 34), (14, .iload_n 3, 15, 0), (15, .ifCond .eq 19, 18, 34), (18, .iload_n 2, 19, 0), (19, .iload_n 3, 20, 0), (20, .irem, 21, 0), (21, .istore 5, 23, 0), (23, .iload_n 3, 24, 0), (24, .istore_n 2, 25, 0), (25, .iload 5, 27, 0), (27, .istore_n 3, 28, 0), (28, .iinc 4 1, 31, 1), (31, .goto (-24), 34, 7), (34, .iload_n 2, 35, 0), (35, .iconst 1, 36, 1), (36, .if_icmp .ne 7, 39, 43), (39, .iconst 1, 40, 1), (40, .goto 4, 43, 44), (43, .iconst 0, 44, 0), (44, .ireturn, 45, 0)])
set_option maxRecDepth 100000 in
theorem omX2_isLowest : mOK mX2_isLowest := ⟨by decide +kernel, List.mem_of_getElem? (i := 261) rfl⟩
def mX3_init : mt_T := (mn 14, prog_5_method_1_code, 1, none, 3, [(0, .aload_n 0, 1, 0), (1, .invokespecial 3, 4, 1000), (4, .aload_n 0, 5, 0), (5, .iconst 4, 6, 4), (6, .newarray .int, 8, 0), (8, .putfield 9, 11, 64), (11, .return_, 12, 0)])
set_option maxRecDepth 100000 in
theorem omX3_init : mOK mX3_init := ⟨by decide +kernel, List.mem_of_getElem? (i := 109) rfl⟩
def mX3_survey : mt_T := (mn 15, prog_5_method_2_code, 5, none, 3, [(0, .aload_n 0, 1, 0), (1, .iload_n 2, 2, 0), (2, .putfield 15, 5, 65), (5, .aload_n 0, 6, 0), (6, .iload_n 3, 7, 0), (7, .putfield 19, 10, 66), (10, .aload_n 0, 11, 0), (11, .iconst 0, 12, 0), (12, .putfield 22, 15, 68), (15, .aload_n 0, 16, 0), (16, .iconst 0, 17, 0), (17, .putfield 25, 20, 69), (20, .aload_n 0, 21, 0), (21, .iconst 0, 22, 0), (22, .putfield 28, 25, 70), (25, .aload_n 0, 26, 0), (26, .lconst 0, 27, 0), (27, .putfield 31, 30, 71), (30, .aload_n 0, 31, 0), (31, .iconst 0, 32, 0), (32, .putfield 35, 35, 72), (35, .iconst 0, 36, 0), (36, .istore 4, 38, 0), (38, .iload 4, 40, 0), (40, .iconst 4, 41, 4), (41, .if_icmp .ge 56, 44, 97), (44, .aload_n 0, 45, 0), (45, .getfield 9, 48, 64), (48, .iload 4, 50, 0), (50, .aload_n 1, 51, 0), (51, .iload 4, 53, 0), (53, .invokevirtual 39, 56, 22), (56, .iastore, 57, 0), (57, .iload 4, 59, 0), (59, .aload_n 0, 60, 0), (60, .getfield 19, 63, 66), (63, .if_icmp .eq 28, 66, 91), (66, .aload_n 0, 67, 0), (67, .getfield 9, 70, 64), (70, .iload 4, 72, 0), (72, .iaload, 73, 0), (73, .aload_n 0, 74, 0), (74, .getfield 15, 77, 65), (77, .if_icmp .gt 14, 80, 91), (80, .aload_n 0, 81, 0), (81, .aload_n 0, 82, 0), (82, .getfield 9, 85, 64), (85, .iload 4, 87, 0), (87, .iaload, 88, 0), (88, .invokevirtual 45, 91, 18), (91, .iinc 4 1, 94, 1), (94, .goto (-56), 97, 38), (97, .aload_n 0, 98, 0), (98, .iconst (-1), 99, 6), (99, .iconst 0, 100, 0), (100, .invokestatic 49, 103, 17), (103, .return_, 104, 0)])
set_option maxRecDepth 100000 in
theorem omX3_survey : mOK mX3_survey := ⟨by decide +kernel, List.mem_of_getElem? (i := 493) rfl⟩
def mX3_leastBendAbove : mt_T := (mn 16, prog_5_method_3_code, 3, some .int, 3, [(0, .aload_n 0, 1, 0), (1, .iload_n 2, 2, 0), (2, .putfield 53, 5, 67), (5, .aload_n 0, 6, 0), (6, .aload_n 1, 7, 0), (7, .sipush 300, 10, 13), (10, .iconst (-1), 11, 6), (11, .invokevirtual 56, 14, 15), (14, .aload_n 0, 15, 0), (15, .getfield 35, 18, 72), (18, .ifCond .eq 10, 21, 28), (21, .aload_n 0, 22, 0), (22, .getfield 60, 25, 73), (25, .goto 4, 28, 29), (28, .iconst (-1), 29, 6), (29, .ireturn, 30, 0)])
set_option maxRecDepth 100000 in
theorem omX3_leastBendAbove : mOK mX3_leastBendAbove := ⟨by decide +kernel, List.mem_of_getElem? (i := 519) rfl⟩
def mX3_grow : mt_T := (mn 17, prog_5_method_4_code, 10, none, 3, [(0, .iload_n 2, 1, 0), (1, .bipush 40, 3, 14), (3, .if_icmp .lt 4, 6, 7), (6, .return_, 7, 0), (7, .aload_n 0, 8, 0), (8, .getfield 9, 11, 64), (11, .astore_n 3, 12, 0), (12, .aload_n 3, 13, 0), (13, .iconst 0, 14, 0), (14, .iaload, 15, 0), (15, .i2l, 16, 0), (16, .aload_n 3, 17, 0), (17, .iconst 1, 18, 1), (18, .iaload, 19, 0), (19, .i2l, 20, 0), (20, .ladd, 21, 0), (21, .aload_n 3, 22, 0), (22, .iconst 2, 23, 2), (23, .iaload, 24, 0), (24, .i2l, 25, 0), (25, .ladd, 26, 0), (26, .aload_n 3, 27, 0), (27, .iconst 3, 28, 3), (28, .iaload, 29, 0), (29, .i2l, 30, 0), (30, .ladd, 31, 0), (31, .lstore 4, 33, 0), (33, .iconst 0, 34, 0), (34, .istore 6, 36, 0), (36, .iload 6, 38, 0), (38, .iconst 4, 39, 4), (39, .if_icmp .ge 87, 42, 126), (42, .aload_n 3, 43, 0), (43, .iload 6, 45, 0), (45, .iaload, 46, 0), (46, .istore 7, 48, 0), (48, .ldc2_w 63, 51, 4), (51, .lload 4, 53, 0), (53, .lmul, 54, 0), (54, .ldc2_w 65, 57, 8), (57, .iload 7, 59, 0), (59, .i2l, 60, 0), (60, .lmul, 61, 0), (61, .lsub, 62, 0), (62, .lstore 8, 64, 0), (64, .iload 6, 66, 0), (66, .iload_n 1, 67, 0), (67, .if_icmp .eq 53, 70, 120), (70, .iload 6, 72, 0), (72, .aload_n 0, 73, 0), (73, .getfield 19, 76, 66), (76, .if_icmp .eq 44, 79, 120), (79, .lload 8, 81, 0), (81, .aload_n 0, 82, 0), (82, .getfield 15, 85, 65), (85, .i2l, 86, 0), (86, .lcmp, 87, 0), (87, .ifCond .gt 33, 90, 120), (90, .aload_n 3, 91, 0), (91, .iload 6, 93, 0), (93, .lload 8, 95, 0), (95, .l2i, 96, 0), (96, .iastore, 97, 0), (97, .aload_n 0, 98, 0), (98, .aload_n 3, 99, 0), (99, .iload 6, 101, 0), (101, .iaload, 102, 0), (102, .invokevirtual 45, 105, 18), (105, .aload_n 0, 106, 0), (106, .iload 6, 108, 0), (108, .iload_n 2, 109, 0), (109, .iconst 1, 110, 1), (110, .iadd, 111, 0), (111, .invokestatic 49, 114, 17), (114, .aload_n 3, 115, 0), (115, .iload 6, 117, 0), (117, .iload 7, 119, 0), (119, .iastore, 120, 0), (120, .iinc 6 1, 123, 1), (123, .goto (-87), 126, 36), (126, .return_, 127, 0)])
set_option maxRecDepth 100000 in
theorem omX3_grow : mOK mX3_grow := ⟨by decide +kernel, List.mem_of_getElem? (i := 504) rfl⟩
def mX3_note : mt_T := (mn 18, prog_5_method_5_code, 2, none, 3, [(0, .aload_n 0, 1, 0), (1, .dup, 2, 0), (2, .getfield 22, 5, 68), (5, .iconst 1, 6, 1), (6, .iadd, 7, 0), (7, .putfield 22, 10, 68), (10, .aload_n 0, 11, 0), (11, .dup, 12, 0), (12, .getfield 31, 15, 71), (15, .iload_n 1, 16, 0), (16, .i2l, 17, 0), (17, .ladd, 18, 0), (18, .putfield 31, 21, 71), (21, .aload_n 0, 22, 0), (22, .dup, 23, 0), (23, .getfield 28, 26, 70), (26, .iconst 1, 27, 1), (27, .iload_n 1, 28, 0), (28, .bipush 24, 30, 15), (30, .invokestatic 67, 33, 173), (33, .ishl, 34, 0), (34, .ior, 35, 0), (35, .putfield 28, 38, 70), (38, .iload_n 1, 39, 0), (39, .aload_n 0, 40, 0), (40, .getfield 15, 43, 65), (43, .if_icmp .ne 13, 46, 56), (46, .aload_n 0, 47, 0), (47, .dup, 48, 0), (48, .getfield 25, 51, 69), (51, .iconst 1, 52, 1), (52, .iadd, 53, 0), (53, .putfield 25, 56, 69), (56, .iload_n 1, 57, 0), (57, .aload_n 0, 58, 0), (58, .getfield 53, 61, 67), (61, .if_icmp .le 28, 64, 89), (64, .aload_n 0, 65, 0), (65, .getfield 35, 68, 72), (68, .ifCond .eq 11, 71, 79), (71, .iload_n 1, 72, 0), (72, .aload_n 0, 73, 0), (73, .getfield 60, 76, 73), (76, .if_icmp .ge 13, 79, 89), (79, .aload_n 0, 80, 0), (80, .iconst 1, 81, 1), (81, .putfield 35, 84, 72), (84, .aload_n 0, 85, 0), (85, .iload_n 1, 86, 0), (86, .putfield 60, 89, 73), (89, .return_, 90, 0)])
set_option maxRecDepth 100000 in
theorem omX3_note : mOK mX3_note := ⟨by decide +kernel, List.mem_of_getElem? (i := 498) rfl⟩
def mX4_init : mt_T := (mn 19, prog_6_method_1_code, 1, none, 4, [(0, .aload_n 0, 1, 0), (1, .invokespecial 3, 4, 1000), (4, .aload_n 0, 5, 0), (5, .bipush 16, 7, 16), (7, .newarray .int, 9, 0), (9, .putfield 9, 12, 128), (12, .return_, 13, 0)])
set_option maxRecDepth 100000 in
theorem omX4_init : mOK mX4_init := ⟨by decide +kernel, List.mem_of_getElem? (i := 94) rfl⟩
def mX4_take : mt_T := (mn 20, prog_6_method_2_code, 2, none, 4, [(0, .aload_n 1, 1, 0), (1, .getfield 9, 4, 128), (4, .iconst 0, 5, 0), (5, .aload_n 0, 6, 0), (6, .getfield 9, 9, 128), (9, .iconst 0, 10, 0), (10, .bipush 16, 12, 16), (12, .invokestatic 15, 15, 1001), (15, .return_, 16, 0)])
set_option maxRecDepth 100000 in
theorem omX4_take : mOK mX4_take := ⟨by decide +kernel, List.mem_of_getElem? (i := 375) rfl⟩
def mX4_number : mt_T := (mn 21, prog_6_method_3_code, 3, some .int, 4, [(0, .aload_n 0, 1, 0), (1, .getfield 9, 4, 128), (4, .iconst 4, 5, 4), (5, .iload_n 1, 6, 0), (6, .imul, 7, 0), (7, .iload_n 2, 8, 0), (8, .iadd, 9, 0), (9, .iaload, 10, 0), (10, .ireturn, 11, 0)])
set_option maxRecDepth 100000 in
theorem omX4_number : mOK mX4_number := ⟨by decide +kernel, List.mem_of_getElem? (i := 364) rfl⟩
def mX4_bend : mt_T := (mn 22, prog_6_method_4_code, 2, some .int, 4, [(0, .aload_n 0, 1, 0), (1, .getfield 9, 4, 128), (4, .iconst 4, 5, 4), (5, .iload_n 1, 6, 0), (6, .imul, 7, 0), (7, .iaload, 8, 0), (8, .ireturn, 9, 0)])
set_option maxRecDepth 100000 in
theorem omX4_bend : mOK mX4_bend := ⟨by decide +kernel, List.mem_of_getElem? (i := 405) rfl⟩
def mX4_bendSum : mt_T := (mn 23, prog_6_method_5_code, 1, some .long, 4, [(0, .aload_n 0, 1, 0), (1, .iconst 0, 2, 0), (2, .invokevirtual 21, 5, 22), (5, .i2l, 6, 0), (6, .aload_n 0, 7, 0), (7, .iconst 1, 8, 1), (8, .invokevirtual 21, 11, 22), (11, .i2l, 12, 0), (12, .ladd, 13, 0), (13, .aload_n 0, 14, 0), (14, .iconst 2, 15, 2), (15, .invokevirtual 21, 18, 22), (18, .i2l, 19, 0), (19, .ladd, 20, 0), (20, .aload_n 0, 21, 0), (21, .iconst 3, 22, 3), (22, .invokevirtual 21, 25, 22), (25, .i2l, 26, 0), (26, .ladd, 27, 0), (27, .lreturn, 28, 0)])
set_option maxRecDepth 100000 in
theorem omX4_bendSum : mOK mX4_bendSum := ⟨by decide +kernel, List.mem_of_getElem? (i := 401) rfl⟩
def mX4_swapped : mt_T := (mn 24, prog_6_method_6_code, 5, some .long, 4, [(0, .aload_n 0, 1, 0), (1, .getfield 9, 4, 128), (4, .iload_n 2, 5, 0), (5, .iaload, 6, 0), (6, .i2l, 7, 0), (7, .aload_n 0, 8, 0), (8, .getfield 9, 11, 128), (11, .iconst 4, 12, 4), (12, .iload_n 2, 13, 0), (13, .iadd, 14, 0), (14, .iaload, 15, 0), (15, .i2l, 16, 0), (16, .ladd, 17, 0), (17, .aload_n 0, 18, 0), (18, .getfield 9, 21, 128), (21, .bipush 8, 23, 17), (23, .iload_n 2, 24, 0), (24, .iadd, 25, 0), (25, .iaload, 26, 0), (26, .i2l, 27, 0), (27, .ladd, 28, 0), (28, .aload_n 0, 29, 0), (29, .getfield 9, 32, 128), (32, .bipush 12, 34, 18), (34, .iload_n 2, 35, 0), (35, .iadd, 36, 0), (36, .iaload, 37, 0), (37, .i2l, 38, 0), (38, .ladd, 39, 0), (39, .lstore_n 3, 40, 0), (40, .ldc2_w 25, 43, 4), (43, .lload_n 3, 44, 0), (44, .lmul, 45, 0), (45, .ldc2_w 27, 48, 8), (48, .aload_n 0, 49, 0), (49, .getfield 9, 52, 128), (52, .iconst 4, 53, 4), (53, .iload_n 1, 54, 0), (54, .imul, 55, 0), (55, .iload_n 2, 56, 0), (56, .iadd, 57, 0), (57, .iaload, 58, 0), (58, .i2l, 59, 0), (59, .lmul, 60, 0), (60, .lsub, 61, 0), (61, .lreturn, 62, 0)])
set_option maxRecDepth 100000 in
theorem omX4_swapped : mOK mX4_swapped := ⟨by decide +kernel, List.mem_of_getElem? (i := 413) rfl⟩
def mX4_trySwap : mt_T := (mn 25, prog_6_method_7_code, 4, some .boolean, 4, [(0, .iconst 0, 1, 0), (1, .istore_n 3, 2, 0), (2, .iload_n 3, 3, 0), (3, .iload_n 2, 4, 0), (4, .if_icmp .ge 23, 7, 27), (7, .aload_n 0, 8, 0), (8, .iload_n 1, 9, 0), (9, .iload_n 3, 10, 0), (10, .invokevirtual 29, 13, 24), (13, .invokestatic 33, 16, 8), (16, .ifCond .ne 5, 19, 21), (19, .iconst 0, 20, 0), (20, .ireturn, 21, 0), (21, .iinc 3 1, 24, 1), (24, .goto (-22), 27, 2), (27, .iconst 0, 28, 0), (28, .istore_n 3, 29, 0), (29, .iload_n 3, 30, 0), (30, .iload_n 2, 31, 0), (31, .if_icmp .ge 26, 34, 57), (34, .aload_n 0, 35, 0), (35, .getfield 9, 38, 128), (38, .iconst 4, 39, 4), (39, .iload_n 1, 40, 0), (40, .imul, 41, 0), (41, .iload_n 3, 42, 0), (42, .iadd, 43, 0), (43, .aload_n 0, 44, 0), (44, .iload_n 1, 45, 0), (45, .iload_n 3, 46, 0), (46, .invokevirtual 29, 49, 24), (49, .l2i, 50, 0), (50, .iastore, 51, 0), (51, .iinc 3 1, 54, 1), (54, .goto (-25), 57, 29), (57, .iconst 1, 58, 1), (58, .ireturn, 59, 0)])
set_option maxRecDepth 100000 in
theorem omX4_trySwap : mOK mX4_trySwap := ⟨by decide +kernel, List.mem_of_getElem? (i := 423) rfl⟩
def mX4_placeOfGreatestBend : mt_T := (mn 26, prog_6_method_8_code, 3, some .int, 4, [(0, .iconst 0, 1, 0), (1, .istore_n 1, 2, 0), (2, .iconst 1, 3, 1), (3, .istore_n 2, 4, 0), (4, .iload_n 2, 5, 0), (5, .iconst 4, 6, 4), (6, .if_icmp .ge 24, 9, 30), (9, .aload_n 0, 10, 0), (10, .iload_n 2, 11, 0), (11, .invokevirtual 21, 14, 22), (14, .aload_n 0, 15, 0), (15, .iload_n 1, 16, 0), (16, .invokevirtual 21, 19, 22), (19, .if_icmp .le 5, 22, 24), (22, .iload_n 2, 23, 0), (23, .istore_n 1, 24, 0), (24, .iinc 2 1, 27, 1), (27, .goto (-23), 30, 4), (30, .iload_n 1, 31, 0), (31, .ireturn, 32, 0)])
set_option maxRecDepth 100000 in
theorem omX4_placeOfGreatestBend : mOK mX4_placeOfGreatestBend := ⟨by decide +kernel, List.mem_of_getElem? (i := 446) rfl⟩
def mX4_leadBack : mt_T := (mn 27, prog_6_method_9_code, 4, some .int, 4, [(0, .aload_n 0, 1, 0), (1, .iconst 0, 2, 0), (2, .putfield 39, 5, 129), (5, .iconst 0, 6, 0), (6, .istore_n 2, 7, 0), (7, .iload_n 2, 8, 0), (8, .ldc 43, 10, 8), (10, .if_icmp .ge 63, 13, 73), (13, .aload_n 0, 14, 0), (14, .invokevirtual 44, 17, 26), (17, .istore_n 3, 18, 0), (18, .aload_n 0, 19, 0), (19, .iload_n 3, 20, 0), (20, .iconst 0, 21, 0), (21, .invokevirtual 29, 24, 24), (24, .aload_n 0, 25, 0), (25, .iload_n 3, 26, 0), (26, .invokevirtual 21, 29, 22), (29, .i2l, 30, 0), (30, .lcmp, 31, 0), (31, .ifCond .lt 5, 34, 36), (34, .iload_n 2, 35, 0), (35, .ireturn, 36, 0), (36, .aload_n 0, 37, 0), (37, .iload_n 3, 38, 0), (38, .iload_n 1, 39, 0), (39, .invokevirtual 48, 42, 25), (42, .ifCond .ne 5, 45, 47), (45, .iconst (-1), 46, 6), (46, .ireturn, 47, 0), (47, .iload_n 2, 48, 0), (48, .bipush 15, 50, 19), (50, .if_icmp .ge 17, 53, 67), (53, .aload_n 0, 54, 0), (54, .dup, 55, 0), (55, .getfield 39, 58, 129), (58, .iload_n 3, 59, 0), (59, .iconst 2, 60, 2), (60, .iload_n 2, 61, 0), (61, .imul, 62, 0), (62, .ishl, 63, 0), (63, .ior, 64, 0), (64, .putfield 39, 67, 129), (67, .iinc 2 1, 70, 1), (70, .goto (-63), 73, 7), (73, .ldc 43, 75, 8), (75, .ireturn, 76, 0)])
set_option maxRecDepth 100000 in
theorem omX4_leadBack : mOK mX4_leadBack := ⟨by decide +kernel, List.mem_of_getElem? (i := 441) rfl⟩
def mX4_takeLeastBends : mt_T := (mn 28, prog_6_method_10_code, 2, none, 4, [(0, .aload_n 0, 1, 0), (1, .aload_n 1, 2, 0), (2, .invokevirtual 52, 5, 20), (5, .aload_n 0, 6, 0), (6, .iconst 1, 7, 1), (7, .invokevirtual 56, 10, 27), (10, .pop, 11, 0), (11, .return_, 12, 0)])
set_option maxRecDepth 100000 in
theorem omX4_takeLeastBends : mOK mX4_takeLeastBends := ⟨by decide +kernel, List.mem_of_getElem? (i := 459) rfl⟩
def mX4_hasBendBelowZero : mt_T := (mn 29, prog_6_method_11_code, 2, some .boolean, 4, [(0, .iconst 0, 1, 0), (1, .istore_n 1, 2, 0), (2, .iload_n 1, 3, 0), (3, .iconst 4, 4, 4), (4, .if_icmp .ge 19, 7, 23), (7, .aload_n 0, 8, 0), (8, .iload_n 1, 9, 0), (9, .invokevirtual 21, 12, 22), (12, .ifCond .ge 5, 15, 17), (15, .iconst 1, 16, 1), (16, .ireturn, 17, 0), (17, .iinc 1 1, 20, 1), (20, .goto (-18), 23, 2), (23, .iconst 0, 24, 0), (24, .ireturn, 25, 0)])
set_option maxRecDepth 100000 in
theorem omX4_hasBendBelowZero : mOK mX4_hasBendBelowZero := ⟨by decide +kernel, List.mem_of_getElem? (i := 477) rfl⟩
def mX4_hasBendsOf : mt_T := (mn 30, prog_6_method_12_code, 3, some .boolean, 4, [(0, .iconst 0, 1, 0), (1, .istore_n 2, 2, 0), (2, .iload_n 2, 3, 0), (3, .iconst 4, 4, 4), (4, .if_icmp .ge 32, 7, 36), (7, .aload_n 0, 8, 0), (8, .aload_n 0, 9, 0), (9, .iload_n 2, 10, 0), (10, .invokevirtual 21, 13, 22), (13, .invokevirtual 59, 16, 31), (16, .aload_n 1, 17, 0), (17, .aload_n 0, 18, 0), (18, .iload_n 2, 19, 0), (19, .invokevirtual 21, 22, 22), (22, .invokevirtual 59, 25, 31), (25, .if_icmp .eq 5, 28, 30), (28, .iconst 0, 29, 0), (29, .ireturn, 30, 0), (30, .iinc 2 1, 33, 1), (33, .goto (-31), 36, 2), (36, .iconst 1, 37, 1), (37, .ireturn, 38, 0)])
set_option maxRecDepth 100000 in
theorem omX4_hasBendsOf : mOK mX4_hasBendsOf := ⟨by decide +kernel, List.mem_of_getElem? (i := 465) rfl⟩
def mX4_howOften : mt_T := (mn 31, prog_6_method_13_code, 4, some .int, 4, [(0, .iconst 0, 1, 0), (1, .istore_n 2, 2, 0), (2, .iconst 0, 3, 0), (3, .istore_n 3, 4, 0), (4, .iload_n 3, 5, 0), (5, .iconst 4, 6, 4), (6, .if_icmp .ge 21, 9, 27), (9, .aload_n 0, 10, 0), (10, .iload_n 3, 11, 0), (11, .invokevirtual 21, 14, 22), (14, .iload_n 1, 15, 0), (15, .if_icmp .ne 6, 18, 21), (18, .iinc 2 1, 21, 1), (21, .iinc 3 1, 24, 1), (24, .goto (-20), 27, 4), (27, .iload_n 2, 28, 0), (28, .ireturn, 29, 0)])
set_option maxRecDepth 100000 in
theorem omX4_howOften : mOK mX4_howOften := ⟨by decide +kernel, List.mem_of_getElem? (i := 469) rfl⟩
def mX4_keepsLaws : mt_T := (mn 32, prog_6_method_14_code, 2, some .boolean, 4, [(0, .iconst 0, 1, 0), (1, .istore_n 1, 2, 0), (2, .iload_n 1, 3, 0), (3, .iconst 4, 4, 4), (4, .if_icmp .ge 41, 7, 45), (7, .aload_n 0, 8, 0), (8, .iload_n 1, 9, 0), (9, .iconst 0, 10, 0), (10, .invokevirtual 62, 13, 21), (13, .aload_n 0, 14, 0), (14, .iload_n 1, 15, 0), (15, .iconst 1, 16, 1), (16, .invokevirtual 62, 19, 21), (19, .aload_n 0, 20, 0), (20, .iload_n 1, 21, 0), (21, .iconst 2, 22, 2), (22, .invokevirtual 62, 25, 21), (25, .aload_n 0, 26, 0), (26, .iload_n 1, 27, 0), (27, .iconst 3, 28, 3), (28, .invokevirtual 62, 31, 21), (31, .invokestatic 66, 34, 9), (34, .ifCond .ne 5, 37, 39), (37, .iconst 0, 38, 0), (38, .ireturn, 39, 0), (39, .iinc 1 1, 42, 1), (42, .goto (-40), 45, 2), (45, .iconst 1, 46, 1), (46, .ireturn, 47, 0)])
set_option maxRecDepth 100000 in
theorem omX4_keepsLaws : mOK mX4_keepsLaws := ⟨by decide +kernel, List.mem_of_getElem? (i := 360) rfl⟩
def mX4_allTouch : mt_T := (mn 33, prog_6_method_15_code, 3, some .boolean, 4, [(0, .iconst 1, 1, 1), (1, .istore_n 1, 2, 0), (2, .iload_n 1, 3, 0), (3, .iconst 4, 4, 4), (4, .if_icmp .ge 44, 7, 48), (7, .iconst 0, 8, 0), (8, .istore_n 2, 9, 0), (9, .iload_n 2, 10, 0), (10, .iload_n 1, 11, 0), (11, .if_icmp .ge 31, 14, 42), (14, .aload_n 0, 15, 0), (15, .getfield 9, 18, 128), (18, .iconst 4, 19, 4), (19, .iload_n 1, 20, 0), (20, .imul, 21, 0), (21, .iconst 4, 22, 4), (22, .iload_n 2, 23, 0), (23, .imul, 24, 0), (24, .invokestatic 70, 27, 10), (27, .ldc2_w 74, 30, 5), (30, .lcmp, 31, 0), (31, .ifCond .eq 5, 34, 36), (34, .iconst 0, 35, 0), (35, .ireturn, 36, 0), (36, .iinc 2 1, 39, 1), (39, .goto (-30), 42, 9), (42, .iinc 1 1, 45, 1), (45, .goto (-43), 48, 2), (48, .iconst 1, 49, 1), (49, .ireturn, 50, 0)])
set_option maxRecDepth 100000 in
theorem omX4_allTouch : mOK mX4_allTouch := ⟨by decide +kernel, List.mem_of_getElem? (i := 369) rfl⟩
def mX5_init : mt_T := (mn 34, prog_7_method_1_code, 1, none, 5, [(0, .aload_n 0, 1, 0), (1, .invokespecial 3, 4, 1000), (4, .aload_n 0, 5, 0), (5, .bipush 80, 7, 20), (7, .newarray .int, 9, 0), (9, .putfield 9, 12, 192), (12, .aload_n 0, 13, 0), (13, .bipush 20, 15, 21), (15, .newarray .int, 17, 0), (17, .putfield 15, 20, 193), (20, .aload_n 0, 21, 0), (21, .bipush 20, 23, 21), (23, .newarray .int, 25, 0), (25, .putfield 18, 28, 194), (28, .aload_n 0, 29, 0), (29, .bipush 20, 31, 21), (31, .newarray .int, 33, 0), (33, .putfield 21, 36, 195), (36, .return_, 37, 0)])
set_option maxRecDepth 100000 in
theorem omX5_init : mOK mX5_init := ⟨by decide +kernel, List.mem_of_getElem? (i := 65) rfl⟩
def mX5_has : mt_T := (mn 35, prog_7_method_2_code, 2, some .boolean, 5, [(0, .iload_n 1, 1, 0), (1, .ifCond .lt 15, 4, 16), (4, .iload_n 1, 5, 0), (5, .aload_n 0, 6, 0), (6, .getfield 24, 9, 196), (9, .if_icmp .ge 7, 12, 16), (12, .iconst 1, 13, 1), (13, .goto 4, 16, 17), (16, .iconst 0, 17, 0), (17, .ireturn, 18, 0)])
set_option maxRecDepth 100000 in
theorem omX5_has : mOK mX5_has := ⟨by decide +kernel, List.mem_of_getElem? (i := 282) rfl⟩
def mX5_isFull : mt_T := (mn 36, prog_7_method_3_code, 1, some .boolean, 5, [(0, .aload_n 0, 1, 0), (1, .getfield 24, 4, 196), (4, .bipush 20, 6, 21), (6, .if_icmp .lt 7, 9, 13), (9, .iconst 1, 10, 1), (10, .goto 4, 13, 14), (13, .iconst 0, 14, 0), (14, .ireturn, 15, 0)])
set_option maxRecDepth 100000 in
theorem omX5_isFull : mOK mX5_isFull := ⟨by decide +kernel, List.mem_of_getElem? (i := 247) rfl⟩
def mX5_number : mt_T := (mn 37, prog_7_method_4_code, 3, some .int, 5, [(0, .aload_n 0, 1, 0), (1, .getfield 9, 4, 192), (4, .iconst 4, 5, 4), (5, .iload_n 1, 6, 0), (6, .imul, 7, 0), (7, .iload_n 2, 8, 0), (8, .iadd, 9, 0), (9, .iaload, 10, 0), (10, .ireturn, 11, 0)])
set_option maxRecDepth 100000 in
theorem omX5_number : mOK mX5_number := ⟨by decide +kernel, List.mem_of_getElem? (i := 290) rfl⟩
def mX5_put : mt_T := (mn 38, prog_7_method_5_code, 7, some .int, 5, [(0, .iconst 4, 1, 4), (1, .aload_n 0, 2, 0), (2, .getfield 24, 5, 196), (5, .imul, 6, 0), (6, .istore 6, 8, 0), (8, .aload_n 0, 9, 0), (9, .getfield 9, 12, 192), (12, .iload 6, 14, 0), (14, .iload_n 2, 15, 0), (15, .iastore, 16, 0), (16, .aload_n 0, 17, 0), (17, .getfield 9, 20, 192), (20, .iload 6, 22, 0), (22, .iconst 1, 23, 1), (23, .iadd, 24, 0), (24, .iload_n 3, 25, 0), (25, .iastore, 26, 0), (26, .aload_n 0, 27, 0), (27, .getfield 9, 30, 192), (30, .iload 6, 32, 0), (32, .iconst 2, 33, 2), (33, .iadd, 34, 0), (34, .iload 4, 36, 0), (36, .iastore, 37, 0), (37, .aload_n 0, 38, 0), (38, .getfield 9, 41, 192), (41, .iload 6, 43, 0), (43, .iconst 3, 44, 3), (44, .iadd, 45, 0), (45, .iload 5, 47, 0), (47, .iastore, 48, 0), (48, .aload_n 0, 49, 0), (49, .getfield 15, 52, 193), (52, .aload_n 0, 53, 0), (53, .getfield 24, 56, 196), (56, .iload_n 1, 57, 0), (57, .iastore, 58, 0), (58, .aload_n 0, 59, 0), (59, .dup, 60, 0), (60, .getfield 24, 63, 196), (63, .iconst 1, 64, 1), (64, .iadd, 65, 0), (65, .putfield 24, 68, 196), (68, .aload_n 0, 69, 0), (69, .getfield 24, 72, 196), (72, .iconst 1, 73, 1), (73, .isub, 74, 0), (74, .ireturn, 75, 0)])
set_option maxRecDepth 100000 in
theorem omX5_put : mOK mX5_put := ⟨by decide +kernel, List.mem_of_getElem? (i := 254) rfl⟩
def mX5_putOver : mt_T := (mn 39, prog_7_method_6_code, 3, some .int, 5, [(0, .aload_n 0, 1, 0), (1, .getfield 18, 4, 194), (4, .aload_n 0, 5, 0), (5, .getfield 24, 8, 196), (8, .iload_n 1, 9, 0), (9, .iastore, 10, 0), (10, .aload_n 0, 11, 0), (11, .getfield 21, 14, 195), (14, .aload_n 0, 15, 0), (15, .getfield 24, 18, 196), (18, .iload_n 2, 19, 0), (19, .iastore, 20, 0), (20, .aload_n 0, 21, 0), (21, .iconst 2, 22, 2), (22, .iconst 2, 23, 2), (23, .iload_n 2, 24, 0), (24, .imul, 25, 0), (25, .iload_n 2, 26, 0), (26, .imul, 27, 0), (27, .iconst 2, 28, 2), (28, .iload_n 1, 29, 0), (29, .imul, 30, 0), (30, .iload_n 1, 31, 0), (31, .imul, 32, 0), (32, .iconst 2, 33, 2), (33, .iload_n 1, 34, 0), (34, .imul, 35, 0), (35, .iload_n 2, 36, 0), (36, .imul, 37, 0), (37, .iconst 1, 38, 1), (38, .invokevirtual 28, 41, 38), (41, .ireturn, 42, 0)])
set_option maxRecDepth 100000 in
theorem omX5_putOver : mOK mX5_putOver := ⟨by decide +kernel, List.mem_of_getElem? (i := 265) rfl⟩
def mX5_putOtherSide : mt_T := (mn 40, prog_7_method_7_code, 3, some .int, 5, [(0, .aload_n 0, 1, 0), (1, .iload_n 1, 2, 0), (2, .iconst 0, 3, 0), (3, .invokevirtual 32, 6, 37), (6, .ineg, 7, 0), (7, .istore_n 2, 8, 0), (8, .aload_n 0, 9, 0), (9, .iload_n 2, 10, 0), (10, .invokestatic 36, 13, 11), (13, .iload_n 2, 14, 0), (14, .aload_n 0, 15, 0), (15, .iload_n 1, 16, 0), (16, .iconst 1, 17, 1), (17, .invokevirtual 32, 20, 37), (20, .ineg, 21, 0), (21, .aload_n 0, 22, 0), (22, .iload_n 1, 23, 0), (23, .iconst 2, 24, 2), (24, .invokevirtual 32, 27, 37), (27, .ineg, 28, 0), (28, .aload_n 0, 29, 0), (29, .iload_n 1, 30, 0), (30, .iconst 3, 31, 3), (31, .invokevirtual 32, 34, 37), (34, .ineg, 35, 0), (35, .invokevirtual 28, 38, 38), (38, .ireturn, 39, 0)])
set_option maxRecDepth 100000 in
theorem omX5_putOtherSide : mOK mX5_putOtherSide := ⟨by decide +kernel, List.mem_of_getElem? (i := 343) rfl⟩
def mX5_takeLatest : mt_T := (mn 41, prog_7_method_8_code, 1, some .int, 5, [(0, .aload_n 0, 1, 0), (1, .dup, 2, 0), (2, .getfield 24, 5, 196), (5, .iconst 1, 6, 1), (6, .isub, 7, 0), (7, .putfield 24, 10, 196), (10, .aload_n 0, 11, 0), (11, .getfield 24, 14, 196), (14, .ireturn, 15, 0)])
set_option maxRecDepth 100000 in
theorem omX5_takeLatest : mOK mX5_takeLatest := ⟨by decide +kernel, List.mem_of_getElem? (i := 274) rfl⟩
def mX5_productOf : mt_T := (mn 42, prog_7_method_9_code, 3, some .long, 5, [(0, .aload_n 0, 1, 0), (1, .getfield 9, 4, 192), (4, .iconst 4, 5, 4), (5, .iload_n 1, 6, 0), (6, .imul, 7, 0), (7, .iconst 4, 8, 4), (8, .iload_n 2, 9, 0), (9, .imul, 10, 0), (10, .invokestatic 42, 13, 10), (13, .lreturn, 14, 0)])
set_option maxRecDepth 100000 in
theorem omX5_productOf : mOK mX5_productOf := ⟨by decide +kernel, List.mem_of_getElem? (i := 298) rfl⟩
def mX5_isAlike : mt_T := (mn 43, prog_7_method_10_code, 4, some .boolean, 5, [(0, .iconst 0, 1, 0), (1, .istore_n 3, 2, 0), (2, .iload_n 3, 3, 0), (3, .iconst 4, 4, 4), (4, .if_icmp .ge 26, 7, 30), (7, .aload_n 0, 8, 0), (8, .iload_n 1, 9, 0), (9, .iload_n 3, 10, 0), (10, .invokevirtual 32, 13, 37), (13, .aload_n 0, 14, 0), (14, .iload_n 2, 15, 0), (15, .iload_n 3, 16, 0), (16, .invokevirtual 32, 19, 37), (19, .if_icmp .eq 5, 22, 24), (22, .iconst 0, 23, 0), (23, .ireturn, 24, 0), (24, .iinc 3 1, 27, 1), (27, .goto (-25), 30, 2), (30, .iconst 1, 31, 1), (31, .ireturn, 32, 0)])
set_option maxRecDepth 100000 in
theorem omX5_isAlike : mOK mX5_isAlike := ⟨by decide +kernel, List.mem_of_getElem? (i := 310) rfl⟩
def mX5_mirrorFits : mt_T := (mn 44, prog_7_method_11_code, 6, some .boolean, 5, [(0, .aload_n 0, 1, 0), (1, .iload_n 1, 2, 0), (2, .iload_n 2, 3, 0), (3, .invokevirtual 46, 6, 42), (6, .lstore_n 3, 7, 0), (7, .lload_n 3, 8, 0), (8, .ldc2_w 50, 11, 6), (11, .lcmp, 12, 0), (12, .ifCond .lt 11, 15, 23), (15, .lload_n 3, 16, 0), (16, .ldc2_w 52, 19, 7), (19, .lcmp, 20, 0), (20, .ifCond .le 5, 23, 25), (23, .iconst 0, 24, 0), (24, .ireturn, 25, 0), (25, .iconst 0, 26, 0), (26, .istore 5, 28, 0), (28, .iload 5, 30, 0), (30, .iconst 4, 31, 4), (31, .if_icmp .ge 26, 34, 57), (34, .aload_n 0, 35, 0), (35, .iload_n 1, 36, 0), (36, .iload_n 2, 37, 0), (37, .iload 5, 39, 0), (39, .lload_n 3, 40, 0), (40, .invokevirtual 54, 43, 46), (43, .invokestatic 58, 46, 8), (46, .ifCond .ne 5, 49, 51), (49, .iconst 0, 50, 0), (50, .ireturn, 51, 0), (51, .iinc 5 1, 54, 1), (54, .goto (-26), 57, 28), (57, .iconst 1, 58, 1), (58, .ireturn, 59, 0)])
set_option maxRecDepth 100000 in
theorem omX5_mirrorFits : mOK mX5_mirrorFits := ⟨by decide +kernel, List.mem_of_getElem? (i := 323) rfl⟩
def mX5_putMirror : mt_T := (mn 45, prog_7_method_12_code, 5, some .int, 5, [(0, .aload_n 0, 1, 0), (1, .iload_n 1, 2, 0), (2, .iload_n 2, 3, 0), (3, .invokevirtual 46, 6, 42), (6, .lstore_n 3, 7, 0), (7, .aload_n 0, 8, 0), (8, .iconst 3, 9, 3), (9, .aload_n 0, 10, 0), (10, .iload_n 1, 11, 0), (11, .iload_n 2, 12, 0), (12, .iconst 0, 13, 0), (13, .lload_n 3, 14, 0), (14, .invokevirtual 54, 17, 46), (17, .l2i, 18, 0), (18, .aload_n 0, 19, 0), (19, .iload_n 1, 20, 0), (20, .iload_n 2, 21, 0), (21, .iconst 1, 22, 1), (22, .lload_n 3, 23, 0), (23, .invokevirtual 54, 26, 46), (26, .l2i, 27, 0), (27, .aload_n 0, 28, 0), (28, .iload_n 1, 29, 0), (29, .iload_n 2, 30, 0), (30, .iconst 2, 31, 2), (31, .lload_n 3, 32, 0), (32, .invokevirtual 54, 35, 46), (35, .l2i, 36, 0), (36, .aload_n 0, 37, 0), (37, .iload_n 1, 38, 0), (38, .iload_n 2, 39, 0), (39, .iconst 3, 40, 3), (40, .lload_n 3, 41, 0), (41, .invokevirtual 54, 44, 46), (44, .l2i, 45, 0), (45, .invokevirtual 28, 48, 38), (48, .ireturn, 49, 0)])
set_option maxRecDepth 100000 in
theorem omX5_putMirror : mOK mX5_putMirror := ⟨by decide +kernel, List.mem_of_getElem? (i := 335) rfl⟩
def mX5_mirrored : mt_T := (mn 46, prog_7_method_13_code, 6, some .long, 5, [(0, .aload_n 0, 1, 0), (1, .iload_n 1, 2, 0), (2, .iload_n 3, 3, 0), (3, .invokevirtual 32, 6, 37), (6, .i2l, 7, 0), (7, .lload 4, 9, 0), (9, .aload_n 0, 10, 0), (10, .iload_n 2, 11, 0), (11, .iload_n 3, 12, 0), (12, .invokevirtual 32, 15, 37), (15, .i2l, 16, 0), (16, .lmul, 17, 0), (17, .lsub, 18, 0), (18, .lreturn, 19, 0)])
set_option maxRecDepth 100000 in
theorem omX5_mirrored : mOK mX5_mirrored := ⟨by decide +kernel, List.mem_of_getElem? (i := 330) rfl⟩
def mX6_init : mt_T := (mn 47, prog_8_method_1_code, 1, none, 6, [(0, .aload_n 0, 1, 0), (1, .invokespecial 3, 4, 1000), (4, .aload_n 0, 5, 0), (5, .sipush 961, 8, 22), (8, .newarray .int, 10, 0), (10, .putfield 11, 13, 256), (13, .aload_n 0, 14, 0), (14, .sipush 279, 17, 10), (17, .newarray .int, 19, 0), (19, .putfield 15, 22, 257), (22, .aload_n 0, 23, 0), (23, .sipush 279, 26, 10), (26, .newarray .int, 28, 0), (28, .putfield 18, 31, 258), (31, .aload_n 0, 32, 0), (32, .iconst (-1), 33, 6), (33, .putfield 21, 36, 260), (36, .return_, 37, 0)])
set_option maxRecDepth 100000 in
theorem omX6_init : mOK mX6_init := ⟨by decide +kernel, List.mem_of_getElem? (i := 171) rfl⟩
def mX6_isThere : mt_T := (mn 48, prog_8_method_2_code, 1, some .boolean, 6, [(0, .aload_n 0, 1, 0), (1, .getfield 21, 4, 260), (4, .ifCond .lt 7, 7, 11), (7, .iconst 1, 8, 1), (8, .goto 4, 11, 12), (11, .iconst 0, 12, 0), (12, .ireturn, 13, 0)])
set_option maxRecDepth 100000 in
theorem omX6_isThere : mOK mX6_isThere := ⟨by decide +kernel, List.mem_of_getElem? (i := 630) rfl⟩
def mX6_lead : mt_T := (mn 49, prog_8_method_3_code, 5, none, 6, [(0, .aload_n 0, 1, 0), (1, .aload_n 1, 2, 0), (2, .getfield 25, 5, 1), (5, .iload_n 3, 6, 0), (6, .iload_n 2, 7, 0), (7, .invokevirtual 30, 10, 51), (10, .aload_n 0, 11, 0), (11, .iconst 0, 12, 0), (12, .aload_n 0, 13, 0), (13, .getfield 11, 16, 256), (16, .iload_n 2, 17, 0), (17, .invokestatic 34, 20, 50), (20, .iaload, 21, 0), (21, .iconst 1, 22, 1), (22, .isub, 23, 0), (23, .invokestatic 38, 26, 174), (26, .putfield 21, 29, 260), (29, .aload_n 0, 30, 0), (30, .getfield 18, 33, 258), (33, .iconst 0, 34, 0), (34, .iload_n 2, 35, 0), (35, .iastore, 36, 0), (36, .iconst 1, 37, 1), (37, .istore 4, 39, 0), (39, .iload 4, 41, 0), (41, .aload_n 0, 42, 0), (42, .getfield 21, 45, 260), (45, .if_icmp .gt 39, 48, 84), (48, .aload_n 0, 49, 0), (49, .getfield 18, 52, 258), (52, .iload 4, 54, 0), (54, .aload_n 0, 55, 0), (55, .aload_n 1, 56, 0), (56, .aload_n 0, 57, 0), (57, .getfield 18, 60, 258), (60, .iload 4, 62, 0), (62, .iconst 1, 63, 1), (63, .isub, 64, 0), (64, .iaload, 65, 0), (65, .aload_n 0, 66, 0), (66, .getfield 21, 69, 260), (69, .iload 4, 71, 0), (71, .isub, 72, 0), (72, .iconst 1, 73, 1), (73, .iadd, 74, 0), (74, .invokevirtual 44, 77, 55), (77, .iastore, 78, 0), (78, .iinc 4 1, 81, 1), (81, .goto (-42), 84, 39), (84, .return_, 85, 0)])
set_option maxRecDepth 100000 in
theorem omX6_lead : mOK mX6_lead := ⟨by decide +kernel, List.mem_of_getElem? (i := 589) rfl⟩
def mX6_key : mt_T := (mn 50, prog_8_method_4_code, 1, some .int, 6, [(0, .bipush 31, 2, 23), (2, .iload_n 0, 3, 0), (3, .bipush 100, 5, 11), (5, .idiv, 6, 0), (6, .imul, 7, 0), (7, .iload_n 0, 8, 0), (8, .bipush 100, 10, 11), (10, .irem, 11, 0), (11, .iadd, 12, 0), (12, .ireturn, 13, 0)])
set_option maxRecDepth 100000 in
theorem omX6_key : mOK mX6_key := ⟨by decide +kernel, List.mem_of_getElem? (i := 603) rfl⟩
def mX6_spread : mt_T := (mn 51, prog_8_method_5_code, 5, none, 6, [(0, .aload_n 0, 1, 0), (1, .getfield 11, 4, 256), (4, .iconst 0, 5, 0), (5, .invokestatic 48, 8, 175), (8, .aload_n 0, 9, 0), (9, .iconst 0, 10, 0), (10, .putfield 54, 13, 259), (13, .aload_n 0, 14, 0), (14, .iload_n 2, 15, 0), (15, .iconst 1, 16, 1), (16, .invokevirtual 57, 19, 54), (19, .iconst 0, 20, 0), (20, .istore 4, 22, 0), (22, .iload 4, 24, 0), (24, .aload_n 0, 25, 0), (25, .getfield 54, 28, 259), (28, .if_icmp .ge 33, 31, 61), (31, .aload_n 0, 32, 0), (32, .getfield 11, 35, 256), (35, .iload_n 3, 36, 0), (36, .invokestatic 34, 39, 50), (39, .iaload, 40, 0), (40, .ifCond .ne 21, 43, 61), (43, .aload_n 0, 44, 0), (44, .aload_n 0, 45, 0), (45, .getfield 15, 48, 257), (48, .iload 4, 50, 0), (50, .iaload, 51, 0), (51, .iload_n 1, 52, 0), (52, .invokevirtual 61, 55, 52), (55, .iinc 4 1, 58, 1), (58, .goto (-36), 61, 22), (61, .return_, 62, 0)])
set_option maxRecDepth 100000 in
theorem omX6_spread : mOK mX6_spread := ⟨by decide +kernel, List.mem_of_getElem? (i := 593) rfl⟩
def mX6_findAllNear : mt_T := (mn 52, prog_8_method_6_code, 7, none, 6, [(0, .aload_n 0, 1, 0), (1, .getfield 11, 4, 256), (4, .iload_n 1, 5, 0), (5, .invokestatic 34, 8, 50), (8, .iaload, 9, 0), (9, .iconst 1, 10, 1), (10, .iadd, 11, 0), (11, .istore_n 3, 12, 0), (12, .iload_n 1, 13, 0), (13, .invokestatic 64, 16, 5), (16, .istore 4, 18, 0), (18, .iconst 1, 19, 1), (19, .istore 5, 21, 0), (21, .iload 5, 23, 0), (23, .iload_n 2, 24, 0), (24, .if_icmp .gt 44, 27, 68), (27, .iload_n 1, 28, 0), (28, .invokestatic 69, 31, 4), (31, .iload 5, 33, 0), (33, .imul, 34, 0), (34, .istore 6, 36, 0), (36, .aload_n 0, 37, 0), (37, .iload 6, 39, 0), (39, .iconst 1, 40, 1), (40, .isub, 41, 0), (41, .iload 4, 43, 0), (43, .iload 5, 45, 0), (45, .iload_n 3, 46, 0), (46, .invokevirtual 72, 49, 53), (49, .aload_n 0, 50, 0), (50, .iload 6, 52, 0), (52, .iconst 1, 53, 1), (53, .iadd, 54, 0), (54, .iload 4, 56, 0), (56, .iload 5, 58, 0), (58, .iload_n 3, 59, 0), (59, .invokevirtual 72, 62, 53), (62, .iinc 5 1, 65, 1), (65, .goto (-44), 68, 21), (68, .return_, 69, 0)])
set_option maxRecDepth 100000 in
theorem omX6_findAllNear : mOK mX6_findAllNear := ⟨by decide +kernel, List.mem_of_getElem? (i := 607) rfl⟩
def mX6_findQuotient : mt_T := (mn 53, prog_8_method_7_code, 6, none, 6, [(0, .iload_n 1, 1, 0), (1, .ifCond .lt 13, 4, 14), (4, .iload_n 2, 5, 0), (5, .ifCond .le 9, 8, 14), (8, .iload_n 1, 9, 0), (9, .iload_n 2, 10, 0), (10, .irem, 11, 0), (11, .ifCond .eq 4, 14, 15), (14, .return_, 15, 0), (15, .iload_n 1, 16, 0), (16, .iload_n 2, 17, 0), (17, .idiv, 18, 0), (18, .istore 5, 20, 0), (20, .iload 5, 22, 0), (22, .iload_n 3, 23, 0), (23, .if_icmp .gt 15, 26, 38), (26, .aload_n 0, 27, 0), (27, .iload 5, 29, 0), (29, .iload_n 3, 30, 0), (30, .invokestatic 76, 33, 3), (33, .iload 4, 35, 0), (35, .invokevirtual 57, 38, 54), (38, .return_, 39, 0)])
set_option maxRecDepth 100000 in
theorem omX6_findQuotient : mOK mX6_findQuotient := ⟨by decide +kernel, List.mem_of_getElem? (i := 613) rfl⟩
def mX6_find : mt_T := (mn 54, prog_8_method_8_code, 3, none, 6, [(0, .aload_n 0, 1, 0), (1, .getfield 11, 4, 256), (4, .iload_n 1, 5, 0), (5, .invokestatic 34, 8, 50), (8, .iaload, 9, 0), (9, .ifCond .ne 43, 12, 52), (12, .aload_n 0, 13, 0), (13, .getfield 54, 16, 259), (16, .sipush 279, 19, 10), (19, .if_icmp .ge 33, 22, 52), (22, .aload_n 0, 23, 0), (23, .getfield 11, 26, 256), (26, .iload_n 1, 27, 0), (27, .invokestatic 34, 30, 50), (30, .iload_n 2, 31, 0), (31, .iastore, 32, 0), (32, .aload_n 0, 33, 0), (33, .getfield 15, 36, 257), (36, .aload_n 0, 37, 0), (37, .getfield 54, 40, 259), (40, .iload_n 1, 41, 0), (41, .iastore, 42, 0), (42, .aload_n 0, 43, 0), (43, .dup, 44, 0), (44, .getfield 54, 47, 259), (47, .iconst 1, 48, 1), (48, .iadd, 49, 0), (49, .putfield 54, 52, 259), (52, .return_, 53, 0)])
set_option maxRecDepth 100000 in
theorem omX6_find : mOK mX6_find := ⟨by decide +kernel, List.mem_of_getElem? (i := 600) rfl⟩
def mX6_leastNear : mt_T := (mn 55, prog_8_method_9_code, 6, some .int, 6, [(0, .iconst 0, 1, 0), (1, .istore 4, 3, 0), (3, .iload 4, 5, 0), (5, .aload_n 1, 6, 0), (6, .getfield 79, 9, 2), (9, .if_icmp .ge 44, 12, 53), (12, .aload_n 1, 13, 0), (13, .getfield 82, 16, 0), (16, .iload 4, 18, 0), (18, .iaload, 19, 0), (19, .istore 5, 21, 0), (21, .aload_n 0, 22, 0), (22, .getfield 11, 25, 256), (25, .iload 5, 27, 0), (27, .invokestatic 34, 30, 50), (30, .iaload, 31, 0), (31, .iload_n 3, 32, 0), (32, .if_icmp .ne 15, 35, 47), (35, .iload_n 2, 36, 0), (36, .iload 5, 38, 0), (38, .invokestatic 84, 41, 7), (41, .ifCond .eq 6, 44, 47), (44, .iload 5, 46, 0), (46, .ireturn, 47, 0), (47, .iinc 4 1, 50, 1), (50, .goto (-47), 53, 3), (53, .iload_n 2, 54, 0), (54, .ireturn, 55, 0)])
set_option maxRecDepth 100000 in
theorem omX6_leastNear : mOK mX6_leastNear := ⟨by decide +kernel, List.mem_of_getElem? (i := 621) rfl⟩
def mJ9_floorMod : mt_T := (mn 173, prog_11_method_50_code, 3, some .int, 9, [(0, .iload_n 0, 1, 0), (1, .iload_n 1, 2, 0), (2, .irem, 3, 0), (3, .istore_n 2, 4, 0), (4, .iload_n 0, 5, 0), (5, .iload_n 1, 6, 0), (6, .ixor, 7, 0), (7, .ifCond .ge 11, 10, 18), (10, .iload_n 2, 11, 0), (11, .ifCond .eq 7, 14, 18), (14, .iload_n 2, 15, 0), (15, .iload_n 1, 16, 0), (16, .iadd, 17, 0), (17, .ireturn, 18, 0), (18, .iload_n 2, 19, 0), (19, .ireturn, 20, 0)])
set_option maxRecDepth 100000 in
theorem omJ9_floorMod : mOK mJ9_floorMod := ⟨by decide +kernel, List.mem_of_getElem? (i := 501) rfl⟩
def mJ9_max : mt_T := (mn 174, prog_11_method_65_code, 2, some .int, 9, [(0, .iload_n 0, 1, 0), (1, .iload_n 1, 2, 0), (2, .if_icmp .lt 7, 5, 9), (5, .iload_n 0, 6, 0), (6, .goto 4, 9, 10), (9, .iload_n 1, 10, 0), (10, .ireturn, 11, 0)])
set_option maxRecDepth 100000 in
theorem omJ9_max : mOK mJ9_max := ⟨by decide +kernel, List.mem_of_getElem? (i := 617) rfl⟩
def mJ7_fill : mt_T := (mn 175, prog_13_method_103_code, 4, none, 10, [(0, .iconst 0, 1, 0), (1, .istore_n 2, 2, 0), (2, .aload_n 0, 3, 0), (3, .arraylength, 4, 0), (4, .istore_n 3, 5, 0), (5, .iload_n 2, 6, 0), (6, .iload_n 3, 7, 0), (7, .if_icmp .ge 13, 10, 20), (10, .aload_n 0, 11, 0), (11, .iload_n 2, 12, 0), (12, .iload_n 1, 13, 0), (13, .iastore, 14, 0), (14, .iinc 2 1, 17, 1), (17, .goto (-12), 20, 5), (20, .return_, 21, 0)])
set_option maxRecDepth 100000 in
theorem omJ7_fill : mOK mJ7_fill := ⟨by decide +kernel, List.mem_of_getElem? (i := 596) rfl⟩
end
section
def mX7_init : mt_T := (mn 56, prog_1_method_1_code, 2, none, 7, [(0, .aload_n 0, 1, 0), (1, .invokespecial 3, 4, 1000), (4, .aload_n 0, 5, 0), (5, .new 9, 8, 3), (8, .dup, 9, 0), (9, .invokespecial 11, 12, 34), (12, .putfield 12, 15, 320), (15, .aload_n 0, 16, 0), (16, .bipush 6, 18, 12), (18, .anewarray 16, 21, 2), (21, .putfield 18, 24, 321), (24, .iconst 0, 25, 0), (25, .istore_n 1, 26, 0), (26, .iload_n 1, 27, 0), (27, .bipush 6, 29, 12), (29, .if_icmp .ge 22, 32, 51), (32, .aload_n 0, 33, 0), (33, .getfield 18, 36, 321), (36, .iload_n 1, 37, 0), (37, .new 16, 40, 2), (40, .dup, 41, 0), (41, .invokespecial 22, 44, 19), (44, .aastore, 45, 0), (45, .iinc 1 1, 48, 1), (48, .goto (-22), 51, 26), (51, .aload_n 0, 52, 0), (52, .new 16, 55, 2), (55, .dup, 56, 0), (56, .invokespecial 22, 59, 19), (59, .putfield 23, 62, 322), (62, .aload_n 0, 63, 0), (63, .new 16, 66, 2), (66, .dup, 67, 0), (67, .invokespecial 22, 70, 19), (70, .putfield 27, 73, 323), (73, .aload_n 0, 74, 0), (74, .new 30, 77, 1), (77, .dup, 78, 0), (78, .invokespecial 32, 81, 14), (81, .putfield 33, 84, 324), (84, .aload_n 0, 85, 0), (85, .new 37, 88, 0), (88, .dup, 89, 0), (89, .invokespecial 39, 92, 0), (92, .putfield 40, 95, 325), (95, .aload_n 0, 96, 0), (96, .new 44, 99, 4), (99, .dup, 100, 0), (100, .invokespecial 46, 103, 47), (103, .putfield 47, 106, 326), (106, .aload_n 0, 107, 0), (107, .bipush 16, 109, 16), (109, .newarray .int, 111, 0), (111, .putfield 51, 114, 327), (114, .aload_n 0, 115, 0), (115, .bipush 9, 117, 24), (117, .newarray .int, 119, 0), (119, .putfield 55, 122, 328), (122, .return_, 123, 0)])
set_option maxRecDepth 100000 in
theorem omX7_init : mOK mX7_init := ⟨by decide +kernel, List.mem_of_getElem? (i := 57) rfl⟩
def mX7_round : mt_T := (mn 57, prog_1_method_2_code, 5, some .int, 7, [(0, .iload_n 1, 1, 0), (1, .iload_n 2, 2, 0), (2, .iload_n 3, 3, 0), (3, .iload 4, 5, 0), (5, .invokestatic 58, 8, 9), (8, .ifCond .ne 10, 11, 18), (11, .aload_n 0, 12, 0), (12, .bipush (-7), 14, 25), (14, .invokevirtual 64, 17, 94), (17, .ireturn, 18, 0), (18, .aload_n 0, 19, 0), (19, .getfield 12, 22, 320), (22, .invokevirtual 68, 25, 36), (25, .ifCond .eq 10, 28, 35), (28, .aload_n 0, 29, 0), (29, .bipush (-8), 31, 26), (31, .invokevirtual 64, 34, 94), (34, .ireturn, 35, 0), (35, .aload_n 0, 36, 0), (36, .getfield 12, 39, 320), (39, .iload_n 1, 40, 0), (40, .invokestatic 72, 43, 11), (43, .iload_n 1, 44, 0), (44, .iload_n 2, 45, 0), (45, .iload_n 3, 46, 0), (46, .iload 4, 48, 0), (48, .invokevirtual 75, 51, 38), (51, .ireturn, 52, 0)])
set_option maxRecDepth 100000 in
theorem omX7_round : mOK mX7_round := ⟨by decide +kernel, List.mem_of_getElem? (i := 231) rfl⟩
def mX7_over : mt_T := (mn 58, prog_1_method_3_code, 4, some .int, 7, [(0, .iload_n 1, 1, 0), (1, .ifCond .lt 26, 4, 27), (4, .iload_n 1, 5, 0), (5, .sipush 999, 8, 27), (8, .if_icmp .gt 19, 11, 27), (11, .iload_n 2, 12, 0), (12, .iconst 1, 13, 1), (13, .if_icmp .lt 14, 16, 27), (16, .iload_n 2, 17, 0), (17, .sipush 999, 20, 27), (20, .if_icmp .gt 7, 23, 27), (23, .iconst 1, 24, 1), (24, .goto 4, 27, 28), (27, .iconst 0, 28, 0), (28, .istore_n 3, 29, 0), (29, .iload_n 3, 30, 0), (30, .ifCond .eq 11, 33, 41), (33, .iload_n 1, 34, 0), (34, .iload_n 2, 35, 0), (35, .invokestatic 79, 38, 13), (38, .ifCond .ne 10, 41, 48), (41, .aload_n 0, 42, 0), (42, .bipush (-7), 44, 25), (44, .invokevirtual 64, 47, 94), (47, .ireturn, 48, 0), (48, .aload_n 0, 49, 0), (49, .getfield 12, 52, 320), (52, .invokevirtual 68, 55, 36), (55, .ifCond .eq 10, 58, 65), (58, .aload_n 0, 59, 0), (59, .bipush (-8), 61, 26), (61, .invokevirtual 64, 64, 94), (64, .ireturn, 65, 0), (65, .aload_n 0, 66, 0), (66, .getfield 12, 69, 320), (69, .iload_n 1, 70, 0), (70, .iload_n 2, 71, 0), (71, .invokevirtual 83, 74, 39), (74, .ireturn, 75, 0)])
set_option maxRecDepth 100000 in
theorem omX7_over : mOK mX7_over := ⟨by decide +kernel, List.mem_of_getElem? (i := 258) rfl⟩
def mX7_drop : mt_T := (mn 59, prog_1_method_4_code, 1, some .int, 7, [(0, .aload_n 0, 1, 0), (1, .getfield 12, 4, 320), (4, .getfield 87, 7, 196), (7, .ifCond .ne 12, 10, 19), (10, .aload_n 0, 11, 0), (11, .bipush (-2), 13, 28), (13, .invokevirtual 64, 16, 94), (16, .goto 10, 19, 26), (19, .aload_n 0, 20, 0), (20, .getfield 12, 23, 320), (23, .invokevirtual 91, 26, 41), (26, .ireturn, 27, 0)])
set_option maxRecDepth 100000 in
theorem omX7_drop : mOK mX7_drop := ⟨by decide +kernel, List.mem_of_getElem? (i := 270) rfl⟩
def mX7_look : mt_T := (mn 60, prog_1_method_5_code, 3, some .int, 7, [(0, .aload_n 0, 1, 0), (1, .getfield 12, 4, 320), (4, .iload_n 1, 5, 0), (5, .invokevirtual 95, 8, 35), (8, .ifCond .ne 10, 11, 18), (11, .aload_n 0, 12, 0), (12, .bipush (-3), 14, 29), (14, .invokevirtual 99, 17, 95), (17, .ireturn, 18, 0), (18, .iload_n 2, 19, 0), (19, .iconst 5, 20, 5), (20, .if_icmp .eq 9, 23, 29), (23, .iload_n 2, 24, 0), (24, .bipush 6, 26, 12), (26, .if_icmp .ne 23, 29, 49), (29, .aload_n 0, 30, 0), (30, .getfield 12, 33, 320), (33, .getfield 102, 36, 193), (36, .iload_n 1, 37, 0), (37, .iaload, 38, 0), (38, .iconst 2, 39, 2), (39, .if_icmp .eq 10, 42, 49), (42, .aload_n 0, 43, 0), (43, .bipush (-5), 45, 30), (45, .invokevirtual 99, 48, 95), (48, .ireturn, 49, 0), (49, .iload_n 2, 50, 0), (50, .ifCond .lt 9, 53, 59), (53, .iload_n 2, 54, 0), (54, .bipush 6, 56, 12), (56, .if_icmp .le 10, 59, 66), (59, .aload_n 0, 60, 0), (60, .bipush (-7), 62, 25), (62, .invokevirtual 99, 65, 95), (65, .ireturn, 66, 0), (66, .iload_n 2, 67, 0), (67, .lookupswitch 63 #[(0, 33), (5, 43), (6, 53)], 100, 0), (100, .aload_n 0, 101, 0), (101, .getfield 12, 104, 320), (104, .getfield 102, 107, 193), (107, .iload_n 1, 108, 0), (108, .iaload, 109, 0), (109, .ireturn, 110, 0), (110, .aload_n 0, 111, 0), (111, .getfield 12, 114, 320), (114, .getfield 105, 117, 194), (117, .iload_n 1, 118, 0), (118, .iaload, 119, 0), (119, .ireturn, 120, 0), (120, .aload_n 0, 121, 0), (121, .getfield 12, 124, 320), (124, .getfield 108, 127, 195), (127, .iload_n 1, 128, 0), (128, .iaload, 129, 0), (129, .ireturn, 130, 0), (130, .aload_n 0, 131, 0), (131, .getfield 12, 134, 320), (134, .iload_n 1, 135, 0), (135, .iload_n 2, 136, 0), (136, .iconst 1, 137, 1), (137, .isub, 138, 0), (138, .invokevirtual 111, 141, 37), (141, .ireturn, 142, 0)])
set_option maxRecDepth 100000 in
theorem omX7_look : mOK mX7_look := ⟨by decide +kernel, List.mem_of_getElem? (i := 278) rfl⟩
def mX7_product : mt_T := (mn 61, prog_1_method_6_code, 3, some .long, 7, [(0, .aload_n 0, 1, 0), (1, .getfield 12, 4, 320), (4, .iload_n 1, 5, 0), (5, .invokevirtual 95, 8, 35), (8, .ifCond .eq 14, 11, 22), (11, .aload_n 0, 12, 0), (12, .getfield 12, 15, 320), (15, .iload_n 2, 16, 0), (16, .invokevirtual 95, 19, 35), (19, .ifCond .ne 11, 22, 30), (22, .aload_n 0, 23, 0), (23, .bipush (-3), 25, 29), (25, .invokevirtual 99, 28, 95), (28, .i2l, 29, 0), (29, .lreturn, 30, 0), (30, .aload_n 0, 31, 0), (31, .getfield 12, 34, 320), (34, .iload_n 1, 35, 0), (35, .iload_n 2, 36, 0), (36, .invokevirtual 114, 39, 42), (39, .lreturn, 40, 0)])
set_option maxRecDepth 100000 in
theorem omX7_product : mOK mX7_product := ⟨by decide +kernel, List.mem_of_getElem? (i := 294) rfl⟩
def mX7_meet : mt_T := (mn 62, prog_1_method_7_code, 3, some .int, 7, [(0, .aload_n 0, 1, 0), (1, .getfield 12, 4, 320), (4, .iload_n 1, 5, 0), (5, .invokevirtual 95, 8, 35), (8, .ifCond .eq 14, 11, 22), (11, .aload_n 0, 12, 0), (12, .getfield 12, 15, 320), (15, .iload_n 2, 16, 0), (16, .invokevirtual 95, 19, 35), (19, .ifCond .ne 10, 22, 29), (22, .aload_n 0, 23, 0), (23, .bipush (-3), 25, 29), (25, .invokevirtual 64, 28, 94), (28, .ireturn, 29, 0), (29, .aload_n 0, 30, 0), (30, .getfield 12, 33, 320), (33, .iload_n 1, 34, 0), (34, .iload_n 2, 35, 0), (35, .invokevirtual 118, 38, 43), (38, .ifCond .eq 7, 41, 45), (41, .iconst 0, 42, 0), (42, .goto 15, 45, 57), (45, .aload_n 0, 46, 0), (46, .getfield 12, 49, 320), (49, .iload_n 1, 50, 0), (50, .iload_n 2, 51, 0), (51, .invokevirtual 114, 54, 42), (54, .invokestatic 121, 57, 12), (57, .ireturn, 58, 0)])
set_option maxRecDepth 100000 in
theorem omX7_meet : mOK mX7_meet := ⟨by decide +kernel, List.mem_of_getElem? (i := 306) rfl⟩
def mX7_mirror : mt_T := (mn 63, prog_1_method_8_code, 3, some .int, 7, [(0, .aload_n 0, 1, 0), (1, .getfield 12, 4, 320), (4, .iload_n 1, 5, 0), (5, .invokevirtual 95, 8, 35), (8, .ifCond .eq 14, 11, 22), (11, .aload_n 0, 12, 0), (12, .getfield 12, 15, 320), (15, .iload_n 2, 16, 0), (16, .invokevirtual 95, 19, 35), (19, .ifCond .ne 10, 22, 29), (22, .aload_n 0, 23, 0), (23, .bipush (-3), 25, 29), (25, .invokevirtual 64, 28, 94), (28, .ireturn, 29, 0), (29, .aload_n 0, 30, 0), (30, .getfield 12, 33, 320), (33, .invokevirtual 68, 36, 36), (36, .ifCond .ne 15, 39, 51), (39, .aload_n 0, 40, 0), (40, .getfield 12, 43, 320), (43, .iload_n 1, 44, 0), (44, .iload_n 2, 45, 0), (45, .invokevirtual 125, 48, 44), (48, .ifCond .ne 10, 51, 58), (51, .aload_n 0, 52, 0), (52, .bipush (-8), 54, 26), (54, .invokevirtual 64, 57, 94), (57, .ireturn, 58, 0), (58, .aload_n 0, 59, 0), (59, .getfield 12, 62, 320), (62, .iload_n 1, 63, 0), (63, .iload_n 2, 64, 0), (64, .invokevirtual 128, 67, 45), (67, .ireturn, 68, 0)])
set_option maxRecDepth 100000 in
theorem omX7_mirror : mOK mX7_mirror := ⟨by decide +kernel, List.mem_of_getElem? (i := 319) rfl⟩
def mX7_flip : mt_T := (mn 64, prog_1_method_9_code, 2, some .int, 7, [(0, .aload_n 0, 1, 0), (1, .getfield 12, 4, 320), (4, .iload_n 1, 5, 0), (5, .invokevirtual 95, 8, 35), (8, .ifCond .ne 10, 11, 18), (11, .aload_n 0, 12, 0), (12, .bipush (-3), 14, 29), (14, .invokevirtual 64, 17, 94), (17, .ireturn, 18, 0), (18, .aload_n 0, 19, 0), (19, .getfield 12, 22, 320), (22, .invokevirtual 68, 25, 36), (25, .ifCond .eq 10, 28, 35), (28, .aload_n 0, 29, 0), (29, .bipush (-8), 31, 26), (31, .invokevirtual 64, 34, 94), (34, .ireturn, 35, 0), (35, .aload_n 0, 36, 0), (36, .getfield 12, 39, 320), (39, .iload_n 1, 40, 0), (40, .invokevirtual 131, 43, 40), (43, .ireturn, 44, 0)])
set_option maxRecDepth 100000 in
theorem omX7_flip : mOK mX7_flip := ⟨by decide +kernel, List.mem_of_getElem? (i := 339) rfl⟩
def mX7_kiss : mt_T := (mn 65, prog_1_method_10_code, 5, some .int, 7, [(0, .iload_n 1, 1, 0), (1, .ifCond .lt 9, 4, 10), (4, .iload_n 1, 5, 0), (5, .ldc 134, 7, 7), (7, .if_icmp .lt 10, 10, 17), (10, .aload_n 0, 11, 0), (11, .bipush (-3), 13, 29), (13, .invokevirtual 64, 16, 94), (16, .ireturn, 17, 0), (17, .iload_n 1, 18, 0), (18, .istore_n 2, 19, 0), (19, .iconst 0, 20, 0), (20, .istore_n 3, 21, 0), (21, .iload_n 3, 22, 0), (22, .iconst 4, 23, 4), (23, .if_icmp .ge 64, 26, 87), (26, .iload_n 2, 27, 0), (27, .bipush 20, 29, 21), (29, .irem, 30, 0), (30, .istore 4, 32, 0), (32, .iload_n 2, 33, 0), (33, .bipush 20, 35, 21), (35, .idiv, 36, 0), (36, .istore_n 2, 37, 0), (37, .aload_n 0, 38, 0), (38, .getfield 12, 41, 320), (41, .iload 4, 43, 0), (43, .invokevirtual 95, 46, 35), (46, .ifCond .ne 10, 49, 56), (49, .aload_n 0, 50, 0), (50, .bipush (-3), 52, 29), (52, .invokevirtual 64, 55, 94), (55, .ireturn, 56, 0), (56, .aload_n 0, 57, 0), (57, .getfield 12, 60, 320), (60, .getfield 135, 63, 192), (63, .iconst 4, 64, 4), (64, .iload 4, 66, 0), (66, .imul, 67, 0), (67, .aload_n 0, 68, 0), (68, .getfield 23, 71, 322), (71, .getfield 138, 74, 128), (74, .iconst 4, 75, 4), (75, .iload_n 3, 76, 0), (76, .imul, 77, 0), (77, .iconst 4, 78, 4), (78, .invokestatic 139, 81, 1001), (81, .iinc 3 1, 84, 1), (84, .goto (-63), 87, 21), (87, .aload_n 0, 88, 0), (88, .invokevirtual 145, 91, 98), (91, .ireturn, 92, 0)])
set_option maxRecDepth 100000 in
theorem omX7_kiss : mOK mX7_kiss := ⟨by decide +kernel, List.mem_of_getElem? (i := 348) rfl⟩
def mX7_part : mt_T := (mn 66, prog_1_method_11_code, 1, some .int, 7, [(0, .aload_n 0, 1, 0), (1, .getfield 148, 4, 329), (4, .ifCond .ne 10, 7, 14), (7, .aload_n 0, 8, 0), (8, .bipush (-2), 10, 28), (10, .invokevirtual 64, 13, 94), (13, .ireturn, 14, 0), (14, .aload_n 0, 15, 0), (15, .dup, 16, 0), (16, .getfield 148, 19, 329), (19, .iconst 1, 20, 1), (20, .isub, 21, 0), (21, .putfield 148, 24, 329), (24, .aload_n 0, 25, 0), (25, .getfield 148, 28, 329), (28, .ireturn, 29, 0)])
set_option maxRecDepth 100000 in
theorem omX7_part : mOK mX7_part := ⟨by decide +kernel, List.mem_of_getElem? (i := 380) rfl⟩
def mX7_of : mt_T := (mn 67, prog_1_method_12_code, 4, some .int, 7, [(0, .aload_n 0, 1, 0), (1, .iload_n 1, 2, 0), (2, .iload_n 2, 3, 0), (3, .invokevirtual 151, 6, 97), (6, .ifCond .ne 10, 9, 16), (9, .aload_n 0, 10, 0), (10, .bipush (-3), 12, 29), (12, .invokevirtual 99, 15, 95), (15, .ireturn, 16, 0), (16, .iload_n 3, 17, 0), (17, .ifCond .lt 8, 20, 25), (20, .iload_n 3, 21, 0), (21, .iconst 4, 22, 4), (22, .if_icmp .lt 10, 25, 32), (25, .aload_n 0, 26, 0), (26, .bipush (-7), 28, 25), (28, .invokevirtual 99, 31, 95), (31, .ireturn, 32, 0), (32, .aload_n 0, 33, 0), (33, .getfield 18, 36, 321), (36, .iload_n 1, 37, 0), (37, .aaload, 38, 0), (38, .iload_n 2, 39, 0), (39, .iload_n 3, 40, 0), (40, .invokevirtual 154, 43, 21), (43, .ireturn, 44, 0)])
set_option maxRecDepth 100000 in
theorem omX7_of : mOK mX7_of := ⟨by decide +kernel, List.mem_of_getElem? (i := 384) rfl⟩
def mX7_height : mt_T := (mn 68, prog_1_method_13_code, 2, some .long, 7, [(0, .aload_n 0, 1, 0), (1, .iload_n 1, 2, 0), (2, .invokevirtual 155, 5, 96), (5, .ifCond .eq 15, 8, 20), (8, .aload_n 0, 9, 0), (9, .getfield 18, 12, 321), (12, .iload_n 1, 13, 0), (13, .aaload, 14, 0), (14, .invokevirtual 158, 17, 23), (17, .goto 10, 20, 27), (20, .aload_n 0, 21, 0), (21, .bipush (-3), 23, 29), (23, .invokevirtual 99, 26, 95), (26, .i2l, 27, 0), (27, .lreturn, 28, 0)])
set_option maxRecDepth 100000 in
theorem omX7_height : mOK mX7_height := ⟨by decide +kernel, List.mem_of_getElem? (i := 397) rfl⟩
def mX7_fourth : mt_T := (mn 69, prog_1_method_14_code, 3, some .long, 7, [(0, .aload_n 0, 1, 0), (1, .iload_n 1, 2, 0), (2, .iload_n 2, 3, 0), (3, .invokevirtual 151, 6, 97), (6, .ifCond .eq 17, 9, 23), (9, .aload_n 0, 10, 0), (10, .getfield 18, 13, 321), (13, .iload_n 1, 14, 0), (14, .aaload, 15, 0), (15, .iload_n 2, 16, 0), (16, .iconst 0, 17, 0), (17, .invokevirtual 162, 20, 24), (20, .goto 10, 23, 30), (23, .aload_n 0, 24, 0), (24, .bipush (-3), 26, 29), (26, .invokevirtual 99, 29, 95), (29, .i2l, 30, 0), (30, .lreturn, 31, 0)])
set_option maxRecDepth 100000 in
theorem omX7_fourth : mOK mX7_fourth := ⟨by decide +kernel, List.mem_of_getElem? (i := 409) rfl⟩
def mX7_swap : mt_T := (mn 70, prog_1_method_15_code, 3, some .int, 7, [(0, .aload_n 0, 1, 0), (1, .iload_n 1, 2, 0), (2, .iload_n 2, 3, 0), (3, .invokevirtual 151, 6, 97), (6, .ifCond .ne 10, 9, 16), (9, .aload_n 0, 10, 0), (10, .bipush (-3), 12, 29), (12, .invokevirtual 64, 15, 94), (15, .ireturn, 16, 0), (16, .aload_n 0, 17, 0), (17, .getfield 18, 20, 321), (20, .iload_n 1, 21, 0), (21, .aaload, 22, 0), (22, .iload_n 2, 23, 0), (23, .iconst 4, 24, 4), (24, .invokevirtual 165, 27, 25), (27, .ifCond .eq 7, 30, 34), (30, .iconst 1, 31, 1), (31, .goto 9, 34, 40), (34, .aload_n 0, 35, 0), (35, .bipush (-8), 37, 26), (37, .invokevirtual 64, 40, 94), (40, .ireturn, 41, 0)])
set_option maxRecDepth 100000 in
theorem omX7_swap : mOK mX7_swap := ⟨by decide +kernel, List.mem_of_getElem? (i := 419) rfl⟩
def mX7_word : mt_T := (mn 71, prog_1_method_16_code, 6, some .int, 7, [(0, .aload_n 0, 1, 0), (1, .iload_n 1, 2, 0), (2, .invokevirtual 155, 5, 96), (5, .ifCond .ne 10, 8, 15), (8, .aload_n 0, 9, 0), (9, .bipush (-3), 11, 29), (11, .invokevirtual 64, 14, 94), (14, .ireturn, 15, 0), (15, .iload_n 3, 16, 0), (16, .ifCond .ge 10, 19, 26), (19, .aload_n 0, 20, 0), (20, .bipush (-4), 22, 31), (22, .invokevirtual 64, 25, 94), (25, .ireturn, 26, 0), (26, .iload_n 3, 27, 0), (27, .bipush 15, 29, 19), (29, .if_icmp .gt 16, 32, 45), (32, .iload_n 2, 33, 0), (33, .ifCond .lt 12, 36, 45), (36, .iload_n 2, 37, 0), (37, .iconst 1, 38, 1), (38, .iconst 2, 39, 2), (39, .iload_n 3, 40, 0), (40, .imul, 41, 0), (41, .ishl, 42, 0), (42, .if_icmp .lt 10, 45, 52), (45, .aload_n 0, 46, 0), (46, .bipush (-7), 48, 25), (48, .invokevirtual 64, 51, 94), (51, .ireturn, 52, 0), (52, .iconst 0, 53, 0), (53, .istore 4, 55, 0), (55, .iload 4, 57, 0), (57, .iload_n 3, 58, 0), (58, .if_icmp .ge 37, 61, 95), (61, .iload_n 2, 62, 0), (62, .iconst 2, 63, 2), (63, .iload 4, 65, 0), (65, .imul, 66, 0), (66, .ishr, 67, 0), (67, .iconst 3, 68, 3), (68, .iand, 69, 0), (69, .istore 5, 71, 0), (71, .aload_n 0, 72, 0), (72, .getfield 18, 75, 321), (75, .iload_n 1, 76, 0), (76, .aaload, 77, 0), (77, .iload 5, 79, 0), (79, .iconst 4, 80, 4), (80, .invokevirtual 165, 83, 25), (83, .ifCond .ne 6, 86, 89), (86, .iload 4, 88, 0), (88, .ireturn, 89, 0), (89, .iinc 4 1, 92, 1), (92, .goto (-37), 95, 55), (95, .iload_n 3, 96, 0), (96, .ireturn, 97, 0)])
set_option maxRecDepth 100000 in
theorem omX7_word : mOK mX7_word := ⟨by decide +kernel, List.mem_of_getElem? (i := 429) rfl⟩
def mX7_least : mt_T := (mn 72, prog_1_method_17_code, 4, some .int, 7, [(0, .aload_n 0, 1, 0), (1, .iload_n 1, 2, 0), (2, .invokevirtual 168, 5, 99), (5, .istore_n 2, 6, 0), (6, .iload_n 2, 7, 0), (7, .ifCond .eq 9, 10, 16), (10, .aload_n 0, 11, 0), (11, .iload_n 2, 12, 0), (12, .invokevirtual 64, 15, 94), (15, .ireturn, 16, 0), (16, .aload_n 0, 17, 0), (17, .getfield 23, 20, 322), (20, .aload_n 0, 21, 0), (21, .getfield 18, 24, 321), (24, .iload_n 1, 25, 0), (25, .aaload, 26, 0), (26, .invokevirtual 171, 29, 20), (29, .aload_n 0, 30, 0), (30, .getfield 23, 33, 322), (33, .iconst 4, 34, 4), (34, .invokevirtual 175, 37, 27), (37, .istore_n 3, 38, 0), (38, .iload_n 3, 39, 0), (39, .ifCond .ge 10, 42, 49), (42, .aload_n 0, 43, 0), (43, .bipush (-8), 45, 26), (45, .invokevirtual 64, 48, 94), (48, .ireturn, 49, 0), (49, .aload_n 0, 50, 0), (50, .getfield 18, 53, 321), (53, .iload_n 1, 54, 0), (54, .aaload, 55, 0), (55, .aload_n 0, 56, 0), (56, .getfield 23, 59, 322), (59, .invokevirtual 171, 62, 20), (62, .aload_n 0, 63, 0), (63, .aload_n 0, 64, 0), (64, .getfield 23, 67, 322), (67, .getfield 178, 70, 129), (70, .putfield 181, 73, 330), (73, .iload_n 3, 74, 0), (74, .ireturn, 75, 0)])
set_option maxRecDepth 100000 in
theorem omX7_least : mOK mX7_least := ⟨by decide +kernel, List.mem_of_getElem? (i := 433) rfl⟩
def mX7_led : mt_T := (mn 73, prog_1_method_18_code, 1, some .int, 7, [(0, .aload_n 0, 1, 0), (1, .getfield 181, 4, 330), (4, .ireturn, 5, 0)])
set_option maxRecDepth 100000 in
theorem omX7_led : mOK mX7_led := ⟨by decide +kernel, List.mem_of_getElem? (i := 451) rfl⟩
def mX7_same : mt_T := (mn 74, prog_1_method_19_code, 3, some .int, 7, [(0, .aload_n 0, 1, 0), (1, .iload_n 1, 2, 0), (2, .invokevirtual 155, 5, 96), (5, .ifCond .eq 11, 8, 16), (8, .aload_n 0, 9, 0), (9, .iload_n 2, 10, 0), (10, .invokevirtual 155, 13, 96), (13, .ifCond .ne 10, 16, 23), (16, .aload_n 0, 17, 0), (17, .bipush (-3), 19, 29), (19, .invokevirtual 64, 22, 94), (22, .ireturn, 23, 0), (23, .aload_n 0, 24, 0), (24, .iload_n 1, 25, 0), (25, .invokevirtual 168, 28, 99), (28, .ifCond .ne 11, 31, 39), (31, .aload_n 0, 32, 0), (32, .iload_n 2, 33, 0), (33, .invokevirtual 168, 36, 99), (36, .ifCond .eq 10, 39, 46), (39, .aload_n 0, 40, 0), (40, .bipush (-7), 42, 25), (42, .invokevirtual 64, 45, 94), (45, .ireturn, 46, 0), (46, .aload_n 0, 47, 0), (47, .getfield 23, 50, 322), (50, .aload_n 0, 51, 0), (51, .getfield 18, 54, 321), (54, .iload_n 1, 55, 0), (55, .aaload, 56, 0), (56, .invokevirtual 184, 59, 28), (59, .aload_n 0, 60, 0), (60, .getfield 27, 63, 323), (63, .aload_n 0, 64, 0), (64, .getfield 18, 67, 321), (67, .iload_n 2, 68, 0), (68, .aaload, 69, 0), (69, .invokevirtual 184, 72, 28), (72, .aload_n 0, 73, 0), (73, .getfield 23, 76, 322), (76, .aload_n 0, 77, 0), (77, .getfield 27, 80, 323), (80, .invokevirtual 187, 83, 30), (83, .ifCond .eq 7, 86, 90), (86, .iconst 1, 87, 1), (87, .goto 4, 90, 91), (90, .iconst 0, 91, 0), (91, .ireturn, 92, 0)])
set_option maxRecDepth 100000 in
theorem omX7_same : mOK mX7_same := ⟨by decide +kernel, List.mem_of_getElem? (i := 455) rfl⟩
def mX7_shut : mt_T := (mn 75, prog_1_method_20_code, 3, some .int, 7, [(0, .aload_n 0, 1, 0), (1, .iload_n 1, 2, 0), (2, .invokevirtual 168, 5, 99), (5, .istore_n 2, 6, 0), (6, .iload_n 2, 7, 0), (7, .ifCond .eq 9, 10, 16), (10, .aload_n 0, 11, 0), (11, .iload_n 2, 12, 0), (12, .invokevirtual 64, 15, 94), (15, .ireturn, 16, 0), (16, .aload_n 0, 17, 0), (17, .getfield 23, 20, 322), (20, .aload_n 0, 21, 0), (21, .getfield 18, 24, 321), (24, .iload_n 1, 25, 0), (25, .aaload, 26, 0), (26, .invokevirtual 184, 29, 28), (29, .aload_n 0, 30, 0), (30, .getfield 23, 33, 322), (33, .invokevirtual 191, 36, 29), (36, .ifCond .eq 7, 39, 43), (39, .iconst 1, 40, 1), (40, .goto 4, 43, 44), (43, .iconst 0, 44, 0), (44, .ireturn, 45, 0)])
set_option maxRecDepth 100000 in
theorem omX7_shut : mOK mX7_shut := ⟨by decide +kernel, List.mem_of_getElem? (i := 473) rfl⟩
def mX7_count : mt_T := (mn 76, prog_1_method_21_code, 4, some .int, 7, [(0, .aload_n 0, 1, 0), (1, .iload_n 1, 2, 0), (2, .iload_n 2, 3, 0), (3, .invokevirtual 194, 6, 101), (6, .istore_n 3, 7, 0), (7, .iload_n 3, 8, 0), (8, .ifCond .eq 9, 11, 17), (11, .aload_n 0, 12, 0), (12, .iload_n 3, 13, 0), (13, .invokevirtual 64, 16, 94), (16, .ireturn, 17, 0), (17, .aload_n 0, 18, 0), (18, .getfield 33, 21, 324), (21, .aload_n 0, 22, 0), (22, .getfield 23, 25, 322), (25, .iload_n 2, 26, 0), (26, .iconst (-1), 27, 6), (27, .invokevirtual 197, 30, 15), (30, .aload_n 0, 31, 0), (31, .getfield 33, 34, 324), (34, .getfield 201, 37, 68), (37, .ireturn, 38, 0)])
set_option maxRecDepth 100000 in
theorem omX7_count : mOK mX7_count := ⟨by decide +kernel, List.mem_of_getElem? (i := 481) rfl⟩
def mX7_bends : mt_T := (mn 77, prog_1_method_22_code, 4, some .int, 7, [(0, .aload_n 0, 1, 0), (1, .iload_n 1, 2, 0), (2, .iload_n 2, 3, 0), (3, .invokevirtual 194, 6, 101), (6, .istore_n 3, 7, 0), (7, .iload_n 3, 8, 0), (8, .ifCond .eq 9, 11, 17), (11, .aload_n 0, 12, 0), (12, .iload_n 3, 13, 0), (13, .invokevirtual 64, 16, 94), (16, .ireturn, 17, 0), (17, .aload_n 0, 18, 0), (18, .getfield 33, 21, 324), (21, .aload_n 0, 22, 0), (22, .getfield 23, 25, 322), (25, .iload_n 2, 26, 0), (26, .iconst (-1), 27, 6), (27, .invokevirtual 197, 30, 15), (30, .aload_n 0, 31, 0), (31, .getfield 33, 34, 324), (34, .getfield 204, 37, 69), (37, .ireturn, 38, 0)])
set_option maxRecDepth 100000 in
theorem omX7_bends : mOK mX7_bends := ⟨by decide +kernel, List.mem_of_getElem? (i := 510) rfl⟩
def mX7_next : mt_T := (mn 78, prog_1_method_23_code, 4, some .int, 7, [(0, .aload_n 0, 1, 0), (1, .iload_n 1, 2, 0), (2, .invokevirtual 207, 5, 100), (5, .istore_n 3, 6, 0), (6, .iload_n 3, 7, 0), (7, .ifCond .ne 19, 10, 26), (10, .iload_n 2, 11, 0), (11, .ldc 210, 13, 9), (13, .if_icmp .lt 10, 16, 23), (16, .iload_n 2, 17, 0), (17, .sipush 300, 20, 13), (20, .if_icmp .lt 6, 23, 26), (23, .bipush (-7), 25, 25), (25, .istore_n 3, 26, 0), (26, .iload_n 3, 27, 0), (27, .ifCond .eq 9, 30, 36), (30, .aload_n 0, 31, 0), (31, .iload_n 3, 32, 0), (32, .invokevirtual 64, 35, 94), (35, .ireturn, 36, 0), (36, .aload_n 0, 37, 0), (37, .getfield 33, 40, 324), (40, .aload_n 0, 41, 0), (41, .getfield 23, 44, 322), (44, .iload_n 2, 45, 0), (45, .invokevirtual 211, 48, 16), (48, .ireturn, 49, 0)])
set_option maxRecDepth 100000 in
theorem omX7_next : mOK mX7_next := ⟨by decide +kernel, List.mem_of_getElem? (i := 514) rfl⟩
def mX7_rests : mt_T := (mn 79, prog_1_method_24_code, 4, some .int, 7, [(0, .aload_n 0, 1, 0), (1, .iload_n 1, 2, 0), (2, .iload_n 2, 3, 0), (3, .invokevirtual 194, 6, 101), (6, .istore_n 3, 7, 0), (7, .iload_n 3, 8, 0), (8, .ifCond .eq 9, 11, 17), (11, .aload_n 0, 12, 0), (12, .iload_n 3, 13, 0), (13, .invokevirtual 64, 16, 94), (16, .ireturn, 17, 0), (17, .aload_n 0, 18, 0), (18, .getfield 33, 21, 324), (21, .aload_n 0, 22, 0), (22, .getfield 23, 25, 322), (25, .iload_n 2, 26, 0), (26, .iconst (-1), 27, 6), (27, .invokevirtual 197, 30, 15), (30, .aload_n 0, 31, 0), (31, .getfield 33, 34, 324), (34, .getfield 215, 37, 70), (37, .ireturn, 38, 0)])
set_option maxRecDepth 100000 in
theorem omX7_rests : mOK mX7_rests := ⟨by decide +kernel, List.mem_of_getElem? (i := 524) rfl⟩
def mX7_sum : mt_T := (mn 80, prog_1_method_25_code, 5, some .long, 7, [(0, .aload_n 0, 1, 0), (1, .iload_n 1, 2, 0), (2, .iload_n 2, 3, 0), (3, .invokevirtual 194, 6, 101), (6, .istore 4, 8, 0), (8, .iload 4, 10, 0), (10, .ifCond .ne 16, 13, 26), (13, .iload_n 3, 14, 0), (14, .ifCond .lt 8, 17, 22), (17, .iload_n 3, 18, 0), (18, .iconst 4, 19, 4), (19, .if_icmp .le 7, 22, 26), (22, .bipush (-7), 24, 25), (24, .istore 4, 26, 0), (26, .iload 4, 28, 0), (28, .ifCond .eq 11, 31, 39), (31, .aload_n 0, 32, 0), (32, .iload 4, 34, 0), (34, .invokevirtual 99, 37, 95), (37, .i2l, 38, 0), (38, .lreturn, 39, 0), (39, .aload_n 0, 40, 0), (40, .getfield 33, 43, 324), (43, .aload_n 0, 44, 0), (44, .getfield 23, 47, 322), (47, .iload_n 2, 48, 0), (48, .iload_n 3, 49, 0), (49, .ifCond .ne 7, 52, 56), (52, .iconst (-1), 53, 6), (53, .goto 6, 56, 59), (56, .iload_n 3, 57, 0), (57, .iconst 1, 58, 1), (58, .isub, 59, 0), (59, .invokevirtual 197, 62, 15), (62, .iload_n 3, 63, 0), (63, .ifCond .ne 13, 66, 76), (66, .aload_n 0, 67, 0), (67, .getfield 33, 70, 324), (70, .getfield 218, 73, 71), (73, .goto 11, 76, 84), (76, .aload_n 0, 77, 0), (77, .getfield 33, 80, 324), (80, .getfield 201, 83, 68), (83, .i2l, 84, 0), (84, .lreturn, 85, 0)])
set_option maxRecDepth 100000 in
theorem omX7_sum : mOK mX7_sum := ⟨by decide +kernel, List.mem_of_getElem? (i := 528) rfl⟩
def mX7_near : mt_T := (mn 81, prog_1_method_26_code, 3, some .int, 7, [(0, .iload_n 1, 1, 0), (1, .invokestatic 222, 4, 6), (4, .ifCond .eq 10, 7, 14), (7, .iload_n 2, 8, 0), (8, .invokestatic 222, 11, 6), (11, .ifCond .ne 10, 14, 21), (14, .aload_n 0, 15, 0), (15, .bipush (-7), 17, 25), (17, .invokevirtual 64, 20, 94), (20, .ireturn, 21, 0), (21, .iload_n 1, 22, 0), (22, .iload_n 2, 23, 0), (23, .invokestatic 227, 26, 7), (26, .ifCond .eq 7, 29, 33), (29, .iconst 1, 30, 1), (30, .goto 4, 33, 34), (33, .iconst 0, 34, 0), (34, .ireturn, 35, 0)])
set_option maxRecDepth 100000 in
theorem omX7_near : mOK mX7_near := ⟨by decide +kernel, List.mem_of_getElem? (i := 532) rfl⟩
def mX7_between : mt_T := (mn 82, prog_1_method_27_code, 5, some .int, 7, [(0, .iload_n 1, 1, 0), (1, .invokestatic 222, 4, 6), (4, .ifCond .eq 18, 7, 22), (7, .iload_n 2, 8, 0), (8, .invokestatic 222, 11, 6), (11, .ifCond .eq 11, 14, 22), (14, .iload_n 1, 15, 0), (15, .iload_n 2, 16, 0), (16, .invokestatic 227, 19, 7), (19, .ifCond .ne 10, 22, 29), (22, .aload_n 0, 23, 0), (23, .bipush (-7), 25, 25), (25, .invokevirtual 64, 28, 94), (28, .ireturn, 29, 0), (29, .iload_n 1, 30, 0), (30, .invokestatic 230, 33, 4), (33, .iload_n 2, 34, 0), (34, .invokestatic 230, 37, 4), (37, .iadd, 38, 0), (38, .istore_n 3, 39, 0), (39, .iload_n 1, 40, 0), (40, .invokestatic 233, 43, 5), (43, .iload_n 2, 44, 0), (44, .invokestatic 233, 47, 5), (47, .iadd, 48, 0), (48, .istore 4, 50, 0), (50, .iload 4, 52, 0), (52, .bipush 100, 54, 11), (54, .if_icmp .ge 12, 57, 66), (57, .iload_n 3, 58, 0), (58, .iload 4, 60, 0), (60, .invokestatic 236, 63, 3), (63, .goto 9, 66, 72), (66, .aload_n 0, 67, 0), (67, .bipush (-8), 69, 26), (69, .invokevirtual 64, 72, 94), (72, .ireturn, 73, 0)])
set_option maxRecDepth 100000 in
theorem omX7_between : mOK mX7_between := ⟨by decide +kernel, List.mem_of_getElem? (i := 549) rfl⟩
def mX7_fractions : mt_T := (mn 83, prog_1_method_28_code, 2, some .int, 7, [(0, .iload_n 1, 1, 0), (1, .invokestatic 239, 4, 102), (4, .ifCond .ne 10, 7, 14), (7, .aload_n 0, 8, 0), (8, .bipush (-7), 10, 25), (10, .invokevirtual 64, 13, 94), (13, .ireturn, 14, 0), (14, .aload_n 0, 15, 0), (15, .getfield 40, 18, 325), (18, .iload_n 1, 19, 0), (19, .invokevirtual 242, 22, 1), (22, .aload_n 0, 23, 0), (23, .getfield 40, 26, 325), (26, .getfield 246, 29, 2), (29, .ireturn, 30, 0)])
set_option maxRecDepth 100000 in
theorem omX7_fractions : mOK mX7_fractions := ⟨by decide +kernel, List.mem_of_getElem? (i := 558) rfl⟩
def mX7_fraction : mt_T := (mn 84, prog_1_method_29_code, 3, some .int, 7, [(0, .iload_n 1, 1, 0), (1, .invokestatic 239, 4, 102), (4, .ifCond .ne 10, 7, 14), (7, .aload_n 0, 8, 0), (8, .bipush (-7), 10, 25), (10, .invokevirtual 64, 13, 94), (13, .ireturn, 14, 0), (14, .aload_n 0, 15, 0), (15, .getfield 40, 18, 325), (18, .iload_n 1, 19, 0), (19, .invokevirtual 242, 22, 1), (22, .iload_n 2, 23, 0), (23, .ifCond .lt 26, 26, 49), (26, .iload_n 2, 27, 0), (27, .aload_n 0, 28, 0), (28, .getfield 40, 31, 325), (31, .getfield 246, 34, 2), (34, .if_icmp .ge 15, 37, 49), (37, .aload_n 0, 38, 0), (38, .getfield 40, 41, 325), (41, .getfield 247, 44, 0), (44, .iload_n 2, 45, 0), (45, .iaload, 46, 0), (46, .goto 9, 49, 55), (49, .aload_n 0, 50, 0), (50, .bipush (-3), 52, 29), (52, .invokevirtual 64, 55, 94), (55, .ireturn, 56, 0)])
set_option maxRecDepth 100000 in
theorem omX7_fraction : mOK mX7_fraction := ⟨by decide +kernel, List.mem_of_getElem? (i := 570) rfl⟩
def mX7_beside : mt_T := (mn 85, prog_1_method_30_code, 5, some .int, 7, [(0, .iload_n 1, 1, 0), (1, .iload_n 2, 2, 0), (2, .invokestatic 249, 5, 103), (5, .ifCond .ne 10, 8, 15), (8, .aload_n 0, 9, 0), (9, .bipush (-7), 11, 25), (11, .invokevirtual 64, 14, 94), (14, .ireturn, 15, 0), (15, .aload_n 0, 16, 0), (16, .getfield 40, 19, 325), (19, .iload_n 2, 20, 0), (20, .invokevirtual 242, 23, 1), (23, .aload_n 0, 24, 0), (24, .getfield 40, 27, 325), (27, .iload_n 1, 28, 0), (28, .invokevirtual 252, 31, 2), (31, .iload_n 3, 32, 0), (32, .ifCond .eq 7, 35, 39), (35, .iconst (-1), 36, 6), (36, .goto 4, 39, 40), (39, .iconst 1, 40, 1), (40, .iadd, 41, 0), (41, .istore 4, 43, 0), (43, .iload 4, 45, 0), (45, .ifCond .lt 28, 48, 73), (48, .iload 4, 50, 0), (50, .aload_n 0, 51, 0), (51, .getfield 40, 54, 325), (54, .getfield 246, 57, 2), (57, .if_icmp .ge 16, 60, 73), (60, .aload_n 0, 61, 0), (61, .getfield 40, 64, 325), (64, .getfield 247, 67, 0), (67, .iload 4, 69, 0), (69, .iaload, 70, 0), (70, .goto 4, 73, 74), (73, .iconst (-1), 74, 6), (74, .ireturn, 75, 0)])
set_option maxRecDepth 100000 in
theorem omX7_beside : mOK mX7_beside := ⟨by decide +kernel, List.mem_of_getElem? (i := 574) rfl⟩
def mX7_way : mt_T := (mn 86, prog_1_method_31_code, 4, some .int, 7, [(0, .iload_n 1, 1, 0), (1, .iload_n 3, 2, 0), (2, .invokestatic 249, 5, 103), (5, .ifCond .eq 11, 8, 16), (8, .iload_n 2, 9, 0), (9, .iload_n 3, 10, 0), (10, .invokestatic 249, 13, 103), (13, .ifCond .ne 10, 16, 23), (16, .aload_n 0, 17, 0), (17, .bipush (-7), 19, 25), (19, .invokevirtual 64, 22, 94), (22, .ireturn, 23, 0), (23, .aload_n 0, 24, 0), (24, .getfield 40, 27, 325), (27, .iload_n 3, 28, 0), (28, .invokevirtual 242, 31, 1), (31, .aload_n 0, 32, 0), (32, .getfield 47, 35, 326), (35, .aload_n 0, 36, 0), (36, .getfield 40, 39, 325), (39, .iload_n 1, 40, 0), (40, .iload_n 2, 41, 0), (41, .invokevirtual 255, 44, 49), (44, .aload_n 0, 45, 0), (45, .getfield 47, 48, 326), (48, .getfield 259, 51, 260), (51, .ireturn, 52, 0)])
set_option maxRecDepth 100000 in
theorem omX7_way : mOK mX7_way := ⟨by decide +kernel, List.mem_of_getElem? (i := 585) rfl⟩
def mX7_step : mt_T := (mn 87, prog_1_method_32_code, 2, some .int, 7, [(0, .aload_n 0, 1, 0), (1, .getfield 47, 4, 326), (4, .invokevirtual 262, 7, 48), (7, .ifCond .ne 10, 10, 17), (10, .aload_n 0, 11, 0), (11, .bipush (-2), 13, 28), (13, .invokevirtual 64, 16, 94), (16, .ireturn, 17, 0), (17, .iload_n 1, 18, 0), (18, .ifCond .lt 26, 21, 44), (21, .iload_n 1, 22, 0), (22, .aload_n 0, 23, 0), (23, .getfield 47, 26, 326), (26, .getfield 259, 29, 260), (29, .if_icmp .gt 15, 32, 44), (32, .aload_n 0, 33, 0), (33, .getfield 47, 36, 326), (36, .getfield 265, 39, 258), (39, .iload_n 1, 40, 0), (40, .iaload, 41, 0), (41, .goto 9, 44, 50), (44, .aload_n 0, 45, 0), (45, .bipush (-3), 47, 29), (47, .invokevirtual 64, 50, 94), (50, .ireturn, 51, 0)])
set_option maxRecDepth 100000 in
theorem omX7_step : mOK mX7_step := ⟨by decide +kernel, List.mem_of_getElem? (i := 626) rfl⟩
def mX7_lay : mt_T := (mn 88, prog_1_method_33_code, 2, some .int, 7, [(0, .aload_n 0, 1, 0), (1, .iload_n 1, 2, 0), (2, .invokevirtual 155, 5, 96), (5, .ifCond .ne 10, 8, 15), (8, .aload_n 0, 9, 0), (9, .bipush (-3), 11, 29), (11, .invokevirtual 64, 14, 94), (14, .ireturn, 15, 0), (15, .aload_n 0, 16, 0), (16, .getfield 18, 19, 321), (19, .iload_n 1, 20, 0), (20, .aaload, 21, 0), (21, .getfield 138, 24, 128), (24, .iconst 0, 25, 0), (25, .aload_n 0, 26, 0), (26, .getfield 51, 29, 327), (29, .iconst 0, 30, 0), (30, .bipush 16, 32, 16), (32, .invokestatic 139, 35, 1001), (35, .aload_n 0, 36, 0), (36, .iconst 1, 37, 1), (37, .putfield 268, 40, 331), (40, .bipush 16, 42, 16), (42, .ireturn, 43, 0)])
set_option maxRecDepth 100000 in
theorem omX7_lay : mOK mX7_lay := ⟨by decide +kernel, List.mem_of_getElem? (i := 634) rfl⟩
def mX7_tear : mt_T := (mn 89, prog_1_method_34_code, 2, some .int, 7, [(0, .aload_n 0, 1, 0), (1, .getfield 268, 4, 331), (4, .ifCond .eq 7, 7, 11), (7, .iconst 1, 8, 1), (8, .goto 4, 11, 12), (11, .iconst 0, 12, 0), (12, .istore_n 1, 13, 0), (13, .aload_n 0, 14, 0), (14, .iconst 0, 15, 0), (15, .putfield 268, 18, 331), (18, .iload_n 1, 19, 0), (19, .ireturn, 20, 0)])
set_option maxRecDepth 100000 in
theorem omX7_tear : mOK mX7_tear := ⟨by decide +kernel, List.mem_of_getElem? (i := 638) rfl⟩
def mX7_row : mt_T := (mn 90, prog_1_method_35_code, 2, some .int, 7, [(0, .aload_n 0, 1, 0), (1, .getfield 268, 4, 331), (4, .ifCond .ne 10, 7, 14), (7, .aload_n 0, 8, 0), (8, .bipush (-2), 10, 28), (10, .invokevirtual 99, 13, 95), (13, .ireturn, 14, 0), (14, .iload_n 1, 15, 0), (15, .ifCond .lt 18, 18, 33), (18, .iload_n 1, 19, 0), (19, .bipush 16, 21, 16), (21, .if_icmp .ge 12, 24, 33), (24, .aload_n 0, 25, 0), (25, .getfield 51, 28, 327), (28, .iload_n 1, 29, 0), (29, .iaload, 30, 0), (30, .goto 9, 33, 39), (33, .aload_n 0, 34, 0), (34, .bipush (-3), 36, 29), (36, .invokevirtual 99, 39, 95), (39, .ireturn, 40, 0)])
set_option maxRecDepth 100000 in
theorem omX7_row : mOK mX7_row := ⟨by decide +kernel, List.mem_of_getElem? (i := 642) rfl⟩
def mX7_copy : mt_T := (mn 91, prog_1_method_36_code, 4, some .int, 7, [(0, .aload_n 0, 1, 0), (1, .getfield 268, 4, 331), (4, .ifCond .ne 10, 7, 14), (7, .aload_n 0, 8, 0), (8, .bipush (-2), 10, 28), (10, .invokevirtual 64, 13, 94), (13, .ireturn, 14, 0), (14, .iload_n 3, 15, 0), (15, .ifCond .ge 10, 18, 25), (18, .aload_n 0, 19, 0), (19, .bipush (-4), 21, 31), (21, .invokevirtual 64, 24, 94), (24, .ireturn, 25, 0), (25, .iload_n 1, 26, 0), (26, .ifCond .lt 31, 29, 57), (29, .iload_n 2, 30, 0), (30, .ifCond .lt 27, 33, 57), (33, .iload_n 1, 34, 0), (34, .i2l, 35, 0), (35, .iload_n 3, 36, 0), (36, .i2l, 37, 0), (37, .ladd, 38, 0), (38, .ldc2_w 272, 41, 9), (41, .lcmp, 42, 0), (42, .ifCond .gt 15, 45, 57), (45, .iload_n 2, 46, 0), (46, .i2l, 47, 0), (47, .iload_n 3, 48, 0), (48, .i2l, 49, 0), (49, .ladd, 50, 0), (50, .ldc2_w 272, 53, 9), (53, .lcmp, 54, 0), (54, .ifCond .le 10, 57, 64), (57, .aload_n 0, 58, 0), (58, .bipush (-6), 60, 32), (60, .invokevirtual 64, 63, 94), (63, .ireturn, 64, 0), (64, .aload_n 0, 65, 0), (65, .getfield 51, 68, 327), (68, .iload_n 1, 69, 0), (69, .aload_n 0, 70, 0), (70, .getfield 51, 73, 327), (73, .iload_n 2, 74, 0), (74, .iload_n 3, 75, 0), (75, .invokestatic 139, 78, 1001), (78, .iload_n 3, 79, 0), (79, .ireturn, 80, 0)])
set_option maxRecDepth 100000 in
theorem omX7_copy : mOK mX7_copy := ⟨by decide +kernel, List.mem_of_getElem? (i := 646) rfl⟩
def mX7_give : mt_T := (mn 92, prog_1_method_37_code, 1, some .int, 7, [(0, .aload_n 0, 1, 0), (1, .getfield 268, 4, 331), (4, .ifCond .ne 10, 7, 14), (7, .aload_n 0, 8, 0), (8, .bipush (-2), 10, 28), (10, .invokevirtual 64, 13, 94), (13, .ireturn, 14, 0), (14, .aload_n 0, 15, 0), (15, .getfield 51, 18, 327), (18, .iconst 0, 19, 0), (19, .aload_n 0, 20, 0), (20, .getfield 23, 23, 322), (23, .getfield 138, 26, 128), (26, .iconst 0, 27, 0), (27, .bipush 16, 29, 16), (29, .invokestatic 139, 32, 1001), (32, .aload_n 0, 33, 0), (33, .invokevirtual 145, 36, 98), (36, .ireturn, 37, 0)])
set_option maxRecDepth 100000 in
theorem omX7_give : mOK mX7_give := ⟨by decide +kernel, List.mem_of_getElem? (i := 651) rfl⟩
def mX7_status : mt_T := (mn 93, prog_1_method_38_code, 2, some .int, 7, [(0, .iload_n 1, 1, 0), (1, .bipush (-2), 3, 28), (3, .if_icmp .gt 19, 6, 22), (6, .iload_n 1, 7, 0), (7, .bipush (-8), 9, 26), (9, .if_icmp .lt 13, 12, 22), (12, .aload_n 0, 13, 0), (13, .getfield 55, 16, 328), (16, .iload_n 1, 17, 0), (17, .ineg, 18, 0), (18, .iaload, 19, 0), (19, .goto 9, 22, 28), (22, .aload_n 0, 23, 0), (23, .bipush (-7), 25, 25), (25, .invokevirtual 64, 28, 94), (28, .ireturn, 29, 0)])
set_option maxRecDepth 100000 in
theorem omX7_status : mOK mX7_status := ⟨by decide +kernel, List.mem_of_getElem? (i := 655) rfl⟩
def mX7_refuse : mt_T := (mn 94, prog_1_method_39_code, 2, some .int, 7, [(0, .aload_n 0, 1, 0), (1, .getfield 55, 4, 328), (4, .iload_n 1, 5, 0), (5, .ineg, 6, 0), (6, .dup2, 7, 0), (7, .iaload, 8, 0), (8, .iconst 1, 9, 1), (9, .iadd, 10, 0), (10, .iastore, 11, 0), (11, .iload_n 1, 12, 0), (12, .ireturn, 13, 0)])
set_option maxRecDepth 100000 in
theorem omX7_refuse : mOK mX7_refuse := ⟨by decide +kernel, List.mem_of_getElem? (i := 243) rfl⟩
def mX7_refuseByZero : mt_T := (mn 95, prog_1_method_40_code, 2, some .int, 7, [(0, .aload_n 0, 1, 0), (1, .getfield 55, 4, 328), (4, .iload_n 1, 5, 0), (5, .ineg, 6, 0), (6, .dup2, 7, 0), (7, .iaload, 8, 0), (8, .iconst 1, 9, 1), (9, .iadd, 10, 0), (10, .iastore, 11, 0), (11, .iconst 0, 12, 0), (12, .ireturn, 13, 0)])
set_option maxRecDepth 100000 in
theorem omX7_refuseByZero : mOK mX7_refuseByZero := ⟨by decide +kernel, List.mem_of_getElem? (i := 286) rfl⟩
def mX7_hasKiss : mt_T := (mn 96, prog_1_method_41_code, 2, some .boolean, 7, [(0, .iload_n 1, 1, 0), (1, .ifCond .lt 15, 4, 16), (4, .iload_n 1, 5, 0), (5, .aload_n 0, 6, 0), (6, .getfield 148, 9, 329), (9, .if_icmp .ge 7, 12, 16), (12, .iconst 1, 13, 1), (13, .goto 4, 16, 17), (16, .iconst 0, 17, 0), (17, .ireturn, 18, 0)])
set_option maxRecDepth 100000 in
theorem omX7_hasKiss : mOK mX7_hasKiss := ⟨by decide +kernel, List.mem_of_getElem? (i := 392) rfl⟩
def mX7_hasPlace : mt_T := (mn 97, prog_1_method_42_code, 3, some .boolean, 7, [(0, .aload_n 0, 1, 0), (1, .iload_n 1, 2, 0), (2, .invokevirtual 155, 5, 96), (5, .ifCond .eq 16, 8, 21), (8, .iload_n 2, 9, 0), (9, .ifCond .lt 12, 12, 21), (12, .iload_n 2, 13, 0), (13, .iconst 4, 14, 4), (14, .if_icmp .ge 7, 17, 21), (17, .iconst 1, 18, 1), (18, .goto 4, 21, 22), (21, .iconst 0, 22, 0), (22, .ireturn, 23, 0)])
set_option maxRecDepth 100000 in
theorem omX7_hasPlace : mOK mX7_hasPlace := ⟨by decide +kernel, List.mem_of_getElem? (i := 388) rfl⟩
def mX7_keepWork : mt_T := (mn 98, prog_1_method_43_code, 1, some .int, 7, [(0, .aload_n 0, 1, 0), (1, .getfield 23, 4, 322), (4, .invokevirtual 274, 7, 32), (7, .ifCond .eq 13, 10, 20), (10, .aload_n 0, 11, 0), (11, .getfield 23, 14, 322), (14, .invokevirtual 277, 17, 33), (17, .ifCond .ne 10, 20, 27), (20, .aload_n 0, 21, 0), (21, .bipush (-7), 23, 25), (23, .invokevirtual 64, 26, 94), (26, .ireturn, 27, 0), (27, .aload_n 0, 28, 0), (28, .getfield 148, 31, 329), (31, .bipush 6, 33, 12), (33, .if_icmp .ne 10, 36, 43), (36, .aload_n 0, 37, 0), (37, .bipush (-8), 39, 26), (39, .invokevirtual 64, 42, 94), (42, .ireturn, 43, 0), (43, .aload_n 0, 44, 0), (44, .getfield 18, 47, 321), (47, .aload_n 0, 48, 0), (48, .getfield 148, 51, 329), (51, .aaload, 52, 0), (52, .aload_n 0, 53, 0), (53, .getfield 23, 56, 322), (56, .invokevirtual 171, 59, 20), (59, .aload_n 0, 60, 0), (60, .dup, 61, 0), (61, .getfield 148, 64, 329), (64, .iconst 1, 65, 1), (65, .iadd, 66, 0), (66, .putfield 148, 69, 329), (69, .aload_n 0, 70, 0), (70, .getfield 148, 73, 329), (73, .iconst 1, 74, 1), (74, .isub, 75, 0), (75, .ireturn, 76, 0)])
set_option maxRecDepth 100000 in
theorem omX7_keepWork : mOK mX7_keepWork := ⟨by decide +kernel, List.mem_of_getElem? (i := 356) rfl⟩
def mX7_whyNoLeast : mt_T := (mn 99, prog_1_method_44_code, 2, some .int, 7, [(0, .aload_n 0, 1, 0), (1, .iload_n 1, 2, 0), (2, .invokevirtual 155, 5, 96), (5, .ifCond .ne 6, 8, 11), (8, .bipush (-3), 10, 29), (10, .ireturn, 11, 0), (11, .aload_n 0, 12, 0), (12, .getfield 18, 15, 321), (15, .iload_n 1, 16, 0), (16, .aaload, 17, 0), (17, .invokevirtual 158, 20, 23), (20, .lconst 0, 21, 0), (21, .lcmp, 22, 0), (22, .ifCond .le 7, 25, 29), (25, .iconst 0, 26, 0), (26, .goto 5, 29, 31), (29, .bipush (-7), 31, 25), (31, .ireturn, 32, 0)])
set_option maxRecDepth 100000 in
theorem omX7_whyNoLeast : mOK mX7_whyNoLeast := ⟨by decide +kernel, List.mem_of_getElem? (i := 437) rfl⟩
def mX7_whyNoPacking : mt_T := (mn 100, prog_1_method_45_code, 3, some .int, 7, [(0, .aload_n 0, 1, 0), (1, .iload_n 1, 2, 0), (2, .invokevirtual 168, 5, 99), (5, .istore_n 2, 6, 0), (6, .iload_n 2, 7, 0), (7, .ifCond .eq 5, 10, 12), (10, .iload_n 2, 11, 0), (11, .ireturn, 12, 0), (12, .aload_n 0, 13, 0), (13, .getfield 23, 16, 322), (16, .aload_n 0, 17, 0), (17, .getfield 18, 20, 321), (20, .iload_n 1, 21, 0), (21, .aaload, 22, 0), (22, .invokevirtual 184, 25, 28), (25, .aload_n 0, 26, 0), (26, .getfield 23, 29, 322), (29, .invokevirtual 191, 32, 29), (32, .ifCond .eq 7, 35, 39), (35, .iconst 0, 36, 0), (36, .goto 5, 39, 41), (39, .bipush (-7), 41, 25), (41, .ireturn, 42, 0)])
set_option maxRecDepth 100000 in
theorem omX7_whyNoPacking : mOK mX7_whyNoPacking := ⟨by decide +kernel, List.mem_of_getElem? (i := 489) rfl⟩
def mX7_whyNoPackingUpTo : mt_T := (mn 101, prog_1_method_46_code, 4, some .int, 7, [(0, .aload_n 0, 1, 0), (1, .iload_n 1, 2, 0), (2, .invokevirtual 207, 5, 100), (5, .istore_n 3, 6, 0), (6, .iload_n 3, 7, 0), (7, .ifCond .eq 5, 10, 12), (10, .iload_n 3, 11, 0), (11, .ireturn, 12, 0), (12, .iload_n 2, 13, 0), (13, .ifCond .lt 14, 16, 27), (16, .iload_n 2, 17, 0), (17, .sipush 300, 20, 13), (20, .if_icmp .gt 7, 23, 27), (23, .iconst 0, 24, 0), (24, .goto 5, 27, 29), (27, .bipush (-7), 29, 25), (29, .ireturn, 30, 0)])
set_option maxRecDepth 100000 in
theorem omX7_whyNoPackingUpTo : mOK mX7_whyNoPackingUpTo := ⟨by decide +kernel, List.mem_of_getElem? (i := 485) rfl⟩
def mX7_isOrder : mt_T := (mn 102, prog_1_method_47_code, 1, some .boolean, 7, [(0, .iload_n 0, 1, 0), (1, .iconst 1, 2, 1), (2, .if_icmp .lt 13, 5, 15), (5, .iload_n 0, 6, 0), (6, .bipush 30, 8, 33), (8, .if_icmp .gt 7, 11, 15), (11, .iconst 1, 12, 1), (12, .goto 4, 15, 16), (15, .iconst 0, 16, 0), (16, .ireturn, 17, 0)])
set_option maxRecDepth 100000 in
theorem omX7_isOrder : mOK mX7_isOrder := ⟨by decide +kernel, List.mem_of_getElem? (i := 561) rfl⟩
def mX7_isInRow : mt_T := (mn 103, prog_1_method_48_code, 2, some .boolean, 7, [(0, .iload_n 1, 1, 0), (1, .invokestatic 239, 4, 102), (4, .ifCond .eq 22, 7, 26), (7, .iload_n 0, 8, 0), (8, .invokestatic 222, 11, 6), (11, .ifCond .eq 15, 14, 26), (14, .iload_n 0, 15, 0), (15, .invokestatic 233, 18, 5), (18, .iload_n 1, 19, 0), (19, .if_icmp .gt 7, 22, 26), (22, .iconst 1, 23, 1), (23, .goto 4, 26, 27), (26, .iconst 0, 27, 0), (27, .ireturn, 28, 0)])
set_option maxRecDepth 100000 in
theorem omX7_isInRow : mOK mX7_isInRow := ⟨by decide +kernel, List.mem_of_getElem? (i := 577) rfl⟩
end
section
def mX8_init : mt_T := (mn 104, prog_10_method_1_code, 1, none, 8, [(0, .aload_n 0, 1, 0), (1, .invokespecial 1, 4, 1000), (4, .aload_n 0, 5, 0), (5, .bipush 80, 7, 20), (7, .newarray .int, 9, 0), (9, .putfield 7, 12, 384), (12, .aload_n 0, 13, 0), (13, .bipush 20, 15, 21), (15, .newarray .int, 17, 0), (17, .putfield 13, 20, 385), (20, .aload_n 0, 21, 0), (21, .bipush 20, 23, 21), (23, .newarray .int, 25, 0), (25, .putfield 16, 28, 386), (28, .aload_n 0, 29, 0), (29, .bipush 20, 31, 21), (31, .newarray .int, 33, 0), (33, .putfield 19, 36, 387), (36, .aload_n 0, 37, 0), (37, .bipush 96, 39, 34), (39, .newarray .int, 41, 0), (41, .putfield 22, 44, 388), (44, .aload_n 0, 45, 0), (45, .bipush 9, 47, 24), (47, .newarray .int, 49, 0), (49, .putfield 25, 52, 392), (52, .aload_n 0, 53, 0), (53, .bipush 16, 55, 16), (55, .newarray .int, 57, 0), (57, .putfield 28, 60, 393), (60, .aload_n 0, 61, 0), (61, .iconst 4, 62, 4), (62, .newarray .long, 64, 0), (64, .putfield 31, 67, 394), (67, .aload_n 0, 68, 0), (68, .bipush 16, 70, 16), (70, .newarray .int, 72, 0), (72, .putfield 35, 75, 395), (75, .aload_n 0, 76, 0), (76, .iconst 4, 77, 4), (77, .newarray .long, 79, 0), (79, .putfield 38, 82, 396), (82, .aload_n 0, 83, 0), (83, .iconst 4, 84, 4), (84, .newarray .int, 86, 0), (86, .putfield 41, 89, 402), (89, .aload_n 0, 90, 0), (90, .sipush 400, 93, 35), (93, .newarray .int, 95, 0), (95, .putfield 44, 98, 403), (98, .aload_n 0, 99, 0), (99, .sipush 300, 102, 13), (102, .newarray .int, 104, 0), (104, .putfield 47, 107, 405), (107, .aload_n 0, 108, 0), (108, .sipush 300, 111, 13), (111, .newarray .int, 113, 0), (113, .putfield 50, 116, 406), (116, .aload_n 0, 117, 0), (117, .sipush 300, 120, 13), (120, .newarray .int, 122, 0), (122, .putfield 53, 125, 407), (125, .aload_n 0, 126, 0), (126, .iconst (-1), 127, 6), (127, .putfield 56, 130, 409), (130, .aload_n 0, 131, 0), (131, .bipush 16, 133, 16), (133, .newarray .int, 135, 0), (135, .putfield 60, 138, 410), (138, .aload_n 0, 139, 0), (139, .bipush 16, 141, 16), (141, .newarray .int, 143, 0), (143, .putfield 63, 146, 411), (146, .return_, 147, 0)])
set_option maxRecDepth 100000 in
theorem omX8_init : mOK mX8_init := ⟨by decide +kernel, List.mem_of_getElem? (i := 660) rfl⟩
def mX8_isIn : mt_T := (mn 105, prog_10_method_2_code, 6, some .boolean, 8, [(0, .lload_n 0, 1, 0), (1, .lload_n 2, 2, 0), (2, .lcmp, 3, 0), (3, .ifCond .lt 14, 6, 17), (6, .lload_n 0, 7, 0), (7, .lload 4, 9, 0), (9, .lcmp, 10, 0), (10, .ifCond .gt 7, 13, 17), (13, .iconst 1, 14, 1), (14, .goto 4, 17, 18), (17, .iconst 0, 18, 0), (18, .ireturn, 19, 0)])
set_option maxRecDepth 100000 in
theorem omX8_isIn : mOK mX8_isIn := ⟨by decide +kernel, List.mem_of_getElem? (i := 762) rfl⟩
def mX8_no : mt_T := (mn 106, prog_10_method_3_code, 2, some .int, 8, [(0, .aload_n 0, 1, 0), (1, .getfield 25, 4, 392), (4, .iload_n 1, 5, 0), (5, .ineg, 6, 0), (6, .dup2, 7, 0), (7, .iaload, 8, 0), (8, .iconst 1, 9, 1), (9, .iadd, 10, 0), (10, .iastore, 11, 0), (11, .iload_n 1, 12, 0), (12, .ireturn, 13, 0)])
set_option maxRecDepth 100000 in
theorem omX8_no : mOK mX8_no := ⟨by decide +kernel, List.mem_of_getElem? (i := 770) rfl⟩
def mX8_none : mt_T := (mn 107, prog_10_method_4_code, 3, some .int, 8, [(0, .aload_n 0, 1, 0), (1, .iload_n 1, 2, 0), (2, .invokevirtual 66, 5, 106), (5, .istore_n 2, 6, 0), (6, .iconst 0, 7, 0), (7, .ireturn, 8, 0)])
set_option maxRecDepth 100000 in
theorem omX8_none : mOK mX8_none := ⟨by decide +kernel, List.mem_of_getElem? (i := 795) rfl⟩
def mX8_isRound : mt_T := (mn 108, prog_10_method_5_code, 2, some .boolean, 8, [(0, .iload_n 1, 1, 0), (1, .ifCond .lt 15, 4, 16), (4, .iload_n 1, 5, 0), (5, .aload_n 0, 6, 0), (6, .getfield 70, 9, 389), (9, .if_icmp .ge 7, 12, 16), (12, .iconst 1, 13, 1), (13, .goto 4, 16, 17), (16, .iconst 0, 17, 0), (17, .ireturn, 18, 0)])
set_option maxRecDepth 100000 in
theorem omX8_isRound : mOK mX8_isRound := ⟨by decide +kernel, List.mem_of_getElem? (i := 791) rfl⟩
def mX8_isLawful : mt_T := (mn 109, prog_10_method_6_code, 8, some .boolean, 8, [(0, .lload_n 0, 1, 0), (1, .ldc2_w 73, 4, 2), (4, .ldc2_w 75, 7, 3), (7, .invokestatic 77, 10, 105), (10, .ifCond .eq 68, 13, 78), (13, .lload_n 2, 14, 0), (14, .ldc2_w 73, 17, 2), (17, .ldc2_w 75, 20, 3), (20, .invokestatic 77, 23, 105), (23, .ifCond .eq 55, 26, 78), (26, .lload 4, 28, 0), (28, .ldc2_w 73, 31, 2), (31, .ldc2_w 75, 34, 3), (34, .invokestatic 77, 37, 105), (37, .ifCond .eq 41, 40, 78), (40, .lload 6, 42, 0), (42, .ldc2_w 73, 45, 2), (45, .ldc2_w 75, 48, 3), (48, .invokestatic 77, 51, 105), (51, .ifCond .eq 27, 54, 78), (54, .lload 4, 56, 0), (56, .lload 4, 58, 0), (58, .lmul, 59, 0), (59, .lload 6, 61, 0), (61, .lload 6, 63, 0), (63, .lmul, 64, 0), (64, .ladd, 65, 0), (65, .lload_n 0, 66, 0), (66, .lload_n 2, 67, 0), (67, .lmul, 68, 0), (68, .lsub, 69, 0), (69, .lconst 1, 70, 1), (70, .lcmp, 71, 0), (71, .ifCond .ne 7, 74, 78), (74, .iconst 1, 75, 1), (75, .goto 4, 78, 79), (78, .iconst 0, 79, 0), (79, .ireturn, 80, 0)])
set_option maxRecDepth 100000 in
theorem omX8_isLawful : mOK mX8_isLawful := ⟨by decide +kernel, List.mem_of_getElem? (i := 757) rfl⟩
def mX8_adds : mt_T := (mn 110, prog_10_method_7_code, 10, some .int, 8, [(0, .aload_n 0, 1, 0), (1, .getfield 70, 4, 389), (4, .bipush 20, 6, 21), (6, .if_icmp .ne 10, 9, 16), (9, .aload_n 0, 10, 0), (10, .bipush (-8), 12, 26), (12, .invokevirtual 66, 15, 106), (15, .ireturn, 16, 0), (16, .aload_n 0, 17, 0), (17, .getfield 7, 20, 384), (20, .iconst 4, 21, 4), (21, .aload_n 0, 22, 0), (22, .getfield 70, 25, 389), (25, .imul, 26, 0), (26, .lload_n 1, 27, 0), (27, .l2i, 28, 0), (28, .iastore, 29, 0), (29, .aload_n 0, 30, 0), (30, .getfield 7, 33, 384), (33, .iconst 4, 34, 4), (34, .aload_n 0, 35, 0), (35, .getfield 70, 38, 389), (38, .imul, 39, 0), (39, .iconst 1, 40, 1), (40, .iadd, 41, 0), (41, .lload_n 3, 42, 0), (42, .l2i, 43, 0), (43, .iastore, 44, 0), (44, .aload_n 0, 45, 0), (45, .getfield 7, 48, 384), (48, .iconst 4, 49, 4), (49, .aload_n 0, 50, 0), (50, .getfield 70, 53, 389), (53, .imul, 54, 0), (54, .iconst 2, 55, 2), (55, .iadd, 56, 0), (56, .lload 5, 58, 0), (58, .l2i, 59, 0), (59, .iastore, 60, 0), (60, .aload_n 0, 61, 0), (61, .getfield 7, 64, 384), (64, .iconst 4, 65, 4), (65, .aload_n 0, 66, 0), (66, .getfield 70, 69, 389), (69, .imul, 70, 0), (70, .iconst 3, 71, 3), (71, .iadd, 72, 0), (72, .lload 7, 74, 0), (74, .l2i, 75, 0), (75, .iastore, 76, 0), (76, .aload_n 0, 77, 0), (77, .getfield 13, 80, 385), (80, .aload_n 0, 81, 0), (81, .getfield 70, 84, 389), (84, .iload 9, 86, 0), (86, .iastore, 87, 0), (87, .aload_n 0, 88, 0), (88, .dup, 89, 0), (89, .getfield 70, 92, 389), (92, .iconst 1, 93, 1), (93, .iadd, 94, 0), (94, .putfield 70, 97, 389), (97, .aload_n 0, 98, 0), (98, .getfield 70, 101, 389), (101, .iconst 1, 102, 1), (102, .isub, 103, 0), (103, .ireturn, 104, 0)])
set_option maxRecDepth 100000 in
theorem omX8_adds : mOK mX8_adds := ⟨by decide +kernel, List.mem_of_getElem? (i := 766) rfl⟩
def mX8_round : mt_T := (mn 111, prog_10_method_8_code, 5, some .int, 8, [(0, .iload_n 1, 1, 0), (1, .i2l, 2, 0), (2, .iload_n 2, 3, 0), (3, .i2l, 4, 0), (4, .iload_n 3, 5, 0), (5, .i2l, 6, 0), (6, .iload 4, 8, 0), (8, .i2l, 9, 0), (9, .invokestatic 81, 12, 109), (12, .ifCond .eq 28, 15, 40), (15, .aload_n 0, 16, 0), (16, .iload_n 1, 17, 0), (17, .i2l, 18, 0), (18, .iload_n 2, 19, 0), (19, .i2l, 20, 0), (20, .iload_n 3, 21, 0), (21, .i2l, 22, 0), (22, .iload 4, 24, 0), (24, .i2l, 25, 0), (25, .iload_n 1, 26, 0), (26, .ifCond .ne 7, 29, 33), (29, .iconst 1, 30, 1), (30, .goto 4, 33, 34), (33, .iconst 0, 34, 0), (34, .invokevirtual 85, 37, 110), (37, .goto 9, 40, 46), (40, .aload_n 0, 41, 0), (41, .bipush (-7), 43, 25), (43, .invokevirtual 66, 46, 106), (46, .ireturn, 47, 0)])
set_option maxRecDepth 100000 in
theorem omX8_round : mOK mX8_round := ⟨by decide +kernel, List.mem_of_getElem? (i := 754) rfl⟩
def mX8_divisor : mt_T := (mn 112, prog_10_method_9_code, 5, some .int, 8, [(0, .iload_n 0, 1, 0), (1, .istore_n 2, 2, 0), (2, .iload_n 1, 3, 0), (3, .istore_n 3, 4, 0), (4, .iload_n 3, 5, 0), (5, .ifCond .eq 16, 8, 21), (8, .iload_n 2, 9, 0), (9, .iload_n 3, 10, 0), (10, .irem, 11, 0), (11, .istore 4, 13, 0), (13, .iload_n 3, 14, 0), (14, .istore_n 2, 15, 0), (15, .iload 4, 17, 0), (17, .istore_n 3, 18, 0), (18, .goto (-14), 21, 4), (21, .iload_n 2, 22, 0), (22, .ireturn, 23, 0)])
set_option maxRecDepth 100000 in
theorem omX8_divisor : mOK mX8_divisor := ⟨by decide +kernel, List.mem_of_getElem? (i := 778) rfl⟩
def mX8_over : mt_T := (mn 113, prog_10_method_10_code, 4, some .int, 8, [(0, .iload_n 1, 1, 0), (1, .i2l, 2, 0), (2, .lconst 0, 3, 0), (3, .ldc2_w 89, 6, 10), (6, .invokestatic 77, 9, 105), (9, .ifCond .eq 24, 12, 33), (12, .iload_n 2, 13, 0), (13, .i2l, 14, 0), (14, .lconst 1, 15, 1), (15, .ldc2_w 89, 18, 10), (18, .invokestatic 77, 21, 105), (21, .ifCond .eq 12, 24, 33), (24, .iload_n 2, 25, 0), (25, .iload_n 1, 26, 0), (26, .invokestatic 91, 29, 112), (29, .iconst 1, 30, 1), (30, .if_icmp .eq 10, 33, 40), (33, .aload_n 0, 34, 0), (34, .bipush (-7), 36, 25), (36, .invokevirtual 66, 39, 106), (39, .ireturn, 40, 0), (40, .aload_n 0, 41, 0), (41, .ldc2_w 95, 44, 4), (44, .iload_n 2, 45, 0), (45, .i2l, 46, 0), (46, .lmul, 47, 0), (47, .iload_n 2, 48, 0), (48, .i2l, 49, 0), (49, .lmul, 50, 0), (50, .ldc2_w 95, 53, 4), (53, .iload_n 1, 54, 0), (54, .i2l, 55, 0), (55, .lmul, 56, 0), (56, .iload_n 1, 57, 0), (57, .i2l, 58, 0), (58, .lmul, 59, 0), (59, .ldc2_w 95, 62, 4), (62, .iload_n 1, 63, 0), (63, .i2l, 64, 0), (64, .lmul, 65, 0), (65, .iload_n 2, 66, 0), (66, .i2l, 67, 0), (67, .lmul, 68, 0), (68, .lconst 1, 69, 1), (69, .iconst 2, 70, 2), (70, .invokevirtual 85, 73, 110), (73, .istore_n 3, 74, 0), (74, .iload_n 3, 75, 0), (75, .ifCond .lt 17, 78, 92), (78, .aload_n 0, 79, 0), (79, .getfield 16, 82, 386), (82, .iload_n 3, 83, 0), (83, .iload_n 1, 84, 0), (84, .iastore, 85, 0), (85, .aload_n 0, 86, 0), (86, .getfield 19, 89, 387), (89, .iload_n 3, 90, 0), (90, .iload_n 2, 91, 0), (91, .iastore, 92, 0), (92, .iload_n 3, 93, 0), (93, .ireturn, 94, 0)])
set_option maxRecDepth 100000 in
theorem omX8_over : mOK mX8_over := ⟨by decide +kernel, List.mem_of_getElem? (i := 774) rfl⟩
def mX8_drop : mt_T := (mn 114, prog_10_method_11_code, 1, some .int, 8, [(0, .aload_n 0, 1, 0), (1, .getfield 70, 4, 389), (4, .ifCond .ne 10, 7, 14), (7, .aload_n 0, 8, 0), (8, .bipush (-2), 10, 28), (10, .invokevirtual 66, 13, 106), (13, .ireturn, 14, 0), (14, .aload_n 0, 15, 0), (15, .dup, 16, 0), (16, .getfield 70, 19, 389), (19, .iconst 1, 20, 1), (20, .isub, 21, 0), (21, .putfield 70, 24, 389), (24, .aload_n 0, 25, 0), (25, .getfield 70, 28, 389), (28, .ireturn, 29, 0)])
set_option maxRecDepth 100000 in
theorem omX8_drop : mOK mX8_drop := ⟨by decide +kernel, List.mem_of_getElem? (i := 783) rfl⟩
def mX8_look : mt_T := (mn 115, prog_10_method_12_code, 3, some .int, 8, [(0, .aload_n 0, 1, 0), (1, .iload_n 1, 2, 0), (2, .invokevirtual 97, 5, 108), (5, .ifCond .ne 10, 8, 15), (8, .aload_n 0, 9, 0), (9, .bipush (-3), 11, 29), (11, .invokevirtual 101, 14, 107), (14, .ireturn, 15, 0), (15, .iload_n 2, 16, 0), (16, .tableswitch 102 0 6 #[44, 51, 51, 51, 51, 64, 64], 60, 0), (60, .aload_n 0, 61, 0), (61, .getfield 13, 64, 385), (64, .iload_n 1, 65, 0), (65, .iaload, 66, 0), (66, .ireturn, 67, 0), (67, .aload_n 0, 68, 0), (68, .getfield 7, 71, 384), (71, .iconst 4, 72, 4), (72, .iload_n 1, 73, 0), (73, .imul, 74, 0), (74, .iload_n 2, 75, 0), (75, .iadd, 76, 0), (76, .iconst 1, 77, 1), (77, .isub, 78, 0), (78, .iaload, 79, 0), (79, .ireturn, 80, 0), (80, .aload_n 0, 81, 0), (81, .getfield 13, 84, 385), (84, .iload_n 1, 85, 0), (85, .iaload, 86, 0), (86, .iconst 2, 87, 2), (87, .if_icmp .eq 10, 90, 97), (90, .aload_n 0, 91, 0), (91, .bipush (-5), 93, 30), (93, .invokevirtual 101, 96, 107), (96, .ireturn, 97, 0), (97, .iload_n 2, 98, 0), (98, .iconst 5, 99, 5), (99, .if_icmp .ne 12, 102, 111), (102, .aload_n 0, 103, 0), (103, .getfield 16, 106, 386), (106, .iload_n 1, 107, 0), (107, .iaload, 108, 0), (108, .goto 9, 111, 117), (111, .aload_n 0, 112, 0), (112, .getfield 19, 115, 387), (115, .iload_n 1, 116, 0), (116, .iaload, 117, 0), (117, .ireturn, 118, 0), (118, .aload_n 0, 119, 0), (119, .bipush (-7), 121, 25), (121, .invokevirtual 101, 124, 107), (124, .ireturn, 125, 0)])
set_option maxRecDepth 100000 in
theorem omX8_look : mOK mX8_look := ⟨by decide +kernel, List.mem_of_getElem? (i := 787) rfl⟩
def mX8_productOf : mt_T := (mn 116, prog_10_method_13_code, 6, some .long, 8, [(0, .aload_n 0, 1, 0), (1, .iload_n 1, 2, 0), (2, .iconst 2, 3, 2), (3, .iadd, 4, 0), (4, .iaload, 5, 0), (5, .i2l, 6, 0), (6, .aload_n 2, 7, 0), (7, .iload_n 3, 8, 0), (8, .iconst 2, 9, 2), (9, .iadd, 10, 0), (10, .iaload, 11, 0), (11, .i2l, 12, 0), (12, .lmul, 13, 0), (13, .aload_n 0, 14, 0), (14, .iload_n 1, 15, 0), (15, .iconst 3, 16, 3), (16, .iadd, 17, 0), (17, .iaload, 18, 0), (18, .i2l, 19, 0), (19, .aload_n 2, 20, 0), (20, .iload_n 3, 21, 0), (21, .iconst 3, 22, 3), (22, .iadd, 23, 0), (23, .iaload, 24, 0), (24, .i2l, 25, 0), (25, .lmul, 26, 0), (26, .ladd, 27, 0), (27, .lstore 4, 29, 0), (29, .ldc2_w 95, 32, 4), (32, .lload 4, 34, 0), (34, .lmul, 35, 0), (35, .aload_n 0, 36, 0), (36, .iload_n 1, 37, 0), (37, .iaload, 38, 0), (38, .i2l, 39, 0), (39, .aload_n 2, 40, 0), (40, .iload_n 3, 41, 0), (41, .iconst 1, 42, 1), (42, .iadd, 43, 0), (43, .iaload, 44, 0), (44, .i2l, 45, 0), (45, .lmul, 46, 0), (46, .lsub, 47, 0), (47, .aload_n 2, 48, 0), (48, .iload_n 3, 49, 0), (49, .iaload, 50, 0), (50, .i2l, 51, 0), (51, .aload_n 0, 52, 0), (52, .iload_n 1, 53, 0), (53, .iconst 1, 54, 1), (54, .iadd, 55, 0), (55, .iaload, 56, 0), (56, .i2l, 57, 0), (57, .lmul, 58, 0), (58, .lsub, 59, 0), (59, .lreturn, 60, 0)])
set_option maxRecDepth 100000 in
theorem omX8_productOf : mOK mX8_productOf := ⟨by decide +kernel, List.mem_of_getElem? (i := 802) rfl⟩
def mX8_product : mt_T := (mn 117, prog_10_method_14_code, 3, some .long, 8, [(0, .aload_n 0, 1, 0), (1, .iload_n 1, 2, 0), (2, .invokevirtual 97, 5, 108), (5, .ifCond .eq 29, 8, 34), (8, .aload_n 0, 9, 0), (9, .iload_n 2, 10, 0), (10, .invokevirtual 97, 13, 108), (13, .ifCond .eq 21, 16, 34), (16, .aload_n 0, 17, 0), (17, .getfield 7, 20, 384), (20, .iconst 4, 21, 4), (21, .iload_n 1, 22, 0), (22, .imul, 23, 0), (23, .aload_n 0, 24, 0), (24, .getfield 7, 27, 384), (27, .iconst 4, 28, 4), (28, .iload_n 2, 29, 0), (29, .imul, 30, 0), (30, .invokestatic 104, 33, 116), (33, .lreturn, 34, 0), (34, .aload_n 0, 35, 0), (35, .bipush (-3), 37, 29), (37, .invokevirtual 101, 40, 107), (40, .i2l, 41, 0), (41, .lreturn, 42, 0)])
set_option maxRecDepth 100000 in
theorem omX8_product : mOK mX8_product := ⟨by decide +kernel, List.mem_of_getElem? (i := 799) rfl⟩
def mX8_meet : mt_T := (mn 118, prog_10_method_15_code, 6, some .int, 8, [(0, .aload_n 0, 1, 0), (1, .iload_n 1, 2, 0), (2, .invokevirtual 97, 5, 108), (5, .ifCond .eq 11, 8, 16), (8, .aload_n 0, 9, 0), (9, .iload_n 2, 10, 0), (10, .invokevirtual 97, 13, 108), (13, .ifCond .ne 10, 16, 23), (16, .aload_n 0, 17, 0), (17, .bipush (-3), 19, 29), (19, .invokevirtual 66, 22, 106), (22, .ireturn, 23, 0), (23, .iconst 1, 24, 1), (24, .istore_n 3, 25, 0), (25, .iconst 0, 26, 0), (26, .istore 4, 28, 0), (28, .iload 4, 30, 0), (30, .iconst 4, 31, 4), (31, .if_icmp .ge 44, 34, 75), (34, .iload_n 3, 35, 0), (35, .ifCond .eq 32, 38, 67), (38, .aload_n 0, 39, 0), (39, .getfield 7, 42, 384), (42, .iconst 4, 43, 4), (43, .iload_n 1, 44, 0), (44, .imul, 45, 0), (45, .iload 4, 47, 0), (47, .iadd, 48, 0), (48, .iaload, 49, 0), (49, .aload_n 0, 50, 0), (50, .getfield 7, 53, 384), (53, .iconst 4, 54, 4), (54, .iload_n 2, 55, 0), (55, .imul, 56, 0), (56, .iload 4, 58, 0), (58, .iadd, 59, 0), (59, .iaload, 60, 0), (60, .if_icmp .ne 7, 63, 67), (63, .iconst 1, 64, 1), (64, .goto 4, 67, 68), (67, .iconst 0, 68, 0), (68, .istore_n 3, 69, 0), (69, .iinc 4 1, 72, 1), (72, .goto (-44), 75, 28), (75, .iload_n 3, 76, 0), (76, .ifCond .eq 5, 79, 81), (79, .iconst 0, 80, 0), (80, .ireturn, 81, 0), (81, .aload_n 0, 82, 0), (82, .getfield 7, 85, 384), (85, .iconst 4, 86, 4), (86, .iload_n 1, 87, 0), (87, .imul, 88, 0), (88, .aload_n 0, 89, 0), (89, .getfield 7, 92, 384), (92, .iconst 4, 93, 4), (93, .iload_n 2, 94, 0), (94, .imul, 95, 0), (95, .invokestatic 104, 98, 116), (98, .lstore 4, 100, 0), (100, .lload 4, 102, 0), (102, .ldc2_w 108, 105, 5), (105, .lcmp, 106, 0), (106, .ifCond .ne 5, 109, 111), (109, .iconst 1, 110, 1), (110, .ireturn, 111, 0), (111, .lload 4, 113, 0), (113, .ldc2_w 95, 116, 4), (116, .lcmp, 117, 0), (117, .ifCond .ne 5, 120, 122), (120, .iconst 2, 121, 2), (121, .ireturn, 122, 0), (122, .lload 4, 124, 0), (124, .lconst 0, 125, 0), (125, .lcmp, 126, 0), (126, .ifCond .ne 5, 129, 131), (129, .iconst 3, 130, 3), (130, .ireturn, 131, 0), (131, .lload 4, 133, 0), (133, .lconst 1, 134, 1), (134, .lcmp, 135, 0), (135, .ifCond .eq 12, 138, 147), (138, .lload 4, 140, 0), (140, .ldc2_w 110, 143, 11), (143, .lcmp, 144, 0), (144, .ifCond .ne 7, 147, 151), (147, .iconst 4, 148, 4), (148, .goto 16, 151, 164), (151, .lload 4, 153, 0), (153, .lconst 0, 154, 0), (154, .lcmp, 155, 0), (155, .ifCond .ge 7, 158, 162), (158, .iconst 5, 159, 5), (159, .goto 5, 162, 164), (162, .bipush 6, 164, 12), (164, .ireturn, 165, 0)])
set_option maxRecDepth 100000 in
theorem omX8_meet : mOK mX8_meet := ⟨by decide +kernel, List.mem_of_getElem? (i := 806) rfl⟩
def mX8_mirror : mt_T := (mn 119, prog_10_method_16_code, 7, some .int, 8, [(0, .aload_n 0, 1, 0), (1, .iload_n 1, 2, 0), (2, .invokevirtual 97, 5, 108), (5, .ifCond .eq 11, 8, 16), (8, .aload_n 0, 9, 0), (9, .iload_n 2, 10, 0), (10, .invokevirtual 97, 13, 108), (13, .ifCond .ne 10, 16, 23), (16, .aload_n 0, 17, 0), (17, .bipush (-3), 19, 29), (19, .invokevirtual 66, 22, 106), (22, .ireturn, 23, 0), (23, .aload_n 0, 24, 0), (24, .getfield 7, 27, 384), (27, .iconst 4, 28, 4), (28, .iload_n 1, 29, 0), (29, .imul, 30, 0), (30, .aload_n 0, 31, 0), (31, .getfield 7, 34, 384), (34, .iconst 4, 35, 4), (35, .iload_n 2, 36, 0), (36, .imul, 37, 0), (37, .invokestatic 104, 40, 116), (40, .lstore_n 3, 41, 0), (41, .lload_n 3, 42, 0), (42, .ldc2_w 112, 45, 12), (45, .ldc2_w 114, 48, 13), (48, .invokestatic 77, 51, 105), (51, .istore 5, 53, 0), (53, .iconst 0, 54, 0), (54, .istore 6, 56, 0), (56, .iload 6, 58, 0), (58, .iconst 4, 59, 4), (59, .if_icmp .ge 34, 62, 93), (62, .iload 5, 64, 0), (64, .ifCond .eq 29, 67, 93), (67, .aload_n 0, 68, 0), (68, .iload_n 1, 69, 0), (69, .iload_n 2, 70, 0), (70, .iload 6, 72, 0), (72, .lload_n 3, 73, 0), (73, .invokevirtual 116, 76, 120), (76, .ldc2_w 73, 79, 2), (79, .ldc2_w 75, 82, 3), (82, .invokestatic 77, 85, 105), (85, .istore 5, 87, 0), (87, .iinc 6 1, 90, 1), (90, .goto (-34), 93, 56), (93, .iload 5, 95, 0), (95, .ifCond .ne 10, 98, 105), (98, .aload_n 0, 99, 0), (99, .bipush (-8), 101, 26), (101, .invokevirtual 66, 104, 106), (104, .ireturn, 105, 0), (105, .aload_n 0, 106, 0), (106, .aload_n 0, 107, 0), (107, .iload_n 1, 108, 0), (108, .iload_n 2, 109, 0), (109, .iconst 0, 110, 0), (110, .lload_n 3, 111, 0), (111, .invokevirtual 116, 114, 120), (114, .aload_n 0, 115, 0), (115, .iload_n 1, 116, 0), (116, .iload_n 2, 117, 0), (117, .iconst 1, 118, 1), (118, .lload_n 3, 119, 0), (119, .invokevirtual 116, 122, 120), (122, .aload_n 0, 123, 0), (123, .iload_n 1, 124, 0), (124, .iload_n 2, 125, 0), (125, .iconst 2, 126, 2), (126, .lload_n 3, 127, 0), (127, .invokevirtual 116, 130, 120), (130, .aload_n 0, 131, 0), (131, .iload_n 1, 132, 0), (132, .iload_n 2, 133, 0), (133, .iconst 3, 134, 3), (134, .lload_n 3, 135, 0), (135, .invokevirtual 116, 138, 120), (138, .iconst 3, 139, 3), (139, .invokevirtual 85, 142, 110), (142, .ireturn, 143, 0)])
set_option maxRecDepth 100000 in
theorem omX8_mirror : mOK mX8_mirror := ⟨by decide +kernel, List.mem_of_getElem? (i := 812) rfl⟩
def mX8_mirrored : mt_T := (mn 120, prog_10_method_17_code, 6, some .long, 8, [(0, .aload_n 0, 1, 0), (1, .getfield 7, 4, 384), (4, .iconst 4, 5, 4), (5, .iload_n 1, 6, 0), (6, .imul, 7, 0), (7, .iload_n 3, 8, 0), (8, .iadd, 9, 0), (9, .iaload, 10, 0), (10, .i2l, 11, 0), (11, .lload 4, 13, 0), (13, .aload_n 0, 14, 0), (14, .getfield 7, 17, 384), (17, .iconst 4, 18, 4), (18, .iload_n 2, 19, 0), (19, .imul, 20, 0), (20, .iload_n 3, 21, 0), (21, .iadd, 22, 0), (22, .iaload, 23, 0), (23, .i2l, 24, 0), (24, .lmul, 25, 0), (25, .lsub, 26, 0), (26, .lreturn, 27, 0)])
set_option maxRecDepth 100000 in
theorem omX8_mirrored : mOK mX8_mirrored := ⟨by decide +kernel, List.mem_of_getElem? (i := 818) rfl⟩
def mX8_flip : mt_T := (mn 121, prog_10_method_18_code, 3, some .int, 8, [(0, .aload_n 0, 1, 0), (1, .iload_n 1, 2, 0), (2, .invokevirtual 97, 5, 108), (5, .ifCond .ne 10, 8, 15), (8, .aload_n 0, 9, 0), (9, .bipush (-3), 11, 29), (11, .invokevirtual 66, 14, 106), (14, .ireturn, 15, 0), (15, .iconst 4, 16, 4), (16, .iload_n 1, 17, 0), (17, .imul, 18, 0), (18, .istore_n 2, 19, 0), (19, .aload_n 0, 20, 0), (20, .aload_n 0, 21, 0), (21, .getfield 7, 24, 384), (24, .iload_n 2, 25, 0), (25, .iaload, 26, 0), (26, .ineg, 27, 0), (27, .i2l, 28, 0), (28, .aload_n 0, 29, 0), (29, .getfield 7, 32, 384), (32, .iload_n 2, 33, 0), (33, .iconst 1, 34, 1), (34, .iadd, 35, 0), (35, .iaload, 36, 0), (36, .ineg, 37, 0), (37, .i2l, 38, 0), (38, .aload_n 0, 39, 0), (39, .getfield 7, 42, 384), (42, .iload_n 2, 43, 0), (43, .iconst 2, 44, 2), (44, .iadd, 45, 0), (45, .iaload, 46, 0), (46, .ineg, 47, 0), (47, .i2l, 48, 0), (48, .aload_n 0, 49, 0), (49, .getfield 7, 52, 384), (52, .iload_n 2, 53, 0), (53, .iconst 3, 54, 3), (54, .iadd, 55, 0), (55, .iaload, 56, 0), (56, .ineg, 57, 0), (57, .i2l, 58, 0), (58, .aload_n 0, 59, 0), (59, .getfield 7, 62, 384), (62, .iload_n 2, 63, 0), (63, .iaload, 64, 0), (64, .ifCond .ne 7, 67, 71), (67, .iconst 1, 68, 1), (68, .goto 4, 71, 72), (71, .iconst 0, 72, 0), (72, .invokevirtual 85, 75, 110), (75, .ireturn, 76, 0)])
set_option maxRecDepth 100000 in
theorem omX8_flip : mOK mX8_flip := ⟨by decide +kernel, List.mem_of_getElem? (i := 822) rfl⟩
def mX8_kisses : mt_T := (mn 122, prog_10_method_19_code, 3, some .int, 8, [(0, .iconst 0, 1, 0), (1, .istore_n 1, 2, 0), (2, .iload_n 1, 3, 0), (3, .iconst 4, 4, 4), (4, .if_icmp .ge 53, 7, 57), (7, .iconst 0, 8, 0), (8, .istore_n 2, 9, 0), (9, .iload_n 2, 10, 0), (10, .iload_n 1, 11, 0), (11, .if_icmp .ge 40, 14, 51), (14, .aload_n 0, 15, 0), (15, .getfield 28, 18, 393), (18, .iconst 4, 19, 4), (19, .iload_n 1, 20, 0), (20, .imul, 21, 0), (21, .aload_n 0, 22, 0), (22, .getfield 28, 25, 393), (25, .iconst 4, 26, 4), (26, .iload_n 2, 27, 0), (27, .imul, 28, 0), (28, .invokestatic 104, 31, 116), (31, .ldc2_w 108, 34, 5), (34, .lcmp, 35, 0), (35, .ifCond .eq 10, 38, 45), (38, .aload_n 0, 39, 0), (39, .bipush (-7), 41, 25), (41, .invokevirtual 66, 44, 106), (44, .ireturn, 45, 0), (45, .iinc 2 1, 48, 1), (48, .goto (-39), 51, 9), (51, .iinc 1 1, 54, 1), (54, .goto (-52), 57, 2), (57, .aload_n 0, 58, 0), (58, .getfield 120, 61, 390), (61, .bipush 6, 63, 12), (63, .if_icmp .ne 10, 66, 73), (66, .aload_n 0, 67, 0), (67, .bipush (-8), 69, 26), (69, .invokevirtual 66, 72, 106), (72, .ireturn, 73, 0), (73, .iconst 0, 74, 0), (74, .istore_n 1, 75, 0), (75, .iload_n 1, 76, 0), (76, .bipush 16, 78, 16), (78, .if_icmp .ge 29, 81, 107), (81, .aload_n 0, 82, 0), (82, .getfield 22, 85, 388), (85, .bipush 16, 87, 16), (87, .aload_n 0, 88, 0), (88, .getfield 120, 91, 390), (91, .imul, 92, 0), (92, .iload_n 1, 93, 0), (93, .iadd, 94, 0), (94, .aload_n 0, 95, 0), (95, .getfield 28, 98, 393), (98, .iload_n 1, 99, 0), (99, .iaload, 100, 0), (100, .iastore, 101, 0), (101, .iinc 1 1, 104, 1), (104, .goto (-29), 107, 75), (107, .aload_n 0, 108, 0), (108, .dup, 109, 0), (109, .getfield 120, 112, 390), (112, .iconst 1, 113, 1), (113, .iadd, 114, 0), (114, .putfield 120, 117, 390), (117, .aload_n 0, 118, 0), (118, .getfield 120, 121, 390), (121, .iconst 1, 122, 1), (122, .isub, 123, 0), (123, .ireturn, 124, 0)])
set_option maxRecDepth 100000 in
theorem omX8_kisses : mOK mX8_kisses := ⟨by decide +kernel, List.mem_of_getElem? (i := 831) rfl⟩
def mX8_kiss : mt_T := (mn 123, prog_10_method_20_code, 6, some .int, 8, [(0, .iload_n 1, 1, 0), (1, .i2l, 2, 0), (2, .lconst 0, 3, 0), (3, .ldc2_w 123, 6, 14), (6, .invokestatic 77, 9, 105), (9, .ifCond .ne 10, 12, 19), (12, .aload_n 0, 13, 0), (13, .bipush (-3), 15, 29), (15, .invokevirtual 66, 18, 106), (18, .ireturn, 19, 0), (19, .iload_n 1, 20, 0), (20, .istore_n 2, 21, 0), (21, .iconst 0, 22, 0), (22, .istore_n 3, 23, 0), (23, .iload_n 3, 24, 0), (24, .iconst 4, 25, 4), (25, .if_icmp .ge 74, 28, 99), (28, .iload_n 2, 29, 0), (29, .bipush 20, 31, 21), (31, .irem, 32, 0), (32, .istore 4, 34, 0), (34, .iload_n 2, 35, 0), (35, .bipush 20, 37, 21), (37, .idiv, 38, 0), (38, .istore_n 2, 39, 0), (39, .aload_n 0, 40, 0), (40, .iload 4, 42, 0), (42, .invokevirtual 97, 45, 108), (45, .ifCond .ne 10, 48, 55), (48, .aload_n 0, 49, 0), (49, .bipush (-3), 51, 29), (51, .invokevirtual 66, 54, 106), (54, .ireturn, 55, 0), (55, .iconst 0, 56, 0), (56, .istore 5, 58, 0), (58, .iload 5, 60, 0), (60, .iconst 4, 61, 4), (61, .if_icmp .ge 32, 64, 93), (64, .aload_n 0, 65, 0), (65, .getfield 28, 68, 393), (68, .iconst 4, 69, 4), (69, .iload_n 3, 70, 0), (70, .imul, 71, 0), (71, .iload 5, 73, 0), (73, .iadd, 74, 0), (74, .aload_n 0, 75, 0), (75, .getfield 7, 78, 384), (78, .iconst 4, 79, 4), (79, .iload 4, 81, 0), (81, .imul, 82, 0), (82, .iload 5, 84, 0), (84, .iadd, 85, 0), (85, .iaload, 86, 0), (86, .iastore, 87, 0), (87, .iinc 5 1, 90, 1), (90, .goto (-32), 93, 58), (93, .iinc 3 1, 96, 1), (96, .goto (-73), 99, 23), (99, .aload_n 0, 100, 0), (100, .invokevirtual 125, 103, 122), (103, .ireturn, 104, 0)])
set_option maxRecDepth 100000 in
theorem omX8_kiss : mOK mX8_kiss := ⟨by decide +kernel, List.mem_of_getElem? (i := 826) rfl⟩
def mX8_part : mt_T := (mn 124, prog_10_method_21_code, 1, some .int, 8, [(0, .aload_n 0, 1, 0), (1, .getfield 120, 4, 390), (4, .ifCond .ne 10, 7, 14), (7, .aload_n 0, 8, 0), (8, .bipush (-2), 10, 28), (10, .invokevirtual 66, 13, 106), (13, .ireturn, 14, 0), (14, .aload_n 0, 15, 0), (15, .dup, 16, 0), (16, .getfield 120, 19, 390), (19, .iconst 1, 20, 1), (20, .isub, 21, 0), (21, .putfield 120, 24, 390), (24, .aload_n 0, 25, 0), (25, .getfield 120, 28, 390), (28, .ireturn, 29, 0)])
set_option maxRecDepth 100000 in
theorem omX8_part : mOK mX8_part := ⟨by decide +kernel, List.mem_of_getElem? (i := 835) rfl⟩
def mX8_isKiss : mt_T := (mn 125, prog_10_method_22_code, 2, some .boolean, 8, [(0, .iload_n 1, 1, 0), (1, .ifCond .lt 15, 4, 16), (4, .iload_n 1, 5, 0), (5, .aload_n 0, 6, 0), (6, .getfield 120, 9, 390), (9, .if_icmp .ge 7, 12, 16), (12, .iconst 1, 13, 1), (13, .goto 4, 16, 17), (16, .iconst 0, 17, 0), (17, .ireturn, 18, 0)])
set_option maxRecDepth 100000 in
theorem omX8_isKiss : mOK mX8_isKiss := ⟨by decide +kernel, List.mem_of_getElem? (i := 843) rfl⟩
def mX8_isPlace : mt_T := (mn 126, prog_10_method_23_code, 1, some .boolean, 8, [(0, .iload_n 0, 1, 0), (1, .ifCond .lt 12, 4, 13), (4, .iload_n 0, 5, 0), (5, .iconst 4, 6, 4), (6, .if_icmp .ge 7, 9, 13), (9, .iconst 1, 10, 1), (10, .goto 4, 13, 14), (13, .iconst 0, 14, 0), (14, .ireturn, 15, 0)])
set_option maxRecDepth 100000 in
theorem omX8_isPlace : mOK mX8_isPlace := ⟨by decide +kernel, List.mem_of_getElem? (i := 846) rfl⟩
def mX8_of : mt_T := (mn 127, prog_10_method_24_code, 4, some .int, 8, [(0, .aload_n 0, 1, 0), (1, .iload_n 1, 2, 0), (2, .invokevirtual 128, 5, 125), (5, .ifCond .eq 10, 8, 15), (8, .iload_n 2, 9, 0), (9, .invokestatic 131, 12, 126), (12, .ifCond .ne 10, 15, 22), (15, .aload_n 0, 16, 0), (16, .bipush (-3), 18, 29), (18, .invokevirtual 101, 21, 107), (21, .ireturn, 22, 0), (22, .iload_n 3, 23, 0), (23, .i2l, 24, 0), (24, .lconst 0, 25, 0), (25, .ldc2_w 134, 28, 8), (28, .invokestatic 77, 31, 105), (31, .ifCond .eq 21, 34, 52), (34, .aload_n 0, 35, 0), (35, .getfield 22, 38, 388), (38, .bipush 16, 40, 16), (40, .iload_n 1, 41, 0), (41, .imul, 42, 0), (42, .iconst 4, 43, 4), (43, .iload_n 2, 44, 0), (44, .imul, 45, 0), (45, .iadd, 46, 0), (46, .iload_n 3, 47, 0), (47, .iadd, 48, 0), (48, .iaload, 49, 0), (49, .goto 9, 52, 58), (52, .aload_n 0, 53, 0), (53, .bipush (-7), 55, 25), (55, .invokevirtual 101, 58, 107), (58, .ireturn, 59, 0)])
set_option maxRecDepth 100000 in
theorem omX8_of : mOK mX8_of := ⟨by decide +kernel, List.mem_of_getElem? (i := 839) rfl⟩
def mX8_heightOf : mt_T := (mn 128, prog_10_method_25_code, 5, some .long, 8, [(0, .lconst 0, 1, 0), (1, .lstore_n 2, 2, 0), (2, .iconst 0, 3, 0), (3, .istore 4, 5, 0), (5, .iload 4, 7, 0), (7, .iconst 4, 8, 4), (8, .if_icmp .ge 27, 11, 35), (11, .lload_n 2, 12, 0), (12, .aload_n 0, 13, 0), (13, .getfield 22, 16, 388), (16, .bipush 16, 18, 16), (18, .iload_n 1, 19, 0), (19, .imul, 20, 0), (20, .iconst 4, 21, 4), (21, .iload 4, 23, 0), (23, .imul, 24, 0), (24, .iadd, 25, 0), (25, .iaload, 26, 0), (26, .i2l, 27, 0), (27, .ladd, 28, 0), (28, .lstore_n 2, 29, 0), (29, .iinc 4 1, 32, 1), (32, .goto (-27), 35, 5), (35, .lload_n 2, 36, 0), (36, .lreturn, 37, 0)])
set_option maxRecDepth 100000 in
theorem omX8_heightOf : mOK mX8_heightOf := ⟨by decide +kernel, List.mem_of_getElem? (i := 855) rfl⟩
def mX8_height : mt_T := (mn 129, prog_10_method_26_code, 2, some .long, 8, [(0, .aload_n 0, 1, 0), (1, .iload_n 1, 2, 0), (2, .invokevirtual 128, 5, 125), (5, .ifCond .eq 11, 8, 16), (8, .aload_n 0, 9, 0), (9, .iload_n 1, 10, 0), (10, .invokevirtual 136, 13, 128), (13, .goto 10, 16, 23), (16, .aload_n 0, 17, 0), (17, .bipush (-3), 19, 29), (19, .invokevirtual 101, 22, 107), (22, .i2l, 23, 0), (23, .lreturn, 24, 0)])
set_option maxRecDepth 100000 in
theorem omX8_height : mOK mX8_height := ⟨by decide +kernel, List.mem_of_getElem? (i := 851) rfl⟩
def mX8_swapped : mt_T := (mn 130, prog_10_method_27_code, 8, some .long, 8, [(0, .lconst 0, 1, 0), (1, .lstore 4, 3, 0), (3, .iconst 0, 4, 0), (4, .istore 6, 6, 0), (6, .iload 6, 8, 0), (8, .iconst 4, 9, 4), (9, .if_icmp .ge 31, 12, 40), (12, .lload 4, 14, 0), (14, .aload_n 0, 15, 0), (15, .getfield 22, 18, 388), (18, .bipush 16, 20, 16), (20, .iload_n 1, 21, 0), (21, .imul, 22, 0), (22, .iconst 4, 23, 4), (23, .iload 6, 25, 0), (25, .imul, 26, 0), (26, .iadd, 27, 0), (27, .iload_n 3, 28, 0), (28, .iadd, 29, 0), (29, .iaload, 30, 0), (30, .i2l, 31, 0), (31, .ladd, 32, 0), (32, .lstore 4, 34, 0), (34, .iinc 6 1, 37, 1), (37, .goto (-31), 40, 6), (40, .aload_n 0, 41, 0), (41, .getfield 22, 44, 388), (44, .bipush 16, 46, 16), (46, .iload_n 1, 47, 0), (47, .imul, 48, 0), (48, .iconst 4, 49, 4), (49, .iload_n 2, 50, 0), (50, .imul, 51, 0), (51, .iadd, 52, 0), (52, .iload_n 3, 53, 0), (53, .iadd, 54, 0), (54, .iaload, 55, 0), (55, .i2l, 56, 0), (56, .lstore 6, 58, 0), (58, .ldc2_w 95, 61, 4), (61, .lload 4, 63, 0), (63, .lload 6, 65, 0), (65, .lsub, 66, 0), (66, .lmul, 67, 0), (67, .lload 6, 69, 0), (69, .lsub, 70, 0), (70, .lreturn, 71, 0)])
set_option maxRecDepth 100000 in
theorem omX8_swapped : mOK mX8_swapped := ⟨by decide +kernel, List.mem_of_getElem? (i := 863) rfl⟩
def mX8_fourth : mt_T := (mn 131, prog_10_method_28_code, 3, some .long, 8, [(0, .aload_n 0, 1, 0), (1, .iload_n 1, 2, 0), (2, .invokevirtual 128, 5, 125), (5, .ifCond .eq 20, 8, 25), (8, .iload_n 2, 9, 0), (9, .invokestatic 131, 12, 126), (12, .ifCond .eq 13, 15, 25), (15, .aload_n 0, 16, 0), (16, .iload_n 1, 17, 0), (17, .iload_n 2, 18, 0), (18, .iconst 0, 19, 0), (19, .invokevirtual 140, 22, 130), (22, .goto 10, 25, 32), (25, .aload_n 0, 26, 0), (26, .bipush (-3), 28, 29), (28, .invokevirtual 101, 31, 107), (31, .i2l, 32, 0), (32, .lreturn, 33, 0)])
set_option maxRecDepth 100000 in
theorem omX8_fourth : mOK mX8_fourth := ⟨by decide +kernel, List.mem_of_getElem? (i := 859) rfl⟩
def mX8_swaps : mt_T := (mn 132, prog_10_method_29_code, 4, some .boolean, 8, [(0, .iconst 0, 1, 0), (1, .istore_n 3, 2, 0), (2, .iload_n 3, 3, 0), (3, .iconst 4, 4, 4), (4, .if_icmp .ge 30, 7, 34), (7, .aload_n 0, 8, 0), (8, .iload_n 1, 9, 0), (9, .iload_n 2, 10, 0), (10, .iload_n 3, 11, 0), (11, .invokevirtual 140, 14, 130), (14, .ldc2_w 73, 17, 2), (17, .ldc2_w 75, 20, 3), (20, .invokestatic 77, 23, 105), (23, .ifCond .ne 5, 26, 28), (26, .iconst 0, 27, 0), (27, .ireturn, 28, 0), (28, .iinc 3 1, 31, 1), (31, .goto (-29), 34, 2), (34, .iconst 0, 35, 0), (35, .istore_n 3, 36, 0), (36, .iload_n 3, 37, 0), (37, .iconst 4, 38, 4), (38, .if_icmp .ge 32, 41, 70), (41, .aload_n 0, 42, 0), (42, .getfield 22, 45, 388), (45, .bipush 16, 47, 16), (47, .iload_n 1, 48, 0), (48, .imul, 49, 0), (49, .iconst 4, 50, 4), (50, .iload_n 2, 51, 0), (51, .imul, 52, 0), (52, .iadd, 53, 0), (53, .iload_n 3, 54, 0), (54, .iadd, 55, 0), (55, .aload_n 0, 56, 0), (56, .iload_n 1, 57, 0), (57, .iload_n 2, 58, 0), (58, .iload_n 3, 59, 0), (59, .invokevirtual 140, 62, 130), (62, .l2i, 63, 0), (63, .iastore, 64, 0), (64, .iinc 3 1, 67, 1), (67, .goto (-31), 70, 36), (70, .iconst 1, 71, 1), (71, .ireturn, 72, 0)])
set_option maxRecDepth 100000 in
theorem omX8_swaps : mOK mX8_swaps := ⟨by decide +kernel, List.mem_of_getElem? (i := 871) rfl⟩
def mX8_swap : mt_T := (mn 133, prog_10_method_30_code, 3, some .int, 8, [(0, .aload_n 0, 1, 0), (1, .iload_n 1, 2, 0), (2, .invokevirtual 128, 5, 125), (5, .ifCond .eq 10, 8, 15), (8, .iload_n 2, 9, 0), (9, .invokestatic 131, 12, 126), (12, .ifCond .ne 10, 15, 22), (15, .aload_n 0, 16, 0), (16, .bipush (-3), 18, 29), (18, .invokevirtual 66, 21, 106), (21, .ireturn, 22, 0), (22, .aload_n 0, 23, 0), (23, .iload_n 1, 24, 0), (24, .iload_n 2, 25, 0), (25, .invokevirtual 144, 28, 132), (28, .ifCond .eq 7, 31, 35), (31, .iconst 1, 32, 1), (32, .goto 9, 35, 41), (35, .aload_n 0, 36, 0), (36, .bipush (-8), 38, 26), (38, .invokevirtual 66, 41, 106), (41, .ireturn, 42, 0)])
set_option maxRecDepth 100000 in
theorem omX8_swap : mOK mX8_swap := ⟨by decide +kernel, List.mem_of_getElem? (i := 867) rfl⟩
def mX8_word : mt_T := (mn 134, prog_10_method_31_code, 5, some .int, 8, [(0, .aload_n 0, 1, 0), (1, .iload_n 1, 2, 0), (2, .invokevirtual 128, 5, 125), (5, .ifCond .ne 10, 8, 15), (8, .aload_n 0, 9, 0), (9, .bipush (-3), 11, 29), (11, .invokevirtual 66, 14, 106), (14, .ireturn, 15, 0), (15, .iload_n 3, 16, 0), (16, .ifCond .ge 10, 19, 26), (19, .aload_n 0, 20, 0), (20, .bipush (-4), 22, 31), (22, .invokevirtual 66, 25, 106), (25, .ireturn, 26, 0), (26, .iload_n 3, 27, 0), (27, .bipush 15, 29, 19), (29, .if_icmp .gt 16, 32, 45), (32, .iload_n 2, 33, 0), (33, .ifCond .lt 12, 36, 45), (36, .iload_n 2, 37, 0), (37, .iconst 1, 38, 1), (38, .iconst 2, 39, 2), (39, .iload_n 3, 40, 0), (40, .imul, 41, 0), (41, .ishl, 42, 0), (42, .if_icmp .lt 10, 45, 52), (45, .aload_n 0, 46, 0), (46, .bipush (-7), 48, 25), (48, .invokevirtual 66, 51, 106), (51, .ireturn, 52, 0), (52, .iconst 0, 53, 0), (53, .istore 4, 55, 0), (55, .iload 4, 57, 0), (57, .iload_n 3, 58, 0), (58, .if_icmp .ge 25, 61, 83), (61, .aload_n 0, 62, 0), (62, .iload_n 1, 63, 0), (63, .iload_n 2, 64, 0), (64, .iconst 2, 65, 2), (65, .iload 4, 67, 0), (67, .imul, 68, 0), (68, .ishr, 69, 0), (69, .iconst 3, 70, 3), (70, .iand, 71, 0), (71, .invokevirtual 144, 74, 132), (74, .ifCond .eq 9, 77, 83), (77, .iinc 4 1, 80, 1), (80, .goto (-25), 83, 55), (83, .iload 4, 85, 0), (85, .ireturn, 86, 0)])
set_option maxRecDepth 100000 in
theorem omX8_word : mOK mX8_word := ⟨by decide +kernel, List.mem_of_getElem? (i := 875) rfl⟩
def mX8_greatest : mt_T := (mn 135, prog_10_method_32_code, 5, some .int, 8, [(0, .iconst 0, 1, 0), (1, .istore_n 1, 2, 0), (2, .lconst 0, 3, 0), (3, .lstore_n 2, 4, 0), (4, .iconst 0, 5, 0), (5, .istore 4, 7, 0), (7, .iload 4, 9, 0), (9, .iconst 4, 10, 4), (10, .if_icmp .ge 39, 13, 49), (13, .lload_n 2, 14, 0), (14, .aload_n 0, 15, 0), (15, .getfield 31, 18, 394), (18, .iload 4, 20, 0), (20, .laload, 21, 0), (21, .ladd, 22, 0), (22, .lstore_n 2, 23, 0), (23, .aload_n 0, 24, 0), (24, .getfield 31, 27, 394), (27, .iload 4, 29, 0), (29, .laload, 30, 0), (30, .aload_n 0, 31, 0), (31, .getfield 31, 34, 394), (34, .iload_n 1, 35, 0), (35, .laload, 36, 0), (36, .lcmp, 37, 0), (37, .ifCond .le 6, 40, 43), (40, .iload 4, 42, 0), (42, .istore_n 1, 43, 0), (43, .iinc 4 1, 46, 1), (46, .goto (-39), 49, 7), (49, .ldc2_w 95, 52, 4), (52, .lload_n 2, 53, 0), (53, .aload_n 0, 54, 0), (54, .getfield 31, 57, 394), (57, .iload_n 1, 58, 0), (58, .laload, 59, 0), (59, .lsub, 60, 0), (60, .lmul, 61, 0), (61, .aload_n 0, 62, 0), (62, .getfield 31, 65, 394), (65, .iload_n 1, 66, 0), (66, .laload, 67, 0), (67, .lsub, 68, 0), (68, .aload_n 0, 69, 0), (69, .getfield 31, 72, 394), (72, .iload_n 1, 73, 0), (73, .laload, 74, 0), (74, .lcmp, 75, 0), (75, .ifCond .ge 7, 78, 82), (78, .iload_n 1, 79, 0), (79, .goto 4, 82, 83), (82, .iconst (-1), 83, 6), (83, .ireturn, 84, 0)])
set_option maxRecDepth 100000 in
theorem omX8_greatest : mOK mX8_greatest := ⟨by decide +kernel, List.mem_of_getElem? (i := 883) rfl⟩
def mX8_exchanges : mt_T := (mn 136, prog_10_method_33_code, 2, none, 8, [(0, .aload_n 0, 1, 0), (1, .getfield 31, 4, 394), (4, .iload_n 1, 5, 0), (5, .ldc2_w 95, 8, 4), (8, .aload_n 0, 9, 0), (9, .getfield 31, 12, 394), (12, .iconst 0, 13, 0), (13, .laload, 14, 0), (14, .aload_n 0, 15, 0), (15, .getfield 31, 18, 394), (18, .iconst 1, 19, 1), (19, .laload, 20, 0), (20, .ladd, 21, 0), (21, .aload_n 0, 22, 0), (22, .getfield 31, 25, 394), (25, .iconst 2, 26, 2), (26, .laload, 27, 0), (27, .ladd, 28, 0), (28, .aload_n 0, 29, 0), (29, .getfield 31, 32, 394), (32, .iconst 3, 33, 3), (33, .laload, 34, 0), (34, .ladd, 35, 0), (35, .aload_n 0, 36, 0), (36, .getfield 31, 39, 394), (39, .iload_n 1, 40, 0), (40, .laload, 41, 0), (41, .lsub, 42, 0), (42, .lmul, 43, 0), (43, .aload_n 0, 44, 0), (44, .getfield 31, 47, 394), (47, .iload_n 1, 48, 0), (48, .laload, 49, 0), (49, .lsub, 50, 0), (50, .lastore, 51, 0), (51, .return_, 52, 0)])
set_option maxRecDepth 100000 in
theorem omX8_exchanges : mOK mX8_exchanges := ⟨by decide +kernel, List.mem_of_getElem? (i := 899) rfl⟩
def mX8_leads : mt_T := (mn 137, prog_10_method_34_code, 3, none, 8, [(0, .iconst 0, 1, 0), (1, .istore_n 2, 2, 0), (2, .iload_n 2, 3, 0), (3, .iconst 4, 4, 4), (4, .if_icmp .ge 29, 7, 33), (7, .aload_n 0, 8, 0), (8, .getfield 31, 11, 394), (11, .iload_n 2, 12, 0), (12, .aload_n 0, 13, 0), (13, .getfield 22, 16, 388), (16, .bipush 16, 18, 16), (18, .iload_n 1, 19, 0), (19, .imul, 20, 0), (20, .iconst 4, 21, 4), (21, .iload_n 2, 22, 0), (22, .imul, 23, 0), (23, .iadd, 24, 0), (24, .iaload, 25, 0), (25, .i2l, 26, 0), (26, .lastore, 27, 0), (27, .iinc 2 1, 30, 1), (30, .goto (-28), 33, 2), (33, .aload_n 0, 34, 0), (34, .invokevirtual 148, 37, 135), (37, .ifCond .lt 14, 40, 51), (40, .aload_n 0, 41, 0), (41, .aload_n 0, 42, 0), (42, .invokevirtual 148, 45, 135), (45, .invokevirtual 151, 48, 136), (48, .goto (-15), 51, 33), (51, .return_, 52, 0)])
set_option maxRecDepth 100000 in
theorem omX8_leads : mOK mX8_leads := ⟨by decide +kernel, List.mem_of_getElem? (i := 895) rfl⟩
def mX8_least : mt_T := (mn 138, prog_10_method_35_code, 6, some .int, 8, [(0, .aload_n 0, 1, 0), (1, .iload_n 1, 2, 0), (2, .invokevirtual 128, 5, 125), (5, .ifCond .ne 10, 8, 15), (8, .aload_n 0, 9, 0), (9, .bipush (-3), 11, 29), (11, .invokevirtual 66, 14, 106), (14, .ireturn, 15, 0), (15, .aload_n 0, 16, 0), (16, .iload_n 1, 17, 0), (17, .invokevirtual 136, 20, 128), (20, .lconst 0, 21, 0), (21, .lcmp, 22, 0), (22, .ifCond .gt 10, 25, 32), (25, .aload_n 0, 26, 0), (26, .bipush (-7), 28, 25), (28, .invokevirtual 66, 31, 106), (31, .ireturn, 32, 0), (32, .iconst 0, 33, 0), (33, .istore_n 2, 34, 0), (34, .iload_n 2, 35, 0), (35, .bipush 16, 37, 16), (37, .if_icmp .ge 26, 40, 63), (40, .aload_n 0, 41, 0), (41, .getfield 35, 44, 395), (44, .iload_n 2, 45, 0), (45, .aload_n 0, 46, 0), (46, .getfield 22, 49, 388), (49, .bipush 16, 51, 16), (51, .iload_n 1, 52, 0), (52, .imul, 53, 0), (53, .iload_n 2, 54, 0), (54, .iadd, 55, 0), (55, .iaload, 56, 0), (56, .iastore, 57, 0), (57, .iinc 2 1, 60, 1), (60, .goto (-26), 63, 34), (63, .iconst 0, 64, 0), (64, .istore_n 2, 65, 0), (65, .iconst 0, 66, 0), (66, .istore_n 3, 67, 0), (67, .iconst 0, 68, 0), (68, .istore 4, 70, 0), (70, .iload 4, 72, 0), (72, .iconst 4, 73, 4), (73, .if_icmp .ge 31, 76, 104), (76, .aload_n 0, 77, 0), (77, .getfield 31, 80, 394), (80, .iload 4, 82, 0), (82, .aload_n 0, 83, 0), (83, .getfield 22, 86, 388), (86, .bipush 16, 88, 16), (88, .iload_n 1, 89, 0), (89, .imul, 90, 0), (90, .iconst 4, 91, 4), (91, .iload 4, 93, 0), (93, .imul, 94, 0), (94, .iadd, 95, 0), (95, .iaload, 96, 0), (96, .i2l, 97, 0), (97, .lastore, 98, 0), (98, .iinc 4 1, 101, 1), (101, .goto (-31), 104, 70), (104, .aload_n 0, 105, 0), (105, .invokevirtual 148, 108, 135), (108, .istore 4, 110, 0), (110, .iload 4, 112, 0), (112, .ifCond .ge 6, 115, 118), (115, .goto 76, 118, 191), (118, .aload_n 0, 119, 0), (119, .iload_n 1, 120, 0), (120, .iload 4, 122, 0), (122, .invokevirtual 144, 125, 132), (125, .ifCond .ne 45, 128, 170), (128, .iconst 0, 129, 0), (129, .istore 5, 131, 0), (131, .iload 5, 133, 0), (133, .bipush 16, 135, 16), (135, .if_icmp .ge 28, 138, 163), (138, .aload_n 0, 139, 0), (139, .getfield 22, 142, 388), (142, .bipush 16, 144, 16), (144, .iload_n 1, 145, 0), (145, .imul, 146, 0), (146, .iload 5, 148, 0), (148, .iadd, 149, 0), (149, .aload_n 0, 150, 0), (150, .getfield 35, 153, 395), (153, .iload 5, 155, 0), (155, .iaload, 156, 0), (156, .iastore, 157, 0), (157, .iinc 5 1, 160, 1), (160, .goto (-29), 163, 131), (163, .aload_n 0, 164, 0), (164, .bipush (-8), 166, 26), (166, .invokevirtual 66, 169, 106), (169, .ireturn, 170, 0), (170, .iload_n 2, 171, 0), (171, .bipush 15, 173, 19), (173, .if_icmp .ge 12, 176, 185), (176, .iload_n 3, 177, 0), (177, .iload 4, 179, 0), (179, .iconst 2, 180, 2), (180, .iload_n 2, 181, 0), (181, .imul, 182, 0), (182, .ishl, 183, 0), (183, .ior, 184, 0), (184, .istore_n 3, 185, 0), (185, .iinc 2 1, 188, 1), (188, .goto (-121), 191, 67), (191, .aload_n 0, 192, 0), (192, .iload_n 3, 193, 0), (193, .putfield 155, 196, 391), (196, .iload_n 2, 197, 0), (197, .ireturn, 198, 0)])
set_option maxRecDepth 100000 in
theorem omX8_least : mOK mX8_least := ⟨by decide +kernel, List.mem_of_getElem? (i := 879) rfl⟩
def mX8_led : mt_T := (mn 139, prog_10_method_36_code, 1, some .int, 8, [(0, .aload_n 0, 1, 0), (1, .getfield 155, 4, 391), (4, .ireturn, 5, 0)])
set_option maxRecDepth 100000 in
theorem omX8_led : mOK mX8_led := ⟨by decide +kernel, List.mem_of_getElem? (i := 887) rfl⟩
def mX8_sorts : mt_T := (mn 140, prog_10_method_37_code, 3, none, 8, [(0, .iconst 0, 1, 0), (1, .istore_n 1, 2, 0), (2, .iload_n 1, 3, 0), (3, .iconst 4, 4, 4), (4, .if_icmp .ge 65, 7, 69), (7, .iload_n 1, 8, 0), (8, .istore_n 2, 9, 0), (9, .iload_n 2, 10, 0), (10, .ifCond .le 41, 13, 51), (13, .aload_n 0, 14, 0), (14, .getfield 38, 17, 396), (17, .iload_n 2, 18, 0), (18, .iconst 1, 19, 1), (19, .isub, 20, 0), (20, .laload, 21, 0), (21, .aload_n 0, 22, 0), (22, .getfield 31, 25, 394), (25, .iload_n 1, 26, 0), (26, .laload, 27, 0), (27, .lcmp, 28, 0), (28, .ifCond .le 23, 31, 51), (31, .aload_n 0, 32, 0), (32, .getfield 38, 35, 396), (35, .iload_n 2, 36, 0), (36, .aload_n 0, 37, 0), (37, .getfield 38, 40, 396), (40, .iload_n 2, 41, 0), (41, .iconst 1, 42, 1), (42, .isub, 43, 0), (43, .laload, 44, 0), (44, .lastore, 45, 0), (45, .iinc 2 (-1), 48, 6), (48, .goto (-39), 51, 9), (51, .aload_n 0, 52, 0), (52, .getfield 38, 55, 396), (55, .iload_n 2, 56, 0), (56, .aload_n 0, 57, 0), (57, .getfield 31, 60, 394), (60, .iload_n 1, 61, 0), (61, .laload, 62, 0), (62, .lastore, 63, 0), (63, .iinc 1 1, 66, 1), (66, .goto (-64), 69, 2), (69, .return_, 70, 0)])
set_option maxRecDepth 100000 in
theorem omX8_sorts : mOK mX8_sorts := ⟨by decide +kernel, List.mem_of_getElem? (i := 903) rfl⟩
def mX8_same : mt_T := (mn 141, prog_10_method_38_code, 11, some .int, 8, [(0, .aload_n 0, 1, 0), (1, .iload_n 1, 2, 0), (2, .invokevirtual 128, 5, 125), (5, .ifCond .eq 11, 8, 16), (8, .aload_n 0, 9, 0), (9, .iload_n 2, 10, 0), (10, .invokevirtual 128, 13, 125), (13, .ifCond .ne 10, 16, 23), (16, .aload_n 0, 17, 0), (17, .bipush (-3), 19, 29), (19, .invokevirtual 66, 22, 106), (22, .ireturn, 23, 0), (23, .aload_n 0, 24, 0), (24, .iload_n 1, 25, 0), (25, .invokevirtual 136, 28, 128), (28, .lconst 0, 29, 0), (29, .lcmp, 30, 0), (30, .ifCond .le 13, 33, 43), (33, .aload_n 0, 34, 0), (34, .iload_n 2, 35, 0), (35, .invokevirtual 136, 38, 128), (38, .lconst 0, 39, 0), (39, .lcmp, 40, 0), (40, .ifCond .gt 10, 43, 50), (43, .aload_n 0, 44, 0), (44, .bipush (-7), 46, 25), (46, .invokevirtual 66, 49, 106), (49, .ireturn, 50, 0), (50, .aload_n 0, 51, 0), (51, .iload_n 1, 52, 0), (52, .invokevirtual 158, 55, 137), (55, .aload_n 0, 56, 0), (56, .invokevirtual 161, 59, 140), (59, .aload_n 0, 60, 0), (60, .getfield 38, 63, 396), (63, .iconst 0, 64, 0), (64, .laload, 65, 0), (65, .lstore_n 3, 66, 0), (66, .aload_n 0, 67, 0), (67, .getfield 38, 70, 396), (70, .iconst 1, 71, 1), (71, .laload, 72, 0), (72, .lstore 5, 74, 0), (74, .aload_n 0, 75, 0), (75, .getfield 38, 78, 396), (78, .iconst 2, 79, 2), (79, .laload, 80, 0), (80, .lstore 7, 82, 0), (82, .aload_n 0, 83, 0), (83, .getfield 38, 86, 396), (86, .iconst 3, 87, 3), (87, .laload, 88, 0), (88, .lstore 9, 90, 0), (90, .aload_n 0, 91, 0), (91, .iload_n 2, 92, 0), (92, .invokevirtual 158, 95, 137), (95, .aload_n 0, 96, 0), (96, .invokevirtual 161, 99, 140), (99, .lload_n 3, 100, 0), (100, .aload_n 0, 101, 0), (101, .getfield 38, 104, 396), (104, .iconst 0, 105, 0), (105, .laload, 106, 0), (106, .lcmp, 107, 0), (107, .ifCond .ne 43, 110, 150), (110, .lload 5, 112, 0), (112, .aload_n 0, 113, 0), (113, .getfield 38, 116, 396), (116, .iconst 1, 117, 1), (117, .laload, 118, 0), (118, .lcmp, 119, 0), (119, .ifCond .ne 31, 122, 150), (122, .lload 7, 124, 0), (124, .aload_n 0, 125, 0), (125, .getfield 38, 128, 396), (128, .iconst 2, 129, 2), (129, .laload, 130, 0), (130, .lcmp, 131, 0), (131, .ifCond .ne 19, 134, 150), (134, .lload 9, 136, 0), (136, .aload_n 0, 137, 0), (137, .getfield 38, 140, 396), (140, .iconst 3, 141, 3), (141, .laload, 142, 0), (142, .lcmp, 143, 0), (143, .ifCond .ne 7, 146, 150), (146, .iconst 1, 147, 1), (147, .goto 4, 150, 151), (150, .iconst 0, 151, 0), (151, .ireturn, 152, 0)])
set_option maxRecDepth 100000 in
theorem omX8_same : mOK mX8_same := ⟨by decide +kernel, List.mem_of_getElem? (i := 891) rfl⟩
def mX8_isShut : mt_T := (mn 142, prog_10_method_39_code, 3, some .boolean, 8, [(0, .iconst 0, 1, 0), (1, .istore_n 1, 2, 0), (2, .iconst 0, 3, 0), (3, .istore_n 2, 4, 0), (4, .iload_n 2, 5, 0), (5, .iconst 4, 6, 4), (6, .if_icmp .ge 30, 9, 36), (9, .iload_n 1, 10, 0), (10, .ifCond .ne 14, 13, 24), (13, .aload_n 0, 14, 0), (14, .getfield 31, 17, 394), (17, .iload_n 2, 18, 0), (18, .laload, 19, 0), (19, .lconst 0, 20, 0), (20, .lcmp, 21, 0), (21, .ifCond .ge 7, 24, 28), (24, .iconst 1, 25, 1), (25, .goto 4, 28, 29), (28, .iconst 0, 29, 0), (29, .istore_n 1, 30, 0), (30, .iinc 2 1, 33, 1), (33, .goto (-29), 36, 4), (36, .iload_n 1, 37, 0), (37, .ireturn, 38, 0)])
set_option maxRecDepth 100000 in
theorem omX8_isShut : mOK mX8_isShut := ⟨by decide +kernel, List.mem_of_getElem? (i := 911) rfl⟩
def mX8_shut : mt_T := (mn 143, prog_10_method_40_code, 2, some .int, 8, [(0, .aload_n 0, 1, 0), (1, .iload_n 1, 2, 0), (2, .invokevirtual 128, 5, 125), (5, .ifCond .ne 10, 8, 15), (8, .aload_n 0, 9, 0), (9, .bipush (-3), 11, 29), (11, .invokevirtual 66, 14, 106), (14, .ireturn, 15, 0), (15, .aload_n 0, 16, 0), (16, .iload_n 1, 17, 0), (17, .invokevirtual 136, 20, 128), (20, .lconst 0, 21, 0), (21, .lcmp, 22, 0), (22, .ifCond .gt 10, 25, 32), (25, .aload_n 0, 26, 0), (26, .bipush (-7), 28, 25), (28, .invokevirtual 66, 31, 106), (31, .ireturn, 32, 0), (32, .aload_n 0, 33, 0), (33, .iload_n 1, 34, 0), (34, .invokevirtual 158, 37, 137), (37, .aload_n 0, 38, 0), (38, .invokevirtual 164, 41, 142), (41, .ifCond .eq 7, 44, 48), (44, .iconst 1, 45, 1), (45, .goto 4, 48, 49), (48, .iconst 0, 49, 0), (49, .ireturn, 50, 0)])
set_option maxRecDepth 100000 in
theorem omX8_shut : mOK mX8_shut := ⟨by decide +kernel, List.mem_of_getElem? (i := 907) rfl⟩
def mX8_whyNot : mt_T := (mn 144, prog_10_method_41_code, 5, some .int, 8, [(0, .aload_n 0, 1, 0), (1, .iload_n 1, 2, 0), (2, .invokevirtual 128, 5, 125), (5, .ifCond .ne 6, 8, 11), (8, .bipush (-3), 10, 29), (10, .ireturn, 11, 0), (11, .aload_n 0, 12, 0), (12, .iload_n 1, 13, 0), (13, .invokevirtual 136, 16, 128), (16, .lconst 0, 17, 0), (17, .lcmp, 18, 0), (18, .ifCond .gt 6, 21, 24), (21, .bipush (-7), 23, 25), (23, .ireturn, 24, 0), (24, .aload_n 0, 25, 0), (25, .iload_n 1, 26, 0), (26, .invokevirtual 158, 29, 137), (29, .aload_n 0, 30, 0), (30, .invokevirtual 164, 33, 142), (33, .ifCond .eq 20, 36, 53), (36, .iload_n 2, 37, 0), (37, .i2l, 38, 0), (38, .iload_n 3, 39, 0), (39, .i2l, 40, 0), (40, .iload 4, 42, 0), (42, .i2l, 43, 0), (43, .invokestatic 77, 46, 105), (46, .ifCond .eq 7, 49, 53), (49, .iconst 0, 50, 0), (50, .goto 5, 53, 55), (53, .bipush (-7), 55, 25), (55, .ireturn, 56, 0)])
set_option maxRecDepth 100000 in
theorem omX8_whyNot : mOK mX8_whyNot := ⟨by decide +kernel, List.mem_of_getElem? (i := 919) rfl⟩
def mX8_counts : mt_T := (mn 145, prog_10_method_42_code, 5, none, 8, [(0, .aload_n 0, 1, 0), (1, .dup, 2, 0), (2, .getfield 168, 5, 397), (5, .iconst 1, 6, 1), (6, .iadd, 7, 0), (7, .putfield 168, 10, 397), (10, .aload_n 0, 11, 0), (11, .dup, 12, 0), (12, .getfield 171, 15, 401), (15, .lload_n 1, 16, 0), (16, .ladd, 17, 0), (17, .putfield 171, 20, 401), (20, .aload_n 0, 21, 0), (21, .dup, 22, 0), (22, .getfield 175, 25, 398), (25, .lload_n 1, 26, 0), (26, .iload_n 3, 27, 0), (27, .i2l, 28, 0), (28, .lcmp, 29, 0), (29, .ifCond .ne 7, 32, 36), (32, .iconst 1, 33, 1), (33, .goto 4, 36, 37), (36, .iconst 0, 37, 0), (37, .iadd, 38, 0), (38, .putfield 175, 41, 398), (41, .aload_n 0, 42, 0), (42, .dup, 43, 0), (43, .getfield 178, 46, 399), (46, .iconst 1, 47, 1), (47, .lload_n 1, 48, 0), (48, .ldc2_w 181, 51, 15), (51, .lrem, 52, 0), (52, .ldc2_w 181, 55, 15), (55, .ladd, 56, 0), (56, .ldc2_w 181, 59, 15), (59, .lrem, 60, 0), (60, .l2i, 61, 0), (61, .ishl, 62, 0), (62, .ior, 63, 0), (63, .putfield 178, 66, 399), (66, .lload_n 1, 67, 0), (67, .iload 4, 69, 0), (69, .i2l, 70, 0), (70, .lcmp, 71, 0), (71, .ifCond .le 31, 74, 102), (74, .aload_n 0, 75, 0), (75, .getfield 183, 78, 404), (78, .ifCond .eq 13, 81, 91), (81, .lload_n 1, 82, 0), (82, .aload_n 0, 83, 0), (83, .getfield 187, 86, 400), (86, .i2l, 87, 0), (87, .lcmp, 88, 0), (88, .ifCond .ge 14, 91, 102), (91, .aload_n 0, 92, 0), (92, .lload_n 1, 93, 0), (93, .l2i, 94, 0), (94, .putfield 187, 97, 400), (97, .aload_n 0, 98, 0), (98, .iconst 1, 99, 1), (99, .putfield 183, 102, 404), (102, .return_, 103, 0)])
set_option maxRecDepth 100000 in
theorem omX8_counts : mOK mX8_counts := ⟨by decide +kernel, List.mem_of_getElem? (i := 927) rfl⟩
def mX8_goesThrough : mt_T := (mn 146, prog_10_method_43_code, 7, none, 8, [(0, .aload_n 0, 1, 0), (1, .iconst 0, 2, 0), (2, .putfield 168, 5, 397), (5, .aload_n 0, 6, 0), (6, .iconst 0, 7, 0), (7, .putfield 175, 10, 398), (10, .aload_n 0, 11, 0), (11, .iconst 0, 12, 0), (12, .putfield 178, 15, 399), (15, .aload_n 0, 16, 0), (16, .lconst 0, 17, 0), (17, .putfield 171, 20, 401), (20, .aload_n 0, 21, 0), (21, .iconst 0, 22, 0), (22, .putfield 183, 25, 404), (25, .iconst 0, 26, 0), (26, .istore 5, 28, 0), (28, .iload 5, 30, 0), (30, .iconst 4, 31, 4), (31, .if_icmp .ge 17, 34, 48), (34, .aload_n 0, 35, 0), (35, .getfield 41, 38, 402), (38, .iload 5, 40, 0), (40, .iconst 0, 41, 0), (41, .iastore, 42, 0), (42, .iinc 5 1, 45, 1), (45, .goto (-17), 48, 28), (48, .iconst 0, 49, 0), (49, .istore 5, 51, 0), (51, .iload 5, 53, 0), (53, .iconst 4, 54, 4), (54, .if_icmp .ge 75, 57, 129), (57, .aload_n 0, 58, 0), (58, .getfield 31, 61, 394), (61, .iload 5, 63, 0), (63, .laload, 64, 0), (64, .lload_n 1, 65, 0), (65, .lcmp, 66, 0), (66, .ifCond .le 6, 69, 72), (69, .goto 54, 72, 123), (72, .aload_n 0, 73, 0), (73, .aload_n 0, 74, 0), (74, .getfield 31, 77, 394), (77, .iload 5, 79, 0), (79, .laload, 80, 0), (80, .iload_n 3, 81, 0), (81, .iload 4, 83, 0), (83, .invokevirtual 190, 86, 145), (86, .iconst 0, 87, 0), (87, .istore 6, 89, 0), (89, .iload 6, 91, 0), (91, .iconst 4, 92, 4), (92, .if_icmp .ge 31, 95, 123), (95, .aload_n 0, 96, 0), (96, .getfield 41, 99, 402), (99, .iload 6, 101, 0), (101, .dup2, 102, 0), (102, .iaload, 103, 0), (103, .iload 6, 105, 0), (105, .iload 5, 107, 0), (107, .if_icmp .eq 7, 110, 114), (110, .iconst 1, 111, 1), (111, .goto 4, 114, 115), (114, .iconst 0, 115, 0), (115, .iadd, 116, 0), (116, .iastore, 117, 0), (117, .iinc 6 1, 120, 1), (120, .goto (-31), 123, 89), (123, .iinc 5 1, 126, 1), (126, .goto (-75), 129, 51), (129, .iconst 0, 130, 0), (130, .istore 5, 132, 0), (132, .iconst 0, 133, 0), (133, .istore 6, 135, 0), (135, .iload 6, 137, 0), (137, .iconst 4, 138, 4), (138, .if_icmp .ne 33, 141, 171), (141, .iload 5, 143, 0), (143, .ifCond .ne 4, 146, 147), (146, .return_, 147, 0), (147, .iinc 5 (-1), 150, 6), (150, .aload_n 0, 151, 0), (151, .getfield 44, 154, 403), (154, .iload 5, 156, 0), (156, .iaload, 157, 0), (157, .istore 6, 159, 0), (159, .aload_n 0, 160, 0), (160, .iload 6, 162, 0), (162, .invokevirtual 151, 165, 136), (165, .iinc 6 1, 168, 1), (168, .goto (-33), 171, 135), (171, .iload 5, 173, 0), (173, .ifCond .le 17, 176, 190), (176, .aload_n 0, 177, 0), (177, .getfield 44, 180, 403), (180, .iload 5, 182, 0), (182, .iconst 1, 183, 1), (183, .isub, 184, 0), (184, .iaload, 185, 0), (185, .iload 6, 187, 0), (187, .if_icmp .eq 55, 190, 242), (190, .ldc2_w 95, 193, 4), (193, .aload_n 0, 194, 0), (194, .getfield 31, 197, 394), (197, .iconst 0, 198, 0), (198, .laload, 199, 0), (199, .aload_n 0, 200, 0), (200, .getfield 31, 203, 394), (203, .iconst 1, 204, 1), (204, .laload, 205, 0), (205, .ladd, 206, 0), (206, .aload_n 0, 207, 0), (207, .getfield 31, 210, 394), (210, .iconst 2, 211, 2), (211, .laload, 212, 0), (212, .ladd, 213, 0), (213, .aload_n 0, 214, 0), (214, .getfield 31, 217, 394), (217, .iconst 3, 218, 3), (218, .laload, 219, 0), (219, .ladd, 220, 0), (220, .aload_n 0, 221, 0), (221, .getfield 31, 224, 394), (224, .iload 6, 226, 0), (226, .laload, 227, 0), (227, .lsub, 228, 0), (228, .lmul, 229, 0), (229, .aload_n 0, 230, 0), (230, .getfield 31, 233, 394), (233, .iload 6, 235, 0), (235, .laload, 236, 0), (236, .lsub, 237, 0), (237, .lload_n 1, 238, 0), (238, .lcmp, 239, 0), (239, .ifCond .le 9, 242, 248), (242, .iinc 6 1, 245, 1), (245, .goto (-110), 248, 135), (248, .aload_n 0, 249, 0), (249, .iload 6, 251, 0), (251, .invokevirtual 151, 254, 136), (254, .aload_n 0, 255, 0), (255, .getfield 44, 258, 403), (258, .iload 5, 260, 0), (260, .iload 6, 262, 0), (262, .iastore, 263, 0), (263, .iinc 5 1, 266, 1), (266, .aload_n 0, 267, 0), (267, .aload_n 0, 268, 0), (268, .getfield 31, 271, 394), (271, .iload 6, 273, 0), (273, .laload, 274, 0), (274, .iload_n 3, 275, 0), (275, .iload 4, 277, 0), (277, .invokevirtual 190, 280, 145), (280, .aload_n 0, 281, 0), (281, .iload 5, 283, 0), (283, .invokevirtual 194, 286, 147), (286, .iconst 0, 287, 0), (287, .istore 6, 289, 0), (289, .goto (-154), 292, 135)])
set_option maxRecDepth 100000 in
theorem omX8_goesThrough : mOK mX8_goesThrough := ⟨by decide +kernel, List.mem_of_getElem? (i := 923) rfl⟩
def mX8_meets : mt_T := (mn 147, prog_10_method_44_code, 5, none, 8, [(0, .iconst 0, 1, 0), (1, .istore_n 2, 2, 0), (2, .iload_n 2, 3, 0), (3, .iconst 4, 4, 4), (4, .if_icmp .ge 65, 7, 69), (7, .iconst 1, 8, 1), (8, .istore_n 3, 9, 0), (9, .iconst 0, 10, 0), (10, .istore 4, 12, 0), (12, .iload 4, 14, 0), (14, .iload_n 1, 15, 0), (15, .if_icmp .ge 30, 18, 45), (18, .iload_n 3, 19, 0), (19, .ifCond .eq 18, 22, 37), (22, .aload_n 0, 23, 0), (23, .getfield 44, 26, 403), (26, .iload 4, 28, 0), (28, .iaload, 29, 0), (29, .iload_n 2, 30, 0), (30, .if_icmp .eq 7, 33, 37), (33, .iconst 1, 34, 1), (34, .goto 4, 37, 38), (37, .iconst 0, 38, 0), (38, .istore_n 3, 39, 0), (39, .iinc 4 1, 42, 1), (42, .goto (-30), 45, 12), (45, .aload_n 0, 46, 0), (46, .getfield 41, 49, 402), (49, .iload_n 2, 50, 0), (50, .dup2, 51, 0), (51, .iaload, 52, 0), (52, .iload_n 3, 53, 0), (53, .ifCond .eq 7, 56, 60), (56, .iconst 1, 57, 1), (57, .goto 4, 60, 61), (60, .iconst 0, 61, 0), (61, .iadd, 62, 0), (62, .iastore, 63, 0), (63, .iinc 2 1, 66, 1), (66, .goto (-64), 69, 2), (69, .return_, 70, 0)])
set_option maxRecDepth 100000 in
theorem omX8_meets : mOK mX8_meets := ⟨by decide +kernel, List.mem_of_getElem? (i := 932) rfl⟩
def mX8_count : mt_T := (mn 148, prog_10_method_45_code, 4, some .int, 8, [(0, .aload_n 0, 1, 0), (1, .iload_n 1, 2, 0), (2, .iload_n 2, 3, 0), (3, .iconst 0, 4, 0), (4, .sipush 300, 7, 13), (7, .invokevirtual 197, 10, 144), (10, .istore_n 3, 11, 0), (11, .iload_n 3, 12, 0), (12, .ifCond .eq 9, 15, 21), (15, .aload_n 0, 16, 0), (16, .iload_n 3, 17, 0), (17, .invokevirtual 66, 20, 106), (20, .ireturn, 21, 0), (21, .aload_n 0, 22, 0), (22, .iload_n 2, 23, 0), (23, .i2l, 24, 0), (24, .iload_n 2, 25, 0), (25, .iconst 0, 26, 0), (26, .invokevirtual 201, 29, 146), (29, .aload_n 0, 30, 0), (30, .getfield 168, 33, 397), (33, .ireturn, 34, 0)])
set_option maxRecDepth 100000 in
theorem omX8_count : mOK mX8_count := ⟨by decide +kernel, List.mem_of_getElem? (i := 915) rfl⟩
def mX8_bends : mt_T := (mn 149, prog_10_method_46_code, 4, some .int, 8, [(0, .aload_n 0, 1, 0), (1, .iload_n 1, 2, 0), (2, .iload_n 2, 3, 0), (3, .iconst 0, 4, 0), (4, .sipush 300, 7, 13), (7, .invokevirtual 197, 10, 144), (10, .istore_n 3, 11, 0), (11, .iload_n 3, 12, 0), (12, .ifCond .eq 9, 15, 21), (15, .aload_n 0, 16, 0), (16, .iload_n 3, 17, 0), (17, .invokevirtual 66, 20, 106), (20, .ireturn, 21, 0), (21, .aload_n 0, 22, 0), (22, .iload_n 2, 23, 0), (23, .i2l, 24, 0), (24, .iload_n 2, 25, 0), (25, .iconst 0, 26, 0), (26, .invokevirtual 201, 29, 146), (29, .aload_n 0, 30, 0), (30, .getfield 175, 33, 398), (33, .ireturn, 34, 0)])
set_option maxRecDepth 100000 in
theorem omX8_bends : mOK mX8_bends := ⟨by decide +kernel, List.mem_of_getElem? (i := 936) rfl⟩
def mX8_next : mt_T := (mn 150, prog_10_method_47_code, 4, some .int, 8, [(0, .aload_n 0, 1, 0), (1, .iload_n 1, 2, 0), (2, .iload_n 2, 3, 0), (3, .ldc 204, 5, 9), (5, .sipush 299, 8, 36), (8, .invokevirtual 197, 11, 144), (11, .istore_n 3, 12, 0), (12, .iload_n 3, 13, 0), (13, .ifCond .eq 9, 16, 22), (16, .aload_n 0, 17, 0), (17, .iload_n 3, 18, 0), (18, .invokevirtual 66, 21, 106), (21, .ireturn, 22, 0), (22, .aload_n 0, 23, 0), (23, .ldc2_w 205, 26, 16), (26, .iconst 0, 27, 0), (27, .iload_n 2, 28, 0), (28, .invokevirtual 201, 31, 146), (31, .aload_n 0, 32, 0), (32, .getfield 183, 35, 404), (35, .ifCond .eq 10, 38, 45), (38, .aload_n 0, 39, 0), (39, .getfield 187, 42, 400), (42, .goto 4, 45, 46), (45, .iconst (-1), 46, 6), (46, .ireturn, 47, 0)])
set_option maxRecDepth 100000 in
theorem omX8_next : mOK mX8_next := ⟨by decide +kernel, List.mem_of_getElem? (i := 940) rfl⟩
def mX8_rests : mt_T := (mn 151, prog_10_method_48_code, 4, some .int, 8, [(0, .aload_n 0, 1, 0), (1, .iload_n 1, 2, 0), (2, .iload_n 2, 3, 0), (3, .iconst 0, 4, 0), (4, .sipush 300, 7, 13), (7, .invokevirtual 197, 10, 144), (10, .istore_n 3, 11, 0), (11, .iload_n 3, 12, 0), (12, .ifCond .eq 9, 15, 21), (15, .aload_n 0, 16, 0), (16, .iload_n 3, 17, 0), (17, .invokevirtual 66, 20, 106), (20, .ireturn, 21, 0), (21, .aload_n 0, 22, 0), (22, .iload_n 2, 23, 0), (23, .i2l, 24, 0), (24, .iload_n 2, 25, 0), (25, .iconst 0, 26, 0), (26, .invokevirtual 201, 29, 146), (29, .aload_n 0, 30, 0), (30, .getfield 178, 33, 399), (33, .ireturn, 34, 0)])
set_option maxRecDepth 100000 in
theorem omX8_rests : mOK mX8_rests := ⟨by decide +kernel, List.mem_of_getElem? (i := 946) rfl⟩
def mX8_sum : mt_T := (mn 152, prog_10_method_49_code, 5, some .long, 8, [(0, .aload_n 0, 1, 0), (1, .iload_n 1, 2, 0), (2, .iload_n 2, 3, 0), (3, .iconst 0, 4, 0), (4, .sipush 300, 7, 13), (7, .invokevirtual 197, 10, 144), (10, .istore 4, 12, 0), (12, .iload 4, 14, 0), (14, .ifCond .ne 19, 17, 33), (17, .iload_n 3, 18, 0), (18, .i2l, 19, 0), (19, .lconst 0, 20, 0), (20, .ldc2_w 207, 23, 17), (23, .invokestatic 77, 26, 105), (26, .ifCond .ne 7, 29, 33), (29, .bipush (-7), 31, 25), (31, .istore 4, 33, 0), (33, .iload 4, 35, 0), (35, .ifCond .eq 11, 38, 46), (38, .aload_n 0, 39, 0), (39, .iload 4, 41, 0), (41, .invokevirtual 101, 44, 107), (44, .i2l, 45, 0), (45, .lreturn, 46, 0), (46, .aload_n 0, 47, 0), (47, .iload_n 2, 48, 0), (48, .i2l, 49, 0), (49, .iload_n 2, 50, 0), (50, .iconst 0, 51, 0), (51, .invokevirtual 201, 54, 146), (54, .iload_n 3, 55, 0), (55, .ifCond .ne 10, 58, 65), (58, .aload_n 0, 59, 0), (59, .getfield 171, 62, 401), (62, .goto 12, 65, 74), (65, .aload_n 0, 66, 0), (66, .getfield 41, 69, 402), (69, .iload_n 3, 70, 0), (70, .iconst 1, 71, 1), (71, .isub, 72, 0), (72, .iaload, 73, 0), (73, .i2l, 74, 0), (74, .lreturn, 75, 0)])
set_option maxRecDepth 100000 in
theorem omX8_sum : mOK mX8_sum := ⟨by decide +kernel, List.mem_of_getElem? (i := 950) rfl⟩
def mX8_isFraction : mt_T := (mn 153, prog_10_method_50_code, 1, some .boolean, 8, [(0, .iload_n 0, 1, 0), (1, .ifCond .le 40, 4, 41), (4, .iload_n 0, 5, 0), (5, .bipush 100, 7, 11), (7, .irem, 8, 0), (8, .ifCond .le 33, 11, 41), (11, .iload_n 0, 12, 0), (12, .bipush 100, 14, 11), (14, .idiv, 15, 0), (15, .iload_n 0, 16, 0), (16, .bipush 100, 18, 11), (18, .irem, 19, 0), (19, .if_icmp .gt 22, 22, 41), (22, .iload_n 0, 23, 0), (23, .bipush 100, 25, 11), (25, .irem, 26, 0), (26, .iload_n 0, 27, 0), (27, .bipush 100, 29, 11), (29, .idiv, 30, 0), (30, .invokestatic 91, 33, 112), (33, .iconst 1, 34, 1), (34, .if_icmp .ne 7, 37, 41), (37, .iconst 1, 38, 1), (38, .goto 4, 41, 42), (41, .iconst 0, 42, 0), (42, .ireturn, 43, 0)])
set_option maxRecDepth 100000 in
theorem omX8_isFraction : mOK mX8_isFraction := ⟨by decide +kernel, List.mem_of_getElem? (i := 958) rfl⟩
def mX8_determinant : mt_T := (mn 154, prog_10_method_51_code, 2, some .int, 8, [(0, .iload_n 0, 1, 0), (1, .bipush 100, 3, 11), (3, .idiv, 4, 0), (4, .iload_n 1, 5, 0), (5, .bipush 100, 7, 11), (7, .irem, 8, 0), (8, .imul, 9, 0), (9, .iload_n 1, 10, 0), (10, .bipush 100, 12, 11), (12, .idiv, 13, 0), (13, .iload_n 0, 14, 0), (14, .bipush 100, 16, 11), (16, .irem, 17, 0), (17, .imul, 18, 0), (18, .isub, 19, 0), (19, .ireturn, 20, 0)])
set_option maxRecDepth 100000 in
theorem omX8_determinant : mOK mX8_determinant := ⟨by decide +kernel, List.mem_of_getElem? (i := 961) rfl⟩
def mX8_near : mt_T := (mn 155, prog_10_method_52_code, 4, some .int, 8, [(0, .iload_n 1, 1, 0), (1, .invokestatic 209, 4, 153), (4, .ifCond .eq 10, 7, 14), (7, .iload_n 2, 8, 0), (8, .invokestatic 209, 11, 153), (11, .ifCond .ne 10, 14, 21), (14, .aload_n 0, 15, 0), (15, .bipush (-7), 17, 25), (17, .invokevirtual 66, 20, 106), (20, .ireturn, 21, 0), (21, .iload_n 1, 22, 0), (22, .iload_n 2, 23, 0), (23, .invokestatic 212, 26, 154), (26, .istore_n 3, 27, 0), (27, .iload_n 3, 28, 0), (28, .iconst 1, 29, 1), (29, .if_icmp .eq 8, 32, 37), (32, .iload_n 3, 33, 0), (33, .iconst (-1), 34, 6), (34, .if_icmp .ne 7, 37, 41), (37, .iconst 1, 38, 1), (38, .goto 4, 41, 42), (41, .iconst 0, 42, 0), (42, .ireturn, 43, 0)])
set_option maxRecDepth 100000 in
theorem omX8_near : mOK mX8_near := ⟨by decide +kernel, List.mem_of_getElem? (i := 955) rfl⟩
def mX8_between : mt_T := (mn 156, prog_10_method_53_code, 5, some .int, 8, [(0, .iload_n 1, 1, 0), (1, .invokestatic 209, 4, 153), (4, .ifCond .eq 10, 7, 14), (7, .iload_n 2, 8, 0), (8, .invokestatic 209, 11, 153), (11, .ifCond .ne 10, 14, 21), (14, .aload_n 0, 15, 0), (15, .bipush (-7), 17, 25), (17, .invokevirtual 66, 20, 106), (20, .ireturn, 21, 0), (21, .iload_n 1, 22, 0), (22, .iload_n 2, 23, 0), (23, .invokestatic 212, 26, 154), (26, .istore_n 3, 27, 0), (27, .iload_n 3, 28, 0), (28, .iconst 1, 29, 1), (29, .if_icmp .eq 15, 32, 44), (32, .iload_n 3, 33, 0), (33, .iconst (-1), 34, 6), (34, .if_icmp .eq 10, 37, 44), (37, .aload_n 0, 38, 0), (38, .bipush (-7), 40, 25), (40, .invokevirtual 66, 43, 106), (43, .ireturn, 44, 0), (44, .iload_n 1, 45, 0), (45, .bipush 100, 47, 11), (47, .irem, 48, 0), (48, .iload_n 2, 49, 0), (49, .bipush 100, 51, 11), (51, .irem, 52, 0), (52, .iadd, 53, 0), (53, .istore 4, 55, 0), (55, .iload 4, 57, 0), (57, .bipush 99, 59, 37), (59, .if_icmp .le 12, 62, 71), (62, .aload_n 0, 63, 0), (63, .bipush (-8), 65, 26), (65, .invokevirtual 66, 68, 106), (68, .goto 18, 71, 86), (71, .bipush 100, 73, 11), (73, .iload_n 1, 74, 0), (74, .bipush 100, 76, 11), (76, .idiv, 77, 0), (77, .iload_n 2, 78, 0), (78, .bipush 100, 80, 11), (80, .idiv, 81, 0), (81, .iadd, 82, 0), (82, .imul, 83, 0), (83, .iload 4, 85, 0), (85, .iadd, 86, 0), (86, .ireturn, 87, 0)])
set_option maxRecDepth 100000 in
theorem omX8_between : mOK mX8_between := ⟨by decide +kernel, List.mem_of_getElem? (i := 965) rfl⟩
def mX8_makesRow : mt_T := (mn 157, prog_10_method_54_code, 5, none, 8, [(0, .aload_n 0, 1, 0), (1, .iconst 0, 2, 0), (2, .putfield 215, 5, 408), (5, .iconst 1, 6, 1), (6, .istore_n 2, 7, 0), (7, .iload_n 2, 8, 0), (8, .iload_n 1, 9, 0), (9, .if_icmp .gt 111, 12, 120), (12, .iconst 0, 13, 0), (13, .istore_n 3, 14, 0), (14, .iload_n 3, 15, 0), (15, .iload_n 2, 16, 0), (16, .if_icmp .gt 98, 19, 114), (19, .iload_n 2, 20, 0), (20, .iload_n 3, 21, 0), (21, .invokestatic 91, 24, 112), (24, .iconst 1, 25, 1), (25, .if_icmp .eq 6, 28, 31), (28, .goto 80, 31, 108), (31, .aload_n 0, 32, 0), (32, .getfield 215, 35, 408), (35, .istore 4, 37, 0), (37, .iload 4, 39, 0), (39, .ifCond .le 46, 42, 85), (42, .aload_n 0, 43, 0), (43, .getfield 47, 46, 405), (46, .iload 4, 48, 0), (48, .iconst 1, 49, 1), (49, .isub, 50, 0), (50, .iaload, 51, 0), (51, .bipush 100, 53, 11), (53, .iload_n 3, 54, 0), (54, .imul, 55, 0), (55, .iload_n 2, 56, 0), (56, .iadd, 57, 0), (57, .invokestatic 212, 60, 154), (60, .ifCond .le 25, 63, 85), (63, .aload_n 0, 64, 0), (64, .getfield 47, 67, 405), (67, .iload 4, 69, 0), (69, .aload_n 0, 70, 0), (70, .getfield 47, 73, 405), (73, .iload 4, 75, 0), (75, .iconst 1, 76, 1), (76, .isub, 77, 0), (77, .iaload, 78, 0), (78, .iastore, 79, 0), (79, .iinc 4 (-1), 82, 6), (82, .goto (-45), 85, 37), (85, .aload_n 0, 86, 0), (86, .getfield 47, 89, 405), (89, .iload 4, 91, 0), (91, .bipush 100, 93, 11), (93, .iload_n 3, 94, 0), (94, .imul, 95, 0), (95, .iload_n 2, 96, 0), (96, .iadd, 97, 0), (97, .iastore, 98, 0), (98, .aload_n 0, 99, 0), (99, .dup, 100, 0), (100, .getfield 215, 103, 408), (103, .iconst 1, 104, 1), (104, .iadd, 105, 0), (105, .putfield 215, 108, 408), (108, .iinc 3 1, 111, 1), (111, .goto (-97), 114, 14), (114, .iinc 2 1, 117, 1), (117, .goto (-110), 120, 7), (120, .return_, 121, 0)])
set_option maxRecDepth 100000 in
theorem omX8_makesRow : mOK mX8_makesRow := ⟨by decide +kernel, List.mem_of_getElem? (i := 976) rfl⟩
def mX8_isRow : mt_T := (mn 158, prog_10_method_55_code, 1, some .boolean, 8, [(0, .iload_n 0, 1, 0), (1, .iconst 1, 2, 1), (2, .if_icmp .lt 13, 5, 15), (5, .iload_n 0, 6, 0), (6, .bipush 30, 8, 33), (8, .if_icmp .gt 7, 11, 15), (11, .iconst 1, 12, 1), (12, .goto 4, 15, 16), (15, .iconst 0, 16, 0), (16, .ireturn, 17, 0)])
set_option maxRecDepth 100000 in
theorem omX8_isRow : mOK mX8_isRow := ⟨by decide +kernel, List.mem_of_getElem? (i := 972) rfl⟩
def mX8_isOf : mt_T := (mn 159, prog_10_method_56_code, 3, some .boolean, 8, [(0, .iload_n 1, 1, 0), (1, .invokestatic 209, 4, 153), (4, .ifCond .eq 15, 7, 19), (7, .iload_n 1, 8, 0), (8, .bipush 100, 10, 11), (10, .irem, 11, 0), (11, .iload_n 2, 12, 0), (12, .if_icmp .gt 7, 15, 19), (15, .iconst 1, 16, 1), (16, .goto 4, 19, 20), (19, .iconst 0, 20, 0), (20, .ireturn, 21, 0)])
set_option maxRecDepth 100000 in
theorem omX8_isOf : mOK mX8_isOf := ⟨by decide +kernel, List.mem_of_getElem? (i := 988) rfl⟩
def mX8_fractions : mt_T := (mn 160, prog_10_method_57_code, 2, some .int, 8, [(0, .iload_n 1, 1, 0), (1, .invokestatic 218, 4, 158), (4, .ifCond .ne 10, 7, 14), (7, .aload_n 0, 8, 0), (8, .bipush (-7), 10, 25), (10, .invokevirtual 66, 13, 106), (13, .ireturn, 14, 0), (14, .aload_n 0, 15, 0), (15, .iload_n 1, 16, 0), (16, .invokevirtual 221, 19, 157), (19, .aload_n 0, 20, 0), (20, .getfield 215, 23, 408), (23, .ireturn, 24, 0)])
set_option maxRecDepth 100000 in
theorem omX8_fractions : mOK mX8_fractions := ⟨by decide +kernel, List.mem_of_getElem? (i := 969) rfl⟩
def mX8_fraction : mt_T := (mn 161, prog_10_method_58_code, 3, some .int, 8, [(0, .iload_n 1, 1, 0), (1, .invokestatic 218, 4, 158), (4, .ifCond .ne 10, 7, 14), (7, .aload_n 0, 8, 0), (8, .bipush (-7), 10, 25), (10, .invokevirtual 66, 13, 106), (13, .ireturn, 14, 0), (14, .aload_n 0, 15, 0), (15, .iload_n 1, 16, 0), (16, .invokevirtual 221, 19, 157), (19, .iload_n 2, 20, 0), (20, .i2l, 21, 0), (21, .lconst 0, 22, 0), (22, .aload_n 0, 23, 0), (23, .getfield 215, 26, 408), (26, .iconst 1, 27, 1), (27, .isub, 28, 0), (28, .i2l, 29, 0), (29, .invokestatic 77, 32, 105), (32, .ifCond .eq 12, 35, 44), (35, .aload_n 0, 36, 0), (36, .getfield 47, 39, 405), (39, .iload_n 2, 40, 0), (40, .iaload, 41, 0), (41, .goto 9, 44, 50), (44, .aload_n 0, 45, 0), (45, .bipush (-3), 47, 29), (47, .invokevirtual 66, 50, 106), (50, .ireturn, 51, 0)])
set_option maxRecDepth 100000 in
theorem omX8_fraction : mOK mX8_fraction := ⟨by decide +kernel, List.mem_of_getElem? (i := 980) rfl⟩
def mX8_placeOf : mt_T := (mn 162, prog_10_method_59_code, 3, some .int, 8, [(0, .iconst 0, 1, 0), (1, .istore_n 2, 2, 0), (2, .aload_n 0, 3, 0), (3, .getfield 47, 6, 405), (6, .iload_n 2, 7, 0), (7, .iaload, 8, 0), (8, .iload_n 1, 9, 0), (9, .if_icmp .eq 9, 12, 18), (12, .iinc 2 1, 15, 1), (15, .goto (-13), 18, 2), (18, .iload_n 2, 19, 0), (19, .ireturn, 20, 0)])
set_option maxRecDepth 100000 in
theorem omX8_placeOf : mOK mX8_placeOf := ⟨by decide +kernel, List.mem_of_getElem? (i := 992) rfl⟩
def mX8_beside : mt_T := (mn 163, prog_10_method_60_code, 5, some .int, 8, [(0, .iload_n 2, 1, 0), (1, .invokestatic 218, 4, 158), (4, .ifCond .eq 12, 7, 16), (7, .aload_n 0, 8, 0), (8, .iload_n 1, 9, 0), (9, .iload_n 2, 10, 0), (10, .invokevirtual 224, 13, 159), (13, .ifCond .ne 10, 16, 23), (16, .aload_n 0, 17, 0), (17, .bipush (-7), 19, 25), (19, .invokevirtual 66, 22, 106), (22, .ireturn, 23, 0), (23, .aload_n 0, 24, 0), (24, .iload_n 2, 25, 0), (25, .invokevirtual 221, 28, 157), (28, .aload_n 0, 29, 0), (29, .iload_n 1, 30, 0), (30, .invokevirtual 227, 33, 162), (33, .iload_n 3, 34, 0), (34, .ifCond .eq 7, 37, 41), (37, .iconst (-1), 38, 6), (38, .goto 4, 41, 42), (41, .iconst 1, 42, 1), (42, .iadd, 43, 0), (43, .istore 4, 45, 0), (45, .iload 4, 47, 0), (47, .i2l, 48, 0), (48, .lconst 0, 49, 0), (49, .aload_n 0, 50, 0), (50, .getfield 215, 53, 408), (53, .iconst 1, 54, 1), (54, .isub, 55, 0), (55, .i2l, 56, 0), (56, .invokestatic 77, 59, 105), (59, .ifCond .eq 13, 62, 72), (62, .aload_n 0, 63, 0), (63, .getfield 47, 66, 405), (66, .iload 4, 68, 0), (68, .iaload, 69, 0), (69, .goto 4, 72, 73), (72, .iconst (-1), 73, 6), (73, .ireturn, 74, 0)])
set_option maxRecDepth 100000 in
theorem omX8_beside : mOK mX8_beside := ⟨by decide +kernel, List.mem_of_getElem? (i := 984) rfl⟩
def mX8_areNear : mt_T := (mn 164, prog_10_method_61_code, 4, some .boolean, 8, [(0, .aload_n 0, 1, 0), (1, .getfield 47, 4, 405), (4, .iload_n 1, 5, 0), (5, .iaload, 6, 0), (6, .aload_n 0, 7, 0), (7, .getfield 47, 10, 405), (10, .iload_n 2, 11, 0), (11, .iaload, 12, 0), (12, .invokestatic 212, 15, 154), (15, .istore_n 3, 16, 0), (16, .iload_n 3, 17, 0), (17, .iconst 1, 18, 1), (18, .if_icmp .eq 8, 21, 26), (21, .iload_n 3, 22, 0), (22, .iconst (-1), 23, 6), (23, .if_icmp .ne 7, 26, 30), (26, .iconst 1, 27, 1), (27, .goto 4, 30, 31), (30, .iconst 0, 31, 0), (31, .ireturn, 32, 0)])
set_option maxRecDepth 100000 in
theorem omX8_areNear : mOK mX8_areNear := ⟨by decide +kernel, List.mem_of_getElem? (i := 1000) rfl⟩
def mX8_way : mt_T := (mn 165, prog_10_method_62_code, 9, some .int, 8, [(0, .iload_n 3, 1, 0), (1, .invokestatic 218, 4, 158), (4, .ifCond .eq 21, 7, 25), (7, .aload_n 0, 8, 0), (8, .iload_n 1, 9, 0), (9, .iload_n 3, 10, 0), (10, .invokevirtual 224, 13, 159), (13, .ifCond .eq 12, 16, 25), (16, .aload_n 0, 17, 0), (17, .iload_n 2, 18, 0), (18, .iload_n 3, 19, 0), (19, .invokevirtual 224, 22, 159), (22, .ifCond .ne 10, 25, 32), (25, .aload_n 0, 26, 0), (26, .bipush (-7), 28, 25), (28, .invokevirtual 66, 31, 106), (31, .ireturn, 32, 0), (32, .aload_n 0, 33, 0), (33, .iload_n 3, 34, 0), (34, .invokevirtual 221, 37, 157), (37, .aload_n 0, 38, 0), (38, .iload_n 2, 39, 0), (39, .invokevirtual 227, 42, 162), (42, .istore 4, 44, 0), (44, .iconst 0, 45, 0), (45, .istore 5, 47, 0), (47, .iload 5, 49, 0), (49, .aload_n 0, 50, 0), (50, .getfield 215, 53, 408), (53, .if_icmp .ge 30, 56, 83), (56, .aload_n 0, 57, 0), (57, .getfield 50, 60, 406), (60, .iload 5, 62, 0), (62, .iload 5, 64, 0), (64, .iload 4, 66, 0), (66, .if_icmp .ne 7, 69, 73), (69, .iconst 0, 70, 0), (70, .goto 6, 73, 76), (73, .sipush 1000, 76, 38), (76, .iastore, 77, 0), (77, .iinc 5 1, 80, 1), (80, .goto (-33), 83, 47), (83, .iconst 1, 84, 1), (84, .istore 5, 86, 0), (86, .iconst 0, 87, 0), (87, .istore 6, 89, 0), (89, .iload 5, 91, 0), (91, .ifCond .eq 101, 94, 192), (94, .iconst 0, 95, 0), (95, .istore 5, 97, 0), (97, .iconst 0, 98, 0), (98, .istore 7, 100, 0), (100, .iload 7, 102, 0), (102, .aload_n 0, 103, 0), (103, .getfield 215, 106, 408), (106, .if_icmp .ge 80, 109, 186), (109, .aload_n 0, 110, 0), (110, .getfield 50, 113, 406), (113, .iload 7, 115, 0), (115, .iaload, 116, 0), (116, .iload 6, 118, 0), (118, .if_icmp .eq 6, 121, 124), (121, .goto 59, 124, 180), (124, .iconst 1, 125, 1), (125, .istore 5, 127, 0), (127, .iconst 0, 128, 0), (128, .istore 8, 130, 0), (130, .iload 8, 132, 0), (132, .aload_n 0, 133, 0), (133, .getfield 215, 136, 408), (136, .if_icmp .ge 44, 139, 180), (139, .aload_n 0, 140, 0), (140, .getfield 50, 143, 406), (143, .iload 8, 145, 0), (145, .iaload, 146, 0), (146, .sipush 1000, 149, 38), (149, .if_icmp .ne 25, 152, 174), (152, .aload_n 0, 153, 0), (153, .iload 7, 155, 0), (155, .iload 8, 157, 0), (157, .invokevirtual 230, 160, 164), (160, .ifCond .eq 14, 163, 174), (163, .aload_n 0, 164, 0), (164, .getfield 50, 167, 406), (167, .iload 8, 169, 0), (169, .iload 6, 171, 0), (171, .iconst 1, 172, 1), (172, .iadd, 173, 0), (173, .iastore, 174, 0), (174, .iinc 8 1, 177, 1), (177, .goto (-47), 180, 130), (180, .iinc 7 1, 183, 1), (183, .goto (-83), 186, 100), (186, .iinc 6 1, 189, 1), (189, .goto (-100), 192, 89), (192, .aload_n 0, 193, 0), (193, .iload_n 1, 194, 0), (194, .invokevirtual 227, 197, 162), (197, .istore 6, 199, 0), (199, .aload_n 0, 200, 0), (200, .aload_n 0, 201, 0), (201, .getfield 50, 204, 406), (204, .iload 6, 206, 0), (206, .iaload, 207, 0), (207, .putfield 56, 210, 409), (210, .aload_n 0, 211, 0), (211, .getfield 53, 214, 407), (214, .iconst 0, 215, 0), (215, .iload_n 1, 216, 0), (216, .iastore, 217, 0), (217, .iconst 1, 218, 1), (218, .istore 7, 220, 0), (220, .iload 7, 222, 0), (222, .aload_n 0, 223, 0), (223, .getfield 56, 226, 409), (226, .if_icmp .gt 64, 229, 290), (229, .iconst 0, 230, 0), (230, .istore 8, 232, 0), (232, .aload_n 0, 233, 0), (233, .getfield 50, 236, 406), (236, .iload 8, 238, 0), (238, .iaload, 239, 0), (239, .aload_n 0, 240, 0), (240, .getfield 56, 243, 409), (243, .iload 7, 245, 0), (245, .isub, 246, 0), (246, .if_icmp .ne 14, 249, 260), (249, .aload_n 0, 250, 0), (250, .iload 6, 252, 0), (252, .iload 8, 254, 0), (254, .invokevirtual 230, 257, 164), (257, .ifCond .ne 9, 260, 266), (260, .iinc 8 1, 263, 1), (263, .goto (-31), 266, 232), (266, .iload 8, 268, 0), (268, .istore 6, 270, 0), (270, .aload_n 0, 271, 0), (271, .getfield 53, 274, 407), (274, .iload 7, 276, 0), (276, .aload_n 0, 277, 0), (277, .getfield 47, 280, 405), (280, .iload 6, 282, 0), (282, .iaload, 283, 0), (283, .iastore, 284, 0), (284, .iinc 7 1, 287, 1), (287, .goto (-67), 290, 220), (290, .aload_n 0, 291, 0), (291, .getfield 56, 294, 409), (294, .ireturn, 295, 0)])
set_option maxRecDepth 100000 in
theorem omX8_way : mOK mX8_way := ⟨by decide +kernel, List.mem_of_getElem? (i := 996) rfl⟩
def mX8_step : mt_T := (mn 166, prog_10_method_63_code, 2, some .int, 8, [(0, .aload_n 0, 1, 0), (1, .getfield 56, 4, 409), (4, .ifCond .ge 10, 7, 14), (7, .aload_n 0, 8, 0), (8, .bipush (-2), 10, 28), (10, .invokevirtual 66, 13, 106), (13, .ireturn, 14, 0), (14, .iload_n 1, 15, 0), (15, .i2l, 16, 0), (16, .lconst 0, 17, 0), (17, .aload_n 0, 18, 0), (18, .getfield 56, 21, 409), (21, .i2l, 22, 0), (22, .invokestatic 77, 25, 105), (25, .ifCond .eq 12, 28, 37), (28, .aload_n 0, 29, 0), (29, .getfield 53, 32, 407), (32, .iload_n 1, 33, 0), (33, .iaload, 34, 0), (34, .goto 9, 37, 43), (37, .aload_n 0, 38, 0), (38, .bipush (-3), 40, 29), (40, .invokevirtual 66, 43, 106), (43, .ireturn, 44, 0)])
set_option maxRecDepth 100000 in
theorem omX8_step : mOK mX8_step := ⟨by decide +kernel, List.mem_of_getElem? (i := 1004) rfl⟩
def mX8_lay : mt_T := (mn 167, prog_10_method_64_code, 3, some .int, 8, [(0, .aload_n 0, 1, 0), (1, .iload_n 1, 2, 0), (2, .invokevirtual 128, 5, 125), (5, .ifCond .ne 10, 8, 15), (8, .aload_n 0, 9, 0), (9, .bipush (-3), 11, 29), (11, .invokevirtual 66, 14, 106), (14, .ireturn, 15, 0), (15, .aload_n 0, 16, 0), (16, .iconst 1, 17, 1), (17, .putfield 233, 20, 412), (20, .iconst 0, 21, 0), (21, .istore_n 2, 22, 0), (22, .iload_n 2, 23, 0), (23, .bipush 16, 25, 16), (25, .if_icmp .ge 26, 28, 51), (28, .aload_n 0, 29, 0), (29, .getfield 60, 32, 410), (32, .iload_n 2, 33, 0), (33, .aload_n 0, 34, 0), (34, .getfield 22, 37, 388), (37, .bipush 16, 39, 16), (39, .iload_n 1, 40, 0), (40, .imul, 41, 0), (41, .iload_n 2, 42, 0), (42, .iadd, 43, 0), (43, .iaload, 44, 0), (44, .iastore, 45, 0), (45, .iinc 2 1, 48, 1), (48, .goto (-26), 51, 22), (51, .bipush 16, 53, 16), (53, .ireturn, 54, 0)])
set_option maxRecDepth 100000 in
theorem omX8_lay : mOK mX8_lay := ⟨by decide +kernel, List.mem_of_getElem? (i := 1008) rfl⟩
def mX8_tear : mt_T := (mn 168, prog_10_method_65_code, 2, some .int, 8, [(0, .aload_n 0, 1, 0), (1, .getfield 233, 4, 412), (4, .ifCond .eq 7, 7, 11), (7, .iconst 1, 8, 1), (8, .goto 4, 11, 12), (11, .iconst 0, 12, 0), (12, .istore_n 1, 13, 0), (13, .aload_n 0, 14, 0), (14, .iconst 0, 15, 0), (15, .putfield 233, 18, 412), (18, .iload_n 1, 19, 0), (19, .ireturn, 20, 0)])
set_option maxRecDepth 100000 in
theorem omX8_tear : mOK mX8_tear := ⟨by decide +kernel, List.mem_of_getElem? (i := 1012) rfl⟩
def mX8_row : mt_T := (mn 169, prog_10_method_66_code, 2, some .int, 8, [(0, .aload_n 0, 1, 0), (1, .getfield 233, 4, 412), (4, .ifCond .ne 10, 7, 14), (7, .aload_n 0, 8, 0), (8, .bipush (-2), 10, 28), (10, .invokevirtual 101, 13, 107), (13, .ireturn, 14, 0), (14, .iload_n 1, 15, 0), (15, .i2l, 16, 0), (16, .lconst 0, 17, 0), (17, .ldc2_w 236, 20, 18), (20, .invokestatic 77, 23, 105), (23, .ifCond .eq 12, 26, 35), (26, .aload_n 0, 27, 0), (27, .getfield 60, 30, 410), (30, .iload_n 1, 31, 0), (31, .iaload, 32, 0), (32, .goto 9, 35, 41), (35, .aload_n 0, 36, 0), (36, .bipush (-3), 38, 29), (38, .invokevirtual 101, 41, 107), (41, .ireturn, 42, 0)])
set_option maxRecDepth 100000 in
theorem omX8_row : mOK mX8_row := ⟨by decide +kernel, List.mem_of_getElem? (i := 1016) rfl⟩
def mX8_copy : mt_T := (mn 170, prog_10_method_67_code, 5, some .int, 8, [(0, .aload_n 0, 1, 0), (1, .getfield 233, 4, 412), (4, .ifCond .ne 10, 7, 14), (7, .aload_n 0, 8, 0), (8, .bipush (-2), 10, 28), (10, .invokevirtual 66, 13, 106), (13, .ireturn, 14, 0), (14, .iload_n 3, 15, 0), (15, .ifCond .ge 10, 18, 25), (18, .aload_n 0, 19, 0), (19, .bipush (-4), 21, 31), (21, .invokevirtual 66, 24, 106), (24, .ireturn, 25, 0), (25, .iload_n 1, 26, 0), (26, .ifCond .lt 31, 29, 57), (29, .iload_n 2, 30, 0), (30, .ifCond .lt 27, 33, 57), (33, .iload_n 1, 34, 0), (34, .i2l, 35, 0), (35, .iload_n 3, 36, 0), (36, .i2l, 37, 0), (37, .ladd, 38, 0), (38, .ldc2_w 238, 41, 9), (41, .lcmp, 42, 0), (42, .ifCond .gt 15, 45, 57), (45, .iload_n 2, 46, 0), (46, .i2l, 47, 0), (47, .iload_n 3, 48, 0), (48, .i2l, 49, 0), (49, .ladd, 50, 0), (50, .ldc2_w 238, 53, 9), (53, .lcmp, 54, 0), (54, .ifCond .le 10, 57, 64), (57, .aload_n 0, 58, 0), (58, .bipush (-6), 60, 32), (60, .invokevirtual 66, 63, 106), (63, .ireturn, 64, 0), (64, .iconst 0, 65, 0), (65, .istore 4, 67, 0), (67, .iload 4, 69, 0), (69, .iload_n 3, 70, 0), (70, .if_icmp .ge 25, 73, 95), (73, .aload_n 0, 74, 0), (74, .getfield 63, 77, 411), (77, .iload 4, 79, 0), (79, .aload_n 0, 80, 0), (80, .getfield 60, 83, 410), (83, .iload_n 1, 84, 0), (84, .iload 4, 86, 0), (86, .iadd, 87, 0), (87, .iaload, 88, 0), (88, .iastore, 89, 0), (89, .iinc 4 1, 92, 1), (92, .goto (-25), 95, 67), (95, .iconst 0, 96, 0), (96, .istore 4, 98, 0), (98, .iload 4, 100, 0), (100, .iload_n 3, 101, 0), (101, .if_icmp .ge 25, 104, 126), (104, .aload_n 0, 105, 0), (105, .getfield 60, 108, 410), (108, .iload_n 2, 109, 0), (109, .iload 4, 111, 0), (111, .iadd, 112, 0), (112, .aload_n 0, 113, 0), (113, .getfield 63, 116, 411), (116, .iload 4, 118, 0), (118, .iaload, 119, 0), (119, .iastore, 120, 0), (120, .iinc 4 1, 123, 1), (123, .goto (-25), 126, 98), (126, .iload_n 3, 127, 0), (127, .ireturn, 128, 0)])
set_option maxRecDepth 100000 in
theorem omX8_copy : mOK mX8_copy := ⟨by decide +kernel, List.mem_of_getElem? (i := 1021) rfl⟩
def mX8_give : mt_T := (mn 171, prog_10_method_68_code, 2, some .int, 8, [(0, .aload_n 0, 1, 0), (1, .getfield 233, 4, 412), (4, .ifCond .ne 10, 7, 14), (7, .aload_n 0, 8, 0), (8, .bipush (-2), 10, 28), (10, .invokevirtual 66, 13, 106), (13, .ireturn, 14, 0), (14, .iconst 0, 15, 0), (15, .istore_n 1, 16, 0), (16, .iload_n 1, 17, 0), (17, .iconst 4, 18, 4), (18, .if_icmp .ge 64, 21, 82), (21, .aload_n 0, 22, 0), (22, .getfield 60, 25, 410), (25, .iconst 4, 26, 4), (26, .iload_n 1, 27, 0), (27, .imul, 28, 0), (28, .iaload, 29, 0), (29, .i2l, 30, 0), (30, .aload_n 0, 31, 0), (31, .getfield 60, 34, 410), (34, .iconst 4, 35, 4), (35, .iload_n 1, 36, 0), (36, .imul, 37, 0), (37, .iconst 1, 38, 1), (38, .iadd, 39, 0), (39, .iaload, 40, 0), (40, .i2l, 41, 0), (41, .aload_n 0, 42, 0), (42, .getfield 60, 45, 410), (45, .iconst 4, 46, 4), (46, .iload_n 1, 47, 0), (47, .imul, 48, 0), (48, .iconst 2, 49, 2), (49, .iadd, 50, 0), (50, .iaload, 51, 0), (51, .i2l, 52, 0), (52, .aload_n 0, 53, 0), (53, .getfield 60, 56, 410), (56, .iconst 4, 57, 4), (57, .iload_n 1, 58, 0), (58, .imul, 59, 0), (59, .iconst 3, 60, 3), (60, .iadd, 61, 0), (61, .iaload, 62, 0), (62, .i2l, 63, 0), (63, .invokestatic 81, 66, 109), (66, .ifCond .ne 10, 69, 76), (69, .aload_n 0, 70, 0), (70, .bipush (-7), 72, 25), (72, .invokevirtual 66, 75, 106), (75, .ireturn, 76, 0), (76, .iinc 1 1, 79, 1), (79, .goto (-63), 82, 16), (82, .iconst 0, 83, 0), (83, .istore_n 1, 84, 0), (84, .iload_n 1, 85, 0), (85, .bipush 16, 87, 16), (87, .if_icmp .ge 21, 90, 108), (90, .aload_n 0, 91, 0), (91, .getfield 28, 94, 393), (94, .iload_n 1, 95, 0), (95, .aload_n 0, 96, 0), (96, .getfield 60, 99, 410), (99, .iload_n 1, 100, 0), (100, .iaload, 101, 0), (101, .iastore, 102, 0), (102, .iinc 1 1, 105, 1), (105, .goto (-21), 108, 84), (108, .aload_n 0, 109, 0), (109, .invokevirtual 125, 112, 122), (112, .ireturn, 113, 0)])
set_option maxRecDepth 100000 in
theorem omX8_give : mOK mX8_give := ⟨by decide +kernel, List.mem_of_getElem? (i := 1026) rfl⟩
def mX8_status : mt_T := (mn 172, prog_10_method_69_code, 2, some .int, 8, [(0, .iload_n 1, 1, 0), (1, .i2l, 2, 0), (2, .ldc2_w 240, 5, 19), (5, .ldc2_w 108, 8, 5), (8, .invokestatic 77, 11, 105), (11, .ifCond .eq 13, 14, 24), (14, .aload_n 0, 15, 0), (15, .getfield 25, 18, 392), (18, .iload_n 1, 19, 0), (19, .ineg, 20, 0), (20, .iaload, 21, 0), (21, .goto 9, 24, 30), (24, .aload_n 0, 25, 0), (25, .bipush (-7), 27, 25), (27, .invokevirtual 66, 30, 106), (30, .ireturn, 31, 0)])
set_option maxRecDepth 100000 in
theorem omX8_status : mOK mX8_status := ⟨by decide +kernel, List.mem_of_getElem? (i := 1030) rfl⟩
end
section
def kisF : Nat → Option Nat := va_up (va_up (va_up (va_up (va_up (va_up (fun _ => none) 0 (some 7)) 1 (some 9)) 2 (some 11)) 3 (some 13)) 4 (some 15)) 5 (some 17)
def hp (A : Nat → Nat → Int32) (B : Nat → Nat → Int64) : hp_T := [.inr (5, [.ref 1, .ref 6, .ref 19, .ref 21, .ref 23, .ref 25, .ref 27, .ref 31, .ref 32, .int (A 0 9), .int (A 0 10), .int (A 0 11)]),
  .inr (3, [.ref 2, .ref 3, .ref 4, .ref 5, .int (A 1 4)]),
  .inl (80, .inl (A 2)),
  .inl (20, .inl (A 3)),
  .inl (20, .inl (A 4)),
  .inl (20, .inl (A 5)),
  .inl (6, .inr (.inr (.inr (.inr kisF)))),
  .inr (2, [.ref 8, .int (A 7 1)]),
  .inl (16, .inl (A 8)),
  .inr (2, [.ref 10, .int (A 9 1)]),
  .inl (16, .inl (A 10)),
  .inr (2, [.ref 12, .int (A 11 1)]),
  .inl (16, .inl (A 12)),
  .inr (2, [.ref 14, .int (A 13 1)]),
  .inl (16, .inl (A 14)),
  .inr (2, [.ref 16, .int (A 15 1)]),
  .inl (16, .inl (A 16)),
  .inr (2, [.ref 18, .int (A 17 1)]),
  .inl (16, .inl (A 18)),
  .inr (2, [.ref 20, .int (A 19 1)]),
  .inl (16, .inl (A 20)),
  .inr (2, [.ref 22, .int (A 21 1)]),
  .inl (16, .inl (A 22)),
  .inr (1, [.ref 24, .int (A 23 1), .int (A 23 2), .int (A 23 3), .int (A 23 4), .int (A 23 5), .int (A 23 6), .long (B 23 7), .int (A 23 8), .int (A 23 9)]),
  .inl (4, .inl (A 24)),
  .inr (0, [.ref 26, .int (A 25 1), .int (A 25 2)]),
  .inl (279, .inl (A 26)),
  .inr (4, [.ref 28, .ref 29, .ref 30, .int (A 27 3), .int (A 27 4)]),
  .inl (961, .inl (A 28)),
  .inl (279, .inl (A 29)),
  .inl (279, .inl (A 30)),
  .inl (16, .inl (A 31)),
  .inl (9, .inl (A 32)),
  .inr (6, [.ref 34, .ref 35, .ref 36, .ref 37, .ref 38, .int (A 33 5), .int (A 33 6), .int (A 33 7), .ref 39, .ref 40, .ref 41, .ref 42, .ref 43, .int (A 33 13), .int (A 33 14), .int (A 33 15), .int (A 33 16), .long (B 33 17), .ref 44, .ref 45, .int (A 33 20), .ref 46, .ref 47, .ref 48, .int (A 33 24), .int (A 33 25), .ref 49, .ref 50, .int (A 33 28)]),
  .inl (80, .inl (A 34)),
  .inl (20, .inl (A 35)),
  .inl (20, .inl (A 36)),
  .inl (20, .inl (A 37)),
  .inl (96, .inl (A 38)),
  .inl (9, .inl (A 39)),
  .inl (16, .inl (A 40)),
  .inl (4, .inr (.inl (B 41))),
  .inl (16, .inl (A 42)),
  .inl (4, .inr (.inl (B 43))),
  .inl (4, .inl (A 44)),
  .inl (400, .inl (A 45)),
  .inl (300, .inl (A 46)),
  .inl (300, .inl (A 47)),
  .inl (300, .inl (A 48)),
  .inl (16, .inl (A 49)),
  .inl (16, .inl (A 50))]
theorem kisF_at {k : Nat} (hk : k < 6) : kisF k = some (7 + 2 * k) := by
  rcases (show k = 0 ∨ k = 1 ∨ k = 2 ∨ k = 3 ∨ k = 4 ∨ k = 5 by omega) with rfl | rfl | rfl | rfl | rfl | rfl <;> rfl
theorem hpQ {A : Nat → Nat → Int32} {B : Nat → Nat → Int64} {k : Nat} (hk : k < 8) : (hp A B)[7 + 2 * k]? = some (.inr (2, [.ref (8 + 2 * k), .int (A (7 + 2 * k) 1)])) := by
  rcases (show k = 0 ∨ k = 1 ∨ k = 2 ∨ k = 3 ∨ k = 4 ∨ k = 5 ∨ k = 6 ∨ k = 7 by omega) with rfl | rfl | rfl | rfl | rfl | rfl | rfl | rfl <;> rfl
theorem hpR {A : Nat → Nat → Int32} {B : Nat → Nat → Int64} {k : Nat} (hk : k < 8) : (hp A B)[8 + 2 * k]? = some (.inl (16, .inl (A (8 + 2 * k)))) := by
  rcases (show k = 0 ∨ k = 1 ∨ k = 2 ∨ k = 3 ∨ k = 4 ∨ k = 5 ∨ k = 6 ∨ k = 7 by omega) with rfl | rfl | rfl | rfl | rfl | rfl | rfl | rfl <;> rfl
theorem hp_set {A : Nat → Nat → Int32} {B : Nat → Nat → Int64} {len : Nat} {f : Nat → Int32} (g : Nat → Int32) : ∀ {q : Nat}, (hp A B)[q]? = some (.inl (len, .inl f)) → (hp A B).set q (.inl (len, .inl g)) = hp (va_up A q g) B
  | 0, hq => by cases hq
  | 1, hq => by cases hq
  | 2, hq => by cases hq; rfl
  | 3, hq => by cases hq; rfl
  | 4, hq => by cases hq; rfl
  | 5, hq => by cases hq; rfl
  | 6, hq => by cases hq
  | 7, hq => by cases hq
  | 8, hq => by cases hq; rfl
  | 9, hq => by cases hq
  | 10, hq => by cases hq; rfl
  | 11, hq => by cases hq
  | 12, hq => by cases hq; rfl
  | 13, hq => by cases hq
  | 14, hq => by cases hq; rfl
  | 15, hq => by cases hq
  | 16, hq => by cases hq; rfl
  | 17, hq => by cases hq
  | 18, hq => by cases hq; rfl
  | 19, hq => by cases hq
  | 20, hq => by cases hq; rfl
  | 21, hq => by cases hq
  | 22, hq => by cases hq; rfl
  | 23, hq => by cases hq
  | 24, hq => by cases hq; rfl
  | 25, hq => by cases hq
  | 26, hq => by cases hq; rfl
  | 27, hq => by cases hq
  | 28, hq => by cases hq; rfl
  | 29, hq => by cases hq; rfl
  | 30, hq => by cases hq; rfl
  | 31, hq => by cases hq; rfl
  | 32, hq => by cases hq; rfl
  | 33, hq => by cases hq
  | 34, hq => by cases hq; rfl
  | 35, hq => by cases hq; rfl
  | 36, hq => by cases hq; rfl
  | 37, hq => by cases hq; rfl
  | 38, hq => by cases hq; rfl
  | 39, hq => by cases hq; rfl
  | 40, hq => by cases hq; rfl
  | 41, hq => by cases hq
  | 42, hq => by cases hq; rfl
  | 43, hq => by cases hq
  | 44, hq => by cases hq; rfl
  | 45, hq => by cases hq; rfl
  | 46, hq => by cases hq; rfl
  | 47, hq => by cases hq; rfl
  | 48, hq => by cases hq; rfl
  | 49, hq => by cases hq; rfl
  | 50, hq => by cases hq; rfl
  | n + 51, hq => by cases hq
theorem hp_setL {A : Nat → Nat → Int32} {B : Nat → Nat → Int64} {len : Nat} {f : Nat → Int64} (g : Nat → Int64) : ∀ {q : Nat}, (hp A B)[q]? = some (.inl (len, .inr (.inl f))) → (hp A B).set q (.inl (len, .inr (.inl g))) = hp A (va_up B q g)
  | 0, hq => by cases hq
  | 1, hq => by cases hq
  | 2, hq => by cases hq
  | 3, hq => by cases hq
  | 4, hq => by cases hq
  | 5, hq => by cases hq
  | 6, hq => by cases hq
  | 7, hq => by cases hq
  | 8, hq => by cases hq
  | 9, hq => by cases hq
  | 10, hq => by cases hq
  | 11, hq => by cases hq
  | 12, hq => by cases hq
  | 13, hq => by cases hq
  | 14, hq => by cases hq
  | 15, hq => by cases hq
  | 16, hq => by cases hq
  | 17, hq => by cases hq
  | 18, hq => by cases hq
  | 19, hq => by cases hq
  | 20, hq => by cases hq
  | 21, hq => by cases hq
  | 22, hq => by cases hq
  | 23, hq => by cases hq
  | 24, hq => by cases hq
  | 25, hq => by cases hq
  | 26, hq => by cases hq
  | 27, hq => by cases hq
  | 28, hq => by cases hq
  | 29, hq => by cases hq
  | 30, hq => by cases hq
  | 31, hq => by cases hq
  | 32, hq => by cases hq
  | 33, hq => by cases hq
  | 34, hq => by cases hq
  | 35, hq => by cases hq
  | 36, hq => by cases hq
  | 37, hq => by cases hq
  | 38, hq => by cases hq
  | 39, hq => by cases hq
  | 40, hq => by cases hq
  | 41, hq => by cases hq; rfl
  | 42, hq => by cases hq
  | 43, hq => by cases hq; rfl
  | 44, hq => by cases hq
  | 45, hq => by cases hq
  | 46, hq => by cases hq
  | 47, hq => by cases hq
  | 48, hq => by cases hq
  | 49, hq => by cases hq
  | 50, hq => by cases hq
  | n + 51, hq => by cases hq
theorem hp_get {A : Nat → Nat → Int32} {B : Nat → Nat → Int64} {len : Nat} {f : Nat → Int32} : ∀ {q : Nat}, (hp A B)[q]? = some (.inl (len, .inl f)) → f = A q
  | 0, hq => by cases hq
  | 1, hq => by cases hq
  | 2, hq => by cases hq; rfl
  | 3, hq => by cases hq; rfl
  | 4, hq => by cases hq; rfl
  | 5, hq => by cases hq; rfl
  | 6, hq => by cases hq
  | 7, hq => by cases hq
  | 8, hq => by cases hq; rfl
  | 9, hq => by cases hq
  | 10, hq => by cases hq; rfl
  | 11, hq => by cases hq
  | 12, hq => by cases hq; rfl
  | 13, hq => by cases hq
  | 14, hq => by cases hq; rfl
  | 15, hq => by cases hq
  | 16, hq => by cases hq; rfl
  | 17, hq => by cases hq
  | 18, hq => by cases hq; rfl
  | 19, hq => by cases hq
  | 20, hq => by cases hq; rfl
  | 21, hq => by cases hq
  | 22, hq => by cases hq; rfl
  | 23, hq => by cases hq
  | 24, hq => by cases hq; rfl
  | 25, hq => by cases hq
  | 26, hq => by cases hq; rfl
  | 27, hq => by cases hq
  | 28, hq => by cases hq; rfl
  | 29, hq => by cases hq; rfl
  | 30, hq => by cases hq; rfl
  | 31, hq => by cases hq; rfl
  | 32, hq => by cases hq; rfl
  | 33, hq => by cases hq
  | 34, hq => by cases hq; rfl
  | 35, hq => by cases hq; rfl
  | 36, hq => by cases hq; rfl
  | 37, hq => by cases hq; rfl
  | 38, hq => by cases hq; rfl
  | 39, hq => by cases hq; rfl
  | 40, hq => by cases hq; rfl
  | 41, hq => by cases hq
  | 42, hq => by cases hq; rfl
  | 43, hq => by cases hq
  | 44, hq => by cases hq; rfl
  | 45, hq => by cases hq; rfl
  | 46, hq => by cases hq; rfl
  | 47, hq => by cases hq; rfl
  | 48, hq => by cases hq; rfl
  | 49, hq => by cases hq; rfl
  | 50, hq => by cases hq; rfl
  | n + 51, hq => by cases hq
theorem hf_0 {A : Nat → Nat → Int32} {B : Nat → Nat → Int64} {v0 v : Int32} : ∀ {k : Nat}, ([.ref 1, .ref 6, .ref 19, .ref 21, .ref 23, .ref 25, .ref 27, .ref 31, .ref 32, .int (A 0 9), .int (A 0 10), .int (A 0 11)] : List Value)[k]? = some (.int v0) → (hp A B).set 0 (.inr (5, ([.ref 1, .ref 6, .ref 19, .ref 21, .ref 23, .ref 25, .ref 27, .ref 31, .ref 32, .int (A 0 9), .int (A 0 10), .int (A 0 11)] : List Value).set k (.int v))) = hp (va_up A 0 (upd (A 0) k v)) B
  | 0, hk => by cases hk
  | 1, hk => by cases hk
  | 2, hk => by cases hk
  | 3, hk => by cases hk
  | 4, hk => by cases hk
  | 5, hk => by cases hk
  | 6, hk => by cases hk
  | 7, hk => by cases hk
  | 8, hk => by cases hk
  | 9, hk => by cases hk; rfl
  | 10, hk => by cases hk; rfl
  | 11, hk => by cases hk; rfl
  | n + 12, hk => by cases hk
theorem hf_1 {A : Nat → Nat → Int32} {B : Nat → Nat → Int64} {v0 v : Int32} : ∀ {k : Nat}, ([.ref 2, .ref 3, .ref 4, .ref 5, .int (A 1 4)] : List Value)[k]? = some (.int v0) → (hp A B).set 1 (.inr (3, ([.ref 2, .ref 3, .ref 4, .ref 5, .int (A 1 4)] : List Value).set k (.int v))) = hp (va_up A 1 (upd (A 1) k v)) B
  | 0, hk => by cases hk
  | 1, hk => by cases hk
  | 2, hk => by cases hk
  | 3, hk => by cases hk
  | 4, hk => by cases hk; rfl
  | n + 5, hk => by cases hk
theorem hf_7 {A : Nat → Nat → Int32} {B : Nat → Nat → Int64} {v0 v : Int32} : ∀ {k : Nat}, ([.ref 8, .int (A 7 1)] : List Value)[k]? = some (.int v0) → (hp A B).set 7 (.inr (2, ([.ref 8, .int (A 7 1)] : List Value).set k (.int v))) = hp (va_up A 7 (upd (A 7) k v)) B
  | 0, hk => by cases hk
  | 1, hk => by cases hk; rfl
  | n + 2, hk => by cases hk
theorem hf_9 {A : Nat → Nat → Int32} {B : Nat → Nat → Int64} {v0 v : Int32} : ∀ {k : Nat}, ([.ref 10, .int (A 9 1)] : List Value)[k]? = some (.int v0) → (hp A B).set 9 (.inr (2, ([.ref 10, .int (A 9 1)] : List Value).set k (.int v))) = hp (va_up A 9 (upd (A 9) k v)) B
  | 0, hk => by cases hk
  | 1, hk => by cases hk; rfl
  | n + 2, hk => by cases hk
theorem hf_11 {A : Nat → Nat → Int32} {B : Nat → Nat → Int64} {v0 v : Int32} : ∀ {k : Nat}, ([.ref 12, .int (A 11 1)] : List Value)[k]? = some (.int v0) → (hp A B).set 11 (.inr (2, ([.ref 12, .int (A 11 1)] : List Value).set k (.int v))) = hp (va_up A 11 (upd (A 11) k v)) B
  | 0, hk => by cases hk
  | 1, hk => by cases hk; rfl
  | n + 2, hk => by cases hk
theorem hf_13 {A : Nat → Nat → Int32} {B : Nat → Nat → Int64} {v0 v : Int32} : ∀ {k : Nat}, ([.ref 14, .int (A 13 1)] : List Value)[k]? = some (.int v0) → (hp A B).set 13 (.inr (2, ([.ref 14, .int (A 13 1)] : List Value).set k (.int v))) = hp (va_up A 13 (upd (A 13) k v)) B
  | 0, hk => by cases hk
  | 1, hk => by cases hk; rfl
  | n + 2, hk => by cases hk
theorem hf_15 {A : Nat → Nat → Int32} {B : Nat → Nat → Int64} {v0 v : Int32} : ∀ {k : Nat}, ([.ref 16, .int (A 15 1)] : List Value)[k]? = some (.int v0) → (hp A B).set 15 (.inr (2, ([.ref 16, .int (A 15 1)] : List Value).set k (.int v))) = hp (va_up A 15 (upd (A 15) k v)) B
  | 0, hk => by cases hk
  | 1, hk => by cases hk; rfl
  | n + 2, hk => by cases hk
theorem hf_17 {A : Nat → Nat → Int32} {B : Nat → Nat → Int64} {v0 v : Int32} : ∀ {k : Nat}, ([.ref 18, .int (A 17 1)] : List Value)[k]? = some (.int v0) → (hp A B).set 17 (.inr (2, ([.ref 18, .int (A 17 1)] : List Value).set k (.int v))) = hp (va_up A 17 (upd (A 17) k v)) B
  | 0, hk => by cases hk
  | 1, hk => by cases hk; rfl
  | n + 2, hk => by cases hk
theorem hf_19 {A : Nat → Nat → Int32} {B : Nat → Nat → Int64} {v0 v : Int32} : ∀ {k : Nat}, ([.ref 20, .int (A 19 1)] : List Value)[k]? = some (.int v0) → (hp A B).set 19 (.inr (2, ([.ref 20, .int (A 19 1)] : List Value).set k (.int v))) = hp (va_up A 19 (upd (A 19) k v)) B
  | 0, hk => by cases hk
  | 1, hk => by cases hk; rfl
  | n + 2, hk => by cases hk
theorem hf_21 {A : Nat → Nat → Int32} {B : Nat → Nat → Int64} {v0 v : Int32} : ∀ {k : Nat}, ([.ref 22, .int (A 21 1)] : List Value)[k]? = some (.int v0) → (hp A B).set 21 (.inr (2, ([.ref 22, .int (A 21 1)] : List Value).set k (.int v))) = hp (va_up A 21 (upd (A 21) k v)) B
  | 0, hk => by cases hk
  | 1, hk => by cases hk; rfl
  | n + 2, hk => by cases hk
theorem hf_23 {A : Nat → Nat → Int32} {B : Nat → Nat → Int64} {v0 v : Int32} : ∀ {k : Nat}, ([.ref 24, .int (A 23 1), .int (A 23 2), .int (A 23 3), .int (A 23 4), .int (A 23 5), .int (A 23 6), .long (B 23 7), .int (A 23 8), .int (A 23 9)] : List Value)[k]? = some (.int v0) → (hp A B).set 23 (.inr (1, ([.ref 24, .int (A 23 1), .int (A 23 2), .int (A 23 3), .int (A 23 4), .int (A 23 5), .int (A 23 6), .long (B 23 7), .int (A 23 8), .int (A 23 9)] : List Value).set k (.int v))) = hp (va_up A 23 (upd (A 23) k v)) B
  | 0, hk => by cases hk
  | 1, hk => by cases hk; rfl
  | 2, hk => by cases hk; rfl
  | 3, hk => by cases hk; rfl
  | 4, hk => by cases hk; rfl
  | 5, hk => by cases hk; rfl
  | 6, hk => by cases hk; rfl
  | 7, hk => by cases hk
  | 8, hk => by cases hk; rfl
  | 9, hk => by cases hk; rfl
  | n + 10, hk => by cases hk
theorem hf_25 {A : Nat → Nat → Int32} {B : Nat → Nat → Int64} {v0 v : Int32} : ∀ {k : Nat}, ([.ref 26, .int (A 25 1), .int (A 25 2)] : List Value)[k]? = some (.int v0) → (hp A B).set 25 (.inr (0, ([.ref 26, .int (A 25 1), .int (A 25 2)] : List Value).set k (.int v))) = hp (va_up A 25 (upd (A 25) k v)) B
  | 0, hk => by cases hk
  | 1, hk => by cases hk; rfl
  | 2, hk => by cases hk; rfl
  | n + 3, hk => by cases hk
theorem hf_27 {A : Nat → Nat → Int32} {B : Nat → Nat → Int64} {v0 v : Int32} : ∀ {k : Nat}, ([.ref 28, .ref 29, .ref 30, .int (A 27 3), .int (A 27 4)] : List Value)[k]? = some (.int v0) → (hp A B).set 27 (.inr (4, ([.ref 28, .ref 29, .ref 30, .int (A 27 3), .int (A 27 4)] : List Value).set k (.int v))) = hp (va_up A 27 (upd (A 27) k v)) B
  | 0, hk => by cases hk
  | 1, hk => by cases hk
  | 2, hk => by cases hk
  | 3, hk => by cases hk; rfl
  | 4, hk => by cases hk; rfl
  | n + 5, hk => by cases hk
theorem hf_33 {A : Nat → Nat → Int32} {B : Nat → Nat → Int64} {v0 v : Int32} : ∀ {k : Nat}, ([.ref 34, .ref 35, .ref 36, .ref 37, .ref 38, .int (A 33 5), .int (A 33 6), .int (A 33 7), .ref 39, .ref 40, .ref 41, .ref 42, .ref 43, .int (A 33 13), .int (A 33 14), .int (A 33 15), .int (A 33 16), .long (B 33 17), .ref 44, .ref 45, .int (A 33 20), .ref 46, .ref 47, .ref 48, .int (A 33 24), .int (A 33 25), .ref 49, .ref 50, .int (A 33 28)] : List Value)[k]? = some (.int v0) → (hp A B).set 33 (.inr (6, ([.ref 34, .ref 35, .ref 36, .ref 37, .ref 38, .int (A 33 5), .int (A 33 6), .int (A 33 7), .ref 39, .ref 40, .ref 41, .ref 42, .ref 43, .int (A 33 13), .int (A 33 14), .int (A 33 15), .int (A 33 16), .long (B 33 17), .ref 44, .ref 45, .int (A 33 20), .ref 46, .ref 47, .ref 48, .int (A 33 24), .int (A 33 25), .ref 49, .ref 50, .int (A 33 28)] : List Value).set k (.int v))) = hp (va_up A 33 (upd (A 33) k v)) B
  | 0, hk => by cases hk
  | 1, hk => by cases hk
  | 2, hk => by cases hk
  | 3, hk => by cases hk
  | 4, hk => by cases hk
  | 5, hk => by cases hk; rfl
  | 6, hk => by cases hk; rfl
  | 7, hk => by cases hk; rfl
  | 8, hk => by cases hk
  | 9, hk => by cases hk
  | 10, hk => by cases hk
  | 11, hk => by cases hk
  | 12, hk => by cases hk
  | 13, hk => by cases hk; rfl
  | 14, hk => by cases hk; rfl
  | 15, hk => by cases hk; rfl
  | 16, hk => by cases hk; rfl
  | 17, hk => by cases hk
  | 18, hk => by cases hk
  | 19, hk => by cases hk
  | 20, hk => by cases hk; rfl
  | 21, hk => by cases hk
  | 22, hk => by cases hk
  | 23, hk => by cases hk
  | 24, hk => by cases hk; rfl
  | 25, hk => by cases hk; rfl
  | 26, hk => by cases hk
  | 27, hk => by cases hk
  | 28, hk => by cases hk; rfl
  | n + 29, hk => by cases hk
theorem hp_setF {A : Nat → Nat → Int32} {B : Nat → Nat → Int64} {ci k : Nat} {fs : List Value} {v0 v : Int32} : ∀ {q : Nat}, (hp A B)[q]? = some (.inr (ci, fs)) → fs[k]? = some (.int v0) → (hp A B).set q (.inr (ci, fs.set k (.int v))) = hp (va_up A q (upd (A q) k v)) B
  | 0, hq, hk => by cases hq; exact hf_0 hk
  | 1, hq, hk => by cases hq; exact hf_1 hk
  | 2, hq, hk => by cases hq
  | 3, hq, hk => by cases hq
  | 4, hq, hk => by cases hq
  | 5, hq, hk => by cases hq
  | 6, hq, hk => by cases hq
  | 7, hq, hk => by cases hq; exact hf_7 hk
  | 8, hq, hk => by cases hq
  | 9, hq, hk => by cases hq; exact hf_9 hk
  | 10, hq, hk => by cases hq
  | 11, hq, hk => by cases hq; exact hf_11 hk
  | 12, hq, hk => by cases hq
  | 13, hq, hk => by cases hq; exact hf_13 hk
  | 14, hq, hk => by cases hq
  | 15, hq, hk => by cases hq; exact hf_15 hk
  | 16, hq, hk => by cases hq
  | 17, hq, hk => by cases hq; exact hf_17 hk
  | 18, hq, hk => by cases hq
  | 19, hq, hk => by cases hq; exact hf_19 hk
  | 20, hq, hk => by cases hq
  | 21, hq, hk => by cases hq; exact hf_21 hk
  | 22, hq, hk => by cases hq
  | 23, hq, hk => by cases hq; exact hf_23 hk
  | 24, hq, hk => by cases hq
  | 25, hq, hk => by cases hq; exact hf_25 hk
  | 26, hq, hk => by cases hq
  | 27, hq, hk => by cases hq; exact hf_27 hk
  | 28, hq, hk => by cases hq
  | 29, hq, hk => by cases hq
  | 30, hq, hk => by cases hq
  | 31, hq, hk => by cases hq
  | 32, hq, hk => by cases hq
  | 33, hq, hk => by cases hq; exact hf_33 hk
  | 34, hq, hk => by cases hq
  | 35, hq, hk => by cases hq
  | 36, hq, hk => by cases hq
  | 37, hq, hk => by cases hq
  | 38, hq, hk => by cases hq
  | 39, hq, hk => by cases hq
  | 40, hq, hk => by cases hq
  | 41, hq, hk => by cases hq
  | 42, hq, hk => by cases hq
  | 43, hq, hk => by cases hq
  | 44, hq, hk => by cases hq
  | 45, hq, hk => by cases hq
  | 46, hq, hk => by cases hq
  | 47, hq, hk => by cases hq
  | 48, hq, hk => by cases hq
  | 49, hq, hk => by cases hq
  | 50, hq, hk => by cases hq
  | n + 51, hq, hk => by cases hq
theorem hp_setG23 {A : Nat → Nat → Int32} {B : Nat → Nat → Int64} {v : Int64} : (hp A B).set 23 (.inr (1, ([.ref 24, .int (A 23 1), .int (A 23 2), .int (A 23 3), .int (A 23 4), .int (A 23 5), .int (A 23 6), .long (B 23 7), .int (A 23 8), .int (A 23 9)] : List Value).set 7 (.long v))) = hp A (va_up B 23 (vp_updL (B 23) 7 v)) := rfl
theorem hp_setG33 {A : Nat → Nat → Int32} {B : Nat → Nat → Int64} {v : Int64} : (hp A B).set 33 (.inr (6, ([.ref 34, .ref 35, .ref 36, .ref 37, .ref 38, .int (A 33 5), .int (A 33 6), .int (A 33 7), .ref 39, .ref 40, .ref 41, .ref 42, .ref 43, .int (A 33 13), .int (A 33 14), .int (A 33 15), .int (A 33 16), .long (B 33 17), .ref 44, .ref 45, .int (A 33 20), .ref 46, .ref 47, .ref 48, .int (A 33 24), .int (A 33 25), .ref 49, .ref 50, .int (A 33 28)] : List Value).set 17 (.long v))) = hp A (va_up B 33 (vp_updL (B 33) 17 v)) := rfl
section RULESH
variable {M : mt_T} {d mc ms k n pc np x : Nat} {Q : Option Value → hp_T → Prop} {L : List (Option Value)} {st st' : List Value} {A : Nat → Nat → Int32} {B : Nat → Nat → Int64}
theorem V.iasH {q len j : Nat} {f : Nat → Int32} {i v : Int32} (hM : mOK M) (hi : lkf (m_tab M) pc = some (.iastore, np, x)) (hq : (hp A B)[q]? = some (.inl (len, .inl f))) (hin : ix i j len) (kk : V M d mc ms Q k n np L st (hp (va_up A q (upd (A q) j v)) B)) : V M d mc ms Q k n pc L (.int v :: .int i :: .ref q :: st) (hp A B) :=
  V.ias _ hM hi hq hin (by rw [hp_get hq]; exact hp_set _ hq) kk
theorem V.lasH {q len j : Nat} {f : Nat → Int64} {i : Int32} {v : Int64} (hM : mOK M) (hi : lkf (m_tab M) pc = some (.lastore, np, x)) (hq : (hp A B)[q]? = some (.inl (len, .inr (.inl f)))) (hin : ix i j len) (kk : V M d mc ms Q k n np L st (hp A (va_up B q (vp_updL f j v)))) : V M d mc ms Q k n pc L (.long v :: .int i :: .ref q :: st) (hp A B) :=
  V.las _ hM hi hq hin (hp_setL _ hq) kk
theorem V.pfH {j q ci kx : Nat} {fs : List Value} {v v0 : Int32} (hM : mOK M) (hi : lkf (m_tab M) pc = some (.putfield j, np, x)) (hq : (hp A B)[q]? = some (.inr (ci, fs))) (hc : x / 64 = ci) (hkx : x % 64 = kx) (hf : (kT ci kx).2.2.2 = false) (hv : okv (kty ci kx) (.int v) = true) (h0 : fs[kx]? = some (.int v0)) (kk : V M d mc ms Q k n np L st (hp (va_up A q (upd (A q) kx v)) B)) : V M d mc ms Q k n pc L (.int v :: .ref q :: st) (hp A B) := by
  subst hkx
  exact V.pf _ hM hi hq hc hf hv (List.getElem?_eq_some_iff.mp h0).1 (hp_setF hq h0) kk
theorem V.cpH {j q0 q1 n0 n1 sj dj nj : Nat} {f g : Nat → Int32} {sp dp cnt : Int32} (hM : mOK M) (hi : lkf (m_tab M) pc = some (.invokestatic j, np, 1001)) (ho : has2 acL M.2.2.2.2.1 j = true) (hq0 : (hp A B)[q0]? = some (.inl (n0, .inl f))) (hq1 : (hp A B)[q1]? = some (.inl (n1, .inl g))) (h1 : ¬ sp < 0 ∧ sp.toNatClampNeg = sj) (h2 : ¬ dp < 0 ∧ dp.toNatClampNeg = dj) (h3 : ¬ cnt < 0 ∧ cnt.toNatClampNeg = nj) (h4 : sj + nj ≤ n0) (h5 : dj + nj ≤ n1) (hroom : Nat.ble (st.map fun v => v.category).sum 8 = true) (kk : V M d mc ms Q k n np L st (hp (va_up A q1 (va_cpy (A q0) (A q1) sj dj nj)) B)) : V M d mc ms Q k n pc L (.int cnt :: .int dp :: .ref q1 :: .int sp :: .ref q0 :: st) (hp A B) :=
  V.cp _ hM hi ho hq0 hq1 h1 h2 h3 h4 h5 hroom (by rw [hp_get hq0, hp_get hq1]; exact hp_set _ hq1) kk
end RULESH
end
section
section RULESF
variable {M M' : mt_T} {d mc ms k n pc np x j q ci : Nat} {Q : Option Value → hp_T → Prop} {L : List (Option Value)} {st rest As : List Value} {h H' : hp_T} {fs : List Value} {v : Value}
theorem V.cVf (hM : mOK M) (hM' : mOK M') (hi : lkf (m_tab M) pc = some (.invokevirtual j, np, x)) (hmn : mn x = M'.1) (hC : C M' d 0 0 (.ref q :: As) h (fun r h' => h' = H' ∧ r = some v)) (hst : As.reverse ++ .ref q :: rest = st) (hv : vnB x As.length = true) (hq : h[q]? = some (.inr (ci, fs))) (hci : Nat.blt ci 7 = true) (hcls : kC ci = M'.1.cls) (hroom : Nat.ble (rest.map fun v => v.category).sum 8 = true) (kk : V M (d + 1) mc ms Q k n np L (v :: rest) H') (hk : k ≤ mc := by omega) (hn : n ≤ ms := by omega) : V M (d + 1) mc ms Q k n pc L st h :=
  V.cV hM hM' hC hi hst hmn hv hq hci hcls hroom (by omega) (by omega) (fun r h' hq => by obtain ⟨rfl, rfl⟩ := hq; exact kk)
theorem V.cVv (hM : mOK M) (hM' : mOK M') (hi : lkf (m_tab M) pc = some (.invokevirtual j, np, x)) (hmn : mn x = M'.1) (hC : C M' d 0 0 (.ref q :: As) h (fun r h' => h' = H' ∧ r = none)) (hst : As.reverse ++ .ref q :: rest = st) (hv : vnB x As.length = true) (hq : h[q]? = some (.inr (ci, fs))) (hci : Nat.blt ci 7 = true) (hcls : kC ci = M'.1.cls) (hroom : Nat.ble (rest.map fun v => v.category).sum 8 = true) (kk : V M (d + 1) mc ms Q k n np L rest H') (hk : k ≤ mc := by omega) (hn : n ≤ ms := by omega) : V M (d + 1) mc ms Q k n pc L st h :=
  V.cV hM hM' hC hi hst hmn hv hq hci hcls hroom (by omega) (by omega) (fun r h' hq => by obtain ⟨rfl, rfl⟩ := hq; exact kk)
theorem V.cSf (hM : mOK M) (hM' : mOK M') (hi : lkf (m_tab M) pc = some (.invokestatic j, np, x)) (hmn : mn x = M'.1) (hC : C M' d 0 0 As h (fun r h' => h' = H' ∧ r = some v)) (hst : As.reverse ++ rest = st) (hv : snB x As.length = true) (hml' : has3 mlL M.2.2.2.2.1 j x = true) (hroom : Nat.ble (rest.map fun v => v.category).sum 8 = true) (kk : V M (d + 1) mc ms Q k n np L (v :: rest) H') (hk : k ≤ mc := by omega) (hn : n ≤ ms := by omega) : V M (d + 1) mc ms Q k n pc L st h :=
  V.cS hM hM' hC hi hst hmn hv hml' hroom (by omega) (by omega) (fun r h' hq => by obtain ⟨rfl, rfl⟩ := hq; exact kk)
theorem V.cSv (hM : mOK M) (hM' : mOK M') (hi : lkf (m_tab M) pc = some (.invokestatic j, np, x)) (hmn : mn x = M'.1) (hC : C M' d 0 0 As h (fun r h' => h' = H' ∧ r = none)) (hst : As.reverse ++ rest = st) (hv : snB x As.length = true) (hml' : has3 mlL M.2.2.2.2.1 j x = true) (hroom : Nat.ble (rest.map fun v => v.category).sum 8 = true) (kk : V M (d + 1) mc ms Q k n np L rest H') (hk : k ≤ mc := by omega) (hn : n ≤ ms := by omega) : V M (d + 1) mc ms Q k n pc L st h :=
  V.cS hM hM' hC hi hst hmn hv hml' hroom (by omega) (by omega) (fun r h' hq => by obtain ⟨rfl, rfl⟩ := hq; exact kk)
theorem V.brT {i : Instr} {P P' : Prop} {st' : List Value} (hM : mOK M) (hi : lkf (m_tab M) pc = some (i, np, x)) (hs : brp i st = some (P, P', st')) (hp : P) (hn : P → ¬ P' := by decide) (kk : V M d mc ms Q k n x L st' h) : V M d mc ms Q k n pc L st h := V.br hM hi hs (fun _ => kk) (fun g => absurd g (hn hp))
theorem V.brF {i : Instr} {P P' : Prop} {st' : List Value} (hM : mOK M) (hi : lkf (m_tab M) pc = some (i, np, x)) (hs : brp i st = some (P, P', st')) (hp : ¬ P) (kk : V M d mc ms Q k n np L st' h) : V M d mc ms Q k n pc L st h := V.br hM hi hs (fun g => absurd g hp) (fun _ => kk)
end RULESF
end
section
/-! numbers -/
theorem lgc_lt {x y : Int64} : lg_cmp x y < 0 ↔ x < y := by
  unfold lg_cmp
  split
  · next h => exact ⟨fun q => absurd q (by decide), fun q => (Int64.lt_irrefl (Int64.lt_trans q h)).elim⟩
  · next h => split
              · next h2 => subst h2; exact ⟨fun q => absurd q (by decide), fun q => (Int64.lt_irrefl q).elim⟩
              · next h2 => exact ⟨fun _ => (Int64.lt_or_eq_of_le (Int64.not_lt.mp h)).resolve_right h2, fun _ => by decide⟩
theorem lgc_eq {x y : Int64} : lg_cmp x y = 0 ↔ x = y := by
  unfold lg_cmp
  split
  · next h => exact ⟨fun q => absurd q (by decide), fun q => by subst q; exact (Int64.lt_irrefl h).elim⟩
  · next h => split
              · next h2 => exact ⟨fun _ => h2, fun _ => rfl⟩
              · next h2 => exact ⟨fun q => absurd q (by decide), fun q => absurd q h2⟩
theorem lgc_gt {x y : Int64} : 0 < lg_cmp x y ↔ y < x := by
  unfold lg_cmp
  split
  · next h => exact ⟨fun _ => h, fun _ => by decide⟩
  · next h => split
              · next h2 => exact ⟨fun q => absurd q (by decide), fun q => absurd q h⟩
              · next h2 => exact ⟨fun q => absurd q (by decide), fun q => absurd q h⟩
theorem lgc_ge {x y : Int64} : 0 ≤ lg_cmp x y ↔ y ≤ x := by
  rw [← Int32.not_lt, ← Int64.not_lt, lgc_lt]
theorem lgc_le {x y : Int64} : lg_cmp x y ≤ 0 ↔ x ≤ y := by
  rw [← Int32.not_lt, ← Int64.not_lt, lgc_gt]
/-- a number that is a natural one -/
def NV (i : Int32) (a : Nat) : Prop := i = nI a
theorem nv_nI {a : Nat} : NV (nI a) a := rfl
theorem nv_lit {n : Nat} : NV (OfNat.ofNat n) (OfNat.ofNat n) := rfl
theorem nv_add {i j : Int32} {a b : Nat} (h : NV i a) (g : NV j b) : NV (i + j) (a + b) := by unfold NV at *; rw [h, g, nI_add]
theorem nv_mul {i j : Int32} {a b : Nat} (h : NV i a) (g : NV j b) : NV (i * j) (a * b) := by unfold NV at *; rw [h, g, pk_mul]
theorem nv_of {i : Int32} {a : Nat} (h : i = nI a) : NV i a := h
theorem ixN {i : Int32} {j n : Nat} (h : NV i j) (hj : j < n) (hn : n < 2 ^ 31) : ix i j n := by unfold NV at h; rw [h]; exact ix_nI hj hn
/-! the class Numbers -/
def fitF (v : Int64) : Int32 := if -1000000000 ≤ v ∧ v ≤ 1000000000 then 1 else 0
theorem fitF_01 (v : Int64) : fitF v = 0 ∨ fitF v = 1 := by unfold fitF; split <;> simp
theorem c_fits (d : Nat) (v : Int64) (h : hp_T) : C mX2_fits d 0 0 [.long v] h (fun r h' => h' = h ∧ r = some (.int (fitF v))) := by
  refine C.of [some (.long v), none] omX2_fits rfl rfl rfl ?_
  repeat' (first | refine V.s omX2_fits rfl rfl ?_ | refine V.gf omX2_fits rfl rfl rfl rfl ?_ | refine V.br omX2_fits rfl rfl (fun hc => ?_) (fun hc => ?_))
  · refine V.zret omX2_fits rfl rfl (by decide) ⟨rfl, ?_⟩
    rw [lgc_lt] at hc
    simp [fitF, Int64.not_le.mpr hc]
  · refine V.zret omX2_fits rfl rfl (by decide) ⟨rfl, ?_⟩
    rw [lgc_gt] at hc
    simp [fitF, Int64.not_le.mpr hc]
  · refine V.zret omX2_fits rfl rfl (by decide) ⟨rfl, ?_⟩
    next h1 =>
    rw [lgc_ge] at h1
    rw [lgc_le] at hc
    simp [fitF, h1, hc]
def kbF (a : Int32) : Int32 := if a = 0 then 1 else 0
theorem c_kindByBend (d : Nat) (a : Int32) (h : hp_T) : C mX2_kindByBend d 0 0 [.int a] h (fun r h' => h' = h ∧ r = some (.int (kbF a))) := by
  refine C.of [some (.int a)] omX2_kindByBend rfl rfl rfl ?_
  repeat' (first | refine V.s omX2_kindByBend rfl rfl ?_ | refine V.gf omX2_kindByBend rfl rfl rfl rfl ?_ | refine V.br omX2_kindByBend rfl rfl (fun hc => ?_) (fun hc => ?_))
  · exact V.iret omX2_kindByBend rfl rfl ⟨rfl, by simp [kbF, hc]⟩
  · exact V.iret omX2_kindByBend rfl rfl ⟨rfl, by simp [kbF, hc]⟩
def mtF (v : Int64) : Int32 := if v < -2 then 5 else if 2 < v then 6 else if v = -2 then 1 else if v = 2 then 2 else if v = 0 then 3 else 4
theorem c_meetingBy (d : Nat) (v : Int64) (h : hp_T) : C mX2_meetingBy d 0 0 [.long v] h (fun r h' => h' = h ∧ r = some (.int (mtF v))) := by
  refine C.of [some (.long v), none] omX2_meetingBy rfl rfl rfl ?_
  repeat' (first | refine V.s omX2_meetingBy rfl rfl ?_ | refine V.gf omX2_meetingBy rfl rfl rfl rfl ?_ | refine V.br omX2_meetingBy rfl rfl (fun hc => ?_) (fun hc => ?_))
  all_goals refine V.iret omX2_meetingBy rfl rfl ⟨rfl, ?_⟩
  all_goals simp only [lgc_lt, lgc_eq, lgc_gt, lgc_ge, lgc_le, ← Int64.not_lt] at *
  all_goals simp [mtF, *]
def prd (f g : Nat → Int32) (i j : Nat) : Int64 := 2 * ((f (i + 2)).toInt64 * (g (j + 2)).toInt64 + (f (i + 3)).toInt64 * (g (j + 3)).toInt64) - (f i).toInt64 * (g (j + 1)).toInt64 - (g j).toInt64 * (f (i + 1)).toInt64
theorem c_productAt (d : Nat) {q len i j : Nat} {f : Nat → Int32} {h : hp_T} (hq : h[q]? = some (.inl (len, .inl f))) (hi : i + 3 < len) (hj : j + 3 < len) (hl : len < 2 ^ 31) : C mX2_productAt d 0 0 [.ref q, .int (nI i), .int (nI j)] h (fun r h' => h' = h ∧ r = some (.long (prd f f i j))) := by
  refine C.of [some (.ref q), some (.int (nI i)), some (.int (nI j)), none, none] omX2_productAt rfl rfl rfl ?_
  repeat (first | refine V.s omX2_productAt rfl rfl ?_ | refine V.ial omX2_productAt rfl hq (ixN nv_nI (by omega) hl) ?_ | refine V.ial omX2_productAt rfl hq (ixN (nv_add nv_nI nv_lit) (by omega) hl) ?_)
  exact V.lret omX2_productAt rfl rfl ⟨rfl, rfl⟩
theorem fitF_ne {v : Int64} : ¬ fitF v = 0 ↔ fitF v = 1 := by
  rcases fitF_01 v with h | h <;> simp [h]
abbrev lawP (a b x y : Int32) : Prop := fitF a.toInt64 = 1 ∧ fitF b.toInt64 = 1 ∧ fitF x.toInt64 = 1 ∧ fitF y.toInt64 = 1 ∧ x.toInt64 * x.toInt64 + y.toInt64 * y.toInt64 - a.toInt64 * b.toInt64 = 1
def klF (a b x y : Int32) : Int32 := if lawP a b x y then 1 else 0
theorem klF_01 (a b x y : Int32) : klF a b x y = 0 ∨ klF a b x y = 1 := by unfold klF; split <;> simp
theorem c_keepLaw (d : Nat) (a b x y : Int32) (h : hp_T) : C mX2_keepLaw (d + 1) 0 0 [.int a, .int b, .int x, .int y] h (fun r h' => h' = h ∧ r = some (.int (klF a b x y))) := by
  refine C.of [some (.int a), some (.int b), some (.int x), some (.int y)] omX2_keepLaw rfl rfl rfl ?_
  repeat' (first | refine V.s omX2_keepLaw rfl rfl ?_ | refine V.gf omX2_keepLaw rfl rfl rfl rfl ?_ | refine V.cSf omX2_keepLaw omX2_fits rfl rfl (c_fits _ _ _) rfl rfl rfl rfl ?_ | refine V.br omX2_keepLaw rfl rfl (fun hc => ?_) (fun hc => ?_))
  all_goals refine V.zret omX2_keepLaw rfl rfl (by decide) ⟨rfl, ?_⟩
  all_goals try simp only [lgc_eq, fitF_ne] at *
  all_goals simp [klF, lawP, *]
/-! Euclid's way -/
def euF : Nat → Nat → Nat → Nat
  | 0, p, _ => p
  | k + 1, p, q => if q = 0 then p else euF k q (p % q)
theorem euF_gcd : ∀ (k p q : Nat), q ≤ p → q < 2 ^ k → euF (2 * k) p q = Nat.gcd p q
  | 0, p, q, _, h => by
    have : q = 0 := by omega
    subst this; simp [euF]
  | k + 1, p, q, hp, h => by
    rw [show 2 * (k + 1) = (2 * k) + 1 + 1 by omega]
    unfold euF
    by_cases hq : q = 0
    · simp [hq]
    rw [if_neg hq]
    unfold euF
    have hr : p % q < q := Nat.mod_lt _ (by omega)
    by_cases hr0 : p % q = 0
    · rw [if_pos hr0, Nat.gcd_comm, Nat.gcd_rec, hr0]
      simp
    rw [if_neg hr0]
    have hs : q % (p % q) < p % q := Nat.mod_lt _ (by omega)
    have h2 : q % (p % q) < 2 ^ k := by
      rw [Nat.pow_succ] at h
      have := Nat.mod_add_div q (p % q)
      have h1 : 1 ≤ q / (p % q) := Nat.div_pos (by omega) (by omega)
      have h3 : p % q * 1 ≤ p % q * (q / (p % q)) := Nat.mul_le_mul_left _ h1
      omega
    rw [euF_gcd k (p % q) (q % (p % q)) (by omega) h2]
    rw [Nat.gcd_comm p q, Nat.gcd_rec q p, Nat.gcd_comm, Nat.gcd_comm (p % q) q]
    rw [Nat.gcd_comm q (p % q), Nat.gcd_rec (p % q) q, Nat.gcd_comm]
theorem euF_100 (p q : Nat) (hp : p < 2 ^ 31) (hq : q < 2 ^ 31) : euF 100 p q = Nat.gcd p q := by
  by_cases h : q ≤ p
  · exact euF_gcd 50 p q h (by omega)
  · unfold euF
    rw [if_neg (by omega), Nat.mod_eq_of_lt (by omega)]
    unfold euF
    by_cases h0 : p = 0
    · simp [h0]
    rw [if_neg h0, euF_gcd 49 p (q % p) (Nat.le_of_lt (Nat.mod_lt _ (by omega))) (by have := Nat.mod_lt q (show 0 < p by omega); omega)]
    rw [Nat.gcd_comm, Nat.gcd_rec p q]
theorem nIl_eq {p : Nat} (n : Nat) (hp : p < 2 ^ 31) (hn : n < 2 ^ 31) : (nI p = OfNat.ofNat n) ↔ p = n := nI_eq hp hn
theorem nIl_le {p : Nat} (n : Nat) (hp : p < 2 ^ 31) (hn : n < 2 ^ 31) : ((OfNat.ofNat n : Int32) ≤ nI p) ↔ n ≤ p := nI_leI hn hp
theorem nIl_lt {p : Nat} (n : Nat) (hp : p < 2 ^ 31) (hn : n < 2 ^ 31) : (nI p < (OfNat.ofNat n : Int32)) ↔ p < n := nI_ltI hp hn
theorem isLowest_end (d : Nat) (h : hp_T) (R : Int32) (v0 v1 v3 v4 v5 : Option Value) (p : Nat) (hp : p < 2 ^ 31) (hR : R = (if p = 1 then 1 else 0)) :
    V mX2_isLowest d 0 0 (fun r h' => h' = h ∧ r = some (.int R)) 0 0 34 [v0, v1, some (.int (nI p)), v3, v4, v5] [] h := by
  have e := nIl_eq 1 hp (by decide)
  repeat' (first | refine V.s omX2_isLowest rfl rfl ?_ | refine V.gf omX2_isLowest rfl rfl rfl rfl ?_ | refine V.br omX2_isLowest rfl rfl (fun hc => ?_) (fun hc => ?_))
  all_goals refine V.zret omX2_isLowest rfl rfl (by decide) ⟨rfl, ?_⟩
  all_goals rw [e] at hc
  all_goals simp [hR, hc]
theorem isLowest_loop (d : Nat) (h : hp_T) (R : Int32) (a0 b0 : Int32) : ∀ (m i p q : Nat) (v5 : Option Value), i + m = 100 → p < 2 ^ 31 → q < 2 ^ 31 → R = (if euF m p q = 1 then 1 else 0) →
    V mX2_isLowest d 0 0 (fun r h' => h' = h ∧ r = some (.int R)) 0 0 7 [some (.int a0), some (.int b0), some (.int (nI p)), some (.int (nI q)), some (.int (nI i)), v5] [] h := by
  intro m
  induction m with
  | zero =>
    intro i p q v5 hi hp hq hR
    have : i = 100 := by omega
    subst this
    refine V.s omX2_isLowest rfl rfl ?_
    refine V.s omX2_isLowest rfl rfl ?_
    refine V.brT omX2_isLowest rfl rfl (by decide) (by decide) ?_
    exact isLowest_end d h R _ _ _ _ _ p hp hR
  | succ m ih =>
    intro i p q v5 hi hp hq hR
    refine V.s omX2_isLowest rfl rfl ?_
    refine V.s omX2_isLowest rfl rfl ?_
    refine V.br omX2_isLowest rfl rfl (fun hc => ?_) (fun hc => ?_)
    · rw [nIl_le 100 (by omega) (by decide)] at hc
      omega
    refine V.s omX2_isLowest rfl rfl ?_
    refine V.br omX2_isLowest rfl rfl (fun hc => ?_) (fun hc => ?_)
    · rw [nIl_eq 0 hq (by decide)] at hc
      simp only [euF, if_pos hc] at hR
      exact isLowest_end d h R _ _ _ _ _ p hp hR
    · have hc' := hc
      rw [nIl_eq 0 hq (by decide)] at hc'
      simp only [euF, if_neg hc'] at hR
      repeat (first | refine V.s omX2_isLowest rfl rfl ?_ | refine V.gf omX2_isLowest rfl rfl rfl rfl ?_)
      refine V.irem omX2_isLowest rfl hc ?_
      rw [pk_rem hp (by omega) hq]
      refine V.s omX2_isLowest rfl rfl ?_
      refine V.s omX2_isLowest rfl rfl ?_
      refine V.s omX2_isLowest rfl rfl ?_
      refine V.s omX2_isLowest rfl rfl ?_
      refine V.s omX2_isLowest rfl rfl ?_
      refine V.s omX2_isLowest rfl rfl ?_
      refine V.s omX2_isLowest rfl rfl ?_
      rw [nI_1]
      exact ih (i + 1) q (p % q) _ (by omega) hq (by have := Nat.mod_lt p (show 0 < q by omega); omega) hR
theorem c_isLowest (d : Nat) (p q : Nat) (h : hp_T) (hp : p < 2 ^ 31) (hq : q < 2 ^ 31) : C mX2_isLowest d 0 0 [.int (nI p), .int (nI q)] h (fun r h' => h' = h ∧ r = some (.int (if Nat.gcd p q = 1 then 1 else 0))) := by
  refine C.of [some (.int (nI p)), some (.int (nI q)), none, none, none, none] omX2_isLowest rfl rfl rfl ?_
  refine V.s omX2_isLowest rfl rfl ?_
  refine V.s omX2_isLowest rfl rfl ?_
  refine V.s omX2_isLowest rfl rfl ?_
  refine V.s omX2_isLowest rfl rfl ?_
  refine V.s omX2_isLowest rfl rfl ?_
  refine V.s omX2_isLowest rfl rfl ?_
  exact isLowest_loop d h _ _ _ 100 0 p q _ rfl hp hq (by rw [euF_100 p q hp hq])
end
section
section QUAD
variable {A : Nat → Nat → Int32} {B : Nat → Nat → Int64} {k : Nat}
theorem c_number (d : Nat) (hk : k < 8) {a b : Int32} {p c : Nat} (ha : NV a p) (hb : NV b c) (h4 : p < 4) (h5 : c < 4) : C mX4_number d 0 0 [.ref (7 + 2 * k), .int a, .int b] (hp A B) (fun r h' => h' = hp A B ∧ r = some (.int (A (8 + 2 * k) (4 * p + c)))) := by
  unfold NV at ha hb
  subst ha hb
  refine C.of [some (.ref (7 + 2 * k)), some (.int (nI p)), some (.int (nI c))] omX4_number rfl rfl rfl ?_
  repeat (first | refine V.s omX4_number rfl rfl ?_ | refine V.gf omX4_number rfl (hpQ hk) rfl rfl ?_ | refine V.ial omX4_number rfl (hpR hk) (ixN (nv_add (nv_mul nv_lit nv_nI) nv_nI) (by omega) (by decide)) ?_)
  exact V.iret omX4_number rfl rfl ⟨rfl, rfl⟩
theorem c_bend (d : Nat) (hk : k < 8) {a : Int32} {p : Nat} (ha : NV a p) (h4 : p < 4) : C mX4_bend d 0 0 [.ref (7 + 2 * k), .int a] (hp A B) (fun r h' => h' = hp A B ∧ r = some (.int (A (8 + 2 * k) (4 * p)))) := by
  unfold NV at ha
  subst ha
  refine C.of [some (.ref (7 + 2 * k)), some (.int (nI p))] omX4_bend rfl rfl rfl ?_
  repeat (first | refine V.s omX4_bend rfl rfl ?_ | refine V.gf omX4_bend rfl (hpQ hk) rfl rfl ?_ | refine V.ial omX4_bend rfl (hpR hk) (ixN (nv_mul nv_lit nv_nI) (by omega) (by decide)) ?_)
  exact V.iret omX4_bend rfl rfl ⟨rfl, rfl⟩
def bsm (f : Nat → Int32) : Int64 := (f 0).toInt64 + (f 4).toInt64 + (f 8).toInt64 + (f 12).toInt64
theorem c_bendSum (d : Nat) (hk : k < 8) : C mX4_bendSum (d + 1) 0 0 [.ref (7 + 2 * k)] (hp A B) (fun r h' => h' = hp A B ∧ r = some (.long (bsm (A (8 + 2 * k))))) := by
  refine C.of [some (.ref (7 + 2 * k))] omX4_bendSum rfl rfl rfl ?_
  repeat (first | refine V.s omX4_bendSum rfl rfl ?_ | refine V.cVf omX4_bendSum omX4_bend rfl rfl (c_bend _ hk nv_lit (by decide)) rfl rfl (hpQ hk) rfl rfl rfl ?_)
  exact V.lret omX4_bendSum rfl rfl ⟨rfl, rfl⟩
def swp (f : Nat → Int32) (p c : Nat) : Int64 := 2 * ((f c).toInt64 + (f (4 + c)).toInt64 + (f (8 + c)).toInt64 + (f (12 + c)).toInt64) - 3 * (f (4 * p + c)).toInt64
theorem c_swapped (d : Nat) (hk : k < 8) {a b : Int32} {p c : Nat} (ha : NV a p) (hb : NV b c) (h4 : p < 4) (h5 : c < 4) : C mX4_swapped d 0 0 [.ref (7 + 2 * k), .int a, .int b] (hp A B) (fun r h' => h' = hp A B ∧ r = some (.long (swp (A (8 + 2 * k)) p c))) := by
  unfold NV at ha hb
  subst ha hb
  refine C.of [some (.ref (7 + 2 * k)), some (.int (nI p)), some (.int (nI c)), none, none] omX4_swapped rfl rfl rfl ?_
  repeat (first | refine V.s omX4_swapped rfl rfl ?_ | refine V.gf omX4_swapped rfl (hpQ hk) rfl rfl ?_ | refine V.ial omX4_swapped rfl (hpR hk) (ixN nv_nI (by omega) (by decide)) ?_ | refine V.ial omX4_swapped rfl (hpR hk) (ixN (nv_add nv_lit nv_nI) (by omega) (by decide)) ?_ | refine V.ial omX4_swapped rfl (hpR hk) (ixN (nv_add (nv_mul nv_lit nv_nI) nv_nI) (by omega) (by decide)) ?_)
  exact V.lret omX4_swapped rfl rfl ⟨rfl, rfl⟩
theorem c_take (d : Nat) (hk : k < 8) {j : Nat} (hj : j < 8) : C mX4_take d 0 0 [.ref (7 + 2 * k), .ref (7 + 2 * j)] (hp A B) (fun r h' => h' = hp (va_up A (8 + 2 * k) (va_cpy (A (8 + 2 * j)) (A (8 + 2 * k)) 0 0 16)) B ∧ r = none) := by
  refine C.of [some (.ref (7 + 2 * k)), some (.ref (7 + 2 * j))] omX4_take rfl rfl rfl ?_
  repeat (first | refine V.s omX4_take rfl rfl ?_ | refine V.gf omX4_take rfl (hpQ hk) rfl rfl ?_ | refine V.gf omX4_take rfl (hpQ hj) rfl rfl ?_ | refine V.cpH omX4_take rfl rfl (hpR hj) (hpR hk) (sj := 0) (dj := 0) (nj := 16) (by decide) (by decide) (by decide) (by decide) (by decide) rfl ?_)
  exact V.vret omX4_take rfl rfl ⟨rfl, rfl⟩
/-! a swap -/
def swU (f : Nat → Int32) (p c : Nat) : Nat → Int32 := upd f (4 * p + c) (swp f p c).toInt32
def sw4 (f : Nat → Int32) (p : Nat) : Nat → Int32 := swU (swU (swU (swU f p 0) p 1) p 2) p 3
def sw1 (f : Nat → Int32) (p : Nat) : Nat → Int32 := swU f p 0
abbrev fit4 (f : Nat → Int32) (p : Nat) : Prop := fitF (swp f p 0) = 1 ∧ fitF (swp f p 1) = 1 ∧ fitF (swp f p 2) = 1 ∧ fitF (swp f p 3) = 1
theorem c_trySwap1 (d : Nat) (hk : k < 8) {a : Int32} {p : Nat} (ha : NV a p) (h4 : p < 4) : C mX4_trySwap (d + 1) 0 0 [.ref (7 + 2 * k), .int a, .int 1] (hp A B) (fun r h' => h' = hp (if fitF (swp (A (8 + 2 * k)) p 0) = 1 then va_up A (8 + 2 * k) (sw1 (A (8 + 2 * k)) p) else A) B ∧ r = some (.int (fitF (swp (A (8 + 2 * k)) p 0)))) := by
  unfold NV at ha
  subst ha
  refine C.of [some (.ref (7 + 2 * k)), some (.int (nI p)), some (.int 1), none] omX4_trySwap rfl rfl rfl ?_
  repeat' (first | refine V.s omX4_trySwap rfl rfl ?_ | simp only [Int32.reduceAdd, Int32.reduceMul, Int32.reduceSub] | refine V.brF omX4_trySwap rfl rfl (by decide) ?_ | refine V.brT omX4_trySwap rfl rfl (by decide) (by decide) ?_ | refine V.gf omX4_trySwap rfl (hpQ hk) rfl rfl ?_ | refine V.cVf omX4_trySwap omX4_swapped rfl rfl (c_swapped _ hk nv_nI nv_lit h4 (by decide)) rfl rfl (hpQ hk) rfl rfl rfl ?_ | refine V.cSf omX4_trySwap omX2_fits rfl rfl (c_fits _ _ _) rfl rfl rfl rfl ?_ | refine V.iasH omX4_trySwap rfl (hpR hk) (ixN (nv_add (nv_mul nv_lit nv_nI) nv_lit) (by omega) (by decide)) ?_ | refine V.br omX4_trySwap rfl rfl (fun hc => ?_) (fun hc => ?_))
  · rw [fitF_ne] at hc
    exact V.zret omX4_trySwap rfl rfl (by decide) ⟨by rw [if_pos hc]; rfl, by rw [hc]⟩
  · exact V.zret omX4_trySwap rfl rfl (by decide) ⟨by rw [if_neg (by rw [hc]; decide)], by rw [hc]⟩
theorem c_trySwap4 (d : Nat) (hk : k < 8) {a : Int32} {p : Nat} (ha : NV a p) (h4 : p < 4) : C mX4_trySwap (d + 1) 0 0 [.ref (7 + 2 * k), .int a, .int 4] (hp A B) (fun r h' => h' = hp (if fit4 (A (8 + 2 * k)) p then va_up A (8 + 2 * k) (sw4 (A (8 + 2 * k)) p) else A) B ∧ r = some (.int (if fit4 (A (8 + 2 * k)) p then 1 else 0))) := by
  unfold NV at ha
  subst ha
  refine C.of [some (.ref (7 + 2 * k)), some (.int (nI p)), some (.int 4), none] omX4_trySwap rfl rfl rfl ?_
  repeat' (first | refine V.s omX4_trySwap rfl rfl ?_ | simp only [Int32.reduceAdd, Int32.reduceMul, Int32.reduceSub] | refine V.brF omX4_trySwap rfl rfl (by decide) ?_ | refine V.brT omX4_trySwap rfl rfl (by decide) (by decide) ?_ | refine V.gf omX4_trySwap rfl (hpQ hk) rfl rfl ?_ | refine V.cVf omX4_trySwap omX4_swapped rfl rfl (c_swapped _ hk nv_nI nv_lit h4 (by decide)) rfl rfl (hpQ hk) rfl rfl rfl ?_ | refine V.cSf omX4_trySwap omX2_fits rfl rfl (c_fits _ _ _) rfl rfl rfl rfl ?_ | refine V.iasH omX4_trySwap rfl (hpR hk) (ixN (nv_add (nv_mul nv_lit nv_nI) nv_lit) (by omega) (by decide)) ?_ | refine V.br omX4_trySwap rfl rfl (fun hc => ?_) (fun hc => ?_))
  · next h1 h2 h3 =>
    rw [fitF_ne] at h1 h2 h3 hc
    have hf : fit4 (A (8 + 2 * k)) p := ⟨h1, h2, h3, hc⟩
    refine V.zret omX4_trySwap rfl rfl (by decide) ⟨?_, by rw [if_pos hf]⟩
    rw [if_pos hf]
    simp only [va_up_self, bx_uu]
    rfl
  all_goals exact V.zret omX4_trySwap rfl rfl (by decide) ⟨by rw [if_neg (fun hf => by simp [fit4, hc] at hf)], by rw [if_neg (fun hf => by simp [fit4, hc] at hf)]⟩
def gs1 (f : Nat → Int32) : Nat := if f 0 < f 4 then 1 else 0
def gs2 (f : Nat → Int32) : Nat := if f (4 * gs1 f) < f 8 then 2 else gs1 f
def gst (f : Nat → Int32) : Nat := if f (4 * gs2 f) < f 12 then 3 else gs2 f
theorem gst_lt (f : Nat → Int32) : gst f < 4 := by
  unfold gst gs2 gs1
  split <;> (try split) <;> (try split) <;> omega
theorem c_greatestBend (d : Nat) (hk : k < 8) : C mX4_placeOfGreatestBend (d + 1) 0 0 [.ref (7 + 2 * k)] (hp A B) (fun r h' => h' = hp A B ∧ r = some (.int (nI (gst (A (8 + 2 * k)))))) := by
  refine C.of [some (.ref (7 + 2 * k)), none, none] omX4_placeOfGreatestBend rfl rfl rfl ?_
  repeat' (first | refine V.s omX4_placeOfGreatestBend rfl rfl ?_ | simp only [Int32.reduceAdd, Int32.reduceMul, Int32.reduceSub] | refine V.brF omX4_placeOfGreatestBend rfl rfl (by decide) ?_ | refine V.brT omX4_placeOfGreatestBend rfl rfl (by decide) (by decide) ?_ | refine V.cVf omX4_placeOfGreatestBend omX4_bend rfl rfl (c_bend _ hk nv_lit (by decide)) rfl rfl (hpQ hk) rfl rfl rfl ?_ | refine V.br omX4_placeOfGreatestBend rfl rfl (fun hc => ?_) (fun hc => ?_))
  all_goals refine V.iret omX4_placeOfGreatestBend rfl rfl ⟨rfl, ?_⟩
  all_goals simp only [← Int32.not_lt, Nat.reduceMul, Nat.mul_zero, Nat.mul_one] at *
  all_goals simp [gst, gs2, gs1, *]
  all_goals rfl
def lbOk (c4 : Bool) (f : Nat → Int32) (p : Nat) : Bool := bif c4 then decide (fit4 f p) else decide (fitF (swp f p 0) = 1)
def lbS (c4 : Bool) (f : Nat → Int32) (p : Nat) : Nat → Int32 := bif c4 then sw4 f p else sw1 f p
def lbP (s : Nat) (fp : Int32) (p : Nat) : Int32 := if s < 15 then fp ||| (nI p <<< ((2 * nI s) &&& 31)) else fp
def lb (c4 : Bool) : Nat → Nat → (Nat → Int32) → Int32 → Int32 × (Nat → Int32) × Int32
  | 0, _, f, fp => (1000000, f, fp)
  | m + 1, s, f, fp => if swp f (gst f) 0 < (f (4 * gst f)).toInt64 then (if lbOk c4 f (gst f) = true then lb c4 m (s + 1) (lbS c4 f (gst f)) (lbP s fp (gst f)) else (-1, f, fp)) else (nI s, f, fp)
def Lh (A : Nat → Nat → Int32) (k : Nat) (f : Nat → Int32) (fp : Int32) : Nat → Nat → Int32 := va_up (va_up A (8 + 2 * k) f) (7 + 2 * k) (upd (A (7 + 2 * k)) 1 fp)
theorem Lh_arr {f : Nat → Int32} {fp : Int32} : Lh A k f fp (8 + 2 * k) = f := by
  unfold Lh
  rw [va_up_ne _ _ (by omega), va_up_self]
theorem Lh_fp {f : Nat → Int32} {fp : Int32} : Lh A k f fp (7 + 2 * k) 1 = fp := by
  unfold Lh
  rw [va_up_self]
  simp [upd]
theorem Lh_set {f g : Nat → Int32} {fp : Int32} : va_up (Lh A k f fp) (8 + 2 * k) g = Lh A k g fp := by
  unfold Lh
  funext z
  by_cases h1 : z = 8 + 2 * k
  · subst h1
    rw [va_up_self, va_up_ne _ _ (by omega), va_up_self]
  · rw [va_up_ne _ _ h1]
    by_cases h2 : z = 7 + 2 * k
    · subst h2
      rw [va_up_self, va_up_self]
    · rw [va_up_ne _ _ h2, va_up_ne _ _ h2, va_up_ne _ _ h1, va_up_ne _ _ h1]
theorem Lh_put {f : Nat → Int32} {fp v : Int32} : va_up (Lh A k f fp) (7 + 2 * k) (upd (Lh A k f fp (7 + 2 * k)) 1 v) = Lh A k f v := by
  unfold Lh
  rw [va_up_self, bx_uu]
  congr 1
  funext z
  unfold upd
  split <;> rfl
theorem Lh_0 {v : Int32} : va_up A (7 + 2 * k) (upd (A (7 + 2 * k)) 1 v) = Lh A k (A (8 + 2 * k)) v := by
  unfold Lh
  congr 1
  funext z
  by_cases h1 : z = 8 + 2 * k
  · subst h1; rw [va_up_self]
  · rw [va_up_ne _ _ h1]
theorem c_trySwapC (d : Nat) (hk : k < 8) (c4 : Bool) {a : Int32} {p : Nat} (ha : NV a p) (h4 : p < 4) : C mX4_trySwap (d + 1) 0 0 [.ref (7 + 2 * k), .int a, .int (bif c4 then 4 else 1)] (hp A B) (fun r h' => h' = hp (if lbOk c4 (A (8 + 2 * k)) p = true then va_up A (8 + 2 * k) (lbS c4 (A (8 + 2 * k)) p) else A) B ∧ r = some (.int (if lbOk c4 (A (8 + 2 * k)) p = true then 1 else 0))) := by
  cases c4 with
  | true =>
    refine (c_trySwap4 d hk ha h4).mono (fun r h' hq => ?_)
    simpa [lbOk, lbS] using hq
  | false =>
    refine (c_trySwap1 d hk ha h4).mono (fun r h' hq => ?_)
    have e : (if lbOk false (A (8 + 2 * k)) p = true then (1 : Int32) else 0) = fitF (swp (A (8 + 2 * k)) p 0) := by
      rcases fitF_01 (swp (A (8 + 2 * k)) p 0) with g | g <;> simp [lbOk, g]
    rw [e]
    simpa [lbOk, lbS] using hq
end QUAD
end
section
section QUAD2
variable {A : Nat → Nat → Int32} {B : Nat → Nat → Int64} {k : Nat}
def negB (f : Nat → Int32) : Int32 := if f 0 < 0 ∨ f 4 < 0 ∨ f 8 < 0 ∨ f 12 < 0 then 1 else 0
theorem c_hasNeg (d : Nat) (hk : k < 8) : C mX4_hasBendBelowZero (d + 1) 0 0 [.ref (7 + 2 * k)] (hp A B) (fun r h' => h' = hp A B ∧ r = some (.int (negB (A (8 + 2 * k))))) := by
  refine C.of [some (.ref (7 + 2 * k)), none] omX4_hasBendBelowZero rfl rfl rfl ?_
  repeat' (first | refine V.s omX4_hasBendBelowZero rfl rfl ?_ | simp only [Int32.reduceAdd, Int32.reduceMul, Int32.reduceSub] | refine V.brF omX4_hasBendBelowZero rfl rfl (by decide) ?_ | refine V.brT omX4_hasBendBelowZero rfl rfl (by decide) (by decide) ?_ | refine V.cVf omX4_hasBendBelowZero omX4_bend rfl rfl (c_bend _ hk nv_lit (by decide)) rfl rfl (hpQ hk) rfl rfl rfl ?_ | refine V.br omX4_hasBendBelowZero rfl rfl (fun hc => ?_) (fun hc => ?_))
  all_goals refine V.zret omX4_hasBendBelowZero rfl rfl (by decide) ⟨rfl, ?_⟩
  all_goals simp only [← Int32.not_lt, Nat.reduceMul, Nat.mul_zero, Nat.mul_one] at *
  all_goals simp [negB, *]
def hoF (f : Nat → Int32) (b : Int32) : Int32 := (if f 0 = b then 1 else 0) + (if f 4 = b then 1 else 0) + (if f 8 = b then 1 else 0) + (if f 12 = b then 1 else 0)
theorem c_howOften (d : Nat) (hk : k < 8) (b : Int32) : C mX4_howOften (d + 1) 0 0 [.ref (7 + 2 * k), .int b] (hp A B) (fun r h' => h' = hp A B ∧ r = some (.int (hoF (A (8 + 2 * k)) b))) := by
  refine C.of [some (.ref (7 + 2 * k)), some (.int b), none, none] omX4_howOften rfl rfl rfl ?_
  repeat' (first | refine V.s omX4_howOften rfl rfl ?_ | simp only [Int32.reduceAdd, Int32.reduceMul, Int32.reduceSub] | refine V.brF omX4_howOften rfl rfl (by decide) ?_ | refine V.brT omX4_howOften rfl rfl (by decide) (by decide) ?_ | refine V.cVf omX4_howOften omX4_bend rfl rfl (c_bend _ hk nv_lit (by decide)) rfl rfl (hpQ hk) rfl rfl rfl ?_ | refine V.br omX4_howOften rfl rfl (fun hc => ?_) (fun hc => ?_))
  all_goals refine V.iret omX4_howOften rfl rfl ⟨rfl, ?_⟩
  all_goals simp only [Nat.reduceMul, Nat.mul_zero, Nat.mul_one] at *
  all_goals simp [hoF, *]
def hbF (f g : Nat → Int32) : Int32 := if hoF f (f 0) = hoF g (f 0) ∧ hoF f (f 4) = hoF g (f 4) ∧ hoF f (f 8) = hoF g (f 8) ∧ hoF f (f 12) = hoF g (f 12) then 1 else 0
theorem c_hasBendsOf (d : Nat) (hk : k < 8) {j : Nat} (hj : j < 8) : C mX4_hasBendsOf (d + 2) 0 0 [.ref (7 + 2 * k), .ref (7 + 2 * j)] (hp A B) (fun r h' => h' = hp A B ∧ r = some (.int (hbF (A (8 + 2 * k)) (A (8 + 2 * j))))) := by
  refine C.of [some (.ref (7 + 2 * k)), some (.ref (7 + 2 * j)), none] omX4_hasBendsOf rfl rfl rfl ?_
  repeat' (first | refine V.s omX4_hasBendsOf rfl rfl ?_ | simp only [Int32.reduceAdd, Int32.reduceMul, Int32.reduceSub] | refine V.brF omX4_hasBendsOf rfl rfl (by decide) ?_ | refine V.brT omX4_hasBendsOf rfl rfl (by decide) (by decide) ?_ | refine V.cVf omX4_hasBendsOf omX4_bend rfl rfl (c_bend _ hk nv_lit (by decide)) rfl rfl (hpQ hk) rfl rfl rfl ?_ | refine V.cVf omX4_hasBendsOf omX4_howOften rfl rfl (c_howOften _ hk _) rfl rfl (hpQ hk) rfl rfl rfl ?_ | refine V.cVf omX4_hasBendsOf omX4_howOften rfl rfl (c_howOften _ hj _) rfl rfl (hpQ hj) rfl rfl rfl ?_ | refine V.br omX4_hasBendsOf rfl rfl (fun hc => ?_) (fun hc => ?_))
  all_goals refine V.zret omX4_hasBendsOf rfl rfl (by decide) ⟨rfl, ?_⟩
  all_goals simp only [Nat.reduceMul, Nat.mul_zero, Nat.mul_one] at *
  all_goals simp [hbF, *]
abbrev law4 (f : Nat → Int32) (p : Nat) : Prop := lawP (f (4 * p)) (f (4 * p + 1)) (f (4 * p + 2)) (f (4 * p + 3))
def lawsF (f : Nat → Int32) : Int32 := if law4 f 0 ∧ law4 f 1 ∧ law4 f 2 ∧ law4 f 3 then 1 else 0
theorem klF_eq0 {a b x y : Int32} : klF a b x y = 0 ↔ ¬ lawP a b x y := by
  by_cases h : lawP a b x y
  · unfold klF; rw [if_pos h]; exact ⟨fun q => absurd q (by decide), fun q => absurd h q⟩
  · unfold klF; rw [if_neg h]; exact ⟨fun _ => h, fun _ => rfl⟩
theorem klF_ne {a b x y : Int32} : ¬ klF a b x y = 0 ↔ lawP a b x y := by
  rw [klF_eq0, Classical.not_not]
theorem c_keepsLaws (d : Nat) (hk : k < 8) : C mX4_keepsLaws (d + 2) 0 0 [.ref (7 + 2 * k)] (hp A B) (fun r h' => h' = hp A B ∧ r = some (.int (lawsF (A (8 + 2 * k))))) := by
  refine C.of [some (.ref (7 + 2 * k)), none] omX4_keepsLaws rfl rfl rfl ?_
  repeat' (first | refine V.s omX4_keepsLaws rfl rfl ?_ | simp only [Int32.reduceAdd, Int32.reduceMul, Int32.reduceSub] | refine V.brF omX4_keepsLaws rfl rfl (by decide) ?_ | refine V.brT omX4_keepsLaws rfl rfl (by decide) (by decide) ?_ | refine V.cVf omX4_keepsLaws omX4_number rfl rfl (c_number _ hk nv_lit nv_lit (by decide) (by decide)) rfl rfl (hpQ hk) rfl rfl rfl ?_ | refine V.cSf omX4_keepsLaws omX2_keepLaw rfl rfl (c_keepLaw _ _ _ _ _ _) rfl rfl rfl rfl ?_ | refine V.br omX4_keepsLaws rfl rfl (fun hc => ?_) (fun hc => ?_))
  all_goals refine V.zret omX4_keepsLaws rfl rfl (by decide) ⟨rfl, ?_⟩
  all_goals simp only [klF_ne, klF_eq0] at *
  all_goals simp [lawsF, law4, *]
def tchF (f : Nat → Int32) : Int32 := if prd f f 4 0 = -2 ∧ prd f f 8 0 = -2 ∧ prd f f 8 4 = -2 ∧ prd f f 12 0 = -2 ∧ prd f f 12 4 = -2 ∧ prd f f 12 8 = -2 then 1 else 0
end QUAD2
end
section
section LEAD
variable {A : Nat → Nat → Int32} {B : Nat → Nat → Int64} {k : Nat}
set_option maxHeartbeats 4000000 in
set_option maxRecDepth 100000 in
theorem leadBack_loop (d : Nat) (hk : k < 8) (c4 : Bool) (R : Int32 × (Nat → Int32) × Int32) : ∀ (m s : Nat) (f : Nat → Int32) (fp : Int32) (v3 : Option Value), s + m = 1000000 → R = lb c4 m s f fp →
    V mX4_leadBack (d + 2) 0 0 (fun r h' => h' = hp (Lh A k R.2.1 R.2.2) B ∧ r = some (.int R.1)) 0 0 7 [some (.ref (7 + 2 * k)), some (.int (bif c4 then 4 else 1)), some (.int (nI s)), v3] [] (hp (Lh A k f fp) B) := by
  intro m
  induction m with
  | zero =>
    intro s f fp v3 hs hR
    have : s = 1000000 := by omega
    subst this
    refine V.s omX4_leadBack rfl rfl ?_
    refine V.s omX4_leadBack rfl rfl ?_
    refine V.brT omX4_leadBack rfl rfl (by decide) (by decide) ?_
    refine V.s omX4_leadBack rfl rfl ?_
    subst hR
    exact V.iret omX4_leadBack rfl rfl ⟨rfl, rfl⟩
  | succ m ih =>
    intro s f fp v3 hs hR
    refine V.s omX4_leadBack rfl rfl ?_
    refine V.s omX4_leadBack rfl rfl ?_
    refine V.brF omX4_leadBack rfl rfl (by rw [nIl_le 1000000 (by omega) (by decide)]; omega) ?_
    have cg : C mX4_placeOfGreatestBend (d + 1) 0 0 [.ref (7 + 2 * k)] (hp (Lh A k f fp) B) (fun r h' => h' = hp (Lh A k f fp) B ∧ r = some (.int (nI (gst f)))) := by
      have h := c_greatestBend (A := Lh A k f fp) (B := B) d hk
      rwa [Lh_arr] at h
    have cs : C mX4_swapped (d + 1) 0 0 [.ref (7 + 2 * k), .int (nI (gst f)), .int 0] (hp (Lh A k f fp) B) (fun r h' => h' = hp (Lh A k f fp) B ∧ r = some (.long (swp f (gst f) 0))) := by
      have h := c_swapped (A := Lh A k f fp) (B := B) (d + 1) hk (nv_nI (a := gst f)) (nv_lit (n := 0)) (gst_lt f) (by decide)
      rwa [Lh_arr] at h
    have cb : C mX4_bend (d + 1) 0 0 [.ref (7 + 2 * k), .int (nI (gst f))] (hp (Lh A k f fp) B) (fun r h' => h' = hp (Lh A k f fp) B ∧ r = some (.int (f (4 * gst f)))) := by
      have h := c_bend (A := Lh A k f fp) (B := B) (d + 1) hk (nv_nI (a := gst f)) (gst_lt f)
      rwa [Lh_arr] at h
    have ct : C mX4_trySwap (d + 1) 0 0 [.ref (7 + 2 * k), .int (nI (gst f)), .int (bif c4 then 4 else 1)] (hp (Lh A k f fp) B) (fun r h' => h' = hp (if lbOk c4 f (gst f) = true then Lh A k (lbS c4 f (gst f)) fp else Lh A k f fp) B ∧ r = some (.int (if lbOk c4 f (gst f) = true then 1 else 0))) := by
      have h := c_trySwapC (A := Lh A k f fp) (B := B) d hk c4 (nv_nI (a := gst f)) (gst_lt f)
      rwa [Lh_arr, Lh_set] at h
    repeat (first | refine V.s omX4_leadBack rfl rfl ?_ | refine V.cVf omX4_leadBack omX4_placeOfGreatestBend rfl rfl (cg) rfl rfl (hpQ hk) rfl rfl rfl ?_ | refine V.cVf omX4_leadBack omX4_swapped rfl rfl (cs) rfl rfl (hpQ hk) rfl rfl rfl ?_ | refine V.cVf omX4_leadBack omX4_bend rfl rfl (cb) rfl rfl (hpQ hk) rfl rfl rfl ?_)
    refine V.br omX4_leadBack rfl rfl (fun hc => ?_) (fun hc => ?_)
    · rw [lgc_lt] at hc
      simp only [lb, if_pos hc] at hR
      refine V.s omX4_leadBack rfl rfl ?_
      refine V.s omX4_leadBack rfl rfl ?_
      refine V.s omX4_leadBack rfl rfl ?_
      refine V.cVf (q := 7 + 2 * k) (As := [.int (nI (gst f)), .int (bif c4 then 4 else 1)]) (rest := []) (v := .int (if lbOk c4 f (gst f) = true then 1 else 0)) (H' := hp (if lbOk c4 f (gst f) = true then Lh A k (lbS c4 f (gst f)) fp else Lh A k f fp) B) omX4_leadBack omX4_trySwap rfl rfl ct rfl rfl (hpQ hk) rfl rfl rfl ?_
      by_cases ho : lbOk c4 f (gst f) = true
      · simp only [if_pos ho] at hR ⊢
        refine V.brT omX4_leadBack rfl rfl (by decide) (by decide) ?_
        refine V.s omX4_leadBack rfl rfl ?_
        refine V.s omX4_leadBack rfl rfl ?_
        refine V.br omX4_leadBack rfl rfl (fun hd => ?_) (fun hd => ?_)
        · rw [nIl_le 15 (by omega) (by decide)] at hd
          refine V.s omX4_leadBack rfl rfl ?_
          refine V.s omX4_leadBack rfl rfl ?_
          rw [nI_1]
          refine ih (s + 1) _ _ _ (by omega) ?_
          rw [hR, lbP, if_neg (Nat.not_lt.mpr hd)]
        · rw [nIl_lt 15 (by omega) (by decide)] at hd
          repeat (first | refine V.s omX4_leadBack rfl rfl ?_ | refine V.gf omX4_leadBack rfl (hpQ hk) rfl rfl ?_)
          refine V.pfH omX4_leadBack rfl (hpQ hk) rfl rfl rfl rfl rfl ?_
          refine V.s omX4_leadBack rfl rfl ?_
          refine V.s omX4_leadBack rfl rfl ?_
          rw [nI_1, Lh_put, Lh_fp]
          refine ih (s + 1) _ _ _ (by omega) ?_
          rw [hR, lbP, if_pos hd]
      · simp only [if_neg ho] at hR ⊢
        refine V.brF omX4_leadBack rfl rfl (by decide) ?_
        refine V.s omX4_leadBack rfl rfl ?_
        subst hR
        exact V.iret omX4_leadBack rfl rfl ⟨rfl, rfl⟩
    · rw [lgc_ge] at hc
      simp only [lb, if_neg (Int64.not_lt.mpr hc)] at hR
      refine V.s omX4_leadBack rfl rfl ?_
      subst hR
      exact V.iret omX4_leadBack rfl rfl ⟨rfl, rfl⟩
theorem c_leadBack (d : Nat) (hk : k < 8) (c4 : Bool) : C mX4_leadBack (d + 2) 0 0 [.ref (7 + 2 * k), .int (bif c4 then 4 else 1)] (hp A B) (fun r h' => h' = hp (Lh A k (lb c4 1000000 0 (A (8 + 2 * k)) 0).2.1 (lb c4 1000000 0 (A (8 + 2 * k)) 0).2.2) B ∧ r = some (.int (lb c4 1000000 0 (A (8 + 2 * k)) 0).1)) := by
  refine C.of [some (.ref (7 + 2 * k)), some (.int (bif c4 then 4 else 1)), none, none] omX4_leadBack rfl rfl rfl ?_
  refine V.s omX4_leadBack rfl rfl ?_
  refine V.s omX4_leadBack rfl rfl ?_
  refine V.pfH omX4_leadBack rfl (hpQ hk) rfl rfl rfl rfl rfl ?_
  refine V.s omX4_leadBack rfl rfl ?_
  refine V.s omX4_leadBack rfl rfl ?_
  rw [Lh_0]
  exact leadBack_loop d hk c4 _ 1000000 0 _ _ _ rfl rfl
/-- what the least bends are, out of a kiss -/
def lbB (f g : Nat → Int32) : Int32 × (Nat → Int32) × Int32 := lb false 1000000 0 (va_cpy f g 0 0 16) 0
theorem c_takeLeastBends (d : Nat) (hk : k < 8) {j : Nat} (hj : j < 8) : C mX4_takeLeastBends (d + 3) 0 0 [.ref (7 + 2 * k), .ref (7 + 2 * j)] (hp A B) (fun r h' => h' = hp (Lh A k (lbB (A (8 + 2 * j)) (A (8 + 2 * k))).2.1 (lbB (A (8 + 2 * j)) (A (8 + 2 * k))).2.2) B ∧ r = none) := by
  refine C.of [some (.ref (7 + 2 * k)), some (.ref (7 + 2 * j))] omX4_takeLeastBends rfl rfl rfl ?_
  refine V.s omX4_takeLeastBends rfl rfl ?_
  refine V.s omX4_takeLeastBends rfl rfl ?_
  refine V.cVv omX4_takeLeastBends omX4_take rfl rfl (c_take _ hk hj) rfl rfl (hpQ hk) rfl rfl rfl ?_
  refine V.s omX4_takeLeastBends rfl rfl ?_
  refine V.s omX4_takeLeastBends rfl rfl ?_
  refine V.cVf omX4_takeLeastBends omX4_leadBack rfl rfl (c_leadBack d hk false) rfl rfl (hpQ hk) rfl rfl rfl ?_
  refine V.s omX4_takeLeastBends rfl rfl ?_
  refine V.vret omX4_takeLeastBends rfl rfl ⟨?_, rfl⟩
  rw [va_up_self]
  unfold lbB Lh
  rw [bx_uu, va_up_ne _ _ (show 7 + 2 * k ≠ 8 + 2 * k by omega)]
end LEAD
end
section
section SHELF
variable {A : Nat → Nat → Int32} {B : Nat → Nat → Int64} {k : Nat}
theorem c_has (d : Nat) (r : Int32) : C mX5_has d 0 0 [.ref 1, .int r] (hp A B) (fun r' h' => h' = hp A B ∧ r' = some (.int (if 0 ≤ r ∧ r < A 1 4 then 1 else 0))) := by
  refine C.of [some (.ref 1), some (.int r)] omX5_has rfl rfl rfl ?_
  repeat' (first | refine V.s omX5_has rfl rfl ?_ | refine V.gf omX5_has rfl rfl rfl rfl ?_ | refine V.br omX5_has rfl rfl (fun hc => ?_) (fun hc => ?_))
  all_goals refine V.zret omX5_has rfl rfl (by decide) ⟨rfl, ?_⟩
  all_goals simp only [← Int32.not_lt] at *
  all_goals simp [*]
theorem c_isFull (d : Nat) : C mX5_isFull d 0 0 [.ref 1] (hp A B) (fun r' h' => h' = hp A B ∧ r' = some (.int (if 20 ≤ A 1 4 then 1 else 0))) := by
  refine C.of [some (.ref 1)] omX5_isFull rfl rfl rfl ?_
  repeat' (first | refine V.s omX5_isFull rfl rfl ?_ | refine V.gf omX5_isFull rfl rfl rfl rfl ?_ | refine V.br omX5_isFull rfl rfl (fun hc => ?_) (fun hc => ?_))
  all_goals refine V.zret omX5_isFull rfl rfl (by decide) ⟨rfl, ?_⟩
  all_goals simp only [← Int32.not_lt] at *
  all_goals simp [*]
theorem c_num (d : Nat) {a b : Int32} {i c : Nat} (ha : NV a i) (hb : NV b c) (hi : i < 20) (hc : c < 4) : C mX5_number d 0 0 [.ref 1, .int a, .int b] (hp A B) (fun r h' => h' = hp A B ∧ r = some (.int (A 2 (4 * i + c)))) := by
  unfold NV at ha hb
  subst ha hb
  refine C.of [some (.ref 1), some (.int (nI i)), some (.int (nI c))] omX5_number rfl rfl rfl ?_
  repeat (first | refine V.s omX5_number rfl rfl ?_ | refine V.gf omX5_number rfl rfl rfl rfl ?_ | refine V.ial omX5_number rfl rfl (ixN (nv_add (nv_mul nv_lit nv_nI) nv_nI) (by omega) (by decide)) ?_)
  exact V.iret omX5_number rfl rfl ⟨rfl, rfl⟩
def putN (f : Nat → Int32) (n : Nat) (a b x y : Int32) : Nat → Int32 := upd (upd (upd (upd f (4 * n) a) (4 * n + 1) b) (4 * n + 2) x) (4 * n + 3) y
def putA (A : Nat → Nat → Int32) (n : Nat) (kd a b x y : Int32) : Nat → Nat → Int32 := va_up (va_up (va_up A 2 (putN (A 2) n a b x y)) 3 (upd (A 3) n kd)) 1 (upd (A 1) 4 (nI (n + 1)))
theorem c_put (d : Nat) {n : Nat} (hn : A 1 4 = nI n) (h20 : n < 20) (kd a b x y : Int32) : C mX5_put d 0 0 [.ref 1, .int kd, .int a, .int b, .int x, .int y] (hp A B) (fun r h' => h' = hp (putA A n kd a b x y) B ∧ r = some (.int (nI n))) := by
  refine C.of [some (.ref 1), some (.int kd), some (.int a), some (.int b), some (.int x), some (.int y), none] omX5_put rfl rfl rfl ?_
  refine V.s omX5_put rfl rfl ?_
  refine V.s omX5_put rfl rfl ?_
  refine V.gf omX5_put rfl rfl rfl rfl ?_
  rw [hn]
  repeat (first | refine V.s omX5_put rfl rfl ?_ | refine V.gf omX5_put rfl rfl rfl rfl ?_ | refine V.iasH omX5_put rfl rfl (ixN (nv_mul nv_lit nv_nI) (by omega) (by decide)) ?_ | refine V.iasH omX5_put rfl rfl (ixN (nv_add (nv_mul nv_lit nv_nI) nv_lit) (by omega) (by decide)) ?_)
  simp +decide only [va_up_self, va_up_ne, bx_uu, hn]
  refine V.iasH omX5_put rfl rfl (ixN nv_nI (by omega) (by decide)) ?_
  repeat (first | refine V.s omX5_put rfl rfl ?_ | refine V.gf omX5_put rfl rfl rfl rfl ?_)
  simp +decide only [va_up_self, va_up_ne, bx_uu, hn]
  rw [nI_1]
  refine V.pfH omX5_put rfl rfl rfl rfl rfl rfl rfl ?_
  repeat (first | refine V.s omX5_put rfl rfl ?_ | refine V.gf omX5_put rfl rfl rfl rfl ?_)
  simp +decide only [va_up_self, va_up_ne, bx_uu, pk_us]
  rw [nI_pred]
  refine V.iret omX5_put rfl rfl ⟨?_, rfl⟩
  rfl
def ovA (A : Nat → Nat → Int32) (n : Nat) (p q : Int32) : Nat → Nat → Int32 := putA (va_up (va_up A 4 (upd (A 4) n p)) 5 (upd (A 5) n q)) n 2 (2 * q * q) (2 * p * p) (2 * p * q) 1
theorem c_putOver (d : Nat) {n : Nat} (hn : A 1 4 = nI n) (h20 : n < 20) (p q : Int32) : C mX5_putOver (d + 1) 0 0 [.ref 1, .int p, .int q] (hp A B) (fun r h' => h' = hp (ovA A n p q) B ∧ r = some (.int (nI n))) := by
  refine C.of [some (.ref 1), some (.int p), some (.int q)] omX5_putOver rfl rfl rfl ?_
  repeat (first | refine V.s omX5_putOver rfl rfl ?_ | refine V.gf omX5_putOver rfl rfl rfl rfl ?_)
  rw [hn]
  repeat (first | refine V.s omX5_putOver rfl rfl ?_ | refine V.gf omX5_putOver rfl rfl rfl rfl ?_ | refine V.iasH omX5_putOver rfl rfl (ixN nv_nI (by omega) (by decide)) ?_)
  simp +decide only [va_up_ne, hn]
  repeat (first | refine V.s omX5_putOver rfl rfl ?_ | refine V.gf omX5_putOver rfl rfl rfl rfl ?_ | refine V.iasH omX5_putOver rfl rfl (ixN nv_nI (by omega) (by decide)) ?_)
  simp +decide only [va_up_ne]
  refine V.cVf omX5_putOver omX5_put rfl rfl (c_put d (n := n) (by simp +decide only [va_up_ne, hn]) h20 _ _ _ _ _) rfl rfl rfl rfl rfl rfl ?_
  exact V.iret omX5_putOver rfl rfl ⟨rfl, rfl⟩
def flA (A : Nat → Nat → Int32) (n i : Nat) : Nat → Nat → Int32 := putA A n (kbF (-(A 2 (4 * i + 0)))) (-(A 2 (4 * i + 0))) (-(A 2 (4 * i + 1))) (-(A 2 (4 * i + 2))) (-(A 2 (4 * i + 3)))
set_option maxHeartbeats 4000000 in
set_option maxRecDepth 100000 in
theorem c_putOtherSide (d : Nat) {n i : Nat} (hn : A 1 4 = nI n) (h20 : n < 20) (hi : i < 20) {a : Int32} (ha : NV a i) : C mX5_putOtherSide (d + 1) 0 0 [.ref 1, .int a] (hp A B) (fun r h' => h' = hp (flA A n i) B ∧ r = some (.int (nI n))) := by
  unfold NV at ha
  subst ha
  refine C.of [some (.ref 1), some (.int (nI i)), none] omX5_putOtherSide rfl rfl rfl ?_
  repeat (first | refine V.s omX5_putOtherSide rfl rfl ?_ | refine V.gf omX5_putOtherSide rfl rfl rfl rfl ?_ | refine V.cVf omX5_putOtherSide omX5_number rfl rfl (c_num _ nv_nI nv_lit hi (by decide)) rfl rfl rfl rfl rfl rfl ?_ | refine V.cSf omX5_putOtherSide omX2_kindByBend rfl rfl (c_kindByBend _ _ _) rfl rfl rfl rfl ?_)
  refine V.cVf omX5_putOtherSide omX5_put rfl rfl (c_put d hn h20 _ _ _ _ _) rfl rfl rfl rfl rfl rfl ?_
  exact V.iret omX5_putOtherSide rfl rfl ⟨rfl, rfl⟩
theorem c_takeLatest (d : Nat) {n : Nat} (hn : A 1 4 = nI (n + 1)) : C mX5_takeLatest d 0 0 [.ref 1] (hp A B) (fun r h' => h' = hp (va_up A 1 (upd (A 1) 4 (nI n))) B ∧ r = some (.int (nI n))) := by
  refine C.of [some (.ref 1)] omX5_takeLatest rfl rfl rfl ?_
  repeat (first | refine V.s omX5_takeLatest rfl rfl ?_ | refine V.gf omX5_takeLatest rfl rfl rfl rfl ?_)
  rw [hn, nI_pred]
  repeat (first | refine V.s omX5_takeLatest rfl rfl ?_ | refine V.gf omX5_takeLatest rfl rfl rfl rfl ?_ | refine V.pfH omX5_takeLatest rfl rfl rfl rfl rfl rfl rfl ?_)
  simp only [va_up_self, pk_us]
  exact V.iret omX5_takeLatest rfl rfl ⟨rfl, rfl⟩
theorem c_productOf (d : Nat) {a b : Int32} {i j : Nat} (ha : NV a i) (hb : NV b j) (hi : i < 20) (hj : j < 20) : C mX5_productOf (d + 1) 0 0 [.ref 1, .int a, .int b] (hp A B) (fun r h' => h' = hp A B ∧ r = some (.long (prd (A 2) (A 2) (4 * i) (4 * j)))) := by
  unfold NV at ha hb
  subst ha hb
  refine C.of [some (.ref 1), some (.int (nI i)), some (.int (nI j))] omX5_productOf rfl rfl rfl ?_
  repeat (first | refine V.s omX5_productOf rfl rfl ?_ | refine V.gf omX5_productOf rfl rfl rfl rfl ?_)
  rw [show (4 : Int32) * nI i = nI (4 * i) from nv_mul nv_lit nv_nI, show (4 : Int32) * nI j = nI (4 * j) from nv_mul nv_lit nv_nI]
  refine V.cSf omX5_productOf omX2_productAt rfl rfl (c_productAt d (len := 80) (f := A 2) rfl (by omega) (by omega) (by decide)) rfl rfl rfl rfl ?_
  exact V.lret omX5_productOf rfl rfl ⟨rfl, rfl⟩
def alF (f : Nat → Int32) (i j : Nat) : Int32 := if f (4 * i + 0) = f (4 * j + 0) ∧ f (4 * i + 1) = f (4 * j + 1) ∧ f (4 * i + 2) = f (4 * j + 2) ∧ f (4 * i + 3) = f (4 * j + 3) then 1 else 0
theorem c_isAlike (d : Nat) {a b : Int32} {i j : Nat} (ha : NV a i) (hb : NV b j) (hi : i < 20) (hj : j < 20) : C mX5_isAlike (d + 1) 0 0 [.ref 1, .int a, .int b] (hp A B) (fun r h' => h' = hp A B ∧ r = some (.int (alF (A 2) i j))) := by
  unfold NV at ha hb
  subst ha hb
  refine C.of [some (.ref 1), some (.int (nI i)), some (.int (nI j)), none] omX5_isAlike rfl rfl rfl ?_
  repeat' (first | refine V.s omX5_isAlike rfl rfl ?_ | refine V.gf omX5_isAlike rfl rfl rfl rfl ?_ | simp only [Int32.reduceAdd, Int32.reduceMul, Int32.reduceSub] | refine V.brF omX5_isAlike rfl rfl (by decide) ?_ | refine V.brT omX5_isAlike rfl rfl (by decide) (by decide) ?_ | refine V.cVf omX5_isAlike omX5_number rfl rfl (c_num _ (nv_nI (a := i)) nv_lit hi (by decide)) rfl rfl rfl rfl rfl rfl ?_ | refine V.cVf omX5_isAlike omX5_number rfl rfl (c_num _ (nv_nI (a := j)) nv_lit hj (by decide)) rfl rfl rfl rfl rfl rfl ?_ | refine V.br omX5_isAlike rfl rfl (fun hc => ?_) (fun hc => ?_))
  all_goals refine V.zret omX5_isAlike rfl rfl (by decide) ⟨rfl, ?_⟩
  all_goals simp only [Nat.add_zero] at *
  all_goals simp [alF, *]
def mrr (f : Nat → Int32) (i j c : Nat) (v : Int64) : Int64 := (f (4 * i + c)).toInt64 - v * (f (4 * j + c)).toInt64
theorem c_mirrored (d : Nat) {a b e : Int32} {i j c : Nat} (ha : NV a i) (hb : NV b j) (he : NV e c) (hi : i < 20) (hj : j < 20) (hc : c < 4) (v : Int64) : C mX5_mirrored (d + 1) 0 0 [.ref 1, .int a, .int b, .int e, .long v] (hp A B) (fun r h' => h' = hp A B ∧ r = some (.long (mrr (A 2) i j c v))) := by
  unfold NV at ha hb he
  subst ha hb he
  refine C.of [some (.ref 1), some (.int (nI i)), some (.int (nI j)), some (.int (nI c)), some (.long v), none] omX5_mirrored rfl rfl rfl ?_
  repeat (first | refine V.s omX5_mirrored rfl rfl ?_ | refine V.gf omX5_mirrored rfl rfl rfl rfl ?_ | refine V.cVf omX5_mirrored omX5_number rfl rfl (c_num _ (nv_nI (a := i)) (nv_nI (a := c)) hi hc) rfl rfl rfl rfl rfl rfl ?_ | refine V.cVf omX5_mirrored omX5_number rfl rfl (c_num _ (nv_nI (a := j)) (nv_nI (a := c)) hj hc) rfl rfl rfl rfl rfl rfl ?_)
  exact V.lret omX5_mirrored rfl rfl ⟨rfl, rfl⟩
abbrev mfP (f : Nat → Int32) (i j : Nat) : Prop := (-2000000000 ≤ prd f f (4 * i) (4 * j) ∧ prd f f (4 * i) (4 * j) ≤ 2000000000) ∧ fitF (mrr f i j 0 (prd f f (4 * i) (4 * j))) = 1 ∧ fitF (mrr f i j 1 (prd f f (4 * i) (4 * j))) = 1 ∧ fitF (mrr f i j 2 (prd f f (4 * i) (4 * j))) = 1 ∧ fitF (mrr f i j 3 (prd f f (4 * i) (4 * j))) = 1
set_option maxHeartbeats 4000000 in
set_option maxRecDepth 100000 in
theorem c_mirrorFits (d : Nat) {a b : Int32} {i j : Nat} (ha : NV a i) (hb : NV b j) (hi : i < 20) (hj : j < 20) : C mX5_mirrorFits (d + 2) 0 0 [.ref 1, .int a, .int b] (hp A B) (fun r h' => h' = hp A B ∧ r = some (.int (if mfP (A 2) i j then 1 else 0))) := by
  unfold NV at ha hb
  subst ha hb
  refine C.of [some (.ref 1), some (.int (nI i)), some (.int (nI j)), none, none, none] omX5_mirrorFits rfl rfl rfl ?_
  repeat' (first | refine V.s omX5_mirrorFits rfl rfl ?_ | refine V.gf omX5_mirrorFits rfl rfl rfl rfl ?_ | simp only [Int32.reduceAdd, Int32.reduceMul, Int32.reduceSub] | refine V.brF omX5_mirrorFits rfl rfl (by decide) ?_ | refine V.brT omX5_mirrorFits rfl rfl (by decide) (by decide) ?_ | refine V.cVf omX5_mirrorFits omX5_productOf rfl rfl (c_productOf _ nv_nI nv_nI hi hj) rfl rfl rfl rfl rfl rfl ?_ | refine V.cVf omX5_mirrorFits omX5_mirrored rfl rfl (c_mirrored _ nv_nI nv_nI nv_lit hi hj (by decide) _) rfl rfl rfl rfl rfl rfl ?_ | refine V.cSf omX5_mirrorFits omX2_fits rfl rfl (c_fits _ _ _) rfl rfl rfl rfl ?_ | refine V.br omX5_mirrorFits rfl rfl (fun hc => ?_) (fun hc => ?_))
  all_goals refine V.zret omX5_mirrorFits rfl rfl (by decide) ⟨rfl, ?_⟩
  all_goals try simp only [lgc_lt, lgc_ge, lgc_le, lgc_gt, fitF_ne, ← Int64.not_lt] at *
  all_goals simp [mfP, ← Int64.not_lt, *]
def mrA (A : Nat → Nat → Int32) (n i j : Nat) : Nat → Nat → Int32 := putA A n 3 (mrr (A 2) i j 0 (prd (A 2) (A 2) (4 * i) (4 * j))).toInt32 (mrr (A 2) i j 1 (prd (A 2) (A 2) (4 * i) (4 * j))).toInt32 (mrr (A 2) i j 2 (prd (A 2) (A 2) (4 * i) (4 * j))).toInt32 (mrr (A 2) i j 3 (prd (A 2) (A 2) (4 * i) (4 * j))).toInt32
set_option maxHeartbeats 4000000 in
set_option maxRecDepth 100000 in
theorem c_putMirror (d : Nat) {n i j : Nat} (hn : A 1 4 = nI n) (h20 : n < 20) {a b : Int32} (ha : NV a i) (hb : NV b j) (hi : i < 20) (hj : j < 20) : C mX5_putMirror (d + 2) 0 0 [.ref 1, .int a, .int b] (hp A B) (fun r h' => h' = hp (mrA A n i j) B ∧ r = some (.int (nI n))) := by
  unfold NV at ha hb
  subst ha hb
  refine C.of [some (.ref 1), some (.int (nI i)), some (.int (nI j)), none, none] omX5_putMirror rfl rfl rfl ?_
  repeat (first | refine V.s omX5_putMirror rfl rfl ?_ | refine V.gf omX5_putMirror rfl rfl rfl rfl ?_ | refine V.cVf omX5_putMirror omX5_productOf rfl rfl (c_productOf _ nv_nI nv_nI hi hj) rfl rfl rfl rfl rfl rfl ?_ | refine V.cVf omX5_putMirror omX5_mirrored rfl rfl (c_mirrored _ nv_nI nv_nI nv_lit hi hj (by decide) _) rfl rfl rfl rfl rfl rfl ?_)
  refine V.cVf omX5_putMirror omX5_put rfl rfl (c_put _ hn h20 _ _ _ _ _) rfl rfl rfl rfl rfl rfl ?_
  exact V.iret omX5_putMirror rfl rfl ⟨rfl, rfl⟩
end SHELF
end
section
section TOUCH
variable {A : Nat → Nat → Int32} {B : Nat → Nat → Int64} {k : Nat}
theorem c_prodN (d : Nat) {q len i j : Nat} {f : Nat → Int32} {h : hp_T} (hq : h[q]? = some (.inl (len, .inl f))) {a b : Int32} (ha : NV a i) (hb : NV b j) (hi : i + 3 < len) (hj : j + 3 < len) (hl : len < 2 ^ 31) : C mX2_productAt d 0 0 [.ref q, .int a, .int b] h (fun r h' => h' = h ∧ r = some (.long (prd f f i j))) := by
  unfold NV at ha hb
  subst ha hb
  exact c_productAt d hq hi hj hl
set_option maxHeartbeats 4000000 in
set_option maxRecDepth 100000 in
theorem c_allTouch (d : Nat) (hk : k < 8) : C mX4_allTouch (d + 1) 0 0 [.ref (7 + 2 * k)] (hp A B) (fun r h' => h' = hp A B ∧ r = some (.int (tchF (A (8 + 2 * k))))) := by
  refine C.of [some (.ref (7 + 2 * k)), none, none] omX4_allTouch rfl rfl rfl ?_
  repeat' (first | refine V.s omX4_allTouch rfl rfl ?_ | simp only [Int32.reduceAdd, Int32.reduceMul, Int32.reduceSub] | refine V.brF omX4_allTouch rfl rfl (by decide) ?_ | refine V.brT omX4_allTouch rfl rfl (by decide) (by decide) ?_ | refine V.gf omX4_allTouch rfl (hpQ hk) rfl rfl ?_ | refine V.cSf omX4_allTouch omX2_productAt rfl rfl (c_prodN _ (hpR hk) nv_lit nv_lit (by decide) (by decide) (by decide)) rfl rfl rfl rfl ?_ | refine V.br omX4_allTouch rfl rfl (fun hc => ?_) (fun hc => ?_))
  all_goals refine V.zret omX4_allTouch rfl rfl (by decide) ⟨rfl, ?_⟩
  all_goals simp only [lgc_eq] at *
  all_goals simp [tchF, *]
end TOUCH
end
section
section RK1
variable {A : Nat → Nat → Int32} {B : Nat → Nat → Int64}
def rfI (v : Int32) : Nat := (-v).toNatClampNeg
def rfB (v : Int32) : Bool := decide (¬ (-v < 0 ∨ 9 ≤ (-v).toNatClampNeg))
def rfA (A : Nat → Nat → Int32) (c : Nat) : Nat → Nat → Int32 := va_up A 32 (upd (A 32) c (A 32 c + 1))
theorem c_refuse (d : Nat) (v : Int32) (hv : rfB v = true) : C mX7_refuse d 0 0 [.ref 0, .int v] (hp A B) (fun r h' => h' = hp (rfA A (rfI v)) B ∧ r = some (.int v)) := by
  have hx : ix (-v) (rfI v) 9 := ⟨rfl, show ¬ (-v < 0 ∨ 9 ≤ (-v).toNatClampNeg) from of_decide_eq_true hv⟩
  refine C.of [some (.ref 0), some (.int v)] omX7_refuse rfl rfl rfl ?_
  repeat (first | refine V.s omX7_refuse rfl rfl ?_ | refine V.gf omX7_refuse rfl rfl rfl rfl ?_)
  refine V.ial omX7_refuse rfl rfl hx ?_
  repeat (first | refine V.s omX7_refuse rfl rfl ?_ | refine V.gf omX7_refuse rfl rfl rfl rfl ?_)
  refine V.iasH omX7_refuse rfl rfl hx ?_
  repeat (first | refine V.s omX7_refuse rfl rfl ?_ | refine V.gf omX7_refuse rfl rfl rfl rfl ?_)
  exact V.iret omX7_refuse rfl rfl ⟨rfl, rfl⟩
theorem c_refuseByZero (d : Nat) (v : Int32) (hv : rfB v = true) : C mX7_refuseByZero d 0 0 [.ref 0, .int v] (hp A B) (fun r h' => h' = hp (rfA A (rfI v)) B ∧ r = some (.int 0)) := by
  have hx : ix (-v) (rfI v) 9 := ⟨rfl, show ¬ (-v < 0 ∨ 9 ≤ (-v).toNatClampNeg) from of_decide_eq_true hv⟩
  refine C.of [some (.ref 0), some (.int v)] omX7_refuseByZero rfl rfl rfl ?_
  repeat (first | refine V.s omX7_refuseByZero rfl rfl ?_ | refine V.gf omX7_refuseByZero rfl rfl rfl rfl ?_)
  refine V.ial omX7_refuseByZero rfl rfl hx ?_
  repeat (first | refine V.s omX7_refuseByZero rfl rfl ?_ | refine V.gf omX7_refuseByZero rfl rfl rfl rfl ?_)
  refine V.iasH omX7_refuseByZero rfl rfl hx ?_
  repeat (first | refine V.s omX7_refuseByZero rfl rfl ?_ | refine V.gf omX7_refuseByZero rfl rfl rfl rfl ?_)
  exact V.iret omX7_refuseByZero rfl rfl ⟨rfl, rfl⟩
theorem nI20 {n : Nat} (h : n ≤ 20) : (20 ≤ nI n) ↔ 20 ≤ n := nIl_le 20 (by omega) (by decide)
theorem rng {n : Nat} {r : Int32} (hn : n < 2 ^ 31) (h : 0 ≤ r ∧ r < nI n) : ∃ i, i < n ∧ r = nI i := by
  rcases pk_ix r hn with h1 | h1 | h1
  · exact absurd h1 (Int32.not_lt.mpr h.1)
  · exact absurd h.2 (Int32.not_lt.mpr h1)
  · exact h1
theorem rng_in {n i : Nat} (hi : i < n) (hn : n < 2 ^ 31) : 0 ≤ nI i ∧ nI i < nI n := ⟨nI_pos' (by omega), nI_lt hi hn⟩
def s7_round (A : Nat → Nat → Int32) (n : Nat) (a b x y : Int32) : Int32 × (Nat → Nat → Int32) := if lawP a b x y then (if n < 20 then (nI n, putA A n (kbF a) a b x y) else (-8, rfA A 8)) else (-7, rfA A 7)
set_option maxHeartbeats 4000000 in
set_option maxRecDepth 100000 in
theorem c7_round (d : Nat) {n : Nat} (hn : A 1 4 = nI n) (h20 : n ≤ 20) (a b x y : Int32) : C mX7_round (d + 2) 0 0 [.ref 0, .int a, .int b, .int x, .int y] (hp A B) (fun r h' => h' = hp (s7_round A n a b x y).2 B ∧ r = some (.int (s7_round A n a b x y).1)) := by
  refine C.of [some (.ref 0), some (.int a), some (.int b), some (.int x), some (.int y)] omX7_round rfl rfl rfl ?_
  repeat (first | refine V.s omX7_round rfl rfl ?_ | refine V.gf omX7_round rfl rfl rfl rfl ?_ | refine V.cSf omX7_round omX2_keepLaw rfl rfl (c_keepLaw _ _ _ _ _ _) rfl rfl rfl rfl ?_)
  refine V.br omX7_round rfl rfl (fun hc => ?_) (fun hc => ?_)
  · rw [klF_ne] at hc
    repeat (first | refine V.s omX7_round rfl rfl ?_ | refine V.gf omX7_round rfl rfl rfl rfl ?_ | refine V.cVf omX7_round omX5_isFull rfl rfl (c_isFull _) rfl rfl rfl rfl rfl rfl ?_)
    rw [hn]
    by_cases h2 : n < 20
    · rw [if_neg (by rw [nI20 h20]; omega)]
      refine V.brT omX7_round rfl rfl rfl (by decide) ?_
      repeat (first | refine V.s omX7_round rfl rfl ?_ | refine V.gf omX7_round rfl rfl rfl rfl ?_ | refine V.cSf omX7_round omX2_kindByBend rfl rfl (c_kindByBend _ _ _) rfl rfl rfl rfl ?_)
      refine V.cVf omX7_round omX5_put rfl rfl (c_put _ hn h2 _ _ _ _ _) rfl rfl rfl rfl rfl rfl ?_
      exact V.iret omX7_round rfl rfl (by simp only [s7_round, if_pos hc, if_pos h2, and_self])
    · rw [if_pos (by rw [nI20 h20]; omega)]
      refine V.brF omX7_round rfl rfl (by decide) ?_
      repeat (first | refine V.s omX7_round rfl rfl ?_ | refine V.gf omX7_round rfl rfl rfl rfl ?_)
      refine V.cVf omX7_round omX7_refuse rfl rfl (c_refuse _ _ (by decide)) rfl rfl rfl rfl rfl rfl ?_
      exact V.iret omX7_round rfl rfl ⟨by simp only [s7_round, if_pos hc, if_neg h2]; rfl, by simp only [s7_round, if_pos hc, if_neg h2]⟩
  · rw [klF_eq0] at hc
    repeat (first | refine V.s omX7_round rfl rfl ?_ | refine V.gf omX7_round rfl rfl rfl rfl ?_)
    refine V.cVf omX7_round omX7_refuse rfl rfl (c_refuse _ _ (by decide)) rfl rfl rfl rfl rfl rfl ?_
    exact V.iret omX7_round rfl rfl ⟨by simp only [s7_round, if_neg hc]; rfl, by simp only [s7_round, if_neg hc]⟩
theorem c_hasY (d : Nat) {r : Int32} (h : 0 ≤ r ∧ r < A 1 4) : C mX5_has d 0 0 [.ref 1, .int r] (hp A B) (fun r' h' => h' = hp A B ∧ r' = some (.int 1)) := by
  have h1 := c_has (A := A) (B := B) d r
  rwa [if_pos h] at h1
theorem c_hasN (d : Nat) {r : Int32} (h : ¬ (0 ≤ r ∧ r < A 1 4)) : C mX5_has d 0 0 [.ref 1, .int r] (hp A B) (fun r' h' => h' = hp A B ∧ r' = some (.int 0)) := by
  have h1 := c_has (A := A) (B := B) d r
  rwa [if_neg h] at h1
theorem c_fullY (d : Nat) {n : Nat} (hn : A 1 4 = nI n) (h20 : n ≤ 20) (h : ¬ n < 20) : C mX5_isFull d 0 0 [.ref 1] (hp A B) (fun r' h' => h' = hp A B ∧ r' = some (.int 1)) := by
  have h1 := c_isFull (A := A) (B := B) d
  rwa [hn, if_pos (by rw [nI20 h20]; omega)] at h1
theorem c_fullN (d : Nat) {n : Nat} (hn : A 1 4 = nI n) (h20 : n ≤ 20) (h : n < 20) : C mX5_isFull d 0 0 [.ref 1] (hp A B) (fun r' h' => h' = hp A B ∧ r' = some (.int 0)) := by
  have h1 := c_isFull (A := A) (B := B) d
  rwa [hn, if_neg (by rw [nI20 h20]; omega)] at h1
def s7_drop (A : Nat → Nat → Int32) (n : Nat) : Int32 × (Nat → Nat → Int32) := if n = 0 then (-2, rfA A 2) else (nI (n - 1), va_up A 1 (upd (A 1) 4 (nI (n - 1))))
theorem c7_drop (d : Nat) {n : Nat} (hn : A 1 4 = nI n) (h20 : n ≤ 20) : C mX7_drop (d + 1) 0 0 [.ref 0] (hp A B) (fun r h' => h' = hp (s7_drop A n).2 B ∧ r = some (.int (s7_drop A n).1)) := by
  refine C.of [some (.ref 0)] omX7_drop rfl rfl rfl ?_
  repeat (first | refine V.s omX7_drop rfl rfl ?_ | refine V.gf omX7_drop rfl rfl rfl rfl ?_)
  rw [hn]
  cases n with
  | zero =>
    refine V.brF omX7_drop rfl rfl (by decide) ?_
    repeat (first | refine V.s omX7_drop rfl rfl ?_ | refine V.gf omX7_drop rfl rfl rfl rfl ?_)
    refine V.cVf omX7_drop omX7_refuse rfl rfl (c_refuse _ _ (by decide)) rfl rfl rfl rfl rfl rfl ?_
    refine V.s omX7_drop rfl rfl ?_
    exact V.iret omX7_drop rfl rfl ⟨rfl, rfl⟩
  | succ n =>
    refine V.brT omX7_drop rfl rfl (nI_ne0 (by omega) (by omega)) (fun h => h) ?_
    repeat (first | refine V.s omX7_drop rfl rfl ?_ | refine V.gf omX7_drop rfl rfl rfl rfl ?_)
    refine V.cVf omX7_drop omX5_takeLatest rfl rfl (c_takeLatest _ hn) rfl rfl rfl rfl rfl rfl ?_
    exact V.iret omX7_drop rfl rfl ⟨rfl, rfl⟩
def s7_product (A : Nat → Nat → Int32) (n : Nat) (r o : Int32) : Int64 × (Nat → Nat → Int32) := if (0 ≤ r ∧ r < nI n) ∧ (0 ≤ o ∧ o < nI n) then (prd (A 2) (A 2) (4 * r.toNatClampNeg) (4 * o.toNatClampNeg), A) else (0, rfA A 3)
theorem c7_product (d : Nat) {n : Nat} (hn : A 1 4 = nI n) (h20 : n ≤ 20) (r o : Int32) : C mX7_product (d + 2) 0 0 [.ref 0, .int r, .int o] (hp A B) (fun r' h' => h' = hp (s7_product A n r o).2 B ∧ r' = some (.long (s7_product A n r o).1)) := by
  refine C.of [some (.ref 0), some (.int r), some (.int o)] omX7_product rfl rfl rfl ?_
  by_cases h1 : 0 ≤ r ∧ r < A 1 4
  · by_cases h2 : 0 ≤ o ∧ o < A 1 4
    · repeat (first | refine V.s omX7_product rfl rfl ?_ | refine V.gf omX7_product rfl rfl rfl rfl ?_ | refine V.brF omX7_product rfl rfl (by decide) ?_ | refine V.brT omX7_product rfl rfl (by decide) (by decide) ?_ | refine V.cVf omX7_product omX5_has rfl rfl (c_hasY _ h1) rfl rfl rfl rfl rfl rfl ?_ | refine V.cVf omX7_product omX5_has rfl rfl (c_hasY _ h2) rfl rfl rfl rfl rfl rfl ?_)
      rw [hn] at h1 h2
      obtain ⟨i, hi, rfl⟩ := rng (by omega) h1
      obtain ⟨j, hj, rfl⟩ := rng (by omega) h2
      refine V.cVf omX7_product omX5_productOf rfl rfl (c_productOf _ nv_nI nv_nI (show i < 20 by omega) (show j < 20 by omega)) rfl rfl rfl rfl rfl rfl ?_
      refine V.lret omX7_product rfl rfl ⟨?_, ?_⟩
      · simp only [s7_product, if_pos (show (0 ≤ nI i ∧ nI i < nI n) ∧ (0 ≤ nI j ∧ nI j < nI n) from ⟨h1, h2⟩)]
      · simp only [s7_product, if_pos (show (0 ≤ nI i ∧ nI i < nI n) ∧ (0 ≤ nI j ∧ nI j < nI n) from ⟨h1, h2⟩), nI_clamp (show i < 2 ^ 31 by omega), nI_clamp (show j < 2 ^ 31 by omega)]
    · repeat (first | refine V.s omX7_product rfl rfl ?_ | refine V.gf omX7_product rfl rfl rfl rfl ?_ | refine V.brF omX7_product rfl rfl (by decide) ?_ | refine V.brT omX7_product rfl rfl (by decide) (by decide) ?_ | refine V.cVf omX7_product omX5_has rfl rfl (c_hasY _ h1) rfl rfl rfl rfl rfl rfl ?_ | refine V.cVf omX7_product omX5_has rfl rfl (c_hasN _ h2) rfl rfl rfl rfl rfl rfl ?_ | refine V.cVf omX7_product omX7_refuseByZero rfl rfl (c_refuseByZero _ _ (by decide)) rfl rfl rfl rfl rfl rfl ?_)
      rw [hn] at h1 h2
      exact V.lret omX7_product rfl rfl (by simp only [s7_product, if_neg (show ¬ ((0 ≤ r ∧ r < nI n) ∧ (0 ≤ o ∧ o < nI n)) from fun h => h2 h.2)]; exact ⟨rfl, rfl⟩)
  · repeat (first | refine V.s omX7_product rfl rfl ?_ | refine V.gf omX7_product rfl rfl rfl rfl ?_ | refine V.brF omX7_product rfl rfl (by decide) ?_ | refine V.brT omX7_product rfl rfl (by decide) (by decide) ?_ | refine V.cVf omX7_product omX5_has rfl rfl (c_hasN _ h1) rfl rfl rfl rfl rfl rfl ?_ | refine V.cVf omX7_product omX7_refuseByZero rfl rfl (c_refuseByZero _ _ (by decide)) rfl rfl rfl rfl rfl rfl ?_)
    rw [hn] at h1
    exact V.lret omX7_product rfl rfl (by simp only [s7_product, if_neg (show ¬ ((0 ≤ r ∧ r < nI n) ∧ (0 ≤ o ∧ o < nI n)) from fun h => h1 h.1)]; exact ⟨rfl, rfl⟩)
end RK1
end
section
section RK2
variable {A : Nat → Nat → Int32} {B : Nat → Nat → Int64}
def rr (n : Nat) (r : Int32) : Prop := 0 ≤ r ∧ r < nI n
def cl (r : Int32) : Nat := r.toNatClampNeg
theorem cl_nI {i : Nat} (h : i < 20) : cl (nI i) = i := nI_clamp (by omega)
def s7_meet (A : Nat → Nat → Int32) (n : Nat) (r o : Int32) : Int32 × (Nat → Nat → Int32) := if (0 ≤ r ∧ r < nI n) ∧ (0 ≤ o ∧ o < nI n) then (if alF (A 2) (cl r) (cl o) = 1 then 0 else mtF (prd (A 2) (A 2) (4 * cl r) (4 * cl o)), A) else (-3, rfA A 3)
theorem alF_01 (f : Nat → Int32) (i j : Nat) : alF f i j = 0 ∨ alF f i j = 1 := by unfold alF; split <;> simp
set_option maxHeartbeats 4000000 in
set_option maxRecDepth 100000 in
theorem c7_meet (d : Nat) {n : Nat} (hn : A 1 4 = nI n) (h20 : n ≤ 20) (r o : Int32) : C mX7_meet (d + 2) 0 0 [.ref 0, .int r, .int o] (hp A B) (fun r' h' => h' = hp (s7_meet A n r o).2 B ∧ r' = some (.int (s7_meet A n r o).1)) := by
  refine C.of [some (.ref 0), some (.int r), some (.int o)] omX7_meet rfl rfl rfl ?_
  by_cases h1 : 0 ≤ r ∧ r < A 1 4
  · by_cases h2 : 0 ≤ o ∧ o < A 1 4
    · repeat (first | refine V.s omX7_meet rfl rfl ?_ | refine V.gf omX7_meet rfl rfl rfl rfl ?_ | refine V.brF omX7_meet rfl rfl (by decide) ?_ | refine V.brT omX7_meet rfl rfl (by decide) (by decide) ?_ | refine V.cVf omX7_meet omX5_has rfl rfl (c_hasY _ h1) rfl rfl rfl rfl rfl rfl ?_ | refine V.cVf omX7_meet omX5_has rfl rfl (c_hasY _ h2) rfl rfl rfl rfl rfl rfl ?_)
      rw [hn] at h1 h2
      have hp2 : (0 ≤ r ∧ r < nI n) ∧ (0 ≤ o ∧ o < nI n) := ⟨h1, h2⟩
      simp only [s7_meet, if_pos hp2]
      obtain ⟨i, hi, rfl⟩ := rng (by omega) h1
      obtain ⟨j, hj, rfl⟩ := rng (by omega) h2
      simp only [cl_nI (show i < 20 by omega), cl_nI (show j < 20 by omega)]
      refine V.cVf omX7_meet omX5_isAlike rfl rfl (c_isAlike _ nv_nI nv_nI (show i < 20 by omega) (show j < 20 by omega)) rfl rfl rfl rfl rfl rfl ?_
      rcases alF_01 (A 2) i j with ha | ha
      · rw [ha]
        refine V.brT omX7_meet rfl rfl rfl (by decide) ?_
        repeat (first | refine V.s omX7_meet rfl rfl ?_ | refine V.gf omX7_meet rfl rfl rfl rfl ?_)
        refine V.cVf omX7_meet omX5_productOf rfl rfl (c_productOf _ nv_nI nv_nI (show i < 20 by omega) (show j < 20 by omega)) rfl rfl rfl rfl rfl rfl ?_
        refine V.cSf omX7_meet omX2_meetingBy rfl rfl (c_meetingBy _ _ _) rfl rfl rfl rfl ?_
        exact V.iret omX7_meet rfl rfl ⟨rfl, by rw [if_neg (by decide)]⟩
      · rw [ha]
        refine V.brF omX7_meet rfl rfl (by decide) ?_
        repeat (first | refine V.s omX7_meet rfl rfl ?_ | refine V.gf omX7_meet rfl rfl rfl rfl ?_)
        exact V.iret omX7_meet rfl rfl ⟨rfl, by rw [if_pos rfl]⟩
    · repeat (first | refine V.s omX7_meet rfl rfl ?_ | refine V.gf omX7_meet rfl rfl rfl rfl ?_ | refine V.brF omX7_meet rfl rfl (by decide) ?_ | refine V.brT omX7_meet rfl rfl (by decide) (by decide) ?_ | refine V.cVf omX7_meet omX5_has rfl rfl (c_hasY _ h1) rfl rfl rfl rfl rfl rfl ?_ | refine V.cVf omX7_meet omX5_has rfl rfl (c_hasN _ h2) rfl rfl rfl rfl rfl rfl ?_ | refine V.cVf omX7_meet omX7_refuse rfl rfl (c_refuse _ _ (by decide)) rfl rfl rfl rfl rfl rfl ?_)
      rw [hn] at h1 h2
      exact V.iret omX7_meet rfl rfl (by simp only [s7_meet, if_neg (show ¬ ((0 ≤ r ∧ r < nI n) ∧ (0 ≤ o ∧ o < nI n)) from fun h => h2 h.2)] <;> (refine ⟨?_, ?_⟩ <;> first | rfl | trivial))
  · repeat (first | refine V.s omX7_meet rfl rfl ?_ | refine V.gf omX7_meet rfl rfl rfl rfl ?_ | refine V.brF omX7_meet rfl rfl (by decide) ?_ | refine V.brT omX7_meet rfl rfl (by decide) (by decide) ?_ | refine V.cVf omX7_meet omX5_has rfl rfl (c_hasN _ h1) rfl rfl rfl rfl rfl rfl ?_ | refine V.cVf omX7_meet omX7_refuse rfl rfl (c_refuse _ _ (by decide)) rfl rfl rfl rfl rfl rfl ?_)
    rw [hn] at h1
    exact V.iret omX7_meet rfl rfl (by simp only [s7_meet, if_neg (show ¬ ((0 ≤ r ∧ r < nI n) ∧ (0 ≤ o ∧ o < nI n)) from fun h => h1 h.1)] <;> (refine ⟨?_, ?_⟩ <;> first | rfl | trivial))
def s7_mirror (A : Nat → Nat → Int32) (n : Nat) (r o : Int32) : Int32 × (Nat → Nat → Int32) := if (0 ≤ r ∧ r < nI n) ∧ (0 ≤ o ∧ o < nI n) then (if n < 20 ∧ mfP (A 2) (cl r) (cl o) then (nI n, mrA A n (cl r) (cl o)) else (-8, rfA A 8)) else (-3, rfA A 3)
theorem c_mfY (d : Nat) {i j : Nat} (hi : i < 20) (hj : j < 20) (h : mfP (A 2) i j) : C mX5_mirrorFits (d + 2) 0 0 [.ref 1, .int (nI i), .int (nI j)] (hp A B) (fun r h' => h' = hp A B ∧ r = some (.int 1)) := by
  have h1 := c_mirrorFits (A := A) (B := B) d (nv_nI (a := i)) (nv_nI (a := j)) hi hj
  rwa [if_pos h] at h1
theorem c_mfN (d : Nat) {i j : Nat} (hi : i < 20) (hj : j < 20) (h : ¬ mfP (A 2) i j) : C mX5_mirrorFits (d + 2) 0 0 [.ref 1, .int (nI i), .int (nI j)] (hp A B) (fun r h' => h' = hp A B ∧ r = some (.int 0)) := by
  have h1 := c_mirrorFits (A := A) (B := B) d (nv_nI (a := i)) (nv_nI (a := j)) hi hj
  rwa [if_neg h] at h1
set_option maxHeartbeats 4000000 in
set_option maxRecDepth 100000 in
theorem c7_mirror (d : Nat) {n : Nat} (hn : A 1 4 = nI n) (h20 : n ≤ 20) (r o : Int32) : C mX7_mirror (d + 3) 0 0 [.ref 0, .int r, .int o] (hp A B) (fun r' h' => h' = hp (s7_mirror A n r o).2 B ∧ r' = some (.int (s7_mirror A n r o).1)) := by
  refine C.of [some (.ref 0), some (.int r), some (.int o)] omX7_mirror rfl rfl rfl ?_
  by_cases h1 : 0 ≤ r ∧ r < A 1 4
  · by_cases h2 : 0 ≤ o ∧ o < A 1 4
    · repeat (first | refine V.s omX7_mirror rfl rfl ?_ | refine V.gf omX7_mirror rfl rfl rfl rfl ?_ | refine V.brF omX7_mirror rfl rfl (by decide) ?_ | refine V.brT omX7_mirror rfl rfl (by decide) (by decide) ?_ | refine V.cVf omX7_mirror omX5_has rfl rfl (c_hasY _ h1) rfl rfl rfl rfl rfl rfl ?_ | refine V.cVf omX7_mirror omX5_has rfl rfl (c_hasY _ h2) rfl rfl rfl rfl rfl rfl ?_)
      rw [hn] at h1 h2
      have hp2 : (0 ≤ r ∧ r < nI n) ∧ (0 ≤ o ∧ o < nI n) := ⟨h1, h2⟩
      simp only [s7_mirror, if_pos hp2]
      obtain ⟨i, hi, rfl⟩ := rng (by omega) h1
      obtain ⟨j, hj, rfl⟩ := rng (by omega) h2
      simp only [cl_nI (show i < 20 by omega), cl_nI (show j < 20 by omega)]
      by_cases h3 : n < 20
      · refine V.cVf omX7_mirror omX5_isFull rfl rfl (c_fullN _ hn h20 h3) rfl rfl rfl rfl rfl rfl ?_
        refine V.brF omX7_mirror rfl rfl (by decide) ?_
        repeat (first | refine V.s omX7_mirror rfl rfl ?_ | refine V.gf omX7_mirror rfl rfl rfl rfl ?_)
        by_cases h4 : mfP (A 2) i j
        · refine V.cVf omX7_mirror omX5_mirrorFits rfl rfl (c_mfY d (show i < 20 by omega) (show j < 20 by omega) h4) rfl rfl rfl rfl rfl rfl ?_
          refine V.brT omX7_mirror rfl rfl (by decide) (by decide) ?_
          repeat (first | refine V.s omX7_mirror rfl rfl ?_ | refine V.gf omX7_mirror rfl rfl rfl rfl ?_)
          refine V.cVf omX7_mirror omX5_putMirror rfl rfl (c_putMirror d hn h3 nv_nI nv_nI (show i < 20 by omega) (show j < 20 by omega)) rfl rfl rfl rfl rfl rfl ?_
          exact V.iret omX7_mirror rfl rfl (by rw [if_pos ⟨h3, h4⟩] <;> (refine ⟨?_, ?_⟩ <;> first | rfl | trivial))
        · refine V.cVf omX7_mirror omX5_mirrorFits rfl rfl (c_mfN d (show i < 20 by omega) (show j < 20 by omega) h4) rfl rfl rfl rfl rfl rfl ?_
          refine V.brF omX7_mirror rfl rfl (by decide) ?_
          repeat (first | refine V.s omX7_mirror rfl rfl ?_ | refine V.gf omX7_mirror rfl rfl rfl rfl ?_ | refine V.cVf omX7_mirror omX7_refuse rfl rfl (c_refuse _ _ (by decide)) rfl rfl rfl rfl rfl rfl ?_)
          exact V.iret omX7_mirror rfl rfl (by rw [if_neg (fun h => h4 h.2)] <;> (refine ⟨?_, ?_⟩ <;> first | rfl | trivial))
      · refine V.cVf omX7_mirror omX5_isFull rfl rfl (c_fullY _ hn h20 h3) rfl rfl rfl rfl rfl rfl ?_
        refine V.brT omX7_mirror rfl rfl (by decide) (by decide) ?_
        repeat (first | refine V.s omX7_mirror rfl rfl ?_ | refine V.gf omX7_mirror rfl rfl rfl rfl ?_ | refine V.cVf omX7_mirror omX7_refuse rfl rfl (c_refuse _ _ (by decide)) rfl rfl rfl rfl rfl rfl ?_)
        exact V.iret omX7_mirror rfl rfl (by rw [if_neg (fun h => h3 h.1)] <;> (refine ⟨?_, ?_⟩ <;> first | rfl | trivial))
    · repeat (first | refine V.s omX7_mirror rfl rfl ?_ | refine V.gf omX7_mirror rfl rfl rfl rfl ?_ | refine V.brF omX7_mirror rfl rfl (by decide) ?_ | refine V.brT omX7_mirror rfl rfl (by decide) (by decide) ?_ | refine V.cVf omX7_mirror omX5_has rfl rfl (c_hasY _ h1) rfl rfl rfl rfl rfl rfl ?_ | refine V.cVf omX7_mirror omX5_has rfl rfl (c_hasN _ h2) rfl rfl rfl rfl rfl rfl ?_ | refine V.cVf omX7_mirror omX7_refuse rfl rfl (c_refuse _ _ (by decide)) rfl rfl rfl rfl rfl rfl ?_)
      rw [hn] at h1 h2
      exact V.iret omX7_mirror rfl rfl (by simp only [s7_mirror, if_neg (show ¬ ((0 ≤ r ∧ r < nI n) ∧ (0 ≤ o ∧ o < nI n)) from fun h => h2 h.2)] <;> (refine ⟨?_, ?_⟩ <;> first | rfl | trivial))
  · repeat (first | refine V.s omX7_mirror rfl rfl ?_ | refine V.gf omX7_mirror rfl rfl rfl rfl ?_ | refine V.brF omX7_mirror rfl rfl (by decide) ?_ | refine V.brT omX7_mirror rfl rfl (by decide) (by decide) ?_ | refine V.cVf omX7_mirror omX5_has rfl rfl (c_hasN _ h1) rfl rfl rfl rfl rfl rfl ?_ | refine V.cVf omX7_mirror omX7_refuse rfl rfl (c_refuse _ _ (by decide)) rfl rfl rfl rfl rfl rfl ?_)
    rw [hn] at h1
    exact V.iret omX7_mirror rfl rfl (by simp only [s7_mirror, if_neg (show ¬ ((0 ≤ r ∧ r < nI n) ∧ (0 ≤ o ∧ o < nI n)) from fun h => h1 h.1)] <;> (refine ⟨?_, ?_⟩ <;> first | rfl | trivial))
def s7_flip (A : Nat → Nat → Int32) (n : Nat) (r : Int32) : Int32 × (Nat → Nat → Int32) := if 0 ≤ r ∧ r < nI n then (if n < 20 then (nI n, flA A n (cl r)) else (-8, rfA A 8)) else (-3, rfA A 3)
set_option maxHeartbeats 4000000 in
set_option maxRecDepth 100000 in
theorem c7_flip (d : Nat) {n : Nat} (hn : A 1 4 = nI n) (h20 : n ≤ 20) (r : Int32) : C mX7_flip (d + 2) 0 0 [.ref 0, .int r] (hp A B) (fun r' h' => h' = hp (s7_flip A n r).2 B ∧ r' = some (.int (s7_flip A n r).1)) := by
  refine C.of [some (.ref 0), some (.int r)] omX7_flip rfl rfl rfl ?_
  by_cases h1 : 0 ≤ r ∧ r < A 1 4
  · repeat (first | refine V.s omX7_flip rfl rfl ?_ | refine V.gf omX7_flip rfl rfl rfl rfl ?_ | refine V.brF omX7_flip rfl rfl (by decide) ?_ | refine V.brT omX7_flip rfl rfl (by decide) (by decide) ?_ | refine V.cVf omX7_flip omX5_has rfl rfl (c_hasY _ h1) rfl rfl rfl rfl rfl rfl ?_)
    rw [hn] at h1
    simp only [s7_flip, if_pos h1]
    obtain ⟨i, hi, rfl⟩ := rng (by omega) h1
    simp only [cl_nI (show i < 20 by omega)]
    by_cases h3 : n < 20
    · refine V.cVf omX7_flip omX5_isFull rfl rfl (c_fullN _ hn h20 h3) rfl rfl rfl rfl rfl rfl ?_
      refine V.brT omX7_flip rfl rfl (by decide) (by decide) ?_
      repeat (first | refine V.s omX7_flip rfl rfl ?_ | refine V.gf omX7_flip rfl rfl rfl rfl ?_)
      refine V.cVf omX7_flip omX5_putOtherSide rfl rfl (c_putOtherSide d hn h3 (show i < 20 by omega) nv_nI) rfl rfl rfl rfl rfl rfl ?_
      exact V.iret omX7_flip rfl rfl (by rw [if_pos h3] <;> (refine ⟨?_, ?_⟩ <;> first | rfl | trivial))
    · refine V.cVf omX7_flip omX5_isFull rfl rfl (c_fullY _ hn h20 h3) rfl rfl rfl rfl rfl rfl ?_
      refine V.brF omX7_flip rfl rfl (by decide) ?_
      repeat (first | refine V.s omX7_flip rfl rfl ?_ | refine V.gf omX7_flip rfl rfl rfl rfl ?_ | refine V.cVf omX7_flip omX7_refuse rfl rfl (c_refuse _ _ (by decide)) rfl rfl rfl rfl rfl rfl ?_)
      exact V.iret omX7_flip rfl rfl (by rw [if_neg h3] <;> (refine ⟨?_, ?_⟩ <;> first | rfl | trivial))
  · repeat (first | refine V.s omX7_flip rfl rfl ?_ | refine V.gf omX7_flip rfl rfl rfl rfl ?_ | refine V.brF omX7_flip rfl rfl (by decide) ?_ | refine V.brT omX7_flip rfl rfl (by decide) (by decide) ?_ | refine V.cVf omX7_flip omX5_has rfl rfl (c_hasN _ h1) rfl rfl rfl rfl rfl rfl ?_ | refine V.cVf omX7_flip omX7_refuse rfl rfl (c_refuse _ _ (by decide)) rfl rfl rfl rfl rfl rfl ?_)
    rw [hn] at h1
    exact V.iret omX7_flip rfl rfl (by simp only [s7_flip, if_neg h1] <;> (refine ⟨?_, ?_⟩ <;> first | rfl | trivial))
def ovP (p q : Int32) : Prop := (0 ≤ p ∧ p ≤ 999 ∧ 1 ≤ q ∧ q ≤ 999) ∧ Nat.gcd (cl p) (cl q) = 1
def s7_over (A : Nat → Nat → Int32) (n : Nat) (p q : Int32) (v : Bool) : Int32 × (Nat → Nat → Int32) := if v = true then (if n < 20 then (nI n, ovA A n p q) else (-8, rfA A 8)) else (-7, rfA A 7)
theorem rngl {r M : Int32} {m : Nat} (hM : M.toInt = m) (h0 : 0 ≤ r) (h1 : r ≤ M) : ∃ i, i ≤ m ∧ r = nI i := nI_of2 hM (Int32.not_lt.mpr h0) h1
set_option maxHeartbeats 4000000 in
set_option maxRecDepth 100000 in
theorem c7_over (d : Nat) {n : Nat} (hn : A 1 4 = nI n) (h20 : n ≤ 20) (p q : Int32) (v : Bool) (hv : v = true ↔ ovP p q) : C mX7_over (d + 2) 0 0 [.ref 0, .int p, .int q] (hp A B) (fun r' h' => h' = hp (s7_over A n p q v).2 B ∧ r' = some (.int (s7_over A n p q v).1)) := by
  refine C.of [some (.ref 0), some (.int p), some (.int q), none] omX7_over rfl rfl rfl ?_
  by_cases h1 : 0 ≤ p ∧ p ≤ 999 ∧ 1 ≤ q ∧ q ≤ 999
  · obtain ⟨a1, a2, a3, a4⟩ := h1
    repeat (first | refine V.s omX7_over rfl rfl ?_ | refine V.gf omX7_over rfl rfl rfl rfl ?_ | refine V.brF omX7_over rfl rfl (Int32.not_lt.mpr a1) ?_ | refine V.brF omX7_over rfl rfl (Int32.not_lt.mpr a2) ?_ | refine V.brF omX7_over rfl rfl (Int32.not_lt.mpr a3) ?_ | refine V.brF omX7_over rfl rfl (Int32.not_lt.mpr a4) ?_)
    refine V.brF omX7_over rfl rfl (by decide) ?_
    repeat (first | refine V.s omX7_over rfl rfl ?_ | refine V.gf omX7_over rfl rfl rfl rfl ?_)
    obtain ⟨P, hP, rfl⟩ := rngl (m := 999) (by decide) a1 a2
    obtain ⟨R, hR, rfl⟩ := rngl (m := 999) (by decide) (Int32.le_trans (by decide) a3) a4
    refine V.cSf omX7_over omX2_isLowest rfl rfl (c_isLowest _ P R _ (by omega) (by omega)) rfl rfl rfl rfl ?_
    have e : ovP (nI P) (nI R) ↔ Nat.gcd P R = 1 := by
      unfold ovP cl
      rw [nI_clamp (by omega), nI_clamp (by omega)]
      exact ⟨fun h => h.2, fun h => ⟨⟨a1, a2, a3, a4⟩, h⟩⟩
    rw [e] at hv
    by_cases hg : Nat.gcd P R = 1
    · have hvt := hv.mpr hg
      subst hvt
      rw [if_pos hg]
      refine V.brT omX7_over rfl rfl (by decide) (by decide) ?_
      by_cases h3 : n < 20
      · repeat (first | refine V.s omX7_over rfl rfl ?_ | refine V.gf omX7_over rfl rfl rfl rfl ?_ | refine V.cVf omX7_over omX5_isFull rfl rfl (c_fullN _ hn h20 h3) rfl rfl rfl rfl rfl rfl ?_)
        refine V.brT omX7_over rfl rfl (by decide) (by decide) ?_
        repeat (first | refine V.s omX7_over rfl rfl ?_ | refine V.gf omX7_over rfl rfl rfl rfl ?_)
        refine V.cVf omX7_over omX5_putOver rfl rfl (c_putOver _ hn h3 _ _) rfl rfl rfl rfl rfl rfl ?_
        exact V.iret omX7_over rfl rfl (by simp only [s7_over, if_true, if_pos h3] <;> (refine ⟨?_, ?_⟩ <;> first | rfl | trivial))
      · repeat (first | refine V.s omX7_over rfl rfl ?_ | refine V.gf omX7_over rfl rfl rfl rfl ?_ | refine V.cVf omX7_over omX5_isFull rfl rfl (c_fullY _ hn h20 h3) rfl rfl rfl rfl rfl rfl ?_)
        refine V.brF omX7_over rfl rfl (by decide) ?_
        repeat (first | refine V.s omX7_over rfl rfl ?_ | refine V.gf omX7_over rfl rfl rfl rfl ?_ | refine V.cVf omX7_over omX7_refuse rfl rfl (c_refuse _ _ (by decide)) rfl rfl rfl rfl rfl rfl ?_)
        exact V.iret omX7_over rfl rfl (by simp only [s7_over, if_true, if_neg h3] <;> (refine ⟨?_, ?_⟩ <;> first | rfl | trivial))
    · have hvf : v = false := by
        cases v with
        | true => exact absurd (hv.mp rfl) hg
        | false => rfl
      subst hvf
      rw [if_neg hg]
      refine V.brF omX7_over rfl rfl (by decide) ?_
      repeat (first | refine V.s omX7_over rfl rfl ?_ | refine V.gf omX7_over rfl rfl rfl rfl ?_ | refine V.cVf omX7_over omX7_refuse rfl rfl (c_refuse _ _ (by decide)) rfl rfl rfl rfl rfl rfl ?_)
      exact V.iret omX7_over rfl rfl ⟨rfl, rfl⟩
  · have hvf : v = false := by
      cases v with
      | true => exact absurd (hv.mp rfl).1 h1
      | false => rfl
    subst hvf
    repeat' (first | refine V.s omX7_over rfl rfl ?_ | refine V.gf omX7_over rfl rfl rfl rfl ?_ | simp only [Int32.reduceAdd, Int32.reduceMul, Int32.reduceSub] | refine V.brF omX7_over rfl rfl (by decide) ?_ | refine V.brT omX7_over rfl rfl (by decide) (by decide) ?_ | refine V.cVf omX7_over omX7_refuse rfl rfl (c_refuse _ _ (by decide)) rfl rfl rfl rfl rfl rfl ?_ | refine V.br omX7_over rfl rfl (fun hc => ?_) (fun hc => ?_))
    all_goals first | exact V.iret omX7_over rfl rfl ⟨rfl, rfl⟩ | skip
    exact absurd ⟨by assumption, by assumption, by assumption, by assumption⟩ h1
end RK2
end
section
section RK3
variable {A : Nat → Nat → Int32} {B : Nat → Nat → Int64}
theorem c_hasKiss (d : Nat) (r : Int32) : C mX7_hasKiss d 0 0 [.ref 0, .int r] (hp A B) (fun r' h' => h' = hp A B ∧ r' = some (.int (if 0 ≤ r ∧ r < A 0 9 then 1 else 0))) := by
  refine C.of [some (.ref 0), some (.int r)] omX7_hasKiss rfl rfl rfl ?_
  repeat' (first | refine V.s omX7_hasKiss rfl rfl ?_ | refine V.gf omX7_hasKiss rfl rfl rfl rfl ?_ | refine V.br omX7_hasKiss rfl rfl (fun hc => ?_) (fun hc => ?_))
  all_goals refine V.zret omX7_hasKiss rfl rfl (by decide) ⟨rfl, ?_⟩
  all_goals simp only [← Int32.not_lt] at *
  all_goals simp [*]
theorem c_hkY (d : Nat) {r : Int32} (h : 0 ≤ r ∧ r < A 0 9) : C mX7_hasKiss d 0 0 [.ref 0, .int r] (hp A B) (fun r' h' => h' = hp A B ∧ r' = some (.int 1)) := by
  have h1 := c_hasKiss (A := A) (B := B) d r
  rwa [if_pos h] at h1
theorem c_hkN (d : Nat) {r : Int32} (h : ¬ (0 ≤ r ∧ r < A 0 9)) : C mX7_hasKiss d 0 0 [.ref 0, .int r] (hp A B) (fun r' h' => h' = hp A B ∧ r' = some (.int 0)) := by
  have h1 := c_hasKiss (A := A) (B := B) d r
  rwa [if_neg h] at h1
theorem c_hasPlace (d : Nat) (r p : Int32) : C mX7_hasPlace (d + 1) 0 0 [.ref 0, .int r, .int p] (hp A B) (fun r' h' => h' = hp A B ∧ r' = some (.int (if (0 ≤ r ∧ r < A 0 9) ∧ 0 ≤ p ∧ p < 4 then 1 else 0))) := by
  refine C.of [some (.ref 0), some (.int r), some (.int p)] omX7_hasPlace rfl rfl rfl ?_
  by_cases h1 : 0 ≤ r ∧ r < A 0 9
  · repeat' (first | refine V.s omX7_hasPlace rfl rfl ?_ | refine V.gf omX7_hasPlace rfl rfl rfl rfl ?_ | simp only [Int32.reduceAdd, Int32.reduceMul, Int32.reduceSub] | refine V.brF omX7_hasPlace rfl rfl (by decide) ?_ | refine V.brT omX7_hasPlace rfl rfl (by decide) (by decide) ?_ | refine V.cVf omX7_hasPlace omX7_hasKiss rfl rfl (c_hkY _ h1) rfl rfl rfl rfl rfl rfl ?_ | refine V.br omX7_hasPlace rfl rfl (fun hc => ?_) (fun hc => ?_))
    all_goals refine V.zret omX7_hasPlace rfl rfl (by decide) ⟨rfl, ?_⟩
    all_goals simp only [← Int32.not_lt] at *
    all_goals simp [*]
  · repeat' (first | refine V.s omX7_hasPlace rfl rfl ?_ | refine V.gf omX7_hasPlace rfl rfl rfl rfl ?_ | simp only [Int32.reduceAdd, Int32.reduceMul, Int32.reduceSub] | refine V.brF omX7_hasPlace rfl rfl (by decide) ?_ | refine V.brT omX7_hasPlace rfl rfl (by decide) (by decide) ?_ | refine V.cVf omX7_hasPlace omX7_hasKiss rfl rfl (c_hkN _ h1) rfl rfl rfl rfl rfl rfl ?_ | refine V.br omX7_hasPlace rfl rfl (fun hc => ?_) (fun hc => ?_))
    all_goals refine V.zret omX7_hasPlace rfl rfl (by decide) ⟨rfl, ?_⟩
    all_goals rw [if_neg (fun h => h1 h.1)]
theorem c_hpY (d : Nat) {r p : Int32} (h : (0 ≤ r ∧ r < A 0 9) ∧ 0 ≤ p ∧ p < 4) : C mX7_hasPlace (d + 1) 0 0 [.ref 0, .int r, .int p] (hp A B) (fun r' h' => h' = hp A B ∧ r' = some (.int 1)) := by
  have h1 := c_hasPlace (A := A) (B := B) d r p
  rwa [if_pos h] at h1
theorem c_hpN (d : Nat) {r p : Int32} (h : ¬ ((0 ≤ r ∧ r < A 0 9) ∧ 0 ≤ p ∧ p < 4)) : C mX7_hasPlace (d + 1) 0 0 [.ref 0, .int r, .int p] (hp A B) (fun r' h' => h' = hp A B ∧ r' = some (.int 0)) := by
  have h1 := c_hasPlace (A := A) (B := B) d r p
  rwa [if_neg h] at h1
def s7_part (A : Nat → Nat → Int32) (m : Nat) : Int32 × (Nat → Nat → Int32) := if m = 0 then (-2, rfA A 2) else (nI (m - 1), va_up A 0 (upd (A 0) 9 (nI (m - 1))))
theorem c7_part (d : Nat) {m : Nat} (hm : A 0 9 = nI m) (h6 : m ≤ 6) : C mX7_part (d + 1) 0 0 [.ref 0] (hp A B) (fun r h' => h' = hp (s7_part A m).2 B ∧ r = some (.int (s7_part A m).1)) := by
  refine C.of [some (.ref 0)] omX7_part rfl rfl rfl ?_
  repeat (first | refine V.s omX7_part rfl rfl ?_ | refine V.gf omX7_part rfl rfl rfl rfl ?_)
  rw [hm]
  cases m with
  | zero =>
    refine V.brF omX7_part rfl rfl (by decide) ?_
    repeat (first | refine V.s omX7_part rfl rfl ?_ | refine V.gf omX7_part rfl rfl rfl rfl ?_ | refine V.cVf omX7_part omX7_refuse rfl rfl (c_refuse _ _ (by decide)) rfl rfl rfl rfl rfl rfl ?_)
    exact V.iret omX7_part rfl rfl ⟨rfl, rfl⟩
  | succ m =>
    refine V.brT omX7_part rfl rfl (nI_ne0 (by omega) (by omega)) (fun h => h) ?_
    repeat (first | refine V.s omX7_part rfl rfl ?_ | refine V.gf omX7_part rfl rfl rfl rfl ?_)
    rw [hm, nI_pred]
    repeat (first | refine V.s omX7_part rfl rfl ?_ | refine V.gf omX7_part rfl rfl rfl rfl ?_ | refine V.pfH omX7_part rfl rfl rfl rfl rfl rfl rfl ?_)
    simp only [va_up_self, pk_us]
    exact V.iret omX7_part rfl rfl ⟨rfl, rfl⟩
def s7_of (A : Nat → Nat → Int32) (m : Nat) (r p w : Int32) : Int32 × (Nat → Nat → Int32) := if (0 ≤ r ∧ r < nI m) ∧ 0 ≤ p ∧ p < 4 then (if 0 ≤ w ∧ w < 4 then (A (8 + 2 * cl r) (4 * cl p + cl w), A) else (0, rfA A 7)) else (0, rfA A 3)
set_option maxHeartbeats 4000000 in
set_option maxRecDepth 100000 in
theorem c7_of (d : Nat) {m : Nat} (hm : A 0 9 = nI m) (h6 : m ≤ 6) (r p w : Int32) : C mX7_of (d + 2) 0 0 [.ref 0, .int r, .int p, .int w] (hp A B) (fun r' h' => h' = hp (s7_of A m r p w).2 B ∧ r' = some (.int (s7_of A m r p w).1)) := by
  refine C.of [some (.ref 0), some (.int r), some (.int p), some (.int w)] omX7_of rfl rfl rfl ?_
  by_cases h1 : (0 ≤ r ∧ r < A 0 9) ∧ 0 ≤ p ∧ p < 4
  · repeat (first | refine V.s omX7_of rfl rfl ?_ | refine V.gf omX7_of rfl rfl rfl rfl ?_ | refine V.brF omX7_of rfl rfl (by decide) ?_ | refine V.brT omX7_of rfl rfl (by decide) (by decide) ?_ | refine V.cVf omX7_of omX7_hasPlace rfl rfl (c_hpY _ h1) rfl rfl rfl rfl rfl rfl ?_)
    rw [hm] at h1
    simp only [s7_of, if_pos h1]
    by_cases h2 : 0 ≤ w ∧ w < 4
    · simp only [if_pos h2]
      refine V.brF omX7_of rfl rfl (Int32.not_lt.mpr h2.1) ?_
      repeat (first | refine V.s omX7_of rfl rfl ?_ | refine V.gf omX7_of rfl rfl rfl rfl ?_)
      refine V.brT omX7_of rfl rfl h2.2 Int32.not_le.mpr ?_
      obtain ⟨i, hi, rfl⟩ := rng (by omega) h1.1
      obtain ⟨j, hj, rfl⟩ := rng (n := 4) (by decide) h1.2
      obtain ⟨c, hc, rfl⟩ := rng (n := 4) (by decide) h2
      simp only [cl_nI (show i < 20 by omega), cl_nI (show j < 20 by omega), cl_nI (show c < 20 by omega)]
      repeat (first | refine V.s omX7_of rfl rfl ?_ | refine V.gf omX7_of rfl rfl rfl rfl ?_ | refine V.aal omX7_of rfl rfl (ixN nv_nI (show i < 6 by omega) (by decide)) (kisF_at (show i < 6 by omega)) ?_)
      refine V.cVf omX7_of omX4_number rfl rfl (c_number _ (show i < 8 by omega) nv_nI nv_nI hj hc) rfl rfl (hpQ (show i < 8 by omega)) rfl rfl rfl ?_
      exact V.iret omX7_of rfl rfl ⟨rfl, rfl⟩
    · simp only [if_neg h2]
      repeat' (first | refine V.s omX7_of rfl rfl ?_ | refine V.gf omX7_of rfl rfl rfl rfl ?_ | simp only [Int32.reduceAdd, Int32.reduceMul, Int32.reduceSub] | refine V.brF omX7_of rfl rfl (by decide) ?_ | refine V.brT omX7_of rfl rfl (by decide) (by decide) ?_ | refine V.cVf omX7_of omX7_refuseByZero rfl rfl (c_refuseByZero _ _ (by decide)) rfl rfl rfl rfl rfl rfl ?_ | refine V.br omX7_of rfl rfl (fun hc => ?_) (fun hc => ?_))
      all_goals first | exact V.iret omX7_of rfl rfl ⟨rfl, rfl⟩ | skip
      exact absurd ⟨by assumption, by assumption⟩ h2
  · repeat (first | refine V.s omX7_of rfl rfl ?_ | refine V.gf omX7_of rfl rfl rfl rfl ?_ | refine V.brF omX7_of rfl rfl (by decide) ?_ | refine V.brT omX7_of rfl rfl (by decide) (by decide) ?_ | refine V.cVf omX7_of omX7_hasPlace rfl rfl (c_hpN _ h1) rfl rfl rfl rfl rfl rfl ?_ | refine V.cVf omX7_of omX7_refuseByZero rfl rfl (c_refuseByZero _ _ (by decide)) rfl rfl rfl rfl rfl rfl ?_)
    rw [hm] at h1
    exact V.iret omX7_of rfl rfl (by simp only [s7_of, if_neg h1] <;> (refine ⟨?_, ?_⟩ <;> first | rfl | trivial))
def s7_height (A : Nat → Nat → Int32) (m : Nat) (r : Int32) : Int64 × (Nat → Nat → Int32) := if 0 ≤ r ∧ r < nI m then (bsm (A (8 + 2 * cl r)), A) else (0, rfA A 3)
set_option maxHeartbeats 4000000 in
set_option maxRecDepth 100000 in
theorem c7_height (d : Nat) {m : Nat} (hm : A 0 9 = nI m) (h6 : m ≤ 6) (r : Int32) : C mX7_height (d + 2) 0 0 [.ref 0, .int r] (hp A B) (fun r' h' => h' = hp (s7_height A m r).2 B ∧ r' = some (.long (s7_height A m r).1)) := by
  refine C.of [some (.ref 0), some (.int r)] omX7_height rfl rfl rfl ?_
  by_cases h1 : 0 ≤ r ∧ r < A 0 9
  · repeat (first | refine V.s omX7_height rfl rfl ?_ | refine V.gf omX7_height rfl rfl rfl rfl ?_ | refine V.brF omX7_height rfl rfl (by decide) ?_ | refine V.brT omX7_height rfl rfl (by decide) (by decide) ?_ | refine V.cVf omX7_height omX7_hasKiss rfl rfl (c_hkY _ h1) rfl rfl rfl rfl rfl rfl ?_)
    rw [hm] at h1
    simp only [s7_height, if_pos h1]
    obtain ⟨i, hi, rfl⟩ := rng (by omega) h1
    simp only [cl_nI (show i < 20 by omega)]
    refine V.aal omX7_height rfl rfl (ixN nv_nI (show i < 6 by omega) (by decide)) (kisF_at (show i < 6 by omega)) ?_
    refine V.cVf omX7_height omX4_bendSum rfl rfl (c_bendSum _ (show i < 8 by omega)) rfl rfl (hpQ (show i < 8 by omega)) rfl rfl rfl ?_
    refine V.s omX7_height rfl rfl ?_
    exact V.lret omX7_height rfl rfl ⟨rfl, rfl⟩
  · repeat (first | refine V.s omX7_height rfl rfl ?_ | refine V.gf omX7_height rfl rfl rfl rfl ?_ | refine V.brF omX7_height rfl rfl (by decide) ?_ | refine V.brT omX7_height rfl rfl (by decide) (by decide) ?_ | refine V.cVf omX7_height omX7_hasKiss rfl rfl (c_hkN _ h1) rfl rfl rfl rfl rfl rfl ?_ | refine V.cVf omX7_height omX7_refuseByZero rfl rfl (c_refuseByZero _ _ (by decide)) rfl rfl rfl rfl rfl rfl ?_)
    rw [hm] at h1
    exact V.lret omX7_height rfl rfl (by simp only [s7_height, if_neg h1] <;> (refine ⟨?_, ?_⟩ <;> first | rfl | trivial))
def s7_fourth (A : Nat → Nat → Int32) (m : Nat) (r p : Int32) : Int64 × (Nat → Nat → Int32) := if (0 ≤ r ∧ r < nI m) ∧ 0 ≤ p ∧ p < 4 then (swp (A (8 + 2 * cl r)) (cl p) 0, A) else (0, rfA A 3)
set_option maxHeartbeats 4000000 in
set_option maxRecDepth 100000 in
theorem c7_fourth (d : Nat) {m : Nat} (hm : A 0 9 = nI m) (h6 : m ≤ 6) (r p : Int32) : C mX7_fourth (d + 2) 0 0 [.ref 0, .int r, .int p] (hp A B) (fun r' h' => h' = hp (s7_fourth A m r p).2 B ∧ r' = some (.long (s7_fourth A m r p).1)) := by
  refine C.of [some (.ref 0), some (.int r), some (.int p)] omX7_fourth rfl rfl rfl ?_
  by_cases h1 : (0 ≤ r ∧ r < A 0 9) ∧ 0 ≤ p ∧ p < 4
  · repeat (first | refine V.s omX7_fourth rfl rfl ?_ | refine V.gf omX7_fourth rfl rfl rfl rfl ?_ | refine V.brF omX7_fourth rfl rfl (by decide) ?_ | refine V.brT omX7_fourth rfl rfl (by decide) (by decide) ?_ | refine V.cVf omX7_fourth omX7_hasPlace rfl rfl (c_hpY _ h1) rfl rfl rfl rfl rfl rfl ?_)
    rw [hm] at h1
    simp only [s7_fourth, if_pos h1]
    obtain ⟨i, hi, rfl⟩ := rng (by omega) h1.1
    obtain ⟨j, hj, rfl⟩ := rng (n := 4) (by decide) h1.2
    simp only [cl_nI (show i < 20 by omega), cl_nI (show j < 20 by omega)]
    refine V.aal omX7_fourth rfl rfl (ixN nv_nI (show i < 6 by omega) (by decide)) (kisF_at (show i < 6 by omega)) ?_
    repeat (first | refine V.s omX7_fourth rfl rfl ?_ | refine V.gf omX7_fourth rfl rfl rfl rfl ?_)
    refine V.cVf omX7_fourth omX4_swapped rfl rfl (c_swapped _ (show i < 8 by omega) nv_nI nv_lit hj (by decide)) rfl rfl (hpQ (show i < 8 by omega)) rfl rfl rfl ?_
    refine V.s omX7_fourth rfl rfl ?_
    exact V.lret omX7_fourth rfl rfl ⟨rfl, rfl⟩
  · repeat (first | refine V.s omX7_fourth rfl rfl ?_ | refine V.gf omX7_fourth rfl rfl rfl rfl ?_ | refine V.brF omX7_fourth rfl rfl (by decide) ?_ | refine V.brT omX7_fourth rfl rfl (by decide) (by decide) ?_ | refine V.cVf omX7_fourth omX7_hasPlace rfl rfl (c_hpN _ h1) rfl rfl rfl rfl rfl rfl ?_ | refine V.cVf omX7_fourth omX7_refuseByZero rfl rfl (c_refuseByZero _ _ (by decide)) rfl rfl rfl rfl rfl rfl ?_)
    rw [hm] at h1
    exact V.lret omX7_fourth rfl rfl (by simp only [s7_fourth, if_neg h1] <;> (refine ⟨?_, ?_⟩ <;> first | rfl | trivial))
def s7_swap (A : Nat → Nat → Int32) (m : Nat) (r p : Int32) : Int32 × (Nat → Nat → Int32) := if (0 ≤ r ∧ r < nI m) ∧ 0 ≤ p ∧ p < 4 then (if fit4 (A (8 + 2 * cl r)) (cl p) then (1, va_up A (8 + 2 * cl r) (sw4 (A (8 + 2 * cl r)) (cl p))) else (-8, rfA A 8)) else (-3, rfA A 3)
set_option maxHeartbeats 4000000 in
set_option maxRecDepth 100000 in
theorem c7_swap (d : Nat) {m : Nat} (hm : A 0 9 = nI m) (h6 : m ≤ 6) (r p : Int32) : C mX7_swap (d + 2) 0 0 [.ref 0, .int r, .int p] (hp A B) (fun r' h' => h' = hp (s7_swap A m r p).2 B ∧ r' = some (.int (s7_swap A m r p).1)) := by
  refine C.of [some (.ref 0), some (.int r), some (.int p)] omX7_swap rfl rfl rfl ?_
  by_cases h1 : (0 ≤ r ∧ r < A 0 9) ∧ 0 ≤ p ∧ p < 4
  · repeat (first | refine V.s omX7_swap rfl rfl ?_ | refine V.gf omX7_swap rfl rfl rfl rfl ?_ | refine V.brF omX7_swap rfl rfl (by decide) ?_ | refine V.brT omX7_swap rfl rfl (by decide) (by decide) ?_ | refine V.cVf omX7_swap omX7_hasPlace rfl rfl (c_hpY _ h1) rfl rfl rfl rfl rfl rfl ?_)
    rw [hm] at h1
    simp only [s7_swap, if_pos h1]
    obtain ⟨i, hi, rfl⟩ := rng (by omega) h1.1
    obtain ⟨j, hj, rfl⟩ := rng (n := 4) (by decide) h1.2
    simp only [cl_nI (show i < 20 by omega), cl_nI (show j < 20 by omega)]
    refine V.aal omX7_swap rfl rfl (ixN nv_nI (show i < 6 by omega) (by decide)) (kisF_at (show i < 6 by omega)) ?_
    repeat (first | refine V.s omX7_swap rfl rfl ?_ | refine V.gf omX7_swap rfl rfl rfl rfl ?_)
    by_cases h2 : fit4 (A (8 + 2 * i)) j
    · have ct := c_trySwap4 (A := A) (B := B) d (show i < 8 by omega) (nv_nI (a := j)) hj
      rw [if_pos h2, if_pos h2] at ct
      refine V.cVf omX7_swap omX4_trySwap rfl rfl ct rfl rfl (hpQ (show i < 8 by omega)) rfl rfl rfl ?_
      refine V.brF omX7_swap rfl rfl (by decide) ?_
      repeat (first | refine V.s omX7_swap rfl rfl ?_ | refine V.gf omX7_swap rfl rfl rfl rfl ?_)
      exact V.iret omX7_swap rfl rfl (by rw [if_pos h2]; exact ⟨rfl, rfl⟩)
    · have ct := c_trySwap4 (A := A) (B := B) d (show i < 8 by omega) (nv_nI (a := j)) hj
      rw [if_neg h2, if_neg h2] at ct
      refine V.cVf omX7_swap omX4_trySwap rfl rfl ct rfl rfl (hpQ (show i < 8 by omega)) rfl rfl rfl ?_
      refine V.brT omX7_swap rfl rfl rfl (by decide) ?_
      repeat (first | refine V.s omX7_swap rfl rfl ?_ | refine V.gf omX7_swap rfl rfl rfl rfl ?_ | refine V.cVf omX7_swap omX7_refuse rfl rfl (c_refuse _ _ (by decide)) rfl rfl rfl rfl rfl rfl ?_)
      exact V.iret omX7_swap rfl rfl (by rw [if_neg h2]; exact ⟨rfl, rfl⟩)
  · repeat (first | refine V.s omX7_swap rfl rfl ?_ | refine V.gf omX7_swap rfl rfl rfl rfl ?_ | refine V.brF omX7_swap rfl rfl (by decide) ?_ | refine V.brT omX7_swap rfl rfl (by decide) (by decide) ?_ | refine V.cVf omX7_swap omX7_hasPlace rfl rfl (c_hpN _ h1) rfl rfl rfl rfl rfl rfl ?_ | refine V.cVf omX7_swap omX7_refuse rfl rfl (c_refuse _ _ (by decide)) rfl rfl rfl rfl rfl rfl ?_)
    rw [hm] at h1
    exact V.iret omX7_swap rfl rfl (by simp only [s7_swap, if_neg h1] <;> (refine ⟨?_, ?_⟩ <;> first | rfl | trivial))
end RK3
end
section
section RK4
variable {A : Nat → Nat → Int32} {B : Nat → Nat → Int64}
def wn (A : Nat → Nat → Int32) (m : Nat) (r : Int32) : Int32 := if 0 ≤ r ∧ r < nI m then (if 0 < bsm (A (8 + 2 * cl r)) then 0 else -7) else -3
set_option maxHeartbeats 4000000 in
set_option maxRecDepth 100000 in
theorem c_whyNoLeast (d : Nat) {m : Nat} (hm : A 0 9 = nI m) (h6 : m ≤ 6) (r : Int32) : C mX7_whyNoLeast (d + 2) 0 0 [.ref 0, .int r] (hp A B) (fun r' h' => h' = hp A B ∧ r' = some (.int (wn A m r))) := by
  refine C.of [some (.ref 0), some (.int r)] omX7_whyNoLeast rfl rfl rfl ?_
  by_cases h1 : 0 ≤ r ∧ r < A 0 9
  · repeat (first | refine V.s omX7_whyNoLeast rfl rfl ?_ | refine V.gf omX7_whyNoLeast rfl rfl rfl rfl ?_ | refine V.brF omX7_whyNoLeast rfl rfl (by decide) ?_ | refine V.brT omX7_whyNoLeast rfl rfl (by decide) (by decide) ?_ | refine V.cVf omX7_whyNoLeast omX7_hasKiss rfl rfl (c_hkY _ h1) rfl rfl rfl rfl rfl rfl ?_)
    rw [hm] at h1
    simp only [wn, if_pos h1]
    obtain ⟨i, hi, rfl⟩ := rng (by omega) h1
    simp only [cl_nI (show i < 20 by omega)]
    refine V.aal omX7_whyNoLeast rfl rfl (ixN nv_nI (show i < 6 by omega) (by decide)) (kisF_at (show i < 6 by omega)) ?_
    refine V.cVf omX7_whyNoLeast omX4_bendSum rfl rfl (c_bendSum _ (show i < 8 by omega)) rfl rfl (hpQ (show i < 8 by omega)) rfl rfl rfl ?_
    repeat' (first | refine V.s omX7_whyNoLeast rfl rfl ?_ | refine V.gf omX7_whyNoLeast rfl rfl rfl rfl ?_ | refine V.br omX7_whyNoLeast rfl rfl (fun hc => ?_) (fun hc => ?_))
    · rw [lgc_le] at hc
      exact V.iret omX7_whyNoLeast rfl rfl ⟨rfl, by rw [if_neg (Int64.not_lt.mpr hc)]⟩
    · rw [lgc_gt] at hc
      exact V.iret omX7_whyNoLeast rfl rfl ⟨rfl, by rw [if_pos hc]⟩
  · repeat (first | refine V.s omX7_whyNoLeast rfl rfl ?_ | refine V.gf omX7_whyNoLeast rfl rfl rfl rfl ?_ | refine V.brF omX7_whyNoLeast rfl rfl (by decide) ?_ | refine V.brT omX7_whyNoLeast rfl rfl (by decide) (by decide) ?_ | refine V.cVf omX7_whyNoLeast omX7_hasKiss rfl rfl (c_hkN _ h1) rfl rfl rfl rfl rfl rfl ?_)
    rw [hm] at h1
    exact V.iret omX7_whyNoLeast rfl rfl (by simp only [wn, if_neg h1] <;> (refine ⟨?_, ?_⟩ <;> first | rfl | trivial))
def kpA (A : Nat → Nat → Int32) (m : Nat) : Nat → Nat → Int32 := va_up (va_up A (8 + 2 * m) (va_cpy (A 20) (A (8 + 2 * m)) 0 0 16)) 0 (upd (A 0) 9 (nI (m + 1)))
def s7_keep (A : Nat → Nat → Int32) (m : Nat) : Int32 × (Nat → Nat → Int32) := if lawsF (A 20) = 1 ∧ tchF (A 20) = 1 then (if m < 6 then (nI m, kpA A m) else (-8, rfA A 8)) else (-7, rfA A 7)
theorem lawsF_01 (f : Nat → Int32) : lawsF f = 0 ∨ lawsF f = 1 := by unfold lawsF; split <;> simp
theorem tchF_01 (f : Nat → Int32) : tchF f = 0 ∨ tchF f = 1 := by unfold tchF; split <;> simp
set_option maxHeartbeats 4000000 in
set_option maxRecDepth 100000 in
theorem c_keepWork (d : Nat) {m : Nat} (hm : A 0 9 = nI m) (h6 : m ≤ 6) : C mX7_keepWork (d + 3) 0 0 [.ref 0] (hp A B) (fun r' h' => h' = hp (s7_keep A m).2 B ∧ r' = some (.int (s7_keep A m).1)) := by
  refine C.of [some (.ref 0)] omX7_keepWork rfl rfl rfl ?_
  have ck : C mX4_keepsLaws (d + 2) 0 0 [.ref 19] (hp A B) (fun r h' => h' = hp A B ∧ r = some (.int (lawsF (A 20)))) := c_keepsLaws (k := 6) d (by decide)
  have ct : C mX4_allTouch (d + 2) 0 0 [.ref 19] (hp A B) (fun r h' => h' = hp A B ∧ r = some (.int (tchF (A 20)))) := c_allTouch (k := 6) (d + 1) (by decide)
  repeat (first | refine V.s omX7_keepWork rfl rfl ?_ | refine V.gf omX7_keepWork rfl rfl rfl rfl ?_)
  refine V.cVf omX7_keepWork omX4_keepsLaws rfl rfl ck rfl rfl rfl rfl rfl rfl ?_
  rcases lawsF_01 (A 20) with hl | hl
  · rw [hl]
    refine V.brT omX7_keepWork rfl rfl rfl (by decide) ?_
    repeat (first | refine V.s omX7_keepWork rfl rfl ?_ | refine V.gf omX7_keepWork rfl rfl rfl rfl ?_ | refine V.cVf omX7_keepWork omX7_refuse rfl rfl (c_refuse _ _ (by decide)) rfl rfl rfl rfl rfl rfl ?_)
    exact V.iret omX7_keepWork rfl rfl (by simp only [s7_keep, hl, if_neg (show ¬ ((0 : Int32) = 1 ∧ tchF (A 20) = 1) from fun h => absurd h.1 (by decide))] <;> (refine ⟨?_, ?_⟩ <;> first | rfl | trivial))
  · rw [hl]
    refine V.brF omX7_keepWork rfl rfl (by decide) ?_
    repeat (first | refine V.s omX7_keepWork rfl rfl ?_ | refine V.gf omX7_keepWork rfl rfl rfl rfl ?_)
    refine V.cVf omX7_keepWork omX4_allTouch rfl rfl ct rfl rfl rfl rfl rfl rfl ?_
    rcases tchF_01 (A 20) with ht | ht
    · rw [ht]
      refine V.brF omX7_keepWork rfl rfl (by decide) ?_
      repeat (first | refine V.s omX7_keepWork rfl rfl ?_ | refine V.gf omX7_keepWork rfl rfl rfl rfl ?_ | refine V.cVf omX7_keepWork omX7_refuse rfl rfl (c_refuse _ _ (by decide)) rfl rfl rfl rfl rfl rfl ?_)
      exact V.iret omX7_keepWork rfl rfl (by simp only [s7_keep, hl, ht, if_neg (show ¬ ((1 : Int32) = 1 ∧ (0 : Int32) = 1) from fun h => absurd h.2 (by decide))] <;> (refine ⟨?_, ?_⟩ <;> first | rfl | trivial))
    · rw [ht]
      refine V.brT omX7_keepWork rfl rfl (by decide) (by decide) ?_
      simp only [s7_keep, hl, ht, and_self, if_true]
      repeat (first | refine V.s omX7_keepWork rfl rfl ?_ | refine V.gf omX7_keepWork rfl rfl rfl rfl ?_)
      rw [hm]
      by_cases h5 : m < 6
      · rw [if_pos h5]
        refine V.brT omX7_keepWork rfl rfl (by rw [nIl_eq 6 (by omega) (by decide)]; omega) (fun h => h) ?_
        repeat (first | refine V.s omX7_keepWork rfl rfl ?_ | refine V.gf omX7_keepWork rfl rfl rfl rfl ?_)
        rw [hm]
        refine V.aal omX7_keepWork rfl rfl (ixN nv_nI (show m < 6 by omega) (by decide)) (kisF_at h5) ?_
        repeat (first | refine V.s omX7_keepWork rfl rfl ?_ | refine V.gf omX7_keepWork rfl rfl rfl rfl ?_)
        have ck2 : C mX4_take (d + 2) 0 0 [.ref (7 + 2 * m), .ref 19] (hp A B) (fun r h' => h' = hp (va_up A (8 + 2 * m) (va_cpy (A 20) (A (8 + 2 * m)) 0 0 16)) B ∧ r = none) := c_take (k := m) (j := 6) _ (by omega) (by decide)
        refine V.cVv omX7_keepWork omX4_take rfl rfl ck2 rfl rfl (hpQ (show m < 8 by omega)) rfl rfl rfl ?_
        repeat (first | refine V.s omX7_keepWork rfl rfl ?_ | refine V.gf omX7_keepWork rfl rfl rfl rfl ?_)
        rw [va_up_ne _ _ (show (0 : Nat) ≠ 8 + 2 * m by omega), hm, nI_1]
        refine V.pfH omX7_keepWork rfl rfl rfl rfl rfl rfl rfl ?_
        repeat (first | refine V.s omX7_keepWork rfl rfl ?_ | refine V.gf omX7_keepWork rfl rfl rfl rfl ?_)
        rw [va_up_self, pk_us, nI_pred]
        refine V.iret omX7_keepWork rfl rfl ⟨?_, rfl⟩
        rw [va_up_ne _ _ (show (0 : Nat) ≠ 8 + 2 * m by omega)]
        rfl
      · rw [if_neg h5]
        refine V.brF omX7_keepWork rfl rfl (by rw [nIl_eq 6 (by omega) (by decide)]; omega) ?_
        repeat (first | refine V.s omX7_keepWork rfl rfl ?_ | refine V.gf omX7_keepWork rfl rfl rfl rfl ?_ | refine V.cVf omX7_keepWork omX7_refuse rfl rfl (c_refuse _ _ (by decide)) rfl rfl rfl rfl rfl rfl ?_)
        exact V.iret omX7_keepWork rfl rfl ⟨rfl, rfl⟩
theorem c7_led (d : Nat) : C mX7_led d 0 0 [.ref 0] (hp A B) (fun r h' => h' = hp A B ∧ r = some (.int (A 0 10))) := by
  refine C.of [some (.ref 0)] omX7_led rfl rfl rfl ?_
  repeat (first | refine V.s omX7_led rfl rfl ?_ | refine V.gf omX7_led rfl rfl rfl rfl ?_)
  exact V.iret omX7_led rfl rfl ⟨rfl, rfl⟩
def s7_shut (A : Nat → Nat → Int32) (m : Nat) (r : Int32) : Int32 × (Nat → Nat → Int32) := if wn A m r = 0 then (negB (lbB (A (8 + 2 * cl r)) (A 20)).2.1, Lh A 6 (lbB (A (8 + 2 * cl r)) (A 20)).2.1 (lbB (A (8 + 2 * cl r)) (A 20)).2.2) else (wn A m r, rfA A (rfI (wn A m r)))
theorem wn_c (A : Nat → Nat → Int32) (m : Nat) (r : Int32) : wn A m r = 0 ∨ wn A m r = -7 ∨ wn A m r = -3 := by
  unfold wn
  split
  · split <;> simp
  · simp
theorem wn_0 {A : Nat → Nat → Int32} {m : Nat} {r : Int32} (h : wn A m r = 0) : (0 ≤ r ∧ r < nI m) ∧ 0 < bsm (A (8 + 2 * cl r)) := by
  unfold wn at h
  split at h
  · split at h
    · exact ⟨by assumption, by assumption⟩
    · exact absurd h (by decide)
  · exact absurd h (by decide)
theorem negB_01 (f : Nat → Int32) : negB f = 0 ∨ negB f = 1 := by unfold negB; split <;> simp
theorem rfB_wn {A : Nat → Nat → Int32} {m : Nat} {r : Int32} (h : ¬ wn A m r = 0) : rfB (wn A m r) = true := by
  rcases wn_c A m r with g | g | g
  · exact absurd g h
  · rw [g]; decide
  · rw [g]; decide
theorem c_tlb (d : Nat) {i : Nat} (hi : i < 8) : C mX4_takeLeastBends (d + 3) 0 0 [.ref 19, .ref (7 + 2 * i)] (hp A B) (fun r h' => h' = hp (Lh A 6 (lbB (A (8 + 2 * i)) (A 20)).2.1 (lbB (A (8 + 2 * i)) (A 20)).2.2) B ∧ r = none) := c_takeLeastBends (k := 6) d (by decide) hi
theorem Lh_20 {f : Nat → Int32} {v : Int32} : Lh A 6 f v 20 = f := Lh_arr (k := 6)
theorem c_neg6 (d : Nat) : C mX4_hasBendBelowZero (d + 1) 0 0 [.ref 19] (hp A B) (fun r h' => h' = hp A B ∧ r = some (.int (negB (A 20)))) := c_hasNeg (k := 6) d (by decide)
set_option maxHeartbeats 4000000 in
set_option maxRecDepth 100000 in
theorem c7_shut (d : Nat) {m : Nat} (hm : A 0 9 = nI m) (h6 : m ≤ 6) (r : Int32) : C mX7_shut (d + 4) 0 0 [.ref 0, .int r] (hp A B) (fun r' h' => h' = hp (s7_shut A m r).2 B ∧ r' = some (.int (s7_shut A m r).1)) := by
  refine C.of [some (.ref 0), some (.int r), none] omX7_shut rfl rfl rfl ?_
  repeat (first | refine V.s omX7_shut rfl rfl ?_ | refine V.gf omX7_shut rfl rfl rfl rfl ?_)
  refine V.cVf omX7_shut omX7_whyNoLeast rfl rfl (c_whyNoLeast (d + 1) hm h6 r) rfl rfl rfl rfl rfl rfl ?_
  repeat (first | refine V.s omX7_shut rfl rfl ?_ | refine V.gf omX7_shut rfl rfl rfl rfl ?_)
  by_cases h0 : wn A m r = 0
  · simp only [s7_shut, if_pos h0]
    rw [h0]
    refine V.brT omX7_shut rfl rfl rfl (by decide) ?_
    obtain ⟨i, hi, rfl⟩ := rng (by omega) (wn_0 h0).1
    simp only [cl_nI (show i < 20 by omega)]
    repeat (first | refine V.s omX7_shut rfl rfl ?_ | refine V.gf omX7_shut rfl rfl rfl rfl ?_)
    refine V.aal omX7_shut rfl rfl (ixN nv_nI (show i < 6 by omega) (by decide)) (kisF_at (show i < 6 by omega)) ?_
    refine V.cVv omX7_shut omX4_takeLeastBends rfl rfl (c_tlb d (show i < 8 by omega)) rfl rfl rfl rfl rfl rfl ?_
    repeat (first | refine V.s omX7_shut rfl rfl ?_ | refine V.gf omX7_shut rfl rfl rfl rfl ?_)
    refine V.cVf omX7_shut omX4_hasBendBelowZero rfl rfl (c_neg6 _) rfl rfl rfl rfl rfl rfl ?_
    rw [Lh_20]
    rcases negB_01 (lbB (A (8 + 2 * i)) (A 20)).2.1 with hb | hb
    · rw [hb]
      refine V.brT omX7_shut rfl rfl rfl (by decide) ?_
      repeat (first | refine V.s omX7_shut rfl rfl ?_ | refine V.gf omX7_shut rfl rfl rfl rfl ?_)
      exact V.iret omX7_shut rfl rfl ⟨rfl, rfl⟩
    · rw [hb]
      refine V.brF omX7_shut rfl rfl (by decide) ?_
      repeat (first | refine V.s omX7_shut rfl rfl ?_ | refine V.gf omX7_shut rfl rfl rfl rfl ?_)
      exact V.iret omX7_shut rfl rfl ⟨rfl, rfl⟩
  · simp only [s7_shut, if_neg h0]
    refine V.brF omX7_shut rfl rfl h0 ?_
    repeat (first | refine V.s omX7_shut rfl rfl ?_ | refine V.gf omX7_shut rfl rfl rfl rfl ?_)
    refine V.cVf omX7_shut omX7_refuse rfl rfl (c_refuse _ _ (rfB_wn h0)) rfl rfl rfl rfl rfl rfl ?_
    exact V.iret omX7_shut rfl rfl ⟨rfl, rfl⟩
def s7_tear (A : Nat → Nat → Int32) : Int32 × (Nat → Nat → Int32) := (A 0 11, va_up A 0 (upd (A 0) 11 0))
theorem c7_tear (d : Nat) (hz : A 0 11 = 0 ∨ A 0 11 = 1) : C mX7_tear d 0 0 [.ref 0] (hp A B) (fun r h' => h' = hp (s7_tear A).2 B ∧ r = some (.int (s7_tear A).1)) := by
  refine C.of [some (.ref 0), none] omX7_tear rfl rfl rfl ?_
  repeat (first | refine V.s omX7_tear rfl rfl ?_ | refine V.gf omX7_tear rfl rfl rfl rfl ?_)
  unfold s7_tear
  rcases hz with hz | hz
  · rw [hz]
    refine V.brT omX7_tear rfl rfl rfl (by decide) ?_
    repeat (first | refine V.s omX7_tear rfl rfl ?_ | refine V.gf omX7_tear rfl rfl rfl rfl ?_ | refine V.pfH omX7_tear rfl rfl rfl rfl rfl rfl rfl ?_)
    exact V.iret omX7_tear rfl rfl ⟨rfl, rfl⟩
  · rw [hz]
    refine V.brF omX7_tear rfl rfl (by decide) ?_
    repeat (first | refine V.s omX7_tear rfl rfl ?_ | refine V.gf omX7_tear rfl rfl rfl rfl ?_ | refine V.pfH omX7_tear rfl rfl rfl rfl rfl rfl rfl ?_)
    exact V.iret omX7_tear rfl rfl ⟨rfl, rfl⟩
def s7_row (A : Nat → Nat → Int32) (r : Int32) : Int32 × (Nat → Nat → Int32) := if A 0 11 = 0 then (0, rfA A 2) else if 0 ≤ r ∧ r < 16 then (A 31 (cl r), A) else (0, rfA A 3)
theorem c7_row (d : Nat) (r : Int32) : C mX7_row (d + 1) 0 0 [.ref 0, .int r] (hp A B) (fun r' h' => h' = hp (s7_row A r).2 B ∧ r' = some (.int (s7_row A r).1)) := by
  refine C.of [some (.ref 0), some (.int r)] omX7_row rfl rfl rfl ?_
  repeat (first | refine V.s omX7_row rfl rfl ?_ | refine V.gf omX7_row rfl rfl rfl rfl ?_)
  by_cases hz : A 0 11 = 0
  · simp only [s7_row, if_pos hz]
    refine V.brF omX7_row rfl rfl (fun h => h hz) ?_
    repeat (first | refine V.s omX7_row rfl rfl ?_ | refine V.gf omX7_row rfl rfl rfl rfl ?_ | refine V.cVf omX7_row omX7_refuseByZero rfl rfl (c_refuseByZero _ _ (by decide)) rfl rfl rfl rfl rfl rfl ?_)
    exact V.iret omX7_row rfl rfl ⟨rfl, rfl⟩
  · simp only [s7_row, if_neg hz]
    refine V.brT omX7_row rfl rfl hz (fun h => h) ?_
    by_cases h2 : 0 ≤ r ∧ r < 16
    · simp only [if_pos h2]
      obtain ⟨c, hc, rfl⟩ := rng (n := 16) (by decide) h2
      simp only [cl_nI (show c < 20 by omega)]
      repeat (first | refine V.s omX7_row rfl rfl ?_ | refine V.gf omX7_row rfl rfl rfl rfl ?_ | refine V.brF omX7_row rfl rfl (Int32.not_lt.mpr h2.1) ?_ | refine V.brF omX7_row rfl rfl (Int32.not_le.mpr h2.2) ?_ | refine V.ial omX7_row rfl rfl (ixN nv_nI (by omega) (by decide)) ?_)
      exact V.iret omX7_row rfl rfl ⟨rfl, rfl⟩
    · simp only [if_neg h2]
      repeat' (first | refine V.s omX7_row rfl rfl ?_ | refine V.gf omX7_row rfl rfl rfl rfl ?_ | simp only [Int32.reduceAdd, Int32.reduceMul, Int32.reduceSub] | refine V.brF omX7_row rfl rfl (by decide) ?_ | refine V.brT omX7_row rfl rfl (by decide) (by decide) ?_ | refine V.cVf omX7_row omX7_refuseByZero rfl rfl (c_refuseByZero _ _ (by decide)) rfl rfl rfl rfl rfl rfl ?_ | refine V.br omX7_row rfl rfl (fun hc => ?_) (fun hc => ?_))
      all_goals first | exact V.iret omX7_row rfl rfl ⟨rfl, rfl⟩ | skip
      exact absurd ⟨by assumption, by assumption⟩ h2
def s7_status (A : Nat → Nat → Int32) (r : Int32) : Int32 × (Nat → Nat → Int32) := if r ≤ -2 ∧ -8 ≤ r then (A 32 (rfI r), A) else (-7, rfA A 7)
theorem st_ix {r : Int32} (h : r ≤ -2 ∧ -8 ≤ r) : ix (-r) (rfI r) 9 := by
  refine ⟨rfl, vp_in_iff.mpr ?_⟩
  have h1 := Int32.le_iff_toInt_le.mp h.1
  have h2 := Int32.le_iff_toInt_le.mp h.2
  have e1 : (-2 : Int32).toInt = -2 := by decide
  have e2 : (-8 : Int32).toInt = -8 := by decide
  rw [e1] at h1
  rw [e2] at h2
  rw [Int32.toInt_neg, Int.bmod_def]
  split <;> omega
theorem c7_status (d : Nat) (r : Int32) : C mX7_status (d + 1) 0 0 [.ref 0, .int r] (hp A B) (fun r' h' => h' = hp (s7_status A r).2 B ∧ r' = some (.int (s7_status A r).1)) := by
  refine C.of [some (.ref 0), some (.int r)] omX7_status rfl rfl rfl ?_
  by_cases h2 : r ≤ -2 ∧ -8 ≤ r
  · simp only [s7_status, if_pos h2]
    repeat (first | refine V.s omX7_status rfl rfl ?_ | refine V.gf omX7_status rfl rfl rfl rfl ?_ | refine V.brF omX7_status rfl rfl (Int32.not_lt.mpr h2.1) ?_ | refine V.brF omX7_status rfl rfl (Int32.not_lt.mpr h2.2) ?_)
    refine V.ial omX7_status rfl rfl (st_ix h2) ?_
    refine V.s omX7_status rfl rfl ?_
    exact V.iret omX7_status rfl rfl ⟨rfl, rfl⟩
  · simp only [s7_status, if_neg h2]
    repeat' (first | refine V.s omX7_status rfl rfl ?_ | refine V.gf omX7_status rfl rfl rfl rfl ?_ | simp only [Int32.reduceAdd, Int32.reduceMul, Int32.reduceSub] | refine V.brF omX7_status rfl rfl (by decide) ?_ | refine V.brT omX7_status rfl rfl (by decide) (by decide) ?_ | refine V.cVf omX7_status omX7_refuse rfl rfl (c_refuse _ _ (by decide)) rfl rfl rfl rfl rfl rfl ?_ | refine V.br omX7_status rfl rfl (fun hc => ?_) (fun hc => ?_))
    all_goals first | exact V.iret omX7_status rfl rfl ⟨rfl, rfl⟩ | skip
    exact absurd ⟨by assumption, by assumption⟩ h2
end RK4
end
section
section RK5
variable {A : Nat → Nat → Int32} {B : Nat → Nat → Int64}
def s7_lay (A : Nat → Nat → Int32) (m : Nat) (r : Int32) : Int32 × (Nat → Nat → Int32) := if 0 ≤ r ∧ r < nI m then (16, va_up (va_up A 31 (va_cpy (A (8 + 2 * cl r)) (A 31) 0 0 16)) 0 (upd (A 0) 11 1)) else (-3, rfA A 3)
set_option maxHeartbeats 4000000 in
set_option maxRecDepth 100000 in
theorem c7_lay (d : Nat) {m : Nat} (hm : A 0 9 = nI m) (h6 : m ≤ 6) (r : Int32) : C mX7_lay (d + 1) 0 0 [.ref 0, .int r] (hp A B) (fun r' h' => h' = hp (s7_lay A m r).2 B ∧ r' = some (.int (s7_lay A m r).1)) := by
  refine C.of [some (.ref 0), some (.int r)] omX7_lay rfl rfl rfl ?_
  by_cases h1 : 0 ≤ r ∧ r < A 0 9
  · repeat (first | refine V.s omX7_lay rfl rfl ?_ | refine V.gf omX7_lay rfl rfl rfl rfl ?_ | refine V.brF omX7_lay rfl rfl (by decide) ?_ | refine V.brT omX7_lay rfl rfl (by decide) (by decide) ?_ | refine V.cVf omX7_lay omX7_hasKiss rfl rfl (c_hkY _ h1) rfl rfl rfl rfl rfl rfl ?_)
    rw [hm] at h1
    simp only [s7_lay, if_pos h1]
    obtain ⟨i, hi, rfl⟩ := rng (by omega) h1
    simp only [cl_nI (show i < 20 by omega)]
    refine V.aal omX7_lay rfl rfl (ixN nv_nI (show i < 6 by omega) (by decide)) (kisF_at (show i < 6 by omega)) ?_
    refine V.gf omX7_lay rfl (hpQ (show i < 8 by omega)) rfl rfl ?_
    repeat (first | refine V.s omX7_lay rfl rfl ?_ | refine V.gf omX7_lay rfl rfl rfl rfl ?_)
    refine V.cpH omX7_lay rfl rfl (hpR (show i < 8 by omega)) rfl (sj := 0) (dj := 0) (nj := 16) (by decide) (by decide) (by decide) (by decide) (by decide) rfl ?_
    repeat (first | refine V.s omX7_lay rfl rfl ?_ | refine V.gf omX7_lay rfl rfl rfl rfl ?_ | refine V.pfH omX7_lay rfl rfl rfl rfl rfl rfl rfl ?_)
    refine V.iret omX7_lay rfl rfl ⟨?_, rfl⟩
    rw [va_up_ne _ _ (show (0 : Nat) ≠ 31 by decide)]
  · repeat (first | refine V.s omX7_lay rfl rfl ?_ | refine V.gf omX7_lay rfl rfl rfl rfl ?_ | refine V.brF omX7_lay rfl rfl (by decide) ?_ | refine V.brT omX7_lay rfl rfl (by decide) (by decide) ?_ | refine V.cVf omX7_lay omX7_hasKiss rfl rfl (c_hkN _ h1) rfl rfl rfl rfl rfl rfl ?_ | refine V.cVf omX7_lay omX7_refuse rfl rfl (c_refuse _ _ (by decide)) rfl rfl rfl rfl rfl rfl ?_)
    rw [hm] at h1
    exact V.iret omX7_lay rfl rfl (by simp only [s7_lay, if_neg h1] <;> (refine ⟨?_, ?_⟩ <;> first | rfl | trivial))
def cpP (i j n : Int32) : Prop := 0 ≤ i ∧ 0 ≤ j ∧ i.toInt64 + n.toInt64 ≤ 16 ∧ j.toInt64 + n.toInt64 ≤ 16
theorem cp_le {a c : Nat} (ha : a < 2 ^ 31) (hc : c < 2 ^ 31) : ((nI a).toInt64 + (nI c).toInt64 ≤ 16) ↔ a + c ≤ 16 := by
  rw [nI_l ha, nI_l hc, lN_add]
  exact pk_lLE (by omega) (by decide)
def s7_copy (A : Nat → Nat → Int32) (i j n : Int32) : Int32 × (Nat → Nat → Int32) := if A 0 11 = 0 then (-2, rfA A 2) else if n < 0 then (-4, rfA A 4) else if 0 ≤ i ∧ 0 ≤ j ∧ i.toInt64 + n.toInt64 ≤ 16 ∧ j.toInt64 + n.toInt64 ≤ 16 then (n, va_up A 31 (va_cpy (A 31) (A 31) (cl i) (cl j) (cl n))) else (-6, rfA A 6)
set_option maxHeartbeats 4000000 in
set_option maxRecDepth 100000 in
theorem c7_copy (d : Nat) (i j n : Int32) : C mX7_copy (d + 1) 0 0 [.ref 0, .int i, .int j, .int n] (hp A B) (fun r' h' => h' = hp (s7_copy A i j n).2 B ∧ r' = some (.int (s7_copy A i j n).1)) := by
  refine C.of [some (.ref 0), some (.int i), some (.int j), some (.int n)] omX7_copy rfl rfl rfl ?_
  repeat (first | refine V.s omX7_copy rfl rfl ?_ | refine V.gf omX7_copy rfl rfl rfl rfl ?_)
  by_cases hz : A 0 11 = 0
  · simp only [s7_copy, if_pos hz]
    refine V.brF omX7_copy rfl rfl (fun h => h hz) ?_
    repeat (first | refine V.s omX7_copy rfl rfl ?_ | refine V.gf omX7_copy rfl rfl rfl rfl ?_ | refine V.cVf omX7_copy omX7_refuse rfl rfl (c_refuse _ _ (by decide)) rfl rfl rfl rfl rfl rfl ?_)
    exact V.iret omX7_copy rfl rfl ⟨rfl, rfl⟩
  simp only [s7_copy, if_neg hz]
  refine V.brT omX7_copy rfl rfl hz (fun h => h) ?_
  repeat (first | refine V.s omX7_copy rfl rfl ?_ | refine V.gf omX7_copy rfl rfl rfl rfl ?_)
  by_cases hn : n < 0
  · simp only [if_pos hn]
    refine V.brF omX7_copy rfl rfl (Int32.not_le.mpr hn) ?_
    repeat (first | refine V.s omX7_copy rfl rfl ?_ | refine V.gf omX7_copy rfl rfl rfl rfl ?_ | refine V.cVf omX7_copy omX7_refuse rfl rfl (c_refuse _ _ (by decide)) rfl rfl rfl rfl rfl rfl ?_)
    exact V.iret omX7_copy rfl rfl ⟨rfl, rfl⟩
  simp only [if_neg hn]
  refine V.brT omX7_copy rfl rfl (Int32.not_lt.mp hn) (fun _ h => hn h) ?_
  by_cases h2 : 0 ≤ i ∧ 0 ≤ j ∧ i.toInt64 + n.toInt64 ≤ 16 ∧ j.toInt64 + n.toInt64 ≤ 16
  · simp only [if_pos h2]
    obtain ⟨a1, a2, a3, a4⟩ := h2
    repeat (first | refine V.s omX7_copy rfl rfl ?_ | refine V.gf omX7_copy rfl rfl rfl rfl ?_ | refine V.brF omX7_copy rfl rfl (Int32.not_lt.mpr a1) ?_ | refine V.brF omX7_copy rfl rfl (Int32.not_lt.mpr a2) ?_ | refine V.brF omX7_copy rfl rfl (Int32.not_lt.mpr (lgc_le.mpr a3)) ?_)
    refine V.brT omX7_copy rfl rfl (lgc_le.mpr a4) (fun h => Int32.not_lt.mpr h) ?_
    repeat (first | refine V.s omX7_copy rfl rfl ?_ | refine V.gf omX7_copy rfl rfl rfl rfl ?_)
    obtain ⟨a, ha, rfl⟩ := nI_of (Int32.not_lt.mpr a1)
    obtain ⟨b, hb, rfl⟩ := nI_of (Int32.not_lt.mpr a2)
    obtain ⟨c, hc, rfl⟩ := nI_of hn
    rw [cp_le ha hc] at a3
    rw [cp_le hb hc] at a4
    simp only [cl_nI (show a < 20 by omega), cl_nI (show b < 20 by omega), cl_nI (show c < 20 by omega)]
    refine V.cpH omX7_copy rfl rfl rfl rfl (sj := a) (dj := b) (nj := c) ⟨nI_pos ha, nI_clamp ha⟩ ⟨nI_pos hb, nI_clamp hb⟩ ⟨hn, nI_clamp hc⟩ a3 a4 rfl ?_
    repeat (first | refine V.s omX7_copy rfl rfl ?_ | refine V.gf omX7_copy rfl rfl rfl rfl ?_)
    exact V.iret omX7_copy rfl rfl ⟨rfl, rfl⟩
  · simp only [if_neg h2]
    repeat' (first | refine V.s omX7_copy rfl rfl ?_ | refine V.gf omX7_copy rfl rfl rfl rfl ?_ | simp only [Int32.reduceAdd, Int32.reduceMul, Int32.reduceSub] | refine V.brF omX7_copy rfl rfl (by decide) ?_ | refine V.brT omX7_copy rfl rfl (by decide) (by decide) ?_ | refine V.cVf omX7_copy omX7_refuse rfl rfl (c_refuse _ _ (by decide)) rfl rfl rfl rfl rfl rfl ?_ | refine V.br omX7_copy rfl rfl (fun hc => ?_) (fun hc => ?_))
    all_goals first | exact V.iret omX7_copy rfl rfl ⟨rfl, rfl⟩ | skip
    next g1 g2 g3 =>
    exact absurd ⟨g1, g2, lgc_le.mp g3, lgc_le.mp hc⟩ h2
def s7_give (A : Nat → Nat → Int32) (m : Nat) : Int32 × (Nat → Nat → Int32) := if A 0 11 = 0 then (-2, rfA A 2) else s7_keep (va_up A 20 (va_cpy (A 31) (A 20) 0 0 16)) m
set_option maxHeartbeats 4000000 in
set_option maxRecDepth 100000 in
theorem c7_give (d : Nat) {m : Nat} (hm : A 0 9 = nI m) (h6 : m ≤ 6) : C mX7_give (d + 4) 0 0 [.ref 0] (hp A B) (fun r' h' => h' = hp (s7_give A m).2 B ∧ r' = some (.int (s7_give A m).1)) := by
  refine C.of [some (.ref 0)] omX7_give rfl rfl rfl ?_
  repeat (first | refine V.s omX7_give rfl rfl ?_ | refine V.gf omX7_give rfl rfl rfl rfl ?_)
  by_cases hz : A 0 11 = 0
  · simp only [s7_give, if_pos hz]
    refine V.brF omX7_give rfl rfl (fun h => h hz) ?_
    repeat (first | refine V.s omX7_give rfl rfl ?_ | refine V.gf omX7_give rfl rfl rfl rfl ?_ | refine V.cVf omX7_give omX7_refuse rfl rfl (c_refuse _ _ (by decide)) rfl rfl rfl rfl rfl rfl ?_)
    exact V.iret omX7_give rfl rfl ⟨rfl, rfl⟩
  simp only [s7_give, if_neg hz]
  refine V.brT omX7_give rfl rfl hz (fun h => h) ?_
  repeat (first | refine V.s omX7_give rfl rfl ?_ | refine V.gf omX7_give rfl rfl rfl rfl ?_)
  refine V.cpH omX7_give rfl rfl rfl rfl (sj := 0) (dj := 0) (nj := 16) (by decide) (by decide) (by decide) (by decide) (by decide) rfl ?_
  repeat (first | refine V.s omX7_give rfl rfl ?_ | refine V.gf omX7_give rfl rfl rfl rfl ?_)
  refine V.cVf omX7_give omX7_keepWork rfl rfl (c_keepWork d (m := m) (by rw [va_up_ne _ _ (show (0 : Nat) ≠ 20 by decide)]; exact hm) h6) rfl rfl rfl rfl rfl rfl ?_
  exact V.iret omX7_give rfl rfl ⟨rfl, rfl⟩
theorem Lh_ne {k q : Nat} {f : Nat → Int32} {v : Int32} (h1 : q ≠ 8 + 2 * k) (h2 : q ≠ 7 + 2 * k) : Lh A k f v q = A q := by
  unfold Lh
  rw [va_up_ne _ _ h2, va_up_ne _ _ h1]
def ls1 (A : Nat → Nat → Int32) (i : Nat) : Int32 × (Nat → Int32) × Int32 := lb true 1000000 0 (va_cpy (A (8 + 2 * i)) (A 20) 0 0 16) 0
def lsA (A : Nat → Nat → Int32) (i : Nat) : Nat → Nat → Int32 := Lh A 6 (ls1 A i).2.1 (ls1 A i).2.2
def s7_least (A : Nat → Nat → Int32) (m : Nat) (r : Int32) : Int32 × (Nat → Nat → Int32) := if wn A m r = 0 then (if (ls1 A (cl r)).1 < 0 then (-8, rfA (lsA A (cl r)) 8) else ((ls1 A (cl r)).1, va_up (va_up (lsA A (cl r)) (8 + 2 * cl r) (va_cpy (ls1 A (cl r)).2.1 (A (8 + 2 * cl r)) 0 0 16)) 0 (upd (A 0) 10 (ls1 A (cl r)).2.2))) else (wn A m r, rfA A (rfI (wn A m r)))
set_option maxHeartbeats 4000000 in
set_option maxRecDepth 100000 in
theorem c7_least (d : Nat) {m : Nat} (hm : A 0 9 = nI m) (h6 : m ≤ 6) (r : Int32) : C mX7_least (d + 3) 0 0 [.ref 0, .int r] (hp A B) (fun r' h' => h' = hp (s7_least A m r).2 B ∧ r' = some (.int (s7_least A m r).1)) := by
  refine C.of [some (.ref 0), some (.int r), none, none] omX7_least rfl rfl rfl ?_
  repeat (first | refine V.s omX7_least rfl rfl ?_ | refine V.gf omX7_least rfl rfl rfl rfl ?_)
  refine V.cVf omX7_least omX7_whyNoLeast rfl rfl (c_whyNoLeast d hm h6 r) rfl rfl rfl rfl rfl rfl ?_
  repeat (first | refine V.s omX7_least rfl rfl ?_ | refine V.gf omX7_least rfl rfl rfl rfl ?_)
  by_cases h0 : wn A m r = 0
  · simp only [s7_least, if_pos h0]
    rw [h0]
    refine V.brT omX7_least rfl rfl rfl (by decide) ?_
    obtain ⟨i, hi, rfl⟩ := rng (by omega) (wn_0 h0).1
    simp only [cl_nI (show i < 20 by omega)]
    repeat (first | refine V.s omX7_least rfl rfl ?_ | refine V.gf omX7_least rfl rfl rfl rfl ?_)
    refine V.aal omX7_least rfl rfl (ixN nv_nI (show i < 6 by omega) (by decide)) (kisF_at (show i < 6 by omega)) ?_
    have ct : C mX4_take (d + 2) 0 0 [.ref 19, .ref (7 + 2 * i)] (hp A B) (fun r h' => h' = hp (va_up A 20 (va_cpy (A (8 + 2 * i)) (A 20) 0 0 16)) B ∧ r = none) := c_take (k := 6) _ (by decide) (by omega)
    refine V.cVv omX7_least omX4_take rfl rfl ct rfl rfl rfl rfl rfl rfl ?_
    repeat (first | refine V.s omX7_least rfl rfl ?_ | refine V.gf omX7_least rfl rfl rfl rfl ?_)
    have cl4 : C mX4_leadBack (d + 2) 0 0 [.ref 19, .int 4] (hp (va_up A 20 (va_cpy (A (8 + 2 * i)) (A 20) 0 0 16)) B) (fun r h' => h' = hp (lsA A i) B ∧ r = some (.int (ls1 A i).1)) := by
      refine (c_leadBack (k := 6) (A := va_up A 20 (va_cpy (A (8 + 2 * i)) (A 20) 0 0 16)) (B := B) d (by decide) true).mono (fun r h' hq => ?_)
      have e : va_up A 20 (va_cpy (A (8 + 2 * i)) (A 20) 0 0 16) (8 + 2 * 6) = va_cpy (A (8 + 2 * i)) (A 20) 0 0 16 := va_up_self _ _ _
      rw [e] at hq
      refine ⟨hq.1.trans ?_, hq.2⟩
      unfold lsA ls1 Lh
      rw [bx_uu, va_up_ne _ _ (show 7 + 2 * 6 ≠ 20 by decide)]
    refine V.cVf omX7_least omX4_leadBack rfl rfl cl4 rfl rfl rfl rfl rfl rfl ?_
    refine V.s omX7_least rfl rfl ?_
    refine V.s omX7_least rfl rfl ?_
    by_cases hneg : (ls1 A i).1 < 0
    · simp only [if_pos hneg]
      refine V.brF omX7_least rfl rfl (Int32.not_le.mpr hneg) ?_
      repeat (first | refine V.s omX7_least rfl rfl ?_ | refine V.gf omX7_least rfl rfl rfl rfl ?_ | refine V.cVf omX7_least omX7_refuse rfl rfl (c_refuse _ _ (by decide)) rfl rfl rfl rfl rfl rfl ?_)
      exact V.iret omX7_least rfl rfl ⟨rfl, rfl⟩
    · simp only [if_neg hneg]
      refine V.brT omX7_least rfl rfl (Int32.not_lt.mp hneg) (fun _ h => hneg h) ?_
      repeat (first | refine V.s omX7_least rfl rfl ?_ | refine V.gf omX7_least rfl rfl rfl rfl ?_)
      refine V.aal omX7_least rfl rfl (ixN nv_nI (show i < 6 by omega) (by decide)) (kisF_at (show i < 6 by omega)) ?_
      repeat (first | refine V.s omX7_least rfl rfl ?_ | refine V.gf omX7_least rfl rfl rfl rfl ?_)
      have ct2 : C mX4_take (d + 2) 0 0 [.ref (7 + 2 * i), .ref 19] (hp (lsA A i) B) (fun r h' => h' = hp (va_up (lsA A i) (8 + 2 * i) (va_cpy (ls1 A i).2.1 (A (8 + 2 * i)) 0 0 16)) B ∧ r = none) := by
        refine (c_take (k := i) (j := 6) (A := lsA A i) (B := B) _ (by omega) (by decide)).mono (fun r h' hq => ?_)
        have e1 : lsA A i (8 + 2 * 6) = (ls1 A i).2.1 := Lh_arr
        have e2 : lsA A i (8 + 2 * i) = A (8 + 2 * i) := Lh_ne (by omega) (by omega)
        rwa [e1, e2] at hq
      refine V.cVv omX7_least omX4_take rfl rfl ct2 rfl rfl (hpQ (show i < 8 by omega)) rfl rfl rfl ?_
      repeat (first | refine V.s omX7_least rfl rfl ?_ | refine V.gf omX7_least rfl rfl rfl rfl ?_)
      rw [va_up_ne _ _ (show (19 : Nat) ≠ 8 + 2 * i by omega), show lsA A i 19 1 = (ls1 A i).2.2 from Lh_fp (k := 6)]
      refine V.pfH omX7_least rfl rfl rfl rfl rfl rfl rfl ?_
      rw [va_up_ne _ _ (show (0 : Nat) ≠ 8 + 2 * i by omega), show lsA A i 0 = A 0 from Lh_ne (by decide) (by decide)]
      repeat (first | refine V.s omX7_least rfl rfl ?_ | refine V.gf omX7_least rfl rfl rfl rfl ?_)
      exact V.iret omX7_least rfl rfl ⟨rfl, rfl⟩
  · simp only [s7_least, if_neg h0]
    refine V.brF omX7_least rfl rfl h0 ?_
    repeat (first | refine V.s omX7_least rfl rfl ?_ | refine V.gf omX7_least rfl rfl rfl rfl ?_)
    refine V.cVf omX7_least omX7_refuse rfl rfl (c_refuse _ _ (rfB_wn h0)) rfl rfl rfl rfl rfl rfl ?_
    exact V.iret omX7_least rfl rfl ⟨rfl, rfl⟩
end RK5
end
section
section RK6
variable {A : Nat → Nat → Int32} {B : Nat → Nat → Int64}
def s7_same (A : Nat → Nat → Int32) (m : Nat) (r o : Int32) : Int32 × (Nat → Nat → Int32) :=
  if (0 ≤ r ∧ r < nI m) ∧ (0 ≤ o ∧ o < nI m) then (if wn A m r = 0 ∧ wn A m o = 0 then (hbF (lbB (A (8 + 2 * cl r)) (A 20)).2.1 (lbB (A (8 + 2 * cl o)) (A 22)).2.1, Lh (Lh A 6 (lbB (A (8 + 2 * cl r)) (A 20)).2.1 (lbB (A (8 + 2 * cl r)) (A 20)).2.2) 7 (lbB (A (8 + 2 * cl o)) (A 22)).2.1 (lbB (A (8 + 2 * cl o)) (A 22)).2.2) else (-7, rfA A 7)) else (-3, rfA A 3)
theorem hbF_01 (f g : Nat → Int32) : hbF f g = 0 ∨ hbF f g = 1 := by unfold hbF; split <;> simp
set_option maxHeartbeats 4000000 in
set_option maxRecDepth 100000 in
theorem c7_same (d : Nat) {m : Nat} (hm : A 0 9 = nI m) (h6 : m ≤ 6) (r o : Int32) : C mX7_same (d + 4) 0 0 [.ref 0, .int r, .int o] (hp A B) (fun r' h' => h' = hp (s7_same A m r o).2 B ∧ r' = some (.int (s7_same A m r o).1)) := by
  refine C.of [some (.ref 0), some (.int r), some (.int o)] omX7_same rfl rfl rfl ?_
  by_cases h1 : 0 ≤ r ∧ r < A 0 9
  · by_cases h2 : 0 ≤ o ∧ o < A 0 9
    · refine V.s omX7_same rfl rfl ?_
      refine V.s omX7_same rfl rfl ?_
      refine V.cVf omX7_same omX7_hasKiss rfl rfl (c_hkY _ h1) rfl rfl rfl rfl rfl rfl ?_
      refine V.brF omX7_same rfl rfl (by decide) ?_
      refine V.s omX7_same rfl rfl ?_
      refine V.s omX7_same rfl rfl ?_
      refine V.cVf omX7_same omX7_hasKiss rfl rfl (c_hkY _ h2) rfl rfl rfl rfl rfl rfl ?_
      refine V.brT omX7_same rfl rfl (by decide) (by decide) ?_
      rw [hm] at h1 h2
      have hp2 : (0 ≤ r ∧ r < nI m) ∧ (0 ≤ o ∧ o < nI m) := ⟨h1, h2⟩
      simp only [s7_same, if_pos hp2]
      refine V.s omX7_same rfl rfl ?_
      refine V.s omX7_same rfl rfl ?_
      refine V.cVf omX7_same omX7_whyNoLeast rfl rfl (c_whyNoLeast (d + 1) hm h6 r) rfl rfl rfl rfl rfl rfl ?_
      by_cases w1 : wn A m r = 0
      · refine V.brF omX7_same rfl rfl (fun h => h w1) ?_
        refine V.s omX7_same rfl rfl ?_
        refine V.s omX7_same rfl rfl ?_
        refine V.cVf omX7_same omX7_whyNoLeast rfl rfl (c_whyNoLeast (d + 1) hm h6 o) rfl rfl rfl rfl rfl rfl ?_
        by_cases w2 : wn A m o = 0
        · refine V.brT omX7_same rfl rfl w2 (fun h g => g h) ?_
          rw [if_pos ⟨w1, w2⟩]
          obtain ⟨i, hi, rfl⟩ := rng (by omega) h1
          obtain ⟨j, hj, rfl⟩ := rng (by omega) h2
          simp only [cl_nI (show i < 20 by omega), cl_nI (show j < 20 by omega)]
          repeat (first | refine V.s omX7_same rfl rfl ?_ | refine V.gf omX7_same rfl rfl rfl rfl ?_)
          refine V.aal omX7_same rfl rfl (ixN nv_nI (show i < 6 by omega) (by decide)) (kisF_at (show i < 6 by omega)) ?_
          refine V.cVv omX7_same omX4_takeLeastBends rfl rfl (c_tlb d (show i < 8 by omega)) rfl rfl rfl rfl rfl rfl ?_
          repeat (first | refine V.s omX7_same rfl rfl ?_ | refine V.gf omX7_same rfl rfl rfl rfl ?_)
          refine V.aal omX7_same rfl rfl (ixN nv_nI (show j < 6 by omega) (by decide)) (kisF_at (show j < 6 by omega)) ?_
          have ct : C mX4_takeLeastBends (d + 3) 0 0 [.ref 21, .ref (7 + 2 * j)] (hp (Lh A 6 (lbB (A (8 + 2 * i)) (A 20)).2.1 (lbB (A (8 + 2 * i)) (A 20)).2.2) B) (fun r h' => h' = hp (Lh (Lh A 6 (lbB (A (8 + 2 * i)) (A 20)).2.1 (lbB (A (8 + 2 * i)) (A 20)).2.2) 7 (lbB (A (8 + 2 * j)) (A 22)).2.1 (lbB (A (8 + 2 * j)) (A 22)).2.2) B ∧ r = none) := by
            refine (c_takeLeastBends (k := 7) (j := j) (A := Lh A 6 (lbB (A (8 + 2 * i)) (A 20)).2.1 (lbB (A (8 + 2 * i)) (A 20)).2.2) (B := B) d (by decide) (by omega)).mono (fun r h' hq => ?_)
            have e1 : ∀ f v, Lh A 6 f v (8 + 2 * 7) = A 22 := fun f v => Lh_ne (by decide) (by decide)
            have e2 : ∀ f v, Lh A 6 f v (8 + 2 * j) = A (8 + 2 * j) := fun f v => Lh_ne (by omega) (by omega)
            rwa [e1, e2] at hq
          refine V.cVv omX7_same omX4_takeLeastBends rfl rfl ct rfl rfl rfl rfl rfl rfl ?_
          repeat (first | refine V.s omX7_same rfl rfl ?_ | refine V.gf omX7_same rfl rfl rfl rfl ?_)
          have cb : C mX4_hasBendsOf (d + 3) 0 0 [.ref 19, .ref 21] (hp (Lh (Lh A 6 (lbB (A (8 + 2 * i)) (A 20)).2.1 (lbB (A (8 + 2 * i)) (A 20)).2.2) 7 (lbB (A (8 + 2 * j)) (A 22)).2.1 (lbB (A (8 + 2 * j)) (A 22)).2.2) B) (fun r h' => h' = hp (Lh (Lh A 6 (lbB (A (8 + 2 * i)) (A 20)).2.1 (lbB (A (8 + 2 * i)) (A 20)).2.2) 7 (lbB (A (8 + 2 * j)) (A 22)).2.1 (lbB (A (8 + 2 * j)) (A 22)).2.2) B ∧ r = some (.int (hbF (lbB (A (8 + 2 * i)) (A 20)).2.1 (lbB (A (8 + 2 * j)) (A 22)).2.1))) := by
            refine (c_hasBendsOf (k := 6) (j := 7) (A := Lh (Lh A 6 (lbB (A (8 + 2 * i)) (A 20)).2.1 (lbB (A (8 + 2 * i)) (A 20)).2.2) 7 (lbB (A (8 + 2 * j)) (A 22)).2.1 (lbB (A (8 + 2 * j)) (A 22)).2.2) (B := B) (d + 1) (by decide) (by decide)).mono (fun r h' hq => ?_)
            have e1 : ∀ (A : Nat → Nat → Int32) f v, Lh A 7 f v (8 + 2 * 7) = f := fun A f v => Lh_arr
            have e2 : ∀ (A : Nat → Nat → Int32) f v, Lh A 7 f v (8 + 2 * 6) = A (8 + 2 * 6) := fun A f v => Lh_ne (by decide) (by decide)
            have e3 : ∀ f v, Lh A 6 f v (8 + 2 * 6) = f := fun f v => Lh_arr
            rwa [e1, e2, e3] at hq
          refine V.cVf omX7_same omX4_hasBendsOf rfl rfl cb rfl rfl rfl rfl rfl rfl ?_
          rcases hbF_01 (lbB (A (8 + 2 * i)) (A 20)).2.1 (lbB (A (8 + 2 * j)) (A 22)).2.1 with hb | hb
          · rw [hb]
            refine V.brT omX7_same rfl rfl rfl (by decide) ?_
            repeat (first | refine V.s omX7_same rfl rfl ?_ | refine V.gf omX7_same rfl rfl rfl rfl ?_)
            exact V.iret omX7_same rfl rfl ⟨rfl, rfl⟩
          · rw [hb]
            refine V.brF omX7_same rfl rfl (by decide) ?_
            repeat (first | refine V.s omX7_same rfl rfl ?_ | refine V.gf omX7_same rfl rfl rfl rfl ?_)
            exact V.iret omX7_same rfl rfl ⟨rfl, rfl⟩
        · refine V.brF omX7_same rfl rfl w2 ?_
          repeat (first | refine V.s omX7_same rfl rfl ?_ | refine V.gf omX7_same rfl rfl rfl rfl ?_ | refine V.cVf omX7_same omX7_refuse rfl rfl (c_refuse _ _ (by decide)) rfl rfl rfl rfl rfl rfl ?_)
          exact V.iret omX7_same rfl rfl (by rw [if_neg (fun h => w2 h.2)]; exact ⟨rfl, rfl⟩)
      · refine V.brT omX7_same rfl rfl w1 (fun h => h) ?_
        repeat (first | refine V.s omX7_same rfl rfl ?_ | refine V.gf omX7_same rfl rfl rfl rfl ?_ | refine V.cVf omX7_same omX7_refuse rfl rfl (c_refuse _ _ (by decide)) rfl rfl rfl rfl rfl rfl ?_)
        exact V.iret omX7_same rfl rfl (by rw [if_neg (fun h => w1 h.1)]; exact ⟨rfl, rfl⟩)
    · repeat (first | refine V.s omX7_same rfl rfl ?_ | refine V.gf omX7_same rfl rfl rfl rfl ?_ | refine V.brF omX7_same rfl rfl (by decide) ?_ | refine V.brT omX7_same rfl rfl (by decide) (by decide) ?_ | refine V.cVf omX7_same omX7_hasKiss rfl rfl (c_hkY _ h1) rfl rfl rfl rfl rfl rfl ?_ | refine V.cVf omX7_same omX7_hasKiss rfl rfl (c_hkN _ h2) rfl rfl rfl rfl rfl rfl ?_ | refine V.cVf omX7_same omX7_refuse rfl rfl (c_refuse _ _ (by decide)) rfl rfl rfl rfl rfl rfl ?_)
      rw [hm] at h1 h2
      exact V.iret omX7_same rfl rfl (by simp only [s7_same, if_neg (show ¬ ((0 ≤ r ∧ r < nI m) ∧ (0 ≤ o ∧ o < nI m)) from fun h => h2 h.2)] <;> (refine ⟨?_, ?_⟩ <;> first | rfl | trivial))
  · repeat (first | refine V.s omX7_same rfl rfl ?_ | refine V.gf omX7_same rfl rfl rfl rfl ?_ | refine V.brF omX7_same rfl rfl (by decide) ?_ | refine V.brT omX7_same rfl rfl (by decide) (by decide) ?_ | refine V.cVf omX7_same omX7_hasKiss rfl rfl (c_hkN _ h1) rfl rfl rfl rfl rfl rfl ?_ | refine V.cVf omX7_same omX7_refuse rfl rfl (c_refuse _ _ (by decide)) rfl rfl rfl rfl rfl rfl ?_)
    rw [hm] at h1
    exact V.iret omX7_same rfl rfl (by simp only [s7_same, if_neg (show ¬ ((0 ≤ r ∧ r < nI m) ∧ (0 ≤ o ∧ o < nI m)) from fun h => h1 h.1)] <;> (refine ⟨?_, ?_⟩ <;> first | rfl | trivial))
/-! words -/
def pdg (dg : Int32) (s : Nat) : Nat := (dg >>> ((2 * nI s) &&& 31)).toBitVec.toNat % 4
theorem pdg_nv (dg : Int32) (s : Nat) : NV ((dg >>> ((2 * nI s) &&& 31)) &&& 3) (pdg dg s) := pk_and _ 2 (by decide)
def wdF (dg : Int32) : Nat → Nat → (Nat → Int32) → Nat × (Nat → Int32)
  | 0, s, f => (s, f)
  | m + 1, s, f => if fit4 f (pdg dg s) then wdF dg m (s + 1) (sw4 f (pdg dg s)) else (s, f)
theorem va_self (A : Nat → Nat → Int32) (q : Nat) : va_up A q (A q) = A := by
  funext z
  by_cases h : z = q
  · subst h; rw [va_up_self]
  · rw [va_up_ne _ _ h]
set_option maxHeartbeats 4000000 in
set_option maxRecDepth 100000 in
theorem word_loop (d : Nat) {i N : Nat} (hi : i < 6) (hN : N ≤ 15) (dg : Int32) (R : Nat × (Nat → Int32)) : ∀ (m s : Nat) (f : Nat → Int32) (v5 : Option Value), s + m = N → R = wdF dg m s f →
    V mX7_word (d + 2) 0 0 (fun r h' => h' = hp (va_up A (8 + 2 * i) R.2) B ∧ r = some (.int (nI R.1))) 0 0 55 [some (.ref 0), some (.int (nI i)), some (.int dg), some (.int (nI N)), some (.int (nI s)), v5] [] (hp (va_up A (8 + 2 * i) f) B) := by
  intro m
  induction m with
  | zero =>
    intro s f v5 hs hR
    have : s = N := by omega
    subst this
    refine V.s omX7_word rfl rfl ?_
    refine V.s omX7_word rfl rfl ?_
    refine V.brT omX7_word rfl rfl Int32.le_rfl (fun h => Int32.not_lt.mpr h) ?_
    refine V.s omX7_word rfl rfl ?_
    subst hR
    exact V.iret omX7_word rfl rfl ⟨rfl, rfl⟩
  | succ m ih =>
    intro s f v5 hs hR
    refine V.s omX7_word rfl rfl ?_
    refine V.s omX7_word rfl rfl ?_
    refine V.brF omX7_word rfl rfl (Int32.not_le.mpr (nI_lt (by omega) (by omega))) ?_
    repeat (first | refine V.s omX7_word rfl rfl ?_ | refine V.gf omX7_word rfl rfl rfl rfl ?_)
    refine V.aal omX7_word rfl rfl (ixN nv_nI (show i < 6 by omega) (by decide)) (kisF_at hi) ?_
    repeat (first | refine V.s omX7_word rfl rfl ?_ | refine V.gf omX7_word rfl rfl rfl rfl ?_)
    have ct := c_trySwap4 (A := va_up A (8 + 2 * i) f) (B := B) d (show i < 8 by omega) (pdg_nv dg s) (show pdg dg s < 4 from Nat.mod_lt _ (by decide))
    rw [va_up_self, bx_uu] at ct
    by_cases h2 : fit4 f (pdg dg s)
    · rw [if_pos h2, if_pos h2] at ct
      simp only [wdF, if_pos h2] at hR
      refine V.cVf omX7_word omX4_trySwap rfl rfl ct rfl rfl (hpQ (show i < 8 by omega)) rfl rfl rfl ?_
      refine V.brT omX7_word rfl rfl (by decide) (by decide) ?_
      refine V.s omX7_word rfl rfl ?_
      refine V.s omX7_word rfl rfl ?_
      rw [nI_1]
      exact ih (s + 1) _ _ (by omega) hR
    · rw [if_neg h2, if_neg h2] at ct
      simp only [wdF, if_neg h2] at hR
      refine V.cVf omX7_word omX4_trySwap rfl rfl ct rfl rfl (hpQ (show i < 8 by omega)) rfl rfl rfl ?_
      refine V.brF omX7_word rfl rfl (by decide) ?_
      refine V.s omX7_word rfl rfl ?_
      subst hR
      exact V.iret omX7_word rfl rfl ⟨rfl, rfl⟩
def s7_word (A : Nat → Nat → Int32) (m : Nat) (r dg n : Int32) : Int32 × (Nat → Nat → Int32) := if 0 ≤ r ∧ r < nI m then (if n < 0 then (-4, rfA A 4) else if n ≤ 15 ∧ 0 ≤ dg ∧ dg < (1 <<< ((2 * n) &&& 31)) then (nI (wdF dg (cl n) 0 (A (8 + 2 * cl r))).1, va_up A (8 + 2 * cl r) (wdF dg (cl n) 0 (A (8 + 2 * cl r))).2) else (-7, rfA A 7)) else (-3, rfA A 3)
set_option maxHeartbeats 4000000 in
set_option maxRecDepth 100000 in
theorem c7_word (d : Nat) {m : Nat} (hm : A 0 9 = nI m) (h6 : m ≤ 6) (r dg n : Int32) : C mX7_word (d + 2) 0 0 [.ref 0, .int r, .int dg, .int n] (hp A B) (fun r' h' => h' = hp (s7_word A m r dg n).2 B ∧ r' = some (.int (s7_word A m r dg n).1)) := by
  refine C.of [some (.ref 0), some (.int r), some (.int dg), some (.int n), none, none] omX7_word rfl rfl rfl ?_
  by_cases h1 : 0 ≤ r ∧ r < A 0 9
  · repeat (first | refine V.s omX7_word rfl rfl ?_ | refine V.gf omX7_word rfl rfl rfl rfl ?_ | refine V.brF omX7_word rfl rfl (by decide) ?_ | refine V.brT omX7_word rfl rfl (by decide) (by decide) ?_ | refine V.cVf omX7_word omX7_hasKiss rfl rfl (c_hkY _ h1) rfl rfl rfl rfl rfl rfl ?_)
    rw [hm] at h1
    simp only [s7_word, if_pos h1]
    by_cases hn : n < 0
    · simp only [if_pos hn]
      refine V.brF omX7_word rfl rfl (Int32.not_le.mpr hn) ?_
      repeat (first | refine V.s omX7_word rfl rfl ?_ | refine V.gf omX7_word rfl rfl rfl rfl ?_ | refine V.cVf omX7_word omX7_refuse rfl rfl (c_refuse _ _ (by decide)) rfl rfl rfl rfl rfl rfl ?_)
      exact V.iret omX7_word rfl rfl ⟨rfl, rfl⟩
    simp only [if_neg hn]
    refine V.brT omX7_word rfl rfl (Int32.not_lt.mp hn) (fun _ h => hn h) ?_
    by_cases h2 : n ≤ 15 ∧ 0 ≤ dg ∧ dg < (1 <<< ((2 * n) &&& 31))
    · simp only [if_pos h2]
      refine V.s omX7_word rfl rfl ?_
      refine V.s omX7_word rfl rfl ?_
      refine V.brF omX7_word rfl rfl (Int32.not_lt.mpr h2.1) ?_
      refine V.s omX7_word rfl rfl ?_
      refine V.brF omX7_word rfl rfl (Int32.not_lt.mpr h2.2.1) ?_
      repeat (first | refine V.s omX7_word rfl rfl ?_ | refine V.gf omX7_word rfl rfl rfl rfl ?_)
      refine V.brT omX7_word rfl rfl h2.2.2 (fun h => Int32.not_le.mpr h) ?_
      refine V.s omX7_word rfl rfl ?_
      refine V.s omX7_word rfl rfl ?_
      obtain ⟨i, hi, rfl⟩ := rng (by omega) h1
      obtain ⟨N, hN, rfl⟩ := rngl (m := 15) (by decide) (Int32.not_lt.mp hn) h2.1
      simp only [cl_nI (show i < 20 by omega), cl_nI (show N < 20 by omega)]
      have key := word_loop (A := A) (B := B) d (show i < 6 by omega) hN dg _ N 0 (A (8 + 2 * i)) none (by omega) rfl
      rw [va_self] at key
      exact key
    · simp only [if_neg h2]
      repeat' (first | refine V.s omX7_word rfl rfl ?_ | refine V.gf omX7_word rfl rfl rfl rfl ?_ | simp only [Int32.reduceAdd, Int32.reduceMul, Int32.reduceSub] | refine V.brF omX7_word rfl rfl (by decide) ?_ | refine V.brT omX7_word rfl rfl (by decide) (by decide) ?_ | refine V.cVf omX7_word omX7_refuse rfl rfl (c_refuse _ _ (by decide)) rfl rfl rfl rfl rfl rfl ?_ | refine V.br omX7_word rfl rfl (fun hc => ?_) (fun hc => ?_))
      all_goals first | exact V.iret omX7_word rfl rfl ⟨rfl, rfl⟩ | skip
      all_goals exact absurd ⟨by assumption, by assumption, by assumption⟩ h2
  · repeat (first | refine V.s omX7_word rfl rfl ?_ | refine V.gf omX7_word rfl rfl rfl rfl ?_ | refine V.brF omX7_word rfl rfl (by decide) ?_ | refine V.brT omX7_word rfl rfl (by decide) (by decide) ?_ | refine V.cVf omX7_word omX7_hasKiss rfl rfl (c_hkN _ h1) rfl rfl rfl rfl rfl rfl ?_ | refine V.cVf omX7_word omX7_refuse rfl rfl (c_refuse _ _ (by decide)) rfl rfl rfl rfl rfl rfl ?_)
    rw [hm] at h1
    exact V.iret omX7_word rfl rfl (by simp only [s7_word, if_neg h1] <;> (refine ⟨?_, ?_⟩ <;> first | rfl | trivial))
end RK6
end
section
section RK7
variable {A : Nat → Nat → Int32} {B : Nat → Nat → Int64}
theorem rem20 {a : Nat} (ha : a < 2 ^ 31) : nI a - nI a / 20 * 20 = nI (a % 20) := pk_rem (d := 20) ha (by decide) (by decide)
theorem div20 {a : Nat} (ha : a < 2 ^ 31) : nI a / 20 = nI (a / 20) := pk_div (d := 20) ha (by decide) (by decide)
def kwL (f : Nat → Int32) (n : Nat) : Nat → Nat → Nat → (Nat → Int32) → Option (Nat → Int32)
  | 0, _, _, g => some g
  | m + 1, p, x, g => if x % 20 < n then kwL f n m (p + 1) (x / 20) (va_cpy f g (4 * (x % 20)) (4 * p) 4) else none
def kQ (A : Nat → Nat → Int32) (B : Nat → Nat → Int64) (m : Nat) (o : Option (Nat → Int32)) (r : Option Value) (h' : hp_T) : Prop := match o with
  | some g => h' = hp (s7_keep (va_up A 20 g) m).2 B ∧ r = some (.int (s7_keep (va_up A 20 g) m).1)
  | none => r = some (.int (-3)) ∧ ∃ g, h' = hp (rfA (va_up A 20 g) 3) B
set_option maxHeartbeats 4000000 in
set_option maxRecDepth 100000 in
theorem kiss_loop (d : Nat) {n m : Nat} (hn : A 1 4 = nI n) (h20 : n ≤ 20) (hm : A 0 9 = nI m) (h6 : m ≤ 6) (R : Int32) (o : Option (Nat → Int32)) : ∀ (t p x : Nat) (g : Nat → Int32) (v4 : Option Value), p + t = 4 → x < 2 ^ 31 → o = kwL (A 2) n t p x g →
    V mX7_kiss (d + 4) 0 0 (kQ A B m o) 0 0 21 [some (.ref 0), some (.int R), some (.int (nI x)), some (.int (nI p)), v4] [] (hp (va_up A 20 g) B) := by
  intro t
  induction t with
  | zero =>
    intro p x g v4 hp4 hx ho
    have : p = 4 := by omega
    subst this
    refine V.s omX7_kiss rfl rfl ?_
    refine V.s omX7_kiss rfl rfl ?_
    refine V.brT omX7_kiss rfl rfl (by decide) (by decide) ?_
    repeat (first | refine V.s omX7_kiss rfl rfl ?_ | refine V.gf omX7_kiss rfl rfl rfl rfl ?_)
    refine V.cVf omX7_kiss omX7_keepWork rfl rfl (c_keepWork d (m := m) (by rw [va_up_ne _ _ (show (0 : Nat) ≠ 20 by decide)]; exact hm) h6) rfl rfl rfl rfl rfl rfl ?_
    subst ho
    exact V.iret omX7_kiss rfl rfl ⟨rfl, rfl⟩
  | succ t ih =>
    intro p x g v4 hp4 hx ho
    refine V.s omX7_kiss rfl rfl ?_
    refine V.s omX7_kiss rfl rfl ?_
    refine V.brF omX7_kiss rfl rfl (by rw [nIl_le 4 (by omega) (by decide)]; omega) ?_
    refine V.s omX7_kiss rfl rfl ?_
    refine V.s omX7_kiss rfl rfl ?_
    refine V.irem omX7_kiss rfl (by decide) ?_
    rw [rem20 hx]
    refine V.s omX7_kiss rfl rfl ?_
    refine V.s omX7_kiss rfl rfl ?_
    refine V.s omX7_kiss rfl rfl ?_
    refine V.idiv omX7_kiss rfl (by decide) ?_
    rw [div20 hx]
    refine V.s omX7_kiss rfl rfl ?_
    repeat (first | refine V.s omX7_kiss rfl rfl ?_ | refine V.gf omX7_kiss rfl rfl rfl rfl ?_)
    have hn' : va_up A 20 g 1 4 = nI n := by rw [va_up_ne _ _ (show (1 : Nat) ≠ 20 by decide)]; exact hn
    by_cases h1 : x % 20 < n
    · simp only [kwL, if_pos h1] at ho
      refine V.cVf omX7_kiss omX5_has rfl rfl (c_hasY _ (by rw [hn']; exact rng_in h1 (by omega))) rfl rfl rfl rfl rfl rfl ?_
      refine V.brT omX7_kiss rfl rfl (by decide) (by decide) ?_
      repeat (first | refine V.s omX7_kiss rfl rfl ?_ | refine V.gf omX7_kiss rfl rfl rfl rfl ?_)
      refine V.cpH omX7_kiss rfl rfl rfl rfl (sj := 4 * (x % 20)) (dj := 4 * p) (nj := 4) ?_ ?_ (by decide) (by omega) (by omega) rfl ?_
      · rw [show (4 : Int32) * nI (x % 20) = nI (4 * (x % 20)) from nv_mul nv_lit nv_nI]
        exact ⟨nI_pos (by omega), nI_clamp (by omega)⟩
      · rw [show (4 : Int32) * nI p = nI (4 * p) from nv_mul nv_lit nv_nI]
        exact ⟨nI_pos (by omega), nI_clamp (by omega)⟩
      refine V.s omX7_kiss rfl rfl ?_
      refine V.s omX7_kiss rfl rfl ?_
      rw [nI_1, va_up_ne _ _ (show (2 : Nat) ≠ 20 by decide), va_up_self, bx_uu]
      exact ih (p + 1) (x / 20) _ _ (by omega) (by omega) ho
    · simp only [kwL, if_neg h1] at ho
      refine V.cVf omX7_kiss omX5_has rfl rfl (c_hasN _ (by rw [hn']; exact fun h => h1 ((nI_ltI (by omega) (by omega)).mp h.2))) rfl rfl rfl rfl rfl rfl ?_
      refine V.brF omX7_kiss rfl rfl (by decide) ?_
      repeat (first | refine V.s omX7_kiss rfl rfl ?_ | refine V.gf omX7_kiss rfl rfl rfl rfl ?_ | refine V.cVf omX7_kiss omX7_refuse rfl rfl (c_refuse _ _ (by decide)) rfl rfl rfl rfl rfl rfl ?_)
      subst ho
      exact V.iret omX7_kiss rfl rfl ⟨rfl, g, rfl⟩
set_option maxHeartbeats 4000000 in
set_option maxRecDepth 100000 in
theorem c7_kiss (d : Nat) {n m : Nat} (hn : A 1 4 = nI n) (h20 : n ≤ 20) (hm : A 0 9 = nI m) (h6 : m ≤ 6) (R : Int32) : C mX7_kiss (d + 4) 0 0 [.ref 0, .int R] (hp A B) (fun r' h' => kQ A B m (if 0 ≤ R ∧ R < 160000 then kwL (A 2) n 4 0 (cl R) (A 20) else none) r' h') := by
  refine C.of [some (.ref 0), some (.int R), none, none, none] omX7_kiss rfl rfl rfl ?_
  by_cases h1 : 0 ≤ R ∧ R < 160000
  · refine V.s omX7_kiss rfl rfl ?_
    refine V.brF omX7_kiss rfl rfl (Int32.not_lt.mpr h1.1) ?_
    refine V.s omX7_kiss rfl rfl ?_
    refine V.s omX7_kiss rfl rfl ?_
    refine V.brT omX7_kiss rfl rfl h1.2 (fun h => Int32.not_le.mpr h) ?_
    refine V.s omX7_kiss rfl rfl ?_
    refine V.s omX7_kiss rfl rfl ?_
    refine V.s omX7_kiss rfl rfl ?_
    refine V.s omX7_kiss rfl rfl ?_
    simp only [if_pos h1]
    obtain ⟨x, hx, rfl⟩ := rng (n := 160000) (by decide) h1
    have e : cl (nI x) = x := nI_clamp (by omega)
    rw [e]
    have key := kiss_loop (A := A) (B := B) d hn h20 hm h6 (nI x) _ 4 0 x (A 20) none rfl (by omega) rfl
    rw [va_self] at key
    exact key
  · simp only [if_neg h1]
    have key : ∀ r' h', h' = hp (rfA A 3) B ∧ r' = some (.int (-3)) → kQ A B m none r' h' := fun r' h' hq => ⟨hq.2, A 20, by rw [va_self]; exact hq.1⟩
    refine V.s omX7_kiss rfl rfl ?_
    refine V.br omX7_kiss rfl rfl (fun hc => ?_) (fun hc => ?_)
    · repeat (first | refine V.s omX7_kiss rfl rfl ?_ | refine V.gf omX7_kiss rfl rfl rfl rfl ?_ | refine V.cVf omX7_kiss omX7_refuse rfl rfl (c_refuse _ _ (by decide)) rfl rfl rfl rfl rfl rfl ?_)
      exact V.iret omX7_kiss rfl rfl (key _ _ ⟨rfl, rfl⟩)
    · refine V.s omX7_kiss rfl rfl ?_
      refine V.s omX7_kiss rfl rfl ?_
      refine V.brF omX7_kiss rfl rfl (fun hd => h1 ⟨hc, hd⟩) ?_
      repeat (first | refine V.s omX7_kiss rfl rfl ?_ | refine V.gf omX7_kiss rfl rfl rfl rfl ?_ | refine V.cVf omX7_kiss omX7_refuse rfl rfl (c_refuse _ _ (by decide)) rfl rfl rfl rfl rfl rfl ?_)
      exact V.iret omX7_kiss rfl rfl (key _ _ ⟨rfl, rfl⟩)
def s7_look (A : Nat → Nat → Int32) (n : Nat) (r w : Int32) : Int32 × (Nat → Nat → Int32) := if 0 ≤ r ∧ r < nI n then (if (w = 5 ∨ w = 6) ∧ ¬ A 3 (cl r) = 2 then (0, rfA A 5) else if 0 ≤ w ∧ w ≤ 6 then ((if w = 0 then A 3 (cl r) else if w = 5 then A 4 (cl r) else if w = 6 then A 5 (cl r) else A 2 (4 * cl r + (cl w - 1))), A) else (0, rfA A 7)) else (0, rfA A 3)
set_option maxHeartbeats 4000000 in
set_option maxRecDepth 100000 in
theorem c7_look (d : Nat) {n : Nat} (hn : A 1 4 = nI n) (h20 : n ≤ 20) (r w : Int32) : C mX7_look (d + 1) 0 0 [.ref 0, .int r, .int w] (hp A B) (fun r' h' => h' = hp (s7_look A n r w).2 B ∧ r' = some (.int (s7_look A n r w).1)) := by
  refine C.of [some (.ref 0), some (.int r), some (.int w)] omX7_look rfl rfl rfl ?_
  by_cases h1 : 0 ≤ r ∧ r < A 1 4
  · repeat (first | refine V.s omX7_look rfl rfl ?_ | refine V.gf omX7_look rfl rfl rfl rfl ?_ | refine V.brF omX7_look rfl rfl (by decide) ?_ | refine V.brT omX7_look rfl rfl (by decide) (by decide) ?_ | refine V.cVf omX7_look omX5_has rfl rfl (c_hasY _ h1) rfl rfl rfl rfl rfl rfl ?_)
    rw [hn] at h1
    simp only [s7_look, if_pos h1]
    obtain ⟨i, hi, rfl⟩ := rng (by omega) h1
    simp only [cl_nI (show i < 20 by omega)]
    by_cases h2 : 0 ≤ w ∧ w ≤ 6
    · obtain ⟨c, hc, rfl⟩ := rngl (m := 6) (by decide) h2.1 h2.2
      rcases (show c = 0 ∨ c = 1 ∨ c = 2 ∨ c = 3 ∨ c = 4 ∨ c = 5 ∨ c = 6 by omega) with rfl | rfl | rfl | rfl | rfl | rfl | rfl
      · repeat (first | refine V.s omX7_look rfl rfl ?_ | refine V.gf omX7_look rfl rfl rfl rfl ?_ | refine V.brF omX7_look rfl rfl (by decide) ?_ | refine V.brT omX7_look rfl rfl (by decide) (by decide) ?_)
        refine V.lsw (tgt := 100) (off := 33) omX7_look rfl (by decide) (by decide) (by decide) ?_
        repeat (first | refine V.s omX7_look rfl rfl ?_ | refine V.gf omX7_look rfl rfl rfl rfl ?_ | refine V.ial omX7_look rfl rfl (ixN nv_nI (by omega) (by decide)) ?_)
        exact V.iret omX7_look rfl rfl (by simp +decide)
      · repeat (first | refine V.s omX7_look rfl rfl ?_ | refine V.gf omX7_look rfl rfl rfl rfl ?_ | refine V.brF omX7_look rfl rfl (by decide) ?_ | refine V.brT omX7_look rfl rfl (by decide) (by decide) ?_)
        refine V.lsw (tgt := 130) (off := 63) omX7_look rfl (by decide) (by decide) (by decide) ?_
        repeat (first | refine V.s omX7_look rfl rfl ?_ | refine V.gf omX7_look rfl rfl rfl rfl ?_)
        refine V.cVf omX7_look omX5_number rfl rfl (c_num d (i := i) (c := 0) nv_nI (nv_of (by decide)) (by omega) (by decide)) rfl rfl rfl rfl rfl rfl ?_
        exact V.iret omX7_look rfl rfl (by simp +decide [cl] <;> rfl)
      · repeat (first | refine V.s omX7_look rfl rfl ?_ | refine V.gf omX7_look rfl rfl rfl rfl ?_ | refine V.brF omX7_look rfl rfl (by decide) ?_ | refine V.brT omX7_look rfl rfl (by decide) (by decide) ?_)
        refine V.lsw (tgt := 130) (off := 63) omX7_look rfl (by decide) (by decide) (by decide) ?_
        repeat (first | refine V.s omX7_look rfl rfl ?_ | refine V.gf omX7_look rfl rfl rfl rfl ?_)
        refine V.cVf omX7_look omX5_number rfl rfl (c_num d (i := i) (c := 1) nv_nI (nv_of (by decide)) (by omega) (by decide)) rfl rfl rfl rfl rfl rfl ?_
        exact V.iret omX7_look rfl rfl (by simp +decide [cl] <;> rfl)
      · repeat (first | refine V.s omX7_look rfl rfl ?_ | refine V.gf omX7_look rfl rfl rfl rfl ?_ | refine V.brF omX7_look rfl rfl (by decide) ?_ | refine V.brT omX7_look rfl rfl (by decide) (by decide) ?_)
        refine V.lsw (tgt := 130) (off := 63) omX7_look rfl (by decide) (by decide) (by decide) ?_
        repeat (first | refine V.s omX7_look rfl rfl ?_ | refine V.gf omX7_look rfl rfl rfl rfl ?_)
        refine V.cVf omX7_look omX5_number rfl rfl (c_num d (i := i) (c := 2) nv_nI (nv_of (by decide)) (by omega) (by decide)) rfl rfl rfl rfl rfl rfl ?_
        exact V.iret omX7_look rfl rfl (by simp +decide [cl] <;> rfl)
      · repeat (first | refine V.s omX7_look rfl rfl ?_ | refine V.gf omX7_look rfl rfl rfl rfl ?_ | refine V.brF omX7_look rfl rfl (by decide) ?_ | refine V.brT omX7_look rfl rfl (by decide) (by decide) ?_)
        refine V.lsw (tgt := 130) (off := 63) omX7_look rfl (by decide) (by decide) (by decide) ?_
        repeat (first | refine V.s omX7_look rfl rfl ?_ | refine V.gf omX7_look rfl rfl rfl rfl ?_)
        refine V.cVf omX7_look omX5_number rfl rfl (c_num d (i := i) (c := 3) nv_nI (nv_of (by decide)) (by omega) (by decide)) rfl rfl rfl rfl rfl rfl ?_
        exact V.iret omX7_look rfl rfl (by simp +decide [cl] <;> rfl)
      · repeat (first | refine V.s omX7_look rfl rfl ?_ | refine V.gf omX7_look rfl rfl rfl rfl ?_ | refine V.brF omX7_look rfl rfl (by decide) ?_ | refine V.brT omX7_look rfl rfl (by decide) (by decide) ?_ | refine V.ial omX7_look rfl rfl (ixN nv_nI (by omega) (by decide)) ?_)
        by_cases h3 : A 3 i = 2
        · refine V.brT omX7_look rfl rfl h3 (fun h g => g h) ?_
          repeat (first | refine V.s omX7_look rfl rfl ?_ | refine V.gf omX7_look rfl rfl rfl rfl ?_ | refine V.brF omX7_look rfl rfl (by decide) ?_ | refine V.brT omX7_look rfl rfl (by decide) (by decide) ?_)
          refine V.lsw (tgt := 110) (off := 43) omX7_look rfl (by decide) (by decide) (by decide) ?_
          repeat (first | refine V.s omX7_look rfl rfl ?_ | refine V.gf omX7_look rfl rfl rfl rfl ?_ | refine V.ial omX7_look rfl rfl (ixN nv_nI (by omega) (by decide)) ?_)
          exact V.iret omX7_look rfl rfl (by simp +decide [h3])
        · refine V.brF omX7_look rfl rfl h3 ?_
          repeat (first | refine V.s omX7_look rfl rfl ?_ | refine V.gf omX7_look rfl rfl rfl rfl ?_ | refine V.cVf omX7_look omX7_refuseByZero rfl rfl (c_refuseByZero _ _ (by decide)) rfl rfl rfl rfl rfl rfl ?_)
          exact V.iret omX7_look rfl rfl (by rw [if_pos ⟨Or.inl rfl, h3⟩]; exact ⟨rfl, rfl⟩)
      · repeat (first | refine V.s omX7_look rfl rfl ?_ | refine V.gf omX7_look rfl rfl rfl rfl ?_ | refine V.brF omX7_look rfl rfl (by decide) ?_ | refine V.brT omX7_look rfl rfl (by decide) (by decide) ?_ | refine V.ial omX7_look rfl rfl (ixN nv_nI (by omega) (by decide)) ?_)
        by_cases h3 : A 3 i = 2
        · refine V.brT omX7_look rfl rfl h3 (fun h g => g h) ?_
          repeat (first | refine V.s omX7_look rfl rfl ?_ | refine V.gf omX7_look rfl rfl rfl rfl ?_ | refine V.brF omX7_look rfl rfl (by decide) ?_ | refine V.brT omX7_look rfl rfl (by decide) (by decide) ?_)
          refine V.lsw (tgt := 120) (off := 53) omX7_look rfl (by decide) (by decide) (by decide) ?_
          repeat (first | refine V.s omX7_look rfl rfl ?_ | refine V.gf omX7_look rfl rfl rfl rfl ?_ | refine V.ial omX7_look rfl rfl (ixN nv_nI (by omega) (by decide)) ?_)
          exact V.iret omX7_look rfl rfl (by simp +decide [h3])
        · refine V.brF omX7_look rfl rfl h3 ?_
          repeat (first | refine V.s omX7_look rfl rfl ?_ | refine V.gf omX7_look rfl rfl rfl rfl ?_ | refine V.cVf omX7_look omX7_refuseByZero rfl rfl (c_refuseByZero _ _ (by decide)) rfl rfl rfl rfl rfl rfl ?_)
          exact V.iret omX7_look rfl rfl (by rw [if_pos ⟨Or.inr rfl, h3⟩]; exact ⟨rfl, rfl⟩)
    · have n5 : ¬ w = 5 := fun h => h2 (by subst h; decide)
      have n6 : ¬ w = 6 := fun h => h2 (by subst h; decide)
      rw [if_neg (fun h => h.1.elim n5 n6), if_neg h2]
      refine V.brF omX7_look rfl rfl n5 ?_
      refine V.s omX7_look rfl rfl ?_
      refine V.s omX7_look rfl rfl ?_
      refine V.brT omX7_look rfl rfl n6 (fun h => h) ?_
      refine V.s omX7_look rfl rfl ?_
      refine V.br omX7_look rfl rfl (fun hc => ?_) (fun hc => ?_)
      · repeat (first | refine V.s omX7_look rfl rfl ?_ | refine V.gf omX7_look rfl rfl rfl rfl ?_ | refine V.cVf omX7_look omX7_refuseByZero rfl rfl (c_refuseByZero _ _ (by decide)) rfl rfl rfl rfl rfl rfl ?_)
        exact V.iret omX7_look rfl rfl ⟨rfl, rfl⟩
      · refine V.s omX7_look rfl rfl ?_
        refine V.s omX7_look rfl rfl ?_
        refine V.brF omX7_look rfl rfl (fun h => h2 ⟨hc, h⟩) ?_
        repeat (first | refine V.s omX7_look rfl rfl ?_ | refine V.gf omX7_look rfl rfl rfl rfl ?_ | refine V.cVf omX7_look omX7_refuseByZero rfl rfl (c_refuseByZero _ _ (by decide)) rfl rfl rfl rfl rfl rfl ?_)
        exact V.iret omX7_look rfl rfl ⟨rfl, rfl⟩
  · repeat (first | refine V.s omX7_look rfl rfl ?_ | refine V.gf omX7_look rfl rfl rfl rfl ?_ | refine V.brF omX7_look rfl rfl (by decide) ?_ | refine V.brT omX7_look rfl rfl (by decide) (by decide) ?_ | refine V.cVf omX7_look omX5_has rfl rfl (c_hasN _ h1) rfl rfl rfl rfl rfl rfl ?_ | refine V.cVf omX7_look omX7_refuseByZero rfl rfl (c_refuseByZero _ _ (by decide)) rfl rfl rfl rfl rfl rfl ?_)
    rw [hn] at h1
    exact V.iret omX7_look rfl rfl (by simp only [s7_look, if_neg h1] <;> (refine ⟨?_, ?_⟩ <;> first | rfl | trivial))
end RK7
end
section
section MD1
variable {A : Nat → Nat → Int32} {B : Nat → Nat → Int64}
theorem c8_isIn (d : Nat) (v lo hi : Int64) (h : hp_T) : C mX8_isIn d 0 0 [.long v, .long lo, .long hi] h (fun r h' => h' = h ∧ r = some (.int (if lo ≤ v ∧ v ≤ hi then 1 else 0))) := by
  refine C.of [some (.long v), none, some (.long lo), none, some (.long hi), none] omX8_isIn rfl rfl rfl ?_
  repeat' (first | refine V.s omX8_isIn rfl rfl ?_ | refine V.gf omX8_isIn rfl rfl rfl rfl ?_ | refine V.br omX8_isIn rfl rfl (fun hc => ?_) (fun hc => ?_))
  · refine V.zret omX8_isIn rfl rfl (by decide) ⟨rfl, ?_⟩
    rw [lgc_lt] at hc
    rw [if_neg (fun h => Int64.not_le.mpr hc h.1)]
  · refine V.zret omX8_isIn rfl rfl (by decide) ⟨rfl, ?_⟩
    rw [lgc_gt] at hc
    rw [if_neg (fun h => Int64.not_le.mpr hc h.2)]
  · next h1 =>
    refine V.zret omX8_isIn rfl rfl (by decide) ⟨rfl, ?_⟩
    rw [lgc_ge] at h1
    rw [lgc_le] at hc
    rw [if_pos ⟨h1, hc⟩]
theorem c8_isInY (d : Nat) {v lo hi : Int64} (g : lo ≤ v ∧ v ≤ hi) (h : hp_T) : C mX8_isIn d 0 0 [.long v, .long lo, .long hi] h (fun r h' => h' = h ∧ r = some (.int 1)) := by
  have h1 := c8_isIn d v lo hi h
  rwa [if_pos g] at h1
theorem c8_isInN (d : Nat) {v lo hi : Int64} (g : ¬ (lo ≤ v ∧ v ≤ hi)) (h : hp_T) : C mX8_isIn d 0 0 [.long v, .long lo, .long hi] h (fun r h' => h' = h ∧ r = some (.int 0)) := by
  have h1 := c8_isIn d v lo hi h
  rwa [if_neg g] at h1
def rmA (A : Nat → Nat → Int32) (c : Nat) : Nat → Nat → Int32 := va_up A 39 (upd (A 39) c (A 39 c + 1))
theorem c8_no (d : Nat) (v : Int32) (hv : rfB v = true) : C mX8_no d 0 0 [.ref 33, .int v] (hp A B) (fun r h' => h' = hp (rmA A (rfI v)) B ∧ r = some (.int v)) := by
  have hx : ix (-v) (rfI v) 9 := ⟨rfl, show ¬ (-v < 0 ∨ 9 ≤ (-v).toNatClampNeg) from of_decide_eq_true hv⟩
  refine C.of [some (.ref 33), some (.int v)] omX8_no rfl rfl rfl ?_
  repeat (first | refine V.s omX8_no rfl rfl ?_ | refine V.gf omX8_no rfl rfl rfl rfl ?_)
  refine V.ial omX8_no rfl rfl hx ?_
  repeat (first | refine V.s omX8_no rfl rfl ?_ | refine V.gf omX8_no rfl rfl rfl rfl ?_)
  refine V.iasH omX8_no rfl rfl hx ?_
  repeat (first | refine V.s omX8_no rfl rfl ?_ | refine V.gf omX8_no rfl rfl rfl rfl ?_)
  exact V.iret omX8_no rfl rfl ⟨rfl, rfl⟩
theorem c8_none (d : Nat) (v : Int32) (hv : rfB v = true) : C mX8_none (d + 1) 0 0 [.ref 33, .int v] (hp A B) (fun r h' => h' = hp (rmA A (rfI v)) B ∧ r = some (.int 0)) := by
  refine C.of [some (.ref 33), some (.int v), none] omX8_none rfl rfl rfl ?_
  repeat (first | refine V.s omX8_none rfl rfl ?_ | refine V.gf omX8_none rfl rfl rfl rfl ?_)
  refine V.cVf omX8_none omX8_no rfl rfl (c8_no _ v hv) rfl rfl rfl rfl rfl rfl ?_
  repeat (first | refine V.s omX8_none rfl rfl ?_ | refine V.gf omX8_none rfl rfl rfl rfl ?_)
  exact V.iret omX8_none rfl rfl ⟨rfl, rfl⟩
theorem c8_isRound (d : Nat) (r : Int32) : C mX8_isRound d 0 0 [.ref 33, .int r] (hp A B) (fun r' h' => h' = hp A B ∧ r' = some (.int (if 0 ≤ r ∧ r < A 33 5 then 1 else 0))) := by
  refine C.of [some (.ref 33), some (.int r)] omX8_isRound rfl rfl rfl ?_
  repeat' (first | refine V.s omX8_isRound rfl rfl ?_ | refine V.gf omX8_isRound rfl rfl rfl rfl ?_ | refine V.br omX8_isRound rfl rfl (fun hc => ?_) (fun hc => ?_))
  all_goals refine V.zret omX8_isRound rfl rfl (by decide) ⟨rfl, ?_⟩
  all_goals simp only [← Int32.not_lt] at *
  all_goals simp [*]
theorem c8_irY (d : Nat) {r : Int32} (h : 0 ≤ r ∧ r < A 33 5) : C mX8_isRound d 0 0 [.ref 33, .int r] (hp A B) (fun r' h' => h' = hp A B ∧ r' = some (.int 1)) := by
  have h1 := c8_isRound (A := A) (B := B) d r
  rwa [if_pos h] at h1
theorem c8_irN (d : Nat) {r : Int32} (h : ¬ (0 ≤ r ∧ r < A 33 5)) : C mX8_isRound d 0 0 [.ref 33, .int r] (hp A B) (fun r' h' => h' = hp A B ∧ r' = some (.int 0)) := by
  have h1 := c8_isRound (A := A) (B := B) d r
  rwa [if_neg h] at h1
theorem isIn_fit (v : Int64) : (if (-1000000000 : Int64) ≤ v ∧ v ≤ 1000000000 then (1 : Int32) else 0) = fitF v := rfl
set_option maxHeartbeats 4000000 in
set_option maxRecDepth 100000 in
theorem c8_isLawful (d : Nat) (a b x y : Int32) (h : hp_T) : C mX8_isLawful (d + 1) 0 0 [.long a.toInt64, .long b.toInt64, .long x.toInt64, .long y.toInt64] h (fun r h' => h' = h ∧ r = some (.int (klF a b x y))) := by
  refine C.of [some (.long a.toInt64), none, some (.long b.toInt64), none, some (.long x.toInt64), none, some (.long y.toInt64), none] omX8_isLawful rfl rfl rfl ?_
  have cf : ∀ v, C mX8_isIn d 0 0 [.long v, .long (-1000000000), .long 1000000000] h (fun r h' => h' = h ∧ r = some (.int (fitF v))) := fun v => c8_isIn d v _ _ h
  repeat' (first | refine V.s omX8_isLawful rfl rfl ?_ | refine V.gf omX8_isLawful rfl rfl rfl rfl ?_ | refine V.cSf omX8_isLawful omX8_isIn rfl rfl (cf _) rfl rfl rfl rfl ?_ | refine V.br omX8_isLawful rfl rfl (fun hc => ?_) (fun hc => ?_))
  all_goals refine V.zret omX8_isLawful rfl rfl (by decide) ⟨rfl, ?_⟩
  all_goals try simp only [lgc_eq, fitF_ne] at *
  all_goals simp [klF, lawP, *]
def adA (A : Nat → Nat → Int32) (n : Nat) (kd a b x y : Int32) : Nat → Nat → Int32 := va_up (va_up (va_up A 34 (putN (A 34) n a b x y)) 35 (upd (A 35) n kd)) 33 (upd (A 33) 5 (nI (n + 1)))
set_option maxHeartbeats 4000000 in
set_option maxRecDepth 100000 in
theorem c8_addsN (d : Nat) {n : Nat} (hn : A 33 5 = nI n) (h20 : n < 20) (a b x y : Int64) (kd : Int32) : C mX8_adds (d + 1) 0 0 [.ref 33, .long a, .long b, .long x, .long y, .int kd] (hp A B) (fun r h' => h' = hp (adA A n kd a.toInt32 b.toInt32 x.toInt32 y.toInt32) B ∧ r = some (.int (nI n))) := by
  refine C.of [some (.ref 33), some (.long a), none, some (.long b), none, some (.long x), none, some (.long y), none, some (.int kd)] omX8_adds rfl rfl rfl ?_
  repeat (first | refine V.s omX8_adds rfl rfl ?_ | refine V.gf omX8_adds rfl rfl rfl rfl ?_)
  rw [hn]
  refine V.brT omX8_adds rfl rfl (by rw [nIl_eq 20 (by omega) (by decide)]; omega) (fun h => h) ?_
  repeat (first | refine V.s omX8_adds rfl rfl ?_ | refine V.gf omX8_adds rfl rfl rfl rfl ?_)
  rw [hn]
  repeat (first | refine V.s omX8_adds rfl rfl ?_ | refine V.gf omX8_adds rfl rfl rfl rfl ?_ | refine V.iasH omX8_adds rfl rfl (ixN (nv_mul nv_lit nv_nI) (by omega) (by decide)) ?_)
  simp +decide only [va_up_self, va_up_ne, bx_uu, hn]
  repeat (first | refine V.s omX8_adds rfl rfl ?_ | refine V.gf omX8_adds rfl rfl rfl rfl ?_ | refine V.iasH omX8_adds rfl rfl (ixN (nv_add (nv_mul nv_lit nv_nI) nv_lit) (by omega) (by decide)) ?_)
  simp +decide only [va_up_self, va_up_ne, bx_uu, hn]
  repeat (first | refine V.s omX8_adds rfl rfl ?_ | refine V.gf omX8_adds rfl rfl rfl rfl ?_ | refine V.iasH omX8_adds rfl rfl (ixN (nv_add (nv_mul nv_lit nv_nI) nv_lit) (by omega) (by decide)) ?_)
  simp +decide only [va_up_self, va_up_ne, bx_uu, hn]
  repeat (first | refine V.s omX8_adds rfl rfl ?_ | refine V.gf omX8_adds rfl rfl rfl rfl ?_ | refine V.iasH omX8_adds rfl rfl (ixN (nv_add (nv_mul nv_lit nv_nI) nv_lit) (by omega) (by decide)) ?_)
  simp +decide only [va_up_self, va_up_ne, bx_uu, hn]
  repeat (first | refine V.s omX8_adds rfl rfl ?_ | refine V.gf omX8_adds rfl rfl rfl rfl ?_ | refine V.iasH omX8_adds rfl rfl (ixN nv_nI (by omega) (by decide)) ?_)
  simp +decide only [va_up_self, va_up_ne, bx_uu, hn]
  rw [nI_1]
  refine V.pfH omX8_adds rfl rfl rfl rfl rfl rfl rfl ?_
  repeat (first | refine V.s omX8_adds rfl rfl ?_ | refine V.gf omX8_adds rfl rfl rfl rfl ?_)
  simp +decide only [va_up_self, va_up_ne, bx_uu, pk_us]
  rw [nI_pred]
  refine V.iret omX8_adds rfl rfl ⟨?_, rfl⟩
  rfl
theorem c8_addsF (d : Nat) (hn : A 33 5 = 20) (a b x y : Int64) (kd : Int32) : C mX8_adds (d + 1) 0 0 [.ref 33, .long a, .long b, .long x, .long y, .int kd] (hp A B) (fun r h' => h' = hp (rmA A 8) B ∧ r = some (.int (-8))) := by
  refine C.of [some (.ref 33), some (.long a), none, some (.long b), none, some (.long x), none, some (.long y), none, some (.int kd)] omX8_adds rfl rfl rfl ?_
  repeat (first | refine V.s omX8_adds rfl rfl ?_ | refine V.gf omX8_adds rfl rfl rfl rfl ?_)
  rw [hn]
  refine V.brF omX8_adds rfl rfl (by decide) ?_
  repeat (first | refine V.s omX8_adds rfl rfl ?_ | refine V.gf omX8_adds rfl rfl rfl rfl ?_ | refine V.cVf omX8_adds omX8_no rfl rfl (c8_no _ _ (by decide)) rfl rfl rfl rfl rfl rfl ?_)
  exact V.iret omX8_adds rfl rfl ⟨rfl, rfl⟩
def s8_round (A : Nat → Nat → Int32) (n : Nat) (a b x y : Int32) : Int32 × (Nat → Nat → Int32) := if lawP a b x y then (if n < 20 then (nI n, adA A n (kbF a) a b x y) else (-8, rmA A 8)) else (-7, rmA A 7)
theorem i32_back (a : Int32) : a.toInt64.toInt32 = a := Int32.toInt32_toInt64 a
theorem n20 {n : Nat} (h20 : n ≤ 20) (h : ¬ n < 20) : nI n = 20 := by
  have : n = 20 := by omega
  subst this; rfl
set_option maxHeartbeats 4000000 in
set_option maxRecDepth 100000 in
theorem c8_round (d : Nat) {n : Nat} (hn : A 33 5 = nI n) (h20 : n ≤ 20) (a b x y : Int32) : C mX8_round (d + 2) 0 0 [.ref 33, .int a, .int b, .int x, .int y] (hp A B) (fun r h' => h' = hp (s8_round A n a b x y).2 B ∧ r = some (.int (s8_round A n a b x y).1)) := by
  refine C.of [some (.ref 33), some (.int a), some (.int b), some (.int x), some (.int y)] omX8_round rfl rfl rfl ?_
  repeat (first | refine V.s omX8_round rfl rfl ?_ | refine V.gf omX8_round rfl rfl rfl rfl ?_)
  refine V.cSf omX8_round omX8_isLawful rfl rfl (c8_isLawful d a b x y _) rfl rfl rfl rfl ?_
  by_cases hl : lawP a b x y
  · refine V.brF omX8_round rfl rfl (klF_ne.mpr hl) ?_
    simp only [s8_round, if_pos hl]
    repeat (first | refine V.s omX8_round rfl rfl ?_ | refine V.gf omX8_round rfl rfl rfl rfl ?_)
    have fin : ∀ kd, kd = kbF a → V mX8_round (d + 2) 0 0 (fun r h' => h' = hp (if n < 20 then (nI n, adA A n (kbF a) a b x y) else (-8, rmA A 8)).2 B ∧ r = some (.int (if n < 20 then (nI n, adA A n (kbF a) a b x y) else (-8, rmA A 8)).1)) 0 0 34 [some (.ref 33), some (.int a), some (.int b), some (.int x), some (.int y)] [.int kd, .long y.toInt64, .long x.toInt64, .long b.toInt64, .long a.toInt64, .ref 33] (hp A B) := by
      intro kd hk
      subst hk
      by_cases h2 : n < 20
      · simp only [if_pos h2]
        refine V.cVf omX8_round omX8_adds rfl rfl (c8_addsN d hn h2 _ _ _ _ _) rfl rfl rfl rfl rfl rfl ?_
        simp only [i32_back]
        refine V.s omX8_round rfl rfl ?_
        exact V.iret omX8_round rfl rfl ⟨rfl, rfl⟩
      · simp only [if_neg h2]
        refine V.cVf omX8_round omX8_adds rfl rfl (c8_addsF d (hn.trans (n20 h20 h2)) _ _ _ _ _) rfl rfl rfl rfl rfl rfl ?_
        refine V.s omX8_round rfl rfl ?_
        exact V.iret omX8_round rfl rfl ⟨rfl, rfl⟩
    by_cases ha : a = 0
    · refine V.brF omX8_round rfl rfl (fun h => h ha) ?_
      refine V.s omX8_round rfl rfl ?_
      refine V.s omX8_round rfl rfl ?_
      exact fin 1 (by simp [kbF, ha])
    · refine V.brT omX8_round rfl rfl ha (fun h => h) ?_
      refine V.s omX8_round rfl rfl ?_
      exact fin 0 (by simp [kbF, ha])
  · refine V.brT omX8_round rfl rfl (klF_eq0.mpr hl) (fun h g => g h) ?_
    simp only [s8_round, if_neg hl]
    repeat (first | refine V.s omX8_round rfl rfl ?_ | refine V.gf omX8_round rfl rfl rfl rfl ?_ | refine V.cVf omX8_round omX8_no rfl rfl (c8_no _ _ (by decide)) rfl rfl rfl rfl rfl rfl ?_)
    exact V.iret omX8_round rfl rfl ⟨rfl, rfl⟩
def s8_drop (A : Nat → Nat → Int32) (n : Nat) : Int32 × (Nat → Nat → Int32) := if n = 0 then (-2, rmA A 2) else (nI (n - 1), va_up A 33 (upd (A 33) 5 (nI (n - 1))))
theorem c8_drop (d : Nat) {n : Nat} (hn : A 33 5 = nI n) (h20 : n ≤ 20) : C mX8_drop (d + 1) 0 0 [.ref 33] (hp A B) (fun r h' => h' = hp (s8_drop A n).2 B ∧ r = some (.int (s8_drop A n).1)) := by
  refine C.of [some (.ref 33)] omX8_drop rfl rfl rfl ?_
  repeat (first | refine V.s omX8_drop rfl rfl ?_ | refine V.gf omX8_drop rfl rfl rfl rfl ?_)
  rw [hn]
  cases n with
  | zero =>
    refine V.brF omX8_drop rfl rfl (by decide) ?_
    repeat (first | refine V.s omX8_drop rfl rfl ?_ | refine V.gf omX8_drop rfl rfl rfl rfl ?_ | refine V.cVf omX8_drop omX8_no rfl rfl (c8_no _ _ (by decide)) rfl rfl rfl rfl rfl rfl ?_)
    exact V.iret omX8_drop rfl rfl ⟨rfl, rfl⟩
  | succ n =>
    refine V.brT omX8_drop rfl rfl (nI_ne0 (by omega) (by omega)) (fun h => h) ?_
    repeat (first | refine V.s omX8_drop rfl rfl ?_ | refine V.gf omX8_drop rfl rfl rfl rfl ?_)
    rw [hn, nI_pred]
    repeat (first | refine V.s omX8_drop rfl rfl ?_ | refine V.gf omX8_drop rfl rfl rfl rfl ?_ | refine V.pfH omX8_drop rfl rfl rfl rfl rfl rfl rfl ?_)
    simp only [va_up_self, pk_us]
    exact V.iret omX8_drop rfl rfl ⟨rfl, rfl⟩
theorem divisor_loop (d : Nat) (h : hp_T) (a0 b0 : Int32) (G : Nat) : ∀ (q p : Nat) (v4 : Option Value), p < 2 ^ 31 → q < 2 ^ 31 → G = Nat.gcd p q →
    V mX8_divisor d 0 0 (fun r h' => h' = h ∧ r = some (.int (nI G))) 0 0 4 [some (.int a0), some (.int b0), some (.int (nI p)), some (.int (nI q)), v4] [] h := by
  intro q
  induction q using Nat.strongRecOn with
  | ind q ih =>
    intro p v4 hp hq hG
    refine V.s omX8_divisor rfl rfl ?_
    by_cases h0 : q = 0
    · subst h0
      refine V.brT omX8_divisor rfl rfl rfl (by decide) ?_
      refine V.s omX8_divisor rfl rfl ?_
      rw [Nat.gcd_zero_right] at hG
      subst hG
      exact V.iret omX8_divisor rfl rfl ⟨rfl, rfl⟩
    · have hne : ¬ nI q = 0 := nI_ne0 (by omega) hq
      refine V.brF omX8_divisor rfl rfl hne ?_
      refine V.s omX8_divisor rfl rfl ?_
      refine V.s omX8_divisor rfl rfl ?_
      refine V.irem omX8_divisor rfl hne ?_
      rw [pk_rem hp (by omega) hq]
      refine V.s omX8_divisor rfl rfl ?_
      refine V.s omX8_divisor rfl rfl ?_
      refine V.s omX8_divisor rfl rfl ?_
      refine V.s omX8_divisor rfl rfl ?_
      refine V.s omX8_divisor rfl rfl ?_
      refine V.s omX8_divisor rfl rfl ?_
      have hl := Nat.mod_lt p (show 0 < q by omega)
      exact ih (p % q) hl q _ hq (by omega) (by rw [hG, Nat.gcd_comm, Nat.gcd_rec, Nat.gcd_comm])
theorem c8_divisor (d : Nat) {p q : Nat} (h : hp_T) (hp : p < 2 ^ 31) (hq : q < 2 ^ 31) : C mX8_divisor d 0 0 [.int (nI p), .int (nI q)] h (fun r h' => h' = h ∧ r = some (.int (nI (Nat.gcd p q)))) := by
  refine C.of [some (.int (nI p)), some (.int (nI q)), none, none, none] omX8_divisor rfl rfl rfl ?_
  refine V.s omX8_divisor rfl rfl ?_
  refine V.s omX8_divisor rfl rfl ?_
  refine V.s omX8_divisor rfl rfl ?_
  refine V.s omX8_divisor rfl rfl ?_
  exact divisor_loop d h _ _ _ q p _ hp hq rfl
end MD1
end
section
section MD2
variable {A : Nat → Nat → Int32} {B : Nat → Nat → Int64}
set_option maxHeartbeats 4000000 in
set_option maxRecDepth 100000 in
theorem c8_productOf (d : Nat) {q q2 len len2 i j : Nat} {f g : Nat → Int32} {h : hp_T} (hq : h[q]? = some (.inl (len, .inl f))) (hq2 : h[q2]? = some (.inl (len2, .inl g))) {a b : Int32} (ha : NV a i) (hb : NV b j) (hi : i + 3 < len) (hj : j + 3 < len2) (hl : len < 2 ^ 31) (hl2 : len2 < 2 ^ 31) : C mX8_productOf d 0 0 [.ref q, .int a, .ref q2, .int b] h (fun r h' => h' = h ∧ r = some (.long (prd f g i j))) := by
  unfold NV at ha hb
  subst ha hb
  refine C.of [some (.ref q), some (.int (nI i)), some (.ref q2), some (.int (nI j)), none, none] omX8_productOf rfl rfl rfl ?_
  have e1 : ∀ c, i + c < len → ix (nI i + nI c) (i + c) len := fun c hc => ixN (nv_add nv_nI nv_nI) hc hl
  have e2 : ∀ c, j + c < len2 → ix (nI j + nI c) (j + c) len2 := fun c hc => ixN (nv_add nv_nI nv_nI) hc hl2
  repeat (first | refine V.s omX8_productOf rfl rfl ?_ | refine V.ial omX8_productOf rfl hq (ixN nv_nI (show i < len by omega) hl) ?_ | refine V.ial omX8_productOf rfl hq2 (ixN nv_nI (show j < len2 by omega) hl2) ?_ | refine V.ial omX8_productOf rfl hq (e1 2 (by omega)) ?_ | refine V.ial omX8_productOf rfl hq (e1 3 (by omega)) ?_ | refine V.ial omX8_productOf rfl hq (e1 1 (by omega)) ?_ | refine V.ial omX8_productOf rfl hq2 (e2 2 (by omega)) ?_ | refine V.ial omX8_productOf rfl hq2 (e2 3 (by omega)) ?_ | refine V.ial omX8_productOf rfl hq2 (e2 1 (by omega)) ?_)
  exact V.lret omX8_productOf rfl rfl ⟨rfl, rfl⟩
def s8_product (A : Nat → Nat → Int32) (n : Nat) (r o : Int32) : Int64 × (Nat → Nat → Int32) := if (0 ≤ r ∧ r < nI n) ∧ (0 ≤ o ∧ o < nI n) then (prd (A 34) (A 34) (4 * cl r) (4 * cl o), A) else (0, rmA A 3)
theorem c8_pr (d : Nat) {i j : Nat} (hi : i < 20) (hj : j < 20) : C mX8_productOf d 0 0 [.ref 34, .int (4 * nI i), .ref 34, .int (4 * nI j)] (hp A B) (fun r h' => h' = hp A B ∧ r = some (.long (prd (A 34) (A 34) (4 * i) (4 * j)))) := c8_productOf d (len := 80) (len2 := 80) rfl rfl (nv_mul nv_lit nv_nI) (nv_mul nv_lit nv_nI) (by omega) (by omega) (by decide) (by decide)
set_option maxHeartbeats 4000000 in
set_option maxRecDepth 100000 in
theorem c8_product (d : Nat) {n : Nat} (hn : A 33 5 = nI n) (h20 : n ≤ 20) (r o : Int32) : C mX8_product (d + 2) 0 0 [.ref 33, .int r, .int o] (hp A B) (fun r' h' => h' = hp (s8_product A n r o).2 B ∧ r' = some (.long (s8_product A n r o).1)) := by
  refine C.of [some (.ref 33), some (.int r), some (.int o)] omX8_product rfl rfl rfl ?_
  by_cases h1 : 0 ≤ r ∧ r < A 33 5
  · by_cases h2 : 0 ≤ o ∧ o < A 33 5
    · repeat (first | refine V.s omX8_product rfl rfl ?_ | refine V.gf omX8_product rfl rfl rfl rfl ?_ | refine V.brF omX8_product rfl rfl (by decide) ?_ | refine V.brT omX8_product rfl rfl (by decide) (by decide) ?_ | refine V.cVf omX8_product omX8_isRound rfl rfl (c8_irY _ h1) rfl rfl rfl rfl rfl rfl ?_ | refine V.cVf omX8_product omX8_isRound rfl rfl (c8_irY _ h2) rfl rfl rfl rfl rfl rfl ?_)
      rw [hn] at h1 h2
      have hp2 : (0 ≤ r ∧ r < nI n) ∧ (0 ≤ o ∧ o < nI n) := ⟨h1, h2⟩
      simp only [s8_product, if_pos hp2]
      obtain ⟨i, hi, rfl⟩ := rng (by omega) h1
      obtain ⟨j, hj, rfl⟩ := rng (by omega) h2
      simp only [cl_nI (show i < 20 by omega), cl_nI (show j < 20 by omega)]
      refine V.cSf omX8_product omX8_productOf rfl rfl (c8_pr _ (show i < 20 by omega) (show j < 20 by omega)) rfl rfl rfl rfl ?_
      exact V.lret omX8_product rfl rfl ⟨rfl, rfl⟩
    · repeat (first | refine V.s omX8_product rfl rfl ?_ | refine V.gf omX8_product rfl rfl rfl rfl ?_ | refine V.brF omX8_product rfl rfl (by decide) ?_ | refine V.brT omX8_product rfl rfl (by decide) (by decide) ?_ | refine V.cVf omX8_product omX8_isRound rfl rfl (c8_irY _ h1) rfl rfl rfl rfl rfl rfl ?_ | refine V.cVf omX8_product omX8_isRound rfl rfl (c8_irN _ h2) rfl rfl rfl rfl rfl rfl ?_ | refine V.cVf omX8_product omX8_none rfl rfl (c8_none _ _ (by decide)) rfl rfl rfl rfl rfl rfl ?_)
      rw [hn] at h1 h2
      exact V.lret omX8_product rfl rfl (by simp only [s8_product, if_neg (show ¬ ((0 ≤ r ∧ r < nI n) ∧ (0 ≤ o ∧ o < nI n)) from fun h => h2 h.2)] <;> (refine ⟨?_, ?_⟩ <;> first | rfl | trivial))
  · repeat (first | refine V.s omX8_product rfl rfl ?_ | refine V.gf omX8_product rfl rfl rfl rfl ?_ | refine V.brF omX8_product rfl rfl (by decide) ?_ | refine V.brT omX8_product rfl rfl (by decide) (by decide) ?_ | refine V.cVf omX8_product omX8_isRound rfl rfl (c8_irN _ h1) rfl rfl rfl rfl rfl rfl ?_ | refine V.cVf omX8_product omX8_none rfl rfl (c8_none _ _ (by decide)) rfl rfl rfl rfl rfl rfl ?_)
    rw [hn] at h1
    exact V.lret omX8_product rfl rfl (by simp only [s8_product, if_neg (show ¬ ((0 ≤ r ∧ r < nI n) ∧ (0 ≤ o ∧ o < nI n)) from fun h => h1 h.1)] <;> (refine ⟨?_, ?_⟩ <;> first | rfl | trivial))
def mt8 (v : Int64) : Int32 := if v = -2 then 1 else if v = 2 then 2 else if v = 0 then 3 else if v = 1 ∨ v = -1 then 4 else if v < 0 then 5 else 6
set_option maxHeartbeats 4000000 in
set_option maxRecDepth 100000 in
theorem meet8_tail (d : Nat) (a b : Int32) {i j : Nat} (hi : i < 20) (hj : j < 20) : V mX8_meet (d + 2) 0 0 (fun r' h' => h' = hp A B ∧ r' = some (.int (mt8 (prd (A 34) (A 34) (4 * i) (4 * j))))) 0 0 95 [some (.ref 33), some (.int a), some (.int b), some (.int 0), some (.int 4), none] [.int (4 * nI j), .ref 34, .int (4 * nI i), .ref 34] (hp A B) := by
  refine V.cSf omX8_meet omX8_productOf rfl rfl (c8_pr _ hi hj) rfl rfl rfl rfl ?_
  generalize prd (A 34) (A 34) (4 * i) (4 * j) = v
  repeat' (first | refine V.s omX8_meet rfl rfl ?_ | refine V.gf omX8_meet rfl rfl rfl rfl ?_ | refine V.br omX8_meet rfl rfl (fun hc => ?_) (fun hc => ?_))
  all_goals refine V.iret omX8_meet rfl rfl ⟨rfl, ?_⟩
  all_goals simp only [lgc_lt, lgc_eq, lgc_ge, ← Int64.not_lt] at *
  all_goals simp [mt8, *]
def s8_meet (A : Nat → Nat → Int32) (n : Nat) (r o : Int32) : Int32 × (Nat → Nat → Int32) := if (0 ≤ r ∧ r < nI n) ∧ (0 ≤ o ∧ o < nI n) then (if alF (A 34) (cl r) (cl o) = 1 then 0 else mt8 (prd (A 34) (A 34) (4 * cl r) (4 * cl o)), A) else (-3, rmA A 3)
set_option maxHeartbeats 4000000 in
set_option maxRecDepth 100000 in
theorem c8_meet (d : Nat) {n : Nat} (hn : A 33 5 = nI n) (h20 : n ≤ 20) (r o : Int32) : C mX8_meet (d + 2) 0 0 [.ref 33, .int r, .int o] (hp A B) (fun r' h' => h' = hp (s8_meet A n r o).2 B ∧ r' = some (.int (s8_meet A n r o).1)) := by
  refine C.of [some (.ref 33), some (.int r), some (.int o), none, none, none] omX8_meet rfl rfl rfl ?_
  by_cases h1 : 0 ≤ r ∧ r < A 33 5
  · by_cases h2 : 0 ≤ o ∧ o < A 33 5
    · refine V.s omX8_meet rfl rfl ?_
      refine V.s omX8_meet rfl rfl ?_
      refine V.cVf omX8_meet omX8_isRound rfl rfl (c8_irY _ h1) rfl rfl rfl rfl rfl rfl ?_
      refine V.brF omX8_meet rfl rfl (by decide) ?_
      refine V.s omX8_meet rfl rfl ?_
      refine V.s omX8_meet rfl rfl ?_
      refine V.cVf omX8_meet omX8_isRound rfl rfl (c8_irY _ h2) rfl rfl rfl rfl rfl rfl ?_
      refine V.brT omX8_meet rfl rfl (by decide) (by decide) ?_
      rw [hn] at h1 h2
      have hp2 : (0 ≤ r ∧ r < nI n) ∧ (0 ≤ o ∧ o < nI n) := ⟨h1, h2⟩
      simp only [s8_meet, if_pos hp2]
      obtain ⟨i, hi, rfl⟩ := rng (by omega) h1
      obtain ⟨j, hj, rfl⟩ := rng (by omega) h2
      simp only [cl_nI (show i < 20 by omega), cl_nI (show j < 20 by omega)]
      by_cases ha : alF (A 34) i j = 1
      · rw [if_pos ha]
        have hh : A 34 (4 * i + 0) = A 34 (4 * j + 0) ∧ A 34 (4 * i + 1) = A 34 (4 * j + 1) ∧ A 34 (4 * i + 2) = A 34 (4 * j + 2) ∧ A 34 (4 * i + 3) = A 34 (4 * j + 3) := by
          unfold alF at ha
          split at ha
          · assumption
          · exact absurd ha (by decide)
        obtain ⟨g0, g1, g2, g3⟩ := hh
        repeat (first | refine V.s omX8_meet rfl rfl ?_ | refine V.gf omX8_meet rfl rfl rfl rfl ?_ | simp only [Int32.reduceAdd, Int32.reduceMul, Int32.reduceSub] | refine V.brF omX8_meet rfl rfl (by decide) ?_ | refine V.brT omX8_meet rfl rfl (by decide) (by decide) ?_ | refine V.ial omX8_meet rfl rfl (ixN (nv_add (nv_mul nv_lit nv_nI) nv_lit) (by omega) (by decide)) ?_ | refine V.brF omX8_meet rfl rfl (fun h => h g0) ?_ | refine V.brF omX8_meet rfl rfl (fun h => h g1) ?_ | refine V.brF omX8_meet rfl rfl (fun h => h g2) ?_ | refine V.brF omX8_meet rfl rfl (fun h => h g3) ?_)
        exact V.iret omX8_meet rfl rfl ⟨rfl, rfl⟩
      · rw [if_neg ha]
        have fin := meet8_tail (A := A) (B := B) d (nI i) (nI j) (show i < 20 by omega) (show j < 20 by omega)
        repeat' (first | refine V.s omX8_meet rfl rfl ?_ | refine V.gf omX8_meet rfl rfl rfl rfl ?_ | simp only [Int32.reduceAdd, Int32.reduceMul, Int32.reduceSub] | refine V.brF omX8_meet rfl rfl (by decide) ?_ | refine V.brT omX8_meet rfl rfl (by decide) (by decide) ?_ | refine V.ial omX8_meet rfl rfl (ixN (nv_add (nv_mul nv_lit nv_nI) nv_lit) (by omega) (by decide)) ?_ | refine V.br omX8_meet rfl rfl (fun hc => ?_) (fun hc => ?_))
        all_goals first | (exfalso; apply ha; unfold alF; rw [if_pos]; exact ⟨by assumption, by assumption, by assumption, by assumption⟩) | exact fin
    · repeat (first | refine V.s omX8_meet rfl rfl ?_ | refine V.gf omX8_meet rfl rfl rfl rfl ?_ | refine V.brF omX8_meet rfl rfl (by decide) ?_ | refine V.brT omX8_meet rfl rfl (by decide) (by decide) ?_ | refine V.cVf omX8_meet omX8_isRound rfl rfl (c8_irY _ h1) rfl rfl rfl rfl rfl rfl ?_ | refine V.cVf omX8_meet omX8_isRound rfl rfl (c8_irN _ h2) rfl rfl rfl rfl rfl rfl ?_ | refine V.cVf omX8_meet omX8_no rfl rfl (c8_no _ _ (by decide)) rfl rfl rfl rfl rfl rfl ?_)
      rw [hn] at h1 h2
      exact V.iret omX8_meet rfl rfl (by simp only [s8_meet, if_neg (show ¬ ((0 ≤ r ∧ r < nI n) ∧ (0 ≤ o ∧ o < nI n)) from fun h => h2 h.2)] <;> (refine ⟨?_, ?_⟩ <;> first | rfl | trivial))
  · repeat (first | refine V.s omX8_meet rfl rfl ?_ | refine V.gf omX8_meet rfl rfl rfl rfl ?_ | refine V.brF omX8_meet rfl rfl (by decide) ?_ | refine V.brT omX8_meet rfl rfl (by decide) (by decide) ?_ | refine V.cVf omX8_meet omX8_isRound rfl rfl (c8_irN _ h1) rfl rfl rfl rfl rfl rfl ?_ | refine V.cVf omX8_meet omX8_no rfl rfl (c8_no _ _ (by decide)) rfl rfl rfl rfl rfl rfl ?_)
    rw [hn] at h1
    exact V.iret omX8_meet rfl rfl (by simp only [s8_meet, if_neg (show ¬ ((0 ≤ r ∧ r < nI n) ∧ (0 ≤ o ∧ o < nI n)) from fun h => h1 h.1)] <;> (refine ⟨?_, ?_⟩ <;> first | rfl | trivial))
theorem c8_mirrored (d : Nat) {a b e : Int32} {i j c : Nat} (ha : NV a i) (hb : NV b j) (he : NV e c) (hi : i < 20) (hj : j < 20) (hc : c < 4) (v : Int64) : C mX8_mirrored d 0 0 [.ref 33, .int a, .int b, .int e, .long v] (hp A B) (fun r h' => h' = hp A B ∧ r = some (.long (mrr (A 34) i j c v))) := by
  unfold NV at ha hb he
  subst ha hb he
  refine C.of [some (.ref 33), some (.int (nI i)), some (.int (nI j)), some (.int (nI c)), some (.long v), none] omX8_mirrored rfl rfl rfl ?_
  repeat (first | refine V.s omX8_mirrored rfl rfl ?_ | refine V.gf omX8_mirrored rfl rfl rfl rfl ?_ | refine V.ial omX8_mirrored rfl rfl (ixN (nv_add (nv_mul nv_lit nv_nI) nv_nI) (by omega) (by decide)) ?_)
  exact V.lret omX8_mirrored rfl rfl ⟨rfl, rfl⟩
abbrev mf8 (f : Nat → Int32) (i j : Nat) : Prop := (-4000000000 ≤ prd f f (4 * i) (4 * j) ∧ prd f f (4 * i) (4 * j) ≤ 4000000000) ∧ fitF (mrr f i j 0 (prd f f (4 * i) (4 * j))) = 1 ∧ fitF (mrr f i j 1 (prd f f (4 * i) (4 * j))) = 1 ∧ fitF (mrr f i j 2 (prd f f (4 * i) (4 * j))) = 1 ∧ fitF (mrr f i j 3 (prd f f (4 * i) (4 * j))) = 1
def m8A (A : Nat → Nat → Int32) (n i j : Nat) : Nat → Nat → Int32 := adA A n 3 (mrr (A 34) i j 0 (prd (A 34) (A 34) (4 * i) (4 * j))).toInt32 (mrr (A 34) i j 1 (prd (A 34) (A 34) (4 * i) (4 * j))).toInt32 (mrr (A 34) i j 2 (prd (A 34) (A 34) (4 * i) (4 * j))).toInt32 (mrr (A 34) i j 3 (prd (A 34) (A 34) (4 * i) (4 * j))).toInt32
def s8_mirror (A : Nat → Nat → Int32) (n : Nat) (r o : Int32) : Int32 × (Nat → Nat → Int32) := if (0 ≤ r ∧ r < nI n) ∧ (0 ≤ o ∧ o < nI n) then (if n < 20 ∧ mf8 (A 34) (cl r) (cl o) then (nI n, m8A A n (cl r) (cl o)) else (-8, rmA A 8)) else (-3, rmA A 3)
def inF (v : Int64) : Int32 := if (-4000000000 : Int64) ≤ v ∧ v ≤ 4000000000 then 1 else 0
theorem inF_ne {v : Int64} : ¬ inF v = 0 ↔ (-4000000000 : Int64) ≤ v ∧ v ≤ 4000000000 := by
  unfold inF
  split
  · exact ⟨fun _ => by assumption, fun _ => by decide⟩
  · exact ⟨fun h => absurd rfl h, fun h => absurd h (by assumption)⟩
theorem inF_eq {v : Int64} : inF v = 0 ↔ ¬ ((-4000000000 : Int64) ≤ v ∧ v ≤ 4000000000) := by
  rw [← inF_ne, Classical.not_not]
set_option maxHeartbeats 4000000 in
set_option maxRecDepth 100000 in
theorem mirror8_put (d : Nat) {n i j : Nat} (hn : A 33 5 = nI n) (h20 : n ≤ 20) (hi : i < 20) (hj : j < 20) (s5 s6 : Int32) : V mX8_mirror (d + 2) 0 0 (fun r' h' => h' = hp (if n < 20 then (nI n, m8A A n i j) else (-8, rmA A 8)).2 B ∧ r' = some (.int (if n < 20 then (nI n, m8A A n i j) else (-8, rmA A 8)).1)) 0 0 105 [some (.ref 33), some (.int (nI i)), some (.int (nI j)), some (.long (prd (A 34) (A 34) (4 * i) (4 * j))), none, some (.int s5), some (.int s6)] [] (hp A B) := by
  repeat (first | refine V.s omX8_mirror rfl rfl ?_ | refine V.gf omX8_mirror rfl rfl rfl rfl ?_ | refine V.cVf omX8_mirror omX8_mirrored rfl rfl (c8_mirrored _ nv_nI nv_nI nv_lit hi hj (by decide) _) rfl rfl rfl rfl rfl rfl ?_)
  by_cases h2 : n < 20
  · simp only [if_pos h2]
    refine V.cVf omX8_mirror omX8_adds rfl rfl (c8_addsN d hn h2 _ _ _ _ _) rfl rfl rfl rfl rfl rfl ?_
    exact V.iret omX8_mirror rfl rfl ⟨rfl, rfl⟩
  · simp only [if_neg h2]
    refine V.cVf omX8_mirror omX8_adds rfl rfl (c8_addsF d (hn.trans (n20 h20 h2)) _ _ _ _ _) rfl rfl rfl rfl rfl rfl ?_
    exact V.iret omX8_mirror rfl rfl ⟨rfl, rfl⟩
end MD2
end
section
section MD3
variable {A : Nat → Nat → Int32} {B : Nat → Nat → Int64}
set_option maxHeartbeats 4000000 in
set_option maxRecDepth 100000 in
theorem c8_mirror (d : Nat) {n : Nat} (hn : A 33 5 = nI n) (h20 : n ≤ 20) (r o : Int32) : C mX8_mirror (d + 2) 0 0 [.ref 33, .int r, .int o] (hp A B) (fun r' h' => h' = hp (s8_mirror A n r o).2 B ∧ r' = some (.int (s8_mirror A n r o).1)) := by
  refine C.of [some (.ref 33), some (.int r), some (.int o), none, none, none, none] omX8_mirror rfl rfl rfl ?_
  by_cases h1 : 0 ≤ r ∧ r < A 33 5
  · by_cases h2 : 0 ≤ o ∧ o < A 33 5
    · repeat (first | refine V.s omX8_mirror rfl rfl ?_ | refine V.gf omX8_mirror rfl rfl rfl rfl ?_ | refine V.brF omX8_mirror rfl rfl (by decide) ?_ | refine V.brT omX8_mirror rfl rfl (by decide) (by decide) ?_ | refine V.cVf omX8_mirror omX8_isRound rfl rfl (c8_irY _ h1) rfl rfl rfl rfl rfl rfl ?_ | refine V.cVf omX8_mirror omX8_isRound rfl rfl (c8_irY _ h2) rfl rfl rfl rfl rfl rfl ?_)
      rw [hn] at h1 h2
      have hp2 : (0 ≤ r ∧ r < nI n) ∧ (0 ≤ o ∧ o < nI n) := ⟨h1, h2⟩
      simp only [s8_mirror, if_pos hp2]
      obtain ⟨i, hi, rfl⟩ := rng (by omega) h1
      obtain ⟨j, hj, rfl⟩ := rng (by omega) h2
      simp only [cl_nI (show i < 20 by omega), cl_nI (show j < 20 by omega)]
      refine V.cSf omX8_mirror omX8_productOf rfl rfl (c8_pr _ (show i < 20 by omega) (show j < 20 by omega)) rfl rfl rfl rfl ?_
      have fin := mirror8_put (A := A) (B := B) d hn h20 (show i < 20 by omega) (show j < 20 by omega)
      have ci : C mX8_isIn (d + 1) 0 0 [.long (prd (A 34) (A 34) (4 * i) (4 * j)), .long (-4000000000), .long 4000000000] (hp A B) (fun r h' => h' = hp A B ∧ r = some (.int (inF (prd (A 34) (A 34) (4 * i) (4 * j))))) := c8_isIn _ _ _ _ _
      have cf : ∀ v, C mX8_isIn (d + 1) 0 0 [.long v, .long (-1000000000), .long 1000000000] (hp A B) (fun r h' => h' = hp A B ∧ r = some (.int (fitF v))) := fun v => c8_isIn _ v _ _ _
      refine V.s omX8_mirror rfl rfl ?_
      refine V.s omX8_mirror rfl rfl ?_
      refine V.s omX8_mirror rfl rfl ?_
      refine V.s omX8_mirror rfl rfl ?_
      refine V.cSf omX8_mirror omX8_isIn rfl rfl ci rfl rfl rfl rfl ?_
      refine V.s omX8_mirror rfl rfl ?_
      refine V.s omX8_mirror rfl rfl ?_
      refine V.s omX8_mirror rfl rfl ?_
      have stop : ∀ (s5 s6 : Int32), ¬ mf8 (A 34) i j → s5 = 0 → V mX8_mirror (d + 2) 0 0 (fun r' h' => h' = hp (if n < 20 ∧ mf8 (A 34) i j then (nI n, m8A A n i j) else (-8, rmA A 8)).2 B ∧ r' = some (.int (if n < 20 ∧ mf8 (A 34) i j then (nI n, m8A A n i j) else (-8, rmA A 8)).1)) 0 0 93 [some (.ref 33), some (.int (nI i)), some (.int (nI j)), some (.long (prd (A 34) (A 34) (4 * i) (4 * j))), none, some (.int s5), some (.int s6)] [] (hp A B) := by
        intro s5 s6 hm h5
        rw [if_neg (fun h => hm h.2)]
        refine V.s omX8_mirror rfl rfl ?_
        refine V.brF omX8_mirror rfl rfl (fun h => h h5) ?_
        repeat (first | refine V.s omX8_mirror rfl rfl ?_ | refine V.gf omX8_mirror rfl rfl rfl rfl ?_ | refine V.cVf omX8_mirror omX8_no rfl rfl (c8_no _ _ (by decide)) rfl rfl rfl rfl rfl rfl ?_)
        exact V.iret omX8_mirror rfl rfl ⟨rfl, rfl⟩
      have step : ∀ (c : Nat) (s5 : Int32), c < 4 → ¬ s5 = 0 → V mX8_mirror (d + 2) 0 0 (fun r' h' => h' = hp (if n < 20 ∧ mf8 (A 34) i j then (nI n, m8A A n i j) else (-8, rmA A 8)).2 B ∧ r' = some (.int (if n < 20 ∧ mf8 (A 34) i j then (nI n, m8A A n i j) else (-8, rmA A 8)).1)) 0 0 56 [some (.ref 33), some (.int (nI i)), some (.int (nI j)), some (.long (prd (A 34) (A 34) (4 * i) (4 * j))), none, some (.int (fitF (mrr (A 34) i j c (prd (A 34) (A 34) (4 * i) (4 * j))))), some (.int (nI (c + 1)))] [] (hp A B) → V mX8_mirror (d + 2) 0 0 (fun r' h' => h' = hp (if n < 20 ∧ mf8 (A 34) i j then (nI n, m8A A n i j) else (-8, rmA A 8)).2 B ∧ r' = some (.int (if n < 20 ∧ mf8 (A 34) i j then (nI n, m8A A n i j) else (-8, rmA A 8)).1)) 0 0 56 [some (.ref 33), some (.int (nI i)), some (.int (nI j)), some (.long (prd (A 34) (A 34) (4 * i) (4 * j))), none, some (.int s5), some (.int (nI c))] [] (hp A B) := by
        intro c s5 hc h5 kk
        refine V.s omX8_mirror rfl rfl ?_
        refine V.s omX8_mirror rfl rfl ?_
        refine V.brF omX8_mirror rfl rfl (by rw [nIl_le 4 (by omega) (by decide)]; omega) ?_
        refine V.s omX8_mirror rfl rfl ?_
        refine V.brF omX8_mirror rfl rfl h5 ?_
        repeat (first | refine V.s omX8_mirror rfl rfl ?_)
        refine V.cVf omX8_mirror omX8_mirrored rfl rfl (c8_mirrored _ nv_nI nv_nI nv_nI (show i < 20 by omega) (show j < 20 by omega) hc _) rfl rfl rfl rfl rfl rfl ?_
        refine V.s omX8_mirror rfl rfl ?_
        refine V.s omX8_mirror rfl rfl ?_
        refine V.cSf omX8_mirror omX8_isIn rfl rfl (cf _) rfl rfl rfl rfl ?_
        refine V.s omX8_mirror rfl rfl ?_
        refine V.s omX8_mirror rfl rfl ?_
        refine V.s omX8_mirror rfl rfl ?_
        rw [nI_1]
        exact kk
      have leave : ∀ (c : Nat) (s5 : Int32), c < 4 → s5 = 0 → ¬ mf8 (A 34) i j → V mX8_mirror (d + 2) 0 0 (fun r' h' => h' = hp (if n < 20 ∧ mf8 (A 34) i j then (nI n, m8A A n i j) else (-8, rmA A 8)).2 B ∧ r' = some (.int (if n < 20 ∧ mf8 (A 34) i j then (nI n, m8A A n i j) else (-8, rmA A 8)).1)) 0 0 56 [some (.ref 33), some (.int (nI i)), some (.int (nI j)), some (.long (prd (A 34) (A 34) (4 * i) (4 * j))), none, some (.int s5), some (.int (nI c))] [] (hp A B) := by
        intro c s5 hc h5 hm
        refine V.s omX8_mirror rfl rfl ?_
        refine V.s omX8_mirror rfl rfl ?_
        refine V.brF omX8_mirror rfl rfl (by rw [nIl_le 4 (by omega) (by decide)]; omega) ?_
        refine V.s omX8_mirror rfl rfl ?_
        refine V.brT omX8_mirror rfl rfl h5 (fun h g => g h) ?_
        exact stop s5 (nI c) hm h5
      by_cases g0 : inF (prd (A 34) (A 34) (4 * i) (4 * j)) = 0
      · exact leave 0 _ (by decide) g0 (fun h => inF_eq.mp g0 h.1)
      refine step 0 _ (by decide) g0 ?_
      by_cases g1 : fitF (mrr (A 34) i j 0 (prd (A 34) (A 34) (4 * i) (4 * j))) = 0
      · exact leave 1 _ (by decide) g1 (fun h => absurd (h.2.1.symm.trans g1) (by decide))
      refine step 1 _ (by decide) g1 ?_
      by_cases g2 : fitF (mrr (A 34) i j 1 (prd (A 34) (A 34) (4 * i) (4 * j))) = 0
      · exact leave 2 _ (by decide) g2 (fun h => absurd (h.2.2.1.symm.trans g2) (by decide))
      refine step 2 _ (by decide) g2 ?_
      by_cases g3 : fitF (mrr (A 34) i j 2 (prd (A 34) (A 34) (4 * i) (4 * j))) = 0
      · exact leave 3 _ (by decide) g3 (fun h => absurd (h.2.2.2.1.symm.trans g3) (by decide))
      refine step 3 _ (by decide) g3 ?_
      refine V.s omX8_mirror rfl rfl ?_
      refine V.s omX8_mirror rfl rfl ?_
      refine V.brT omX8_mirror rfl rfl (by decide) (by decide) ?_
      by_cases g4 : fitF (mrr (A 34) i j 3 (prd (A 34) (A 34) (4 * i) (4 * j))) = 0
      · exact stop _ _ (fun h => absurd (h.2.2.2.2.symm.trans g4) (by decide)) g4
      · refine V.s omX8_mirror rfl rfl ?_
        refine V.brT omX8_mirror rfl rfl g4 (fun h => h) ?_
        have hm : mf8 (A 34) i j := ⟨inF_ne.mp g0, fitF_ne.mp g1, fitF_ne.mp g2, fitF_ne.mp g3, fitF_ne.mp g4⟩
        have e : (if n < 20 ∧ mf8 (A 34) i j then (nI n, m8A A n i j) else (-8, rmA A 8)) = (if n < 20 then (nI n, m8A A n i j) else (-8, rmA A 8)) := by
          by_cases h3 : n < 20
          · rw [if_pos ⟨h3, hm⟩, if_pos h3]
          · rw [if_neg (fun h => h3 h.1), if_neg h3]
        rw [e]
        exact fin _ _
    · repeat (first | refine V.s omX8_mirror rfl rfl ?_ | refine V.gf omX8_mirror rfl rfl rfl rfl ?_ | refine V.brF omX8_mirror rfl rfl (by decide) ?_ | refine V.brT omX8_mirror rfl rfl (by decide) (by decide) ?_ | refine V.cVf omX8_mirror omX8_isRound rfl rfl (c8_irY _ h1) rfl rfl rfl rfl rfl rfl ?_ | refine V.cVf omX8_mirror omX8_isRound rfl rfl (c8_irN _ h2) rfl rfl rfl rfl rfl rfl ?_ | refine V.cVf omX8_mirror omX8_no rfl rfl (c8_no _ _ (by decide)) rfl rfl rfl rfl rfl rfl ?_)
      rw [hn] at h1 h2
      exact V.iret omX8_mirror rfl rfl (by simp only [s8_mirror, if_neg (show ¬ ((0 ≤ r ∧ r < nI n) ∧ (0 ≤ o ∧ o < nI n)) from fun h => h2 h.2)] <;> (refine ⟨?_, ?_⟩ <;> first | rfl | trivial))
  · repeat (first | refine V.s omX8_mirror rfl rfl ?_ | refine V.gf omX8_mirror rfl rfl rfl rfl ?_ | refine V.brF omX8_mirror rfl rfl (by decide) ?_ | refine V.brT omX8_mirror rfl rfl (by decide) (by decide) ?_ | refine V.cVf omX8_mirror omX8_isRound rfl rfl (c8_irN _ h1) rfl rfl rfl rfl rfl rfl ?_ | refine V.cVf omX8_mirror omX8_no rfl rfl (c8_no _ _ (by decide)) rfl rfl rfl rfl rfl rfl ?_)
    rw [hn] at h1
    exact V.iret omX8_mirror rfl rfl (by simp only [s8_mirror, if_neg (show ¬ ((0 ≤ r ∧ r < nI n) ∧ (0 ≤ o ∧ o < nI n)) from fun h => h1 h.1)] <;> (refine ⟨?_, ?_⟩ <;> first | rfl | trivial))
def s8_flip (A : Nat → Nat → Int32) (n : Nat) (r : Int32) : Int32 × (Nat → Nat → Int32) := if 0 ≤ r ∧ r < nI n then (if n < 20 then (nI n, adA A n (kbF (A 34 (4 * cl r))) (-(A 34 (4 * cl r))) (-(A 34 (4 * cl r + 1))) (-(A 34 (4 * cl r + 2))) (-(A 34 (4 * cl r + 3)))) else (-8, rmA A 8)) else (-3, rmA A 3)
set_option maxHeartbeats 4000000 in
set_option maxRecDepth 100000 in
theorem c8_flip (d : Nat) {n : Nat} (hn : A 33 5 = nI n) (h20 : n ≤ 20) (r : Int32) : C mX8_flip (d + 2) 0 0 [.ref 33, .int r] (hp A B) (fun r' h' => h' = hp (s8_flip A n r).2 B ∧ r' = some (.int (s8_flip A n r).1)) := by
  refine C.of [some (.ref 33), some (.int r), none] omX8_flip rfl rfl rfl ?_
  by_cases h1 : 0 ≤ r ∧ r < A 33 5
  · repeat (first | refine V.s omX8_flip rfl rfl ?_ | refine V.gf omX8_flip rfl rfl rfl rfl ?_ | refine V.brF omX8_flip rfl rfl (by decide) ?_ | refine V.brT omX8_flip rfl rfl (by decide) (by decide) ?_ | refine V.cVf omX8_flip omX8_isRound rfl rfl (c8_irY _ h1) rfl rfl rfl rfl rfl rfl ?_)
    rw [hn] at h1
    simp only [s8_flip, if_pos h1]
    obtain ⟨i, hi, rfl⟩ := rng (by omega) h1
    simp only [cl_nI (show i < 20 by omega)]
    repeat (first | refine V.s omX8_flip rfl rfl ?_ | refine V.gf omX8_flip rfl rfl rfl rfl ?_ | refine V.ial omX8_flip rfl rfl (ixN (nv_mul nv_lit nv_nI) (by omega) (by decide)) ?_ | refine V.ial omX8_flip rfl rfl (ixN (nv_add (nv_mul nv_lit nv_nI) nv_lit) (by omega) (by decide)) ?_)
    have fin : ∀ kd, kd = kbF (A 34 (4 * i)) → V mX8_flip (d + 2) 0 0 (fun r h' => h' = hp (if n < 20 then (nI n, adA A n (kbF (A 34 (4 * i))) (-(A 34 (4 * i))) (-(A 34 (4 * i + 1))) (-(A 34 (4 * i + 2))) (-(A 34 (4 * i + 3)))) else (-8, rmA A 8)).2 B ∧ r = some (.int (if n < 20 then (nI n, adA A n (kbF (A 34 (4 * i))) (-(A 34 (4 * i))) (-(A 34 (4 * i + 1))) (-(A 34 (4 * i + 2))) (-(A 34 (4 * i + 3)))) else (-8, rmA A 8)).1)) 0 0 72 [some (.ref 33), some (.int (nI i)), some (.int (4 * nI i))] [.int kd, .long (-(A 34 (4 * i + 3))).toInt64, .long (-(A 34 (4 * i + 2))).toInt64, .long (-(A 34 (4 * i + 1))).toInt64, .long (-(A 34 (4 * i))).toInt64, .ref 33] (hp A B) := by
      intro kd hk
      subst hk
      by_cases h2 : n < 20
      · simp only [if_pos h2]
        refine V.cVf omX8_flip omX8_adds rfl rfl (c8_addsN d hn h2 _ _ _ _ _) rfl rfl rfl rfl rfl rfl ?_
        simp only [i32_back]
        exact V.iret omX8_flip rfl rfl ⟨rfl, rfl⟩
      · simp only [if_neg h2]
        refine V.cVf omX8_flip omX8_adds rfl rfl (c8_addsF d (hn.trans (n20 h20 h2)) _ _ _ _ _) rfl rfl rfl rfl rfl rfl ?_
        exact V.iret omX8_flip rfl rfl ⟨rfl, rfl⟩
    by_cases ha : A 34 (4 * i) = 0
    · refine V.brF omX8_flip rfl rfl (fun h => h ha) ?_
      refine V.s omX8_flip rfl rfl ?_
      refine V.s omX8_flip rfl rfl ?_
      exact fin 1 (by simp [kbF, ha])
    · refine V.brT omX8_flip rfl rfl ha (fun h => h) ?_
      refine V.s omX8_flip rfl rfl ?_
      exact fin 0 (by simp [kbF, ha])
  · repeat (first | refine V.s omX8_flip rfl rfl ?_ | refine V.gf omX8_flip rfl rfl rfl rfl ?_ | refine V.brF omX8_flip rfl rfl (by decide) ?_ | refine V.brT omX8_flip rfl rfl (by decide) (by decide) ?_ | refine V.cVf omX8_flip omX8_isRound rfl rfl (c8_irN _ h1) rfl rfl rfl rfl rfl rfl ?_ | refine V.cVf omX8_flip omX8_no rfl rfl (c8_no _ _ (by decide)) rfl rfl rfl rfl rfl rfl ?_)
    rw [hn] at h1
    exact V.iret omX8_flip rfl rfl (by simp only [s8_flip, if_neg h1] <;> (refine ⟨?_, ?_⟩ <;> first | rfl | trivial))
end MD3
end
section
section MD4
variable {A : Nat → Nat → Int32} {B : Nat → Nat → Int64}
theorem w_le {a b : Int32} : a.toInt64 ≤ b.toInt64 ↔ a ≤ b := by
  rw [Int64.le_iff_toInt_le, Int32.le_iff_toInt_le, Int32.toInt_toInt64, Int32.toInt_toInt64]
theorem c8_isKiss (d : Nat) (r : Int32) : C mX8_isKiss d 0 0 [.ref 33, .int r] (hp A B) (fun r' h' => h' = hp A B ∧ r' = some (.int (if 0 ≤ r ∧ r < A 33 6 then 1 else 0))) := by
  refine C.of [some (.ref 33), some (.int r)] omX8_isKiss rfl rfl rfl ?_
  repeat' (first | refine V.s omX8_isKiss rfl rfl ?_ | refine V.gf omX8_isKiss rfl rfl rfl rfl ?_ | refine V.br omX8_isKiss rfl rfl (fun hc => ?_) (fun hc => ?_))
  all_goals refine V.zret omX8_isKiss rfl rfl (by decide) ⟨rfl, ?_⟩
  all_goals simp only [← Int32.not_lt] at *
  all_goals simp [*]
theorem c8_ikY (d : Nat) {r : Int32} (h : 0 ≤ r ∧ r < A 33 6) : C mX8_isKiss d 0 0 [.ref 33, .int r] (hp A B) (fun r' h' => h' = hp A B ∧ r' = some (.int 1)) := by
  have h1 := c8_isKiss (A := A) (B := B) d r
  rwa [if_pos h] at h1
theorem c8_ikN (d : Nat) {r : Int32} (h : ¬ (0 ≤ r ∧ r < A 33 6)) : C mX8_isKiss d 0 0 [.ref 33, .int r] (hp A B) (fun r' h' => h' = hp A B ∧ r' = some (.int 0)) := by
  have h1 := c8_isKiss (A := A) (B := B) d r
  rwa [if_neg h] at h1
theorem c8_isPlace (d : Nat) (p : Int32) (h : hp_T) : C mX8_isPlace d 0 0 [.int p] h (fun r' h' => h' = h ∧ r' = some (.int (if 0 ≤ p ∧ p < 4 then 1 else 0))) := by
  refine C.of [some (.int p)] omX8_isPlace rfl rfl rfl ?_
  repeat' (first | refine V.s omX8_isPlace rfl rfl ?_ | refine V.gf omX8_isPlace rfl rfl rfl rfl ?_ | refine V.br omX8_isPlace rfl rfl (fun hc => ?_) (fun hc => ?_))
  all_goals refine V.zret omX8_isPlace rfl rfl (by decide) ⟨rfl, ?_⟩
  all_goals simp only [← Int32.not_lt] at *
  all_goals simp [*]
theorem c8_ipY (d : Nat) {p : Int32} (g : 0 ≤ p ∧ p < 4) (h : hp_T) : C mX8_isPlace d 0 0 [.int p] h (fun r' h' => h' = h ∧ r' = some (.int 1)) := by
  have h1 := c8_isPlace d p h
  rwa [if_pos g] at h1
theorem c8_ipN (d : Nat) {p : Int32} (g : ¬ (0 ≤ p ∧ p < 4)) (h : hp_T) : C mX8_isPlace d 0 0 [.int p] h (fun r' h' => h' = h ∧ r' = some (.int 0)) := by
  have h1 := c8_isPlace d p h
  rwa [if_neg g] at h1
/-- kiss k of the reference, by its own sixteen numbers -/
def kz (f : Nat → Int32) (k : Nat) : Nat → Int32 := fun i => f (16 * k + i)
def bs8 (f : Nat → Int32) : Int64 := 0 + (f 0).toInt64 + (f 4).toInt64 + (f 8).toInt64 + (f 12).toInt64
set_option maxHeartbeats 4000000 in
set_option maxRecDepth 100000 in
theorem c8_heightOf (d : Nat) {k : Nat} (hk : k < 6) {a : Int32} (ha : NV a k) : C mX8_heightOf d 0 0 [.ref 33, .int a] (hp A B) (fun r h' => h' = hp A B ∧ r = some (.long (bs8 (kz (A 38) k)))) := by
  unfold NV at ha
  subst ha
  refine C.of [some (.ref 33), some (.int (nI k)), none, none, none] omX8_heightOf rfl rfl rfl ?_
  repeat (first | refine V.s omX8_heightOf rfl rfl ?_ | refine V.gf omX8_heightOf rfl rfl rfl rfl ?_ | simp only [Int32.reduceAdd, Int32.reduceMul, Int32.reduceSub] | refine V.brF omX8_heightOf rfl rfl (by decide) ?_ | refine V.brT omX8_heightOf rfl rfl (by decide) (by decide) ?_ | refine V.ial omX8_heightOf rfl rfl (ixN (nv_add (nv_mul nv_lit nv_nI) nv_lit) (by omega) (by decide)) ?_)
  exact V.lret omX8_heightOf rfl rfl ⟨rfl, rfl⟩
def sw8 (f : Nat → Int32) (p c : Nat) : Int64 := 2 * (0 + (f (0 + c)).toInt64 + (f (4 + c)).toInt64 + (f (8 + c)).toInt64 + (f (12 + c)).toInt64 - (f (4 * p + c)).toInt64) - (f (4 * p + c)).toInt64
set_option maxHeartbeats 4000000 in
set_option maxRecDepth 100000 in
theorem c8_swapped (d : Nat) {k p c : Nat} (hk : k < 6) (h4 : p < 4) (h5 : c < 4) {a b e : Int32} (ha : NV a k) (hb : NV b p) (he : NV e c) : C mX8_swapped d 0 0 [.ref 33, .int a, .int b, .int e] (hp A B) (fun r h' => h' = hp A B ∧ r = some (.long (sw8 (kz (A 38) k) p c))) := by
  unfold NV at ha hb he
  subst ha hb he
  refine C.of [some (.ref 33), some (.int (nI k)), some (.int (nI p)), some (.int (nI c)), none, none, none, none] omX8_swapped rfl rfl rfl ?_
  repeat (first | refine V.s omX8_swapped rfl rfl ?_ | refine V.gf omX8_swapped rfl rfl rfl rfl ?_ | simp only [Int32.reduceAdd, Int32.reduceMul, Int32.reduceSub] | refine V.brF omX8_swapped rfl rfl (by decide) ?_ | refine V.brT omX8_swapped rfl rfl (by decide) (by decide) ?_ | refine V.ial omX8_swapped rfl rfl (ixN (nv_add (nv_add (nv_mul nv_lit nv_nI) nv_lit) nv_nI) (by omega) (by decide)) ?_ | refine V.ial omX8_swapped rfl rfl (ixN (nv_add (nv_add (nv_mul nv_lit nv_nI) (nv_mul nv_lit nv_nI)) nv_nI) (by omega) (by decide)) ?_)
  refine V.lret omX8_swapped rfl rfl ⟨rfl, ?_⟩
  simp only [sw8, kz, Nat.add_assoc]
end MD4
end
section
section MD5
variable {A : Nat → Nat → Int32} {B : Nat → Nat → Int64}
def s8_part (A : Nat → Nat → Int32) (m : Nat) : Int32 × (Nat → Nat → Int32) := if m = 0 then (-2, rmA A 2) else (nI (m - 1), va_up A 33 (upd (A 33) 6 (nI (m - 1))))
theorem c8_part (d : Nat) {m : Nat} (hm : A 33 6 = nI m) (h6 : m ≤ 6) : C mX8_part (d + 1) 0 0 [.ref 33] (hp A B) (fun r h' => h' = hp (s8_part A m).2 B ∧ r = some (.int (s8_part A m).1)) := by
  refine C.of [some (.ref 33)] omX8_part rfl rfl rfl ?_
  repeat (first | refine V.s omX8_part rfl rfl ?_ | refine V.gf omX8_part rfl rfl rfl rfl ?_)
  rw [hm]
  cases m with
  | zero =>
    refine V.brF omX8_part rfl rfl (by decide) ?_
    repeat (first | refine V.s omX8_part rfl rfl ?_ | refine V.gf omX8_part rfl rfl rfl rfl ?_ | refine V.cVf omX8_part omX8_no rfl rfl (c8_no _ _ (by decide)) rfl rfl rfl rfl rfl rfl ?_)
    exact V.iret omX8_part rfl rfl ⟨rfl, rfl⟩
  | succ m =>
    refine V.brT omX8_part rfl rfl (nI_ne0 (by omega) (by omega)) (fun h => h) ?_
    repeat (first | refine V.s omX8_part rfl rfl ?_ | refine V.gf omX8_part rfl rfl rfl rfl ?_)
    rw [hm, nI_pred]
    repeat (first | refine V.s omX8_part rfl rfl ?_ | refine V.gf omX8_part rfl rfl rfl rfl ?_ | refine V.pfH omX8_part rfl rfl rfl rfl rfl rfl rfl ?_)
    simp only [va_up_self, pk_us]
    exact V.iret omX8_part rfl rfl ⟨rfl, rfl⟩
def s8_height (A : Nat → Nat → Int32) (m : Nat) (r : Int32) : Int64 × (Nat → Nat → Int32) := if 0 ≤ r ∧ r < nI m then (bs8 (kz (A 38) (cl r)), A) else (0, rmA A 3)
set_option maxHeartbeats 4000000 in
set_option maxRecDepth 100000 in
theorem c8_height (d : Nat) {m : Nat} (hm : A 33 6 = nI m) (h6 : m ≤ 6) (r : Int32) : C mX8_height (d + 2) 0 0 [.ref 33, .int r] (hp A B) (fun r' h' => h' = hp (s8_height A m r).2 B ∧ r' = some (.long (s8_height A m r).1)) := by
  refine C.of [some (.ref 33), some (.int r)] omX8_height rfl rfl rfl ?_
  by_cases h1 : 0 ≤ r ∧ r < A 33 6
  · repeat (first | refine V.s omX8_height rfl rfl ?_ | refine V.gf omX8_height rfl rfl rfl rfl ?_ | refine V.brF omX8_height rfl rfl (by decide) ?_ | refine V.brT omX8_height rfl rfl (by decide) (by decide) ?_ | refine V.cVf omX8_height omX8_isKiss rfl rfl (c8_ikY _ h1) rfl rfl rfl rfl rfl rfl ?_)
    rw [hm] at h1
    simp only [s8_height, if_pos h1]
    obtain ⟨i, hi, rfl⟩ := rng (by omega) h1
    simp only [cl_nI (show i < 20 by omega)]
    refine V.cVf omX8_height omX8_heightOf rfl rfl (c8_heightOf _ (show i < 6 by omega) nv_nI) rfl rfl rfl rfl rfl rfl ?_
    refine V.s omX8_height rfl rfl ?_
    exact V.lret omX8_height rfl rfl ⟨rfl, rfl⟩
  · repeat (first | refine V.s omX8_height rfl rfl ?_ | refine V.gf omX8_height rfl rfl rfl rfl ?_ | refine V.brF omX8_height rfl rfl (by decide) ?_ | refine V.brT omX8_height rfl rfl (by decide) (by decide) ?_ | refine V.cVf omX8_height omX8_isKiss rfl rfl (c8_ikN _ h1) rfl rfl rfl rfl rfl rfl ?_ | refine V.cVf omX8_height omX8_none rfl rfl (c8_none _ _ (by decide)) rfl rfl rfl rfl rfl rfl ?_)
    rw [hm] at h1
    exact V.lret omX8_height rfl rfl (by simp only [s8_height, if_neg h1] <;> (refine ⟨?_, ?_⟩ <;> first | rfl | trivial))
def s8_fourth (A : Nat → Nat → Int32) (m : Nat) (r p : Int32) : Int64 × (Nat → Nat → Int32) := if (0 ≤ r ∧ r < nI m) ∧ 0 ≤ p ∧ p < 4 then (sw8 (kz (A 38) (cl r)) (cl p) 0, A) else (0, rmA A 3)
set_option maxHeartbeats 4000000 in
set_option maxRecDepth 100000 in
theorem c8_fourth (d : Nat) {m : Nat} (hm : A 33 6 = nI m) (h6 : m ≤ 6) (r p : Int32) : C mX8_fourth (d + 2) 0 0 [.ref 33, .int r, .int p] (hp A B) (fun r' h' => h' = hp (s8_fourth A m r p).2 B ∧ r' = some (.long (s8_fourth A m r p).1)) := by
  refine C.of [some (.ref 33), some (.int r), some (.int p)] omX8_fourth rfl rfl rfl ?_
  by_cases h1 : 0 ≤ r ∧ r < A 33 6
  · by_cases h2 : 0 ≤ p ∧ p < 4
    · repeat (first | refine V.s omX8_fourth rfl rfl ?_ | refine V.gf omX8_fourth rfl rfl rfl rfl ?_ | refine V.brF omX8_fourth rfl rfl (by decide) ?_ | refine V.brT omX8_fourth rfl rfl (by decide) (by decide) ?_ | refine V.cVf omX8_fourth omX8_isKiss rfl rfl (c8_ikY _ h1) rfl rfl rfl rfl rfl rfl ?_ | refine V.cSf omX8_fourth omX8_isPlace rfl rfl (c8_ipY _ h2 _) rfl rfl rfl rfl ?_)
      rw [hm] at h1
      have hh : (0 ≤ r ∧ r < nI m) ∧ 0 ≤ p ∧ p < 4 := ⟨h1, h2⟩
      simp only [s8_fourth, if_pos hh]
      obtain ⟨i, hi, rfl⟩ := rng (by omega) h1
      obtain ⟨j, hj, rfl⟩ := rng (n := 4) (by decide) h2
      simp only [cl_nI (show i < 20 by omega), cl_nI (show j < 20 by omega)]
      refine V.cVf omX8_fourth omX8_swapped rfl rfl (c8_swapped _ (show i < 6 by omega) hj (show 0 < 4 by decide) nv_nI nv_nI nv_lit) rfl rfl rfl rfl rfl rfl ?_
      refine V.s omX8_fourth rfl rfl ?_
      exact V.lret omX8_fourth rfl rfl ⟨rfl, rfl⟩
    · repeat (first | refine V.s omX8_fourth rfl rfl ?_ | refine V.gf omX8_fourth rfl rfl rfl rfl ?_ | refine V.brF omX8_fourth rfl rfl (by decide) ?_ | refine V.brT omX8_fourth rfl rfl (by decide) (by decide) ?_ | refine V.cVf omX8_fourth omX8_isKiss rfl rfl (c8_ikY _ h1) rfl rfl rfl rfl rfl rfl ?_ | refine V.cSf omX8_fourth omX8_isPlace rfl rfl (c8_ipN _ h2 _) rfl rfl rfl rfl ?_ | refine V.cVf omX8_fourth omX8_none rfl rfl (c8_none _ _ (by decide)) rfl rfl rfl rfl rfl rfl ?_)
      exact V.lret omX8_fourth rfl rfl (by simp only [s8_fourth, if_neg (show ¬ ((0 ≤ r ∧ r < nI m) ∧ 0 ≤ p ∧ p < 4) from fun h => h2 h.2)] <;> (refine ⟨?_, ?_⟩ <;> first | rfl | trivial))
  · repeat (first | refine V.s omX8_fourth rfl rfl ?_ | refine V.gf omX8_fourth rfl rfl rfl rfl ?_ | refine V.brF omX8_fourth rfl rfl (by decide) ?_ | refine V.brT omX8_fourth rfl rfl (by decide) (by decide) ?_ | refine V.cVf omX8_fourth omX8_isKiss rfl rfl (c8_ikN _ h1) rfl rfl rfl rfl rfl rfl ?_ | refine V.cVf omX8_fourth omX8_none rfl rfl (c8_none _ _ (by decide)) rfl rfl rfl rfl rfl rfl ?_)
    rw [hm] at h1
    exact V.lret omX8_fourth rfl rfl (by simp only [s8_fourth, if_neg (show ¬ ((0 ≤ r ∧ r < nI m) ∧ 0 ≤ p ∧ p < 4) from fun h => h1 h.1)] <;> (refine ⟨?_, ?_⟩ <;> first | rfl | trivial))
theorem c8_led (d : Nat) : C mX8_led d 0 0 [.ref 33] (hp A B) (fun r h' => h' = hp A B ∧ r = some (.int (A 33 7))) := by
  refine C.of [some (.ref 33)] omX8_led rfl rfl rfl ?_
  repeat (first | refine V.s omX8_led rfl rfl ?_ | refine V.gf omX8_led rfl rfl rfl rfl ?_)
  exact V.iret omX8_led rfl rfl ⟨rfl, rfl⟩
def s8_tear (A : Nat → Nat → Int32) : Int32 × (Nat → Nat → Int32) := (A 33 28, va_up A 33 (upd (A 33) 28 0))
theorem c8_tear (d : Nat) (hz : A 33 28 = 0 ∨ A 33 28 = 1) : C mX8_tear d 0 0 [.ref 33] (hp A B) (fun r h' => h' = hp (s8_tear A).2 B ∧ r = some (.int (s8_tear A).1)) := by
  refine C.of [some (.ref 33), none] omX8_tear rfl rfl rfl ?_
  repeat (first | refine V.s omX8_tear rfl rfl ?_ | refine V.gf omX8_tear rfl rfl rfl rfl ?_)
  unfold s8_tear
  rcases hz with hz | hz
  · rw [hz]
    refine V.brT omX8_tear rfl rfl rfl (by decide) ?_
    repeat (first | refine V.s omX8_tear rfl rfl ?_ | refine V.gf omX8_tear rfl rfl rfl rfl ?_ | refine V.pfH omX8_tear rfl rfl rfl rfl rfl rfl rfl ?_)
    exact V.iret omX8_tear rfl rfl ⟨rfl, rfl⟩
  · rw [hz]
    refine V.brF omX8_tear rfl rfl (by decide) ?_
    repeat (first | refine V.s omX8_tear rfl rfl ?_ | refine V.gf omX8_tear rfl rfl rfl rfl ?_ | refine V.pfH omX8_tear rfl rfl rfl rfl rfl rfl rfl ?_)
    exact V.iret omX8_tear rfl rfl ⟨rfl, rfl⟩
end MD5
end
section
section MD6
variable {A : Nat → Nat → Int32} {B : Nat → Nat → Int64}
def s8U (F : Nat → Int32) (k p c : Nat) : Nat → Int32 := upd F (16 * k + 4 * p + c) (sw8 (kz F k) p c).toInt32
def s8S (F : Nat → Int32) (k p : Nat) : Nat → Int32 := s8U (s8U (s8U (s8U F k p 0) k p 1) k p 2) k p 3
abbrev fit8 (f : Nat → Int32) (p : Nat) : Prop := fitF (sw8 f p 0) = 1 ∧ fitF (sw8 f p 1) = 1 ∧ fitF (sw8 f p 2) = 1 ∧ fitF (sw8 f p 3) = 1
set_option maxHeartbeats 4000000 in
set_option maxRecDepth 100000 in
theorem swaps_st (d : Nat) {k p c : Nat} (hk : k < 6) (h4 : p < 4) (hc : c < 4) (F : Nat → Int32) {Q : Option Value → hp_T → Prop} (kk : V mX8_swaps (d + 1) 0 0 Q 0 0 36 [some (.ref 33), some (.int (nI k)), some (.int (nI p)), some (.int (nI (c + 1)))] [] (hp (va_up A 38 (s8U F k p c)) B)) : V mX8_swaps (d + 1) 0 0 Q 0 0 36 [some (.ref 33), some (.int (nI k)), some (.int (nI p)), some (.int (nI c))] [] (hp (va_up A 38 F) B) := by
  refine V.s omX8_swaps rfl rfl ?_
  refine V.s omX8_swaps rfl rfl ?_
  refine V.brF omX8_swaps rfl rfl (by rw [nIl_le 4 (by omega) (by decide)]; omega) ?_
  repeat (first | refine V.s omX8_swaps rfl rfl ?_ | refine V.gf omX8_swaps rfl rfl rfl rfl ?_)
  have cs := c8_swapped (A := va_up A 38 F) (B := B) d hk h4 hc (nv_nI (a := k)) (nv_nI (a := p)) (nv_nI (a := c))
  rw [va_up_self] at cs
  refine V.cVf omX8_swaps omX8_swapped rfl rfl cs rfl rfl rfl rfl rfl rfl ?_
  refine V.s omX8_swaps rfl rfl ?_
  refine V.iasH omX8_swaps rfl rfl (ixN (nv_add (nv_add (nv_mul nv_lit nv_nI) (nv_mul nv_lit nv_nI)) nv_nI) (by omega) (by decide)) ?_
  refine V.s omX8_swaps rfl rfl ?_
  refine V.s omX8_swaps rfl rfl ?_
  rw [nI_1, va_up_self, bx_uu]
  exact kk
set_option maxHeartbeats 4000000 in
set_option maxRecDepth 100000 in
theorem swaps_ck (d : Nat) {k p c : Nat} (hk : k < 6) (h4 : p < 4) (hc : c < 4) {Q : Option Value → hp_T → Prop} (kk : fitF (sw8 (kz (A 38) k) p c) = 1 → V mX8_swaps (d + 1) 0 0 Q 0 0 2 [some (.ref 33), some (.int (nI k)), some (.int (nI p)), some (.int (nI (c + 1)))] [] (hp A B)) (kf : fitF (sw8 (kz (A 38) k) p c) = 0 → Q (some (.int 0)) (hp A B)) : V mX8_swaps (d + 1) 0 0 Q 0 0 2 [some (.ref 33), some (.int (nI k)), some (.int (nI p)), some (.int (nI c))] [] (hp A B) := by
  have cf : ∀ v, C mX8_isIn d 0 0 [.long v, .long (-1000000000), .long 1000000000] (hp A B) (fun r h' => h' = hp A B ∧ r = some (.int (fitF v))) := fun v => c8_isIn _ v _ _ _
  refine V.s omX8_swaps rfl rfl ?_
  refine V.s omX8_swaps rfl rfl ?_
  refine V.brF omX8_swaps rfl rfl (by rw [nIl_le 4 (by omega) (by decide)]; omega) ?_
  repeat (first | refine V.s omX8_swaps rfl rfl ?_ | refine V.gf omX8_swaps rfl rfl rfl rfl ?_)
  refine V.cVf omX8_swaps omX8_swapped rfl rfl (c8_swapped d hk h4 hc (nv_nI (a := k)) (nv_nI (a := p)) (nv_nI (a := c))) rfl rfl rfl rfl rfl rfl ?_
  refine V.s omX8_swaps rfl rfl ?_
  refine V.s omX8_swaps rfl rfl ?_
  refine V.cSf omX8_swaps omX8_isIn rfl rfl (cf _) rfl rfl rfl rfl ?_
  refine V.br omX8_swaps rfl rfl (fun hg => ?_) (fun hg => ?_)
  · refine V.s omX8_swaps rfl rfl ?_
    refine V.s omX8_swaps rfl rfl ?_
    rw [nI_1]
    exact kk (fitF_ne.mp hg)
  · refine V.s omX8_swaps rfl rfl ?_
    exact V.zret omX8_swaps rfl rfl (by decide) (kf hg)
set_option maxHeartbeats 4000000 in
set_option maxRecDepth 100000 in
theorem c8_swaps (d : Nat) {k p : Nat} (hk : k < 6) (h4 : p < 4) {a b : Int32} (ha : NV a k) (hb : NV b p) : C mX8_swaps (d + 1) 0 0 [.ref 33, .int a, .int b] (hp A B) (fun r h' => h' = hp (if fit8 (kz (A 38) k) p then va_up A 38 (s8S (A 38) k p) else A) B ∧ r = some (.int (if fit8 (kz (A 38) k) p then 1 else 0))) := by
  unfold NV at ha hb
  subst ha hb
  refine C.of [some (.ref 33), some (.int (nI k)), some (.int (nI p)), none] omX8_swaps rfl rfl rfl ?_
  have no : ∀ h0 : ¬ fit8 (kz (A 38) k) p, hp A B = hp (if fit8 (kz (A 38) k) p then va_up A 38 (s8S (A 38) k p) else A) B ∧ some (Value.int 0) = some (.int (if fit8 (kz (A 38) k) p then 1 else 0)) := fun h0 => by rw [if_neg h0, if_neg h0]; exact ⟨rfl, rfl⟩
  refine V.s omX8_swaps rfl rfl ?_
  refine V.s omX8_swaps rfl rfl ?_
  refine swaps_ck (c := 0) d hk h4 (by decide) (fun g0 => ?_) (fun g => no (fun h => absurd (h.1.symm.trans g) (by decide)))
  refine swaps_ck (c := 1) d hk h4 (by decide) (fun g1 => ?_) (fun g => no (fun h => absurd (h.2.1.symm.trans g) (by decide)))
  refine swaps_ck (c := 2) d hk h4 (by decide) (fun g2 => ?_) (fun g => no (fun h => absurd (h.2.2.1.symm.trans g) (by decide)))
  refine swaps_ck (c := 3) d hk h4 (by decide) (fun g3 => ?_) (fun g => no (fun h => absurd (h.2.2.2.symm.trans g) (by decide)))
  have hf : fit8 (kz (A 38) k) p := ⟨g0, g1, g2, g3⟩
  rw [if_pos hf, if_pos hf]
  refine V.s omX8_swaps rfl rfl ?_
  refine V.s omX8_swaps rfl rfl ?_
  refine V.brT omX8_swaps rfl rfl (by decide) (by decide) ?_
  refine V.s omX8_swaps rfl rfl ?_
  refine V.s omX8_swaps rfl rfl ?_
  have e := va_self A 38
  rw [show hp A B = hp (va_up A 38 (A 38)) B by rw [e]]
  refine swaps_st (c := 0) d hk h4 (by decide) (A 38) ?_
  refine swaps_st (c := 1) d hk h4 (by decide) _ ?_
  refine swaps_st (c := 2) d hk h4 (by decide) _ ?_
  refine swaps_st (c := 3) d hk h4 (by decide) _ ?_
  refine V.s omX8_swaps rfl rfl ?_
  refine V.s omX8_swaps rfl rfl ?_
  refine V.brT omX8_swaps rfl rfl (by decide) (by decide) ?_
  refine V.s omX8_swaps rfl rfl ?_
  exact V.zret omX8_swaps rfl rfl (by decide) ⟨rfl, rfl⟩
def s8_swap (A : Nat → Nat → Int32) (m : Nat) (r p : Int32) : Int32 × (Nat → Nat → Int32) := if (0 ≤ r ∧ r < nI m) ∧ 0 ≤ p ∧ p < 4 then (if fit8 (kz (A 38) (cl r)) (cl p) then (1, va_up A 38 (s8S (A 38) (cl r) (cl p))) else (-8, rmA A 8)) else (-3, rmA A 3)
set_option maxHeartbeats 4000000 in
set_option maxRecDepth 100000 in
theorem c8_swap (d : Nat) {m : Nat} (hm : A 33 6 = nI m) (h6 : m ≤ 6) (r p : Int32) : C mX8_swap (d + 2) 0 0 [.ref 33, .int r, .int p] (hp A B) (fun r' h' => h' = hp (s8_swap A m r p).2 B ∧ r' = some (.int (s8_swap A m r p).1)) := by
  refine C.of [some (.ref 33), some (.int r), some (.int p)] omX8_swap rfl rfl rfl ?_
  by_cases h1 : 0 ≤ r ∧ r < A 33 6
  · by_cases h2 : 0 ≤ p ∧ p < 4
    · repeat (first | refine V.s omX8_swap rfl rfl ?_ | refine V.gf omX8_swap rfl rfl rfl rfl ?_ | refine V.brF omX8_swap rfl rfl (by decide) ?_ | refine V.brT omX8_swap rfl rfl (by decide) (by decide) ?_ | refine V.cVf omX8_swap omX8_isKiss rfl rfl (c8_ikY _ h1) rfl rfl rfl rfl rfl rfl ?_ | refine V.cSf omX8_swap omX8_isPlace rfl rfl (c8_ipY _ h2 _) rfl rfl rfl rfl ?_)
      rw [hm] at h1
      have hh : (0 ≤ r ∧ r < nI m) ∧ 0 ≤ p ∧ p < 4 := ⟨h1, h2⟩
      simp only [s8_swap, if_pos hh]
      obtain ⟨i, hi, rfl⟩ := rng (by omega) h1
      obtain ⟨j, hj, rfl⟩ := rng (n := 4) (by decide) h2
      simp only [cl_nI (show i < 20 by omega), cl_nI (show j < 20 by omega)]
      have ct := c8_swaps (A := A) (B := B) d (show i < 6 by omega) hj (nv_nI (a := i)) (nv_nI (a := j))
      by_cases h3 : fit8 (kz (A 38) i) j
      · rw [if_pos h3, if_pos h3] at ct
        refine V.cVf omX8_swap omX8_swaps rfl rfl ct rfl rfl rfl rfl rfl rfl ?_
        refine V.brF omX8_swap rfl rfl (by decide) ?_
        repeat (first | refine V.s omX8_swap rfl rfl ?_ | refine V.gf omX8_swap rfl rfl rfl rfl ?_)
        exact V.iret omX8_swap rfl rfl (by rw [if_pos h3]; exact ⟨rfl, rfl⟩)
      · rw [if_neg h3, if_neg h3] at ct
        refine V.cVf omX8_swap omX8_swaps rfl rfl ct rfl rfl rfl rfl rfl rfl ?_
        refine V.brT omX8_swap rfl rfl rfl (by decide) ?_
        repeat (first | refine V.s omX8_swap rfl rfl ?_ | refine V.gf omX8_swap rfl rfl rfl rfl ?_ | refine V.cVf omX8_swap omX8_no rfl rfl (c8_no _ _ (by decide)) rfl rfl rfl rfl rfl rfl ?_)
        exact V.iret omX8_swap rfl rfl (by rw [if_neg h3]; exact ⟨rfl, rfl⟩)
    · repeat (first | refine V.s omX8_swap rfl rfl ?_ | refine V.gf omX8_swap rfl rfl rfl rfl ?_ | refine V.brF omX8_swap rfl rfl (by decide) ?_ | refine V.brT omX8_swap rfl rfl (by decide) (by decide) ?_ | refine V.cVf omX8_swap omX8_isKiss rfl rfl (c8_ikY _ h1) rfl rfl rfl rfl rfl rfl ?_ | refine V.cSf omX8_swap omX8_isPlace rfl rfl (c8_ipN _ h2 _) rfl rfl rfl rfl ?_ | refine V.cVf omX8_swap omX8_no rfl rfl (c8_no _ _ (by decide)) rfl rfl rfl rfl rfl rfl ?_)
      exact V.iret omX8_swap rfl rfl (by simp only [s8_swap, if_neg (show ¬ ((0 ≤ r ∧ r < nI m) ∧ 0 ≤ p ∧ p < 4) from fun h => h2 h.2)] <;> (refine ⟨?_, ?_⟩ <;> first | rfl | trivial))
  · repeat (first | refine V.s omX8_swap rfl rfl ?_ | refine V.gf omX8_swap rfl rfl rfl rfl ?_ | refine V.brF omX8_swap rfl rfl (by decide) ?_ | refine V.brT omX8_swap rfl rfl (by decide) (by decide) ?_ | refine V.cVf omX8_swap omX8_isKiss rfl rfl (c8_ikN _ h1) rfl rfl rfl rfl rfl rfl ?_ | refine V.cVf omX8_swap omX8_no rfl rfl (c8_no _ _ (by decide)) rfl rfl rfl rfl rfl rfl ?_)
    rw [hm] at h1
    exact V.iret omX8_swap rfl rfl (by simp only [s8_swap, if_neg (show ¬ ((0 ≤ r ∧ r < nI m) ∧ 0 ≤ p ∧ p < 4) from fun h => h1 h.1)] <;> (refine ⟨?_, ?_⟩ <;> first | rfl | trivial))
end MD6
end
section
section MD7
variable {A : Nat → Nat → Int32} {B : Nat → Nat → Int64}
theorem inL {w : Int32} (lo hi : Int32) {L H : Int64} (hL : lo.toInt64 = L) (hH : hi.toInt64 = H) : (L ≤ w.toInt64 ∧ w.toInt64 ≤ H) ↔ (lo ≤ w ∧ w ≤ hi) := by
  subst hL hH
  rw [w_le, w_le]
theorem lt_le {w : Int32} (m : Int32) (k : Nat) (hm : m.toInt = k) (M : Int32) (hM : M.toInt = k + 1) : w < M ↔ w ≤ m := by
  rw [Int32.lt_iff_toInt_lt, Int32.le_iff_toInt_le, hm, hM]
  omega
def s8_of (A : Nat → Nat → Int32) (m : Nat) (r p w : Int32) : Int32 × (Nat → Nat → Int32) := if (0 ≤ r ∧ r < nI m) ∧ 0 ≤ p ∧ p < 4 then (if 0 ≤ w ∧ w < 4 then (kz (A 38) (cl r) (4 * cl p + cl w), A) else (0, rmA A 7)) else (0, rmA A 3)
set_option maxHeartbeats 4000000 in
set_option maxRecDepth 100000 in
theorem c8_of (d : Nat) {m : Nat} (hm : A 33 6 = nI m) (h6 : m ≤ 6) (r p w : Int32) : C mX8_of (d + 2) 0 0 [.ref 33, .int r, .int p, .int w] (hp A B) (fun r' h' => h' = hp (s8_of A m r p w).2 B ∧ r' = some (.int (s8_of A m r p w).1)) := by
  refine C.of [some (.ref 33), some (.int r), some (.int p), some (.int w)] omX8_of rfl rfl rfl ?_
  by_cases h1 : 0 ≤ r ∧ r < A 33 6
  · by_cases h2 : 0 ≤ p ∧ p < 4
    · by_cases h3 : 0 ≤ w ∧ w < 4
      · have g3 : (0 : Int64) ≤ w.toInt64 ∧ w.toInt64 ≤ 3 := (inL 0 3 (by decide) (by decide)).mpr ⟨h3.1, (lt_le 3 3 (by decide) 4 (by decide)).mp h3.2⟩
        repeat (first | refine V.s omX8_of rfl rfl ?_ | refine V.gf omX8_of rfl rfl rfl rfl ?_ | refine V.brF omX8_of rfl rfl (by decide) ?_ | refine V.brT omX8_of rfl rfl (by decide) (by decide) ?_ | refine V.cVf omX8_of omX8_isKiss rfl rfl (c8_ikY _ h1) rfl rfl rfl rfl rfl rfl ?_ | refine V.cSf omX8_of omX8_isPlace rfl rfl (c8_ipY _ h2 _) rfl rfl rfl rfl ?_ | refine V.cSf omX8_of omX8_isIn rfl rfl (c8_isInY _ g3 _) rfl rfl rfl rfl ?_)
        rw [hm] at h1
        have hh : (0 ≤ r ∧ r < nI m) ∧ 0 ≤ p ∧ p < 4 := ⟨h1, h2⟩
        simp only [s8_of, if_pos hh, if_pos h3]
        obtain ⟨i, hi, rfl⟩ := rng (by omega) h1
        obtain ⟨j, hj, rfl⟩ := rng (n := 4) (by decide) h2
        obtain ⟨c, hc, rfl⟩ := rng (n := 4) (by decide) h3
        simp only [cl_nI (show i < 20 by omega), cl_nI (show j < 20 by omega), cl_nI (show c < 20 by omega)]
        repeat (first | refine V.s omX8_of rfl rfl ?_ | refine V.gf omX8_of rfl rfl rfl rfl ?_ | refine V.ial omX8_of rfl rfl (ixN (nv_add (nv_add (nv_mul nv_lit nv_nI) (nv_mul nv_lit nv_nI)) nv_nI) (by omega) (by decide)) ?_)
        exact V.iret omX8_of rfl rfl ⟨rfl, by simp only [kz, Nat.add_assoc]⟩
      · have g3 : ¬ ((0 : Int64) ≤ w.toInt64 ∧ w.toInt64 ≤ 3) := fun h => h3 (by
          have h' := (inL 0 3 (by decide) (by decide)).mp h
          exact ⟨h'.1, (lt_le 3 3 (by decide) 4 (by decide)).mpr h'.2⟩)
        repeat (first | refine V.s omX8_of rfl rfl ?_ | refine V.gf omX8_of rfl rfl rfl rfl ?_ | refine V.brF omX8_of rfl rfl (by decide) ?_ | refine V.brT omX8_of rfl rfl (by decide) (by decide) ?_ | refine V.cVf omX8_of omX8_isKiss rfl rfl (c8_ikY _ h1) rfl rfl rfl rfl rfl rfl ?_ | refine V.cSf omX8_of omX8_isPlace rfl rfl (c8_ipY _ h2 _) rfl rfl rfl rfl ?_ | refine V.cSf omX8_of omX8_isIn rfl rfl (c8_isInN _ g3 _) rfl rfl rfl rfl ?_ | refine V.cVf omX8_of omX8_none rfl rfl (c8_none _ _ (by decide)) rfl rfl rfl rfl rfl rfl ?_)
        rw [hm] at h1
        have hh : (0 ≤ r ∧ r < nI m) ∧ 0 ≤ p ∧ p < 4 := ⟨h1, h2⟩
        simp only [s8_of, if_pos hh, if_neg h3]
        exact V.iret omX8_of rfl rfl ⟨rfl, rfl⟩
    · repeat (first | refine V.s omX8_of rfl rfl ?_ | refine V.gf omX8_of rfl rfl rfl rfl ?_ | refine V.brF omX8_of rfl rfl (by decide) ?_ | refine V.brT omX8_of rfl rfl (by decide) (by decide) ?_ | refine V.cVf omX8_of omX8_isKiss rfl rfl (c8_ikY _ h1) rfl rfl rfl rfl rfl rfl ?_ | refine V.cSf omX8_of omX8_isPlace rfl rfl (c8_ipN _ h2 _) rfl rfl rfl rfl ?_ | refine V.cVf omX8_of omX8_none rfl rfl (c8_none _ _ (by decide)) rfl rfl rfl rfl rfl rfl ?_)
      exact V.iret omX8_of rfl rfl (by simp only [s8_of, if_neg (show ¬ ((0 ≤ r ∧ r < nI m) ∧ 0 ≤ p ∧ p < 4) from fun h => h2 h.2)] <;> (refine ⟨?_, ?_⟩ <;> first | rfl | trivial))
  · repeat (first | refine V.s omX8_of rfl rfl ?_ | refine V.gf omX8_of rfl rfl rfl rfl ?_ | refine V.brF omX8_of rfl rfl (by decide) ?_ | refine V.brT omX8_of rfl rfl (by decide) (by decide) ?_ | refine V.cVf omX8_of omX8_isKiss rfl rfl (c8_ikN _ h1) rfl rfl rfl rfl rfl rfl ?_ | refine V.cVf omX8_of omX8_none rfl rfl (c8_none _ _ (by decide)) rfl rfl rfl rfl rfl rfl ?_)
    rw [hm] at h1
    exact V.iret omX8_of rfl rfl (by simp only [s8_of, if_neg (show ¬ ((0 ≤ r ∧ r < nI m) ∧ 0 ≤ p ∧ p < 4) from fun h => h1 h.1)] <;> (refine ⟨?_, ?_⟩ <;> first | rfl | trivial))
def s8_row (A : Nat → Nat → Int32) (r : Int32) : Int32 × (Nat → Nat → Int32) := if A 33 28 = 0 then (0, rmA A 2) else if 0 ≤ r ∧ r < 16 then (A 49 (cl r), A) else (0, rmA A 3)
set_option maxHeartbeats 4000000 in
set_option maxRecDepth 100000 in
theorem c8_row (d : Nat) (r : Int32) : C mX8_row (d + 2) 0 0 [.ref 33, .int r] (hp A B) (fun r' h' => h' = hp (s8_row A r).2 B ∧ r' = some (.int (s8_row A r).1)) := by
  refine C.of [some (.ref 33), some (.int r)] omX8_row rfl rfl rfl ?_
  repeat (first | refine V.s omX8_row rfl rfl ?_ | refine V.gf omX8_row rfl rfl rfl rfl ?_)
  by_cases hz : A 33 28 = 0
  · simp only [s8_row, if_pos hz]
    refine V.brF omX8_row rfl rfl (fun h => h hz) ?_
    repeat (first | refine V.s omX8_row rfl rfl ?_ | refine V.gf omX8_row rfl rfl rfl rfl ?_ | refine V.cVf omX8_row omX8_none rfl rfl (c8_none _ _ (by decide)) rfl rfl rfl rfl rfl rfl ?_)
    exact V.iret omX8_row rfl rfl ⟨rfl, rfl⟩
  · simp only [s8_row, if_neg hz]
    refine V.brT omX8_row rfl rfl hz (fun h => h) ?_
    by_cases h2 : 0 ≤ r ∧ r < 16
    · have g3 : (0 : Int64) ≤ r.toInt64 ∧ r.toInt64 ≤ 15 := (inL 0 15 (by decide) (by decide)).mpr ⟨h2.1, (lt_le 15 15 (by decide) 16 (by decide)).mp h2.2⟩
      simp only [if_pos h2]
      repeat (first | refine V.s omX8_row rfl rfl ?_ | refine V.gf omX8_row rfl rfl rfl rfl ?_ | refine V.brF omX8_row rfl rfl (by decide) ?_ | refine V.brT omX8_row rfl rfl (by decide) (by decide) ?_ | refine V.cSf omX8_row omX8_isIn rfl rfl (c8_isInY _ g3 _) rfl rfl rfl rfl ?_)
      obtain ⟨c, hc, rfl⟩ := rng (n := 16) (by decide) h2
      simp only [cl_nI (show c < 20 by omega)]
      repeat (first | refine V.s omX8_row rfl rfl ?_ | refine V.gf omX8_row rfl rfl rfl rfl ?_ | refine V.ial omX8_row rfl rfl (ixN nv_nI (by omega) (by decide)) ?_)
      exact V.iret omX8_row rfl rfl ⟨rfl, rfl⟩
    · have g3 : ¬ ((0 : Int64) ≤ r.toInt64 ∧ r.toInt64 ≤ 15) := fun h => h2 (by
        have h' := (inL 0 15 (by decide) (by decide)).mp h
        exact ⟨h'.1, (lt_le 15 15 (by decide) 16 (by decide)).mpr h'.2⟩)
      simp only [if_neg h2]
      repeat (first | refine V.s omX8_row rfl rfl ?_ | refine V.gf omX8_row rfl rfl rfl rfl ?_ | refine V.brF omX8_row rfl rfl (by decide) ?_ | refine V.brT omX8_row rfl rfl (by decide) (by decide) ?_ | refine V.cSf omX8_row omX8_isIn rfl rfl (c8_isInN _ g3 _) rfl rfl rfl rfl ?_ | refine V.cVf omX8_row omX8_none rfl rfl (c8_none _ _ (by decide)) rfl rfl rfl rfl rfl rfl ?_)
      exact V.iret omX8_row rfl rfl ⟨rfl, rfl⟩
def s8_status (A : Nat → Nat → Int32) (r : Int32) : Int32 × (Nat → Nat → Int32) := if r ≤ -2 ∧ -8 ≤ r then (A 39 (rfI r), A) else (-7, rmA A 7)
set_option maxHeartbeats 4000000 in
set_option maxRecDepth 100000 in
theorem c8_status (d : Nat) (r : Int32) : C mX8_status (d + 1) 0 0 [.ref 33, .int r] (hp A B) (fun r' h' => h' = hp (s8_status A r).2 B ∧ r' = some (.int (s8_status A r).1)) := by
  refine C.of [some (.ref 33), some (.int r)] omX8_status rfl rfl rfl ?_
  by_cases h2 : r ≤ -2 ∧ -8 ≤ r
  · have g3 : (-8 : Int64) ≤ r.toInt64 ∧ r.toInt64 ≤ -2 := (inL (-8) (-2) (by decide) (by decide)).mpr ⟨h2.2, h2.1⟩
    simp only [s8_status, if_pos h2]
    repeat (first | refine V.s omX8_status rfl rfl ?_ | refine V.gf omX8_status rfl rfl rfl rfl ?_ | refine V.brF omX8_status rfl rfl (by decide) ?_ | refine V.brT omX8_status rfl rfl (by decide) (by decide) ?_ | refine V.cSf omX8_status omX8_isIn rfl rfl (c8_isInY _ g3 _) rfl rfl rfl rfl ?_)
    refine V.ial omX8_status rfl rfl (st_ix h2) ?_
    refine V.s omX8_status rfl rfl ?_
    exact V.iret omX8_status rfl rfl ⟨rfl, rfl⟩
  · have g3 : ¬ ((-8 : Int64) ≤ r.toInt64 ∧ r.toInt64 ≤ -2) := fun h => h2 (by
      have h' := (inL (-8) (-2) (by decide) (by decide)).mp h
      exact ⟨h'.2, h'.1⟩)
    simp only [s8_status, if_neg h2]
    repeat (first | refine V.s omX8_status rfl rfl ?_ | refine V.gf omX8_status rfl rfl rfl rfl ?_ | refine V.brF omX8_status rfl rfl (by decide) ?_ | refine V.brT omX8_status rfl rfl (by decide) (by decide) ?_ | refine V.cSf omX8_status omX8_isIn rfl rfl (c8_isInN _ g3 _) rfl rfl rfl rfl ?_ | refine V.cVf omX8_status omX8_no rfl rfl (c8_no _ _ (by decide)) rfl rfl rfl rfl rfl rfl ?_)
    exact V.iret omX8_status rfl rfl ⟨rfl, rfl⟩
def wd8 (dg : Int32) (k : Nat) : Nat → Nat → (Nat → Int32) → Nat × (Nat → Int32)
  | 0, s, F => (s, F)
  | m + 1, s, F => if fit8 (kz F k) (pdg dg s) then wd8 dg k m (s + 1) (s8S F k (pdg dg s)) else (s, F)
set_option maxHeartbeats 4000000 in
set_option maxRecDepth 100000 in
theorem word8_loop (d : Nat) {i N : Nat} (hi : i < 6) (hN : N ≤ 15) (dg : Int32) (R : Nat × (Nat → Int32)) : ∀ (m s : Nat) (F : Nat → Int32), s + m = N → R = wd8 dg i m s F →
    V mX8_word (d + 2) 0 0 (fun r h' => h' = hp (va_up A 38 R.2) B ∧ r = some (.int (nI R.1))) 0 0 55 [some (.ref 33), some (.int (nI i)), some (.int dg), some (.int (nI N)), some (.int (nI s))] [] (hp (va_up A 38 F) B) := by
  intro m
  induction m with
  | zero =>
    intro s F hs hR
    have : s = N := by omega
    subst this
    refine V.s omX8_word rfl rfl ?_
    refine V.s omX8_word rfl rfl ?_
    refine V.brT omX8_word rfl rfl Int32.le_rfl (fun h => Int32.not_lt.mpr h) ?_
    refine V.s omX8_word rfl rfl ?_
    subst hR
    exact V.iret omX8_word rfl rfl ⟨rfl, rfl⟩
  | succ m ih =>
    intro s F hs hR
    refine V.s omX8_word rfl rfl ?_
    refine V.s omX8_word rfl rfl ?_
    refine V.brF omX8_word rfl rfl (Int32.not_le.mpr (nI_lt (by omega) (by omega))) ?_
    repeat (first | refine V.s omX8_word rfl rfl ?_)
    have ct := c8_swaps (A := va_up A 38 F) (B := B) d hi (show pdg dg s < 4 from Nat.mod_lt _ (by decide)) (nv_nI (a := i)) (pdg_nv dg s)
    rw [va_up_self, bx_uu] at ct
    by_cases h2 : fit8 (kz F i) (pdg dg s)
    · rw [if_pos h2, if_pos h2] at ct
      simp only [wd8, if_pos h2] at hR
      refine V.cVf omX8_word omX8_swaps rfl rfl ct rfl rfl rfl rfl rfl rfl ?_
      refine V.brF omX8_word rfl rfl (by decide) ?_
      refine V.s omX8_word rfl rfl ?_
      refine V.s omX8_word rfl rfl ?_
      rw [nI_1]
      exact ih (s + 1) _ (by omega) hR
    · rw [if_neg h2, if_neg h2] at ct
      simp only [wd8, if_neg h2] at hR
      refine V.cVf omX8_word omX8_swaps rfl rfl ct rfl rfl rfl rfl rfl rfl ?_
      refine V.brT omX8_word rfl rfl rfl (by decide) ?_
      refine V.s omX8_word rfl rfl ?_
      subst hR
      exact V.iret omX8_word rfl rfl ⟨rfl, rfl⟩
def s8_word (A : Nat → Nat → Int32) (m : Nat) (r dg n : Int32) : Int32 × (Nat → Nat → Int32) := if 0 ≤ r ∧ r < nI m then (if n < 0 then (-4, rmA A 4) else if n ≤ 15 ∧ 0 ≤ dg ∧ dg < (1 <<< ((2 * n) &&& 31)) then (nI (wd8 dg (cl r) (cl n) 0 (A 38)).1, va_up A 38 (wd8 dg (cl r) (cl n) 0 (A 38)).2) else (-7, rmA A 7)) else (-3, rmA A 3)
set_option maxHeartbeats 4000000 in
set_option maxRecDepth 100000 in
theorem c8_word (d : Nat) {m : Nat} (hm : A 33 6 = nI m) (h6 : m ≤ 6) (r dg n : Int32) : C mX8_word (d + 2) 0 0 [.ref 33, .int r, .int dg, .int n] (hp A B) (fun r' h' => h' = hp (s8_word A m r dg n).2 B ∧ r' = some (.int (s8_word A m r dg n).1)) := by
  refine C.of [some (.ref 33), some (.int r), some (.int dg), some (.int n), none] omX8_word rfl rfl rfl ?_
  by_cases h1 : 0 ≤ r ∧ r < A 33 6
  · repeat (first | refine V.s omX8_word rfl rfl ?_ | refine V.gf omX8_word rfl rfl rfl rfl ?_ | refine V.brF omX8_word rfl rfl (by decide) ?_ | refine V.brT omX8_word rfl rfl (by decide) (by decide) ?_ | refine V.cVf omX8_word omX8_isKiss rfl rfl (c8_ikY _ h1) rfl rfl rfl rfl rfl rfl ?_)
    rw [hm] at h1
    simp only [s8_word, if_pos h1]
    by_cases hn : n < 0
    · simp only [if_pos hn]
      refine V.brF omX8_word rfl rfl (Int32.not_le.mpr hn) ?_
      repeat (first | refine V.s omX8_word rfl rfl ?_ | refine V.gf omX8_word rfl rfl rfl rfl ?_ | refine V.cVf omX8_word omX8_no rfl rfl (c8_no _ _ (by decide)) rfl rfl rfl rfl rfl rfl ?_)
      exact V.iret omX8_word rfl rfl ⟨rfl, rfl⟩
    simp only [if_neg hn]
    refine V.brT omX8_word rfl rfl (Int32.not_lt.mp hn) (fun _ h => hn h) ?_
    refine V.s omX8_word rfl rfl ?_
    refine V.s omX8_word rfl rfl ?_
    have bad : ¬ (n ≤ 15 ∧ 0 ≤ dg ∧ dg < (1 <<< ((2 * n) &&& 31))) → V mX8_word (d + 2) 0 0 (fun r' h' => h' = hp (if n ≤ 15 ∧ 0 ≤ dg ∧ dg < (1 <<< ((2 * n) &&& 31)) then (nI (wd8 dg (cl r) (cl n) 0 (A 38)).1, va_up A 38 (wd8 dg (cl r) (cl n) 0 (A 38)).2) else (-7, rmA A 7)).2 B ∧ r' = some (.int (if n ≤ 15 ∧ 0 ≤ dg ∧ dg < (1 <<< ((2 * n) &&& 31)) then (nI (wd8 dg (cl r) (cl n) 0 (A 38)).1, va_up A 38 (wd8 dg (cl r) (cl n) 0 (A 38)).2) else (-7, rmA A 7)).1)) 0 0 45 [some (.ref 33), some (.int r), some (.int dg), some (.int n), none] [] (hp A B) := by
      intro hb
      rw [if_neg hb]
      repeat (first | refine V.s omX8_word rfl rfl ?_ | refine V.gf omX8_word rfl rfl rfl rfl ?_ | refine V.cVf omX8_word omX8_no rfl rfl (c8_no _ _ (by decide)) rfl rfl rfl rfl rfl rfl ?_)
      exact V.iret omX8_word rfl rfl ⟨rfl, rfl⟩
    refine V.br omX8_word rfl rfl (fun g1 => bad (fun h => Int32.not_lt.mpr h.1 g1)) (fun g1 => ?_)
    refine V.s omX8_word rfl rfl ?_
    refine V.br omX8_word rfl rfl (fun g2 => bad (fun h => Int32.not_lt.mpr h.2.1 g2)) (fun g2 => ?_)
    repeat (first | refine V.s omX8_word rfl rfl ?_)
    refine V.br omX8_word rfl rfl (fun g3 => ?_) (fun g3 => bad (fun h => Int32.not_lt.mpr g3 h.2.2))
    rw [if_pos ⟨g1, g2, g3⟩]
    refine V.s omX8_word rfl rfl ?_
    refine V.s omX8_word rfl rfl ?_
    obtain ⟨i, hi, rfl⟩ := rng (by omega) h1
    obtain ⟨N, hN, rfl⟩ := rngl (m := 15) (by decide) (Int32.not_lt.mp hn) g1
    simp only [cl_nI (show i < 20 by omega), cl_nI (show N < 20 by omega)]
    have key := word8_loop (A := A) (B := B) d (show i < 6 by omega) hN dg _ N 0 (A 38) (by omega) rfl
    rw [va_self] at key
    exact key
  · repeat (first | refine V.s omX8_word rfl rfl ?_ | refine V.gf omX8_word rfl rfl rfl rfl ?_ | refine V.brF omX8_word rfl rfl (by decide) ?_ | refine V.brT omX8_word rfl rfl (by decide) (by decide) ?_ | refine V.cVf omX8_word omX8_isKiss rfl rfl (c8_ikN _ h1) rfl rfl rfl rfl rfl rfl ?_ | refine V.cVf omX8_word omX8_no rfl rfl (c8_no _ _ (by decide)) rfl rfl rfl rfl rfl rfl ?_)
    rw [hm] at h1
    exact V.iret omX8_word rfl rfl (by simp only [s8_word, if_neg h1] <;> (refine ⟨?_, ?_⟩ <;> first | rfl | trivial))
end MD7
end
section
section MD8
variable {A : Nat → Nat → Int32} {B : Nat → Nat → Int64}
theorem cpy_0 (f g : Nat → Int32) (s d : Nat) : va_cpy f g s d 0 = g := by
  funext k
  unfold va_cpy
  rw [if_neg (by omega)]
theorem cpy_S (f g : Nat → Int32) (s d n : Nat) : upd (va_cpy f g s d n) (d + n) (f (s + n)) = va_cpy f g s d (n + 1) := by
  funext k
  unfold upd va_cpy
  by_cases h : k = d + n
  · subst h
    rw [if_pos rfl, if_pos (by omega), show d + n - d = n by omega]
  · rw [if_neg h]
    by_cases h2 : d ≤ k ∧ k < d + n
    · rw [if_pos h2, if_pos (by omega)]
    · rw [if_neg h2, if_neg (by omega)]
theorem cpy_S0 (f g : Nat → Int32) (d n : Nat) : upd (va_cpy f g 0 d n) (d + n) (f n) = va_cpy f g 0 d (n + 1) := by
  have h := cpy_S f g 0 d n
  rwa [Nat.zero_add] at h
theorem cpy_S1 (f g : Nat → Int32) (s n : Nat) : upd (va_cpy f g s 0 n) n (f (s + n)) = va_cpy f g s 0 (n + 1) := by
  have h := cpy_S f g s 0 n
  rwa [Nat.zero_add] at h
theorem cpy_S2 (f g : Nat → Int32) (n : Nat) : upd (va_cpy f g 0 0 n) n (f n) = va_cpy f g 0 0 (n + 1) := by
  have h := cpy_S f g 0 0 n
  rwa [Nat.zero_add] at h
def k8A (A : Nat → Nat → Int32) (m : Nat) : Nat → Nat → Int32 := va_up (va_up A 38 (va_cpy (A 40) (A 38) 0 (16 * m) 16)) 33 (upd (A 33) 6 (nI (m + 1)))
def s8_keep (A : Nat → Nat → Int32) (m : Nat) : Int32 × (Nat → Nat → Int32) := if tchF (A 40) = 1 then (if m < 6 then (nI m, k8A A m) else (-8, rmA A 8)) else (-7, rmA A 7)
set_option maxHeartbeats 4000000 in
set_option maxRecDepth 100000 in
theorem kisses_ck (d : Nat) {i j : Nat} (hi : i < 4) (hj : j < i) {Q : Option Value → hp_T → Prop} (kk : prd (A 40) (A 40) (4 * i) (4 * j) = -2 → V mX8_kisses (d + 1) 0 0 Q 0 0 9 [some (.ref 33), some (.int (nI i)), some (.int (nI (j + 1)))] [] (hp A B)) (kf : ¬ prd (A 40) (A 40) (4 * i) (4 * j) = -2 → Q (some (.int (-7))) (hp (rmA A 7) B)) : V mX8_kisses (d + 1) 0 0 Q 0 0 9 [some (.ref 33), some (.int (nI i)), some (.int (nI j))] [] (hp A B) := by
  iterate 2 (refine V.s omX8_kisses rfl rfl ?_)
  refine V.brF omX8_kisses rfl rfl (Int32.not_le.mpr (nI_lt hj (by omega))) ?_
  repeat (first | refine V.s omX8_kisses rfl rfl ?_ | refine V.gf omX8_kisses rfl rfl rfl rfl ?_)
  refine V.cSf omX8_kisses omX8_productOf rfl rfl (c8_productOf d (len := 16) (len2 := 16) (i := 4 * i) (j := 4 * j) rfl rfl (nv_mul nv_lit nv_nI) (nv_mul nv_lit nv_nI) (by omega) (by omega) (by decide) (by decide)) rfl rfl rfl rfl ?_
  iterate 2 (refine V.s omX8_kisses rfl rfl ?_)
  refine V.br omX8_kisses rfl rfl (fun hg => ?_) (fun hg => ?_)
  · iterate 2 (refine V.s omX8_kisses rfl rfl ?_)
    rw [nI_1]
    exact kk (lgc_eq.mp hg)
  · repeat (first | refine V.s omX8_kisses rfl rfl ?_ | refine V.gf omX8_kisses rfl rfl rfl rfl ?_ | refine V.cVf omX8_kisses omX8_no rfl rfl (c8_no _ _ (by decide)) rfl rfl rfl rfl rfl rfl ?_)
    exact V.iret omX8_kisses rfl rfl (kf (fun h => hg (lgc_eq.mpr h)))
set_option maxHeartbeats 4000000 in
set_option maxRecDepth 100000 in
theorem kisses_row (d : Nat) {i : Nat} (hi : i < 3) {Q : Option Value → hp_T → Prop} (kk : V mX8_kisses (d + 1) 0 0 Q 0 0 9 [some (.ref 33), some (.int (nI (i + 1))), some (.int 0)] [] (hp A B)) : V mX8_kisses (d + 1) 0 0 Q 0 0 9 [some (.ref 33), some (.int (nI i)), some (.int (nI i))] [] (hp A B) := by
  iterate 2 (refine V.s omX8_kisses rfl rfl ?_)
  refine V.brT omX8_kisses rfl rfl Int32.le_rfl (fun h => Int32.not_lt.mpr h) ?_
  iterate 2 (refine V.s omX8_kisses rfl rfl ?_)
  rw [nI_1]
  iterate 2 (refine V.s omX8_kisses rfl rfl ?_)
  refine V.brF omX8_kisses rfl rfl (by rw [nIl_le 4 (by omega) (by decide)]; omega) ?_
  iterate 2 (refine V.s omX8_kisses rfl rfl ?_)
  exact kk
set_option maxHeartbeats 4000000 in
set_option maxRecDepth 100000 in
theorem kisses_cp (d : Nat) {m : Nat} (hm : m < 6) (hA : A 33 6 = nI m) (F : Nat → Int32) (v2 : Option Value) {Q : Option Value → hp_T → Prop} (kk : V mX8_kisses (d + 1) 0 0 Q 0 0 107 [some (.ref 33), some (.int (nI 16)), v2] [] (hp (va_up A 38 (va_cpy (A 40) F 0 (16 * m) 16)) B)) : ∀ (t s : Nat), s + t = 16 → V mX8_kisses (d + 1) 0 0 Q 0 0 75 [some (.ref 33), some (.int (nI s)), v2] [] (hp (va_up A 38 (va_cpy (A 40) F 0 (16 * m) s)) B) := by
  intro t
  induction t with
  | zero =>
    intro s hs
    have : s = 16 := by omega
    subst this
    iterate 2 (refine V.s omX8_kisses rfl rfl ?_)
    refine V.brT omX8_kisses rfl rfl (by decide) (by decide) ?_
    exact kk
  | succ t ih =>
    intro s hs
    iterate 2 (refine V.s omX8_kisses rfl rfl ?_)
    refine V.brF omX8_kisses rfl rfl (by rw [nIl_le 16 (by omega) (by decide)]; omega) ?_
    repeat (first | refine V.s omX8_kisses rfl rfl ?_ | refine V.gf omX8_kisses rfl rfl rfl rfl ?_)
    refine V.ial omX8_kisses rfl rfl (ixN nv_nI (show s < 16 by omega) (by decide)) ?_
    rw [show va_up A 38 (va_cpy (A 40) F 0 (16 * m) s) 33 6 = nI m from hA]
    refine V.iasH omX8_kisses rfl rfl (ixN (nv_add (nv_mul nv_lit nv_nI) nv_nI) (by omega) (by decide)) ?_
    iterate 2 (refine V.s omX8_kisses rfl rfl ?_)
    rw [nI_1, bx_uu, va_up_self, va_up_ne _ _ (show (40 : Nat) ≠ 38 by decide), cpy_S0]
    exact ih (s + 1) (by omega)
theorem tch_1 {f : Nat → Int32} : tchF f = 1 ↔ (prd f f 4 0 = -2 ∧ prd f f 8 0 = -2 ∧ prd f f 8 4 = -2 ∧ prd f f 12 0 = -2 ∧ prd f f 12 4 = -2 ∧ prd f f 12 8 = -2) := by
  unfold tchF
  split <;> simp_all
set_option maxHeartbeats 4000000 in
set_option maxRecDepth 100000 in
theorem c8_kisses (d : Nat) {m : Nat} (hm : A 33 6 = nI m) (h6 : m ≤ 6) : C mX8_kisses (d + 1) 0 0 [.ref 33] (hp A B) (fun r h' => h' = hp (s8_keep A m).2 B ∧ r = some (.int (s8_keep A m).1)) := by
  refine C.of [some (.ref 33), none, none] omX8_kisses rfl rfl rfl ?_
  have no : ∀ h0 : ¬ tchF (A 40) = 1, hp (rmA A 7) B = hp (s8_keep A m).2 B ∧ some (Value.int (-7)) = some (.int (s8_keep A m).1) := fun h0 => by unfold s8_keep; rw [if_neg h0]; exact ⟨rfl, rfl⟩
  rw [tch_1] at no
  iterate 4 (refine V.s omX8_kisses rfl rfl ?_)
  refine V.brF omX8_kisses rfl rfl (by decide) ?_
  iterate 2 (refine V.s omX8_kisses rfl rfl ?_)
  refine kisses_row (i := 0) d (by decide) ?_
  refine kisses_ck (i := 1) (j := 0) d (by decide) (by decide) (fun g1 => ?_) (fun g => no (fun h => g h.1))
  refine kisses_row (i := 1) d (by decide) ?_
  refine kisses_ck (i := 2) (j := 0) d (by decide) (by decide) (fun g2 => ?_) (fun g => no (fun h => g h.2.1))
  refine kisses_ck (i := 2) (j := 1) d (by decide) (by decide) (fun g3 => ?_) (fun g => no (fun h => g h.2.2.1))
  refine kisses_row (i := 2) d (by decide) ?_
  refine kisses_ck (i := 3) (j := 0) d (by decide) (by decide) (fun g4 => ?_) (fun g => no (fun h => g h.2.2.2.1))
  refine kisses_ck (i := 3) (j := 1) d (by decide) (by decide) (fun g5 => ?_) (fun g => no (fun h => g h.2.2.2.2.1))
  refine kisses_ck (i := 3) (j := 2) d (by decide) (by decide) (fun g6 => ?_) (fun g => no (fun h => g h.2.2.2.2.2))
  have ht : tchF (A 40) = 1 := tch_1.mpr ⟨g1, g2, g3, g4, g5, g6⟩
  unfold s8_keep
  rw [if_pos ht]
  iterate 2 (refine V.s omX8_kisses rfl rfl ?_)
  refine V.brT omX8_kisses rfl rfl (by decide) (by decide) ?_
  iterate 4 (refine V.s omX8_kisses rfl rfl ?_)
  refine V.brT omX8_kisses rfl rfl (by decide) (by decide) ?_
  repeat (first | refine V.s omX8_kisses rfl rfl ?_ | refine V.gf omX8_kisses rfl rfl rfl rfl ?_)
  rw [hm]
  by_cases h3 : m < 6
  · refine V.brT omX8_kisses rfl rfl (by rw [nIl_eq 6 (by omega) (by decide)]; omega) (fun h => h) ?_
    rw [if_pos h3]
    iterate 2 (refine V.s omX8_kisses rfl rfl ?_)
    have key := fun Q v2 kk => kisses_cp (A := A) (B := B) (Q := Q) d h3 hm (A 38) v2 kk 16 0 (by omega)
    rw [cpy_0, va_self] at key
    refine key _ _ ?_
    repeat (first | refine V.s omX8_kisses rfl rfl ?_ | refine V.gf omX8_kisses rfl rfl rfl rfl ?_)
    rw [show va_up A 38 (va_cpy (A 40) (A 38) 0 (16 * m) 16) 33 6 = nI m from hm, nI_1]
    refine V.pfH omX8_kisses rfl rfl rfl rfl rfl rfl rfl ?_
    repeat (first | refine V.s omX8_kisses rfl rfl ?_ | refine V.gf omX8_kisses rfl rfl rfl rfl ?_)
    simp +decide only [va_up_self, va_up_ne, pk_us]
    rw [nI_pred]
    exact V.iret omX8_kisses rfl rfl ⟨rfl, rfl⟩
  · have : m = 6 := by omega
    subst this
    refine V.brF omX8_kisses rfl rfl (by decide) ?_
    rw [if_neg h3]
    repeat (first | refine V.s omX8_kisses rfl rfl ?_ | refine V.gf omX8_kisses rfl rfl rfl rfl ?_ | refine V.cVf omX8_kisses omX8_no rfl rfl (c8_no _ _ (by decide)) rfl rfl rfl rfl rfl rfl ?_)
    exact V.iret omX8_kisses rfl rfl ⟨rfl, rfl⟩
end MD8
end
section
section MD9
variable {A : Nat → Nat → Int32} {B : Nat → Nat → Int64}
def k8Q (A : Nat → Nat → Int32) (B : Nat → Nat → Int64) (m : Nat) (o : Option (Nat → Int32)) (r : Option Value) (h' : hp_T) : Prop := match o with
  | some g => h' = hp (s8_keep (va_up A 40 g) m).2 B ∧ r = some (.int (s8_keep (va_up A 40 g) m).1)
  | none => r = some (.int (-3)) ∧ ∃ g, h' = hp (rmA (va_up A 40 g) 3) B
set_option maxHeartbeats 4000000 in
set_option maxRecDepth 100000 in
theorem kiss_cp (d : Nat) {x p : Nat} (hx : x < 20) (hp4 : p < 4) (R rest : Int32) (F : Nat → Int32) {Q : Option Value → hp_T → Prop} (kk : V mX8_kiss (d + 2) 0 0 Q 0 0 93 [some (.ref 33), some (.int R), some (.int rest), some (.int (nI p)), some (.int (nI x)), some (.int (nI 4))] [] (hp (va_up A 40 (va_cpy (A 34) F (4 * x) (4 * p) 4)) B)) : ∀ (t s : Nat), s + t = 4 → V mX8_kiss (d + 2) 0 0 Q 0 0 58 [some (.ref 33), some (.int R), some (.int rest), some (.int (nI p)), some (.int (nI x)), some (.int (nI s))] [] (hp (va_up A 40 (va_cpy (A 34) F (4 * x) (4 * p) s)) B) := by
  intro t
  induction t with
  | zero =>
    intro s hs
    have : s = 4 := by omega
    subst this
    iterate 2 (refine V.s omX8_kiss rfl rfl ?_)
    refine V.brT omX8_kiss rfl rfl (by decide) (by decide) ?_
    exact kk
  | succ t ih =>
    intro s hs
    iterate 2 (refine V.s omX8_kiss rfl rfl ?_)
    refine V.brF omX8_kiss rfl rfl (by rw [nIl_le 4 (by omega) (by decide)]; omega) ?_
    repeat (first | refine V.s omX8_kiss rfl rfl ?_ | refine V.gf omX8_kiss rfl rfl rfl rfl ?_)
    refine V.ial omX8_kiss rfl rfl (ixN (nv_add (nv_mul nv_lit nv_nI) nv_nI) (show 4 * x + s < 80 by omega) (by decide)) ?_
    refine V.iasH omX8_kiss rfl rfl (ixN (nv_add (nv_mul nv_lit nv_nI) nv_nI) (by omega) (by decide)) ?_
    iterate 2 (refine V.s omX8_kiss rfl rfl ?_)
    rw [nI_1, bx_uu, va_up_self, va_up_ne _ _ (show (34 : Nat) ≠ 40 by decide), cpy_S]
    exact ih (s + 1) (by omega)
set_option maxHeartbeats 4000000 in
set_option maxRecDepth 100000 in
theorem kiss8_loop (d : Nat) {n m : Nat} (hn : A 33 5 = nI n) (h20 : n ≤ 20) (hm : A 33 6 = nI m) (h6 : m ≤ 6) (R : Int32) (o : Option (Nat → Int32)) : ∀ (t p x : Nat) (g : Nat → Int32) (v4 v5 : Option Value), p + t = 4 → x < 2 ^ 31 → o = kwL (A 34) n t p x g →
    V mX8_kiss (d + 2) 0 0 (k8Q A B m o) 0 0 23 [some (.ref 33), some (.int R), some (.int (nI x)), some (.int (nI p)), v4, v5] [] (hp (va_up A 40 g) B) := by
  intro t
  induction t with
  | zero =>
    intro p x g v4 v5 hp4 hx ho
    have : p = 4 := by omega
    subst this
    iterate 2 (refine V.s omX8_kiss rfl rfl ?_)
    refine V.brT omX8_kiss rfl rfl (by decide) (by decide) ?_
    refine V.s omX8_kiss rfl rfl ?_
    refine V.cVf omX8_kiss omX8_kisses rfl rfl (c8_kisses _ (m := m) (by rw [va_up_ne _ _ (show (33 : Nat) ≠ 40 by decide)]; exact hm) h6) rfl rfl rfl rfl rfl rfl ?_
    subst ho
    exact V.iret omX8_kiss rfl rfl ⟨rfl, rfl⟩
  | succ t ih =>
    intro p x g v4 v5 hp4 hx ho
    iterate 2 (refine V.s omX8_kiss rfl rfl ?_)
    refine V.brF omX8_kiss rfl rfl (by rw [nIl_le 4 (by omega) (by decide)]; omega) ?_
    iterate 2 (refine V.s omX8_kiss rfl rfl ?_)
    refine V.irem omX8_kiss rfl (by decide) ?_
    rw [rem20 hx]
    iterate 3 (refine V.s omX8_kiss rfl rfl ?_)
    refine V.idiv omX8_kiss rfl (by decide) ?_
    rw [div20 hx]
    iterate 3 (refine V.s omX8_kiss rfl rfl ?_)
    have hn' : va_up A 40 g 33 5 = nI n := by rw [va_up_ne _ _ (show (33 : Nat) ≠ 40 by decide)]; exact hn
    by_cases h1 : x % 20 < n
    · simp only [kwL, if_pos h1] at ho
      refine V.cVf omX8_kiss omX8_isRound rfl rfl (c8_irY _ (by rw [hn']; exact rng_in h1 (by omega))) rfl rfl rfl rfl rfl rfl ?_
      refine V.brT omX8_kiss rfl rfl (by decide) (by decide) ?_
      iterate 2 (refine V.s omX8_kiss rfl rfl ?_)
      have key := fun Q rest kk => kiss_cp (A := A) (B := B) (Q := Q) d (show x % 20 < 20 by omega) (show p < 4 by omega) R rest g kk 4 0 (by omega)
      rw [cpy_0] at key
      refine key _ _ ?_
      iterate 2 (refine V.s omX8_kiss rfl rfl ?_)
      rw [nI_1]
      exact ih (p + 1) (x / 20) _ _ _ (by omega) (by omega) ho
    · simp only [kwL, if_neg h1] at ho
      refine V.cVf omX8_kiss omX8_isRound rfl rfl (c8_irN _ (by rw [hn']; exact fun h => h1 ((nI_ltI (by omega) (by omega)).mp h.2))) rfl rfl rfl rfl rfl rfl ?_
      refine V.brF omX8_kiss rfl rfl (by decide) ?_
      repeat (first | refine V.s omX8_kiss rfl rfl ?_ | refine V.gf omX8_kiss rfl rfl rfl rfl ?_ | refine V.cVf omX8_kiss omX8_no rfl rfl (c8_no _ _ (by decide)) rfl rfl rfl rfl rfl rfl ?_)
      subst ho
      exact V.iret omX8_kiss rfl rfl ⟨rfl, g, rfl⟩
set_option maxHeartbeats 4000000 in
set_option maxRecDepth 100000 in
theorem c8_kiss (d : Nat) {n m : Nat} (hn : A 33 5 = nI n) (h20 : n ≤ 20) (hm : A 33 6 = nI m) (h6 : m ≤ 6) (R : Int32) : C mX8_kiss (d + 2) 0 0 [.ref 33, .int R] (hp A B) (fun r' h' => k8Q A B m (if 0 ≤ R ∧ R < 160000 then kwL (A 34) n 4 0 (cl R) (A 40) else none) r' h') := by
  refine C.of [some (.ref 33), some (.int R), none, none, none, none] omX8_kiss rfl rfl rfl ?_
  by_cases h1 : 0 ≤ R ∧ R < 160000
  · have g3 : (0 : Int64) ≤ R.toInt64 ∧ R.toInt64 ≤ 159999 := (inL 0 159999 (by decide) (by decide)).mpr ⟨h1.1, (lt_le 159999 159999 (by decide) 160000 (by decide)).mp h1.2⟩
    iterate 4 (refine V.s omX8_kiss rfl rfl ?_)
    refine V.cSf omX8_kiss omX8_isIn rfl rfl (c8_isInY _ g3 _) rfl rfl rfl rfl ?_
    refine V.brT omX8_kiss rfl rfl (by decide) (by decide) ?_
    iterate 4 (refine V.s omX8_kiss rfl rfl ?_)
    simp only [if_pos h1]
    obtain ⟨x, hx, rfl⟩ := rng (n := 160000) (by decide) h1
    have e : cl (nI x) = x := nI_clamp (by omega)
    rw [e]
    have key := kiss8_loop (A := A) (B := B) d hn h20 hm h6 (nI x) _ 4 0 x (A 40) none none rfl (by omega) rfl
    rw [va_self] at key
    exact key
  · have g3 : ¬ ((0 : Int64) ≤ R.toInt64 ∧ R.toInt64 ≤ 159999) := fun h => h1 (by
      have h' := (inL 0 159999 (by decide) (by decide)).mp h
      exact ⟨h'.1, (lt_le 159999 159999 (by decide) 160000 (by decide)).mpr h'.2⟩)
    simp only [if_neg h1]
    iterate 4 (refine V.s omX8_kiss rfl rfl ?_)
    refine V.cSf omX8_kiss omX8_isIn rfl rfl (c8_isInN _ g3 _) rfl rfl rfl rfl ?_
    refine V.brF omX8_kiss rfl rfl (by decide) ?_
    repeat (first | refine V.s omX8_kiss rfl rfl ?_ | refine V.gf omX8_kiss rfl rfl rfl rfl ?_ | refine V.cVf omX8_kiss omX8_no rfl rfl (c8_no _ _ (by decide)) rfl rfl rfl rfl rfl rfl ?_)
    exact V.iret omX8_kiss rfl rfl ⟨rfl, A 40, by rw [va_self]; rfl⟩
set_option maxHeartbeats 4000000 in
set_option maxRecDepth 100000 in
theorem lay_cp (d : Nat) {k : Nat} (hk : k < 6) (F : Nat → Int32) {Q : Option Value → hp_T → Prop} (kk : V mX8_lay (d + 1) 0 0 Q 0 0 51 [some (.ref 33), some (.int (nI k)), some (.int (nI 16))] [] (hp (va_up A 49 (va_cpy (A 38) F (16 * k) 0 16)) B)) : ∀ (t s : Nat), s + t = 16 → V mX8_lay (d + 1) 0 0 Q 0 0 22 [some (.ref 33), some (.int (nI k)), some (.int (nI s))] [] (hp (va_up A 49 (va_cpy (A 38) F (16 * k) 0 s)) B) := by
  intro t
  induction t with
  | zero =>
    intro s hs
    have : s = 16 := by omega
    subst this
    iterate 2 (refine V.s omX8_lay rfl rfl ?_)
    refine V.brT omX8_lay rfl rfl (by decide) (by decide) ?_
    exact kk
  | succ t ih =>
    intro s hs
    iterate 2 (refine V.s omX8_lay rfl rfl ?_)
    refine V.brF omX8_lay rfl rfl (by rw [nIl_le 16 (by omega) (by decide)]; omega) ?_
    repeat (first | refine V.s omX8_lay rfl rfl ?_ | refine V.gf omX8_lay rfl rfl rfl rfl ?_)
    refine V.ial omX8_lay rfl rfl (ixN (nv_add (nv_mul nv_lit nv_nI) nv_nI) (show 16 * k + s < 96 by omega) (by decide)) ?_
    refine V.iasH omX8_lay rfl rfl (ixN nv_nI (by omega) (by decide)) ?_
    iterate 2 (refine V.s omX8_lay rfl rfl ?_)
    rw [nI_1, bx_uu, va_up_self, va_up_ne _ _ (show (38 : Nat) ≠ 49 by decide), cpy_S1]
    exact ih (s + 1) (by omega)
def l8A (A : Nat → Nat → Int32) (k : Nat) : Nat → Nat → Int32 := va_up (va_up A 33 (upd (A 33) 28 1)) 49 (va_cpy (A 38) (A 49) (16 * k) 0 16)
def s8_lay (A : Nat → Nat → Int32) (m : Nat) (r : Int32) : Int32 × (Nat → Nat → Int32) := if 0 ≤ r ∧ r < nI m then (16, l8A A (cl r)) else (-3, rmA A 3)
set_option maxHeartbeats 4000000 in
set_option maxRecDepth 100000 in
theorem c8_lay (d : Nat) {m : Nat} (hm : A 33 6 = nI m) (h6 : m ≤ 6) (r : Int32) : C mX8_lay (d + 1) 0 0 [.ref 33, .int r] (hp A B) (fun r' h' => h' = hp (s8_lay A m r).2 B ∧ r' = some (.int (s8_lay A m r).1)) := by
  refine C.of [some (.ref 33), some (.int r), none] omX8_lay rfl rfl rfl ?_
  by_cases h1 : 0 ≤ r ∧ r < A 33 6
  · iterate 2 (refine V.s omX8_lay rfl rfl ?_)
    refine V.cVf omX8_lay omX8_isKiss rfl rfl (c8_ikY _ h1) rfl rfl rfl rfl rfl rfl ?_
    refine V.brT omX8_lay rfl rfl (by decide) (by decide) ?_
    rw [hm] at h1
    simp only [s8_lay, if_pos h1]
    obtain ⟨i, hi, rfl⟩ := rng (by omega) h1
    simp only [cl_nI (show i < 20 by omega)]
    iterate 2 (refine V.s omX8_lay rfl rfl ?_)
    refine V.pfH omX8_lay rfl rfl rfl rfl rfl rfl rfl ?_
    iterate 2 (refine V.s omX8_lay rfl rfl ?_)
    have key := fun Q kk => lay_cp (A := va_up A 33 (upd (A 33) 28 1)) (B := B) (Q := Q) d (show i < 6 by omega) (A 49) kk 16 0 (by omega)
    rw [cpy_0, show va_up (va_up A 33 (upd (A 33) 28 1)) 49 (A 49) = va_up A 33 (upd (A 33) 28 1) from va_self (va_up A 33 (upd (A 33) 28 1)) 49] at key
    refine key _ ?_
    refine V.s omX8_lay rfl rfl ?_
    exact V.iret omX8_lay rfl rfl ⟨rfl, rfl⟩
  · iterate 2 (refine V.s omX8_lay rfl rfl ?_)
    refine V.cVf omX8_lay omX8_isKiss rfl rfl (c8_ikN _ h1) rfl rfl rfl rfl rfl rfl ?_
    refine V.brF omX8_lay rfl rfl (by decide) ?_
    repeat (first | refine V.s omX8_lay rfl rfl ?_ | refine V.gf omX8_lay rfl rfl rfl rfl ?_ | refine V.cVf omX8_lay omX8_no rfl rfl (c8_no _ _ (by decide)) rfl rfl rfl rfl rfl rfl ?_)
    rw [hm] at h1
    exact V.iret omX8_lay rfl rfl (by simp only [s8_lay, if_neg h1] <;> (refine ⟨?_, ?_⟩ <;> first | rfl | trivial))
set_option maxHeartbeats 4000000 in
set_option maxRecDepth 100000 in
theorem copy_c1 (d : Nat) {i n : Nat} (hi : i + n ≤ 16) (j : Int32) (F : Nat → Int32) {Q : Option Value → hp_T → Prop} (kk : V mX8_copy (d + 1) 0 0 Q 0 0 95 [some (.ref 33), some (.int (nI i)), some (.int j), some (.int (nI n)), some (.int (nI n))] [] (hp (va_up A 50 (va_cpy (A 49) F i 0 n)) B)) : ∀ (t s : Nat), s + t = n → V mX8_copy (d + 1) 0 0 Q 0 0 67 [some (.ref 33), some (.int (nI i)), some (.int j), some (.int (nI n)), some (.int (nI s))] [] (hp (va_up A 50 (va_cpy (A 49) F i 0 s)) B) := by
  intro t
  induction t with
  | zero =>
    intro s hs
    have : s = n := by omega
    subst this
    iterate 2 (refine V.s omX8_copy rfl rfl ?_)
    refine V.brT omX8_copy rfl rfl Int32.le_rfl (fun h => Int32.not_lt.mpr h) ?_
    exact kk
  | succ t ih =>
    intro s hs
    iterate 2 (refine V.s omX8_copy rfl rfl ?_)
    refine V.brF omX8_copy rfl rfl (Int32.not_le.mpr (nI_lt (by omega) (by omega))) ?_
    repeat (first | refine V.s omX8_copy rfl rfl ?_ | refine V.gf omX8_copy rfl rfl rfl rfl ?_)
    refine V.ial omX8_copy rfl rfl (ixN (nv_add nv_nI nv_nI) (show i + s < 16 by omega) (by decide)) ?_
    refine V.iasH omX8_copy rfl rfl (ixN nv_nI (by omega) (by decide)) ?_
    iterate 2 (refine V.s omX8_copy rfl rfl ?_)
    rw [nI_1, bx_uu, va_up_self, va_up_ne _ _ (show (49 : Nat) ≠ 50 by decide), cpy_S1]
    exact ih (s + 1) (by omega)
set_option maxHeartbeats 4000000 in
set_option maxRecDepth 100000 in
theorem copy_c2 (d : Nat) {j n : Nat} (hj : j + n ≤ 16) (i : Int32) (F : Nat → Int32) {Q : Option Value → hp_T → Prop} (kk : V mX8_copy (d + 1) 0 0 Q 0 0 126 [some (.ref 33), some (.int i), some (.int (nI j)), some (.int (nI n)), some (.int (nI n))] [] (hp (va_up A 49 (va_cpy (A 50) F 0 j n)) B)) : ∀ (t s : Nat), s + t = n → V mX8_copy (d + 1) 0 0 Q 0 0 98 [some (.ref 33), some (.int i), some (.int (nI j)), some (.int (nI n)), some (.int (nI s))] [] (hp (va_up A 49 (va_cpy (A 50) F 0 j s)) B) := by
  intro t
  induction t with
  | zero =>
    intro s hs
    have : s = n := by omega
    subst this
    iterate 2 (refine V.s omX8_copy rfl rfl ?_)
    refine V.brT omX8_copy rfl rfl Int32.le_rfl (fun h => Int32.not_lt.mpr h) ?_
    exact kk
  | succ t ih =>
    intro s hs
    iterate 2 (refine V.s omX8_copy rfl rfl ?_)
    refine V.brF omX8_copy rfl rfl (Int32.not_le.mpr (nI_lt (by omega) (by omega))) ?_
    repeat (first | refine V.s omX8_copy rfl rfl ?_ | refine V.gf omX8_copy rfl rfl rfl rfl ?_)
    refine V.ial omX8_copy rfl rfl (ixN nv_nI (show s < 16 by omega) (by decide)) ?_
    refine V.iasH omX8_copy rfl rfl (ixN (nv_add nv_nI nv_nI) (show j + s < 16 by omega) (by decide)) ?_
    iterate 2 (refine V.s omX8_copy rfl rfl ?_)
    rw [nI_1, bx_uu, va_up_self, va_up_ne _ _ (show (50 : Nat) ≠ 49 by decide), cpy_S0]
    exact ih (s + 1) (by omega)
def mv8 (A : Nat → Nat → Int32) (i n : Nat) : Nat → Int32 := va_cpy (A 49) (A 50) i 0 n
def c8A (A : Nat → Nat → Int32) (i j n : Nat) : Nat → Nat → Int32 := va_up (va_up A 50 (mv8 A i n)) 49 (va_cpy (mv8 A i n) (A 49) 0 j n)
def s8_copy (A : Nat → Nat → Int32) (i j n : Int32) : Int32 × (Nat → Nat → Int32) := if A 33 28 = 0 then (-2, rmA A 2) else if n < 0 then (-4, rmA A 4) else if 0 ≤ i ∧ 0 ≤ j ∧ i.toInt64 + n.toInt64 ≤ 16 ∧ j.toInt64 + n.toInt64 ≤ 16 then (n, c8A A (cl i) (cl j) (cl n)) else (-6, rmA A 6)
set_option maxHeartbeats 4000000 in
set_option maxRecDepth 100000 in
theorem c8_copy (d : Nat) (i j n : Int32) : C mX8_copy (d + 1) 0 0 [.ref 33, .int i, .int j, .int n] (hp A B) (fun r' h' => h' = hp (s8_copy A i j n).2 B ∧ r' = some (.int (s8_copy A i j n).1)) := by
  refine C.of [some (.ref 33), some (.int i), some (.int j), some (.int n), none] omX8_copy rfl rfl rfl ?_
  repeat (first | refine V.s omX8_copy rfl rfl ?_ | refine V.gf omX8_copy rfl rfl rfl rfl ?_)
  by_cases hz : A 33 28 = 0
  · simp only [s8_copy, if_pos hz]
    refine V.brF omX8_copy rfl rfl (fun h => h hz) ?_
    repeat (first | refine V.s omX8_copy rfl rfl ?_ | refine V.gf omX8_copy rfl rfl rfl rfl ?_ | refine V.cVf omX8_copy omX8_no rfl rfl (c8_no _ _ (by decide)) rfl rfl rfl rfl rfl rfl ?_)
    exact V.iret omX8_copy rfl rfl ⟨rfl, rfl⟩
  simp only [s8_copy, if_neg hz]
  refine V.brT omX8_copy rfl rfl hz (fun h => h) ?_
  refine V.s omX8_copy rfl rfl ?_
  by_cases hn : n < 0
  · simp only [if_pos hn]
    refine V.brF omX8_copy rfl rfl (Int32.not_le.mpr hn) ?_
    repeat (first | refine V.s omX8_copy rfl rfl ?_ | refine V.gf omX8_copy rfl rfl rfl rfl ?_ | refine V.cVf omX8_copy omX8_no rfl rfl (c8_no _ _ (by decide)) rfl rfl rfl rfl rfl rfl ?_)
    exact V.iret omX8_copy rfl rfl ⟨rfl, rfl⟩
  simp only [if_neg hn]
  refine V.brT omX8_copy rfl rfl (Int32.not_lt.mp hn) (fun _ h => hn h) ?_
  refine V.s omX8_copy rfl rfl ?_
  have bad : ¬ (0 ≤ i ∧ 0 ≤ j ∧ i.toInt64 + n.toInt64 ≤ 16 ∧ j.toInt64 + n.toInt64 ≤ 16) → V mX8_copy (d + 1) 0 0 (fun r' h' => h' = hp (if 0 ≤ i ∧ 0 ≤ j ∧ i.toInt64 + n.toInt64 ≤ 16 ∧ j.toInt64 + n.toInt64 ≤ 16 then (n, c8A A (cl i) (cl j) (cl n)) else (-6, rmA A 6)).2 B ∧ r' = some (.int (if 0 ≤ i ∧ 0 ≤ j ∧ i.toInt64 + n.toInt64 ≤ 16 ∧ j.toInt64 + n.toInt64 ≤ 16 then (n, c8A A (cl i) (cl j) (cl n)) else (-6, rmA A 6)).1)) 0 0 57 [some (.ref 33), some (.int i), some (.int j), some (.int n), none] [] (hp A B) := by
    intro hb
    rw [if_neg hb]
    repeat (first | refine V.s omX8_copy rfl rfl ?_ | refine V.gf omX8_copy rfl rfl rfl rfl ?_ | refine V.cVf omX8_copy omX8_no rfl rfl (c8_no _ _ (by decide)) rfl rfl rfl rfl rfl rfl ?_)
    exact V.iret omX8_copy rfl rfl ⟨rfl, rfl⟩
  refine V.br omX8_copy rfl rfl (fun g => bad (fun h => Int32.not_lt.mpr h.1 g)) (fun g1 => ?_)
  refine V.s omX8_copy rfl rfl ?_
  refine V.br omX8_copy rfl rfl (fun g => bad (fun h => Int32.not_lt.mpr h.2.1 g)) (fun g2 => ?_)
  repeat (first | refine V.s omX8_copy rfl rfl ?_ | refine V.gf omX8_copy rfl rfl rfl rfl ?_)
  refine V.br omX8_copy rfl rfl (fun g => bad (fun h => Int64.not_lt.mpr h.2.2.1 (lgc_gt.mp g))) (fun g3 => ?_)
  repeat (first | refine V.s omX8_copy rfl rfl ?_ | refine V.gf omX8_copy rfl rfl rfl rfl ?_)
  refine V.br omX8_copy rfl rfl (fun g4 => ?_) (fun g => bad (fun h => Int64.not_lt.mpr h.2.2.2 (lgc_gt.mp g)))
  rw [lgc_le] at g3 g4
  rw [if_pos ⟨g1, g2, g3, g4⟩]
  obtain ⟨a, ha, rfl⟩ := rngl (m := 2147483647) (M := 2147483647) (by decide) g1 (by rw [Int32.le_iff_toInt_le]; exact Int32.toInt_le i)
  obtain ⟨b, hb, rfl⟩ := rngl (m := 2147483647) (M := 2147483647) (by decide) g2 (by rw [Int32.le_iff_toInt_le]; exact Int32.toInt_le j)
  obtain ⟨c, hc, rfl⟩ := rngl (m := 2147483647) (M := 2147483647) (by decide) (Int32.not_lt.mp hn) (by rw [Int32.le_iff_toInt_le]; exact Int32.toInt_le n)
  rw [cp_le (by omega) (by omega)] at g3 g4
  simp only [cl_nI (show a < 20 by omega), cl_nI (show b < 20 by omega), cl_nI (show c < 20 by omega)]
  iterate 2 (refine V.s omX8_copy rfl rfl ?_)
  have k1 := fun Q kk => copy_c1 (A := A) (B := B) (Q := Q) d g3 (nI b) (A 50) kk c 0 (by omega)
  rw [cpy_0, va_self] at k1
  refine k1 _ ?_
  iterate 2 (refine V.s omX8_copy rfl rfl ?_)
  have k2 := fun Q kk => copy_c2 (A := va_up A 50 (mv8 A a c)) (B := B) (Q := Q) d g4 (nI a) (A 49) kk c 0 (by omega)
  rw [cpy_0, show va_up (va_up A 50 (mv8 A a c)) 49 (A 49) = va_up A 50 (mv8 A a c) from va_self (va_up A 50 (mv8 A a c)) 49] at k2
  refine k2 _ ?_
  refine V.s omX8_copy rfl rfl ?_
  exact V.iret omX8_copy rfl rfl ⟨rfl, rfl⟩
end MD9
end
section
section MDA
variable {A : Nat → Nat → Int32} {B : Nat → Nat → Int64}
set_option maxHeartbeats 4000000 in
set_option maxRecDepth 100000 in
theorem give_ck (d : Nat) {p : Nat} (hp4 : p < 4) {Q : Option Value → hp_T → Prop} (kk : law4 (A 49) p → V mX8_give (d + 2) 0 0 Q 0 0 16 [some (.ref 33), some (.int (nI (p + 1)))] [] (hp A B)) (kf : ¬ law4 (A 49) p → Q (some (.int (-7))) (hp (rmA A 7) B)) : V mX8_give (d + 2) 0 0 Q 0 0 16 [some (.ref 33), some (.int (nI p))] [] (hp A B) := by
  iterate 2 (refine V.s omX8_give rfl rfl ?_)
  refine V.brF omX8_give rfl rfl (by rw [nIl_le 4 (by omega) (by decide)]; omega) ?_
  repeat (first | refine V.s omX8_give rfl rfl ?_ | refine V.gf omX8_give rfl rfl rfl rfl ?_ | refine V.ial omX8_give rfl rfl (ixN (nv_mul nv_lit nv_nI) (by omega) (by decide)) ?_ | refine V.ial omX8_give rfl rfl (ixN (nv_add (nv_mul nv_lit nv_nI) nv_lit) (by omega) (by decide)) ?_)
  refine V.cSf omX8_give omX8_isLawful rfl rfl (c8_isLawful d _ _ _ _ _) rfl rfl rfl rfl ?_
  refine V.br omX8_give rfl rfl (fun hg => ?_) (fun hg => ?_)
  · iterate 2 (refine V.s omX8_give rfl rfl ?_)
    rw [nI_1]
    exact kk (klF_ne.mp hg)
  · repeat (first | refine V.s omX8_give rfl rfl ?_ | refine V.gf omX8_give rfl rfl rfl rfl ?_ | refine V.cVf omX8_give omX8_no rfl rfl (c8_no _ _ (by decide)) rfl rfl rfl rfl rfl rfl ?_)
    exact V.iret omX8_give rfl rfl (kf (klF_eq0.mp hg))
set_option maxHeartbeats 4000000 in
set_option maxRecDepth 100000 in
theorem give_cp (d : Nat) (F : Nat → Int32) {Q : Option Value → hp_T → Prop} (kk : V mX8_give (d + 2) 0 0 Q 0 0 108 [some (.ref 33), some (.int (nI 16))] [] (hp (va_up A 40 (va_cpy (A 49) F 0 0 16)) B)) : ∀ (t s : Nat), s + t = 16 → V mX8_give (d + 2) 0 0 Q 0 0 84 [some (.ref 33), some (.int (nI s))] [] (hp (va_up A 40 (va_cpy (A 49) F 0 0 s)) B) := by
  intro t
  induction t with
  | zero =>
    intro s hs
    have : s = 16 := by omega
    subst this
    iterate 2 (refine V.s omX8_give rfl rfl ?_)
    refine V.brT omX8_give rfl rfl (by decide) (by decide) ?_
    exact kk
  | succ t ih =>
    intro s hs
    iterate 2 (refine V.s omX8_give rfl rfl ?_)
    refine V.brF omX8_give rfl rfl (by rw [nIl_le 16 (by omega) (by decide)]; omega) ?_
    repeat (first | refine V.s omX8_give rfl rfl ?_ | refine V.gf omX8_give rfl rfl rfl rfl ?_)
    refine V.ial omX8_give rfl rfl (ixN nv_nI (show s < 16 by omega) (by decide)) ?_
    refine V.iasH omX8_give rfl rfl (ixN nv_nI (by omega) (by decide)) ?_
    iterate 2 (refine V.s omX8_give rfl rfl ?_)
    rw [nI_1, bx_uu, va_up_self, va_up_ne _ _ (show (49 : Nat) ≠ 40 by decide), cpy_S2]
    exact ih (s + 1) (by omega)
theorem laws_1 {f : Nat → Int32} : lawsF f = 1 ↔ (law4 f 0 ∧ law4 f 1 ∧ law4 f 2 ∧ law4 f 3) := by
  unfold lawsF
  by_cases h : law4 f 0 ∧ law4 f 1 ∧ law4 f 2 ∧ law4 f 3
  · rw [if_pos h]; exact ⟨fun _ => h, fun _ => rfl⟩
  · rw [if_neg h]; exact ⟨fun g => absurd g (by decide), fun g => absurd g h⟩
def s8_give (A : Nat → Nat → Int32) (m : Nat) : Int32 × (Nat → Nat → Int32) := if A 33 28 = 0 then (-2, rmA A 2) else if lawsF (A 49) = 1 then s8_keep (va_up A 40 (va_cpy (A 49) (A 40) 0 0 16)) m else (-7, rmA A 7)
set_option maxHeartbeats 4000000 in
set_option maxRecDepth 100000 in
theorem c8_give (d : Nat) {m : Nat} (hm : A 33 6 = nI m) (h6 : m ≤ 6) : C mX8_give (d + 2) 0 0 [.ref 33] (hp A B) (fun r' h' => h' = hp (s8_give A m).2 B ∧ r' = some (.int (s8_give A m).1)) := by
  refine C.of [some (.ref 33), none] omX8_give rfl rfl rfl ?_
  repeat (first | refine V.s omX8_give rfl rfl ?_ | refine V.gf omX8_give rfl rfl rfl rfl ?_)
  by_cases hz : A 33 28 = 0
  · simp only [s8_give, if_pos hz]
    refine V.brF omX8_give rfl rfl (fun h => h hz) ?_
    repeat (first | refine V.s omX8_give rfl rfl ?_ | refine V.gf omX8_give rfl rfl rfl rfl ?_ | refine V.cVf omX8_give omX8_no rfl rfl (c8_no _ _ (by decide)) rfl rfl rfl rfl rfl rfl ?_)
    exact V.iret omX8_give rfl rfl ⟨rfl, rfl⟩
  simp only [s8_give, if_neg hz]
  refine V.brT omX8_give rfl rfl hz (fun h => h) ?_
  iterate 2 (refine V.s omX8_give rfl rfl ?_)
  generalize hX : (if lawsF (A 49) = 1 then s8_keep (va_up A 40 (va_cpy (A 49) (A 40) 0 0 16)) m else (-7, rmA A 7)) = X
  have no : ∀ h0 : ¬ lawsF (A 49) = 1, hp (rmA A 7) B = hp X.2 B ∧ some (Value.int (-7)) = some (.int X.1) := fun h0 => by rw [if_neg h0] at hX; subst hX; exact ⟨rfl, rfl⟩
  rw [laws_1] at no
  refine give_ck (p := 0) d (by decide) (fun g0 => ?_) (fun g => no (fun h => g h.1))
  refine give_ck (p := 1) d (by decide) (fun g1 => ?_) (fun g => no (fun h => g h.2.1))
  refine give_ck (p := 2) d (by decide) (fun g2 => ?_) (fun g => no (fun h => g h.2.2.1))
  refine give_ck (p := 3) d (by decide) (fun g3 => ?_) (fun g => no (fun h => g h.2.2.2))
  rw [if_pos (laws_1.mpr ⟨g0, g1, g2, g3⟩)] at hX
  iterate 2 (refine V.s omX8_give rfl rfl ?_)
  refine V.brT omX8_give rfl rfl (by decide) (by decide) ?_
  iterate 2 (refine V.s omX8_give rfl rfl ?_)
  have key := fun Q kk => give_cp (A := A) (B := B) (Q := Q) d (A 40) kk 16 0 (by omega)
  rw [cpy_0, va_self] at key
  refine key _ ?_
  refine V.s omX8_give rfl rfl ?_
  refine V.cVf omX8_give omX8_kisses rfl rfl (c8_kisses _ (m := m) (by rw [va_up_ne _ _ (show (33 : Nat) ≠ 40 by decide)]; exact hm) h6) rfl rfl rfl rfl rfl rfl ?_
  subst hX
  exact V.iret omX8_give rfl rfl ⟨rfl, rfl⟩
def om8 (A : Nat → Nat → Int32) (n : Nat) (p q : Int32) : Nat → Nat → Int32 := va_up (va_up (adA A n 2 (2 * q * q) (2 * p * p) (2 * p * q) 1) 36 (upd (A 36) n p)) 37 (upd (A 37) n q)
def s8_over (A : Nat → Nat → Int32) (n : Nat) (p q : Int32) (v : Bool) : Int32 × (Nat → Nat → Int32) := if v = true then (if n < 20 then (nI n, om8 A n p q) else (-8, rmA A 8)) else (-7, rmA A 7)
theorem mul3 (a b : Int32) : (2 * a.toInt64 * b.toInt64).toInt32 = 2 * a * b := by
  rw [Int64.toInt32_mul, Int64.toInt32_mul, i32_back, i32_back]
  rfl
set_option maxHeartbeats 4000000 in
set_option maxRecDepth 100000 in
theorem c8_over (d : Nat) {n : Nat} (hn : A 33 5 = nI n) (h20 : n ≤ 20) (p q : Int32) (v : Bool) (hv : v = true ↔ ovP p q) : C mX8_over (d + 2) 0 0 [.ref 33, .int p, .int q] (hp A B) (fun r' h' => h' = hp (s8_over A n p q v).2 B ∧ r' = some (.int (s8_over A n p q v).1)) := by
  refine C.of [some (.ref 33), some (.int p), some (.int q), none] omX8_over rfl rfl rfl ?_
  have bad : ¬ ovP p q → V mX8_over (d + 2) 0 0 (fun r' h' => h' = hp (s8_over A n p q v).2 B ∧ r' = some (.int (s8_over A n p q v).1)) 0 0 33 [some (.ref 33), some (.int p), some (.int q), none] [] (hp A B) := by
    intro hb
    have hvf : v = false := by
      cases v with
      | true => exact absurd (hv.mp rfl) hb
      | false => rfl
    subst hvf
    repeat (first | refine V.s omX8_over rfl rfl ?_ | refine V.gf omX8_over rfl rfl rfl rfl ?_ | refine V.cVf omX8_over omX8_no rfl rfl (c8_no _ _ (by decide)) rfl rfl rfl rfl rfl rfl ?_)
    exact V.iret omX8_over rfl rfl ⟨rfl, rfl⟩
  iterate 4 (refine V.s omX8_over rfl rfl ?_)
  by_cases h1 : 0 ≤ p ∧ p ≤ 999
  · refine V.cSf omX8_over omX8_isIn rfl rfl (c8_isInY _ ((inL 0 999 (by decide) (by decide)).mpr h1) _) rfl rfl rfl rfl ?_
    refine V.brF omX8_over rfl rfl (by decide) ?_
    iterate 4 (refine V.s omX8_over rfl rfl ?_)
    by_cases h2 : 1 ≤ q ∧ q ≤ 999
    · refine V.cSf omX8_over omX8_isIn rfl rfl (c8_isInY _ ((inL 1 999 (by decide) (by decide)).mpr h2) _) rfl rfl rfl rfl ?_
      refine V.brF omX8_over rfl rfl (by decide) ?_
      obtain ⟨a1, a2⟩ := h1
      obtain ⟨a3, a4⟩ := h2
      obtain ⟨P, hP, rfl⟩ := rngl (m := 999) (by decide) a1 a2
      obtain ⟨R, hR, rfl⟩ := rngl (m := 999) (by decide) (Int32.le_trans (by decide) a3) a4
      iterate 2 (refine V.s omX8_over rfl rfl ?_)
      refine V.cSf omX8_over omX8_divisor rfl rfl (c8_divisor _ (p := R) (q := P) _ (by omega) (by omega)) rfl rfl rfl rfl ?_
      refine V.s omX8_over rfl rfl ?_
      have e : ovP (nI P) (nI R) ↔ Nat.gcd R P = 1 := by
        unfold ovP cl
        rw [nI_clamp (by omega), nI_clamp (by omega), Nat.gcd_comm]
        exact ⟨fun h => h.2, fun h => ⟨⟨a1, a2, a3, a4⟩, h⟩⟩
      have hgl : Nat.gcd R P < 2 ^ 31 := by
        have : 0 < R := by
          rcases Nat.eq_zero_or_pos R with h | h
          · subst h; exact absurd a3 (by decide)
          · exact h
        have := Nat.le_of_dvd this (Nat.gcd_dvd_left R P)
        omega
      by_cases hg : Nat.gcd R P = 1
      · have hvt := hv.mpr (e.mpr hg)
        subst hvt
        refine V.brT omX8_over rfl rfl (by rw [hg]; rfl) (fun h g => g h) ?_
        repeat (first | refine V.s omX8_over rfl rfl ?_ | refine V.gf omX8_over rfl rfl rfl rfl ?_)
        simp only [s8_over, if_true]
        by_cases h3 : n < 20
        · simp only [if_pos h3]
          refine V.cVf omX8_over omX8_adds rfl rfl (c8_addsN d hn h3 _ _ _ _ _) rfl rfl rfl rfl rfl rfl ?_
          simp only [mul3]
          iterate 2 (refine V.s omX8_over rfl rfl ?_)
          refine V.brF omX8_over rfl rfl (nI_pos (by omega)) ?_
          repeat (first | refine V.s omX8_over rfl rfl ?_ | refine V.gf omX8_over rfl rfl rfl rfl ?_ | refine V.iasH omX8_over rfl rfl (ixN nv_nI (by omega) (by decide)) ?_)
          exact V.iret omX8_over rfl rfl ⟨rfl, rfl⟩
        · simp only [if_neg h3]
          refine V.cVf omX8_over omX8_adds rfl rfl (c8_addsF d (hn.trans (n20 h20 h3)) _ _ _ _ _) rfl rfl rfl rfl rfl rfl ?_
          iterate 2 (refine V.s omX8_over rfl rfl ?_)
          refine V.brT omX8_over rfl rfl (by decide) (by decide) ?_
          refine V.s omX8_over rfl rfl ?_
          exact V.iret omX8_over rfl rfl ⟨rfl, rfl⟩
      · refine V.brF omX8_over rfl rfl (by rw [show (1 : Int32) = nI 1 from rfl, nI_eq hgl (by decide)]; exact hg) ?_
        exact bad (fun h => hg (e.mp h))
    · refine V.cSf omX8_over omX8_isIn rfl rfl (c8_isInN _ (fun h => h2 ((inL 1 999 (by decide) (by decide)).mp h)) _) rfl rfl rfl rfl ?_
      refine V.brT omX8_over rfl rfl (by decide) (by decide) ?_
      exact bad (fun h => h2 h.1.2.2)
  · refine V.cSf omX8_over omX8_isIn rfl rfl (c8_isInN _ (fun h => h1 ((inL 0 999 (by decide) (by decide)).mp h)) _) rfl rfl rfl rfl ?_
    refine V.brT omX8_over rfl rfl (by decide) (by decide) ?_
    exact bad (fun h => h1 ⟨h.1.1, h.1.2.1⟩)
def s8_look (A : Nat → Nat → Int32) (n : Nat) (r w : Int32) : Int32 × (Nat → Nat → Int32) := if 0 ≤ r ∧ r < nI n then (if (w = 5 ∨ w = 6) ∧ ¬ A 35 (cl r) = 2 then (0, rmA A 5) else if 0 ≤ w ∧ w ≤ 6 then ((if w = 0 then A 35 (cl r) else if w = 5 then A 36 (cl r) else if w = 6 then A 37 (cl r) else A 34 (4 * cl r + (cl w - 1))), A) else (0, rmA A 7)) else (0, rmA A 3)
set_option maxHeartbeats 4000000 in
set_option maxRecDepth 100000 in
theorem c8_look (d : Nat) {n : Nat} (hn : A 33 5 = nI n) (h20 : n ≤ 20) (r w : Int32) : C mX8_look (d + 2) 0 0 [.ref 33, .int r, .int w] (hp A B) (fun r' h' => h' = hp (s8_look A n r w).2 B ∧ r' = some (.int (s8_look A n r w).1)) := by
  refine C.of [some (.ref 33), some (.int r), some (.int w)] omX8_look rfl rfl rfl ?_
  by_cases h1 : 0 ≤ r ∧ r < A 33 5
  · iterate 2 (refine V.s omX8_look rfl rfl ?_)
    refine V.cVf omX8_look omX8_isRound rfl rfl (c8_irY _ h1) rfl rfl rfl rfl rfl rfl ?_
    refine V.brT omX8_look rfl rfl (by decide) (by decide) ?_
    refine V.s omX8_look rfl rfl ?_
    rw [hn] at h1
    simp only [s8_look, if_pos h1]
    obtain ⟨i, hi, rfl⟩ := rng (by omega) h1
    simp only [cl_nI (show i < 20 by omega)]
    by_cases h2 : 0 ≤ w ∧ w ≤ 6
    · obtain ⟨c, hc, rfl⟩ := rngl (m := 6) (by decide) h2.1 h2.2
      rcases (show c = 0 ∨ c = 1 ∨ c = 2 ∨ c = 3 ∨ c = 4 ∨ c = 5 ∨ c = 6 by omega) with rfl | rfl | rfl | rfl | rfl | rfl | rfl
      · refine V.tIn (off := 44) (tgt := 60) omX8_look rfl (by decide) (by decide) (by decide) (by decide) ?_
        repeat (first | refine V.s omX8_look rfl rfl ?_ | refine V.gf omX8_look rfl rfl rfl rfl ?_ | refine V.ial omX8_look rfl rfl (ixN nv_nI (by omega) (by decide)) ?_)
        exact V.iret omX8_look rfl rfl (by simp +decide)
      · refine V.tIn (off := 51) (tgt := 67) omX8_look rfl (by decide) (by decide) (by decide) (by decide) ?_
        repeat (first | refine V.s omX8_look rfl rfl ?_ | refine V.gf omX8_look rfl rfl rfl rfl ?_)
        refine V.ial omX8_look rfl rfl (ixN (j := 4 * i) (nv_of (by rw [show (4 : Int32) * nI i = nI (4 * i) from nv_mul nv_lit nv_nI, nI_add]; exact nI_pred _)) (by omega) (by decide)) ?_
        exact V.iret omX8_look rfl rfl (by simp +decide [cl] <;> rfl)
      · refine V.tIn (off := 51) (tgt := 67) omX8_look rfl (by decide) (by decide) (by decide) (by decide) ?_
        repeat (first | refine V.s omX8_look rfl rfl ?_ | refine V.gf omX8_look rfl rfl rfl rfl ?_)
        refine V.ial omX8_look rfl rfl (ixN (j := 4 * i + 1) (nv_of (by rw [show (4 : Int32) * nI i = nI (4 * i) from nv_mul nv_lit nv_nI, nI_add]; exact nI_pred _)) (by omega) (by decide)) ?_
        exact V.iret omX8_look rfl rfl (by simp +decide [cl] <;> rfl)
      · refine V.tIn (off := 51) (tgt := 67) omX8_look rfl (by decide) (by decide) (by decide) (by decide) ?_
        repeat (first | refine V.s omX8_look rfl rfl ?_ | refine V.gf omX8_look rfl rfl rfl rfl ?_)
        refine V.ial omX8_look rfl rfl (ixN (j := 4 * i + 2) (nv_of (by rw [show (4 : Int32) * nI i = nI (4 * i) from nv_mul nv_lit nv_nI, nI_add]; exact nI_pred _)) (by omega) (by decide)) ?_
        exact V.iret omX8_look rfl rfl (by simp +decide [cl] <;> rfl)
      · refine V.tIn (off := 51) (tgt := 67) omX8_look rfl (by decide) (by decide) (by decide) (by decide) ?_
        repeat (first | refine V.s omX8_look rfl rfl ?_ | refine V.gf omX8_look rfl rfl rfl rfl ?_)
        refine V.ial omX8_look rfl rfl (ixN (j := 4 * i + 3) (nv_of (by rw [show (4 : Int32) * nI i = nI (4 * i) from nv_mul nv_lit nv_nI, nI_add]; exact nI_pred _)) (by omega) (by decide)) ?_
        exact V.iret omX8_look rfl rfl (by simp +decide [cl] <;> rfl)
      · refine V.tIn (off := 64) (tgt := 80) omX8_look rfl (by decide) (by decide) (by decide) (by decide) ?_
        repeat (first | refine V.s omX8_look rfl rfl ?_ | refine V.gf omX8_look rfl rfl rfl rfl ?_ | refine V.ial omX8_look rfl rfl (ixN nv_nI (by omega) (by decide)) ?_)
        by_cases h3 : A 35 i = 2
        · refine V.brT omX8_look rfl rfl h3 (fun h g => g h) ?_
          repeat (first | refine V.s omX8_look rfl rfl ?_ | refine V.gf omX8_look rfl rfl rfl rfl ?_ | refine V.brF omX8_look rfl rfl (by decide) ?_ | refine V.brT omX8_look rfl rfl (by decide) (by decide) ?_ | refine V.ial omX8_look rfl rfl (ixN nv_nI (by omega) (by decide)) ?_)
          exact V.iret omX8_look rfl rfl (by simp +decide [h3])
        · refine V.brF omX8_look rfl rfl h3 ?_
          repeat (first | refine V.s omX8_look rfl rfl ?_ | refine V.gf omX8_look rfl rfl rfl rfl ?_ | refine V.cVf omX8_look omX8_none rfl rfl (c8_none _ _ (by decide)) rfl rfl rfl rfl rfl rfl ?_)
          exact V.iret omX8_look rfl rfl (by rw [if_pos ⟨Or.inl rfl, h3⟩]; exact ⟨rfl, rfl⟩)
      · refine V.tIn (off := 64) (tgt := 80) omX8_look rfl (by decide) (by decide) (by decide) (by decide) ?_
        repeat (first | refine V.s omX8_look rfl rfl ?_ | refine V.gf omX8_look rfl rfl rfl rfl ?_ | refine V.ial omX8_look rfl rfl (ixN nv_nI (by omega) (by decide)) ?_)
        by_cases h3 : A 35 i = 2
        · refine V.brT omX8_look rfl rfl h3 (fun h g => g h) ?_
          repeat (first | refine V.s omX8_look rfl rfl ?_ | refine V.gf omX8_look rfl rfl rfl rfl ?_ | refine V.brF omX8_look rfl rfl (by decide) ?_ | refine V.brT omX8_look rfl rfl (by decide) (by decide) ?_ | refine V.ial omX8_look rfl rfl (ixN nv_nI (by omega) (by decide)) ?_)
          exact V.iret omX8_look rfl rfl (by simp +decide [h3])
        · refine V.brF omX8_look rfl rfl h3 ?_
          repeat (first | refine V.s omX8_look rfl rfl ?_ | refine V.gf omX8_look rfl rfl rfl rfl ?_ | refine V.cVf omX8_look omX8_none rfl rfl (c8_none _ _ (by decide)) rfl rfl rfl rfl rfl rfl ?_)
          exact V.iret omX8_look rfl rfl (by rw [if_pos ⟨Or.inr rfl, h3⟩]; exact ⟨rfl, rfl⟩)
    · have n5 : ¬ w = 5 := fun h => h2 (by subst h; decide)
      have n6 : ¬ w = 6 := fun h => h2 (by subst h; decide)
      rw [if_neg (fun h => h.1.elim n5 n6), if_neg h2]
      refine V.tOut (tgt := 118) omX8_look rfl ?_ (by decide) ?_
      · rw [Int32.le_iff_toInt_le, Int32.le_iff_toInt_le] at h2
        have e0 : (0 : Int32).toInt = 0 := by decide
        have e6 : (6 : Int32).toInt = 6 := by decide
        rw [e0, e6] at h2
        omega
      repeat (first | refine V.s omX8_look rfl rfl ?_ | refine V.gf omX8_look rfl rfl rfl rfl ?_ | refine V.cVf omX8_look omX8_none rfl rfl (c8_none _ _ (by decide)) rfl rfl rfl rfl rfl rfl ?_)
      exact V.iret omX8_look rfl rfl ⟨rfl, rfl⟩
  · iterate 2 (refine V.s omX8_look rfl rfl ?_)
    refine V.cVf omX8_look omX8_isRound rfl rfl (c8_irN _ h1) rfl rfl rfl rfl rfl rfl ?_
    refine V.brF omX8_look rfl rfl (by decide) ?_
    repeat (first | refine V.s omX8_look rfl rfl ?_ | refine V.gf omX8_look rfl rfl rfl rfl ?_ | refine V.cVf omX8_look omX8_none rfl rfl (c8_none _ _ (by decide)) rfl rfl rfl rfl rfl rfl ?_)
    rw [hn] at h1
    exact V.iret omX8_look rfl rfl (by simp only [s8_look, if_neg h1] <;> (refine ⟨?_, ?_⟩ <;> first | rfl | trivial))
end MDA
end
section
section MDB
variable {A : Nat → Nat → Int32} {B : Nat → Nat → Int64}
def gix (b : Nat → Int64) (i a : Nat) : Nat := if b a < b i then i else a
def g8 (b : Nat → Int64) : Nat := gix b 3 (gix b 2 (gix b 1 (gix b 0 0)))
def ex8 (b : Nat → Int64) (p : Nat) : Int64 := 2 * (b 0 + b 1 + b 2 + b 3 - b p) - b p
theorem gix_lt {b : Nat → Int64} {i a : Nat} (hi : i < 4) (ha : a < 4) : gix b i a < 4 := by
  unfold gix
  split <;> assumption
theorem g8_lt (b : Nat → Int64) : g8 b < 4 := gix_lt (by decide) (gix_lt (by decide) (gix_lt (by decide) (gix_lt (by decide) (by decide))))
set_option maxHeartbeats 4000000 in
set_option maxRecDepth 100000 in
theorem greatest_st (d : Nat) {i a : Nat} (hi : i < 4) (ha : a < 4) (S : Int64) {Q : Option Value → hp_T → Prop} (kk : V mX8_greatest d 0 0 Q 0 0 7 [some (.ref 33), some (.int (nI (gix (B 41) i a))), some (.long (S + B 41 i)), none, some (.int (nI (i + 1)))] [] (hp A B)) : V mX8_greatest d 0 0 Q 0 0 7 [some (.ref 33), some (.int (nI a)), some (.long S), none, some (.int (nI i))] [] (hp A B) := by
  iterate 2 (refine V.s omX8_greatest rfl rfl ?_)
  refine V.brF omX8_greatest rfl rfl (by rw [nIl_le 4 (by omega) (by decide)]; omega) ?_
  repeat (first | refine V.s omX8_greatest rfl rfl ?_ | refine V.gf omX8_greatest rfl rfl rfl rfl ?_ | refine V.lal omX8_greatest rfl rfl (ixN nv_nI (by omega) (by decide)) ?_)
  unfold gix at kk
  refine V.br omX8_greatest rfl rfl (fun hg => ?_) (fun hg => ?_)
  · rw [lgc_le] at hg
    rw [if_neg (Int64.not_lt.mpr hg)] at kk
    iterate 2 (refine V.s omX8_greatest rfl rfl ?_)
    rw [nI_1]
    exact kk
  · rw [lgc_gt] at hg
    rw [if_pos hg] at kk
    iterate 4 (refine V.s omX8_greatest rfl rfl ?_)
    rw [nI_1]
    exact kk
def gr8 (b : Nat → Int64) : Int32 := if ex8 b (g8 b) < b (g8 b) then nI (g8 b) else -1
set_option maxHeartbeats 4000000 in
set_option maxRecDepth 100000 in
theorem c8_greatest (d : Nat) : C mX8_greatest d 0 0 [.ref 33] (hp A B) (fun r h' => h' = hp A B ∧ r = some (.int (gr8 (B 41)))) := by
  refine C.of [some (.ref 33), none, none, none, none] omX8_greatest rfl rfl rfl ?_
  iterate 6 (refine V.s omX8_greatest rfl rfl ?_)
  refine greatest_st (i := 0) (a := 0) d (by decide) (by decide) _ ?_
  refine greatest_st (i := 1) d (by decide) (gix_lt (by decide) (by decide)) _ ?_
  refine greatest_st (i := 2) d (by decide) (gix_lt (by decide) (gix_lt (by decide) (by decide))) _ ?_
  refine greatest_st (i := 3) d (by decide) (gix_lt (by decide) (gix_lt (by decide) (gix_lt (by decide) (by decide)))) _ ?_
  have hg := g8_lt (B 41)
  rw [show gix (B 41) 3 (gix (B 41) 2 (gix (B 41) 1 (gix (B 41) 0 0))) = g8 (B 41) from rfl]
  generalize he : g8 (B 41) = p at hg ⊢
  iterate 2 (refine V.s omX8_greatest rfl rfl ?_)
  refine V.brT omX8_greatest rfl rfl (by decide) (by decide) ?_
  repeat (first | refine V.s omX8_greatest rfl rfl ?_ | refine V.gf omX8_greatest rfl rfl rfl rfl ?_ | refine V.lal omX8_greatest rfl rfl (ixN nv_nI (by omega) (by decide)) ?_)
  rw [Int64.zero_add]
  unfold gr8 ex8
  rw [he]
  refine V.br omX8_greatest rfl rfl (fun hg => ?_) (fun hg => ?_)
  · rw [lgc_ge] at hg
    refine V.s omX8_greatest rfl rfl ?_
    exact V.iret omX8_greatest rfl rfl ⟨rfl, by rw [if_neg (Int64.not_lt.mpr hg)]⟩
  · rw [lgc_lt] at hg
    iterate 2 (refine V.s omX8_greatest rfl rfl ?_)
    exact V.iret omX8_greatest rfl rfl ⟨rfl, by rw [if_pos hg]⟩
set_option maxHeartbeats 4000000 in
set_option maxRecDepth 100000 in
theorem c8_exchanges (d : Nat) {p : Nat} (hp4 : p < 4) {a : Int32} (ha : NV a p) : C mX8_exchanges d 0 0 [.ref 33, .int a] (hp A B) (fun r h' => h' = hp A (va_up B 41 (vp_updL (B 41) p (ex8 (B 41) p))) ∧ r = none) := by
  unfold NV at ha
  subst ha
  refine C.of [some (.ref 33), some (.int (nI p))] omX8_exchanges rfl rfl rfl ?_
  repeat (first | refine V.s omX8_exchanges rfl rfl ?_ | refine V.gf omX8_exchanges rfl rfl rfl rfl ?_ | refine V.lal omX8_exchanges rfl rfl (ixN nv_nI (by omega) (by decide)) ?_ | refine V.lal omX8_exchanges rfl rfl (ixN nv_lit (by omega) (by decide)) ?_)
  refine V.lasH omX8_exchanges rfl rfl (ixN nv_nI hp4 (by decide)) ?_
  exact V.vret omX8_exchanges rfl rfl ⟨rfl, rfl⟩
def is8 (b : Nat → Int64) : Int32 := if b 0 < 0 ∨ b 1 < 0 ∨ b 2 < 0 ∨ b 3 < 0 then 1 else 0
set_option maxHeartbeats 4000000 in
set_option maxRecDepth 100000 in
theorem c8_isShut (d : Nat) : C mX8_isShut d 0 0 [.ref 33] (hp A B) (fun r h' => h' = hp A B ∧ r = some (.int (is8 (B 41)))) := by
  refine C.of [some (.ref 33), none, none] omX8_isShut rfl rfl rfl ?_
  repeat' (first | refine V.s omX8_isShut rfl rfl ?_ | refine V.gf omX8_isShut rfl rfl rfl rfl ?_ | simp only [Int32.reduceAdd, Int32.reduceMul, Int32.reduceSub] | refine V.brF omX8_isShut rfl rfl (by decide) ?_ | refine V.brT omX8_isShut rfl rfl (by decide) (by decide) ?_ | refine V.lal omX8_isShut rfl rfl (ixN nv_lit (by omega) (by decide)) ?_ | refine V.br omX8_isShut rfl rfl (fun hc => ?_) (fun hc => ?_))
  all_goals refine V.zret omX8_isShut rfl rfl (by decide) ⟨rfl, ?_⟩
  all_goals simp only [lgc_lt, lgc_ge, ← Int64.not_lt] at *
  all_goals simp [is8, *]
def ins8 : Nat → (Nat → Int64) → Int64 → (Nat → Int64)
  | 0, f, v => vp_updL f 0 v
  | a + 1, f, v => if v < f a then ins8 a (vp_updL f (a + 1) (f a)) v else vp_updL f (a + 1) v
set_option maxHeartbeats 4000000 in
set_option maxRecDepth 100000 in
theorem sorts_in (d : Nat) {i : Nat} (hi : i < 4) (F : Nat → Int64) {Q : Option Value → hp_T → Prop} (kk : ∀ x, V mX8_sorts d 0 0 Q 0 0 63 [some (.ref 33), some (.int (nI i)), some (.int x)] [] (hp A (va_up B 43 F))) : ∀ (a : Nat) (f : Nat → Int64), a < 4 → F = ins8 a f (B 41 i) → V mX8_sorts d 0 0 Q 0 0 9 [some (.ref 33), some (.int (nI i)), some (.int (nI a))] [] (hp A (va_up B 43 f)) := by
  intro a
  induction a with
  | zero =>
    intro f ha hF
    refine V.s omX8_sorts rfl rfl ?_
    refine V.brT omX8_sorts rfl rfl (by decide) (by decide) ?_
    repeat (first | refine V.s omX8_sorts rfl rfl ?_ | refine V.gf omX8_sorts rfl rfl rfl rfl ?_ | refine V.lal omX8_sorts rfl rfl (ixN nv_nI (by omega) (by decide)) ?_)
    refine V.lasH omX8_sorts rfl rfl (ixN nv_nI (show 0 < 4 by decide) (by decide)) ?_
    rw [bx_uu, va_up_self, va_up_ne _ _ (show (41 : Nat) ≠ 43 by decide)]
    subst hF
    exact kk _
  | succ a ih =>
    intro f ha hF
    refine V.s omX8_sorts rfl rfl ?_
    refine V.brF omX8_sorts rfl rfl (by rw [Int32.not_le]; exact (show nI 0 < nI (a + 1) from nI_lt (by omega) (by omega))) ?_
    repeat (first | refine V.s omX8_sorts rfl rfl ?_ | refine V.gf omX8_sorts rfl rfl rfl rfl ?_)
    rw [nI_pred]
    repeat (first | refine V.s omX8_sorts rfl rfl ?_ | refine V.gf omX8_sorts rfl rfl rfl rfl ?_ | refine V.lal omX8_sorts rfl rfl (ixN nv_nI (by omega) (by decide)) ?_)
    rw [va_up_self, va_up_ne _ _ (show (41 : Nat) ≠ 43 by decide)]
    refine V.br omX8_sorts rfl rfl (fun hg => ?_) (fun hg => ?_)
    · rw [lgc_le] at hg
      simp only [ins8, if_neg (Int64.not_lt.mpr hg)] at hF
      repeat (first | refine V.s omX8_sorts rfl rfl ?_ | refine V.gf omX8_sorts rfl rfl rfl rfl ?_ | refine V.lal omX8_sorts rfl rfl (ixN nv_nI (by omega) (by decide)) ?_)
      refine V.lasH omX8_sorts rfl rfl (ixN nv_nI ha (by decide)) ?_
      rw [bx_uu, va_up_self, va_up_ne _ _ (show (41 : Nat) ≠ 43 by decide)]
      subst hF
      exact kk _
    · rw [lgc_gt] at hg
      simp only [ins8, if_pos hg] at hF
      repeat (first | refine V.s omX8_sorts rfl rfl ?_ | refine V.gf omX8_sorts rfl rfl rfl rfl ?_)
      rw [nI_pred]
      refine V.lal omX8_sorts rfl rfl (ixN nv_nI (show a < 4 by omega) (by decide)) ?_
      refine V.lasH omX8_sorts rfl rfl (ixN nv_nI ha (by decide)) ?_
      iterate 2 (refine V.s omX8_sorts rfl rfl ?_)
      rw [bx_uu, va_up_self, show nI (a + 1) + -1 = nI a from (Int32.sub_eq_add_neg (nI (a + 1)) 1).symm.trans (nI_pred a)]
      exact ih _ (by omega) hF
def so8 (b f : Nat → Int64) : Nat → Int64 := ins8 3 (ins8 2 (ins8 1 (ins8 0 f (b 0)) (b 1)) (b 2)) (b 3)
set_option maxHeartbeats 4000000 in
set_option maxRecDepth 100000 in
theorem sorts_st (d : Nat) {i : Nat} (hi : i < 4) (f : Nat → Int64) (v : Option Value) {Q : Option Value → hp_T → Prop} (kk : ∀ x, V mX8_sorts d 0 0 Q 0 0 2 [some (.ref 33), some (.int (nI (i + 1))), some (.int x)] [] (hp A (va_up B 43 (ins8 i f (B 41 i))))) : V mX8_sorts d 0 0 Q 0 0 2 [some (.ref 33), some (.int (nI i)), v] [] (hp A (va_up B 43 f)) := by
  iterate 2 (refine V.s omX8_sorts rfl rfl ?_)
  refine V.brF omX8_sorts rfl rfl (by rw [nIl_le 4 (by omega) (by decide)]; omega) ?_
  iterate 2 (refine V.s omX8_sorts rfl rfl ?_)
  refine sorts_in d hi _ (fun x => ?_) i f hi rfl
  iterate 2 (refine V.s omX8_sorts rfl rfl ?_)
  rw [nI_1]
  exact kk x
set_option maxHeartbeats 4000000 in
set_option maxRecDepth 100000 in
theorem c8_sorts (d : Nat) : C mX8_sorts d 0 0 [.ref 33] (hp A B) (fun r h' => h' = hp A (va_up B 43 (so8 (B 41) (B 43))) ∧ r = none) := by
  refine C.of [some (.ref 33), none, none] omX8_sorts rfl rfl rfl ?_
  iterate 2 (refine V.s omX8_sorts rfl rfl ?_)
  have e : va_up B 43 (B 43) = B := by
    funext j
    unfold va_up
    split
    · next h => rw [h]
    · rfl
  have key : V mX8_sorts d 0 0 (fun r h' => h' = hp A (va_up B 43 (so8 (B 41) (B 43))) ∧ r = none) 0 0 2 [some (.ref 33), some (.int (nI 0)), none] [] (hp A (va_up B 43 (B 43))) := by
    refine sorts_st (i := 0) d (by decide) _ _ (fun x => ?_)
    refine sorts_st (i := 1) d (by decide) _ _ (fun x => ?_)
    refine sorts_st (i := 2) d (by decide) _ _ (fun x => ?_)
    refine sorts_st (i := 3) d (by decide) _ _ (fun x => ?_)
    iterate 2 (refine V.s omX8_sorts rfl rfl ?_)
    refine V.brT omX8_sorts rfl rfl (by decide) (by decide) ?_
    exact V.vret omX8_sorts rfl rfl ⟨rfl, rfl⟩
  rw [e] at key
  exact key
def bq (b : Nat → Int64) (F : Nat → Int32) (k : Nat) : Nat → Int64 := vp_updL (vp_updL (vp_updL (vp_updL b 0 (F (16 * k)).toInt64) 1 (F (16 * k + 4)).toInt64) 2 (F (16 * k + 8)).toInt64) 3 (F (16 * k + 12)).toInt64
set_option maxHeartbeats 4000000 in
set_option maxRecDepth 100000 in
theorem leads_st (d : Nat) {k i : Nat} (hk : k < 6) (hi : i < 4) (b : Nat → Int64) {Q : Option Value → hp_T → Prop} (kk : V mX8_leads (d + 1) 0 0 Q 0 0 2 [some (.ref 33), some (.int (nI k)), some (.int (nI (i + 1)))] [] (hp A (va_up B 41 (vp_updL b i (A 38 (16 * k + 4 * i)).toInt64)))) : V mX8_leads (d + 1) 0 0 Q 0 0 2 [some (.ref 33), some (.int (nI k)), some (.int (nI i))] [] (hp A (va_up B 41 b)) := by
  iterate 2 (refine V.s omX8_leads rfl rfl ?_)
  refine V.brF omX8_leads rfl rfl (by rw [nIl_le 4 (by omega) (by decide)]; omega) ?_
  repeat (first | refine V.s omX8_leads rfl rfl ?_ | refine V.gf omX8_leads rfl rfl rfl rfl ?_ | refine V.ial omX8_leads rfl rfl (ixN (nv_add (nv_mul nv_lit nv_nI) (nv_mul nv_lit nv_nI)) (by omega) (by decide)) ?_)
  refine V.lasH omX8_leads rfl rfl (ixN nv_nI hi (by decide)) ?_
  iterate 2 (refine V.s omX8_leads rfl rfl ?_)
  rw [nI_1, bx_uu, va_up_self]
  exact kk
def ldF : Nat → (Nat → Int64) → Option (Nat → Int64)
  | 0, _ => none
  | n + 1, b => if ex8 b (g8 b) < b (g8 b) then ldF n (vp_updL b (g8 b) (ex8 b (g8 b))) else some b
theorem c8_gr (d : Nat) (b : Nat → Int64) : C mX8_greatest d 0 0 [.ref 33] (hp A (va_up B 41 b)) (fun r h' => h' = hp A (va_up B 41 b) ∧ r = some (.int (gr8 b))) := by
  have h := c8_greatest (A := A) (B := va_up B 41 b) d
  rwa [va_up_self] at h
set_option maxHeartbeats 4000000 in
set_option maxRecDepth 100000 in
theorem leads_loop (d : Nat) (v1 v2 : Option Value) (b' : Nat → Int64) : ∀ (n : Nat) (b : Nat → Int64), ldF n b = some b' → V mX8_leads (d + 1) 0 0 (fun r h' => h' = hp A (va_up B 41 b') ∧ r = none) 0 0 33 [some (.ref 33), v1, v2] [] (hp A (va_up B 41 b)) := by
  intro n
  induction n with
  | zero => intro b h; cases h
  | succ n ih =>
    intro b h
    have hg4 := g8_lt b
    refine V.s omX8_leads rfl rfl ?_
    refine V.cVf omX8_leads omX8_greatest rfl rfl (c8_gr d b) rfl rfl rfl rfl rfl rfl ?_
    by_cases hg : ex8 b (g8 b) < b (g8 b)
    · simp only [ldF, if_pos hg] at h
      have e : gr8 b = nI (g8 b) := by unfold gr8; rw [if_pos hg]
      rw [e]
      refine V.brF omX8_leads rfl rfl (nI_pos (by omega)) ?_
      iterate 2 (refine V.s omX8_leads rfl rfl ?_)
      refine V.cVf omX8_leads omX8_greatest rfl rfl (c8_gr d b) rfl rfl rfl rfl rfl rfl ?_
      rw [e]
      refine V.cVv omX8_leads omX8_exchanges rfl rfl (c8_exchanges d hg4 nv_nI) rfl rfl rfl rfl rfl rfl ?_
      rw [va_up_self, bx_uu]
      refine V.s omX8_leads rfl rfl ?_
      exact ih _ h
    · simp only [ldF, if_neg hg] at h
      have e : gr8 b = -1 := by unfold gr8; rw [if_neg hg]
      rw [e]
      refine V.brT omX8_leads rfl rfl (by decide) (by decide) ?_
      cases h
      exact V.vret omX8_leads rfl rfl ⟨rfl, rfl⟩
theorem vb_self (B : Nat → Nat → Int64) (q : Nat) : va_up B q (B q) = B := by
  funext j
  unfold va_up
  split
  · next h => rw [h]
  · rfl
set_option maxHeartbeats 4000000 in
set_option maxRecDepth 100000 in
theorem c8_leads (d : Nat) {k n : Nat} (hk : k < 6) {a : Int32} (ha : NV a k) {b' : Nat → Int64} (hL : ldF n (bq (B 41) (A 38) k) = some b') : C mX8_leads (d + 1) 0 0 [.ref 33, .int a] (hp A B) (fun r h' => h' = hp A (va_up B 41 b') ∧ r = none) := by
  unfold NV at ha
  subst ha
  refine C.of [some (.ref 33), some (.int (nI k)), none] omX8_leads rfl rfl rfl ?_
  iterate 2 (refine V.s omX8_leads rfl rfl ?_)
  have key : V mX8_leads (d + 1) 0 0 (fun r h' => h' = hp A (va_up B 41 b') ∧ r = none) 0 0 2 [some (.ref 33), some (.int (nI k)), some (.int (nI 0))] [] (hp A (va_up B 41 (B 41))) := by
    refine leads_st (i := 0) d hk (by decide) _ ?_
    refine leads_st (i := 1) d hk (by decide) _ ?_
    refine leads_st (i := 2) d hk (by decide) _ ?_
    refine leads_st (i := 3) d hk (by decide) _ ?_
    iterate 2 (refine V.s omX8_leads rfl rfl ?_)
    refine V.brT omX8_leads rfl rfl (by decide) (by decide) ?_
    exact leads_loop d _ _ b' n _ hL
  rw [vb_self] at key
  exact key
end MDB
end
section
section MDC
variable {A : Nat → Nat → Int32} {B : Nat → Nat → Int64}
def BN (F : Nat → Int32) (k : Nat) : Nat → Int64 := fun i => (F (16 * k + 4 * i)).toInt64
theorem bq_at (b : Nat → Int64) (F : Nat → Int32) (k : Nat) : bq b F k 0 = BN F k 0 ∧ bq b F k 1 = BN F k 1 ∧ bq b F k 2 = BN F k 2 ∧ bq b F k 3 = BN F k 3 := ⟨rfl, rfl, rfl, rfl⟩
theorem b4_ext {b c : Nat → Int64} (h : b 0 = c 0 ∧ b 1 = c 1 ∧ b 2 = c 2 ∧ b 3 = c 3) {p : Nat} (hp4 : p < 4) : b p = c p := by
  rcases (show p = 0 ∨ p = 1 ∨ p = 2 ∨ p = 3 by omega) with rfl | rfl | rfl | rfl
  · exact h.1
  · exact h.2.1
  · exact h.2.2.1
  · exact h.2.2.2
theorem gix_ext {b c : Nat → Int64} (h : b 0 = c 0 ∧ b 1 = c 1 ∧ b 2 = c 2 ∧ b 3 = c 3) {i a : Nat} (hi : i < 4) (ha : a < 4) : gix b i a = gix c i a := by
  unfold gix
  rw [b4_ext h hi, b4_ext h ha]
theorem g8_ext {b c : Nat → Int64} (h : b 0 = c 0 ∧ b 1 = c 1 ∧ b 2 = c 2 ∧ b 3 = c 3) : g8 b = g8 c := by
  unfold g8
  rw [gix_ext h (i := 0) (a := 0) (by decide) (by decide), gix_ext h (i := 1) (by decide) (gix_lt (by decide) (by decide)), gix_ext h (i := 2) (by decide) (gix_lt (by decide) (gix_lt (by decide) (by decide))), gix_ext h (i := 3) (by decide) (gix_lt (by decide) (gix_lt (by decide) (gix_lt (by decide) (by decide))))]
theorem ex8_ext {b c : Nat → Int64} (h : b 0 = c 0 ∧ b 1 = c 1 ∧ b 2 = c 2 ∧ b 3 = c 3) {p : Nat} (hp4 : p < 4) : ex8 b p = ex8 c p := by
  unfold ex8
  rw [b4_ext h hp4, h.1, h.2.1, h.2.2.1, h.2.2.2]
theorem gr8_ext {b c : Nat → Int64} (h : b 0 = c 0 ∧ b 1 = c 1 ∧ b 2 = c 2 ∧ b 3 = c 3) : gr8 b = gr8 c := by
  unfold gr8
  rw [g8_ext h, ex8_ext h (g8_lt c), b4_ext h (g8_lt c)]
def l8 (k : Nat) : Nat → Nat → (Nat → Int32) → Int32 → Option (Bool × Nat × (Nat → Int32) × Int32)
  | 0, _, _, _ => none
  | n + 1, s, F, fp => if ex8 (BN F k) (g8 (BN F k)) < BN F k (g8 (BN F k)) then (if fit8 (kz F k) (g8 (BN F k)) then l8 k n (s + 1) (s8S F k (g8 (BN F k))) (lbP s fp (g8 (BN F k))) else some (false, s, F, fp)) else some (true, s, F, fp)
set_option maxHeartbeats 4000000 in
set_option maxRecDepth 100000 in
theorem least_cp (d : Nat) {k : Nat} (hk : k < 6) (F : Nat → Int32) (v3 v4 v5 : Option Value) {Q : Option Value → hp_T → Prop} (kk : V mX8_least (d + 2) 0 0 Q 0 0 63 [some (.ref 33), some (.int (nI k)), some (.int (nI 16)), v3, v4, v5] [] (hp (va_up A 42 (va_cpy (A 38) F (16 * k) 0 16)) B)) : ∀ (t s : Nat), s + t = 16 → V mX8_least (d + 2) 0 0 Q 0 0 34 [some (.ref 33), some (.int (nI k)), some (.int (nI s)), v3, v4, v5] [] (hp (va_up A 42 (va_cpy (A 38) F (16 * k) 0 s)) B) := by
  intro t
  induction t with
  | zero =>
    intro s hs
    have : s = 16 := by omega
    subst this
    iterate 2 (refine V.s omX8_least rfl rfl ?_)
    refine V.brT omX8_least rfl rfl (by decide) (by decide) ?_
    exact kk
  | succ t ih =>
    intro s hs
    iterate 2 (refine V.s omX8_least rfl rfl ?_)
    refine V.brF omX8_least rfl rfl (by rw [nIl_le 16 (by omega) (by decide)]; omega) ?_
    repeat (first | refine V.s omX8_least rfl rfl ?_ | refine V.gf omX8_least rfl rfl rfl rfl ?_)
    refine V.ial omX8_least rfl rfl (ixN (nv_add (nv_mul nv_lit nv_nI) nv_nI) (show 16 * k + s < 96 by omega) (by decide)) ?_
    refine V.iasH omX8_least rfl rfl (ixN nv_nI (by omega) (by decide)) ?_
    iterate 2 (refine V.s omX8_least rfl rfl ?_)
    rw [nI_1, bx_uu, va_up_self, va_up_ne _ _ (show (38 : Nat) ≠ 42 by decide), cpy_S1]
    exact ih (s + 1) (by omega)
set_option maxHeartbeats 4000000 in
set_option maxRecDepth 100000 in
theorem least_bk (d : Nat) {k : Nat} (hk : k < 6) (F : Nat → Int32) (v2 v3 : Option Value) (x4 : Int32) {Q : Option Value → hp_T → Prop} (kk : V mX8_least (d + 2) 0 0 Q 0 0 163 [some (.ref 33), some (.int (nI k)), v2, v3, some (.int x4), some (.int (nI 16))] [] (hp (va_up A 38 (va_cpy (A 42) F 0 (16 * k) 16)) B)) : ∀ (t s : Nat), s + t = 16 → V mX8_least (d + 2) 0 0 Q 0 0 131 [some (.ref 33), some (.int (nI k)), v2, v3, some (.int x4), some (.int (nI s))] [] (hp (va_up A 38 (va_cpy (A 42) F 0 (16 * k) s)) B) := by
  intro t
  induction t with
  | zero =>
    intro s hs
    have : s = 16 := by omega
    subst this
    iterate 2 (refine V.s omX8_least rfl rfl ?_)
    refine V.brT omX8_least rfl rfl (by decide) (by decide) ?_
    exact kk
  | succ t ih =>
    intro s hs
    iterate 2 (refine V.s omX8_least rfl rfl ?_)
    refine V.brF omX8_least rfl rfl (by rw [nIl_le 16 (by omega) (by decide)]; omega) ?_
    repeat (first | refine V.s omX8_least rfl rfl ?_ | refine V.gf omX8_least rfl rfl rfl rfl ?_)
    refine V.ial omX8_least rfl rfl (ixN nv_nI (show s < 16 by omega) (by decide)) ?_
    refine V.iasH omX8_least rfl rfl (ixN (nv_add (nv_mul nv_lit nv_nI) nv_nI) (show 16 * k + s < 96 by omega) (by decide)) ?_
    iterate 2 (refine V.s omX8_least rfl rfl ?_)
    rw [nI_1, bx_uu, va_up_self, va_up_ne _ _ (show (42 : Nat) ≠ 38 by decide), cpy_S0]
    exact ih (s + 1) (by omega)
set_option maxHeartbeats 4000000 in
set_option maxRecDepth 100000 in
theorem least_st (d : Nat) {k i : Nat} (hk : k < 6) (hi : i < 4) (b : Nat → Int64) (v2 v5 : Option Value) (x3 : Int32) {Q : Option Value → hp_T → Prop} (kk : V mX8_least (d + 2) 0 0 Q 0 0 70 [some (.ref 33), some (.int (nI k)), v2, some (.int x3), some (.int (nI (i + 1))), v5] [] (hp A (va_up B 41 (vp_updL b i (A 38 (16 * k + 4 * i)).toInt64)))) : V mX8_least (d + 2) 0 0 Q 0 0 70 [some (.ref 33), some (.int (nI k)), v2, some (.int x3), some (.int (nI i)), v5] [] (hp A (va_up B 41 b)) := by
  iterate 2 (refine V.s omX8_least rfl rfl ?_)
  refine V.brF omX8_least rfl rfl (by rw [nIl_le 4 (by omega) (by decide)]; omega) ?_
  repeat (first | refine V.s omX8_least rfl rfl ?_ | refine V.gf omX8_least rfl rfl rfl rfl ?_ | refine V.ial omX8_least rfl rfl (ixN (nv_add (nv_mul nv_lit nv_nI) (nv_mul nv_lit nv_nI)) (by omega) (by decide)) ?_)
  refine V.lasH omX8_least rfl rfl (ixN nv_nI hi (by decide)) ?_
  iterate 2 (refine V.s omX8_least rfl rfl ?_)
  rw [nI_1, bx_uu, va_up_self]
  exact kk
def l8X (A : Nat → Nat → Int32) (k : Nat) (R : Bool × Nat × (Nat → Int32) × Int32) : Int32 × (Nat → Nat → Int32) := if R.1 = true then (nI R.2.1, va_up (va_up A 38 R.2.2.1) 33 (upd (A 33) 7 R.2.2.2)) else (-8, rmA (va_up A 38 (va_cpy (A 42) R.2.2.1 0 (16 * k) 16)) 8)
set_option maxHeartbeats 4000000 in
set_option maxRecDepth 100000 in
theorem least_loop (d : Nat) {k : Nat} (hk : k < 6) (R : Bool × Nat × (Nat → Int32) × Int32) : ∀ (n s : Nat) (F : Nat → Int32) (fp : Int32) (b : Nat → Int64) (v4 v5 : Option Value), s + n < 2 ^ 31 → l8 k n s F fp = some R → V mX8_least (d + 2) 0 0 (fun r h' => (∃ B', h' = hp (l8X A k R).2 B') ∧ r = some (.int (l8X A k R).1)) 0 0 67 [some (.ref 33), some (.int (nI k)), some (.int (nI s)), some (.int fp), v4, v5] [] (hp (va_up A 38 F) (va_up B 41 b)) := by
  intro n
  induction n with
  | zero => intro s F fp b v4 v5 hs h; cases h
  | succ n ih =>
    intro s F fp b v4 v5 hs h
    have e8 := bq_at b F k
    have hg4 := g8_lt (BN F k)
    iterate 2 (refine V.s omX8_least rfl rfl ?_)
    refine least_st (A := va_up A 38 F) (i := 0) d hk (by decide) _ _ _ _ ?_
    refine least_st (A := va_up A 38 F) (i := 1) d hk (by decide) _ _ _ _ ?_
    refine least_st (A := va_up A 38 F) (i := 2) d hk (by decide) _ _ _ _ ?_
    refine least_st (A := va_up A 38 F) (i := 3) d hk (by decide) _ _ _ _ ?_
    rw [va_up_self, show vp_updL (vp_updL (vp_updL (vp_updL b 0 (F (16 * k + 4 * 0)).toInt64) 1 (F (16 * k + 4 * 1)).toInt64) 2 (F (16 * k + 4 * 2)).toInt64) 3 (F (16 * k + 4 * 3)).toInt64 = bq b F k from rfl]
    iterate 2 (refine V.s omX8_least rfl rfl ?_)
    refine V.brT omX8_least rfl rfl (by decide) (by decide) ?_
    refine V.s omX8_least rfl rfl ?_
    refine V.cVf omX8_least omX8_greatest rfl rfl (c8_gr _ (bq b F k)) rfl rfl rfl rfl rfl rfl ?_
    rw [gr8_ext e8]
    iterate 2 (refine V.s omX8_least rfl rfl ?_)
    by_cases hg : ex8 (BN F k) (g8 (BN F k)) < BN F k (g8 (BN F k))
    · simp only [l8, if_pos hg] at h
      have e : gr8 (BN F k) = nI (g8 (BN F k)) := by unfold gr8; rw [if_pos hg]
      rw [e]
      refine V.brT omX8_least rfl rfl (nI_pos' (by omega)) (fun h => Int32.not_lt.mpr h) ?_
      iterate 3 (refine V.s omX8_least rfl rfl ?_)
      have cs := c8_swaps (A := va_up A 38 F) (B := va_up B 41 (bq b F k)) d hk hg4 (nv_nI (a := k)) (nv_nI (a := g8 (BN F k)))
      rw [va_up_self, bx_uu] at cs
      by_cases hf : fit8 (kz F k) (g8 (BN F k))
      · rw [if_pos hf] at h
        rw [if_pos hf, if_pos hf] at cs
        refine V.cVf omX8_least omX8_swaps rfl rfl cs rfl rfl rfl rfl rfl rfl ?_
        refine V.brT omX8_least rfl rfl (by decide) (by decide) ?_
        iterate 2 (refine V.s omX8_least rfl rfl ?_)
        by_cases h15 : s < 15
        · refine V.brF omX8_least rfl rfl (by rw [nIl_le 15 (by omega) (by decide)]; omega) ?_
          rw [lbP, if_pos h15] at h
          iterate 8 (refine V.s omX8_least rfl rfl ?_)
          iterate 2 (refine V.s omX8_least rfl rfl ?_)
          rw [nI_1]
          exact ih _ _ _ _ _ _ (by omega) h
        · refine V.brT omX8_least rfl rfl (by rw [nIl_le 15 (by omega) (by decide)]; omega) (fun h => Int32.not_lt.mpr h) ?_
          rw [lbP, if_neg h15] at h
          iterate 2 (refine V.s omX8_least rfl rfl ?_)
          rw [nI_1]
          exact ih _ _ _ _ _ _ (by omega) h
      · rw [if_neg hf] at h
        rw [if_neg hf, if_neg hf] at cs
        cases h
        refine V.cVf omX8_least omX8_swaps rfl rfl cs rfl rfl rfl rfl rfl rfl ?_
        refine V.brF omX8_least rfl rfl (by decide) ?_
        iterate 2 (refine V.s omX8_least rfl rfl ?_)
        have key := fun B Q v2 v3 v4 kk => least_bk (A := A) (B := B) (Q := Q) d hk F v2 v3 v4 kk 16 0 (by omega)
        rw [cpy_0] at key
        refine key _ _ _ _ _ ?_
        repeat (first | refine V.s omX8_least rfl rfl ?_ | refine V.gf omX8_least rfl rfl rfl rfl ?_ | refine V.cVf omX8_least omX8_no rfl rfl (c8_no _ _ (by decide)) rfl rfl rfl rfl rfl rfl ?_)
        exact V.iret omX8_least rfl rfl ⟨⟨_, rfl⟩, rfl⟩
    · simp only [l8, if_neg hg] at h
      have e : gr8 (BN F k) = -1 := by unfold gr8; rw [if_neg hg]
      rw [e]
      cases h
      refine V.brF omX8_least rfl rfl (by decide) ?_
      iterate 3 (refine V.s omX8_least rfl rfl ?_)
      refine V.pfH omX8_least rfl rfl rfl rfl rfl rfl rfl ?_
      refine V.s omX8_least rfl rfl ?_
      exact V.iret omX8_least rfl rfl ⟨⟨_, rfl⟩, rfl⟩
def wn8 (A : Nat → Nat → Int32) (m : Nat) (r : Int32) : Int32 := if 0 ≤ r ∧ r < nI m then (if 0 < bs8 (kz (A 38) (cl r)) then 0 else -7) else -3
theorem rfB_wn8 {A : Nat → Nat → Int32} {m : Nat} {r : Int32} (h : ¬ wn8 A m r = 0) : rfB (wn8 A m r) = true := by
  unfold wn8 at *
  split at h
  · next h1 =>
    rw [if_pos h1]
    split at h
    · exact absurd rfl h
    · next h2 => rw [if_neg h2]; decide
  · next h1 => rw [if_neg h1]; decide
def kp8 (A : Nat → Nat → Int32) (k : Nat) : Nat → Nat → Int32 := va_up A 42 (va_cpy (A 38) (A 42) (16 * k) 0 16)
def s8_least (A : Nat → Nat → Int32) (m : Nat) (r : Int32) (R : Bool × Nat × (Nat → Int32) × Int32) : Int32 × (Nat → Nat → Int32) := if wn8 A m r = 0 then l8X (kp8 A (cl r)) (cl r) R else (wn8 A m r, rmA A (rfI (wn8 A m r)))
set_option maxHeartbeats 4000000 in
set_option maxRecDepth 100000 in
theorem c8_least (d : Nat) {m n : Nat} (hm : A 33 6 = nI m) (h6 : m ≤ 6) (r : Int32) (R : Bool × Nat × (Nat → Int32) × Int32) (hn : n < 2 ^ 31) (hR : wn8 A m r = 0 → l8 (cl r) n 0 (A 38) 0 = some R) : C mX8_least (d + 2) 0 0 [.ref 33, .int r] (hp A B) (fun r' h' => (∃ B', h' = hp (s8_least A m r R).2 B') ∧ r' = some (.int (s8_least A m r R).1)) := by
  refine C.of [some (.ref 33), some (.int r), none, none, none, none] omX8_least rfl rfl rfl ?_
  by_cases h1 : 0 ≤ r ∧ r < A 33 6
  · iterate 2 (refine V.s omX8_least rfl rfl ?_)
    refine V.cVf omX8_least omX8_isKiss rfl rfl (c8_ikY _ h1) rfl rfl rfl rfl rfl rfl ?_
    refine V.brT omX8_least rfl rfl (by decide) (by decide) ?_
    rw [hm] at h1
    iterate 2 (refine V.s omX8_least rfl rfl ?_)
    have hw : wn8 A m r = if 0 < bs8 (kz (A 38) (cl r)) then 0 else -7 := by unfold wn8; rw [if_pos h1]
    obtain ⟨i, hi, rfl⟩ := rng (by omega) h1
    simp only [s8_least, hw]
    rw [hw] at hR
    simp only [cl_nI (show i < 20 by omega)] at hR ⊢
    refine V.cVf omX8_least omX8_heightOf rfl rfl (c8_heightOf _ (show i < 6 by omega) nv_nI) rfl rfl rfl rfl rfl rfl ?_
    iterate 2 (refine V.s omX8_least rfl rfl ?_)
    by_cases h2 : 0 < bs8 (kz (A 38) i)
    · refine V.brT omX8_least rfl rfl (lgc_gt.mpr h2) (fun h => Int32.not_le.mpr h) ?_
      simp only [if_pos h2, if_true] at hR ⊢
      iterate 2 (refine V.s omX8_least rfl rfl ?_)
      have key := fun Q kk => least_cp (A := A) (B := B) (Q := Q) d (show i < 6 by omega) (A 42) none none none kk 16 0 (by omega)
      rw [cpy_0, va_self] at key
      refine key _ ?_
      iterate 4 (refine V.s omX8_least rfl rfl ?_)
      have k2 := least_loop (A := kp8 A i) (B := B) d (show i < 6 by omega) R n 0 (A 38) 0 (B 41) none none (by omega) (hR trivial)
      rw [show va_up (kp8 A i) 38 (A 38) = kp8 A i from va_self (kp8 A i) 38, vb_self] at k2
      exact k2
    · refine V.brF omX8_least rfl rfl (fun h => h2 (lgc_gt.mp h)) ?_
      simp only [if_neg h2]
      repeat (first | refine V.s omX8_least rfl rfl ?_ | refine V.gf omX8_least rfl rfl rfl rfl ?_ | refine V.cVf omX8_least omX8_no rfl rfl (c8_no _ _ (by decide)) rfl rfl rfl rfl rfl rfl ?_)
      exact V.iret omX8_least rfl rfl ⟨⟨B, rfl⟩, rfl⟩
  · iterate 2 (refine V.s omX8_least rfl rfl ?_)
    refine V.cVf omX8_least omX8_isKiss rfl rfl (c8_ikN _ h1) rfl rfl rfl rfl rfl rfl ?_
    refine V.brF omX8_least rfl rfl (by decide) ?_
    rw [hm] at h1
    repeat (first | refine V.s omX8_least rfl rfl ?_ | refine V.gf omX8_least rfl rfl rfl rfl ?_ | refine V.cVf omX8_least omX8_no rfl rfl (c8_no _ _ (by decide)) rfl rfl rfl rfl rfl rfl ?_)
    have hw : wn8 A m r = -3 := by unfold wn8; rw [if_neg h1]
    simp only [s8_least, hw]
    exact V.iret omX8_least rfl rfl ⟨⟨B, rfl⟩, rfl⟩
end MDC
end
section
section MDD
variable {A : Nat → Nat → Int32} {B : Nat → Nat → Int64}
theorem is8_01 (b : Nat → Int64) : is8 b = 0 ∨ is8 b = 1 := by unfold is8; split <;> simp
theorem c8_is (d : Nat) (b : Nat → Int64) : C mX8_isShut d 0 0 [.ref 33] (hp A (va_up B 41 b)) (fun r h' => h' = hp A (va_up B 41 b) ∧ r = some (.int (is8 b))) := by
  have h := c8_isShut (A := A) (B := va_up B 41 b) d
  rwa [va_up_self] at h
def s8_shut (A : Nat → Nat → Int32) (m : Nat) (r : Int32) (b' : Nat → Int64) : Int32 × (Nat → Nat → Int32) := if wn8 A m r = 0 then (is8 b', A) else (wn8 A m r, rmA A (rfI (wn8 A m r)))
set_option maxHeartbeats 4000000 in
set_option maxRecDepth 100000 in
theorem c8_shut (d : Nat) {m n : Nat} (hm : A 33 6 = nI m) (h6 : m ≤ 6) (r : Int32) (b' : Nat → Int64) (hL : wn8 A m r = 0 → ldF n (bq (B 41) (A 38) (cl r)) = some b') : C mX8_shut (d + 2) 0 0 [.ref 33, .int r] (hp A B) (fun r' h' => (∃ B', h' = hp (s8_shut A m r b').2 B') ∧ r' = some (.int (s8_shut A m r b').1)) := by
  refine C.of [some (.ref 33), some (.int r)] omX8_shut rfl rfl rfl ?_
  by_cases h1 : 0 ≤ r ∧ r < A 33 6
  · iterate 2 (refine V.s omX8_shut rfl rfl ?_)
    refine V.cVf omX8_shut omX8_isKiss rfl rfl (c8_ikY _ h1) rfl rfl rfl rfl rfl rfl ?_
    refine V.brT omX8_shut rfl rfl (by decide) (by decide) ?_
    rw [hm] at h1
    iterate 2 (refine V.s omX8_shut rfl rfl ?_)
    have hw : wn8 A m r = if 0 < bs8 (kz (A 38) (cl r)) then 0 else -7 := by unfold wn8; rw [if_pos h1]
    obtain ⟨i, hi, rfl⟩ := rng (by omega) h1
    simp only [s8_shut, hw]
    rw [hw] at hL
    simp only [cl_nI (show i < 20 by omega)] at hL ⊢
    refine V.cVf omX8_shut omX8_heightOf rfl rfl (c8_heightOf _ (show i < 6 by omega) nv_nI) rfl rfl rfl rfl rfl rfl ?_
    iterate 2 (refine V.s omX8_shut rfl rfl ?_)
    by_cases h2 : 0 < bs8 (kz (A 38) i)
    · refine V.brT omX8_shut rfl rfl (lgc_gt.mpr h2) (fun h => Int32.not_le.mpr h) ?_
      simp only [if_pos h2, if_true] at hL ⊢
      iterate 2 (refine V.s omX8_shut rfl rfl ?_)
      refine V.cVv omX8_shut omX8_leads rfl rfl (c8_leads d (show i < 6 by omega) nv_nI (hL trivial)) rfl rfl rfl rfl rfl rfl ?_
      refine V.s omX8_shut rfl rfl ?_
      refine V.cVf omX8_shut omX8_isShut rfl rfl (c8_is _ b') rfl rfl rfl rfl rfl rfl ?_
      rcases is8_01 b' with h3 | h3
      · rw [h3]
        refine V.brT omX8_shut rfl rfl rfl (by decide) ?_
        refine V.s omX8_shut rfl rfl ?_
        exact V.iret omX8_shut rfl rfl ⟨⟨_, rfl⟩, rfl⟩
      · rw [h3]
        refine V.brF omX8_shut rfl rfl (by decide) ?_
        iterate 2 (refine V.s omX8_shut rfl rfl ?_)
        exact V.iret omX8_shut rfl rfl ⟨⟨_, rfl⟩, rfl⟩
    · refine V.brF omX8_shut rfl rfl (fun h => h2 (lgc_gt.mp h)) ?_
      simp only [if_neg h2]
      repeat (first | refine V.s omX8_shut rfl rfl ?_ | refine V.gf omX8_shut rfl rfl rfl rfl ?_ | refine V.cVf omX8_shut omX8_no rfl rfl (c8_no _ _ (by decide)) rfl rfl rfl rfl rfl rfl ?_)
      exact V.iret omX8_shut rfl rfl ⟨⟨B, rfl⟩, rfl⟩
  · iterate 2 (refine V.s omX8_shut rfl rfl ?_)
    refine V.cVf omX8_shut omX8_isKiss rfl rfl (c8_ikN _ h1) rfl rfl rfl rfl rfl rfl ?_
    refine V.brF omX8_shut rfl rfl (by decide) ?_
    rw [hm] at h1
    repeat (first | refine V.s omX8_shut rfl rfl ?_ | refine V.gf omX8_shut rfl rfl rfl rfl ?_ | refine V.cVf omX8_shut omX8_no rfl rfl (c8_no _ _ (by decide)) rfl rfl rfl rfl rfl rfl ?_)
    have hw : wn8 A m r = -3 := by unfold wn8; rw [if_neg h1]
    simp only [s8_shut, hw]
    exact V.iret omX8_shut rfl rfl ⟨⟨B, rfl⟩, rfl⟩
def wy8 (A : Nat → Nat → Int32) (m : Nat) (r n lo hi : Int32) (b' : Nat → Int64) : Int32 := if wn8 A m r = 0 then (if is8 b' = 1 ∧ lo ≤ n ∧ n ≤ hi then 0 else -7) else wn8 A m r
set_option maxHeartbeats 4000000 in
set_option maxRecDepth 100000 in
theorem c8_whyNot (d : Nat) {m n : Nat} (hm : A 33 6 = nI m) (h6 : m ≤ 6) (r w lo hi : Int32) (b' : Nat → Int64) (hL : wn8 A m r = 0 → ldF n (bq (B 41) (A 38) (cl r)) = some b') : C mX8_whyNot (d + 2) 0 0 [.ref 33, .int r, .int w, .int lo, .int hi] (hp A B) (fun r' h' => h' = hp A (if wn8 A m r = 0 then va_up B 41 b' else B) ∧ r' = some (.int (wy8 A m r w lo hi b'))) := by
  refine C.of [some (.ref 33), some (.int r), some (.int w), some (.int lo), some (.int hi)] omX8_whyNot rfl rfl rfl ?_
  by_cases h1 : 0 ≤ r ∧ r < A 33 6
  · iterate 2 (refine V.s omX8_whyNot rfl rfl ?_)
    refine V.cVf omX8_whyNot omX8_isKiss rfl rfl (c8_ikY _ h1) rfl rfl rfl rfl rfl rfl ?_
    refine V.brT omX8_whyNot rfl rfl (by decide) (by decide) ?_
    rw [hm] at h1
    iterate 2 (refine V.s omX8_whyNot rfl rfl ?_)
    have hw : wn8 A m r = if 0 < bs8 (kz (A 38) (cl r)) then 0 else -7 := by unfold wn8; rw [if_pos h1]
    obtain ⟨i, hi', rfl⟩ := rng (by omega) h1
    simp only [wy8, hw]
    rw [hw] at hL
    simp only [cl_nI (show i < 20 by omega)] at hL ⊢
    refine V.cVf omX8_whyNot omX8_heightOf rfl rfl (c8_heightOf _ (show i < 6 by omega) nv_nI) rfl rfl rfl rfl rfl rfl ?_
    iterate 2 (refine V.s omX8_whyNot rfl rfl ?_)
    by_cases h2 : 0 < bs8 (kz (A 38) i)
    · refine V.brT omX8_whyNot rfl rfl (lgc_gt.mpr h2) (fun h => Int32.not_le.mpr h) ?_
      simp only [if_pos h2, if_true] at hL ⊢
      iterate 2 (refine V.s omX8_whyNot rfl rfl ?_)
      refine V.cVv omX8_whyNot omX8_leads rfl rfl (c8_leads d (show i < 6 by omega) nv_nI (hL trivial)) rfl rfl rfl rfl rfl rfl ?_
      refine V.s omX8_whyNot rfl rfl ?_
      refine V.cVf omX8_whyNot omX8_isShut rfl rfl (c8_is _ b') rfl rfl rfl rfl rfl rfl ?_
      rcases is8_01 b' with h3 | h3
      · rw [h3]
        refine V.brT omX8_whyNot rfl rfl rfl (by decide) ?_
        refine V.s omX8_whyNot rfl rfl ?_
        exact V.iret omX8_whyNot rfl rfl ⟨rfl, rfl⟩
      · rw [h3]
        refine V.brF omX8_whyNot rfl rfl (by decide) ?_
        iterate 6 (refine V.s omX8_whyNot rfl rfl ?_)
        have ci := c8_isIn (d + 1) w.toInt64 lo.toInt64 hi.toInt64 (hp A (va_up B 41 b'))
        by_cases h4 : lo ≤ w ∧ w ≤ hi
        · rw [if_pos ⟨w_le.mpr h4.1, w_le.mpr h4.2⟩] at ci
          refine V.cSf omX8_whyNot omX8_isIn rfl rfl ci rfl rfl rfl rfl ?_
          refine V.brF omX8_whyNot rfl rfl (by decide) ?_
          iterate 2 (refine V.s omX8_whyNot rfl rfl ?_)
          exact V.iret omX8_whyNot rfl rfl ⟨rfl, by rw [if_pos ⟨rfl, h4⟩]⟩
        · rw [if_neg (fun h => h4 ⟨w_le.mp h.1, w_le.mp h.2⟩)] at ci
          refine V.cSf omX8_whyNot omX8_isIn rfl rfl ci rfl rfl rfl rfl ?_
          refine V.brT omX8_whyNot rfl rfl (by decide) (by decide) ?_
          refine V.s omX8_whyNot rfl rfl ?_
          exact V.iret omX8_whyNot rfl rfl ⟨rfl, by rw [if_neg (fun h => h4 h.2)]⟩
    · refine V.brF omX8_whyNot rfl rfl (fun h => h2 (lgc_gt.mp h)) ?_
      simp only [if_neg h2]
      refine V.s omX8_whyNot rfl rfl ?_
      exact V.iret omX8_whyNot rfl rfl ⟨rfl, rfl⟩
  · iterate 2 (refine V.s omX8_whyNot rfl rfl ?_)
    refine V.cVf omX8_whyNot omX8_isKiss rfl rfl (c8_ikN _ h1) rfl rfl rfl rfl rfl rfl ?_
    refine V.brF omX8_whyNot rfl rfl (by decide) ?_
    rw [hm] at h1
    refine V.s omX8_whyNot rfl rfl ?_
    have hw : wn8 A m r = -3 := by unfold wn8; rw [if_neg h1]
    simp only [wy8, hw]
    exact V.iret omX8_whyNot rfl rfl ⟨rfl, rfl⟩
theorem c8_so (d : Nat) (b : Nat → Int64) : C mX8_sorts d 0 0 [.ref 33] (hp A (va_up B 41 b)) (fun r h' => h' = hp A (va_up (va_up B 41 b) 43 (so8 b (B 43))) ∧ r = none) := by
  have h := c8_sorts (A := A) (B := va_up B 41 b) d
  rwa [va_up_self, va_up_ne _ _ (show (43 : Nat) ≠ 41 by decide)] at h
def eq8 (a b : Nat → Int64) : Int32 := if a 0 = b 0 ∧ a 1 = b 1 ∧ a 2 = b 2 ∧ a 3 = b 3 then 1 else 0
def s8_same (A : Nat → Nat → Int32) (m : Nat) (r o : Int32) (b1 b2 g : Nat → Int64) : Int32 × (Nat → Nat → Int32) := if (0 ≤ r ∧ r < nI m) ∧ (0 ≤ o ∧ o < nI m) then (if wn8 A m r = 0 ∧ wn8 A m o = 0 then (eq8 (so8 b1 g) (so8 b2 (so8 b1 g)), A) else (-7, rmA A 7)) else (-3, rmA A 3)
set_option maxHeartbeats 4000000 in
set_option maxRecDepth 100000 in
theorem same8_tail (d : Nat) (r o : Int32) (b1 b2 : Nat → Int64) (BB : Nat → Nat → Int64) : V mX8_same (d + 2) 0 0 (fun r' h' => (∃ B', h' = hp A B') ∧ r' = some (.int (eq8 b1 b2))) 0 0 99 [some (.ref 33), some (.int r), some (.int o), some (.long (b1 0)), none, some (.long (b1 1)), none, some (.long (b1 2)), none, some (.long (b1 3)), none] [] (hp A (va_up BB 43 b2)) := by
  repeat' (first | refine V.s omX8_same rfl rfl ?_ | refine V.gf omX8_same rfl rfl rfl rfl ?_ | simp only [Int32.reduceAdd, Int32.reduceMul, Int32.reduceSub] | refine V.brF omX8_same rfl rfl (by decide) ?_ | refine V.brT omX8_same rfl rfl (by decide) (by decide) ?_ | refine V.lal omX8_same rfl rfl (ixN nv_lit (by omega) (by decide)) ?_ | refine V.br omX8_same rfl rfl (fun hc => ?_) (fun hc => ?_))
  all_goals refine V.iret omX8_same rfl rfl ⟨⟨_, rfl⟩, ?_⟩
  all_goals simp only [lgc_eq, va_up_self] at *
  all_goals simp [eq8, *]
set_option maxHeartbeats 4000000 in
set_option maxRecDepth 100000 in
theorem c8_same (d : Nat) {m n n2 : Nat} (hm : A 33 6 = nI m) (h6 : m ≤ 6) (r o : Int32) (b1 b2 : Nat → Int64) (hL : wn8 A m r = 0 → ldF n (bq (B 41) (A 38) (cl r)) = some b1) (hL2 : wn8 A m o = 0 → ldF n2 (bq b1 (A 38) (cl o)) = some b2) : C mX8_same (d + 2) 0 0 [.ref 33, .int r, .int o] (hp A B) (fun r' h' => (∃ B', h' = hp (s8_same A m r o b1 b2 (B 43)).2 B') ∧ r' = some (.int (s8_same A m r o b1 b2 (B 43)).1)) := by
  refine C.of [some (.ref 33), some (.int r), some (.int o), none, none, none, none, none, none, none, none] omX8_same rfl rfl rfl ?_
  by_cases h1 : 0 ≤ r ∧ r < A 33 6
  · iterate 2 (refine V.s omX8_same rfl rfl ?_)
    refine V.cVf omX8_same omX8_isKiss rfl rfl (c8_ikY _ h1) rfl rfl rfl rfl rfl rfl ?_
    refine V.brF omX8_same rfl rfl (by decide) ?_
    iterate 2 (refine V.s omX8_same rfl rfl ?_)
    by_cases h2 : 0 ≤ o ∧ o < A 33 6
    · refine V.cVf omX8_same omX8_isKiss rfl rfl (c8_ikY _ h2) rfl rfl rfl rfl rfl rfl ?_
      refine V.brT omX8_same rfl rfl (by decide) (by decide) ?_
      rw [hm] at h1 h2
      have hh : (0 ≤ r ∧ r < nI m) ∧ (0 ≤ o ∧ o < nI m) := ⟨h1, h2⟩
      have hw : wn8 A m r = if 0 < bs8 (kz (A 38) (cl r)) then 0 else -7 := by unfold wn8; rw [if_pos h1]
      have hw2 : wn8 A m o = if 0 < bs8 (kz (A 38) (cl o)) then 0 else -7 := by unfold wn8; rw [if_pos h2]
      simp only [s8_same, if_pos hh, hw, hw2]
      rw [hw] at hL
      rw [hw2] at hL2
      obtain ⟨i, hi, rfl⟩ := rng (by omega) h1
      obtain ⟨j, hj, rfl⟩ := rng (by omega) h2
      simp only [cl_nI (show i < 20 by omega), cl_nI (show j < 20 by omega)] at hL hL2 ⊢
      iterate 2 (refine V.s omX8_same rfl rfl ?_)
      refine V.cVf omX8_same omX8_heightOf rfl rfl (c8_heightOf _ (show i < 6 by omega) nv_nI) rfl rfl rfl rfl rfl rfl ?_
      iterate 2 (refine V.s omX8_same rfl rfl ?_)
      by_cases h3 : 0 < bs8 (kz (A 38) i)
      · refine V.brF omX8_same rfl rfl (fun h => Int64.not_le.mpr h3 (lgc_le.mp h)) ?_
        simp only [if_pos h3, true_and, forall_const] at hL ⊢
        iterate 2 (refine V.s omX8_same rfl rfl ?_)
        refine V.cVf omX8_same omX8_heightOf rfl rfl (c8_heightOf _ (show j < 6 by omega) nv_nI) rfl rfl rfl rfl rfl rfl ?_
        iterate 2 (refine V.s omX8_same rfl rfl ?_)
        by_cases h4 : 0 < bs8 (kz (A 38) j)
        · refine V.brT omX8_same rfl rfl (lgc_gt.mpr h4) (fun h => Int32.not_le.mpr h) ?_
          simp only [if_pos h4, if_true, forall_const] at hL2 ⊢
          iterate 2 (refine V.s omX8_same rfl rfl ?_)
          refine V.cVv omX8_same omX8_leads rfl rfl (c8_leads d (show i < 6 by omega) nv_nI hL) rfl rfl rfl rfl rfl rfl ?_
          refine V.s omX8_same rfl rfl ?_
          refine V.cVv omX8_same omX8_sorts rfl rfl (c8_so _ b1) rfl rfl rfl rfl rfl rfl ?_
          repeat (first | refine V.s omX8_same rfl rfl ?_ | refine V.gf omX8_same rfl rfl rfl rfl ?_ | refine V.lal omX8_same rfl rfl (ixN nv_lit (by omega) (by decide)) ?_)
          rw [va_up_self]
          refine V.cVv omX8_same omX8_leads rfl rfl (c8_leads (B := va_up (va_up B 41 b1) 43 (so8 b1 (B 43))) (b' := b2) (n := n2) d (show j < 6 by omega) nv_nI (by rw [va_up_ne _ _ (show (41 : Nat) ≠ 43 by decide), va_up_self]; exact hL2)) rfl rfl rfl rfl rfl rfl ?_
          refine V.s omX8_same rfl rfl ?_
          refine V.cVv omX8_same omX8_sorts rfl rfl (c8_so _ b2) rfl rfl rfl rfl rfl rfl ?_
          rw [va_up_self]
          exact same8_tail d _ _ (so8 b1 (B 43)) _ _
        · refine V.brF omX8_same rfl rfl (fun h => h4 (lgc_gt.mp h)) ?_
          simp only [if_neg h4]
          repeat (first | refine V.s omX8_same rfl rfl ?_ | refine V.gf omX8_same rfl rfl rfl rfl ?_ | refine V.cVf omX8_same omX8_no rfl rfl (c8_no _ _ (by decide)) rfl rfl rfl rfl rfl rfl ?_)
          exact V.iret omX8_same rfl rfl ⟨⟨B, rfl⟩, rfl⟩
      · refine V.brT omX8_same rfl rfl (lgc_le.mpr (Int64.not_lt.mp h3)) (fun h => Int32.not_lt.mpr h) ?_
        simp only [if_neg h3]
        repeat (first | refine V.s omX8_same rfl rfl ?_ | refine V.gf omX8_same rfl rfl rfl rfl ?_ | refine V.cVf omX8_same omX8_no rfl rfl (c8_no _ _ (by decide)) rfl rfl rfl rfl rfl rfl ?_)
        exact V.iret omX8_same rfl rfl ⟨⟨B, rfl⟩, rfl⟩
    · refine V.cVf omX8_same omX8_isKiss rfl rfl (c8_ikN _ h2) rfl rfl rfl rfl rfl rfl ?_
      refine V.brF omX8_same rfl rfl (by decide) ?_
      rw [hm] at h2
      repeat (first | refine V.s omX8_same rfl rfl ?_ | refine V.gf omX8_same rfl rfl rfl rfl ?_ | refine V.cVf omX8_same omX8_no rfl rfl (c8_no _ _ (by decide)) rfl rfl rfl rfl rfl rfl ?_)
      simp only [s8_same, if_neg (show ¬ ((0 ≤ r ∧ r < nI m) ∧ (0 ≤ o ∧ o < nI m)) from fun h => h2 h.2)]
      exact V.iret omX8_same rfl rfl ⟨⟨B, rfl⟩, rfl⟩
  · iterate 2 (refine V.s omX8_same rfl rfl ?_)
    refine V.cVf omX8_same omX8_isKiss rfl rfl (c8_ikN _ h1) rfl rfl rfl rfl rfl rfl ?_
    refine V.brT omX8_same rfl rfl (by decide) (by decide) ?_
    rw [hm] at h1
    repeat (first | refine V.s omX8_same rfl rfl ?_ | refine V.gf omX8_same rfl rfl rfl rfl ?_ | refine V.cVf omX8_same omX8_no rfl rfl (c8_no _ _ (by decide)) rfl rfl rfl rfl rfl rfl ?_)
    simp only [s8_same, if_neg (show ¬ ((0 ≤ r ∧ r < nI m) ∧ (0 ≤ o ∧ o < nI m)) from fun h => h1 h.1)]
    exact V.iret omX8_same rfl rfl ⟨⟨B, rfl⟩, rfl⟩
end MDD
end
section
section MDE
variable {A : Nat → Nat → Int32} {B : Nat → Nat → Int64}
theorem V.pfL {M : mt_T} {d mc ms k n pc np j : Nat} {Q : Option Value → hp_T → Prop} {L : List (Option Value)} {st : List Value} {v : Int64} (hM : mOK M) (hi : lkf (m_tab M) pc = some (.putfield j, np, 401)) (kk : V M d mc ms Q k n np L st (hp A (va_up B 33 (vp_updL (B 33) 17 v)))) : V M d mc ms Q k n pc L (.long v :: .ref 33 :: st) (hp A B) :=
  V.pf _ hM hi rfl rfl rfl rfl (show (17 : Nat) < 29 by decide) rfl kk
theorem V.pfL7 {M : mt_T} {d mc ms k n pc np j : Nat} {Q : Option Value → hp_T → Prop} {L : List (Option Value)} {st : List Value} {v : Int64} (hM : mOK M) (hi : lkf (m_tab M) pc = some (.putfield j, np, 71)) (kk : V M d mc ms Q k n np L st (hp A (va_up B 23 (vp_updL (B 23) 7 v)))) : V M d mc ms Q k n pc L (.long v :: .ref 23 :: st) (hp A B) :=
  V.pf _ hM hi rfl rfl rfl rfl (show (7 : Nat) < 10 by decide) rfl kk
theorem upd_ne {f : Nat → Int32} {k j : Nat} {x : Int32} (h : j ≠ k) : upd f k x j = f j := if_neg h
def r24 (v : Int64) : Int64 := v - v / 24 * 24
def rb8 (v : Int64) : Int32 := (1 : Int32) <<< ((r24 (r24 v + 24)).toInt32 &&& 31)
def cn3 (F : Nat → Int32) (v : Int64) (ex : Int32) : Nat → Int32 := upd (upd (upd F 13 (F 13 + 1)) 14 (F 14 + (if v = ex.toInt64 then 1 else 0))) 15 (F 15 ||| rb8 v)
def cnF (F : Nat → Int32) (v : Int64) (ex ab : Int32) : Nat → Int32 := if ab.toInt64 < v ∧ (F 20 = 0 ∨ v < (F 16).toInt64) then upd (upd (cn3 F v ex) 16 v.toInt32) 20 1 else cn3 F v ex
def cnG (G : Nat → Int64) (v : Int64) : Nat → Int64 := vp_updL G 17 (G 17 + v)
set_option maxHeartbeats 4000000 in
set_option maxRecDepth 100000 in
theorem counts_tail (d : Nat) (v : Int64) (ex ab : Int32) (F : Nat → Int32) (BB : Nat → Nat → Int64) : V mX8_counts d 0 0 (fun r h' => h' = hp (va_up A 33 (if ab.toInt64 < v ∧ (F 20 = 0 ∨ v < (F 16).toInt64) then upd (upd F 16 v.toInt32) 20 1 else F)) BB ∧ r = none) 0 0 66 [some (.ref 33), some (.long v), none, some (.int ex), some (.int ab)] [] (hp (va_up A 33 F) BB) := by
  iterate 4 (refine V.s omX8_counts rfl rfl ?_)
  by_cases h1 : ab.toInt64 < v
  · refine V.brF omX8_counts rfl rfl (fun h => Int64.not_le.mpr h1 (lgc_le.mp h)) ?_
    repeat (first | refine V.s omX8_counts rfl rfl ?_ | refine V.gf omX8_counts rfl rfl rfl rfl ?_)
    rw [va_up_self]
    by_cases h2 : F 20 = 0
    · refine V.brT omX8_counts rfl rfl h2 (fun h g => g h) ?_
      repeat (first | refine V.s omX8_counts rfl rfl ?_ | refine V.gf omX8_counts rfl rfl rfl rfl ?_ | refine V.pfH omX8_counts rfl rfl rfl rfl rfl rfl rfl ?_)
      rw [bx_uu, bx_uu, va_up_self, va_up_self]
      exact V.vret omX8_counts rfl rfl ⟨by rw [if_pos ⟨h1, Or.inl h2⟩], rfl⟩
    · refine V.brF omX8_counts rfl rfl h2 ?_
      repeat (first | refine V.s omX8_counts rfl rfl ?_ | refine V.gf omX8_counts rfl rfl rfl rfl ?_)
      rw [va_up_self]
      by_cases h3 : v < (F 16).toInt64
      · refine V.brF omX8_counts rfl rfl (fun h => Int64.not_lt.mpr (lgc_ge.mp h) h3) ?_
        repeat (first | refine V.s omX8_counts rfl rfl ?_ | refine V.gf omX8_counts rfl rfl rfl rfl ?_ | refine V.pfH omX8_counts rfl rfl rfl rfl rfl rfl rfl ?_)
        rw [bx_uu, bx_uu, va_up_self, va_up_self]
        exact V.vret omX8_counts rfl rfl ⟨by rw [if_pos ⟨h1, Or.inr h3⟩], rfl⟩
      · refine V.brT omX8_counts rfl rfl (lgc_ge.mpr (Int64.not_lt.mp h3)) (fun h => Int32.not_lt.mpr h) ?_
        exact V.vret omX8_counts rfl rfl ⟨by rw [if_neg (fun h => h.2.elim h2 h3)], rfl⟩
  · refine V.brT omX8_counts rfl rfl (lgc_le.mpr (Int64.not_lt.mp h1)) (fun h => Int32.not_lt.mpr h) ?_
    exact V.vret omX8_counts rfl rfl ⟨by rw [if_neg (fun h => h1 h.1)], rfl⟩
set_option maxHeartbeats 4000000 in
set_option maxRecDepth 100000 in
theorem c8_counts (d : Nat) (v : Int64) (ex ab : Int32) : C mX8_counts d 0 0 [.ref 33, .long v, .int ex, .int ab] (hp A B) (fun r h' => h' = hp (va_up A 33 (cnF (A 33) v ex ab)) (va_up B 33 (cnG (B 33) v)) ∧ r = none) := by
  refine C.of [some (.ref 33), some (.long v), none, some (.int ex), some (.int ab)] omX8_counts rfl rfl rfl ?_
  repeat (first | refine V.s omX8_counts rfl rfl ?_ | refine V.gf omX8_counts rfl rfl rfl rfl ?_ | refine V.pfH omX8_counts rfl rfl rfl rfl rfl rfl rfl ?_)
  refine V.pfL omX8_counts rfl ?_
  repeat (first | refine V.s omX8_counts rfl rfl ?_ | refine V.gf omX8_counts rfl rfl rfl rfl ?_)
  have fin : ∀ x : Int32, x = (if v = ex.toInt64 then 1 else 0) → V mX8_counts d 0 0 (fun r h' => h' = hp (va_up A 33 (cnF (A 33) v ex ab)) (va_up B 33 (cnG (B 33) v)) ∧ r = none) 0 0 37 [some (.ref 33), some (.long v), none, some (.int ex), some (.int ab)] [.int x, .int (A 33 14), .ref 33] (hp (va_up A 33 (upd (A 33) 13 (A 33 13 + 1))) (va_up B 33 (vp_updL (B 33) 17 (B 33 17 + v)))) := by
    intro x hx
    subst hx
    refine V.s omX8_counts rfl rfl ?_
    refine V.pfH omX8_counts rfl rfl rfl rfl rfl rfl rfl ?_
    repeat (first | refine V.s omX8_counts rfl rfl ?_ | refine V.gf omX8_counts rfl rfl rfl rfl ?_)
    refine V.lrem omX8_counts rfl (by decide) ?_
    iterate 2 (refine V.s omX8_counts rfl rfl ?_)
    refine V.s omX8_counts rfl rfl ?_
    refine V.lrem omX8_counts rfl (by decide) ?_
    iterate 3 (refine V.s omX8_counts rfl rfl ?_)
    refine V.pfH omX8_counts rfl rfl rfl rfl rfl rfl rfl ?_
    rw [bx_uu, bx_uu]
    have key := counts_tail (A := A) d v ex ab (cn3 (A 33) v ex) (va_up B 33 (cnG (B 33) v))
    exact key
  by_cases h1 : v = ex.toInt64
  · refine V.brF omX8_counts rfl rfl (fun h => h (lgc_eq.mpr h1)) ?_
    iterate 2 (refine V.s omX8_counts rfl rfl ?_)
    exact fin 1 (by rw [if_pos h1])
  · refine V.brT omX8_counts rfl rfl (fun h => h1 (lgc_eq.mp h)) (fun h => h) ?_
    refine V.s omX8_counts rfl rfl ?_
    exact fin 0 (by rw [if_neg h1])
def mi (P : Nat → Int32) : Nat → Nat → Int32
  | 0, _ => 1
  | n + 1, j => if ¬ mi P n j = 0 ∧ ¬ P n = nI j then 1 else 0
theorem mi_01 (P : Nat → Int32) (n j : Nat) : mi P n j = 0 ∨ mi P n j = 1 := by
  cases n with
  | zero => exact Or.inr rfl
  | succ n => unfold mi; split <;> simp
set_option maxHeartbeats 4000000 in
set_option maxRecDepth 100000 in
theorem meets_in (d : Nat) {n j : Nat} (hn : n ≤ 400) {Q : Option Value → hp_T → Prop} (kk : V mX8_meets d 0 0 Q 0 0 45 [some (.ref 33), some (.int (nI n)), some (.int (nI j)), some (.int (mi (A 45) n j)), some (.int (nI n))] [] (hp A B)) : ∀ (t k : Nat), k + t = n → V mX8_meets d 0 0 Q 0 0 12 [some (.ref 33), some (.int (nI n)), some (.int (nI j)), some (.int (mi (A 45) k j)), some (.int (nI k))] [] (hp A B) := by
  intro t
  induction t with
  | zero =>
    intro k hk
    have : k = n := by omega
    subst this
    iterate 2 (refine V.s omX8_meets rfl rfl ?_)
    refine V.brT omX8_meets rfl rfl Int32.le_rfl (fun h => Int32.not_lt.mpr h) ?_
    exact kk
  | succ t ih =>
    intro k hk
    iterate 2 (refine V.s omX8_meets rfl rfl ?_)
    refine V.brF omX8_meets rfl rfl (Int32.not_le.mpr (nI_lt (by omega) (by omega))) ?_
    refine V.s omX8_meets rfl rfl ?_
    have ih := ih (k + 1) (by omega)
    rw [mi] at ih
    by_cases h1 : mi (A 45) k j = 0
    · rw [if_neg (fun h => h.1 h1)] at ih
      refine V.brT omX8_meets rfl rfl h1 (fun h g => g h) ?_
      iterate 4 (refine V.s omX8_meets rfl rfl ?_)
      rw [nI_1]
      exact ih
    · refine V.brF omX8_meets rfl rfl h1 ?_
      repeat (first | refine V.s omX8_meets rfl rfl ?_ | refine V.gf omX8_meets rfl rfl rfl rfl ?_ | refine V.ial omX8_meets rfl rfl (ixN nv_nI (by omega) (by decide)) ?_)
      by_cases h2 : A 45 k = nI j
      · rw [if_neg (fun h => h.2 h2)] at ih
        refine V.brT omX8_meets rfl rfl h2 (fun h g => g h) ?_
        iterate 4 (refine V.s omX8_meets rfl rfl ?_)
        rw [nI_1]
        exact ih
      · rw [if_pos ⟨h1, h2⟩] at ih
        refine V.brF omX8_meets rfl rfl h2 ?_
        iterate 5 (refine V.s omX8_meets rfl rfl ?_)
        rw [nI_1]
        exact ih
set_option maxHeartbeats 4000000 in
set_option maxRecDepth 100000 in
theorem meets_st (d : Nat) {n j : Nat} (hn : n ≤ 400) (hj : j < 4) (T : Nat → Int32) (v3 v4 : Option Value) {Q : Option Value → hp_T → Prop} (kk : ∀ x y, V mX8_meets d 0 0 Q 0 0 2 [some (.ref 33), some (.int (nI n)), some (.int (nI (j + 1))), some (.int x), some (.int y)] [] (hp (va_up A 44 (upd T j (T j + mi (A 45) n j))) B)) : V mX8_meets d 0 0 Q 0 0 2 [some (.ref 33), some (.int (nI n)), some (.int (nI j)), v3, v4] [] (hp (va_up A 44 T) B) := by
  iterate 2 (refine V.s omX8_meets rfl rfl ?_)
  refine V.brF omX8_meets rfl rfl (by rw [nIl_le 4 (by omega) (by decide)]; omega) ?_
  iterate 4 (refine V.s omX8_meets rfl rfl ?_)
  refine meets_in (A := va_up A 44 T) d (n := n) (j := j) hn ?_ n 0 (by omega)
  rw [va_up_ne _ _ (show (45 : Nat) ≠ 44 by decide)]
  repeat (first | refine V.s omX8_meets rfl rfl ?_ | refine V.gf omX8_meets rfl rfl rfl rfl ?_ | refine V.ial omX8_meets rfl rfl (ixN nv_nI (by omega) (by decide)) ?_)
  rw [va_up_self]
  have fin : ∀ z : Int32, z = mi (A 45) n j → V mX8_meets d 0 0 Q 0 0 61 [some (.ref 33), some (.int (nI n)), some (.int (nI j)), some (.int (mi (A 45) n j)), some (.int (nI n))] [.int z, .int (T j), .int (nI j), .ref 44] (hp (va_up A 44 T) B) := by
    intro z hz
    subst hz
    refine V.s omX8_meets rfl rfl ?_
    refine V.iasH omX8_meets rfl rfl (ixN nv_nI hj (by decide)) ?_
    iterate 2 (refine V.s omX8_meets rfl rfl ?_)
    rw [nI_1, bx_uu, va_up_self]
    exact kk _ _
  rcases mi_01 (A 45) n j with h | h
  · refine V.brT omX8_meets rfl rfl h (fun h g => g h) ?_
    refine V.s omX8_meets rfl rfl ?_
    exact fin 0 h.symm
  · refine V.brF omX8_meets rfl rfl (fun g => absurd (g.symm.trans h) (by decide)) ?_
    iterate 2 (refine V.s omX8_meets rfl rfl ?_)
    exact fin 1 h.symm
def mtT (T P : Nat → Int32) (n : Nat) : Nat → Int32 := upd (upd (upd (upd T 0 (T 0 + mi P n 0)) 1 (T 1 + mi P n 1)) 2 (T 2 + mi P n 2)) 3 (T 3 + mi P n 3)
set_option maxHeartbeats 4000000 in
set_option maxRecDepth 100000 in
theorem c8_meets (d : Nat) {n : Nat} (hn : n ≤ 400) {a : Int32} (ha : NV a n) : C mX8_meets d 0 0 [.ref 33, .int a] (hp A B) (fun r h' => h' = hp (va_up A 44 (mtT (A 44) (A 45) n)) B ∧ r = none) := by
  unfold NV at ha
  subst ha
  refine C.of [some (.ref 33), some (.int (nI n)), none, none, none] omX8_meets rfl rfl rfl ?_
  iterate 2 (refine V.s omX8_meets rfl rfl ?_)
  have key : V mX8_meets d 0 0 (fun r h' => h' = hp (va_up A 44 (mtT (A 44) (A 45) n)) B ∧ r = none) 0 0 2 [some (.ref 33), some (.int (nI n)), some (.int (nI 0)), none, none] [] (hp (va_up A 44 (A 44)) B) := by
    refine meets_st (j := 0) d hn (by decide) _ _ _ (fun x y => ?_)
    refine meets_st (j := 1) d hn (by decide) _ _ _ (fun x y => ?_)
    refine meets_st (j := 2) d hn (by decide) _ _ _ (fun x y => ?_)
    refine meets_st (j := 3) d hn (by decide) _ _ _ (fun x y => ?_)
    iterate 2 (refine V.s omX8_meets rfl rfl ?_)
    refine V.brT omX8_meets rfl rfl (by decide) (by decide) ?_
    exact V.vret omX8_meets rfl rfl ⟨rfl, rfl⟩
  rw [va_self] at key
  exact key
end MDE
end
section
section MDF
variable {A : Nat → Nat → Int32} {B : Nat → Nat → Int64} {F T P : Nat → Int32} {G b : Nat → Int64}
theorem va_cm {α : Type} (f : Nat → α) {j k : Nat} (h : j ≠ k) (v w : α) : va_up (va_up f j v) k w = va_up (va_up f k w) j v := by
  funext i
  unfold va_up
  by_cases h1 : i = k
  · have h2 : ¬ i = j := fun e => h (e.symm.trans h1)
    simp [h1, h2]
    intro e
    exact absurd e.symm h
  · by_cases h2 : i = j <;> simp [h1, h2]
    intro e
    exact absurd e h
abbrev hW (A : Nat → Nat → Int32) (B : Nat → Nat → Int64) (F : Nat → Int32) (G : Nat → Int64) (T P : Nat → Int32) (b : Nat → Int64) : hp_T := hp (va_up (va_up (va_up A 45 P) 44 T) 33 F) (va_up (va_up B 33 G) 41 b)
theorem yB33 : va_up (va_up B 33 G) 41 b 33 = G := rfl
theorem yB33u {G2 : Nat → Int64} : va_up (va_up (va_up B 33 G) 41 b) 33 G2 = va_up (va_up B 33 G2) 41 b := by rw [va_cm _ (show (41 : Nat) ≠ 33 by decide), bx_uu]
theorem xA45 : va_up (va_up (va_up A 45 P) 44 T) 33 F 45 = P := rfl
theorem xA44 : va_up (va_up (va_up A 45 P) 44 T) 33 F 44 = T := rfl
theorem xA45u {P2 : Nat → Int32} : va_up (va_up (va_up (va_up A 45 P) 44 T) 33 F) 45 P2 = va_up (va_up (va_up A 45 P2) 44 T) 33 F := by rw [va_cm _ (show (33 : Nat) ≠ 45 by decide), va_cm _ (show (44 : Nat) ≠ 45 by decide), bx_uu]
theorem xA44u {T2 : Nat → Int32} : va_up (va_up (va_up (va_up A 45 P) 44 T) 33 F) 44 T2 = va_up (va_up (va_up A 45 P) 44 T2) 33 F := by rw [va_cm _ (show (33 : Nat) ≠ 44 by decide), bx_uu]
theorem hW_0 : hW A B (A 33) (B 33) (A 44) (A 45) (B 41) = hp A B := by
  unfold hW
  rw [va_self A 45, va_self A 44, va_self A 33, vb_self B 33, vb_self B 41]
theorem hW_ex (d : Nat) {p : Nat} (hp4 : p < 4) : C mX8_exchanges d 0 0 [.ref 33, .int (nI p)] (hW A B F G T P b) (fun r h' => h' = hW A B F G T P (vp_updL b p (ex8 b p)) ∧ r = none) := by
  have h := c8_exchanges (A := va_up (va_up (va_up A 45 P) 44 T) 33 F) (B := va_up (va_up B 33 G) 41 b) d hp4 (nv_nI (a := p))
  rw [va_up_self, bx_uu] at h
  exact h
theorem hW_cn (d : Nat) (v : Int64) (ex ab : Int32) : C mX8_counts d 0 0 [.ref 33, .long v, .int ex, .int ab] (hW A B F G T P b) (fun r h' => h' = hW A B (cnF F v ex ab) (cnG G v) T P b ∧ r = none) := by
  have h := c8_counts (A := va_up (va_up (va_up A 45 P) 44 T) 33 F) (B := va_up (va_up B 33 G) 41 b) d v ex ab
  rw [yB33, yB33u, va_up_self, bx_uu] at h
  exact h
theorem hW_mt (d : Nat) {n : Nat} (hn : n ≤ 400) : C mX8_meets d 0 0 [.ref 33, .int (nI n)] (hW A B F G T P b) (fun r h' => h' = hW A B F G (mtT T P n) P b ∧ r = none) := by
  have h := c8_meets (A := va_up (va_up (va_up A 45 P) 44 T) 33 F) (B := va_up (va_up B 33 G) 41 b) d hn (nv_nI (a := n))
  rw [xA44, xA45, xA44u] at h
  exact h
def PR (P : Nat → Int32) : List Nat → Prop
  | [] => True
  | a :: p => a < 4 ∧ P p.length = nI a ∧ PR P p
theorem PR_ext {P P' : Nat → Int32} : ∀ {p : List Nat}, PR P p → (∀ k, k < p.length → P' k = P k) → PR P' p
  | [], _, _ => trivial
  | a :: p, h, e => ⟨h.1, (e p.length (by simp)).trans h.2.1, PR_ext h.2.2 (fun k hk => e k (by simp; omega))⟩
theorem PR_up {P : Nat → Int32} {p : List Nat} {a : Nat} (h : PR P p) (ha : a < 4) : PR (upd P p.length (nI a)) (a :: p) :=
  ⟨ha, pk_us, PR_ext h (fun k hk => pk_un (by omega))⟩
def nb (l : List Nat) (j : Nat) : Int32 := if j ∈ l then 0 else 1
theorem mi_nb {P : Nat → Int32} {j : Nat} (hj : j < 4) : ∀ {p : List Nat}, PR P p → mi P p.length j = nb p j
  | [], _ => rfl
  | a :: p, h => by
    have ih := mi_nb hj h.2.2
    have ha := h.1
    show (if ¬ mi P p.length j = 0 ∧ ¬ P p.length = nI j then (1 : Int32) else 0) = nb (a :: p) j
    have e : (nI a = nI j) ↔ a = j := nI_eq (by omega) (by omega)
    simp only [ih, h.2.1, e]
    unfold nb
    by_cases h1 : j ∈ p
    · simp [h1]
    · by_cases h2 : a = j
      · subst h2; simp
      · have h3 : ¬ j = a := fun e => h2 e.symm
        simp [h1, h2, h3]
def mtL (T : Nat → Int32) (l : List Nat) : Nat → Int32 := upd (upd (upd (upd T 0 (T 0 + nb l 0)) 1 (T 1 + nb l 1)) 2 (T 2 + nb l 2)) 3 (T 3 + nb l 3)
theorem mtT_L {P : Nat → Int32} {p : List Nat} (h : PR P p) : mtT T P p.length = mtL T p := by
  unfold mtT mtL
  rw [mi_nb (j := 0) (by decide) h, mi_nb (j := 1) (by decide) h, mi_nb (j := 2) (by decide) h, mi_nb (j := 3) (by decide) h]
abbrev skp (most : Int64) (path : List Nat) (b : Nat → Int64) (a : Nat) : Prop := path.head? = some a ∨ most < ex8 b a
def wv (f : List Nat → (Nat → Int64) → List (Int64 × List Nat)) (most : Int64) (path : List Nat) (b : Nat → Int64) (a : Nat) : List (Int64 × List Nat) := if skp most path b a then [] else (ex8 b a, a :: path) :: f (a :: path) (vp_updL b a (ex8 b a))
def wk (most : Int64) : Nat → List Nat → (Nat → Int64) → List (Int64 × List Nat)
  | 0 => fun _ _ => []
  | n + 1 => fun path b => wv (wk most n) most path b 0 ++ (wv (wk most n) most path b 1 ++ (wv (wk most n) most path b 2 ++ wv (wk most n) most path b 3))
def wkOK (most : Int64) : Nat → List Nat → (Nat → Int64) → Prop
  | 0, _, _ => False
  | n + 1, path, b => ∀ a, a < 4 → ¬ skp most path b a → wkOK most n (a :: path) (vp_updL b a (ex8 b a))
abbrev St8 := (Nat → Int32) × (Nat → Int64) × (Nat → Int32)
def vf (ex ab : Int32) (S : St8) (x : Int64 × List Nat) : St8 := (cnF S.1 x.1 ex ab, cnG S.2.1 x.1, mtL S.2.2 x.2)
abbrev LW (most : Int64) (ex ab : Int32) (deep a : Nat) : List (Option Value) := [some (.ref 33), some (.long most), none, some (.int ex), some (.int ab), some (.int (nI deep)), some (.int (nI a))]
theorem ex8_ex8 (b : Nat → Int64) {a : Nat} (ha : a < 4) : vp_updL (vp_updL b a (ex8 b a)) a (ex8 (vp_updL b a (ex8 b a)) a) = b := by
  have key : ex8 (vp_updL b a (ex8 b a)) a = b a := by
    rcases (show a = 0 ∨ a = 1 ∨ a = 2 ∨ a = 3 by omega) with rfl | rfl | rfl | rfl
    · show 2 * (ex8 b 0 + b 1 + b 2 + b 3 - ex8 b 0) - ex8 b 0 = b 0
      unfold ex8
      grind
    · show 2 * (b 0 + ex8 b 1 + b 2 + b 3 - ex8 b 1) - ex8 b 1 = b 1
      unfold ex8
      grind
    · show 2 * (b 0 + b 1 + ex8 b 2 + b 3 - ex8 b 2) - ex8 b 2 = b 2
      unfold ex8
      grind
    · show 2 * (b 0 + b 1 + b 2 + ex8 b 3 - ex8 b 3) - ex8 b 3 = b 3
      unfold ex8
      grind
  rw [key]
  funext j
  unfold vp_updL
  by_cases h : j = a
  · simp [h]
  · simp [h]
set_option maxHeartbeats 4000000 in
set_option maxRecDepth 100000 in
theorem gt_190 (d : Nat) {most : Int64} {ex ab : Int32} {deep a : Nat} (ha : a < 4) {Q : Option Value → hp_T → Prop} (ky : ¬ most < ex8 b a → V mX8_goesThrough (d + 1) 0 0 Q 0 0 248 (LW most ex ab deep a) [] (hW A B F G T P b)) (kn : most < ex8 b a → V mX8_goesThrough (d + 1) 0 0 Q 0 0 242 (LW most ex ab deep a) [] (hW A B F G T P b)) : V mX8_goesThrough (d + 1) 0 0 Q 0 0 190 (LW most ex ab deep a) [] (hW A B F G T P b) := by
  repeat (first | refine V.s omX8_goesThrough rfl rfl ?_ | refine V.gf omX8_goesThrough rfl rfl rfl rfl ?_ | refine V.lal omX8_goesThrough rfl rfl (ixN nv_nI (by omega) (by decide)) ?_ | refine V.lal omX8_goesThrough rfl rfl (ixN nv_lit (by omega) (by decide)) ?_)
  refine V.br omX8_goesThrough rfl rfl (fun hc => ?_) (fun hc => ?_)
  · exact ky (Int64.not_lt.mpr (lgc_le.mp hc))
  · exact kn (lgc_gt.mp hc)
set_option maxHeartbeats 4000000 in
set_option maxRecDepth 100000 in
theorem gt_135 (d : Nat) {most : Int64} {ex ab : Int32} {path : List Nat} {a : Nat} (ha : a < 4) (hP : PR P path) (hl : path.length < 400) {Q : Option Value → hp_T → Prop} (ky : ¬ skp most path b a → V mX8_goesThrough (d + 1) 0 0 Q 0 0 248 (LW most ex ab path.length a) [] (hW A B F G T P b)) (kn : skp most path b a → V mX8_goesThrough (d + 1) 0 0 Q 0 0 242 (LW most ex ab path.length a) [] (hW A B F G T P b)) : V mX8_goesThrough (d + 1) 0 0 Q 0 0 135 (LW most ex ab path.length a) [] (hW A B F G T P b) := by
  iterate 2 (refine V.s omX8_goesThrough rfl rfl ?_)
  refine V.brT omX8_goesThrough rfl rfl (by rw [nIl_eq 4 (by omega) (by decide)]; omega) (fun h => h) ?_
  refine V.s omX8_goesThrough rfl rfl ?_
  cases path with
  | nil =>
    refine V.brT omX8_goesThrough rfl rfl (show nI 0 ≤ 0 by decide) (fun h => Int32.not_lt.mpr h) ?_
    exact gt_190 d ha (fun h => ky (fun g => g.elim (fun e => by cases e) h)) (fun h => kn (Or.inr h))
  | cons c p =>
    have hc4 := hP.1
    simp only [List.length_cons] at hl ⊢ ky kn
    refine V.brF omX8_goesThrough rfl rfl (nI_nle (by omega) (by omega)) ?_
    refine V.s omX8_goesThrough rfl rfl ?_
    refine V.gf omX8_goesThrough rfl rfl rfl rfl ?_
    iterate 3 (refine V.s omX8_goesThrough rfl rfl ?_)
    rw [nI_pred]
    refine V.ial omX8_goesThrough rfl rfl (ixN nv_nI (show p.length < 400 by omega) (by decide)) ?_
    rw [xA45, hP.2.1]
    refine V.s omX8_goesThrough rfl rfl ?_
    refine V.br omX8_goesThrough rfl rfl (fun hc => ?_) (fun hc => ?_)
    · rw [nI_eq (by omega) (by omega)] at hc
      exact kn (Or.inl (by rw [hc]; rfl))
    · rw [nI_eq (by omega) (by omega)] at hc
      exact gt_190 d ha (fun h => ky (fun g => g.elim (fun e => hc (by cases e; rfl)) h)) (fun h => kn (Or.inr h))
set_option maxHeartbeats 4000000 in
set_option maxRecDepth 100000 in
theorem gt_skip (d : Nat) {most : Int64} {ex ab : Int32} {deep a : Nat} {Q : Option Value → hp_T → Prop} (kk : V mX8_goesThrough (d + 1) 0 0 Q 0 0 135 (LW most ex ab deep (a + 1)) [] (hW A B F G T P b)) : V mX8_goesThrough (d + 1) 0 0 Q 0 0 242 (LW most ex ab deep a) [] (hW A B F G T P b) := by
  iterate 2 (refine V.s omX8_goesThrough rfl rfl ?_)
  rw [nI_1]
  exact kk
set_option maxHeartbeats 4000000 in
set_option maxRecDepth 100000 in
theorem gt_enter (d : Nat) {most : Int64} {ex ab : Int32} {path : List Nat} {a : Nat} (ha : a < 4) (hP : PR P path) (hl : path.length < 400) {Q : Option Value → hp_T → Prop} (kk : V mX8_goesThrough (d + 1) 0 0 Q 0 0 135 (LW most ex ab (path.length + 1) 0) [] (hW A B (cnF F (ex8 b a) ex ab) (cnG G (ex8 b a)) (mtL T (a :: path)) (upd P path.length (nI a)) (vp_updL b a (ex8 b a)))) : V mX8_goesThrough (d + 1) 0 0 Q 0 0 248 (LW most ex ab path.length a) [] (hW A B F G T P b) := by
  iterate 2 (refine V.s omX8_goesThrough rfl rfl ?_)
  refine V.cVv omX8_goesThrough omX8_exchanges rfl rfl (hW_ex d ha) rfl rfl rfl rfl rfl rfl ?_
  refine V.s omX8_goesThrough rfl rfl ?_
  refine V.gf omX8_goesThrough rfl rfl rfl rfl ?_
  iterate 2 (refine V.s omX8_goesThrough rfl rfl ?_)
  refine V.iasH omX8_goesThrough rfl rfl (ixN nv_nI (show path.length < 400 by omega) (by decide)) ?_
  rw [xA45, xA45u]
  refine V.s omX8_goesThrough rfl rfl ?_
  rw [nI_1]
  repeat (first | refine V.s omX8_goesThrough rfl rfl ?_ | refine V.gf omX8_goesThrough rfl rfl rfl rfl ?_ | refine V.lal omX8_goesThrough rfl rfl (ixN nv_nI (by omega) (by decide)) ?_)
  rw [va_up_self, pk_uLs]
  refine V.cVv omX8_goesThrough omX8_counts rfl rfl (hW_cn d _ _ _) rfl rfl rfl rfl rfl rfl ?_
  iterate 2 (refine V.s omX8_goesThrough rfl rfl ?_)
  refine V.cVv omX8_goesThrough omX8_meets rfl rfl (hW_mt d (show path.length + 1 ≤ 400 by omega)) rfl rfl rfl rfl rfl rfl ?_
  rw [show path.length + 1 = (a :: path).length from rfl, mtT_L (PR_up hP ha)]
  iterate 3 (refine V.s omX8_goesThrough rfl rfl ?_)
  exact kk
set_option maxHeartbeats 4000000 in
set_option maxRecDepth 100000 in
theorem gt_leave (d : Nat) {most : Int64} {ex ab : Int32} {k a : Nat} (ha : a < 4) (hl : k < 400) (hP : P k = nI a) {Q : Option Value → hp_T → Prop} (kk : V mX8_goesThrough (d + 1) 0 0 Q 0 0 135 (LW most ex ab k (a + 1)) [] (hW A B F G T P (vp_updL b a (ex8 b a)))) : V mX8_goesThrough (d + 1) 0 0 Q 0 0 135 (LW most ex ab (k + 1) 4) [] (hW A B F G T P b) := by
  iterate 2 (refine V.s omX8_goesThrough rfl rfl ?_)
  refine V.brF omX8_goesThrough rfl rfl (by decide) ?_
  refine V.s omX8_goesThrough rfl rfl ?_
  refine V.brT omX8_goesThrough rfl rfl (nI_ne0 (by omega) (by omega)) (fun h => h) ?_
  refine V.s omX8_goesThrough rfl rfl ?_
  rw [pk_m1]
  refine V.s omX8_goesThrough rfl rfl ?_
  refine V.gf omX8_goesThrough rfl rfl rfl rfl ?_
  refine V.s omX8_goesThrough rfl rfl ?_
  refine V.ial omX8_goesThrough rfl rfl (ixN nv_nI hl (by decide)) ?_
  rw [xA45, hP]
  iterate 3 (refine V.s omX8_goesThrough rfl rfl ?_)
  refine V.cVv omX8_goesThrough omX8_exchanges rfl rfl (hW_ex d ha) rfl rfl rfl rfl rfl rfl ?_
  iterate 2 (refine V.s omX8_goesThrough rfl rfl ?_)
  rw [nI_1]
  exact kk
theorem gt_walk (d : Nat) {most : Int64} {ex ab : Int32} {Q : Option Value → hp_T → Prop} : ∀ (n : Nat) (path : List Nat) (b : Nat → Int64) (S : St8) (P : Nat → Int32), PR P path → path.length + n ≤ 400 → wkOK most n path b → (∀ P', PR P' path → V mX8_goesThrough (d + 1) 0 0 Q 0 0 135 (LW most ex ab path.length 4) [] (hW A B ((wk most n path b).foldl (vf ex ab) S).1 ((wk most n path b).foldl (vf ex ab) S).2.1 ((wk most n path b).foldl (vf ex ab) S).2.2 P' b)) → V mX8_goesThrough (d + 1) 0 0 Q 0 0 135 (LW most ex ab path.length 0) [] (hW A B S.1 S.2.1 S.2.2 P b) := by
  intro n
  induction n with
  | zero => intro path b S P _ _ h; exact h.elim
  | succ n ih =>
    intro path b S P hP hl hk kk
    have st : ∀ (a : Nat), a < 4 → ∀ (S : St8) (P : Nat → Int32), PR P path → (∀ P', PR P' path → V mX8_goesThrough (d + 1) 0 0 Q 0 0 135 (LW most ex ab path.length (a + 1)) [] (hW A B ((wv (wk most n) most path b a).foldl (vf ex ab) S).1 ((wv (wk most n) most path b a).foldl (vf ex ab) S).2.1 ((wv (wk most n) most path b a).foldl (vf ex ab) S).2.2 P' b)) → V mX8_goesThrough (d + 1) 0 0 Q 0 0 135 (LW most ex ab path.length a) [] (hW A B S.1 S.2.1 S.2.2 P b) := by
      intro a ha S P hP kk
      refine gt_135 d ha hP (by omega) (fun hs => ?_) (fun hs => ?_)
      · refine gt_enter d ha hP (by omega) ?_
        refine ih (a :: path) (vp_updL b a (ex8 b a)) (vf ex ab S (ex8 b a, a :: path)) _ (PR_up hP ha) (by simp only [List.length_cons]; omega) (hk a ha hs) (fun P' hP' => ?_)
        refine gt_leave d ha (by omega) hP'.2.1 ?_
        rw [ex8_ex8 b ha]
        have k2 := kk P' hP'.2.2
        unfold wv at k2
        rw [if_neg hs, List.foldl_cons] at k2
        exact k2
      · refine gt_skip d ?_
        have k2 := kk P hP
        unfold wv at k2
        rw [if_pos hs] at k2
        exact k2
    refine st 0 (by decide) _ _ hP (fun P1 h1 => ?_)
    refine st 1 (by decide) _ _ h1 (fun P2 h2 => ?_)
    refine st 2 (by decide) _ _ h2 (fun P3 h3 => ?_)
    refine st 3 (by decide) _ _ h3 (fun P4 h4 => ?_)
    have k2 := kk P4 h4
    simp only [wk, List.foldl_append] at k2
    exact k2
set_option maxHeartbeats 4000000 in
set_option maxRecDepth 100000 in
theorem gt_z (d : Nat) {most : Int64} {ex ab : Int32} {i : Nat} (hi : i < 4) (v6 : Option Value) {Q : Option Value → hp_T → Prop} (kk : V mX8_goesThrough (d + 1) 0 0 Q 0 0 28 [some (.ref 33), some (.long most), none, some (.int ex), some (.int ab), some (.int (nI (i + 1))), v6] [] (hW A B F G (upd T i 0) P b)) : V mX8_goesThrough (d + 1) 0 0 Q 0 0 28 [some (.ref 33), some (.long most), none, some (.int ex), some (.int ab), some (.int (nI i)), v6] [] (hW A B F G T P b) := by
  iterate 2 (refine V.s omX8_goesThrough rfl rfl ?_)
  refine V.brF omX8_goesThrough rfl rfl (by rw [nIl_le 4 (by omega) (by decide)]; omega) ?_
  refine V.s omX8_goesThrough rfl rfl ?_
  refine V.gf omX8_goesThrough rfl rfl rfl rfl ?_
  iterate 2 (refine V.s omX8_goesThrough rfl rfl ?_)
  refine V.iasH omX8_goesThrough rfl rfl (ixN nv_nI hi (by decide)) ?_
  rw [xA44, xA44u]
  iterate 2 (refine V.s omX8_goesThrough rfl rfl ?_)
  rw [nI_1]
  exact kk
set_option maxHeartbeats 4000000 in
set_option maxRecDepth 100000 in
theorem gt_j (d : Nat) {most : Int64} {ex ab : Int32} {i j : Nat} (hi : i < 4) (hj : j < 4) {Q : Option Value → hp_T → Prop} (kk : V mX8_goesThrough (d + 1) 0 0 Q 0 0 89 (LW most ex ab i (j + 1)) [] (hW A B F G (upd T j (T j + nb [i] j)) P b)) : V mX8_goesThrough (d + 1) 0 0 Q 0 0 89 (LW most ex ab i j) [] (hW A B F G T P b) := by
  iterate 2 (refine V.s omX8_goesThrough rfl rfl ?_)
  refine V.brF omX8_goesThrough rfl rfl (by rw [nIl_le 4 (by omega) (by decide)]; omega) ?_
  refine V.s omX8_goesThrough rfl rfl ?_
  refine V.gf omX8_goesThrough rfl rfl rfl rfl ?_
  iterate 2 (refine V.s omX8_goesThrough rfl rfl ?_)
  refine V.ial omX8_goesThrough rfl rfl (ixN nv_nI hj (by decide)) ?_
  rw [xA44]
  iterate 2 (refine V.s omX8_goesThrough rfl rfl ?_)
  have fin : ∀ z : Int32, z = nb [i] j → V mX8_goesThrough (d + 1) 0 0 Q 0 0 115 (LW most ex ab i j) [.int z, .int (T j), .int (nI j), .ref 44] (hW A B F G T P b) := by
    intro z hz
    subst hz
    refine V.s omX8_goesThrough rfl rfl ?_
    refine V.iasH omX8_goesThrough rfl rfl (ixN nv_nI hj (by decide)) ?_
    rw [xA44, xA44u]
    iterate 2 (refine V.s omX8_goesThrough rfl rfl ?_)
    rw [nI_1]
    exact kk
  refine V.br omX8_goesThrough rfl rfl (fun hc => ?_) (fun hc => ?_)
  · rw [nI_eq (by omega) (by omega)] at hc
    refine V.s omX8_goesThrough rfl rfl ?_
    exact fin 0 (by unfold nb; simp [hc])
  · rw [nI_eq (by omega) (by omega)] at hc
    iterate 2 (refine V.s omX8_goesThrough rfl rfl ?_)
    exact fin 1 (by unfold nb; simp [hc])
def v0 (most : Int64) (b : Nat → Int64) (i : Nat) : List (Int64 × List Nat) := if most < b i then [] else [(b i, [i])]
set_option maxHeartbeats 4000000 in
set_option maxRecDepth 100000 in
theorem gt_i (d : Nat) {most : Int64} {ex ab : Int32} {i : Nat} (hi : i < 4) (v6 : Option Value) (S : St8) {Q : Option Value → hp_T → Prop} (kk : ∀ v6, V mX8_goesThrough (d + 1) 0 0 Q 0 0 51 [some (.ref 33), some (.long most), none, some (.int ex), some (.int ab), some (.int (nI (i + 1))), v6] [] (hW A B ((v0 most b i).foldl (vf ex ab) S).1 ((v0 most b i).foldl (vf ex ab) S).2.1 ((v0 most b i).foldl (vf ex ab) S).2.2 P b)) : V mX8_goesThrough (d + 1) 0 0 Q 0 0 51 [some (.ref 33), some (.long most), none, some (.int ex), some (.int ab), some (.int (nI i)), v6] [] (hW A B S.1 S.2.1 S.2.2 P b) := by
  iterate 2 (refine V.s omX8_goesThrough rfl rfl ?_)
  refine V.brF omX8_goesThrough rfl rfl (by rw [nIl_le 4 (by omega) (by decide)]; omega) ?_
  repeat (first | refine V.s omX8_goesThrough rfl rfl ?_ | refine V.gf omX8_goesThrough rfl rfl rfl rfl ?_ | refine V.lal omX8_goesThrough rfl rfl (ixN nv_nI (by omega) (by decide)) ?_)
  rw [va_up_self]
  refine V.br omX8_goesThrough rfl rfl (fun hc => ?_) (fun hc => ?_)
  · rw [lgc_le] at hc
    repeat (first | refine V.s omX8_goesThrough rfl rfl ?_ | refine V.gf omX8_goesThrough rfl rfl rfl rfl ?_ | refine V.lal omX8_goesThrough rfl rfl (ixN nv_nI (by omega) (by decide)) ?_)
    rw [va_up_self]
    refine V.cVv omX8_goesThrough omX8_counts rfl rfl (hW_cn d _ _ _) rfl rfl rfl rfl rfl rfl ?_
    iterate 2 (refine V.s omX8_goesThrough rfl rfl ?_)
    refine gt_j (j := 0) d hi (by decide) ?_
    refine gt_j (j := 1) d hi (by decide) ?_
    refine gt_j (j := 2) d hi (by decide) ?_
    refine gt_j (j := 3) d hi (by decide) ?_
    iterate 2 (refine V.s omX8_goesThrough rfl rfl ?_)
    refine V.brT omX8_goesThrough rfl rfl (by decide) (by decide) ?_
    iterate 2 (refine V.s omX8_goesThrough rfl rfl ?_)
    rw [nI_1]
    have k2 := kk (some (.int (nI 4)))
    unfold v0 at k2
    rw [if_neg (Int64.not_lt.mpr hc)] at k2
    exact k2
  · rw [lgc_gt] at hc
    iterate 3 (refine V.s omX8_goesThrough rfl rfl ?_)
    rw [nI_1]
    have k2 := kk v6
    unfold v0 at k2
    rw [if_pos hc] at k2
    exact k2
def F08 (F : Nat → Int32) : Nat → Int32 := upd (upd (upd (upd F 13 0) 14 0) 15 0) 20 0
def T08 (T : Nat → Int32) : Nat → Int32 := upd (upd (upd (upd T 0 0) 1 0) 2 0) 3 0
def vis (most : Int64) (n : Nat) (b : Nat → Int64) : List (Int64 × List Nat) := v0 most b 0 ++ (v0 most b 1 ++ (v0 most b 2 ++ (v0 most b 3 ++ wk most n [] b)))
def gS (most : Int64) (ex ab : Int32) (n : Nat) (b : Nat → Int64) (F : Nat → Int32) (G : Nat → Int64) (T : Nat → Int32) : St8 := (vis most n b).foldl (vf ex ab) (F08 F, vp_updL G 17 0, T08 T)
set_option maxHeartbeats 4000000 in
set_option maxRecDepth 100000 in
theorem c8_goesThrough (d : Nat) {most : Int64} {ex ab : Int32} {n : Nat} (hn : n ≤ 400) (hk : wkOK most n [] (B 41)) : C mX8_goesThrough (d + 1) 0 0 [.ref 33, .long most, .int ex, .int ab] (hp A B) (fun r h' => (∃ P', h' = hW A B (gS most ex ab n (B 41) (A 33) (B 33) (A 44)).1 (gS most ex ab n (B 41) (A 33) (B 33) (A 44)).2.1 (gS most ex ab n (B 41) (A 33) (B 33) (A 44)).2.2 P' (B 41)) ∧ r = none) := by
  refine C.of [some (.ref 33), some (.long most), none, some (.int ex), some (.int ab), none, none] omX8_goesThrough rfl rfl rfl ?_
  have key : ∀ (Q : Option Value → hp_T → Prop), (∀ P', Q none (hW A B (gS most ex ab n (B 41) (A 33) (B 33) (A 44)).1 (gS most ex ab n (B 41) (A 33) (B 33) (A 44)).2.1 (gS most ex ab n (B 41) (A 33) (B 33) (A 44)).2.2 P' (B 41))) → V mX8_goesThrough (d + 1) 0 0 Q 0 0 0 [some (.ref 33), some (.long most), none, some (.int ex), some (.int ab), none, none] [] (hW A B (A 33) (B 33) (A 44) (A 45) (B 41)) := by
    intro Q hQ
    iterate 2 (refine V.s omX8_goesThrough rfl rfl ?_)
    refine V.pfH omX8_goesThrough rfl rfl rfl rfl rfl rfl rfl ?_
    rw [bx_uu, va_up_self]
    iterate 2 (refine V.s omX8_goesThrough rfl rfl ?_)
    refine V.pfH omX8_goesThrough rfl rfl rfl rfl rfl rfl rfl ?_
    rw [bx_uu, va_up_self]
    iterate 2 (refine V.s omX8_goesThrough rfl rfl ?_)
    refine V.pfH omX8_goesThrough rfl rfl rfl rfl rfl rfl rfl ?_
    rw [bx_uu, va_up_self]
    iterate 2 (refine V.s omX8_goesThrough rfl rfl ?_)
    refine V.pfL omX8_goesThrough rfl ?_
    rw [yB33, yB33u]
    iterate 2 (refine V.s omX8_goesThrough rfl rfl ?_)
    refine V.pfH omX8_goesThrough rfl rfl rfl rfl rfl rfl rfl ?_
    rw [bx_uu, va_up_self]
    iterate 2 (refine V.s omX8_goesThrough rfl rfl ?_)
    refine gt_z (i := 0) d (by decide) _ ?_
    refine gt_z (i := 1) d (by decide) _ ?_
    refine gt_z (i := 2) d (by decide) _ ?_
    refine gt_z (i := 3) d (by decide) _ ?_
    iterate 2 (refine V.s omX8_goesThrough rfl rfl ?_)
    refine V.brT omX8_goesThrough rfl rfl (by decide) (by decide) ?_
    iterate 2 (refine V.s omX8_goesThrough rfl rfl ?_)
    refine gt_i (i := 0) d (by decide) _ (F08 (A 33), vp_updL (B 33) 17 0, T08 (A 44)) (fun v6 => ?_)
    refine gt_i (i := 1) d (by decide) _ _ (fun v6 => ?_)
    refine gt_i (i := 2) d (by decide) _ _ (fun v6 => ?_)
    refine gt_i (i := 3) d (by decide) _ _ (fun v6 => ?_)
    iterate 2 (refine V.s omX8_goesThrough rfl rfl ?_)
    refine V.brT omX8_goesThrough rfl rfl (by decide) (by decide) ?_
    iterate 4 (refine V.s omX8_goesThrough rfl rfl ?_)
    refine gt_walk d n [] (B 41) _ _ trivial (by simp only [List.length_nil]; omega) hk (fun P' _ => ?_)
    iterate 2 (refine V.s omX8_goesThrough rfl rfl ?_)
    refine V.brF omX8_goesThrough rfl rfl (by decide) ?_
    refine V.s omX8_goesThrough rfl rfl ?_
    refine V.brF omX8_goesThrough rfl rfl (by decide) ?_
    refine V.vret omX8_goesThrough rfl rfl ?_
    have h2 := hQ P'
    unfold gS vis at h2
    simp only [List.foldl_append] at h2
    exact h2
  have k1 := key (fun r h' => (∃ P', h' = hW A B (gS most ex ab n (B 41) (A 33) (B 33) (A 44)).1 (gS most ex ab n (B 41) (A 33) (B 33) (A 44)).2.1 (gS most ex ab n (B 41) (A 33) (B 33) (A 44)).2.2 P' (B 41)) ∧ r = none) (fun P' => ⟨⟨P', rfl⟩, rfl⟩)
  rw [hW_0] at k1
  exact k1
end MDF
end
section
section MDG
variable {A : Nat → Nat → Int32} {B : Nat → Nat → Int64}
def J8 (A A' : Nat → Nat → Int32) : Prop := ∀ q k, ¬ (q = 44 ∨ q = 45 ∨ (q = 33 ∧ (k = 13 ∨ k = 14 ∨ k = 15 ∨ k = 16 ∨ k = 20))) → A' q k = A q k
theorem J8_r (A : Nat → Nat → Int32) : J8 A A := fun _ _ _ => rfl
def jk (k : Nat) : Prop := k = 13 ∨ k = 14 ∨ k = 15 ∨ k = 16 ∨ k = 20
theorem cnF_ne {F : Nat → Int32} {v : Int64} {ex ab : Int32} {k : Nat} (h : ¬ jk k) : cnF F v ex ab k = F k := by
  unfold jk at h
  have h13 : k ≠ 13 := fun e => h (Or.inl e)
  have h14 : k ≠ 14 := fun e => h (Or.inr (Or.inl e))
  have h15 : k ≠ 15 := fun e => h (Or.inr (Or.inr (Or.inl e)))
  have h16 : k ≠ 16 := fun e => h (Or.inr (Or.inr (Or.inr (Or.inl e))))
  have h20 : k ≠ 20 := fun e => h (Or.inr (Or.inr (Or.inr (Or.inr e))))
  unfold cnF
  split
  · rw [pk_un h20, pk_un h16]
    unfold cn3
    rw [pk_un h15, pk_un h14, pk_un h13]
  · unfold cn3
    rw [pk_un h15, pk_un h14, pk_un h13]
theorem vf_ne {ex ab : Int32} {k : Nat} (h : ¬ jk k) : ∀ (l : List (Int64 × List Nat)) (S : St8), (l.foldl (vf ex ab) S).1 k = S.1 k
  | [], _ => rfl
  | x :: l, S => by
    rw [List.foldl_cons, vf_ne h l]
    exact cnF_ne h
theorem gS_ne {most : Int64} {ex ab : Int32} {n : Nat} {b : Nat → Int64} {F : Nat → Int32} {G : Nat → Int64} {T : Nat → Int32} {k : Nat} (h : ¬ jk k) : (gS most ex ab n b F G T).1 k = F k := by
  unfold gS
  rw [vf_ne h]
  unfold jk at h
  have h13 : k ≠ 13 := fun e => h (Or.inl e)
  have h14 : k ≠ 14 := fun e => h (Or.inr (Or.inl e))
  have h15 : k ≠ 15 := fun e => h (Or.inr (Or.inr (Or.inl e)))
  have h20 : k ≠ 20 := fun e => h (Or.inr (Or.inr (Or.inr (Or.inr e))))
  show F08 F k = F k
  unfold F08
  rw [pk_un h20, pk_un h15, pk_un h14, pk_un h13]
theorem J8_gS {most : Int64} {ex ab : Int32} {n : Nat} {b : Nat → Int64} {G : Nat → Int64} {T T' P' : Nat → Int32} : J8 A (va_up (va_up (va_up A 45 P') 44 T') 33 (gS most ex ab n b (A 33) G T).1) := by
  intro q k h
  unfold va_up
  by_cases h33 : q = 33
  · subst h33
    rw [if_pos rfl]
    exact gS_ne (fun g => h (Or.inr (Or.inr ⟨rfl, g⟩)))
  · rw [if_neg h33, if_neg (fun e => h (Or.inl e)), if_neg (fun e => h (Or.inr (Or.inl e)))]
theorem wy8_0 {m : Nat} {r w lo hi : Int32} {b' : Nat → Int64} (h : wy8 A m r w lo hi b' = 0) : wn8 A m r = 0 := by
  unfold wy8 at h
  split at h
  · assumption
  · exact h
theorem wy8_rf {m : Nat} {r w lo hi : Int32} {b' : Nat → Int64} (h : ¬ wy8 A m r w lo hi b' = 0) : rfB (wy8 A m r w lo hi b') = true := by
  by_cases h1 : wn8 A m r = 0
  · unfold wy8 at h ⊢
    rw [if_pos h1] at h ⊢
    split at h
    · exact absurd rfl h
    · next h2 => rw [if_neg h2]; decide
  · have e : wy8 A m r w lo hi b' = wn8 A m r := by unfold wy8; rw [if_neg h1]
    rw [e]
    exact rfB_wn8 h1
set_option maxHeartbeats 4000000 in
set_option maxRecDepth 100000 in
theorem c8_count (d : Nat) {m n nn : Nat} (hm : A 33 6 = nI m) (h6 : m ≤ 6) (r w : Int32) (b' : Nat → Int64) (hL : wn8 A m r = 0 → ldF n (bq (B 41) (A 38) (cl r)) = some b') (hn : nn ≤ 400) (hk : wy8 A m r w 0 300 b' = 0 → wkOK w.toInt64 nn [] b') : C mX8_count (d + 3) 0 0 [.ref 33, .int r, .int w] (hp A B) (fun r' h' => (∃ A' B', h' = hp A' B' ∧ J8 (if wy8 A m r w 0 300 b' = 0 then A else rmA A (rfI (wy8 A m r w 0 300 b'))) A') ∧ ∃ G T, r' = some (.int (if wy8 A m r w 0 300 b' = 0 then (gS w.toInt64 w 0 nn b' (A 33) G T).1 13 else wy8 A m r w 0 300 b'))) := by
  refine C.of [some (.ref 33), some (.int r), some (.int w), none] omX8_count rfl rfl rfl ?_
  iterate 5 (refine V.s omX8_count rfl rfl ?_)
  refine V.cVf omX8_count omX8_whyNot rfl rfl (c8_whyNot d hm h6 r w 0 300 b' hL) rfl rfl rfl rfl rfl rfl ?_
  iterate 2 (refine V.s omX8_count rfl rfl ?_)
  by_cases hw : wy8 A m r w 0 300 b' = 0
  · have hk := hk hw
    simp only [if_pos hw, if_pos (wy8_0 hw)]
    refine V.brT omX8_count rfl rfl hw (fun h g => g h) ?_
    iterate 5 (refine V.s omX8_count rfl rfl ?_)
    have cg := c8_goesThrough (A := A) (B := va_up B 41 b') (d + 1) (most := w.toInt64) (ex := w) (ab := 0) hn (by rw [va_up_self]; exact hk)
    rw [va_up_self] at cg
    refine V.cV omX8_count omX8_goesThrough cg rfl rfl rfl rfl rfl rfl rfl rfl (by omega) (by omega) (fun r' h' hQ => ?_)
    obtain ⟨⟨P', rfl⟩, rfl⟩ := hQ
    show V mX8_count (d + 3) 0 0 _ 0 0 29 _ [] _
    refine V.s omX8_count rfl rfl ?_
    refine V.gf omX8_count rfl rfl rfl rfl ?_
    exact V.iret omX8_count rfl rfl ⟨⟨_, _, rfl, J8_gS⟩, _, _, rfl⟩
  · simp only [if_neg hw]
    refine V.brF omX8_count rfl rfl hw ?_
    iterate 2 (refine V.s omX8_count rfl rfl ?_)
    refine V.cVf omX8_count omX8_no rfl rfl (c8_no _ _ (wy8_rf hw)) rfl rfl rfl rfl rfl rfl ?_
    exact V.iret omX8_count rfl rfl ⟨⟨_, _, rfl, J8_r _⟩, B 33, A 44, rfl⟩
set_option maxHeartbeats 4000000 in
set_option maxRecDepth 100000 in
theorem c8_bends (d : Nat) {m n nn : Nat} (hm : A 33 6 = nI m) (h6 : m ≤ 6) (r w : Int32) (b' : Nat → Int64) (hL : wn8 A m r = 0 → ldF n (bq (B 41) (A 38) (cl r)) = some b') (hn : nn ≤ 400) (hk : wy8 A m r w 0 300 b' = 0 → wkOK w.toInt64 nn [] b') : C mX8_bends (d + 3) 0 0 [.ref 33, .int r, .int w] (hp A B) (fun r' h' => (∃ A' B', h' = hp A' B' ∧ J8 (if wy8 A m r w 0 300 b' = 0 then A else rmA A (rfI (wy8 A m r w 0 300 b'))) A') ∧ ∃ G T, r' = some (.int (if wy8 A m r w 0 300 b' = 0 then (gS w.toInt64 w 0 nn b' (A 33) G T).1 14 else wy8 A m r w 0 300 b'))) := by
  refine C.of [some (.ref 33), some (.int r), some (.int w), none] omX8_bends rfl rfl rfl ?_
  iterate 5 (refine V.s omX8_bends rfl rfl ?_)
  refine V.cVf omX8_bends omX8_whyNot rfl rfl (c8_whyNot d hm h6 r w 0 300 b' hL) rfl rfl rfl rfl rfl rfl ?_
  iterate 2 (refine V.s omX8_bends rfl rfl ?_)
  by_cases hw : wy8 A m r w 0 300 b' = 0
  · have hk := hk hw
    simp only [if_pos hw, if_pos (wy8_0 hw)]
    refine V.brT omX8_bends rfl rfl hw (fun h g => g h) ?_
    iterate 5 (refine V.s omX8_bends rfl rfl ?_)
    have cg := c8_goesThrough (A := A) (B := va_up B 41 b') (d + 1) (most := w.toInt64) (ex := w) (ab := 0) hn (by rw [va_up_self]; exact hk)
    rw [va_up_self] at cg
    refine V.cV omX8_bends omX8_goesThrough cg rfl rfl rfl rfl rfl rfl rfl rfl (by omega) (by omega) (fun r' h' hQ => ?_)
    obtain ⟨⟨P', rfl⟩, rfl⟩ := hQ
    show V mX8_bends (d + 3) 0 0 _ 0 0 29 _ [] _
    refine V.s omX8_bends rfl rfl ?_
    refine V.gf omX8_bends rfl rfl rfl rfl ?_
    exact V.iret omX8_bends rfl rfl ⟨⟨_, _, rfl, J8_gS⟩, _, _, rfl⟩
  · simp only [if_neg hw]
    refine V.brF omX8_bends rfl rfl hw ?_
    iterate 2 (refine V.s omX8_bends rfl rfl ?_)
    refine V.cVf omX8_bends omX8_no rfl rfl (c8_no _ _ (wy8_rf hw)) rfl rfl rfl rfl rfl rfl ?_
    exact V.iret omX8_bends rfl rfl ⟨⟨_, _, rfl, J8_r _⟩, B 33, A 44, rfl⟩
set_option maxHeartbeats 4000000 in
set_option maxRecDepth 100000 in
theorem c8_rests (d : Nat) {m n nn : Nat} (hm : A 33 6 = nI m) (h6 : m ≤ 6) (r w : Int32) (b' : Nat → Int64) (hL : wn8 A m r = 0 → ldF n (bq (B 41) (A 38) (cl r)) = some b') (hn : nn ≤ 400) (hk : wy8 A m r w 0 300 b' = 0 → wkOK w.toInt64 nn [] b') : C mX8_rests (d + 3) 0 0 [.ref 33, .int r, .int w] (hp A B) (fun r' h' => (∃ A' B', h' = hp A' B' ∧ J8 (if wy8 A m r w 0 300 b' = 0 then A else rmA A (rfI (wy8 A m r w 0 300 b'))) A') ∧ ∃ G T, r' = some (.int (if wy8 A m r w 0 300 b' = 0 then (gS w.toInt64 w 0 nn b' (A 33) G T).1 15 else wy8 A m r w 0 300 b'))) := by
  refine C.of [some (.ref 33), some (.int r), some (.int w), none] omX8_rests rfl rfl rfl ?_
  iterate 5 (refine V.s omX8_rests rfl rfl ?_)
  refine V.cVf omX8_rests omX8_whyNot rfl rfl (c8_whyNot d hm h6 r w 0 300 b' hL) rfl rfl rfl rfl rfl rfl ?_
  iterate 2 (refine V.s omX8_rests rfl rfl ?_)
  by_cases hw : wy8 A m r w 0 300 b' = 0
  · have hk := hk hw
    simp only [if_pos hw, if_pos (wy8_0 hw)]
    refine V.brT omX8_rests rfl rfl hw (fun h g => g h) ?_
    iterate 5 (refine V.s omX8_rests rfl rfl ?_)
    have cg := c8_goesThrough (A := A) (B := va_up B 41 b') (d + 1) (most := w.toInt64) (ex := w) (ab := 0) hn (by rw [va_up_self]; exact hk)
    rw [va_up_self] at cg
    refine V.cV omX8_rests omX8_goesThrough cg rfl rfl rfl rfl rfl rfl rfl rfl (by omega) (by omega) (fun r' h' hQ => ?_)
    obtain ⟨⟨P', rfl⟩, rfl⟩ := hQ
    show V mX8_rests (d + 3) 0 0 _ 0 0 29 _ [] _
    refine V.s omX8_rests rfl rfl ?_
    refine V.gf omX8_rests rfl rfl rfl rfl ?_
    exact V.iret omX8_rests rfl rfl ⟨⟨_, _, rfl, J8_gS⟩, _, _, rfl⟩
  · simp only [if_neg hw]
    refine V.brF omX8_rests rfl rfl hw ?_
    iterate 2 (refine V.s omX8_rests rfl rfl ?_)
    refine V.cVf omX8_rests omX8_no rfl rfl (c8_no _ _ (wy8_rf hw)) rfl rfl rfl rfl rfl rfl ?_
    exact V.iret omX8_rests rfl rfl ⟨⟨_, _, rfl, J8_r _⟩, B 33, A 44, rfl⟩
set_option maxHeartbeats 4000000 in
set_option maxRecDepth 100000 in
theorem c8_next (d : Nat) {m n nn : Nat} (hm : A 33 6 = nI m) (h6 : m ≤ 6) (r w : Int32) (b' : Nat → Int64) (hL : wn8 A m r = 0 → ldF n (bq (B 41) (A 38) (cl r)) = some b') (hn : nn ≤ 400) (hk : wy8 A m r w (-1000000000) 299 b' = 0 → wkOK 300 nn [] b') : C mX8_next (d + 3) 0 0 [.ref 33, .int r, .int w] (hp A B) (fun r' h' => (∃ A' B', h' = hp A' B' ∧ J8 (if wy8 A m r w (-1000000000) 299 b' = 0 then A else rmA A (rfI (wy8 A m r w (-1000000000) 299 b'))) A') ∧ ∃ G T, r' = some (.int (if wy8 A m r w (-1000000000) 299 b' = 0 then (if (gS 300 0 w nn b' (A 33) G T).1 20 = 0 then -1 else (gS 300 0 w nn b' (A 33) G T).1 16) else wy8 A m r w (-1000000000) 299 b'))) := by
  refine C.of [some (.ref 33), some (.int r), some (.int w), none] omX8_next rfl rfl rfl ?_
  iterate 5 (refine V.s omX8_next rfl rfl ?_)
  refine V.cVf omX8_next omX8_whyNot rfl rfl (c8_whyNot d hm h6 r w (-1000000000) 299 b' hL) rfl rfl rfl rfl rfl rfl ?_
  iterate 2 (refine V.s omX8_next rfl rfl ?_)
  by_cases hw : wy8 A m r w (-1000000000) 299 b' = 0
  · have hk := hk hw
    simp only [if_pos hw, if_pos (wy8_0 hw)]
    refine V.brT omX8_next rfl rfl hw (fun h g => g h) ?_
    iterate 4 (refine V.s omX8_next rfl rfl ?_)
    have cg := c8_goesThrough (A := A) (B := va_up B 41 b') (d + 1) (most := 300) (ex := 0) (ab := w) hn (by rw [va_up_self]; exact hk)
    rw [va_up_self] at cg
    refine V.cV omX8_next omX8_goesThrough cg rfl rfl rfl rfl rfl rfl rfl rfl (by omega) (by omega) (fun r' h' hQ => ?_)
    obtain ⟨⟨P', rfl⟩, rfl⟩ := hQ
    show V mX8_next (d + 3) 0 0 _ 0 0 31 _ [] _
    refine V.s omX8_next rfl rfl ?_
    refine V.gf omX8_next rfl rfl rfl rfl ?_
    rw [va_up_self]
    refine V.br omX8_next rfl rfl (fun hc => ?_) (fun hc => ?_)
    · refine V.s omX8_next rfl rfl ?_
      exact V.iret omX8_next rfl rfl ⟨⟨_, _, rfl, J8_gS⟩, va_up B 41 b' 33, A 44, by rw [if_pos hc]⟩
    · refine V.s omX8_next rfl rfl ?_
      refine V.gf omX8_next rfl rfl rfl rfl ?_
      rw [va_up_self]
      refine V.s omX8_next rfl rfl ?_
      exact V.iret omX8_next rfl rfl ⟨⟨_, _, rfl, J8_gS⟩, va_up B 41 b' 33, A 44, by rw [if_neg hc]⟩
  · simp only [if_neg hw]
    refine V.brF omX8_next rfl rfl hw ?_
    iterate 2 (refine V.s omX8_next rfl rfl ?_)
    refine V.cVf omX8_next omX8_no rfl rfl (c8_no _ _ (wy8_rf hw)) rfl rfl rfl rfl rfl rfl ?_
    exact V.iret omX8_next rfl rfl ⟨⟨_, _, rfl, J8_r _⟩, B 33, A 44, rfl⟩
def wz8 (y v : Int32) : Int32 := if y = 0 then (if 0 ≤ v ∧ v ≤ 4 then 0 else -7) else y
theorem c8_i04 (d : Nat) (v : Int32) (h : hp_T) : C mX8_isIn d 0 0 [.long v.toInt64, .long 0, .long 4] h (fun r h' => h' = h ∧ r = some (.int (if 0 ≤ v ∧ v ≤ 4 then 1 else 0))) := by
  have h1 := c8_isIn d v.toInt64 0 4 h
  rw [show (0 : Int64) = (0 : Int32).toInt64 from rfl, show (4 : Int64) = (4 : Int32).toInt64 from rfl] at h1 ⊢
  simp only [Int32.toInt64_le] at h1
  exact h1
set_option maxHeartbeats 4000000 in
set_option maxRecDepth 100000 in
theorem c8_sum (d : Nat) {m n nn : Nat} (hm : A 33 6 = nI m) (h6 : m ≤ 6) (r w v : Int32) (b' : Nat → Int64) (hL : wn8 A m r = 0 → ldF n (bq (B 41) (A 38) (cl r)) = some b') (hn : nn ≤ 400) (hk : wy8 A m r w 0 300 b' = 0 → wkOK w.toInt64 nn [] b') : C mX8_sum (d + 3) 0 0 [.ref 33, .int r, .int w, .int v] (hp A B) (fun r' h' => (∃ A' B', h' = hp A' B' ∧ J8 (if wz8 (wy8 A m r w 0 300 b') v = 0 then A else rmA A (rfI (wz8 (wy8 A m r w 0 300 b') v))) A') ∧ ∃ G T, r' = some (.long (if wz8 (wy8 A m r w 0 300 b') v = 0 then (if v = 0 then (gS w.toInt64 w 0 nn b' (A 33) G T).2.1 17 else ((gS w.toInt64 w 0 nn b' (A 33) G T).2.2 (v.toNatClampNeg - 1)).toInt64) else 0))) := by
  refine C.of [some (.ref 33), some (.int r), some (.int w), some (.int v), none] omX8_sum rfl rfl rfl ?_
  iterate 5 (refine V.s omX8_sum rfl rfl ?_)
  refine V.cVf omX8_sum omX8_whyNot rfl rfl (c8_whyNot d hm h6 r w 0 300 b' hL) rfl rfl rfl rfl rfl rfl ?_
  iterate 2 (refine V.s omX8_sum rfl rfl ?_)
  have bad : ∀ (y : Int32) (X : Nat → Nat → Int64), ¬ y = 0 → rfB y = true → wz8 (wy8 A m r w 0 300 b') v = y → V mX8_sum (d + 3) 0 0 (fun r' h' => (∃ A' B', h' = hp A' B' ∧ J8 (if wz8 (wy8 A m r w 0 300 b') v = 0 then A else rmA A (rfI (wz8 (wy8 A m r w 0 300 b') v))) A') ∧ ∃ G T, r' = some (.long (if wz8 (wy8 A m r w 0 300 b') v = 0 then (if v = 0 then (gS w.toInt64 w 0 nn b' (A 33) G T).2.1 17 else ((gS w.toInt64 w 0 nn b' (A 33) G T).2.2 (v.toNatClampNeg - 1)).toInt64) else 0))) 0 0 33 [some (.ref 33), some (.int r), some (.int w), some (.int v), some (.int y)] [] (hp A X) := by
    intro y X hy hr he
    simp only [he, if_neg hy]
    refine V.s omX8_sum rfl rfl ?_
    refine V.brF omX8_sum rfl rfl hy ?_
    iterate 2 (refine V.s omX8_sum rfl rfl ?_)
    refine V.cVf omX8_sum omX8_none rfl rfl (c8_none _ _ hr) rfl rfl rfl rfl rfl rfl ?_
    refine V.s omX8_sum rfl rfl ?_
    exact V.lret omX8_sum rfl rfl ⟨⟨_, _, rfl, J8_r _⟩, B 33, A 44, rfl⟩
  by_cases hw : wy8 A m r w 0 300 b' = 0
  · have hk := hk hw
    simp only [if_pos (wy8_0 hw)]
    refine V.brF omX8_sum rfl rfl (fun h => h hw) ?_
    iterate 4 (refine V.s omX8_sum rfl rfl ?_)
    refine V.cSf omX8_sum omX8_isIn rfl rfl (c8_i04 _ v _) rfl rfl rfl rfl ?_
    by_cases hv : 0 ≤ v ∧ v ≤ 4
    · have hz : wz8 (wy8 A m r w 0 300 b') v = 0 := by unfold wz8; rw [if_pos hw, if_pos hv]
      simp only [hz, if_true]
      rw [if_pos hv]
      refine V.brT omX8_sum rfl rfl (by decide) (by decide) ?_
      refine V.s omX8_sum rfl rfl ?_
      refine V.brT omX8_sum rfl rfl hw (fun h g => g h) ?_
      iterate 5 (refine V.s omX8_sum rfl rfl ?_)
      have cg := c8_goesThrough (A := A) (B := va_up B 41 b') (d + 1) (most := w.toInt64) (ex := w) (ab := 0) hn (by rw [va_up_self]; exact hk)
      rw [va_up_self] at cg
      refine V.cV omX8_sum omX8_goesThrough cg rfl rfl rfl rfl rfl rfl rfl rfl (by omega) (by omega) (fun r' h' hQ => ?_)
      obtain ⟨⟨P', rfl⟩, rfl⟩ := hQ
      show V mX8_sum (d + 3) 0 0 _ 0 0 54 _ [] _
      refine V.s omX8_sum rfl rfl ?_
      by_cases h0 : v = 0
      · refine V.brF omX8_sum rfl rfl (fun h => h h0) ?_
        refine V.s omX8_sum rfl rfl ?_
        refine V.gf omX8_sum rfl rfl rfl rfl ?_
        refine V.s omX8_sum rfl rfl ?_
        exact V.lret omX8_sum rfl rfl ⟨⟨_, _, rfl, J8_gS⟩, va_up B 41 b' 33, A 44, by rw [if_pos h0]; rfl⟩
      · refine V.brT omX8_sum rfl rfl h0 (fun h => h) ?_
        have : ∃ j, j < 4 ∧ v = nI (j + 1) := by
          obtain ⟨j, hj, e⟩ := nI_of2 (x := v) (M := 4) (n := 4) rfl (Int32.not_lt.mpr hv.1) hv.2
          cases j with
          | zero => exact absurd e h0
          | succ j => exact ⟨j, by omega, e⟩
        obtain ⟨j, hj, rfl⟩ := this
        refine V.s omX8_sum rfl rfl ?_
        refine V.gf omX8_sum rfl rfl rfl rfl ?_
        iterate 3 (refine V.s omX8_sum rfl rfl ?_)
        rw [nI_pred]
        refine V.ial omX8_sum rfl rfl (ixN nv_nI hj (by decide)) ?_
        rw [xA44]
        refine V.s omX8_sum rfl rfl ?_
        exact V.lret omX8_sum rfl rfl ⟨⟨_, _, rfl, J8_gS⟩, va_up B 41 b' 33, A 44, by rw [if_neg h0, nI_clamp (by omega)]; rfl⟩
    · rw [if_neg hv]
      refine V.brF omX8_sum rfl rfl (by decide) ?_
      iterate 2 (refine V.s omX8_sum rfl rfl ?_)
      exact bad (-7) _ (by decide) (by decide) (by unfold wz8; rw [if_pos hw, if_neg hv])
  · refine V.brT omX8_sum rfl rfl hw (fun h => h) ?_
    exact bad _ _ hw (wy8_rf hw) (by unfold wz8; rw [if_neg hw])
end MDG
end
section
section MDH
variable {A : Nat → Nat → Int32} {B : Nat → Nat → Int64}
abbrev FR (F : Nat) : Prop := 1 ≤ F % 100 ∧ F / 100 ≤ F % 100 ∧ Nat.gcd (F % 100) (F / 100) = 1
def frF (f : Int32) : Int32 := if 0 < f ∧ FR f.toNatClampNeg then 1 else 0
theorem frF_01 (f : Int32) : frF f = 0 ∨ frF f = 1 := by unfold frF; split <;> simp
theorem rem100 {F : Nat} (h : F < 2 ^ 31) : nI F - nI F / 100 * 100 = nI (F % 100) := pk_rem (d := 100) h (by decide) (by decide)
theorem div100 {F : Nat} (h : F < 2 ^ 31) : nI F / 100 = nI (F / 100) := pk_div (d := 100) h (by decide) (by decide)
theorem told100 (p q : Nat) : (100 : Int32) * nI p + nI q = nI (100 * p + q) := by rw [show (100 : Int32) = nI 100 from rfl, pk_mul, nI_add]
theorem frF_0 {f : Int32} (h : ¬ 0 < f) : frF f = 0 := by unfold frF; rw [if_neg (fun g => h g.1)]
theorem nIpos {F : Nat} (h0 : 0 < F) (h : F < 2 ^ 31) : 0 < nI F := Int32.not_le.mp (nI_nle h0 h)
theorem frF_n {F : Nat} (hF : F < 2 ^ 31) (h0 : 0 < nI F) : frF (nI F) = if FR F then 1 else 0 := by
  unfold frF
  rw [nI_clamp hF]
  by_cases h : FR F
  · rw [if_pos h, if_pos ⟨h0, h⟩]
  · rw [if_neg h, if_neg (fun g => h g.2)]
theorem frF_ex {f : Int32} (h : frF f = 1) : ∃ F, f = nI F ∧ FR F ∧ F < 10000 ∧ 0 < F := by
  by_cases h0 : 0 < f
  · obtain ⟨F, hF, rfl⟩ := nI_of (x := f) (fun g => Int32.lt_irrefl (Int32.lt_trans h0 g))
    rw [frF_n hF h0] at h
    by_cases hR : FR F
    · exact ⟨F, rfl, hR, by have := hR.1; have := hR.2.1; omega, by have := hR.1; omega⟩
    · rw [if_neg hR] at h
      exact absurd h (by decide)
  · rw [frF_0 h0] at h
    exact absurd h (by decide)
theorem frF_of {F : Nat} (h : FR F) : frF (nI F) = 1 := by
  have := h.1
  have := h.2.1
  rw [frF_n (by omega) (nIpos (by omega) (by omega)), if_pos h]
theorem gcd_sm {F : Nat} : Nat.gcd (F % 100) (F / 100) < 2 ^ 31 ∨ ¬ 1 ≤ F % 100 := by
  by_cases h : 1 ≤ F % 100
  · have := Nat.gcd_le_left (F / 100) (show 0 < F % 100 by omega)
    left; omega
  · right; exact h
set_option maxHeartbeats 4000000 in
set_option maxRecDepth 100000 in
theorem c8_isFraction (d : Nat) (f : Int32) (h : hp_T) : C mX8_isFraction (d + 1) 0 0 [.int f] h (fun r h' => h' = h ∧ r = some (.int (frF f))) := by
  refine C.of [some (.int f)] omX8_isFraction rfl rfl rfl ?_
  refine V.s omX8_isFraction rfl rfl ?_
  by_cases h0 : 0 < f
  · refine V.brF omX8_isFraction rfl rfl (Int32.not_le.mpr h0) ?_
    obtain ⟨F, hF, rfl⟩ := nI_of (x := f) (fun g => Int32.lt_irrefl (Int32.lt_trans h0 g))
    rw [frF_n hF h0]
    iterate 2 (refine V.s omX8_isFraction rfl rfl ?_)
    refine V.irem omX8_isFraction rfl (by decide) ?_
    rw [rem100 hF]
    by_cases h1 : 1 ≤ F % 100
    · refine V.brF omX8_isFraction rfl rfl (nI_nle h1 (by omega)) ?_
      iterate 2 (refine V.s omX8_isFraction rfl rfl ?_)
      refine V.idiv omX8_isFraction rfl (by decide) ?_
      rw [div100 hF]
      iterate 2 (refine V.s omX8_isFraction rfl rfl ?_)
      refine V.irem omX8_isFraction rfl (by decide) ?_
      rw [rem100 hF]
      by_cases h2 : F / 100 ≤ F % 100
      · refine V.brF omX8_isFraction rfl rfl (nI_nlt h2 (by omega)) ?_
        iterate 2 (refine V.s omX8_isFraction rfl rfl ?_)
        refine V.irem omX8_isFraction rfl (by decide) ?_
        rw [rem100 hF]
        iterate 2 (refine V.s omX8_isFraction rfl rfl ?_)
        refine V.idiv omX8_isFraction rfl (by decide) ?_
        rw [div100 hF]
        refine V.cSf omX8_isFraction omX8_divisor rfl rfl (c8_divisor _ _ (by omega) (by omega)) rfl rfl rfl rfl ?_
        refine V.s omX8_isFraction rfl rfl ?_
        have hg : Nat.gcd (F % 100) (F / 100) < 2 ^ 31 := by
          rcases gcd_sm (F := F) with g | g
          · exact g
          · exact absurd h1 g
        by_cases h3 : Nat.gcd (F % 100) (F / 100) = 1
        · refine V.brF omX8_isFraction rfl rfl (fun g => g (by rw [h3]; rfl)) ?_
          iterate 2 (refine V.s omX8_isFraction rfl rfl ?_)
          exact V.zret omX8_isFraction rfl rfl (by decide) ⟨rfl, by rw [if_pos ⟨h1, h2, h3⟩]⟩
        · refine V.brT omX8_isFraction rfl rfl (by rw [nIl_eq 1 hg (by decide)]; exact h3) (fun g => g) ?_
          refine V.s omX8_isFraction rfl rfl ?_
          exact V.zret omX8_isFraction rfl rfl (by decide) ⟨rfl, by rw [if_neg (fun g => h3 g.2.2)]⟩
      · refine V.brT omX8_isFraction rfl rfl (nI_lt (by omega) (by omega)) (fun g => Int32.not_le.mpr g) ?_
        refine V.s omX8_isFraction rfl rfl ?_
        exact V.zret omX8_isFraction rfl rfl (by decide) ⟨rfl, by rw [if_neg (fun g => h2 g.2.1)]⟩
    · have e : F % 100 = 0 := by omega
      refine V.brT omX8_isFraction rfl rfl (by rw [e]; decide) (fun g => Int32.not_lt.mpr g) ?_
      refine V.s omX8_isFraction rfl rfl ?_
      exact V.zret omX8_isFraction rfl rfl (by decide) ⟨rfl, by rw [if_neg (fun g => h1 g.1)]⟩
  · refine V.brT omX8_isFraction rfl rfl (Int32.not_lt.mp h0) (fun g => Int32.not_lt.mpr g) ?_
    refine V.s omX8_isFraction rfl rfl ?_
    exact V.zret omX8_isFraction rfl rfl (by decide) ⟨rfl, by rw [frF_0 h0]⟩
def dt (F G : Nat) : Int32 := nI (F / 100) * nI (G % 100) - nI (G / 100) * nI (F % 100)
set_option maxHeartbeats 4000000 in
set_option maxRecDepth 100000 in
theorem c8_determinant (d : Nat) {F G : Nat} (hF : F < 2 ^ 31) (hG : G < 2 ^ 31) (h : hp_T) : C mX8_determinant d 0 0 [.int (nI F), .int (nI G)] h (fun r h' => h' = h ∧ r = some (.int (dt F G))) := by
  refine C.of [some (.int (nI F)), some (.int (nI G))] omX8_determinant rfl rfl rfl ?_
  iterate 2 (refine V.s omX8_determinant rfl rfl ?_)
  refine V.idiv omX8_determinant rfl (by decide) ?_
  iterate 2 (refine V.s omX8_determinant rfl rfl ?_)
  refine V.irem omX8_determinant rfl (by decide) ?_
  iterate 3 (refine V.s omX8_determinant rfl rfl ?_)
  refine V.idiv omX8_determinant rfl (by decide) ?_
  iterate 2 (refine V.s omX8_determinant rfl rfl ?_)
  refine V.irem omX8_determinant rfl (by decide) ?_
  rw [rem100 hF, rem100 hG, div100 hF, div100 hG]
  iterate 2 (refine V.s omX8_determinant rfl rfl ?_)
  exact V.iret omX8_determinant rfl rfl ⟨rfl, rfl⟩
theorem dt_toInt {F G : Nat} (hF : F < 10000) (hG : G < 10000) : (dt F G).toInt = ((F / 100 * (G % 100) : Nat) : Int) - ((G / 100 * (F % 100) : Nat) : Int) := by
  unfold dt
  rw [pk_mul, pk_mul]
  have h1 : F / 100 * (G % 100) ≤ 100 * 100 := Nat.mul_le_mul (by omega) (by omega)
  have h2 : G / 100 * (F % 100) ≤ 100 * 100 := Nat.mul_le_mul (by omega) (by omega)
  exact pk_sub_toInt (by omega) (by omega)
abbrev gtD (y x : Nat) : Prop := x / 100 * (y % 100) < y / 100 * (x % 100)
abbrev nrP (F G : Nat) : Prop := F / 100 * (G % 100) = G / 100 * (F % 100) + 1 ∨ G / 100 * (F % 100) = F / 100 * (G % 100) + 1
theorem dt_le {y x : Nat} (hy : y < 10000) (hx : x < 10000) : dt y x ≤ 0 ↔ ¬ gtD y x := by
  rw [Int32.le_iff_toInt_le, dt_toInt hy hx, show (0 : Int32).toInt = 0 from rfl]
  unfold gtD
  omega
theorem dt_1 {y x : Nat} (hy : y < 10000) (hx : x < 10000) : dt y x = 1 ↔ y / 100 * (x % 100) = x / 100 * (y % 100) + 1 := by
  rw [← Int32.toInt_inj, dt_toInt hy hx, show (1 : Int32).toInt = 1 from rfl]
  omega
theorem dt_m1 {y x : Nat} (hy : y < 10000) (hx : x < 10000) : dt y x = -1 ↔ x / 100 * (y % 100) = y / 100 * (x % 100) + 1 := by
  rw [← Int32.toInt_inj, dt_toInt hy hx, show (-1 : Int32).toInt = -1 from rfl]
  omega
theorem dt_nr {y x : Nat} (hy : y < 10000) (hx : x < 10000) : (dt y x = 1 ∨ dt y x = -1) ↔ nrP y x := by rw [dt_1 hy hx, dt_m1 hy hx]
def s8_near (A : Nat → Nat → Int32) (f g : Int32) : Int32 × (Nat → Nat → Int32) := if frF f = 1 ∧ frF g = 1 then (if nrP f.toNatClampNeg g.toNatClampNeg then 1 else 0, A) else (-7, rmA A 7)
set_option maxHeartbeats 4000000 in
set_option maxRecDepth 100000 in
theorem c8_near (d : Nat) (f g : Int32) : C mX8_near (d + 2) 0 0 [.ref 33, .int f, .int g] (hp A B) (fun r h' => h' = hp (s8_near A f g).2 B ∧ r = some (.int (s8_near A f g).1)) := by
  refine C.of [some (.ref 33), some (.int f), some (.int g), none] omX8_near rfl rfl rfl ?_
  refine V.s omX8_near rfl rfl ?_
  refine V.cSf omX8_near omX8_isFraction rfl rfl (c8_isFraction _ _ _) rfl rfl rfl rfl ?_
  rcases frF_01 f with h1 | h1
  · rw [h1]
    refine V.brT omX8_near rfl rfl rfl (by decide) ?_
    iterate 2 (refine V.s omX8_near rfl rfl ?_)
    refine V.cVf omX8_near omX8_no rfl rfl (c8_no _ _ (by decide)) rfl rfl rfl rfl rfl rfl ?_
    have e : s8_near A f g = (-7, rmA A 7) := by unfold s8_near; rw [if_neg (fun q => absurd (h1.symm.trans q.1) (by decide))]
    rw [e]
    exact V.iret omX8_near rfl rfl ⟨rfl, rfl⟩
  · rw [h1]
    refine V.brF omX8_near rfl rfl (by decide) ?_
    refine V.s omX8_near rfl rfl ?_
    refine V.cSf omX8_near omX8_isFraction rfl rfl (c8_isFraction _ _ _) rfl rfl rfl rfl ?_
    rcases frF_01 g with h2 | h2
    · rw [h2]
      refine V.brF omX8_near rfl rfl (by decide) ?_
      iterate 2 (refine V.s omX8_near rfl rfl ?_)
      refine V.cVf omX8_near omX8_no rfl rfl (c8_no _ _ (by decide)) rfl rfl rfl rfl rfl rfl ?_
      have e : s8_near A f g = (-7, rmA A 7) := by unfold s8_near; rw [if_neg (fun q => absurd (h2.symm.trans q.2) (by decide))]
      rw [e]
      exact V.iret omX8_near rfl rfl ⟨rfl, rfl⟩
    · rw [h2]
      refine V.brT omX8_near rfl rfl (by decide) (by decide) ?_
      have e : s8_near A f g = (if nrP f.toNatClampNeg g.toNatClampNeg then 1 else 0, A) := by unfold s8_near; rw [if_pos ⟨h1, h2⟩]
      rw [e]
      obtain ⟨F, rfl, hF, hF1, -⟩ := frF_ex h1
      obtain ⟨G, rfl, hG, hG1, -⟩ := frF_ex h2
      rw [nI_clamp (by omega), nI_clamp (by omega)]
      iterate 2 (refine V.s omX8_near rfl rfl ?_)
      refine V.cSf omX8_near omX8_determinant rfl rfl (c8_determinant _ (show F < 2 ^ 31 by omega) (show G < 2 ^ 31 by omega) _) rfl rfl rfl rfl ?_
      iterate 3 (refine V.s omX8_near rfl rfl ?_)
      by_cases h3 : dt F G = 1
      · refine V.brT omX8_near rfl rfl h3 (fun h g => g h) ?_
        iterate 2 (refine V.s omX8_near rfl rfl ?_)
        exact V.iret omX8_near rfl rfl ⟨rfl, by rw [if_pos ((dt_nr hF1 hG1).mp (Or.inl h3))]⟩
      · refine V.brF omX8_near rfl rfl h3 ?_
        iterate 2 (refine V.s omX8_near rfl rfl ?_)
        by_cases h4 : dt F G = -1
        · refine V.brF omX8_near rfl rfl (fun g => g h4) ?_
          iterate 2 (refine V.s omX8_near rfl rfl ?_)
          exact V.iret omX8_near rfl rfl ⟨rfl, by rw [if_pos ((dt_nr hF1 hG1).mp (Or.inr h4))]⟩
        · refine V.brT omX8_near rfl rfl h4 (fun g => g) ?_
          refine V.s omX8_near rfl rfl ?_
          exact V.iret omX8_near rfl rfl ⟨rfl, by rw [if_neg (fun q => ((dt_nr hF1 hG1).mpr q).elim h3 h4)]⟩
def btN (F G : Nat) : Nat := 100 * (F / 100 + G / 100) + (F % 100 + G % 100)
def s8_between (A : Nat → Nat → Int32) (f g : Int32) : Int32 × (Nat → Nat → Int32) := if frF f = 1 ∧ frF g = 1 ∧ nrP f.toNatClampNeg g.toNatClampNeg then (if f.toNatClampNeg % 100 + g.toNatClampNeg % 100 ≤ 99 then (nI (btN f.toNatClampNeg g.toNatClampNeg), A) else (-8, rmA A 8)) else (-7, rmA A 7)
set_option maxHeartbeats 4000000 in
set_option maxRecDepth 100000 in
theorem bt8_44 (d : Nat) {F G : Nat} (hF : F < 10000) (hG : G < 10000) (x : Int32) (v4 : Option Value) : V mX8_between (d + 2) 0 0 (fun r h' => h' = hp (if F % 100 + G % 100 ≤ 99 then (nI (btN F G), A) else (-8, rmA A 8)).2 B ∧ r = some (.int (if F % 100 + G % 100 ≤ 99 then (nI (btN F G), A) else (-8, rmA A 8)).1)) 0 0 44 [some (.ref 33), some (.int (nI F)), some (.int (nI G)), some (.int x), v4] [] (hp A B) := by
  iterate 2 (refine V.s omX8_between rfl rfl ?_)
  refine V.irem omX8_between rfl (by decide) ?_
  iterate 2 (refine V.s omX8_between rfl rfl ?_)
  refine V.irem omX8_between rfl (by decide) ?_
  rw [rem100 (show F < 2 ^ 31 by omega), rem100 (show G < 2 ^ 31 by omega)]
  refine V.s omX8_between rfl rfl ?_
  rw [nI_add]
  iterate 3 (refine V.s omX8_between rfl rfl ?_)
  by_cases h : F % 100 + G % 100 ≤ 99
  · rw [if_pos h]
    refine V.brT omX8_between rfl rfl (nI_le h (by decide)) (fun h => Int32.not_lt.mpr h) ?_
    iterate 3 (refine V.s omX8_between rfl rfl ?_)
    refine V.idiv omX8_between rfl (by decide) ?_
    iterate 2 (refine V.s omX8_between rfl rfl ?_)
    refine V.idiv omX8_between rfl (by decide) ?_
    rw [div100 (show F < 2 ^ 31 by omega), div100 (show G < 2 ^ 31 by omega)]
    refine V.s omX8_between rfl rfl ?_
    rw [nI_add]
    iterate 3 (refine V.s omX8_between rfl rfl ?_)
    rw [told100]
    exact V.iret omX8_between rfl rfl ⟨rfl, rfl⟩
  · rw [if_neg h]
    refine V.brF omX8_between rfl rfl (fun g => h ((nI_leI (b := 99) (by omega) (by decide)).mp g)) ?_
    iterate 2 (refine V.s omX8_between rfl rfl ?_)
    refine V.cVf omX8_between omX8_no rfl rfl (c8_no _ _ (by decide)) rfl rfl rfl rfl rfl rfl ?_
    refine V.s omX8_between rfl rfl ?_
    exact V.iret omX8_between rfl rfl ⟨rfl, rfl⟩
set_option maxHeartbeats 4000000 in
set_option maxRecDepth 100000 in
theorem c8_between (d : Nat) (f g : Int32) : C mX8_between (d + 2) 0 0 [.ref 33, .int f, .int g] (hp A B) (fun r h' => h' = hp (s8_between A f g).2 B ∧ r = some (.int (s8_between A f g).1)) := by
  refine C.of [some (.ref 33), some (.int f), some (.int g), none, none] omX8_between rfl rfl rfl ?_
  refine V.s omX8_between rfl rfl ?_
  refine V.cSf omX8_between omX8_isFraction rfl rfl (c8_isFraction _ _ _) rfl rfl rfl rfl ?_
  rcases frF_01 f with h1 | h1
  · rw [h1]
    refine V.brT omX8_between rfl rfl rfl (by decide) ?_
    iterate 2 (refine V.s omX8_between rfl rfl ?_)
    refine V.cVf omX8_between omX8_no rfl rfl (c8_no _ _ (by decide)) rfl rfl rfl rfl rfl rfl ?_
    have e : s8_between A f g = (-7, rmA A 7) := by unfold s8_between; rw [if_neg (fun q => absurd (h1.symm.trans q.1) (by decide))]
    rw [e]
    exact V.iret omX8_between rfl rfl ⟨rfl, rfl⟩
  · rw [h1]
    refine V.brF omX8_between rfl rfl (by decide) ?_
    refine V.s omX8_between rfl rfl ?_
    refine V.cSf omX8_between omX8_isFraction rfl rfl (c8_isFraction _ _ _) rfl rfl rfl rfl ?_
    rcases frF_01 g with h2 | h2
    · rw [h2]
      refine V.brF omX8_between rfl rfl (by decide) ?_
      iterate 2 (refine V.s omX8_between rfl rfl ?_)
      refine V.cVf omX8_between omX8_no rfl rfl (c8_no _ _ (by decide)) rfl rfl rfl rfl rfl rfl ?_
      have e : s8_between A f g = (-7, rmA A 7) := by unfold s8_between; rw [if_neg (fun q => absurd (h2.symm.trans q.2.1) (by decide))]
      rw [e]
      exact V.iret omX8_between rfl rfl ⟨rfl, rfl⟩
    · rw [h2]
      refine V.brT omX8_between rfl rfl (by decide) (by decide) ?_
      obtain ⟨F, rfl, hF, hF1, -⟩ := frF_ex h1
      obtain ⟨G, rfl, hG, hG1, -⟩ := frF_ex h2
      iterate 2 (refine V.s omX8_between rfl rfl ?_)
      refine V.cSf omX8_between omX8_determinant rfl rfl (c8_determinant _ (show F < 2 ^ 31 by omega) (show G < 2 ^ 31 by omega) _) rfl rfl rfl rfl ?_
      iterate 3 (refine V.s omX8_between rfl rfl ?_)
      have eY : nrP F G → s8_between A (nI F) (nI G) = (if F % 100 + G % 100 ≤ 99 then (nI (btN F G), A) else (-8, rmA A 8)) := by
        intro q
        unfold s8_between
        rw [nI_clamp (show F < 2 ^ 31 by omega), nI_clamp (show G < 2 ^ 31 by omega), if_pos ⟨h1, h2, q⟩]
      have eN : ¬ nrP F G → s8_between A (nI F) (nI G) = (-7, rmA A 7) := by
        intro q
        unfold s8_between
        rw [nI_clamp (show F < 2 ^ 31 by omega), nI_clamp (show G < 2 ^ 31 by omega), if_neg (fun w => q w.2.2)]
      by_cases h3 : dt F G = 1
      · refine V.brT omX8_between rfl rfl h3 (fun h g => g h) ?_
        rw [eY ((dt_nr hF1 hG1).mp (Or.inl h3))]
        exact bt8_44 d hF1 hG1 _ _
      · refine V.brF omX8_between rfl rfl h3 ?_
        iterate 2 (refine V.s omX8_between rfl rfl ?_)
        by_cases h4 : dt F G = -1
        · refine V.brT omX8_between rfl rfl h4 (fun h g => g h) ?_
          rw [eY ((dt_nr hF1 hG1).mp (Or.inr h4))]
          exact bt8_44 d hF1 hG1 _ _
        · refine V.brF omX8_between rfl rfl h4 ?_
          rw [eN (fun q => ((dt_nr hF1 hG1).mpr q).elim h3 h4)]
          iterate 2 (refine V.s omX8_between rfl rfl ?_)
          refine V.cVf omX8_between omX8_no rfl rfl (c8_no _ _ (by decide)) rfl rfl rfl rfl rfl rfl ?_
          exact V.iret omX8_between rfl rfl ⟨rfl, rfl⟩
def orF (n : Int32) : Int32 := if 1 ≤ n ∧ n ≤ 30 then 1 else 0
theorem orF_01 (n : Int32) : orF n = 0 ∨ orF n = 1 := by unfold orF; split <;> simp
theorem orF_ex {n : Int32} (h : orF n = 1) : ∃ N, n = nI N ∧ 1 ≤ N ∧ N ≤ 30 := by
  unfold orF at h
  split at h
  · next g =>
    obtain ⟨j, hj, rfl⟩ := nI_of2 (x := n) (M := 30) (n := 30) rfl (fun q => Int32.not_lt.mpr (Int32.le_trans (by decide) g.1) q) g.2
    have := (nIl_le 1 (show j < 2 ^ 31 by omega) (by decide)).mp g.1
    exact ⟨j, rfl, this, hj⟩
  · exact absurd h (by decide)
set_option maxHeartbeats 4000000 in
set_option maxRecDepth 100000 in
theorem c8_isRow (d : Nat) (n : Int32) (h : hp_T) : C mX8_isRow d 0 0 [.int n] h (fun r h' => h' = h ∧ r = some (.int (orF n))) := by
  refine C.of [some (.int n)] omX8_isRow rfl rfl rfl ?_
  iterate 2 (refine V.s omX8_isRow rfl rfl ?_)
  by_cases h1 : n < 1
  · refine V.brT omX8_isRow rfl rfl h1 (fun g => Int32.not_le.mpr g) ?_
    refine V.s omX8_isRow rfl rfl ?_
    exact V.zret omX8_isRow rfl rfl (by decide) ⟨rfl, by unfold orF; rw [if_neg (fun q => Int32.not_le.mpr h1 q.1)]⟩
  · refine V.brF omX8_isRow rfl rfl h1 ?_
    iterate 2 (refine V.s omX8_isRow rfl rfl ?_)
    by_cases h2 : 30 < n
    · refine V.brT omX8_isRow rfl rfl h2 (fun g => Int32.not_le.mpr g) ?_
      refine V.s omX8_isRow rfl rfl ?_
      exact V.zret omX8_isRow rfl rfl (by decide) ⟨rfl, by unfold orF; rw [if_neg (fun q => Int32.not_le.mpr h2 q.2)]⟩
    · refine V.brF omX8_isRow rfl rfl h2 ?_
      iterate 2 (refine V.s omX8_isRow rfl rfl ?_)
      exact V.zret omX8_isRow rfl rfl (by decide) ⟨rfl, by unfold orF; rw [if_pos ⟨Int32.not_lt.mp h1, Int32.not_lt.mp h2⟩]⟩
def ofF (f n : Int32) : Int32 := if frF f = 1 ∧ nI (f.toNatClampNeg % 100) ≤ n then 1 else 0
theorem ofF_01 (f n : Int32) : ofF f n = 0 ∨ ofF f n = 1 := by unfold ofF; split <;> simp
set_option maxHeartbeats 4000000 in
set_option maxRecDepth 100000 in
theorem c8_isOf (d : Nat) (f n : Int32) : C mX8_isOf (d + 2) 0 0 [.ref 33, .int f, .int n] (hp A B) (fun r h' => h' = hp A B ∧ r = some (.int (ofF f n))) := by
  refine C.of [some (.ref 33), some (.int f), some (.int n)] omX8_isOf rfl rfl rfl ?_
  refine V.s omX8_isOf rfl rfl ?_
  refine V.cSf omX8_isOf omX8_isFraction rfl rfl (c8_isFraction _ _ _) rfl rfl rfl rfl ?_
  rcases frF_01 f with h1 | h1
  · rw [h1]
    refine V.brT omX8_isOf rfl rfl rfl (by decide) ?_
    refine V.s omX8_isOf rfl rfl ?_
    exact V.zret omX8_isOf rfl rfl (by decide) ⟨rfl, by unfold ofF; rw [if_neg (fun q => absurd (h1.symm.trans q.1) (by decide))]⟩
  · rw [h1]
    refine V.brF omX8_isOf rfl rfl (by decide) ?_
    obtain ⟨F, rfl, hF, hF1, -⟩ := frF_ex h1
    iterate 2 (refine V.s omX8_isOf rfl rfl ?_)
    refine V.irem omX8_isOf rfl (by decide) ?_
    rw [rem100 (show F < 2 ^ 31 by omega)]
    refine V.s omX8_isOf rfl rfl ?_
    unfold ofF
    rw [nI_clamp (show F < 2 ^ 31 by omega)]
    by_cases h2 : nI (F % 100) ≤ n
    · refine V.brF omX8_isOf rfl rfl (Int32.not_lt.mpr h2) ?_
      iterate 2 (refine V.s omX8_isOf rfl rfl ?_)
      exact V.zret omX8_isOf rfl rfl (by decide) ⟨rfl, by rw [if_pos ⟨h1, h2⟩]⟩
    · refine V.brT omX8_isOf rfl rfl (Int32.not_le.mp h2) (fun g => Int32.not_le.mpr g) ?_
      refine V.s omX8_isOf rfl rfl ?_
      exact V.zret omX8_isOf rfl rfl (by decide) ⟨rfl, by rw [if_neg (fun q => h2 q.2)]⟩
end MDH
end
section
section MDI
variable {A : Nat → Nat → Int32} {B : Nat → Nat → Int64} {R : Nat → Int32}
def insD (x : Nat) : List Nat → List Nat
  | [] => [x]
  | y :: t => if gtD y x then y :: insD x t else x :: y :: t
theorem insD_len (x : Nat) : ∀ l, (insD x l).length = l.length + 1
  | [] => rfl
  | y :: t => by
    unfold insD
    split
    · simp only [List.length_cons, insD_len x t]
    · simp only [List.length_cons]
def rwP (q : Nat) : Nat → Nat → List Nat → List Nat
  | 0, _, l => l
  | t + 1, p, l => rwP q t (p + 1) (if Nat.gcd q p = 1 then insD (100 * p + q) l else l)
def rwQ : Nat → Nat → List Nat → List Nat
  | 0, _, l => l
  | t + 1, q, l => rwQ t (q + 1) (rwP q (q + 1) 0 l)
def rowD (n : Nat) : List Nat := rwQ n 1 []
theorem rwP_len (q : Nat) : ∀ (t p : Nat) (l : List Nat), l.length ≤ (rwP q t p l).length
  | 0, _, _ => Nat.le_refl _
  | t + 1, p, l => by
    have h := rwP_len q t (p + 1) (if Nat.gcd q p = 1 then insD (100 * p + q) l else l)
    unfold rwP
    split at h
    · next g => rw [insD_len] at h; rw [if_pos g]; omega
    · next g => rw [if_neg g]; exact h
theorem rwQ_len : ∀ (t q : Nat) (l : List Nat), l.length ≤ (rwQ t q l).length
  | 0, _, _ => Nat.le_refl _
  | t + 1, q, l => Nat.le_trans (rwP_len q (q + 1) 0 l) (rwQ_len t (q + 1) _)
def AD (R : Nat → Int32) : List Nat → Prop
  | [] => True
  | y :: t => y < 10000 ∧ R t.length = nI y ∧ AD R t
theorem AD_ext {R R' : Nat → Int32} : ∀ {p : List Nat}, AD R p → (∀ k, k < p.length → R' k = R k) → AD R' p
  | [], _, _ => trivial
  | a :: p, h, e => ⟨h.1, (e p.length (by simp)).trans h.2.1, AD_ext h.2.2 (fun k hk => e k (by simp; omega))⟩
abbrev hR (A : Nat → Nat → Int32) (B : Nat → Nat → Int64) (R : Nat → Int32) (s : Nat) : hp_T := hp (va_up (va_up A 46 R) 33 (upd (A 33) 24 (nI s))) B
theorem xA46 {F : Nat → Int32} : va_up (va_up A 46 R) 33 F 46 = R := rfl
theorem xA46u {F R2 : Nat → Int32} : va_up (va_up (va_up A 46 R) 33 F) 46 R2 = va_up (va_up A 46 R2) 33 F := by rw [va_cm _ (show (33 : Nat) ≠ 46 by decide), bx_uu]
theorem upd_uu {f : Nat → Int32} {k : Nat} {x y : Int32} : upd (upd f k x) k y = upd f k y := by
  funext j
  unfold upd
  split <;> rfl
set_option maxHeartbeats 4000000 in
set_option maxRecDepth 100000 in
theorem mr_85 (d : Nat) {p q a s : Nat} (n : Int32) (ha : a < 300) {Q : Option Value → hp_T → Prop} (kk : V mX8_makesRow (d + 1) 0 0 Q 0 0 98 [some (.ref 33), some (.int n), some (.int (nI q)), some (.int (nI p)), some (.int (nI a))] [] (hR A B (upd R a (nI (100 * p + q))) s)) : V mX8_makesRow (d + 1) 0 0 Q 0 0 85 [some (.ref 33), some (.int n), some (.int (nI q)), some (.int (nI p)), some (.int (nI a))] [] (hR A B R s) := by
  refine V.s omX8_makesRow rfl rfl ?_
  refine V.gf omX8_makesRow rfl rfl rfl rfl ?_
  iterate 6 (refine V.s omX8_makesRow rfl rfl ?_)
  rw [told100]
  refine V.iasH omX8_makesRow rfl rfl (ixN nv_nI ha (by decide)) ?_
  rw [xA46, xA46u]
  exact kk
set_option maxHeartbeats 4000000 in
set_option maxRecDepth 100000 in
theorem mr_37 (d : Nat) {p q s : Nat} (n : Int32) (hx : 100 * p + q < 10000) {Q : Option Value → hp_T → Prop} : ∀ (t : List Nat) (R : Nat → Int32), AD R t → t.length < 300 → (∀ (R' : Nat → Int32) (a : Nat), AD R' (insD (100 * p + q) t) → (∀ k, t.length < k → R' k = R k) → V mX8_makesRow (d + 1) 0 0 Q 0 0 98 [some (.ref 33), some (.int n), some (.int (nI q)), some (.int (nI p)), some (.int (nI a))] [] (hR A B R' s)) → V mX8_makesRow (d + 1) 0 0 Q 0 0 37 [some (.ref 33), some (.int n), some (.int (nI q)), some (.int (nI p)), some (.int (nI t.length))] [] (hR A B R s)
  | [], R, hA, hl, kk => by
    refine V.s omX8_makesRow rfl rfl ?_
    refine V.brT omX8_makesRow rfl rfl (show nI 0 ≤ 0 by decide) (fun h => Int32.not_lt.mpr h) ?_
    refine mr_85 d n (a := 0) (by decide) ?_
    exact kk _ 0 ⟨hx, pk_us, trivial⟩ (fun k hk => pk_un (by simp only [List.length_nil] at hk; omega))
  | y :: t, R, hA, hl, kk => by
    simp only [List.length_cons] at hl ⊢
    refine V.s omX8_makesRow rfl rfl ?_
    refine V.brF omX8_makesRow rfl rfl (nI_nle (by omega) (by omega)) ?_
    refine V.s omX8_makesRow rfl rfl ?_
    refine V.gf omX8_makesRow rfl rfl rfl rfl ?_
    iterate 3 (refine V.s omX8_makesRow rfl rfl ?_)
    rw [nI_pred]
    refine V.ial omX8_makesRow rfl rfl (ixN nv_nI (show t.length < 300 by omega) (by decide)) ?_
    rw [xA46, hA.2.1]
    iterate 5 (refine V.s omX8_makesRow rfl rfl ?_)
    rw [told100]
    have hy := hA.1
    refine V.cSf omX8_makesRow omX8_determinant rfl rfl (c8_determinant d (show y < 2 ^ 31 by omega) (show 100 * p + q < 2 ^ 31 by omega) _) rfl rfl rfl rfl ?_
    by_cases hg : gtD y (100 * p + q)
    · refine V.brF omX8_makesRow rfl rfl (fun h => (dt_le hy hx).mp h hg) ?_
      refine V.s omX8_makesRow rfl rfl ?_
      refine V.gf omX8_makesRow rfl rfl rfl rfl ?_
      iterate 2 (refine V.s omX8_makesRow rfl rfl ?_)
      refine V.gf omX8_makesRow rfl rfl rfl rfl ?_
      iterate 3 (refine V.s omX8_makesRow rfl rfl ?_)
      rw [nI_pred]
      refine V.ial omX8_makesRow rfl rfl (ixN nv_nI (show t.length < 300 by omega) (by decide)) ?_
      rw [xA46, hA.2.1]
      refine V.iasH omX8_makesRow rfl rfl (ixN nv_nI (show t.length + 1 < 300 by omega) (by decide)) ?_
      rw [xA46, xA46u]
      refine V.s omX8_makesRow rfl rfl ?_
      rw [pk_m1]
      refine V.s omX8_makesRow rfl rfl ?_
      refine mr_37 d n hx t _ (AD_ext hA.2.2 (fun k hk => pk_un (by omega))) (by omega) (fun R' a h1 h2 => ?_)
      refine kk R' a ?_ (fun k hk => ?_)
      · unfold insD
        rw [if_pos hg]
        exact ⟨hy, by rw [insD_len, h2 _ (by omega)]; exact pk_us, h1⟩
      · simp only [List.length_cons] at hk
        rw [h2 k (by omega)]
        exact pk_un (by omega)
    · refine V.brT omX8_makesRow rfl rfl ((dt_le hy hx).mpr hg) (fun h => Int32.not_lt.mpr h) ?_
      refine mr_85 d n (by omega) ?_
      refine kk _ _ ?_ (fun k hk => ?_)
      · unfold insD
        rw [if_neg hg]
        exact ⟨hx, pk_us, hy, (pk_un (by simp)).trans hA.2.1, AD_ext hA.2.2 (fun k hk => pk_un (by omega))⟩
      · simp only [List.length_cons] at hk
        exact pk_un (by omega)
set_option maxHeartbeats 4000000 in
set_option maxRecDepth 100000 in
theorem mr_14 (d : Nat) {q : Nat} (n : Int32) (hq1 : 1 ≤ q) (hq : q < 100) {Q : Option Value → hp_T → Prop} : ∀ (t p : Nat) (l : List Nat) (R : Nat → Int32) (v4 : Option Value), p + t = q + 1 → AD R l → (rwP q t p l).length ≤ 300 → (∀ (R' : Nat → Int32) (v3 v4 : Option Value), AD R' (rwP q t p l) → V mX8_makesRow (d + 1) 0 0 Q 0 0 114 [some (.ref 33), some (.int n), some (.int (nI q)), v3, v4] [] (hR A B R' (rwP q t p l).length)) → V mX8_makesRow (d + 1) 0 0 Q 0 0 14 [some (.ref 33), some (.int n), some (.int (nI q)), some (.int (nI p)), v4] [] (hR A B R l.length) := by
  intro t
  induction t with
  | zero =>
    intro p l R v4 hp' hA hl kk
    have : p = q + 1 := by omega
    subst this
    iterate 2 (refine V.s omX8_makesRow rfl rfl ?_)
    refine V.brT omX8_makesRow rfl rfl (nI_lt (by omega) (by omega)) (fun h => Int32.not_le.mpr h) ?_
    exact kk R _ _ hA
  | succ t ih =>
    intro p l R v4 hp' hA hl kk
    iterate 2 (refine V.s omX8_makesRow rfl rfl ?_)
    refine V.brF omX8_makesRow rfl rfl (nI_nlt (by omega) (by omega)) ?_
    iterate 2 (refine V.s omX8_makesRow rfl rfl ?_)
    refine V.cSf omX8_makesRow omX8_divisor rfl rfl (c8_divisor d _ (show q < 2 ^ 31 by omega) (show p < 2 ^ 31 by omega)) rfl rfl rfl rfl ?_
    refine V.s omX8_makesRow rfl rfl ?_
    have hg2 : Nat.gcd q p < 2 ^ 31 := by
      have := Nat.gcd_le_left p (show 0 < q by omega)
      omega
    simp only [rwP] at hl kk
    by_cases hg : Nat.gcd q p = 1
    · rw [if_pos hg] at hl kk
      have hl2 := rwP_len q t (p + 1) (insD (100 * p + q) l)
      rw [insD_len] at hl2
      refine V.brT omX8_makesRow rfl rfl (by rw [hg]; rfl) (fun h g => g h) ?_
      refine V.s omX8_makesRow rfl rfl ?_
      refine V.gf omX8_makesRow rfl rfl rfl rfl ?_
      rw [va_up_self, pk_us]
      refine V.s omX8_makesRow rfl rfl ?_
      refine mr_37 d n (by omega) l R hA (by omega) (fun R' a h1 h2 => ?_)
      iterate 2 (refine V.s omX8_makesRow rfl rfl ?_)
      refine V.gf omX8_makesRow rfl rfl rfl rfl ?_
      rw [va_up_self, pk_us]
      iterate 2 (refine V.s omX8_makesRow rfl rfl ?_)
      rw [nI_1]
      refine V.pfH omX8_makesRow rfl rfl rfl rfl rfl rfl rfl ?_
      rw [bx_uu, va_up_self, upd_uu]
      iterate 2 (refine V.s omX8_makesRow rfl rfl ?_)
      rw [nI_1]
      have k2 := ih (p + 1) (insD (100 * p + q) l) R' (some (.int (nI a))) (by omega) h1 hl kk
      rw [insD_len] at k2
      exact k2
    · rw [if_neg hg] at hl kk
      refine V.brF omX8_makesRow rfl rfl (by rw [nIl_eq 1 hg2 (by decide)]; exact hg) ?_
      iterate 3 (refine V.s omX8_makesRow rfl rfl ?_)
      rw [nI_1]
      exact ih (p + 1) l R v4 (by omega) hA hl kk
set_option maxHeartbeats 4000000 in
set_option maxRecDepth 100000 in
theorem mr_7 (d : Nat) {N : Nat} (hN : N ≤ 30) {Q : Option Value → hp_T → Prop} : ∀ (t q : Nat) (l : List Nat) (R : Nat → Int32) (v3 v4 : Option Value), q + t = N + 1 → 1 ≤ q → AD R l → (rwQ t q l).length ≤ 300 → (∀ (R' : Nat → Int32), AD R' (rwQ t q l) → Q none (hR A B R' (rwQ t q l).length)) → V mX8_makesRow (d + 1) 0 0 Q 0 0 7 [some (.ref 33), some (.int (nI N)), some (.int (nI q)), v3, v4] [] (hR A B R l.length) := by
  intro t
  induction t with
  | zero =>
    intro q l R v3 v4 hq h1 hA hl kk
    have : q = N + 1 := by omega
    subst this
    iterate 2 (refine V.s omX8_makesRow rfl rfl ?_)
    refine V.brT omX8_makesRow rfl rfl (nI_lt (by omega) (by omega)) (fun h => Int32.not_le.mpr h) ?_
    exact V.vret omX8_makesRow rfl rfl (kk R hA)
  | succ t ih =>
    intro q l R v3 v4 hq h1 hA hl kk
    iterate 2 (refine V.s omX8_makesRow rfl rfl ?_)
    refine V.brF omX8_makesRow rfl rfl (nI_nlt (by omega) (by omega)) ?_
    iterate 2 (refine V.s omX8_makesRow rfl rfl ?_)
    have hl2 : (rwP q (q + 1) 0 l).length ≤ (rwQ (t + 1) q l).length := rwQ_len t (q + 1) _
    refine mr_14 d (nI N) h1 (by omega) (q + 1) 0 l R _ (by omega) hA (by omega) (fun R' v3 v4 hA' => ?_)
    iterate 2 (refine V.s omX8_makesRow rfl rfl ?_)
    rw [nI_1]
    exact ih (q + 1) _ R' v3 v4 (by omega) (by omega) hA' hl kk
set_option maxRecDepth 100000 in
theorem rowD_lenB : (List.range 31).all (fun n => Nat.ble (rowD n).length 279) = true := by decide +kernel
theorem rowD_len {n : Nat} (h : n ≤ 30) : (rowD n).length ≤ 279 := Nat.le_of_ble_eq_true (List.all_eq_true.mp rowD_lenB n (List.mem_range.mpr (by omega)))
set_option maxHeartbeats 4000000 in
set_option maxRecDepth 100000 in
theorem c8_makesRow (d : Nat) {N : Nat} (hN : N ≤ 30) : C mX8_makesRow (d + 1) 0 0 [.ref 33, .int (nI N)] (hp A B) (fun r h' => (∃ R', AD R' (rowD N) ∧ h' = hR A B R' (rowD N).length) ∧ r = none) := by
  refine C.of [some (.ref 33), some (.int (nI N)), none, none, none] omX8_makesRow rfl rfl rfl ?_
  iterate 2 (refine V.s omX8_makesRow rfl rfl ?_)
  refine V.pfH omX8_makesRow rfl rfl rfl rfl rfl rfl rfl ?_
  iterate 2 (refine V.s omX8_makesRow rfl rfl ?_)
  have h := rowD_len hN
  have key := mr_7 (A := A) (B := B) (Q := fun r h' => (∃ R', AD R' (rowD N) ∧ h' = hR A B R' (rowD N).length) ∧ r = none) d hN N 1 [] (A 46) none none (by omega) (by decide) trivial (show (rowD N).length ≤ 300 by omega) (fun R' hA => ⟨⟨R', hA, rfl⟩, rfl⟩)
  unfold hR at key
  rw [va_self A 46] at key
  exact key
def J9 (A A' : Nat → Nat → Int32) : Prop := ∀ q k, ¬ (q = 46 ∨ (q = 33 ∧ k = 24)) → A' q k = A q k
theorem J9_R (A : Nat → Nat → Int32) (R : Nat → Int32) (x : Int32) : J9 A (va_up (va_up A 46 R) 33 (upd (A 33) 24 x)) := by
  intro q k h
  unfold va_up
  by_cases h33 : q = 33
  · subst h33
    rw [if_pos rfl]
    exact pk_un (fun e => h (Or.inr ⟨rfl, e⟩))
  · rw [if_neg h33, if_neg (fun e => h (Or.inl e))]
theorem J9_r (A : Nat → Nat → Int32) : J9 A A := fun _ _ _ => rfl
set_option maxHeartbeats 4000000 in
set_option maxRecDepth 100000 in
theorem c8_fractions (d : Nat) (n : Int32) : C mX8_fractions (d + 2) 0 0 [.ref 33, .int n] (hp A B) (fun r' h' => (∃ A', h' = hp A' B ∧ J9 (if orF n = 1 then A else rmA A 7) A') ∧ r' = some (.int (if orF n = 1 then nI (rowD n.toNatClampNeg).length else -7))) := by
  refine C.of [some (.ref 33), some (.int n)] omX8_fractions rfl rfl rfl ?_
  refine V.s omX8_fractions rfl rfl ?_
  refine V.cSf omX8_fractions omX8_isRow rfl rfl (c8_isRow _ _ _) rfl rfl rfl rfl ?_
  rcases orF_01 n with h | h
  · rw [h]
    refine V.brF omX8_fractions rfl rfl (by decide) ?_
    iterate 2 (refine V.s omX8_fractions rfl rfl ?_)
    refine V.cVf omX8_fractions omX8_no rfl rfl (c8_no _ _ (by decide)) rfl rfl rfl rfl rfl rfl ?_
    exact V.iret omX8_fractions rfl rfl ⟨⟨_, rfl, J9_r _⟩, rfl⟩
  · rw [h]
    obtain ⟨N, rfl, hN1, hN⟩ := orF_ex h
    refine V.brT omX8_fractions rfl rfl (by decide) (by decide) ?_
    iterate 2 (refine V.s omX8_fractions rfl rfl ?_)
    refine V.cV omX8_fractions omX8_makesRow (c8_makesRow d hN) rfl rfl rfl rfl rfl rfl rfl rfl (by omega) (by omega) (fun r' h' hQ => ?_)
    obtain ⟨⟨R', hA, rfl⟩, rfl⟩ := hQ
    show V mX8_fractions (d + 2) 0 0 _ 0 0 19 _ [] _
    refine V.s omX8_fractions rfl rfl ?_
    refine V.gf omX8_fractions rfl rfl rfl rfl ?_
    rw [va_up_self, pk_us, nI_clamp (show N < 2 ^ 31 by omega)]
    exact V.iret omX8_fractions rfl rfl ⟨⟨_, rfl, J9_R _ _ _⟩, rfl⟩
/-- what stands at a place of a row, counted from below -/
def atD (l : List Nat) (k : Nat) : Nat := l.getD (l.length - 1 - k) 0
theorem AD_at {R : Nat → Int32} : ∀ {l : List Nat}, AD R l → ∀ k, k < l.length → R k = nI (atD l k)
  | [], _, k, hk => by simp at hk
  | y :: t, h, k, hk => by
    simp only [List.length_cons] at hk
    by_cases hkt : k = t.length
    · subst hkt
      rw [h.2.1]
      unfold atD
      simp
    · rw [AD_at h.2.2 k (by omega)]
      unfold atD
      simp only [List.length_cons]
      rw [show t.length + 1 - 1 - k = (t.length - 1 - k) + 1 by omega]
      simp
theorem isIn_nI (d : Nat) (i : Int32) {s : Nat} (hs : s < 2 ^ 31) (h : hp_T) : C mX8_isIn d 0 0 [.long i.toInt64, .long 0, .long (nI s).toInt64] h (fun r h' => h' = h ∧ r = some (.int (if 0 ≤ i ∧ i ≤ nI s then 1 else 0))) := by
  have h1 := c8_isIn d i.toInt64 0 (nI s).toInt64 h
  rw [show (0 : Int64) = (0 : Int32).toInt64 from rfl] at h1 ⊢
  simp only [Int32.toInt64_le] at h1
  exact h1
theorem inle {i : Int32} {s : Nat} (hs : s < 2 ^ 31) : (0 ≤ i ∧ i ≤ nI s) → ∃ k, k ≤ s ∧ i = nI k := by
  intro h
  exact nI_of2 (x := i) (M := nI s) (n := s) (by rw [nI_toInt hs]) (Int32.not_lt.mpr h.1) h.2
set_option maxHeartbeats 4000000 in
set_option maxRecDepth 100000 in
theorem c8_fraction (d : Nat) (n i : Int32) : C mX8_fraction (d + 2) 0 0 [.ref 33, .int n, .int i] (hp A B) (fun r' h' => (∃ A', h' = hp A' B ∧ J9 (if orF n = 1 then (if 0 ≤ i ∧ i < nI (rowD n.toNatClampNeg).length then A else rmA A 3) else rmA A 7) A') ∧ r' = some (.int (if orF n = 1 then (if 0 ≤ i ∧ i < nI (rowD n.toNatClampNeg).length then nI (atD (rowD n.toNatClampNeg) i.toNatClampNeg) else -3) else -7))) := by
  refine C.of [some (.ref 33), some (.int n), some (.int i)] omX8_fraction rfl rfl rfl ?_
  refine V.s omX8_fraction rfl rfl ?_
  refine V.cSf omX8_fraction omX8_isRow rfl rfl (c8_isRow _ _ _) rfl rfl rfl rfl ?_
  rcases orF_01 n with h | h
  · rw [h]
    refine V.brF omX8_fraction rfl rfl (by decide) ?_
    iterate 2 (refine V.s omX8_fraction rfl rfl ?_)
    refine V.cVf omX8_fraction omX8_no rfl rfl (c8_no _ _ (by decide)) rfl rfl rfl rfl rfl rfl ?_
    exact V.iret omX8_fraction rfl rfl ⟨⟨_, rfl, J9_r _⟩, rfl⟩
  · rw [h]
    obtain ⟨N, rfl, hN1, hN⟩ := orF_ex h
    refine V.brT omX8_fraction rfl rfl (by decide) (by decide) ?_
    iterate 2 (refine V.s omX8_fraction rfl rfl ?_)
    refine V.cV omX8_fraction omX8_makesRow (c8_makesRow d hN) rfl rfl rfl rfl rfl rfl rfl rfl (by omega) (by omega) (fun r' h' hQ => ?_)
    obtain ⟨⟨R', hA, rfl⟩, rfl⟩ := hQ
    have hl := rowD_len hN
    rw [nI_clamp (show N < 2 ^ 31 by omega)]
    show V mX8_fraction (d + 2) 0 0 _ 0 0 19 _ [] _
    iterate 4 (refine V.s omX8_fraction rfl rfl ?_)
    refine V.gf omX8_fraction rfl rfl rfl rfl ?_
    rw [va_up_self, pk_us]
    iterate 2 (refine V.s omX8_fraction rfl rfl ?_)
    simp only [if_true]
    generalize hs : (rowD N).length = s at *
    cases s with
    | zero =>
      have hz : ¬ (0 ≤ i ∧ i < nI 0) := fun q => Int32.lt_irrefl (Int32.lt_of_le_of_lt q.1 q.2)
      simp only [if_neg hz]
      have e : nI 0 - 1 = -1 := by decide
      rw [e]
      refine V.s omX8_fraction rfl rfl ?_
      refine V.cSf omX8_fraction omX8_isIn rfl rfl (c8_isInN _ (v := i.toInt64) (lo := 0) (hi := (-1 : Int32).toInt64) (fun q => absurd (Int64.le_trans q.1 q.2) (by decide)) _) rfl rfl rfl rfl ?_
      refine V.brT omX8_fraction rfl rfl rfl (by decide) ?_
      iterate 2 (refine V.s omX8_fraction rfl rfl ?_)
      refine V.cVf omX8_fraction omX8_no rfl rfl (c8_no _ _ (by decide)) rfl rfl rfl rfl rfl rfl ?_
      refine V.iret omX8_fraction rfl rfl ⟨⟨_, rfl, ?_⟩, rfl⟩
      have hj := J9_R (rmA A 3) R' (nI 0)
      have e2 : va_up (va_up (rmA A 3) 46 R') 33 (upd (rmA A 3 33) 24 (nI 0)) = rmA (va_up (va_up A 46 R') 33 (upd (A 33) 24 (nI 0))) (rfI (-3)) := by
        unfold rmA
        rw [va_cm _ (show (39 : Nat) ≠ 46 by decide), va_cm _ (show (39 : Nat) ≠ 33 by decide)]
        rfl
      rw [e2] at hj
      exact hj
    | succ s =>
      rw [nI_pred]
      refine V.s omX8_fraction rfl rfl ?_
      refine V.cSf omX8_fraction omX8_isIn rfl rfl (isIn_nI _ i (show s < 2 ^ 31 by omega) _) rfl rfl rfl rfl ?_
      by_cases hi : 0 ≤ i ∧ i ≤ nI s
      · rw [if_pos hi]
        obtain ⟨k, hk, rfl⟩ := inle (show s < 2 ^ 31 by omega) hi
        have hz : 0 ≤ nI k ∧ nI k < nI (s + 1) := ⟨hi.1, nI_lt (by omega) (by omega)⟩
        simp only [if_pos hz]
        refine V.brF omX8_fraction rfl rfl (by decide) ?_
        refine V.s omX8_fraction rfl rfl ?_
        refine V.gf omX8_fraction rfl rfl rfl rfl ?_
        refine V.s omX8_fraction rfl rfl ?_
        refine V.ial omX8_fraction rfl rfl (ixN nv_nI (show k < 300 by omega) (by decide)) ?_
        rw [xA46, AD_at hA k (by omega)]
        refine V.s omX8_fraction rfl rfl ?_
        exact V.iret omX8_fraction rfl rfl ⟨⟨_, rfl, J9_R _ _ _⟩, by rw [nI_clamp (by omega)]⟩
      · rw [if_neg hi]
        have hz : ¬ (0 ≤ i ∧ i < nI (s + 1)) := by
          intro q
          obtain ⟨k, hk, rfl⟩ := rng (show s + 1 < 2 ^ 31 by omega) q
          exact hi ⟨q.1, nI_le (by omega) (by omega)⟩
        simp only [if_neg hz]
        refine V.brT omX8_fraction rfl rfl rfl (by decide) ?_
        iterate 2 (refine V.s omX8_fraction rfl rfl ?_)
        refine V.cVf omX8_fraction omX8_no rfl rfl (c8_no _ _ (by decide)) rfl rfl rfl rfl rfl rfl ?_
        refine V.iret omX8_fraction rfl rfl ⟨⟨_, rfl, ?_⟩, rfl⟩
        have hj := J9_R (rmA A 3) R' (nI (s + 1))
        have e2 : va_up (va_up (rmA A 3) 46 R') 33 (upd (rmA A 3 33) 24 (nI (s + 1))) = rmA (va_up (va_up A 46 R') 33 (upd (A 33) 24 (nI (s + 1)))) (rfI (-3)) := by
          unfold rmA
          rw [va_cm _ (show (39 : Nat) ≠ 46 by decide), va_cm _ (show (39 : Nat) ≠ 33 by decide)]
          rfl
        rw [e2] at hj
        exact hj
set_option maxHeartbeats 4000000 in
set_option maxRecDepth 100000 in
theorem c8_placeOf (d : Nat) {f : Int32} {k : Nat} (hk : k < 300) (h1 : A 46 k = f) (h2 : ∀ j, j < k → ¬ A 46 j = f) : C mX8_placeOf d 0 0 [.ref 33, .int f] (hp A B) (fun r h' => h' = hp A B ∧ r = some (.int (nI k))) := by
  refine C.of [some (.ref 33), some (.int f), none] omX8_placeOf rfl rfl rfl ?_
  iterate 2 (refine V.s omX8_placeOf rfl rfl ?_)
  have key : ∀ (t i : Nat), i + t = k → V mX8_placeOf d 0 0 (fun r h' => h' = hp A B ∧ r = some (.int (nI k))) 0 0 2 [some (.ref 33), some (.int f), some (.int (nI i))] [] (hp A B) := by
    intro t
    induction t with
    | zero =>
      intro i hi
      have : i = k := by omega
      subst this
      refine V.s omX8_placeOf rfl rfl ?_
      refine V.gf omX8_placeOf rfl rfl rfl rfl ?_
      refine V.s omX8_placeOf rfl rfl ?_
      refine V.ial omX8_placeOf rfl rfl (ixN nv_nI hk (by decide)) ?_
      refine V.s omX8_placeOf rfl rfl ?_
      refine V.brT omX8_placeOf rfl rfl h1 (fun h g => g h) ?_
      refine V.s omX8_placeOf rfl rfl ?_
      exact V.iret omX8_placeOf rfl rfl ⟨rfl, rfl⟩
    | succ t ih =>
      intro i hi
      refine V.s omX8_placeOf rfl rfl ?_
      refine V.gf omX8_placeOf rfl rfl rfl rfl ?_
      refine V.s omX8_placeOf rfl rfl ?_
      refine V.ial omX8_placeOf rfl rfl (ixN nv_nI (show i < 300 by omega) (by decide)) ?_
      refine V.s omX8_placeOf rfl rfl ?_
      refine V.brF omX8_placeOf rfl rfl (h2 i (by omega)) ?_
      iterate 2 (refine V.s omX8_placeOf rfl rfl ?_)
      rw [nI_1]
      exact ih (i + 1) (by omega)
  exact key k 0 (by omega)
end MDI
end
section
section PK
variable {A : Nat → Nat → Int32} {B : Nat → Nat → Int64} {F q : Nat → Int32} {G : Nat → Int64}
def fmI (v : Int32) : Int32 := if v ^^^ 24 < 0 ∧ ¬ v - v / 24 * 24 = 0 then v - v / 24 * 24 + 24 else v - v / 24 * 24
set_option maxHeartbeats 4000000 in
set_option maxRecDepth 100000 in
theorem cJ_floorMod (d : Nat) (v : Int32) (h : hp_T) : C mJ9_floorMod d 0 0 [.int v, .int 24] h (fun r h' => h' = h ∧ r = some (.int (fmI v))) := by
  refine C.of [some (.int v), some (.int 24), none] omJ9_floorMod rfl rfl rfl ?_
  iterate 2 (refine V.s omJ9_floorMod rfl rfl ?_)
  refine V.irem omJ9_floorMod rfl (by decide) ?_
  iterate 4 (refine V.s omJ9_floorMod rfl rfl ?_)
  by_cases h1 : v ^^^ 24 < 0
  · refine V.brF omJ9_floorMod rfl rfl (Int32.not_le.mpr h1) ?_
    refine V.s omJ9_floorMod rfl rfl ?_
    by_cases h2 : v - v / 24 * 24 = 0
    · refine V.brT omJ9_floorMod rfl rfl h2 (fun h g => g h) ?_
      refine V.s omJ9_floorMod rfl rfl ?_
      exact V.iret omJ9_floorMod rfl rfl ⟨rfl, by unfold fmI; rw [if_neg (fun g => g.2 h2)]⟩
    · refine V.brF omJ9_floorMod rfl rfl h2 ?_
      iterate 3 (refine V.s omJ9_floorMod rfl rfl ?_)
      exact V.iret omJ9_floorMod rfl rfl ⟨rfl, by unfold fmI; rw [if_pos ⟨h1, h2⟩]⟩
  · refine V.brT omJ9_floorMod rfl rfl (Int32.not_lt.mp h1) (fun h => Int32.not_lt.mpr h) ?_
    refine V.s omJ9_floorMod rfl rfl ?_
    exact V.iret omJ9_floorMod rfl rfl ⟨rfl, by unfold fmI; rw [if_neg (fun g => h1 g.1)]⟩
def nt2 (F : Nat → Int32) (v : Int32) : Nat → Int32 := upd (upd F 4 (F 4 + 1)) 6 (F 6 ||| (1 : Int32) <<< (fmI v &&& 31))
def nt3 (F : Nat → Int32) (v : Int32) : Nat → Int32 := if v = F 1 then upd (nt2 F v) 5 (F 5 + 1) else nt2 F v
def ntF (F : Nat → Int32) (v : Int32) : Nat → Int32 := if F 3 < v ∧ (F 8 = 0 ∨ v < F 9) then upd (upd (nt3 F v) 8 1) 9 v else nt3 F v
def ntG (G : Nat → Int64) (v : Int32) : Nat → Int64 := vp_updL G 7 (G 7 + v.toInt64)
set_option maxHeartbeats 4000000 in
set_option maxRecDepth 100000 in
theorem nt_56 (d : Nat) (v : Int32) (F0 : Nat → Int32) (e3 : F 3 = F0 3) (e8 : F 8 = F0 8) (e9 : F 9 = F0 9) : V mX3_note (d + 1) 0 0 (fun r h' => h' = hp (va_up A 23 (if F0 3 < v ∧ (F0 8 = 0 ∨ v < F0 9) then upd (upd F 8 1) 9 v else F)) B ∧ r = none) 0 0 56 [some (.ref 23), some (.int v)] [] (hp (va_up A 23 F) B) := by
  iterate 2 (refine V.s omX3_note rfl rfl ?_)
  refine V.gf omX3_note rfl rfl rfl rfl ?_
  rw [va_up_self, e3]
  by_cases h1 : F0 3 < v
  · refine V.brF omX3_note rfl rfl (Int32.not_le.mpr h1) ?_
    refine V.s omX3_note rfl rfl ?_
    refine V.gf omX3_note rfl rfl rfl rfl ?_
    rw [va_up_self, e8]
    by_cases h2 : F0 8 = 0
    · refine V.brT omX3_note rfl rfl h2 (fun h g => g h) ?_
      iterate 2 (refine V.s omX3_note rfl rfl ?_)
      refine V.pfH omX3_note rfl rfl rfl rfl rfl rfl rfl ?_
      rw [bx_uu, va_up_self]
      iterate 2 (refine V.s omX3_note rfl rfl ?_)
      refine V.pfH omX3_note rfl rfl rfl rfl rfl rfl rfl ?_
      rw [bx_uu, va_up_self]
      exact V.vret omX3_note rfl rfl ⟨by rw [if_pos ⟨h1, Or.inl h2⟩], rfl⟩
    · refine V.brF omX3_note rfl rfl h2 ?_
      iterate 2 (refine V.s omX3_note rfl rfl ?_)
      refine V.gf omX3_note rfl rfl rfl rfl ?_
      rw [va_up_self, e9]
      by_cases h3 : v < F0 9
      · refine V.brF omX3_note rfl rfl (Int32.not_le.mpr h3) ?_
        iterate 2 (refine V.s omX3_note rfl rfl ?_)
        refine V.pfH omX3_note rfl rfl rfl rfl rfl rfl rfl ?_
        rw [bx_uu, va_up_self]
        iterate 2 (refine V.s omX3_note rfl rfl ?_)
        refine V.pfH omX3_note rfl rfl rfl rfl rfl rfl rfl ?_
        rw [bx_uu, va_up_self]
        exact V.vret omX3_note rfl rfl ⟨by rw [if_pos ⟨h1, Or.inr h3⟩], rfl⟩
      · refine V.brT omX3_note rfl rfl (Int32.not_lt.mp h3) (fun h => Int32.not_lt.mpr h) ?_
        exact V.vret omX3_note rfl rfl ⟨by rw [if_neg (fun g => g.2.elim h2 h3)], rfl⟩
  · refine V.brT omX3_note rfl rfl (Int32.not_lt.mp h1) (fun h => Int32.not_lt.mpr h) ?_
    exact V.vret omX3_note rfl rfl ⟨by rw [if_neg (fun g => h1 g.1)], rfl⟩
set_option maxHeartbeats 4000000 in
set_option maxRecDepth 100000 in
theorem c_note (d : Nat) (v : Int32) : C mX3_note (d + 1) 0 0 [.ref 23, .int v] (hp A B) (fun r h' => h' = hp (va_up A 23 (ntF (A 23) v)) (va_up B 23 (ntG (B 23) v)) ∧ r = none) := by
  refine C.of [some (.ref 23), some (.int v)] omX3_note rfl rfl rfl ?_
  iterate 2 (refine V.s omX3_note rfl rfl ?_)
  refine V.gf omX3_note rfl rfl rfl rfl ?_
  iterate 2 (refine V.s omX3_note rfl rfl ?_)
  refine V.pfH omX3_note rfl rfl rfl rfl rfl rfl rfl ?_
  iterate 2 (refine V.s omX3_note rfl rfl ?_)
  refine V.gf omX3_note rfl rfl rfl rfl ?_
  iterate 3 (refine V.s omX3_note rfl rfl ?_)
  refine V.pfL7 omX3_note rfl ?_
  iterate 2 (refine V.s omX3_note rfl rfl ?_)
  refine V.gf omX3_note rfl rfl rfl rfl ?_
  iterate 3 (refine V.s omX3_note rfl rfl ?_)
  refine V.cSf omX3_note omJ9_floorMod rfl rfl (cJ_floorMod _ _ _) rfl rfl rfl rfl ?_
  iterate 2 (refine V.s omX3_note rfl rfl ?_)
  refine V.pfH omX3_note rfl rfl rfl rfl rfl rfl rfl ?_
  rw [bx_uu, va_up_self]
  iterate 2 (refine V.s omX3_note rfl rfl ?_)
  refine V.gf omX3_note rfl rfl rfl rfl ?_
  have e1 : va_up A 23 (upd (upd (A 23) 4 (A 23 4 + 1)) 6 (upd (A 23) 4 (A 23 4 + 1) 6 ||| (1 : Int32) <<< (fmI v &&& 31))) = va_up A 23 (nt2 (A 23) v) := rfl
  rw [e1]
  by_cases h1 : v = A 23 1
  · refine V.brF omX3_note rfl rfl (fun g => g h1) ?_
    iterate 2 (refine V.s omX3_note rfl rfl ?_)
    refine V.gf omX3_note rfl rfl rfl rfl ?_
    iterate 2 (refine V.s omX3_note rfl rfl ?_)
    refine V.pfH omX3_note rfl rfl rfl rfl rfl rfl rfl ?_
    rw [bx_uu, va_up_self]
    have k2 := nt_56 (A := A) (B := va_up B 23 (ntG (B 23) v)) (F := upd (nt2 (A 23) v) 5 (A 23 5 + 1)) d v (A 23) rfl rfl rfl
    have e2 : nt3 (A 23) v = upd (nt2 (A 23) v) 5 (A 23 5 + 1) := by unfold nt3; rw [if_pos h1]
    unfold ntF
    rw [e2]
    exact k2
  · refine V.brT omX3_note rfl rfl h1 (fun g => g) ?_
    have k2 := nt_56 (A := A) (B := va_up B 23 (ntG (B 23) v)) (F := nt2 (A 23) v) d v (A 23) rfl rfl rfl
    have e2 : nt3 (A 23) v = nt2 (A 23) v := by unfold nt3; rw [if_neg h1]
    unfold ntF
    rw [e2]
    exact k2
theorem ntF_ne {F : Nat → Int32} {v : Int32} {k : Nat} (h4 : k ≠ 4) (h5 : k ≠ 5) (h6 : k ≠ 6) (h8 : k ≠ 8) (h9 : k ≠ 9) : ntF F v k = F k := by
  have e2 : nt2 F v k = F k := by unfold nt2; rw [pk_un h6, pk_un h4]
  have e3 : nt3 F v k = F k := by
    unfold nt3
    split
    · rw [pk_un h5, e2]
    · exact e2
  unfold ntF
  split
  · rw [pk_un h9, pk_un h8, e3]
  · exact e3
abbrev hG (A : Nat → Nat → Int32) (B : Nat → Nat → Int64) (F : Nat → Int32) (G : Nat → Int64) (q : Nat → Int32) : hp_T := hp (va_up (va_up A 24 q) 23 F) (va_up B 23 G)
theorem xA24 : va_up (va_up A 24 q) 23 F 24 = q := rfl
theorem xA24u {q2 : Nat → Int32} : va_up (va_up (va_up A 24 q) 23 F) 24 q2 = va_up (va_up A 24 q2) 23 F := by rw [va_cm _ (show (23 : Nat) ≠ 24 by decide), bx_uu]
theorem hG_nt (d : Nat) (v : Int32) : C mX3_note (d + 1) 0 0 [.ref 23, .int v] (hG A B F G q) (fun r h' => h' = hG A B (ntF F v) (ntG G v) q ∧ r = none) := by
  have h := c_note (A := va_up (va_up A 24 q) 23 F) (B := va_up B 23 G) d v
  rw [va_up_self, va_up_self, bx_uu, bx_uu] at h
  exact h
abbrev Sn := (Nat → Int32) × (Nat → Int64)
def nv (S : Sn) (v : Int32) : Sn := (ntF S.1 v, ntG S.2 v)
theorem nv_ne {k : Nat} (h4 : k ≠ 4) (h5 : k ≠ 5) (h6 : k ≠ 6) (h8 : k ≠ 8) (h9 : k ≠ 9) : ∀ (l : List Int32) (S : Sn), (l.foldl nv S).1 k = S.1 k
  | [], _ => rfl
  | x :: l, S => by
    rw [List.foldl_cons, nv_ne h4 h5 h6 h8 h9 l]
    exact ntF_ne h4 h5 h6 h8 h9
def sm4 (q : Nat → Int32) : Int64 := (q 0).toInt64 + (q 1).toInt64 + (q 2).toInt64 + (q 3).toInt64
def gfr (q : Nat → Int32) (p : Nat) : Int64 := 2 * sm4 q - 3 * (q p).toInt64
abbrev gsk (lim bar last : Int32) (q : Nat → Int32) (p : Nat) : Prop := nI p = last ∨ nI p = bar ∨ lim.toInt64 < gfr q p
def gv (f : Int32 → (Nat → Int32) → List Int32) (lim bar last : Int32) (q : Nat → Int32) (p : Nat) : List Int32 := if gsk lim bar last q p then [] else (gfr q p).toInt32 :: f (nI p) (upd q p (gfr q p).toInt32)
def gk (lim bar : Int32) : Nat → Int32 → (Nat → Int32) → List Int32
  | 0 => fun _ _ => []
  | n + 1 => fun last q => gv (gk lim bar n) lim bar last q 0 ++ (gv (gk lim bar n) lim bar last q 1 ++ (gv (gk lim bar n) lim bar last q 2 ++ gv (gk lim bar n) lim bar last q 3))
def gRes (A : Nat → Nat → Int32) (B : Nat → Nat → Int64) (n : Nat) (last : Int32) : hp_T := hp (va_up A 23 ((gk (A 23 1) (A 23 2) n last (A 24)).foldl nv (A 23, B 23)).1) (va_up B 23 ((gk (A 23 1) (A 23 2) n last (A 24)).foldl nv (A 23, B 23)).2)
theorem gRes_hG {n : Nat} {last : Int32} : gRes (va_up (va_up A 24 q) 23 F) (va_up B 23 G) n last = hG A B ((gk (F 1) (F 2) n last q).foldl nv (F, G)).1 ((gk (F 1) (F 2) n last q).foldl nv (F, G)).2 q := by
  show hp (va_up (va_up (va_up A 24 q) 23 F) 23 ((gk (F 1) (F 2) n last q).foldl nv (F, G)).1) (va_up (va_up B 23 G) 23 ((gk (F 1) (F 2) n last q).foldl nv (F, G)).2) = _
  rw [bx_uu, bx_uu]
abbrev LG (last : Int32) (dp : Nat) (all : Int64) (p : Nat) (v7 v8 v9 : Option Value) : List (Option Value) := [some (.ref 23), some (.int last), some (.int (nI dp)), some (.ref 24), some (.long all), none, some (.int (nI p)), v7, v8, v9]
theorem upd_back {q : Nat → Int32} {p : Nat} {x : Int32} : upd (upd q p x) p (q p) = q := by
  funext j
  unfold upd
  by_cases h : j = p
  · simp [h]
  · simp [h]
set_option maxHeartbeats 4000000 in
set_option maxRecDepth 100000 in
theorem gr_st (n dp : Nat) (IH : ∀ (A : Nat → Nat → Int32) (B : Nat → Nat → Int64) (last : Int32), C mX3_grow (n + 2) 0 0 [.ref 23, .int last, .int (nI (dp + 1))] (hp A B) (fun r h' => h' = gRes A B n last ∧ r = none)) {last : Int32} {p : Nat} (h4 : p < 4) (S : Sn) {lim bar : Int32} (e1 : S.1 1 = lim) (e2 : S.1 2 = bar) (v7 v8 v9 : Option Value) {Q : Option Value → hp_T → Prop} (kk : ∀ v7 v8 v9, V mX3_grow (n + 3) 0 0 Q 0 0 36 (LG last dp (sm4 q) (p + 1) v7 v8 v9) [] (hG A B ((gv (gk lim bar n) lim bar last q p).foldl nv S).1 ((gv (gk lim bar n) lim bar last q p).foldl nv S).2 q)) : V mX3_grow (n + 3) 0 0 Q 0 0 36 (LG last dp (sm4 q) p v7 v8 v9) [] (hG A B S.1 S.2 q) := by
  iterate 2 (refine V.s omX3_grow rfl rfl ?_)
  refine V.brF omX3_grow rfl rfl (by rw [nIl_le 4 (by omega) (by decide)]; omega) ?_
  iterate 2 (refine V.s omX3_grow rfl rfl ?_)
  refine V.ial omX3_grow rfl rfl (ixN nv_nI h4 (by decide)) ?_
  rw [xA24]
  iterate 10 (refine V.s omX3_grow rfl rfl ?_)
  iterate 2 (refine V.s omX3_grow rfl rfl ?_)
  have end120 : ∀ (v7 v8 v9 : Option Value), gsk lim bar last q p → V mX3_grow (n + 3) 0 0 Q 0 0 120 (LG last dp (sm4 q) p v7 v8 v9) [] (hG A B S.1 S.2 q) := by
    intro v7 v8 v9 hs
    iterate 2 (refine V.s omX3_grow rfl rfl ?_)
    rw [nI_1]
    have k2 := kk v7 v8 v9
    unfold gv at k2
    rw [if_pos hs] at k2
    exact k2
  by_cases h1 : nI p = last
  · refine V.brT omX3_grow rfl rfl h1 (fun h g => g h) ?_
    exact end120 _ _ _ (Or.inl h1)
  refine V.brF omX3_grow rfl rfl h1 ?_
  iterate 2 (refine V.s omX3_grow rfl rfl ?_)
  refine V.gf omX3_grow rfl rfl rfl rfl ?_
  rw [va_up_self, e2]
  by_cases h2 : nI p = bar
  · refine V.brT omX3_grow rfl rfl h2 (fun h g => g h) ?_
    exact end120 _ _ _ (Or.inr (Or.inl h2))
  refine V.brF omX3_grow rfl rfl h2 ?_
  iterate 2 (refine V.s omX3_grow rfl rfl ?_)
  refine V.gf omX3_grow rfl rfl rfl rfl ?_
  rw [va_up_self, e1]
  iterate 2 (refine V.s omX3_grow rfl rfl ?_)
  by_cases h3 : lim.toInt64 < gfr q p
  · refine V.brT omX3_grow rfl rfl (lgc_gt.mpr h3) (fun h => Int32.not_le.mpr h) ?_
    exact end120 _ _ _ (Or.inr (Or.inr h3))
  refine V.brF omX3_grow rfl rfl (fun h => h3 (lgc_gt.mp h)) ?_
  have hs : ¬ gsk lim bar last q p := fun g => g.elim h1 (fun g => g.elim h2 h3)
  iterate 4 (refine V.s omX3_grow rfl rfl ?_)
  refine V.iasH omX3_grow rfl rfl (ixN nv_nI h4 (by decide)) ?_
  rw [xA24, xA24u]
  rw [show (2 * sm4 q - 3 * (q p).toInt64) = gfr q p from rfl]
  iterate 3 (refine V.s omX3_grow rfl rfl ?_)
  refine V.ial omX3_grow rfl rfl (ixN nv_nI h4 (by decide)) ?_
  rw [xA24, pk_us]
  refine V.cVv omX3_grow omX3_note rfl rfl (hG_nt (n + 1) _) rfl rfl rfl rfl rfl rfl ?_
  iterate 5 (refine V.s omX3_grow rfl rfl ?_)
  rw [nI_1]
  have cg := IH (va_up (va_up A 24 (upd q p (gfr q p).toInt32)) 23 (ntF S.1 (gfr q p).toInt32)) (va_up B 23 (ntG S.2 (gfr q p).toInt32)) (nI p)
  rw [gRes_hG, ntF_ne (by decide) (by decide) (by decide) (by decide) (by decide), ntF_ne (by decide) (by decide) (by decide) (by decide) (by decide), e1, e2] at cg
  refine V.cSv omX3_grow omX3_grow rfl rfl cg rfl rfl rfl rfl ?_
  iterate 3 (refine V.s omX3_grow rfl rfl ?_)
  refine V.iasH omX3_grow rfl rfl (ixN nv_nI h4 (by decide)) ?_
  rw [xA24, xA24u, upd_back]
  iterate 2 (refine V.s omX3_grow rfl rfl ?_)
  rw [nI_1]
  have k2 := kk (some (.int (q p))) (some (.long (gfr q p))) none
  unfold gv at k2
  rw [if_neg hs, List.foldl_cons] at k2
  exact k2
set_option maxHeartbeats 4000000 in
set_option maxRecDepth 100000 in
theorem c_grow : ∀ (n dp : Nat), dp + n = 40 → ∀ (A : Nat → Nat → Int32) (B : Nat → Nat → Int64) (last : Int32), C mX3_grow (n + 2) 0 0 [.ref 23, .int last, .int (nI dp)] (hp A B) (fun r h' => h' = gRes A B n last ∧ r = none) := by
  intro n
  induction n with
  | zero =>
    intro dp hd A B last
    have : dp = 40 := by omega
    subst this
    refine C.of [some (.ref 23), some (.int last), some (.int (nI 40)), none, none, none, none, none, none, none] omX3_grow rfl rfl rfl ?_
    iterate 2 (refine V.s omX3_grow rfl rfl ?_)
    refine V.brF omX3_grow rfl rfl (by decide) ?_
    refine V.vret omX3_grow rfl rfl ⟨?_, rfl⟩
    show hp A B = hp (va_up A 23 (A 23)) (va_up B 23 (B 23))
    rw [va_self, vb_self]
  | succ n ih =>
    intro dp hd A B last
    refine C.of [some (.ref 23), some (.int last), some (.int (nI dp)), none, none, none, none, none, none, none] omX3_grow rfl rfl rfl ?_
    iterate 2 (refine V.s omX3_grow rfl rfl ?_)
    refine V.brT omX3_grow rfl rfl (by rw [nIl_lt 40 (by omega) (by decide)]; omega) (fun h => Int32.not_le.mpr h) ?_
    refine V.s omX3_grow rfl rfl ?_
    refine V.gf omX3_grow rfl rfl rfl rfl ?_
    have key : ∀ (Q : Option Value → hp_T → Prop), Q none (gRes A B (n + 1) last) → V mX3_grow (n + 3) 0 0 Q 0 0 36 (LG last dp (sm4 (A 24)) 0 none none none) [] (hG A B (A 23) (B 23) (A 24)) := by
      intro Q hQ
      refine gr_st n dp (ih (dp + 1) (by omega)) (p := 0) (by decide) (A 23, B 23) (lim := A 23 1) (bar := A 23 2) rfl rfl _ _ _ (fun v7 v8 v9 => ?_)
      refine gr_st n dp (ih (dp + 1) (by omega)) (p := 1) (by decide) _ (lim := A 23 1) (bar := A 23 2) (nv_ne (by decide) (by decide) (by decide) (by decide) (by decide) _ _) (nv_ne (by decide) (by decide) (by decide) (by decide) (by decide) _ _) _ _ _ (fun v7 v8 v9 => ?_)
      refine gr_st n dp (ih (dp + 1) (by omega)) (p := 2) (by decide) _ (lim := A 23 1) (bar := A 23 2) ((nv_ne (by decide) (by decide) (by decide) (by decide) (by decide) _ _).trans (nv_ne (by decide) (by decide) (by decide) (by decide) (by decide) _ _)) ((nv_ne (by decide) (by decide) (by decide) (by decide) (by decide) _ _).trans (nv_ne (by decide) (by decide) (by decide) (by decide) (by decide) _ _)) _ _ _ (fun v7 v8 v9 => ?_)
      refine gr_st n dp (ih (dp + 1) (by omega)) (p := 3) (by decide) _ (lim := A 23 1) (bar := A 23 2) ((nv_ne (by decide) (by decide) (by decide) (by decide) (by decide) _ _).trans ((nv_ne (by decide) (by decide) (by decide) (by decide) (by decide) _ _).trans (nv_ne (by decide) (by decide) (by decide) (by decide) (by decide) _ _))) ((nv_ne (by decide) (by decide) (by decide) (by decide) (by decide) _ _).trans ((nv_ne (by decide) (by decide) (by decide) (by decide) (by decide) _ _).trans (nv_ne (by decide) (by decide) (by decide) (by decide) (by decide) _ _))) _ _ _ (fun v7 v8 v9 => ?_)
      iterate 2 (refine V.s omX3_grow rfl rfl ?_)
      refine V.brT omX3_grow rfl rfl (by decide) (by decide) ?_
      refine V.vret omX3_grow rfl rfl ?_
      unfold gRes at hQ
      simp only [gk, List.foldl_append] at hQ
      unfold hG
      rw [va_self A 24]
      exact hQ
    have k1 := key (fun r h' => h' = gRes A B (n + 1) last ∧ r = none) ⟨rfl, rfl⟩
    unfold hG at k1
    rw [va_self A 24, va_self A 23, vb_self] at k1
    iterate 3 (refine V.s omX3_grow rfl rfl ?_)
    refine V.ial omX3_grow rfl rfl (ixN nv_lit (by omega) (by decide)) ?_
    iterate 3 (refine V.s omX3_grow rfl rfl ?_)
    refine V.ial omX3_grow rfl rfl (ixN nv_lit (by omega) (by decide)) ?_
    iterate 4 (refine V.s omX3_grow rfl rfl ?_)
    refine V.ial omX3_grow rfl rfl (ixN nv_lit (by omega) (by decide)) ?_
    iterate 4 (refine V.s omX3_grow rfl rfl ?_)
    refine V.ial omX3_grow rfl rfl (ixN nv_lit (by omega) (by decide)) ?_
    iterate 5 (refine V.s omX3_grow rfl rfl ?_)
    exact k1
end PK
end
section
section PL
variable {A : Nat → Nat → Int32} {B : Nat → Nat → Int64} {F q : Nat → Int32} {G : Nat → Int64}
def v7 (up bar : Int32) (w : Nat → Int32) (i : Nat) : List Int32 := if nI i = bar ∨ up < w (4 * i) then [] else [w (4 * i)]
set_option maxHeartbeats 4000000 in
set_option maxRecDepth 100000 in
theorem sv_st (d : Nat) {i : Nat} (hi : i < 4) (S : Sn) {up bar : Int32} (e1 : S.1 1 = up) (e2 : S.1 2 = bar) {Q : Option Value → hp_T → Prop} (kk : V mX3_survey (d + 2) 0 0 Q 0 0 38 [some (.ref 23), some (.ref 19), some (.int up), some (.int bar), some (.int (nI (i + 1)))] [] (hG A B ((v7 up bar (A 20) i).foldl nv S).1 ((v7 up bar (A 20) i).foldl nv S).2 (upd q i (A 20 (4 * i))))) : V mX3_survey (d + 2) 0 0 Q 0 0 38 [some (.ref 23), some (.ref 19), some (.int up), some (.int bar), some (.int (nI i))] [] (hG A B S.1 S.2 q) := by
  iterate 2 (refine V.s omX3_survey rfl rfl ?_)
  refine V.brF omX3_survey rfl rfl (by rw [nIl_le 4 (by omega) (by decide)]; omega) ?_
  refine V.s omX3_survey rfl rfl ?_
  refine V.gf omX3_survey rfl rfl rfl rfl ?_
  iterate 3 (refine V.s omX3_survey rfl rfl ?_)
  have cb : C mX4_bend (d + 1) 0 0 [.ref 19, .int (nI i)] (hG A B S.1 S.2 q) (fun r h' => h' = hG A B S.1 S.2 q ∧ r = some (.int (A 20 (4 * i)))) := c_bend (A := va_up (va_up A 24 q) 23 S.1) (B := va_up B 23 S.2) (k := 6) (d + 1) (by decide) nv_nI hi
  refine V.cVf omX3_survey omX4_bend rfl rfl cb rfl rfl rfl rfl rfl rfl ?_
  refine V.iasH omX3_survey rfl rfl (ixN nv_nI hi (by decide)) ?_
  rw [xA24, xA24u]
  have fin : (nI i = bar ∨ up < A 20 (4 * i)) → V mX3_survey (d + 2) 0 0 Q 0 0 91 [some (.ref 23), some (.ref 19), some (.int up), some (.int bar), some (.int (nI i))] [] (hG A B S.1 S.2 (upd q i (A 20 (4 * i)))) := by
    intro hs
    iterate 2 (refine V.s omX3_survey rfl rfl ?_)
    rw [nI_1]
    unfold v7 at kk
    rw [if_pos hs] at kk
    exact kk
  iterate 2 (refine V.s omX3_survey rfl rfl ?_)
  refine V.gf omX3_survey rfl rfl rfl rfl ?_
  rw [va_up_self, e2]
  by_cases h1 : nI i = bar
  · refine V.brT omX3_survey rfl rfl h1 (fun h g => g h) ?_
    exact fin (Or.inl h1)
  refine V.brF omX3_survey rfl rfl h1 ?_
  refine V.s omX3_survey rfl rfl ?_
  refine V.gf omX3_survey rfl rfl rfl rfl ?_
  refine V.s omX3_survey rfl rfl ?_
  refine V.ial omX3_survey rfl rfl (ixN nv_nI hi (by decide)) ?_
  rw [xA24, pk_us]
  refine V.s omX3_survey rfl rfl ?_
  refine V.gf omX3_survey rfl rfl rfl rfl ?_
  rw [va_up_self, e1]
  by_cases h2 : up < A 20 (4 * i)
  · refine V.brT omX3_survey rfl rfl h2 (fun h => Int32.not_le.mpr h) ?_
    exact fin (Or.inr h2)
  refine V.brF omX3_survey rfl rfl h2 ?_
  iterate 2 (refine V.s omX3_survey rfl rfl ?_)
  refine V.gf omX3_survey rfl rfl rfl rfl ?_
  refine V.s omX3_survey rfl rfl ?_
  refine V.ial omX3_survey rfl rfl (ixN nv_nI hi (by decide)) ?_
  rw [xA24, pk_us]
  refine V.cVv omX3_survey omX3_note rfl rfl (hG_nt d _) rfl rfl rfl rfl rfl rfl ?_
  iterate 2 (refine V.s omX3_survey rfl rfl ?_)
  rw [nI_1]
  unfold v7 at kk
  rw [if_neg (fun g => g.elim h1 h2)] at kk
  exact kk
def qn (w q : Nat → Int32) : Nat → Int32 := upd (upd (upd (upd q 0 (w (4 * 0))) 1 (w (4 * 1))) 2 (w (4 * 2))) 3 (w (4 * 3))
def F07 (F : Nat → Int32) (up bar : Int32) : Nat → Int32 := upd (upd (upd (upd (upd (upd F 1 up) 2 bar) 4 0) 5 0) 6 0) 8 0
def vs7 (up bar : Int32) (w q : Nat → Int32) : List Int32 := v7 up bar w 0 ++ (v7 up bar w 1 ++ (v7 up bar w 2 ++ (v7 up bar w 3 ++ gk up bar 40 (-1) (qn w q))))
def S7 (up bar : Int32) (w F : Nat → Int32) (G : Nat → Int64) (q : Nat → Int32) : Sn := (vs7 up bar w q).foldl nv (F07 F up bar, vp_updL G 7 0)
theorem nv12 {k : Nat} (h : k = 1 ∨ k = 2) (l : List Int32) (S : Sn) : (l.foldl nv S).1 k = S.1 k := nv_ne (by omega) (by omega) (by omega) (by omega) (by omega) l S
theorem nv3 (l : List Int32) (S : Sn) : (l.foldl nv S).1 3 = S.1 3 := nv_ne (by omega) (by omega) (by omega) (by omega) (by omega) l S
set_option maxHeartbeats 4000000 in
set_option maxRecDepth 100000 in
theorem sv_97 {S : Sn} {up bar : Int32} {K : List Int32} (e1 : S.1 1 = up) (e2 : S.1 2 = bar) (hK : gk up bar 40 (-1) q = K) {Q : Option Value → hp_T → Prop} (hQ : Q none (hG A B (K.foldl nv S).1 (K.foldl nv S).2 q)) : V mX3_survey 43 0 0 Q 0 0 97 [some (.ref 23), some (.ref 19), some (.int up), some (.int bar), some (.int (nI 4))] [] (hG A B S.1 S.2 q) := by
  have cg := c_grow 40 0 rfl (va_up (va_up A 24 q) 23 S.1) (va_up B 23 S.2) (-1)
  rw [gRes_hG, e1, e2, hK] at cg
  clear hK e1 e2
  iterate 3 (refine V.s omX3_survey rfl rfl ?_)
  refine V.cSv (d := 42) omX3_survey omX3_grow rfl rfl cg rfl rfl rfl rfl ?_
  exact V.vret omX3_survey rfl rfl hQ
set_option maxHeartbeats 4000000 in
set_option maxRecDepth 100000 in
theorem c_survey (up bar : Int32) : C mX3_survey 43 0 0 [.ref 23, .ref 19, .int up, .int bar] (hp A B) (fun r h' => h' = hG A B (S7 up bar (A 20) (A 23) (B 23) (A 24)).1 (S7 up bar (A 20) (A 23) (B 23) (A 24)).2 (qn (A 20) (A 24)) ∧ r = none) := by
  refine C.of [some (.ref 23), some (.ref 19), some (.int up), some (.int bar), none] omX3_survey rfl rfl rfl ?_
  have key : ∀ (Q : Option Value → hp_T → Prop), Q none (hG A B (S7 up bar (A 20) (A 23) (B 23) (A 24)).1 (S7 up bar (A 20) (A 23) (B 23) (A 24)).2 (qn (A 20) (A 24))) → V mX3_survey 43 0 0 Q 0 0 0 [some (.ref 23), some (.ref 19), some (.int up), some (.int bar), none] [] (hG A B (A 23) (B 23) (A 24)) := by
    intro Q hQ
    obtain ⟨K, hK⟩ : ∃ K, K = gk up bar 40 (-1) (qn (A 20) (A 24)) := ⟨_, rfl⟩
    iterate 2 (refine V.s omX3_survey rfl rfl ?_)
    refine V.pfH omX3_survey rfl rfl rfl rfl rfl rfl rfl ?_
    rw [bx_uu, va_up_self]
    iterate 2 (refine V.s omX3_survey rfl rfl ?_)
    refine V.pfH omX3_survey rfl rfl rfl rfl rfl rfl rfl ?_
    rw [bx_uu, va_up_self]
    iterate 2 (refine V.s omX3_survey rfl rfl ?_)
    refine V.pfH omX3_survey rfl rfl rfl rfl rfl rfl rfl ?_
    rw [bx_uu, va_up_self]
    iterate 2 (refine V.s omX3_survey rfl rfl ?_)
    refine V.pfH omX3_survey rfl rfl rfl rfl rfl rfl rfl ?_
    rw [bx_uu, va_up_self]
    iterate 2 (refine V.s omX3_survey rfl rfl ?_)
    refine V.pfH omX3_survey rfl rfl rfl rfl rfl rfl rfl ?_
    rw [bx_uu, va_up_self]
    iterate 2 (refine V.s omX3_survey rfl rfl ?_)
    refine V.pfL7 omX3_survey rfl ?_
    rw [bx_uu, va_up_self]
    iterate 2 (refine V.s omX3_survey rfl rfl ?_)
    refine V.pfH omX3_survey rfl rfl rfl rfl rfl rfl rfl ?_
    rw [bx_uu, va_up_self]
    iterate 2 (refine V.s omX3_survey rfl rfl ?_)
    refine sv_st (i := 0) 41 (by decide) (F07 (A 23) up bar, vp_updL (B 23) 7 0) rfl rfl ?_
    refine sv_st (i := 1) 41 (by decide) _ (nv12 (Or.inl rfl) _ _) (nv12 (Or.inr rfl) _ _) ?_
    refine sv_st (i := 2) 41 (by decide) _ ((nv12 (Or.inl rfl) _ _).trans (nv12 (Or.inl rfl) _ _)) ((nv12 (Or.inr rfl) _ _).trans (nv12 (Or.inr rfl) _ _)) ?_
    refine sv_st (i := 3) 41 (by decide) _ ((nv12 (Or.inl rfl) _ _).trans ((nv12 (Or.inl rfl) _ _).trans (nv12 (Or.inl rfl) _ _))) ((nv12 (Or.inr rfl) _ _).trans ((nv12 (Or.inr rfl) _ _).trans (nv12 (Or.inr rfl) _ _))) ?_
    iterate 2 (refine V.s omX3_survey rfl rfl ?_)
    refine V.brT omX3_survey rfl rfl (by decide) (by decide) ?_
    unfold S7 vs7 at hQ
    rw [← hK] at hQ
    simp only [List.foldl_append] at hQ
    exact sv_97 (K := K) (up := up) (bar := bar) ((nv12 (Or.inl rfl) _ _).trans ((nv12 (Or.inl rfl) _ _).trans ((nv12 (Or.inl rfl) _ _).trans (nv12 (Or.inl rfl) _ _)))) ((nv12 (Or.inr rfl) _ _).trans ((nv12 (Or.inr rfl) _ _).trans ((nv12 (Or.inr rfl) _ _).trans (nv12 (Or.inr rfl) _ _)))) hK.symm hQ
  have k1 := key (fun r h' => h' = hG A B (S7 up bar (A 20) (A 23) (B 23) (A 24)).1 (S7 up bar (A 20) (A 23) (B 23) (A 24)).2 (qn (A 20) (A 24)) ∧ r = none) ⟨rfl, rfl⟩
  unfold hG at k1
  rw [va_self A 24, va_self A 23, vb_self] at k1
  exact k1
def J7 (A A' : Nat → Nat → Int32) : Prop := ∀ q k, ¬ (q = 19 ∨ q = 20 ∨ q = 23 ∨ q = 24) → A' q k = A q k
theorem J7_r (A : Nat → Nat → Int32) : J7 A A := fun _ _ _ => rfl
theorem J7_t {A A1 A2 : Nat → Nat → Int32} (h : J7 A A1) (g : J7 A1 A2) : J7 A A2 := fun q k hq => (g q k hq).trans (h q k hq)
theorem J7_hG (A : Nat → Nat → Int32) (F q : Nat → Int32) : J7 A (va_up (va_up A 24 q) 23 F) := by
  intro z k h
  unfold va_up
  rw [if_neg (fun e => h (Or.inr (Or.inr (Or.inl e)))), if_neg (fun e => h (Or.inr (Or.inr (Or.inr e))))]
theorem J7_Lh (A : Nat → Nat → Int32) (f : Nat → Int32) (v : Int32) : J7 A (Lh A 6 f v) := by
  intro z k h
  unfold Lh va_up
  rw [if_neg (fun e => h (Or.inl e)), if_neg (fun e => h (Or.inr (Or.inl e)))]
theorem J7_rf {A X : Nat → Nat → Int32} (h : J7 A X) (c : Nat) : J7 (rfA A c) (rfA X c) := by
  intro z k hz
  have e : X 32 = A 32 := funext (fun k => h 32 k (by decide))
  unfold rfA va_up
  split
  · rw [e]
  · exact h z k hz
theorem J7_23 (A : Nat → Nat → Int32) (F : Nat → Int32) : J7 A (va_up A 23 F) := by
  intro z k h
  unfold va_up
  rw [if_neg (fun e => h (Or.inr (Or.inr (Or.inl e))))]
set_option maxHeartbeats 4000000 in
set_option maxRecDepth 100000 in
theorem c_leastAbove (n : Int32) : C mX3_leastBendAbove 44 0 0 [.ref 23, .ref 19, .int n] (hp A B) (fun r h' => (∃ A' B', h' = hp A' B' ∧ J7 A A') ∧ ∃ F G, F 3 = n ∧ r = some (.int (if (S7 300 (-1) (A 20) F G (A 24)).1 8 = 0 then -1 else (S7 300 (-1) (A 20) F G (A 24)).1 9))) := by
  refine C.of [some (.ref 23), some (.ref 19), some (.int n)] omX3_leastBendAbove rfl rfl rfl ?_
  iterate 2 (refine V.s omX3_leastBendAbove rfl rfl ?_)
  refine V.pfH omX3_leastBendAbove rfl rfl rfl rfl rfl rfl rfl ?_
  iterate 4 (refine V.s omX3_leastBendAbove rfl rfl ?_)
  have cs := c_survey (A := va_up A 23 (upd (A 23) 3 n)) (B := B) 300 (-1)
  rw [va_up_self, show va_up A 23 (upd (A 23) 3 n) 20 = A 20 from rfl, show va_up A 23 (upd (A 23) 3 n) 24 = A 24 from rfl] at cs
  refine V.cVv omX3_leastBendAbove omX3_survey rfl rfl cs rfl rfl rfl rfl rfl rfl ?_
  refine V.s omX3_leastBendAbove rfl rfl ?_
  refine V.gf omX3_leastBendAbove rfl rfl rfl rfl ?_
  rw [va_up_self]
  refine V.br omX3_leastBendAbove rfl rfl (fun hc => ?_) (fun hc => ?_)
  · refine V.s omX3_leastBendAbove rfl rfl ?_
    exact V.iret omX3_leastBendAbove rfl rfl ⟨⟨_, _, rfl, J7_t (J7_23 _ _) (J7_hG _ _ _)⟩, upd (A 23) 3 n, B 23, rfl, by rw [if_pos hc]⟩
  · refine V.s omX3_leastBendAbove rfl rfl ?_
    refine V.gf omX3_leastBendAbove rfl rfl rfl rfl ?_
    rw [va_up_self]
    refine V.s omX3_leastBendAbove rfl rfl ?_
    exact V.iret omX3_leastBendAbove rfl rfl ⟨⟨_, _, rfl, J7_t (J7_23 _ _) (J7_hG _ _ _)⟩, upd (A 23) 3 n, B 23, rfl, by rw [if_neg hc]⟩
def wL (A : Nat → Nat → Int32) (r : Int32) : Int32 × (Nat → Int32) × Int32 := lbB (A (8 + 2 * cl r)) (A 20)
def wp (A : Nat → Nat → Int32) (m : Nat) (r : Int32) : Int32 := if wn A m r = 0 then (if negB (wL A r).2.1 = 1 then 0 else -7) else wn A m r
def wpA (A : Nat → Nat → Int32) (m : Nat) (r : Int32) : Nat → Nat → Int32 := if wn A m r = 0 then Lh A 6 (wL A r).2.1 (wL A r).2.2 else A
def wu (A : Nat → Nat → Int32) (m : Nat) (r n : Int32) : Int32 := if wp A m r = 0 then (if 0 ≤ n ∧ n ≤ 300 then 0 else -7) else wp A m r
theorem wp_c (A : Nat → Nat → Int32) (m : Nat) (r : Int32) : wp A m r = 0 ∨ wp A m r = -7 ∨ wp A m r = -3 := by
  unfold wp
  rcases wn_c A m r with h | h | h
  · rw [if_pos h]; split <;> simp
  · rw [if_neg (by rw [h]; decide), h]; simp
  · rw [if_neg (by rw [h]; decide), h]; simp
theorem wu_c (A : Nat → Nat → Int32) (m : Nat) (r n : Int32) : wu A m r n = 0 ∨ wu A m r n = -7 ∨ wu A m r n = -3 := by
  unfold wu
  rcases wp_c A m r with h | h | h
  · rw [if_pos h]; split <;> simp
  · rw [if_neg (by rw [h]; decide), h]; simp
  · rw [if_neg (by rw [h]; decide), h]; simp
theorem rfB_c {v : Int32} (h : v = 0 ∨ v = -7 ∨ v = -3) (h0 : ¬ v = 0) : rfB v = true := by
  rcases h with h | h | h
  · exact absurd h h0
  · rw [h]; decide
  · rw [h]; decide
theorem wp_0 {m : Nat} {r : Int32} (h : wp A m r = 0) : wn A m r = 0 := by
  by_cases g : wn A m r = 0
  · exact g
  · unfold wp at h
    rw [if_neg g] at h
    exact h
theorem wu_0 {m : Nat} {r n : Int32} (h : wu A m r n = 0) : wp A m r = 0 := by
  by_cases g : wp A m r = 0
  · exact g
  · unfold wu at h
    rw [if_neg g] at h
    exact h
theorem J7_wpA (A : Nat → Nat → Int32) (m : Nat) (r : Int32) : J7 A (wpA A m r) := by
  unfold wpA
  split
  · exact J7_Lh _ _ _
  · exact J7_r _
set_option maxHeartbeats 4000000 in
set_option maxRecDepth 100000 in
theorem c_whyNoPacking (d : Nat) {m : Nat} (hm : A 0 9 = nI m) (h6 : m ≤ 6) (r : Int32) : C mX7_whyNoPacking (d + 4) 0 0 [.ref 0, .int r] (hp A B) (fun r' h' => h' = hp (wpA A m r) B ∧ r' = some (.int (wp A m r))) := by
  refine C.of [some (.ref 0), some (.int r), none] omX7_whyNoPacking rfl rfl rfl ?_
  iterate 2 (refine V.s omX7_whyNoPacking rfl rfl ?_)
  refine V.cVf omX7_whyNoPacking omX7_whyNoLeast rfl rfl (c_whyNoLeast (d + 1) hm h6 r) rfl rfl rfl rfl rfl rfl ?_
  iterate 2 (refine V.s omX7_whyNoPacking rfl rfl ?_)
  by_cases h0 : wn A m r = 0
  · simp only [wp, wpA, if_pos h0]
    refine V.brT omX7_whyNoPacking rfl rfl h0 (fun h g => g h) ?_
    obtain ⟨i, hi, rfl⟩ := rng (by omega) (wn_0 h0).1
    simp only [wL, cl_nI (show i < 20 by omega)]
    refine V.s omX7_whyNoPacking rfl rfl ?_
    refine V.gf omX7_whyNoPacking rfl rfl rfl rfl ?_
    refine V.s omX7_whyNoPacking rfl rfl ?_
    refine V.gf omX7_whyNoPacking rfl rfl rfl rfl ?_
    refine V.s omX7_whyNoPacking rfl rfl ?_
    refine V.aal omX7_whyNoPacking rfl rfl (ixN nv_nI (show i < 6 by omega) (by decide)) (kisF_at (show i < 6 by omega)) ?_
    refine V.cVv omX7_whyNoPacking omX4_takeLeastBends rfl rfl (c_tlb d (show i < 8 by omega)) rfl rfl rfl rfl rfl rfl ?_
    refine V.s omX7_whyNoPacking rfl rfl ?_
    refine V.gf omX7_whyNoPacking rfl rfl rfl rfl ?_
    refine V.cVf omX7_whyNoPacking omX4_hasBendBelowZero rfl rfl (c_neg6 _) rfl rfl rfl rfl rfl rfl ?_
    rw [Lh_20]
    rcases negB_01 (lbB (A (8 + 2 * i)) (A 20)).2.1 with hb | hb
    · rw [hb]
      refine V.brT omX7_whyNoPacking rfl rfl rfl (by decide) ?_
      refine V.s omX7_whyNoPacking rfl rfl ?_
      exact V.iret omX7_whyNoPacking rfl rfl ⟨rfl, rfl⟩
    · rw [hb]
      refine V.brF omX7_whyNoPacking rfl rfl (by decide) ?_
      iterate 2 (refine V.s omX7_whyNoPacking rfl rfl ?_)
      exact V.iret omX7_whyNoPacking rfl rfl ⟨rfl, rfl⟩
  · simp only [wp, wpA, if_neg h0]
    refine V.brF omX7_whyNoPacking rfl rfl h0 ?_
    refine V.s omX7_whyNoPacking rfl rfl ?_
    exact V.iret omX7_whyNoPacking rfl rfl ⟨rfl, rfl⟩
set_option maxHeartbeats 4000000 in
set_option maxRecDepth 100000 in
theorem c_whyUpTo (d : Nat) {m : Nat} (hm : A 0 9 = nI m) (h6 : m ≤ 6) (r n : Int32) : C mX7_whyNoPackingUpTo (d + 5) 0 0 [.ref 0, .int r, .int n] (hp A B) (fun r' h' => h' = hp (wpA A m r) B ∧ r' = some (.int (wu A m r n))) := by
  refine C.of [some (.ref 0), some (.int r), some (.int n), none] omX7_whyNoPackingUpTo rfl rfl rfl ?_
  iterate 2 (refine V.s omX7_whyNoPackingUpTo rfl rfl ?_)
  refine V.cVf omX7_whyNoPackingUpTo omX7_whyNoPacking rfl rfl (c_whyNoPacking d hm h6 r) rfl rfl rfl rfl rfl rfl ?_
  iterate 2 (refine V.s omX7_whyNoPackingUpTo rfl rfl ?_)
  by_cases h0 : wp A m r = 0
  · refine V.brT omX7_whyNoPackingUpTo rfl rfl h0 (fun h g => g h) ?_
    simp only [wu, if_pos h0]
    refine V.s omX7_whyNoPackingUpTo rfl rfl ?_
    by_cases h1 : 0 ≤ n
    · refine V.brF omX7_whyNoPackingUpTo rfl rfl (Int32.not_lt.mpr h1) ?_
      iterate 2 (refine V.s omX7_whyNoPackingUpTo rfl rfl ?_)
      by_cases h2 : n ≤ 300
      · refine V.brF omX7_whyNoPackingUpTo rfl rfl (Int32.not_lt.mpr h2) ?_
        iterate 2 (refine V.s omX7_whyNoPackingUpTo rfl rfl ?_)
        exact V.iret omX7_whyNoPackingUpTo rfl rfl ⟨rfl, by rw [if_pos ⟨h1, h2⟩]⟩
      · refine V.brT omX7_whyNoPackingUpTo rfl rfl (Int32.not_le.mp h2) (fun h => Int32.not_le.mpr h) ?_
        refine V.s omX7_whyNoPackingUpTo rfl rfl ?_
        exact V.iret omX7_whyNoPackingUpTo rfl rfl ⟨rfl, by rw [if_neg (fun g => h2 g.2)]⟩
    · refine V.brT omX7_whyNoPackingUpTo rfl rfl (Int32.not_le.mp h1) (fun h => Int32.not_le.mpr h) ?_
      refine V.s omX7_whyNoPackingUpTo rfl rfl ?_
      exact V.iret omX7_whyNoPackingUpTo rfl rfl ⟨rfl, by rw [if_neg (fun g => h1 g.1)]⟩
  · refine V.brF omX7_whyNoPackingUpTo rfl rfl h0 ?_
    simp only [wu, if_neg h0]
    refine V.s omX7_whyNoPackingUpTo rfl rfl ?_
    exact V.iret omX7_whyNoPackingUpTo rfl rfl ⟨rfl, rfl⟩
theorem wpA_y {m : Nat} {r : Int32} (h : wp A m r = 0) : wpA A m r = Lh A 6 (wL A r).2.1 (wL A r).2.2 := by unfold wpA; rw [if_pos (wp_0 h)]
theorem c_sv6 (up bar : Int32) (w : Nat → Int32) (v : Int32) : C mX3_survey 43 0 0 [.ref 23, .ref 19, .int up, .int bar] (hp (Lh A 6 w v) B) (fun r h' => h' = hG (Lh A 6 w v) B (S7 up bar w (A 23) (B 23) (A 24)).1 (S7 up bar w (A 23) (B 23) (A 24)).2 (qn w (A 24)) ∧ r = none) := c_survey (A := Lh A 6 w v) (B := B) up bar
set_option maxHeartbeats 4000000 in
set_option maxRecDepth 100000 in
theorem c7_count {m : Nat} (hm : A 0 9 = nI m) (h6 : m ≤ 6) (r n : Int32) : C mX7_count 44 0 0 [.ref 0, .int r, .int n] (hp A B) (fun r' h' => (∃ A' B', h' = hp A' B' ∧ J7 (if wu A m r n = 0 then A else rfA A (rfI (wu A m r n))) A') ∧ ∃ F G q, r' = some (.int (if wu A m r n = 0 then (S7 n (-1) (wL A r).2.1 F G q).1 4 else wu A m r n))) := by
  refine C.of [some (.ref 0), some (.int r), some (.int n), none] omX7_count rfl rfl rfl ?_
  iterate 3 (refine V.s omX7_count rfl rfl ?_)
  refine V.cVf omX7_count omX7_whyNoPackingUpTo rfl rfl (c_whyUpTo 38 hm h6 r n) rfl rfl rfl rfl rfl rfl ?_
  iterate 2 (refine V.s omX7_count rfl rfl ?_)
  by_cases h0 : wu A m r n = 0
  · refine V.brT omX7_count rfl rfl h0 (fun h g => g h) ?_
    simp only [if_pos h0]
    rw [wpA_y (wu_0 h0)]
    refine V.s omX7_count rfl rfl ?_
    refine V.gf omX7_count rfl rfl rfl rfl ?_
    refine V.s omX7_count rfl rfl ?_
    refine V.gf omX7_count rfl rfl rfl rfl ?_
    iterate 2 (refine V.s omX7_count rfl rfl ?_)
    refine V.cVv omX7_count omX3_survey rfl rfl (c_sv6 n (-1) (wL A r).2.1 (wL A r).2.2) rfl rfl rfl rfl rfl rfl ?_
    refine V.s omX7_count rfl rfl ?_
    refine V.gf omX7_count rfl rfl rfl rfl ?_
    refine V.gf omX7_count rfl rfl rfl rfl ?_
    rw [va_up_self]
    exact V.iret omX7_count rfl rfl ⟨⟨_, _, rfl, J7_t (J7_Lh _ _ _) (J7_hG _ _ _)⟩, A 23, B 23, A 24, rfl⟩
  · refine V.brF omX7_count rfl rfl h0 ?_
    simp only [if_neg h0]
    iterate 2 (refine V.s omX7_count rfl rfl ?_)
    refine V.cVf omX7_count omX7_refuse rfl rfl (c_refuse _ _ (rfB_c (wu_c A m r n) h0)) rfl rfl rfl rfl rfl rfl ?_
    exact V.iret omX7_count rfl rfl ⟨⟨_, _, rfl, J7_rf (J7_wpA A m r) _⟩, A 23, B 23, A 24, rfl⟩
set_option maxHeartbeats 4000000 in
set_option maxRecDepth 100000 in
theorem c7_bends {m : Nat} (hm : A 0 9 = nI m) (h6 : m ≤ 6) (r n : Int32) : C mX7_bends 44 0 0 [.ref 0, .int r, .int n] (hp A B) (fun r' h' => (∃ A' B', h' = hp A' B' ∧ J7 (if wu A m r n = 0 then A else rfA A (rfI (wu A m r n))) A') ∧ ∃ F G q, r' = some (.int (if wu A m r n = 0 then (S7 n (-1) (wL A r).2.1 F G q).1 5 else wu A m r n))) := by
  refine C.of [some (.ref 0), some (.int r), some (.int n), none] omX7_bends rfl rfl rfl ?_
  iterate 3 (refine V.s omX7_bends rfl rfl ?_)
  refine V.cVf omX7_bends omX7_whyNoPackingUpTo rfl rfl (c_whyUpTo 38 hm h6 r n) rfl rfl rfl rfl rfl rfl ?_
  iterate 2 (refine V.s omX7_bends rfl rfl ?_)
  by_cases h0 : wu A m r n = 0
  · refine V.brT omX7_bends rfl rfl h0 (fun h g => g h) ?_
    simp only [if_pos h0]
    rw [wpA_y (wu_0 h0)]
    refine V.s omX7_bends rfl rfl ?_
    refine V.gf omX7_bends rfl rfl rfl rfl ?_
    refine V.s omX7_bends rfl rfl ?_
    refine V.gf omX7_bends rfl rfl rfl rfl ?_
    iterate 2 (refine V.s omX7_bends rfl rfl ?_)
    refine V.cVv omX7_bends omX3_survey rfl rfl (c_sv6 n (-1) (wL A r).2.1 (wL A r).2.2) rfl rfl rfl rfl rfl rfl ?_
    refine V.s omX7_bends rfl rfl ?_
    refine V.gf omX7_bends rfl rfl rfl rfl ?_
    refine V.gf omX7_bends rfl rfl rfl rfl ?_
    rw [va_up_self]
    exact V.iret omX7_bends rfl rfl ⟨⟨_, _, rfl, J7_t (J7_Lh _ _ _) (J7_hG _ _ _)⟩, A 23, B 23, A 24, rfl⟩
  · refine V.brF omX7_bends rfl rfl h0 ?_
    simp only [if_neg h0]
    iterate 2 (refine V.s omX7_bends rfl rfl ?_)
    refine V.cVf omX7_bends omX7_refuse rfl rfl (c_refuse _ _ (rfB_c (wu_c A m r n) h0)) rfl rfl rfl rfl rfl rfl ?_
    exact V.iret omX7_bends rfl rfl ⟨⟨_, _, rfl, J7_rf (J7_wpA A m r) _⟩, A 23, B 23, A 24, rfl⟩
set_option maxHeartbeats 4000000 in
set_option maxRecDepth 100000 in
theorem c7_rests {m : Nat} (hm : A 0 9 = nI m) (h6 : m ≤ 6) (r n : Int32) : C mX7_rests 44 0 0 [.ref 0, .int r, .int n] (hp A B) (fun r' h' => (∃ A' B', h' = hp A' B' ∧ J7 (if wu A m r n = 0 then A else rfA A (rfI (wu A m r n))) A') ∧ ∃ F G q, r' = some (.int (if wu A m r n = 0 then (S7 n (-1) (wL A r).2.1 F G q).1 6 else wu A m r n))) := by
  refine C.of [some (.ref 0), some (.int r), some (.int n), none] omX7_rests rfl rfl rfl ?_
  iterate 3 (refine V.s omX7_rests rfl rfl ?_)
  refine V.cVf omX7_rests omX7_whyNoPackingUpTo rfl rfl (c_whyUpTo 38 hm h6 r n) rfl rfl rfl rfl rfl rfl ?_
  iterate 2 (refine V.s omX7_rests rfl rfl ?_)
  by_cases h0 : wu A m r n = 0
  · refine V.brT omX7_rests rfl rfl h0 (fun h g => g h) ?_
    simp only [if_pos h0]
    rw [wpA_y (wu_0 h0)]
    refine V.s omX7_rests rfl rfl ?_
    refine V.gf omX7_rests rfl rfl rfl rfl ?_
    refine V.s omX7_rests rfl rfl ?_
    refine V.gf omX7_rests rfl rfl rfl rfl ?_
    iterate 2 (refine V.s omX7_rests rfl rfl ?_)
    refine V.cVv omX7_rests omX3_survey rfl rfl (c_sv6 n (-1) (wL A r).2.1 (wL A r).2.2) rfl rfl rfl rfl rfl rfl ?_
    refine V.s omX7_rests rfl rfl ?_
    refine V.gf omX7_rests rfl rfl rfl rfl ?_
    refine V.gf omX7_rests rfl rfl rfl rfl ?_
    rw [va_up_self]
    exact V.iret omX7_rests rfl rfl ⟨⟨_, _, rfl, J7_t (J7_Lh _ _ _) (J7_hG _ _ _)⟩, A 23, B 23, A 24, rfl⟩
  · refine V.brF omX7_rests rfl rfl h0 ?_
    simp only [if_neg h0]
    iterate 2 (refine V.s omX7_rests rfl rfl ?_)
    refine V.cVf omX7_rests omX7_refuse rfl rfl (c_refuse _ _ (rfB_c (wu_c A m r n) h0)) rfl rfl rfl rfl rfl rfl ?_
    exact V.iret omX7_rests rfl rfl ⟨⟨_, _, rfl, J7_rf (J7_wpA A m r) _⟩, A 23, B 23, A 24, rfl⟩
def wx (A : Nat → Nat → Int32) (m : Nat) (r n : Int32) : Int32 := if wp A m r = 0 then (if -1000000000 ≤ n ∧ n < 300 then 0 else -7) else wp A m r
theorem wx_c (A : Nat → Nat → Int32) (m : Nat) (r n : Int32) : wx A m r n = 0 ∨ wx A m r n = -7 ∨ wx A m r n = -3 := by
  unfold wx
  rcases wp_c A m r with h | h | h
  · rw [if_pos h]; split <;> simp
  · rw [if_neg (by rw [h]; decide), h]; simp
  · rw [if_neg (by rw [h]; decide), h]; simp
set_option maxHeartbeats 4000000 in
set_option maxRecDepth 100000 in
theorem c7_next {m : Nat} (hm : A 0 9 = nI m) (h6 : m ≤ 6) (r n : Int32) : C mX7_next 45 0 0 [.ref 0, .int r, .int n] (hp A B) (fun r' h' => (∃ A' B', h' = hp A' B' ∧ J7 (if wx A m r n = 0 then A else rfA A (rfI (wx A m r n))) A') ∧ ∃ F G q, F 3 = n ∧ r' = some (.int (if wx A m r n = 0 then (if (S7 300 (-1) (wL A r).2.1 F G q).1 8 = 0 then -1 else (S7 300 (-1) (wL A r).2.1 F G q).1 9) else wx A m r n))) := by
  refine C.of [some (.ref 0), some (.int r), some (.int n), none] omX7_next rfl rfl rfl ?_
  iterate 2 (refine V.s omX7_next rfl rfl ?_)
  refine V.cVf omX7_next omX7_whyNoPacking rfl rfl (c_whyNoPacking 40 hm h6 r) rfl rfl rfl rfl rfl rfl ?_
  iterate 2 (refine V.s omX7_next rfl rfl ?_)
  have bad : ∀ y, wx A m r n = y → ¬ y = 0 → V mX7_next 45 0 0 (fun r' h' => (∃ A' B', h' = hp A' B' ∧ J7 (if wx A m r n = 0 then A else rfA A (rfI (wx A m r n))) A') ∧ ∃ F G q, F 3 = n ∧ r' = some (.int (if wx A m r n = 0 then (if (S7 300 (-1) (wL A r).2.1 F G q).1 8 = 0 then -1 else (S7 300 (-1) (wL A r).2.1 F G q).1 9) else wx A m r n))) 0 0 26 [some (.ref 0), some (.int r), some (.int n), some (.int y)] [] (hp (wpA A m r) B) := by
    intro y hy h0
    subst hy
    refine V.s omX7_next rfl rfl ?_
    refine V.brF omX7_next rfl rfl h0 ?_
    simp only [if_neg h0]
    iterate 2 (refine V.s omX7_next rfl rfl ?_)
    refine V.cVf omX7_next omX7_refuse rfl rfl (c_refuse _ _ (rfB_c (wx_c A m r n) h0)) rfl rfl rfl rfl rfl rfl ?_
    exact V.iret omX7_next rfl rfl ⟨⟨_, _, rfl, J7_rf (J7_wpA A m r) _⟩, (fun _ => n), B 23, A 24, rfl, rfl⟩
  by_cases h0 : wp A m r = 0
  · refine V.brF omX7_next rfl rfl (fun g => g h0) ?_
    iterate 2 (refine V.s omX7_next rfl rfl ?_)
    by_cases h1 : n < -1000000000
    · refine V.brT omX7_next rfl rfl h1 (fun h => Int32.not_le.mpr h) ?_
      iterate 2 (refine V.s omX7_next rfl rfl ?_)
      exact bad (-7) (by unfold wx; rw [if_pos h0, if_neg (fun g => Int32.not_le.mpr h1 g.1)]) (by decide)
    · refine V.brF omX7_next rfl rfl h1 ?_
      iterate 2 (refine V.s omX7_next rfl rfl ?_)
      by_cases h2 : n < 300
      · refine V.brT omX7_next rfl rfl h2 (fun h => Int32.not_le.mpr h) ?_
        have hx : wx A m r n = 0 := by unfold wx; rw [if_pos h0, if_pos ⟨Int32.not_lt.mp h1, h2⟩]
        simp only [if_pos hx]
        refine V.s omX7_next rfl rfl ?_
        refine V.brT omX7_next rfl rfl h0 (fun h g => g h) ?_
        rw [wpA_y h0]
        refine V.s omX7_next rfl rfl ?_
        refine V.gf omX7_next rfl rfl rfl rfl ?_
        refine V.s omX7_next rfl rfl ?_
        refine V.gf omX7_next rfl rfl rfl rfl ?_
        refine V.s omX7_next rfl rfl ?_
        refine V.cV omX7_next omX3_leastBendAbove (c_leastAbove (A := Lh A 6 (wL A r).2.1 (wL A r).2.2) (B := B) n) rfl rfl rfl rfl rfl rfl rfl rfl (by omega) (by omega) (fun r' h' hQ => ?_)
        obtain ⟨⟨A', B', rfl, hJ⟩, F, G, hF, rfl⟩ := hQ
        show V mX7_next 45 0 0 _ 0 0 48 _ [.int _] _
        exact V.iret omX7_next rfl rfl ⟨⟨_, _, rfl, J7_t (J7_Lh _ _ _) hJ⟩, F, G, A 24, hF, rfl⟩
      · refine V.brF omX7_next rfl rfl h2 ?_
        iterate 2 (refine V.s omX7_next rfl rfl ?_)
        exact bad (-7) (by unfold wx; rw [if_pos h0, if_neg (fun g => h2 g.2)]) (by decide)
  · refine V.brT omX7_next rfl rfl h0 (fun g => g) ?_
    exact bad _ (by unfold wx; rw [if_neg h0]) h0
set_option maxHeartbeats 4000000 in
set_option maxRecDepth 100000 in
theorem c7_sum {m : Nat} (hm : A 0 9 = nI m) (h6 : m ≤ 6) (r n v : Int32) : C mX7_sum 44 0 0 [.ref 0, .int r, .int n, .int v] (hp A B) (fun r' h' => (∃ A' B', h' = hp A' B' ∧ J7 (if wz8 (wu A m r n) v = 0 then A else rfA A (rfI (wz8 (wu A m r n) v))) A') ∧ ∃ F G q, r' = some (.long (if wz8 (wu A m r n) v = 0 then (if v = 0 then (S7 n (-1) (wL A r).2.1 F G q).2 7 else ((S7 n (v - 1) (wL A r).2.1 F G q).1 4).toInt64) else 0))) := by
  refine C.of [some (.ref 0), some (.int r), some (.int n), some (.int v), none] omX7_sum rfl rfl rfl ?_
  iterate 3 (refine V.s omX7_sum rfl rfl ?_)
  refine V.cVf omX7_sum omX7_whyNoPackingUpTo rfl rfl (c_whyUpTo 38 hm h6 r n) rfl rfl rfl rfl rfl rfl ?_
  iterate 2 (refine V.s omX7_sum rfl rfl ?_)
  have wzc : wz8 (wu A m r n) v = 0 ∨ wz8 (wu A m r n) v = -7 ∨ wz8 (wu A m r n) v = -3 := by
    unfold wz8
    rcases wu_c A m r n with h | h | h
    · rw [if_pos h]; split <;> simp
    · rw [if_neg (by rw [h]; decide), h]; simp
    · rw [if_neg (by rw [h]; decide), h]; simp
  have bad : ∀ y, wz8 (wu A m r n) v = y → ¬ y = 0 → V mX7_sum 44 0 0 (fun r' h' => (∃ A' B', h' = hp A' B' ∧ J7 (if wz8 (wu A m r n) v = 0 then A else rfA A (rfI (wz8 (wu A m r n) v))) A') ∧ ∃ F G q, r' = some (.long (if wz8 (wu A m r n) v = 0 then (if v = 0 then (S7 n (-1) (wL A r).2.1 F G q).2 7 else ((S7 n (v - 1) (wL A r).2.1 F G q).1 4).toInt64) else 0))) 0 0 26 [some (.ref 0), some (.int r), some (.int n), some (.int v), some (.int y)] [] (hp (wpA A m r) B) := by
    intro y hy h0
    subst hy
    refine V.s omX7_sum rfl rfl ?_
    refine V.brF omX7_sum rfl rfl h0 ?_
    simp only [if_neg h0]
    iterate 2 (refine V.s omX7_sum rfl rfl ?_)
    refine V.cVf omX7_sum omX7_refuseByZero rfl rfl (c_refuseByZero _ _ (rfB_c wzc h0)) rfl rfl rfl rfl rfl rfl ?_
    refine V.s omX7_sum rfl rfl ?_
    exact V.lret omX7_sum rfl rfl ⟨⟨_, _, rfl, J7_rf (J7_wpA A m r) _⟩, A 23, B 23, A 24, rfl⟩
  by_cases h0 : wu A m r n = 0
  · refine V.brF omX7_sum rfl rfl (fun g => g h0) ?_
    refine V.s omX7_sum rfl rfl ?_
    by_cases h1 : v < 0
    · refine V.brT omX7_sum rfl rfl h1 (fun h => Int32.not_le.mpr h) ?_
      iterate 2 (refine V.s omX7_sum rfl rfl ?_)
      exact bad (-7) (by unfold wz8; rw [if_pos h0, if_neg (fun g => Int32.not_le.mpr h1 g.1)]) (by decide)
    refine V.brF omX7_sum rfl rfl h1 ?_
    iterate 2 (refine V.s omX7_sum rfl rfl ?_)
    by_cases h2 : v ≤ 4
    · refine V.brT omX7_sum rfl rfl h2 (fun h => Int32.not_lt.mpr h) ?_
      have hz : wz8 (wu A m r n) v = 0 := by unfold wz8; rw [if_pos h0, if_pos ⟨Int32.not_lt.mp h1, h2⟩]
      simp only [if_pos hz]
      refine V.s omX7_sum rfl rfl ?_
      refine V.brT omX7_sum rfl rfl h0 (fun h g => g h) ?_
      rw [wpA_y (wu_0 h0)]
      refine V.s omX7_sum rfl rfl ?_
      refine V.gf omX7_sum rfl rfl rfl rfl ?_
      refine V.s omX7_sum rfl rfl ?_
      refine V.gf omX7_sum rfl rfl rfl rfl ?_
      iterate 2 (refine V.s omX7_sum rfl rfl ?_)
      by_cases h3 : v = 0
      · refine V.brF omX7_sum rfl rfl (fun g => g h3) ?_
        iterate 2 (refine V.s omX7_sum rfl rfl ?_)
        refine V.cVv omX7_sum omX3_survey rfl rfl (c_sv6 n (-1) (wL A r).2.1 (wL A r).2.2) rfl rfl rfl rfl rfl rfl ?_
        refine V.s omX7_sum rfl rfl ?_
        refine V.brF omX7_sum rfl rfl (fun g => g h3) ?_
        refine V.s omX7_sum rfl rfl ?_
        refine V.gf omX7_sum rfl rfl rfl rfl ?_
        refine V.gf omX7_sum rfl rfl rfl rfl ?_
        rw [va_up_self]
        refine V.s omX7_sum rfl rfl ?_
        exact V.lret omX7_sum rfl rfl ⟨⟨_, _, rfl, J7_t (J7_Lh _ _ _) (J7_hG _ _ _)⟩, A 23, B 23, A 24, by rw [if_pos h3]⟩
      · refine V.brT omX7_sum rfl rfl h3 (fun g => g) ?_
        iterate 3 (refine V.s omX7_sum rfl rfl ?_)
        refine V.cVv omX7_sum omX3_survey rfl rfl (c_sv6 n (v - 1) (wL A r).2.1 (wL A r).2.2) rfl rfl rfl rfl rfl rfl ?_
        refine V.s omX7_sum rfl rfl ?_
        refine V.brT omX7_sum rfl rfl h3 (fun g => g) ?_
        refine V.s omX7_sum rfl rfl ?_
        refine V.gf omX7_sum rfl rfl rfl rfl ?_
        refine V.gf omX7_sum rfl rfl rfl rfl ?_
        rw [va_up_self]
        refine V.s omX7_sum rfl rfl ?_
        exact V.lret omX7_sum rfl rfl ⟨⟨_, _, rfl, J7_t (J7_Lh _ _ _) (J7_hG _ _ _)⟩, A 23, B 23, A 24, by rw [if_neg h3]⟩
    · refine V.brF omX7_sum rfl rfl h2 ?_
      iterate 2 (refine V.s omX7_sum rfl rfl ?_)
      exact bad (-7) (by unfold wz8; rw [if_pos h0, if_neg (fun g => h2 g.2)]) (by decide)
  · refine V.brT omX7_sum rfl rfl h0 (fun g => g) ?_
    exact bad _ (by unfold wz8; rw [if_neg h0]) h0
end PL
end
section
section MDJ
variable {A : Nat → Nat → Int32} {B : Nat → Nat → Int64} {R W Y X : Nat → Int32}
theorem AD_lt {R : Nat → Int32} : ∀ {l : List Nat}, AD R l → ∀ k, k < l.length → atD l k < 10000
  | [], _, k, hk => by simp at hk
  | y :: t, h, k, hk => by
    simp only [List.length_cons] at hk
    by_cases hkt : k = t.length
    · subst hkt
      unfold atD
      simp
      exact h.1
    · have := AD_lt h.2.2 k (by omega)
      unfold atD at this ⊢
      simp only [List.length_cons]
      rw [show t.length + 1 - 1 - k = (t.length - 1 - k) + 1 by omega]
      simpa using this
def bsI (k : Nat) (down : Int32) : Int32 := if down = 0 then nI k + 1 else nI k + (-1)
theorem bsI_ix {k : Nat} {down : Int32} (s : Nat) (hs : s < 2 ^ 30) (hk : k < s) : (0 ≤ bsI k down ∧ bsI k down < nI s) ↔ (if down = 0 then k + 1 < s else 1 ≤ k) := by
  unfold bsI
  split
  · rw [nI_1]
    constructor
    · intro h
      exact (nI_ltI (by omega) (by omega)).mp h.2
    · intro h
      exact ⟨nI_pos' (by omega), nI_lt h (by omega)⟩
  · cases k with
    | zero =>
      constructor
      · intro h
        exact absurd h.1 (by decide)
      · intro h
        omega
    | succ k =>
      rw [pk_m1]
      constructor
      · intro _
        omega
      · intro _
        exact ⟨nI_pos' (by omega), nI_lt (by omega) (by omega)⟩
def bsN (k : Nat) (down : Int32) : Nat := if down = 0 then k + 1 else k - 1
theorem bsI_N {k : Nat} {down : Int32} {s : Nat} (h : if down = 0 then k + 1 < s else 1 ≤ k) : bsI k down = nI (bsN k down) := by
  unfold bsI bsN
  split
  · rw [nI_1]
  · next hd =>
    rw [if_neg hd] at h
    cases k with
    | zero => omega
    | succ k => rw [pk_m1]; rfl
def besV (l : List Nat) (k : Nat) (down : Int32) : Int32 := if 0 ≤ bsI k down ∧ bsI k down < nI l.length then nI (atD l (bsN k down)) else -1
def inR (f n : Int32) : Prop := orF n = 1 ∧ ofF f n = 1
set_option maxHeartbeats 4000000 in
set_option maxRecDepth 100000 in
theorem c8_besideY (d : Nat) {F N k : Nat} (down : Int32) (hN1 : 1 ≤ N) (hN : N ≤ 30) (hf : ofF (nI F) (nI N) = 1) (hF : F < 10000) (hk : k < (rowD N).length) (hk1 : atD (rowD N) k = F) (hk2 : ∀ j, j < k → ¬ atD (rowD N) j = F) : C mX8_beside (d + 3) 0 0 [.ref 33, .int (nI F), .int (nI N), .int down] (hp A B) (fun r' h' => (∃ A', h' = hp A' B ∧ J9 A A') ∧ r' = some (.int (besV (rowD N) k down))) := by
  refine C.of [some (.ref 33), some (.int (nI F)), some (.int (nI N)), some (.int down), none] omX8_beside rfl rfl rfl ?_
  refine V.s omX8_beside rfl rfl ?_
  refine V.cSf omX8_beside omX8_isRow rfl rfl (c8_isRow _ _ _) rfl rfl rfl rfl ?_
  have hor : orF (nI N) = 1 := by unfold orF; rw [if_pos ⟨(nIl_le 1 (by omega) (by decide)).mpr hN1, (nI_leI (b := 30) (by omega) (by decide)).mpr hN⟩]
  rw [hor]
  refine V.brF omX8_beside rfl rfl (by decide) ?_
  iterate 3 (refine V.s omX8_beside rfl rfl ?_)
  refine V.cVf omX8_beside omX8_isOf rfl rfl (c8_isOf d _ _) rfl rfl rfl rfl rfl rfl ?_
  rw [hf]
  refine V.brT omX8_beside rfl rfl (by decide) (by decide) ?_
  iterate 2 (refine V.s omX8_beside rfl rfl ?_)
  refine V.cV omX8_beside omX8_makesRow (c8_makesRow (d + 1) hN) rfl rfl rfl rfl rfl rfl rfl rfl (by omega) (by omega) (fun r' h' hQ => ?_)
  obtain ⟨⟨R', hA, rfl⟩, rfl⟩ := hQ
  show V mX8_beside (d + 3) 0 0 _ 0 0 28 _ [] _
  have hl := rowD_len hN
  iterate 2 (refine V.s omX8_beside rfl rfl ?_)
  have cp : C mX8_placeOf (d + 2) 0 0 [.ref 33, .int (nI F)] (hR A B R' (rowD N).length) (fun r h' => h' = hR A B R' (rowD N).length ∧ r = some (.int (nI k))) := by
    refine c8_placeOf (d + 2) (show k < 300 by omega) ?_ ?_
    · rw [xA46, AD_at hA k hk, hk1]
    · intro j hj h
      rw [xA46, AD_at hA j (by omega)] at h
      have := AD_lt hA j (by omega)
      exact hk2 j hj ((nI_eq (by omega) (by omega)).mp h)
  refine V.cVf omX8_beside omX8_placeOf rfl rfl cp rfl rfl rfl rfl rfl rfl ?_
  have fin : ∀ v4, V mX8_beside (d + 3) 0 0 (fun r' h' => (∃ A', h' = hp A' B ∧ J9 A A') ∧ r' = some (.int (besV (rowD N) k down))) 0 0 43 [some (.ref 33), some (.int (nI F)), some (.int (nI N)), some (.int down), v4] [.int (bsI k down)] (hR A B R' (rowD N).length) := by
    intro v4
    iterate 4 (refine V.s omX8_beside rfl rfl ?_)
    refine V.s omX8_beside rfl rfl ?_
    refine V.gf omX8_beside rfl rfl rfl rfl ?_
    rw [va_up_self, pk_us]
    refine V.s omX8_beside rfl rfl ?_
    obtain ⟨s, hs⟩ : ∃ s, (rowD N).length = s + 1 := ⟨(rowD N).length - 1, by omega⟩
    unfold besV
    rw [hs] at hk hl ⊢
    have hiff := bsI_ix (down := down) (s + 1) (by omega) hk
    refine V.s omX8_beside rfl rfl ?_
    rw [nI_pred]
    refine V.s omX8_beside rfl rfl ?_
    refine V.cSf omX8_beside omX8_isIn rfl rfl (isIn_nI _ _ (show s < 2 ^ 31 by omega) _) rfl rfl rfl rfl ?_
    by_cases hb : 0 ≤ bsI k down ∧ bsI k down < nI (s + 1)
    · have h1 := hiff.mp hb
      have h2 : 0 ≤ bsI k down ∧ bsI k down ≤ nI s := by
        obtain ⟨i, hi, e⟩ := rng (show s + 1 < 2 ^ 31 by omega) hb
        rw [e]
        exact ⟨nI_pos' (by omega), nI_le (by omega) (by omega)⟩
      rw [if_pos hb, if_pos h2]
      have h3 : bsN k down < s + 1 := by
        unfold bsN
        split
        · next hd => rw [if_pos hd] at h1; omega
        · omega
      rw [bsI_N h1]
      refine V.brF omX8_beside rfl rfl (by decide) ?_
      refine V.s omX8_beside rfl rfl ?_
      refine V.gf omX8_beside rfl rfl rfl rfl ?_
      refine V.s omX8_beside rfl rfl ?_
      refine V.ial omX8_beside rfl rfl (ixN nv_nI (show bsN k down < 300 by omega) (by decide)) ?_
      rw [xA46, AD_at hA _ (by omega)]
      refine V.s omX8_beside rfl rfl ?_
      exact V.iret omX8_beside rfl rfl ⟨⟨_, rfl, J9_R _ _ _⟩, rfl⟩
    · have h2 : ¬ (0 ≤ bsI k down ∧ bsI k down ≤ nI s) := by
        intro g
        obtain ⟨i, hi, e⟩ := inle (show s < 2 ^ 31 by omega) g
        rw [e] at hb
        exact hb ⟨nI_pos' (by omega), nI_lt (by omega) (by omega)⟩
      rw [if_neg hb, if_neg h2]
      refine V.brT omX8_beside rfl rfl rfl (by decide) ?_
      refine V.s omX8_beside rfl rfl ?_
      exact V.iret omX8_beside rfl rfl ⟨⟨_, rfl, J9_R _ _ _⟩, rfl⟩
  refine V.s omX8_beside rfl rfl ?_
  by_cases hd : down = 0
  · refine V.brT omX8_beside rfl rfl hd (fun h g => g h) ?_
    iterate 2 (refine V.s omX8_beside rfl rfl ?_)
    have e : bsI k down = nI k + 1 := by unfold bsI; rw [if_pos hd]
    have f1 := fin none
    rw [e] at f1
    exact f1
  · refine V.brF omX8_beside rfl rfl hd ?_
    iterate 3 (refine V.s omX8_beside rfl rfl ?_)
    have e : bsI k down = nI k + (-1) := by unfold bsI; rw [if_neg hd]
    have f1 := fin none
    rw [e] at f1
    exact f1
set_option maxHeartbeats 4000000 in
set_option maxRecDepth 100000 in
theorem c8_besideN (d : Nat) (f n down : Int32) (h : ¬ inR f n) : C mX8_beside (d + 3) 0 0 [.ref 33, .int f, .int n, .int down] (hp A B) (fun r' h' => h' = hp (rmA A 7) B ∧ r' = some (.int (-7))) := by
  refine C.of [some (.ref 33), some (.int f), some (.int n), some (.int down), none] omX8_beside rfl rfl rfl ?_
  refine V.s omX8_beside rfl rfl ?_
  refine V.cSf omX8_beside omX8_isRow rfl rfl (c8_isRow _ _ _) rfl rfl rfl rfl ?_
  rcases orF_01 n with h1 | h1
  · rw [h1]
    refine V.brT omX8_beside rfl rfl rfl (by decide) ?_
    iterate 2 (refine V.s omX8_beside rfl rfl ?_)
    refine V.cVf omX8_beside omX8_no rfl rfl (c8_no _ _ (by decide)) rfl rfl rfl rfl rfl rfl ?_
    exact V.iret omX8_beside rfl rfl ⟨rfl, rfl⟩
  · rw [h1]
    refine V.brF omX8_beside rfl rfl (by decide) ?_
    iterate 3 (refine V.s omX8_beside rfl rfl ?_)
    refine V.cVf omX8_beside omX8_isOf rfl rfl (c8_isOf d _ _) rfl rfl rfl rfl rfl rfl ?_
    rcases ofF_01 f n with h2 | h2
    · rw [h2]
      refine V.brF omX8_beside rfl rfl (by decide) ?_
      iterate 2 (refine V.s omX8_beside rfl rfl ?_)
      refine V.cVf omX8_beside omX8_no rfl rfl (c8_no _ _ (by decide)) rfl rfl rfl rfl rfl rfl ?_
      exact V.iret omX8_beside rfl rfl ⟨rfl, rfl⟩
    · exact absurd ⟨h1, h2⟩ h
set_option maxHeartbeats 4000000 in
set_option maxRecDepth 100000 in
theorem c8_areNear (d : Nat) {i j a b : Nat} (hi : i < 300) (hj : j < 300) (ha : a < 10000) (hb : b < 10000) (e1 : A 46 i = nI a) (e2 : A 46 j = nI b) : C mX8_areNear (d + 1) 0 0 [.ref 33, .int (nI i), .int (nI j)] (hp A B) (fun r h' => h' = hp A B ∧ r = some (.int (if nrP a b then 1 else 0))) := by
  refine C.of [some (.ref 33), some (.int (nI i)), some (.int (nI j)), none] omX8_areNear rfl rfl rfl ?_
  refine V.s omX8_areNear rfl rfl ?_
  refine V.gf omX8_areNear rfl rfl rfl rfl ?_
  refine V.s omX8_areNear rfl rfl ?_
  refine V.ial omX8_areNear rfl rfl (ixN nv_nI hi (by decide)) ?_
  refine V.s omX8_areNear rfl rfl ?_
  refine V.gf omX8_areNear rfl rfl rfl rfl ?_
  refine V.s omX8_areNear rfl rfl ?_
  refine V.ial omX8_areNear rfl rfl (ixN nv_nI hj (by decide)) ?_
  rw [e1, e2]
  refine V.cSf omX8_areNear omX8_determinant rfl rfl (c8_determinant d (show a < 2 ^ 31 by omega) (show b < 2 ^ 31 by omega) _) rfl rfl rfl rfl ?_
  iterate 3 (refine V.s omX8_areNear rfl rfl ?_)
  by_cases h3 : dt a b = 1
  · refine V.brT omX8_areNear rfl rfl h3 (fun h g => g h) ?_
    iterate 2 (refine V.s omX8_areNear rfl rfl ?_)
    exact V.zret omX8_areNear rfl rfl (by decide) ⟨rfl, by rw [if_pos ((dt_nr ha hb).mp (Or.inl h3))]⟩
  · refine V.brF omX8_areNear rfl rfl h3 ?_
    iterate 2 (refine V.s omX8_areNear rfl rfl ?_)
    by_cases h4 : dt a b = -1
    · refine V.brF omX8_areNear rfl rfl (fun g => g h4) ?_
      iterate 2 (refine V.s omX8_areNear rfl rfl ?_)
      exact V.zret omX8_areNear rfl rfl (by decide) ⟨rfl, by rw [if_pos ((dt_nr ha hb).mp (Or.inr h4))]⟩
    · refine V.brT omX8_areNear rfl rfl h4 (fun g => g) ?_
      refine V.s omX8_areNear rfl rfl ?_
      exact V.zret omX8_areNear rfl rfl (by decide) ⟨rfl, by rw [if_neg (fun q => ((dt_nr ha hb).mpr q).elim h3 h4)]⟩
abbrev hY (A : Nat → Nat → Int32) (B : Nat → Nat → Int64) (X R W Y : Nat → Int32) : hp_T := hp (va_up (va_up (va_up (va_up A 48 Y) 47 W) 46 R) 33 X) B
theorem yA46 : va_up (va_up (va_up (va_up A 48 Y) 47 W) 46 R) 33 X 46 = R := rfl
theorem yA47 : va_up (va_up (va_up (va_up A 48 Y) 47 W) 46 R) 33 X 47 = W := rfl
theorem yA48 : va_up (va_up (va_up (va_up A 48 Y) 47 W) 46 R) 33 X 48 = Y := rfl
theorem yA47u {W2 : Nat → Int32} : va_up (va_up (va_up (va_up (va_up A 48 Y) 47 W) 46 R) 33 X) 47 W2 = va_up (va_up (va_up (va_up A 48 Y) 47 W2) 46 R) 33 X := by rw [va_cm _ (show (33 : Nat) ≠ 47 by decide), va_cm _ (show (46 : Nat) ≠ 47 by decide), bx_uu]
theorem yA48u {Y2 : Nat → Int32} : va_up (va_up (va_up (va_up (va_up A 48 Y) 47 W) 46 R) 33 X) 48 Y2 = va_up (va_up (va_up (va_up A 48 Y2) 47 W) 46 R) 33 X := by rw [va_cm _ (show (33 : Nat) ≠ 48 by decide), va_cm _ (show (46 : Nat) ≠ 48 by decide), va_cm _ (show (47 : Nat) ≠ 48 by decide), bx_uu]
/-- the rows and their near ones -/
def W0p (g m : Nat) (Z : Nat → Int32) : Nat → Int32 := fun k => if k < m then (if k = g then 0 else 1000) else Z k
theorem W0p_s (g m : Nat) (Z : Nat → Int32) : upd (W0p g m Z) m (if m = g then 0 else 1000) = W0p g (m + 1) Z := by
  funext k
  unfold upd W0p
  by_cases h1 : k = m
  · subst h1; simp
  · rw [if_neg h1]
    by_cases h2 : k < m
    · rw [if_pos h2, if_pos (show k < m + 1 by omega)]
    · rw [if_neg h2, if_neg (by omega)]
def stJ (e : Nat → Nat) (d k m : Nat) (W : Nat → Int32) : Nat → Int32 := fun j => if j < m ∧ W j = 1000 ∧ nrP (e k) (e j) then nI (d + 1) else W j
theorem stJ_0 (e : Nat → Nat) (d k : Nat) (W : Nat → Int32) : stJ e d k 0 W = W := by
  funext j
  unfold stJ
  rw [if_neg (fun h => by omega)]
theorem stJ_y {e : Nat → Nat} {d k m : Nat} {W : Nat → Int32} (h1 : W m = 1000) (h2 : nrP (e k) (e m)) : upd (stJ e d k m W) m (nI (d + 1)) = stJ e d k (m + 1) W := by
  funext j
  unfold upd stJ
  by_cases h : j = m
  · subst h; rw [if_pos rfl, if_pos ⟨by omega, h1, h2⟩]
  · rw [if_neg h]
    by_cases g : j < m ∧ W j = 1000 ∧ nrP (e k) (e j)
    · rw [if_pos g, if_pos ⟨by omega, g.2⟩]
    · rw [if_neg g, if_neg (fun q => g ⟨by omega, q.2⟩)]
theorem stJ_n {e : Nat → Nat} {d k m : Nat} {W : Nat → Int32} (h1 : ¬ (W m = 1000 ∧ nrP (e k) (e m))) : stJ e d k m W = stJ e d k (m + 1) W := by
  funext j
  unfold stJ
  by_cases g : j < m ∧ W j = 1000 ∧ nrP (e k) (e j)
  · rw [if_pos g, if_pos ⟨by omega, g.2⟩]
  · rw [if_neg g, if_neg (fun q => ?_)]
    by_cases h : j = m
    · subst h; exact h1 q.2
    · exact g ⟨by omega, q.2⟩
theorem stJ_m {e : Nat → Nat} {d k m : Nat} {W : Nat → Int32} : stJ e d k m W m = W m := by
  unfold stJ
  rw [if_neg (fun h => by omega)]
def bk (e : Nat → Nat) (N d : Nat) (W : Nat → Int32) : Nat → (Nat → Int32) × Int32
  | 0 => (W, 0)
  | m + 1 => if (bk e N d W m).1 m = nI d then (stJ e d m N (bk e N d W m).1, 1) else bk e N d W m
theorem bk_01 (e : Nat → Nat) (N d : Nat) (W : Nat → Int32) (m : Nat) : (bk e N d W m).2 = 0 ∨ (bk e N d W m).2 = 1 := by
  induction m with
  | zero => exact Or.inl rfl
  | succ m ih =>
    unfold bk
    split
    · exact Or.inr rfl
    · exact ih
def wl (e : Nat → Nat) (N : Nat) : Nat → Nat → (Nat → Int32) → Option (Nat → Int32)
  | 0, _, _ => none
  | n + 1, d, W => if (bk e N d W N).2 = 0 then some (bk e N d W N).1 else wl e N n (d + 1) (bk e N d W N).1
abbrev rwH (R : Nat → Int32) (e : Nat → Nat) (N : Nat) (X : Nat → Int32) : Prop := (∀ k, k < N → R k = nI (e k) ∧ e k < 10000) ∧ N < 300 ∧ X 24 = nI N
set_option maxHeartbeats 4000000 in
set_option maxRecDepth 100000 in
theorem wy_47 (d : Nat) {f g n : Int32} {e : Nat → Nat} {N kg : Nat} (hH : rwH R e N X) (hg : kg < N) {Z : Nat → Int32} (v6 v7 v8 : Option Value) {Q : Option Value → hp_T → Prop} (kk : ∀ v5, V mX8_way (d + 3) 0 0 Q 0 0 83 [some (.ref 33), some (.int f), some (.int g), some (.int n), some (.int (nI kg)), v5, v6, v7, v8] [] (hY A B X R (W0p kg N Z) Y)) : ∀ (t k : Nat), k + t = N → V mX8_way (d + 3) 0 0 Q 0 0 47 [some (.ref 33), some (.int f), some (.int g), some (.int n), some (.int (nI kg)), some (.int (nI k)), v6, v7, v8] [] (hY A B X R (W0p kg k Z) Y) := by
  obtain ⟨h1, hN, hX⟩ := hH
  intro t
  induction t with
  | zero =>
    intro k hk
    have : k = N := by omega
    subst this
    iterate 2 (refine V.s omX8_way rfl rfl ?_)
    refine V.gf omX8_way rfl rfl rfl rfl ?_
    rw [va_up_self, hX]
    refine V.brT omX8_way rfl rfl Int32.le_rfl (fun h => Int32.not_lt.mpr h) ?_
    exact kk _
  | succ t ih =>
    intro k hk
    iterate 2 (refine V.s omX8_way rfl rfl ?_)
    refine V.gf omX8_way rfl rfl rfl rfl ?_
    rw [va_up_self, hX]
    refine V.brF omX8_way rfl rfl (nI_ge (by omega) (by omega)) ?_
    refine V.s omX8_way rfl rfl ?_
    refine V.gf omX8_way rfl rfl rfl rfl ?_
    iterate 3 (refine V.s omX8_way rfl rfl ?_)
    have fin : ∀ z : Int32, z = (if k = kg then 0 else 1000) → V mX8_way (d + 3) 0 0 Q 0 0 76 [some (.ref 33), some (.int f), some (.int g), some (.int n), some (.int (nI kg)), some (.int (nI k)), v6, v7, v8] [.int z, .int (nI k), .ref 47] (hY A B X R (W0p kg k Z) Y) := by
      intro z hz
      subst hz
      refine V.iasH omX8_way rfl rfl (ixN nv_nI (show k < 300 by omega) (by decide)) ?_
      rw [yA47, yA47u, W0p_s]
      iterate 2 (refine V.s omX8_way rfl rfl ?_)
      rw [nI_1]
      exact ih (k + 1) (by omega)
    by_cases hc : k = kg
    · refine V.brF omX8_way rfl rfl (fun q => q (by rw [hc])) ?_
      iterate 2 (refine V.s omX8_way rfl rfl ?_)
      exact fin 0 (by rw [if_pos hc])
    · refine V.brT omX8_way rfl rfl (fun q => hc ((nI_eq (by omega) (by omega)).mp q)) (fun q => q) ?_
      refine V.s omX8_way rfl rfl ?_
      exact fin 1000 (by rw [if_neg hc])
set_option maxHeartbeats 4000000 in
set_option maxRecDepth 100000 in
theorem wy_130 (d : Nat) {f g n en mo : Int32} {e : Nat → Nat} {N D k : Nat} (hH : rwH R e N X) (hk : k < N) {Q : Option Value → hp_T → Prop} (kk : ∀ v8, V mX8_way (d + 3) 0 0 Q 0 0 180 [some (.ref 33), some (.int f), some (.int g), some (.int n), some (.int en), some (.int mo), some (.int (nI D)), some (.int (nI k)), v8] [] (hY A B X R (stJ e D k N W) Y)) : ∀ (t j : Nat), j + t = N → V mX8_way (d + 3) 0 0 Q 0 0 130 [some (.ref 33), some (.int f), some (.int g), some (.int n), some (.int en), some (.int mo), some (.int (nI D)), some (.int (nI k)), some (.int (nI j))] [] (hY A B X R (stJ e D k j W) Y) := by
  obtain ⟨h1, hN, hX⟩ := hH
  intro t
  induction t with
  | zero =>
    intro j hj
    have : j = N := by omega
    subst this
    iterate 2 (refine V.s omX8_way rfl rfl ?_)
    refine V.gf omX8_way rfl rfl rfl rfl ?_
    rw [va_up_self, hX]
    refine V.brT omX8_way rfl rfl Int32.le_rfl (fun h => Int32.not_lt.mpr h) ?_
    exact kk _
  | succ t ih =>
    intro j hj
    iterate 2 (refine V.s omX8_way rfl rfl ?_)
    refine V.gf omX8_way rfl rfl rfl rfl ?_
    rw [va_up_self, hX]
    refine V.brF omX8_way rfl rfl (nI_ge (by omega) (by omega)) ?_
    refine V.s omX8_way rfl rfl ?_
    refine V.gf omX8_way rfl rfl rfl rfl ?_
    refine V.s omX8_way rfl rfl ?_
    refine V.ial omX8_way rfl rfl (ixN nv_nI (show j < 300 by omega) (by decide)) ?_
    rw [yA47, stJ_m]
    refine V.s omX8_way rfl rfl ?_
    have no : ¬ (W j = 1000 ∧ nrP (e k) (e j)) → V mX8_way (d + 3) 0 0 Q 0 0 174 [some (.ref 33), some (.int f), some (.int g), some (.int n), some (.int en), some (.int mo), some (.int (nI D)), some (.int (nI k)), some (.int (nI j))] [] (hY A B X R (stJ e D k j W) Y) := by
      intro q
      iterate 2 (refine V.s omX8_way rfl rfl ?_)
      rw [nI_1, stJ_n q]
      exact ih (j + 1) (by omega)
    by_cases hc : W j = 1000
    · refine V.brF omX8_way rfl rfl (fun q => q hc) ?_
      iterate 3 (refine V.s omX8_way rfl rfl ?_)
      have hkk := h1 k hk
      have hjj := h1 j (by omega)
      refine V.cVf omX8_way omX8_areNear rfl rfl (c8_areNear (d + 1) (show k < 300 by omega) (show j < 300 by omega) hkk.2 hjj.2 hkk.1 hjj.1) rfl rfl rfl rfl rfl rfl ?_
      by_cases hn : nrP (e k) (e j)
      · rw [if_pos hn]
        refine V.brF omX8_way rfl rfl (by decide) ?_
        refine V.s omX8_way rfl rfl ?_
        refine V.gf omX8_way rfl rfl rfl rfl ?_
        iterate 4 (refine V.s omX8_way rfl rfl ?_)
        rw [nI_1]
        refine V.iasH omX8_way rfl rfl (ixN nv_nI (show j < 300 by omega) (by decide)) ?_
        rw [yA47, yA47u, stJ_y hc hn]
        iterate 2 (refine V.s omX8_way rfl rfl ?_)
        rw [nI_1]
        exact ih (j + 1) (by omega)
      · rw [if_neg hn]
        refine V.brT omX8_way rfl rfl rfl (by decide) ?_
        exact no (fun q => hn q.2)
    · refine V.brT omX8_way rfl rfl hc (fun q => q) ?_
      exact no (fun q => hc q.1)
set_option maxHeartbeats 4000000 in
set_option maxRecDepth 100000 in
theorem wy_100 (d : Nat) {f g n en : Int32} {e : Nat → Nat} {N D : Nat} (hH : rwH R e N X) {Q : Option Value → hp_T → Prop} (kk : ∀ v7 v8, V mX8_way (d + 3) 0 0 Q 0 0 186 [some (.ref 33), some (.int f), some (.int g), some (.int n), some (.int en), some (.int (bk e N D W N).2), some (.int (nI D)), v7, v8] [] (hY A B X R (bk e N D W N).1 Y)) : ∀ (t k : Nat) (v8 : Option Value), k + t = N → V mX8_way (d + 3) 0 0 Q 0 0 100 [some (.ref 33), some (.int f), some (.int g), some (.int n), some (.int en), some (.int (bk e N D W k).2), some (.int (nI D)), some (.int (nI k)), v8] [] (hY A B X R (bk e N D W k).1 Y) := by
  have hH0 := hH
  obtain ⟨h1, hN, hX⟩ := hH
  intro t
  induction t with
  | zero =>
    intro k v8 hk
    have : k = N := by omega
    subst this
    iterate 2 (refine V.s omX8_way rfl rfl ?_)
    refine V.gf omX8_way rfl rfl rfl rfl ?_
    rw [va_up_self, hX]
    refine V.brT omX8_way rfl rfl Int32.le_rfl (fun h => Int32.not_lt.mpr h) ?_
    exact kk _ _
  | succ t ih =>
    intro k v8 hk
    iterate 2 (refine V.s omX8_way rfl rfl ?_)
    refine V.gf omX8_way rfl rfl rfl rfl ?_
    rw [va_up_self, hX]
    refine V.brF omX8_way rfl rfl (nI_ge (by omega) (by omega)) ?_
    refine V.s omX8_way rfl rfl ?_
    refine V.gf omX8_way rfl rfl rfl rfl ?_
    refine V.s omX8_way rfl rfl ?_
    refine V.ial omX8_way rfl rfl (ixN nv_nI (show k < 300 by omega) (by decide)) ?_
    rw [yA47]
    refine V.s omX8_way rfl rfl ?_
    by_cases hc : (bk e N D W k).1 k = nI D
    · refine V.brT omX8_way rfl rfl hc (fun h q => q h) ?_
      iterate 4 (refine V.s omX8_way rfl rfl ?_)
      have key := wy_130 (A := A) (B := B) (Y := Y) (X := X) (R := R) (W := (bk e N D W k).1) (f := f) (g := g) (n := n) (en := en) (mo := 1) (D := D) (Q := Q) d hH0 (show k < N by omega) (fun v8 => ?_) N 0 (by omega)
      · rw [stJ_0] at key
        exact key
      · iterate 2 (refine V.s omX8_way rfl rfl ?_)
        rw [nI_1]
        have k2 := ih (k + 1) v8 (by omega)
        have eb : bk e N D W (k + 1) = (stJ e D k N (bk e N D W k).1, 1) := by
          show (if (bk e N D W k).1 k = nI D then (stJ e D k N (bk e N D W k).1, (1 : Int32)) else bk e N D W k) = _
          rw [if_pos hc]
        rw [eb] at k2
        exact k2
    · refine V.brF omX8_way rfl rfl hc ?_
      iterate 3 (refine V.s omX8_way rfl rfl ?_)
      rw [nI_1]
      have k2 := ih (k + 1) v8 (by omega)
      have eb : bk e N D W (k + 1) = bk e N D W k := by
        show (if (bk e N D W k).1 k = nI D then (stJ e D k N (bk e N D W k).1, (1 : Int32)) else bk e N D W k) = _
        rw [if_neg hc]
      rw [eb] at k2
      exact k2
set_option maxHeartbeats 4000000 in
set_option maxRecDepth 100000 in
theorem wy_89 (d : Nat) {f g n en : Int32} {e : Nat → Nat} {N : Nat} (hH : rwH R e N X) {W' : Nat → Int32} {Q : Option Value → hp_T → Prop} (kk : ∀ v5 v6 v7 v8, V mX8_way (d + 3) 0 0 Q 0 0 192 [some (.ref 33), some (.int f), some (.int g), some (.int n), some (.int en), some (.int v5), some (.int v6), v7, v8] [] (hY A B X R W' Y)) : ∀ (t D : Nat) (W : Nat → Int32) (v7 v8 : Option Value), D + t < 2 ^ 31 → wl e N t D W = some W' → V mX8_way (d + 3) 0 0 Q 0 0 89 [some (.ref 33), some (.int f), some (.int g), some (.int n), some (.int en), some (.int 1), some (.int (nI D)), v7, v8] [] (hY A B X R W Y) := by
  intro t
  induction t with
  | zero => intro D W v7 v8 _ h; cases h
  | succ t ih =>
    intro D W v7 v8 hD h
    refine V.s omX8_way rfl rfl ?_
    refine V.brF omX8_way rfl rfl (by decide) ?_
    iterate 4 (refine V.s omX8_way rfl rfl ?_)
    refine wy_100 (W := W) d hH (fun v7 v8 => ?_) N 0 _ (by omega)
    iterate 2 (refine V.s omX8_way rfl rfl ?_)
    rw [nI_1]
    rcases bk_01 e N D W N with hb | hb
    · simp only [wl, if_pos hb] at h
      rw [hb]
      refine V.s omX8_way rfl rfl ?_
      refine V.brT omX8_way rfl rfl rfl (by decide) ?_
      cases h
      exact kk _ _ _ _
    · have hb0 : ¬ (bk e N D W N).2 = 0 := by rw [hb]; decide
      simp only [wl, if_neg hb0] at h
      rw [hb]
      exact ih (D + 1) _ _ _ (by omega) h
set_option maxHeartbeats 4000000 in
set_option maxRecDepth 100000 in
theorem wy_232 (d : Nat) {f g n en v5 : Int32} {e : Nat → Nat} {N L a i s : Nat} (hH : rwH R e N X) (h25 : X 25 = nI L) (ha : a < N) (hi : i ≤ L) (hL : L < 2 ^ 31) (hs : s < N) (c1 : W s = nI (L - i)) (c2 : nrP (e a) (e s)) (c3 : ∀ j, j < s → ¬ (W j = nI (L - i) ∧ nrP (e a) (e j))) {Q : Option Value → hp_T → Prop} (kk : V mX8_way (d + 3) 0 0 Q 0 0 266 [some (.ref 33), some (.int f), some (.int g), some (.int n), some (.int en), some (.int v5), some (.int (nI a)), some (.int (nI i)), some (.int (nI s))] [] (hY A B X R W Y)) : ∀ (t j : Nat), j + t = s → V mX8_way (d + 3) 0 0 Q 0 0 232 [some (.ref 33), some (.int f), some (.int g), some (.int n), some (.int en), some (.int v5), some (.int (nI a)), some (.int (nI i)), some (.int (nI j))] [] (hY A B X R W Y) := by
  obtain ⟨h1, hN, hX⟩ := hH
  have haa := h1 a ha
  intro t
  induction t with
  | zero =>
    intro j hj
    have : j = s := by omega
    subst this
    have hss := h1 j hs
    refine V.s omX8_way rfl rfl ?_
    refine V.gf omX8_way rfl rfl rfl rfl ?_
    refine V.s omX8_way rfl rfl ?_
    refine V.ial omX8_way rfl rfl (ixN nv_nI (show j < 300 by omega) (by decide)) ?_
    rw [yA47, c1]
    refine V.s omX8_way rfl rfl ?_
    refine V.gf omX8_way rfl rfl rfl rfl ?_
    rw [va_up_self, h25]
    iterate 2 (refine V.s omX8_way rfl rfl ?_)
    rw [pk_sub hi]
    refine V.brF omX8_way rfl rfl (fun q => q rfl) ?_
    iterate 3 (refine V.s omX8_way rfl rfl ?_)
    refine V.cVf omX8_way omX8_areNear rfl rfl (c8_areNear (d + 1) (show a < 300 by omega) (show j < 300 by omega) haa.2 hss.2 haa.1 hss.1) rfl rfl rfl rfl rfl rfl ?_
    rw [if_pos c2]
    refine V.brT omX8_way rfl rfl (by decide) (by decide) ?_
    exact kk
  | succ t ih =>
    intro j hj
    have hjj := h1 j (by omega)
    have cc := c3 j (by omega)
    have nx : V mX8_way (d + 3) 0 0 Q 0 0 260 [some (.ref 33), some (.int f), some (.int g), some (.int n), some (.int en), some (.int v5), some (.int (nI a)), some (.int (nI i)), some (.int (nI j))] [] (hY A B X R W Y) := by
      iterate 2 (refine V.s omX8_way rfl rfl ?_)
      rw [nI_1]
      exact ih (j + 1) (by omega)
    refine V.s omX8_way rfl rfl ?_
    refine V.gf omX8_way rfl rfl rfl rfl ?_
    refine V.s omX8_way rfl rfl ?_
    refine V.ial omX8_way rfl rfl (ixN nv_nI (show j < 300 by omega) (by decide)) ?_
    rw [yA47]
    refine V.s omX8_way rfl rfl ?_
    refine V.gf omX8_way rfl rfl rfl rfl ?_
    rw [va_up_self, h25]
    iterate 2 (refine V.s omX8_way rfl rfl ?_)
    rw [pk_sub hi]
    by_cases hc : W j = nI (L - i)
    · refine V.brF omX8_way rfl rfl (fun q => q hc) ?_
      iterate 3 (refine V.s omX8_way rfl rfl ?_)
      refine V.cVf omX8_way omX8_areNear rfl rfl (c8_areNear (d + 1) (show a < 300 by omega) (show j < 300 by omega) haa.2 hjj.2 haa.1 hjj.1) rfl rfl rfl rfl rfl rfl ?_
      rw [if_neg (fun q => cc ⟨hc, q⟩)]
      refine V.brF omX8_way rfl rfl (by decide) ?_
      exact nx
    · refine V.brT omX8_way rfl rfl hc (fun q => q) ?_
      exact nx
/-- a way told by places: each next one is the first that is one nearer and near -/
def isWay (e : Nat → Nat) (N L : Nat) (T : Nat → Nat → Prop) (s : Nat → Nat) : Prop := ∀ i, i < L → s (i + 1) < N ∧ T (L - (i + 1)) (s (i + 1)) ∧ nrP (e (s i)) (e (s (i + 1))) ∧ ∀ j, j < s (i + 1) → ¬ (T (L - (i + 1)) j ∧ nrP (e (s i)) (e j))
set_option maxHeartbeats 4000000 in
set_option maxRecDepth 100000 in
theorem wy_220 (d : Nat) {f g n en v5 : Int32} {e : Nat → Nat} {N L : Nat} {s : Nat → Nat} (hH : rwH R e N X) (h25 : X 25 = nI L) (hL : L < 300) (h0 : s 0 < N) (hs : isWay e N L (fun c j => W j = nI c) s) {Q : Option Value → hp_T → Prop} (kk : ∀ Y', (∀ i, i ≤ L → Y' i = nI (e (s i))) → Q (some (.int (nI L))) (hY A B X R W Y')) : ∀ (t i : Nat) (Y : Nat → Int32) (v8 : Option Value), i + t = L → (∀ j, j ≤ i → Y j = nI (e (s j))) → V mX8_way (d + 3) 0 0 Q 0 0 220 [some (.ref 33), some (.int f), some (.int g), some (.int n), some (.int en), some (.int v5), some (.int (nI (s i))), some (.int (nI (i + 1))), v8] [] (hY A B X R W Y) := by
  have hH0 := hH
  obtain ⟨h1, hN, hX⟩ := hH
  have hsN : ∀ i, i ≤ L → s i < N := by
    intro i hi
    cases i with
    | zero => exact h0
    | succ i => exact (hs i (by omega)).1
  intro t
  induction t with
  | zero =>
    intro i Y v8 hi hY'
    have : i = L := by omega
    subst this
    iterate 2 (refine V.s omX8_way rfl rfl ?_)
    refine V.gf omX8_way rfl rfl rfl rfl ?_
    rw [va_up_self, h25]
    refine V.brT omX8_way rfl rfl (nI_lt (by omega) (by omega)) (fun h => Int32.not_le.mpr h) ?_
    refine V.s omX8_way rfl rfl ?_
    refine V.gf omX8_way rfl rfl rfl rfl ?_
    rw [va_up_self, h25]
    exact V.iret omX8_way rfl rfl (kk Y hY')
  | succ t ih =>
    intro i Y v8 hi hY'
    iterate 2 (refine V.s omX8_way rfl rfl ?_)
    refine V.gf omX8_way rfl rfl rfl rfl ?_
    rw [va_up_self, h25]
    refine V.brF omX8_way rfl rfl (nI_nlt (by omega) (by omega)) ?_
    iterate 2 (refine V.s omX8_way rfl rfl ?_)
    obtain ⟨q1, q2, q3, q4⟩ := hs i (by omega)
    refine wy_232 d hH0 h25 (hsN i (by omega)) (show i + 1 ≤ L by omega) (by omega) q1 q2 q3 q4 ?_ (s (i + 1)) 0 (by omega)
    iterate 3 (refine V.s omX8_way rfl rfl ?_)
    refine V.gf omX8_way rfl rfl rfl rfl ?_
    iterate 2 (refine V.s omX8_way rfl rfl ?_)
    refine V.gf omX8_way rfl rfl rfl rfl ?_
    refine V.s omX8_way rfl rfl ?_
    refine V.ial omX8_way rfl rfl (ixN nv_nI (show s (i + 1) < 300 by omega) (by decide)) ?_
    rw [yA46, (h1 _ q1).1]
    refine V.iasH omX8_way rfl rfl (ixN nv_nI (show i + 1 < 300 by omega) (by decide)) ?_
    rw [yA48, yA48u]
    iterate 2 (refine V.s omX8_way rfl rfl ?_)
    rw [nI_1]
    refine ih (i + 1) _ _ (by omega) (fun j hj => ?_)
    by_cases hj1 : j = i + 1
    · subst hj1
      exact pk_us
    · rw [pk_un hj1]
      exact hY' j (by omega)
end MDJ
end
section
section MDK
variable {A : Nat → Nat → Int32} {B : Nat → Nat → Int64}
def J10 (A A' : Nat → Nat → Int32) : Prop := ∀ q k, ¬ (q = 46 ∨ q = 47 ∨ q = 48 ∨ (q = 33 ∧ (k = 24 ∨ k = 25))) → A' q k = A q k
theorem orN {N : Nat} (h1 : 1 ≤ N) (hN : N ≤ 30) : orF (nI N) = 1 := by unfold orF; rw [if_pos ⟨(nIl_le 1 (by omega) (by decide)).mpr h1, (nI_leI (b := 30) (by omega) (by decide)).mpr hN⟩]
/-- the first place of a fraction in a row -/
def plc (l : List Nat) (F k : Nat) : Prop := k < l.length ∧ atD l k = F ∧ ∀ j, j < k → ¬ atD l j = F
theorem hR_Y {R : Nat → Int32} {s : Nat} : hR A B R s = hY A B (upd (A 33) 24 (nI s)) R (A 47) (A 48) := by
  unfold hR hY
  rw [va_self A 48, va_self A 47]
theorem cp8 (d : Nat) {X R W Y : Nat → Int32} {l : List Nat} {F k : Nat} (hA : AD R l) (hl : l.length < 300) (hF : F < 10000) (hk : plc l F k) : C mX8_placeOf d 0 0 [.ref 33, .int (nI F)] (hY A B X R W Y) (fun r h' => h' = hY A B X R W Y ∧ r = some (.int (nI k))) := by
  obtain ⟨hk, hk1, hk2⟩ := hk
  refine c8_placeOf d (show k < 300 by omega) ?_ ?_
  · rw [yA46, AD_at hA k hk, hk1]
  · intro j hj h
    rw [yA46, AD_at hA j (by omega)] at h
    have := AD_lt hA j (by omega)
    exact hk2 j hj ((nI_eq (by omega) (by omega)).mp h)
theorem J10_Y {R W Y : Nat → Int32} {x y : Int32} : J10 A (va_up (va_up (va_up (va_up A 48 Y) 47 W) 46 R) 33 (upd (upd (A 33) 24 x) 25 y)) := by
  intro q k h
  unfold va_up
  by_cases h33 : q = 33
  · subst h33
    rw [if_pos rfl, pk_un (fun e => h (Or.inr (Or.inr (Or.inr ⟨rfl, Or.inr e⟩)))), pk_un (fun e => h (Or.inr (Or.inr (Or.inr ⟨rfl, Or.inl e⟩))))]
  · rw [if_neg h33, if_neg (fun e => h (Or.inl e)), if_neg (fun e => h (Or.inr (Or.inl e))), if_neg (fun e => h (Or.inr (Or.inr (Or.inl e))))]
set_option maxHeartbeats 4000000 in
set_option maxRecDepth 100000 in
theorem c8_wayY (d : Nat) {F G N kf kg L n : Nat} (hN1 : 1 ≤ N) (hN : N ≤ 30) (hf : ofF (nI F) (nI N) = 1) (hg : ofF (nI G) (nI N) = 1) (hF : F < 10000) (hG : G < 10000) (hkf : plc (rowD N) F kf) (hkg : plc (rowD N) G kg) {W : Nat → Int32} {s : Nat → Nat} (hn : n < 2 ^ 31) (hW : wl (atD (rowD N)) (rowD N).length n 0 (W0p kg (rowD N).length (A 47)) = some W) (hL : L < 300) (h0 : s 0 = kf) (hWf : W kf = nI L) (hs : isWay (atD (rowD N)) (rowD N).length L (fun c j => W j = nI c) s) : C mX8_way (d + 3) 0 0 [.ref 33, .int (nI F), .int (nI G), .int (nI N)] (hp A B) (fun r' h' => (∃ A', h' = hp A' B ∧ J10 A A' ∧ A' 33 25 = nI L ∧ ∀ i, i ≤ L → A' 48 i = nI (atD (rowD N) (s i))) ∧ r' = some (.int (nI L))) := by
  refine C.of [some (.ref 33), some (.int (nI F)), some (.int (nI G)), some (.int (nI N)), none, none, none, none, none] omX8_way rfl rfl rfl ?_
  refine V.s omX8_way rfl rfl ?_
  refine V.cSf omX8_way omX8_isRow rfl rfl (c8_isRow _ _ _) rfl rfl rfl rfl ?_
  rw [orN hN1 hN]
  refine V.brF omX8_way rfl rfl (by decide) ?_
  iterate 3 (refine V.s omX8_way rfl rfl ?_)
  refine V.cVf omX8_way omX8_isOf rfl rfl (c8_isOf d _ _) rfl rfl rfl rfl rfl rfl ?_
  rw [hf]
  refine V.brF omX8_way rfl rfl (by decide) ?_
  iterate 3 (refine V.s omX8_way rfl rfl ?_)
  refine V.cVf omX8_way omX8_isOf rfl rfl (c8_isOf d _ _) rfl rfl rfl rfl rfl rfl ?_
  rw [hg]
  refine V.brT omX8_way rfl rfl (by decide) (by decide) ?_
  iterate 2 (refine V.s omX8_way rfl rfl ?_)
  refine V.cV omX8_way omX8_makesRow (c8_makesRow (d + 1) hN) rfl rfl rfl rfl rfl rfl rfl rfl (by omega) (by omega) (fun r' h' hQ => ?_)
  obtain ⟨⟨R', hA, rfl⟩, rfl⟩ := hQ
  show V mX8_way (d + 3) 0 0 _ 0 0 37 _ [] _
  have hl := rowD_len hN
  rw [hR_Y]
  generalize rowD N = l at *
  have hH : rwH R' (atD l) l.length (upd (A 33) 24 (nI l.length)) := ⟨fun k hk => ⟨AD_at hA k hk, AD_lt hA k hk⟩, by omega, pk_us⟩
  iterate 2 (refine V.s omX8_way rfl rfl ?_)
  refine V.cVf omX8_way omX8_placeOf rfl rfl (cp8 _ hA (by omega) hG hkg) rfl rfl rfl rfl rfl rfl ?_
  iterate 3 (refine V.s omX8_way rfl rfl ?_)
  have key := wy_47 (A := A) (B := B) (X := upd (A 33) 24 (nI l.length)) (R := R') (Y := A 48) (f := nI F) (g := nI G) (n := nI N) (Z := A 47) (Q := fun r' h' => (∃ A', h' = hp A' B ∧ J10 A A' ∧ A' 33 25 = nI L ∧ ∀ i, i ≤ L → A' 48 i = nI (atD l (s i))) ∧ r' = some (.int (nI L))) d hH hkg.1 none none none (fun v5 => ?_) l.length 0 (by omega)
  · have e0 : W0p kg 0 (A 47) = A 47 := by
      funext k
      unfold W0p
      rw [if_neg (by omega)]
    rw [e0] at key
    exact key
  iterate 4 (refine V.s omX8_way rfl rfl ?_)
  refine wy_89 d hH (W' := W) (fun v5 v6 v7 v8 => ?_) n 0 _ _ _ (by omega) hW
  iterate 2 (refine V.s omX8_way rfl rfl ?_)
  refine V.cVf omX8_way omX8_placeOf rfl rfl (cp8 _ hA (by omega) hF hkf) rfl rfl rfl rfl rfl rfl ?_
  iterate 3 (refine V.s omX8_way rfl rfl ?_)
  refine V.gf omX8_way rfl rfl rfl rfl ?_
  refine V.s omX8_way rfl rfl ?_
  refine V.ial omX8_way rfl rfl (ixN nv_nI (show kf < 300 by have := hkf.1; omega) (by decide)) ?_
  rw [yA47, hWf]
  refine V.pfH omX8_way rfl rfl rfl rfl rfl rfl rfl ?_
  rw [bx_uu, va_up_self]
  refine V.s omX8_way rfl rfl ?_
  refine V.gf omX8_way rfl rfl rfl rfl ?_
  iterate 2 (refine V.s omX8_way rfl rfl ?_)
  refine V.iasH omX8_way rfl rfl (ixN (nv_nI (a := 0)) (show 0 < 300 by decide) (by decide)) ?_
  rw [yA48, yA48u]
  iterate 2 (refine V.s omX8_way rfl rfl ?_)
  have hH2 : rwH R' (atD l) l.length (upd (upd (A 33) 24 (nI l.length)) 25 (nI L)) := ⟨hH.1, hH.2.1, rfl⟩
  have k3 := wy_220 (A := A) (B := B) (X := upd (upd (A 33) 24 (nI l.length)) 25 (nI L)) (R := R') (W := W) (f := nI F) (g := nI G) (n := nI N) (en := nI kg) (v5 := v5) (Q := fun r' h' => (∃ A', h' = hp A' B ∧ J10 A A' ∧ A' 33 25 = nI L ∧ ∀ i, i ≤ L → A' 48 i = nI (atD l (s i))) ∧ r' = some (.int (nI L))) d hH2 pk_us hL (by rw [h0]; exact hkf.1) hs (fun Y' hY' => ⟨⟨_, rfl, J10_Y, rfl, hY'⟩, rfl⟩) L 0 (upd (A 48) 0 (nI F)) v8 (by omega) (fun j hj => by
    have : j = 0 := by omega
    subst this
    rw [pk_us, h0, hkf.2.1])
  rw [h0] at k3
  exact k3
def inW (f g n : Int32) : Prop := orF n = 1 ∧ ofF f n = 1 ∧ ofF g n = 1
set_option maxHeartbeats 4000000 in
set_option maxRecDepth 100000 in
theorem c8_wayN (d : Nat) (f g n : Int32) (h : ¬ inW f g n) : C mX8_way (d + 3) 0 0 [.ref 33, .int f, .int g, .int n] (hp A B) (fun r' h' => h' = hp (rmA A 7) B ∧ r' = some (.int (-7))) := by
  refine C.of [some (.ref 33), some (.int f), some (.int g), some (.int n), none, none, none, none, none] omX8_way rfl rfl rfl ?_
  have bad : V mX8_way (d + 3) 0 0 (fun r' h' => h' = hp (rmA A 7) B ∧ r' = some (.int (-7))) 0 0 25 [some (.ref 33), some (.int f), some (.int g), some (.int n), none, none, none, none, none] [] (hp A B) := by
    iterate 2 (refine V.s omX8_way rfl rfl ?_)
    refine V.cVf omX8_way omX8_no rfl rfl (c8_no _ _ (by decide)) rfl rfl rfl rfl rfl rfl ?_
    exact V.iret omX8_way rfl rfl ⟨rfl, rfl⟩
  refine V.s omX8_way rfl rfl ?_
  refine V.cSf omX8_way omX8_isRow rfl rfl (c8_isRow _ _ _) rfl rfl rfl rfl ?_
  rcases orF_01 n with h1 | h1
  · rw [h1]
    refine V.brT omX8_way rfl rfl rfl (by decide) ?_
    exact bad
  rw [h1]
  refine V.brF omX8_way rfl rfl (by decide) ?_
  iterate 3 (refine V.s omX8_way rfl rfl ?_)
  refine V.cVf omX8_way omX8_isOf rfl rfl (c8_isOf d _ _) rfl rfl rfl rfl rfl rfl ?_
  rcases ofF_01 f n with h2 | h2
  · rw [h2]
    refine V.brT omX8_way rfl rfl rfl (by decide) ?_
    exact bad
  rw [h2]
  refine V.brF omX8_way rfl rfl (by decide) ?_
  iterate 3 (refine V.s omX8_way rfl rfl ?_)
  refine V.cVf omX8_way omX8_isOf rfl rfl (c8_isOf d _ _) rfl rfl rfl rfl rfl rfl ?_
  rcases ofF_01 g n with h3 | h3
  · rw [h3]
    refine V.brF omX8_way rfl rfl (by decide) ?_
    exact bad
  · exact absurd ⟨h1, h2, h3⟩ h
def s8_step (A : Nat → Nat → Int32) (i : Int32) : Int32 × (Nat → Nat → Int32) := if A 33 25 < 0 then (-2, rmA A 2) else if 0 ≤ i ∧ i ≤ A 33 25 then (A 48 i.toNatClampNeg, A) else (-3, rmA A 3)
set_option maxHeartbeats 4000000 in
set_option maxRecDepth 100000 in
theorem c8_step (d : Nat) (i : Int32) (hb : A 33 25 < 0 ∨ ∃ L, L < 300 ∧ A 33 25 = nI L) : C mX8_step (d + 1) 0 0 [.ref 33, .int i] (hp A B) (fun r h' => h' = hp (s8_step A i).2 B ∧ r = some (.int (s8_step A i).1)) := by
  refine C.of [some (.ref 33), some (.int i)] omX8_step rfl rfl rfl ?_
  refine V.s omX8_step rfl rfl ?_
  refine V.gf omX8_step rfl rfl rfl rfl ?_
  by_cases h1 : A 33 25 < 0
  · refine V.brF omX8_step rfl rfl (Int32.not_le.mpr h1) ?_
    iterate 2 (refine V.s omX8_step rfl rfl ?_)
    refine V.cVf omX8_step omX8_no rfl rfl (c8_no _ _ (by decide)) rfl rfl rfl rfl rfl rfl ?_
    have e : s8_step A i = (-2, rmA A 2) := by unfold s8_step; rw [if_pos h1]
    rw [e]
    exact V.iret omX8_step rfl rfl ⟨rfl, rfl⟩
  · refine V.brT omX8_step rfl rfl (Int32.not_lt.mp h1) (fun h => Int32.not_lt.mpr h) ?_
    obtain ⟨L, hL, e25⟩ := hb.resolve_left h1
    iterate 4 (refine V.s omX8_step rfl rfl ?_)
    refine V.gf omX8_step rfl rfl rfl rfl ?_
    rw [e25]
    refine V.s omX8_step rfl rfl ?_
    refine V.cSf omX8_step omX8_isIn rfl rfl (isIn_nI _ _ (show L < 2 ^ 31 by omega) _) rfl rfl rfl rfl ?_
    by_cases h2 : 0 ≤ i ∧ i ≤ nI L
    · have e : s8_step A i = (A 48 i.toNatClampNeg, A) := by unfold s8_step; rw [if_neg h1, e25, if_pos h2]
      rw [e, if_pos h2]
      obtain ⟨k, hk, rfl⟩ := inle (show L < 2 ^ 31 by omega) h2
      rw [nI_clamp (by omega)]
      refine V.brF omX8_step rfl rfl (by decide) ?_
      refine V.s omX8_step rfl rfl ?_
      refine V.gf omX8_step rfl rfl rfl rfl ?_
      refine V.s omX8_step rfl rfl ?_
      refine V.ial omX8_step rfl rfl (ixN nv_nI (show k < 300 by omega) (by decide)) ?_
      refine V.s omX8_step rfl rfl ?_
      exact V.iret omX8_step rfl rfl ⟨rfl, rfl⟩
    · have e : s8_step A i = (-3, rmA A 3) := by unfold s8_step; rw [if_neg h1, e25, if_neg h2]
      rw [e, if_neg h2]
      refine V.brT omX8_step rfl rfl rfl (by decide) ?_
      iterate 2 (refine V.s omX8_step rfl rfl ?_)
      refine V.cVf omX8_step omX8_no rfl rfl (c8_no _ _ (by decide)) rfl rfl rfl rfl rfl rfl ?_
      exact V.iret omX8_step rfl rfl ⟨rfl, rfl⟩
end MDK
end
section
section FRC
variable {A : Nat → Nat → Int32} {B : Nat → Nat → Int64}
theorem c_told (d p q : Nat) (h : hp_T) : C mX1_told d 0 0 [.int (nI p), .int (nI q)] h (fun r h' => h' = h ∧ r = some (.int (nI (100 * p + q)))) := by
  refine C.of [some (.int (nI p)), some (.int (nI q))] omX1_told rfl rfl rfl ?_
  iterate 5 (refine V.s omX1_told rfl rfl ?_)
  rw [told100]
  exact V.iret omX1_told rfl rfl ⟨rfl, rfl⟩
theorem c_top (d : Nat) {F : Nat} (hF : F < 2 ^ 31) (h : hp_T) : C mX1_top d 0 0 [.int (nI F)] h (fun r h' => h' = h ∧ r = some (.int (nI (F / 100)))) := by
  refine C.of [some (.int (nI F))] omX1_top rfl rfl rfl ?_
  iterate 2 (refine V.s omX1_top rfl rfl ?_)
  refine V.idiv omX1_top rfl (by decide) ?_
  rw [div100 hF]
  exact V.iret omX1_top rfl rfl ⟨rfl, rfl⟩
theorem c_bottom (d : Nat) {F : Nat} (hF : F < 2 ^ 31) (h : hp_T) : C mX1_bottom d 0 0 [.int (nI F)] h (fun r h' => h' = h ∧ r = some (.int (nI (F % 100)))) := by
  refine C.of [some (.int (nI F))] omX1_bottom rfl rfl rfl ?_
  iterate 2 (refine V.s omX1_bottom rfl rfl ?_)
  refine V.irem omX1_bottom rfl (by decide) ?_
  rw [rem100 hF]
  exact V.iret omX1_bottom rfl rfl ⟨rfl, rfl⟩
set_option maxHeartbeats 4000000 in
set_option maxRecDepth 100000 in
theorem c_isOne (d : Nat) (f : Int32) (h : hp_T) : C mX1_isOne (d + 1) 0 0 [.int f] h (fun r h' => h' = h ∧ r = some (.int (frF f))) := by
  refine C.of [some (.int f)] omX1_isOne rfl rfl rfl ?_
  refine V.s omX1_isOne rfl rfl ?_
  by_cases h0 : 0 < f
  · refine V.brF omX1_isOne rfl rfl (Int32.not_le.mpr h0) ?_
    obtain ⟨F, hF, rfl⟩ := nI_of (x := f) (fun g => Int32.lt_irrefl (Int32.lt_trans h0 g))
    rw [frF_n hF h0]
    refine V.s omX1_isOne rfl rfl ?_
    refine V.cSf omX1_isOne omX1_bottom rfl rfl (c_bottom _ hF _) rfl rfl rfl rfl ?_
    refine V.s omX1_isOne rfl rfl ?_
    by_cases h1 : 1 ≤ F % 100
    · refine V.brF omX1_isOne rfl rfl (nI_nlt (b := 1) h1 (by omega)) ?_
      refine V.s omX1_isOne rfl rfl ?_
      refine V.cSf omX1_isOne omX1_top rfl rfl (c_top _ hF _) rfl rfl rfl rfl ?_
      refine V.s omX1_isOne rfl rfl ?_
      refine V.cSf omX1_isOne omX1_bottom rfl rfl (c_bottom _ hF _) rfl rfl rfl rfl ?_
      by_cases h2 : F / 100 ≤ F % 100
      · refine V.brF omX1_isOne rfl rfl (nI_nlt h2 (by omega)) ?_
        refine V.s omX1_isOne rfl rfl ?_
        refine V.cSf omX1_isOne omX1_top rfl rfl (c_top _ hF _) rfl rfl rfl rfl ?_
        refine V.s omX1_isOne rfl rfl ?_
        refine V.cSf omX1_isOne omX1_bottom rfl rfl (c_bottom _ hF _) rfl rfl rfl rfl ?_
        refine V.cSf omX1_isOne omX2_isLowest rfl rfl (c_isLowest _ _ _ _ (show F / 100 < 2 ^ 31 by omega) (show F % 100 < 2 ^ 31 by omega)) rfl rfl rfl rfl ?_
        by_cases h3 : Nat.gcd (F / 100) (F % 100) = 1
        · rw [if_pos h3]
          refine V.brF omX1_isOne rfl rfl (by decide) ?_
          iterate 2 (refine V.s omX1_isOne rfl rfl ?_)
          exact V.zret omX1_isOne rfl rfl (by decide) ⟨rfl, by rw [if_pos ⟨h1, h2, by rw [Nat.gcd_comm]; exact h3⟩]⟩
        · rw [if_neg h3]
          refine V.brT omX1_isOne rfl rfl rfl (by decide) ?_
          refine V.s omX1_isOne rfl rfl ?_
          exact V.zret omX1_isOne rfl rfl (by decide) ⟨rfl, by rw [if_neg (fun g => h3 (by rw [Nat.gcd_comm]; exact g.2.2))]⟩
      · refine V.brT omX1_isOne rfl rfl (nI_lt (by omega) (by omega)) (fun g => Int32.not_le.mpr g) ?_
        refine V.s omX1_isOne rfl rfl ?_
        exact V.zret omX1_isOne rfl rfl (by decide) ⟨rfl, by rw [if_neg (fun g => h2 g.2.1)]⟩
    · refine V.brT omX1_isOne rfl rfl (nI_lt (b := 1) (by omega) (by decide)) (fun g => Int32.not_le.mpr g) ?_
      refine V.s omX1_isOne rfl rfl ?_
      exact V.zret omX1_isOne rfl rfl (by decide) ⟨rfl, by rw [if_neg (fun g => h1 g.1)]⟩
  · refine V.brT omX1_isOne rfl rfl (Int32.not_lt.mp h0) (fun g => Int32.not_lt.mpr g) ?_
    refine V.s omX1_isOne rfl rfl ?_
    exact V.zret omX1_isOne rfl rfl (by decide) ⟨rfl, by rw [frF_0 h0]⟩
set_option maxHeartbeats 4000000 in
set_option maxRecDepth 100000 in
theorem c_areNear (d : Nat) {F G : Nat} (hF : F < 10000) (hG : G < 10000) (h : hp_T) : C mX1_areNear (d + 1) 0 0 [.int (nI F), .int (nI G)] h (fun r h' => h' = h ∧ r = some (.int (if nrP F G then 1 else 0))) := by
  refine C.of [some (.int (nI F)), some (.int (nI G)), none] omX1_areNear rfl rfl rfl ?_
  refine V.s omX1_areNear rfl rfl ?_
  refine V.cSf omX1_areNear omX1_top rfl rfl (c_top _ (show F < 2 ^ 31 by omega) _) rfl rfl rfl rfl ?_
  refine V.s omX1_areNear rfl rfl ?_
  refine V.cSf omX1_areNear omX1_bottom rfl rfl (c_bottom _ (show G < 2 ^ 31 by omega) _) rfl rfl rfl rfl ?_
  iterate 2 (refine V.s omX1_areNear rfl rfl ?_)
  refine V.cSf omX1_areNear omX1_top rfl rfl (c_top _ (show G < 2 ^ 31 by omega) _) rfl rfl rfl rfl ?_
  refine V.s omX1_areNear rfl rfl ?_
  refine V.cSf omX1_areNear omX1_bottom rfl rfl (c_bottom _ (show F < 2 ^ 31 by omega) _) rfl rfl rfl rfl ?_
  iterate 5 (refine V.s omX1_areNear rfl rfl ?_)
  rw [show nI (F / 100) * nI (G % 100) - nI (G / 100) * nI (F % 100) = dt F G from rfl]
  by_cases h3 : dt F G = 1
  · refine V.brT omX1_areNear rfl rfl h3 (fun h g => g h) ?_
    iterate 2 (refine V.s omX1_areNear rfl rfl ?_)
    exact V.zret omX1_areNear rfl rfl (by decide) ⟨rfl, by rw [if_pos ((dt_nr hF hG).mp (Or.inl h3))]⟩
  · refine V.brF omX1_areNear rfl rfl h3 ?_
    iterate 2 (refine V.s omX1_areNear rfl rfl ?_)
    by_cases h4 : dt F G = -1
    · refine V.brF omX1_areNear rfl rfl (fun g => g h4) ?_
      iterate 2 (refine V.s omX1_areNear rfl rfl ?_)
      exact V.zret omX1_areNear rfl rfl (by decide) ⟨rfl, by rw [if_pos ((dt_nr hF hG).mp (Or.inr h4))]⟩
    · refine V.brT omX1_areNear rfl rfl h4 (fun g => g) ?_
      refine V.s omX1_areNear rfl rfl ?_
      exact V.zret omX1_areNear rfl rfl (by decide) ⟨rfl, by rw [if_neg (fun q => ((dt_nr hF hG).mpr q).elim h3 h4)]⟩
def s7_near (A : Nat → Nat → Int32) (f g : Int32) : Int32 × (Nat → Nat → Int32) := if frF f = 1 ∧ frF g = 1 then (if nrP f.toNatClampNeg g.toNatClampNeg then 1 else 0, A) else (-7, rfA A 7)
set_option maxHeartbeats 4000000 in
set_option maxRecDepth 100000 in
theorem c7_near (d : Nat) (f g : Int32) : C mX7_near (d + 2) 0 0 [.ref 0, .int f, .int g] (hp A B) (fun r h' => h' = hp (s7_near A f g).2 B ∧ r = some (.int (s7_near A f g).1)) := by
  refine C.of [some (.ref 0), some (.int f), some (.int g)] omX7_near rfl rfl rfl ?_
  have bad : s7_near A f g = (-7, rfA A 7) → V mX7_near (d + 2) 0 0 (fun r h' => h' = hp (s7_near A f g).2 B ∧ r = some (.int (s7_near A f g).1)) 0 0 14 [some (.ref 0), some (.int f), some (.int g)] [] (hp A B) := by
    intro e
    rw [e]
    iterate 2 (refine V.s omX7_near rfl rfl ?_)
    refine V.cVf omX7_near omX7_refuse rfl rfl (c_refuse _ _ (by decide)) rfl rfl rfl rfl rfl rfl ?_
    exact V.iret omX7_near rfl rfl ⟨rfl, rfl⟩
  refine V.s omX7_near rfl rfl ?_
  refine V.cSf omX7_near omX1_isOne rfl rfl (c_isOne _ _ _) rfl rfl rfl rfl ?_
  rcases frF_01 f with h1 | h1
  · rw [h1]
    refine V.brT omX7_near rfl rfl rfl (by decide) ?_
    exact bad (by unfold s7_near; rw [if_neg (fun q => absurd (h1.symm.trans q.1) (by decide))])
  rw [h1]
  refine V.brF omX7_near rfl rfl (by decide) ?_
  refine V.s omX7_near rfl rfl ?_
  refine V.cSf omX7_near omX1_isOne rfl rfl (c_isOne _ _ _) rfl rfl rfl rfl ?_
  rcases frF_01 g with h2 | h2
  · rw [h2]
    refine V.brF omX7_near rfl rfl (by decide) ?_
    exact bad (by unfold s7_near; rw [if_neg (fun q => absurd (h2.symm.trans q.2) (by decide))])
  rw [h2]
  refine V.brT omX7_near rfl rfl (by decide) (by decide) ?_
  have e : s7_near A f g = (if nrP f.toNatClampNeg g.toNatClampNeg then 1 else 0, A) := by unfold s7_near; rw [if_pos ⟨h1, h2⟩]
  rw [e]
  obtain ⟨F, rfl, hF, hF1, -⟩ := frF_ex h1
  obtain ⟨G, rfl, hG, hG1, -⟩ := frF_ex h2
  rw [nI_clamp (by omega), nI_clamp (by omega)]
  iterate 2 (refine V.s omX7_near rfl rfl ?_)
  refine V.cSf omX7_near omX1_areNear rfl rfl (c_areNear d hF1 hG1 _) rfl rfl rfl rfl ?_
  by_cases h3 : nrP F G
  · rw [if_pos h3]
    refine V.brF omX7_near rfl rfl (by decide) ?_
    iterate 2 (refine V.s omX7_near rfl rfl ?_)
    exact V.iret omX7_near rfl rfl ⟨rfl, rfl⟩
  · rw [if_neg h3]
    refine V.brT omX7_near rfl rfl rfl (by decide) ?_
    refine V.s omX7_near rfl rfl ?_
    exact V.iret omX7_near rfl rfl ⟨rfl, rfl⟩
def s7_between (A : Nat → Nat → Int32) (f g : Int32) : Int32 × (Nat → Nat → Int32) := if frF f = 1 ∧ frF g = 1 ∧ nrP f.toNatClampNeg g.toNatClampNeg then (if f.toNatClampNeg % 100 + g.toNatClampNeg % 100 ≤ 99 then (nI (btN f.toNatClampNeg g.toNatClampNeg), A) else (-8, rfA A 8)) else (-7, rfA A 7)
set_option maxHeartbeats 4000000 in
set_option maxRecDepth 100000 in
theorem c7_between (d : Nat) (f g : Int32) : C mX7_between (d + 2) 0 0 [.ref 0, .int f, .int g] (hp A B) (fun r h' => h' = hp (s7_between A f g).2 B ∧ r = some (.int (s7_between A f g).1)) := by
  refine C.of [some (.ref 0), some (.int f), some (.int g), none, none] omX7_between rfl rfl rfl ?_
  have bad : s7_between A f g = (-7, rfA A 7) → V mX7_between (d + 2) 0 0 (fun r h' => h' = hp (s7_between A f g).2 B ∧ r = some (.int (s7_between A f g).1)) 0 0 22 [some (.ref 0), some (.int f), some (.int g), none, none] [] (hp A B) := by
    intro e
    rw [e]
    iterate 2 (refine V.s omX7_between rfl rfl ?_)
    refine V.cVf omX7_between omX7_refuse rfl rfl (c_refuse _ _ (by decide)) rfl rfl rfl rfl rfl rfl ?_
    exact V.iret omX7_between rfl rfl ⟨rfl, rfl⟩
  refine V.s omX7_between rfl rfl ?_
  refine V.cSf omX7_between omX1_isOne rfl rfl (c_isOne _ _ _) rfl rfl rfl rfl ?_
  rcases frF_01 f with h1 | h1
  · rw [h1]
    refine V.brT omX7_between rfl rfl rfl (by decide) ?_
    exact bad (by unfold s7_between; rw [if_neg (fun q => absurd (h1.symm.trans q.1) (by decide))])
  rw [h1]
  refine V.brF omX7_between rfl rfl (by decide) ?_
  refine V.s omX7_between rfl rfl ?_
  refine V.cSf omX7_between omX1_isOne rfl rfl (c_isOne _ _ _) rfl rfl rfl rfl ?_
  rcases frF_01 g with h2 | h2
  · rw [h2]
    refine V.brT omX7_between rfl rfl rfl (by decide) ?_
    exact bad (by unfold s7_between; rw [if_neg (fun q => absurd (h2.symm.trans q.2.1) (by decide))])
  rw [h2]
  refine V.brF omX7_between rfl rfl (by decide) ?_
  obtain ⟨F, rfl, hF, hF1, -⟩ := frF_ex h1
  obtain ⟨G, rfl, hG, hG1, -⟩ := frF_ex h2
  iterate 2 (refine V.s omX7_between rfl rfl ?_)
  refine V.cSf omX7_between omX1_areNear rfl rfl (c_areNear d hF1 hG1 _) rfl rfl rfl rfl ?_
  by_cases h3 : nrP F G
  · rw [if_pos h3]
    refine V.brT omX7_between rfl rfl (by decide) (by decide) ?_
    have eY : s7_between A (nI F) (nI G) = (if F % 100 + G % 100 ≤ 99 then (nI (btN F G), A) else (-8, rfA A 8)) := by
      unfold s7_between
      rw [nI_clamp (show F < 2 ^ 31 by omega), nI_clamp (show G < 2 ^ 31 by omega), if_pos ⟨h1, h2, h3⟩]
    rw [eY]
    clear bad eY
    refine V.s omX7_between rfl rfl ?_
    refine V.cSf omX7_between omX1_top rfl rfl (c_top _ (show F < 2 ^ 31 by omega) _) rfl rfl rfl rfl ?_
    refine V.s omX7_between rfl rfl ?_
    refine V.cSf omX7_between omX1_top rfl rfl (c_top _ (show G < 2 ^ 31 by omega) _) rfl rfl rfl rfl ?_
    refine V.s omX7_between rfl rfl ?_
    rw [nI_add]
    iterate 2 (refine V.s omX7_between rfl rfl ?_)
    refine V.cSf omX7_between omX1_bottom rfl rfl (c_bottom _ (show F < 2 ^ 31 by omega) _) rfl rfl rfl rfl ?_
    refine V.s omX7_between rfl rfl ?_
    refine V.cSf omX7_between omX1_bottom rfl rfl (c_bottom _ (show G < 2 ^ 31 by omega) _) rfl rfl rfl rfl ?_
    refine V.s omX7_between rfl rfl ?_
    rw [nI_add]
    iterate 3 (refine V.s omX7_between rfl rfl ?_)
    by_cases h4 : F % 100 + G % 100 ≤ 99
    · rw [if_pos h4]
      refine V.brF omX7_between rfl rfl (nI_ge (b := 100) (by omega) (by decide)) ?_
      iterate 2 (refine V.s omX7_between rfl rfl ?_)
      refine V.cSf omX7_between omX1_told rfl rfl (c_told _ _ _ _) rfl rfl rfl rfl ?_
      refine V.s omX7_between rfl rfl ?_
      exact V.iret omX7_between rfl rfl ⟨rfl, rfl⟩
    · rw [if_neg h4]
      refine V.brT omX7_between rfl rfl (nI_le (a := 100) (by omega) (by omega)) (fun g => Int32.not_lt.mpr g) ?_
      iterate 2 (refine V.s omX7_between rfl rfl ?_)
      refine V.cVf omX7_between omX7_refuse rfl rfl (c_refuse _ _ (by decide)) rfl rfl rfl rfl rfl rfl ?_
      exact V.iret omX7_between rfl rfl ⟨rfl, rfl⟩
  · rw [if_neg h3]
    refine V.brF omX7_between rfl rfl (by decide) ?_
    exact bad (by
      unfold s7_between
      rw [nI_clamp (show F < 2 ^ 31 by omega), nI_clamp (show G < 2 ^ 31 by omega), if_neg (fun w => h3 w.2.2)])
set_option maxHeartbeats 4000000 in
set_option maxRecDepth 100000 in
theorem c7_isOrder (d : Nat) (n : Int32) (h : hp_T) : C mX7_isOrder d 0 0 [.int n] h (fun r h' => h' = h ∧ r = some (.int (orF n))) := by
  refine C.of [some (.int n)] omX7_isOrder rfl rfl rfl ?_
  iterate 2 (refine V.s omX7_isOrder rfl rfl ?_)
  by_cases h1 : n < 1
  · refine V.brT omX7_isOrder rfl rfl h1 (fun g => Int32.not_le.mpr g) ?_
    refine V.s omX7_isOrder rfl rfl ?_
    exact V.zret omX7_isOrder rfl rfl (by decide) ⟨rfl, by unfold orF; rw [if_neg (fun q => Int32.not_le.mpr h1 q.1)]⟩
  · refine V.brF omX7_isOrder rfl rfl h1 ?_
    iterate 2 (refine V.s omX7_isOrder rfl rfl ?_)
    by_cases h2 : 30 < n
    · refine V.brT omX7_isOrder rfl rfl h2 (fun g => Int32.not_le.mpr g) ?_
      refine V.s omX7_isOrder rfl rfl ?_
      exact V.zret omX7_isOrder rfl rfl (by decide) ⟨rfl, by unfold orF; rw [if_neg (fun q => Int32.not_le.mpr h2 q.2)]⟩
    · refine V.brF omX7_isOrder rfl rfl h2 ?_
      iterate 2 (refine V.s omX7_isOrder rfl rfl ?_)
      exact V.zret omX7_isOrder rfl rfl (by decide) ⟨rfl, by unfold orF; rw [if_pos ⟨Int32.not_lt.mp h1, Int32.not_lt.mp h2⟩]⟩
def irF (f n : Int32) : Int32 := if orF n = 1 ∧ ofF f n = 1 then 1 else 0
theorem irF_01 (f n : Int32) : irF f n = 0 ∨ irF f n = 1 := by unfold irF; split <;> simp
set_option maxHeartbeats 4000000 in
set_option maxRecDepth 100000 in
theorem c7_isInRow (d : Nat) (f n : Int32) (h : hp_T) : C mX7_isInRow (d + 2) 0 0 [.int f, .int n] h (fun r h' => h' = h ∧ r = some (.int (irF f n))) := by
  refine C.of [some (.int f), some (.int n)] omX7_isInRow rfl rfl rfl ?_
  have bad : irF f n = 0 → V mX7_isInRow (d + 2) 0 0 (fun r h' => h' = h ∧ r = some (.int (irF f n))) 0 0 26 [some (.int f), some (.int n)] [] h := by
    intro e
    rw [e]
    refine V.s omX7_isInRow rfl rfl ?_
    exact V.zret omX7_isInRow rfl rfl (by decide) ⟨rfl, rfl⟩
  refine V.s omX7_isInRow rfl rfl ?_
  refine V.cSf omX7_isInRow omX7_isOrder rfl rfl (c7_isOrder _ _ _) rfl rfl rfl rfl ?_
  rcases orF_01 n with h1 | h1
  · rw [h1]
    refine V.brT omX7_isInRow rfl rfl rfl (by decide) ?_
    exact bad (by unfold irF; rw [if_neg (fun q => absurd (h1.symm.trans q.1) (by decide))])
  rw [h1]
  refine V.brF omX7_isInRow rfl rfl (by decide) ?_
  refine V.s omX7_isInRow rfl rfl ?_
  refine V.cSf omX7_isInRow omX1_isOne rfl rfl (c_isOne _ _ _) rfl rfl rfl rfl ?_
  rcases frF_01 f with h2 | h2
  · rw [h2]
    refine V.brT omX7_isInRow rfl rfl rfl (by decide) ?_
    exact bad (by
      have e : ofF f n = 0 := by unfold ofF; rw [if_neg (fun q => absurd (h2.symm.trans q.1) (by decide))]
      unfold irF
      rw [if_neg (fun q => absurd (e.symm.trans q.2) (by decide))])
  rw [h2]
  refine V.brF omX7_isInRow rfl rfl (by decide) ?_
  obtain ⟨F, rfl, hF, hF1, -⟩ := frF_ex h2
  refine V.s omX7_isInRow rfl rfl ?_
  refine V.cSf omX7_isInRow omX1_bottom rfl rfl (c_bottom _ (show F < 2 ^ 31 by omega) _) rfl rfl rfl rfl ?_
  refine V.s omX7_isInRow rfl rfl ?_
  by_cases h3 : nI (F % 100) ≤ n
  · have e : irF (nI F) n = 1 := by
      have e0 : ofF (nI F) n = 1 := by
        unfold ofF
        rw [nI_clamp (show F < 2 ^ 31 by omega), if_pos ⟨h2, h3⟩]
      unfold irF
      rw [if_pos ⟨h1, e0⟩]
    rw [e]
    refine V.brF omX7_isInRow rfl rfl (Int32.not_lt.mpr h3) ?_
    iterate 2 (refine V.s omX7_isInRow rfl rfl ?_)
    exact V.zret omX7_isInRow rfl rfl (by decide) ⟨rfl, rfl⟩
  · refine V.brT omX7_isInRow rfl rfl (Int32.not_le.mp h3) (fun g => Int32.not_le.mpr g) ?_
    exact bad (by
      have e : ofF (nI F) n = 0 := by unfold ofF; rw [nI_clamp (show F < 2 ^ 31 by omega), if_neg (fun q => h3 q.2)]
      unfold irF
      rw [if_neg (fun q => absurd (e.symm.trans q.2) (by decide))])
/-! the row of an order -/
def sN {α : Type} (x : Nat) (f : Nat → α) : α := match x with
  | 0 => f 0
  | k + 1 => f (k + 1)
theorem sN_eq {α : Type} (x : Nat) (f : Nat → α) : sN x f = f x := by cases x <;> rfl
def fl (n : Nat) : Nat → Nat → Nat → Nat → Nat → List Nat → Option (List Nat)
  | 0, _, _, _, _, _ => none
  | t + 1, a, b, c, d, l => if l.length < 279 ∧ 0 < d then (if a < 100 ∧ b < 100 ∧ d < 100 then (if a = b then some ((100 * a + b) :: l) else (if a ≤ (n + b) / d * c ∧ b ≤ (n + b) / d * d then sN ((n + b) / d * c - a) (fun c' => sN ((n + b) / d * d - b) (fun d' => fl n t c d c' d' ((100 * a + b) :: l))) else none)) else none) else some l
set_option maxRecDepth 100000 in
theorem fl_B : (List.range 31).all (fun n => Nat.beq n 0 || decide (fl n 300 0 1 1 n [] = some (rowD n))) = true := by decide +kernel
theorem fl_row {n : Nat} (h1 : 1 ≤ n) (hn : n ≤ 30) : fl n 300 0 1 1 n [] = some (rowD n) := by
  have h := List.all_eq_true.mp fl_B n (List.mem_range.mpr (by omega))
  rw [Bool.or_eq_true] at h
  rcases h with h | h
  · have := Nat.eq_of_beq_eq_true h
    omega
  · exact of_decide_eq_true h
abbrev hF (A : Nat → Nat → Int32) (B : Nat → Nat → Int64) (X T : Nat → Int32) : hp_T := hp (va_up (va_up A 26 T) 25 X) B
theorem zA26 {X T : Nat → Int32} : va_up (va_up A 26 T) 25 X 26 = T := rfl
theorem zA26u {X T T2 : Nat → Int32} : va_up (va_up (va_up A 26 T) 25 X) 26 T2 = va_up (va_up A 26 T2) 25 X := by rw [va_cm _ (show (25 : Nat) ≠ 26 by decide), bx_uu]
set_option maxHeartbeats 4000000 in
set_option maxRecDepth 100000 in
theorem fi_29 (d0 : Nat) {n : Nat} (hn : n ≤ 30) {L : List Nat} {Q : Option Value → hp_T → Prop} (kk : ∀ T' X', AD T' L → X' 1 = nI n → X' 2 = nI L.length → Q none (hF A B X' T')) : ∀ (t a b c d : Nat) (l : List Nat) (T X : Nat → Int32) (v6 v7 v8 : Option Value), AD T l → X 1 = nI n → X 2 = nI l.length → l.length ≤ 279 → fl n t a b c d l = some L → V mX0_fill (d0 + 1) 0 0 Q 0 0 29 [some (.ref 25), some (.int (nI n)), some (.int (nI a)), some (.int (nI b)), some (.int (nI c)), some (.int (nI d)), v6, v7, v8] [] (hF A B X T) := by
  intro t
  induction t with
  | zero => intro a b c d l T X v6 v7 v8 _ _ _ _ h; cases h
  | succ t ih =>
    intro a b c d l T X v6 v7 v8 hA h1 h2 hl h
    simp only [fl, sN_eq] at h
    refine V.s omX0_fill rfl rfl ?_
    refine V.gf omX0_fill rfl rfl rfl rfl ?_
    rw [va_up_self, h2]
    refine V.s omX0_fill rfl rfl ?_
    by_cases hc : l.length < 279 ∧ 0 < d
    · rw [if_pos hc] at h
      by_cases hb : a < 100 ∧ b < 100 ∧ d < 100
      · rw [if_pos hb] at h
        refine V.brF omX0_fill rfl rfl (nI_ge (b := 279) hc.1 (by decide)) ?_
        refine V.s omX0_fill rfl rfl ?_
        refine V.brF omX0_fill rfl rfl (nI_nle hc.2 (by omega)) ?_
        refine V.s omX0_fill rfl rfl ?_
        refine V.gf omX0_fill rfl rfl rfl rfl ?_
        refine V.s omX0_fill rfl rfl ?_
        refine V.gf omX0_fill rfl rfl rfl rfl ?_
        rw [va_up_self, h2]
        iterate 2 (refine V.s omX0_fill rfl rfl ?_)
        refine V.cSf omX0_fill omX1_told rfl rfl (c_told _ _ _ _) rfl rfl rfl rfl ?_
        refine V.iasH omX0_fill rfl rfl (ixN nv_nI hc.1 (by decide)) ?_
        rw [zA26, zA26u]
        iterate 2 (refine V.s omX0_fill rfl rfl ?_)
        refine V.gf omX0_fill rfl rfl rfl rfl ?_
        rw [va_up_self, h2]
        iterate 2 (refine V.s omX0_fill rfl rfl ?_)
        rw [nI_1]
        refine V.pfH omX0_fill rfl rfl rfl rfl rfl rfl rfl ?_
        rw [bx_uu, va_up_self]
        have hA2 : AD (upd T l.length (nI (100 * a + b))) ((100 * a + b) :: l) := ⟨by omega, pk_us, AD_ext hA (fun k hk => pk_un (by omega))⟩
        iterate 2 (refine V.s omX0_fill rfl rfl ?_)
        by_cases hab : a = b
        · rw [if_pos hab] at h
          cases h
          refine V.brF omX0_fill rfl rfl (fun g => g (by rw [hab])) ?_
          have k2 := kk (upd T l.length (nI (100 * a + b))) (upd X 2 (nI (l.length + 1))) hA2 h1 rfl
          exact V.vret omX0_fill rfl rfl k2
        · rw [if_neg hab] at h
          by_cases hs : a ≤ (n + b) / d * c ∧ b ≤ (n + b) / d * d
          · rw [if_pos hs] at h
            refine V.brT omX0_fill rfl rfl (fun g => hab ((nI_eq (by omega) (by omega)).mp g)) (fun g => g) ?_
            iterate 3 (refine V.s omX0_fill rfl rfl ?_)
            rw [nI_add]
            refine V.s omX0_fill rfl rfl ?_
            refine V.idiv omX0_fill rfl (nI_ne0 hc.2 (by omega)) ?_
            rw [pk_div (by omega) hc.2 (by omega)]
            iterate 4 (refine V.s omX0_fill rfl rfl ?_)
            rw [pk_mul]
            iterate 2 (refine V.s omX0_fill rfl rfl ?_)
            rw [pk_sub hs.1]
            iterate 4 (refine V.s omX0_fill rfl rfl ?_)
            rw [pk_mul]
            iterate 2 (refine V.s omX0_fill rfl rfl ?_)
            rw [pk_sub hs.2]
            iterate 10 (refine V.s omX0_fill rfl rfl ?_)
            have k2 := ih c d ((n + b) / d * c - a) ((n + b) / d * d - b) ((100 * a + b) :: l) (upd T l.length (nI (100 * a + b))) (upd X 2 (nI (l.length + 1))) (some (.int (nI ((n + b) / d)))) (some (.int (nI ((n + b) / d * c - a)))) (some (.int (nI ((n + b) / d * d - b)))) hA2 h1 rfl (by simp only [List.length_cons]; omega) h
            exact k2
          · rw [if_neg hs] at h
            cases h
      · rw [if_neg hb] at h
        cases h
    · rw [if_neg hc] at h
      have hLl := Option.some.inj h
      rw [← hLl] at kk
      by_cases h3 : l.length < 279
      · have : d = 0 := by omega
        subst this
        refine V.brF omX0_fill rfl rfl (nI_ge (b := 279) h3 (by decide)) ?_
        refine V.s omX0_fill rfl rfl ?_
        refine V.brT omX0_fill rfl rfl (show nI 0 ≤ 0 by decide) (fun g => Int32.not_lt.mpr g) ?_
        exact V.vret omX0_fill rfl rfl (kk T X hA h1 h2)
      · refine V.brT omX0_fill rfl rfl (nI_le (a := 279) (by omega) (by omega)) (fun g => Int32.not_lt.mpr g) ?_
        exact V.vret omX0_fill rfl rfl (kk T X hA h1 h2)
def FC (A : Nat → Nat → Int32) : Prop := A 25 1 = 0 ∨ ∃ o, 1 ≤ o ∧ o ≤ 30 ∧ A 25 1 = nI o ∧ AD (A 26) (rowD o) ∧ A 25 2 = nI (rowD o).length
def JF (A A' : Nat → Nat → Int32) : Prop := ∀ q k, ¬ (q = 25 ∨ q = 26) → A' q k = A q k
theorem JF_r (A : Nat → Nat → Int32) : JF A A := fun _ _ _ => rfl
theorem JF_F (A : Nat → Nat → Int32) (X T : Nat → Int32) : JF A (va_up (va_up A 26 T) 25 X) := by
  intro q k h
  unfold va_up
  rw [if_neg (fun e => h (Or.inl e)), if_neg (fun e => h (Or.inr e))]
def FO (A : Nat → Nat → Int32) (n : Nat) : Prop := A 25 1 = nI n ∧ AD (A 26) (rowD n) ∧ A 25 2 = nI (rowD n).length
set_option maxHeartbeats 4000000 in
set_option maxRecDepth 100000 in
theorem c_fill (d : Nat) {n : Nat} (h1 : 1 ≤ n) (hn : n ≤ 30) (hc : FC A) : C mX0_fill (d + 1) 0 0 [.ref 25, .int (nI n)] (hp A B) (fun r h' => (∃ A', h' = hp A' B ∧ JF A A' ∧ FO A' n) ∧ r = none) := by
  refine C.of [some (.ref 25), some (.int (nI n)), none, none, none, none, none, none, none] omX0_fill rfl rfl rfl ?_
  iterate 2 (refine V.s omX0_fill rfl rfl ?_)
  refine V.gf omX0_fill rfl rfl rfl rfl ?_
  by_cases he : nI n = A 25 1
  · refine V.brF omX0_fill rfl rfl (fun g => g he) ?_
    refine V.vret omX0_fill rfl rfl ⟨⟨A, rfl, JF_r A, ?_⟩, rfl⟩
    rcases hc with hc | ⟨o, ho1, ho2, ho3, ho4, ho5⟩
    · rw [hc] at he
      exact absurd he (nI_ne0 (by omega) (by omega))
    · rw [ho3, nI_eq (by omega) (by omega)] at he
      subst he
      exact ⟨ho3, ho4, ho5⟩
  · refine V.brT omX0_fill rfl rfl he (fun g => g) ?_
    iterate 2 (refine V.s omX0_fill rfl rfl ?_)
    refine V.pfH omX0_fill rfl rfl rfl rfl rfl rfl rfl ?_
    iterate 2 (refine V.s omX0_fill rfl rfl ?_)
    refine V.pfH omX0_fill rfl rfl rfl rfl rfl rfl rfl ?_
    rw [bx_uu, va_up_self]
    iterate 8 (refine V.s omX0_fill rfl rfl ?_)
    have key := fi_29 (A := A) (B := B) (Q := fun r h' => (∃ A', h' = hp A' B ∧ JF A A' ∧ FO A' n) ∧ r = none) d hn (L := rowD n) (fun T' X' g1 g2 g3 => ⟨⟨va_up (va_up A 26 T') 25 X', rfl, JF_F A X' T', g2, g1, g3⟩, rfl⟩) 300 0 1 1 n [] (A 26) (upd (upd (A 25) 1 (nI n)) 2 0) none none none trivial rfl rfl (by decide) (fl_row h1 hn)
    unfold hF at key
    rw [va_self A 26] at key
    exact key
end FRC
end
section
section FRD
variable {A : Nat → Nat → Int32} {B : Nat → Nat → Int64}
theorem FC_of {n : Nat} (h1 : 1 ≤ n) (hn : n ≤ 30) (h : FO A n) : FC A := Or.inr ⟨n, h1, hn, h.1, h.2.1, h.2.2⟩
set_option maxHeartbeats 4000000 in
set_option maxRecDepth 100000 in
theorem c_placeOf (d : Nat) {n F k : Nat} (hn : n ≤ 30) (hF : F < 10000) (h : FO A n) (hk : plc (rowD n) F k) : C mX0_placeOf d 0 0 [.ref 25, .int (nI F)] (hp A B) (fun r h' => h' = hp A B ∧ r = some (.int (nI k))) := by
  obtain ⟨hk, hk1, hk2⟩ := hk
  obtain ⟨f1, f2, f3⟩ := h
  have hl := rowD_len hn
  refine C.of [some (.ref 25), some (.int (nI F)), none] omX0_placeOf rfl rfl rfl ?_
  iterate 2 (refine V.s omX0_placeOf rfl rfl ?_)
  have key : ∀ (t i : Nat), i + t = k → V mX0_placeOf d 0 0 (fun r h' => h' = hp A B ∧ r = some (.int (nI k))) 0 0 2 [some (.ref 25), some (.int (nI F)), some (.int (nI i))] [] (hp A B) := by
    intro t
    induction t with
    | zero =>
      intro i hi
      have : i = k := by omega
      subst this
      iterate 2 (refine V.s omX0_placeOf rfl rfl ?_)
      refine V.gf omX0_placeOf rfl rfl rfl rfl ?_
      rw [f3]
      refine V.brF omX0_placeOf rfl rfl (nI_ge hk (by omega)) ?_
      refine V.s omX0_placeOf rfl rfl ?_
      refine V.gf omX0_placeOf rfl rfl rfl rfl ?_
      refine V.s omX0_placeOf rfl rfl ?_
      refine V.ial omX0_placeOf rfl rfl (ixN nv_nI (show i < 279 by omega) (by decide)) ?_
      rw [AD_at f2 i hk, hk1]
      refine V.s omX0_placeOf rfl rfl ?_
      refine V.brF omX0_placeOf rfl rfl (fun g => g rfl) ?_
      refine V.s omX0_placeOf rfl rfl ?_
      exact V.iret omX0_placeOf rfl rfl ⟨rfl, rfl⟩
    | succ t ih =>
      intro i hi
      iterate 2 (refine V.s omX0_placeOf rfl rfl ?_)
      refine V.gf omX0_placeOf rfl rfl rfl rfl ?_
      rw [f3]
      refine V.brF omX0_placeOf rfl rfl (nI_ge (show i < (rowD n).length by omega) (by omega)) ?_
      refine V.s omX0_placeOf rfl rfl ?_
      refine V.gf omX0_placeOf rfl rfl rfl rfl ?_
      refine V.s omX0_placeOf rfl rfl ?_
      refine V.ial omX0_placeOf rfl rfl (ixN nv_nI (show i < 279 by omega) (by decide)) ?_
      rw [AD_at f2 i (by omega)]
      refine V.s omX0_placeOf rfl rfl ?_
      have := AD_lt f2 i (by omega)
      refine V.brT omX0_placeOf rfl rfl (fun g => hk2 i (by omega) ((nI_eq (by omega) (by omega)).mp g)) (fun g => g) ?_
      iterate 2 (refine V.s omX0_placeOf rfl rfl ?_)
      rw [nI_1]
      exact ih (i + 1) (by omega)
  exact key k 0 (by omega)
theorem FC_rf {c : Nat} (h : FC A) : FC (rfA A c) := h
set_option maxHeartbeats 4000000 in
set_option maxRecDepth 100000 in
theorem c7_fractions (d : Nat) (n : Int32) (hc : FC A) : C mX7_fractions (d + 2) 0 0 [.ref 0, .int n] (hp A B) (fun r' h' => (∃ A', h' = hp A' B ∧ JF (if orF n = 1 then A else rfA A 7) A' ∧ FC A') ∧ r' = some (.int (if orF n = 1 then nI (rowD n.toNatClampNeg).length else -7))) := by
  refine C.of [some (.ref 0), some (.int n)] omX7_fractions rfl rfl rfl ?_
  refine V.s omX7_fractions rfl rfl ?_
  refine V.cSf omX7_fractions omX7_isOrder rfl rfl (c7_isOrder _ _ _) rfl rfl rfl rfl ?_
  rcases orF_01 n with h | h
  · rw [h]
    refine V.brF omX7_fractions rfl rfl (by decide) ?_
    iterate 2 (refine V.s omX7_fractions rfl rfl ?_)
    refine V.cVf omX7_fractions omX7_refuse rfl rfl (c_refuse _ _ (by decide)) rfl rfl rfl rfl rfl rfl ?_
    exact V.iret omX7_fractions rfl rfl ⟨⟨rfA A 7, rfl, JF_r _, FC_rf hc⟩, rfl⟩
  · rw [h]
    obtain ⟨N, rfl, hN1, hN⟩ := orF_ex h
    refine V.brT omX7_fractions rfl rfl (by decide) (by decide) ?_
    refine V.s omX7_fractions rfl rfl ?_
    refine V.gf omX7_fractions rfl rfl rfl rfl ?_
    refine V.s omX7_fractions rfl rfl ?_
    refine V.cV omX7_fractions omX0_fill (c_fill d hN1 hN hc) rfl rfl rfl rfl rfl rfl rfl rfl (by omega) (by omega) (fun r' h' hQ => ?_)
    obtain ⟨⟨A', rfl, hJ, hO⟩, rfl⟩ := hQ
    show V mX7_fractions (d + 2) 0 0 _ 0 0 22 _ [] _
    refine V.s omX7_fractions rfl rfl ?_
    refine V.gf omX7_fractions rfl rfl rfl rfl ?_
    refine V.gf omX7_fractions rfl rfl rfl rfl ?_
    rw [hO.2.2, nI_clamp (show N < 2 ^ 31 by omega)]
    exact V.iret omX7_fractions rfl rfl ⟨⟨A', rfl, hJ, FC_of hN1 hN hO⟩, rfl⟩
theorem JF_rf {A A' : Nat → Nat → Int32} (h : JF A A') (c : Nat) : JF (rfA A c) (rfA A' c) := by
  intro z k hz
  have e : A' 32 = A 32 := funext (fun k => h 32 k (by decide))
  unfold rfA va_up
  split
  · rw [e]
  · exact h z k hz
set_option maxHeartbeats 4000000 in
set_option maxRecDepth 100000 in
theorem c7_fraction (d : Nat) (n i : Int32) (hc : FC A) : C mX7_fraction (d + 2) 0 0 [.ref 0, .int n, .int i] (hp A B) (fun r' h' => (∃ A', h' = hp A' B ∧ JF (if orF n = 1 then (if 0 ≤ i ∧ i < nI (rowD n.toNatClampNeg).length then A else rfA A 3) else rfA A 7) A' ∧ FC A') ∧ r' = some (.int (if orF n = 1 then (if 0 ≤ i ∧ i < nI (rowD n.toNatClampNeg).length then nI (atD (rowD n.toNatClampNeg) i.toNatClampNeg) else -3) else -7))) := by
  refine C.of [some (.ref 0), some (.int n), some (.int i)] omX7_fraction rfl rfl rfl ?_
  refine V.s omX7_fraction rfl rfl ?_
  refine V.cSf omX7_fraction omX7_isOrder rfl rfl (c7_isOrder _ _ _) rfl rfl rfl rfl ?_
  rcases orF_01 n with h | h
  · rw [h]
    refine V.brF omX7_fraction rfl rfl (by decide) ?_
    iterate 2 (refine V.s omX7_fraction rfl rfl ?_)
    refine V.cVf omX7_fraction omX7_refuse rfl rfl (c_refuse _ _ (by decide)) rfl rfl rfl rfl rfl rfl ?_
    exact V.iret omX7_fraction rfl rfl ⟨⟨rfA A 7, rfl, JF_r _, FC_rf hc⟩, rfl⟩
  · rw [h]
    obtain ⟨N, rfl, hN1, hN⟩ := orF_ex h
    refine V.brT omX7_fraction rfl rfl (by decide) (by decide) ?_
    refine V.s omX7_fraction rfl rfl ?_
    refine V.gf omX7_fraction rfl rfl rfl rfl ?_
    refine V.s omX7_fraction rfl rfl ?_
    refine V.cV omX7_fraction omX0_fill (c_fill d hN1 hN hc) rfl rfl rfl rfl rfl rfl rfl rfl (by omega) (by omega) (fun r' h' hQ => ?_)
    obtain ⟨⟨A', rfl, hJ, hO⟩, rfl⟩ := hQ
    rw [nI_clamp (show N < 2 ^ 31 by omega)]
    show V mX7_fraction (d + 2) 0 0 _ 0 0 22 _ [] _
    have hl := rowD_len hN
    have bad : ¬ (0 ≤ i ∧ i < nI (rowD N).length) → V mX7_fraction (d + 2) 0 0 (fun r' h' => (∃ A', h' = hp A' B ∧ JF (if (1 : Int32) = 1 then (if 0 ≤ i ∧ i < nI (rowD N).length then A else rfA A 3) else rfA A 7) A' ∧ FC A') ∧ r' = some (.int (if (1 : Int32) = 1 then (if 0 ≤ i ∧ i < nI (rowD N).length then nI (atD (rowD N) i.toNatClampNeg) else -3) else -7))) 0 0 49 [some (.ref 0), some (.int (nI N)), some (.int i)] [] (hp A' B) := by
      intro hz
      simp only [if_true, if_neg hz]
      iterate 2 (refine V.s omX7_fraction rfl rfl ?_)
      refine V.cVf omX7_fraction omX7_refuse rfl rfl (c_refuse _ _ (by decide)) rfl rfl rfl rfl rfl rfl ?_
      exact V.iret omX7_fraction rfl rfl ⟨⟨rfA A' 3, rfl, JF_rf hJ 3, FC_rf (FC_of hN1 hN hO)⟩, rfl⟩
    refine V.s omX7_fraction rfl rfl ?_
    by_cases h0 : 0 ≤ i
    · refine V.brF omX7_fraction rfl rfl (Int32.not_lt.mpr h0) ?_
      iterate 2 (refine V.s omX7_fraction rfl rfl ?_)
      refine V.gf omX7_fraction rfl rfl rfl rfl ?_
      refine V.gf omX7_fraction rfl rfl rfl rfl ?_
      rw [hO.2.2]
      by_cases h2 : i < nI (rowD N).length
      · refine V.brF omX7_fraction rfl rfl (Int32.not_le.mpr h2) ?_
        simp only [if_true, if_pos (And.intro h0 h2)]
        obtain ⟨k, hk, rfl⟩ := rng (show (rowD N).length < 2 ^ 31 by omega) ⟨h0, h2⟩
        refine V.s omX7_fraction rfl rfl ?_
        refine V.gf omX7_fraction rfl rfl rfl rfl ?_
        refine V.gf omX7_fraction rfl rfl rfl rfl ?_
        refine V.s omX7_fraction rfl rfl ?_
        refine V.ial omX7_fraction rfl rfl (ixN nv_nI (show k < 279 by omega) (by decide)) ?_
        rw [AD_at hO.2.1 k hk]
        refine V.s omX7_fraction rfl rfl ?_
        exact V.iret omX7_fraction rfl rfl ⟨⟨A', rfl, hJ, FC_of hN1 hN hO⟩, by rw [nI_clamp (show k < 2 ^ 31 by omega)]⟩
      · refine V.brT omX7_fraction rfl rfl (Int32.not_lt.mp h2) (fun g => Int32.not_lt.mpr g) ?_
        exact bad (fun g => h2 g.2)
    · refine V.brT omX7_fraction rfl rfl (Int32.not_le.mp h0) (fun g => Int32.not_le.mpr g) ?_
      exact bad (fun g => h0 g.1)
set_option maxHeartbeats 4000000 in
set_option maxRecDepth 100000 in
theorem c7_besideY (d : Nat) {F N k : Nat} (down : Int32) (hN1 : 1 ≤ N) (hN : N ≤ 30) (hf : ofF (nI F) (nI N) = 1) (hF : F < 10000) (hc : FC A) (hk : plc (rowD N) F k) : C mX7_beside (d + 3) 0 0 [.ref 0, .int (nI F), .int (nI N), .int down] (hp A B) (fun r' h' => (∃ A', h' = hp A' B ∧ JF A A' ∧ FC A') ∧ r' = some (.int (besV (rowD N) k down))) := by
  refine C.of [some (.ref 0), some (.int (nI F)), some (.int (nI N)), some (.int down), none] omX7_beside rfl rfl rfl ?_
  iterate 2 (refine V.s omX7_beside rfl rfl ?_)
  refine V.cSf omX7_beside omX7_isInRow rfl rfl (c7_isInRow d _ _ _) rfl rfl rfl rfl ?_
  have e : irF (nI F) (nI N) = 1 := by unfold irF; rw [if_pos ⟨orN hN1 hN, hf⟩]
  rw [e]
  refine V.brT omX7_beside rfl rfl (by decide) (by decide) ?_
  refine V.s omX7_beside rfl rfl ?_
  refine V.gf omX7_beside rfl rfl rfl rfl ?_
  refine V.s omX7_beside rfl rfl ?_
  refine V.cV omX7_beside omX0_fill (c_fill (d + 1) hN1 hN hc) rfl rfl rfl rfl rfl rfl rfl rfl (by omega) (by omega) (fun r' h' hQ => ?_)
  obtain ⟨⟨A', rfl, hJ, hO⟩, rfl⟩ := hQ
  show V mX7_beside (d + 3) 0 0 _ 0 0 23 _ [] _
  have hl := rowD_len hN
  refine V.s omX7_beside rfl rfl ?_
  refine V.gf omX7_beside rfl rfl rfl rfl ?_
  refine V.s omX7_beside rfl rfl ?_
  refine V.cVf omX7_beside omX0_placeOf rfl rfl (c_placeOf _ hN hF hO hk) rfl rfl rfl rfl rfl rfl ?_
  have fin : ∀ v4, V mX7_beside (d + 3) 0 0 (fun r' h' => (∃ A', h' = hp A' B ∧ JF A A' ∧ FC A') ∧ r' = some (.int (besV (rowD N) k down))) 0 0 41 [some (.ref 0), some (.int (nI F)), some (.int (nI N)), some (.int down), v4] [.int (bsI k down)] (hp A' B) := by
    intro v4
    have hiff := bsI_ix (down := down) (rowD N).length (by omega) hk.1
    unfold besV
    have bad : ¬ (0 ≤ bsI k down ∧ bsI k down < nI (rowD N).length) → V mX7_beside (d + 3) 0 0 (fun r' h' => (∃ A', h' = hp A' B ∧ JF A A' ∧ FC A') ∧ r' = some (.int (if 0 ≤ bsI k down ∧ bsI k down < nI (rowD N).length then nI (atD (rowD N) (bsN k down)) else -1))) 0 0 73 [some (.ref 0), some (.int (nI F)), some (.int (nI N)), some (.int down), some (.int (bsI k down))] [] (hp A' B) := by
      intro hz
      refine V.s omX7_beside rfl rfl ?_
      exact V.iret omX7_beside rfl rfl ⟨⟨A', rfl, hJ, FC_of hN1 hN hO⟩, by rw [if_neg hz]⟩
    iterate 2 (refine V.s omX7_beside rfl rfl ?_)
    by_cases h0 : 0 ≤ bsI k down
    · refine V.brF omX7_beside rfl rfl (Int32.not_lt.mpr h0) ?_
      iterate 2 (refine V.s omX7_beside rfl rfl ?_)
      refine V.gf omX7_beside rfl rfl rfl rfl ?_
      refine V.gf omX7_beside rfl rfl rfl rfl ?_
      rw [hO.2.2]
      by_cases h2 : bsI k down < nI (rowD N).length
      · refine V.brF omX7_beside rfl rfl (Int32.not_le.mpr h2) ?_
        have h1 := hiff.mp ⟨h0, h2⟩
        have h3 : bsN k down < (rowD N).length := by
          have := hk.1
          unfold bsN
          split
          · next hd => rw [if_pos hd] at h1; omega
          · omega
        rw [if_pos (And.intro h0 h2), bsI_N h1]
        refine V.s omX7_beside rfl rfl ?_
        refine V.gf omX7_beside rfl rfl rfl rfl ?_
        refine V.gf omX7_beside rfl rfl rfl rfl ?_
        refine V.s omX7_beside rfl rfl ?_
        refine V.ial omX7_beside rfl rfl (ixN nv_nI (show bsN k down < 279 by omega) (by decide)) ?_
        rw [AD_at hO.2.1 _ h3]
        refine V.s omX7_beside rfl rfl ?_
        exact V.iret omX7_beside rfl rfl ⟨⟨A', rfl, hJ, FC_of hN1 hN hO⟩, rfl⟩
      · refine V.brT omX7_beside rfl rfl (Int32.not_lt.mp h2) (fun g => Int32.not_lt.mpr g) ?_
        exact bad (fun g => h2 g.2)
    · refine V.brT omX7_beside rfl rfl (Int32.not_le.mp h0) (fun g => Int32.not_le.mpr g) ?_
      exact bad (fun g => h0 g.1)
  refine V.s omX7_beside rfl rfl ?_
  by_cases hd : down = 0
  · refine V.brT omX7_beside rfl rfl hd (fun h g => g h) ?_
    iterate 2 (refine V.s omX7_beside rfl rfl ?_)
    have e : bsI k down = nI k + 1 := by unfold bsI; rw [if_pos hd]
    have f1 := fin none
    rw [e] at f1
    exact f1
  · refine V.brF omX7_beside rfl rfl hd ?_
    iterate 3 (refine V.s omX7_beside rfl rfl ?_)
    have e : bsI k down = nI k + (-1) := by unfold bsI; rw [if_neg hd]
    have f1 := fin none
    rw [e] at f1
    exact f1
set_option maxHeartbeats 4000000 in
set_option maxRecDepth 100000 in
theorem c7_besideN (d : Nat) (f n down : Int32) (h : ¬ inR f n) : C mX7_beside (d + 3) 0 0 [.ref 0, .int f, .int n, .int down] (hp A B) (fun r' h' => h' = hp (rfA A 7) B ∧ r' = some (.int (-7))) := by
  refine C.of [some (.ref 0), some (.int f), some (.int n), some (.int down), none] omX7_beside rfl rfl rfl ?_
  iterate 2 (refine V.s omX7_beside rfl rfl ?_)
  refine V.cSf omX7_beside omX7_isInRow rfl rfl (c7_isInRow d _ _ _) rfl rfl rfl rfl ?_
  have e : irF f n = 0 := by unfold irF; rw [if_neg (show ¬ (orF n = 1 ∧ ofF f n = 1) from h)]
  rw [e]
  refine V.brF omX7_beside rfl rfl (by decide) ?_
  iterate 2 (refine V.s omX7_beside rfl rfl ?_)
  refine V.cVf omX7_beside omX7_refuse rfl rfl (c_refuse _ _ (by decide)) rfl rfl rfl rfl rfl rfl ?_
  exact V.iret omX7_beside rfl rfl ⟨rfl, rfl⟩
end FRD
end
section
section TRL
variable {A : Nat → Nat → Int32} {B : Nat → Nat → Int64} {X H U Y : Nat → Int32}
theorem cJ_max (d : Nat) (a b : Int32) (h : hp_T) : C mJ9_max d 0 0 [.int a, .int b] h (fun r h' => h' = h ∧ r = some (.int (if a < b then b else a))) := by
  refine C.of [some (.int a), some (.int b)] omJ9_max rfl rfl rfl ?_
  iterate 2 (refine V.s omJ9_max rfl rfl ?_)
  by_cases h1 : a < b
  · refine V.brT omJ9_max rfl rfl h1 (fun g => Int32.not_le.mpr g) ?_
    refine V.s omJ9_max rfl rfl ?_
    exact V.iret omJ9_max rfl rfl ⟨rfl, by rw [if_pos h1]⟩
  · refine V.brF omJ9_max rfl rfl h1 ?_
    iterate 2 (refine V.s omJ9_max rfl rfl ?_)
    exact V.iret omJ9_max rfl rfl ⟨rfl, by rw [if_neg h1]⟩
def zp (m : Nat) (Z : Nat → Int32) : Nat → Int32 := fun k => if k < m then 0 else Z k
theorem zp_s (m : Nat) (Z : Nat → Int32) : upd (zp m Z) m 0 = zp (m + 1) Z := by
  funext k
  unfold upd zp
  by_cases h1 : k = m
  · subst h1; simp
  · rw [if_neg h1]
    by_cases h2 : k < m
    · rw [if_pos h2, if_pos (show k < m + 1 by omega)]
    · rw [if_neg h2, if_neg (show ¬ k < m + 1 by omega)]
set_option maxHeartbeats 4000000 in
set_option maxRecDepth 100000 in
theorem cJ_fill (d : Nat) : C mJ7_fill d 0 0 [.ref 28, .int 0] (hp A B) (fun r h' => h' = hp (va_up A 28 (zp 961 (A 28))) B ∧ r = none) := by
  refine C.of [some (.ref 28), some (.int 0), none, none] omJ7_fill rfl rfl rfl ?_
  iterate 3 (refine V.s omJ7_fill rfl rfl ?_)
  refine V.alen omJ7_fill rfl rfl ?_
  refine V.s omJ7_fill rfl rfl ?_
  have key : ∀ (t i : Nat), i + t = 961 → V mJ7_fill d 0 0 (fun r h' => h' = hp (va_up A 28 (zp 961 (A 28))) B ∧ r = none) 0 0 5 [some (.ref 28), some (.int 0), some (.int (nI i)), some (.int (nI 961))] [] (hp (va_up A 28 (zp i (A 28))) B) := by
    intro t
    induction t with
    | zero =>
      intro i hi
      have : i = 961 := by omega
      subst this
      iterate 2 (refine V.s omJ7_fill rfl rfl ?_)
      refine V.brT omJ7_fill rfl rfl (by decide) (by decide) ?_
      exact V.vret omJ7_fill rfl rfl ⟨rfl, rfl⟩
    | succ t ih =>
      intro i hi
      iterate 2 (refine V.s omJ7_fill rfl rfl ?_)
      refine V.brF omJ7_fill rfl rfl (nI_ge (show i < 961 by omega) (by decide)) ?_
      iterate 3 (refine V.s omJ7_fill rfl rfl ?_)
      refine V.iasH omJ7_fill rfl rfl (ixN nv_nI (show i < 961 by omega) (by decide)) ?_
      rw [bx_uu, va_up_self, zp_s]
      iterate 2 (refine V.s omJ7_fill rfl rfl ?_)
      rw [nI_1]
      exact ih (i + 1) (by omega)
  have k0 := key 961 0 (by omega)
  have e : zp 0 (A 28) = A 28 := by
    funext k
    unfold zp
    rw [if_neg (by omega)]
  rw [e, va_self] at k0
  exact k0
def kyN (F : Nat) : Nat := 31 * (F / 100) + F % 100
theorem c_key (d : Nat) {F : Nat} (hF : F < 2 ^ 31) (h : hp_T) : C mX6_key d 0 0 [.int (nI F)] h (fun r h' => h' = h ∧ r = some (.int (nI (kyN F)))) := by
  refine C.of [some (.int (nI F))] omX6_key rfl rfl rfl ?_
  iterate 3 (refine V.s omX6_key rfl rfl ?_)
  refine V.idiv omX6_key rfl (by decide) ?_
  rw [div100 hF]
  iterate 3 (refine V.s omX6_key rfl rfl ?_)
  refine V.irem omX6_key rfl (by decide) ?_
  rw [rem100 hF, show (31 : Int32) = nI 31 from rfl, pk_mul]
  refine V.s omX6_key rfl rfl ?_
  rw [nI_add]
  exact V.iret omX6_key rfl rfl ⟨rfl, rfl⟩
abbrev okF (N x : Nat) : Prop := 1 ≤ x % 100 ∧ x / 100 ≤ x % 100 ∧ x % 100 ≤ N
theorem okF_ky {N x : Nat} (h : okF N x) (hN : N ≤ 30) : kyN x < 961 ∧ x < 10000 := by
  unfold kyN
  obtain ⟨h1, h2, h3⟩ := h
  omega
abbrev TS := (Nat → Int32) × List Nat
def fd (S : TS) (x : Nat) (c : Int32) : TS := if S.1 (kyN x) = 0 ∧ S.2.length < 279 then (upd S.1 (kyN x) c, x :: S.2) else S
abbrev hT (A : Nat → Nat → Int32) (B : Nat → Nat → Int64) (X U Y H : Nat → Int32) (n : Nat) : hp_T := hp (va_up (va_up (va_up (va_up A 30 Y) 29 U) 28 H) 27 (upd X 3 (nI n))) B
theorem tA28 {Z : Nat → Int32} : va_up (va_up (va_up (va_up A 30 Y) 29 U) 28 H) 27 Z 28 = H := rfl
theorem tA29 {Z : Nat → Int32} : va_up (va_up (va_up (va_up A 30 Y) 29 U) 28 H) 27 Z 29 = U := rfl
theorem tA30 {Z : Nat → Int32} : va_up (va_up (va_up (va_up A 30 Y) 29 U) 28 H) 27 Z 30 = Y := rfl
theorem tA28u {Z H2 : Nat → Int32} : va_up (va_up (va_up (va_up (va_up A 30 Y) 29 U) 28 H) 27 Z) 28 H2 = va_up (va_up (va_up (va_up A 30 Y) 29 U) 28 H2) 27 Z := by rw [va_cm _ (show (27 : Nat) ≠ 28 by decide), bx_uu]
theorem tA29u {Z U2 : Nat → Int32} : va_up (va_up (va_up (va_up (va_up A 30 Y) 29 U) 28 H) 27 Z) 29 U2 = va_up (va_up (va_up (va_up A 30 Y) 29 U2) 28 H) 27 Z := by rw [va_cm _ (show (27 : Nat) ≠ 29 by decide), va_cm _ (show (28 : Nat) ≠ 29 by decide), bx_uu]
theorem tA30u {Z Y2 : Nat → Int32} : va_up (va_up (va_up (va_up (va_up A 30 Y) 29 U) 28 H) 27 Z) 30 Y2 = va_up (va_up (va_up (va_up A 30 Y2) 29 U) 28 H) 27 Z := by rw [va_cm _ (show (27 : Nat) ≠ 30 by decide), va_cm _ (show (28 : Nat) ≠ 30 by decide), va_cm _ (show (29 : Nat) ≠ 30 by decide), bx_uu]
def okL (N : Nat) (l : List Nat) : Prop := ∀ x, x ∈ l → okF N x
/-- the heap holds the state S of the search -/
def hTS (A : Nat → Nat → Int32) (B : Nat → Nat → Int64) (X Y : Nat → Int32) (N : Nat) (S : TS) (h : hp_T) : Prop := ∃ U, AD U S.2 ∧ S.2.length ≤ 279 ∧ okL N S.2 ∧ h = hT A B X U Y S.1 S.2.length
set_option maxHeartbeats 4000000 in
set_option maxRecDepth 100000 in
theorem c_find (d : Nat) {N x : Nat} (hx : okF N x) (hN : N ≤ 30) (c : Int32) (S : TS) {h : hp_T} (hS : hTS A B X Y N S h) : C mX6_find (d + 1) 0 0 [.ref 27, .int (nI x), .int c] h (fun r h' => hTS A B X Y N (fd S x c) h' ∧ r = none) := by
  obtain ⟨U, hA, hl, hok, rfl⟩ := hS
  obtain ⟨hk, hx4⟩ := okF_ky hx hN
  refine C.of [some (.ref 27), some (.int (nI x)), some (.int c)] omX6_find rfl rfl rfl ?_
  refine V.s omX6_find rfl rfl ?_
  refine V.gf omX6_find rfl rfl rfl rfl ?_
  refine V.s omX6_find rfl rfl ?_
  refine V.cSf omX6_find omX6_key rfl rfl (c_key _ (show x < 2 ^ 31 by omega) _) rfl rfl rfl rfl ?_
  refine V.ial omX6_find rfl rfl (ixN nv_nI hk (by decide)) ?_
  rw [tA28]
  by_cases h1 : S.1 (kyN x) = 0
  · refine V.brF omX6_find rfl rfl (fun g => g h1) ?_
    refine V.s omX6_find rfl rfl ?_
    refine V.gf omX6_find rfl rfl rfl rfl ?_
    rw [va_up_self, pk_us]
    refine V.s omX6_find rfl rfl ?_
    by_cases h2 : S.2.length < 279
    · refine V.brF omX6_find rfl rfl (nI_ge (b := 279) h2 (by decide)) ?_
      refine V.s omX6_find rfl rfl ?_
      refine V.gf omX6_find rfl rfl rfl rfl ?_
      refine V.s omX6_find rfl rfl ?_
      refine V.cSf omX6_find omX6_key rfl rfl (c_key _ (show x < 2 ^ 31 by omega) _) rfl rfl rfl rfl ?_
      refine V.s omX6_find rfl rfl ?_
      refine V.iasH omX6_find rfl rfl (ixN nv_nI hk (by decide)) ?_
      rw [tA28, tA28u]
      refine V.s omX6_find rfl rfl ?_
      refine V.gf omX6_find rfl rfl rfl rfl ?_
      refine V.s omX6_find rfl rfl ?_
      refine V.gf omX6_find rfl rfl rfl rfl ?_
      rw [va_up_self, pk_us]
      refine V.s omX6_find rfl rfl ?_
      refine V.iasH omX6_find rfl rfl (ixN nv_nI h2 (by decide)) ?_
      rw [tA29, tA29u]
      iterate 2 (refine V.s omX6_find rfl rfl ?_)
      refine V.gf omX6_find rfl rfl rfl rfl ?_
      rw [va_up_self, pk_us]
      iterate 2 (refine V.s omX6_find rfl rfl ?_)
      rw [nI_1]
      refine V.pfH omX6_find rfl rfl rfl rfl rfl rfl rfl ?_
      rw [bx_uu, va_up_self, upd_uu]
      refine V.vret omX6_find rfl rfl ⟨?_, rfl⟩
      have e : fd S x c = (upd S.1 (kyN x) c, x :: S.2) := by unfold fd; rw [if_pos ⟨h1, h2⟩]
      rw [e]
      refine ⟨upd U S.2.length (nI x), ⟨hx4, pk_us, AD_ext hA (fun k hk => pk_un (by omega))⟩, by simp only [List.length_cons]; omega, ?_, rfl⟩
      intro y hy
      rcases List.mem_cons.mp hy with g | g
      · subst g; exact hx
      · exact hok y g
    · refine V.brT omX6_find rfl rfl (nI_le (a := 279) (by omega) (by omega)) (fun g => Int32.not_lt.mpr g) ?_
      refine V.vret omX6_find rfl rfl ⟨?_, rfl⟩
      have e : fd S x c = S := by unfold fd; rw [if_neg (fun g => h2 g.2)]
      rw [e]
      exact ⟨U, hA, hl, hok, rfl⟩
  · refine V.brT omX6_find rfl rfl h1 (fun g => g) ?_
    refine V.vret omX6_find rfl rfl ⟨?_, rfl⟩
    have e : fd S x c = S := by unfold fd; rw [if_neg (fun g => h1 g.1)]
    rw [e]
    exact ⟨U, hA, hl, hok, rfl⟩
def cq (D b low : Nat) : List Nat := if D % b = 0 ∧ D / b ≤ low then [100 * (D / b) + low] else []
theorem hTS_27 {N : Nat} {S : TS} {h : hp_T} (hS : hTS A B X Y N S h) : ∃ fs, h[27]? = some (.inr (4, fs)) := by
  obtain ⟨U, -, -, -, rfl⟩ := hS
  exact ⟨_, rfl⟩
set_option maxHeartbeats 4000000 in
set_option maxRecDepth 100000 in
theorem c_fqY (d : Nat) {N D b low : Nat} (hD : D < 2 ^ 31) (hb1 : 1 ≤ b) (hb : b < 2 ^ 31) (hlow1 : 1 ≤ low) (hlow : low ≤ N) (hN : N ≤ 30) (c : Int32) (S : TS) {h : hp_T} (hS : hTS A B X Y N S h) : C mX6_findQuotient (d + 2) 0 0 [.ref 27, .int (nI D), .int (nI b), .int (nI low), .int c] h (fun r h' => hTS A B X Y N ((cq D b low).foldl (fun S x => fd S x c) S) h' ∧ r = none) := by
  refine C.of [some (.ref 27), some (.int (nI D)), some (.int (nI b)), some (.int (nI low)), some (.int c), none] omX6_findQuotient rfl rfl rfl ?_
  obtain ⟨fs, hq⟩ := hTS_27 hS
  unfold cq
  refine V.s omX6_findQuotient rfl rfl ?_
  refine V.brF omX6_findQuotient rfl rfl (nI_pos hD) ?_
  refine V.s omX6_findQuotient rfl rfl ?_
  refine V.brF omX6_findQuotient rfl rfl (nI_nle hb1 hb) ?_
  iterate 2 (refine V.s omX6_findQuotient rfl rfl ?_)
  refine V.irem omX6_findQuotient rfl (nI_ne0 hb1 hb) ?_
  rw [pk_rem hD hb1 hb]
  have hm : D % b < b := Nat.mod_lt _ (by omega)
  by_cases h1 : D % b = 0
  · rw [h1]
    refine V.brT omX6_findQuotient rfl rfl rfl (by decide) ?_
    iterate 2 (refine V.s omX6_findQuotient rfl rfl ?_)
    refine V.idiv omX6_findQuotient rfl (nI_ne0 hb1 hb) ?_
    rw [pk_div hD hb1 hb]
    have hdd : D / b ≤ D := Nat.div_le_self D b
    iterate 3 (refine V.s omX6_findQuotient rfl rfl ?_)
    by_cases h2 : D / b ≤ low
    · refine V.brF omX6_findQuotient rfl rfl (nI_nlt h2 (by omega)) ?_
      rw [if_pos ⟨rfl, h2⟩]
      iterate 3 (refine V.s omX6_findQuotient rfl rfl ?_)
      refine V.cSf omX6_findQuotient omX1_told rfl rfl (c_told _ _ _ _) rfl rfl rfl rfl ?_
      refine V.s omX6_findQuotient rfl rfl ?_
      have hx : okF N (100 * (D / b) + low) := by omega
      refine V.cV omX6_findQuotient omX6_find (c_find d hx hN c S hS) rfl rfl rfl rfl hq rfl rfl rfl (by omega) (by omega) (fun r' h' hQ => ?_)
      obtain ⟨hS', rfl⟩ := hQ
      show V mX6_findQuotient (d + 2) 0 0 _ 0 0 38 _ [] _
      exact V.vret omX6_findQuotient rfl rfl ⟨hS', rfl⟩
    · refine V.brT omX6_findQuotient rfl rfl (nI_lt (by omega) (by omega)) (fun g => Int32.not_le.mpr g) ?_
      rw [if_neg (fun g => h2 g.2)]
      exact V.vret omX6_findQuotient rfl rfl ⟨hS, rfl⟩
  · refine V.brF omX6_findQuotient rfl rfl (nI_ne0 (by omega) (by omega)) ?_
    rw [if_neg (fun g => h1 g.1)]
    exact V.vret omX6_findQuotient rfl rfl ⟨hS, rfl⟩
set_option maxHeartbeats 4000000 in
set_option maxRecDepth 100000 in
theorem c_fqN (d : Nat) {D b low c : Int32} (hD : D < 0) (h : hp_T) : C mX6_findQuotient (d + 2) 0 0 [.ref 27, .int D, .int b, .int low, .int c] h (fun r h' => h' = h ∧ r = none) := by
  refine C.of [some (.ref 27), some (.int D), some (.int b), some (.int low), some (.int c), none] omX6_findQuotient rfl rfl rfl ?_
  refine V.s omX6_findQuotient rfl rfl ?_
  refine V.brT omX6_findQuotient rfl rfl hD (fun g => Int32.not_le.mpr g) ?_
  exact V.vret omX6_findQuotient rfl rfl ⟨rfl, rfl⟩
def cm1 (p b low : Nat) : List Nat := if p * low = 0 then [] else cq (p * low - 1) b low
def cand (p b : Nat) : Nat → Nat → List Nat
  | 0, _ => []
  | t + 1, low => cm1 p b low ++ (cq (p * low + 1) b low ++ cand p b t (low + 1))
def fa (N : Nat) (S : TS) (G : Nat) : TS := (cand (G / 100) (G % 100) N 1).foldl (fun S' x => fd S' x (S.1 (kyN G) + 1)) S
set_option maxHeartbeats 4000000 in
set_option maxRecDepth 100000 in
theorem an_21 (d : Nat) {N G : Nat} (hG : okF N G) (hN : N ≤ 30) (c : Int32) {Q : Option Value → hp_T → Prop} : ∀ (t low : Nat) (S : TS) (h : hp_T) (v6 : Option Value), low + t = N + 1 → 1 ≤ low → hTS A B X Y N S h → (∀ h', hTS A B X Y N ((cand (G / 100) (G % 100) t low).foldl (fun S' x => fd S' x c) S) h' → Q none h') → V mX6_findAllNear (d + 3) 0 0 Q 0 0 21 [some (.ref 27), some (.int (nI G)), some (.int (nI N)), some (.int c), some (.int (nI (G % 100))), some (.int (nI low)), v6] [] h := by
  intro t
  induction t with
  | zero =>
    intro low S h v6 hl h1 hS kk
    have : low = N + 1 := by omega
    subst this
    iterate 2 (refine V.s omX6_findAllNear rfl rfl ?_)
    refine V.brT omX6_findAllNear rfl rfl (nI_lt (by omega) (by omega)) (fun g => Int32.not_le.mpr g) ?_
    exact V.vret omX6_findAllNear rfl rfl (kk h hS)
  | succ t ih =>
    intro low S h v6 hl h1 hS kk
    obtain ⟨g1, g2, g3⟩ := hG
    obtain ⟨fs, hq⟩ := hTS_27 hS
    have hmul : G / 100 * low ≤ 30 * 30 := Nat.mul_le_mul (by omega) (by omega)
    iterate 2 (refine V.s omX6_findAllNear rfl rfl ?_)
    refine V.brF omX6_findAllNear rfl rfl (nI_nlt (by omega) (by omega)) ?_
    refine V.s omX6_findAllNear rfl rfl ?_
    refine V.cSf omX6_findAllNear omX1_top rfl rfl (c_top _ (show G < 2 ^ 31 by omega) _) rfl rfl rfl rfl ?_
    iterate 2 (refine V.s omX6_findAllNear rfl rfl ?_)
    rw [pk_mul]
    refine V.s omX6_findAllNear rfl rfl ?_
    iterate 4 (refine V.s omX6_findAllNear rfl rfl ?_)
    iterate 3 (refine V.s omX6_findAllNear rfl rfl ?_)
    have rest : ∀ h', hTS A B X Y N ((cm1 (G / 100) (G % 100) low).foldl (fun S' x => fd S' x c) S) h' → V mX6_findAllNear (d + 3) 0 0 Q 0 0 49 [some (.ref 27), some (.int (nI G)), some (.int (nI N)), some (.int c), some (.int (nI (G % 100))), some (.int (nI low)), some (.int (nI (G / 100 * low)))] [] h' := by
      intro h' hS'
      obtain ⟨fs', hq'⟩ := hTS_27 hS'
      iterate 4 (refine V.s omX6_findAllNear rfl rfl ?_)
      rw [nI_1]
      iterate 3 (refine V.s omX6_findAllNear rfl rfl ?_)
      refine V.cV omX6_findAllNear omX6_findQuotient (c_fqY d (show G / 100 * low + 1 < 2 ^ 31 by omega) g1 (by omega) h1 (show low ≤ N by omega) hN c _ hS') rfl rfl rfl rfl hq' rfl rfl rfl (by omega) (by omega) (fun r2 h2 hQ => ?_)
      obtain ⟨hS2, rfl⟩ := hQ
      show V mX6_findAllNear (d + 3) 0 0 _ 0 0 62 _ [] _
      iterate 2 (refine V.s omX6_findAllNear rfl rfl ?_)
      rw [nI_1]
      refine ih (low + 1) _ h2 _ (by omega) (by omega) hS2 (fun h3 hS3 => kk h3 ?_)
      simp only [cand, List.foldl_append]
      exact hS3
    by_cases hz : G / 100 * low = 0
    · have e : cm1 (G / 100) (G % 100) low = [] := by unfold cm1; rw [if_pos hz]
      rw [e] at rest
      rw [hz]
      rw [hz] at rest
      refine V.cV omX6_findAllNear omX6_findQuotient (c_fqN d (show nI 0 - 1 < 0 by decide) h) rfl rfl rfl rfl hq rfl rfl rfl (by omega) (by omega) (fun r2 h2 hQ => ?_)
      obtain ⟨rfl, rfl⟩ := hQ
      show V mX6_findAllNear (d + 3) 0 0 _ 0 0 49 _ [] _
      exact rest _ hS
    · have e : cm1 (G / 100) (G % 100) low = cq (G / 100 * low - 1) (G % 100) low := by unfold cm1; rw [if_neg hz]
      rw [e] at rest
      have e2 : nI (G / 100 * low) - 1 = nI (G / 100 * low - 1) := pk_sub (b := 1) (by omega)
      rw [e2]
      refine V.cV omX6_findAllNear omX6_findQuotient (c_fqY d (show G / 100 * low - 1 < 2 ^ 31 by omega) g1 (by omega) h1 (show low ≤ N by omega) hN c _ hS) rfl rfl rfl rfl hq rfl rfl rfl (by omega) (by omega) (fun r2 h2 hQ => ?_)
      obtain ⟨hS2, rfl⟩ := hQ
      show V mX6_findAllNear (d + 3) 0 0 _ 0 0 49 _ [] _
      exact rest _ hS2
set_option maxHeartbeats 4000000 in
set_option maxRecDepth 100000 in
theorem c_allNear (d : Nat) {N G : Nat} (hG : okF N G) (hN : N ≤ 30) (S : TS) {h : hp_T} (hS : hTS A B X Y N S h) : C mX6_findAllNear (d + 3) 0 0 [.ref 27, .int (nI G), .int (nI N)] h (fun r h' => hTS A B X Y N (fa N S G) h' ∧ r = none) := by
  refine C.of [some (.ref 27), some (.int (nI G)), some (.int (nI N)), none, none, none, none] omX6_findAllNear rfl rfl rfl ?_
  have hS0 := hS
  obtain ⟨U, hA, hl, hok, rfl⟩ := hS
  obtain ⟨hk, hx4⟩ := okF_ky hG hN
  refine V.s omX6_findAllNear rfl rfl ?_
  refine V.gf omX6_findAllNear rfl rfl rfl rfl ?_
  refine V.s omX6_findAllNear rfl rfl ?_
  refine V.cSf omX6_findAllNear omX6_key rfl rfl (c_key _ (show G < 2 ^ 31 by omega) _) rfl rfl rfl rfl ?_
  refine V.ial omX6_findAllNear rfl rfl (ixN nv_nI hk (by decide)) ?_
  rw [tA28]
  iterate 4 (refine V.s omX6_findAllNear rfl rfl ?_)
  refine V.cSf omX6_findAllNear omX1_bottom rfl rfl (c_bottom _ (show G < 2 ^ 31 by omega) _) rfl rfl rfl rfl ?_
  iterate 3 (refine V.s omX6_findAllNear rfl rfl ?_)
  exact an_21 d hG hN (S.1 (kyN G) + 1) N 1 S _ none (by omega) (by decide) hS0 (fun h' hS' => ⟨hS', rfl⟩)
def sl (N F : Nat) : Nat → Nat → TS → Option TS
  | 0, _, _ => none
  | n + 1, i, S => if i < S.2.length ∧ S.1 (kyN F) = 0 then sl N F n (i + 1) (fa N S (atD S.2 i)) else some S
theorem atD_mem : ∀ (l : List Nat) (k : Nat), k < l.length → atD l k ∈ l := by
  intro l k hk
  unfold atD
  rw [List.getD_eq_getElem?_getD, List.getElem?_eq_getElem (show l.length - 1 - k < l.length by omega)]
  exact List.getElem_mem _
set_option maxHeartbeats 4000000 in
set_option maxRecDepth 100000 in
theorem sp_22 (d : Nat) {N F : Nat} (G : Int32) (hF : okF N F) (hN : N ≤ 30) {S' : TS} {Q : Option Value → hp_T → Prop} (kk : ∀ h', hTS A B X Y N S' h' → Q none h') : ∀ (t i : Nat) (S : TS) (h : hp_T), i + t < 2 ^ 31 → hTS A B X Y N S h → sl N F t i S = some S' → V mX6_spread (d + 4) 0 0 Q 0 0 22 [some (.ref 27), some (.int (nI N)), some (.int G), some (.int (nI F)), some (.int (nI i))] [] h := by
  obtain ⟨hk, hx4⟩ := okF_ky hF hN
  intro t
  induction t with
  | zero => intro i S h _ _ e; cases e
  | succ t ih =>
    intro i S h hi hS e
    have hS0 := hS
    obtain ⟨U, hA, hl, hok, rfl⟩ := hS
    simp only [sl] at e
    iterate 2 (refine V.s omX6_spread rfl rfl ?_)
    refine V.gf omX6_spread rfl rfl rfl rfl ?_
    rw [va_up_self, pk_us]
    by_cases h1 : i < S.2.length
    · refine V.brF omX6_spread rfl rfl (nI_ge h1 (by omega)) ?_
      refine V.s omX6_spread rfl rfl ?_
      refine V.gf omX6_spread rfl rfl rfl rfl ?_
      refine V.s omX6_spread rfl rfl ?_
      refine V.cSf omX6_spread omX6_key rfl rfl (c_key _ (show F < 2 ^ 31 by omega) _) rfl rfl rfl rfl ?_
      refine V.ial omX6_spread rfl rfl (ixN nv_nI hk (by decide)) ?_
      rw [tA28]
      by_cases h2 : S.1 (kyN F) = 0
      · refine V.brF omX6_spread rfl rfl (fun g => g h2) ?_
        rw [if_pos ⟨h1, h2⟩] at e
        iterate 2 (refine V.s omX6_spread rfl rfl ?_)
        refine V.gf omX6_spread rfl rfl rfl rfl ?_
        refine V.s omX6_spread rfl rfl ?_
        refine V.ial omX6_spread rfl rfl (ixN nv_nI (show i < 279 by omega) (by decide)) ?_
        rw [tA29, AD_at hA i h1]
        refine V.s omX6_spread rfl rfl ?_
        refine V.cV omX6_spread omX6_findAllNear (c_allNear d (hok _ (atD_mem _ _ h1)) hN S hS0) rfl rfl rfl rfl rfl rfl rfl rfl (by omega) (by omega) (fun r2 h2 hQ => ?_)
        obtain ⟨hS2, rfl⟩ := hQ
        show V mX6_spread (d + 4) 0 0 _ 0 0 55 _ [] _
        iterate 2 (refine V.s omX6_spread rfl rfl ?_)
        rw [nI_1]
        exact ih (i + 1) _ _ (by omega) hS2 e
      · refine V.brT omX6_spread rfl rfl h2 (fun g => g) ?_
        rw [if_neg (fun g => h2 g.2)] at e
        cases e
        exact V.vret omX6_spread rfl rfl (kk _ hS0)
    · refine V.brT omX6_spread rfl rfl (nI_le (by omega) (by omega)) (fun g => Int32.not_lt.mpr g) ?_
      rw [if_neg (fun g => h1 g.1)] at e
      cases e
      exact V.vret omX6_spread rfl rfl (kk _ hS0)
def S0 (G : Nat) (Z : Nat → Int32) : TS := fd (zp 961 Z, []) G 1
set_option maxHeartbeats 4000000 in
set_option maxRecDepth 100000 in
theorem c_spread (d : Nat) {N F G n : Nat} (hF : okF N F) (hG : okF N G) (hN : N ≤ 30) (hn : n < 2 ^ 31) {S' : TS} (hs : sl N F n 0 (S0 G (A 28)) = some S') : C mX6_spread (d + 4) 0 0 [.ref 27, .int (nI N), .int (nI G), .int (nI F)] (hp A B) (fun r h' => hTS A B (A 27) (A 30) N S' h' ∧ r = none) := by
  refine C.of [some (.ref 27), some (.int (nI N)), some (.int (nI G)), some (.int (nI F)), none] omX6_spread rfl rfl rfl ?_
  refine V.s omX6_spread rfl rfl ?_
  refine V.gf omX6_spread rfl rfl rfl rfl ?_
  refine V.s omX6_spread rfl rfl ?_
  refine V.cSv omX6_spread omJ7_fill rfl rfl (cJ_fill _) rfl rfl rfl rfl ?_
  iterate 2 (refine V.s omX6_spread rfl rfl ?_)
  refine V.pfH omX6_spread rfl rfl rfl rfl rfl rfl rfl ?_
  have hS : hTS A B (A 27) (A 30) N (zp 961 (A 28), []) (hp (va_up (va_up A 28 (zp 961 (A 28))) 27 (upd (va_up A 28 (zp 961 (A 28)) 27) 3 0)) B) := by
    refine ⟨A 29, trivial, Nat.zero_le 279, (fun x hx => absurd hx List.not_mem_nil), ?_⟩
    unfold hT
    rw [va_self A 30, va_self A 29]
    rfl
  iterate 3 (refine V.s omX6_spread rfl rfl ?_)
  refine V.cV omX6_spread omX6_find (c_find (d + 2) hG hN 1 _ hS) rfl rfl rfl rfl rfl rfl rfl rfl (by omega) (by omega) (fun r2 h2 hQ => ?_)
  obtain ⟨hS2, rfl⟩ := hQ
  show V mX6_spread (d + 4) 0 0 _ 0 0 19 _ [] _
  iterate 2 (refine V.s omX6_spread rfl rfl ?_)
  exact sp_22 d (nI G) hF hN (fun h' hS' => ⟨hS', rfl⟩) n 0 _ _ (by omega) hS2 hs
end TRL
end
section
section TRM
variable {A : Nat → Nat → Int32} {B : Nat → Nat → Int64} {Z H U Y : Nat → Int32}
set_option maxHeartbeats 4000000 in
set_option maxRecDepth 100000 in
theorem c_leastNear (d : Nat) {N F s : Nat} {dist : Int32} (hN : N ≤ 30) (hO : FO A N) (hF : F < 10000) (hrow : ∀ j, j < (rowD N).length → okF N (atD (rowD N) j)) (hs : s < (rowD N).length) (c1 : A 28 (kyN (atD (rowD N) s)) = dist) (c2 : nrP F (atD (rowD N) s)) (c3 : ∀ j, j < s → ¬ (A 28 (kyN (atD (rowD N) j)) = dist ∧ nrP F (atD (rowD N) j))) : C mX6_leastNear (d + 2) 0 0 [.ref 27, .ref 25, .int (nI F), .int dist] (hp A B) (fun r h' => h' = hp A B ∧ r = some (.int (nI (atD (rowD N) s)))) := by
  obtain ⟨f1, f2, f3⟩ := hO
  have hl := rowD_len hN
  generalize rowD N = l at *
  refine C.of [some (.ref 27), some (.ref 25), some (.int (nI F)), some (.int dist), none, none] omX6_leastNear rfl rfl rfl ?_
  iterate 2 (refine V.s omX6_leastNear rfl rfl ?_)
  have key : ∀ (t i : Nat) (v5 : Option Value), i + t = s → V mX6_leastNear (d + 2) 0 0 (fun r h' => h' = hp A B ∧ r = some (.int (nI (atD l s)))) 0 0 3 [some (.ref 27), some (.ref 25), some (.int (nI F)), some (.int dist), some (.int (nI i)), v5] [] (hp A B) := by
    intro t
    induction t with
    | zero =>
      intro i v5 hi
      have : i = s := by omega
      subst this
      obtain ⟨hk, hx4⟩ := okF_ky (hrow i hs) hN
      iterate 2 (refine V.s omX6_leastNear rfl rfl ?_)
      refine V.gf omX6_leastNear rfl rfl rfl rfl ?_
      rw [f3]
      refine V.brF omX6_leastNear rfl rfl (nI_ge hs (by omega)) ?_
      refine V.s omX6_leastNear rfl rfl ?_
      refine V.gf omX6_leastNear rfl rfl rfl rfl ?_
      refine V.s omX6_leastNear rfl rfl ?_
      refine V.ial omX6_leastNear rfl rfl (ixN nv_nI (show i < 279 by omega) (by decide)) ?_
      rw [AD_at f2 i hs]
      iterate 2 (refine V.s omX6_leastNear rfl rfl ?_)
      refine V.gf omX6_leastNear rfl rfl rfl rfl ?_
      refine V.s omX6_leastNear rfl rfl ?_
      refine V.cSf omX6_leastNear omX6_key rfl rfl (c_key _ (show atD l i < 2 ^ 31 by omega) _) rfl rfl rfl rfl ?_
      refine V.ial omX6_leastNear rfl rfl (ixN nv_nI hk (by decide)) ?_
      rw [c1]
      refine V.s omX6_leastNear rfl rfl ?_
      refine V.brF omX6_leastNear rfl rfl (fun g => g rfl) ?_
      iterate 2 (refine V.s omX6_leastNear rfl rfl ?_)
      refine V.cSf omX6_leastNear omX1_areNear rfl rfl (c_areNear d hF hx4 _) rfl rfl rfl rfl ?_
      rw [if_pos c2]
      refine V.brF omX6_leastNear rfl rfl (by decide) ?_
      refine V.s omX6_leastNear rfl rfl ?_
      exact V.iret omX6_leastNear rfl rfl ⟨rfl, rfl⟩
    | succ t ih =>
      intro i v5 hi
      obtain ⟨hk, hx4⟩ := okF_ky (hrow i (by omega)) hN
      have cc := c3 i (by omega)
      have nx : V mX6_leastNear (d + 2) 0 0 (fun r h' => h' = hp A B ∧ r = some (.int (nI (atD l s)))) 0 0 47 [some (.ref 27), some (.ref 25), some (.int (nI F)), some (.int dist), some (.int (nI i)), some (.int (nI (atD l i)))] [] (hp A B) := by
        iterate 2 (refine V.s omX6_leastNear rfl rfl ?_)
        rw [nI_1]
        exact ih (i + 1) _ (by omega)
      iterate 2 (refine V.s omX6_leastNear rfl rfl ?_)
      refine V.gf omX6_leastNear rfl rfl rfl rfl ?_
      rw [f3]
      refine V.brF omX6_leastNear rfl rfl (nI_ge (show i < l.length by omega) (by omega)) ?_
      refine V.s omX6_leastNear rfl rfl ?_
      refine V.gf omX6_leastNear rfl rfl rfl rfl ?_
      refine V.s omX6_leastNear rfl rfl ?_
      refine V.ial omX6_leastNear rfl rfl (ixN nv_nI (show i < 279 by omega) (by decide)) ?_
      rw [AD_at f2 i (by omega)]
      iterate 2 (refine V.s omX6_leastNear rfl rfl ?_)
      refine V.gf omX6_leastNear rfl rfl rfl rfl ?_
      refine V.s omX6_leastNear rfl rfl ?_
      refine V.cSf omX6_leastNear omX6_key rfl rfl (c_key _ (show atD l i < 2 ^ 31 by omega) _) rfl rfl rfl rfl ?_
      refine V.ial omX6_leastNear rfl rfl (ixN nv_nI hk (by decide)) ?_
      refine V.s omX6_leastNear rfl rfl ?_
      by_cases h1 : A 28 (kyN (atD l i)) = dist
      · refine V.brF omX6_leastNear rfl rfl (fun g => g h1) ?_
        iterate 2 (refine V.s omX6_leastNear rfl rfl ?_)
        refine V.cSf omX6_leastNear omX1_areNear rfl rfl (c_areNear d hF hx4 _) rfl rfl rfl rfl ?_
        rw [if_neg (fun g => cc ⟨h1, g⟩)]
        refine V.brT omX6_leastNear rfl rfl rfl (by decide) ?_
        exact nx
      · refine V.brT omX6_leastNear rfl rfl h1 (fun g => g) ?_
        exact nx
  exact key s 0 none (by omega)
abbrev hL (A : Nat → Nat → Int32) (B : Nat → Nat → Int64) (Z U Y H : Nat → Int32) : hp_T := hp (va_up (va_up (va_up (va_up A 30 Y) 29 U) 28 H) 27 Z) B
set_option maxHeartbeats 4000000 in
set_option maxRecDepth 100000 in
theorem ld_39 (d : Nat) {N L : Nat} {fr go : Int32} {s : Nat → Nat} (hN : N ≤ 30) (hO : FO A N) (hrow : ∀ j, j < (rowD N).length → okF N (atD (rowD N) j)) (h4 : Z 4 = nI L) (hLL : L < 279) (h0 : s 0 < (rowD N).length) (hs : isWay (atD (rowD N)) (rowD N).length L (fun c j => H (kyN (atD (rowD N) j)) = nI (c + 1)) s) {Q : Option Value → hp_T → Prop} (kk : ∀ Y', (∀ i, i ≤ L → Y' i = nI (atD (rowD N) (s i))) → Q none (hL A B Z U Y' H)) : ∀ (t i : Nat) (Y : Nat → Int32), i + t = L → (∀ j, j ≤ i → Y j = nI (atD (rowD N) (s j))) → V mX6_lead (d + 3) 0 0 Q 0 0 39 [some (.ref 27), some (.ref 25), some (.int fr), some (.int go), some (.int (nI (i + 1)))] [] (hL A B Z U Y H) := by
  have hsN : ∀ i, i ≤ L → s i < (rowD N).length := by
    intro i hi
    cases i with
    | zero => exact h0
    | succ i => exact (hs i (by omega)).1
  intro t
  induction t with
  | zero =>
    intro i Y hi hY
    have : i = L := by omega
    subst this
    iterate 2 (refine V.s omX6_lead rfl rfl ?_)
    refine V.gf omX6_lead rfl rfl rfl rfl ?_
    rw [va_up_self, h4]
    refine V.brT omX6_lead rfl rfl (nI_lt (by omega) (by omega)) (fun g => Int32.not_le.mpr g) ?_
    exact V.vret omX6_lead rfl rfl (kk Y hY)
  | succ t ih =>
    intro i Y hi hY
    iterate 2 (refine V.s omX6_lead rfl rfl ?_)
    refine V.gf omX6_lead rfl rfl rfl rfl ?_
    rw [va_up_self, h4]
    refine V.brF omX6_lead rfl rfl (nI_nlt (by omega) (by omega)) ?_
    refine V.s omX6_lead rfl rfl ?_
    refine V.gf omX6_lead rfl rfl rfl rfl ?_
    iterate 4 (refine V.s omX6_lead rfl rfl ?_)
    refine V.gf omX6_lead rfl rfl rfl rfl ?_
    iterate 3 (refine V.s omX6_lead rfl rfl ?_)
    rw [nI_pred]
    refine V.ial omX6_lead rfl rfl (ixN nv_nI (show i < 279 by omega) (by decide)) ?_
    rw [tA30, hY i (Nat.le_refl i)]
    refine V.s omX6_lead rfl rfl ?_
    refine V.gf omX6_lead rfl rfl rfl rfl ?_
    rw [va_up_self, h4]
    iterate 2 (refine V.s omX6_lead rfl rfl ?_)
    rw [pk_sub (show i + 1 ≤ L by omega)]
    iterate 2 (refine V.s omX6_lead rfl rfl ?_)
    rw [nI_1]
    obtain ⟨q1, q2, q3, q4⟩ := hs i (by omega)
    have hx := okF_ky (hrow _ (hsN i (by omega))) hN
    have cl := c_leastNear (A := va_up (va_up (va_up (va_up A 30 Y) 29 U) 28 H) 27 Z) (B := B) (d := d) (s := s (i + 1)) (dist := nI (L - (i + 1) + 1)) hN hO hx.2 hrow q1 q2 q3 q4
    refine V.cVf omX6_lead omX6_leastNear rfl rfl cl rfl rfl rfl rfl rfl rfl ?_
    refine V.iasH omX6_lead rfl rfl (ixN nv_nI (show i + 1 < 279 by omega) (by decide)) ?_
    rw [tA30, tA30u]
    iterate 2 (refine V.s omX6_lead rfl rfl ?_)
    rw [nI_1]
    refine ih (i + 1) _ (by omega) (fun j hj => ?_)
    by_cases hj1 : j = i + 1
    · subst hj1
      exact pk_us
    · rw [pk_un hj1]
      exact hY j (by omega)
def J27 (A A' : Nat → Nat → Int32) : Prop := ∀ q k, ¬ (q = 27 ∨ q = 28 ∨ q = 29 ∨ q = 30) → A' q k = A q k
theorem J27_L : J27 A (va_up (va_up (va_up (va_up A 30 Y) 29 U) 28 H) 27 Z) := by
  intro q k h
  unfold va_up
  rw [if_neg (fun e => h (Or.inl e)), if_neg (fun e => h (Or.inr (Or.inl e))), if_neg (fun e => h (Or.inr (Or.inr (Or.inl e)))), if_neg (fun e => h (Or.inr (Or.inr (Or.inr e))))]
set_option maxHeartbeats 4000000 in
set_option maxRecDepth 100000 in
theorem c_lead (d : Nat) {N F G L n : Nat} {s : Nat → Nat} {S' : TS} (hN : N ≤ 30) (hO : FO A N) (hrow : ∀ j, j < (rowD N).length → okF N (atD (rowD N) j)) (hF : okF N F) (hG : okF N G) (hn : n < 2 ^ 31) (hsl : sl N F n 0 (S0 G (A 28)) = some S') (hLL : L < 279) (hWf : S'.1 (kyN F) = nI (L + 1)) (h0 : s 0 < (rowD N).length) (h00 : atD (rowD N) (s 0) = F) (hs : isWay (atD (rowD N)) (rowD N).length L (fun c j => S'.1 (kyN (atD (rowD N) j)) = nI (c + 1)) s) : C mX6_lead (d + 5) 0 0 [.ref 27, .ref 25, .int (nI F), .int (nI G)] (hp A B) (fun r h' => (∃ A', h' = hp A' B ∧ J27 A A' ∧ A' 27 4 = nI L ∧ ∀ i, i ≤ L → A' 30 i = nI (atD (rowD N) (s i))) ∧ r = none) := by
  obtain ⟨hk, hx4⟩ := okF_ky hF hN
  refine C.of [some (.ref 27), some (.ref 25), some (.int (nI F)), some (.int (nI G)), none] omX6_lead rfl rfl rfl ?_
  iterate 2 (refine V.s omX6_lead rfl rfl ?_)
  refine V.gf omX6_lead rfl rfl rfl rfl ?_
  rw [hO.1]
  iterate 2 (refine V.s omX6_lead rfl rfl ?_)
  refine V.cV omX6_lead omX6_spread (c_spread d hF hG hN hn hsl) rfl rfl rfl rfl rfl rfl rfl rfl (by omega) (by omega) (fun r2 h2 hQ => ?_)
  obtain ⟨⟨U, hA, hl, hok, rfl⟩, rfl⟩ := hQ
  show V mX6_lead (d + 5) 0 0 _ 0 0 10 _ [] _
  iterate 3 (refine V.s omX6_lead rfl rfl ?_)
  refine V.gf omX6_lead rfl rfl rfl rfl ?_
  refine V.s omX6_lead rfl rfl ?_
  refine V.cSf omX6_lead omX6_key rfl rfl (c_key _ (show F < 2 ^ 31 by omega) _) rfl rfl rfl rfl ?_
  refine V.ial omX6_lead rfl rfl (ixN nv_nI hk (by decide)) ?_
  rw [tA28, hWf]
  iterate 2 (refine V.s omX6_lead rfl rfl ?_)
  rw [nI_pred]
  refine V.cSf omX6_lead omJ9_max rfl rfl (cJ_max _ _ _ _) rfl rfl rfl rfl ?_
  have em : (if (0 : Int32) < nI L then nI L else 0) = nI L := by
    by_cases h : L = 0
    · subst h; decide
    · rw [if_pos (nIpos (by omega) (by omega))]
  rw [em]
  refine V.pfH omX6_lead rfl rfl rfl rfl rfl rfl rfl ?_
  rw [bx_uu, va_up_self]
  refine V.s omX6_lead rfl rfl ?_
  refine V.gf omX6_lead rfl rfl rfl rfl ?_
  iterate 2 (refine V.s omX6_lead rfl rfl ?_)
  refine V.iasH omX6_lead rfl rfl (ixN (nv_nI (a := 0)) (show 0 < 279 by decide) (by decide)) ?_
  rw [tA30, tA30u]
  iterate 2 (refine V.s omX6_lead rfl rfl ?_)
  exact ld_39 (A := A) (B := B) (Z := upd (upd (A 27) 3 (nI S'.2.length)) 4 (nI L)) (U := U) (H := S'.1) (fr := nI F) (go := nI G) (d + 2) hN hO hrow pk_us hLL h0 hs (fun Y' hY' => ⟨⟨_, rfl, J27_L, rfl, hY'⟩, rfl⟩) L 0 (upd (A 30) 0 (nI F)) (by omega) (fun j hj => by
    have : j = 0 := by omega
    subst this
    rw [pk_us, h00])
def JW (A A' : Nat → Nat → Int32) : Prop := ∀ q k, ¬ (q = 25 ∨ q = 26 ∨ q = 27 ∨ q = 28 ∨ q = 29 ∨ q = 30) → A' q k = A q k
theorem ofF_ok {F N : Nat} (hN : N ≤ 30) (h : ofF (nI F) (nI N) = 1) (hF : F < 10000) : okF N F ∧ FR F := by
  unfold ofF at h
  split at h
  · next g =>
    rw [nI_clamp (show F < 2 ^ 31 by omega)] at g
    obtain ⟨F', e, hR, hF', -⟩ := frF_ex g.1
    have e2 := (nI_eq (show F < 2 ^ 31 by omega) (show F' < 2 ^ 31 by omega)).mp e
    subst e2
    have := (nI_leI (by omega) (by omega)).mp g.2
    exact ⟨⟨hR.1, hR.2.1, this⟩, hR⟩
  · exact absurd h (by decide)
set_option maxHeartbeats 4000000 in
set_option maxRecDepth 100000 in
theorem c7_wayY (d : Nat) {F G N L n : Nat} {s : Nat → Nat} {S' : TS} (hN1 : 1 ≤ N) (hN : N ≤ 30) (hf : ofF (nI F) (nI N) = 1) (hg : ofF (nI G) (nI N) = 1) (hF : F < 10000) (hG : G < 10000) (hc : FC A) (hrow : ∀ j, j < (rowD N).length → okF N (atD (rowD N) j)) (hn : n < 2 ^ 31) (hsl : sl N F n 0 (S0 G (A 28)) = some S') (hLL : L < 279) (hWf : S'.1 (kyN F) = nI (L + 1)) (h0 : s 0 < (rowD N).length) (h00 : atD (rowD N) (s 0) = F) (hs : isWay (atD (rowD N)) (rowD N).length L (fun c j => S'.1 (kyN (atD (rowD N) j)) = nI (c + 1)) s) : C mX7_way (d + 6) 0 0 [.ref 0, .int (nI F), .int (nI G), .int (nI N)] (hp A B) (fun r' h' => (∃ A', h' = hp A' B ∧ JW A A' ∧ FC A' ∧ A' 27 4 = nI L ∧ ∀ i, i ≤ L → A' 30 i = nI (atD (rowD N) (s i))) ∧ r' = some (.int (nI L))) := by
  refine C.of [some (.ref 0), some (.int (nI F)), some (.int (nI G)), some (.int (nI N))] omX7_way rfl rfl rfl ?_
  iterate 2 (refine V.s omX7_way rfl rfl ?_)
  refine V.cSf omX7_way omX7_isInRow rfl rfl (c7_isInRow (d + 3) _ _ _) rfl rfl rfl rfl ?_
  have e : irF (nI F) (nI N) = 1 := by unfold irF; rw [if_pos ⟨orN hN1 hN, hf⟩]
  rw [e]
  refine V.brF omX7_way rfl rfl (by decide) ?_
  iterate 2 (refine V.s omX7_way rfl rfl ?_)
  refine V.cSf omX7_way omX7_isInRow rfl rfl (c7_isInRow (d + 3) _ _ _) rfl rfl rfl rfl ?_
  have e2 : irF (nI G) (nI N) = 1 := by unfold irF; rw [if_pos ⟨orN hN1 hN, hg⟩]
  rw [e2]
  refine V.brT omX7_way rfl rfl (by decide) (by decide) ?_
  refine V.s omX7_way rfl rfl ?_
  refine V.gf omX7_way rfl rfl rfl rfl ?_
  refine V.s omX7_way rfl rfl ?_
  refine V.cV omX7_way omX0_fill (c_fill (d + 4) hN1 hN hc) rfl rfl rfl rfl rfl rfl rfl rfl (by omega) (by omega) (fun r' h' hQ => ?_)
  obtain ⟨⟨A', rfl, hJ, hO⟩, rfl⟩ := hQ
  show V mX7_way (d + 6) 0 0 _ 0 0 31 _ [] _
  have e28 : A' 28 = A 28 := funext (fun k => hJ 28 k (by decide))
  rw [← e28] at hsl
  refine V.s omX7_way rfl rfl ?_
  refine V.gf omX7_way rfl rfl rfl rfl ?_
  refine V.s omX7_way rfl rfl ?_
  refine V.gf omX7_way rfl rfl rfl rfl ?_
  iterate 2 (refine V.s omX7_way rfl rfl ?_)
  refine V.cV omX7_way omX6_lead (c_lead d hN hO hrow (ofF_ok hN hf hF).1 (ofF_ok hN hg hG).1 hn hsl hLL hWf h0 h00 hs) rfl rfl rfl rfl rfl rfl rfl rfl (by omega) (by omega) (fun r' h' hQ => ?_)
  obtain ⟨⟨A2, rfl, hJ2, hL4, hY2⟩, rfl⟩ := hQ
  show V mX7_way (d + 6) 0 0 _ 0 0 44 _ [] _
  refine V.s omX7_way rfl rfl ?_
  refine V.gf omX7_way rfl rfl rfl rfl ?_
  refine V.gf omX7_way rfl rfl rfl rfl ?_
  rw [hL4]
  refine V.iret omX7_way rfl rfl ⟨⟨A2, rfl, ?_, ?_, hL4, hY2⟩, rfl⟩
  · intro q k h
    rw [hJ2 q k (fun g => h (by omega)), hJ q k (fun g => h (by omega))]
  · have e25 : A2 25 = A' 25 := funext (fun k => hJ2 25 k (by decide))
    have e26 : A2 26 = A' 26 := funext (fun k => hJ2 26 k (by decide))
    refine FC_of hN1 hN ?_
    unfold FO
    rw [e25, e26]
    exact hO
set_option maxHeartbeats 4000000 in
set_option maxRecDepth 100000 in
theorem c7_wayN (d : Nat) (f g n : Int32) (h : ¬ inW f g n) : C mX7_way (d + 6) 0 0 [.ref 0, .int f, .int g, .int n] (hp A B) (fun r' h' => h' = hp (rfA A 7) B ∧ r' = some (.int (-7))) := by
  refine C.of [some (.ref 0), some (.int f), some (.int g), some (.int n)] omX7_way rfl rfl rfl ?_
  have bad : V mX7_way (d + 6) 0 0 (fun r' h' => h' = hp (rfA A 7) B ∧ r' = some (.int (-7))) 0 0 16 [some (.ref 0), some (.int f), some (.int g), some (.int n)] [] (hp A B) := by
    iterate 2 (refine V.s omX7_way rfl rfl ?_)
    refine V.cVf omX7_way omX7_refuse rfl rfl (c_refuse _ _ (by decide)) rfl rfl rfl rfl rfl rfl ?_
    exact V.iret omX7_way rfl rfl ⟨rfl, rfl⟩
  iterate 2 (refine V.s omX7_way rfl rfl ?_)
  refine V.cSf omX7_way omX7_isInRow rfl rfl (c7_isInRow (d + 3) _ _ _) rfl rfl rfl rfl ?_
  by_cases h1 : orF n = 1 ∧ ofF f n = 1
  · have e : irF f n = 1 := by unfold irF; rw [if_pos h1]
    rw [e]
    refine V.brF omX7_way rfl rfl (by decide) ?_
    iterate 2 (refine V.s omX7_way rfl rfl ?_)
    refine V.cSf omX7_way omX7_isInRow rfl rfl (c7_isInRow (d + 3) _ _ _) rfl rfl rfl rfl ?_
    have e2 : irF g n = 0 := by unfold irF; rw [if_neg (fun q => h ⟨h1.1, h1.2, q.2⟩)]
    rw [e2]
    refine V.brF omX7_way rfl rfl (by decide) ?_
    exact bad
  · have e : irF f n = 0 := by unfold irF; rw [if_neg h1]
    rw [e]
    refine V.brT omX7_way rfl rfl rfl (by decide) ?_
    exact bad
def s7_step (A : Nat → Nat → Int32) (i : Int32) : Int32 × (Nat → Nat → Int32) := if A 27 4 < 0 then (-2, rfA A 2) else if 0 ≤ i ∧ i ≤ A 27 4 then (A 30 i.toNatClampNeg, A) else (-3, rfA A 3)
set_option maxHeartbeats 4000000 in
set_option maxRecDepth 100000 in
theorem c7_step (d : Nat) (i : Int32) (hb : A 27 4 < 0 ∨ ∃ L, L < 279 ∧ A 27 4 = nI L) : C mX7_step (d + 1) 0 0 [.ref 0, .int i] (hp A B) (fun r h' => h' = hp (s7_step A i).2 B ∧ r = some (.int (s7_step A i).1)) := by
  refine C.of [some (.ref 0), some (.int i)] omX7_step rfl rfl rfl ?_
  have ct : C mX6_isThere d 0 0 [.ref 27] (hp A B) (fun r h' => h' = hp A B ∧ r = some (.int (if A 27 4 < 0 then 0 else 1))) := by
    refine C.of [some (.ref 27)] omX6_isThere rfl rfl rfl ?_
    refine V.s omX6_isThere rfl rfl ?_
    refine V.gf omX6_isThere rfl rfl rfl rfl ?_
    by_cases h1 : A 27 4 < 0
    · refine V.brT omX6_isThere rfl rfl h1 (fun g => Int32.not_le.mpr g) ?_
      refine V.s omX6_isThere rfl rfl ?_
      exact V.zret omX6_isThere rfl rfl (by decide) ⟨rfl, by rw [if_pos h1]⟩
    · refine V.brF omX6_isThere rfl rfl h1 ?_
      iterate 2 (refine V.s omX6_isThere rfl rfl ?_)
      exact V.zret omX6_isThere rfl rfl (by decide) ⟨rfl, by rw [if_neg h1]⟩
  refine V.s omX7_step rfl rfl ?_
  refine V.gf omX7_step rfl rfl rfl rfl ?_
  refine V.cVf omX7_step omX6_isThere rfl rfl ct rfl rfl rfl rfl rfl rfl ?_
  by_cases h1 : A 27 4 < 0
  · have e : s7_step A i = (-2, rfA A 2) := by unfold s7_step; rw [if_pos h1]
    rw [e, if_pos h1]
    refine V.brF omX7_step rfl rfl (by decide) ?_
    iterate 2 (refine V.s omX7_step rfl rfl ?_)
    refine V.cVf omX7_step omX7_refuse rfl rfl (c_refuse _ _ (by decide)) rfl rfl rfl rfl rfl rfl ?_
    exact V.iret omX7_step rfl rfl ⟨rfl, rfl⟩
  · rw [if_neg h1]
    obtain ⟨L, hL, e4⟩ := hb.resolve_left h1
    refine V.brT omX7_step rfl rfl (by decide) (by decide) ?_
    have bad : ¬ (0 ≤ i ∧ i ≤ nI L) → V mX7_step (d + 1) 0 0 (fun r h' => h' = hp (s7_step A i).2 B ∧ r = some (.int (s7_step A i).1)) 0 0 44 [some (.ref 0), some (.int i)] [] (hp A B) := by
      intro h2
      have e : s7_step A i = (-3, rfA A 3) := by unfold s7_step; rw [if_neg h1, e4, if_neg h2]
      rw [e]
      iterate 2 (refine V.s omX7_step rfl rfl ?_)
      refine V.cVf omX7_step omX7_refuse rfl rfl (c_refuse _ _ (by decide)) rfl rfl rfl rfl rfl rfl ?_
      exact V.iret omX7_step rfl rfl ⟨rfl, rfl⟩
    refine V.s omX7_step rfl rfl ?_
    by_cases h0 : 0 ≤ i
    · refine V.brF omX7_step rfl rfl (Int32.not_lt.mpr h0) ?_
      iterate 2 (refine V.s omX7_step rfl rfl ?_)
      refine V.gf omX7_step rfl rfl rfl rfl ?_
      refine V.gf omX7_step rfl rfl rfl rfl ?_
      rw [e4]
      by_cases h2 : i ≤ nI L
      · refine V.brF omX7_step rfl rfl (Int32.not_lt.mpr h2) ?_
        have e : s7_step A i = (A 30 i.toNatClampNeg, A) := by unfold s7_step; rw [if_neg h1, e4, if_pos ⟨h0, h2⟩]
        rw [e]
        obtain ⟨k, hk, rfl⟩ := inle (show L < 2 ^ 31 by omega) ⟨h0, h2⟩
        rw [nI_clamp (by omega)]
        refine V.s omX7_step rfl rfl ?_
        refine V.gf omX7_step rfl rfl rfl rfl ?_
        refine V.gf omX7_step rfl rfl rfl rfl ?_
        refine V.s omX7_step rfl rfl ?_
        refine V.ial omX7_step rfl rfl (ixN nv_nI (show k < 279 by omega) (by decide)) ?_
        refine V.s omX7_step rfl rfl ?_
        exact V.iret omX7_step rfl rfl ⟨rfl, rfl⟩
      · refine V.brT omX7_step rfl rfl (Int32.not_le.mp h2) (fun g => Int32.not_le.mpr g) ?_
        exact bad (fun g => h2 g.2)
    · refine V.brT omX7_step rfl rfl (Int32.not_le.mp h0) (fun g => Int32.not_le.mpr g) ?_
      exact bad (fun g => h0 g.1)
end TRM
end
section
section INI
variable {M : mt_T} {d mc ms k n pc np x : Nat} {Q : Option Value → hp_T → Prop} {L : List (Option Value)} {st : List Value} {h cs : hp_T}
theorem V.nI {N : Nat} {a : Int32} (hM : mOK M) (hi : lkf (m_tab M) pc = some (.newarray .int, np, x)) (ha : ¬ a < 0) (hN : a.toNatClampNeg = N) (hsm : N ≤ 100000) (hk : k + 1 ≤ mc) (hn : n + N ≤ ms) (kk : V M d mc ms Q (k + 1) (n + N) np L (.ref (h.length + cs.length) :: st) (h ++ (cs ++ [.inl (N, .inl (fun _ => 0))]))) : V M d mc ms Q k n pc L (.int a :: st) (h ++ cs) := V.newI hM hi ha hN hsm hk hn (by rw [List.length_append, List.append_assoc]; exact kk)
theorem V.nL {N : Nat} {a : Int32} (hM : mOK M) (hi : lkf (m_tab M) pc = some (.newarray .long, np, x)) (ha : ¬ a < 0) (hN : a.toNatClampNeg = N) (hsm : N ≤ 100000) (hk : k + 1 ≤ mc) (hn : n + N ≤ ms) (kk : V M d mc ms Q (k + 1) (n + N) np L (.ref (h.length + cs.length) :: st) (h ++ (cs ++ [.inl (N, .inr (.inl (fun _ => 0)))]))) : V M d mc ms Q k n pc L (.int a :: st) (h ++ cs) := V.newL hM hi ha hN hsm hk hn (by rw [List.length_append, List.append_assoc]; exact kk)
theorem gq {c : ac_T} : (h ++ c :: cs)[h.length]? = some c := by
  rw [List.getElem?_append_right (Nat.le_refl _), Nat.sub_self]
  rfl
theorem sq {c c' : ac_T} : (h ++ c :: cs).set h.length c' = h ++ c' :: cs := by
  rw [List.set_append_right _ _ (Nat.le_refl _), Nat.sub_self]
  rfl
set_option maxHeartbeats 4000000 in
set_option maxRecDepth 100000 in
theorem c_X0_init (d : Nat) : C mX0_init d 1 279 [.ref h.length] (h ++ [.inr (0, dfL 0)]) (fun r h' => h' = h ++ [.inr (0, [.ref (h.length + 1), .int 0, .int 0]), .inl (279, .inl (fun _ => 0))] ∧ r = none) := by
  refine C.of [some (.ref h.length)] omX0_init rfl rfl rfl ?_
  refine V.s omX0_init rfl rfl ?_
  refine V.oi omX0_init rfl rfl rfl ?_
  iterate 2 (refine V.s omX0_init rfl rfl ?_)
  refine V.nI (N := 279) omX0_init rfl (by decide) (by decide) (by decide) (by decide) (by decide) ?_
  refine V.pfF (h ++ [.inr (0, [.ref (h.length + 1), .int 0, .int 0]), .inl (279, .inl (fun _ => 0))]) omX0_init rfl gq rfl rfl rfl rfl rfl rfl (show (0 : Nat) < 3 by decide) sq ?_
  exact V.vret omX0_init rfl rfl ⟨rfl, rfl⟩
set_option maxHeartbeats 4000000 in
set_option maxRecDepth 100000 in
theorem c_X3_init (d : Nat) : C mX3_init d 1 4 [.ref h.length] (h ++ [.inr (1, dfL 1)]) (fun r h' => h' = h ++ [.inr (1, [.ref (h.length + 1), .int 0, .int 0, .int 0, .int 0, .int 0, .int 0, .long 0, .int 0, .int 0]), .inl (4, .inl (fun _ => 0))] ∧ r = none) := by
  refine C.of [some (.ref h.length)] omX3_init rfl rfl rfl ?_
  refine V.s omX3_init rfl rfl ?_
  refine V.oi omX3_init rfl rfl rfl ?_
  iterate 2 (refine V.s omX3_init rfl rfl ?_)
  refine V.nI (N := 4) omX3_init rfl (by decide) (by decide) (by decide) (by decide) (by decide) ?_
  refine V.pfF (h ++ [.inr (1, [.ref (h.length + 1), .int 0, .int 0, .int 0, .int 0, .int 0, .int 0, .long 0, .int 0, .int 0]), .inl (4, .inl (fun _ => 0))]) omX3_init rfl gq rfl rfl rfl rfl rfl rfl (show (0 : Nat) < 10 by decide) sq ?_
  exact V.vret omX3_init rfl rfl ⟨rfl, rfl⟩
set_option maxHeartbeats 4000000 in
set_option maxRecDepth 100000 in
theorem c_X4_init (d : Nat) : C mX4_init d 1 16 [.ref h.length] (h ++ [.inr (2, dfL 2)]) (fun r h' => h' = h ++ [.inr (2, [.ref (h.length + 1), .int 0]), .inl (16, .inl (fun _ => 0))] ∧ r = none) := by
  refine C.of [some (.ref h.length)] omX4_init rfl rfl rfl ?_
  refine V.s omX4_init rfl rfl ?_
  refine V.oi omX4_init rfl rfl rfl ?_
  iterate 2 (refine V.s omX4_init rfl rfl ?_)
  refine V.nI (N := 16) omX4_init rfl (by decide) (by decide) (by decide) (by decide) (by decide) ?_
  refine V.pfF (h ++ [.inr (2, [.ref (h.length + 1), .int 0]), .inl (16, .inl (fun _ => 0))]) omX4_init rfl gq rfl rfl rfl rfl rfl rfl (show (0 : Nat) < 2 by decide) sq ?_
  exact V.vret omX4_init rfl rfl ⟨rfl, rfl⟩
set_option maxHeartbeats 4000000 in
set_option maxRecDepth 100000 in
theorem c_X5_init (d : Nat) : C mX5_init d 4 140 [.ref h.length] (h ++ [.inr (3, dfL 3)]) (fun r h' => h' = h ++ [.inr (3, [.ref (h.length + 1), .ref (h.length + 2), .ref (h.length + 3), .ref (h.length + 4), .int 0]), .inl (80, .inl (fun _ => 0)), .inl (20, .inl (fun _ => 0)), .inl (20, .inl (fun _ => 0)), .inl (20, .inl (fun _ => 0))] ∧ r = none) := by
  refine C.of [some (.ref h.length)] omX5_init rfl rfl rfl ?_
  refine V.s omX5_init rfl rfl ?_
  refine V.oi omX5_init rfl rfl rfl ?_
  iterate 2 (refine V.s omX5_init rfl rfl ?_)
  refine V.nI (N := 80) omX5_init rfl (by decide) (by decide) (by decide) (by decide) (by decide) ?_
  refine V.pfF (h ++ [.inr (3, [.ref (h.length + 1), .null, .null, .null, .int 0]), .inl (80, .inl (fun _ => 0))]) omX5_init rfl gq rfl rfl rfl rfl rfl rfl (show (0 : Nat) < 5 by decide) sq ?_
  iterate 2 (refine V.s omX5_init rfl rfl ?_)
  refine V.nI (N := 20) omX5_init rfl (by decide) (by decide) (by decide) (by decide) (by decide) ?_
  refine V.pfF (h ++ [.inr (3, [.ref (h.length + 1), .ref (h.length + 2), .null, .null, .int 0]), .inl (80, .inl (fun _ => 0)), .inl (20, .inl (fun _ => 0))]) omX5_init rfl gq rfl rfl rfl rfl rfl rfl (show (1 : Nat) < 5 by decide) sq ?_
  iterate 2 (refine V.s omX5_init rfl rfl ?_)
  refine V.nI (N := 20) omX5_init rfl (by decide) (by decide) (by decide) (by decide) (by decide) ?_
  refine V.pfF (h ++ [.inr (3, [.ref (h.length + 1), .ref (h.length + 2), .ref (h.length + 3), .null, .int 0]), .inl (80, .inl (fun _ => 0)), .inl (20, .inl (fun _ => 0)), .inl (20, .inl (fun _ => 0))]) omX5_init rfl gq rfl rfl rfl rfl rfl rfl (show (2 : Nat) < 5 by decide) sq ?_
  iterate 2 (refine V.s omX5_init rfl rfl ?_)
  refine V.nI (N := 20) omX5_init rfl (by decide) (by decide) (by decide) (by decide) (by decide) ?_
  refine V.pfF (h ++ [.inr (3, [.ref (h.length + 1), .ref (h.length + 2), .ref (h.length + 3), .ref (h.length + 4), .int 0]), .inl (80, .inl (fun _ => 0)), .inl (20, .inl (fun _ => 0)), .inl (20, .inl (fun _ => 0)), .inl (20, .inl (fun _ => 0))]) omX5_init rfl gq rfl rfl rfl rfl rfl rfl (show (3 : Nat) < 5 by decide) sq ?_
  exact V.vret omX5_init rfl rfl ⟨rfl, rfl⟩
set_option maxHeartbeats 4000000 in
set_option maxRecDepth 100000 in
theorem c_X6_init (d : Nat) : C mX6_init d 3 1519 [.ref h.length] (h ++ [.inr (4, dfL 4)]) (fun r h' => h' = h ++ [.inr (4, [.ref (h.length + 1), .ref (h.length + 2), .ref (h.length + 3), .int 0, .int (-1)]), .inl (961, .inl (fun _ => 0)), .inl (279, .inl (fun _ => 0)), .inl (279, .inl (fun _ => 0))] ∧ r = none) := by
  refine C.of [some (.ref h.length)] omX6_init rfl rfl rfl ?_
  refine V.s omX6_init rfl rfl ?_
  refine V.oi omX6_init rfl rfl rfl ?_
  iterate 2 (refine V.s omX6_init rfl rfl ?_)
  refine V.nI (N := 961) omX6_init rfl (by decide) (by decide) (by decide) (by decide) (by decide) ?_
  refine V.pfF (h ++ [.inr (4, [.ref (h.length + 1), .null, .null, .int 0, .int 0]), .inl (961, .inl (fun _ => 0))]) omX6_init rfl gq rfl rfl rfl rfl rfl rfl (show (0 : Nat) < 5 by decide) sq ?_
  iterate 2 (refine V.s omX6_init rfl rfl ?_)
  refine V.nI (N := 279) omX6_init rfl (by decide) (by decide) (by decide) (by decide) (by decide) ?_
  refine V.pfF (h ++ [.inr (4, [.ref (h.length + 1), .ref (h.length + 2), .null, .int 0, .int 0]), .inl (961, .inl (fun _ => 0)), .inl (279, .inl (fun _ => 0))]) omX6_init rfl gq rfl rfl rfl rfl rfl rfl (show (1 : Nat) < 5 by decide) sq ?_
  iterate 2 (refine V.s omX6_init rfl rfl ?_)
  refine V.nI (N := 279) omX6_init rfl (by decide) (by decide) (by decide) (by decide) (by decide) ?_
  refine V.pfF (h ++ [.inr (4, [.ref (h.length + 1), .ref (h.length + 2), .ref (h.length + 3), .int 0, .int 0]), .inl (961, .inl (fun _ => 0)), .inl (279, .inl (fun _ => 0)), .inl (279, .inl (fun _ => 0))]) omX6_init rfl gq rfl rfl rfl rfl rfl rfl (show (2 : Nat) < 5 by decide) sq ?_
  iterate 2 (refine V.s omX6_init rfl rfl ?_)
  refine V.pf (h ++ [.inr (4, [.ref (h.length + 1), .ref (h.length + 2), .ref (h.length + 3), .int 0, .int (-1)]), .inl (961, .inl (fun _ => 0)), .inl (279, .inl (fun _ => 0)), .inl (279, .inl (fun _ => 0))]) omX6_init rfl gq rfl rfl rfl (show (4 : Nat) < 5 by decide) sq ?_
  exact V.vret omX6_init rfl rfl ⟨rfl, rfl⟩
set_option maxHeartbeats 4000000 in
set_option maxRecDepth 100000 in
theorem c_X8_init (d : Nat) : C mX8_init d 17 1621 [.ref h.length] (h ++ [.inr (6, dfL 6)]) (fun r h' => h' = h ++ [.inr (6, [.ref (h.length + 1), .ref (h.length + 2), .ref (h.length + 3), .ref (h.length + 4), .ref (h.length + 5), .int 0, .int 0, .int 0, .ref (h.length + 6), .ref (h.length + 7), .ref (h.length + 8), .ref (h.length + 9), .ref (h.length + 10), .int 0, .int 0, .int 0, .int 0, .long 0, .ref (h.length + 11), .ref (h.length + 12), .int 0, .ref (h.length + 13), .ref (h.length + 14), .ref (h.length + 15), .int 0, .int (-1), .ref (h.length + 16), .ref (h.length + 17), .int 0]), .inl (80, .inl (fun _ => 0)), .inl (20, .inl (fun _ => 0)), .inl (20, .inl (fun _ => 0)), .inl (20, .inl (fun _ => 0)), .inl (96, .inl (fun _ => 0)), .inl (9, .inl (fun _ => 0)), .inl (16, .inl (fun _ => 0)), .inl (4, .inr (.inl (fun _ => 0))), .inl (16, .inl (fun _ => 0)), .inl (4, .inr (.inl (fun _ => 0))), .inl (4, .inl (fun _ => 0)), .inl (400, .inl (fun _ => 0)), .inl (300, .inl (fun _ => 0)), .inl (300, .inl (fun _ => 0)), .inl (300, .inl (fun _ => 0)), .inl (16, .inl (fun _ => 0)), .inl (16, .inl (fun _ => 0))] ∧ r = none) := by
  refine C.of [some (.ref h.length)] omX8_init rfl rfl rfl ?_
  refine V.s omX8_init rfl rfl ?_
  refine V.oi omX8_init rfl rfl rfl ?_
  iterate 2 (refine V.s omX8_init rfl rfl ?_)
  refine V.nI (N := 80) omX8_init rfl (by decide) (by decide) (by decide) (by decide) (by decide) ?_
  refine V.pfF (h ++ [.inr (6, [.ref (h.length + 1), .null, .null, .null, .null, .int 0, .int 0, .int 0, .null, .null, .null, .null, .null, .int 0, .int 0, .int 0, .int 0, .long 0, .null, .null, .int 0, .null, .null, .null, .int 0, .int 0, .null, .null, .int 0]), .inl (80, .inl (fun _ => 0))]) omX8_init rfl gq rfl rfl rfl rfl rfl rfl (show (0 : Nat) < 29 by decide) sq ?_
  iterate 2 (refine V.s omX8_init rfl rfl ?_)
  refine V.nI (N := 20) omX8_init rfl (by decide) (by decide) (by decide) (by decide) (by decide) ?_
  refine V.pfF (h ++ [.inr (6, [.ref (h.length + 1), .ref (h.length + 2), .null, .null, .null, .int 0, .int 0, .int 0, .null, .null, .null, .null, .null, .int 0, .int 0, .int 0, .int 0, .long 0, .null, .null, .int 0, .null, .null, .null, .int 0, .int 0, .null, .null, .int 0]), .inl (80, .inl (fun _ => 0)), .inl (20, .inl (fun _ => 0))]) omX8_init rfl gq rfl rfl rfl rfl rfl rfl (show (1 : Nat) < 29 by decide) sq ?_
  iterate 2 (refine V.s omX8_init rfl rfl ?_)
  refine V.nI (N := 20) omX8_init rfl (by decide) (by decide) (by decide) (by decide) (by decide) ?_
  refine V.pfF (h ++ [.inr (6, [.ref (h.length + 1), .ref (h.length + 2), .ref (h.length + 3), .null, .null, .int 0, .int 0, .int 0, .null, .null, .null, .null, .null, .int 0, .int 0, .int 0, .int 0, .long 0, .null, .null, .int 0, .null, .null, .null, .int 0, .int 0, .null, .null, .int 0]), .inl (80, .inl (fun _ => 0)), .inl (20, .inl (fun _ => 0)), .inl (20, .inl (fun _ => 0))]) omX8_init rfl gq rfl rfl rfl rfl rfl rfl (show (2 : Nat) < 29 by decide) sq ?_
  iterate 2 (refine V.s omX8_init rfl rfl ?_)
  refine V.nI (N := 20) omX8_init rfl (by decide) (by decide) (by decide) (by decide) (by decide) ?_
  refine V.pfF (h ++ [.inr (6, [.ref (h.length + 1), .ref (h.length + 2), .ref (h.length + 3), .ref (h.length + 4), .null, .int 0, .int 0, .int 0, .null, .null, .null, .null, .null, .int 0, .int 0, .int 0, .int 0, .long 0, .null, .null, .int 0, .null, .null, .null, .int 0, .int 0, .null, .null, .int 0]), .inl (80, .inl (fun _ => 0)), .inl (20, .inl (fun _ => 0)), .inl (20, .inl (fun _ => 0)), .inl (20, .inl (fun _ => 0))]) omX8_init rfl gq rfl rfl rfl rfl rfl rfl (show (3 : Nat) < 29 by decide) sq ?_
  iterate 2 (refine V.s omX8_init rfl rfl ?_)
  refine V.nI (N := 96) omX8_init rfl (by decide) (by decide) (by decide) (by decide) (by decide) ?_
  refine V.pfF (h ++ [.inr (6, [.ref (h.length + 1), .ref (h.length + 2), .ref (h.length + 3), .ref (h.length + 4), .ref (h.length + 5), .int 0, .int 0, .int 0, .null, .null, .null, .null, .null, .int 0, .int 0, .int 0, .int 0, .long 0, .null, .null, .int 0, .null, .null, .null, .int 0, .int 0, .null, .null, .int 0]), .inl (80, .inl (fun _ => 0)), .inl (20, .inl (fun _ => 0)), .inl (20, .inl (fun _ => 0)), .inl (20, .inl (fun _ => 0)), .inl (96, .inl (fun _ => 0))]) omX8_init rfl gq rfl rfl rfl rfl rfl rfl (show (4 : Nat) < 29 by decide) sq ?_
  iterate 2 (refine V.s omX8_init rfl rfl ?_)
  refine V.nI (N := 9) omX8_init rfl (by decide) (by decide) (by decide) (by decide) (by decide) ?_
  refine V.pfF (h ++ [.inr (6, [.ref (h.length + 1), .ref (h.length + 2), .ref (h.length + 3), .ref (h.length + 4), .ref (h.length + 5), .int 0, .int 0, .int 0, .ref (h.length + 6), .null, .null, .null, .null, .int 0, .int 0, .int 0, .int 0, .long 0, .null, .null, .int 0, .null, .null, .null, .int 0, .int 0, .null, .null, .int 0]), .inl (80, .inl (fun _ => 0)), .inl (20, .inl (fun _ => 0)), .inl (20, .inl (fun _ => 0)), .inl (20, .inl (fun _ => 0)), .inl (96, .inl (fun _ => 0)), .inl (9, .inl (fun _ => 0))]) omX8_init rfl gq rfl rfl rfl rfl rfl rfl (show (8 : Nat) < 29 by decide) sq ?_
  iterate 2 (refine V.s omX8_init rfl rfl ?_)
  refine V.nI (N := 16) omX8_init rfl (by decide) (by decide) (by decide) (by decide) (by decide) ?_
  refine V.pfF (h ++ [.inr (6, [.ref (h.length + 1), .ref (h.length + 2), .ref (h.length + 3), .ref (h.length + 4), .ref (h.length + 5), .int 0, .int 0, .int 0, .ref (h.length + 6), .ref (h.length + 7), .null, .null, .null, .int 0, .int 0, .int 0, .int 0, .long 0, .null, .null, .int 0, .null, .null, .null, .int 0, .int 0, .null, .null, .int 0]), .inl (80, .inl (fun _ => 0)), .inl (20, .inl (fun _ => 0)), .inl (20, .inl (fun _ => 0)), .inl (20, .inl (fun _ => 0)), .inl (96, .inl (fun _ => 0)), .inl (9, .inl (fun _ => 0)), .inl (16, .inl (fun _ => 0))]) omX8_init rfl gq rfl rfl rfl rfl rfl rfl (show (9 : Nat) < 29 by decide) sq ?_
  iterate 2 (refine V.s omX8_init rfl rfl ?_)
  refine V.nL (N := 4) omX8_init rfl (by decide) (by decide) (by decide) (by decide) (by decide) ?_
  refine V.pfF (h ++ [.inr (6, [.ref (h.length + 1), .ref (h.length + 2), .ref (h.length + 3), .ref (h.length + 4), .ref (h.length + 5), .int 0, .int 0, .int 0, .ref (h.length + 6), .ref (h.length + 7), .ref (h.length + 8), .null, .null, .int 0, .int 0, .int 0, .int 0, .long 0, .null, .null, .int 0, .null, .null, .null, .int 0, .int 0, .null, .null, .int 0]), .inl (80, .inl (fun _ => 0)), .inl (20, .inl (fun _ => 0)), .inl (20, .inl (fun _ => 0)), .inl (20, .inl (fun _ => 0)), .inl (96, .inl (fun _ => 0)), .inl (9, .inl (fun _ => 0)), .inl (16, .inl (fun _ => 0)), .inl (4, .inr (.inl (fun _ => 0)))]) omX8_init rfl gq rfl rfl rfl rfl rfl rfl (show (10 : Nat) < 29 by decide) sq ?_
  iterate 2 (refine V.s omX8_init rfl rfl ?_)
  refine V.nI (N := 16) omX8_init rfl (by decide) (by decide) (by decide) (by decide) (by decide) ?_
  refine V.pfF (h ++ [.inr (6, [.ref (h.length + 1), .ref (h.length + 2), .ref (h.length + 3), .ref (h.length + 4), .ref (h.length + 5), .int 0, .int 0, .int 0, .ref (h.length + 6), .ref (h.length + 7), .ref (h.length + 8), .ref (h.length + 9), .null, .int 0, .int 0, .int 0, .int 0, .long 0, .null, .null, .int 0, .null, .null, .null, .int 0, .int 0, .null, .null, .int 0]), .inl (80, .inl (fun _ => 0)), .inl (20, .inl (fun _ => 0)), .inl (20, .inl (fun _ => 0)), .inl (20, .inl (fun _ => 0)), .inl (96, .inl (fun _ => 0)), .inl (9, .inl (fun _ => 0)), .inl (16, .inl (fun _ => 0)), .inl (4, .inr (.inl (fun _ => 0))), .inl (16, .inl (fun _ => 0))]) omX8_init rfl gq rfl rfl rfl rfl rfl rfl (show (11 : Nat) < 29 by decide) sq ?_
  iterate 2 (refine V.s omX8_init rfl rfl ?_)
  refine V.nL (N := 4) omX8_init rfl (by decide) (by decide) (by decide) (by decide) (by decide) ?_
  refine V.pfF (h ++ [.inr (6, [.ref (h.length + 1), .ref (h.length + 2), .ref (h.length + 3), .ref (h.length + 4), .ref (h.length + 5), .int 0, .int 0, .int 0, .ref (h.length + 6), .ref (h.length + 7), .ref (h.length + 8), .ref (h.length + 9), .ref (h.length + 10), .int 0, .int 0, .int 0, .int 0, .long 0, .null, .null, .int 0, .null, .null, .null, .int 0, .int 0, .null, .null, .int 0]), .inl (80, .inl (fun _ => 0)), .inl (20, .inl (fun _ => 0)), .inl (20, .inl (fun _ => 0)), .inl (20, .inl (fun _ => 0)), .inl (96, .inl (fun _ => 0)), .inl (9, .inl (fun _ => 0)), .inl (16, .inl (fun _ => 0)), .inl (4, .inr (.inl (fun _ => 0))), .inl (16, .inl (fun _ => 0)), .inl (4, .inr (.inl (fun _ => 0)))]) omX8_init rfl gq rfl rfl rfl rfl rfl rfl (show (12 : Nat) < 29 by decide) sq ?_
  iterate 2 (refine V.s omX8_init rfl rfl ?_)
  refine V.nI (N := 4) omX8_init rfl (by decide) (by decide) (by decide) (by decide) (by decide) ?_
  refine V.pfF (h ++ [.inr (6, [.ref (h.length + 1), .ref (h.length + 2), .ref (h.length + 3), .ref (h.length + 4), .ref (h.length + 5), .int 0, .int 0, .int 0, .ref (h.length + 6), .ref (h.length + 7), .ref (h.length + 8), .ref (h.length + 9), .ref (h.length + 10), .int 0, .int 0, .int 0, .int 0, .long 0, .ref (h.length + 11), .null, .int 0, .null, .null, .null, .int 0, .int 0, .null, .null, .int 0]), .inl (80, .inl (fun _ => 0)), .inl (20, .inl (fun _ => 0)), .inl (20, .inl (fun _ => 0)), .inl (20, .inl (fun _ => 0)), .inl (96, .inl (fun _ => 0)), .inl (9, .inl (fun _ => 0)), .inl (16, .inl (fun _ => 0)), .inl (4, .inr (.inl (fun _ => 0))), .inl (16, .inl (fun _ => 0)), .inl (4, .inr (.inl (fun _ => 0))), .inl (4, .inl (fun _ => 0))]) omX8_init rfl gq rfl rfl rfl rfl rfl rfl (show (18 : Nat) < 29 by decide) sq ?_
  iterate 2 (refine V.s omX8_init rfl rfl ?_)
  refine V.nI (N := 400) omX8_init rfl (by decide) (by decide) (by decide) (by decide) (by decide) ?_
  refine V.pfF (h ++ [.inr (6, [.ref (h.length + 1), .ref (h.length + 2), .ref (h.length + 3), .ref (h.length + 4), .ref (h.length + 5), .int 0, .int 0, .int 0, .ref (h.length + 6), .ref (h.length + 7), .ref (h.length + 8), .ref (h.length + 9), .ref (h.length + 10), .int 0, .int 0, .int 0, .int 0, .long 0, .ref (h.length + 11), .ref (h.length + 12), .int 0, .null, .null, .null, .int 0, .int 0, .null, .null, .int 0]), .inl (80, .inl (fun _ => 0)), .inl (20, .inl (fun _ => 0)), .inl (20, .inl (fun _ => 0)), .inl (20, .inl (fun _ => 0)), .inl (96, .inl (fun _ => 0)), .inl (9, .inl (fun _ => 0)), .inl (16, .inl (fun _ => 0)), .inl (4, .inr (.inl (fun _ => 0))), .inl (16, .inl (fun _ => 0)), .inl (4, .inr (.inl (fun _ => 0))), .inl (4, .inl (fun _ => 0)), .inl (400, .inl (fun _ => 0))]) omX8_init rfl gq rfl rfl rfl rfl rfl rfl (show (19 : Nat) < 29 by decide) sq ?_
  iterate 2 (refine V.s omX8_init rfl rfl ?_)
  refine V.nI (N := 300) omX8_init rfl (by decide) (by decide) (by decide) (by decide) (by decide) ?_
  refine V.pfF (h ++ [.inr (6, [.ref (h.length + 1), .ref (h.length + 2), .ref (h.length + 3), .ref (h.length + 4), .ref (h.length + 5), .int 0, .int 0, .int 0, .ref (h.length + 6), .ref (h.length + 7), .ref (h.length + 8), .ref (h.length + 9), .ref (h.length + 10), .int 0, .int 0, .int 0, .int 0, .long 0, .ref (h.length + 11), .ref (h.length + 12), .int 0, .ref (h.length + 13), .null, .null, .int 0, .int 0, .null, .null, .int 0]), .inl (80, .inl (fun _ => 0)), .inl (20, .inl (fun _ => 0)), .inl (20, .inl (fun _ => 0)), .inl (20, .inl (fun _ => 0)), .inl (96, .inl (fun _ => 0)), .inl (9, .inl (fun _ => 0)), .inl (16, .inl (fun _ => 0)), .inl (4, .inr (.inl (fun _ => 0))), .inl (16, .inl (fun _ => 0)), .inl (4, .inr (.inl (fun _ => 0))), .inl (4, .inl (fun _ => 0)), .inl (400, .inl (fun _ => 0)), .inl (300, .inl (fun _ => 0))]) omX8_init rfl gq rfl rfl rfl rfl rfl rfl (show (21 : Nat) < 29 by decide) sq ?_
  iterate 2 (refine V.s omX8_init rfl rfl ?_)
  refine V.nI (N := 300) omX8_init rfl (by decide) (by decide) (by decide) (by decide) (by decide) ?_
  refine V.pfF (h ++ [.inr (6, [.ref (h.length + 1), .ref (h.length + 2), .ref (h.length + 3), .ref (h.length + 4), .ref (h.length + 5), .int 0, .int 0, .int 0, .ref (h.length + 6), .ref (h.length + 7), .ref (h.length + 8), .ref (h.length + 9), .ref (h.length + 10), .int 0, .int 0, .int 0, .int 0, .long 0, .ref (h.length + 11), .ref (h.length + 12), .int 0, .ref (h.length + 13), .ref (h.length + 14), .null, .int 0, .int 0, .null, .null, .int 0]), .inl (80, .inl (fun _ => 0)), .inl (20, .inl (fun _ => 0)), .inl (20, .inl (fun _ => 0)), .inl (20, .inl (fun _ => 0)), .inl (96, .inl (fun _ => 0)), .inl (9, .inl (fun _ => 0)), .inl (16, .inl (fun _ => 0)), .inl (4, .inr (.inl (fun _ => 0))), .inl (16, .inl (fun _ => 0)), .inl (4, .inr (.inl (fun _ => 0))), .inl (4, .inl (fun _ => 0)), .inl (400, .inl (fun _ => 0)), .inl (300, .inl (fun _ => 0)), .inl (300, .inl (fun _ => 0))]) omX8_init rfl gq rfl rfl rfl rfl rfl rfl (show (22 : Nat) < 29 by decide) sq ?_
  iterate 2 (refine V.s omX8_init rfl rfl ?_)
  refine V.nI (N := 300) omX8_init rfl (by decide) (by decide) (by decide) (by decide) (by decide) ?_
  refine V.pfF (h ++ [.inr (6, [.ref (h.length + 1), .ref (h.length + 2), .ref (h.length + 3), .ref (h.length + 4), .ref (h.length + 5), .int 0, .int 0, .int 0, .ref (h.length + 6), .ref (h.length + 7), .ref (h.length + 8), .ref (h.length + 9), .ref (h.length + 10), .int 0, .int 0, .int 0, .int 0, .long 0, .ref (h.length + 11), .ref (h.length + 12), .int 0, .ref (h.length + 13), .ref (h.length + 14), .ref (h.length + 15), .int 0, .int 0, .null, .null, .int 0]), .inl (80, .inl (fun _ => 0)), .inl (20, .inl (fun _ => 0)), .inl (20, .inl (fun _ => 0)), .inl (20, .inl (fun _ => 0)), .inl (96, .inl (fun _ => 0)), .inl (9, .inl (fun _ => 0)), .inl (16, .inl (fun _ => 0)), .inl (4, .inr (.inl (fun _ => 0))), .inl (16, .inl (fun _ => 0)), .inl (4, .inr (.inl (fun _ => 0))), .inl (4, .inl (fun _ => 0)), .inl (400, .inl (fun _ => 0)), .inl (300, .inl (fun _ => 0)), .inl (300, .inl (fun _ => 0)), .inl (300, .inl (fun _ => 0))]) omX8_init rfl gq rfl rfl rfl rfl rfl rfl (show (23 : Nat) < 29 by decide) sq ?_
  iterate 2 (refine V.s omX8_init rfl rfl ?_)
  refine V.pf (h ++ [.inr (6, [.ref (h.length + 1), .ref (h.length + 2), .ref (h.length + 3), .ref (h.length + 4), .ref (h.length + 5), .int 0, .int 0, .int 0, .ref (h.length + 6), .ref (h.length + 7), .ref (h.length + 8), .ref (h.length + 9), .ref (h.length + 10), .int 0, .int 0, .int 0, .int 0, .long 0, .ref (h.length + 11), .ref (h.length + 12), .int 0, .ref (h.length + 13), .ref (h.length + 14), .ref (h.length + 15), .int 0, .int (-1), .null, .null, .int 0]), .inl (80, .inl (fun _ => 0)), .inl (20, .inl (fun _ => 0)), .inl (20, .inl (fun _ => 0)), .inl (20, .inl (fun _ => 0)), .inl (96, .inl (fun _ => 0)), .inl (9, .inl (fun _ => 0)), .inl (16, .inl (fun _ => 0)), .inl (4, .inr (.inl (fun _ => 0))), .inl (16, .inl (fun _ => 0)), .inl (4, .inr (.inl (fun _ => 0))), .inl (4, .inl (fun _ => 0)), .inl (400, .inl (fun _ => 0)), .inl (300, .inl (fun _ => 0)), .inl (300, .inl (fun _ => 0)), .inl (300, .inl (fun _ => 0))]) omX8_init rfl gq rfl rfl rfl (show (25 : Nat) < 29 by decide) sq ?_
  iterate 2 (refine V.s omX8_init rfl rfl ?_)
  refine V.nI (N := 16) omX8_init rfl (by decide) (by decide) (by decide) (by decide) (by decide) ?_
  refine V.pfF (h ++ [.inr (6, [.ref (h.length + 1), .ref (h.length + 2), .ref (h.length + 3), .ref (h.length + 4), .ref (h.length + 5), .int 0, .int 0, .int 0, .ref (h.length + 6), .ref (h.length + 7), .ref (h.length + 8), .ref (h.length + 9), .ref (h.length + 10), .int 0, .int 0, .int 0, .int 0, .long 0, .ref (h.length + 11), .ref (h.length + 12), .int 0, .ref (h.length + 13), .ref (h.length + 14), .ref (h.length + 15), .int 0, .int (-1), .ref (h.length + 16), .null, .int 0]), .inl (80, .inl (fun _ => 0)), .inl (20, .inl (fun _ => 0)), .inl (20, .inl (fun _ => 0)), .inl (20, .inl (fun _ => 0)), .inl (96, .inl (fun _ => 0)), .inl (9, .inl (fun _ => 0)), .inl (16, .inl (fun _ => 0)), .inl (4, .inr (.inl (fun _ => 0))), .inl (16, .inl (fun _ => 0)), .inl (4, .inr (.inl (fun _ => 0))), .inl (4, .inl (fun _ => 0)), .inl (400, .inl (fun _ => 0)), .inl (300, .inl (fun _ => 0)), .inl (300, .inl (fun _ => 0)), .inl (300, .inl (fun _ => 0)), .inl (16, .inl (fun _ => 0))]) omX8_init rfl gq rfl rfl rfl rfl rfl rfl (show (26 : Nat) < 29 by decide) sq ?_
  iterate 2 (refine V.s omX8_init rfl rfl ?_)
  refine V.nI (N := 16) omX8_init rfl (by decide) (by decide) (by decide) (by decide) (by decide) ?_
  refine V.pfF (h ++ [.inr (6, [.ref (h.length + 1), .ref (h.length + 2), .ref (h.length + 3), .ref (h.length + 4), .ref (h.length + 5), .int 0, .int 0, .int 0, .ref (h.length + 6), .ref (h.length + 7), .ref (h.length + 8), .ref (h.length + 9), .ref (h.length + 10), .int 0, .int 0, .int 0, .int 0, .long 0, .ref (h.length + 11), .ref (h.length + 12), .int 0, .ref (h.length + 13), .ref (h.length + 14), .ref (h.length + 15), .int 0, .int (-1), .ref (h.length + 16), .ref (h.length + 17), .int 0]), .inl (80, .inl (fun _ => 0)), .inl (20, .inl (fun _ => 0)), .inl (20, .inl (fun _ => 0)), .inl (20, .inl (fun _ => 0)), .inl (96, .inl (fun _ => 0)), .inl (9, .inl (fun _ => 0)), .inl (16, .inl (fun _ => 0)), .inl (4, .inr (.inl (fun _ => 0))), .inl (16, .inl (fun _ => 0)), .inl (4, .inr (.inl (fun _ => 0))), .inl (4, .inl (fun _ => 0)), .inl (400, .inl (fun _ => 0)), .inl (300, .inl (fun _ => 0)), .inl (300, .inl (fun _ => 0)), .inl (300, .inl (fun _ => 0)), .inl (16, .inl (fun _ => 0)), .inl (16, .inl (fun _ => 0))]) omX8_init rfl gq rfl rfl rfl rfl rfl rfl (show (27 : Nat) < 29 by decide) sq ?_
  exact V.vret omX8_init rfl rfl ⟨rfl, rfl⟩
set_option maxHeartbeats 4000000 in
set_option maxRecDepth 100000 in
theorem ini_1 (d : Nat) {v1 : Option Value} {Q : Option Value → hp_T → Prop} (kk : V mX7_init (d + 1) 32 2140 Q 5 145 15 [some (.ref 0), v1] [] [.inr (5, [.ref 1, .null, .null, .null, .null, .null, .null, .null, .null, .int 0, .int 0, .int 0]), .inr (3, [.ref 2, .ref 3, .ref 4, .ref 5, .int 0]), .inl (80, .inl (fun _ => 0)), .inl (20, .inl (fun _ => 0)), .inl (20, .inl (fun _ => 0)), .inl (20, .inl (fun _ => 0))]) : V mX7_init (d + 1) 32 2140 Q 0 0 4 [some (.ref 0), v1] [] [.inr (5, [.null, .null, .null, .null, .null, .null, .null, .null, .null, .int 0, .int 0, .int 0])] := by
  refine V.s omX7_init rfl rfl ?_
  refine V.new omX7_init rfl (by decide) (by decide) ?_
  refine V.s omX7_init rfl rfl ?_
  refine V.cI omX7_init omX5_init (c_X5_init (h := [.inr (5, [.null, .null, .null, .null, .null, .null, .null, .null, .null, .int 0, .int 0, .int 0])]) d) rfl rfl rfl rfl rfl rfl rfl (by decide) (by decide) (fun r h' hQ => ?_)
  obtain ⟨rfl, rfl⟩ := hQ
  show V mX7_init (d + 1) 32 2140 _ 5 145 _ _ _ [.inr (5, [.null, .null, .null, .null, .null, .null, .null, .null, .null, .int 0, .int 0, .int 0]), .inr (3, [.ref 2, .ref 3, .ref 4, .ref 5, .int 0]), .inl (80, .inl (fun _ => 0)), .inl (20, .inl (fun _ => 0)), .inl (20, .inl (fun _ => 0)), .inl (20, .inl (fun _ => 0))]
  refine V.pfF ([.inr (5, [.ref 1, .null, .null, .null, .null, .null, .null, .null, .null, .int 0, .int 0, .int 0]), .inr (3, [.ref 2, .ref 3, .ref 4, .ref 5, .int 0]), .inl (80, .inl (fun _ => 0)), .inl (20, .inl (fun _ => 0)), .inl (20, .inl (fun _ => 0)), .inl (20, .inl (fun _ => 0))]) omX7_init rfl rfl rfl rfl rfl rfl rfl rfl (show (0 : Nat) < 12 by decide) rfl ?_
  exact kk
set_option maxHeartbeats 4000000 in
set_option maxRecDepth 100000 in
theorem ini_2 (d : Nat) {c1 c2 c3 c4 c5 : ac_T} {g : Nat → Option Nat} {Q : Option Value → hp_T → Prop} (kk : V mX7_init (d + 1) 32 2140 Q 8 169 26 [some (.ref 0), some (.int 1)] [] [.inr (5, [.ref 1, .ref 6, .null, .null, .null, .null, .null, .null, .null, .int 0, .int 0, .int 0]), c1, c2, c3, c4, c5, .inl (6, .inr (.inr (.inr (.inr (va_up g 0 (some 7)))))), .inr (2, [.ref 8, .int 0]), .inl (16, .inl (fun _ => 0))]) : V mX7_init (d + 1) 32 2140 Q 6 151 26 [some (.ref 0), some (.int 0)] [] [.inr (5, [.ref 1, .ref 6, .null, .null, .null, .null, .null, .null, .null, .int 0, .int 0, .int 0]), c1, c2, c3, c4, c5, .inl (6, .inr (.inr (.inr (.inr g))))] := by
  iterate 2 (refine V.s omX7_init rfl rfl ?_)
  refine V.brF omX7_init rfl rfl (by decide) ?_
  refine V.s omX7_init rfl rfl ?_
  refine V.gf omX7_init rfl rfl rfl rfl ?_
  refine V.s omX7_init rfl rfl ?_
  refine V.new omX7_init rfl (by decide) (by decide) ?_
  refine V.s omX7_init rfl rfl ?_
  refine V.cI omX7_init omX4_init (c_X4_init (h := [.inr (5, [.ref 1, .ref 6, .null, .null, .null, .null, .null, .null, .null, .int 0, .int 0, .int 0]), c1, c2, c3, c4, c5, .inl (6, .inr (.inr (.inr (.inr g))))]) d) rfl rfl rfl rfl rfl rfl rfl (by decide) (by decide) (fun r h' hQ => ?_)
  obtain ⟨rfl, rfl⟩ := hQ
  show V mX7_init (d + 1) 32 2140 _ 8 169 _ _ _ [.inr (5, [.ref 1, .ref 6, .null, .null, .null, .null, .null, .null, .null, .int 0, .int 0, .int 0]), c1, c2, c3, c4, c5, .inl (6, .inr (.inr (.inr (.inr g)))), .inr (2, [.ref 8, .int 0]), .inl (16, .inl (fun _ => 0))]
  refine V.aas ([.inr (5, [.ref 1, .ref 6, .null, .null, .null, .null, .null, .null, .null, .int 0, .int 0, .int 0]), c1, c2, c3, c4, c5, .inl (6, .inr (.inr (.inr (.inr (va_up g 0 (some 7)))))), .inr (2, [.ref 8, .int 0]), .inl (16, .inl (fun _ => 0))]) omX7_init rfl rfl rfl (ixN (nv_nI (a := 0)) (by decide) (by decide)) rfl ?_
  iterate 2 (refine V.s omX7_init rfl rfl ?_)
  exact kk
set_option maxHeartbeats 4000000 in
set_option maxRecDepth 100000 in
theorem ini_3 (d : Nat) {c1 c2 c3 c4 c5 c7 c8 : ac_T} {g : Nat → Option Nat} {Q : Option Value → hp_T → Prop} (kk : V mX7_init (d + 1) 32 2140 Q 10 187 26 [some (.ref 0), some (.int 2)] [] [.inr (5, [.ref 1, .ref 6, .null, .null, .null, .null, .null, .null, .null, .int 0, .int 0, .int 0]), c1, c2, c3, c4, c5, .inl (6, .inr (.inr (.inr (.inr (va_up g 1 (some 9)))))), c7, c8, .inr (2, [.ref 10, .int 0]), .inl (16, .inl (fun _ => 0))]) : V mX7_init (d + 1) 32 2140 Q 8 169 26 [some (.ref 0), some (.int 1)] [] [.inr (5, [.ref 1, .ref 6, .null, .null, .null, .null, .null, .null, .null, .int 0, .int 0, .int 0]), c1, c2, c3, c4, c5, .inl (6, .inr (.inr (.inr (.inr g)))), c7, c8] := by
  iterate 2 (refine V.s omX7_init rfl rfl ?_)
  refine V.brF omX7_init rfl rfl (by decide) ?_
  refine V.s omX7_init rfl rfl ?_
  refine V.gf omX7_init rfl rfl rfl rfl ?_
  refine V.s omX7_init rfl rfl ?_
  refine V.new omX7_init rfl (by decide) (by decide) ?_
  refine V.s omX7_init rfl rfl ?_
  refine V.cI omX7_init omX4_init (c_X4_init (h := [.inr (5, [.ref 1, .ref 6, .null, .null, .null, .null, .null, .null, .null, .int 0, .int 0, .int 0]), c1, c2, c3, c4, c5, .inl (6, .inr (.inr (.inr (.inr g)))), c7, c8]) d) rfl rfl rfl rfl rfl rfl rfl (by decide) (by decide) (fun r h' hQ => ?_)
  obtain ⟨rfl, rfl⟩ := hQ
  show V mX7_init (d + 1) 32 2140 _ 10 187 _ _ _ [.inr (5, [.ref 1, .ref 6, .null, .null, .null, .null, .null, .null, .null, .int 0, .int 0, .int 0]), c1, c2, c3, c4, c5, .inl (6, .inr (.inr (.inr (.inr g)))), c7, c8, .inr (2, [.ref 10, .int 0]), .inl (16, .inl (fun _ => 0))]
  refine V.aas ([.inr (5, [.ref 1, .ref 6, .null, .null, .null, .null, .null, .null, .null, .int 0, .int 0, .int 0]), c1, c2, c3, c4, c5, .inl (6, .inr (.inr (.inr (.inr (va_up g 1 (some 9)))))), c7, c8, .inr (2, [.ref 10, .int 0]), .inl (16, .inl (fun _ => 0))]) omX7_init rfl rfl rfl (ixN (nv_nI (a := 1)) (by decide) (by decide)) rfl ?_
  iterate 2 (refine V.s omX7_init rfl rfl ?_)
  exact kk
set_option maxHeartbeats 4000000 in
set_option maxRecDepth 100000 in
theorem ini_4 (d : Nat) {c1 c2 c3 c4 c5 c7 c8 c9 c10 : ac_T} {g : Nat → Option Nat} {Q : Option Value → hp_T → Prop} (kk : V mX7_init (d + 1) 32 2140 Q 12 205 26 [some (.ref 0), some (.int 3)] [] [.inr (5, [.ref 1, .ref 6, .null, .null, .null, .null, .null, .null, .null, .int 0, .int 0, .int 0]), c1, c2, c3, c4, c5, .inl (6, .inr (.inr (.inr (.inr (va_up g 2 (some 11)))))), c7, c8, c9, c10, .inr (2, [.ref 12, .int 0]), .inl (16, .inl (fun _ => 0))]) : V mX7_init (d + 1) 32 2140 Q 10 187 26 [some (.ref 0), some (.int 2)] [] [.inr (5, [.ref 1, .ref 6, .null, .null, .null, .null, .null, .null, .null, .int 0, .int 0, .int 0]), c1, c2, c3, c4, c5, .inl (6, .inr (.inr (.inr (.inr g)))), c7, c8, c9, c10] := by
  iterate 2 (refine V.s omX7_init rfl rfl ?_)
  refine V.brF omX7_init rfl rfl (by decide) ?_
  refine V.s omX7_init rfl rfl ?_
  refine V.gf omX7_init rfl rfl rfl rfl ?_
  refine V.s omX7_init rfl rfl ?_
  refine V.new omX7_init rfl (by decide) (by decide) ?_
  refine V.s omX7_init rfl rfl ?_
  refine V.cI omX7_init omX4_init (c_X4_init (h := [.inr (5, [.ref 1, .ref 6, .null, .null, .null, .null, .null, .null, .null, .int 0, .int 0, .int 0]), c1, c2, c3, c4, c5, .inl (6, .inr (.inr (.inr (.inr g)))), c7, c8, c9, c10]) d) rfl rfl rfl rfl rfl rfl rfl (by decide) (by decide) (fun r h' hQ => ?_)
  obtain ⟨rfl, rfl⟩ := hQ
  show V mX7_init (d + 1) 32 2140 _ 12 205 _ _ _ [.inr (5, [.ref 1, .ref 6, .null, .null, .null, .null, .null, .null, .null, .int 0, .int 0, .int 0]), c1, c2, c3, c4, c5, .inl (6, .inr (.inr (.inr (.inr g)))), c7, c8, c9, c10, .inr (2, [.ref 12, .int 0]), .inl (16, .inl (fun _ => 0))]
  refine V.aas ([.inr (5, [.ref 1, .ref 6, .null, .null, .null, .null, .null, .null, .null, .int 0, .int 0, .int 0]), c1, c2, c3, c4, c5, .inl (6, .inr (.inr (.inr (.inr (va_up g 2 (some 11)))))), c7, c8, c9, c10, .inr (2, [.ref 12, .int 0]), .inl (16, .inl (fun _ => 0))]) omX7_init rfl rfl rfl (ixN (nv_nI (a := 2)) (by decide) (by decide)) rfl ?_
  iterate 2 (refine V.s omX7_init rfl rfl ?_)
  exact kk
set_option maxHeartbeats 4000000 in
set_option maxRecDepth 100000 in
theorem ini_5 (d : Nat) {c1 c2 c3 c4 c5 c7 c8 c9 c10 c11 c12 : ac_T} {g : Nat → Option Nat} {Q : Option Value → hp_T → Prop} (kk : V mX7_init (d + 1) 32 2140 Q 14 223 26 [some (.ref 0), some (.int 4)] [] [.inr (5, [.ref 1, .ref 6, .null, .null, .null, .null, .null, .null, .null, .int 0, .int 0, .int 0]), c1, c2, c3, c4, c5, .inl (6, .inr (.inr (.inr (.inr (va_up g 3 (some 13)))))), c7, c8, c9, c10, c11, c12, .inr (2, [.ref 14, .int 0]), .inl (16, .inl (fun _ => 0))]) : V mX7_init (d + 1) 32 2140 Q 12 205 26 [some (.ref 0), some (.int 3)] [] [.inr (5, [.ref 1, .ref 6, .null, .null, .null, .null, .null, .null, .null, .int 0, .int 0, .int 0]), c1, c2, c3, c4, c5, .inl (6, .inr (.inr (.inr (.inr g)))), c7, c8, c9, c10, c11, c12] := by
  iterate 2 (refine V.s omX7_init rfl rfl ?_)
  refine V.brF omX7_init rfl rfl (by decide) ?_
  refine V.s omX7_init rfl rfl ?_
  refine V.gf omX7_init rfl rfl rfl rfl ?_
  refine V.s omX7_init rfl rfl ?_
  refine V.new omX7_init rfl (by decide) (by decide) ?_
  refine V.s omX7_init rfl rfl ?_
  refine V.cI omX7_init omX4_init (c_X4_init (h := [.inr (5, [.ref 1, .ref 6, .null, .null, .null, .null, .null, .null, .null, .int 0, .int 0, .int 0]), c1, c2, c3, c4, c5, .inl (6, .inr (.inr (.inr (.inr g)))), c7, c8, c9, c10, c11, c12]) d) rfl rfl rfl rfl rfl rfl rfl (by decide) (by decide) (fun r h' hQ => ?_)
  obtain ⟨rfl, rfl⟩ := hQ
  show V mX7_init (d + 1) 32 2140 _ 14 223 _ _ _ [.inr (5, [.ref 1, .ref 6, .null, .null, .null, .null, .null, .null, .null, .int 0, .int 0, .int 0]), c1, c2, c3, c4, c5, .inl (6, .inr (.inr (.inr (.inr g)))), c7, c8, c9, c10, c11, c12, .inr (2, [.ref 14, .int 0]), .inl (16, .inl (fun _ => 0))]
  refine V.aas ([.inr (5, [.ref 1, .ref 6, .null, .null, .null, .null, .null, .null, .null, .int 0, .int 0, .int 0]), c1, c2, c3, c4, c5, .inl (6, .inr (.inr (.inr (.inr (va_up g 3 (some 13)))))), c7, c8, c9, c10, c11, c12, .inr (2, [.ref 14, .int 0]), .inl (16, .inl (fun _ => 0))]) omX7_init rfl rfl rfl (ixN (nv_nI (a := 3)) (by decide) (by decide)) rfl ?_
  iterate 2 (refine V.s omX7_init rfl rfl ?_)
  exact kk
set_option maxHeartbeats 4000000 in
set_option maxRecDepth 100000 in
theorem ini_6 (d : Nat) {c1 c2 c3 c4 c5 c7 c8 c9 c10 c11 c12 c13 c14 : ac_T} {g : Nat → Option Nat} {Q : Option Value → hp_T → Prop} (kk : V mX7_init (d + 1) 32 2140 Q 16 241 26 [some (.ref 0), some (.int 5)] [] [.inr (5, [.ref 1, .ref 6, .null, .null, .null, .null, .null, .null, .null, .int 0, .int 0, .int 0]), c1, c2, c3, c4, c5, .inl (6, .inr (.inr (.inr (.inr (va_up g 4 (some 15)))))), c7, c8, c9, c10, c11, c12, c13, c14, .inr (2, [.ref 16, .int 0]), .inl (16, .inl (fun _ => 0))]) : V mX7_init (d + 1) 32 2140 Q 14 223 26 [some (.ref 0), some (.int 4)] [] [.inr (5, [.ref 1, .ref 6, .null, .null, .null, .null, .null, .null, .null, .int 0, .int 0, .int 0]), c1, c2, c3, c4, c5, .inl (6, .inr (.inr (.inr (.inr g)))), c7, c8, c9, c10, c11, c12, c13, c14] := by
  iterate 2 (refine V.s omX7_init rfl rfl ?_)
  refine V.brF omX7_init rfl rfl (by decide) ?_
  refine V.s omX7_init rfl rfl ?_
  refine V.gf omX7_init rfl rfl rfl rfl ?_
  refine V.s omX7_init rfl rfl ?_
  refine V.new omX7_init rfl (by decide) (by decide) ?_
  refine V.s omX7_init rfl rfl ?_
  refine V.cI omX7_init omX4_init (c_X4_init (h := [.inr (5, [.ref 1, .ref 6, .null, .null, .null, .null, .null, .null, .null, .int 0, .int 0, .int 0]), c1, c2, c3, c4, c5, .inl (6, .inr (.inr (.inr (.inr g)))), c7, c8, c9, c10, c11, c12, c13, c14]) d) rfl rfl rfl rfl rfl rfl rfl (by decide) (by decide) (fun r h' hQ => ?_)
  obtain ⟨rfl, rfl⟩ := hQ
  show V mX7_init (d + 1) 32 2140 _ 16 241 _ _ _ [.inr (5, [.ref 1, .ref 6, .null, .null, .null, .null, .null, .null, .null, .int 0, .int 0, .int 0]), c1, c2, c3, c4, c5, .inl (6, .inr (.inr (.inr (.inr g)))), c7, c8, c9, c10, c11, c12, c13, c14, .inr (2, [.ref 16, .int 0]), .inl (16, .inl (fun _ => 0))]
  refine V.aas ([.inr (5, [.ref 1, .ref 6, .null, .null, .null, .null, .null, .null, .null, .int 0, .int 0, .int 0]), c1, c2, c3, c4, c5, .inl (6, .inr (.inr (.inr (.inr (va_up g 4 (some 15)))))), c7, c8, c9, c10, c11, c12, c13, c14, .inr (2, [.ref 16, .int 0]), .inl (16, .inl (fun _ => 0))]) omX7_init rfl rfl rfl (ixN (nv_nI (a := 4)) (by decide) (by decide)) rfl ?_
  iterate 2 (refine V.s omX7_init rfl rfl ?_)
  exact kk
set_option maxHeartbeats 4000000 in
set_option maxRecDepth 100000 in
theorem ini_7 (d : Nat) {c1 c2 c3 c4 c5 c7 c8 c9 c10 c11 c12 c13 c14 c15 c16 : ac_T} {g : Nat → Option Nat} {Q : Option Value → hp_T → Prop} (kk : V mX7_init (d + 1) 32 2140 Q 18 259 26 [some (.ref 0), some (.int 6)] [] [.inr (5, [.ref 1, .ref 6, .null, .null, .null, .null, .null, .null, .null, .int 0, .int 0, .int 0]), c1, c2, c3, c4, c5, .inl (6, .inr (.inr (.inr (.inr (va_up g 5 (some 17)))))), c7, c8, c9, c10, c11, c12, c13, c14, c15, c16, .inr (2, [.ref 18, .int 0]), .inl (16, .inl (fun _ => 0))]) : V mX7_init (d + 1) 32 2140 Q 16 241 26 [some (.ref 0), some (.int 5)] [] [.inr (5, [.ref 1, .ref 6, .null, .null, .null, .null, .null, .null, .null, .int 0, .int 0, .int 0]), c1, c2, c3, c4, c5, .inl (6, .inr (.inr (.inr (.inr g)))), c7, c8, c9, c10, c11, c12, c13, c14, c15, c16] := by
  iterate 2 (refine V.s omX7_init rfl rfl ?_)
  refine V.brF omX7_init rfl rfl (by decide) ?_
  refine V.s omX7_init rfl rfl ?_
  refine V.gf omX7_init rfl rfl rfl rfl ?_
  refine V.s omX7_init rfl rfl ?_
  refine V.new omX7_init rfl (by decide) (by decide) ?_
  refine V.s omX7_init rfl rfl ?_
  refine V.cI omX7_init omX4_init (c_X4_init (h := [.inr (5, [.ref 1, .ref 6, .null, .null, .null, .null, .null, .null, .null, .int 0, .int 0, .int 0]), c1, c2, c3, c4, c5, .inl (6, .inr (.inr (.inr (.inr g)))), c7, c8, c9, c10, c11, c12, c13, c14, c15, c16]) d) rfl rfl rfl rfl rfl rfl rfl (by decide) (by decide) (fun r h' hQ => ?_)
  obtain ⟨rfl, rfl⟩ := hQ
  show V mX7_init (d + 1) 32 2140 _ 18 259 _ _ _ [.inr (5, [.ref 1, .ref 6, .null, .null, .null, .null, .null, .null, .null, .int 0, .int 0, .int 0]), c1, c2, c3, c4, c5, .inl (6, .inr (.inr (.inr (.inr g)))), c7, c8, c9, c10, c11, c12, c13, c14, c15, c16, .inr (2, [.ref 18, .int 0]), .inl (16, .inl (fun _ => 0))]
  refine V.aas ([.inr (5, [.ref 1, .ref 6, .null, .null, .null, .null, .null, .null, .null, .int 0, .int 0, .int 0]), c1, c2, c3, c4, c5, .inl (6, .inr (.inr (.inr (.inr (va_up g 5 (some 17)))))), c7, c8, c9, c10, c11, c12, c13, c14, c15, c16, .inr (2, [.ref 18, .int 0]), .inl (16, .inl (fun _ => 0))]) omX7_init rfl rfl rfl (ixN (nv_nI (a := 5)) (by decide) (by decide)) rfl ?_
  iterate 2 (refine V.s omX7_init rfl rfl ?_)
  exact kk
set_option maxHeartbeats 4000000 in
set_option maxRecDepth 100000 in
theorem ini_8 (d : Nat) {c1 c2 c3 c4 c5 c6 c7 c8 c9 c10 c11 c12 c13 c14 c15 c16 c17 c18 : ac_T} {v1 : Option Value} {Q : Option Value → hp_T → Prop} (kk : V mX7_init (d + 1) 32 2140 Q 20 277 62 [some (.ref 0), v1] [] [.inr (5, [.ref 1, .ref 6, .ref 19, .null, .null, .null, .null, .null, .null, .int 0, .int 0, .int 0]), c1, c2, c3, c4, c5, c6, c7, c8, c9, c10, c11, c12, c13, c14, c15, c16, c17, c18, .inr (2, [.ref 20, .int 0]), .inl (16, .inl (fun _ => 0))]) : V mX7_init (d + 1) 32 2140 Q 18 259 51 [some (.ref 0), v1] [] [.inr (5, [.ref 1, .ref 6, .null, .null, .null, .null, .null, .null, .null, .int 0, .int 0, .int 0]), c1, c2, c3, c4, c5, c6, c7, c8, c9, c10, c11, c12, c13, c14, c15, c16, c17, c18] := by
  refine V.s omX7_init rfl rfl ?_
  refine V.new omX7_init rfl (by decide) (by decide) ?_
  refine V.s omX7_init rfl rfl ?_
  refine V.cI omX7_init omX4_init (c_X4_init (h := [.inr (5, [.ref 1, .ref 6, .null, .null, .null, .null, .null, .null, .null, .int 0, .int 0, .int 0]), c1, c2, c3, c4, c5, c6, c7, c8, c9, c10, c11, c12, c13, c14, c15, c16, c17, c18]) d) rfl rfl rfl rfl rfl rfl rfl (by decide) (by decide) (fun r h' hQ => ?_)
  obtain ⟨rfl, rfl⟩ := hQ
  show V mX7_init (d + 1) 32 2140 _ 20 277 _ _ _ [.inr (5, [.ref 1, .ref 6, .null, .null, .null, .null, .null, .null, .null, .int 0, .int 0, .int 0]), c1, c2, c3, c4, c5, c6, c7, c8, c9, c10, c11, c12, c13, c14, c15, c16, c17, c18, .inr (2, [.ref 20, .int 0]), .inl (16, .inl (fun _ => 0))]
  refine V.pfF ([.inr (5, [.ref 1, .ref 6, .ref 19, .null, .null, .null, .null, .null, .null, .int 0, .int 0, .int 0]), c1, c2, c3, c4, c5, c6, c7, c8, c9, c10, c11, c12, c13, c14, c15, c16, c17, c18, .inr (2, [.ref 20, .int 0]), .inl (16, .inl (fun _ => 0))]) omX7_init rfl rfl rfl rfl rfl rfl rfl rfl (show (2 : Nat) < 12 by decide) rfl ?_
  exact kk
set_option maxHeartbeats 4000000 in
set_option maxRecDepth 100000 in
theorem ini_9 (d : Nat) {c1 c2 c3 c4 c5 c6 c7 c8 c9 c10 c11 c12 c13 c14 c15 c16 c17 c18 c19 c20 : ac_T} {v1 : Option Value} {Q : Option Value → hp_T → Prop} (kk : V mX7_init (d + 1) 32 2140 Q 22 295 73 [some (.ref 0), v1] [] [.inr (5, [.ref 1, .ref 6, .ref 19, .ref 21, .null, .null, .null, .null, .null, .int 0, .int 0, .int 0]), c1, c2, c3, c4, c5, c6, c7, c8, c9, c10, c11, c12, c13, c14, c15, c16, c17, c18, c19, c20, .inr (2, [.ref 22, .int 0]), .inl (16, .inl (fun _ => 0))]) : V mX7_init (d + 1) 32 2140 Q 20 277 62 [some (.ref 0), v1] [] [.inr (5, [.ref 1, .ref 6, .ref 19, .null, .null, .null, .null, .null, .null, .int 0, .int 0, .int 0]), c1, c2, c3, c4, c5, c6, c7, c8, c9, c10, c11, c12, c13, c14, c15, c16, c17, c18, c19, c20] := by
  refine V.s omX7_init rfl rfl ?_
  refine V.new omX7_init rfl (by decide) (by decide) ?_
  refine V.s omX7_init rfl rfl ?_
  refine V.cI omX7_init omX4_init (c_X4_init (h := [.inr (5, [.ref 1, .ref 6, .ref 19, .null, .null, .null, .null, .null, .null, .int 0, .int 0, .int 0]), c1, c2, c3, c4, c5, c6, c7, c8, c9, c10, c11, c12, c13, c14, c15, c16, c17, c18, c19, c20]) d) rfl rfl rfl rfl rfl rfl rfl (by decide) (by decide) (fun r h' hQ => ?_)
  obtain ⟨rfl, rfl⟩ := hQ
  show V mX7_init (d + 1) 32 2140 _ 22 295 _ _ _ [.inr (5, [.ref 1, .ref 6, .ref 19, .null, .null, .null, .null, .null, .null, .int 0, .int 0, .int 0]), c1, c2, c3, c4, c5, c6, c7, c8, c9, c10, c11, c12, c13, c14, c15, c16, c17, c18, c19, c20, .inr (2, [.ref 22, .int 0]), .inl (16, .inl (fun _ => 0))]
  refine V.pfF ([.inr (5, [.ref 1, .ref 6, .ref 19, .ref 21, .null, .null, .null, .null, .null, .int 0, .int 0, .int 0]), c1, c2, c3, c4, c5, c6, c7, c8, c9, c10, c11, c12, c13, c14, c15, c16, c17, c18, c19, c20, .inr (2, [.ref 22, .int 0]), .inl (16, .inl (fun _ => 0))]) omX7_init rfl rfl rfl rfl rfl rfl rfl rfl (show (3 : Nat) < 12 by decide) rfl ?_
  exact kk
set_option maxHeartbeats 4000000 in
set_option maxRecDepth 100000 in
theorem ini_10 (d : Nat) {c1 c2 c3 c4 c5 c6 c7 c8 c9 c10 c11 c12 c13 c14 c15 c16 c17 c18 c19 c20 c21 c22 : ac_T} {v1 : Option Value} {Q : Option Value → hp_T → Prop} (kk : V mX7_init (d + 1) 32 2140 Q 24 309 84 [some (.ref 0), v1] [] [.inr (5, [.ref 1, .ref 6, .ref 19, .ref 21, .ref 23, .null, .null, .null, .null, .int 0, .int 0, .int 0]), c1, c2, c3, c4, c5, c6, c7, c8, c9, c10, c11, c12, c13, c14, c15, c16, c17, c18, c19, c20, c21, c22, .inr (1, [.ref 24, .int 0, .int 0, .int 0, .int 0, .int 0, .int 0, .long 0, .int 0, .int 0]), .inl (4, .inl (fun _ => 0))]) : V mX7_init (d + 1) 32 2140 Q 22 295 73 [some (.ref 0), v1] [] [.inr (5, [.ref 1, .ref 6, .ref 19, .ref 21, .null, .null, .null, .null, .null, .int 0, .int 0, .int 0]), c1, c2, c3, c4, c5, c6, c7, c8, c9, c10, c11, c12, c13, c14, c15, c16, c17, c18, c19, c20, c21, c22] := by
  refine V.s omX7_init rfl rfl ?_
  refine V.new omX7_init rfl (by decide) (by decide) ?_
  refine V.s omX7_init rfl rfl ?_
  refine V.cI omX7_init omX3_init (c_X3_init (h := [.inr (5, [.ref 1, .ref 6, .ref 19, .ref 21, .null, .null, .null, .null, .null, .int 0, .int 0, .int 0]), c1, c2, c3, c4, c5, c6, c7, c8, c9, c10, c11, c12, c13, c14, c15, c16, c17, c18, c19, c20, c21, c22]) d) rfl rfl rfl rfl rfl rfl rfl (by decide) (by decide) (fun r h' hQ => ?_)
  obtain ⟨rfl, rfl⟩ := hQ
  show V mX7_init (d + 1) 32 2140 _ 24 309 _ _ _ [.inr (5, [.ref 1, .ref 6, .ref 19, .ref 21, .null, .null, .null, .null, .null, .int 0, .int 0, .int 0]), c1, c2, c3, c4, c5, c6, c7, c8, c9, c10, c11, c12, c13, c14, c15, c16, c17, c18, c19, c20, c21, c22, .inr (1, [.ref 24, .int 0, .int 0, .int 0, .int 0, .int 0, .int 0, .long 0, .int 0, .int 0]), .inl (4, .inl (fun _ => 0))]
  refine V.pfF ([.inr (5, [.ref 1, .ref 6, .ref 19, .ref 21, .ref 23, .null, .null, .null, .null, .int 0, .int 0, .int 0]), c1, c2, c3, c4, c5, c6, c7, c8, c9, c10, c11, c12, c13, c14, c15, c16, c17, c18, c19, c20, c21, c22, .inr (1, [.ref 24, .int 0, .int 0, .int 0, .int 0, .int 0, .int 0, .long 0, .int 0, .int 0]), .inl (4, .inl (fun _ => 0))]) omX7_init rfl rfl rfl rfl rfl rfl rfl rfl (show (4 : Nat) < 12 by decide) rfl ?_
  exact kk
set_option maxHeartbeats 4000000 in
set_option maxRecDepth 100000 in
theorem ini_11 (d : Nat) {c1 c2 c3 c4 c5 c6 c7 c8 c9 c10 c11 c12 c13 c14 c15 c16 c17 c18 c19 c20 c21 c22 c23 c24 : ac_T} {v1 : Option Value} {Q : Option Value → hp_T → Prop} (kk : V mX7_init (d + 1) 32 2140 Q 26 591 95 [some (.ref 0), v1] [] [.inr (5, [.ref 1, .ref 6, .ref 19, .ref 21, .ref 23, .ref 25, .null, .null, .null, .int 0, .int 0, .int 0]), c1, c2, c3, c4, c5, c6, c7, c8, c9, c10, c11, c12, c13, c14, c15, c16, c17, c18, c19, c20, c21, c22, c23, c24, .inr (0, [.ref 26, .int 0, .int 0]), .inl (279, .inl (fun _ => 0))]) : V mX7_init (d + 1) 32 2140 Q 24 309 84 [some (.ref 0), v1] [] [.inr (5, [.ref 1, .ref 6, .ref 19, .ref 21, .ref 23, .null, .null, .null, .null, .int 0, .int 0, .int 0]), c1, c2, c3, c4, c5, c6, c7, c8, c9, c10, c11, c12, c13, c14, c15, c16, c17, c18, c19, c20, c21, c22, c23, c24] := by
  refine V.s omX7_init rfl rfl ?_
  refine V.new omX7_init rfl (by decide) (by decide) ?_
  refine V.s omX7_init rfl rfl ?_
  refine V.cI omX7_init omX0_init (c_X0_init (h := [.inr (5, [.ref 1, .ref 6, .ref 19, .ref 21, .ref 23, .null, .null, .null, .null, .int 0, .int 0, .int 0]), c1, c2, c3, c4, c5, c6, c7, c8, c9, c10, c11, c12, c13, c14, c15, c16, c17, c18, c19, c20, c21, c22, c23, c24]) d) rfl rfl rfl rfl rfl rfl rfl (by decide) (by decide) (fun r h' hQ => ?_)
  obtain ⟨rfl, rfl⟩ := hQ
  show V mX7_init (d + 1) 32 2140 _ 26 591 _ _ _ [.inr (5, [.ref 1, .ref 6, .ref 19, .ref 21, .ref 23, .null, .null, .null, .null, .int 0, .int 0, .int 0]), c1, c2, c3, c4, c5, c6, c7, c8, c9, c10, c11, c12, c13, c14, c15, c16, c17, c18, c19, c20, c21, c22, c23, c24, .inr (0, [.ref 26, .int 0, .int 0]), .inl (279, .inl (fun _ => 0))]
  refine V.pfF ([.inr (5, [.ref 1, .ref 6, .ref 19, .ref 21, .ref 23, .ref 25, .null, .null, .null, .int 0, .int 0, .int 0]), c1, c2, c3, c4, c5, c6, c7, c8, c9, c10, c11, c12, c13, c14, c15, c16, c17, c18, c19, c20, c21, c22, c23, c24, .inr (0, [.ref 26, .int 0, .int 0]), .inl (279, .inl (fun _ => 0))]) omX7_init rfl rfl rfl rfl rfl rfl rfl rfl (show (5 : Nat) < 12 by decide) rfl ?_
  exact kk
set_option maxHeartbeats 4000000 in
set_option maxRecDepth 100000 in
theorem ini_12 (d : Nat) {c1 c2 c3 c4 c5 c6 c7 c8 c9 c10 c11 c12 c13 c14 c15 c16 c17 c18 c19 c20 c21 c22 c23 c24 c25 c26 : ac_T} {v1 : Option Value} {Q : Option Value → hp_T → Prop} (kk : V mX7_init (d + 1) 32 2140 Q 30 2115 106 [some (.ref 0), v1] [] [.inr (5, [.ref 1, .ref 6, .ref 19, .ref 21, .ref 23, .ref 25, .ref 27, .null, .null, .int 0, .int 0, .int 0]), c1, c2, c3, c4, c5, c6, c7, c8, c9, c10, c11, c12, c13, c14, c15, c16, c17, c18, c19, c20, c21, c22, c23, c24, c25, c26, .inr (4, [.ref 28, .ref 29, .ref 30, .int 0, .int (-1)]), .inl (961, .inl (fun _ => 0)), .inl (279, .inl (fun _ => 0)), .inl (279, .inl (fun _ => 0))]) : V mX7_init (d + 1) 32 2140 Q 26 591 95 [some (.ref 0), v1] [] [.inr (5, [.ref 1, .ref 6, .ref 19, .ref 21, .ref 23, .ref 25, .null, .null, .null, .int 0, .int 0, .int 0]), c1, c2, c3, c4, c5, c6, c7, c8, c9, c10, c11, c12, c13, c14, c15, c16, c17, c18, c19, c20, c21, c22, c23, c24, c25, c26] := by
  refine V.s omX7_init rfl rfl ?_
  refine V.new omX7_init rfl (by decide) (by decide) ?_
  refine V.s omX7_init rfl rfl ?_
  refine V.cI omX7_init omX6_init (c_X6_init (h := [.inr (5, [.ref 1, .ref 6, .ref 19, .ref 21, .ref 23, .ref 25, .null, .null, .null, .int 0, .int 0, .int 0]), c1, c2, c3, c4, c5, c6, c7, c8, c9, c10, c11, c12, c13, c14, c15, c16, c17, c18, c19, c20, c21, c22, c23, c24, c25, c26]) d) rfl rfl rfl rfl rfl rfl rfl (by decide) (by decide) (fun r h' hQ => ?_)
  obtain ⟨rfl, rfl⟩ := hQ
  show V mX7_init (d + 1) 32 2140 _ 30 2115 _ _ _ [.inr (5, [.ref 1, .ref 6, .ref 19, .ref 21, .ref 23, .ref 25, .null, .null, .null, .int 0, .int 0, .int 0]), c1, c2, c3, c4, c5, c6, c7, c8, c9, c10, c11, c12, c13, c14, c15, c16, c17, c18, c19, c20, c21, c22, c23, c24, c25, c26, .inr (4, [.ref 28, .ref 29, .ref 30, .int 0, .int (-1)]), .inl (961, .inl (fun _ => 0)), .inl (279, .inl (fun _ => 0)), .inl (279, .inl (fun _ => 0))]
  refine V.pfF ([.inr (5, [.ref 1, .ref 6, .ref 19, .ref 21, .ref 23, .ref 25, .ref 27, .null, .null, .int 0, .int 0, .int 0]), c1, c2, c3, c4, c5, c6, c7, c8, c9, c10, c11, c12, c13, c14, c15, c16, c17, c18, c19, c20, c21, c22, c23, c24, c25, c26, .inr (4, [.ref 28, .ref 29, .ref 30, .int 0, .int (-1)]), .inl (961, .inl (fun _ => 0)), .inl (279, .inl (fun _ => 0)), .inl (279, .inl (fun _ => 0))]) omX7_init rfl rfl rfl rfl rfl rfl rfl rfl (show (6 : Nat) < 12 by decide) rfl ?_
  exact kk
set_option maxHeartbeats 4000000 in
set_option maxRecDepth 100000 in
theorem ini_13 (d : Nat) {c1 c2 c3 c4 c5 c6 c7 c8 c9 c10 c11 c12 c13 c14 c15 c16 c17 c18 c19 c20 c21 c22 c23 c24 c25 c26 c27 c28 c29 c30 : ac_T} {v1 : Option Value} {Q : Option Value → hp_T → Prop} (kk : V mX7_init (d + 1) 32 2140 Q 31 2131 114 [some (.ref 0), v1] [] [.inr (5, [.ref 1, .ref 6, .ref 19, .ref 21, .ref 23, .ref 25, .ref 27, .ref 31, .null, .int 0, .int 0, .int 0]), c1, c2, c3, c4, c5, c6, c7, c8, c9, c10, c11, c12, c13, c14, c15, c16, c17, c18, c19, c20, c21, c22, c23, c24, c25, c26, c27, c28, c29, c30, .inl (16, .inl (fun _ => 0))]) : V mX7_init (d + 1) 32 2140 Q 30 2115 106 [some (.ref 0), v1] [] [.inr (5, [.ref 1, .ref 6, .ref 19, .ref 21, .ref 23, .ref 25, .ref 27, .null, .null, .int 0, .int 0, .int 0]), c1, c2, c3, c4, c5, c6, c7, c8, c9, c10, c11, c12, c13, c14, c15, c16, c17, c18, c19, c20, c21, c22, c23, c24, c25, c26, c27, c28, c29, c30] := by
  iterate 2 (refine V.s omX7_init rfl rfl ?_)
  refine V.newI (N := 16) omX7_init rfl (by decide) (by decide) (by decide) (by decide) (by decide) ?_
  refine V.pfF ([.inr (5, [.ref 1, .ref 6, .ref 19, .ref 21, .ref 23, .ref 25, .ref 27, .ref 31, .null, .int 0, .int 0, .int 0]), c1, c2, c3, c4, c5, c6, c7, c8, c9, c10, c11, c12, c13, c14, c15, c16, c17, c18, c19, c20, c21, c22, c23, c24, c25, c26, c27, c28, c29, c30, .inl (16, .inl (fun _ => 0))]) omX7_init rfl rfl rfl rfl rfl rfl rfl rfl (show (7 : Nat) < 12 by decide) rfl ?_
  exact kk
set_option maxHeartbeats 4000000 in
set_option maxRecDepth 100000 in
theorem ini_14 (d : Nat) {c1 c2 c3 c4 c5 c6 c7 c8 c9 c10 c11 c12 c13 c14 c15 c16 c17 c18 c19 c20 c21 c22 c23 c24 c25 c26 c27 c28 c29 c30 c31 : ac_T} {v1 : Option Value} {Q : Option Value → hp_T → Prop} (kk : V mX7_init (d + 1) 32 2140 Q 32 2140 122 [some (.ref 0), v1] [] [.inr (5, [.ref 1, .ref 6, .ref 19, .ref 21, .ref 23, .ref 25, .ref 27, .ref 31, .ref 32, .int 0, .int 0, .int 0]), c1, c2, c3, c4, c5, c6, c7, c8, c9, c10, c11, c12, c13, c14, c15, c16, c17, c18, c19, c20, c21, c22, c23, c24, c25, c26, c27, c28, c29, c30, c31, .inl (9, .inl (fun _ => 0))]) : V mX7_init (d + 1) 32 2140 Q 31 2131 114 [some (.ref 0), v1] [] [.inr (5, [.ref 1, .ref 6, .ref 19, .ref 21, .ref 23, .ref 25, .ref 27, .ref 31, .null, .int 0, .int 0, .int 0]), c1, c2, c3, c4, c5, c6, c7, c8, c9, c10, c11, c12, c13, c14, c15, c16, c17, c18, c19, c20, c21, c22, c23, c24, c25, c26, c27, c28, c29, c30, c31] := by
  iterate 2 (refine V.s omX7_init rfl rfl ?_)
  refine V.newI (N := 9) omX7_init rfl (by decide) (by decide) (by decide) (by decide) (by decide) ?_
  refine V.pfF ([.inr (5, [.ref 1, .ref 6, .ref 19, .ref 21, .ref 23, .ref 25, .ref 27, .ref 31, .ref 32, .int 0, .int 0, .int 0]), c1, c2, c3, c4, c5, c6, c7, c8, c9, c10, c11, c12, c13, c14, c15, c16, c17, c18, c19, c20, c21, c22, c23, c24, c25, c26, c27, c28, c29, c30, c31, .inl (9, .inl (fun _ => 0))]) omX7_init rfl rfl rfl rfl rfl rfl rfl rfl (show (8 : Nat) < 12 by decide) rfl ?_
  exact kk
def h33 : hp_T := [.inr (5, [.ref 1, .ref 6, .ref 19, .ref 21, .ref 23, .ref 25, .ref 27, .ref 31, .ref 32, .int 0, .int 0, .int 0]), .inr (3, [.ref 2, .ref 3, .ref 4, .ref 5, .int 0]), .inl (80, .inl (fun _ => 0)), .inl (20, .inl (fun _ => 0)), .inl (20, .inl (fun _ => 0)), .inl (20, .inl (fun _ => 0)), .inl (6, .inr (.inr (.inr (.inr (va_up (va_up (va_up (va_up (va_up (va_up (fun _ => none) 0 (some 7)) 1 (some 9)) 2 (some 11)) 3 (some 13)) 4 (some 15)) 5 (some 17)))))), .inr (2, [.ref 8, .int 0]), .inl (16, .inl (fun _ => 0)), .inr (2, [.ref 10, .int 0]), .inl (16, .inl (fun _ => 0)), .inr (2, [.ref 12, .int 0]), .inl (16, .inl (fun _ => 0)), .inr (2, [.ref 14, .int 0]), .inl (16, .inl (fun _ => 0)), .inr (2, [.ref 16, .int 0]), .inl (16, .inl (fun _ => 0)), .inr (2, [.ref 18, .int 0]), .inl (16, .inl (fun _ => 0)), .inr (2, [.ref 20, .int 0]), .inl (16, .inl (fun _ => 0)), .inr (2, [.ref 22, .int 0]), .inl (16, .inl (fun _ => 0)), .inr (1, [.ref 24, .int 0, .int 0, .int 0, .int 0, .int 0, .int 0, .long 0, .int 0, .int 0]), .inl (4, .inl (fun _ => 0)), .inr (0, [.ref 26, .int 0, .int 0]), .inl (279, .inl (fun _ => 0)), .inr (4, [.ref 28, .ref 29, .ref 30, .int 0, .int (-1)]), .inl (961, .inl (fun _ => 0)), .inl (279, .inl (fun _ => 0)), .inl (279, .inl (fun _ => 0)), .inl (16, .inl (fun _ => 0)), .inl (9, .inl (fun _ => 0))]
set_option maxHeartbeats 4000000 in
set_option maxRecDepth 100000 in
theorem c_X7_init (d : Nat) : C mX7_init (d + 1) 32 2140 [.ref 0] [.inr (5, dfL 5)] (fun r h' => h' = h33 ∧ r = none) := by
  refine C.of [some (.ref 0), none] omX7_init rfl rfl rfl ?_
  refine V.s omX7_init rfl rfl ?_
  refine V.oi omX7_init rfl rfl rfl ?_
  refine ini_1 d ?_
  iterate 2 (refine V.s omX7_init rfl rfl ?_)
  refine V.anew (N := 6) omX7_init rfl (by decide) (by decide) (by decide) (by decide) (by decide) ?_
  refine V.pfF ([.inr (5, [.ref 1, .ref 6, .null, .null, .null, .null, .null, .null, .null, .int 0, .int 0, .int 0]), .inr (3, [.ref 2, .ref 3, .ref 4, .ref 5, .int 0]), .inl (80, .inl (fun _ => 0)), .inl (20, .inl (fun _ => 0)), .inl (20, .inl (fun _ => 0)), .inl (20, .inl (fun _ => 0)), .inl (6, .inr (.inr (.inr (.inr (fun _ => none)))))]) omX7_init rfl rfl rfl rfl rfl rfl rfl rfl (show (1 : Nat) < 12 by decide) rfl ?_
  iterate 2 (refine V.s omX7_init rfl rfl ?_)
  refine ini_2 d ?_
  refine ini_3 d ?_
  refine ini_4 d ?_
  refine ini_5 d ?_
  refine ini_6 d ?_
  refine ini_7 d ?_
  iterate 2 (refine V.s omX7_init rfl rfl ?_)
  refine V.brT omX7_init rfl rfl (by decide) (by decide) ?_
  refine ini_8 d ?_
  refine ini_9 d ?_
  refine ini_10 d ?_
  refine ini_11 d ?_
  refine ini_12 d ?_
  refine ini_13 d ?_
  refine ini_14 d ?_
  exact V.vret omX7_init rfl rfl ⟨rfl, rfl⟩
def A0 : Nat → Nat → Int32 := va_up (va_up (fun _ _ => 0) 27 (upd (fun _ => 0) 4 (-1))) 33 (upd (fun _ => 0) 25 (-1))
def B0 : Nat → Nat → Int64 := fun _ _ => 0
set_option maxHeartbeats 4000000 in
set_option maxRecDepth 100000 in
theorem c_X8_start (d : Nat) : C mX8_init d 17 1621 [.ref 33] (h33 ++ [.inr (6, dfL 6)]) (fun r h' => h' = hp A0 B0 ∧ r = none) := by
  have h1 := c_X8_init (h := h33) d
  exact h1
end INI
end
section
section REL
variable {A A' : Nat → Nat → Int32} {B : Nat → Nat → Int64}
def selR (q k : Nat) : Prop := q = 1 ∨ q = 2 ∨ q = 3 ∨ q = 4 ∨ q = 5 ∨ q = 34 ∨ q = 35 ∨ q = 36 ∨ q = 37 ∨ (q = 33 ∧ k = 5)
def selK (q k : Nat) : Prop := q = 8 ∨ q = 10 ∨ q = 12 ∨ q = 14 ∨ q = 16 ∨ q = 18 ∨ q = 38 ∨ (q = 0 ∧ k = 9) ∨ (q = 33 ∧ k = 6)
def selM (q k : Nat) : Prop := q = 32 ∨ q = 39 ∨ q = 31 ∨ q = 49 ∨ (q = 0 ∧ k = 10) ∨ (q = 0 ∧ k = 11) ∨ (q = 33 ∧ k = 7) ∨ (q = 33 ∧ k = 28)
def selW (q k : Nat) : Prop := q = 30 ∨ q = 48 ∨ q = 25 ∨ q = 26 ∨ (q = 27 ∧ k = 4) ∨ (q = 33 ∧ k = 25)
def lawR (N : Nat → Int32) (r : Nat) : Prop := lawP (N (4 * r)) (N (4 * r + 1)) (N (4 * r + 2)) (N (4 * r + 3))
def KS (f : Nat → Int32) : Prop := lawsF f = 1 ∧ tchF f = 1
def RelR (A : Nat → Nat → Int32) (n : Nat) : Prop := n ≤ 20 ∧ A 1 4 = nI n ∧ A 33 5 = nI n ∧ A 34 = A 2 ∧ A 35 = A 3 ∧ A 36 = A 4 ∧ A 37 = A 5 ∧ ∀ r, r < n → lawR (A 2) r
def RelK (A : Nat → Nat → Int32) (m : Nat) : Prop := m ≤ 6 ∧ A 0 9 = nI m ∧ A 33 6 = nI m ∧ (∀ k, k < 6 → ∀ i, i < 16 → A 38 (16 * k + i) = A (8 + 2 * k) i) ∧ ∀ k, k < m → KS (A (8 + 2 * k))
def RelM (A : Nat → Nat → Int32) : Prop := A 39 = A 32 ∧ A 33 7 = A 0 10 ∧ A 33 28 = A 0 11 ∧ (A 0 11 = 0 ∨ A 0 11 = 1) ∧ ∀ i, i < 16 → A 49 i = A 31 i
def RelW (A : Nat → Nat → Int32) : Prop := A 33 25 = A 27 4 ∧ (A 27 4 < 0 ∨ ∃ L, L < 279 ∧ A 27 4 = nI L ∧ ∀ i, i ≤ L → A 48 i = A 30 i) ∧ FC A
def Rel (A : Nat → Nat → Int32) : Prop := (∃ n, RelR A n) ∧ (∃ m, RelK A m) ∧ RelM A ∧ RelW A
theorem RelR_c {n : Nat} (e : ∀ q k, selR q k → A' q k = A q k) (h : RelR A n) : RelR A' n := by
  obtain ⟨h0, h1, h2, h3, h4, h5, h6, h7⟩ := h
  have e1 : A' 1 = A 1 := funext (fun k => e 1 k (by unfold selR; omega))
  have e2 : A' 2 = A 2 := funext (fun k => e 2 k (by unfold selR; omega))
  have e3 : A' 3 = A 3 := funext (fun k => e 3 k (by unfold selR; omega))
  have e4 : A' 4 = A 4 := funext (fun k => e 4 k (by unfold selR; omega))
  have e5 : A' 5 = A 5 := funext (fun k => e 5 k (by unfold selR; omega))
  have e34 : A' 34 = A 34 := funext (fun k => e 34 k (by unfold selR; omega))
  have e35 : A' 35 = A 35 := funext (fun k => e 35 k (by unfold selR; omega))
  have e36 : A' 36 = A 36 := funext (fun k => e 36 k (by unfold selR; omega))
  have e37 : A' 37 = A 37 := funext (fun k => e 37 k (by unfold selR; omega))
  unfold RelR
  rw [e1, e2, e3, e4, e5, e34, e35, e36, e37, e 33 5 (by unfold selR; omega)]
  exact ⟨h0, h1, h2, h3, h4, h5, h6, h7⟩
theorem k6 {k : Nat} (hk : k < 6) : k = 0 ∨ k = 1 ∨ k = 2 ∨ k = 3 ∨ k = 4 ∨ k = 5 := by omega
theorem RelK_c {m : Nat} (e : ∀ q k, selK q k → A' q k = A q k) (h : RelK A m) : RelK A' m := by
  obtain ⟨h0, h1, h2, h3, h4⟩ := h
  have eq : ∀ k, k < 6 → A' (8 + 2 * k) = A (8 + 2 * k) := fun k hk => funext (fun i => e _ i (by unfold selK; omega))
  have e38 : A' 38 = A 38 := funext (fun k => e 38 k (by unfold selK; omega))
  refine ⟨h0, (e 0 9 (by unfold selK; omega)).trans h1, (e 33 6 (by unfold selK; omega)).trans h2, fun k hk i hi => ?_, fun k hk => ?_⟩
  · rw [e38, eq k hk]
    exact h3 k hk i hi
  · rw [eq k (by omega)]
    exact h4 k hk
theorem RelM_c (e : ∀ q k, selM q k → A' q k = A q k) (h : RelM A) : RelM A' := by
  obtain ⟨h1, h2, h3, h4, h5⟩ := h
  have e39 : A' 39 = A 39 := funext (fun k => e 39 k (by unfold selM; omega))
  have e32 : A' 32 = A 32 := funext (fun k => e 32 k (by unfold selM; omega))
  have e31 : A' 31 = A 31 := funext (fun k => e 31 k (by unfold selM; omega))
  have e49 : A' 49 = A 49 := funext (fun k => e 49 k (by unfold selM; omega))
  unfold RelM
  rw [e39, e32, e31, e49, e 33 7 (by unfold selM; omega), e 0 10 (by unfold selM; omega), e 33 28 (by unfold selM; omega), e 0 11 (by unfold selM; omega)]
  exact ⟨h1, h2, h3, h4, h5⟩
theorem RelW_c (e : ∀ q k, selW q k → A' q k = A q k) (h : RelW A) : RelW A' := by
  obtain ⟨h1, h2, h3⟩ := h
  have e30 : A' 30 = A 30 := funext (fun k => e 30 k (by unfold selW; omega))
  have e48 : A' 48 = A 48 := funext (fun k => e 48 k (by unfold selW; omega))
  have e25 : A' 25 = A 25 := funext (fun k => e 25 k (by unfold selW; omega))
  have e26 : A' 26 = A 26 := funext (fun k => e 26 k (by unfold selW; omega))
  unfold RelW FC
  rw [e30, e48, e25, e26, e 33 25 (by unfold selW; omega), e 27 4 (by unfold selW; omega)]
  exact ⟨h1, h2, h3⟩
theorem Rel_c (e : ∀ q k, selR q k ∨ selK q k ∨ selM q k ∨ selW q k → A' q k = A q k) (h : Rel A) : Rel A' := by
  obtain ⟨⟨n, hR⟩, ⟨m, hK⟩, hM, hW⟩ := h
  exact ⟨⟨n, RelR_c (fun q k s => e q k (Or.inl s)) hR⟩, ⟨m, RelK_c (fun q k s => e q k (Or.inr (Or.inl s))) hK⟩, RelM_c (fun q k s => e q k (Or.inr (Or.inr (Or.inl s)))) hM, RelW_c (fun q k s => e q k (Or.inr (Or.inr (Or.inr s)))) hW⟩
theorem va_sel {f : Nat → Nat → Int32} {z : Nat} {g : Nat → Int32} {q k : Nat} (h : q ≠ z) : va_up f z g q k = f q k := by rw [va_up_ne _ _ h]
theorem rf_ne {c q k : Nat} (h : q ≠ 32) : rfA A c q k = A q k := va_sel h
theorem rm_ne {c q k : Nat} (h : q ≠ 39) : rmA A c q k = A q k := va_sel h
theorem rfm_ne {c q k : Nat} (h : q ≠ 32) (g : q ≠ 39) : rmA (rfA A c) c q k = A q k := (rm_ne g).trans (rf_ne h)
theorem RelM_rf (c : Nat) (h : RelM A) : RelM (rmA (rfA A c) c) := by
  obtain ⟨h1, h2, h3, h4, h5⟩ := h
  refine ⟨?_, h2, h3, h4, h5⟩
  show upd (A 39) c (A 39 c + 1) = upd (A 32) c (A 32 c + 1)
  rw [h1]
theorem Rel_rf (c : Nat) (h : Rel A) : Rel (rmA (rfA A c) c) := by
  obtain ⟨⟨n, hR⟩, ⟨m, hK⟩, hM, hW⟩ := h
  refine ⟨⟨n, RelR_c (fun q k s => rfm_ne (by unfold selR at s; omega) (by unfold selR at s; omega)) hR⟩, ⟨m, RelK_c (fun q k s => rfm_ne (by unfold selK at s; omega) (by unfold selK at s; omega)) hK⟩, RelM_rf c hM, RelW_c (fun q k s => rfm_ne (by unfold selW at s; omega) (by unfold selW at s; omega)) hW⟩
/-- a call: the class answers, then the reference; they answer alike, and the relation holds again -/
def Good (M7 M8 : mt_T) (as : List Value) (lg : Bool) : Prop := ∀ A B, Rel A → ∃ d7 Q7, d7 ≤ 50 ∧ C M7 d7 0 0 (.ref 0 :: as) (hp A B) Q7 ∧ ∀ r1 h1, Q7 r1 h1 → ∃ A1 B1 d8 Q8, d8 ≤ 50 ∧ h1 = hp A1 B1 ∧ C M8 d8 0 0 (.ref 33 :: as) (hp A1 B1) Q8 ∧ ∀ r2 h2, Q8 r2 h2 → ∃ A2 B2, h2 = hp A2 B2 ∧ Rel A2 ∧ r1 = r2 ∧ (if lg = true then ∃ v : Int64, r1 = some (.long v) else ∃ v : Int32, r1 = some (.int v))
theorem Good_i {M7 M8 : mt_T} {as : List Value} (d7 d8 : Nat) (h7 : d7 ≤ 50) (h8 : d8 ≤ 50) (h : ∀ A, Rel A → ∃ (v : Int32) (A1 A2 : Nat → Nat → Int32), (∀ B, C M7 d7 0 0 (.ref 0 :: as) (hp A B) (fun r h' => h' = hp A1 B ∧ r = some (.int v))) ∧ (∀ B, C M8 d8 0 0 (.ref 33 :: as) (hp A1 B) (fun r h' => h' = hp A2 B ∧ r = some (.int v))) ∧ Rel A2) : Good M7 M8 as false := by
  intro A B hA
  obtain ⟨v, A1, A2, c7, c8, hR⟩ := h A hA
  refine ⟨d7, _, h7, c7 B, fun r1 h1 q1 => ?_⟩
  obtain ⟨rfl, rfl⟩ := q1
  refine ⟨A1, B, d8, _, h8, rfl, c8 B, fun r2 h2 q2 => ?_⟩
  obtain ⟨rfl, rfl⟩ := q2
  exact ⟨A2, B, rfl, hR, rfl, v, rfl⟩
theorem Good_l {M7 M8 : mt_T} {as : List Value} (d7 d8 : Nat) (h7 : d7 ≤ 50) (h8 : d8 ≤ 50) (h : ∀ A, Rel A → ∃ (v : Int64) (A1 A2 : Nat → Nat → Int32), (∀ B, C M7 d7 0 0 (.ref 0 :: as) (hp A B) (fun r h' => h' = hp A1 B ∧ r = some (.long v))) ∧ (∀ B, C M8 d8 0 0 (.ref 33 :: as) (hp A1 B) (fun r h' => h' = hp A2 B ∧ r = some (.long v))) ∧ Rel A2) : Good M7 M8 as true := by
  intro A B hA
  obtain ⟨v, A1, A2, c7, c8, hR⟩ := h A hA
  refine ⟨d7, _, h7, c7 B, fun r1 h1 q1 => ?_⟩
  obtain ⟨rfl, rfl⟩ := q1
  refine ⟨A1, B, d8, _, h8, rfl, c8 B, fun r2 h2 q2 => ?_⟩
  obtain ⟨rfl, rfl⟩ := q2
  exact ⟨A2, B, rfl, hR, rfl, v, rfl⟩
/-! a round more -/
theorem putN_0 {f : Nat → Int32} {n : Nat} {a b x y : Int32} : putN f n a b x y (4 * n) = a ∧ putN f n a b x y (4 * n + 1) = b ∧ putN f n a b x y (4 * n + 2) = x ∧ putN f n a b x y (4 * n + 3) = y := by
  unfold putN
  refine ⟨?_, ?_, ?_, pk_us⟩
  · rw [pk_un (by omega), pk_un (by omega), pk_un (by omega), pk_us]
  · rw [pk_un (by omega), pk_un (by omega), pk_us]
  · rw [pk_un (by omega), pk_us]
theorem putN_ne {f : Nat → Int32} {n k : Nat} {a b x y : Int32} (h : k < 4 * n) : putN f n a b x y k = f k := by
  unfold putN
  rw [pk_un (by omega), pk_un (by omega), pk_un (by omega), pk_un (by omega)]
theorem RelR_put {n : Nat} (hn : n < 20) {kd a b x y : Int32} (hl : lawP a b x y) (h : RelR A n) : RelR (adA (putA A n kd a b x y) n kd a b x y) (n + 1) := by
  obtain ⟨h0, h1, h2, h3, h4, h5, h6, h7⟩ := h
  refine ⟨by omega, rfl, rfl, ?_, ?_, h5, h6, ?_⟩
  · show putN (A 34) n a b x y = putN (A 2) n a b x y
    rw [h3]
  · show upd (A 35) n kd = upd (A 3) n kd
    rw [h4]
  · intro r hr
    show lawR (putN (A 2) n a b x y) r
    unfold lawR
    by_cases e : r = n
    · subst e
      obtain ⟨p0, p1, p2, p3⟩ := putN_0 (f := A 2) (n := r) (a := a) (b := b) (x := x) (y := y)
      rw [p0, p1, p2, p3]
      exact hl
    · rw [putN_ne (by omega), putN_ne (by omega), putN_ne (by omega), putN_ne (by omega)]
      exact h7 r (by omega)
theorem put_ne {n : Nat} {kd a b x y : Int32} {q k : Nat} (h : ¬ selR q k) (g : ¬ q = 33) : adA (putA A n kd a b x y) n kd a b x y q k = A q k := by
  unfold selR at h
  unfold adA putA
  rw [va_sel (by omega), va_sel (by omega), va_sel (by omega), va_sel (by omega), va_sel (by omega), va_sel (by omega)]
theorem put_33 {n : Nat} {kd a b x y : Int32} {k : Nat} (h : k ≠ 5) : adA (putA A n kd a b x y) n kd a b x y 33 k = A 33 k := by
  show upd (A 33) 5 _ k = _
  exact pk_un h
theorem put_s {n : Nat} {kd a b x y : Int32} {q k : Nat} (h : ¬ selR q k) : adA (putA A n kd a b x y) n kd a b x y q k = A q k := by
  by_cases g : q = 33
  · subst g
    exact put_33 (by unfold selR at h; omega)
  · exact put_ne h g
theorem Rel_put {n : Nat} (hn : n < 20) {kd a b x y : Int32} (hl : lawP a b x y) (hR : RelR A n) (h : Rel A) : Rel (adA (putA A n kd a b x y) n kd a b x y) := by
  obtain ⟨-, ⟨m, hK⟩, hM, hW⟩ := h
  exact ⟨⟨n + 1, RelR_put hn hl hR⟩, ⟨m, RelK_c (fun q k s => put_s (by unfold selK at s; unfold selR; omega)) hK⟩, RelM_c (fun q k s => put_s (by unfold selM at s; unfold selR; omega)) hM, RelW_c (fun q k s => put_s (by unfold selW at s; unfold selR; omega)) hW⟩
theorem g_round (a b x y : Int32) : Good mX7_round mX8_round [.int a, .int b, .int x, .int y] false := by
  refine Good_i 2 2 (by decide) (by decide) (fun A hA => ?_)
  obtain ⟨n, hR⟩ := hA.1
  have hR0 := hR
  obtain ⟨h0, h1, h2, h3, h4, h5, h6, h7⟩ := hR
  have e : (s8_round (s7_round A n a b x y).2 n a b x y).1 = (s7_round A n a b x y).1 ∧ Rel (s8_round (s7_round A n a b x y).2 n a b x y).2 ∧ (s7_round A n a b x y).2 33 5 = nI n := by
    unfold s8_round s7_round
    by_cases c1 : lawP a b x y
    · by_cases c2 : n < 20
      · simp only [if_pos c1, if_pos c2]
        exact ⟨(by first | trivial | rfl), Rel_put c2 c1 hR0 hA, h2⟩
      · simp only [if_pos c1, if_neg c2]
        exact ⟨(by first | trivial | rfl), Rel_rf 8 hA, h2⟩
    · simp only [if_neg c1]
      exact ⟨(by first | trivial | rfl), Rel_rf 7 hA, h2⟩
  refine ⟨_, _, _, fun B => c7_round 0 h1 h0 a b x y, fun B => ?_, e.2.1⟩
  rw [← e.1]
  exact c8_round 0 e.2.2 h0 a b x y
theorem g_drop : Good mX7_drop mX8_drop [] false := by
  refine Good_i 1 1 (by decide) (by decide) (fun A hA => ?_)
  obtain ⟨n, hR⟩ := hA.1
  have hR0 := hR
  obtain ⟨h0, h1, h2, h3, h4, h5, h6, h7⟩ := hR
  have e : (s8_drop (s7_drop A n).2 n).1 = (s7_drop A n).1 ∧ Rel (s8_drop (s7_drop A n).2 n).2 ∧ (s7_drop A n).2 33 5 = nI n := by
    unfold s8_drop s7_drop
    by_cases c1 : n = 0
    · simp only [if_pos c1]
      exact ⟨(by first | trivial | rfl), Rel_rf 2 hA, h2⟩
    · simp only [if_neg c1]
      refine ⟨(by first | trivial | rfl), ?_, h2⟩
      have ne : ∀ q k, ¬ selR q k → va_up (va_up A 1 (upd (A 1) 4 (nI (n - 1)))) 33 (upd (va_up A 1 (upd (A 1) 4 (nI (n - 1))) 33) 5 (nI (n - 1))) q k = A q k := by
        intro q k s
        unfold selR at s
        by_cases g : q = 33
        · subst g
          show upd (A 33) 5 _ k = _
          exact pk_un (by omega)
        · rw [va_sel g, va_sel (by omega)]
      obtain ⟨-, ⟨m, hK⟩, hM, hW⟩ := hA
      refine ⟨⟨n - 1, by omega, rfl, rfl, h3, h4, h5, h6, fun r hr => h7 r (by omega)⟩, ⟨m, RelK_c (fun q k s => ne q k (by unfold selK at s; unfold selR; omega)) hK⟩, RelM_c (fun q k s => ne q k (by unfold selM at s; unfold selR; omega)) hM, RelW_c (fun q k s => ne q k (by unfold selW at s; unfold selR; omega)) hW⟩
  refine ⟨_, _, _, fun B => c7_drop 0 h1 h0, fun B => ?_, e.2.1⟩
  rw [← e.1]
  exact c8_drop 0 e.2.2 h0
theorem g_look (r w : Int32) : Good mX7_look mX8_look [.int r, .int w] false := by
  refine Good_i 1 2 (by decide) (by decide) (fun A hA => ?_)
  obtain ⟨n, hR⟩ := hA.1
  obtain ⟨h0, h1, h2, h3, h4, h5, h6, h7⟩ := hR
  have e : (s8_look (s7_look A n r w).2 n r w).1 = (s7_look A n r w).1 ∧ Rel (s8_look (s7_look A n r w).2 n r w).2 ∧ (s7_look A n r w).2 33 5 = nI n := by
    have k3 : ∀ c, rfA A c 35 = A 3 := fun c => h4
    unfold s8_look s7_look
    by_cases c1 : 0 ≤ r ∧ r < nI n
    · by_cases c2 : (w = 5 ∨ w = 6) ∧ ¬ A 3 (cl r) = 2
      · simp only [if_pos c1, if_pos c2, k3]
        exact ⟨(by first | trivial | rfl), Rel_rf 5 hA, h2⟩
      · by_cases c3 : 0 ≤ w ∧ w ≤ 6
        · simp only [if_pos c1, if_neg c2, if_pos c3, h4, h3, h5, h6]
          exact ⟨(by first | trivial | rfl), hA, h2⟩
        · simp only [if_pos c1, if_neg c2, if_neg c3, k3]
          exact ⟨(by first | trivial | rfl), Rel_rf 7 hA, h2⟩
    · simp only [if_neg c1]
      exact ⟨(by first | trivial | rfl), Rel_rf 3 hA, h2⟩
  refine ⟨_, _, _, fun B => c7_look 0 h1 h0 r w, fun B => ?_, e.2.1⟩
  rw [← e.1]
  exact c8_look 0 e.2.2 h0 r w
theorem g_product (r w : Int32) : Good mX7_product mX8_product [.int r, .int w] true := by
  refine Good_l 2 2 (by decide) (by decide) (fun A hA => ?_)
  obtain ⟨n, hR⟩ := hA.1
  obtain ⟨h0, h1, h2, h3, h4, h5, h6, h7⟩ := hR
  have e : (s8_product (s7_product A n r w).2 n r w).1 = (s7_product A n r w).1 ∧ Rel (s8_product (s7_product A n r w).2 n r w).2 ∧ (s7_product A n r w).2 33 5 = nI n := by
    unfold s8_product s7_product cl
    by_cases c1 : (0 ≤ r ∧ r < nI n) ∧ (0 ≤ w ∧ w < nI n)
    · simp only [if_pos c1, h3]
      exact ⟨(by first | trivial | rfl), hA, h2⟩
    · simp only [if_neg c1]
      exact ⟨(by first | trivial | rfl), Rel_rf 3 hA, h2⟩
  refine ⟨_, _, _, fun B => c7_product 0 h1 h0 r w, fun B => ?_, e.2.1⟩
  rw [← e.1]
  exact c8_product 0 e.2.2 h0 r w
theorem mt_eq (v : Int64) : mt8 v = mtF v := by
  unfold mt8 mtF
  by_cases h1 : v = -2
  · subst h1; decide
  by_cases h2 : v = 2
  · subst h2; decide
  by_cases h3 : v = 0
  · subst h3; decide
  by_cases h4 : v = 1
  · subst h4; decide
  by_cases h5 : v = -1
  · subst h5; decide
  rw [if_neg h1, if_neg h2, if_neg h3, if_neg (fun g => g.elim h4 h5)]
  have key : ∀ x : Int, v.toInt ≠ x ∨ v = Int64.ofInt x := by
    intro x
    by_cases h : v.toInt = x
    · right
      rw [← h]
      exact (Int64.ofInt_toInt v).symm
    · exact Or.inl h
  have k1 := (key (-2)).resolve_right (fun g => h1 (g.trans (by decide)))
  have k2 := (key 2).resolve_right h2
  have k3 := (key 0).resolve_right h3
  have k4 := (key 1).resolve_right h4
  have k5 := (key (-1)).resolve_right (fun g => h5 (g.trans (by decide)))
  by_cases h6 : v < 0
  · have g := Int64.lt_iff_toInt_lt.mp h6
    rw [show (0 : Int64).toInt = 0 from rfl] at g
    rw [if_pos h6, if_pos (Int64.lt_iff_toInt_lt.mpr (by rw [show (-2 : Int64).toInt = -2 from rfl]; omega))]
  · have g : ¬ v.toInt < 0 := fun q => h6 (Int64.lt_iff_toInt_lt.mpr (by rw [show (0 : Int64).toInt = 0 from rfl]; exact q))
    rw [if_neg h6, if_neg (fun q => by have := Int64.lt_iff_toInt_lt.mp q; rw [show (-2 : Int64).toInt = -2 from rfl] at this; omega), if_pos (Int64.lt_iff_toInt_lt.mpr (by rw [show (2 : Int64).toInt = 2 from rfl]; omega))]
theorem g_meet (r w : Int32) : Good mX7_meet mX8_meet [.int r, .int w] false := by
  refine Good_i 2 2 (by decide) (by decide) (fun A hA => ?_)
  obtain ⟨n, hR⟩ := hA.1
  obtain ⟨h0, h1, h2, h3, h4, h5, h6, h7⟩ := hR
  have e : (s8_meet (s7_meet A n r w).2 n r w).1 = (s7_meet A n r w).1 ∧ Rel (s8_meet (s7_meet A n r w).2 n r w).2 ∧ (s7_meet A n r w).2 33 5 = nI n := by
    unfold s8_meet s7_meet
    by_cases c1 : (0 ≤ r ∧ r < nI n) ∧ (0 ≤ w ∧ w < nI n)
    · simp only [if_pos c1, h3, mt_eq]
      exact ⟨(by first | trivial | rfl), hA, h2⟩
    · simp only [if_neg c1]
      exact ⟨(by first | trivial | rfl), Rel_rf 3 hA, h2⟩
  refine ⟨_, _, _, fun B => c7_meet 0 h1 h0 r w, fun B => ?_, e.2.1⟩
  rw [← e.1]
  exact c8_meet 0 e.2.2 h0 r w
end REL
end
section
section REL2
variable {A A' : Nat → Nat → Int32} {B : Nat → Nat → Int64}
theorem kzA {m k i : Nat} (h : RelK A m) (hk : k < 6) (hi : i < 16) : kz (A 38) k i = A (8 + 2 * k) i := h.2.2.2.1 k hk i hi
theorem g_part : Good mX7_part mX8_part [] false := by
  refine Good_i 1 1 (by decide) (by decide) (fun A hA => ?_)
  obtain ⟨m, hK⟩ := hA.2.1
  obtain ⟨h0, h1, h2, h3, h4⟩ := hK
  have e : (s8_part (s7_part A m).2 m).1 = (s7_part A m).1 ∧ Rel (s8_part (s7_part A m).2 m).2 ∧ (s7_part A m).2 33 6 = nI m := by
    unfold s8_part s7_part
    by_cases c1 : m = 0
    · simp only [if_pos c1]
      exact ⟨(by first | trivial | rfl), Rel_rf 2 hA, h2⟩
    · simp only [if_neg c1]
      refine ⟨(by first | trivial | rfl), ?_, h2⟩
      have ne : ∀ q k, ¬ (q = 0 ∧ k = 9) → ¬ (q = 33 ∧ k = 6) → va_up (va_up A 0 (upd (A 0) 9 (nI (m - 1)))) 33 (upd (va_up A 0 (upd (A 0) 9 (nI (m - 1))) 33) 6 (nI (m - 1))) q k = A q k := by
        intro q k s1 s2
        by_cases g : q = 33
        · subst g
          show upd (A 33) 6 _ k = _
          exact pk_un (by omega)
        · rw [va_sel g]
          by_cases g0 : q = 0
          · subst g0
            show upd (A 0) 9 _ k = _
            exact pk_un (by omega)
          · exact va_sel g0
      obtain ⟨⟨n, hR⟩, -, hM, hW⟩ := hA
      refine ⟨⟨n, RelR_c (fun q k s => ne q k (by unfold selR at s; omega) (by unfold selR at s; omega)) hR⟩, ⟨m - 1, by omega, rfl, rfl, fun k hk i hi => ?_, fun k hk => ?_⟩, RelM_c (fun q k s => ne q k (by unfold selM at s; omega) (by unfold selM at s; omega)) hM, RelW_c (fun q k s => ne q k (by unfold selW at s; omega) (by unfold selW at s; omega)) hW⟩
      · rw [ne _ _ (by omega) (by omega), ne _ _ (by omega) (by omega)]
        exact h3 k hk i hi
      · have := h4 k (by omega)
        have eq : va_up (va_up A 0 (upd (A 0) 9 (nI (m - 1)))) 33 (upd (va_up A 0 (upd (A 0) 9 (nI (m - 1))) 33) 6 (nI (m - 1))) (8 + 2 * k) = A (8 + 2 * k) := funext (fun i => ne _ _ (by omega) (by omega))
        rw [eq]
        exact this
  refine ⟨_, _, _, fun B => c7_part 0 h1 h0, fun B => ?_, e.2.1⟩
  rw [← e.1]
  exact c8_part 0 e.2.2 h0
theorem g_of (r p w : Int32) : Good mX7_of mX8_of [.int r, .int p, .int w] false := by
  refine Good_i 2 2 (by decide) (by decide) (fun A hA => ?_)
  obtain ⟨m, hK⟩ := hA.2.1
  have hK0 := hK
  obtain ⟨h0, h1, h2, h3, h4⟩ := hK
  have e : (s8_of (s7_of A m r p w).2 m r p w).1 = (s7_of A m r p w).1 ∧ Rel (s8_of (s7_of A m r p w).2 m r p w).2 ∧ (s7_of A m r p w).2 33 6 = nI m := by
    unfold s8_of s7_of
    by_cases c1 : (0 ≤ r ∧ r < nI m) ∧ 0 ≤ p ∧ p < 4
    · by_cases c2 : 0 ≤ w ∧ w < 4
      · simp only [if_pos c1, if_pos c2]
        obtain ⟨i, hi, rfl⟩ := rng (by omega) c1.1
        obtain ⟨j, hj, rfl⟩ := rng (n := 4) (by omega) c1.2
        obtain ⟨l, hl, rfl⟩ := rng (n := 4) (by omega) c2
        rw [cl_nI (by omega), cl_nI (by omega), cl_nI (by omega), kzA hK0 (by omega) (by omega)]
        exact ⟨(by first | trivial | rfl), hA, h2⟩
      · simp only [if_pos c1, if_neg c2]
        exact ⟨(by first | trivial | rfl), Rel_rf 7 hA, h2⟩
    · simp only [if_neg c1]
      exact ⟨(by first | trivial | rfl), Rel_rf 3 hA, h2⟩
  refine ⟨_, _, _, fun B => c7_of 0 h1 h0 r p w, fun B => ?_, e.2.1⟩
  rw [← e.1]
  exact c8_of 0 e.2.2 h0 r p w
theorem bs_eq {f g : Nat → Int32} (h : ∀ i, i < 16 → f i = g i) : bs8 f = bsm g := by
  unfold bs8 bsm
  rw [h 0 (by omega), h 4 (by omega), h 8 (by omega), h 12 (by omega), Int64.zero_add]
theorem sw_eq {f g : Nat → Int32} (h : ∀ i, i < 16 → f i = g i) {p c : Nat} (hp4 : p < 4) (hc : c < 4) : sw8 f p c = swp g p c := by
  unfold sw8 swp
  rw [h (0 + c) (by omega), h (4 + c) (by omega), h (8 + c) (by omega), h (12 + c) (by omega), h (4 * p + c) (by omega), Nat.zero_add, Int64.zero_add]
  grind
theorem g_height (r : Int32) : Good mX7_height mX8_height [.int r] true := by
  refine Good_l 2 2 (by decide) (by decide) (fun A hA => ?_)
  obtain ⟨m, hK⟩ := hA.2.1
  have hK0 := hK
  obtain ⟨h0, h1, h2, h3, h4⟩ := hK
  have e : (s8_height (s7_height A m r).2 m r).1 = (s7_height A m r).1 ∧ Rel (s8_height (s7_height A m r).2 m r).2 ∧ (s7_height A m r).2 33 6 = nI m := by
    unfold s8_height s7_height
    by_cases c1 : 0 ≤ r ∧ r < nI m
    · simp only [if_pos c1]
      obtain ⟨i, hi, rfl⟩ := rng (by omega) c1
      rw [cl_nI (by omega), bs_eq (fun j hj => kzA hK0 (show i < 6 by omega) hj)]
      exact ⟨(by first | trivial | rfl), hA, h2⟩
    · simp only [if_neg c1]
      exact ⟨(by first | trivial | rfl), Rel_rf 3 hA, h2⟩
  refine ⟨_, _, _, fun B => c7_height 0 h1 h0 r, fun B => ?_, e.2.1⟩
  rw [← e.1]
  exact c8_height 0 e.2.2 h0 r
theorem g_fourth (r p : Int32) : Good mX7_fourth mX8_fourth [.int r, .int p] true := by
  refine Good_l 2 2 (by decide) (by decide) (fun A hA => ?_)
  obtain ⟨m, hK⟩ := hA.2.1
  have hK0 := hK
  obtain ⟨h0, h1, h2, h3, h4⟩ := hK
  have e : (s8_fourth (s7_fourth A m r p).2 m r p).1 = (s7_fourth A m r p).1 ∧ Rel (s8_fourth (s7_fourth A m r p).2 m r p).2 ∧ (s7_fourth A m r p).2 33 6 = nI m := by
    unfold s8_fourth s7_fourth
    by_cases c1 : (0 ≤ r ∧ r < nI m) ∧ 0 ≤ p ∧ p < 4
    · simp only [if_pos c1]
      obtain ⟨i, hi, rfl⟩ := rng (by omega) c1.1
      obtain ⟨j, hj, rfl⟩ := rng (n := 4) (by omega) c1.2
      rw [cl_nI (by omega), cl_nI (by omega), sw_eq (fun j hj => kzA hK0 (show i < 6 by omega) hj) hj (by decide)]
      exact ⟨(by first | trivial | rfl), hA, h2⟩
    · simp only [if_neg c1]
      exact ⟨(by first | trivial | rfl), Rel_rf 3 hA, h2⟩
  refine ⟨_, _, _, fun B => c7_fourth 0 h1 h0 r p, fun B => ?_, e.2.1⟩
  rw [← e.1]
  exact c8_fourth 0 e.2.2 h0 r p
theorem g_led : Good mX7_led mX8_led [] false := by
  refine Good_i 0 0 (by decide) (by decide) (fun A hA => ?_)
  obtain ⟨h1, h2, h3, h4, h5⟩ := hA.2.2.1
  refine ⟨A 0 10, A, A, fun B => c7_led 0, fun B => ?_, hA⟩
  rw [← h2]
  exact c8_led 0
theorem g_tear : Good mX7_tear mX8_tear [] false := by
  refine Good_i 0 0 (by decide) (by decide) (fun A hA => ?_)
  obtain ⟨⟨n, hR⟩, ⟨m, hK⟩, ⟨h1, h2, h3, h4, h5⟩, hW⟩ := hA
  have ne : ∀ q k, ¬ (q = 0 ∧ k = 11) → ¬ (q = 33 ∧ k = 28) → (s8_tear (s7_tear A).2).2 q k = A q k := by
    intro q k s1 s2
    unfold s8_tear s7_tear
    by_cases g : q = 33
    · subst g
      show upd (A 33) 28 _ k = _
      exact pk_un (by omega)
    · show va_up (va_up A 0 _) 33 _ q k = _
      rw [va_sel g]
      by_cases g0 : q = 0
      · subst g0
        show upd (A 0) 11 _ k = _
        exact pk_un (by omega)
      · exact va_sel g0
  refine ⟨_, _, (s8_tear (s7_tear A).2).2, fun B => c7_tear 0 h4, fun B => ?_, ⟨n, RelR_c (fun q k s => ne q k (by unfold selR at s; omega) (by unfold selR at s; omega)) hR⟩, ⟨m, RelK_c (fun q k s => ne q k (by unfold selK at s; omega) (by unfold selK at s; omega)) hK⟩, ⟨h1, h2, rfl, Or.inl rfl, h5⟩, RelW_c (fun q k s => ne q k (by unfold selW at s; omega) (by unfold selW at s; omega)) hW⟩
  have e : (s7_tear A).1 = (s8_tear (s7_tear A).2).1 := h3.symm
  rw [e]
  exact c8_tear 0 (show A 33 28 = 0 ∨ A 33 28 = 1 by rw [h3]; exact h4)
theorem g_row (r : Int32) : Good mX7_row mX8_row [.int r] false := by
  refine Good_i 1 2 (by decide) (by decide) (fun A hA => ?_)
  obtain ⟨h1, h2, h3, h4, h5⟩ := hA.2.2.1
  have e : (s8_row (s7_row A r).2 r).1 = (s7_row A r).1 ∧ Rel (s8_row (s7_row A r).2 r).2 := by
    unfold s8_row s7_row
    by_cases c1 : A 0 11 = 0
    · simp only [if_pos c1]
      have c1' : rfA A 2 33 28 = 0 := h3.trans c1
      simp only [if_pos c1']
      exact ⟨(by first | trivial | rfl), Rel_rf 2 hA⟩
    · have c1' : ¬ A 33 28 = 0 := by rw [h3]; exact c1
      by_cases c2 : 0 ≤ r ∧ r < 16
      · simp only [if_neg c1, if_pos c2, if_neg c1']
        obtain ⟨i, hi, rfl⟩ := rng (n := 16) (by omega) c2
        rw [cl_nI (by omega)]
        exact ⟨h5 i hi, hA⟩
      · have c1'' : ¬ rfA A 3 33 28 = 0 := c1'
        simp only [if_neg c1, if_neg c2, if_neg c1'']
        exact ⟨(by first | trivial | rfl), Rel_rf 3 hA⟩
  refine ⟨_, _, _, fun B => c7_row 0 r, fun B => ?_, e.2⟩
  rw [← e.1]
  exact c8_row 0 r
theorem g_status (r : Int32) : Good mX7_status mX8_status [.int r] false := by
  refine Good_i 1 1 (by decide) (by decide) (fun A hA => ?_)
  obtain ⟨h1, h2, h3, h4, h5⟩ := hA.2.2.1
  have e : (s8_status (s7_status A r).2 r).1 = (s7_status A r).1 ∧ Rel (s8_status (s7_status A r).2 r).2 := by
    unfold s8_status s7_status
    by_cases c1 : r ≤ -2 ∧ -8 ≤ r
    · simp only [if_pos c1, h1]
      exact ⟨(by first | trivial | rfl), hA⟩
    · simp only [if_neg c1]
      exact ⟨(by first | trivial | rfl), Rel_rf 7 hA⟩
  refine ⟨_, _, _, fun B => c7_status 0 r, fun B => ?_, e.2⟩
  rw [← e.1]
  exact c8_status 0 r
theorem g_near (f g : Int32) : Good mX7_near mX8_near [.int f, .int g] false := by
  refine Good_i 2 2 (by decide) (by decide) (fun A hA => ?_)
  have e : (s8_near (s7_near A f g).2 f g).1 = (s7_near A f g).1 ∧ Rel (s8_near (s7_near A f g).2 f g).2 := by
    unfold s8_near s7_near
    by_cases c1 : frF f = 1 ∧ frF g = 1
    · simp only [if_pos c1]
      exact ⟨(by first | trivial | rfl), hA⟩
    · simp only [if_neg c1]
      exact ⟨(by first | trivial | rfl), Rel_rf 7 hA⟩
  refine ⟨_, _, _, fun B => c7_near 0 f g, fun B => ?_, e.2⟩
  rw [← e.1]
  exact c8_near 0 f g
theorem g_between (f g : Int32) : Good mX7_between mX8_between [.int f, .int g] false := by
  refine Good_i 2 2 (by decide) (by decide) (fun A hA => ?_)
  have e : (s8_between (s7_between A f g).2 f g).1 = (s7_between A f g).1 ∧ Rel (s8_between (s7_between A f g).2 f g).2 := by
    unfold s8_between s7_between
    by_cases c1 : frF f = 1 ∧ frF g = 1 ∧ nrP f.toNatClampNeg g.toNatClampNeg
    · by_cases c2 : f.toNatClampNeg % 100 + g.toNatClampNeg % 100 ≤ 99
      · simp only [if_pos c1, if_pos c2]
        exact ⟨(by first | trivial | rfl), hA⟩
      · simp only [if_pos c1, if_neg c2]
        exact ⟨(by first | trivial | rfl), Rel_rf 8 hA⟩
    · simp only [if_neg c1]
      exact ⟨(by first | trivial | rfl), Rel_rf 7 hA⟩
  refine ⟨_, _, _, fun B => c7_between 0 f g, fun B => ?_, e.2⟩
  rw [← e.1]
  exact c8_between 0 f g
theorem g_step (i : Int32) : Good mX7_step mX8_step [.int i] false := by
  refine Good_i 1 1 (by decide) (by decide) (fun A hA => ?_)
  obtain ⟨h1, h2, h3⟩ := hA.2.2.2
  have hb8 : ∀ X : Nat → Nat → Int32, X 33 25 = A 33 25 → (X 33 25 < 0 ∨ ∃ L, L < 300 ∧ X 33 25 = nI L) := by
    intro X hX
    rw [hX, h1]
    rcases h2 with g | ⟨L, g1, g2, -⟩
    · exact Or.inl g
    · exact Or.inr ⟨L, by omega, g2⟩
  have hb7 : A 27 4 < 0 ∨ ∃ L, L < 279 ∧ A 27 4 = nI L := by
    rcases h2 with g | ⟨L, g1, g2, -⟩
    · exact Or.inl g
    · exact Or.inr ⟨L, g1, g2⟩
  have e : (s8_step (s7_step A i).2 i).1 = (s7_step A i).1 ∧ Rel (s8_step (s7_step A i).2 i).2 ∧ (s7_step A i).2 33 25 = A 33 25 := by
    unfold s8_step s7_step
    by_cases c1 : A 27 4 < 0
    · have c1' : rfA A 2 33 25 < 0 := by show A 33 25 < 0; rw [h1]; exact c1
      simp only [if_pos c1, if_pos c1']
      exact ⟨(by first | trivial | rfl), Rel_rf 2 hA, rfl⟩
    · have c1' : ¬ A 33 25 < 0 := by rw [h1]; exact c1
      by_cases c2 : 0 ≤ i ∧ i ≤ A 27 4
      · have c2' : 0 ≤ i ∧ i ≤ A 33 25 := by rw [h1]; exact c2
        simp only [if_neg c1, if_pos c2, if_neg c1', if_pos c2']
        obtain ⟨L, g1, g2, g3⟩ := h2.resolve_left c1
        rw [g2] at c2
        obtain ⟨k, hk, rfl⟩ := inle (show L < 2 ^ 31 by omega) c2
        rw [nI_clamp (by omega)]
        exact ⟨g3 k hk, hA, trivial⟩
      · have c2' : ¬ (0 ≤ i ∧ i ≤ rfA A 3 33 25) := by show ¬ (0 ≤ i ∧ i ≤ A 33 25); rw [h1]; exact c2
        have c1'' : ¬ rfA A 3 33 25 < 0 := c1'
        simp only [if_neg c1, if_neg c2, if_neg c1'', if_neg c2']
        exact ⟨(by first | trivial | rfl), Rel_rf 3 hA, rfl⟩
  refine ⟨_, _, _, fun B => c7_step 0 i hb7, fun B => ?_, e.2.1⟩
  rw [← e.1]
  exact c8_step 0 i (hb8 _ e.2.2)
theorem g_lay (r : Int32) : Good mX7_lay mX8_lay [.int r] false := by
  refine Good_i 1 1 (by decide) (by decide) (fun A hA => ?_)
  obtain ⟨m, hK⟩ := hA.2.1
  have hK0 := hK
  obtain ⟨h0, h1, h2, h3, h4⟩ := hK
  obtain ⟨g1, g2, g3, g4, g5⟩ := hA.2.2.1
  have e : (s8_lay (s7_lay A m r).2 m r).1 = (s7_lay A m r).1 ∧ Rel (s8_lay (s7_lay A m r).2 m r).2 ∧ (s7_lay A m r).2 33 6 = nI m := by
    unfold s8_lay s7_lay
    by_cases c1 : 0 ≤ r ∧ r < nI m
    · simp only [if_pos c1]
      obtain ⟨i, hi, rfl⟩ := rng (by omega) c1
      rw [cl_nI (by omega)]
      refine ⟨(by first | trivial | rfl), ?_, h2⟩
      have ne : ∀ q k, ¬ (q = 31 ∨ q = 49) → ¬ (q = 0 ∧ k = 11) → ¬ (q = 33 ∧ k = 28) → l8A (va_up (va_up A 31 (va_cpy (A (8 + 2 * i)) (A 31) 0 0 16)) 0 (upd (A 0) 11 1)) i q k = A q k := by
        intro q k s0 s1 s2
        unfold l8A
        rw [va_sel (by omega)]
        by_cases g : q = 33
        · subst g
          show upd (A 33) 28 _ k = _
          exact pk_un (by omega)
        · rw [va_sel g]
          by_cases g0 : q = 0
          · subst g0
            show upd (A 0) 11 _ k = _
            exact pk_un (by omega)
          · rw [va_sel g0, va_sel (by omega)]
      obtain ⟨⟨n, hR⟩, -, hM, hW⟩ := hA
      refine ⟨⟨n, RelR_c (fun q k s => ne q k (by unfold selR at s; omega) (by unfold selR at s; omega) (by unfold selR at s; omega)) hR⟩, ⟨m, RelK_c (fun q k s => ne q k (by unfold selK at s; omega) (by unfold selK at s; omega) (by unfold selK at s; omega)) hK0⟩, ⟨g1, g2, rfl, Or.inr rfl, fun j hj => ?_⟩, RelW_c (fun q k s => ne q k (by unfold selW at s; omega) (by unfold selW at s; omega) (by unfold selW at s; omega)) hW⟩
      show va_cpy (A 38) (A 49) (16 * i) 0 16 j = va_cpy (A (8 + 2 * i)) (A 31) 0 0 16 j
      rw [pk_cpy_in (by omega) (by omega), pk_cpy_in (by omega) (by omega), Nat.sub_zero, Nat.zero_add]
      exact h3 i (by omega) j hj
    · simp only [if_neg c1]
      exact ⟨(by first | trivial | rfl), Rel_rf 3 hA, h2⟩
  refine ⟨_, _, _, fun B => c7_lay 0 h1 h0 r, fun B => ?_, e.2.1⟩
  rw [← e.1]
  exact c8_lay 0 e.2.2 h0 r
end REL2
end
section
section ZED
theorem zadd {a b : Int64} (h : -9223372036854775808 ≤ a.toInt + b.toInt) (h2 : a.toInt + b.toInt < 9223372036854775808) : (a + b).toInt = a.toInt + b.toInt := by
  rw [Int64.toInt_add]
  exact Int.bmod_eq_of_le_mul_two (by omega) (by omega)
theorem zsub {a b : Int64} (h : -9223372036854775808 ≤ a.toInt - b.toInt) (h2 : a.toInt - b.toInt < 9223372036854775808) : (a - b).toInt = a.toInt - b.toInt := by
  rw [Int64.toInt_sub]
  exact Int.bmod_eq_of_le_mul_two (by omega) (by omega)
theorem zmul {a b : Int64} (h : -9223372036854775808 ≤ a.toInt * b.toInt) (h2 : a.toInt * b.toInt < 9223372036854775808) : (a * b).toInt = a.toInt * b.toInt := by
  rw [Int64.toInt_mul]
  exact Int.bmod_eq_of_le_mul_two (by omega) (by omega)
theorem zneg {a : Int32} (h : -2147483648 < a.toInt) (h2 : a.toInt < 2147483648) : (-a).toInt = -a.toInt := by
  rw [Int32.toInt_neg]
  exact Int.bmod_eq_of_le_mul_two (by omega) (by omega)
theorem z32 (c : Int32) : c.toInt64.toInt = c.toInt := Int32.toInt_toInt64 c
theorem fit_z {v : Int64} : fitF v = 1 ↔ -1000000000 ≤ v.toInt ∧ v.toInt ≤ 1000000000 := by
  have e : ((-1000000000 : Int64) ≤ v ∧ v ≤ 1000000000) ↔ (-1000000000 ≤ v.toInt ∧ v.toInt ≤ 1000000000) := by
    rw [Int64.le_iff_toInt_le, Int64.le_iff_toInt_le]
    exact Iff.rfl
  unfold fitF
  by_cases h : (-1000000000 : Int64) ≤ v ∧ v ≤ 1000000000
  · rw [if_pos h]
    exact ⟨fun _ => e.mp h, fun _ => rfl⟩
  · rw [if_neg h]
    exact ⟨fun g => absurd g (by decide), fun g => absurd (e.mpr g) h⟩
theorem fit_32 {v : Int64} (h : fitF v = 1) : v.toInt32.toInt = v.toInt := by
  rw [fit_z] at h
  rw [Int64.toInt_toInt32]
  exact Int.bmod_eq_of_le_mul_two (by omega) (by omega)
theorem mulb {a b M N : Int} (h1 : -M ≤ a) (h2 : a ≤ M) (h3 : -N ≤ b) (h4 : b ≤ N) : -(M * N) ≤ a * b ∧ a * b ≤ M * N := by
  have p1 := Int.mul_nonneg (show 0 ≤ M - a by omega) (show 0 ≤ N + b by omega)
  have p2 := Int.mul_nonneg (show 0 ≤ M + a by omega) (show 0 ≤ N - b by omega)
  have p3 := Int.mul_nonneg (show 0 ≤ M - a by omega) (show 0 ≤ N - b by omega)
  have p4 := Int.mul_nonneg (show 0 ≤ M + a by omega) (show 0 ≤ N + b by omega)
  have e1 : (M - a) * (N + b) = M * N + M * b - a * N - a * b := by grind
  have e2 : (M + a) * (N - b) = M * N - M * b + a * N - a * b := by grind
  have e3 : (M - a) * (N - b) = M * N - M * b - a * N + a * b := by grind
  have e4 : (M + a) * (N + b) = M * N + M * b + a * N + a * b := by grind
  rw [e1] at p1
  rw [e2] at p2
  rw [e3] at p3
  rw [e4] at p4
  omega
abbrev bz (a : Int) : Prop := -1000000000 ≤ a ∧ a ≤ 1000000000
theorem bz2 {a b : Int} (ha : bz a) (hb : bz b) : -1000000000000000000 ≤ a * b ∧ a * b ≤ 1000000000000000000 := by
  have := mulb ha.1 ha.2 hb.1 hb.2
  omega
abbrev LZ (a b x y : Int) : Prop := bz a ∧ bz b ∧ bz x ∧ bz y ∧ x * x + y * y - a * b = 1
theorem m32 {a b : Int32} (ha : bz a.toInt) (hb : bz b.toInt) : (a.toInt64 * b.toInt64).toInt = a.toInt * b.toInt := by
  have := bz2 ha hb
  rw [zmul, z32, z32]
  · rw [z32, z32]; omega
  · rw [z32, z32]; omega
theorem law_v {a b x y : Int32} (ha : bz a.toInt) (hb : bz b.toInt) (hx : bz x.toInt) (hy : bz y.toInt) : (x.toInt64 * x.toInt64 + y.toInt64 * y.toInt64 - a.toInt64 * b.toInt64).toInt = x.toInt * x.toInt + y.toInt * y.toInt - a.toInt * b.toInt := by
  have h1 := bz2 hx hx
  have h2 := bz2 hy hy
  have h3 := bz2 ha hb
  have e1 := m32 hx hx
  have e2 := m32 hy hy
  have e3 := m32 ha hb
  have e4 : (x.toInt64 * x.toInt64 + y.toInt64 * y.toInt64).toInt = x.toInt * x.toInt + y.toInt * y.toInt := by
    rw [zadd, e1, e2]
    · rw [e1, e2]; omega
    · rw [e1, e2]; omega
  rw [zsub, e4, e3]
  · rw [e4, e3]; omega
  · rw [e4, e3]; omega
theorem law_z {a b x y : Int32} : lawP a b x y ↔ LZ a.toInt b.toInt x.toInt y.toInt := by
  unfold lawP
  rw [fit_z, fit_z, fit_z, fit_z, z32, z32, z32, z32]
  constructor
  · rintro ⟨ha, hb, hx, hy, h⟩
    refine ⟨ha, hb, hx, hy, ?_⟩
    rw [← law_v ha hb hx hy, h]
    rfl
  · rintro ⟨ha, hb, hx, hy, h⟩
    refine ⟨ha, hb, hx, hy, ?_⟩
    apply Int64.toInt_inj.mp
    rw [law_v ha hb hx hy, h]
    rfl
/-- the product of two rounds, in whole numbers -/
abbrev pz (a b x y a' b' x' y' : Int) : Int := 2 * (x * x' + y * y') - a * b' - a' * b
theorem prd_z {f g : Nat → Int32} {i j : Nat} (hf : ∀ c, c < 4 → bz (f (i + c)).toInt) (hg : ∀ c, c < 4 → bz (g (j + c)).toInt) : (prd f g i j).toInt = pz (f i).toInt (f (i + 1)).toInt (f (i + 2)).toInt (f (i + 3)).toInt (g j).toInt (g (j + 1)).toInt (g (j + 2)).toInt (g (j + 3)).toInt := by
  have f0 := hf 0 (by omega)
  have f1 := hf 1 (by omega)
  have f2 := hf 2 (by omega)
  have f3 := hf 3 (by omega)
  have g0 := hg 0 (by omega)
  have g1 := hg 1 (by omega)
  have g2 := hg 2 (by omega)
  have g3 := hg 3 (by omega)
  rw [Nat.add_zero] at f0 g0
  have b1 := bz2 f2 g2
  have b2 := bz2 f3 g3
  have b3 := bz2 f0 g1
  have b4 := bz2 g0 f1
  have e1 := m32 f2 g2
  have e2 := m32 f3 g3
  have e3 := m32 f0 g1
  have e4 := m32 g0 f1
  unfold prd pz
  have s1 : ((f (i + 2)).toInt64 * (g (j + 2)).toInt64 + (f (i + 3)).toInt64 * (g (j + 3)).toInt64).toInt = (f (i + 2)).toInt * (g (j + 2)).toInt + (f (i + 3)).toInt * (g (j + 3)).toInt := by
    rw [zadd, e1, e2]
    · rw [e1, e2]; omega
    · rw [e1, e2]; omega
  have s2 : (2 * ((f (i + 2)).toInt64 * (g (j + 2)).toInt64 + (f (i + 3)).toInt64 * (g (j + 3)).toInt64)).toInt = 2 * ((f (i + 2)).toInt * (g (j + 2)).toInt + (f (i + 3)).toInt * (g (j + 3)).toInt) := by
    rw [zmul, s1, show (2 : Int64).toInt = 2 from rfl]
    · rw [s1, show (2 : Int64).toInt = 2 from rfl]; omega
    · rw [s1, show (2 : Int64).toInt = 2 from rfl]; omega
  have s3 : (2 * ((f (i + 2)).toInt64 * (g (j + 2)).toInt64 + (f (i + 3)).toInt64 * (g (j + 3)).toInt64) - (f i).toInt64 * (g (j + 1)).toInt64).toInt = 2 * ((f (i + 2)).toInt * (g (j + 2)).toInt + (f (i + 3)).toInt * (g (j + 3)).toInt) - (f i).toInt * (g (j + 1)).toInt := by
    rw [zsub, s2, e3]
    · rw [s2, e3]; omega
    · rw [s2, e3]; omega
  rw [zsub, s3, e4]
  · rw [s3, e4]; omega
  · rw [s3, e4]; omega
theorem lz_neg {a b x y : Int} (h : LZ a b x y) : LZ (-a) (-b) (-x) (-y) := by
  obtain ⟨h1, h2, h3, h4, h5⟩ := h
  refine ⟨by unfold bz at *; omega, by unfold bz at *; omega, by unfold bz at *; omega, by unfold bz at *; omega, ?_⟩
  have : -x * -x + -y * -y - -a * -b = x * x + y * y - a * b := by grind
  rw [this]
  exact h5
theorem law_neg {a b x y : Int32} (h : lawP a b x y) : lawP (-a) (-b) (-x) (-y) := by
  rw [law_z] at h ⊢
  have h0 := lz_neg h
  obtain ⟨h1, h2, h3, h4, h5⟩ := h
  unfold bz at h1 h2 h3 h4
  rw [zneg (by omega) (by omega), zneg (by omega) (by omega), zneg (by omega) (by omega), zneg (by omega) (by omega)]
  exact h0
theorem kb_neg (a : Int32) : kbF (-a) = kbF a := by
  unfold kbF
  by_cases h : a = 0
  · subst h; rfl
  · have h2 : ¬ -a = 0 := by
      intro g
      have g2 := congrArg (fun z : Int32 => -z) g
      simp only [Int32.neg_neg] at g2
      exact h (g2.trans (by decide))
    rw [if_neg h, if_neg h2]
theorem g_flip (r : Int32) : Good mX7_flip mX8_flip [.int r] false := by
  refine Good_i 2 2 (by decide) (by decide) (fun A hA => ?_)
  obtain ⟨n, hR⟩ := hA.1
  have hR0 := hR
  obtain ⟨h0, h1, h2, h3, h4, h5, h6, h7⟩ := hR
  have e : (s8_flip (s7_flip A n r).2 n r).1 = (s7_flip A n r).1 ∧ Rel (s8_flip (s7_flip A n r).2 n r).2 ∧ (s7_flip A n r).2 33 5 = nI n := by
    unfold s8_flip s7_flip
    by_cases c1 : 0 ≤ r ∧ r < nI n
    · by_cases c2 : n < 20
      · simp only [if_pos c1, if_pos c2]
        obtain ⟨i, hi, rfl⟩ := rng (by omega) c1
        rw [cl_nI (by omega)]
        refine ⟨trivial, ?_, h2⟩
        rw [show (flA A n i) 34 = A 34 from rfl, h3]
        unfold flA
        rw [kb_neg]
        exact Rel_put c2 (law_neg (h7 i hi)) hR0 hA
      · simp only [if_pos c1, if_neg c2]
        exact ⟨(by first | trivial | rfl), Rel_rf 8 hA, h2⟩
    · simp only [if_neg c1]
      exact ⟨(by first | trivial | rfl), Rel_rf 3 hA, h2⟩
  refine ⟨_, _, _, fun B => c7_flip 0 h1 h0 r, fun B => ?_, e.2.1⟩
  rw [← e.1]
  exact c8_flip 0 e.2.2 h0 r
/-! mirrors -/
theorem mrr_z {f : Nat → Int32} {i j c : Nat} {v : Int64} (hi : bz (f (4 * i + c)).toInt) (hj : bz (f (4 * j + c)).toInt) (hv : -4000000000 ≤ v.toInt ∧ v.toInt ≤ 4000000000) : (mrr f i j c v).toInt = (f (4 * i + c)).toInt - v.toInt * (f (4 * j + c)).toInt := by
  unfold mrr
  have h1 := mulb hv.1 hv.2 hj.1 hj.2
  have e : (v * (f (4 * j + c)).toInt64).toInt = v.toInt * (f (4 * j + c)).toInt := by
    rw [zmul, z32]
    · rw [z32]; omega
    · rw [z32]; omega
  unfold bz at hi
  rw [zsub, z32, e]
  · rw [z32, e]; omega
  · rw [z32, e]; omega
theorem mir_big {v w u : Int} (hu : bz u) (hw : w ≠ 0) (hv : 2000000000 < v ∨ v < -2000000000) : ¬ bz (u - v * w) := by
  intro h
  unfold bz at *
  rcases (show 1 ≤ w ∨ w ≤ -1 by omega) with g | g <;> rcases hv with k | k
  · have := Int.mul_le_mul_of_nonneg_left g (show 0 ≤ v by omega)
    omega
  · have := Int.mul_le_mul_of_nonneg_left g (show 0 ≤ -v by omega)
    have e : -v * w = -(v * w) := by grind
    omega
  · have := Int.mul_le_mul_of_nonneg_left (show 1 ≤ -w by omega) (show 0 ≤ v by omega)
    have e : v * -w = -(v * w) := by grind
    omega
  · have := Int.mul_le_mul_of_nonneg_left (show 1 ≤ -w by omega) (show 0 ≤ -v by omega)
    have e : -v * -w = v * w := by grind
    omega
theorem lz_ne {a b x y : Int} (h : LZ a b x y) : a ≠ 0 ∨ b ≠ 0 ∨ x ≠ 0 ∨ y ≠ 0 := by
  by_cases ha : a = 0
  · by_cases hx : x = 0
    · by_cases hy : y = 0
      · have := h.2.2.2.2
        rw [ha, hx, hy] at this
        simp at this
      · exact Or.inr (Or.inr (Or.inr hy))
    · exact Or.inr (Or.inr (Or.inl hx))
  · exact Or.inl ha
theorem lawR_bz {N : Nat → Int32} {r : Nat} (h : lawR N r) : ∀ c, c < 4 → bz (N (4 * r + c)).toInt := by
  unfold lawR at h
  rw [law_z] at h
  intro c hc
  rcases (show c = 0 ∨ c = 1 ∨ c = 2 ∨ c = 3 by omega) with rfl | rfl | rfl | rfl
  · exact h.1
  · exact h.2.1
  · exact h.2.2.1
  · exact h.2.2.2.1
theorem mf_iff {N : Nat → Int32} {i j : Nat} (hi : lawR N i) (hj : lawR N j) : mf8 N i j ↔ mfP N i j := by
  have bi := lawR_bz hi
  have bj := lawR_bz hj
  unfold mf8 mfP
  rw [Int64.le_iff_toInt_le, Int64.le_iff_toInt_le, Int64.le_iff_toInt_le, Int64.le_iff_toInt_le, show (-4000000000 : Int64).toInt = -4000000000 from rfl, show (4000000000 : Int64).toInt = 4000000000 from rfl, show (-2000000000 : Int64).toInt = -2000000000 from rfl, show (2000000000 : Int64).toInt = 2000000000 from rfl]
  generalize prd N N (4 * i) (4 * j) = v
  constructor
  · rintro ⟨h1, h2, h3, h4, h5⟩
    refine ⟨?_, h2, h3, h4, h5⟩
    rw [fit_z, mrr_z (bi 0 (by omega)) (bj 0 (by omega)) h1] at h2
    rw [fit_z, mrr_z (bi 1 (by omega)) (bj 1 (by omega)) h1] at h3
    rw [fit_z, mrr_z (bi 2 (by omega)) (bj 2 (by omega)) h1] at h4
    rw [fit_z, mrr_z (bi 3 (by omega)) (bj 3 (by omega)) h1] at h5
    by_cases hv : 2000000000 < v.toInt ∨ v.toInt < -2000000000
    · exfalso
      unfold lawR at hj
      rw [law_z] at hj
      rcases lz_ne hj with g | g | g | g
      · exact mir_big (bi 0 (by omega)) g hv h2
      · exact mir_big (bi 1 (by omega)) g hv h3
      · exact mir_big (bi 2 (by omega)) g hv h4
      · exact mir_big (bi 3 (by omega)) g hv h5
    · omega
  · rintro ⟨h1, h⟩
    exact ⟨by omega, h⟩
theorem mir_law {N : Nat → Int32} {i j : Nat} (hi : lawR N i) (hj : lawR N j) (h : mfP N i j) : lawP (mrr N i j 0 (prd N N (4 * i) (4 * j))).toInt32 (mrr N i j 1 (prd N N (4 * i) (4 * j))).toInt32 (mrr N i j 2 (prd N N (4 * i) (4 * j))).toInt32 (mrr N i j 3 (prd N N (4 * i) (4 * j))).toInt32 := by
  have bi := lawR_bz hi
  have bj := lawR_bz hj
  have ev := prd_z bi bj
  obtain ⟨h1, h2, h3, h4, h5⟩ := (mf_iff hi hj).mpr h
  rw [Int64.le_iff_toInt_le, Int64.le_iff_toInt_le, show (-4000000000 : Int64).toInt = -4000000000 from rfl, show (4000000000 : Int64).toInt = 4000000000 from rfl] at h1
  generalize hv : prd N N (4 * i) (4 * j) = v at *
  rw [law_z, fit_32 h2, fit_32 h3, fit_32 h4, fit_32 h5]
  refine ⟨fit_z.mp h2, fit_z.mp h3, fit_z.mp h4, fit_z.mp h5, ?_⟩
  rw [mrr_z (bi 0 (by omega)) (bj 0 (by omega)) h1, mrr_z (bi 1 (by omega)) (bj 1 (by omega)) h1, mrr_z (bi 2 (by omega)) (bj 2 (by omega)) h1, mrr_z (bi 3 (by omega)) (bj 3 (by omega)) h1]
  unfold lawR at hi hj
  rw [law_z] at hi hj
  have qi := hi.2.2.2.2
  have qj := hj.2.2.2.2
  rw [Nat.add_zero, Nat.add_zero]
  unfold pz at ev
  clear hi hj bi bj h1 h2 h3 h4 h5 h hv
  generalize (N (4 * i)).toInt = a at *
  generalize (N (4 * i + 1)).toInt = b at *
  generalize (N (4 * i + 2)).toInt = x at *
  generalize (N (4 * i + 3)).toInt = y at *
  generalize (N (4 * j)).toInt = a' at *
  generalize (N (4 * j + 1)).toInt = b' at *
  generalize (N (4 * j + 2)).toInt = x' at *
  generalize (N (4 * j + 3)).toInt = y' at *
  generalize v.toInt = w at *
  have e : (x - w * x') * (x - w * x') + (y - w * y') * (y - w * y') - (a - w * a') * (b - w * b') = (x * x + y * y - a * b) - w * (2 * (x * x' + y * y') - a * b' - a' * b) + w * w * (x' * x' + y' * y' - a' * b') := by grind
  rw [e, qi, qj, ← ev]
  grind
theorem g_mirror (r w : Int32) : Good mX7_mirror mX8_mirror [.int r, .int w] false := by
  refine Good_i 3 2 (by decide) (by decide) (fun A hA => ?_)
  obtain ⟨n, hR⟩ := hA.1
  have hR0 := hR
  obtain ⟨h0, h1, h2, h3, h4, h5, h6, h7⟩ := hR
  have e : (s8_mirror (s7_mirror A n r w).2 n r w).1 = (s7_mirror A n r w).1 ∧ Rel (s8_mirror (s7_mirror A n r w).2 n r w).2 ∧ (s7_mirror A n r w).2 33 5 = nI n := by
    unfold s8_mirror s7_mirror
    by_cases c1 : (0 ≤ r ∧ r < nI n) ∧ (0 ≤ w ∧ w < nI n)
    · obtain ⟨i, hi, rfl⟩ := rng (by omega) c1.1
      obtain ⟨j, hj, rfl⟩ := rng (by omega) c1.2
      simp only [if_pos c1]
      rw [cl_nI (by omega), cl_nI (by omega)]
      have hm := mf_iff (h7 i hi) (h7 j hj)
      by_cases c2 : n < 20 ∧ mfP (A 2) i j
      · have c2' : n < 20 ∧ mf8 (mrA A n i j 34) i j := by
          rw [show (mrA A n i j) 34 = A 34 from rfl, h3]
          exact ⟨c2.1, hm.mpr c2.2⟩
        simp only [if_pos c2, if_pos c2']
        refine ⟨trivial, ?_, h2⟩
        unfold m8A
        rw [show (mrA A n i j) 34 = A 34 from rfl, h3]
        exact Rel_put c2.1 (mir_law (h7 i hi) (h7 j hj) c2.2) hR0 hA
      · have c2' : ¬ (n < 20 ∧ mf8 (rfA A 8 34) i j) := by
          rw [show (rfA A 8) 34 = A 34 from rfl, h3]
          exact fun g => c2 ⟨g.1, hm.mp g.2⟩
        simp only [if_neg c2, if_neg c2']
        exact ⟨(by first | trivial | rfl), Rel_rf 8 hA, h2⟩
    · simp only [if_neg c1]
      exact ⟨(by first | trivial | rfl), Rel_rf 3 hA, h2⟩
  refine ⟨_, _, _, fun B => c7_mirror 0 h1 h0 r w, fun B => ?_, e.2.1⟩
  rw [← e.1]
  exact c8_mirror 0 e.2.2 h0 r w
end ZED
end
