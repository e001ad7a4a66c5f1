-- ===== PART A: goes FIRST, ahead of the names: the tables' words, and 'selects' of the private methods out of them =====
/-- a private method of a class that the tables say can be made, by its rows of tables_1 -/
def lw_okq (q : MethodName × Nat) : Prop := (q.1.cls ≠ "java/lang/invoke/MethodHandle" ∧ q.1.cls ≠ "java/lang/invoke/VarHandle") ∧ Cond.instantiable q.1.cls q.2 ∈ tables_1 ∧ Cond.privateMethod q.1 ∈ tables_1 ∧ Cond.instanceMethod q.1 ∈ tables_1
theorem lw_p0 : lw_okq (⟨"RoundKiss", "refuse", "(I)I"⟩, 12) := ⟨⟨by decide +kernel, by decide +kernel⟩, List.mem_of_getElem? (i := 14) (by decide +kernel), List.mem_of_getElem? (i := 201) (by decide +kernel), List.mem_of_getElem? (i := 202) (by decide +kernel)⟩
theorem lw_p1 : lw_okq (⟨"RoundKiss", "refuseByZero", "(I)I"⟩, 12) := ⟨⟨by decide +kernel, by decide +kernel⟩, List.mem_of_getElem? (i := 14) (by decide +kernel), List.mem_of_getElem? (i := 244) (by decide +kernel), List.mem_of_getElem? (i := 245) (by decide +kernel)⟩
theorem lw_p2 : lw_okq (⟨"RoundKiss$Shelf", "mirrored", "(IIIJ)J"⟩, 5) := ⟨⟨by decide +kernel, by decide +kernel⟩, List.mem_of_getElem? (i := 22) (by decide +kernel), List.mem_of_getElem? (i := 288) (by decide +kernel), List.mem_of_getElem? (i := 289) (by decide +kernel)⟩
theorem lw_p3 : lw_okq (⟨"RoundKiss", "keepWork", "()I"⟩, 12) := ⟨⟨by decide +kernel, by decide +kernel⟩, List.mem_of_getElem? (i := 14) (by decide +kernel), List.mem_of_getElem? (i := 314) (by decide +kernel), List.mem_of_getElem? (i := 315) (by decide +kernel)⟩
theorem lw_p4 : lw_okq (⟨"RoundKiss", "hasPlace", "(II)Z"⟩, 12) := ⟨⟨by decide +kernel, by decide +kernel⟩, List.mem_of_getElem? (i := 14) (by decide +kernel), List.mem_of_getElem? (i := 346) (by decide +kernel), List.mem_of_getElem? (i := 347) (by decide +kernel)⟩
theorem lw_p5 : lw_okq (⟨"RoundKiss", "hasKiss", "(I)Z"⟩, 12) := ⟨⟨by decide +kernel, by decide +kernel⟩, List.mem_of_getElem? (i := 14) (by decide +kernel), List.mem_of_getElem? (i := 350) (by decide +kernel), List.mem_of_getElem? (i := 351) (by decide +kernel)⟩
theorem lw_p6 : lw_okq (⟨"RoundKiss", "whyNoLeast", "(I)I"⟩, 12) := ⟨⟨by decide +kernel, by decide +kernel⟩, List.mem_of_getElem? (i := 14) (by decide +kernel), List.mem_of_getElem? (i := 395) (by decide +kernel), List.mem_of_getElem? (i := 396) (by decide +kernel)⟩
theorem lw_p7 : lw_okq (⟨"RoundKiss$Quad", "placeOfGreatestBend", "()I"⟩, 2) := ⟨⟨by decide +kernel, by decide +kernel⟩, List.mem_of_getElem? (i := 51) (by decide +kernel), List.mem_of_getElem? (i := 404) (by decide +kernel), List.mem_of_getElem? (i := 405) (by decide +kernel)⟩
theorem lw_p8 : lw_okq (⟨"RoundKiss$Quad", "howOften", "(I)I"⟩, 2) := ⟨⟨by decide +kernel, by decide +kernel⟩, List.mem_of_getElem? (i := 51) (by decide +kernel), List.mem_of_getElem? (i := 427) (by decide +kernel), List.mem_of_getElem? (i := 428) (by decide +kernel)⟩
theorem lw_p9 : lw_okq (⟨"RoundKiss", "whyNoPackingUpTo", "(II)I"⟩, 12) := ⟨⟨by decide +kernel, by decide +kernel⟩, List.mem_of_getElem? (i := 14) (by decide +kernel), List.mem_of_getElem? (i := 443) (by decide +kernel), List.mem_of_getElem? (i := 444) (by decide +kernel)⟩
theorem lw_p10 : lw_okq (⟨"RoundKiss", "whyNoPacking", "(I)I"⟩, 12) := ⟨⟨by decide +kernel, by decide +kernel⟩, List.mem_of_getElem? (i := 14) (by decide +kernel), List.mem_of_getElem? (i := 447) (by decide +kernel), List.mem_of_getElem? (i := 448) (by decide +kernel)⟩
theorem lw_p11 : lw_okq (⟨"RoundKiss$Packing", "note", "(I)V"⟩, 10) := ⟨⟨by decide +kernel, by decide +kernel⟩, List.mem_of_getElem? (i := 66) (by decide +kernel), List.mem_of_getElem? (i := 456) (by decide +kernel), List.mem_of_getElem? (i := 457) (by decide +kernel)⟩
theorem lw_p12 : lw_okq (⟨"RoundKiss$Trail", "spread", "(III)V"⟩, 5) := ⟨⟨by decide +kernel, by decide +kernel⟩, List.mem_of_getElem? (i := 128) (by decide +kernel), List.mem_of_getElem? (i := 551) (by decide +kernel), List.mem_of_getElem? (i := 552) (by decide +kernel)⟩
theorem lw_p13 : lw_okq (⟨"RoundKiss$Trail", "find", "(II)V"⟩, 5) := ⟨⟨by decide +kernel, by decide +kernel⟩, List.mem_of_getElem? (i := 128) (by decide +kernel), List.mem_of_getElem? (i := 558) (by decide +kernel), List.mem_of_getElem? (i := 559) (by decide +kernel)⟩
theorem lw_p14 : lw_okq (⟨"RoundKiss$Trail", "findAllNear", "(II)V"⟩, 5) := ⟨⟨by decide +kernel, by decide +kernel⟩, List.mem_of_getElem? (i := 128) (by decide +kernel), List.mem_of_getElem? (i := 565) (by decide +kernel), List.mem_of_getElem? (i := 566) (by decide +kernel)⟩
theorem lw_p15 : lw_okq (⟨"RoundKiss$Trail", "findQuotient", "(IIII)V"⟩, 5) := ⟨⟨by decide +kernel, by decide +kernel⟩, List.mem_of_getElem? (i := 128) (by decide +kernel), List.mem_of_getElem? (i := 571) (by decide +kernel), List.mem_of_getElem? (i := 572) (by decide +kernel)⟩
def lw_privs_1 : List (MethodName × Nat) := [(⟨"RoundKiss", "refuse", "(I)I"⟩, 12), (⟨"RoundKiss", "refuseByZero", "(I)I"⟩, 12), (⟨"RoundKiss$Shelf", "mirrored", "(IIIJ)J"⟩, 5), (⟨"RoundKiss", "keepWork", "()I"⟩, 12), (⟨"RoundKiss", "hasPlace", "(II)Z"⟩, 12), (⟨"RoundKiss", "hasKiss", "(I)Z"⟩, 12), (⟨"RoundKiss", "whyNoLeast", "(I)I"⟩, 12), (⟨"RoundKiss$Quad", "placeOfGreatestBend", "()I"⟩, 2), (⟨"RoundKiss$Quad", "howOften", "(I)I"⟩, 2), (⟨"RoundKiss", "whyNoPackingUpTo", "(II)I"⟩, 12), (⟨"RoundKiss", "whyNoPacking", "(I)I"⟩, 12), (⟨"RoundKiss$Packing", "note", "(I)V"⟩, 10), (⟨"RoundKiss$Trail", "spread", "(III)V"⟩, 5), (⟨"RoundKiss$Trail", "find", "(II)V"⟩, 5), (⟨"RoundKiss$Trail", "findAllNear", "(II)V"⟩, 5), (⟨"RoundKiss$Trail", "findQuotient", "(IIII)V"⟩, 5)]
theorem lw_r1 : ∀ q ∈ lw_privs_1, lw_okq q := List.forall_mem_cons.mpr ⟨lw_p0, List.forall_mem_cons.mpr ⟨lw_p1, List.forall_mem_cons.mpr ⟨lw_p2, List.forall_mem_cons.mpr ⟨lw_p3, List.forall_mem_cons.mpr ⟨lw_p4, List.forall_mem_cons.mpr ⟨lw_p5, List.forall_mem_cons.mpr ⟨lw_p6, List.forall_mem_cons.mpr ⟨lw_p7, List.forall_mem_cons.mpr ⟨lw_p8, List.forall_mem_cons.mpr ⟨lw_p9, List.forall_mem_cons.mpr ⟨lw_p10, List.forall_mem_cons.mpr ⟨lw_p11, List.forall_mem_cons.mpr ⟨lw_p12, List.forall_mem_cons.mpr ⟨lw_p13, List.forall_mem_cons.mpr ⟨lw_p14, List.forall_mem_cons.mpr ⟨lw_p15, fun _ h => absurd h List.not_mem_nil⟩⟩⟩⟩⟩⟩⟩⟩⟩⟩⟩⟩⟩⟩⟩⟩
theorem lw_p16 : lw_okq (⟨"RoundKiss$Trail", "leastNear", "(LRoundKiss$FareyRow;II)I"⟩, 5) := ⟨⟨by decide +kernel, by decide +kernel⟩, List.mem_of_getElem? (i := 128) (by decide +kernel), List.mem_of_getElem? (i := 579) (by decide +kernel), List.mem_of_getElem? (i := 580) (by decide +kernel)⟩
theorem lw_p17 : lw_okq (⟨"RoundKissModel", "adds", "(JJJJI)I"⟩, 29) := ⟨⟨by decide +kernel, by decide +kernel⟩, List.mem_of_getElem? (i := 617) (by decide +kernel), List.mem_of_getElem? (i := 724) (by decide +kernel), List.mem_of_getElem? (i := 725) (by decide +kernel)⟩
theorem lw_p18 : lw_okq (⟨"RoundKissModel", "no", "(I)I"⟩, 29) := ⟨⟨by decide +kernel, by decide +kernel⟩, List.mem_of_getElem? (i := 617) (by decide +kernel), List.mem_of_getElem? (i := 728) (by decide +kernel), List.mem_of_getElem? (i := 729) (by decide +kernel)⟩
theorem lw_p19 : lw_okq (⟨"RoundKissModel", "isRound", "(I)Z"⟩, 29) := ⟨⟨by decide +kernel, by decide +kernel⟩, List.mem_of_getElem? (i := 617) (by decide +kernel), List.mem_of_getElem? (i := 749) (by decide +kernel), List.mem_of_getElem? (i := 750) (by decide +kernel)⟩
theorem lw_p20 : lw_okq (⟨"RoundKissModel", "none", "(I)I"⟩, 29) := ⟨⟨by decide +kernel, by decide +kernel⟩, List.mem_of_getElem? (i := 617) (by decide +kernel), List.mem_of_getElem? (i := 753) (by decide +kernel), List.mem_of_getElem? (i := 754) (by decide +kernel)⟩
theorem lw_p21 : lw_okq (⟨"RoundKissModel", "mirrored", "(IIIJ)J"⟩, 29) := ⟨⟨by decide +kernel, by decide +kernel⟩, List.mem_of_getElem? (i := 617) (by decide +kernel), List.mem_of_getElem? (i := 776) (by decide +kernel), List.mem_of_getElem? (i := 777) (by decide +kernel)⟩
theorem lw_p22 : lw_okq (⟨"RoundKissModel", "kisses", "()I"⟩, 29) := ⟨⟨by decide +kernel, by decide +kernel⟩, List.mem_of_getElem? (i := 617) (by decide +kernel), List.mem_of_getElem? (i := 789) (by decide +kernel), List.mem_of_getElem? (i := 790) (by decide +kernel)⟩
theorem lw_p23 : lw_okq (⟨"RoundKissModel", "isKiss", "(I)Z"⟩, 29) := ⟨⟨by decide +kernel, by decide +kernel⟩, List.mem_of_getElem? (i := 617) (by decide +kernel), List.mem_of_getElem? (i := 801) (by decide +kernel), List.mem_of_getElem? (i := 802) (by decide +kernel)⟩
theorem lw_p24 : lw_okq (⟨"RoundKissModel", "heightOf", "(I)J"⟩, 29) := ⟨⟨by decide +kernel, by decide +kernel⟩, List.mem_of_getElem? (i := 617) (by decide +kernel), List.mem_of_getElem? (i := 813) (by decide +kernel), List.mem_of_getElem? (i := 814) (by decide +kernel)⟩
theorem lw_p25 : lw_okq (⟨"RoundKissModel", "swapped", "(III)J"⟩, 29) := ⟨⟨by decide +kernel, by decide +kernel⟩, List.mem_of_getElem? (i := 617) (by decide +kernel), List.mem_of_getElem? (i := 821) (by decide +kernel), List.mem_of_getElem? (i := 822) (by decide +kernel)⟩
theorem lw_p26 : lw_okq (⟨"RoundKissModel", "swaps", "(II)Z"⟩, 29) := ⟨⟨by decide +kernel, by decide +kernel⟩, List.mem_of_getElem? (i := 617) (by decide +kernel), List.mem_of_getElem? (i := 829) (by decide +kernel), List.mem_of_getElem? (i := 830) (by decide +kernel)⟩
theorem lw_p27 : lw_okq (⟨"RoundKissModel", "greatest", "()I"⟩, 29) := ⟨⟨by decide +kernel, by decide +kernel⟩, List.mem_of_getElem? (i := 617) (by decide +kernel), List.mem_of_getElem? (i := 841) (by decide +kernel), List.mem_of_getElem? (i := 842) (by decide +kernel)⟩
theorem lw_p28 : lw_okq (⟨"RoundKissModel", "leads", "(I)V"⟩, 29) := ⟨⟨by decide +kernel, by decide +kernel⟩, List.mem_of_getElem? (i := 617) (by decide +kernel), List.mem_of_getElem? (i := 853) (by decide +kernel), List.mem_of_getElem? (i := 854) (by decide +kernel)⟩
theorem lw_p29 : lw_okq (⟨"RoundKissModel", "exchanges", "(I)V"⟩, 29) := ⟨⟨by decide +kernel, by decide +kernel⟩, List.mem_of_getElem? (i := 617) (by decide +kernel), List.mem_of_getElem? (i := 857) (by decide +kernel), List.mem_of_getElem? (i := 858) (by decide +kernel)⟩
theorem lw_p30 : lw_okq (⟨"RoundKissModel", "sorts", "()V"⟩, 29) := ⟨⟨by decide +kernel, by decide +kernel⟩, List.mem_of_getElem? (i := 617) (by decide +kernel), List.mem_of_getElem? (i := 861) (by decide +kernel), List.mem_of_getElem? (i := 862) (by decide +kernel)⟩
theorem lw_p31 : lw_okq (⟨"RoundKissModel", "isShut", "()Z"⟩, 29) := ⟨⟨by decide +kernel, by decide +kernel⟩, List.mem_of_getElem? (i := 617) (by decide +kernel), List.mem_of_getElem? (i := 869) (by decide +kernel), List.mem_of_getElem? (i := 870) (by decide +kernel)⟩
def lw_privs_2 : List (MethodName × Nat) := [(⟨"RoundKiss$Trail", "leastNear", "(LRoundKiss$FareyRow;II)I"⟩, 5), (⟨"RoundKissModel", "adds", "(JJJJI)I"⟩, 29), (⟨"RoundKissModel", "no", "(I)I"⟩, 29), (⟨"RoundKissModel", "isRound", "(I)Z"⟩, 29), (⟨"RoundKissModel", "none", "(I)I"⟩, 29), (⟨"RoundKissModel", "mirrored", "(IIIJ)J"⟩, 29), (⟨"RoundKissModel", "kisses", "()I"⟩, 29), (⟨"RoundKissModel", "isKiss", "(I)Z"⟩, 29), (⟨"RoundKissModel", "heightOf", "(I)J"⟩, 29), (⟨"RoundKissModel", "swapped", "(III)J"⟩, 29), (⟨"RoundKissModel", "swaps", "(II)Z"⟩, 29), (⟨"RoundKissModel", "greatest", "()I"⟩, 29), (⟨"RoundKissModel", "leads", "(I)V"⟩, 29), (⟨"RoundKissModel", "exchanges", "(I)V"⟩, 29), (⟨"RoundKissModel", "sorts", "()V"⟩, 29), (⟨"RoundKissModel", "isShut", "()Z"⟩, 29)]
theorem lw_r2 : ∀ q ∈ lw_privs_2, lw_okq q := List.forall_mem_cons.mpr ⟨lw_p16, List.forall_mem_cons.mpr ⟨lw_p17, List.forall_mem_cons.mpr ⟨lw_p18, List.forall_mem_cons.mpr ⟨lw_p19, List.forall_mem_cons.mpr ⟨lw_p20, List.forall_mem_cons.mpr ⟨lw_p21, List.forall_mem_cons.mpr ⟨lw_p22, List.forall_mem_cons.mpr ⟨lw_p23, List.forall_mem_cons.mpr ⟨lw_p24, List.forall_mem_cons.mpr ⟨lw_p25, List.forall_mem_cons.mpr ⟨lw_p26, List.forall_mem_cons.mpr ⟨lw_p27, List.forall_mem_cons.mpr ⟨lw_p28, List.forall_mem_cons.mpr ⟨lw_p29, List.forall_mem_cons.mpr ⟨lw_p30, List.forall_mem_cons.mpr ⟨lw_p31, fun _ h => absurd h List.not_mem_nil⟩⟩⟩⟩⟩⟩⟩⟩⟩⟩⟩⟩⟩⟩⟩⟩
theorem lw_p32 : lw_okq (⟨"RoundKissModel", "whyNot", "(IIII)I"⟩, 29) := ⟨⟨by decide +kernel, by decide +kernel⟩, List.mem_of_getElem? (i := 617) (by decide +kernel), List.mem_of_getElem? (i := 877) (by decide +kernel), List.mem_of_getElem? (i := 878) (by decide +kernel)⟩
theorem lw_p33 : lw_okq (⟨"RoundKissModel", "goesThrough", "(JII)V"⟩, 29) := ⟨⟨by decide +kernel, by decide +kernel⟩, List.mem_of_getElem? (i := 617) (by decide +kernel), List.mem_of_getElem? (i := 881) (by decide +kernel), List.mem_of_getElem? (i := 882) (by decide +kernel)⟩
theorem lw_p34 : lw_okq (⟨"RoundKissModel", "counts", "(JII)V"⟩, 29) := ⟨⟨by decide +kernel, by decide +kernel⟩, List.mem_of_getElem? (i := 617) (by decide +kernel), List.mem_of_getElem? (i := 885) (by decide +kernel), List.mem_of_getElem? (i := 886) (by decide +kernel)⟩
theorem lw_p35 : lw_okq (⟨"RoundKissModel", "meets", "(I)V"⟩, 29) := ⟨⟨by decide +kernel, by decide +kernel⟩, List.mem_of_getElem? (i := 617) (by decide +kernel), List.mem_of_getElem? (i := 890) (by decide +kernel), List.mem_of_getElem? (i := 891) (by decide +kernel)⟩
theorem lw_p36 : lw_okq (⟨"RoundKissModel", "makesRow", "(I)V"⟩, 29) := ⟨⟨by decide +kernel, by decide +kernel⟩, List.mem_of_getElem? (i := 617) (by decide +kernel), List.mem_of_getElem? (i := 934) (by decide +kernel), List.mem_of_getElem? (i := 935) (by decide +kernel)⟩
theorem lw_p37 : lw_okq (⟨"RoundKissModel", "isOf", "(II)Z"⟩, 29) := ⟨⟨by decide +kernel, by decide +kernel⟩, List.mem_of_getElem? (i := 617) (by decide +kernel), List.mem_of_getElem? (i := 946) (by decide +kernel), List.mem_of_getElem? (i := 947) (by decide +kernel)⟩
theorem lw_p38 : lw_okq (⟨"RoundKissModel", "placeOf", "(I)I"⟩, 29) := ⟨⟨by decide +kernel, by decide +kernel⟩, List.mem_of_getElem? (i := 617) (by decide +kernel), List.mem_of_getElem? (i := 950) (by decide +kernel), List.mem_of_getElem? (i := 951) (by decide +kernel)⟩
theorem lw_p39 : lw_okq (⟨"RoundKissModel", "areNear", "(II)Z"⟩, 29) := ⟨⟨by decide +kernel, by decide +kernel⟩, List.mem_of_getElem? (i := 617) (by decide +kernel), List.mem_of_getElem? (i := 958) (by decide +kernel), List.mem_of_getElem? (i := 959) (by decide +kernel)⟩
def lw_privs_3 : List (MethodName × Nat) := [(⟨"RoundKissModel", "whyNot", "(IIII)I"⟩, 29), (⟨"RoundKissModel", "goesThrough", "(JII)V"⟩, 29), (⟨"RoundKissModel", "counts", "(JII)V"⟩, 29), (⟨"RoundKissModel", "meets", "(I)V"⟩, 29), (⟨"RoundKissModel", "makesRow", "(I)V"⟩, 29), (⟨"RoundKissModel", "isOf", "(II)Z"⟩, 29), (⟨"RoundKissModel", "placeOf", "(I)I"⟩, 29), (⟨"RoundKissModel", "areNear", "(II)Z"⟩, 29)]
theorem lw_r3 : ∀ q ∈ lw_privs_3, lw_okq q := List.forall_mem_cons.mpr ⟨lw_p32, List.forall_mem_cons.mpr ⟨lw_p33, List.forall_mem_cons.mpr ⟨lw_p34, List.forall_mem_cons.mpr ⟨lw_p35, List.forall_mem_cons.mpr ⟨lw_p36, List.forall_mem_cons.mpr ⟨lw_p37, List.forall_mem_cons.mpr ⟨lw_p38, List.forall_mem_cons.mpr ⟨lw_p39, fun _ h => absurd h List.not_mem_nil⟩⟩⟩⟩⟩⟩⟩⟩
def lw_privs : List (MethodName × Nat) := lw_privs_1 ++ (lw_privs_2 ++ (lw_privs_3))
def lw_tbl : List Cond := k2_sels lw_privs ++ tables_1
theorem lw_privs_ok : ∀ q ∈ lw_privs, lw_okq q := by
  show ∀ q ∈ lw_privs_1 ++ (lw_privs_2 ++ (lw_privs_3)), lw_okq q
  exact List.forall_mem_append.mpr ⟨lw_r1, List.forall_mem_append.mpr ⟨lw_r2, lw_r3⟩⟩
def RX0 : String := "RoundKiss$FareyRow"
def TX0 : u_T := fun k => match k with
  | 0 => ("RoundKiss$FareyRow", "told", "[I", true)
  | 1 => ("RoundKiss$FareyRow", "order", "I", false)
  | _ => ("RoundKiss$FareyRow", "size", "I", false)
def tyX0 : Nat → FieldType := fun k => match k with
  | 0 => .array .int
  | 1 => .int
  | _ => .int
theorem nmX0 : ∀ a, a < 3 → ∀ b, b < 3 → a ≠ b → (TX0 a).2.1 ≠ (TX0 b).2.1 := by decide +kernel
theorem tyX0_ok : ∀ k, k < 3 → parseFieldDescriptor (TX0 k).2.2.1 = some (tyX0 k) := by decide +kernel
def RX1 : String := "RoundKiss$Fractions"
def TX1 : u_T := fun k => match k with
  | _ => ("", "", "", false)
def tyX1 : Nat → FieldType := fun k => match k with
  | _ => .int
theorem nmX1 : ∀ a, a < 0 → ∀ b, b < 0 → a ≠ b → (TX1 a).2.1 ≠ (TX1 b).2.1 := by decide +kernel
theorem tyX1_ok : ∀ k, k < 0 → parseFieldDescriptor (TX1 k).2.2.1 = some (tyX1 k) := by decide +kernel
def RX2 : String := "RoundKiss$Numbers"
def TX2 : u_T := fun k => match k with
  | _ => ("", "", "", false)
def tyX2 : Nat → FieldType := fun k => match k with
  | _ => .int
theorem nmX2 : ∀ a, a < 0 → ∀ b, b < 0 → a ≠ b → (TX2 a).2.1 ≠ (TX2 b).2.1 := by decide +kernel
theorem tyX2_ok : ∀ k, k < 0 → parseFieldDescriptor (TX2 k).2.2.1 = some (tyX2 k) := by decide +kernel
def RX3 : String := "RoundKiss$Packing"
def TX3 : u_T := fun k => match k with
  | 0 => ("RoundKiss$Packing", "quad", "[I", true)
  | 1 => ("RoundKiss$Packing", "limit", "I", false)
  | 2 => ("RoundKiss$Packing", "barred", "I", false)
  | 3 => ("RoundKiss$Packing", "floor", "I", false)
  | 4 => ("RoundKiss$Packing", "tally", "I", false)
  | 5 => ("RoundKiss$Packing", "tallyAtLimit", "I", false)
  | 6 => ("RoundKiss$Packing", "restBits", "I", false)
  | 7 => ("RoundKiss$Packing", "bendTotal", "J", false)
  | 8 => ("RoundKiss$Packing", "isAboveFound", "Z", false)
  | _ => ("RoundKiss$Packing", "leastAbove", "I", false)
def tyX3 : Nat → FieldType := fun k => match k with
  | 0 => .array .int
  | 1 => .int
  | 2 => .int
  | 3 => .int
  | 4 => .int
  | 5 => .int
  | 6 => .int
  | 7 => .long
  | 8 => .boolean
  | _ => .int
theorem nmX3 : ∀ a, a < 10 → ∀ b, b < 10 → a ≠ b → (TX3 a).2.1 ≠ (TX3 b).2.1 := by decide +kernel
theorem tyX3_ok : ∀ k, k < 10 → parseFieldDescriptor (TX3 k).2.2.1 = some (tyX3 k) := by decide +kernel
def RX4 : String := "RoundKiss$Quad"
def TX4 : u_T := fun k => match k with
  | 0 => ("RoundKiss$Quad", "numbers", "[I", true)
  | _ => ("RoundKiss$Quad", "firstPlaces", "I", false)
def tyX4 : Nat → FieldType := fun k => match k with
  | 0 => .array .int
  | _ => .int
theorem nmX4 : ∀ a, a < 2 → ∀ b, b < 2 → a ≠ b → (TX4 a).2.1 ≠ (TX4 b).2.1 := by decide +kernel
theorem tyX4_ok : ∀ k, k < 2 → parseFieldDescriptor (TX4 k).2.2.1 = some (tyX4 k) := by decide +kernel
def RX5 : String := "RoundKiss$Shelf"
def TX5 : u_T := fun k => match k with
  | 0 => ("RoundKiss$Shelf", "numbers", "[I", true)
  | 1 => ("RoundKiss$Shelf", "kinds", "[I", true)
  | 2 => ("RoundKiss$Shelf", "tops", "[I", true)
  | 3 => ("RoundKiss$Shelf", "bottoms", "[I", true)
  | _ => ("RoundKiss$Shelf", "size", "I", false)
def tyX5 : Nat → FieldType := fun k => match k with
  | 0 => .array .int
  | 1 => .array .int
  | 2 => .array .int
  | 3 => .array .int
  | _ => .int
theorem nmX5 : ∀ a, a < 5 → ∀ b, b < 5 → a ≠ b → (TX5 a).2.1 ≠ (TX5 b).2.1 := by decide +kernel
theorem tyX5_ok : ∀ k, k < 5 → parseFieldDescriptor (TX5 k).2.2.1 = some (tyX5 k) := by decide +kernel
def RX6 : String := "RoundKiss$Trail"
def TX6 : u_T := fun k => match k with
  | 0 => ("RoundKiss$Trail", "reach", "[I", true)
  | 1 => ("RoundKiss$Trail", "found", "[I", true)
  | 2 => ("RoundKiss$Trail", "stops", "[I", true)
  | 3 => ("RoundKiss$Trail", "foundThere", "I", false)
  | _ => ("RoundKiss$Trail", "steps", "I", false)
def tyX6 : Nat → FieldType := fun k => match k with
  | 0 => .array .int
  | 1 => .array .int
  | 2 => .array .int
  | 3 => .int
  | _ => .int
theorem nmX6 : ∀ a, a < 5 → ∀ b, b < 5 → a ≠ b → (TX6 a).2.1 ≠ (TX6 b).2.1 := by decide +kernel
theorem tyX6_ok : ∀ k, k < 5 → parseFieldDescriptor (TX6 k).2.2.1 = some (tyX6 k) := by decide +kernel
def RX7 : String := "RoundKiss"
def TX7 : u_T := fun k => match k with
  | 0 => ("RoundKiss", "shelf", "LRoundKiss$Shelf;", true)
  | 1 => ("RoundKiss", "kisses", "[LRoundKiss$Quad;", true)
  | 2 => ("RoundKiss", "work", "LRoundKiss$Quad;", true)
  | 3 => ("RoundKiss", "secondWork", "LRoundKiss$Quad;", true)
  | 4 => ("RoundKiss", "packing", "LRoundKiss$Packing;", true)
  | 5 => ("RoundKiss", "farey", "LRoundKiss$FareyRow;", true)
  | 6 => ("RoundKiss", "trail", "LRoundKiss$Trail;", true)
  | 7 => ("RoundKiss", "laid", "[I", true)
  | 8 => ("RoundKiss", "refusals", "[I", true)
  | 9 => ("RoundKiss", "kissesThere", "I", false)
  | 10 => ("RoundKiss", "ledPlaces", "I", false)
  | _ => ("RoundKiss", "isLaid", "Z", false)
def tyX7 : Nat → FieldType := fun k => match k with
  | 0 => .object "RoundKiss$Shelf"
  | 1 => .array (.object "RoundKiss$Quad")
  | 2 => .object "RoundKiss$Quad"
  | 3 => .object "RoundKiss$Quad"
  | 4 => .object "RoundKiss$Packing"
  | 5 => .object "RoundKiss$FareyRow"
  | 6 => .object "RoundKiss$Trail"
  | 7 => .array .int
  | 8 => .array .int
  | 9 => .int
  | 10 => .int
  | _ => .boolean
theorem nmX7 : ∀ a, a < 12 → ∀ b, b < 12 → a ≠ b → (TX7 a).2.1 ≠ (TX7 b).2.1 := by decide +kernel
theorem tyX7_ok : ∀ k, k < 12 → parseFieldDescriptor (TX7 k).2.2.1 = some (tyX7 k) := by decide +kernel
def RX8 : String := "RoundKissModel"
def TX8 : u_T := fun k => match k with
  | 0 => ("RoundKissModel", "rounds", "[I", true)
  | 1 => ("RoundKissModel", "kind", "[I", true)
  | 2 => ("RoundKissModel", "upper", "[I", true)
  | 3 => ("RoundKissModel", "lower", "[I", true)
  | 4 => ("RoundKissModel", "kisses", "[I", true)
  | 5 => ("RoundKissModel", "many", "I", false)
  | 6 => ("RoundKissModel", "kissed", "I", false)
  | 7 => ("RoundKissModel", "ledTo", "I", false)
  | 8 => ("RoundKissModel", "refused", "[I", true)
  | 9 => ("RoundKissModel", "four", "[I", true)
  | 10 => ("RoundKissModel", "bend", "[J", true)
  | 11 => ("RoundKissModel", "kept", "[I", true)
  | 12 => ("RoundKissModel", "sorted", "[J", true)
  | 13 => ("RoundKissModel", "rounds0", "I", false)
  | 14 => ("RoundKissModel", "exactly", "I", false)
  | 15 => ("RoundKissModel", "restBits", "I", false)
  | 16 => ("RoundKissModel", "nextOne", "I", false)
  | 17 => ("RoundKissModel", "sumAll", "J", false)
  | 18 => ("RoundKissModel", "touching", "[I", true)
  | 19 => ("RoundKissModel", "path", "[I", true)
  | 20 => ("RoundKissModel", "hasNext", "Z", false)
  | 21 => ("RoundKissModel", "row", "[I", true)
  | 22 => ("RoundKissModel", "from", "[I", true)
  | 23 => ("RoundKissModel", "way", "[I", true)
  | 24 => ("RoundKissModel", "rowSize", "I", false)
  | 25 => ("RoundKissModel", "wayLong", "I", false)
  | 26 => ("RoundKissModel", "told", "[I", true)
  | 27 => ("RoundKissModel", "moved", "[I", true)
  | _ => ("RoundKissModel", "hasRow", "Z", false)
def tyX8 : Nat → FieldType := fun k => match k with
  | 0 => .array .int
  | 1 => .array .int
  | 2 => .array .int
  | 3 => .array .int
  | 4 => .array .int
  | 5 => .int
  | 6 => .int
  | 7 => .int
  | 8 => .array .int
  | 9 => .array .int
  | 10 => .array .long
  | 11 => .array .int
  | 12 => .array .long
  | 13 => .int
  | 14 => .int
  | 15 => .int
  | 16 => .int
  | 17 => .long
  | 18 => .array .int
  | 19 => .array .int
  | 20 => .boolean
  | 21 => .array .int
  | 22 => .array .int
  | 23 => .array .int
  | 24 => .int
  | 25 => .int
  | 26 => .array .int
  | 27 => .array .int
  | _ => .boolean
theorem nmX8 : ∀ a, a < 29 → ∀ b, b < 29 → a ≠ b → (TX8 a).2.1 ≠ (TX8 b).2.1 := by decide +kernel
theorem tyX8_ok : ∀ k, k < 29 → parseFieldDescriptor (TX8 k).2.2.1 = some (tyX8 k) := by decide +kernel
def RJ9 : String := "java/lang/Math"
def RJ10 : String := "java/lang/System"
def RJ7 : String := "java/util/Arrays"
def RL : String := "RoundKissLaw"
def cn (c : Nat) : String := match c with
  | 0 => RX0
  | 1 => RX1
  | 2 => RX2
  | 3 => RX3
  | 4 => RX4
  | 5 => RX5
  | 6 => RX6
  | 7 => RX7
  | 8 => RX8
  | 9 => RJ9
  | 10 => RJ7
  | _ => RL
def kC (c : Nat) : String := match c with
  | 0 => RX0
  | 1 => RX3
  | 2 => RX4
  | 3 => RX5
  | 4 => RX6
  | 5 => RX7
  | _ => RX8
def kT (c : Nat) : u_T := match c with
  | 0 => TX0
  | 1 => TX3
  | 2 => TX4
  | 3 => TX5
  | 4 => TX6
  | 5 => TX7
  | _ => TX8
def kN (c : Nat) : Nat := match c with
  | 0 => 3
  | 1 => 10
  | 2 => 2
  | 3 => 5
  | 4 => 5
  | 5 => 12
  | _ => 29
def kty (c : Nat) : Nat → FieldType := match c with
  | 0 => tyX0
  | 1 => tyX3
  | 2 => tyX4
  | 3 => tyX5
  | 4 => tyX6
  | 5 => tyX7
  | _ => tyX8
def kcl : List vw_C := [(RX0, TX0, 3), (RX3, TX3, 10), (RX4, TX4, 2), (RX5, TX5, 5), (RX6, TX6, 5), (RX7, TX7, 12), (RX8, TX8, 29)]
def mnL : List MethodName := [⟨RX0, "<init>", "()V"⟩, ⟨RX0, "fill", "(I)V"⟩, ⟨RX0, "placeOf", "(I)I"⟩, ⟨RX1, "told", "(II)I"⟩, ⟨RX1, "top", "(I)I"⟩, ⟨RX1, "bottom", "(I)I"⟩, ⟨RX1, "isOne", "(I)Z"⟩, ⟨RX1, "areNear", "(II)Z"⟩, ⟨RX2, "fits", "(J)Z"⟩, ⟨RX2, "keepLaw", "(IIII)Z"⟩, ⟨RX2, "productAt", "([III)J"⟩, ⟨RX2, "kindByBend", "(I)I"⟩, ⟨RX2, "meetingBy", "(J)I"⟩, ⟨RX2, "isLowest", "(II)Z"⟩, ⟨RX3, "<init>", "()V"⟩, ⟨RX3, "survey", "(LRoundKiss$Quad;II)V"⟩, ⟨RX3, "leastBendAbove", "(LRoundKiss$Quad;I)I"⟩, ⟨RX3, "grow", "(LRoundKiss$Packing;II)V"⟩, ⟨RX3, "note", "(I)V"⟩, ⟨RX4, "<init>", "()V"⟩, ⟨RX4, "take", "(LRoundKiss$Quad;)V"⟩, ⟨RX4, "number", "(II)I"⟩, ⟨RX4, "bend", "(I)I"⟩, ⟨RX4, "bendSum", "()J"⟩, ⟨RX4, "swapped", "(II)J"⟩, ⟨RX4, "trySwap", "(II)Z"⟩, ⟨RX4, "placeOfGreatestBend", "()I"⟩, ⟨RX4, "leadBack", "(I)I"⟩, ⟨RX4, "takeLeastBends", "(LRoundKiss$Quad;)V"⟩, ⟨RX4, "hasBendBelowZero", "()Z"⟩, ⟨RX4, "hasBendsOf", "(LRoundKiss$Quad;)Z"⟩, ⟨RX4, "howOften", "(I)I"⟩, ⟨RX4, "keepsLaws", "()Z"⟩, ⟨RX4, "allTouch", "()Z"⟩, ⟨RX5, "<init>", "()V"⟩, ⟨RX5, "has", "(I)Z"⟩, ⟨RX5, "isFull", "()Z"⟩, ⟨RX5, "number", "(II)I"⟩, ⟨RX5, "put", "(IIIII)I"⟩, ⟨RX5, "putOver", "(II)I"⟩, ⟨RX5, "putOtherSide", "(I)I"⟩, ⟨RX5, "takeLatest", "()I"⟩, ⟨RX5, "productOf", "(II)J"⟩, ⟨RX5, "isAlike", "(II)Z"⟩, ⟨RX5, "mirrorFits", "(II)Z"⟩, ⟨RX5, "putMirror", "(II)I"⟩, ⟨RX5, "mirrored", "(IIIJ)J"⟩, ⟨RX6, "<init>", "()V"⟩, ⟨RX6, "isThere", "()Z"⟩, ⟨RX6, "lead", "(LRoundKiss$FareyRow;II)V"⟩, ⟨RX6, "key", "(I)I"⟩, ⟨RX6, "spread", "(III)V"⟩, ⟨RX6, "findAllNear", "(II)V"⟩, ⟨RX6, "findQuotient", "(IIII)V"⟩, ⟨RX6, "find", "(II)V"⟩, ⟨RX6, "leastNear", "(LRoundKiss$FareyRow;II)I"⟩, ⟨RX7, "<init>", "()V"⟩, ⟨RX7, "round", "(IIII)I"⟩, ⟨RX7, "over", "(II)I"⟩, ⟨RX7, "drop", "()I"⟩, ⟨RX7, "look", "(II)I"⟩, ⟨RX7, "product", "(II)J"⟩, ⟨RX7, "meet", "(II)I"⟩, ⟨RX7, "mirror", "(II)I"⟩, ⟨RX7, "flip", "(I)I"⟩, ⟨RX7, "kiss", "(I)I"⟩, ⟨RX7, "part", "()I"⟩, ⟨RX7, "of", "(III)I"⟩, ⟨RX7, "height", "(I)J"⟩, ⟨RX7, "fourth", "(II)J"⟩, ⟨RX7, "swap", "(II)I"⟩, ⟨RX7, "word", "(III)I"⟩, ⟨RX7, "least", "(I)I"⟩, ⟨RX7, "led", "()I"⟩, ⟨RX7, "same", "(II)I"⟩, ⟨RX7, "shut", "(I)I"⟩, ⟨RX7, "count", "(II)I"⟩, ⟨RX7, "bends", "(II)I"⟩, ⟨RX7, "next", "(II)I"⟩, ⟨RX7, "rests", "(II)I"⟩, ⟨RX7, "sum", "(III)J"⟩, ⟨RX7, "near", "(II)I"⟩, ⟨RX7, "between", "(II)I"⟩, ⟨RX7, "fractions", "(I)I"⟩, ⟨RX7, "fraction", "(II)I"⟩, ⟨RX7, "beside", "(IIZ)I"⟩, ⟨RX7, "way", "(III)I"⟩, ⟨RX7, "step", "(I)I"⟩, ⟨RX7, "lay", "(I)I"⟩, ⟨RX7, "tear", "()I"⟩, ⟨RX7, "row", "(I)I"⟩, ⟨RX7, "copy", "(III)I"⟩, ⟨RX7, "give", "()I"⟩, ⟨RX7, "status", "(I)I"⟩, ⟨RX7, "refuse", "(I)I"⟩, ⟨RX7, "refuseByZero", "(I)I"⟩, ⟨RX7, "hasKiss", "(I)Z"⟩, ⟨RX7, "hasPlace", "(II)Z"⟩, ⟨RX7, "keepWork", "()I"⟩, ⟨RX7, "whyNoLeast", "(I)I"⟩, ⟨RX7, "whyNoPacking", "(I)I"⟩, ⟨RX7, "whyNoPackingUpTo", "(II)I"⟩, ⟨RX7, "isOrder", "(I)Z"⟩, ⟨RX7, "isInRow", "(II)Z"⟩, ⟨RX8, "<init>", "()V"⟩, ⟨RX8, "isIn", "(JJJ)Z"⟩, ⟨RX8, "no", "(I)I"⟩, ⟨RX8, "none", "(I)I"⟩, ⟨RX8, "isRound", "(I)Z"⟩, ⟨RX8, "isLawful", "(JJJJ)Z"⟩, ⟨RX8, "adds", "(JJJJI)I"⟩, ⟨RX8, "round", "(IIII)I"⟩, ⟨RX8, "divisor", "(II)I"⟩, ⟨RX8, "over", "(II)I"⟩, ⟨RX8, "drop", "()I"⟩, ⟨RX8, "look", "(II)I"⟩, ⟨RX8, "productOf", "([II[II)J"⟩, ⟨RX8, "product", "(II)J"⟩, ⟨RX8, "meet", "(II)I"⟩, ⟨RX8, "mirror", "(II)I"⟩, ⟨RX8, "mirrored", "(IIIJ)J"⟩, ⟨RX8, "flip", "(I)I"⟩, ⟨RX8, "kisses", "()I"⟩, ⟨RX8, "kiss", "(I)I"⟩, ⟨RX8, "part", "()I"⟩, ⟨RX8, "isKiss", "(I)Z"⟩, ⟨RX8, "isPlace", "(I)Z"⟩, ⟨RX8, "of", "(III)I"⟩, ⟨RX8, "heightOf", "(I)J"⟩, ⟨RX8, "height", "(I)J"⟩, ⟨RX8, "swapped", "(III)J"⟩, ⟨RX8, "fourth", "(II)J"⟩, ⟨RX8, "swaps", "(II)Z"⟩, ⟨RX8, "swap", "(II)I"⟩, ⟨RX8, "word", "(III)I"⟩, ⟨RX8, "greatest", "()I"⟩, ⟨RX8, "exchanges", "(I)V"⟩, ⟨RX8, "leads", "(I)V"⟩, ⟨RX8, "least", "(I)I"⟩, ⟨RX8, "led", "()I"⟩, ⟨RX8, "sorts", "()V"⟩, ⟨RX8, "same", "(II)I"⟩, ⟨RX8, "isShut", "()Z"⟩, ⟨RX8, "shut", "(I)I"⟩, ⟨RX8, "whyNot", "(IIII)I"⟩, ⟨RX8, "counts", "(JII)V"⟩, ⟨RX8, "goesThrough", "(JII)V"⟩, ⟨RX8, "meets", "(I)V"⟩, ⟨RX8, "count", "(II)I"⟩, ⟨RX8, "bends", "(II)I"⟩, ⟨RX8, "next", "(II)I"⟩, ⟨RX8, "rests", "(II)I"⟩, ⟨RX8, "sum", "(III)J"⟩, ⟨RX8, "isFraction", "(I)Z"⟩, ⟨RX8, "determinant", "(II)I"⟩, ⟨RX8, "near", "(II)I"⟩, ⟨RX8, "between", "(II)I"⟩, ⟨RX8, "makesRow", "(I)V"⟩, ⟨RX8, "isRow", "(I)Z"⟩, ⟨RX8, "isOf", "(II)Z"⟩, ⟨RX8, "fractions", "(I)I"⟩, ⟨RX8, "fraction", "(II)I"⟩, ⟨RX8, "placeOf", "(I)I"⟩, ⟨RX8, "beside", "(IIZ)I"⟩, ⟨RX8, "areNear", "(II)Z"⟩, ⟨RX8, "way", "(III)I"⟩, ⟨RX8, "step", "(I)I"⟩, ⟨RX8, "lay", "(I)I"⟩, ⟨RX8, "tear", "()I"⟩, ⟨RX8, "row", "(I)I"⟩, ⟨RX8, "copy", "(III)I"⟩, ⟨RX8, "give", "()I"⟩, ⟨RX8, "status", "(I)I"⟩, ⟨RJ9, "floorMod", "(II)I"⟩, ⟨RJ9, "max", "(II)I"⟩, ⟨RJ7, "fill", "([II)V"⟩]
def mn (i : Nat) : MethodName := mnL.getD i ⟨"", "", ""⟩
def flN : List (Nat × Nat × Nat × Nat) := [(5, 9, 192, 67), (5, 15, 193, 69), (5, 18, 194, 71), (5, 21, 195, 73), (5, 24, 196, 75), (4, 9, 128, 96), (4, 39, 129, 98), (3, 9, 64, 111), (3, 15, 65, 112), (3, 19, 66, 113), (3, 53, 67, 114), (3, 22, 68, 115), (3, 25, 69, 117), (3, 28, 70, 119), (3, 31, 71, 121), (3, 35, 72, 123), (3, 60, 73, 124), (0, 9, 0, 152), (0, 15, 1, 155), (0, 19, 2, 157), (6, 11, 256, 173), (6, 15, 257, 174), (6, 18, 258, 175), (6, 54, 259, 177), (6, 21, 260, 178), (7, 12, 320, 191), (7, 18, 321, 192), (7, 23, 322, 193), (7, 27, 323, 194), (7, 33, 324, 195), (7, 40, 325, 196), (7, 47, 326, 197), (7, 51, 327, 198), (7, 55, 328, 199), (7, 148, 329, 200), (7, 181, 330, 201), (7, 268, 331, 202), (8, 7, 384, 662), (8, 13, 385, 663), (8, 16, 386, 664), (8, 19, 387, 665), (8, 22, 388, 666), (8, 70, 389, 667), (8, 120, 390, 668), (8, 155, 391, 669), (8, 25, 392, 670), (8, 28, 393, 671), (8, 31, 394, 672), (8, 35, 395, 673), (8, 38, 396, 674), (8, 168, 397, 675), (8, 175, 398, 676), (8, 178, 399, 677), (8, 187, 400, 678), (8, 171, 401, 679), (8, 41, 402, 680), (8, 44, 403, 681), (8, 183, 404, 682), (8, 47, 405, 683), (8, 50, 406, 684), (8, 53, 407, 685), (8, 215, 408, 686), (8, 56, 409, 687), (8, 60, 410, 688), (8, 63, 411, 689), (8, 233, 412, 690)]
def flX : List (Nat × Nat × Nat × Nat) := [(7, 135, 192, 68), (7, 102, 193, 70), (7, 105, 194, 72), (7, 108, 195, 74), (7, 87, 196, 76), (7, 138, 128, 97), (7, 178, 129, 99), (7, 201, 68, 116), (7, 204, 69, 118), (7, 215, 70, 120), (7, 218, 71, 122), (6, 82, 0, 153), (7, 247, 0, 154), (6, 25, 1, 156), (6, 79, 2, 158), (7, 246, 2, 159), (7, 265, 258, 176), (7, 259, 260, 179)]
def mlL : List (Nat × Nat × Nat × Nat) := [(11, 9, 56, 55), (7, 11, 34, 63), (7, 22, 19, 92), (7, 32, 14, 107), (7, 39, 0, 148), (7, 46, 47, 169), (11, 13, 57, 228), (7, 58, 9, 232), (2, 13, 8, 235), (7, 64, 94, 240), (7, 68, 36, 244), (7, 72, 11, 248), (7, 75, 38, 251), (11, 18, 58, 255), (7, 79, 13, 259), (7, 83, 39, 262), (5, 28, 38, 266), (11, 23, 59, 267), (7, 91, 41, 271), (11, 28, 60, 275), (7, 95, 35, 279), (7, 99, 95, 283), (7, 111, 37, 287), (11, 32, 61, 291), (7, 114, 42, 295), (5, 42, 10, 299), (11, 37, 62, 303), (7, 118, 43, 307), (5, 32, 37, 311), (7, 121, 12, 312), (11, 41, 63, 316), (7, 125, 44, 320), (5, 46, 42, 324), (5, 54, 46, 327), (5, 58, 8, 331), (7, 128, 45, 332), (11, 45, 64, 336), (7, 131, 40, 340), (5, 36, 11, 344), (11, 50, 65, 345), (7, 145, 98, 353), (7, 274, 32, 357), (4, 62, 21, 361), (4, 66, 9, 365), (7, 277, 33, 366), (4, 70, 10, 370), (7, 171, 20, 372), (11, 54, 66, 377), (11, 58, 67, 381), (7, 151, 97, 385), (7, 155, 96, 389), (7, 154, 21, 393), (11, 63, 68, 394), (7, 158, 23, 398), (4, 21, 22, 402), (11, 68, 69, 406), (7, 162, 24, 410), (11, 72, 70, 416), (7, 165, 25, 420), (4, 29, 24, 424), (4, 33, 8, 425), (11, 76, 71, 426), (11, 80, 72, 430), (7, 168, 99, 434), (7, 175, 27, 438), (4, 44, 26, 443), (4, 48, 25, 447), (11, 84, 73, 448), (11, 88, 74, 452), (7, 184, 28, 456), (4, 52, 20, 460), (4, 56, 27, 461), (7, 187, 30, 462), (4, 59, 31, 466), (11, 92, 75, 470), (7, 191, 29, 474), (11, 96, 76, 478), (7, 194, 101, 482), (7, 207, 100, 486), (7, 197, 15, 490), (3, 39, 22, 494), (3, 45, 18, 495), (3, 67, 173, 499), (3, 49, 17, 502), (11, 100, 77, 507), (11, 104, 78, 511), (7, 211, 16, 516), (3, 56, 15, 520), (11, 108, 79, 521), (11, 112, 80, 525), (11, 117, 81, 529), (7, 222, 6, 533), (1, 9, 5, 536), (1, 15, 4, 539), (1, 18, 13, 542), (7, 227, 7, 543), (11, 121, 82, 546), (7, 230, 4, 550), (7, 233, 5, 551), (7, 236, 3, 552), (11, 125, 83, 555), (7, 239, 102, 559), (7, 242, 1, 562), (0, 22, 3, 566), (11, 129, 84, 567), (11, 133, 85, 571), (7, 249, 103, 575), (7, 252, 2, 578), (11, 138, 86, 582), (7, 255, 49, 586), (6, 30, 51, 590), (6, 48, 175, 594), (6, 57, 54, 597), (6, 34, 50, 601), (6, 61, 52, 604), (6, 64, 5, 608), (6, 69, 4, 609), (6, 72, 53, 610), (6, 76, 3, 614), (6, 38, 174, 615), (6, 44, 55, 618), (6, 84, 7, 622), (11, 142, 87, 623), (7, 262, 48, 627), (11, 146, 88, 631), (11, 150, 89, 635), (11, 154, 90, 639), (11, 158, 91, 643), (11, 162, 92, 648), (11, 166, 93, 652), (11, 12, 104, 658), (11, 17, 111, 751), (8, 81, 109, 755), (8, 77, 105, 760), (8, 85, 110, 763), (8, 66, 106, 767), (11, 22, 113, 771), (8, 91, 112, 776), (11, 27, 114, 780), (11, 31, 115, 784), (8, 97, 108, 788), (8, 101, 107, 792), (11, 36, 117, 796), (8, 104, 116, 800), (11, 40, 118, 803), (11, 44, 119, 809), (8, 116, 120, 815), (11, 49, 121, 819), (11, 53, 123, 823), (8, 125, 122, 828), (11, 57, 124, 832), (11, 62, 127, 836), (8, 128, 125, 840), (8, 131, 126, 844), (11, 67, 129, 848), (8, 136, 128, 852), (11, 71, 131, 856), (8, 140, 130, 860), (11, 75, 133, 864), (8, 144, 132, 868), (11, 79, 134, 872), (11, 83, 138, 876), (8, 148, 135, 880), (11, 87, 139, 884), (11, 91, 141, 888), (8, 158, 137, 892), (8, 151, 136, 896), (8, 161, 140, 900), (11, 95, 143, 904), (8, 164, 142, 908), (11, 99, 148, 912), (8, 197, 144, 916), (8, 201, 146, 920), (8, 190, 145, 924), (8, 194, 147, 929), (11, 103, 149, 933), (11, 107, 150, 937), (11, 111, 151, 943), (11, 116, 152, 947), (11, 120, 155, 952), (8, 209, 153, 956), (8, 212, 154, 959), (11, 124, 156, 962), (11, 128, 160, 966), (8, 218, 158, 970), (8, 221, 157, 973), (11, 132, 161, 977), (11, 137, 163, 981), (8, 224, 159, 985), (8, 227, 162, 989), (11, 141, 165, 993), (8, 230, 164, 997), (11, 145, 166, 1001), (11, 149, 167, 1005), (11, 153, 168, 1009), (11, 157, 169, 1013), (11, 161, 170, 1018), (11, 165, 171, 1023), (11, 169, 172, 1027)]
def clL : List (Nat × Nat × Nat × Nat) := [(11, 7, 5, 53), (7, 9, 3, 61), (7, 16, 2, 89), (7, 30, 1, 105), (7, 37, 0, 146), (7, 44, 4, 167), (11, 10, 6, 656)]
def icL : List (Nat × Nat × Nat × Nat) := [(7, 134, 7, 349), (4, 43, 8, 442), (7, 210, 9, 515), (8, 204, 9, 941)]
def lcL : List (Nat × Nat × Nat × Nat) := [(2, 9, 2, 238), (2, 11, 3, 239), (2, 19, 4, 302), (2, 21, 5, 315), (5, 50, 6, 325), (5, 52, 7, 326), (4, 74, 5, 371), (4, 25, 4, 414), (4, 27, 8, 415), (3, 63, 4, 505), (3, 65, 8, 506), (7, 272, 9, 647), (8, 73, 2, 758), (8, 75, 3, 759), (8, 89, 10, 775), (8, 95, 4, 779), (8, 108, 5, 807), (8, 110, 11, 808), (8, 112, 12, 813), (8, 114, 13, 814), (8, 123, 14, 827), (8, 134, 8, 847), (8, 181, 15, 928), (8, 205, 16, 942), (8, 207, 17, 951), (8, 236, 18, 1017), (8, 238, 9, 1022), (8, 240, 19, 1031)]
def oiL : List (Nat × Nat × Nat) := [(7, 3, 58), (5, 3, 66), (4, 3, 95), (3, 3, 110), (0, 3, 151), (6, 3, 172), (8, 1, 661)]
def acL : List (Nat × Nat × Nat) := [(7, 139, 350), (4, 15, 376)]
def vlL : List (Nat × Nat × Nat × Nat × Nat) := [(1, 563, 564, 45, 1), (2, 579, 580, 45, 1), (15, 491, 492, 44, 3), (16, 517, 518, 44, 2), (18, 497, 11, 44, 1), (20, 373, 374, 43, 1), (21, 362, 363, 43, 2), (22, 403, 404, 43, 1), (23, 399, 400, 43, 0), (24, 411, 412, 43, 2), (25, 421, 422, 43, 2), (26, 445, 7, 43, 0), (27, 439, 440, 43, 1), (28, 457, 458, 43, 1), (29, 475, 476, 43, 0), (30, 463, 464, 43, 1), (31, 468, 8, 43, 1), (32, 358, 359, 43, 0), (33, 367, 368, 43, 0), (35, 280, 281, 42, 1), (36, 245, 246, 42, 0), (37, 288, 289, 42, 2), (38, 252, 253, 42, 5), (39, 263, 264, 42, 2), (40, 341, 342, 42, 1), (41, 272, 273, 42, 0), (42, 296, 297, 42, 2), (43, 308, 309, 42, 2), (44, 321, 322, 42, 2), (45, 333, 334, 42, 2), (46, 329, 2, 42, 4), (48, 628, 629, 46, 0), (49, 587, 588, 46, 3), (51, 592, 12, 46, 3), (52, 606, 14, 46, 2), (53, 612, 15, 46, 4), (54, 599, 13, 46, 2), (55, 620, 16, 46, 3), (57, 229, 230, 41, 4), (58, 256, 257, 41, 2), (59, 268, 269, 41, 0), (60, 276, 277, 41, 2), (61, 292, 293, 41, 2), (62, 304, 305, 41, 2), (63, 317, 318, 41, 2), (64, 337, 338, 41, 1), (65, 346, 347, 41, 1), (66, 378, 379, 41, 0), (67, 382, 383, 41, 3), (68, 395, 396, 41, 1), (69, 407, 408, 41, 2), (70, 417, 418, 41, 2), (71, 427, 428, 41, 3), (72, 431, 432, 41, 1), (73, 449, 450, 41, 0), (74, 453, 454, 41, 2), (75, 471, 472, 41, 1), (76, 479, 480, 41, 2), (77, 508, 509, 41, 2), (78, 512, 513, 41, 2), (79, 522, 523, 41, 2), (80, 526, 527, 41, 3), (81, 530, 531, 41, 2), (82, 547, 548, 41, 2), (83, 556, 557, 41, 1), (84, 568, 569, 41, 2), (85, 572, 573, 41, 3), (86, 583, 584, 41, 3), (87, 624, 625, 41, 1), (88, 632, 633, 41, 1), (89, 636, 637, 41, 0), (90, 640, 641, 41, 1), (91, 644, 645, 41, 3), (92, 649, 650, 41, 0), (93, 653, 654, 41, 1), (94, 242, 0, 41, 1), (95, 285, 1, 41, 1), (96, 391, 5, 41, 1), (97, 387, 4, 41, 2), (98, 355, 3, 41, 0), (99, 436, 6, 41, 1), (100, 488, 10, 41, 1), (101, 484, 9, 41, 2), (106, 769, 18, 47, 1), (107, 794, 20, 47, 1), (108, 790, 19, 47, 1), (110, 765, 17, 47, 5), (111, 752, 753, 47, 4), (113, 772, 773, 47, 2), (114, 781, 782, 47, 0), (115, 785, 786, 47, 2), (117, 797, 798, 47, 2), (118, 804, 805, 47, 2), (119, 810, 811, 47, 2), (120, 817, 21, 47, 4), (121, 820, 821, 47, 1), (122, 830, 22, 47, 0), (123, 824, 825, 47, 1), (124, 833, 834, 47, 0), (125, 842, 23, 47, 1), (127, 837, 838, 47, 3), (128, 854, 24, 47, 1), (129, 849, 850, 47, 1), (130, 862, 25, 47, 3), (131, 857, 858, 47, 2), (132, 870, 26, 47, 2), (133, 865, 866, 47, 2), (134, 873, 874, 47, 3), (135, 882, 27, 47, 0), (136, 898, 29, 47, 1), (137, 894, 28, 47, 1), (138, 877, 878, 47, 1), (139, 885, 886, 47, 0), (140, 902, 30, 47, 0), (141, 889, 890, 47, 2), (142, 910, 31, 47, 0), (143, 905, 906, 47, 1), (144, 918, 32, 47, 4), (145, 926, 34, 47, 3), (146, 922, 33, 47, 3), (147, 931, 35, 47, 1), (148, 913, 914, 47, 2), (149, 934, 935, 47, 2), (150, 938, 939, 47, 2), (151, 944, 945, 47, 2), (152, 948, 949, 47, 3), (155, 953, 954, 47, 2), (156, 963, 964, 47, 2), (157, 975, 36, 47, 1), (159, 987, 37, 47, 2), (160, 967, 968, 47, 1), (161, 978, 979, 47, 2), (162, 991, 38, 47, 1), (163, 982, 983, 47, 3), (164, 999, 39, 47, 2), (165, 994, 995, 47, 3), (166, 1002, 1003, 47, 1), (167, 1006, 1007, 47, 1), (168, 1010, 1011, 47, 0), (169, 1014, 1015, 47, 1), (170, 1019, 1020, 47, 3), (171, 1024, 1025, 47, 0), (172, 1028, 1029, 47, 1)]
def slL : List (Nat × Nat × Nat × Nat) := [(3, 553, 51, 2), (4, 540, 51, 1), (5, 537, 51, 1), (6, 534, 51, 1), (7, 544, 51, 2), (8, 236, 48, 1), (9, 233, 48, 4), (10, 300, 48, 3), (11, 249, 48, 1), (12, 313, 48, 1), (13, 260, 48, 2), (17, 503, 44, 3), (50, 602, 46, 1), (102, 560, 41, 1), (103, 576, 41, 2), (105, 761, 47, 3), (109, 756, 47, 4), (112, 777, 47, 2), (116, 801, 47, 4), (126, 845, 47, 1), (153, 957, 47, 1), (154, 960, 47, 2), (158, 971, 47, 1), (173, 500, 50, 2), (174, 616, 50, 2), (175, 595, 52, 2)]
def ilL : List (Nat × Nat × Nat × Nat) := [(0, 149, 45, 0), (14, 108, 44, 0), (19, 93, 43, 0), (34, 64, 42, 0), (47, 170, 46, 0), (56, 56, 41, 0), (104, 659, 47, 0)]
def nlL : List (Nat × Nat × Nat × Nat) := [(5, 54, 41, 12), (3, 62, 42, 5), (2, 91, 43, 2), (1, 106, 44, 10), (0, 147, 45, 3), (4, 168, 46, 5), (6, 657, 47, 29)]
def ics : List Int32 := [0, 1, 2, 3, 4, 5, -1, 160000, 1000000, -1000000000, 279, 100, 6, 300, 40, 24, 16, 8, 12, 15, 80, 20, 961, 31, 9, -7, -8, 999, -2, -3, -5, -4, -6, 30, 96, 400, 299, 99, 1000]
def lcs : List Int64 := [0, 1, -1000000000, 1000000000, 2, -2, -2000000000, 2000000000, 3, 16, 999, -1, -4000000000, 4000000000, 159999, 24, 300, 4, 15, -8]
def posAO : Nat := 90
def posAI : Nat := 88
def posAL : Nat := 750
def posOC : Nat := 60
def posOI : Nat := 59
def posCN : Nat := 352
def posCS : Nat := 351
def posCI : Nat := 49
