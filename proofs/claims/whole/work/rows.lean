section
-- ===== PART A: goes FIRST, ahead of the names: the tables' words, and 'selects' of the private methods out of them =====
/-- a private method of a class that the tables say can be made, by its rows of tables_1 -/
def lw_okq (q : MethodName × Nat) : Prop := (q.1.cls ≠ "java/lang/invoke/MethodHandle" ∧ q.1.cls ≠ "java/lang/invoke/VarHandle") ∧ Cond.instantiable q.1.cls q.2 ∈ tables_1 ∧ Cond.privateMethod q.1 ∈ tables_1 ∧ Cond.instanceMethod q.1 ∈ tables_1
theorem lw_p0 : lw_okq (⟨"RoundKiss", "refuse", "(I)I"⟩, 12) := ⟨⟨by decide +kernel, by decide +kernel⟩, List.mem_of_getElem? (i := 14) (by decide +kernel), List.mem_of_getElem? (i := 201) (by decide +kernel), List.mem_of_getElem? (i := 202) (by decide +kernel)⟩
theorem lw_p1 : lw_okq (⟨"RoundKiss", "refuseByZero", "(I)I"⟩, 12) := ⟨⟨by decide +kernel, by decide +kernel⟩, List.mem_of_getElem? (i := 14) (by decide +kernel), List.mem_of_getElem? (i := 244) (by decide +kernel), List.mem_of_getElem? (i := 245) (by decide +kernel)⟩
theorem lw_p2 : lw_okq (⟨"RoundKiss$Shelf", "mirrored", "(IIIJ)J"⟩, 5) := ⟨⟨by decide +kernel, by decide +kernel⟩, List.mem_of_getElem? (i := 22) (by decide +kernel), List.mem_of_getElem? (i := 288) (by decide +kernel), List.mem_of_getElem? (i := 289) (by decide +kernel)⟩
theorem lw_p3 : lw_okq (⟨"RoundKiss", "keepWork", "()I"⟩, 12) := ⟨⟨by decide +kernel, by decide +kernel⟩, List.mem_of_getElem? (i := 14) (by decide +kernel), List.mem_of_getElem? (i := 314) (by decide +kernel), List.mem_of_getElem? (i := 315) (by decide +kernel)⟩
theorem lw_p4 : lw_okq (⟨"RoundKiss", "hasPlace", "(II)Z"⟩, 12) := ⟨⟨by decide +kernel, by decide +kernel⟩, List.mem_of_getElem? (i := 14) (by decide +kernel), List.mem_of_getElem? (i := 346) (by decide +kernel), List.mem_of_getElem? (i := 347) (by decide +kernel)⟩
theorem lw_p5 : lw_okq (⟨"RoundKiss", "hasKiss", "(I)Z"⟩, 12) := ⟨⟨by decide +kernel, by decide +kernel⟩, List.mem_of_getElem? (i := 14) (by decide +kernel), List.mem_of_getElem? (i := 350) (by decide +kernel), List.mem_of_getElem? (i := 351) (by decide +kernel)⟩
theorem lw_p6 : lw_okq (⟨"RoundKiss", "whyNoLeast", "(I)I"⟩, 12) := ⟨⟨by decide +kernel, by decide +kernel⟩, List.mem_of_getElem? (i := 14) (by decide +kernel), List.mem_of_getElem? (i := 395) (by decide +kernel), List.mem_of_getElem? (i := 396) (by decide +kernel)⟩
theorem lw_p7 : lw_okq (⟨"RoundKiss$Quad", "placeOfGreatestBend", "()I"⟩, 2) := ⟨⟨by decide +kernel, by decide +kernel⟩, List.mem_of_getElem? (i := 51) (by decide +kernel), List.mem_of_getElem? (i := 404) (by decide +kernel), List.mem_of_getElem? (i := 405) (by decide +kernel)⟩
theorem lw_p8 : lw_okq (⟨"RoundKiss$Quad", "howOften", "(I)I"⟩, 2) := ⟨⟨by decide +kernel, by decide +kernel⟩, List.mem_of_getElem? (i := 51) (by decide +kernel), List.mem_of_getElem? (i := 427) (by decide +kernel), List.mem_of_getElem? (i := 428) (by decide +kernel)⟩
theorem lw_p9 : lw_okq (⟨"RoundKiss", "whyNoPackingUpTo", "(II)I"⟩, 12) := ⟨⟨by decide +kernel, by decide +kernel⟩, List.mem_of_getElem? (i := 14) (by decide +kernel), List.mem_of_getElem? (i := 443) (by decide +kernel), List.mem_of_getElem? (i := 444) (by decide +kernel)⟩
theorem lw_p10 : lw_okq (⟨"RoundKiss", "whyNoPacking", "(I)I"⟩, 12) := ⟨⟨by decide +kernel, by decide +kernel⟩, List.mem_of_getElem? (i := 14) (by decide +kernel), List.mem_of_getElem? (i := 447) (by decide +kernel), List.mem_of_getElem? (i := 448) (by decide +kernel)⟩
theorem lw_p11 : lw_okq (⟨"RoundKiss$Packing", "note", "(I)V"⟩, 10) := ⟨⟨by decide +kernel, by decide +kernel⟩, List.mem_of_getElem? (i := 66) (by decide +kernel), List.mem_of_getElem? (i := 456) (by decide +kernel), List.mem_of_getElem? (i := 457) (by decide +kernel)⟩
theorem lw_p12 : lw_okq (⟨"RoundKiss$Trail", "spread", "(III)V"⟩, 5) := ⟨⟨by decide +kernel, by decide +kernel⟩, List.mem_of_getElem? (i := 128) (by decide +kernel), List.mem_of_getElem? (i := 551) (by decide +kernel), List.mem_of_getElem? (i := 552) (by decide +kernel)⟩
theorem lw_p13 : lw_okq (⟨"RoundKiss$Trail", "find", "(II)V"⟩, 5) := ⟨⟨by decide +kernel, by decide +kernel⟩, List.mem_of_getElem? (i := 128) (by decide +kernel), List.mem_of_getElem? (i := 558) (by decide +kernel), List.mem_of_getElem? (i := 559) (by decide +kernel)⟩
theorem lw_p14 : lw_okq (⟨"RoundKiss$Trail", "findAllNear", "(II)V"⟩, 5) := ⟨⟨by decide +kernel, by decide +kernel⟩, List.mem_of_getElem? (i := 128) (by decide +kernel), List.mem_of_getElem? (i := 565) (by decide +kernel), List.mem_of_getElem? (i := 566) (by decide +kernel)⟩
theorem lw_p15 : lw_okq (⟨"RoundKiss$Trail", "findQuotient", "(IIII)V"⟩, 5) := ⟨⟨by decide +kernel, by decide +kernel⟩, List.mem_of_getElem? (i := 128) (by decide +kernel), List.mem_of_getElem? (i := 571) (by decide +kernel), List.mem_of_getElem? (i := 572) (by decide +kernel)⟩
def lw_privs_1 : List (MethodName × Nat) := [(⟨"RoundKiss", "refuse", "(I)I"⟩, 12), (⟨"RoundKiss", "refuseByZero", "(I)I"⟩, 12), (⟨"RoundKiss$Shelf", "mirrored", "(IIIJ)J"⟩, 5), (⟨"RoundKiss", "keepWork", "()I"⟩, 12), (⟨"RoundKiss", "hasPlace", "(II)Z"⟩, 12), (⟨"RoundKiss", "hasKiss", "(I)Z"⟩, 12), (⟨"RoundKiss", "whyNoLeast", "(I)I"⟩, 12), (⟨"RoundKiss$Quad", "placeOfGreatestBend", "()I"⟩, 2), (⟨"RoundKiss$Quad", "howOften", "(I)I"⟩, 2), (⟨"RoundKiss", "whyNoPackingUpTo", "(II)I"⟩, 12), (⟨"RoundKiss", "whyNoPacking", "(I)I"⟩, 12), (⟨"RoundKiss$Packing", "note", "(I)V"⟩, 10), (⟨"RoundKiss$Trail", "spread", "(III)V"⟩, 5), (⟨"RoundKiss$Trail", "find", "(II)V"⟩, 5), (⟨"RoundKiss$Trail", "findAllNear", "(II)V"⟩, 5), (⟨"RoundKiss$Trail", "findQuotient", "(IIII)V"⟩, 5)]
theorem lw_r1 : ∀ q ∈ lw_privs_1, lw_okq q := List.forall_mem_cons.mpr ⟨lw_p0, List.forall_mem_cons.mpr ⟨lw_p1, List.forall_mem_cons.mpr ⟨lw_p2, List.forall_mem_cons.mpr ⟨lw_p3, List.forall_mem_cons.mpr ⟨lw_p4, List.forall_mem_cons.mpr ⟨lw_p5, List.forall_mem_cons.mpr ⟨lw_p6, List.forall_mem_cons.mpr ⟨lw_p7, List.forall_mem_cons.mpr ⟨lw_p8, List.forall_mem_cons.mpr ⟨lw_p9, List.forall_mem_cons.mpr ⟨lw_p10, List.forall_mem_cons.mpr ⟨lw_p11, List.forall_mem_cons.mpr ⟨lw_p12, List.forall_mem_cons.mpr ⟨lw_p13, List.forall_mem_cons.mpr ⟨lw_p14, List.forall_mem_cons.mpr ⟨lw_p15, fun _ h => absurd h List.not_mem_nil⟩⟩⟩⟩⟩⟩⟩⟩⟩⟩⟩⟩⟩⟩⟩⟩
theorem lw_p16 : lw_okq (⟨"RoundKiss$Trail", "leastNear", "(LRoundKiss$FareyRow;II)I"⟩, 5) := ⟨⟨by decide +kernel, by decide +kernel⟩, List.mem_of_getElem? (i := 128) (by decide +kernel), List.mem_of_getElem? (i := 579) (by decide +kernel), List.mem_of_getElem? (i := 580) (by decide +kernel)⟩
theorem lw_p17 : lw_okq (⟨"RoundKissModel", "adds", "(JJJJI)I"⟩, 29) := ⟨⟨by decide +kernel, by decide +kernel⟩, List.mem_of_getElem? (i := 617) (by decide +kernel), List.mem_of_getElem? (i := 724) (by decide +kernel), List.mem_of_getElem? (i := 725) (by decide +kernel)⟩
theorem lw_p18 : lw_okq (⟨"RoundKissModel", "no", "(I)I"⟩, 29) := ⟨⟨by decide +kernel, by decide +kernel⟩, List.mem_of_getElem? (i := 617) (by decide +kernel), List.mem_of_getElem? (i := 728) (by decide +kernel), List.mem_of_getElem? (i := 729) (by decide +kernel)⟩
theorem lw_p19 : lw_okq (⟨"RoundKissModel", "isRound", "(I)Z"⟩, 29) := ⟨⟨by decide +kernel, by decide +kernel⟩, List.mem_of_getElem? (i := 617) (by decide +kernel), List.mem_of_getElem? (i := 749) (by decide +kernel), List.mem_of_getElem? (i := 750) (by decide +kernel)⟩
theorem lw_p20 : lw_okq (⟨"RoundKissModel", "none", "(I)I"⟩, 29) := ⟨⟨by decide +kernel, by decide +kernel⟩, List.mem_of_getElem? (i := 617) (by decide +kernel), List.mem_of_getElem? (i := 753) (by decide +kernel), List.mem_of_getElem? (i := 754) (by decide +kernel)⟩
theorem lw_p21 : lw_okq (⟨"RoundKissModel", "mirrored", "(IIIJ)J"⟩, 29) := ⟨⟨by decide +kernel, by decide +kernel⟩, List.mem_of_getElem? (i := 617) (by decide +kernel), List.mem_of_getElem? (i := 776) (by decide +kernel), List.mem_of_getElem? (i := 777) (by decide +kernel)⟩
theorem lw_p22 : lw_okq (⟨"RoundKissModel", "kisses", "()I"⟩, 29) := ⟨⟨by decide +kernel, by decide +kernel⟩, List.mem_of_getElem? (i := 617) (by decide +kernel), List.mem_of_getElem? (i := 789) (by decide +kernel), List.mem_of_getElem? (i := 790) (by decide +kernel)⟩
theorem lw_p23 : lw_okq (⟨"RoundKissModel", "isKiss", "(I)Z"⟩, 29) := ⟨⟨by decide +kernel, by decide +kernel⟩, List.mem_of_getElem? (i := 617) (by decide +kernel), List.mem_of_getElem? (i := 801) (by decide +kernel), List.mem_of_getElem? (i := 802) (by decide +kernel)⟩
theorem lw_p24 : lw_okq (⟨"RoundKissModel", "heightOf", "(I)J"⟩, 29) := ⟨⟨by decide +kernel, by decide +kernel⟩, List.mem_of_getElem? (i := 617) (by decide +kernel), List.mem_of_getElem? (i := 813) (by decide +kernel), List.mem_of_getElem? (i := 814) (by decide +kernel)⟩
theorem lw_p25 : lw_okq (⟨"RoundKissModel", "swapped", "(III)J"⟩, 29) := ⟨⟨by decide +kernel, by decide +kernel⟩, List.mem_of_getElem? (i := 617) (by decide +kernel), List.mem_of_getElem? (i := 821) (by decide +kernel), List.mem_of_getElem? (i := 822) (by decide +kernel)⟩
theorem lw_p26 : lw_okq (⟨"RoundKissModel", "swaps", "(II)Z"⟩, 29) := ⟨⟨by decide +kernel, by decide +kernel⟩, List.mem_of_getElem? (i := 617) (by decide +kernel), List.mem_of_getElem? (i := 829) (by decide +kernel), List.mem_of_getElem? (i := 830) (by decide +kernel)⟩
theorem lw_p27 : lw_okq (⟨"RoundKissModel", "greatest", "()I"⟩, 29) := ⟨⟨by decide +kernel, by decide +kernel⟩, List.mem_of_getElem? (i := 617) (by decide +kernel), List.mem_of_getElem? (i := 841) (by decide +kernel), List.mem_of_getElem? (i := 842) (by decide +kernel)⟩
theorem lw_p28 : lw_okq (⟨"RoundKissModel", "leads", "(I)V"⟩, 29) := ⟨⟨by decide +kernel, by decide +kernel⟩, List.mem_of_getElem? (i := 617) (by decide +kernel), List.mem_of_getElem? (i := 853) (by decide +kernel), List.mem_of_getElem? (i := 854) (by decide +kernel)⟩
theorem lw_p29 : lw_okq (⟨"RoundKissModel", "exchanges", "(I)V"⟩, 29) := ⟨⟨by decide +kernel, by decide +kernel⟩, List.mem_of_getElem? (i := 617) (by decide +kernel), List.mem_of_getElem? (i := 857) (by decide +kernel), List.mem_of_getElem? (i := 858) (by decide +kernel)⟩
theorem lw_p30 : lw_okq (⟨"RoundKissModel", "sorts", "()V"⟩, 29) := ⟨⟨by decide +kernel, by decide +kernel⟩, List.mem_of_getElem? (i := 617) (by decide +kernel), List.mem_of_getElem? (i := 861) (by decide +kernel), List.mem_of_getElem? (i := 862) (by decide +kernel)⟩
theorem lw_p31 : lw_okq (⟨"RoundKissModel", "isShut", "()Z"⟩, 29) := ⟨⟨by decide +kernel, by decide +kernel⟩, List.mem_of_getElem? (i := 617) (by decide +kernel), List.mem_of_getElem? (i := 869) (by decide +kernel), List.mem_of_getElem? (i := 870) (by decide +kernel)⟩
def lw_privs_2 : List (MethodName × Nat) := [(⟨"RoundKiss$Trail", "leastNear", "(LRoundKiss$FareyRow;II)I"⟩, 5), (⟨"RoundKissModel", "adds", "(JJJJI)I"⟩, 29), (⟨"RoundKissModel", "no", "(I)I"⟩, 29), (⟨"RoundKissModel", "isRound", "(I)Z"⟩, 29), (⟨"RoundKissModel", "none", "(I)I"⟩, 29), (⟨"RoundKissModel", "mirrored", "(IIIJ)J"⟩, 29), (⟨"RoundKissModel", "kisses", "()I"⟩, 29), (⟨"RoundKissModel", "isKiss", "(I)Z"⟩, 29), (⟨"RoundKissModel", "heightOf", "(I)J"⟩, 29), (⟨"RoundKissModel", "swapped", "(III)J"⟩, 29), (⟨"RoundKissModel", "swaps", "(II)Z"⟩, 29), (⟨"RoundKissModel", "greatest", "()I"⟩, 29), (⟨"RoundKissModel", "leads", "(I)V"⟩, 29), (⟨"RoundKissModel", "exchanges", "(I)V"⟩, 29), (⟨"RoundKissModel", "sorts", "()V"⟩, 29), (⟨"RoundKissModel", "isShut", "()Z"⟩, 29)]
theorem lw_r2 : ∀ q ∈ lw_privs_2, lw_okq q := List.forall_mem_cons.mpr ⟨lw_p16, List.forall_mem_cons.mpr ⟨lw_p17, List.forall_mem_cons.mpr ⟨lw_p18, List.forall_mem_cons.mpr ⟨lw_p19, List.forall_mem_cons.mpr ⟨lw_p20, List.forall_mem_cons.mpr ⟨lw_p21, List.forall_mem_cons.mpr ⟨lw_p22, List.forall_mem_cons.mpr ⟨lw_p23, List.forall_mem_cons.mpr ⟨lw_p24, List.forall_mem_cons.mpr ⟨lw_p25, List.forall_mem_cons.mpr ⟨lw_p26, List.forall_mem_cons.mpr ⟨lw_p27, List.forall_mem_cons.mpr ⟨lw_p28, List.forall_mem_cons.mpr ⟨lw_p29, List.forall_mem_cons.mpr ⟨lw_p30, List.forall_mem_cons.mpr ⟨lw_p31, fun _ h => absurd h List.not_mem_nil⟩⟩⟩⟩⟩⟩⟩⟩⟩⟩⟩⟩⟩⟩⟩⟩
theorem lw_p32 : lw_okq (⟨"RoundKissModel", "whyNot", "(IIII)I"⟩, 29) := ⟨⟨by decide +kernel, by decide +kernel⟩, List.mem_of_getElem? (i := 617) (by decide +kernel), List.mem_of_getElem? (i := 877) (by decide +kernel), List.mem_of_getElem? (i := 878) (by decide +kernel)⟩
theorem lw_p33 : lw_okq (⟨"RoundKissModel", "goesThrough", "(JII)V"⟩, 29) := ⟨⟨by decide +kernel, by decide +kernel⟩, List.mem_of_getElem? (i := 617) (by decide +kernel), List.mem_of_getElem? (i := 881) (by decide +kernel), List.mem_of_getElem? (i := 882) (by decide +kernel)⟩
theorem lw_p34 : lw_okq (⟨"RoundKissModel", "counts", "(JII)V"⟩, 29) := ⟨⟨by decide +kernel, by decide +kernel⟩, List.mem_of_getElem? (i := 617) (by decide +kernel), List.mem_of_getElem? (i := 885) (by decide +kernel), List.mem_of_getElem? (i := 886) (by decide +kernel)⟩
theorem lw_p35 : lw_okq (⟨"RoundKissModel", "meets", "(I)V"⟩, 29) := ⟨⟨by decide +kernel, by decide +kernel⟩, List.mem_of_getElem? (i := 617) (by decide +kernel), List.mem_of_getElem? (i := 890) (by decide +kernel), List.mem_of_getElem? (i := 891) (by decide +kernel)⟩
theorem lw_p36 : lw_okq (⟨"RoundKissModel", "makesRow", "(I)V"⟩, 29) := ⟨⟨by decide +kernel, by decide +kernel⟩, List.mem_of_getElem? (i := 617) (by decide +kernel), List.mem_of_getElem? (i := 934) (by decide +kernel), List.mem_of_getElem? (i := 935) (by decide +kernel)⟩
theorem lw_p37 : lw_okq (⟨"RoundKissModel", "isOf", "(II)Z"⟩, 29) := ⟨⟨by decide +kernel, by decide +kernel⟩, List.mem_of_getElem? (i := 617) (by decide +kernel), List.mem_of_getElem? (i := 946) (by decide +kernel), List.mem_of_getElem? (i := 947) (by decide +kernel)⟩
theorem lw_p38 : lw_okq (⟨"RoundKissModel", "placeOf", "(I)I"⟩, 29) := ⟨⟨by decide +kernel, by decide +kernel⟩, List.mem_of_getElem? (i := 617) (by decide +kernel), List.mem_of_getElem? (i := 950) (by decide +kernel), List.mem_of_getElem? (i := 951) (by decide +kernel)⟩
theorem lw_p39 : lw_okq (⟨"RoundKissModel", "areNear", "(II)Z"⟩, 29) := ⟨⟨by decide +kernel, by decide +kernel⟩, List.mem_of_getElem? (i := 617) (by decide +kernel), List.mem_of_getElem? (i := 958) (by decide +kernel), List.mem_of_getElem? (i := 959) (by decide +kernel)⟩
def lw_privs_3 : List (MethodName × Nat) := [(⟨"RoundKissModel", "whyNot", "(IIII)I"⟩, 29), (⟨"RoundKissModel", "goesThrough", "(JII)V"⟩, 29), (⟨"RoundKissModel", "counts", "(JII)V"⟩, 29), (⟨"RoundKissModel", "meets", "(I)V"⟩, 29), (⟨"RoundKissModel", "makesRow", "(I)V"⟩, 29), (⟨"RoundKissModel", "isOf", "(II)Z"⟩, 29), (⟨"RoundKissModel", "placeOf", "(I)I"⟩, 29), (⟨"RoundKissModel", "areNear", "(II)Z"⟩, 29)]
theorem lw_r3 : ∀ q ∈ lw_privs_3, lw_okq q := List.forall_mem_cons.mpr ⟨lw_p32, List.forall_mem_cons.mpr ⟨lw_p33, List.forall_mem_cons.mpr ⟨lw_p34, List.forall_mem_cons.mpr ⟨lw_p35, List.forall_mem_cons.mpr ⟨lw_p36, List.forall_mem_cons.mpr ⟨lw_p37, List.forall_mem_cons.mpr ⟨lw_p38, List.forall_mem_cons.mpr ⟨lw_p39, fun _ h => absurd h List.not_mem_nil⟩⟩⟩⟩⟩⟩⟩⟩
def lw_privs : List (MethodName × Nat) := lw_privs_1 ++ (lw_privs_2 ++ (lw_privs_3))
def lw_tbl : List Cond := k2_sels lw_privs ++ tables_1
theorem lw_privs_ok : ∀ q ∈ lw_privs, lw_okq q := by
  show ∀ q ∈ lw_privs_1 ++ (lw_privs_2 ++ (lw_privs_3)), lw_okq q
  exact List.forall_mem_append.mpr ⟨lw_r1, List.forall_mem_append.mpr ⟨lw_r2, lw_r3⟩⟩
def RX0 : String := "RoundKiss$FareyRow"
def TX0 : u_T := fun k => match k with
  | 0 => ("RoundKiss$FareyRow", "told", "[I", true)
  | 1 => ("RoundKiss$FareyRow", "order", "I", false)
  | _ => ("RoundKiss$FareyRow", "size", "I", false)
def tyX0 : Nat → FieldType := fun k => match k with
  | 0 => .array .int
  | 1 => .int
  | _ => .int
theorem nmX0 : ∀ a, a < 3 → ∀ b, b < 3 → a ≠ b → (TX0 a).2.1 ≠ (TX0 b).2.1 := by decide +kernel
theorem tyX0_ok : ∀ k, k < 3 → parseFieldDescriptor (TX0 k).2.2.1 = some (tyX0 k) := by decide +kernel
def RX1 : String := "RoundKiss$Fractions"
def TX1 : u_T := fun k => match k with
  | _ => ("", "", "", false)
def tyX1 : Nat → FieldType := fun k => match k with
  | _ => .int
theorem nmX1 : ∀ a, a < 0 → ∀ b, b < 0 → a ≠ b → (TX1 a).2.1 ≠ (TX1 b).2.1 := by decide +kernel
theorem tyX1_ok : ∀ k, k < 0 → parseFieldDescriptor (TX1 k).2.2.1 = some (tyX1 k) := by decide +kernel
def RX2 : String := "RoundKiss$Numbers"
def TX2 : u_T := fun k => match k with
  | _ => ("", "", "", false)
def tyX2 : Nat → FieldType := fun k => match k with
  | _ => .int
theorem nmX2 : ∀ a, a < 0 → ∀ b, b < 0 → a ≠ b → (TX2 a).2.1 ≠ (TX2 b).2.1 := by decide +kernel
theorem tyX2_ok : ∀ k, k < 0 → parseFieldDescriptor (TX2 k).2.2.1 = some (tyX2 k) := by decide +kernel
def RX3 : String := "RoundKiss$Packing"
def TX3 : u_T := fun k => match k with
  | 0 => ("RoundKiss$Packing", "quad", "[I", true)
  | 1 => ("RoundKiss$Packing", "limit", "I", false)
  | 2 => ("RoundKiss$Packing", "barred", "I", false)
  | 3 => ("RoundKiss$Packing", "floor", "I", false)
  | 4 => ("RoundKiss$Packing", "tally", "I", false)
  | 5 => ("RoundKiss$Packing", "tallyAtLimit", "I", false)
  | 6 => ("RoundKiss$Packing", "restBits", "I", false)
  | 7 => ("RoundKiss$Packing", "bendTotal", "J", false)
  | 8 => ("RoundKiss$Packing", "isAboveFound", "Z", false)
  | _ => ("RoundKiss$Packing", "leastAbove", "I", false)
def tyX3 : Nat → FieldType := fun k => match k with
  | 0 => .array .int
  | 1 => .int
  | 2 => .int
  | 3 => .int
  | 4 => .int
  | 5 => .int
  | 6 => .int
  | 7 => .long
  | 8 => .boolean
  | _ => .int
theorem nmX3 : ∀ a, a < 10 → ∀ b, b < 10 → a ≠ b → (TX3 a).2.1 ≠ (TX3 b).2.1 := by decide +kernel
theorem tyX3_ok : ∀ k, k < 10 → parseFieldDescriptor (TX3 k).2.2.1 = some (tyX3 k) := by decide +kernel
def RX4 : String := "RoundKiss$Quad"
def TX4 : u_T := fun k => match k with
  | 0 => ("RoundKiss$Quad", "numbers", "[I", true)
  | _ => ("RoundKiss$Quad", "firstPlaces", "I", false)
def tyX4 : Nat → FieldType := fun k => match k with
  | 0 => .array .int
  | _ => .int
theorem nmX4 : ∀ a, a < 2 → ∀ b, b < 2 → a ≠ b → (TX4 a).2.1 ≠ (TX4 b).2.1 := by decide +kernel
theorem tyX4_ok : ∀ k, k < 2 → parseFieldDescriptor (TX4 k).2.2.1 = some (tyX4 k) := by decide +kernel
def RX5 : String := "RoundKiss$Shelf"
def TX5 : u_T := fun k => match k with
  | 0 => ("RoundKiss$Shelf", "numbers", "[I", true)
  | 1 => ("RoundKiss$Shelf", "kinds", "[I", true)
  | 2 => ("RoundKiss$Shelf", "tops", "[I", true)
  | 3 => ("RoundKiss$Shelf", "bottoms", "[I", true)
  | _ => ("RoundKiss$Shelf", "size", "I", false)
def tyX5 : Nat → FieldType := fun k => match k with
  | 0 => .array .int
  | 1 => .array .int
  | 2 => .array .int
  | 3 => .array .int
  | _ => .int
theorem nmX5 : ∀ a, a < 5 → ∀ b, b < 5 → a ≠ b → (TX5 a).2.1 ≠ (TX5 b).2.1 := by decide +kernel
theorem tyX5_ok : ∀ k, k < 5 → parseFieldDescriptor (TX5 k).2.2.1 = some (tyX5 k) := by decide +kernel
def RX6 : String := "RoundKiss$Trail"
def TX6 : u_T := fun k => match k with
  | 0 => ("RoundKiss$Trail", "reach", "[I", true)
  | 1 => ("RoundKiss$Trail", "found", "[I", true)
  | 2 => ("RoundKiss$Trail", "stops", "[I", true)
  | 3 => ("RoundKiss$Trail", "foundThere", "I", false)
  | _ => ("RoundKiss$Trail", "steps", "I", false)
def tyX6 : Nat → FieldType := fun k => match k with
  | 0 => .array .int
  | 1 => .array .int
  | 2 => .array .int
  | 3 => .int
  | _ => .int
theorem nmX6 : ∀ a, a < 5 → ∀ b, b < 5 → a ≠ b → (TX6 a).2.1 ≠ (TX6 b).2.1 := by decide +kernel
theorem tyX6_ok : ∀ k, k < 5 → parseFieldDescriptor (TX6 k).2.2.1 = some (tyX6 k) := by decide +kernel
def RX7 : String := "RoundKiss"
def TX7 : u_T := fun k => match k with
  | 0 => ("RoundKiss", "shelf", "LRoundKiss$Shelf;", true)
  | 1 => ("RoundKiss", "kisses", "[LRoundKiss$Quad;", true)
  | 2 => ("RoundKiss", "work", "LRoundKiss$Quad;", true)
  | 3 => ("RoundKiss", "secondWork", "LRoundKiss$Quad;", true)
  | 4 => ("RoundKiss", "packing", "LRoundKiss$Packing;", true)
  | 5 => ("RoundKiss", "farey", "LRoundKiss$FareyRow;", true)
  | 6 => ("RoundKiss", "trail", "LRoundKiss$Trail;", true)
  | 7 => ("RoundKiss", "laid", "[I", true)
  | 8 => ("RoundKiss", "refusals", "[I", true)
  | 9 => ("RoundKiss", "kissesThere", "I", false)
  | 10 => ("RoundKiss", "ledPlaces", "I", false)
  | _ => ("RoundKiss", "isLaid", "Z", false)
def tyX7 : Nat → FieldType := fun k => match k with
  | 0 => .object "RoundKiss$Shelf"
  | 1 => .array (.object "RoundKiss$Quad")
  | 2 => .object "RoundKiss$Quad"
  | 3 => .object "RoundKiss$Quad"
  | 4 => .object "RoundKiss$Packing"
  | 5 => .object "RoundKiss$FareyRow"
  | 6 => .object "RoundKiss$Trail"
  | 7 => .array .int
  | 8 => .array .int
  | 9 => .int
  | 10 => .int
  | _ => .boolean
theorem nmX7 : ∀ a, a < 12 → ∀ b, b < 12 → a ≠ b → (TX7 a).2.1 ≠ (TX7 b).2.1 := by decide +kernel
theorem tyX7_ok : ∀ k, k < 12 → parseFieldDescriptor (TX7 k).2.2.1 = some (tyX7 k) := by decide +kernel
def RX8 : String := "RoundKissModel"
def TX8 : u_T := fun k => match k with
  | 0 => ("RoundKissModel", "rounds", "[I", true)
  | 1 => ("RoundKissModel", "kind", "[I", true)
  | 2 => ("RoundKissModel", "upper", "[I", true)
  | 3 => ("RoundKissModel", "lower", "[I", true)
  | 4 => ("RoundKissModel", "kisses", "[I", true)
  | 5 => ("RoundKissModel", "many", "I", false)
  | 6 => ("RoundKissModel", "kissed", "I", false)
  | 7 => ("RoundKissModel", "ledTo", "I", false)
  | 8 => ("RoundKissModel", "refused", "[I", true)
  | 9 => ("RoundKissModel", "four", "[I", true)
  | 10 => ("RoundKissModel", "bend", "[J", true)
  | 11 => ("RoundKissModel", "kept", "[I", true)
  | 12 => ("RoundKissModel", "sorted", "[J", true)
  | 13 => ("RoundKissModel", "rounds0", "I", false)
  | 14 => ("RoundKissModel", "exactly", "I", false)
  | 15 => ("RoundKissModel", "restBits", "I", false)
  | 16 => ("RoundKissModel", "nextOne", "I", false)
  | 17 => ("RoundKissModel", "sumAll", "J", false)
  | 18 => ("RoundKissModel", "touching", "[I", true)
  | 19 => ("RoundKissModel", "path", "[I", true)
  | 20 => ("RoundKissModel", "hasNext", "Z", false)
  | 21 => ("RoundKissModel", "row", "[I", true)
  | 22 => ("RoundKissModel", "from", "[I", true)
  | 23 => ("RoundKissModel", "way", "[I", true)
  | 24 => ("RoundKissModel", "rowSize", "I", false)
  | 25 => ("RoundKissModel", "wayLong", "I", false)
  | 26 => ("RoundKissModel", "told", "[I", true)
  | 27 => ("RoundKissModel", "moved", "[I", true)
  | _ => ("RoundKissModel", "hasRow", "Z", false)
def tyX8 : Nat → FieldType := fun k => match k with
  | 0 => .array .int
  | 1 => .array .int
  | 2 => .array .int
  | 3 => .array .int
  | 4 => .array .int
  | 5 => .int
  | 6 => .int
  | 7 => .int
  | 8 => .array .int
  | 9 => .array .int
  | 10 => .array .long
  | 11 => .array .int
  | 12 => .array .long
  | 13 => .int
  | 14 => .int
  | 15 => .int
  | 16 => .int
  | 17 => .long
  | 18 => .array .int
  | 19 => .array .int
  | 20 => .boolean
  | 21 => .array .int
  | 22 => .array .int
  | 23 => .array .int
  | 24 => .int
  | 25 => .int
  | 26 => .array .int
  | 27 => .array .int
  | _ => .boolean
theorem nmX8 : ∀ a, a < 29 → ∀ b, b < 29 → a ≠ b → (TX8 a).2.1 ≠ (TX8 b).2.1 := by decide +kernel
theorem tyX8_ok : ∀ k, k < 29 → parseFieldDescriptor (TX8 k).2.2.1 = some (tyX8 k) := by decide +kernel
def RJ9 : String := "java/lang/Math"
def RJ10 : String := "java/lang/System"
def RJ7 : String := "java/util/Arrays"
def RL : String := "RoundKissLaw"
def cn (c : Nat) : String := match c with
  | 0 => RX0
  | 1 => RX1
  | 2 => RX2
  | 3 => RX3
  | 4 => RX4
  | 5 => RX5
  | 6 => RX6
  | 7 => RX7
  | 8 => RX8
  | 9 => RJ9
  | 10 => RJ7
  | _ => RL
def kC (c : Nat) : String := match c with
  | 0 => RX0
  | 1 => RX3
  | 2 => RX4
  | 3 => RX5
  | 4 => RX6
  | 5 => RX7
  | _ => RX8
def kT (c : Nat) : u_T := match c with
  | 0 => TX0
  | 1 => TX3
  | 2 => TX4
  | 3 => TX5
  | 4 => TX6
  | 5 => TX7
  | _ => TX8
def kN (c : Nat) : Nat := match c with
  | 0 => 3
  | 1 => 10
  | 2 => 2
  | 3 => 5
  | 4 => 5
  | 5 => 12
  | _ => 29
def kty (c : Nat) : Nat → FieldType := match c with
  | 0 => tyX0
  | 1 => tyX3
  | 2 => tyX4
  | 3 => tyX5
  | 4 => tyX6
  | 5 => tyX7
  | _ => tyX8
def kcl : List vw_C := [(RX0, TX0, 3), (RX3, TX3, 10), (RX4, TX4, 2), (RX5, TX5, 5), (RX6, TX6, 5), (RX7, TX7, 12), (RX8, TX8, 29)]
def mnL : List MethodName := [⟨RX0, "<init>", "()V"⟩, ⟨RX0, "fill", "(I)V"⟩, ⟨RX0, "placeOf", "(I)I"⟩, ⟨RX1, "told", "(II)I"⟩, ⟨RX1, "top", "(I)I"⟩, ⟨RX1, "bottom", "(I)I"⟩, ⟨RX1, "isOne", "(I)Z"⟩, ⟨RX1, "areNear", "(II)Z"⟩, ⟨RX2, "fits", "(J)Z"⟩, ⟨RX2, "keepLaw", "(IIII)Z"⟩, ⟨RX2, "productAt", "([III)J"⟩, ⟨RX2, "kindByBend", "(I)I"⟩, ⟨RX2, "meetingBy", "(J)I"⟩, ⟨RX2, "isLowest", "(II)Z"⟩, ⟨RX3, "<init>", "()V"⟩, ⟨RX3, "survey", "(LRoundKiss$Quad;II)V"⟩, ⟨RX3, "leastBendAbove", "(LRoundKiss$Quad;I)I"⟩, ⟨RX3, "grow", "(LRoundKiss$Packing;II)V"⟩, ⟨RX3, "note", "(I)V"⟩, ⟨RX4, "<init>", "()V"⟩, ⟨RX4, "take", "(LRoundKiss$Quad;)V"⟩, ⟨RX4, "number", "(II)I"⟩, ⟨RX4, "bend", "(I)I"⟩, ⟨RX4, "bendSum", "()J"⟩, ⟨RX4, "swapped", "(II)J"⟩, ⟨RX4, "trySwap", "(II)Z"⟩, ⟨RX4, "placeOfGreatestBend", "()I"⟩, ⟨RX4, "leadBack", "(I)I"⟩, ⟨RX4, "takeLeastBends", "(LRoundKiss$Quad;)V"⟩, ⟨RX4, "hasBendBelowZero", "()Z"⟩, ⟨RX4, "hasBendsOf", "(LRoundKiss$Quad;)Z"⟩, ⟨RX4, "howOften", "(I)I"⟩, ⟨RX4, "keepsLaws", "()Z"⟩, ⟨RX4, "allTouch", "()Z"⟩, ⟨RX5, "<init>", "()V"⟩, ⟨RX5, "has", "(I)Z"⟩, ⟨RX5, "isFull", "()Z"⟩, ⟨RX5, "number", "(II)I"⟩, ⟨RX5, "put", "(IIIII)I"⟩, ⟨RX5, "putOver", "(II)I"⟩, ⟨RX5, "putOtherSide", "(I)I"⟩, ⟨RX5, "takeLatest", "()I"⟩, ⟨RX5, "productOf", "(II)J"⟩, ⟨RX5, "isAlike", "(II)Z"⟩, ⟨RX5, "mirrorFits", "(II)Z"⟩, ⟨RX5, "putMirror", "(II)I"⟩, ⟨RX5, "mirrored", "(IIIJ)J"⟩, ⟨RX6, "<init>", "()V"⟩, ⟨RX6, "isThere", "()Z"⟩, ⟨RX6, "lead", "(LRoundKiss$FareyRow;II)V"⟩, ⟨RX6, "key", "(I)I"⟩, ⟨RX6, "spread", "(III)V"⟩, ⟨RX6, "findAllNear", "(II)V"⟩, ⟨RX6, "findQuotient", "(IIII)V"⟩, ⟨RX6, "find", "(II)V"⟩, ⟨RX6, "leastNear", "(LRoundKiss$FareyRow;II)I"⟩, ⟨RX7, "<init>", "()V"⟩, ⟨RX7, "round", "(IIII)I"⟩, ⟨RX7, "over", "(II)I"⟩, ⟨RX7, "drop", "()I"⟩, ⟨RX7, "look", "(II)I"⟩, ⟨RX7, "product", "(II)J"⟩, ⟨RX7, "meet", "(II)I"⟩, ⟨RX7, "mirror", "(II)I"⟩, ⟨RX7, "flip", "(I)I"⟩, ⟨RX7, "kiss", "(I)I"⟩, ⟨RX7, "part", "()I"⟩, ⟨RX7, "of", "(III)I"⟩, ⟨RX7, "height", "(I)J"⟩, ⟨RX7, "fourth", "(II)J"⟩, ⟨RX7, "swap", "(II)I"⟩, ⟨RX7, "word", "(III)I"⟩, ⟨RX7, "least", "(I)I"⟩, ⟨RX7, "led", "()I"⟩, ⟨RX7, "same", "(II)I"⟩, ⟨RX7, "shut", "(I)I"⟩, ⟨RX7, "count", "(II)I"⟩, ⟨RX7, "bends", "(II)I"⟩, ⟨RX7, "next", "(II)I"⟩, ⟨RX7, "rests", "(II)I"⟩, ⟨RX7, "sum", "(III)J"⟩, ⟨RX7, "near", "(II)I"⟩, ⟨RX7, "between", "(II)I"⟩, ⟨RX7, "fractions", "(I)I"⟩, ⟨RX7, "fraction", "(II)I"⟩, ⟨RX7, "beside", "(IIZ)I"⟩, ⟨RX7, "way", "(III)I"⟩, ⟨RX7, "step", "(I)I"⟩, ⟨RX7, "lay", "(I)I"⟩, ⟨RX7, "tear", "()I"⟩, ⟨RX7, "row", "(I)I"⟩, ⟨RX7, "copy", "(III)I"⟩, ⟨RX7, "give", "()I"⟩, ⟨RX7, "status", "(I)I"⟩, ⟨RX7, "refuse", "(I)I"⟩, ⟨RX7, "refuseByZero", "(I)I"⟩, ⟨RX7, "hasKiss", "(I)Z"⟩, ⟨RX7, "hasPlace", "(II)Z"⟩, ⟨RX7, "keepWork", "()I"⟩, ⟨RX7, "whyNoLeast", "(I)I"⟩, ⟨RX7, "whyNoPacking", "(I)I"⟩, ⟨RX7, "whyNoPackingUpTo", "(II)I"⟩, ⟨RX7, "isOrder", "(I)Z"⟩, ⟨RX7, "isInRow", "(II)Z"⟩, ⟨RX8, "<init>", "()V"⟩, ⟨RX8, "isIn", "(JJJ)Z"⟩, ⟨RX8, "no", "(I)I"⟩, ⟨RX8, "none", "(I)I"⟩, ⟨RX8, "isRound", "(I)Z"⟩, ⟨RX8, "isLawful", "(JJJJ)Z"⟩, ⟨RX8, "adds", "(JJJJI)I"⟩, ⟨RX8, "round", "(IIII)I"⟩, ⟨RX8, "divisor", "(II)I"⟩, ⟨RX8, "over", "(II)I"⟩, ⟨RX8, "drop", "()I"⟩, ⟨RX8, "look", "(II)I"⟩, ⟨RX8, "productOf", "([II[II)J"⟩, ⟨RX8, "product", "(II)J"⟩, ⟨RX8, "meet", "(II)I"⟩, ⟨RX8, "mirror", "(II)I"⟩, ⟨RX8, "mirrored", "(IIIJ)J"⟩, ⟨RX8, "flip", "(I)I"⟩, ⟨RX8, "kisses", "()I"⟩, ⟨RX8, "kiss", "(I)I"⟩, ⟨RX8, "part", "()I"⟩, ⟨RX8, "isKiss", "(I)Z"⟩, ⟨RX8, "isPlace", "(I)Z"⟩, ⟨RX8, "of", "(III)I"⟩, ⟨RX8, "heightOf", "(I)J"⟩, ⟨RX8, "height", "(I)J"⟩, ⟨RX8, "swapped", "(III)J"⟩, ⟨RX8, "fourth", "(II)J"⟩, ⟨RX8, "swaps", "(II)Z"⟩, ⟨RX8, "swap", "(II)I"⟩, ⟨RX8, "word", "(III)I"⟩, ⟨RX8, "greatest", "()I"⟩, ⟨RX8, "exchanges", "(I)V"⟩, ⟨RX8, "leads", "(I)V"⟩, ⟨RX8, "least", "(I)I"⟩, ⟨RX8, "led", "()I"⟩, ⟨RX8, "sorts", "()V"⟩, ⟨RX8, "same", "(II)I"⟩, ⟨RX8, "isShut", "()Z"⟩, ⟨RX8, "shut", "(I)I"⟩, ⟨RX8, "whyNot", "(IIII)I"⟩, ⟨RX8, "counts", "(JII)V"⟩, ⟨RX8, "goesThrough", "(JII)V"⟩, ⟨RX8, "meets", "(I)V"⟩, ⟨RX8, "count", "(II)I"⟩, ⟨RX8, "bends", "(II)I"⟩, ⟨RX8, "next", "(II)I"⟩, ⟨RX8, "rests", "(II)I"⟩, ⟨RX8, "sum", "(III)J"⟩, ⟨RX8, "isFraction", "(I)Z"⟩, ⟨RX8, "determinant", "(II)I"⟩, ⟨RX8, "near", "(II)I"⟩, ⟨RX8, "between", "(II)I"⟩, ⟨RX8, "makesRow", "(I)V"⟩, ⟨RX8, "isRow", "(I)Z"⟩, ⟨RX8, "isOf", "(II)Z"⟩, ⟨RX8, "fractions", "(I)I"⟩, ⟨RX8, "fraction", "(II)I"⟩, ⟨RX8, "placeOf", "(I)I"⟩, ⟨RX8, "beside", "(IIZ)I"⟩, ⟨RX8, "areNear", "(II)Z"⟩, ⟨RX8, "way", "(III)I"⟩, ⟨RX8, "step", "(I)I"⟩, ⟨RX8, "lay", "(I)I"⟩, ⟨RX8, "tear", "()I"⟩, ⟨RX8, "row", "(I)I"⟩, ⟨RX8, "copy", "(III)I"⟩, ⟨RX8, "give", "()I"⟩, ⟨RX8, "status", "(I)I"⟩, ⟨RJ9, "floorMod", "(II)I"⟩, ⟨RJ9, "max", "(II)I"⟩, ⟨RJ7, "fill", "([II)V"⟩]
def mn (i : Nat) : MethodName := mnL.getD i ⟨"", "", ""⟩
def flN : List (Nat × Nat × Nat × Nat) := [(5, 9, 192, 67), (5, 15, 193, 69), (5, 18, 194, 71), (5, 21, 195, 73), (5, 24, 196, 75), (4, 9, 128, 96), (4, 39, 129, 98), (3, 9, 64, 111), (3, 15, 65, 112), (3, 19, 66, 113), (3, 53, 67, 114), (3, 22, 68, 115), (3, 25, 69, 117), (3, 28, 70, 119), (3, 31, 71, 121), (3, 35, 72, 123), (3, 60, 73, 124), (0, 9, 0, 152), (0, 15, 1, 155), (0, 19, 2, 157), (6, 11, 256, 173), (6, 15, 257, 174), (6, 18, 258, 175), (6, 54, 259, 177), (6, 21, 260, 178), (7, 12, 320, 191), (7, 18, 321, 192), (7, 23, 322, 193), (7, 27, 323, 194), (7, 33, 324, 195), (7, 40, 325, 196), (7, 47, 326, 197), (7, 51, 327, 198), (7, 55, 328, 199), (7, 148, 329, 200), (7, 181, 330, 201), (7, 268, 331, 202), (8, 7, 384, 662), (8, 13, 385, 663), (8, 16, 386, 664), (8, 19, 387, 665), (8, 22, 388, 666), (8, 70, 389, 667), (8, 120, 390, 668), (8, 155, 391, 669), (8, 25, 392, 670), (8, 28, 393, 671), (8, 31, 394, 672), (8, 35, 395, 673), (8, 38, 396, 674), (8, 168, 397, 675), (8, 175, 398, 676), (8, 178, 399, 677), (8, 187, 400, 678), (8, 171, 401, 679), (8, 41, 402, 680), (8, 44, 403, 681), (8, 183, 404, 682), (8, 47, 405, 683), (8, 50, 406, 684), (8, 53, 407, 685), (8, 215, 408, 686), (8, 56, 409, 687), (8, 60, 410, 688), (8, 63, 411, 689), (8, 233, 412, 690)]
def flX : List (Nat × Nat × Nat × Nat) := [(7, 135, 192, 68), (7, 102, 193, 70), (7, 105, 194, 72), (7, 108, 195, 74), (7, 87, 196, 76), (7, 138, 128, 97), (7, 178, 129, 99), (7, 201, 68, 116), (7, 204, 69, 118), (7, 215, 70, 120), (7, 218, 71, 122), (6, 82, 0, 153), (7, 247, 0, 154), (6, 25, 1, 156), (6, 79, 2, 158), (7, 246, 2, 159), (7, 265, 258, 176), (7, 259, 260, 179)]
def mlL : List (Nat × Nat × Nat × Nat) := [(11, 9, 56, 55), (7, 11, 34, 63), (7, 22, 19, 92), (7, 32, 14, 107), (7, 39, 0, 148), (7, 46, 47, 169), (11, 13, 57, 228), (7, 58, 9, 232), (2, 13, 8, 235), (7, 64, 94, 240), (7, 68, 36, 244), (7, 72, 11, 248), (7, 75, 38, 251), (11, 18, 58, 255), (7, 79, 13, 259), (7, 83, 39, 262), (5, 28, 38, 266), (11, 23, 59, 267), (7, 91, 41, 271), (11, 28, 60, 275), (7, 95, 35, 279), (7, 99, 95, 283), (7, 111, 37, 287), (11, 32, 61, 291), (7, 114, 42, 295), (5, 42, 10, 299), (11, 37, 62, 303), (7, 118, 43, 307), (5, 32, 37, 311), (7, 121, 12, 312), (11, 41, 63, 316), (7, 125, 44, 320), (5, 46, 42, 324), (5, 54, 46, 327), (5, 58, 8, 331), (7, 128, 45, 332), (11, 45, 64, 336), (7, 131, 40, 340), (5, 36, 11, 344), (11, 50, 65, 345), (7, 145, 98, 353), (7, 274, 32, 357), (4, 62, 21, 361), (4, 66, 9, 365), (7, 277, 33, 366), (4, 70, 10, 370), (7, 171, 20, 372), (11, 54, 66, 377), (11, 58, 67, 381), (7, 151, 97, 385), (7, 155, 96, 389), (7, 154, 21, 393), (11, 63, 68, 394), (7, 158, 23, 398), (4, 21, 22, 402), (11, 68, 69, 406), (7, 162, 24, 410), (11, 72, 70, 416), (7, 165, 25, 420), (4, 29, 24, 424), (4, 33, 8, 425), (11, 76, 71, 426), (11, 80, 72, 430), (7, 168, 99, 434), (7, 175, 27, 438), (4, 44, 26, 443), (4, 48, 25, 447), (11, 84, 73, 448), (11, 88, 74, 452), (7, 184, 28, 456), (4, 52, 20, 460), (4, 56, 27, 461), (7, 187, 30, 462), (4, 59, 31, 466), (11, 92, 75, 470), (7, 191, 29, 474), (11, 96, 76, 478), (7, 194, 101, 482), (7, 207, 100, 486), (7, 197, 15, 490), (3, 39, 22, 494), (3, 45, 18, 495), (3, 67, 173, 499), (3, 49, 17, 502), (11, 100, 77, 507), (11, 104, 78, 511), (7, 211, 16, 516), (3, 56, 15, 520), (11, 108, 79, 521), (11, 112, 80, 525), (11, 117, 81, 529), (7, 222, 6, 533), (1, 9, 5, 536), (1, 15, 4, 539), (1, 18, 13, 542), (7, 227, 7, 543), (11, 121, 82, 546), (7, 230, 4, 550), (7, 233, 5, 551), (7, 236, 3, 552), (11, 125, 83, 555), (7, 239, 102, 559), (7, 242, 1, 562), (0, 22, 3, 566), (11, 129, 84, 567), (11, 133, 85, 571), (7, 249, 103, 575), (7, 252, 2, 578), (11, 138, 86, 582), (7, 255, 49, 586), (6, 30, 51, 590), (6, 48, 175, 594), (6, 57, 54, 597), (6, 34, 50, 601), (6, 61, 52, 604), (6, 64, 5, 608), (6, 69, 4, 609), (6, 72, 53, 610), (6, 76, 3, 614), (6, 38, 174, 615), (6, 44, 55, 618), (6, 84, 7, 622), (11, 142, 87, 623), (7, 262, 48, 627), (11, 146, 88, 631), (11, 150, 89, 635), (11, 154, 90, 639), (11, 158, 91, 643), (11, 162, 92, 648), (11, 166, 93, 652), (11, 12, 104, 658), (11, 17, 111, 751), (8, 81, 109, 755), (8, 77, 105, 760), (8, 85, 110, 763), (8, 66, 106, 767), (11, 22, 113, 771), (8, 91, 112, 776), (11, 27, 114, 780), (11, 31, 115, 784), (8, 97, 108, 788), (8, 101, 107, 792), (11, 36, 117, 796), (8, 104, 116, 800), (11, 40, 118, 803), (11, 44, 119, 809), (8, 116, 120, 815), (11, 49, 121, 819), (11, 53, 123, 823), (8, 125, 122, 828), (11, 57, 124, 832), (11, 62, 127, 836), (8, 128, 125, 840), (8, 131, 126, 844), (11, 67, 129, 848), (8, 136, 128, 852), (11, 71, 131, 856), (8, 140, 130, 860), (11, 75, 133, 864), (8, 144, 132, 868), (11, 79, 134, 872), (11, 83, 138, 876), (8, 148, 135, 880), (11, 87, 139, 884), (11, 91, 141, 888), (8, 158, 137, 892), (8, 151, 136, 896), (8, 161, 140, 900), (11, 95, 143, 904), (8, 164, 142, 908), (11, 99, 148, 912), (8, 197, 144, 916), (8, 201, 146, 920), (8, 190, 145, 924), (8, 194, 147, 929), (11, 103, 149, 933), (11, 107, 150, 937), (11, 111, 151, 943), (11, 116, 152, 947), (11, 120, 155, 952), (8, 209, 153, 956), (8, 212, 154, 959), (11, 124, 156, 962), (11, 128, 160, 966), (8, 218, 158, 970), (8, 221, 157, 973), (11, 132, 161, 977), (11, 137, 163, 981), (8, 224, 159, 985), (8, 227, 162, 989), (11, 141, 165, 993), (8, 230, 164, 997), (11, 145, 166, 1001), (11, 149, 167, 1005), (11, 153, 168, 1009), (11, 157, 169, 1013), (11, 161, 170, 1018), (11, 165, 171, 1023), (11, 169, 172, 1027)]
def clL : List (Nat × Nat × Nat × Nat) := [(11, 7, 5, 53), (7, 9, 3, 61), (7, 16, 2, 89), (7, 30, 1, 105), (7, 37, 0, 146), (7, 44, 4, 167), (11, 10, 6, 656)]
def icL : List (Nat × Nat × Nat × Nat) := [(7, 134, 7, 349), (4, 43, 8, 442), (7, 210, 9, 515), (8, 204, 9, 941)]
def lcL : List (Nat × Nat × Nat × Nat) := [(2, 9, 2, 238), (2, 11, 3, 239), (2, 19, 4, 302), (2, 21, 5, 315), (5, 50, 6, 325), (5, 52, 7, 326), (4, 74, 5, 371), (4, 25, 4, 414), (4, 27, 8, 415), (3, 63, 4, 505), (3, 65, 8, 506), (7, 272, 9, 647), (8, 73, 2, 758), (8, 75, 3, 759), (8, 89, 10, 775), (8, 95, 4, 779), (8, 108, 5, 807), (8, 110, 11, 808), (8, 112, 12, 813), (8, 114, 13, 814), (8, 123, 14, 827), (8, 134, 8, 847), (8, 181, 15, 928), (8, 205, 16, 942), (8, 207, 17, 951), (8, 236, 18, 1017), (8, 238, 9, 1022), (8, 240, 19, 1031)]
def oiL : List (Nat × Nat × Nat) := [(7, 3, 58), (5, 3, 66), (4, 3, 95), (3, 3, 110), (0, 3, 151), (6, 3, 172), (8, 1, 661)]
def acL : List (Nat × Nat × Nat) := [(7, 139, 350), (4, 15, 376)]
def vlL : List (Nat × Nat × Nat × Nat × Nat) := [(1, 563, 564, 45, 1), (2, 579, 580, 45, 1), (15, 491, 492, 44, 3), (16, 517, 518, 44, 2), (18, 497, 11, 44, 1), (20, 373, 374, 43, 1), (21, 362, 363, 43, 2), (22, 403, 404, 43, 1), (23, 399, 400, 43, 0), (24, 411, 412, 43, 2), (25, 421, 422, 43, 2), (26, 445, 7, 43, 0), (27, 439, 440, 43, 1), (28, 457, 458, 43, 1), (29, 475, 476, 43, 0), (30, 463, 464, 43, 1), (31, 468, 8, 43, 1), (32, 358, 359, 43, 0), (33, 367, 368, 43, 0), (35, 280, 281, 42, 1), (36, 245, 246, 42, 0), (37, 288, 289, 42, 2), (38, 252, 253, 42, 5), (39, 263, 264, 42, 2), (40, 341, 342, 42, 1), (41, 272, 273, 42, 0), (42, 296, 297, 42, 2), (43, 308, 309, 42, 2), (44, 321, 322, 42, 2), (45, 333, 334, 42, 2), (46, 329, 2, 42, 4), (48, 628, 629, 46, 0), (49, 587, 588, 46, 3), (51, 592, 12, 46, 3), (52, 606, 14, 46, 2), (53, 612, 15, 46, 4), (54, 599, 13, 46, 2), (55, 620, 16, 46, 3), (57, 229, 230, 41, 4), (58, 256, 257, 41, 2), (59, 268, 269, 41, 0), (60, 276, 277, 41, 2), (61, 292, 293, 41, 2), (62, 304, 305, 41, 2), (63, 317, 318, 41, 2), (64, 337, 338, 41, 1), (65, 346, 347, 41, 1), (66, 378, 379, 41, 0), (67, 382, 383, 41, 3), (68, 395, 396, 41, 1), (69, 407, 408, 41, 2), (70, 417, 418, 41, 2), (71, 427, 428, 41, 3), (72, 431, 432, 41, 1), (73, 449, 450, 41, 0), (74, 453, 454, 41, 2), (75, 471, 472, 41, 1), (76, 479, 480, 41, 2), (77, 508, 509, 41, 2), (78, 512, 513, 41, 2), (79, 522, 523, 41, 2), (80, 526, 527, 41, 3), (81, 530, 531, 41, 2), (82, 547, 548, 41, 2), (83, 556, 557, 41, 1), (84, 568, 569, 41, 2), (85, 572, 573, 41, 3), (86, 583, 584, 41, 3), (87, 624, 625, 41, 1), (88, 632, 633, 41, 1), (89, 636, 637, 41, 0), (90, 640, 641, 41, 1), (91, 644, 645, 41, 3), (92, 649, 650, 41, 0), (93, 653, 654, 41, 1), (94, 242, 0, 41, 1), (95, 285, 1, 41, 1), (96, 391, 5, 41, 1), (97, 387, 4, 41, 2), (98, 355, 3, 41, 0), (99, 436, 6, 41, 1), (100, 488, 10, 41, 1), (101, 484, 9, 41, 2), (106, 769, 18, 47, 1), (107, 794, 20, 47, 1), (108, 790, 19, 47, 1), (110, 765, 17, 47, 5), (111, 752, 753, 47, 4), (113, 772, 773, 47, 2), (114, 781, 782, 47, 0), (115, 785, 786, 47, 2), (117, 797, 798, 47, 2), (118, 804, 805, 47, 2), (119, 810, 811, 47, 2), (120, 817, 21, 47, 4), (121, 820, 821, 47, 1), (122, 830, 22, 47, 0), (123, 824, 825, 47, 1), (124, 833, 834, 47, 0), (125, 842, 23, 47, 1), (127, 837, 838, 47, 3), (128, 854, 24, 47, 1), (129, 849, 850, 47, 1), (130, 862, 25, 47, 3), (131, 857, 858, 47, 2), (132, 870, 26, 47, 2), (133, 865, 866, 47, 2), (134, 873, 874, 47, 3), (135, 882, 27, 47, 0), (136, 898, 29, 47, 1), (137, 894, 28, 47, 1), (138, 877, 878, 47, 1), (139, 885, 886, 47, 0), (140, 902, 30, 47, 0), (141, 889, 890, 47, 2), (142, 910, 31, 47, 0), (143, 905, 906, 47, 1), (144, 918, 32, 47, 4), (145, 926, 34, 47, 3), (146, 922, 33, 47, 3), (147, 931, 35, 47, 1), (148, 913, 914, 47, 2), (149, 934, 935, 47, 2), (150, 938, 939, 47, 2), (151, 944, 945, 47, 2), (152, 948, 949, 47, 3), (155, 953, 954, 47, 2), (156, 963, 964, 47, 2), (157, 975, 36, 47, 1), (159, 987, 37, 47, 2), (160, 967, 968, 47, 1), (161, 978, 979, 47, 2), (162, 991, 38, 47, 1), (163, 982, 983, 47, 3), (164, 999, 39, 47, 2), (165, 994, 995, 47, 3), (166, 1002, 1003, 47, 1), (167, 1006, 1007, 47, 1), (168, 1010, 1011, 47, 0), (169, 1014, 1015, 47, 1), (170, 1019, 1020, 47, 3), (171, 1024, 1025, 47, 0), (172, 1028, 1029, 47, 1)]
def slL : List (Nat × Nat × Nat × Nat) := [(3, 553, 51, 2), (4, 540, 51, 1), (5, 537, 51, 1), (6, 534, 51, 1), (7, 544, 51, 2), (8, 236, 48, 1), (9, 233, 48, 4), (10, 300, 48, 3), (11, 249, 48, 1), (12, 313, 48, 1), (13, 260, 48, 2), (17, 503, 44, 3), (50, 602, 46, 1), (102, 560, 41, 1), (103, 576, 41, 2), (105, 761, 47, 3), (109, 756, 47, 4), (112, 777, 47, 2), (116, 801, 47, 4), (126, 845, 47, 1), (153, 957, 47, 1), (154, 960, 47, 2), (158, 971, 47, 1), (173, 500, 50, 2), (174, 616, 50, 2), (175, 595, 52, 2)]
def ilL : List (Nat × Nat × Nat × Nat) := [(0, 149, 45, 0), (14, 108, 44, 0), (19, 93, 43, 0), (34, 64, 42, 0), (47, 170, 46, 0), (56, 56, 41, 0), (104, 659, 47, 0)]
def nlL : List (Nat × Nat × Nat × Nat) := [(5, 54, 41, 12), (3, 62, 42, 5), (2, 91, 43, 2), (1, 106, 44, 10), (0, 147, 45, 3), (4, 168, 46, 5), (6, 657, 47, 29)]
def ics : List Int32 := [0, 1, 2, 3, 4, 5, -1, 160000, 1000000, -1000000000, 279, 100, 6, 300, 40, 24, 16, 8, 12, 15, 80, 20, 961, 31, 9, -7, -8, 999, -2, -3, -5, -4, -6, 30, 96, 400, 299, 99, 1000]
def lcs : List Int64 := [0, 1, -1000000000, 1000000000, 2, -2, -2000000000, 2000000000, 3, 16, 999, -1, -4000000000, 4000000000, 159999, 24, 300, 4, 15, -8]
def posAO : Nat := 90
def posAI : Nat := 88
def posAL : Nat := 750
def posOC : Nat := 60
def posOI : Nat := 59
def posCN : Nat := 352
def posCS : Nat := 351
def posCI : Nat := 49
end
section
/-! ===== the abstract machine: cells by their number, addresses from b on ===== -/
abbrev mt_T : Type := MethodName × ByteArray × Nat × Option FieldType × Nat × List (Nat × Instr × Nat × Nat)
abbrev wd_T : Type := (Nat → ClassId) × (Nat → Nat → Nat) × ClassId × ClassId × ClassId
abbrev ac_T : Type := vp_A ⊕ (Nat × List Value)
abbrev hp_T : Type := List ac_T
def cvV (b : Nat) (v : Value) : Value := match v with
  | .ref i => .ref (b + i)
  | v => v
def cvA (b : Nat) (a : vp_A) : vp_A := match a with
  | (n, .inr (.inr (.inr (.inr f)))) => (n, .inr (.inr (.inr (.inr (fun k => (f k).map (fun i => b + i))))))
  | a => a
def cvC (w : wd_T) (a : vp_A) : ClassId := match a.2 with
  | .inl _ => w.2.2.1
  | .inr (.inl _) => w.2.2.2.1
  | _ => w.2.2.2.2
def cvE (w : wd_T) (b : Nat) (c : ac_T) : va_E := match c with
  | .inl a => .inl (cvC w a, cvA b a)
  | .inr o => .inr (o.1, o.2.map (cvV b))
def cvH (w : wd_T) (b : Nat) (h : hp_T) : va_W := h.mapIdx (fun i c => (b + i, cvE w b c))
theorem cvH_get {w : wd_T} {b i : Nat} {h : hp_T} {c : ac_T} (hh : h[i]? = some c) : (cvH w b h)[i]? = some (b + i, cvE w b c) := by
  simp [cvH, hh]
theorem cvH_set {w : wd_T} {b i : Nat} {h : hp_T} {c : ac_T} : cvH w b (h.set i c) = (cvH w b h).set i (b + i, cvE w b c) := by
  apply List.ext_getElem?
  intro j
  by_cases hj : i = j
  · subst hj
    by_cases hl : i < h.length
    · simp [cvH, hl]
    · simp [cvH, hl]
  · simp [cvH, List.getElem?_set_ne hj]
theorem cvH_app {w : wd_T} {b : Nat} {h : hp_T} {c : ac_T} : cvH w b (h ++ [c]) = cvH w b h ++ [(b + h.length, cvE w b c)] := by
  simp [cvH]
theorem cvH_D {w : wd_T} {b : Nat} {h : hp_T} : va_D (fun q => b ≤ q) (cvH w b h) := by
  refine ⟨fun i j x y hi hj hxy => ?_, fun k q hk => ?_⟩
  · simp only [cvH, List.getElem?_mapIdx, Option.map_eq_some_iff] at hi hj
    obtain ⟨c1, -, rfl⟩ := hi
    obtain ⟨c2, -, rfl⟩ := hj
    simp only at hxy
    omega
  · simp only [cvH, List.getElem?_mapIdx, Option.map_eq_some_iff] at hk
    obtain ⟨c1, -, rfl⟩ := hk
    exact Nat.le_add_right _ _
def wty (w : wd_T) : List (ClassId × FieldType) := [(w.2.2.1, .int), (w.2.2.2.1, .long), (w.2.2.2.2, .object "RoundKiss$Quad")]
def HR (w : wd_T) (b : Nat) (h : hp_T) (H : Heap) : Prop := va_P (w.1, w.2.1) kcl (cvH w b h) H
def nxL : List Cond := flX.map (fun q => Cond.fieldLinkNest (cn q.1) q.2.1 (kC (q.2.2.1 / 64)) (kT (q.2.2.1 / 64) (q.2.2.1 % 64)).2.1 (kT (q.2.2.1 / 64) (q.2.2.1 % 64)).2.2.1 "RoundKiss")
def NX (U : State) : Prop := (∀ q ∈ nxL, va_Nw q U) ∧ va_AO "RoundKiss$Quad" U
theorem NX.warm {s U : State} (hW : s.WarmedH U.vm) (h : NX s) : NX U := by
  refine ⟨fun q hq => ?_, h.2.moved hW.alike⟩
  have h1 := h.1 q hq
  obtain ⟨x, -, rfl⟩ := List.mem_map.mp hq
  exact va_Nw.warmF hW h1
theorem NX.same {u U : State} (hv : u.vm = U.vm) (h : NX u) : NX U := by
  refine ⟨fun q hq => ?_, h.2.moved (by rw [hv]; exact Vm.Alike.refl _)⟩
  have h1 := h.1 q hq
  obtain ⟨x, -, rfl⟩ := List.mem_map.mp hq
  exact va_Nw.same rfl hv h1
def tg : List Cond := lw_tbl.filter goodWord
theorem tg_at {p : Nat} {w : Cond} (h : lw_tbl[p]? = some w) (hg : goodWord w = true) : w ∈ tg := List.mem_filter.mpr ⟨List.mem_of_getElem? h, hg⟩
theorem tg_good {ws : List Cond} (h : ∀ w ∈ ws, w ∈ tg) : GoodIn tg ws := fun w hw => ⟨h w hw, good_of_word (List.mem_filter.mp (h w hw)).2⟩
def Cx (p : Program) (s : State) (m : MethodId) (args : Array Value) (meth : Method) (c : Code) (M : mt_T) (w : wd_T) (b : Nat) : Prop :=
  p.tables.exec = Jvm.exec ∧ c.code = M.2.1 ∧ c.maxLocals = M.2.2.1 ∧ s.vm.findClass M.1.cls = some m.cls ∧ (∀ x ∈ tg, x.before args s = true) ∧ meth.sig.returnType = M.2.2.2.1 ∧ meth.locks = false ∧ va_K (w.1, w.2.1) kcl (wty w) s ∧ NX s ∧ meth.name = M.1.name ∧ b ≤ s.heap.size
def asl (b : Nat) : Nat → List (Option Value) → List (Nat × Value)
  | _, [] => []
  | k, none :: t => asl b (k + 1) t
  | k, some v :: t => (k, cvV b v) :: asl b (k + 1) t
theorem asl_mem {b : Nat} {j : Nat} {u : Value} : ∀ {L : List (Option Value)} {k : Nat}, (j, u) ∈ asl b k L → ∃ i v, L[i]? = some (some v) ∧ j = k + i ∧ u = cvV b v
  | [], k, h => by simp [asl] at h
  | none :: t, k, h => by
    simp only [asl] at h
    obtain ⟨i, v, h1, h2, h3⟩ := asl_mem h
    exact ⟨i + 1, v, by simpa using h1, by omega, h3⟩
  | some x :: t, k, h => by
    simp only [asl, List.mem_cons, Prod.mk.injEq] at h
    rcases h with ⟨h1, h2⟩ | h
    · exact ⟨0, x, rfl, by omega, h2⟩
    · obtain ⟨i, v, h1, h2, h3⟩ := asl_mem h
      exact ⟨i + 1, v, by simpa using h1, by omega, h3⟩
theorem asl_in {b : Nat} {v : Value} : ∀ {L : List (Option Value)} {k i : Nat}, L[i]? = some (some v) → (k + i, cvV b v) ∈ asl b k L
  | [], k, i, h => by simp at h
  | none :: t, k, 0, h => by simp at h
  | some x :: t, k, 0, h => by
    simp at h
    subst h
    simp [asl]
  | none :: t, k, i + 1, h => by
    simp only [asl]
    have h1 := asl_in (b := b) (k := k + 1) (i := i) (L := t) (v := v) (by simpa using h)
    rwa [show k + (i + 1) = k + 1 + i by omega]
  | some x :: t, k, i + 1, h => by
    simp only [asl]
    have h1 := asl_in (b := b) (k := k + 1) (i := i) (L := t) (v := v) (by simpa using h)
    rw [show k + (i + 1) = k + 1 + i by omega]
    exact List.mem_cons_of_mem _ h1
def LR (b : Nat) (ls : Array Slot) (nL : Nat) (L : List (Option Value)) : Prop := L.length = nL ∧ lv_has ls nL (asl b 0 L)
theorem lv_mono {ls : Array Slot} {n : Nat} {l l' : List (Nat × Value)} (h : lv_has ls n l) (hm : ∀ q ∈ l', q ∈ l) : lv_has ls n l' := ⟨h.1, h.2.1, fun q hq => h.2.2 q (hm q hq)⟩
def ldL : List (Option Value) → Nat → Option Value
  | [], _ => none
  | a :: _, 0 => a
  | _ :: t, i + 1 => ldL t i
theorem ldL_get : ∀ {L : List (Option Value)} {i : Nat} {v : Value}, ldL L i = some v → L[i]? = some (some v)
  | [], i, v, h => by simp [ldL] at h
  | a :: t, 0, v, h => by simp [ldL] at h; simp [h]
  | a :: t, i + 1, v, h => by
    simp only [ldL] at h
    simpa using ldL_get h
theorem LR.at {b : Nat} {ls : Array Slot} {nL : Nat} {L : List (Option Value)} (h : LR b ls nL L) {i : Nat} {v : Value} (hv : ldL L i = some v) : ls[i]? = some (.val (cvV b v)) := by
  have h1 := h.2.2.2 (0 + i, cvV b v) (asl_in (ldL_get hv))
  simpa using h1
theorem LR.lt {b : Nat} {ls : Array Slot} {nL : Nat} {L : List (Option Value)} (h : LR b ls nL L) : ls.size = nL := h.2.1
def drL (a : Option Value) : Option Value := match a with
  | some (.long _) => none
  | some (.double _) => none
  | a => a
theorem drL_some {a : Option Value} {u : Value} (h : drL a = some u) : a = some u ∧ ¬ u.category = 2 := by
  unfold drL at h
  split at h
  · cases h
  · cases h
  · rename_i n1 n2
    refine ⟨h, fun hc => ?_⟩
    cases u <;> simp [Value.category] at hc
    · exact n1 _ h
    · exact n2 _ h
/-- a store of one slot: what stood there goes, and a long whose second half stood there -/
def st1 : List (Option Value) → Nat → Value → Option (List (Option Value))
  | [], _, _ => none
  | _ :: t, 0, v => some (some v :: t)
  | a :: t, 1, v => (st1 t 0 v).map (fun t' => drL a :: t')
  | a :: t, i + 2, v => (st1 t (i + 1) v).map (fun t' => a :: t')
def st2 : List (Option Value) → Nat → Value → Option (List (Option Value))
  | [], _, _ => none
  | _ :: _ :: t, 0, v => some (some v :: none :: t)
  | _ :: [], 0, _ => none
  | a :: t, 1, v => (st2 t 0 v).map (fun t' => drL a :: t')
  | a :: t, i + 2, v => (st2 t (i + 1) v).map (fun t' => a :: t')
theorem st1_spec : ∀ {L : List (Option Value)} {i : Nat} {v : Value} {L' : List (Option Value)}, st1 L i v = some L' →
    i < L.length ∧ L'.length = L.length ∧ ∀ j u, L'[j]? = some (some u) → (j = i ∧ u = v) ∨ (j ≠ i ∧ L[j]? = some (some u) ∧ ¬ (j + 1 = i ∧ u.category = 2))
  | [], i, v, L', h => by simp [st1] at h
  | a :: t, 0, v, L', h => by
    simp [st1] at h
    subst h
    refine ⟨by simp, by simp, fun j u hj => ?_⟩
    cases j with
    | zero => simp at hj; exact Or.inl ⟨rfl, hj.symm⟩
    | succ j => exact Or.inr ⟨by omega, by simpa using hj, by omega⟩
  | a :: t, 1, v, L', h => by
    simp only [st1, Option.map_eq_some_iff] at h
    obtain ⟨t', ht, rfl⟩ := h
    obtain ⟨h1, h2, h3⟩ := st1_spec ht
    refine ⟨by simp; omega, by simp; omega, fun j u hj => ?_⟩
    cases j with
    | zero =>
      refine Or.inr ⟨by omega, ?_⟩
      simp only [List.getElem?_cons_zero, Option.some.injEq] at hj ⊢
      obtain ⟨d1, d2⟩ := drL_some hj
      exact ⟨d1, fun hc => d2 hc.2⟩
    | succ j =>
      rcases h3 j u (by simpa using hj) with ⟨e1, e2⟩ | ⟨e1, e2, e3⟩
      · exact Or.inl ⟨by omega, e2⟩
      · exact Or.inr ⟨by omega, by simpa using e2, fun hc => by omega⟩
  | a :: t, i + 2, v, L', h => by
    simp only [st1, Option.map_eq_some_iff] at h
    obtain ⟨t', ht, rfl⟩ := h
    obtain ⟨h1, h2, h3⟩ := st1_spec ht
    refine ⟨by simp; omega, by simp; omega, fun j u hj => ?_⟩
    cases j with
    | zero => exact Or.inr ⟨by omega, by simpa using hj, by omega⟩
    | succ j =>
      rcases h3 j u (by simpa using hj) with ⟨e1, e2⟩ | ⟨e1, e2, e3⟩
      · exact Or.inl ⟨by omega, e2⟩
      · exact Or.inr ⟨by omega, by simpa using e2, fun hc => e3 ⟨by omega, hc.2⟩⟩
theorem st2_spec : ∀ {L : List (Option Value)} {i : Nat} {v : Value} {L' : List (Option Value)}, st2 L i v = some L' →
    i + 1 < L.length ∧ L'.length = L.length ∧ ∀ j u, L'[j]? = some (some u) → (j = i ∧ u = v) ∨ (j ≠ i ∧ j ≠ i + 1 ∧ L[j]? = some (some u) ∧ ¬ (j + 1 = i ∧ u.category = 2))
  | [], i, v, L', h => by simp [st2] at h
  | [a], 0, v, L', h => by simp [st2] at h
  | a :: a2 :: t, 0, v, L', h => by
    simp [st2] at h
    subst h
    refine ⟨by simp, by simp, fun j u hj => ?_⟩
    match j with
    | 0 => simp at hj; exact Or.inl ⟨rfl, hj.symm⟩
    | 1 => simp at hj
    | j + 2 => exact Or.inr ⟨by omega, by omega, by simpa using hj, by omega⟩
  | a :: t, 1, v, L', h => by
    have h : (st2 t 0 v).map (fun t' => drL a :: t') = some L' := by
      cases t <;> exact h
    simp only [Option.map_eq_some_iff] at h
    obtain ⟨t', ht, rfl⟩ := h
    obtain ⟨h1, h2, h3⟩ := st2_spec ht
    refine ⟨by simp; omega, by simp; omega, fun j u hj => ?_⟩
    cases j with
    | zero =>
      refine Or.inr ⟨by omega, by omega, ?_⟩
      simp only [List.getElem?_cons_zero, Option.some.injEq] at hj ⊢
      obtain ⟨d1, d2⟩ := drL_some hj
      exact ⟨d1, fun hc => d2 hc.2⟩
    | succ j =>
      rcases h3 j u (by simpa using hj) with ⟨e1, e2⟩ | ⟨e1, e2, e3, e4⟩
      · exact Or.inl ⟨by omega, e2⟩
      · exact Or.inr ⟨by omega, by omega, by simpa using e3, fun hc => by omega⟩
  | a :: t, i + 2, v, L', h => by
    have h : (st2 t (i + 1) v).map (fun t' => a :: t') = some L' := by
      cases t <;> exact h
    simp only [Option.map_eq_some_iff] at h
    obtain ⟨t', ht, rfl⟩ := h
    obtain ⟨h1, h2, h3⟩ := st2_spec ht
    refine ⟨by simp; omega, by simp; omega, fun j u hj => ?_⟩
    cases j with
    | zero => exact Or.inr ⟨by omega, by omega, by simpa using hj, by omega⟩
    | succ j =>
      rcases h3 j u (by simpa using hj) with ⟨e1, e2⟩ | ⟨e1, e2, e3, e4⟩
      · exact Or.inl ⟨by omega, e2⟩
      · exact Or.inr ⟨by omega, by omega, by simpa using e3, fun hc => e4 ⟨by omega, hc.2⟩⟩
theorem cvV_cat {b : Nat} {v : Value} : (cvV b v).category = v.category := by cases v <;> rfl
theorem LR.st1 {b : Nat} {ls' : Array Slot} {nL i : Nat} {v : Value} {L L' : List (Option Value)} (hlen : L.length = nL) (hs : st1 L i v = some L') (h' : lv_has ls' nL ((i, cvV b v) :: (asl b 0 L).filter (fun q => !(q.1 == i) && !(q.1 + 1 == i && q.2.category == 2)))) : LR b ls' nL L' := by
  obtain ⟨h1, h2, h3⟩ := st1_spec hs
  refine ⟨by omega, lv_mono h' fun q hq => ?_⟩
  obtain ⟨j, u⟩ := q
  obtain ⟨i2, v2, e1, e2, e3⟩ := asl_mem hq
  rcases h3 i2 v2 e1 with ⟨r1, r2⟩ | ⟨r1, r2, r3⟩
  · subst r2
    rw [e2, e3, r1, Nat.zero_add]
    exact List.mem_cons_self
  · refine List.mem_cons_of_mem _ (List.mem_filter.mpr ⟨?_, ?_⟩)
    · rw [e2, e3]
      exact asl_in r2
    · subst e3
      simp only [cvV_cat]
      have : j ≠ i := by omega
      simp only [Bool.and_eq_true, Bool.not_eq_true', beq_eq_false_iff_ne, ne_eq, Bool.and_eq_false_iff]
      refine ⟨this, ?_⟩
      by_cases hc : j + 1 = i
      · right; exact fun h => r3 ⟨by omega, h⟩
      · left; exact hc
theorem LR.st2 {b : Nat} {ls' : Array Slot} {nL i : Nat} {v : Value} {L L' : List (Option Value)} (hlen : L.length = nL) (hs : st2 L i v = some L') (h' : lv_has ls' nL ((i, cvV b v) :: (asl b 0 L).filter (fun q => !(q.1 == i) && (!(q.1 == i + 1) && !(q.1 + 1 == i && q.2.category == 2))))) : LR b ls' nL L' := by
  obtain ⟨h1, h2, h3⟩ := st2_spec hs
  refine ⟨by omega, lv_mono h' fun q hq => ?_⟩
  obtain ⟨j, u⟩ := q
  obtain ⟨i2, v2, e1, e2, e3⟩ := asl_mem hq
  rcases h3 i2 v2 e1 with ⟨r1, r2⟩ | ⟨r0, r1, r2, r3⟩
  · subst r2
    rw [e2, e3, r1, Nat.zero_add]
    exact List.mem_cons_self
  · refine List.mem_cons_of_mem _ (List.mem_filter.mpr ⟨?_, ?_⟩)
    · rw [e2, e3]
      exact asl_in r2
    · subst e3
      simp only [cvV_cat]
      have hj : j ≠ i := by omega
      have hj2 : j ≠ i + 1 := by omega
      simp only [Bool.and_eq_true, Bool.not_eq_true', beq_eq_false_iff_ne, ne_eq, Bool.and_eq_false_iff]
      refine ⟨hj, hj2, ?_⟩
      by_cases hc : j + 1 = i
      · right; exact fun h => r3 ⟨by omega, h⟩
      · left; exact hc
end
section
def lkf : List (Nat × Instr × Nat × Nat) → Nat → Option (Instr × Nat × Nat)
  | [], _ => none
  | (a, r) :: t, pc => bif Nat.beq a pc then some r else lkf t pc
theorem lkf_mem : ∀ {t : List (Nat × Instr × Nat × Nat)} {pc : Nat} {r : Instr × Nat × Nat}, lkf t pc = some r → (pc, r) ∈ t
  | [], pc, r, h => by simp [lkf] at h
  | (a, q) :: t, pc, r, h => by
    simp only [lkf] at h
    cases hb : Nat.beq a pc with
    | true =>
      rw [hb] at h
      have e : a = pc := Nat.eq_of_beq_eq_true hb
      simp at h
      subst h; subst e
      exact List.mem_cons_self
    | false =>
      rw [hb] at h
      exact List.mem_cons_of_mem _ (lkf_mem h)
def ilen (i : Instr) : Nat := match i with
  | .bipush _ => 2
  | .ldc _ => 2
  | .iload _ => 2
  | .lload _ => 2
  | .aload _ => 2
  | .istore _ => 2
  | .lstore _ => 2
  | .astore _ => 2
  | .newarray _ => 2
  | .sipush _ => 3
  | .ldc2_w _ => 3
  | .iinc _ _ => 3
  | .goto _ => 3
  | .ifCond _ _ => 3
  | .if_icmp _ _ => 3
  | .getfield _ => 3
  | .putfield _ => 3
  | .invokevirtual _ => 3
  | .invokestatic _ => 3
  | .invokespecial _ => 3
  | .new _ => 3
  | .anewarray _ => 3
  | .tableswitch _ _ _ _ => 0
  | .lookupswitch _ _ => 0
  | _ => 1
def has3 (l : List (Nat × Nat × Nat × Nat)) (a b x : Nat) : Bool := l.any (fun q => Nat.beq q.1 a && (Nat.beq q.2.1 b && Nat.beq q.2.2.1 x))
def has2 (l : List (Nat × Nat × Nat)) (a b : Nat) : Bool := l.any (fun q => Nat.beq q.1 a && Nat.beq q.2.1 b)
def auxB (cid pc : Nat) (i : Instr) (x : Nat) : Bool := match i with
  | .iconst n => decide (ics[x]? = some (Int32.ofInt n))
  | .bipush n => decide (ics[x]? = some (Int8.ofInt n).toInt32)
  | .sipush n => decide (ics[x]? = some (Int16.ofInt n).toInt32)
  | .iinc _ n => decide (ics[x]? = some (Int32.ofInt n))
  | .ldc j => has3 icL cid j x
  | .lconst n => decide (lcs[x]? = some (Int64.ofNat (n : Nat)))
  | .ldc2_w j => has3 lcL cid j x
  | .ifCond _ o => decide ((pc : Int) + o = (x : Int))
  | .if_icmp _ o => decide ((pc : Int) + o = (x : Int))
  | .goto o => decide ((pc : Int) + o = (x : Int))
  | .getfield j => has3 flN cid j x || has3 flX cid j x
  | .putfield j => has3 flN cid j x || has3 flX cid j x
  | .invokevirtual j => has3 mlL cid j x
  | .invokestatic j => has3 mlL cid j x || (Nat.beq x 1001 && has2 acL cid j)
  | .invokespecial j => has3 mlL cid j x || (Nat.beq x 1000 && has2 oiL cid j)
  | .new j => has3 clL cid j x
  | .anewarray j => has3 clL cid j x
  | _ => true
def rowB (cc : ByteArray) (cid : Nat) (q : Nat × Instr × Nat × Nat) : Bool :=
  decide (decode cc q.1 = .ok (q.2.1, q.2.2.1 - q.1)) && (Nat.blt q.1 q.2.2.1 && ((Nat.beq (ilen q.2.1) 0 || Nat.beq (q.2.2.1 - q.1) (ilen q.2.1)) && auxB cid q.1 q.2.1 q.2.2.2))
def m_ok (M : mt_T) : Bool := (plainName M.1.cls && (decide (cn M.2.2.2.2.1 = M.1.cls) && Nat.ble M.2.2.1 21)) && M.2.2.2.2.2.all (rowB M.2.1 M.2.2.2.2.1)
abbrev m_tab (M : mt_T) : List (Nat × Instr × Nat × Nat) := M.2.2.2.2.2
abbrev m_cw (M : mt_T) : Cond := Cond.code M.1 M.2.1 M.2.2.1 M.2.2.2.1
def mOK (M : mt_T) : Prop := m_ok M = true ∧ m_cw M ∈ lw_tbl
theorem m_row {M : mt_T} (hM : mOK M) {pc np x : Nat} {i : Instr} (hi : lkf (m_tab M) pc = some (i, np, x)) : decode M.2.1 pc = .ok (i, np - pc) ∧ pc < np ∧ (ilen i = 0 ∨ np - pc = ilen i) ∧ auxB M.2.2.2.2.1 pc i x = true := by
  have h := hM.1
  unfold m_ok at h
  simp only [Bool.and_eq_true] at h
  have h1 := List.all_eq_true.mp h.2 _ (lkf_mem hi)
  unfold rowB at h1
  simp only [Bool.and_eq_true, Bool.or_eq_true, decide_eq_true_eq] at h1
  obtain ⟨e1, e2, e3, e4⟩ := h1
  have e2' : pc < np := by simpa [Nat.blt_eq] using e2
  refine ⟨e1, e2', ?_, e4⟩
  rcases e3 with e3 | e3
  · exact Or.inl (Nat.eq_of_beq_eq_true e3)
  · exact Or.inr (Nat.eq_of_beq_eq_true e3)
theorem m_dec {M : mt_T} (hM : mOK M) {pc np x : Nat} {i : Instr} (hi : lkf (m_tab M) pc = some (i, np, x)) (hz : ilen i ≠ 0) : decode M.2.1 pc = .ok (i, ilen i) ∧ np = pc + ilen i ∧ auxB M.2.2.2.2.1 pc i x = true := by
  obtain ⟨h1, h2, h3, h4⟩ := m_row hM hi
  have h3 : np - pc = ilen i := by rcases h3 with h | h; exact absurd h hz; exact h
  exact ⟨by rw [← h3]; exact h1, by omega, h4⟩
theorem m_cn {M : mt_T} (hM : mOK M) : cn M.2.2.2.2.1 = M.1.cls ∧ M.2.2.1 ≤ 21 ∧ plainName M.1.cls = true := by
  have h := hM.1
  unfold m_ok at h
  simp only [Bool.and_eq_true, decide_eq_true_eq] at h
  exact ⟨h.1.2.1, Nat.le_of_ble_eq_true h.1.2.2, h.1.1⟩
theorem has3_ex {l : List (Nat × Nat × Nat × Nat)} {a b x : Nat} (h : has3 l a b x = true) : ∃ p, (a, b, x, p) ∈ l := by
  unfold has3 at h
  obtain ⟨q, hq, h1⟩ := List.any_eq_true.mp h
  simp only [Bool.and_eq_true] at h1
  obtain ⟨q1, q2, q3, q4⟩ := q
  have e1 := Nat.eq_of_beq_eq_true h1.1
  have e2 := Nat.eq_of_beq_eq_true h1.2.1
  have e3 := Nat.eq_of_beq_eq_true h1.2.2
  simp only at e1 e2 e3
  subst e1; subst e2; subst e3
  exact ⟨q4, hq⟩
theorem has2_ex {l : List (Nat × Nat × Nat)} {a b : Nat} (h : has2 l a b = true) : ∃ p, (a, b, p) ∈ l := by
  unfold has2 at h
  obtain ⟨q, hq, h1⟩ := List.any_eq_true.mp h
  simp only [Bool.and_eq_true] at h1
  obtain ⟨q1, q2, q3⟩ := q
  have e1 := Nat.eq_of_beq_eq_true h1.1
  have e2 := Nat.eq_of_beq_eq_true h1.2
  simp only at e1 e2
  subst e1; subst e2
  exact ⟨q3, hq⟩
/-! facts of the lists -/
set_option maxRecDepth 100000 in
theorem icL_ok : icL.all (fun q => (match ics[q.2.2.1]? with | some v => decide (lw_tbl[q.2.2.2]? = some (.constant (cn q.1) q.2.1 v)) | none => false)) = true := by decide +kernel
set_option maxRecDepth 100000 in
theorem lcL_ok : lcL.all (fun q => (match lcs[q.2.2.1]? with | some v => decide (lw_tbl[q.2.2.2]? = some (.constantLong (cn q.1) q.2.1 v)) | none => false)) = true := by decide +kernel
theorem icL_w {a b x p : Nat} (h : (a, b, x, p) ∈ icL) {v : Int32} (hv : ics[x]? = some v) : Cond.constant (cn a) b v ∈ tg := by
  have h1 := List.all_eq_true.mp icL_ok _ h
  simp only [hv, decide_eq_true_eq] at h1
  exact tg_at h1 rfl
theorem lcL_w {a b x p : Nat} (h : (a, b, x, p) ∈ lcL) {v : Int64} (hv : lcs[x]? = some v) : Cond.constantLong (cn a) b v ∈ tg := by
  have h1 := List.all_eq_true.mp lcL_ok _ h
  simp only [hv, decide_eq_true_eq] at h1
  exact tg_at h1 rfl
/-! the judgement -/
def rmR (d mc ms : Nat) : Room := { frames := d + 2, cells := mc, slots := ms, locals := 40 * d + 60 }
def QcR (w : wd_T) (b mc : Nat) (Q : Option Value → hp_T → Prop) : Array Value → State → Outcome → State → Prop := fun _ st oc t => (∃ r h', Q r h' ∧ oc = .returned (r.map (cvV b)) ∧ HR w b h' t.heap ∧ st.heap.size + mc ≤ b + h'.length) ∧ va_F (fun q => b ≤ q) st t
def V (M : mt_T) (d mc ms : Nat) (Q : Option Value → hp_T → Prop) (k n : Nat) (pc : Nat) (L : List (Option Value)) (st : List Value) (h : hp_T) : Prop :=
  ∀ (p : Program) (l : Launch) (e : Env) (s : State) (m : MethodId) (args : Array Value) (below : List Frame) (meth : Method) (c : Code) (w : wd_T) (b : Nat) (H : Heap) (locs : List Loc) (ls : Array Slot),
    Cx p s m args meth c M w b → va_S (fun q => b ≤ q) s.heap H locs → HR w b h H → s.heap.size + k ≤ b + h.length → LR b ls M.2.2.1 L →
    W p l e (rmR d mc ms) s m args below meth c H locs k n (MQ below (QcR w b mc Q) args s mc ms (fun q => b ≤ q)) (F0 m pc ls (st.map (cvV b)))
/-! straight steps -/
def stp (i : Instr) (np x : Nat) (L : List (Option Value)) (st : List Value) : Option (Nat × List (Option Value) × List Value) := match i with
  | .iconst _ => match ics[x]? with
    | some v => some (np, L, .int v :: st)
    | none => none
  | .bipush _ => match ics[x]? with
    | some v => some (np, L, .int v :: st)
    | none => none
  | .sipush _ => match ics[x]? with
    | some v => some (np, L, .int v :: st)
    | none => none
  | .ldc _ => match ics[x]? with
    | some v => some (np, L, .int v :: st)
    | none => none
  | .lconst _ => match lcs[x]? with
    | some v => some (np, L, .long v :: st)
    | none => none
  | .ldc2_w _ => match lcs[x]? with
    | some v => some (np, L, .long v :: st)
    | none => none
  | .iload_n n => match ldL L n.val with
    | some (.int v) => some (np, L, .int v :: st)
    | _ => none
  | .iload n => match ldL L n with
    | some (.int v) => some (np, L, .int v :: st)
    | _ => none
  | .lload_n n => match ldL L n.val with
    | some (.long v) => some (np, L, .long v :: st)
    | _ => none
  | .lload n => match ldL L n with
    | some (.long v) => some (np, L, .long v :: st)
    | _ => none
  | .aload_n n => match ldL L n.val with
    | some (.ref v) => some (np, L, .ref v :: st)
    | _ => none
  | .istore_n n => match st with
    | .int v :: st => match st1 L n.val (.int v) with
      | some L' => some (np, L', st)
      | none => none
    | _ => none
  | .istore n => match st with
    | .int v :: st => match st1 L n (.int v) with
      | some L' => some (np, L', st)
      | none => none
    | _ => none
  | .lstore_n n => match st with
    | .long v :: st => match st2 L n.val (.long v) with
      | some L' => some (np, L', st)
      | none => none
    | _ => none
  | .lstore n => match st with
    | .long v :: st => match st2 L n (.long v) with
      | some L' => some (np, L', st)
      | none => none
    | _ => none
  | .astore_n n => match st with
    | .ref v :: st => match st1 L n.val (.ref v) with
      | some L' => some (np, L', st)
      | none => none
    | _ => none
  | .iinc n _ => match ldL L n with
    | some (.int v) => match ics[x]? with
      | some u => match st1 L n (.int (v + u)) with
        | some L' => some (np, L', st)
        | none => none
      | none => none
    | _ => none
  | .iadd => match st with
    | .int y :: .int z :: st => some (np, L, .int (z + y) :: st)
    | _ => none
  | .isub => match st with
    | .int y :: .int z :: st => some (np, L, .int (z - y) :: st)
    | _ => none
  | .imul => match st with
    | .int y :: .int z :: st => some (np, L, .int (z * y) :: st)
    | _ => none
  | .iand => match st with
    | .int y :: .int z :: st => some (np, L, .int (z &&& y) :: st)
    | _ => none
  | .ior => match st with
    | .int y :: .int z :: st => some (np, L, .int (z ||| y) :: st)
    | _ => none
  | .ixor => match st with
    | .int y :: .int z :: st => some (np, L, .int (z ^^^ y) :: st)
    | _ => none
  | .ishl => match st with
    | .int y :: .int z :: st => some (np, L, .int (z <<< (y &&& 31)) :: st)
    | _ => none
  | .ishr => match st with
    | .int y :: .int z :: st => some (np, L, .int (z >>> (y &&& 31)) :: st)
    | _ => none
  | .ineg => match st with
    | .int z :: st => some (np, L, .int (-z) :: st)
    | _ => none
  | .ladd => match st with
    | .long y :: .long z :: st => some (np, L, .long (z + y) :: st)
    | _ => none
  | .lsub => match st with
    | .long y :: .long z :: st => some (np, L, .long (z - y) :: st)
    | _ => none
  | .lmul => match st with
    | .long y :: .long z :: st => some (np, L, .long (z * y) :: st)
    | _ => none
  | .i2l => match st with
    | .int z :: st => some (np, L, .long z.toInt64 :: st)
    | _ => none
  | .l2i => match st with
    | .long z :: st => some (np, L, .int z.toInt32 :: st)
    | _ => none
  | .lcmp => match st with
    | .long y :: .long z :: st => some (np, L, .int (lg_cmp z y) :: st)
    | _ => none
  | .dup => match st with
    | .int y :: st => some (np, L, .int y :: .int y :: st)
    | .ref y :: st => some (np, L, .ref y :: .ref y :: st)
    | _ => none
  | .dup2 => match st with
    | .int y :: .ref z :: st => some (np, L, .int y :: .ref z :: .int y :: .ref z :: st)
    | _ => none
  | .pop => match st with
    | .int _ :: st => some (np, L, st)
    | _ => none
  | .goto _ => some (x, L, st)
  | _ => none
set_option maxHeartbeats 4000000 in
theorem V.s {M : mt_T} {d mc ms k n pc np x np' : Nat} {i : Instr} {Q : Option Value → hp_T → Prop} {L L' : List (Option Value)} {st st' : List Value} {h : hp_T} (hM : mOK M) (hi : lkf (m_tab M) pc = some (i, np, x)) (hs : stp i np x L st = some (np', L', st')) (kk : V M d mc ms Q k n np' L' st' h) : V M d mc ms Q k n pc L st h := by
  have hz : ilen i ≠ 0 := by
    intro hz
    cases i <;> first | (cases hs; done) | (simp [ilen] at hz)
  obtain ⟨hd, hnp, hax⟩ := m_dec hM hi hz
  have hcn := (m_cn hM).1
  intro p l e s m args below meth c w b H locs ls X hS hH hZ hL
  have kk := fun ls' hL' => kk p l e s m args below meth c w b H locs ls' X hS hH hZ hL'
  obtain ⟨hx, hb, hml, hown, hts, -, -, -, -, -, -⟩ := id X
  rw [← hcn] at hown
  subst hnp
  cases i with
  | iconst j =>
    simp only [stp] at hs
    split at hs
    · next v hv =>
      cases hs
      have hax : ics[x]? = some (Int32.ofInt j) := of_decide_eq_true hax
      exact lv_iconst hx hb hd (Option.some.inj (hax.symm.trans hv)) (kk ls hL)
    · cases hs
  | bipush j =>
    simp only [stp] at hs
    split at hs
    · next v hv =>
      cases hs
      have hax : ics[x]? = some (Int8.ofInt j).toInt32 := of_decide_eq_true hax
      exact lv_bipush hx hb hd (Option.some.inj (hax.symm.trans hv)) (kk ls hL)
    · cases hs
  | sipush j =>
    simp only [stp] at hs
    split at hs
    · next v hv =>
      cases hs
      have hax : ics[x]? = some (Int16.ofInt j).toInt32 := of_decide_eq_true hax
      exact lv_sipush hx hb hd (Option.some.inj (hax.symm.trans hv)) (kk ls hL)
    · cases hs
  | ldc j =>
    simp only [stp] at hs
    split at hs
    · next v hv =>
      cases hs
      obtain ⟨p0, hp0⟩ := has3_ex (show has3 icL M.2.2.2.2.1 j x = true from hax)
      exact lv_ldc hx hb hown (hts _ (icL_w hp0 hv)) hd (kk ls hL)
    · cases hs
  | lconst j =>
    simp only [stp] at hs
    split at hs
    · next v hv =>
      cases hs
      have hax : lcs[x]? = some (Int64.ofNat (j : Nat)) := of_decide_eq_true hax
      exact lv_lconst hx hb hd (Option.some.inj (hax.symm.trans hv)) (kk ls hL)
    · cases hs
  | ldc2_w j =>
    simp only [stp] at hs
    split at hs
    · next v hv =>
      cases hs
      obtain ⟨p0, hp0⟩ := has3_ex (show has3 lcL M.2.2.2.2.1 j x = true from hax)
      exact lv_ldc2 hx hb hown (hts _ (lcL_w hp0 hv)) hd (kk ls hL)
    · cases hs
  | iload_n j =>
    simp only [stp] at hs
    split at hs
    · next v hv => cases hs; exact lv_iload_n hx hb hd rfl (hL.at hv) (kk ls hL)
    · cases hs
  | iload j =>
    simp only [stp] at hs
    split at hs
    · next v hv => cases hs; exact lv_iload hx hb hd (hL.at hv) (kk ls hL)
    · cases hs
  | lload_n j =>
    simp only [stp] at hs
    split at hs
    · next v hv => cases hs; exact lv_lload_n hx hb hd rfl (hL.at hv) (kk ls hL)
    · cases hs
  | lload j =>
    simp only [stp] at hs
    split at hs
    · next v hv => cases hs; exact lv_lload hx hb hd (hL.at hv) (kk ls hL)
    · cases hs
  | aload_n j =>
    simp only [stp] at hs
    split at hs
    · next v hv => cases hs; exact lv_aload_n hx hb hd rfl (hL.at hv) (kk ls hL)
    · cases hs
  | istore_n j =>
    simp only [stp] at hs
    split at hs
    · split at hs
      · next v st0 _ L0 hv =>
        cases hs
        exact lv_istore_n hx hb hd rfl hL.2 (by have := (st1_spec hv).1; have := hL.1; omega) rfl (fun ls' h' => kk ls' (LR.st1 hL.1 hv h'))
      · cases hs
    · cases hs
  | istore j =>
    simp only [stp] at hs
    split at hs
    · split at hs
      · next v st0 _ L0 hv =>
        cases hs
        exact lv_istore hx hb hd hL.2 (by have := (st1_spec hv).1; have := hL.1; omega) rfl (fun ls' h' => kk ls' (LR.st1 hL.1 hv h'))
      · cases hs
    · cases hs
  | lstore_n j =>
    simp only [stp] at hs
    split at hs
    · split at hs
      · next v st0 _ L0 hv =>
        cases hs
        exact lv_lstore_n hx hb hd rfl hL.2 (by have := (st2_spec hv).1; have := hL.1; omega) rfl (fun ls' h' => kk ls' (LR.st2 hL.1 hv h'))
      · cases hs
    · cases hs
  | lstore j =>
    simp only [stp] at hs
    split at hs
    · split at hs
      · next v st0 _ L0 hv =>
        cases hs
        exact lv_lstore hx hb hd hL.2 (by have := (st2_spec hv).1; have := hL.1; omega) rfl (fun ls' h' => kk ls' (LR.st2 hL.1 hv h'))
      · cases hs
    · cases hs
  | astore_n j =>
    simp only [stp] at hs
    split at hs
    · split at hs
      · next v st0 _ L0 hv =>
        cases hs
        exact lv_astore_n hx hb hd rfl hL.2 (by have := (st1_spec hv).1; have := hL.1; omega) rfl (fun ls' h' => kk ls' (LR.st1 hL.1 hv h'))
      · cases hs
    · cases hs
  | iinc j q =>
    simp only [stp] at hs
    split at hs
    · next v hv =>
      split at hs
      · next u hu =>
        split at hs
        · next L0 hv2 =>
          cases hs
          have hax : ics[x]? = some (Int32.ofInt q) := of_decide_eq_true hax
          obtain ⟨kq, hkq⟩ := List.getElem?_of_mem (asl_in (b := b) (k := 0) (ldL_get hv))
          rw [Nat.zero_add] at hkq
          exact lv_iinc (v := v + u) hx hb hd hL.2 hkq (by rw [Option.some.inj (hax.symm.trans hu)]) (by have := (st1_spec hv2).1; have := hL.1; omega) rfl (fun ls' h' => kk ls' (LR.st1 hL.1 hv2 h'))
        · cases hs
      · cases hs
    · cases hs
  | iadd =>
    simp only [stp] at hs
    split at hs
    · cases hs; exact lv_iadd hx hb hd (kk ls hL)
    · cases hs
  | isub =>
    simp only [stp] at hs
    split at hs
    · cases hs; exact lv_isub hx hb hd (kk ls hL)
    · cases hs
  | imul =>
    simp only [stp] at hs
    split at hs
    · cases hs; exact lv_imul hx hb hd (kk ls hL)
    · cases hs
  | iand =>
    simp only [stp] at hs
    split at hs
    · cases hs; exact lv_iand hx hb hd (kk ls hL)
    · cases hs
  | ior =>
    simp only [stp] at hs
    split at hs
    · cases hs; exact lv_ior hx hb hd (kk ls hL)
    · cases hs
  | ixor =>
    simp only [stp] at hs
    split at hs
    · cases hs; exact lv_ixor hx hb hd (kk ls hL)
    · cases hs
  | ishl =>
    simp only [stp] at hs
    split at hs
    · cases hs; exact lv_ishl hx hb hd (kk ls hL)
    · cases hs
  | ishr =>
    simp only [stp] at hs
    split at hs
    · cases hs; exact lv_ishr hx hb hd (kk ls hL)
    · cases hs
  | ineg =>
    simp only [stp] at hs
    split at hs
    · cases hs; exact lv_ineg hx hb hd (kk ls hL)
    · cases hs
  | ladd =>
    simp only [stp] at hs
    split at hs
    · cases hs; exact lv_ladd hx hb hd (kk ls hL)
    · cases hs
  | lsub =>
    simp only [stp] at hs
    split at hs
    · cases hs; exact lv_lsub hx hb hd (kk ls hL)
    · cases hs
  | lmul =>
    simp only [stp] at hs
    split at hs
    · cases hs; exact lv_lmul hx hb hd (kk ls hL)
    · cases hs
  | i2l =>
    simp only [stp] at hs
    split at hs
    · cases hs; exact lv_i2l hx hb hd rfl (kk ls hL)
    · cases hs
  | l2i =>
    simp only [stp] at hs
    split at hs
    · cases hs; exact lv_l2i hx hb hd rfl (kk ls hL)
    · cases hs
  | lcmp =>
    simp only [stp] at hs
    split at hs
    · cases hs; exact W.lcmp hx hb hd (kk ls hL)
    · cases hs
  | dup =>
    simp only [stp] at hs
    split at hs
    · cases hs; exact lv_dup hx hb hd rfl (kk ls hL)
    · cases hs; exact lv_dup hx hb hd rfl (kk ls hL)
    · cases hs
  | dup2 =>
    simp only [stp] at hs
    split at hs
    · cases hs; exact lv_dup2_11 hx hb hd rfl rfl (kk ls hL)
    · cases hs
  | pop =>
    simp only [stp] at hs
    split at hs
    · cases hs; exact lv_pop hx hb hd rfl (kk ls hL)
    · cases hs
  | goto o =>
    simp only [stp] at hs
    cases hs
    exact lv_goto hx hb hd (of_decide_eq_true hax) (kk ls hL)
  | _ => cases hs
end
section
theorem HR.lo {w : wd_T} {b : Nat} {h : hp_T} {H : Heap} (hH : HR w b h H) (hb : b ≤ H.size) : b + h.length ≤ H.size := by
  cases hl : h.length with
  | zero => simpa using hb
  | succ n =>
    have hn : n < h.length := by omega
    have h1 := (hH n _ (cvH_get (w := w) (b := b) (List.getElem?_eq_getElem hn))).lt
    simp only at h1
    omega
/-! branches -/
def brp (i : Instr) (st : List Value) : Option (Prop × Prop × List Value) := match i with
  | .ifCond c _ => match st with
    | .int a :: st => match c with
      | .eq => some (a = 0, ¬ a = 0, st)
      | .ne => some (¬ a = 0, a = 0, st)
      | .lt => some (a < 0, 0 ≤ a, st)
      | .ge => some (0 ≤ a, a < 0, st)
      | .gt => some (0 < a, a ≤ 0, st)
      | .le => some (a ≤ 0, 0 < a, st)
    | _ => none
  | .if_icmp c _ => match st with
    | .int y :: .int a :: st => match c with
      | .eq => some (a = y, ¬ a = y, st)
      | .ne => some (¬ a = y, a = y, st)
      | .lt => some (a < y, y ≤ a, st)
      | .ge => some (y ≤ a, a < y, st)
      | .gt => some (y < a, a ≤ y, st)
      | .le => some (a ≤ y, y < a, st)
    | _ => none
  | _ => none
section RULES
variable {M : mt_T} {d mc ms k n pc np x : Nat} {Q : Option Value → hp_T → Prop} {L : List (Option Value)} {st st' : List Value} {h : hp_T}
theorem V.br {i : Instr} {P P' : Prop} (hM : mOK M) (hi : lkf (m_tab M) pc = some (i, np, x)) (hs : brp i st = some (P, P', st')) (kt : P → V M d mc ms Q k n x L st' h) (kf : P' → V M d mc ms Q k n np L st' h) : V M d mc ms Q k n pc L st h := by
  have hz : ilen i ≠ 0 := by
    intro hz
    cases i <;> first | (cases hs; done) | (simp [ilen] at hz)
  obtain ⟨hd, hnp, hax⟩ := m_dec hM hi hz
  intro p l e s m args below meth c w b H locs ls X hS hH hZ hL
  have kt := fun hp => kt hp p l e s m args below meth c w b H locs ls X hS hH hZ hL
  have kf := fun hp => kf hp p l e s m args below meth c w b H locs ls X hS hH hZ hL
  obtain ⟨hx, hb, hml, hown, hts, -, -, -, -, -, -⟩ := id X
  subst hnp
  cases i with
  | ifCond cd o =>
    have ho : (pc : Int) + o = (x : Int) := of_decide_eq_true hax
    match st, hs with
    | .int a :: st, hs =>
      cases cd <;> cases hs
      · exact lv_if_eq hx hb hd ho kt kf
      · exact lv_if_ne hx hb hd ho kt kf
      · exact lv_if_lt hx hb hd ho kt (fun g => kf (Int32.not_lt.mp g))
      · exact lv_if_ge hx hb hd ho kt (fun g => kf (Int32.not_le.mp g))
      · exact lv_if_gt hx hb hd ho kt (fun g => kf (Int32.not_lt.mp g))
      · exact lv_if_le hx hb hd ho kt (fun g => kf (Int32.not_le.mp g))
  | if_icmp cd o =>
    have ho : (pc : Int) + o = (x : Int) := of_decide_eq_true hax
    match st, hs with
    | .int y :: .int a :: st, hs =>
      cases cd <;> cases hs
      · exact lv_icmp_eq hx hb hd ho kt kf
      · exact lv_icmp_ne hx hb hd ho kt kf
      · exact lv_icmp_lt hx hb hd ho kt (fun g => kf (Int32.not_lt.mp g))
      · exact lv_icmp_ge hx hb hd ho kt (fun g => kf (Int32.not_le.mp g))
      · exact lv_icmp_gt hx hb hd ho kt (fun g => kf (Int32.not_lt.mp g))
      · exact lv_icmp_le hx hb hd ho kt (fun g => kf (Int32.not_le.mp g))
  | _ => cases hs
theorem V.tIn {dflt lo hi : Int} {offs : Array Int} {a : Int32} {off : Int} {tgt : Nat} (hM : mOK M) (hi' : lkf (m_tab M) pc = some (.tableswitch dflt lo hi offs, np, x)) (h1 : ¬ a.toInt < lo) (h2 : ¬ hi < a.toInt) (ho : offs[(a.toInt - lo).toNat]? = some off) (ht : (pc : Int) + off = (tgt : Int)) (kk : V M d mc ms Q k n tgt L st h) : V M d mc ms Q k n pc L (.int a :: st) h := by
  obtain ⟨hd, -⟩ := m_row hM hi'
  intro p l e s m args below meth c w b H locs ls X hS hH hZ hL
  exact lv_tableIn X.1 X.2.1 hd h1 h2 ho ht (kk p l e s m args below meth c w b H locs ls X hS hH hZ hL)
theorem V.tOut {dflt lo hi : Int} {offs : Array Int} {a : Int32} {tgt : Nat} (hM : mOK M) (hi' : lkf (m_tab M) pc = some (.tableswitch dflt lo hi offs, np, x)) (h1 : a.toInt < lo ∨ hi < a.toInt) (ht : (pc : Int) + dflt = (tgt : Int)) (kk : V M d mc ms Q k n tgt L st h) : V M d mc ms Q k n pc L (.int a :: st) h := by
  obtain ⟨hd, -⟩ := m_row hM hi'
  intro p l e s m args below meth c w b H locs ls X hS hH hZ hL
  exact lv_tableOut X.1 X.2.1 hd h1 ht (kk p l e s m args below meth c w b H locs ls X hS hH hZ hL)
theorem V.lsw {dflt : Int} {ps : Array (Int × Int)} {a : Int32} {off : Int} {tgt : Nat} (hM : mOK M) (hi' : lkf (m_tab M) pc = some (.lookupswitch dflt ps, np, x)) (hp : (ps.toList.zip (ps.toList.drop 1)).all (fun (a, next) => a.1 < next.1) = true) (ho : Op.lookupswitch.offset ps.toList dflt a.toInt = off) (ht : (pc : Int) + off = (tgt : Int)) (kk : V M d mc ms Q k n tgt L st h) : V M d mc ms Q k n pc L (.int a :: st) h := by
  obtain ⟨hd, -⟩ := m_row hM hi'
  intro p l e s m args below meth c w b H locs ls X hS hH hZ hL
  exact lv_lookup X.1 X.2.1 hd hp ho ht (kk p l e s m args below meth c w b H locs ls X hS hH hZ hL)
/-! division -/
theorem V.idiv {a y : Int32} (hM : mOK M) (hi : lkf (m_tab M) pc = some (.idiv, np, x)) (hne : ¬ y = 0) (kk : V M d mc ms Q k n np L (.int (a / y) :: st) h) : V M d mc ms Q k n pc L (.int y :: .int a :: st) h := by
  obtain ⟨hd, hnp, hax⟩ := m_dec hM hi (by simp [ilen])
  subst hnp
  intro p l e s m args below meth c w b H locs ls X hS hH hZ hL
  exact lv_idiv X.1 X.2.1 hd hne (kk p l e s m args below meth c w b H locs ls X hS hH hZ hL)
theorem V.irem {a y : Int32} (hM : mOK M) (hi : lkf (m_tab M) pc = some (.irem, np, x)) (hne : ¬ y = 0) (kk : V M d mc ms Q k n np L (.int (a - a / y * y) :: st) h) : V M d mc ms Q k n pc L (.int y :: .int a :: st) h := by
  obtain ⟨hd, hnp, hax⟩ := m_dec hM hi (by simp [ilen])
  subst hnp
  intro p l e s m args below meth c w b H locs ls X hS hH hZ hL
  exact lv_irem X.1 X.2.1 hd hne (kk p l e s m args below meth c w b H locs ls X hS hH hZ hL)
theorem V.lrem {a y : Int64} (hM : mOK M) (hi : lkf (m_tab M) pc = some (.lrem, np, x)) (hne : ¬ y = 0) (kk : V M d mc ms Q k n np L (.long (a - a / y * y) :: st) h) : V M d mc ms Q k n pc L (.long y :: .long a :: st) h := by
  obtain ⟨hd, hnp, hax⟩ := m_dec hM hi (by simp [ilen])
  subst hnp
  intro p l e s m args below meth c w b H locs ls X hS hH hZ hL
  exact lv_lrem X.1 X.2.1 hd hne (kk p l e s m args below meth c w b H locs ls X hS hH hZ hL)
end RULES
/-! fields -/
theorem kcl_at : ∀ {ci : Nat}, ci < 7 → kcl[ci]? = some (kC ci, kT ci, kN ci)
  | 0, _ => rfl
  | 1, _ => rfl
  | 2, _ => rfl
  | 3, _ => rfl
  | 4, _ => rfl
  | 5, _ => rfl
  | 6, _ => rfl
set_option maxRecDepth 100000 in
theorem k_wsB : (List.range 7).all (fun ci => (u_ws (kC ci) (kT ci) (kN ci)).all (fun w => decide (w ∈ lw_tbl) && goodWord w)) = true := by decide +kernel
theorem k_ws {ci : Nat} (hc : ci < 7) : ∀ w ∈ u_ws (kC ci) (kT ci) (kN ci), w ∈ tg := by
  intro w hw
  have h := List.all_eq_true.mp (List.all_eq_true.mp k_wsB ci (List.mem_range.mpr hc)) w hw
  simp only [Bool.and_eq_true, decide_eq_true_eq] at h
  exact List.mem_filter.mpr h
theorem k_nm : ∀ {ci : Nat}, ci < 7 → ∀ a, a < kN ci → ∀ b, b < kN ci → a ≠ b → (kT ci a).2.1 ≠ (kT ci b).2.1
  | 0, _ => nmX0
  | 1, _ => nmX3
  | 2, _ => nmX4
  | 3, _ => nmX5
  | 4, _ => nmX6
  | 5, _ => nmX7
  | 6, _ => nmX8
theorem k_ty : ∀ {ci : Nat}, ci < 7 → ∀ k, k < kN ci → parseFieldDescriptor (kT ci k).2.2.1 = some (kty ci k)
  | 0, _ => tyX0_ok
  | 1, _ => tyX3_ok
  | 2, _ => tyX4_ok
  | 3, _ => tyX5_ok
  | 4, _ => tyX6_ok
  | 5, _ => tyX7_ok
  | 6, _ => tyX8_ok
def flB (f : Nat × Nat × Nat × Nat → Cond) (q : Nat × Nat × Nat × Nat) : Bool :=
  decide (lw_tbl[q.2.2.2]? = some (f q)) && (decide ((kT (q.2.2.1 / 64) (q.2.2.1 % 64)).1 = kC (q.2.2.1 / 64)) && (Nat.blt (q.2.2.1 % 64) (kN (q.2.2.1 / 64)) && Nat.blt (q.2.2.1 / 64) 7))
def flF (q : Nat × Nat × Nat × Nat) : Cond := Cond.fieldLink (cn q.1) q.2.1 (kC (q.2.2.1 / 64)) (kT (q.2.2.1 / 64) (q.2.2.1 % 64)).2.1 (kT (q.2.2.1 / 64) (q.2.2.1 % 64)).2.2.1
def flG (q : Nat × Nat × Nat × Nat) : Cond := Cond.fieldLinkNest (cn q.1) q.2.1 (kC (q.2.2.1 / 64)) (kT (q.2.2.1 / 64) (q.2.2.1 % 64)).2.1 (kT (q.2.2.1 / 64) (q.2.2.1 % 64)).2.2.1 "RoundKiss"
set_option maxRecDepth 100000 in
theorem flN_ok : flN.all (flB flF) = true := by decide +kernel
set_option maxRecDepth 100000 in
theorem flX_ok : flX.all (flB flG) = true := by decide +kernel
theorem flB_w {f : Nat × Nat × Nat × Nat → Cond} {l : List (Nat × Nat × Nat × Nat)} (hl : l.all (flB f) = true) {a j x p : Nat} (h : (a, j, x, p) ∈ l) : lw_tbl[p]? = some (f (a, j, x, p)) ∧ (kT (x / 64) (x % 64)).1 = kC (x / 64) ∧ x % 64 < kN (x / 64) ∧ x / 64 < 7 := by
  have h1 := List.all_eq_true.mp hl _ h
  unfold flB at h1
  simp only [Bool.and_eq_true, decide_eq_true_eq] at h1
  exact ⟨h1.1, h1.2.1, by simpa [Nat.blt_eq] using h1.2.2.1, by simpa [Nat.blt_eq] using h1.2.2.2⟩
/-- what may be laid into a field -/
def okv (ty : FieldType) (v : Value) : Bool := match ty with
  | .int => match v with
    | .int _ => true
    | _ => false
  | .long => match v with
    | .long _ => true
    | _ => false
  | .boolean => match v with
    | .int y => decide (y = 0) || decide (y = 1)
    | _ => false
  | .array _ => match v with
    | .ref _ => true
    | _ => false
  | .object _ => match v with
    | .ref _ => true
    | _ => false
  | _ => false
theorem okv_spec {ty : FieldType} {v : Value} {b : Nat} (h : okv ty v = true) : narrow ty (cvV b v) = cvV b v ∧ fits ty (cvV b v) = true := by
  unfold okv at h
  split at h
  · split at h
    · exact ⟨rfl, rfl⟩
    · cases h
  · split at h
    · exact ⟨rfl, rfl⟩
    · cases h
  · split at h
    · simp only [Bool.or_eq_true, decide_eq_true_eq] at h
      rcases h with rfl | rfl
      · exact ⟨show narrow .boolean (.int 0) = .int 0 by decide +kernel, show fits .boolean (.int 0) = true by decide +kernel⟩
      · exact ⟨show narrow .boolean (.int 1) = .int 1 by decide +kernel, show fits .boolean (.int 1) = true by decide +kernel⟩
    · cases h
  · split at h
    · exact ⟨rfl, rfl⟩
    · cases h
  · split at h
    · exact ⟨rfl, rfl⟩
    · cases h
  · cases h
section RULES2
variable {M : mt_T} {d mc ms k n pc np x : Nat} {Q : Option Value → hp_T → Prop} {L : List (Option Value)} {st st' : List Value} {h : hp_T}
theorem V.gf {j q ci : Nat} {fs : List Value} {v : Value} (hM : mOK M) (hi : lkf (m_tab M) pc = some (.getfield j, np, x)) (hq : h[q]? = some (.inr (ci, fs))) (hc : x / 64 = ci) (hv : fs[x % 64]? = some v) (kk : V M d mc ms Q k n np L (v :: st) h) : V M d mc ms Q k n pc L (.ref q :: st) h := by
  obtain ⟨hd, hnp, hax⟩ := m_dec hM hi (by simp [ilen])
  have hcn := (m_cn hM).1
  subst hnp; subst hc
  intro p l e s m args below meth c w b H locs ls X hS hH hZ hL
  have kk := kk p l e s m args below meth c w b H locs ls X hS hH hZ hL
  obtain ⟨hx, hb, hml, hown, hts, -, -, hK, hN, -, -⟩ := id X
  rw [← hcn] at hown
  rcases Bool.or_eq_true_iff.mp (show (has3 flN M.2.2.2.2.1 j x || has3 flX M.2.2.2.2.1 j x) = true from hax) with h1 | h1
  · obtain ⟨p0, hp0⟩ := has3_ex h1
    obtain ⟨hw, hdecl, hk, hci⟩ := flB_w flN_ok hp0
    exact va_get (D := (w.1, w.2.1)) (ref := kC (x / 64)) (v := cvV b v) hx hb hts (k_ws hci) hown hK hH q (fs := fs.map (cvV b)) (cvH_get hq) (kcl_at hci) (x % 64) hk (hts _ (tg_at hw rfl)) (fun y hy => by rw [hdecl] at hy; exact hy) (by simp [hv]) hd kk
  · obtain ⟨p0, hp0⟩ := has3_ex h1
    obtain ⟨hw, hdecl, hk, hci⟩ := flB_w flX_ok hp0
    have hn := hN.1 _ (List.mem_map.mpr ⟨_, hp0, rfl⟩)
    exact va_getN (D := (w.1, w.2.1)) (ref := kC (x / 64)) (v := cvV b v) hx hb hts (k_ws hci) hown hK hH q (fs := fs.map (cvV b)) (cvH_get hq) (kcl_at hci) (x % 64) hk (va_Nw.use rfl hn) (fun y hy => by rw [hdecl] at hy; exact hy) (by simp [hv]) hd kk
theorem V.pf {j q ci : Nat} {fs : List Value} {v : Value} (h' : hp_T) (hM : mOK M) (hi : lkf (m_tab M) pc = some (.putfield j, np, x)) (hq : h[q]? = some (.inr (ci, fs))) (hc : x / 64 = ci) (hf : (kT ci (x % 64)).2.2.2 = false) (hv : okv (kty ci (x % 64)) v = true) (hl : x % 64 < fs.length) (hset : h.set q (.inr (ci, fs.set (x % 64) v)) = h') (kk : V M d mc ms Q k n np L st h') : V M d mc ms Q k n pc L (v :: .ref q :: st) h := by
  obtain ⟨hd, hnp, hax⟩ := m_dec hM hi (by simp [ilen])
  have hcn := (m_cn hM).1
  subst hnp; subst hc; subst hset
  intro p l e s m args below meth c w b H locs ls X hS hH hZ hL
  have kk := fun H1 locs1 hS1 hH1 => kk p l e s m args below meth c w b H1 locs1 ls X hS1 hH1 (by rw [List.length_set]; exact hZ) hL
  obtain ⟨hx, hb, hml, hown, hts, -, -, hK, hN, -, -⟩ := id X
  rw [← hcn] at hown
  obtain ⟨o1, o2⟩ := okv_spec (b := b) hv
  have key : ∀ H1, va_P (w.1, w.2.1) kcl ((cvH w b h).set q (b + q, .inr (x / 64, (fs.map (cvV b)).set (x % 64) (cvV b v)))) H1 → HR w b (h.set q (.inr (x / 64, fs.set (x % 64) v))) H1 := by
    intro H1 hP
    unfold HR
    rw [cvH_set]
    have e : cvE w b (.inr (x / 64, fs.set (x % 64) v)) = .inr (x / 64, (fs.map (cvV b)).set (x % 64) (cvV b v)) := by
      show (Sum.inr _ : va_E) = _
      rw [List.map_set]
    rw [e]
    exact hP
  rcases Bool.or_eq_true_iff.mp (show (has3 flN M.2.2.2.2.1 j x || has3 flX M.2.2.2.2.1 j x) = true from hax) with h1 | h1
  · obtain ⟨p0, hp0⟩ := has3_ex h1
    obtain ⟨hw, hdecl, hk, hci⟩ := flB_w flN_ok hp0
    exact va_put (D := (w.1, w.2.1)) (ref := kC (x / 64)) (v := cvV b v) hx hb hts (k_ws hci) (kty (x / 64)) (k_ty hci) (k_nm hci) hown hK hH cvH_D hS q (fs := fs.map (cvV b)) (cvH_get hq) (kcl_at hci) (x % 64) hk (hts _ (tg_at hw rfl)) (fun y hy => by rw [hdecl] at hy; exact hy) hf (k_ty hci _ hk) o1 o2 (by simpa using hl) hd (fun H1 locs1 hP1 _ hS1 => kk H1 locs1 hS1 (key H1 hP1))
  · obtain ⟨p0, hp0⟩ := has3_ex h1
    obtain ⟨hw, hdecl, hk, hci⟩ := flB_w flX_ok hp0
    have hn := hN.1 _ (List.mem_map.mpr ⟨_, hp0, rfl⟩)
    exact va_putN (D := (w.1, w.2.1)) (ref := kC (x / 64)) (v := cvV b v) hx hb hts (k_ws hci) (kty (x / 64)) (k_ty hci) (k_nm hci) hown hK hH cvH_D hS q (fs := fs.map (cvV b)) (cvH_get hq) (kcl_at hci) (x % 64) hk (va_Nw.use rfl hn) (fun y hy => by rw [hdecl] at hy; exact hy) hf (k_ty hci _ hk) o1 o2 (by simpa using hl) hd (fun H1 locs1 hP1 _ hS1 => kk H1 locs1 hS1 (key H1 hP1))
/-- a final field, in its constructor -/
theorem V.pfF {j q ci : Nat} {fs : List Value} {v : Value} (h' : hp_T) (hM : mOK M) (hi : lkf (m_tab M) pc = some (.putfield j, np, x)) (hq : h[q]? = some (.inr (ci, fs))) (hc : x / 64 = ci) (hf : (kT ci (x % 64)).2.2.2 = true) (hnm : M.1.name = "<init>") (hcc : kC ci = cn M.2.2.2.2.1) (hfl : has3 flN M.2.2.2.2.1 j x = true) (hv : okv (kty ci (x % 64)) v = true) (hl : x % 64 < fs.length) (hset : h.set q (.inr (ci, fs.set (x % 64) v)) = h') (kk : V M d mc ms Q k n np L st h') : V M d mc ms Q k n pc L (v :: .ref q :: st) h := by
  obtain ⟨hd, hnp, hax⟩ := m_dec hM hi (by simp [ilen])
  have hcn := (m_cn hM).1
  subst hnp; subst hc; subst hset
  intro p l e s m args below meth c w b H locs ls X hS hH hZ hL
  have kk := fun H1 locs1 hS1 hH1 => kk p l e s m args below meth c w b H1 locs1 ls X hS1 hH1 (by rw [List.length_set]; exact hZ) hL
  obtain ⟨hx, hb, hml, hown, hts, -, -, hK, hN, hmn, -⟩ := id X
  rw [← hcn] at hown
  obtain ⟨o1, o2⟩ := okv_spec (b := b) hv
  have key : ∀ H1, va_P (w.1, w.2.1) kcl ((cvH w b h).set q (b + q, .inr (x / 64, (fs.map (cvV b)).set (x % 64) (cvV b v)))) H1 → HR w b (h.set q (.inr (x / 64, fs.set (x % 64) v))) H1 := by
    intro H1 hP
    unfold HR
    rw [cvH_set]
    have e : cvE w b (.inr (x / 64, fs.set (x % 64) v)) = .inr (x / 64, (fs.map (cvV b)).set (x % 64) (cvV b v)) := by
      show (Sum.inr _ : va_E) = _
      rw [List.map_set]
    rw [e]
    exact hP
  obtain ⟨p0, hp0⟩ := has3_ex hfl
  obtain ⟨hw, hdecl, hk, hci⟩ := flB_w flN_ok hp0
  exact va_putF (D := (w.1, w.2.1)) (ref := kC (x / 64)) (v := cvV b v) hx hb hts (k_ws hci) (kty (x / 64)) (k_ty hci) (k_nm hci) hown hK hH cvH_D hS q (fs := fs.map (cvV b)) (cvH_get hq) (kcl_at hci) (x % 64) hk (hts _ (tg_at hw rfl)) (fun y hy => by rw [hdecl] at hy; exact hy) hf (by rw [hmn]; exact hnm) (by rw [hdecl]; exact hcc) (k_ty hci _ hk) o1 o2 (by simpa using hl) hd (fun H1 locs1 hP1 _ hS1 => kk H1 locs1 hS1 (key H1 hP1))
end RULES2
end
section
def ix (i : Int32) (j n : Nat) : Prop := i.toNatClampNeg = j ∧ vp_in i n
theorem ix_nI {j n : Nat} (h : j < n) (hn : n < 2 ^ 31) : ix (nI j) j n := ⟨nI_clamp (by omega), vp_in_nI h hn⟩
section RULES3
variable {M : mt_T} {d mc ms k n pc np x : Nat} {Q : Option Value → hp_T → Prop} {L : List (Option Value)} {st st' : List Value} {h : hp_T}
theorem V.ial {q len j : Nat} {f : Nat → Int32} {i : Int32} (hM : mOK M) (hi : lkf (m_tab M) pc = some (.iaload, np, x)) (hq : h[q]? = some (.inl (len, .inl f))) (hin : ix i j len) (kk : V M d mc ms Q k n np L (.int (f j) :: st) h) : V M d mc ms Q k n pc L (.int i :: .ref q :: st) h := by
  obtain ⟨hd, hnp, hax⟩ := m_dec hM hi (by simp [ilen])
  obtain ⟨rfl, hin⟩ := hin
  subst hnp
  intro p l e s m args below meth c w b H locs ls X hS hH hZ hL
  obtain ⟨hx, hb, hml, hown, hts, -, -, hK, hN, -, -⟩ := id X
  exact va_iald hx hb hK hH q 0 (cvH_get hq) rfl hin hd (kk p l e s m args below meth c w b H locs ls X hS hH hZ hL)
theorem V.lal {q len j : Nat} {f : Nat → Int64} {i : Int32} (hM : mOK M) (hi : lkf (m_tab M) pc = some (.laload, np, x)) (hq : h[q]? = some (.inl (len, .inr (.inl f)))) (hin : ix i j len) (kk : V M d mc ms Q k n np L (.long (f j) :: st) h) : V M d mc ms Q k n pc L (.int i :: .ref q :: st) h := by
  obtain ⟨hd, hnp, hax⟩ := m_dec hM hi (by simp [ilen])
  obtain ⟨rfl, hin⟩ := hin
  subst hnp
  intro p l e s m args below meth c w b H locs ls X hS hH hZ hL
  obtain ⟨hx, hb, hml, hown, hts, -, -, hK, hN, -, -⟩ := id X
  exact va_lald hx hb hK hH q 1 (cvH_get hq) rfl hin hd (kk p l e s m args below meth c w b H locs ls X hS hH hZ hL)
theorem V.aal {q len j a : Nat} {f : Nat → Option Nat} {i : Int32} (hM : mOK M) (hi : lkf (m_tab M) pc = some (.aaload, np, x)) (hq : h[q]? = some (.inl (len, .inr (.inr (.inr (.inr f)))))) (hin : ix i j len) (hf : f j = some a) (kk : V M d mc ms Q k n np L (.ref a :: st) h) : V M d mc ms Q k n pc L (.int i :: .ref q :: st) h := by
  obtain ⟨hd, hnp, hax⟩ := m_dec hM hi (by simp [ilen])
  obtain ⟨rfl, hin⟩ := hin
  subst hnp
  intro p l e s m args below meth c w b H locs ls X hS hH hZ hL
  have kk := kk p l e s m args below meth c w b H locs ls X hS hH hZ hL
  obtain ⟨hx, hb, hml, hown, hts, -, -, hK, hN, -, -⟩ := id X
  refine va_aldq (C := "RoundKiss$Quad") hx hb hK hH q 2 (cvH_get hq) rfl hin hd ?_
  simp only [hf, Option.map_some]
  exact kk
theorem V.ias {q len j : Nat} {f : Nat → Int32} {i v : Int32} (h' : hp_T) (hM : mOK M) (hi : lkf (m_tab M) pc = some (.iastore, np, x)) (hq : h[q]? = some (.inl (len, .inl f))) (hin : ix i j len) (hset : h.set q (.inl (len, .inl (upd f j v))) = h') (kk : V M d mc ms Q k n np L st h') : V M d mc ms Q k n pc L (.int v :: .int i :: .ref q :: st) h := by
  obtain ⟨hd, hnp, hax⟩ := m_dec hM hi (by simp [ilen])
  obtain ⟨rfl, hin⟩ := hin
  subst hnp; subst hset
  intro p l e s m args below meth c w b H locs ls X hS hH hZ hL
  obtain ⟨hx, hb, hml, hown, hts, -, -, hK, hN, -, -⟩ := id X
  exact va_iast hx hb hK hH cvH_D hS q 0 (cvH_get hq) rfl hin hd (fun H1 locs1 hP1 _ hS1 => kk p l e s m args below meth c w b H1 locs1 ls X hS1 (by unfold HR; rw [cvH_set]; exact hP1) (by rw [List.length_set]; exact hZ) hL)
theorem V.las {q len j : Nat} {f : Nat → Int64} {i : Int32} {v : Int64} (h' : hp_T) (hM : mOK M) (hi : lkf (m_tab M) pc = some (.lastore, np, x)) (hq : h[q]? = some (.inl (len, .inr (.inl f)))) (hin : ix i j len) (hset : h.set q (.inl (len, .inr (.inl (vp_updL f j v)))) = h') (kk : V M d mc ms Q k n np L st h') : V M d mc ms Q k n pc L (.long v :: .int i :: .ref q :: st) h := by
  obtain ⟨hd, hnp, hax⟩ := m_dec hM hi (by simp [ilen])
  obtain ⟨rfl, hin⟩ := hin
  subst hnp; subst hset
  intro p l e s m args below meth c w b H locs ls X hS hH hZ hL
  obtain ⟨hx, hb, hml, hown, hts, -, -, hK, hN, -, -⟩ := id X
  exact va_last hx hb hK hH cvH_D hS q 1 (cvH_get hq) rfl hin hd (fun H1 locs1 hP1 _ hS1 => kk p l e s m args below meth c w b H1 locs1 ls X hS1 (by unfold HR; rw [cvH_set]; exact hP1) (by rw [List.length_set]; exact hZ) hL)
theorem V.aas {q len j a : Nat} {f : Nat → Option Nat} {fs : List Value} {i : Int32} (h' : hp_T) (hM : mOK M) (hi : lkf (m_tab M) pc = some (.aastore, np, x)) (hq : h[q]? = some (.inl (len, .inr (.inr (.inr (.inr f)))))) (ha : h[a]? = some (.inr (2, fs))) (hin : ix i j len) (hset : h.set q (.inl (len, .inr (.inr (.inr (.inr (va_up f j (some a))))))) = h') (kk : V M d mc ms Q k n np L st h') : V M d mc ms Q k n pc L (.ref a :: .int i :: .ref q :: st) h := by
  obtain ⟨hd, hnp, hax⟩ := m_dec hM hi (by simp [ilen])
  obtain ⟨rfl, hin⟩ := hin
  subst hnp; subst hset
  intro p l e s m args below meth c w b H locs ls X hS hH hZ hL
  obtain ⟨hx, hb, hml, hown, hts, -, -, hK, hN, -, -⟩ := id X
  refine va_astq (r := (kC 2, kT 2, kN 2)) hx hb hK hH cvH_D hS q 2 a 2 (cvH_get hq) rfl (cvH_get ha) (kcl_at (by decide)) hin hd (fun H1 locs1 hP1 _ hS1 => kk p l e s m args below meth c w b H1 locs1 ls X hS1 ?_ (by rw [List.length_set]; exact hZ) hL)
  unfold HR
  rw [cvH_set]
  have e : (fun k => (va_up f i.toNatClampNeg (some a) k).map (fun i => b + i)) = va_up (fun k => (f k).map (fun i => b + i)) i.toNatClampNeg (some (b + a)) := by
    funext z
    unfold va_up
    by_cases hz : z = i.toNatClampNeg <;> simp [hz]
  show va_P _ _ ((cvH w b h).set q (b + q, .inl (w.2.2.2.2, len, .inr (.inr (.inr (.inr (fun k => (va_up f i.toNatClampNeg (some a) k).map (fun i => b + i)))))))) H1
  rw [e]
  exact hP1
theorem V.alen {q len : Nat} {f : Nat → Int32} (hM : mOK M) (hi : lkf (m_tab M) pc = some (.arraylength, np, x)) (hq : h[q]? = some (.inl (len, .inl f))) (kk : V M d mc ms Q k n np L (.int (nI len) :: st) h) : V M d mc ms Q k n pc L (.ref q :: st) h := by
  obtain ⟨hd, hnp, hax⟩ := m_dec hM hi (by simp [ilen])
  subst hnp
  intro p l e s m args below meth c w b H locs ls X hS hH hZ hL
  obtain ⟨hx, hb, hml, hown, hts, -, -, hK, hN, -, -⟩ := id X
  exact va_alen hx hb hK hH q 0 (cvH_get hq) rfl rfl hd (kk p l e s m args below meth c w b H locs ls X hS hH hZ hL)
theorem W_sz {p : Program} {l : Launch} {e : Env} {R : Room} {s : State} {m : MethodId} {args : Array Value} {below : List Frame} {meth : Method} {c : Code} {H : Heap} {locs : List Loc} {cells slots : Nat} {Qf : State → Prop} {g : JFrame} (f : H.size ≤ s.heap.size + cells → W p l e R s m args below meth c H locs cells slots Qf g) : W p l e R s m args below meth c H locs cells slots Qf g := fun T hT X => f (by rw [← hT]; exact X.heapSize) T hT X
/-! the cell that comes has the next number -/
theorem HR.push {w : wd_T} {b : Nat} {h : hp_T} {H H1 : Heap} {c : ac_T} (hH : HR w b h H) (o1 : ∀ q, q < b + h.length → H1[q]? = H[q]?) (hsz : H.size = b + h.length) (hc : va_at (w.1, w.2.1) kcl (b + h.length, cvE w b c) H1) : HR w b (h ++ [c]) H1 := by
  unfold HR
  rw [cvH_app]
  refine va_P.app (hH.kept fun k x hx => o1 _ (by rw [← hsz]; exact (hH k x hx).lt)) ?_
  intro k q hk
  have hz : k < 1 := (List.getElem?_eq_some_iff.mp hk).1
  rw [show k = 0 by omega] at hk
  cases hk
  exact hc
theorem va_S.push {A : Nat → Prop} {H0 H H1 : Heap} {locs : List Loc} (hS : va_S A H0 H locs) (o1 : ∀ q, q < H.size → H1[q]? = H[q]?) (hsz : H.size ≤ H1.size) : va_S A H0 H1 locs :=
  ⟨Nat.le_trans hS.1 hsz, fun q h1 h2 => (o1 q (Nat.lt_of_lt_of_le h1 hS.1)).trans (hS.2.1 q h1 h2), hS.2.2⟩
theorem posAI_w : Cond.arrayClass .int ∈ tg := tg_at (p := posAI) (by decide +kernel) rfl
theorem posAL_w : Cond.arrayClass .long ∈ tg := tg_at (p := posAL) (by decide +kernel) rfl
theorem V.newI {N : Nat} {a : Int32} (hM : mOK M) (hi : lkf (m_tab M) pc = some (.newarray .int, np, x)) (ha : ¬ a < 0) (hN : a.toNatClampNeg = N) (hsm : N ≤ 100000) (hk : k + 1 ≤ mc) (hn : n + N ≤ ms) (kk : V M d mc ms Q (k + 1) (n + N) np L (.ref h.length :: st) (h ++ [.inl (N, .inl (fun _ => 0))])) : V M d mc ms Q k n pc L (.int a :: st) h := by
  obtain ⟨hd, hnp, hax⟩ := m_dec hM hi (by simp [ilen])
  subst hnp
  intro p l e s m args below meth c w b H locs ls X hS hH hZ hL
  obtain ⟨hx, hb, hml, hown, hts, -, -, hK, hN2, -, hb0⟩ := id X
  have hlo := hH.lo (Nat.le_trans hb0 hS.1)
  refine W_sz (fun hhi => ?_)
  have hsz : H.size = b + h.length := by omega
  refine va_newaK (atype := .int) hx hb (hts _ posAI_w) rfl hd rfl ha hN (by show N * 4 ≤ _; omega) hk hn hsz (fun H1 cA e1 z1 o1 hAr hNm => ?_)
  have hcA : cA = w.2.2.1 := by
    have h2 : s.vm.findClass ("[" ++ (FieldType.int).toString) = some w.2.2.1 := (hK.2 0 _ rfl).2
    exact Option.some.inj (hNm.symm.trans h2)
  subst hcA
  exact kk p l e s m args below meth c w b H1 locs ls X (hS.push (fun q hq => o1 q (by omega)) (by omega)) (hH.push o1 hsz e1) (by simp; omega) hL
theorem V.newL {N : Nat} {a : Int32} (hM : mOK M) (hi : lkf (m_tab M) pc = some (.newarray .long, np, x)) (ha : ¬ a < 0) (hN : a.toNatClampNeg = N) (hsm : N ≤ 100000) (hk : k + 1 ≤ mc) (hn : n + N ≤ ms) (kk : V M d mc ms Q (k + 1) (n + N) np L (.ref h.length :: st) (h ++ [.inl (N, .inr (.inl (fun _ => 0)))])) : V M d mc ms Q k n pc L (.int a :: st) h := by
  obtain ⟨hd, hnp, hax⟩ := m_dec hM hi (by simp [ilen])
  subst hnp
  intro p l e s m args below meth c w b H locs ls X hS hH hZ hL
  obtain ⟨hx, hb, hml, hown, hts, -, -, hK, hN2, -, hb0⟩ := id X
  have hlo := hH.lo (Nat.le_trans hb0 hS.1)
  refine W_sz (fun hhi => ?_)
  have hsz : H.size = b + h.length := by omega
  refine va_newaK (atype := .long) hx hb (hts _ posAL_w) rfl hd rfl ha hN (by show N * 8 ≤ _; omega) hk hn hsz (fun H1 cA e1 z1 o1 hAr hNm => ?_)
  have hcA : cA = w.2.2.2.1 := by
    have h2 : s.vm.findClass ("[" ++ (FieldType.long).toString) = some w.2.2.2.1 := (hK.2 1 _ rfl).2
    exact Option.some.inj (hNm.symm.trans h2)
  subst hcA
  exact kk p l e s m args below meth c w b H1 locs ls X (hS.push (fun q hq => o1 q (by omega)) (by omega)) (hH.push o1 hsz e1) (by simp; omega) hL
end RULES3
def nlB (q : Nat × Nat × Nat × Nat) : Bool := decide (lw_tbl[q.2.1]? = some (.instantiable (kC q.1) (kN q.1))) && (decide (lw_tbl[q.2.2.1]? = some (.initialized (kC q.1))) && Nat.blt q.1 7)
set_option maxRecDepth 100000 in
theorem nlL_ok : nlL.all nlB = true := by decide +kernel
theorem nlL_all : (List.range 7).all (fun c => nlL.any (fun q => Nat.beq q.1 c)) = true := by decide +kernel
theorem nl_w {ci : Nat} (hc : ci < 7) : Cond.instantiable (kC ci) (kN ci) ∈ tg ∧ Cond.initialized (kC ci) ∈ tg := by
  have h1 := List.all_eq_true.mp nlL_all ci (List.mem_range.mpr hc)
  obtain ⟨q, hq, e⟩ := List.any_eq_true.mp h1
  have e := Nat.eq_of_beq_eq_true e
  have h2 := List.all_eq_true.mp nlL_ok q hq
  unfold nlB at h2
  simp only [Bool.and_eq_true, decide_eq_true_eq] at h2
  rw [e] at h2
  exact ⟨tg_at h2.1 rfl, tg_at h2.2.1 rfl⟩
set_option maxRecDepth 100000 in
theorem clL_ok : clL.all (fun q => decide (lw_tbl[q.2.2.2]? = some (.classLink (cn q.1) q.2.1 (kC q.2.2.1))) && Nat.blt q.2.2.1 7) = true := by decide +kernel
theorem cl_w {a j x p : Nat} (h : (a, j, x, p) ∈ clL) : Cond.classLink (cn a) j (kC x) ∈ tg ∧ x < 7 := by
  have h1 := List.all_eq_true.mp clL_ok _ h
  simp only [Bool.and_eq_true, decide_eq_true_eq] at h1
  exact ⟨tg_at h1.1 rfl, by simpa [Nat.blt_eq] using h1.2⟩
def dfv (ty : FieldType) : Value := defaultValue ty
def dfL (c : Nat) : List Value := match c with
  | 0 => [.null, .int 0, .int 0]
  | 1 => [.null, .int 0, .int 0, .int 0, .int 0, .int 0, .int 0, .long 0, .int 0, .int 0]
  | 2 => [.null, .int 0]
  | 3 => [.null, .null, .null, .null, .int 0]
  | 4 => [.null, .null, .null, .int 0, .int 0]
  | 5 => [.null, .null, .null, .null, .null, .null, .null, .null, .null, .int 0, .int 0, .int 0]
  | _ => (List.range 29).map (fun j => defaultValue (tyX8 j))
theorem dfL_ok : ∀ {ci : Nat}, ci < 7 → ∀ b j, j < kN ci → defaultValue (kty ci j) = vp_V ((dfL ci).map (cvV b)) j := by
  intro ci hc b j hj
  have h : (List.range 7).all (fun c => (List.range (kN c)).all (fun j => decide (defaultValue (kty c j) = vp_V (dfL c) j) && (match (dfL c)[j]? with | some (.ref _) => false | some _ => true | none => false))) = true := by decide +kernel
  have h1 := List.all_eq_true.mp (List.all_eq_true.mp h ci (List.mem_range.mpr hc)) j (List.mem_range.mpr hj)
  simp only [Bool.and_eq_true, decide_eq_true_eq] at h1
  rw [h1.1]
  unfold vp_V
  cases hv : (dfL ci)[j]? with
  | none => rw [hv] at h1; simp at h1
  | some v =>
    rw [hv] at h1
    have : cvV b v = v := by cases v <;> first | rfl | (simp at h1)
    simp [List.getD_eq_getElem?_getD, hv, this]
section RULES4
variable {M : mt_T} {d mc ms k n pc np x : Nat} {Q : Option Value → hp_T → Prop} {L : List (Option Value)} {st st' : List Value} {h : hp_T}
theorem V.new {j : Nat} (hM : mOK M) (hi : lkf (m_tab M) pc = some (.new j, np, x)) (hk : k + 1 ≤ mc) (hn : n + kN x ≤ ms) (kk : V M d mc ms Q (k + 1) (n + kN x) np L (.ref h.length :: st) (h ++ [.inr (x, dfL x)])) : V M d mc ms Q k n pc L st h := by
  obtain ⟨hd, hnp, hax⟩ := m_dec hM hi (by simp [ilen])
  have hcn := (m_cn hM).1
  subst hnp
  intro p l e s m args below meth c w b H locs ls X hS hH hZ hL
  obtain ⟨hx, hb, hml, hown, hts, -, -, hK, hN2, -, hb0⟩ := id X
  rw [← hcn] at hown
  obtain ⟨p0, hp0⟩ := has3_ex (show has3 clL M.2.2.2.2.1 j x = true from hax)
  obtain ⟨hcw, hc7⟩ := cl_w hp0
  have hlo := hH.lo (Nat.le_trans hb0 hS.1)
  refine W_sz (fun hhi => ?_)
  have hsz : H.size = b + h.length := by omega
  have hKn := hK.1 x _ (kcl_at hc7)
  refine W.newcK hx hb hown (hts _ hcw) (hts _ (nl_w hc7).1) (hts _ (nl_w hc7).2) rfl hd hk hn hKn.2.1 hsz (fun H1 kC1 hkC e1 z1 o1 => ?_)
  refine kk p l e s m args below meth c w b H1 locs ls X (hS.push (fun q hq => o1 q (by omega)) (by omega)) (hH.push o1 hsz ?_) (by simp; omega) hL
  exact ⟨_, kcl_at hc7, (u_born (kty x) hts (k_ws hc7) hKn hkC e1 (k_ty hc7)).to (dfL_ok hc7 b)⟩
theorem V.anew {j N : Nat} {a : Int32} (hM : mOK M) (hi : lkf (m_tab M) pc = some (.anewarray j, np, 2)) (ha : ¬ a < 0) (hN : a.toNatClampNeg = N) (hsm : N ≤ 100000) (hk : k + 1 ≤ mc) (hn : n + N ≤ ms) (kk : V M d mc ms Q (k + 1) (n + N) np L (.ref h.length :: st) (h ++ [.inl (N, .inr (.inr (.inr (.inr (fun _ => none)))))])) : V M d mc ms Q k n pc L (.int a :: st) h := by
  obtain ⟨hd, hnp, hax⟩ := m_dec hM hi (by simp [ilen])
  have hcn := (m_cn hM).1
  subst hnp
  intro p l e s m args below meth c w b H locs ls X hS hH hZ hL
  obtain ⟨hx, hb, hml, hown, hts, -, -, hK, hN2, -, hb0⟩ := id X
  rw [← hcn] at hown
  obtain ⟨p0, hp0⟩ := has3_ex (show has3 clL M.2.2.2.2.1 j 2 = true from hax)
  obtain ⟨hcw, hc7⟩ := cl_w hp0
  have hlo := hH.lo (Nat.le_trans hb0 hS.1)
  refine W_sz (fun hhi => ?_)
  have hsz : H.size = b + h.length := by omega
  subst hN
  refine W.anew (C := "RoundKiss$Quad") hx hb hown (hts _ hcw) (va_AO.use hN2.2) rfl hd rfl ha (by omega) hk hn (fun cA kA comp f1 f2 f3 f4 => ?_)
  have hcA : cA = w.2.2.2.2 := by
    obtain ⟨kA', comp', g1, g2, g3, g4⟩ := (hK.2 2 _ rfl).2
    exact Option.some.inj (f1.symm.trans g4)
  subst hcA
  generalize hH1 : H.push ({ cls := w.2.2.2.2, slots := Array.replicate a.toNatClampNeg .null, vm := .none } : Cell) = H1
  have z1 : H1.size = H.size + 1 := by rw [← hH1, Array.size_push]
  have e1 : H1[H.size]? = some (arrV w.2.2.2.2 a.toNatClampNeg (fun _ => .null)) := by rw [← hH1, Array.getElem?_push_size, ← arrV_new]
  have o1 : ∀ q, q < H.size → H1[q]? = H[q]? := fun q hq => by rw [← hH1, Array.getElem?_push, if_neg (Nat.ne_of_lt hq)]
  rw [hsz]
  refine kk p l e s m args below meth c w b H1 locs ls X (hS.push o1 (by omega)) (hH.push (fun q hq => o1 q (by omega)) hsz ?_) (by simp; omega) hL
  show H1[b + h.length]? = some (vp_cell _ _)
  rw [← hsz, e1]
  rfl
end RULES4
end
section
/-! answers -/
section RULES5
variable {M : mt_T} {d mc ms k n pc np x : Nat} {Q : Option Value → hp_T → Prop} {L : List (Option Value)} {st st' : List Value} {h : hp_T}
theorem V.iret {v : Int32} (hM : mOK M) (hi : lkf (m_tab M) pc = some (.ireturn, np, x)) (hr : M.2.2.2.1 = some .int) (hQ : Q (some (.int v)) h) : V M d mc ms Q mc ms pc L [.int v] h := by
  obtain ⟨hd, hnp, hax⟩ := m_dec hM hi (by simp [ilen])
  intro p l e s m args below meth c w b H locs ls X hS hH hZ hL
  obtain ⟨hx, hb, hml, hown, hts, hret, hlocks, hK, hN2, -, hb0⟩ := id X
  exact W.iret (v := v) hx hb (hret.trans hr) (fun t ht hW => ⟨⟨some (.int v), h, hQ, rfl, by rw [ht]; exact hH, hZ⟩, hS.F ht⟩) hS.2.2 hd
theorem V.zret {v : Int32} (hM : mOK M) (hi : lkf (m_tab M) pc = some (.ireturn, np, x)) (hr : M.2.2.2.1 = some .boolean) (hv : v = 0 ∨ v = 1) (hQ : Q (some (.int v)) h) : V M d mc ms Q mc ms pc L [.int v] h := by
  obtain ⟨hd, hnp, hax⟩ := m_dec hM hi (by simp [ilen])
  intro p l e s m args below meth c w b H locs ls X hS hH hZ hL
  obtain ⟨hx, hb, hml, hown, hts, hret, hlocks, hK, hN2, -, hb0⟩ := id X
  refine W.zret (v := v) hx hb (hret.trans hr) ?_ (fun t ht hW => ⟨⟨some (.int v), h, hQ, rfl, by rw [ht]; exact hH, hZ⟩, hS.F ht⟩) hS.2.2 hd
  rcases hv with rfl | rfl
  · decide +kernel
  · decide +kernel
theorem V.lret {v : Int64} (hM : mOK M) (hi : lkf (m_tab M) pc = some (.lreturn, np, x)) (hr : M.2.2.2.1 = some .long) (hQ : Q (some (.long v)) h) : V M d mc ms Q mc ms pc L [.long v] h := by
  obtain ⟨hd, hnp, hax⟩ := m_dec hM hi (by simp [ilen])
  intro p l e s m args below meth c w b H locs ls X hS hH hZ hL
  obtain ⟨hx, hb, hml, hown, hts, hret, hlocks, hK, hN2, -, hb0⟩ := id X
  exact W.lret (v := v) hx hb (hret.trans hr) (fun t ht hW => ⟨⟨some (.long v), h, hQ, rfl, by rw [ht]; exact hH, hZ⟩, hS.F ht⟩) hS.2.2 hd
theorem V.vret (hM : mOK M) (hi : lkf (m_tab M) pc = some (.return_, np, x)) (hr : M.2.2.2.1 = none) (hQ : Q none h) : V M d mc ms Q mc ms pc L [] h := by
  obtain ⟨hd, hnp, hax⟩ := m_dec hM hi (by simp [ilen])
  intro p l e s m args below meth c w b H locs ls X hS hH hZ hL
  obtain ⟨hx, hb, hml, hown, hts, hret, hlocks, hK, hN2, -, hb0⟩ := id X
  exact W.vret hx hb (hret.trans hr) (fun t ht hW => ⟨⟨none, h, hQ, rfl, by rw [ht]; exact hH, hZ⟩, hS.F ht⟩) hS.2.2 hd
end RULES5
/-! contracts -/
def C (M : mt_T) (d mc ms : Nat) (vs : List Value) (h : hp_T) (Q : Option Value → hp_T → Prop) : Prop :=
  ∀ (l : Launch) (w : wd_T) (b : Nat), Met l M.1 (m_cw M :: tg) (rmR d mc ms) (va_Pc (vs.map (cvV b)) (fun U => HR w b h U.heap ∧ U.heap.size ≤ b + h.length ∧ b ≤ U.heap.size ∧ va_K (w.1, w.2.1) kcl (wty w) U ∧ NX U)) (QcR w b mc Q) mc ms (fun q => b ≤ q)
def enL : Nat → List Value → List (Option Value)
  | 0, _ => []
  | n + 1, [] => none :: enL n []
  | 1, .long x :: _ => [some (.long x)]
  | n + 2, .long x :: t => some (.long x) :: none :: enL n t
  | n + 1, v :: t => some v :: enL n t
def enN : List Value → Nat
  | [] => 0
  | v :: t => v.category + enN t
theorem enN_len : ∀ (vs : List Value) (b : Nat), (lg_sl (vs.map (cvV b))).length = enN vs
  | [], b => rfl
  | v :: t, b => by
    have ih := enN_len t b
    simp only [lg_sl, List.map_cons, List.flatMap_cons, List.length_append] at ih ⊢
    rw [ih, enN]
    cases v <;> simp [cvV, Value.category]
def noD (v : Value) : Bool := match v with
  | .double _ => false
  | _ => true
theorem enL_get : ∀ (n : Nat) (vs : List Value), vs.all noD = true → ∀ (i : Nat) (v : Value) (k b : Nat), (enL n vs)[i]? = some (some v) → (k + i, cvV b v) ∈ lv_args k (vs.map (cvV b)) := by
  intro n vs
  induction n, vs using enL.induct with
  | case1 vs => intro _ i v k b h; simp [enL] at h
  | case2 n ih =>
    intro hd i v k b h
    cases i with
    | zero => simp [enL] at h
    | succ i =>
      have h1 := ih hd i v k b (by simpa [enL] using h)
      simp [lv_args] at h1
  | case3 x t =>
    intro hd i v k b h
    cases i with
    | zero => simp [enL] at h; subst h; simp [lv_args, cvV]
    | succ i => simp [enL] at h
  | case4 n x t ih =>
    intro hd i v k b h
    match i with
    | 0 => simp [enL] at h; subst h; simp [lv_args, cvV]
    | 1 => simp [enL] at h
    | i + 2 =>
      have h1 := ih (by simp at hd ⊢; exact hd.2) i v (k + 2) b (by simpa [enL] using h)
      simp only [List.map_cons, lv_args, cvV, Value.category, if_true]
      rw [show k + (i + 2) = k + 2 + i by omega]
      exact List.mem_cons_of_mem _ h1
  | case5 n v0 t hx1 hx2 ih =>
    intro hd i v k b h
    have e : enL (n + 1) (v0 :: t) = some v0 :: enL n t := by
      cases n with
      | zero => cases v0 <;> first | rfl | exact absurd rfl (hx1 _ rfl)
      | succ n => cases v0 <;> first | rfl | exact absurd rfl (hx2 _ _ rfl)
    have hc : (cvV b v0).category ≠ 2 := by
      cases v0 <;> first | (simp [cvV, Value.category]; done) | skip
      · cases n with
        | zero => exact absurd rfl (hx1 _ rfl)
        | succ n => exact absurd rfl (hx2 _ _ rfl)
      · simp [noD] at hd
    rw [e] at h
    simp only [List.map_cons, lv_args, if_neg hc]
    cases i with
    | zero => simp at h; subst h; exact List.mem_cons_self
    | succ i =>
      have h1 := ih (by simp at hd ⊢; exact hd.2) i v (k + 1) b (by simpa using h)
      rw [show k + (i + 1) = k + 1 + i by omega]
      exact List.mem_cons_of_mem _ h1
theorem enL_len : ∀ (n : Nat) (vs : List Value), (enL n vs).length = n := by
  intro n vs
  induction n, vs using enL.induct with
  | case1 vs => rfl
  | case2 n ih => simp [enL, ih]
  | case3 x t => rfl
  | case4 n x t ih => simp [enL, ih]
  | case5 n v0 t hx1 hx2 ih =>
    have e : enL (n + 1) (v0 :: t) = some v0 :: enL n t := by
      cases n with
      | zero => cases v0 <;> first | rfl | exact absurd rfl (hx1 _ rfl)
      | succ n => cases v0 <;> first | rfl | exact absurd rfl (hx2 _ _ rfl)
    rw [e]; simp [ih]
theorem C.of {M : mt_T} {d mc ms : Nat} {vs : List Value} {h : hp_T} {Q : Option Value → hp_T → Prop} (L : List (Option Value)) (hM : mOK M) (hL : enL M.2.2.1 vs = L) (hd : vs.all noD = true) (hn : enN vs ≤ M.2.2.1) (kk : V M d mc ms Q 0 0 0 L [] h) : C M d mc ms vs h Q := by
  intro l w b
  refine Met.ofW (cc := M.2.1) (maxL := M.2.2.1) (ret := M.2.2.2.1) (m_cn hM).2.2 rfl ?_
  intro p e s m args below meth c s₁ B hml hv
  obtain ⟨rfl, hH, hsz, hb0, hK, hN⟩ := hv
  have hts := atoms_spec (ws := m_cw M :: tg) B.pre
  rw [lg_entry_eq]
  have hl := lv_entry (vs.map (cvV b)) (n := M.2.2.1) (by rw [enN_len]; exact hn)
  refine kk p l e s m _ below meth c w b s.heap [] _ ⟨B.exec, B.bytes, hml, findClass_of_methodNamed B.named, fun q hq => hts q (List.mem_cons_of_mem _ hq), B.returns, B.notSynchronized, hK, hN, (name_of_methodNamed B.named B.method).1, hb0⟩ va_S.rf hH (by omega) ⟨by rw [← hL]; exact enL_len _ _, lv_mono hl fun q hq => ?_⟩
  obtain ⟨j, u⟩ := q
  obtain ⟨i, v, h1, h2, h3⟩ := asl_mem hq
  rw [← hL] at h1
  have h4 := enL_get _ vs hd i v 0 b h1
  rw [h2, h3]
  exact h4
theorem C.mono {M : mt_T} {d mc ms : Nat} {vs : List Value} {h : hp_T} {Q Q' : Option Value → hp_T → Prop} (hC : C M d mc ms vs h Q) (hq : ∀ r h', Q r h' → Q' r h') : C M d mc ms vs h Q' := by
  intro l w b p e ha hc hk s m args below
  have h1 := hC l w b p e ha hc hk s m args below
  intro hf h2 h3 h4
  obtain ⟨j, o, g1, g2, g3, ⟨⟨⟨r, h', e1, e2⟩, e3⟩, e4⟩⟩ := h1 hf h2 h3 h4
  exact ⟨j, o, g1, g2, g3, ⟨⟨⟨r, h', hq _ _ e1, e2⟩, e3⟩, e4⟩⟩
/-! calls -/
theorem w_call {p : Program} {l : Launch} {e : Env} {R : Room} {s : State} {m : MethodId} {args : Array Value} {below : List Frame} {meth : Method} {c : Code} {H : Heap} {locs : List Loc} {k n mc ms : Nat} {Qf : State → Prop} {pc : Nat} {ls : Array Slot} {st0 rest : List Value} {a : Array Value} {w : wd_T} {b : Nat} {h : hp_T} {Q : Option Value → hp_T → Prop}
    (hr : va_Run p l e R s m args below meth c H locs k n mc ms (F0 m pc ls st0) rest (QcR w b mc Q a) (fun q => b ≤ q)) (hS : va_S (fun q => b ≤ q) s.heap H locs) (hH : HR w b h H) (hZ : s.heap.size + k ≤ b + h.length) (hb0 : b ≤ s.heap.size)
    (kk : ∀ r h' H1 locs1, Q r h' → HR w b h' H1 → s.heap.size + (k + mc) ≤ b + h'.length → va_S (fun q => b ≤ q) s.heap H1 locs1 → W p l e R s m args below meth c H1 locs1 (k + mc) (n + ms) Qf (F0 m (pc + 3) ls ((r.map (cvV b)).toList ++ rest))) : W p l e R s m args below meth c H locs k n Qf (F0 m pc ls st0) := by
  intro T hT X
  obtain ⟨v, st₀, t, T', L, h0, X', hL, e1, e2, ⟨⟨r, h', hq, hv, hb, hz⟩, hf, hk⟩, stp⟩ := hr T hT X
  cases hv
  have hlo := hH.lo (Nat.le_trans hb0 hS.1)
  rw [h0] at hf hk hz
  obtain ⟨t2, a1, b1⟩ := kk r h' T'.heap (locs ++ L) hq (by rw [e1]; exact hb) (by omega) ⟨Nat.le_trans hS.1 (by rw [e1]; exact hf), fun q h1 h2 => by rw [e1, hk q (Nat.lt_of_lt_of_le h1 hS.1) h2]; exact hS.2.1 q h1 h2, fun q hq => by
      rcases List.mem_append.mp hq with h | h
      · exact hS.2.2 q h
      · exact hL q h⟩ T' rfl X'
  exact ⟨t2, stp t2 a1, b1⟩
end
section
set_option maxRecDepth 100000 in
theorem mlL_ok : mlL.all (fun q => decide (lw_tbl[q.2.2.2]? = some (.methodLink (cn q.1) q.2.1 (mn q.2.2.1)))) = true := by decide +kernel
theorem ml_w {a j x p : Nat} (h : (a, j, x, p) ∈ mlL) : Cond.methodLink (cn a) j (mn x) ∈ tg := by
  have h1 := List.all_eq_true.mp mlL_ok _ h
  simp only [decide_eq_true_eq] at h1
  exact tg_at h1 rfl
def mdB (y : MethodName) (na : Nat) : Bool := decide (y.cls ≠ "java/lang/invoke/MethodHandle" ∧ y.cls ≠ "java/lang/invoke/VarHandle") && decide ((parseMethodDescriptor y.desc).map (fun d => d.parameters.length) = some na)
set_option maxRecDepth 100000 in
theorem vlL_ok : vlL.all (fun q => decide (lw_tbl[q.2.1]? = some (.instanceMethod (mn q.1))) && (decide (lw_tbl[q.2.2.1]? = some (.selects (mn q.1).cls (mn q.1) (mn q.1))) && (decide (lw_tbl[q.2.2.2.1]? = some (.initialized (mn q.1).cls)) && mdB (mn q.1) q.2.2.2.2))) = true := by decide +kernel
set_option maxRecDepth 100000 in
theorem slL_ok : slL.all (fun q => decide (lw_tbl[q.2.1]? = some (.static (mn q.1))) && (decide (lw_tbl[q.2.2.1]? = some (.initialized (mn q.1).cls)) && mdB (mn q.1) q.2.2.2)) = true := by decide +kernel
set_option maxRecDepth 100000 in
theorem ilL_ok : ilL.all (fun q => decide (lw_tbl[q.2.1]? = some (.instanceMethod (mn q.1))) && (decide (lw_tbl[q.2.2.1]? = some (.initialized (mn q.1).cls)) && (mdB (mn q.1) q.2.2.2 && decide ((mn q.1).name = "<init>")))) = true := by decide +kernel
def vnB (x na : Nat) : Bool := vlL.any (fun q => Nat.beq q.1 x && Nat.beq q.2.2.2.2 na)
def snB (x na : Nat) : Bool := slL.any (fun q => Nat.beq q.1 x && Nat.beq q.2.2.2 na)
def inB (x na : Nat) : Bool := ilL.any (fun q => Nat.beq q.1 x && Nat.beq q.2.2.2 na)
theorem vn_w {x na : Nat} (h : vnB x na = true) : Cond.instanceMethod (mn x) ∈ tg ∧ Cond.selects (mn x).cls (mn x) (mn x) ∈ tg ∧ Cond.initialized (mn x).cls ∈ tg ∧ mdB (mn x) na = true := by
  obtain ⟨q, hq, h1⟩ := List.any_eq_true.mp h
  simp only [Bool.and_eq_true] at h1
  have e1 := Nat.eq_of_beq_eq_true h1.1
  have e2 := Nat.eq_of_beq_eq_true h1.2
  have h2 := List.all_eq_true.mp vlL_ok q hq
  simp only [Bool.and_eq_true, decide_eq_true_eq] at h2
  rw [e1, e2] at h2
  exact ⟨tg_at h2.1 rfl, tg_at h2.2.1 rfl, tg_at h2.2.2.1 rfl, h2.2.2.2⟩
theorem sn_w {x na : Nat} (h : snB x na = true) : Cond.static (mn x) ∈ tg ∧ Cond.initialized (mn x).cls ∈ tg ∧ mdB (mn x) na = true := by
  obtain ⟨q, hq, h1⟩ := List.any_eq_true.mp h
  simp only [Bool.and_eq_true] at h1
  have e1 := Nat.eq_of_beq_eq_true h1.1
  have e2 := Nat.eq_of_beq_eq_true h1.2
  have h2 := List.all_eq_true.mp slL_ok q hq
  simp only [Bool.and_eq_true, decide_eq_true_eq] at h2
  rw [e1, e2] at h2
  exact ⟨tg_at h2.1 rfl, tg_at h2.2.1 rfl, h2.2.2⟩
theorem in_w {x na : Nat} (h : inB x na = true) : Cond.instanceMethod (mn x) ∈ tg ∧ Cond.initialized (mn x).cls ∈ tg ∧ mdB (mn x) na = true ∧ (mn x).name = "<init>" := by
  obtain ⟨q, hq, h1⟩ := List.any_eq_true.mp h
  simp only [Bool.and_eq_true] at h1
  have e1 := Nat.eq_of_beq_eq_true h1.1
  have e2 := Nat.eq_of_beq_eq_true h1.2
  have h2 := List.all_eq_true.mp ilL_ok q hq
  simp only [Bool.and_eq_true, decide_eq_true_eq] at h2
  rw [e1, e2] at h2
  exact ⟨tg_at h2.1 rfl, tg_at h2.2.1 rfl, h2.2.2.1, h2.2.2.2⟩
theorem m_cw_tg {M : mt_T} (hM : mOK M) : m_cw M ∈ tg := List.mem_filter.mpr ⟨hM.2, rfl⟩
theorem pc_blind {w : wd_T} {b : Nat} {h : hp_T} {vs : List Value} : FrameBlind (va_Pc vs (fun U => HR w b h U.heap ∧ U.heap.size ≤ b + h.length ∧ b ≤ U.heap.size ∧ va_K (w.1, w.2.1) kcl (wty w) U ∧ NX U)) := by
  intro a U g mk q
  obtain ⟨q0, q1, q2, q3, q4, q5⟩ := q
  exact ⟨q0, q1, q2, q3, va_K.moved (u := U) (U := U.calling g mk a) (Vm.Alike.refl U.vm) q4, NX.same (u := U) (U := U.calling g mk a) rfl q5⟩
section WCALL
variable {p : Program} {l : Launch} {e : Env} {R : Room} {s : State} {m : MethodId} {args : Array Value} {below : List Frame} {meth : Method} {c : Code} {H : Heap} {locs : List Loc} {k n mc ms : Nat} {Qf : State → Prop} {pc : Nat} {ls : Array Slot} {rest As : List Value} {w : wd_T} {b : Nat} {h : hp_T} {Q : Option Value → hp_T → Prop} {M' : mt_T} {d j x q ci : Nat} {fs : List Value} {own : String} {cc : ByteArray} {nL : Nat}
theorem w_cV (S : CallFix p m c cc nL s args tg own) (hM' : mOK M') (hC : C M' d mc ms (.ref q :: As) h Q) (hmn : mn x = M'.1) (hl : Cond.methodLink own j (mn x) ∈ tg) (hv : vnB x As.length = true) (hq : h[q]? = some (.inr (ci, fs))) (hci : ci < 7) (hcls : kC ci = M'.1.cls) (hroom : (rest.map fun v => v.category).sum ≤ 8) (hf : k + mc ≤ R.cells ∧ n + ms ≤ R.slots) (hR : d + 3 ≤ R.frames ∧ 40 * d + 100 ≤ R.locals)
    (hd : decode cc pc = .ok (.invokevirtual j, 3)) (hls : ls.size = nL) (hK : va_K (w.1, w.2.1) kcl (wty w) s) (hN : NX s) (hS : va_S (fun q => b ≤ q) s.heap H locs) (hH : HR w b h H) (hZ : s.heap.size + k ≤ b + h.length) (hb0 : b ≤ s.heap.size)
    (kk : ∀ r h' H1 locs1, Q r h' → HR w b h' H1 → s.heap.size + (k + mc) ≤ b + h'.length → va_S (fun q => b ≤ q) s.heap H1 locs1 → W p l e R s m args below meth c H1 locs1 (k + mc) (n + ms) Qf (F0 m (pc + 3) ls ((r.map (cvV b)).toList ++ rest))) : W p l e R s m args below meth c H locs k n Qf (F0 m pc ls ((As.map (cvV b)).reverse ++ .ref (b + q) :: rest)) := by
  obtain ⟨w1, w2, w3, w4⟩ := vn_w hv
  unfold mdB at w4
  simp only [Bool.and_eq_true, decide_eq_true_eq] at w4
  have hnl := (m_cn hM').2.1
  rw [hmn] at w1 w2 w3 w4 hl
  refine W_sz (fun hhi => ?_)
  refine w_call (mc := mc) (ms := ms) (Q := Q) (h := h) (w := w) (b := b) (a := (Value.ref (b + q) :: As.map (cvV b)).toArray) (rest := rest) ?_ hS hH hZ hb0 kk
  refine va_runV (As := As.map (cvV b)) (rest := rest) (C := M'.1.cls) (b := b + q) S (hC l w b) (cwV (ws' := tg) As.length S.2.2.2.2 (tg_good ?_) rfl rfl rfl ⟨rfl, w4.1.1, w4.1.2, w4.2⟩ ⟨?_, ?_⟩) ⟨pc_blind, ?_, fun U hU hW => ⟨rfl, by rw [hU]; exact hH, by rw [hU]; omega, by rw [hU]; exact Nat.le_trans hb0 hS.1, va_K.moved hW.alike hK, hN.warm hW⟩⟩ rfl (by simp) hls rfl (lv_room hroom) hd hf
  · intro z hz
    simp only [wsV, List.mem_append, List.mem_cons, List.not_mem_nil, or_false] at hz
    rcases hz with (rfl | rfl | rfl | rfl) | rfl | hz
    · exact hl
    · exact w1
    · exact w2
    · exact w3
    · exact m_cw_tg hM'
    · exact hz
  · show d + 2 + 1 ≤ _
    omega
  · show 8 + (M'.2.2.1 + 11) + (40 * d + 60) ≤ _
    omega
  · have h1 := va_recv hK hH (kcl_at hci) (cvH_get hq)
    rw [← hcls]
    exact h1
theorem w_cS (S : CallFix p m c cc nL s args tg own) (hM' : mOK M') (hC : C M' d mc ms As h Q) (hmn : mn x = M'.1) (hl : Cond.methodLink own j (mn x) ∈ tg) (hv : snB x As.length = true) (hroom : (rest.map fun v => v.category).sum ≤ 8) (hf : k + mc ≤ R.cells ∧ n + ms ≤ R.slots) (hR : d + 3 ≤ R.frames ∧ 40 * d + 100 ≤ R.locals)
    (hd : decode cc pc = .ok (.invokestatic j, 3)) (hls : ls.size = nL) (hK : va_K (w.1, w.2.1) kcl (wty w) s) (hN : NX s) (hS : va_S (fun q => b ≤ q) s.heap H locs) (hH : HR w b h H) (hZ : s.heap.size + k ≤ b + h.length) (hb0 : b ≤ s.heap.size)
    (kk : ∀ r h' H1 locs1, Q r h' → HR w b h' H1 → s.heap.size + (k + mc) ≤ b + h'.length → va_S (fun q => b ≤ q) s.heap H1 locs1 → W p l e R s m args below meth c H1 locs1 (k + mc) (n + ms) Qf (F0 m (pc + 3) ls ((r.map (cvV b)).toList ++ rest))) : W p l e R s m args below meth c H locs k n Qf (F0 m pc ls ((As.map (cvV b)).reverse ++ rest)) := by
  obtain ⟨w1, w3, w4⟩ := sn_w hv
  unfold mdB at w4
  simp only [Bool.and_eq_true, decide_eq_true_eq] at w4
  have hnl := (m_cn hM').2.1
  rw [hmn] at w1 w3 w4 hl
  refine W_sz (fun hhi => ?_)
  refine w_call (mc := mc) (ms := ms) (Q := Q) (h := h) (w := w) (b := b) (a := (As.map (cvV b)).toArray) (rest := rest) ?_ hS hH hZ hb0 kk
  refine va_runS (As := As.map (cvV b)) (rest := rest) S (hC l w b) (va_cwS (ws' := tg) As.length S.2.2.2.2 (tg_good ?_) rfl rfl rfl ⟨w4.1.1, w4.1.2, w4.2⟩ ⟨?_, ?_⟩) ⟨pc_blind, fun U hU hW => ⟨rfl, by rw [hU]; exact hH, by rw [hU]; omega, by rw [hU]; exact Nat.le_trans hb0 hS.1, va_K.moved hW.alike hK, hN.warm hW⟩⟩ rfl (by simp) hls rfl (lv_room hroom) hd hf
  · intro z hz
    simp only [va_wsS, List.mem_append, List.mem_cons, List.not_mem_nil, or_false] at hz
    rcases hz with (rfl | rfl | rfl) | rfl | hz
    · exact hl
    · exact w1
    · exact w3
    · exact m_cw_tg hM'
    · exact hz
  · show d + 2 + 1 ≤ _
    omega
  · show 8 + (M'.2.2.1 + 11) + (40 * d + 60) ≤ _
    omega
theorem w_cI (S : CallFix p m c cc nL s args tg own) (hM' : mOK M') (hC : C M' d mc ms (.ref q :: As) h Q) (hmn : mn x = M'.1) (hr0 : M'.2.2.2.1 = none) (hl : Cond.methodLink own j (mn x) ∈ tg) (hv : inB x As.length = true) (hroom : (rest.map fun v => v.category).sum ≤ 8) (hf : k + mc ≤ R.cells ∧ n + ms ≤ R.slots) (hR : d + 3 ≤ R.frames ∧ 40 * d + 100 ≤ R.locals)
    (hd : decode cc pc = .ok (.invokespecial j, 3)) (hls : ls.size = nL) (hK : va_K (w.1, w.2.1) kcl (wty w) s) (hN : NX s) (hS : va_S (fun q => b ≤ q) s.heap H locs) (hH : HR w b h H) (hZ : s.heap.size + k ≤ b + h.length) (hb0 : b ≤ s.heap.size)
    (kk : ∀ r h' H1 locs1, Q r h' → HR w b h' H1 → s.heap.size + (k + mc) ≤ b + h'.length → va_S (fun q => b ≤ q) s.heap H1 locs1 → W p l e R s m args below meth c H1 locs1 (k + mc) (n + ms) Qf (F0 m (pc + 3) ls ((r.map (cvV b)).toList ++ rest))) : W p l e R s m args below meth c H locs k n Qf (F0 m pc ls ((As.map (cvV b)).reverse ++ .ref (b + q) :: rest)) := by
  obtain ⟨w1, w3, w4, w5⟩ := in_w hv
  unfold mdB at w4
  simp only [Bool.and_eq_true, decide_eq_true_eq] at w4
  have hnl := (m_cn hM').2.1
  rw [hmn] at w1 w3 w4 hl w5
  refine W_sz (fun hhi => ?_)
  refine w_call (mc := mc) (ms := ms) (Q := Q) (h := h) (w := w) (b := b) (a := (Value.ref (b + q) :: As.map (cvV b)).toArray) (rest := rest) ?_ hS hH hZ hb0 kk
  have hcw : (m_cw M' :: tg) = Cond.code M'.1 M'.2.1 M'.2.2.1 none :: tg := by unfold m_cw; rw [hr0]
  refine va_runI (As := As.map (cvV b)) (rest := rest) (b := b + q) S (hC l w b) (cwI (ws' := tg) As.length S.2.2.2.2 (tg_good ?_) hcw rfl rfl (S.2.2.2.2 _ w3) (S.2.2.2.2 _ hl) (S.2.2.2.2 _ w1) w5 ⟨w4.1.1, w4.1.2, w4.2⟩ ⟨?_, ?_⟩) ⟨pc_blind, fun U hU hW => ⟨rfl, by rw [hU]; exact hH, by rw [hU]; omega, by rw [hU]; exact Nat.le_trans hb0 hS.1, va_K.moved hW.alike hK, hN.warm hW⟩⟩ rfl (by simp) hls rfl (lv_room hroom) hd hf
  · intro z hz
    rcases List.mem_cons.mp hz with rfl | hz
    · exact m_cw_tg hM'
    · exact hz
  · show d + 2 + 1 ≤ _
    omega
  · show 8 + (M'.2.2.1 + 11) + (40 * d + 60) ≤ _
    omega
end WCALL
theorem cv_rev {b : Nat} {As rest : List Value} : (As.reverse ++ rest).map (cvV b) = (As.map (cvV b)).reverse ++ rest.map (cvV b) := by simp
theorem cv_cat {b : Nat} : ∀ (rest : List Value), ((rest.map (cvV b)).map fun v => v.category).sum = (rest.map fun v => v.category).sum
  | [] => rfl
  | v :: t => by simp only [List.map_cons, List.sum_cons, cvV_cat, cv_cat t]
section RULES6
variable {M M' : mt_T} {d mc ms k n pc np x j q ci mc' ms' : Nat} {Q Q' : Option Value → hp_T → Prop} {L : List (Option Value)} {st rest As : List Value} {h : hp_T} {fs : List Value}
theorem V.cV (hM : mOK M) (hM' : mOK M') (hC : C M' d mc' ms' (.ref q :: As) h Q') (hi : lkf (m_tab M) pc = some (.invokevirtual j, np, x)) (hst : As.reverse ++ .ref q :: rest = st) (hmn : mn x = M'.1) (hv : vnB x As.length = true) (hq : h[q]? = some (.inr (ci, fs))) (hci : Nat.blt ci 7 = true) (hcls : kC ci = M'.1.cls) (hroom : Nat.ble (rest.map fun v => v.category).sum 8 = true) (hk : k + mc' ≤ mc) (hn : n + ms' ≤ ms)
    (kk : ∀ r h', Q' r h' → V M (d + 1) mc ms Q (k + mc') (n + ms') np L (r.toList ++ rest) h') : V M (d + 1) mc ms Q k n pc L st h := by
  obtain ⟨hd, hnp, hax⟩ := m_dec hM hi (by simp [ilen])
  have hcn := (m_cn hM).1
  subst hnp; subst hst
  intro p l e s m args below meth c w b H locs ls X hS hH hZ hL
  obtain ⟨hx, hb, hml, hown, hts, -, -, hK, hN, -, hb0⟩ := id X
  rw [← hcn] at hown
  obtain ⟨p0, hp0⟩ := has3_ex (show has3 mlL M.2.2.2.2.1 j x = true from hax)
  rw [show As.reverse ++ Value.ref q :: rest = As.reverse ++ ([.ref q] ++ rest) by simp, cv_rev, List.map_append]
  refine w_cV (rest := rest.map (cvV b)) ⟨hx, hb, hml, hown, hts⟩ hM' hC hmn (ml_w hp0) hv hq (by simpa [Nat.blt_eq] using hci) hcls (by rw [cv_cat]; exact Nat.le_of_ble_eq_true hroom) ⟨hk, hn⟩ ⟨by show d + 3 ≤ d + 1 + 2; omega, by show 40 * d + 100 ≤ 40 * (d + 1) + 60; omega⟩ hd hL.lt hK hN hS hH hZ hb0 (fun r h' H1 locs1 hq' hH1 hZ1 hS1 => ?_)
  have k1 := kk r h' hq' p l e s m args below meth c w b H1 locs1 ls X hS1 hH1 hZ1 hL
  rw [List.map_append] at k1
  cases r <;> exact k1
theorem V.cS (hM : mOK M) (hM' : mOK M') (hC : C M' d mc' ms' As h Q') (hi : lkf (m_tab M) pc = some (.invokestatic j, np, x)) (hst : As.reverse ++ rest = st) (hmn : mn x = M'.1) (hv : snB x As.length = true) (hml' : has3 mlL M.2.2.2.2.1 j x = true) (hroom : Nat.ble (rest.map fun v => v.category).sum 8 = true) (hk : k + mc' ≤ mc) (hn : n + ms' ≤ ms)
    (kk : ∀ r h', Q' r h' → V M (d + 1) mc ms Q (k + mc') (n + ms') np L (r.toList ++ rest) h') : V M (d + 1) mc ms Q k n pc L st h := by
  obtain ⟨hd, hnp, hax⟩ := m_dec hM hi (by simp [ilen])
  have hcn := (m_cn hM).1
  subst hnp; subst hst
  intro p l e s m args below meth c w b H locs ls X hS hH hZ hL
  obtain ⟨hx, hb, hml, hown, hts, -, -, hK, hN, -, hb0⟩ := id X
  rw [← hcn] at hown
  obtain ⟨p0, hp0⟩ := has3_ex hml'
  rw [cv_rev]
  refine w_cS (rest := rest.map (cvV b)) ⟨hx, hb, hml, hown, hts⟩ hM' hC hmn (ml_w hp0) hv (by rw [cv_cat]; exact Nat.le_of_ble_eq_true hroom) ⟨hk, hn⟩ ⟨by show d + 3 ≤ d + 1 + 2; omega, by show 40 * d + 100 ≤ 40 * (d + 1) + 60; omega⟩ hd hL.lt hK hN hS hH hZ hb0 (fun r h' H1 locs1 hq' hH1 hZ1 hS1 => ?_)
  have k1 := kk r h' hq' p l e s m args below meth c w b H1 locs1 ls X hS1 hH1 hZ1 hL
  rw [List.map_append] at k1
  cases r <;> exact k1
theorem V.cI (hM : mOK M) (hM' : mOK M') (hC : C M' d mc' ms' (.ref q :: As) h Q') (hi : lkf (m_tab M) pc = some (.invokespecial j, np, x)) (hst : As.reverse ++ .ref q :: rest = st) (hmn : mn x = M'.1) (hr0 : M'.2.2.2.1 = none) (hv : inB x As.length = true) (hml' : has3 mlL M.2.2.2.2.1 j x = true) (hroom : Nat.ble (rest.map fun v => v.category).sum 8 = true) (hk : k + mc' ≤ mc) (hn : n + ms' ≤ ms)
    (kk : ∀ r h', Q' r h' → V M (d + 1) mc ms Q (k + mc') (n + ms') np L (r.toList ++ rest) h') : V M (d + 1) mc ms Q k n pc L st h := by
  obtain ⟨hd, hnp, hax⟩ := m_dec hM hi (by simp [ilen])
  have hcn := (m_cn hM).1
  subst hnp; subst hst
  intro p l e s m args below meth c w b H locs ls X hS hH hZ hL
  obtain ⟨hx, hb, hml, hown, hts, -, -, hK, hN, -, hb0⟩ := id X
  rw [← hcn] at hown
  obtain ⟨p0, hp0⟩ := has3_ex hml'
  rw [show As.reverse ++ Value.ref q :: rest = As.reverse ++ ([.ref q] ++ rest) by simp, cv_rev, List.map_append]
  refine w_cI (rest := rest.map (cvV b)) ⟨hx, hb, hml, hown, hts⟩ hM' hC hmn hr0 (ml_w hp0) hv (by rw [cv_cat]; exact Nat.le_of_ble_eq_true hroom) ⟨hk, hn⟩ ⟨by show d + 3 ≤ d + 1 + 2; omega, by show 40 * d + 100 ≤ 40 * (d + 1) + 60; omega⟩ hd hL.lt hK hN hS hH hZ hb0 (fun r h' H1 locs1 hq' hH1 hZ1 hS1 => ?_)
  have k1 := kk r h' hq' p l e s m args below meth c w b H1 locs1 ls X hS1 hH1 hZ1 hL
  rw [List.map_append] at k1
  cases r <;> exact k1
end RULES6
end
