section
-- ===== PART A: goes FIRST, ahead of the names: the tables' words, and 'selects' of the private methods out of them =====
/-- a private method of a class that the tables say can be made, by its rows of tables_1 -/
def lw_okq (q : MethodName × Nat) : Prop := (q.1.cls ≠ "java/lang/invoke/MethodHandle" ∧ q.1.cls ≠ "java/lang/invoke/VarHandle") ∧ Cond.instantiable q.1.cls q.2 ∈ tables_1 ∧ Cond.privateMethod q.1 ∈ tables_1 ∧ Cond.instanceMethod q.1 ∈ tables_1
theorem lw_p0 : lw_okq (⟨"PressSheets", "grouped", "(I)LPressSheets$Forme;"⟩, 7) := ⟨⟨by decide +kernel, by decide +kernel⟩, List.mem_of_getElem? (i := 15) (by decide +kernel), List.mem_of_getElem? (i := 301) (by decide +kernel), List.mem_of_getElem? (i := 302) (by decide +kernel)⟩
theorem lw_p1 : lw_okq (⟨"PressSheets$Forme", "copiesLookedAt", "()I"⟩, 12) := ⟨⟨by decide +kernel, by decide +kernel⟩, List.mem_of_getElem? (i := 24) (by decide +kernel), List.mem_of_getElem? (i := 309) (by decide +kernel), List.mem_of_getElem? (i := 310) (by decide +kernel)⟩
theorem lw_p2 : lw_okq (⟨"PressSheets$Forme", "unlikeCopies", "(I)I"⟩, 12) := ⟨⟨by decide +kernel, by decide +kernel⟩, List.mem_of_getElem? (i := 24) (by decide +kernel), List.mem_of_getElem? (i := 313) (by decide +kernel), List.mem_of_getElem? (i := 314) (by decide +kernel)⟩
theorem lw_p3 : lw_okq (⟨"PressSheets", "isState", "(II)Z"⟩, 7) := ⟨⟨by decide +kernel, by decide +kernel⟩, List.mem_of_getElem? (i := 15) (by decide +kernel), List.mem_of_getElem? (i := 332) (by decide +kernel), List.mem_of_getElem? (i := 333) (by decide +kernel)⟩
theorem lw_p4 : lw_okq (⟨"PressSheets$SlipCounter", "countAlone", "(LPressSheets$Forme;I)V"⟩, 4) := ⟨⟨by decide +kernel, by decide +kernel⟩, List.mem_of_getElem? (i := 82) (by decide +kernel), List.mem_of_getElem? (i := 348) (by decide +kernel), List.mem_of_getElem? (i := 349) (by decide +kernel)⟩
theorem lw_p5 : lw_okq (⟨"PressSheets$SlipCounter", "takeReaders", "(LPressSheets$Forme;I)V"⟩, 4) := ⟨⟨by decide +kernel, by decide +kernel⟩, List.mem_of_getElem? (i := 82) (by decide +kernel), List.mem_of_getElem? (i := 353) (by decide +kernel), List.mem_of_getElem? (i := 354) (by decide +kernel)⟩
theorem lw_p6 : lw_okq (⟨"PressSheets$SlipCounter", "slipsAtPlace", "(I)I"⟩, 4) := ⟨⟨by decide +kernel, by decide +kernel⟩, List.mem_of_getElem? (i := 82) (by decide +kernel), List.mem_of_getElem? (i := 361) (by decide +kernel), List.mem_of_getElem? (i := 362) (by decide +kernel)⟩
theorem lw_p7 : lw_okq (⟨"PressSheets$SlipCounter", "allowOneMore", "(I)V"⟩, 4) := ⟨⟨by decide +kernel, by decide +kernel⟩, List.mem_of_getElem? (i := 82) (by decide +kernel), List.mem_of_getElem? (i := 375) (by decide +kernel), List.mem_of_getElem? (i := 376) (by decide +kernel)⟩
theorem lw_p8 : lw_okq (⟨"PressSheets$SlipCounter", "slipsWithOneMore", "(I)I"⟩, 4) := ⟨⟨by decide +kernel, by decide +kernel⟩, List.mem_of_getElem? (i := 82) (by decide +kernel), List.mem_of_getElem? (i := 379) (by decide +kernel), List.mem_of_getElem? (i := 380) (by decide +kernel)⟩
theorem lw_p9 : lw_okq (⟨"PressSheets$OrderFinder", "makeOrders", "(LPressSheets$Forme;)V"⟩, 4) := ⟨⟨by decide +kernel, by decide +kernel⟩, List.mem_of_getElem? (i := 101) (by decide +kernel), List.mem_of_getElem? (i := 412) (by decide +kernel), List.mem_of_getElem? (i := 413) (by decide +kernel)⟩
theorem lw_p10 : lw_okq (⟨"PressSheets$OrderFinder", "takeStates", "(LPressSheets$Forme;)V"⟩, 4) := ⟨⟨by decide +kernel, by decide +kernel⟩, List.mem_of_getElem? (i := 101) (by decide +kernel), List.mem_of_getElem? (i := 416) (by decide +kernel), List.mem_of_getElem? (i := 417) (by decide +kernel)⟩
theorem lw_p11 : lw_okq (⟨"PressSheets$Forme", "tellsAheadOf", "(II)Z"⟩, 12) := ⟨⟨by decide +kernel, by decide +kernel⟩, List.mem_of_getElem? (i := 24) (by decide +kernel), List.mem_of_getElem? (i := 424) (by decide +kernel), List.mem_of_getElem? (i := 425) (by decide +kernel)⟩
theorem lw_p12 : lw_okq (⟨"PressSheets$OrderFinder", "findRests", "()I"⟩, 4) := ⟨⟨by decide +kernel, by decide +kernel⟩, List.mem_of_getElem? (i := 101) (by decide +kernel), List.mem_of_getElem? (i := 429) (by decide +kernel), List.mem_of_getElem? (i := 430) (by decide +kernel)⟩
theorem lw_p13 : lw_okq (⟨"PressSheets$OrderFinder", "restBehind", "(II)I"⟩, 4) := ⟨⟨by decide +kernel, by decide +kernel⟩, List.mem_of_getElem? (i := 101) (by decide +kernel), List.mem_of_getElem? (i := 433) (by decide +kernel), List.mem_of_getElem? (i := 434) (by decide +kernel)⟩
theorem lw_p14 : lw_okq (⟨"PressSheets$OrderFinder", "mayCome", "(II)Z"⟩, 4) := ⟨⟨by decide +kernel, by decide +kernel⟩, List.mem_of_getElem? (i := 101) (by decide +kernel), List.mem_of_getElem? (i := 437) (by decide +kernel), List.mem_of_getElem? (i := 438) (by decide +kernel)⟩
theorem lw_p15 : lw_okq (⟨"PressSheets$OrderFinder", "restThrough", "(III)I"⟩, 4) := ⟨⟨by decide +kernel, by decide +kernel⟩, List.mem_of_getElem? (i := 101) (by decide +kernel), List.mem_of_getElem? (i := 441) (by decide +kernel), List.mem_of_getElem? (i := 442) (by decide +kernel)⟩
def lw_privs_1 : List (MethodName × Nat) := [(⟨"PressSheets", "grouped", "(I)LPressSheets$Forme;"⟩, 7), (⟨"PressSheets$Forme", "copiesLookedAt", "()I"⟩, 12), (⟨"PressSheets$Forme", "unlikeCopies", "(I)I"⟩, 12), (⟨"PressSheets", "isState", "(II)Z"⟩, 7), (⟨"PressSheets$SlipCounter", "countAlone", "(LPressSheets$Forme;I)V"⟩, 4), (⟨"PressSheets$SlipCounter", "takeReaders", "(LPressSheets$Forme;I)V"⟩, 4), (⟨"PressSheets$SlipCounter", "slipsAtPlace", "(I)I"⟩, 4), (⟨"PressSheets$SlipCounter", "allowOneMore", "(I)V"⟩, 4), (⟨"PressSheets$SlipCounter", "slipsWithOneMore", "(I)I"⟩, 4), (⟨"PressSheets$OrderFinder", "makeOrders", "(LPressSheets$Forme;)V"⟩, 4), (⟨"PressSheets$OrderFinder", "takeStates", "(LPressSheets$Forme;)V"⟩, 4), (⟨"PressSheets$Forme", "tellsAheadOf", "(II)Z"⟩, 12), (⟨"PressSheets$OrderFinder", "findRests", "()I"⟩, 4), (⟨"PressSheets$OrderFinder", "restBehind", "(II)I"⟩, 4), (⟨"PressSheets$OrderFinder", "mayCome", "(II)Z"⟩, 4), (⟨"PressSheets$OrderFinder", "restThrough", "(III)I"⟩, 4)]
theorem lw_r1 : ∀ q ∈ lw_privs_1, lw_okq q := List.forall_mem_cons.mpr ⟨lw_p0, List.forall_mem_cons.mpr ⟨lw_p1, List.forall_mem_cons.mpr ⟨lw_p2, List.forall_mem_cons.mpr ⟨lw_p3, List.forall_mem_cons.mpr ⟨lw_p4, List.forall_mem_cons.mpr ⟨lw_p5, List.forall_mem_cons.mpr ⟨lw_p6, List.forall_mem_cons.mpr ⟨lw_p7, List.forall_mem_cons.mpr ⟨lw_p8, List.forall_mem_cons.mpr ⟨lw_p9, List.forall_mem_cons.mpr ⟨lw_p10, List.forall_mem_cons.mpr ⟨lw_p11, List.forall_mem_cons.mpr ⟨lw_p12, List.forall_mem_cons.mpr ⟨lw_p13, List.forall_mem_cons.mpr ⟨lw_p14, List.forall_mem_cons.mpr ⟨lw_p15, fun _ h => absurd h List.not_mem_nil⟩⟩⟩⟩⟩⟩⟩⟩⟩⟩⟩⟩⟩⟩⟩⟩
theorem lw_p16 : lw_okq (⟨"PressSheets$OrderFinder", "walkFirst", "([II)V"⟩, 4) := ⟨⟨by decide +kernel, by decide +kernel⟩, List.mem_of_getElem? (i := 101) (by decide +kernel), List.mem_of_getElem? (i := 453) (by decide +kernel), List.mem_of_getElem? (i := 454) (by decide +kernel)⟩
theorem lw_p17 : lw_okq (⟨"PressSheets$OrderFinder", "leastNext", "(III)I"⟩, 4) := ⟨⟨by decide +kernel, by decide +kernel⟩, List.mem_of_getElem? (i := 101) (by decide +kernel), List.mem_of_getElem? (i := 457) (by decide +kernel), List.mem_of_getElem? (i := 458) (by decide +kernel)⟩
theorem lw_p18 : lw_okq (⟨"PressSheets$Type", "link", "()V"⟩, 4) := ⟨⟨by decide +kernel, by decide +kernel⟩, List.mem_of_getElem? (i := 120) (by decide +kernel), List.mem_of_getElem? (i := 497) (by decide +kernel), List.mem_of_getElem? (i := 498) (by decide +kernel)⟩
theorem lw_p19 : lw_okq (⟨"PressSheets$Type", "linkPiece", "([I)V"⟩, 4) := ⟨⟨by decide +kernel, by decide +kernel⟩, List.mem_of_getElem? (i := 120) (by decide +kernel), List.mem_of_getElem? (i := 501) (by decide +kernel), List.mem_of_getElem? (i := 502) (by decide +kernel)⟩
theorem lw_p20 : lw_okq (⟨"PressSheets$Type", "reachOn", "()V"⟩, 4) := ⟨⟨by decide +kernel, by decide +kernel⟩, List.mem_of_getElem? (i := 120) (by decide +kernel), List.mem_of_getElem? (i := 508) (by decide +kernel), List.mem_of_getElem? (i := 509) (by decide +kernel)⟩
theorem lw_p21 : lw_okq (⟨"PressSheets$Planner", "weighSets", "(LPressSheets$Type;I)V"⟩, 7) := ⟨⟨by decide +kernel, by decide +kernel⟩, List.mem_of_getElem? (i := 148) (by decide +kernel), List.mem_of_getElem? (i := 548) (by decide +kernel), List.mem_of_getElem? (i := 549) (by decide +kernel)⟩
theorem lw_p22 : lw_okq (⟨"PressSheets$Planner", "canLie", "(LPressSheets$Type;I)Z"⟩, 7) := ⟨⟨by decide +kernel, by decide +kernel⟩, List.mem_of_getElem? (i := 148) (by decide +kernel), List.mem_of_getElem? (i := 552) (by decide +kernel), List.mem_of_getElem? (i := 553) (by decide +kernel)⟩
theorem lw_p23 : lw_okq (⟨"PressSheets$Planner", "addDay", "(I)V"⟩, 7) := ⟨⟨by decide +kernel, by decide +kernel⟩, List.mem_of_getElem? (i := 148) (by decide +kernel), List.mem_of_getElem? (i := 561) (by decide +kernel), List.mem_of_getElem? (i := 562) (by decide +kernel)⟩
theorem lw_p24 : lw_okq (⟨"PressSheets$Planner", "makeFirst", "(LPressSheets$Type;I)V"⟩, 7) := ⟨⟨by decide +kernel, by decide +kernel⟩, List.mem_of_getElem? (i := 148) (by decide +kernel), List.mem_of_getElem? (i := 573) (by decide +kernel), List.mem_of_getElem? (i := 574) (by decide +kernel)⟩
theorem lw_p25 : lw_okq (⟨"PressSheets$Planner", "hasRoom", "(LPressSheets$Type;II)Z"⟩, 7) := ⟨⟨by decide +kernel, by decide +kernel⟩, List.mem_of_getElem? (i := 148) (by decide +kernel), List.mem_of_getElem? (i := 586) (by decide +kernel), List.mem_of_getElem? (i := 587) (by decide +kernel)⟩
theorem lw_p26 : lw_okq (⟨"PressSheets$Planner", "keepsTurn", "(LPressSheets$Type;II)Z"⟩, 7) := ⟨⟨by decide +kernel, by decide +kernel⟩, List.mem_of_getElem? (i := 148) (by decide +kernel), List.mem_of_getElem? (i := 590) (by decide +kernel), List.mem_of_getElem? (i := 591) (by decide +kernel)⟩
theorem lw_p27 : lw_okq (⟨"PressSheets$Heaps", "mayBe", "(IIZ)Z"⟩, 4) := ⟨⟨by decide +kernel, by decide +kernel⟩, List.mem_of_getElem? (i := 176) (by decide +kernel), List.mem_of_getElem? (i := 643) (by decide +kernel), List.mem_of_getElem? (i := 644) (by decide +kernel)⟩
theorem lw_p28 : lw_okq (⟨"PressSheets$Heaps", "heapEnd", "(II)I"⟩, 4) := ⟨⟨by decide +kernel, by decide +kernel⟩, List.mem_of_getElem? (i := 176) (by decide +kernel), List.mem_of_getElem? (i := 647) (by decide +kernel), List.mem_of_getElem? (i := 648) (by decide +kernel)⟩
theorem lw_p29 : lw_okq (⟨"PressSheets", "isMan", "(I)Z"⟩, 7) := ⟨⟨by decide +kernel, by decide +kernel⟩, List.mem_of_getElem? (i := 15) (by decide +kernel), List.mem_of_getElem? (i := 680) (by decide +kernel), List.mem_of_getElem? (i := 681) (by decide +kernel)⟩
theorem lw_p30 : lw_okq (⟨"PressSheets", "isPage", "(I)Z"⟩, 7) := ⟨⟨by decide +kernel, by decide +kernel⟩, List.mem_of_getElem? (i := 15) (by decide +kernel), List.mem_of_getElem? (i := 692) (by decide +kernel), List.mem_of_getElem? (i := 693) (by decide +kernel)⟩
theorem lw_p31 : lw_okq (⟨"PressSheets$House", "solve", "()V"⟩, 11) := ⟨⟨by decide +kernel, by decide +kernel⟩, List.mem_of_getElem? (i := 199) (by decide +kernel), List.mem_of_getElem? (i := 724) (by decide +kernel), List.mem_of_getElem? (i := 725) (by decide +kernel)⟩
def lw_privs_2 : List (MethodName × Nat) := [(⟨"PressSheets$OrderFinder", "walkFirst", "([II)V"⟩, 4), (⟨"PressSheets$OrderFinder", "leastNext", "(III)I"⟩, 4), (⟨"PressSheets$Type", "link", "()V"⟩, 4), (⟨"PressSheets$Type", "linkPiece", "([I)V"⟩, 4), (⟨"PressSheets$Type", "reachOn", "()V"⟩, 4), (⟨"PressSheets$Planner", "weighSets", "(LPressSheets$Type;I)V"⟩, 7), (⟨"PressSheets$Planner", "canLie", "(LPressSheets$Type;I)Z"⟩, 7), (⟨"PressSheets$Planner", "addDay", "(I)V"⟩, 7), (⟨"PressSheets$Planner", "makeFirst", "(LPressSheets$Type;I)V"⟩, 7), (⟨"PressSheets$Planner", "hasRoom", "(LPressSheets$Type;II)Z"⟩, 7), (⟨"PressSheets$Planner", "keepsTurn", "(LPressSheets$Type;II)Z"⟩, 7), (⟨"PressSheets$Heaps", "mayBe", "(IIZ)Z"⟩, 4), (⟨"PressSheets$Heaps", "heapEnd", "(II)I"⟩, 4), (⟨"PressSheets", "isMan", "(I)Z"⟩, 7), (⟨"PressSheets", "isPage", "(I)Z"⟩, 7), (⟨"PressSheets$House", "solve", "()V"⟩, 11)]
theorem lw_r2 : ∀ q ∈ lw_privs_2, lw_okq q := List.forall_mem_cons.mpr ⟨lw_p16, List.forall_mem_cons.mpr ⟨lw_p17, List.forall_mem_cons.mpr ⟨lw_p18, List.forall_mem_cons.mpr ⟨lw_p19, List.forall_mem_cons.mpr ⟨lw_p20, List.forall_mem_cons.mpr ⟨lw_p21, List.forall_mem_cons.mpr ⟨lw_p22, List.forall_mem_cons.mpr ⟨lw_p23, List.forall_mem_cons.mpr ⟨lw_p24, List.forall_mem_cons.mpr ⟨lw_p25, List.forall_mem_cons.mpr ⟨lw_p26, List.forall_mem_cons.mpr ⟨lw_p27, List.forall_mem_cons.mpr ⟨lw_p28, List.forall_mem_cons.mpr ⟨lw_p29, List.forall_mem_cons.mpr ⟨lw_p30, List.forall_mem_cons.mpr ⟨lw_p31, fun _ h => absurd h List.not_mem_nil⟩⟩⟩⟩⟩⟩⟩⟩⟩⟩⟩⟩⟩⟩⟩⟩
theorem lw_p32 : lw_okq (⟨"PressSheets$House", "costAhead", "(II)I"⟩, 11) := ⟨⟨by decide +kernel, by decide +kernel⟩, List.mem_of_getElem? (i := 199) (by decide +kernel), List.mem_of_getElem? (i := 729) (by decide +kernel), List.mem_of_getElem? (i := 730) (by decide +kernel)⟩
theorem lw_p33 : lw_okq (⟨"PressSheets$House", "changeOf", "(II)I"⟩, 11) := ⟨⟨by decide +kernel, by decide +kernel⟩, List.mem_of_getElem? (i := 199) (by decide +kernel), List.mem_of_getElem? (i := 733) (by decide +kernel), List.mem_of_getElem? (i := 734) (by decide +kernel)⟩
theorem lw_p34 : lw_okq (⟨"PressSheets$House", "lookBehind", "(II)V"⟩, 11) := ⟨⟨by decide +kernel, by decide +kernel⟩, List.mem_of_getElem? (i := 199) (by decide +kernel), List.mem_of_getElem? (i := 738) (by decide +kernel), List.mem_of_getElem? (i := 739) (by decide +kernel)⟩
theorem lw_p35 : lw_okq (⟨"PressSheets$House", "costThrough", "(III)I"⟩, 11) := ⟨⟨by decide +kernel, by decide +kernel⟩, List.mem_of_getElem? (i := 199) (by decide +kernel), List.mem_of_getElem? (i := 742) (by decide +kernel), List.mem_of_getElem? (i := 743) (by decide +kernel)⟩
theorem lw_p36 : lw_okq (⟨"PressSheets$House", "leastUpTo", "(I)I"⟩, 11) := ⟨⟨by decide +kernel, by decide +kernel⟩, List.mem_of_getElem? (i := 199) (by decide +kernel), List.mem_of_getElem? (i := 746) (by decide +kernel), List.mem_of_getElem? (i := 747) (by decide +kernel)⟩
theorem lw_p37 : lw_okq (⟨"PressSheets$House", "leastBestMan", "()I"⟩, 11) := ⟨⟨by decide +kernel, by decide +kernel⟩, List.mem_of_getElem? (i := 199) (by decide +kernel), List.mem_of_getElem? (i := 758) (by decide +kernel), List.mem_of_getElem? (i := 759) (by decide +kernel)⟩
theorem lw_p38 : lw_okq (⟨"PressSheets$House", "isBest", "(II)Z"⟩, 11) := ⟨⟨by decide +kernel, by decide +kernel⟩, List.mem_of_getElem? (i := 199) (by decide +kernel), List.mem_of_getElem? (i := 762) (by decide +kernel), List.mem_of_getElem? (i := 763) (by decide +kernel)⟩
theorem lw_p39 : lw_okq (⟨"PressSheets$House", "nextMan", "(II)I"⟩, 11) := ⟨⟨by decide +kernel, by decide +kernel⟩, List.mem_of_getElem? (i := 199) (by decide +kernel), List.mem_of_getElem? (i := 766) (by decide +kernel), List.mem_of_getElem? (i := 767) (by decide +kernel)⟩
theorem lw_p40 : lw_okq (⟨"PressSheets", "countReadings", "()I"⟩, 7) := ⟨⟨by decide +kernel, by decide +kernel⟩, List.mem_of_getElem? (i := 15) (by decide +kernel), List.mem_of_getElem? (i := 790) (by decide +kernel), List.mem_of_getElem? (i := 791) (by decide +kernel)⟩
theorem lw_p41 : lw_okq (⟨"PressSheets", "countAhead", "()I"⟩, 7) := ⟨⟨by decide +kernel, by decide +kernel⟩, List.mem_of_getElem? (i := 15) (by decide +kernel), List.mem_of_getElem? (i := 798) (by decide +kernel), List.mem_of_getElem? (i := 799) (by decide +kernel)⟩
theorem lw_p42 : lw_okq (⟨"PressSheetsModel", "letterAt", "(III)I"⟩, 29) := ⟨⟨by decide +kernel, by decide +kernel⟩, List.mem_of_getElem? (i := 816) (by decide +kernel), List.mem_of_getElem? (i := 930) (by decide +kernel), List.mem_of_getElem? (i := 931) (by decide +kernel)⟩
theorem lw_p43 : lw_okq (⟨"PressSheetsModel", "agrees", "(III)Z"⟩, 29) := ⟨⟨by decide +kernel, by decide +kernel⟩, List.mem_of_getElem? (i := 816) (by decide +kernel), List.mem_of_getElem? (i := 938) (by decide +kernel), List.mem_of_getElem? (i := 939) (by decide +kernel)⟩
theorem lw_p44 : lw_okq (⟨"PressSheetsModel", "layStates", "(I)V"⟩, 29) := ⟨⟨by decide +kernel, by decide +kernel⟩, List.mem_of_getElem? (i := 816) (by decide +kernel), List.mem_of_getElem? (i := 946) (by decide +kernel), List.mem_of_getElem? (i := 947) (by decide +kernel)⟩
theorem lw_p45 : lw_okq (⟨"PressSheetsModel", "isLooked", "(II)Z"⟩, 29) := ⟨⟨by decide +kernel, by decide +kernel⟩, List.mem_of_getElem? (i := 816) (by decide +kernel), List.mem_of_getElem? (i := 950) (by decide +kernel), List.mem_of_getElem? (i := 951) (by decide +kernel)⟩
theorem lw_p46 : lw_okq (⟨"PressSheetsModel", "layGroups", "(III)Z"⟩, 29) := ⟨⟨by decide +kernel, by decide +kernel⟩, List.mem_of_getElem? (i := 816) (by decide +kernel), List.mem_of_getElem? (i := 954) (by decide +kernel), List.mem_of_getElem? (i := 955) (by decide +kernel)⟩
theorem lw_p47 : lw_okq (⟨"PressSheetsModel", "joins", "(III)Z"⟩, 29) := ⟨⟨by decide +kernel, by decide +kernel⟩, List.mem_of_getElem? (i := 816) (by decide +kernel), List.mem_of_getElem? (i := 958) (by decide +kernel), List.mem_of_getElem? (i := 959) (by decide +kernel)⟩
def lw_privs_3 : List (MethodName × Nat) := [(⟨"PressSheets$House", "costAhead", "(II)I"⟩, 11), (⟨"PressSheets$House", "changeOf", "(II)I"⟩, 11), (⟨"PressSheets$House", "lookBehind", "(II)V"⟩, 11), (⟨"PressSheets$House", "costThrough", "(III)I"⟩, 11), (⟨"PressSheets$House", "leastUpTo", "(I)I"⟩, 11), (⟨"PressSheets$House", "leastBestMan", "()I"⟩, 11), (⟨"PressSheets$House", "isBest", "(II)Z"⟩, 11), (⟨"PressSheets$House", "nextMan", "(II)I"⟩, 11), (⟨"PressSheets", "countReadings", "()I"⟩, 7), (⟨"PressSheets", "countAhead", "()I"⟩, 7), (⟨"PressSheetsModel", "letterAt", "(III)I"⟩, 29), (⟨"PressSheetsModel", "agrees", "(III)Z"⟩, 29), (⟨"PressSheetsModel", "layStates", "(I)V"⟩, 29), (⟨"PressSheetsModel", "isLooked", "(II)Z"⟩, 29), (⟨"PressSheetsModel", "layGroups", "(III)Z"⟩, 29), (⟨"PressSheetsModel", "joins", "(III)Z"⟩, 29)]
theorem lw_r3 : ∀ q ∈ lw_privs_3, lw_okq q := List.forall_mem_cons.mpr ⟨lw_p32, List.forall_mem_cons.mpr ⟨lw_p33, List.forall_mem_cons.mpr ⟨lw_p34, List.forall_mem_cons.mpr ⟨lw_p35, List.forall_mem_cons.mpr ⟨lw_p36, List.forall_mem_cons.mpr ⟨lw_p37, List.forall_mem_cons.mpr ⟨lw_p38, List.forall_mem_cons.mpr ⟨lw_p39, List.forall_mem_cons.mpr ⟨lw_p40, List.forall_mem_cons.mpr ⟨lw_p41, List.forall_mem_cons.mpr ⟨lw_p42, List.forall_mem_cons.mpr ⟨lw_p43, List.forall_mem_cons.mpr ⟨lw_p44, List.forall_mem_cons.mpr ⟨lw_p45, List.forall_mem_cons.mpr ⟨lw_p46, List.forall_mem_cons.mpr ⟨lw_p47, fun _ h => absurd h List.not_mem_nil⟩⟩⟩⟩⟩⟩⟩⟩⟩⟩⟩⟩⟩⟩⟩⟩
theorem lw_p48 : lw_okq (⟨"PressSheetsModel", "letterOf", "(III)I"⟩, 29) := ⟨⟨by decide +kernel, by decide +kernel⟩, List.mem_of_getElem? (i := 816) (by decide +kernel), List.mem_of_getElem? (i := 970) (by decide +kernel), List.mem_of_getElem? (i := 971) (by decide +kernel)⟩
theorem lw_p49 : lw_okq (⟨"PressSheetsModel", "slipsOf", "(II)I"⟩, 29) := ⟨⟨by decide +kernel, by decide +kernel⟩, List.mem_of_getElem? (i := 816) (by decide +kernel), List.mem_of_getElem? (i := 978) (by decide +kernel), List.mem_of_getElem? (i := 979) (by decide +kernel)⟩
theorem lw_p50 : lw_okq (⟨"PressSheetsModel", "changesOf", "(III)I"⟩, 29) := ⟨⟨by decide +kernel, by decide +kernel⟩, List.mem_of_getElem? (i := 816) (by decide +kernel), List.mem_of_getElem? (i := 991) (by decide +kernel), List.mem_of_getElem? (i := 992) (by decide +kernel)⟩
theorem lw_p51 : lw_okq (⟨"PressSheetsModel", "layNeeds", "(I)V"⟩, 29) := ⟨⟨by decide +kernel, by decide +kernel⟩, List.mem_of_getElem? (i := 816) (by decide +kernel), List.mem_of_getElem? (i := 999) (by decide +kernel), List.mem_of_getElem? (i := 1000) (by decide +kernel)⟩
theorem lw_p52 : lw_okq (⟨"PressSheetsModel", "layOrders", "()V"⟩, 29) := ⟨⟨by decide +kernel, by decide +kernel⟩, List.mem_of_getElem? (i := 816) (by decide +kernel), List.mem_of_getElem? (i := 1003) (by decide +kernel), List.mem_of_getElem? (i := 1004) (by decide +kernel)⟩
theorem lw_p53 : lw_okq (⟨"PressSheetsModel", "leastCost", "()I"⟩, 29) := ⟨⟨by decide +kernel, by decide +kernel⟩, List.mem_of_getElem? (i := 816) (by decide +kernel), List.mem_of_getElem? (i := 1008) (by decide +kernel), List.mem_of_getElem? (i := 1009) (by decide +kernel)⟩
theorem lw_p54 : lw_okq (⟨"PressSheetsModel", "waysOf", "(I)I"⟩, 29) := ⟨⟨by decide +kernel, by decide +kernel⟩, List.mem_of_getElem? (i := 816) (by decide +kernel), List.mem_of_getElem? (i := 1016) (by decide +kernel), List.mem_of_getElem? (i := 1017) (by decide +kernel)⟩
theorem lw_p55 : lw_okq (⟨"PressSheetsModel", "isNext", "(III)Z"⟩, 29) := ⟨⟨by decide +kernel, by decide +kernel⟩, List.mem_of_getElem? (i := 816) (by decide +kernel), List.mem_of_getElem? (i := 1024) (by decide +kernel), List.mem_of_getElem? (i := 1025) (by decide +kernel)⟩
theorem lw_p56 : lw_okq (⟨"PressSheetsModel", "shares", "(II)Z"⟩, 29) := ⟨⟨by decide +kernel, by decide +kernel⟩, List.mem_of_getElem? (i := 816) (by decide +kernel), List.mem_of_getElem? (i := 1041) (by decide +kernel), List.mem_of_getElem? (i := 1042) (by decide +kernel)⟩
theorem lw_p57 : lw_okq (⟨"PressSheetsModel", "layMusts", "()V"⟩, 29) := ⟨⟨by decide +kernel, by decide +kernel⟩, List.mem_of_getElem? (i := 816) (by decide +kernel), List.mem_of_getElem? (i := 1049) (by decide +kernel), List.mem_of_getElem? (i := 1050) (by decide +kernel)⟩
theorem lw_p58 : lw_okq (⟨"PressSheetsModel", "layPlans", "(III)I"⟩, 29) := ⟨⟨by decide +kernel, by decide +kernel⟩, List.mem_of_getElem? (i := 816) (by decide +kernel), List.mem_of_getElem? (i := 1066) (by decide +kernel), List.mem_of_getElem? (i := 1067) (by decide +kernel)⟩
theorem lw_p59 : lw_okq (⟨"PressSheetsModel", "isPlan", "()Z"⟩, 29) := ⟨⟨by decide +kernel, by decide +kernel⟩, List.mem_of_getElem? (i := 816) (by decide +kernel), List.mem_of_getElem? (i := 1070) (by decide +kernel), List.mem_of_getElem? (i := 1071) (by decide +kernel)⟩
theorem lw_p60 : lw_okq (⟨"PressSheetsModel", "heaps", "(I)I"⟩, 29) := ⟨⟨by decide +kernel, by decide +kernel⟩, List.mem_of_getElem? (i := 816) (by decide +kernel), List.mem_of_getElem? (i := 1104) (by decide +kernel), List.mem_of_getElem? (i := 1105) (by decide +kernel)⟩
theorem lw_p61 : lw_okq (⟨"PressSheetsModel", "mayBe", "(IIZ)Z"⟩, 29) := ⟨⟨by decide +kernel, by decide +kernel⟩, List.mem_of_getElem? (i := 816) (by decide +kernel), List.mem_of_getElem? (i := 1108) (by decide +kernel), List.mem_of_getElem? (i := 1109) (by decide +kernel)⟩
theorem lw_p62 : lw_okq (⟨"PressSheetsModel", "heapEnd", "(II)I"⟩, 29) := ⟨⟨by decide +kernel, by decide +kernel⟩, List.mem_of_getElem? (i := 816) (by decide +kernel), List.mem_of_getElem? (i := 1112) (by decide +kernel), List.mem_of_getElem? (i := 1113) (by decide +kernel)⟩
theorem lw_p63 : lw_okq (⟨"PressSheetsModel", "kindIn", "(IIZ)I"⟩, 29) := ⟨⟨by decide +kernel, by decide +kernel⟩, List.mem_of_getElem? (i := 816) (by decide +kernel), List.mem_of_getElem? (i := 1116) (by decide +kernel), List.mem_of_getElem? (i := 1117) (by decide +kernel)⟩
def lw_privs_4 : List (MethodName × Nat) := [(⟨"PressSheetsModel", "letterOf", "(III)I"⟩, 29), (⟨"PressSheetsModel", "slipsOf", "(II)I"⟩, 29), (⟨"PressSheetsModel", "changesOf", "(III)I"⟩, 29), (⟨"PressSheetsModel", "layNeeds", "(I)V"⟩, 29), (⟨"PressSheetsModel", "layOrders", "()V"⟩, 29), (⟨"PressSheetsModel", "leastCost", "()I"⟩, 29), (⟨"PressSheetsModel", "waysOf", "(I)I"⟩, 29), (⟨"PressSheetsModel", "isNext", "(III)Z"⟩, 29), (⟨"PressSheetsModel", "shares", "(II)Z"⟩, 29), (⟨"PressSheetsModel", "layMusts", "()V"⟩, 29), (⟨"PressSheetsModel", "layPlans", "(III)I"⟩, 29), (⟨"PressSheetsModel", "isPlan", "()Z"⟩, 29), (⟨"PressSheetsModel", "heaps", "(I)I"⟩, 29), (⟨"PressSheetsModel", "mayBe", "(IIZ)Z"⟩, 29), (⟨"PressSheetsModel", "heapEnd", "(II)I"⟩, 29), (⟨"PressSheetsModel", "kindIn", "(IIZ)I"⟩, 29)]
theorem lw_r4 : ∀ q ∈ lw_privs_4, lw_okq q := List.forall_mem_cons.mpr ⟨lw_p48, List.forall_mem_cons.mpr ⟨lw_p49, List.forall_mem_cons.mpr ⟨lw_p50, List.forall_mem_cons.mpr ⟨lw_p51, List.forall_mem_cons.mpr ⟨lw_p52, List.forall_mem_cons.mpr ⟨lw_p53, List.forall_mem_cons.mpr ⟨lw_p54, List.forall_mem_cons.mpr ⟨lw_p55, List.forall_mem_cons.mpr ⟨lw_p56, List.forall_mem_cons.mpr ⟨lw_p57, List.forall_mem_cons.mpr ⟨lw_p58, List.forall_mem_cons.mpr ⟨lw_p59, List.forall_mem_cons.mpr ⟨lw_p60, List.forall_mem_cons.mpr ⟨lw_p61, List.forall_mem_cons.mpr ⟨lw_p62, List.forall_mem_cons.mpr ⟨lw_p63, fun _ h => absurd h List.not_mem_nil⟩⟩⟩⟩⟩⟩⟩⟩⟩⟩⟩⟩⟩⟩⟩⟩
theorem lw_p64 : lw_okq (⟨"PressSheetsModel", "isMan", "(I)Z"⟩, 29) := ⟨⟨by decide +kernel, by decide +kernel⟩, List.mem_of_getElem? (i := 816) (by decide +kernel), List.mem_of_getElem? (i := 1137) (by decide +kernel), List.mem_of_getElem? (i := 1138) (by decide +kernel)⟩
theorem lw_p65 : lw_okq (⟨"PressSheetsModel", "isPage", "(I)Z"⟩, 29) := ⟨⟨by decide +kernel, by decide +kernel⟩, List.mem_of_getElem? (i := 816) (by decide +kernel), List.mem_of_getElem? (i := 1145) (by decide +kernel), List.mem_of_getElem? (i := 1146) (by decide +kernel)⟩
theorem lw_p66 : lw_okq (⟨"PressSheetsModel", "againstOf", "(II)I"⟩, 29) := ⟨⟨by decide +kernel, by decide +kernel⟩, List.mem_of_getElem? (i := 816) (by decide +kernel), List.mem_of_getElem? (i := 1158) (by decide +kernel), List.mem_of_getElem? (i := 1159) (by decide +kernel)⟩
theorem lw_p67 : lw_okq (⟨"PressSheetsModel", "layRest", "()V"⟩, 29) := ⟨⟨by decide +kernel, by decide +kernel⟩, List.mem_of_getElem? (i := 816) (by decide +kernel), List.mem_of_getElem? (i := 1166) (by decide +kernel), List.mem_of_getElem? (i := 1167) (by decide +kernel)⟩
theorem lw_p68 : lw_okq (⟨"PressSheetsModel", "best", "()I"⟩, 29) := ⟨⟨by decide +kernel, by decide +kernel⟩, List.mem_of_getElem? (i := 816) (by decide +kernel), List.mem_of_getElem? (i := 1170) (by decide +kernel), List.mem_of_getElem? (i := 1171) (by decide +kernel)⟩
theorem lw_p69 : lw_okq (⟨"PressSheetsModel", "layGone", "()V"⟩, 29) := ⟨⟨by decide +kernel, by decide +kernel⟩, List.mem_of_getElem? (i := 816) (by decide +kernel), List.mem_of_getElem? (i := 1182) (by decide +kernel), List.mem_of_getElem? (i := 1183) (by decide +kernel)⟩
def lw_privs_5 : List (MethodName × Nat) := [(⟨"PressSheetsModel", "isMan", "(I)Z"⟩, 29), (⟨"PressSheetsModel", "isPage", "(I)Z"⟩, 29), (⟨"PressSheetsModel", "againstOf", "(II)I"⟩, 29), (⟨"PressSheetsModel", "layRest", "()V"⟩, 29), (⟨"PressSheetsModel", "best", "()I"⟩, 29), (⟨"PressSheetsModel", "layGone", "()V"⟩, 29)]
theorem lw_r5 : ∀ q ∈ lw_privs_5, lw_okq q := List.forall_mem_cons.mpr ⟨lw_p64, List.forall_mem_cons.mpr ⟨lw_p65, List.forall_mem_cons.mpr ⟨lw_p66, List.forall_mem_cons.mpr ⟨lw_p67, List.forall_mem_cons.mpr ⟨lw_p68, List.forall_mem_cons.mpr ⟨lw_p69, fun _ h => absurd h List.not_mem_nil⟩⟩⟩⟩⟩⟩
def lw_privs : List (MethodName × Nat) := lw_privs_1 ++ (lw_privs_2 ++ (lw_privs_3 ++ (lw_privs_4 ++ (lw_privs_5))))
def lw_tbl : List Cond := k2_sels lw_privs ++ tables_1
theorem lw_privs_ok : ∀ q ∈ lw_privs, lw_okq q := by
  show ∀ q ∈ lw_privs_1 ++ (lw_privs_2 ++ (lw_privs_3 ++ (lw_privs_4 ++ (lw_privs_5)))), lw_okq q
  exact List.forall_mem_append.mpr ⟨lw_r1, List.forall_mem_append.mpr ⟨lw_r2, List.forall_mem_append.mpr ⟨lw_r3, List.forall_mem_append.mpr ⟨lw_r4, lw_r5⟩⟩⟩⟩
-- ===== end of PART A; then your names; then what follows =====
end
section
/-! ===== BEGIN printed: names, fields, word lists, decode rows ===== -/
def RX0 : String := "PressSheets$Forme"
def TX0 : u_T := fun k => match k with
  | 0 => ("PressSheets$Forme", "letters", "[[I", true)
  | 1 => ("PressSheets$Forme", "toldAhead", "[I", true)
  | 2 => ("PressSheets$Forme", "unlike", "[I", true)
  | 3 => ("PressSheets$Forme", "members", "[I", true)
  | 4 => ("PressSheets$Forme", "group", "[I", true)
  | 5 => ("PressSheets$Forme", "lookedAt", "I", false)
  | 6 => ("PressSheets$Forme", "groups", "I", false)
  | 7 => ("PressSheets$Forme", "grouped", "Z", false)
  | 8 => ("PressSheets$Forme", "firstOrder", "[I", true)
  | 9 => ("PressSheets$Forme", "orderCost", "I", false)
  | 10 => ("PressSheets$Forme", "orderWays", "I", false)
  | _ => ("PressSheets$Forme", "ordered", "Z", false)
def tyX0 : Nat → FieldType := fun k => match k with
  | 0 => .array (.array .int)
  | 1 => .array .int
  | 2 => .array .int
  | 3 => .array .int
  | 4 => .array .int
  | 5 => .int
  | 6 => .int
  | 7 => .boolean
  | 8 => .array .int
  | 9 => .int
  | 10 => .int
  | _ => .boolean
theorem nmX0 : ∀ a, a < 12 → ∀ b, b < 12 → a ≠ b → (TX0 a).2.1 ≠ (TX0 b).2.1 := by decide +kernel
theorem tyX0_ok : ∀ k, k < 12 → parseFieldDescriptor (TX0 k).2.2.1 = some (tyX0 k) := by decide +kernel
abbrev cX0_init : ByteArray := prog_2_method_1_code
def yX0_init : MethodName := ⟨RX0, "<init>", "()V"⟩
abbrev cX0_putLetter : ByteArray := prog_2_method_2_code
def yX0_putLetter : MethodName := ⟨RX0, "putLetter", "(III)I"⟩
abbrev cX0_tellAhead : ByteArray := prog_2_method_3_code
def yX0_tellAhead : MethodName := ⟨RX0, "tellAhead", "(IIZ)I"⟩
abbrev cX0_areAlike : ByteArray := prog_2_method_4_code
def yX0_areAlike : MethodName := ⟨RX0, "areAlike", "(II)Z"⟩
abbrev cX0_areUnlike : ByteArray := prog_2_method_5_code
def yX0_areUnlike : MethodName := ⟨RX0, "areUnlike", "(II)Z"⟩
abbrev cX0_makeGroups : ByteArray := prog_2_method_6_code
def yX0_makeGroups : MethodName := ⟨RX0, "makeGroups", "()V"⟩
abbrev cX0_copiesLookedAt : ByteArray := prog_2_method_7_code
def yX0_copiesLookedAt : MethodName := ⟨RX0, "copiesLookedAt", "()I"⟩
abbrev cX0_unlikeCopies : ByteArray := prog_2_method_8_code
def yX0_unlikeCopies : MethodName := ⟨RX0, "unlikeCopies", "(I)I"⟩
abbrev cX0_fill : ByteArray := prog_2_method_9_code
def yX0_fill : MethodName := ⟨RX0, "fill", "(LPressSheets$Forme;II)Z"⟩
abbrev cX0_groupLetter : ByteArray := prog_2_method_10_code
def yX0_groupLetter : MethodName := ⟨RX0, "groupLetter", "(II)I"⟩
abbrev cX0_unlikePlaces : ByteArray := prog_2_method_11_code
def yX0_unlikePlaces : MethodName := ⟨RX0, "unlikePlaces", "(II)I"⟩
abbrev cX0_statesAhead : ByteArray := prog_2_method_12_code
def yX0_statesAhead : MethodName := ⟨RX0, "statesAhead", "(I)I"⟩
abbrev cX0_tellsAheadOf : ByteArray := prog_2_method_13_code
def yX0_tellsAheadOf : MethodName := ⟨RX0, "tellsAheadOf", "(II)Z"⟩
abbrev cX0_readersOf : ByteArray := prog_2_method_14_code
def yX0_readersOf : MethodName := ⟨RX0, "readersOf", "(II)I"⟩
abbrev cX0_readingCount : ByteArray := prog_2_method_15_code
def yX0_readingCount : MethodName := ⟨RX0, "readingCount", "()I"⟩
abbrev cX0_aheadCount : ByteArray := prog_2_method_16_code
def yX0_aheadCount : MethodName := ⟨RX0, "aheadCount", "()I"⟩
def RX1 : String := "PressSheets$Heaps"
def TX1 : u_T := fun k => match k with
  | 0 => ("PressSheets$Heaps", "kinds", "[[I", true)
  | 1 => ("PressSheets$Heaps", "printed", "[I", true)
  | 2 => ("PressSheets$Heaps", "seenKinds", "[[I", true)
  | _ => ("PressSheets$Heaps", "heapSize", "I", false)
def tyX1 : Nat → FieldType := fun k => match k with
  | 0 => .array (.array .int)
  | 1 => .array .int
  | 2 => .array (.array .int)
  | _ => .int
theorem nmX1 : ∀ a, a < 4 → ∀ b, b < 4 → a ≠ b → (TX1 a).2.1 ≠ (TX1 b).2.1 := by decide +kernel
theorem tyX1_ok : ∀ k, k < 4 → parseFieldDescriptor (TX1 k).2.2.1 = some (tyX1 k) := by decide +kernel
abbrev cX1_init : ByteArray := prog_3_method_1_code
def yX1_init : MethodName := ⟨RX1, "<init>", "()V"⟩
abbrev cX1_addSheet : ByteArray := prog_3_method_2_code
def yX1_addSheet : MethodName := ⟨RX1, "addSheet", "(II)I"⟩
abbrev cX1_putSize : ByteArray := prog_3_method_3_code
def yX1_putSize : MethodName := ⟨RX1, "putSize", "(I)I"⟩
abbrev cX1_putSeen : ByteArray := prog_3_method_4_code
def yX1_putSeen : MethodName := ⟨RX1, "putSeen", "(III)I"⟩
abbrev cX1_heapCount : ByteArray := prog_3_method_5_code
def yX1_heapCount : MethodName := ⟨RX1, "heapCount", "(I)I"⟩
abbrev cX1_heapEnd : ByteArray := prog_3_method_6_code
def yX1_heapEnd : MethodName := ⟨RX1, "heapEnd", "(II)I"⟩
abbrev cX1_kindIn : ByteArray := prog_3_method_7_code
def yX1_kindIn : MethodName := ⟨RX1, "kindIn", "(IIZ)I"⟩
abbrev cX1_mayBe : ByteArray := prog_3_method_8_code
def yX1_mayBe : MethodName := ⟨RX1, "mayBe", "(IIZ)Z"⟩
abbrev cX1_choices : ByteArray := prog_3_method_9_code
def yX1_choices : MethodName := ⟨RX1, "choices", "(II)I"⟩
abbrev cX1_turnings : ByteArray := prog_3_method_10_code
def yX1_turnings : MethodName := ⟨RX1, "turnings", "(I)I"⟩
abbrev cX1_countSheets : ByteArray := prog_3_method_11_code
def yX1_countSheets : MethodName := ⟨RX1, "countSheets", "()I"⟩
abbrev cX1_countSeen : ByteArray := prog_3_method_12_code
def yX1_countSeen : MethodName := ⟨RX1, "countSeen", "()I"⟩
def RX2 : String := "PressSheets$House"
def TX2 : u_T := fun k => match k with
  | 0 => ("PressSheets$House", "habits", "[[I", true)
  | 1 => ("PressSheets$House", "wordTimes", "[[I", true)
  | 2 => ("PressSheets$House", "men", "I", false)
  | 3 => ("PressSheets$House", "pages", "I", false)
  | 4 => ("PressSheets$House", "changeCost", "I", false)
  | 5 => ("PressSheets$House", "own", "[[I", true)
  | 6 => ("PressSheets$House", "upTo", "[[I", true)
  | 7 => ("PressSheets$House", "behind", "[[I", true)
  | 8 => ("PressSheets$House", "ways", "[[I", true)
  | 9 => ("PressSheets$House", "least", "I", false)
  | _ => ("PressSheets$House", "solved", "Z", false)
def tyX2 : Nat → FieldType := fun k => match k with
  | 0 => .array (.array .int)
  | 1 => .array (.array .int)
  | 2 => .int
  | 3 => .int
  | 4 => .int
  | 5 => .array (.array .int)
  | 6 => .array (.array .int)
  | 7 => .array (.array .int)
  | 8 => .array (.array .int)
  | 9 => .int
  | _ => .boolean
theorem nmX2 : ∀ a, a < 11 → ∀ b, b < 11 → a ≠ b → (TX2 a).2.1 ≠ (TX2 b).2.1 := by decide +kernel
theorem tyX2_ok : ∀ k, k < 11 → parseFieldDescriptor (TX2 k).2.2.1 = some (tyX2 k) := by decide +kernel
abbrev cX2_init : ByteArray := prog_4_method_1_code
def yX2_init : MethodName := ⟨RX2, "<init>", "()V"⟩
abbrev cX2_putHouse : ByteArray := prog_4_method_2_code
def yX2_putHouse : MethodName := ⟨RX2, "putHouse", "(II)I"⟩
abbrev cX2_putHabit : ByteArray := prog_4_method_3_code
def yX2_putHabit : MethodName := ⟨RX2, "putHabit", "(III)I"⟩
abbrev cX2_putTimes : ByteArray := prog_4_method_4_code
def yX2_putTimes : MethodName := ⟨RX2, "putTimes", "(IIII)I"⟩
abbrev cX2_putChange : ByteArray := prog_4_method_5_code
def yX2_putChange : MethodName := ⟨RX2, "putChange", "(I)I"⟩
abbrev cX2_wordsAgainst : ByteArray := prog_4_method_6_code
def yX2_wordsAgainst : MethodName := ⟨RX2, "wordsAgainst", "(II)I"⟩
abbrev cX2_bestCost : ByteArray := prog_4_method_7_code
def yX2_bestCost : MethodName := ⟨RX2, "bestCost", "()I"⟩
abbrev cX2_bestWays : ByteArray := prog_4_method_8_code
def yX2_bestWays : MethodName := ⟨RX2, "bestWays", "()I"⟩
abbrev cX2_bestMen : ByteArray := prog_4_method_9_code
def yX2_bestMen : MethodName := ⟨RX2, "bestMen", "(I)I"⟩
abbrev cX2_firstMan : ByteArray := prog_4_method_10_code
def yX2_firstMan : MethodName := ⟨RX2, "firstMan", "(I)I"⟩
abbrev cX2_isBest : ByteArray := prog_4_method_11_code
def yX2_isBest : MethodName := ⟨RX2, "isBest", "(II)Z"⟩
abbrev cX2_leastBestMan : ByteArray := prog_4_method_12_code
def yX2_leastBestMan : MethodName := ⟨RX2, "leastBestMan", "()I"⟩
abbrev cX2_nextMan : ByteArray := prog_4_method_13_code
def yX2_nextMan : MethodName := ⟨RX2, "nextMan", "(II)I"⟩
abbrev cX2_changeOf : ByteArray := prog_4_method_14_code
def yX2_changeOf : MethodName := ⟨RX2, "changeOf", "(II)I"⟩
abbrev cX2_costThrough : ByteArray := prog_4_method_15_code
def yX2_costThrough : MethodName := ⟨RX2, "costThrough", "(III)I"⟩
abbrev cX2_solve : ByteArray := prog_4_method_16_code
def yX2_solve : MethodName := ⟨RX2, "solve", "()V"⟩
abbrev cX2_costAhead : ByteArray := prog_4_method_17_code
def yX2_costAhead : MethodName := ⟨RX2, "costAhead", "(II)I"⟩
abbrev cX2_lookBehind : ByteArray := prog_4_method_18_code
def yX2_lookBehind : MethodName := ⟨RX2, "lookBehind", "(II)V"⟩
abbrev cX2_leastUpTo : ByteArray := prog_4_method_19_code
def yX2_leastUpTo : MethodName := ⟨RX2, "leastUpTo", "(I)I"⟩
def RX3 : String := "PressSheets$OrderFinder"
def TX3 : u_T := fun k => match k with
  | 0 => ("PressSheets$OrderFinder", "rests", "[I", true)
  | 1 => ("PressSheets$OrderFinder", "steps", "[I", true)
  | 2 => ("PressSheets$OrderFinder", "needs", "[I", true)
  | _ => ("PressSheets$OrderFinder", "states", "I", false)
def tyX3 : Nat → FieldType := fun k => match k with
  | 0 => .array .int
  | 1 => .array .int
  | 2 => .array .int
  | _ => .int
theorem nmX3 : ∀ a, a < 4 → ∀ b, b < 4 → a ≠ b → (TX3 a).2.1 ≠ (TX3 b).2.1 := by decide +kernel
theorem tyX3_ok : ∀ k, k < 4 → parseFieldDescriptor (TX3 k).2.2.1 = some (tyX3 k) := by decide +kernel
abbrev cX3_init : ByteArray := prog_5_method_1_code
def yX3_init : MethodName := ⟨RX3, "<init>", "()V"⟩
abbrev cX3_leastCost : ByteArray := prog_5_method_2_code
def yX3_leastCost : MethodName := ⟨RX3, "leastCost", "(LPressSheets$Forme;)I"⟩
abbrev cX3_leastWays : ByteArray := prog_5_method_3_code
def yX3_leastWays : MethodName := ⟨RX3, "leastWays", "(LPressSheets$Forme;)I"⟩
abbrev cX3_stateAt : ByteArray := prog_5_method_4_code
def yX3_stateAt : MethodName := ⟨RX3, "stateAt", "(LPressSheets$Forme;I)I"⟩
abbrev cX3_waysWith : ByteArray := prog_5_method_5_code
def yX3_waysWith : MethodName := ⟨RX3, "waysWith", "(LPressSheets$Forme;II)I"⟩
abbrev cX3_makeOrders : ByteArray := prog_5_method_6_code
def yX3_makeOrders : MethodName := ⟨RX3, "makeOrders", "(LPressSheets$Forme;)V"⟩
abbrev cX3_takeStates : ByteArray := prog_5_method_7_code
def yX3_takeStates : MethodName := ⟨RX3, "takeStates", "(LPressSheets$Forme;)V"⟩
abbrev cX3_findRests : ByteArray := prog_5_method_8_code
def yX3_findRests : MethodName := ⟨RX3, "findRests", "()I"⟩
abbrev cX3_restBehind : ByteArray := prog_5_method_9_code
def yX3_restBehind : MethodName := ⟨RX3, "restBehind", "(II)I"⟩
abbrev cX3_mayCome : ByteArray := prog_5_method_10_code
def yX3_mayCome : MethodName := ⟨RX3, "mayCome", "(II)Z"⟩
abbrev cX3_restThrough : ByteArray := prog_5_method_11_code
def yX3_restThrough : MethodName := ⟨RX3, "restThrough", "(III)I"⟩
abbrev cX3_join : ByteArray := prog_5_method_12_code
def yX3_join : MethodName := ⟨RX3, "join", "(II)I"⟩
abbrev cX3_walkFirst : ByteArray := prog_5_method_13_code
def yX3_walkFirst : MethodName := ⟨RX3, "walkFirst", "([II)V"⟩
abbrev cX3_leastNext : ByteArray := prog_5_method_14_code
def yX3_leastNext : MethodName := ⟨RX3, "leastNext", "(III)I"⟩
def RX4 : String := "PressSheets$Planner"
def TX4 : u_T := fun k => match k with
  | 0 => ("PressSheets$Planner", "fits", "[I", true)
  | 1 => ("PressSheets$Planner", "needs", "[I", true)
  | 2 => ("PressSheets$Planner", "ways", "[I", true)
  | 3 => ("PressSheets$Planner", "firstPlan", "[I", true)
  | 4 => ("PressSheets$Planner", "onDay", "[I", true)
  | 5 => ("PressSheets$Planner", "mostOnDay", "I", false)
  | _ => ("PressSheets$Planner", "plannedDays", "I", false)
def tyX4 : Nat → FieldType := fun k => match k with
  | 0 => .array .int
  | 1 => .array .int
  | 2 => .array .int
  | 3 => .array .int
  | 4 => .array .int
  | 5 => .int
  | _ => .int
theorem nmX4 : ∀ a, a < 7 → ∀ b, b < 7 → a ≠ b → (TX4 a).2.1 ≠ (TX4 b).2.1 := by decide +kernel
theorem tyX4_ok : ∀ k, k < 7 → parseFieldDescriptor (TX4 k).2.2.1 = some (tyX4 k) := by decide +kernel
abbrev cX4_init : ByteArray := prog_6_method_1_code
def yX4_init : MethodName := ⟨RX4, "<init>", "()V"⟩
abbrev cX4_forget : ByteArray := prog_6_method_2_code
def yX4_forget : MethodName := ⟨RX4, "forget", "()V"⟩
abbrev cX4_putPresses : ByteArray := prog_6_method_3_code
def yX4_putPresses : MethodName := ⟨RX4, "putPresses", "(I)I"⟩
abbrev cX4_planCount : ByteArray := prog_6_method_4_code
def yX4_planCount : MethodName := ⟨RX4, "planCount", "(LPressSheets$Type;II)I"⟩
abbrev cX4_weighSets : ByteArray := prog_6_method_5_code
def yX4_weighSets : MethodName := ⟨RX4, "weighSets", "(LPressSheets$Type;I)V"⟩
abbrev cX4_canLie : ByteArray := prog_6_method_6_code
def yX4_canLie : MethodName := ⟨RX4, "canLie", "(LPressSheets$Type;I)Z"⟩
abbrev cX4_formesAhead : ByteArray := prog_6_method_7_code
def yX4_formesAhead : MethodName := ⟨RX4, "formesAhead", "(LPressSheets$Type;I)I"⟩
abbrev cX4_addDay : ByteArray := prog_6_method_8_code
def yX4_addDay : MethodName := ⟨RX4, "addDay", "(I)V"⟩
abbrev cX4_dayInFirst : ByteArray := prog_6_method_9_code
def yX4_dayInFirst : MethodName := ⟨RX4, "dayInFirst", "(LPressSheets$Type;II)I"⟩
abbrev cX4_makeFirst : ByteArray := prog_6_method_10_code
def yX4_makeFirst : MethodName := ⟨RX4, "makeFirst", "(LPressSheets$Type;I)V"⟩
abbrev cX4_lay : ByteArray := prog_6_method_11_code
def yX4_lay : MethodName := ⟨RX4, "lay", "(LPressSheets$Planner;LPressSheets$Type;II)Z"⟩
abbrev cX4_hasRoom : ByteArray := prog_6_method_12_code
def yX4_hasRoom : MethodName := ⟨RX4, "hasRoom", "(LPressSheets$Type;II)Z"⟩
abbrev cX4_keepsTurn : ByteArray := prog_6_method_13_code
def yX4_keepsTurn : MethodName := ⟨RX4, "keepsTurn", "(LPressSheets$Type;II)Z"⟩
def RX5 : String := "PressSheets$SlipCounter"
def TX5 : u_T := fun k => match k with
  | 0 => ("PressSheets$SlipCounter", "alone", "[I", true)
  | 1 => ("PressSheets$SlipCounter", "parted", "[I", true)
  | 2 => ("PressSheets$SlipCounter", "readers", "[I", true)
  | _ => ("PressSheets$SlipCounter", "lettersHere", "I", false)
def tyX5 : Nat → FieldType := fun k => match k with
  | 0 => .array .int
  | 1 => .array .int
  | 2 => .array .int
  | _ => .int
theorem nmX5 : ∀ a, a < 4 → ∀ b, b < 4 → a ≠ b → (TX5 a).2.1 ≠ (TX5 b).2.1 := by decide +kernel
theorem tyX5_ok : ∀ k, k < 4 → parseFieldDescriptor (TX5 k).2.2.1 = some (tyX5 k) := by decide +kernel
abbrev cX5_init : ByteArray := prog_7_method_1_code
def yX5_init : MethodName := ⟨RX5, "<init>", "()V"⟩
abbrev cX5_fewestSlips : ByteArray := prog_7_method_2_code
def yX5_fewestSlips : MethodName := ⟨RX5, "fewestSlips", "(LPressSheets$Forme;I)I"⟩
abbrev cX5_countAlone : ByteArray := prog_7_method_3_code
def yX5_countAlone : MethodName := ⟨RX5, "countAlone", "(LPressSheets$Forme;I)V"⟩
abbrev cX5_takeReaders : ByteArray := prog_7_method_4_code
def yX5_takeReaders : MethodName := ⟨RX5, "takeReaders", "(LPressSheets$Forme;I)V"⟩
abbrev cX5_slipsAtPlace : ByteArray := prog_7_method_5_code
def yX5_slipsAtPlace : MethodName := ⟨RX5, "slipsAtPlace", "(I)I"⟩
abbrev cX5_allowOneMore : ByteArray := prog_7_method_6_code
def yX5_allowOneMore : MethodName := ⟨RX5, "allowOneMore", "(I)V"⟩
abbrev cX5_slipsWithOneMore : ByteArray := prog_7_method_7_code
def yX5_slipsWithOneMore : MethodName := ⟨RX5, "slipsWithOneMore", "(I)I"⟩
def RX6 : String := "PressSheets$Type"
def TX6 : u_T := fun k => match k with
  | 0 => ("PressSheets$Type", "pieces", "[[I", true)
  | 1 => ("PressSheets$Type", "sharing", "[I", true)
  | 2 => ("PressSheets$Type", "behind", "[I", true)
  | _ => ("PressSheets$Type", "toldOf", "I", false)
def tyX6 : Nat → FieldType := fun k => match k with
  | 0 => .array (.array .int)
  | 1 => .array .int
  | 2 => .array .int
  | _ => .int
theorem nmX6 : ∀ a, a < 4 → ∀ b, b < 4 → a ≠ b → (TX6 a).2.1 ≠ (TX6 b).2.1 := by decide +kernel
theorem tyX6_ok : ∀ k, k < 4 → parseFieldDescriptor (TX6 k).2.2.1 = some (tyX6 k) := by decide +kernel
abbrev cX6_init : ByteArray := prog_8_method_1_code
def yX6_init : MethodName := ⟨RX6, "<init>", "()V"⟩
abbrev cX6_putPiece : ByteArray := prog_8_method_2_code
def yX6_putPiece : MethodName := ⟨RX6, "putPiece", "(III)I"⟩
abbrev cX6_link : ByteArray := prog_8_method_3_code
def yX6_link : MethodName := ⟨RX6, "link", "()V"⟩
abbrev cX6_linkPiece : ByteArray := prog_8_method_4_code
def yX6_linkPiece : MethodName := ⟨RX6, "linkPiece", "([I)V"⟩
abbrev cX6_formesWith : ByteArray := prog_8_method_5_code
def yX6_formesWith : MethodName := ⟨RX6, "formesWith", "([II)I"⟩
abbrev cX6_reachOn : ByteArray := prog_8_method_6_code
def yX6_reachOn : MethodName := ⟨RX6, "reachOn", "()V"⟩
abbrev cX6_isTold : ByteArray := prog_8_method_7_code
def yX6_isTold : MethodName := ⟨RX6, "isTold", "(I)Z"⟩
abbrev cX6_ringSize : ByteArray := prog_8_method_8_code
def yX6_ringSize : MethodName := ⟨RX6, "ringSize", "()I"⟩
def RX7 : String := "PressSheets"
def TX7 : u_T := fun k => match k with
  | 0 => ("PressSheets", "formes", "[LPressSheets$Forme;", true)
  | 1 => ("PressSheets", "slipCounter", "LPressSheets$SlipCounter;", true)
  | 2 => ("PressSheets", "orderFinder", "LPressSheets$OrderFinder;", true)
  | 3 => ("PressSheets", "type", "LPressSheets$Type;", true)
  | 4 => ("PressSheets", "planner", "LPressSheets$Planner;", true)
  | 5 => ("PressSheets", "heaps", "LPressSheets$Heaps;", true)
  | _ => ("PressSheets", "workers", "LPressSheets$House;", true)
def tyX7 : Nat → FieldType := fun k => match k with
  | 0 => .array (.object "PressSheets$Forme")
  | 1 => .object "PressSheets$SlipCounter"
  | 2 => .object "PressSheets$OrderFinder"
  | 3 => .object "PressSheets$Type"
  | 4 => .object "PressSheets$Planner"
  | 5 => .object "PressSheets$Heaps"
  | _ => .object "PressSheets$House"
theorem nmX7 : ∀ a, a < 7 → ∀ b, b < 7 → a ≠ b → (TX7 a).2.1 ≠ (TX7 b).2.1 := by decide +kernel
theorem tyX7_ok : ∀ k, k < 7 → parseFieldDescriptor (TX7 k).2.2.1 = some (tyX7 k) := by decide +kernel
abbrev cX7_init : ByteArray := prog_1_method_1_code
def yX7_init : MethodName := ⟨RX7, "<init>", "()V"⟩
abbrev cX7_read : ByteArray := prog_1_method_2_code
def yX7_read : MethodName := ⟨RX7, "read", "(IIII)I"⟩
abbrev cX7_agree : ByteArray := prog_1_method_3_code
def yX7_agree : MethodName := ⟨RX7, "agree", "(III)I"⟩
abbrev cX7_states : ByteArray := prog_1_method_4_code
def yX7_states : MethodName := ⟨RX7, "states", "(I)I"⟩
abbrev cX7_state : ByteArray := prog_1_method_5_code
def yX7_state : MethodName := ⟨RX7, "state", "(II)I"⟩
abbrev cX7_letter : ByteArray := prog_1_method_6_code
def yX7_letter : MethodName := ⟨RX7, "letter", "(III)I"⟩
abbrev cX7_slips : ByteArray := prog_1_method_7_code
def yX7_slips : MethodName := ⟨RX7, "slips", "(II)I"⟩
abbrev cX7_ahead : ByteArray := prog_1_method_8_code
def yX7_ahead : MethodName := ⟨RX7, "ahead", "(IIIZ)I"⟩
abbrev cX7_changes : ByteArray := prog_1_method_9_code
def yX7_changes : MethodName := ⟨RX7, "changes", "(III)I"⟩
abbrev cX7_least : ByteArray := prog_1_method_10_code
def yX7_least : MethodName := ⟨RX7, "least", "(I)I"⟩
abbrev cX7_orders : ByteArray := prog_1_method_11_code
def yX7_orders : MethodName := ⟨RX7, "orders", "(I)I"⟩
abbrev cX7_first : ByteArray := prog_1_method_12_code
def yX7_first : MethodName := ⟨RX7, "first", "(II)I"⟩
abbrev cX7_before : ByteArray := prog_1_method_13_code
def yX7_before : MethodName := ⟨RX7, "before", "(III)I"⟩
abbrev cX7_piece : ByteArray := prog_1_method_14_code
def yX7_piece : MethodName := ⟨RX7, "piece", "(III)I"⟩
abbrev cX7_share : ByteArray := prog_1_method_15_code
def yX7_share : MethodName := ⟨RX7, "share", "(II)I"⟩
abbrev cX7_must : ByteArray := prog_1_method_16_code
def yX7_must : MethodName := ⟨RX7, "must", "(II)I"⟩
abbrev cX7_ring : ByteArray := prog_1_method_17_code
def yX7_ring : MethodName := ⟨RX7, "ring", "()I"⟩
abbrev cX7_presses : ByteArray := prog_1_method_18_code
def yX7_presses : MethodName := ⟨RX7, "presses", "(I)I"⟩
abbrev cX7_plans : ByteArray := prog_1_method_19_code
def yX7_plans : MethodName := ⟨RX7, "plans", "(I)I"⟩
abbrev cX7_day : ByteArray := prog_1_method_20_code
def yX7_day : MethodName := ⟨RX7, "day", "(II)I"⟩
abbrev cX7_beside : ByteArray := prog_1_method_21_code
def yX7_beside : MethodName := ⟨RX7, "beside", "(III)I"⟩
abbrev cX7_fewest : ByteArray := prog_1_method_22_code
def yX7_fewest : MethodName := ⟨RX7, "fewest", "()I"⟩
abbrev cX7_sheet : ByteArray := prog_1_method_23_code
def yX7_sheet : MethodName := ⟨RX7, "sheet", "(II)I"⟩
abbrev cX7_size : ByteArray := prog_1_method_24_code
def yX7_size : MethodName := ⟨RX7, "size", "(I)I"⟩
abbrev cX7_seen : ByteArray := prog_1_method_25_code
def yX7_seen : MethodName := ⟨RX7, "seen", "(III)I"⟩
abbrev cX7_turns : ByteArray := prog_1_method_26_code
def yX7_turns : MethodName := ⟨RX7, "turns", "(I)I"⟩
abbrev cX7_turned : ByteArray := prog_1_method_27_code
def yX7_turned : MethodName := ⟨RX7, "turned", "(II)I"⟩
abbrev cX7_bound : ByteArray := prog_1_method_28_code
def yX7_bound : MethodName := ⟨RX7, "bound", "(IIZ)I"⟩
abbrev cX7_house : ByteArray := prog_1_method_29_code
def yX7_house : MethodName := ⟨RX7, "house", "(II)I"⟩
abbrev cX7_habit : ByteArray := prog_1_method_30_code
def yX7_habit : MethodName := ⟨RX7, "habit", "(III)I"⟩
abbrev cX7_spell : ByteArray := prog_1_method_31_code
def yX7_spell : MethodName := ⟨RX7, "spell", "(IIII)I"⟩
abbrev cX7_change : ByteArray := prog_1_method_32_code
def yX7_change : MethodName := ⟨RX7, "change", "(I)I"⟩
abbrev cX7_against : ByteArray := prog_1_method_33_code
def yX7_against : MethodName := ⟨RX7, "against", "(II)I"⟩
abbrev cX7_setting : ByteArray := prog_1_method_34_code
def yX7_setting : MethodName := ⟨RX7, "setting", "()I"⟩
abbrev cX7_who : ByteArray := prog_1_method_35_code
def yX7_who : MethodName := ⟨RX7, "who", "(I)I"⟩
abbrev cX7_sure : ByteArray := prog_1_method_36_code
def yX7_sure : MethodName := ⟨RX7, "sure", "(I)I"⟩
abbrev cX7_settings : ByteArray := prog_1_method_37_code
def yX7_settings : MethodName := ⟨RX7, "settings", "()I"⟩
abbrev cX7_count : ByteArray := prog_1_method_38_code
def yX7_count : MethodName := ⟨RX7, "count", "(I)I"⟩
abbrev cX7_countReadings : ByteArray := prog_1_method_39_code
def yX7_countReadings : MethodName := ⟨RX7, "countReadings", "()I"⟩
abbrev cX7_countAhead : ByteArray := prog_1_method_40_code
def yX7_countAhead : MethodName := ⟨RX7, "countAhead", "()I"⟩
abbrev cX7_within : ByteArray := prog_1_method_41_code
def yX7_within : MethodName := ⟨RX7, "within", "(II)Z"⟩
abbrev cX7_isCopy : ByteArray := prog_1_method_42_code
def yX7_isCopy : MethodName := ⟨RX7, "isCopy", "(I)Z"⟩
abbrev cX7_isForme : ByteArray := prog_1_method_43_code
def yX7_isForme : MethodName := ⟨RX7, "isForme", "(I)Z"⟩
abbrev cX7_isDays : ByteArray := prog_1_method_44_code
def yX7_isDays : MethodName := ⟨RX7, "isDays", "(I)Z"⟩
abbrev cX7_isState : ByteArray := prog_1_method_45_code
def yX7_isState : MethodName := ⟨RX7, "isState", "(II)Z"⟩
abbrev cX7_grouped : ByteArray := prog_1_method_46_code
def yX7_grouped : MethodName := ⟨RX7, "grouped", "(I)LPressSheets$Forme;"⟩
abbrev cX7_isMan : ByteArray := prog_1_method_47_code
def yX7_isMan : MethodName := ⟨RX7, "isMan", "(I)Z"⟩
abbrev cX7_isPage : ByteArray := prog_1_method_48_code
def yX7_isPage : MethodName := ⟨RX7, "isPage", "(I)Z"⟩
def RX8 : String := "PressSheetsModel"
def TX8 : u_T := fun k => match k with
  | 0 => ("PressSheetsModel", "letters", "[I", true)
  | 1 => ("PressSheetsModel", "states", "I", false)
  | 2 => ("PressSheetsModel", "stateOf", "[I", true)
  | 3 => ("PressSheetsModel", "copies", "[I", true)
  | 4 => ("PressSheetsModel", "one", "[I", true)
  | 5 => ("PressSheetsModel", "some", "[I", true)
  | 6 => ("PressSheetsModel", "more", "[I", true)
  | 7 => ("PressSheetsModel", "isAhead", "[Z", true)
  | 8 => ("PressSheetsModel", "needs", "[I", true)
  | 9 => ("PressSheetsModel", "changes", "[I", true)
  | 10 => ("PressSheetsModel", "cost", "[I", true)
  | 11 => ("PressSheetsModel", "ways", "[I", true)
  | 12 => ("PressSheetsModel", "pieces", "[I", true)
  | 13 => ("PressSheetsModel", "presses", "I", false)
  | 14 => ("PressSheetsModel", "musts", "[I", true)
  | 15 => ("PressSheetsModel", "dayOf", "[I", true)
  | 16 => ("PressSheetsModel", "firstDay", "[I", true)
  | 17 => ("PressSheetsModel", "sheets", "[I", true)
  | 18 => ("PressSheetsModel", "kinds", "[I", true)
  | 19 => ("PressSheetsModel", "seen", "[I", true)
  | 20 => ("PressSheetsModel", "heapSize", "I", false)
  | 21 => ("PressSheetsModel", "men", "I", false)
  | 22 => ("PressSheetsModel", "pages", "I", false)
  | 23 => ("PressSheetsModel", "habits", "[I", true)
  | 24 => ("PressSheetsModel", "times", "[I", true)
  | 25 => ("PressSheetsModel", "change", "I", false)
  | 26 => ("PressSheetsModel", "rest", "[I", true)
  | 27 => ("PressSheetsModel", "restWays", "[I", true)
  | _ => ("PressSheetsModel", "gone", "[I", true)
def tyX8 : Nat → FieldType := fun k => match k with
  | 0 => .array .int
  | 1 => .int
  | 2 => .array .int
  | 3 => .array .int
  | 4 => .array .int
  | 5 => .array .int
  | 6 => .array .int
  | 7 => .array .boolean
  | 8 => .array .int
  | 9 => .array .int
  | 10 => .array .int
  | 11 => .array .int
  | 12 => .array .int
  | 13 => .int
  | 14 => .array .int
  | 15 => .array .int
  | 16 => .array .int
  | 17 => .array .int
  | 18 => .array .int
  | 19 => .array .int
  | 20 => .int
  | 21 => .int
  | 22 => .int
  | 23 => .array .int
  | 24 => .array .int
  | 25 => .int
  | 26 => .array .int
  | 27 => .array .int
  | _ => .array .int
theorem nmX8 : ∀ a, a < 29 → ∀ b, b < 29 → a ≠ b → (TX8 a).2.1 ≠ (TX8 b).2.1 := by decide +kernel
theorem tyX8_ok : ∀ k, k < 29 → parseFieldDescriptor (TX8 k).2.2.1 = some (tyX8 k) := by decide +kernel
abbrev cX8_init : ByteArray := prog_10_method_1_code
def yX8_init : MethodName := ⟨RX8, "<init>", "()V"⟩
abbrev cX8_in : ByteArray := prog_10_method_3_code
def yX8_in : MethodName := ⟨RX8, "in", "(JJJ)Z"⟩
abbrev cX8_isForme : ByteArray := prog_10_method_4_code
def yX8_isForme : MethodName := ⟨RX8, "isForme", "(I)Z"⟩
abbrev cX8_isCopy : ByteArray := prog_10_method_5_code
def yX8_isCopy : MethodName := ⟨RX8, "isCopy", "(I)Z"⟩
abbrev cX8_letterAt : ByteArray := prog_10_method_6_code
def yX8_letterAt : MethodName := ⟨RX8, "letterAt", "(III)I"⟩
abbrev cX8_read : ByteArray := prog_10_method_7_code
def yX8_read : MethodName := ⟨RX8, "read", "(IIII)I"⟩
abbrev cX8_isLooked : ByteArray := prog_10_method_8_code
def yX8_isLooked : MethodName := ⟨RX8, "isLooked", "(II)Z"⟩
abbrev cX8_agrees : ByteArray := prog_10_method_9_code
def yX8_agrees : MethodName := ⟨RX8, "agrees", "(III)Z"⟩
abbrev cX8_agree : ByteArray := prog_10_method_10_code
def yX8_agree : MethodName := ⟨RX8, "agree", "(III)I"⟩
abbrev cX8_joins : ByteArray := prog_10_method_11_code
def yX8_joins : MethodName := ⟨RX8, "joins", "(III)Z"⟩
abbrev cX8_layGroups : ByteArray := prog_10_method_12_code
def yX8_layGroups : MethodName := ⟨RX8, "layGroups", "(III)Z"⟩
abbrev cX8_layStates : ByteArray := prog_10_method_13_code
def yX8_layStates : MethodName := ⟨RX8, "layStates", "(I)V"⟩
abbrev cX8_states : ByteArray := prog_10_method_14_code
def yX8_states : MethodName := ⟨RX8, "states", "(I)I"⟩
abbrev cX8_state : ByteArray := prog_10_method_15_code
def yX8_state : MethodName := ⟨RX8, "state", "(II)I"⟩
abbrev cX8_letterOf : ByteArray := prog_10_method_16_code
def yX8_letterOf : MethodName := ⟨RX8, "letterOf", "(III)I"⟩
abbrev cX8_letter : ByteArray := prog_10_method_17_code
def yX8_letter : MethodName := ⟨RX8, "letter", "(III)I"⟩
abbrev cX8_slipsOf : ByteArray := prog_10_method_18_code
def yX8_slipsOf : MethodName := ⟨RX8, "slipsOf", "(II)I"⟩
abbrev cX8_slips : ByteArray := prog_10_method_19_code
def yX8_slips : MethodName := ⟨RX8, "slips", "(II)I"⟩
abbrev cX8_ahead : ByteArray := prog_10_method_20_code
def yX8_ahead : MethodName := ⟨RX8, "ahead", "(IIIZ)I"⟩
abbrev cX8_changesOf : ByteArray := prog_10_method_21_code
def yX8_changesOf : MethodName := ⟨RX8, "changesOf", "(III)I"⟩
abbrev cX8_changes : ByteArray := prog_10_method_22_code
def yX8_changes : MethodName := ⟨RX8, "changes", "(III)I"⟩
abbrev cX8_layNeeds : ByteArray := prog_10_method_23_code
def yX8_layNeeds : MethodName := ⟨RX8, "layNeeds", "(I)V"⟩
abbrev cX8_layOrders : ByteArray := prog_10_method_24_code
def yX8_layOrders : MethodName := ⟨RX8, "layOrders", "()V"⟩
abbrev cX8_leastCost : ByteArray := prog_10_method_25_code
def yX8_leastCost : MethodName := ⟨RX8, "leastCost", "()I"⟩
abbrev cX8_waysOf : ByteArray := prog_10_method_26_code
def yX8_waysOf : MethodName := ⟨RX8, "waysOf", "(I)I"⟩
abbrev cX8_least : ByteArray := prog_10_method_27_code
def yX8_least : MethodName := ⟨RX8, "least", "(I)I"⟩
abbrev cX8_orders : ByteArray := prog_10_method_28_code
def yX8_orders : MethodName := ⟨RX8, "orders", "(I)I"⟩
abbrev cX8_first : ByteArray := prog_10_method_29_code
def yX8_first : MethodName := ⟨RX8, "first", "(II)I"⟩
abbrev cX8_isNext : ByteArray := prog_10_method_30_code
def yX8_isNext : MethodName := ⟨RX8, "isNext", "(III)Z"⟩
abbrev cX8_before : ByteArray := prog_10_method_31_code
def yX8_before : MethodName := ⟨RX8, "before", "(III)I"⟩
abbrev cX8_piece : ByteArray := prog_10_method_32_code
def yX8_piece : MethodName := ⟨RX8, "piece", "(III)I"⟩
abbrev cX8_shares : ByteArray := prog_10_method_33_code
def yX8_shares : MethodName := ⟨RX8, "shares", "(II)Z"⟩
abbrev cX8_share : ByteArray := prog_10_method_34_code
def yX8_share : MethodName := ⟨RX8, "share", "(II)I"⟩
abbrev cX8_layMusts : ByteArray := prog_10_method_35_code
def yX8_layMusts : MethodName := ⟨RX8, "layMusts", "()V"⟩
abbrev cX8_must : ByteArray := prog_10_method_36_code
def yX8_must : MethodName := ⟨RX8, "must", "(II)I"⟩
abbrev cX8_ring : ByteArray := prog_10_method_37_code
def yX8_ring : MethodName := ⟨RX8, "ring", "()I"⟩
abbrev cX8_presses : ByteArray := prog_10_method_38_code
def yX8_presses : MethodName := ⟨RX8, "presses", "(I)I"⟩
abbrev cX8_isPlan : ByteArray := prog_10_method_39_code
def yX8_isPlan : MethodName := ⟨RX8, "isPlan", "()Z"⟩
abbrev cX8_layPlans : ByteArray := prog_10_method_40_code
def yX8_layPlans : MethodName := ⟨RX8, "layPlans", "(III)I"⟩
abbrev cX8_plans : ByteArray := prog_10_method_41_code
def yX8_plans : MethodName := ⟨RX8, "plans", "(I)I"⟩
abbrev cX8_day : ByteArray := prog_10_method_42_code
def yX8_day : MethodName := ⟨RX8, "day", "(II)I"⟩
abbrev cX8_beside : ByteArray := prog_10_method_43_code
def yX8_beside : MethodName := ⟨RX8, "beside", "(III)I"⟩
abbrev cX8_fewest : ByteArray := prog_10_method_44_code
def yX8_fewest : MethodName := ⟨RX8, "fewest", "()I"⟩
abbrev cX8_sheet : ByteArray := prog_10_method_45_code
def yX8_sheet : MethodName := ⟨RX8, "sheet", "(II)I"⟩
abbrev cX8_size : ByteArray := prog_10_method_46_code
def yX8_size : MethodName := ⟨RX8, "size", "(I)I"⟩
abbrev cX8_seen : ByteArray := prog_10_method_47_code
def yX8_seen : MethodName := ⟨RX8, "seen", "(III)I"⟩
abbrev cX8_heaps : ByteArray := prog_10_method_48_code
def yX8_heaps : MethodName := ⟨RX8, "heaps", "(I)I"⟩
abbrev cX8_heapEnd : ByteArray := prog_10_method_49_code
def yX8_heapEnd : MethodName := ⟨RX8, "heapEnd", "(II)I"⟩
abbrev cX8_kindIn : ByteArray := prog_10_method_50_code
def yX8_kindIn : MethodName := ⟨RX8, "kindIn", "(IIZ)I"⟩
abbrev cX8_mayBe : ByteArray := prog_10_method_51_code
def yX8_mayBe : MethodName := ⟨RX8, "mayBe", "(IIZ)Z"⟩
abbrev cX8_turns : ByteArray := prog_10_method_52_code
def yX8_turns : MethodName := ⟨RX8, "turns", "(I)I"⟩
abbrev cX8_turned : ByteArray := prog_10_method_53_code
def yX8_turned : MethodName := ⟨RX8, "turned", "(II)I"⟩
abbrev cX8_bound : ByteArray := prog_10_method_54_code
def yX8_bound : MethodName := ⟨RX8, "bound", "(IIZ)I"⟩
abbrev cX8_house : ByteArray := prog_10_method_55_code
def yX8_house : MethodName := ⟨RX8, "house", "(II)I"⟩
abbrev cX8_isMan : ByteArray := prog_10_method_56_code
def yX8_isMan : MethodName := ⟨RX8, "isMan", "(I)Z"⟩
abbrev cX8_isPage : ByteArray := prog_10_method_57_code
def yX8_isPage : MethodName := ⟨RX8, "isPage", "(I)Z"⟩
abbrev cX8_habit : ByteArray := prog_10_method_58_code
def yX8_habit : MethodName := ⟨RX8, "habit", "(III)I"⟩
abbrev cX8_spell : ByteArray := prog_10_method_59_code
def yX8_spell : MethodName := ⟨RX8, "spell", "(IIII)I"⟩
abbrev cX8_change : ByteArray := prog_10_method_60_code
def yX8_change : MethodName := ⟨RX8, "change", "(I)I"⟩
abbrev cX8_againstOf : ByteArray := prog_10_method_61_code
def yX8_againstOf : MethodName := ⟨RX8, "againstOf", "(II)I"⟩
abbrev cX8_against : ByteArray := prog_10_method_62_code
def yX8_against : MethodName := ⟨RX8, "against", "(II)I"⟩
abbrev cX8_layRest : ByteArray := prog_10_method_63_code
def yX8_layRest : MethodName := ⟨RX8, "layRest", "()V"⟩
abbrev cX8_best : ByteArray := prog_10_method_64_code
def yX8_best : MethodName := ⟨RX8, "best", "()I"⟩
abbrev cX8_setting : ByteArray := prog_10_method_65_code
def yX8_setting : MethodName := ⟨RX8, "setting", "()I"⟩
abbrev cX8_who : ByteArray := prog_10_method_66_code
def yX8_who : MethodName := ⟨RX8, "who", "(I)I"⟩
abbrev cX8_layGone : ByteArray := prog_10_method_67_code
def yX8_layGone : MethodName := ⟨RX8, "layGone", "()V"⟩
abbrev cX8_sure : ByteArray := prog_10_method_68_code
def yX8_sure : MethodName := ⟨RX8, "sure", "(I)I"⟩
abbrev cX8_settings : ByteArray := prog_10_method_69_code
def yX8_settings : MethodName := ⟨RX8, "settings", "()I"⟩
abbrev cX8_count : ByteArray := prog_10_method_70_code
def yX8_count : MethodName := ⟨RX8, "count", "(I)I"⟩
def RJ6 : String := "java/lang/Integer"
def TJ6 : u_T := fun k => match k with
  | _ => ("", "", "", false)
def tyJ6 : Nat → FieldType := fun k => match k with
  | _ => .int
theorem nmJ6 : ∀ a, a < 0 → ∀ b, b < 0 → a ≠ b → (TJ6 a).2.1 ≠ (TJ6 b).2.1 := by decide +kernel
theorem tyJ6_ok : ∀ k, k < 0 → parseFieldDescriptor (TJ6 k).2.2.1 = some (tyJ6 k) := by decide +kernel
abbrev cJ6_bitCount_0f7a4 : ByteArray := prog_11_method_49_code
def yJ6_bitCount_0f7a4 : MethodName := ⟨RJ6, "bitCount", "(I)I"⟩
def RJ9 : String := "java/lang/Math"
def TJ9 : u_T := fun k => match k with
  | _ => ("", "", "", false)
def tyJ9 : Nat → FieldType := fun k => match k with
  | _ => .int
theorem nmJ9 : ∀ a, a < 0 → ∀ b, b < 0 → a ≠ b → (TJ9 a).2.1 ≠ (TJ9 b).2.1 := by decide +kernel
theorem tyJ9_ok : ∀ k, k < 0 → parseFieldDescriptor (TJ9 k).2.2.1 = some (tyJ9 k) := by decide +kernel
abbrev cJ9_max_7cf53 : ByteArray := prog_12_method_65_code
def yJ9_max_7cf53 : MethodName := ⟨RJ9, "max", "(II)I"⟩
abbrev cJ9_min_7cf53 : ByteArray := prog_12_method_69_code
def yJ9_min_7cf53 : MethodName := ⟨RJ9, "min", "(II)I"⟩
def RJ10 : String := "java/lang/System"
def TJ10 : u_T := fun k => match k with
  | _ => ("", "", "", false)
def tyJ10 : Nat → FieldType := fun k => match k with
  | _ => .int
theorem nmJ10 : ∀ a, a < 0 → ∀ b, b < 0 → a ≠ b → (TJ10 a).2.1 ≠ (TJ10 b).2.1 := by decide +kernel
theorem tyJ10_ok : ∀ k, k < 0 → parseFieldDescriptor (TJ10 k).2.2.1 = some (tyJ10 k) := by decide +kernel
def RJ7 : String := "java/util/Arrays"
def TJ7 : u_T := fun k => match k with
  | _ => ("", "", "", false)
def tyJ7 : Nat → FieldType := fun k => match k with
  | _ => .int
theorem nmJ7 : ∀ a, a < 0 → ∀ b, b < 0 → a ≠ b → (TJ7 a).2.1 ≠ (TJ7 b).2.1 := by decide +kernel
theorem tyJ7_ok : ∀ k, k < 0 → parseFieldDescriptor (TJ7 k).2.2.1 = some (tyJ7 k) := by decide +kernel
abbrev cJ7_fill_53178 : ByteArray := prog_14_method_103_code
def yJ7_fill_53178 : MethodName := ⟨RJ7, "fill", "([II)V"⟩
def RL : String := "PressSheetsLaw"
end
section
/-! ===== the machine as this proof sees it: values, families of cells, memory =====
A value is an int, a long, or a cell (family, number). A family is a kind of cell of the two objects (the class's and the reference's): how many there are, and either an object
(its class's number, its fields: none is an int, some g the cell of family g of the same number) or an array (its type's number, its length; of ints, or of the cells of family g). No cell is made behind the constructors,
and no reference is ever written there: so a memory is a function from family, number and place to an int. -/
abbrev ps_V : Type := Int32 ⊕ (Int64 ⊕ (Nat × Nat))
abbrev ps_S : Type := Nat → Nat → Nat → Int32
abbrev ps_Sh : Type := Nat × ((Nat × List (Option Nat)) ⊕ (Nat × Nat × Option Nat))
def ps_fams : List ps_Sh := [
  (0, .inr (0, 0, none)),
  (1, .inl (7, [some 2, some 11, some 15, some 19, some 24, some 30, some 36])),
  (1, .inr (3, 6, some 3)),
  (6, .inl (0, [some 4, some 6, some 7, some 8, some 9, none, none, none, some 10, none, none, none])),
  (6, .inr (2, 9, some 5)),
  (54, .inr (0, 6, none)),
  (6, .inr (0, 9, none)),
  (6, .inr (0, 9, none)),
  (6, .inr (0, 9, none)),
  (6, .inr (0, 9, none)),
  (6, .inr (0, 9, none)),
  (1, .inl (5, [some 12, some 13, some 14, none])),
  (1, .inr (0, 512, none)),
  (1, .inr (0, 512, none)),
  (1, .inr (0, 10, none)),
  (1, .inl (3, [some 16, some 17, some 18, none])),
  (1, .inr (0, 4608, none)),
  (1, .inr (0, 81, none)),
  (1, .inr (0, 9, none)),
  (1, .inl (6, [some 20, some 22, some 23, none])),
  (1, .inr (2, 16, some 21)),
  (16, .inr (0, 6, none)),
  (1, .inr (0, 6, none)),
  (1, .inr (0, 6, none)),
  (1, .inl (4, [some 25, some 26, some 27, some 28, some 29, none, none])),
  (1, .inr (0, 64, none)),
  (1, .inr (0, 64, none)),
  (1, .inr (0, 64, none)),
  (1, .inr (0, 6, none)),
  (1, .inr (0, 6, none)),
  (1, .inl (1, [some 31, some 33, some 34, none])),
  (1, .inr (2, 6, some 32)),
  (6, .inr (0, 12, none)),
  (1, .inr (0, 6, none)),
  (1, .inr (2, 6, some 35)),
  (6, .inr (0, 12, none)),
  (1, .inl (2, [some 37, some 39, none, none, none, some 41, some 43, some 45, some 47, none, none])),
  (1, .inr (2, 4, some 38)),
  (4, .inr (0, 6, none)),
  (1, .inr (2, 12, some 40)),
  (12, .inr (0, 12, none)),
  (1, .inr (2, 12, some 42)),
  (12, .inr (0, 4, none)),
  (1, .inr (2, 12, some 44)),
  (12, .inr (0, 4, none)),
  (1, .inr (2, 12, some 46)),
  (12, .inr (0, 4, none)),
  (1, .inr (2, 12, some 48)),
  (12, .inr (0, 4, none)),
  (0, .inr (0, 0, none)),
  (1, .inl (8, [some 51, none, some 53, some 54, some 55, some 56, some 57, some 58, some 59, some 60, some 61, some 62, some 63, none, some 65, some 66, some 67, some 68, some 69, some 70, none, none, none, some 74, some 75, none, some 77, some 78, some 79])),
  (1, .inr (0, 324, none)),
  (0, .inr (0, 0, none)),
  (1, .inr (0, 9, none)),
  (1, .inr (0, 9, none)),
  (1, .inr (0, 512, none)),
  (1, .inr (0, 512, none)),
  (1, .inr (0, 512, none)),
  (1, .inr (1, 486, none)),
  (1, .inr (0, 9, none)),
  (1, .inr (0, 81, none)),
  (1, .inr (0, 4608, none)),
  (1, .inr (0, 4608, none)),
  (1, .inr (0, 96, none)),
  (0, .inr (0, 0, none)),
  (1, .inr (0, 6, none)),
  (1, .inr (0, 6, none)),
  (1, .inr (0, 6, none)),
  (1, .inr (0, 6, none)),
  (1, .inr (0, 72, none)),
  (1, .inr (0, 72, none)),
  (0, .inr (0, 0, none)),
  (0, .inr (0, 0, none)),
  (0, .inr (0, 0, none)),
  (1, .inr (0, 24, none)),
  (1, .inr (0, 144, none)),
  (0, .inr (0, 0, none)),
  (1, .inr (0, 52, none)),
  (1, .inr (0, 52, none)),
  (1, .inr (0, 48, none))]
def ps_sh (f : Nat) : ps_Sh := ps_fams.getD f (0, .inr (0, 0, none))
def ps_cnt (f : Nat) : Nat := (ps_sh f).1
/-- addresses of the cells; the classes' numbers and slots; the array classes' numbers (0 int[], 1 boolean[], 2 int[][], 3 Forme[]) -/
abbrev ps_G : Type := (Nat → Nat → Nat) × va_G × (Nat → ClassId)
def ps_cv (G : ps_G) (v : ps_V) : Value := match v with
  | .inl x => .int x
  | .inr (.inl x) => .long x
  | .inr (.inr q) => .ref (G.1 q.1 q.2)
def ps_ok (v : ps_V) : Prop := match v with
  | .inr (.inr q) => q.2 < ps_cnt q.1 ∨ q.1 = 0
  | _ => True
def ps_fld (G : ps_G) (g : Nat → Int32) (k : Nat) : Nat → Option Nat → Value := fun j t => match t with
  | none => .int (g j)
  | some f' => .ref (G.1 f' k)
def ps_E (G : ps_G) (q : Nat × Nat) (g : Nat → Int32) : va_E := match (ps_sh q.1).2 with
  | .inl (ci, fs) => .inr (ci, fs.mapIdx (ps_fld G g q.2))
  | .inr (ay, n, none) => .inl (G.2.2 ay, n, .inl g)
  | .inr (ay, n, some f') => .inl (G.2.2 ay, n, .inr (.inr (.inr (.inr (fun j => if j < n then some (G.1 f' (n * q.2 + j)) else none)))))
def ps_cells : List (Nat × Nat) := (List.range ps_fams.length).flatMap fun f => (List.range (ps_cnt f)).map fun k => (f, k)
def ps_ws (G : ps_G) (σ : ps_S) : va_W := ps_cells.map fun q => (G.1 q.1 q.2, ps_E G q (σ q.1 q.2))
def ps_up (σ : ps_S) (f k j : Nat) (x : Int32) : ps_S := fun f' k' j' => if f' = f ∧ k' = k ∧ j' = j then x else σ f' k' j'
def ps_A (G : ps_G) : Nat → Prop := fun a => ∃ q ∈ ps_cells, a = G.1 q.1 q.2
abbrev ps_cls : List vw_C := [(RX0, TX0, 12), (RX1, TX1, 4), (RX2, TX2, 11), (RX3, TX3, 4), (RX4, TX4, 7), (RX5, TX5, 4), (RX6, TX6, 4), (RX7, TX7, 7), (RX8, TX8, 29)]
def ps_tys (G : ps_G) : List (ClassId × FieldType) := [(G.2.2 0, .int), (G.2.2 1, .boolean), (G.2.2 2, .array .int), (G.2.2 3, .object "PressSheets$Forme")]
theorem ps_mem {f k : Nat} (h : k < ps_cnt f) : (f, k) ∈ ps_cells := by
  refine List.mem_flatMap.mpr ⟨f, List.mem_range.mpr ?_, List.mem_map.mpr ⟨k, List.mem_range.mpr h, rfl⟩⟩
  rcases Nat.lt_or_ge f ps_fams.length with q | q
  · exact q
  · exfalso
    have e : ps_cnt f = 0 := by
      unfold ps_cnt ps_sh
      simp [List.getD, List.getElem?_eq_none q]
    omega
theorem ps_mem_iff {f k : Nat} (h : (f, k) ∈ ps_cells) : k < ps_cnt f := by
  obtain ⟨f', -, h2⟩ := List.mem_flatMap.mp h
  obtain ⟨k', h3, h4⟩ := List.mem_map.mp h2
  cases h4
  exact List.mem_range.mp h3
set_option maxRecDepth 100000 in
theorem ps_nodup : ps_cells.Nodup := by decide +kernel
theorem ps_idx {f k : Nat} (h : k < ps_cnt f) : ∃ i : Nat, ps_cells[i]? = some (f, k) := List.getElem?_of_mem (ps_mem h)
theorem ps_ws_at {G : ps_G} {σ : ps_S} {i : Nat} {q : Nat × Nat} (h : ps_cells[i]? = some q) : (ps_ws G σ)[i]? = some (G.1 q.1 q.2, ps_E G q (σ q.1 q.2)) := by
  unfold ps_ws
  rw [List.getElem?_map, h]
  rfl
theorem ps_up_ne {σ : ps_S} {f k j f' k' : Nat} {x : Int32} (h : ¬ (f' = f ∧ k' = k)) : ps_up σ f k j x f' k' = σ f' k' := by
  funext j'
  unfold ps_up
  rw [if_neg (fun q => h ⟨q.1, q.2.1⟩)]
theorem ps_up_eq {σ : ps_S} {f k j : Nat} {x : Int32} : ps_up σ f k j x f k = upd (σ f k) j x := by
  funext j'
  unfold ps_up upd
  by_cases e : j' = j
  · rw [if_pos e, if_pos ⟨rfl, rfl, e⟩]
  · rw [if_neg e, if_neg (fun q => e q.2.2)]
theorem ps_ws_set {G : ps_G} {σ : ps_S} {i f k j : Nat} {x : Int32} {e : va_E} (h : ps_cells[i]? = some (f, k)) (he : e = ps_E G (f, k) (upd (σ f k) j x)) : (ps_ws G σ).set i (G.1 f k, e) = ps_ws G (ps_up σ f k j x) := by
  apply List.ext_getElem?
  intro i'
  by_cases hi : i' = i
  · subst hi
    rw [ps_ws_at h, ps_up_eq, ← he]
    have hl : i' < (ps_ws G σ).length := by
      unfold ps_ws
      rw [List.length_map]
      exact (List.getElem?_eq_some_iff.mp h).1
    rw [List.getElem?_set_self hl]
  · rw [List.getElem?_set_ne (fun q => hi q.symm)]
    unfold ps_ws
    rw [List.getElem?_map, List.getElem?_map]
    cases hq : ps_cells[i']? with
    | none => rfl
    | some q =>
      show some (G.1 q.1 q.2, ps_E G q (σ q.1 q.2)) = some (G.1 q.1 q.2, ps_E G q (ps_up σ f k j x q.1 q.2))
      rw [ps_up_ne (σ := σ) (f := f) (k := k) (j := j) (x := x) (f' := q.1) (k' := q.2)]
      rintro ⟨e1, e2⟩
      have e3 : q = (f, k) := by rw [← e1, ← e2]
      subst e3
      exact hi ((List.getElem?_inj (List.getElem?_eq_some_iff.mp hq).1 ps_nodup).mp (hq.trans h.symm))
theorem ps_ws_len (G : ps_G) (σ : ps_S) : (ps_ws G σ).length = ps_cells.length := List.length_map ..
/-- the cells are apart: said of the addresses alone -/
theorem ps_D_of {G : ps_G} {σ σ' : ps_S} {A : Nat → Prop} (h : va_D A (ps_ws G σ)) : va_D A (ps_ws G σ') := by
  have at' : ∀ {k : Nat} {q : Nat × va_E}, (ps_ws G σ')[k]? = some q → ∃ e, (ps_ws G σ)[k]? = some (q.1, e) := by
    intro k q hq
    unfold ps_ws at hq ⊢
    rw [List.getElem?_map] at hq ⊢
    cases hc : ps_cells[k]? with
    | none => rw [hc] at hq; cases hq
    | some c =>
      rw [hc] at hq
      cases hq
      exact ⟨_, rfl⟩
  refine ⟨fun i j p q hi hj hpq => ?_, fun k q hk => ?_⟩
  · obtain ⟨e1, h1⟩ := at' hi
    obtain ⟨e2, h2⟩ := at' hj
    exact h.1 i j _ _ h1 h2 hpq
  · obtain ⟨e1, h1⟩ := at' hk
    exact h.2 k (q.1, e1) h1
end
section
/-! ===== methods, and what holds at a place of a method =====
ps_M: own class, name, bytes, locals, answer's type, cells and slots that stand for the room, the script (the law's alone) -/
abbrev ps_M : Type := String × MethodName × ByteArray × Nat × Option FieldType × (Nat × Nat) × Option (Nat × (Nat → Int32))
abbrev ps_own (M : ps_M) : String := M.1
abbrev ps_y (M : ps_M) : MethodName := M.2.1
abbrev ps_code (M : ps_M) : ByteArray := M.2.2.1
abbrev ps_maxL (M : ps_M) : Nat := M.2.2.2.1
abbrev ps_ret (M : ps_M) : Option FieldType := M.2.2.2.2.1
abbrev ps_cs (M : ps_M) : Nat := M.2.2.2.2.2.1.1
abbrev ps_ss (M : ps_M) : Nat := M.2.2.2.2.2.1.2
abbrev ps_sc (M : ps_M) : Option (Nat × (Nat → Int32)) := M.2.2.2.2.2.2
abbrev ps_L : Type := List (Option ps_V)
def ps_LR (G : ps_G) (ls : Array Slot) (n : Nat) (L : ps_L) : Prop := ls.size = n ∧ lv_wf ls ∧ ∀ (i : Nat) (v : ps_V), L[i]? = some (some v) → ls[i]? = some (.val (ps_cv G v)) ∧ (ps_cv G v).category = 1 ∧ ps_ok v
def ps_SX (G : ps_G) (s : State) (X : Option (Nat × (Nat → Int32))) : Prop := match X with
  | none => True
  | some q => ¬ ps_A G (G.1 0 0) ∧ G.1 0 0 < s.heap.size ∧ va_X (G.1 0 0) q.1 q.2 s s.heap
/-- links to fields of nest mates: these words aren't carried by a contract's own list -/
def ps_nest (U : State) : Prop := ∀ (a : String) (i : Nat) (b n d h : String), Cond.fieldLinkNest a i b n d h ∈ lw_tbl → va_Nw (.fieldLinkNest a i b n d h) U
def ps_Cx (M : ps_M) (d : Nat) (G : ps_G) (p : Program) (R : Room) (s : State) (m : MethodId) (args : Array Value) (meth : Method) (c : Code) : Prop :=
  p.tables.exec = Jvm.exec ∧ c.code = ps_code M ∧ c.maxLocals = ps_maxL M ∧ meth.sig.returnType = ps_ret M ∧ s.vm.findClass (ps_own M) = some m.cls ∧ (∀ w ∈ lw_tbl, goodWord w = true → w.before args s = true) ∧ meth.locks = false ∧
  (d ≤ R.frames ∧ 40 * d ≤ R.locals ∧ ps_cs M ≤ R.cells ∧ ps_ss M ≤ R.slots) ∧ va_K G.2.1 ps_cls (ps_tys G) s ∧ ps_SX G s (ps_sc M) ∧ ps_nest s
/-- what a place of a method may rely on -/
def ps_I (M : ps_M) (d : Nat) (G : ps_G) (p : Program) (R : Room) (s : State) (m : MethodId) (args : Array Value) (meth : Method) (c : Code) (H : Heap) (locs : List Loc) (ls : Array Slot) (L : ps_L) (st : List ps_V) (σ : ps_S) : Prop :=
  ps_Cx M d G p R s m args meth c ∧ ps_LR G ls (ps_maxL M) L ∧ (∀ v ∈ st, ps_ok v) ∧ va_P G.2.1 ps_cls (ps_ws G σ) H ∧ va_D (ps_A G) (ps_ws G σ) ∧ va_S (ps_A G) s.heap H locs
abbrev ps_F : Type := ps_G → State → Array Value → List Frame → State → Prop
/-- from this place, with these locals, this stack and this memory, the method comes to its end as told -/
def ps_K (M : ps_M) (d : Nat) (F : ps_F) (pc : Nat) (L : ps_L) (st : List ps_V) (σ : ps_S) : Prop :=
  ∀ (G : ps_G) (p : Program) (l : Launch) (e : Env) (R : Room) (s : State) (m : MethodId) (args : Array Value) (below : List Frame) (meth : Method) (c : Code) (H : Heap) (locs : List Loc) (ls : Array Slot),
    ps_I M d G p R s m args meth c H locs ls L st σ → W p l e R s m args below meth c H locs (ps_cs M) (ps_ss M) (F G s args below) (F0 m pc ls (st.map (ps_cv G)))
/-- a method's end: its answer and the memory are as told -/
def ps_Qc (G : ps_G) (Q : Option ps_V → ps_S → Prop) : Array Value → State → Outcome → State → Prop := fun _ st oc t =>
  (∃ (r : Option ps_V) (σ : ps_S), oc = .returned (r.map (ps_cv G)) ∧ (∀ v, r = some v → ps_ok v) ∧ Q r σ ∧ va_P G.2.1 ps_cls (ps_ws G σ) t.heap) ∧ va_F (ps_A G) st t
def ps_QF (Q : Option ps_V → ps_S → Prop) : ps_F := fun G s args below => MQ below (ps_Qc G Q) args s 0 0 (ps_A G)
def ps_words (M : ps_M) : List Cond := .code (ps_y M) (ps_code M) (ps_maxL M) (ps_ret M) :: lw_tbl.filter goodWord
abbrev ps_rm (d : Nat) : Room := { frames := d, cells := 0, slots := 0, locals := 40 * d }
def ps_Pre (G : ps_G) (σ : ps_S) (U : State) : Prop := va_P G.2.1 ps_cls (ps_ws G σ) U.heap ∧ va_K G.2.1 ps_cls (ps_tys G) U ∧ va_D (ps_A G) (ps_ws G σ) ∧ ps_nest U
/-- a method's contract: with these arguments in this memory it ends, within d frames, as told -/
def ps_C (M : ps_M) (d : Nat) (av : List ps_V) (σ : ps_S) (Q : Option ps_V → ps_S → Prop) : Prop :=
  (∀ v ∈ av, ps_ok v) → ∀ (G : ps_G) (l : Launch), Met l (ps_y M) (ps_words M) (ps_rm d) (va_Pc (av.map (ps_cv G)) (ps_Pre G σ)) (ps_Qc G Q) 0 0 (ps_A G)
theorem ps_goodIn {M : ps_M} (h : Cond.code (ps_y M) (ps_code M) (ps_maxL M) (ps_ret M) ∈ lw_tbl) : GoodIn (lw_tbl.filter goodWord) (ps_words M) := by
  intro w hw
  rcases List.mem_cons.mp hw with e | hw
  · subst e
    exact ⟨List.mem_filter.mpr ⟨h, rfl⟩, Or.inl rfl⟩
  · exact ⟨hw, good_of_word (List.mem_filter.mp hw).2⟩
section PSK
variable {M : ps_M} {d pc : Nat} {F : ps_F} {L L' : ps_L} {st : List ps_V} {σ : ps_S}
theorem ps_I.to {G : ps_G} {p : Program} {R : Room} {s : State} {m : MethodId} {args : Array Value} {meth : Method} {c : Code} {H : Heap} {locs : List Loc} {ls : Array Slot} {st' : List ps_V} (h : ps_I M d G p R s m args meth c H locs ls L st σ) (hs : ∀ v ∈ st', ps_ok v) : ps_I M d G p R s m args meth c H locs ls L st' σ :=
  ⟨h.1, h.2.1, hs, h.2.2.2⟩
theorem ps_ok_i {x : Int32} (h : ∀ v ∈ st, ps_ok v) : ∀ v ∈ ((.inl x : ps_V) :: st), ps_ok v := fun v hv => by
  rcases List.mem_cons.mp hv with e | q
  · subst e; exact trivial
  · exact h v q
theorem ps_ok_l {x : Int64} (h : ∀ v ∈ st, ps_ok v) : ∀ v ∈ ((.inr (.inl x) : ps_V) :: st), ps_ok v := fun v hv => by
  rcases List.mem_cons.mp hv with e | q
  · subst e; exact trivial
  · exact h v q
theorem ps_ok_c {v0 : ps_V} (h0 : ps_ok v0) (h : ∀ v ∈ st, ps_ok v) : ∀ v ∈ (v0 :: st), ps_ok v := fun v hv => by
  rcases List.mem_cons.mp hv with e | q
  · subst e; exact h0
  · exact h v q
theorem ps_ok_t {v0 : ps_V} (h : ∀ v ∈ (v0 :: st), ps_ok v) : ∀ v ∈ st, ps_ok v := fun v hv => h v (List.mem_cons_of_mem _ hv)
theorem ps_ok_t2 {v0 v1 : ps_V} (h : ∀ v ∈ (v0 :: v1 :: st), ps_ok v) : ∀ v ∈ st, ps_ok v := ps_ok_t (ps_ok_t h)
-- constants
theorem ps_iconst {n : Int} {x : Int32} (hd : decode (ps_code M) pc = .ok (.iconst n, 1)) (hv : Int32.ofInt n = x) (k : ps_K M d F (pc + 1) L (.inl x :: st) σ) : ps_K M d F pc L st σ :=
  fun G p l e R s m args below meth c H locs ls hI => lv_iconst hI.1.1 hI.1.2.1 hd hv (k G p l e R s m args below meth c H locs ls (hI.to (ps_ok_i hI.2.2.1)))
theorem ps_bipush {n : Int} {x : Int32} (hd : decode (ps_code M) pc = .ok (.bipush n, 2)) (hv : (Int8.ofInt n).toInt32 = x) (k : ps_K M d F (pc + 2) L (.inl x :: st) σ) : ps_K M d F pc L st σ :=
  fun G p l e R s m args below meth c H locs ls hI => lv_bipush hI.1.1 hI.1.2.1 hd hv (k G p l e R s m args below meth c H locs ls (hI.to (ps_ok_i hI.2.2.1)))
theorem ps_sipush {n : Int} {x : Int32} (hd : decode (ps_code M) pc = .ok (.sipush n, 3)) (hv : (Int16.ofInt n).toInt32 = x) (k : ps_K M d F (pc + 3) L (.inl x :: st) σ) : ps_K M d F pc L st σ :=
  fun G p l e R s m args below meth c H locs ls hI => lv_sipush hI.1.1 hI.1.2.1 hd hv (k G p l e R s m args below meth c H locs ls (hI.to (ps_ok_i hI.2.2.1)))
theorem ps_ldc {index : Nat} {x : Int32} (hd : decode (ps_code M) pc = .ok (.ldc index, 2)) (hw : Cond.constant (ps_own M) index x ∈ lw_tbl) (k : ps_K M d F (pc + 2) L (.inl x :: st) σ) : ps_K M d F pc L st σ :=
  fun G p l e R s m args below meth c H locs ls hI => lv_ldc hI.1.1 hI.1.2.1 hI.1.2.2.2.2.1 (hI.1.2.2.2.2.2.1 _ hw rfl) hd (k G p l e R s m args below meth c H locs ls (hI.to (ps_ok_i hI.2.2.1)))
theorem ps_ldcw {index : Nat} {x : Int32} (hd : decode (ps_code M) pc = .ok (.ldc_w index, 3)) (hw : Cond.constant (ps_own M) index x ∈ lw_tbl) (k : ps_K M d F (pc + 3) L (.inl x :: st) σ) : ps_K M d F pc L st σ :=
  fun G p l e R s m args below meth c H locs ls hI => lv_ldcw hI.1.1 hI.1.2.1 hI.1.2.2.2.2.1 (hI.1.2.2.2.2.2.1 _ hw rfl) hd (k G p l e R s m args below meth c H locs ls (hI.to (ps_ok_i hI.2.2.1)))
theorem ps_ldc2 {index : Nat} {x : Int64} (hd : decode (ps_code M) pc = .ok (.ldc2_w index, 3)) (hw : Cond.constantLong (ps_own M) index x ∈ lw_tbl) (k : ps_K M d F (pc + 3) L (.inr (.inl x) :: st) σ) : ps_K M d F pc L st σ :=
  fun G p l e R s m args below meth c H locs ls hI => lv_ldc2 hI.1.1 hI.1.2.1 hI.1.2.2.2.2.1 (hI.1.2.2.2.2.2.1 _ hw rfl) hd (k G p l e R s m args below meth c H locs ls (hI.to (ps_ok_l hI.2.2.1)))
theorem ps_lconst {n : Fin 2} {x : Int64} (hd : decode (ps_code M) pc = .ok (.lconst n, 1)) (hv : Int64.ofNat (n : Nat) = x) (k : ps_K M d F (pc + 1) L (.inr (.inl x) :: st) σ) : ps_K M d F pc L st σ :=
  fun G p l e R s m args below meth c H locs ls hI => lv_lconst hI.1.1 hI.1.2.1 hd hv (k G p l e R s m args below meth c H locs ls (hI.to (ps_ok_l hI.2.2.1)))
theorem ps_i2l {x : Int32} (hd : decode (ps_code M) pc = .ok (.i2l, 1)) (k : ps_K M d F (pc + 1) L (.inr (.inl x.toInt64) :: st) σ) : ps_K M d F pc L (.inl x :: st) σ :=
  fun G p l e R s m args below meth c H locs ls hI => lv_i2l hI.1.1 hI.1.2.1 hd rfl (k G p l e R s m args below meth c H locs ls (hI.to (ps_ok_l (ps_ok_t hI.2.2.1))))
-- locals
theorem ps_iload_n {n : Fin 4} {i : Nat} {x : Int32} (hd : decode (ps_code M) pc = .ok (.iload_n n, 1)) (hi : (n : Nat) = i) (hl : L[i]? = some (some (.inl x))) (k : ps_K M d F (pc + 1) L (.inl x :: st) σ) : ps_K M d F pc L st σ :=
  fun G p l e R s m args below meth c H locs ls hI => lv_iload_n hI.1.1 hI.1.2.1 hd hi (hI.2.1.2.2 i _ hl).1 (k G p l e R s m args below meth c H locs ls (hI.to (ps_ok_i hI.2.2.1)))
theorem ps_iload {i : Nat} {x : Int32} (hd : decode (ps_code M) pc = .ok (.iload i, 2)) (hl : L[i]? = some (some (.inl x))) (k : ps_K M d F (pc + 2) L (.inl x :: st) σ) : ps_K M d F pc L st σ :=
  fun G p l e R s m args below meth c H locs ls hI => lv_iload hI.1.1 hI.1.2.1 hd (hI.2.1.2.2 i _ hl).1 (k G p l e R s m args below meth c H locs ls (hI.to (ps_ok_i hI.2.2.1)))
theorem ps_aload_n {n : Fin 4} {i : Nat} {q : Nat × Nat} (hd : decode (ps_code M) pc = .ok (.aload_n n, 1)) (hi : (n : Nat) = i) (hl : L[i]? = some (some (.inr (.inr q)))) (k : ps_K M d F (pc + 1) L (.inr (.inr q) :: st) σ) : ps_K M d F pc L st σ :=
  fun G p l e R s m args below meth c H locs ls hI => lv_aload_n hI.1.1 hI.1.2.1 hd hi (hI.2.1.2.2 i _ hl).1 (k G p l e R s m args below meth c H locs ls (hI.to (ps_ok_c (hI.2.1.2.2 i _ hl).2.2 hI.2.2.1)))
theorem ps_LR_set {G : ps_G} {ls ls' : Array Slot} {n i : Nat} {v : ps_V} (h : ps_LR G ls n L) (hc : (ps_cv G v).category = 1) (ho : ps_ok v) (hl : L.set i (some v) = L') {w : Value} (hw : w = ps_cv G v)
    (h' : lv_has ls' n ((i, w) :: (((List.range n).filterMap (fun j => match L[j]? with | some (some u) => some (j, ps_cv G u) | _ => none)).filter (fun q => !(q.1 == i) && !(q.1 + 1 == i && q.2.category == 2))))) : ps_LR G ls' n L' := by
  subst hl
  subst hw
  refine ⟨h'.1, h'.2.1, fun j u hj => ?_⟩
  by_cases e : i = j
  · subst e
    have hlt : i < L.length := by
      have := (List.getElem?_eq_some_iff.mp hj).1
      rwa [List.length_set] at this
    rw [List.getElem?_set_self hlt] at hj
    cases hj
    exact ⟨h'.2.2 (i, ps_cv G v) List.mem_cons_self, hc, ho⟩
  · rw [List.getElem?_set_ne e] at hj
    obtain ⟨g1, g2, g3⟩ := h.2.2 j u hj
    refine ⟨h'.2.2 (j, ps_cv G u) (List.mem_cons_of_mem _ (List.mem_filter.mpr ⟨List.mem_filterMap.mpr ⟨j, List.mem_range.mpr ?_, ?_⟩, ?_⟩)), g2, g3⟩
    · rw [← h.1]
      exact lv_lt g1
    · simp [hj]
    · have e2 : j ≠ i := fun q => e q.symm
      simp [g2, e2]
theorem ps_LR_has {G : ps_G} {ls : Array Slot} {n : Nat} (h : ps_LR G ls n L) : lv_has ls n ((List.range n).filterMap (fun j => match L[j]? with | some (some u) => some (j, ps_cv G u) | _ => none)) := by
  refine ⟨h.1, h.2.1, fun q hq => ?_⟩
  obtain ⟨j, -, hj⟩ := List.mem_filterMap.mp hq
  cases hL : L[j]? with
  | none => rw [hL] at hj; cases hj
  | some o =>
    cases o with
    | none => rw [hL] at hj; cases hj
    | some u =>
      rw [hL] at hj
      cases hj
      exact (h.2.2 j u hL).1
theorem ps_istore_n {n : Fin 4} {i : Nat} {x : Int32} (hd : decode (ps_code M) pc = .ok (.istore_n n, 1)) (hi : (n : Nat) = i) (hn : i < ps_maxL M) (hl : L.set i (some (.inl x)) = L') (k : ps_K M d F (pc + 1) L' st σ) : ps_K M d F pc L (.inl x :: st) σ :=
  fun G p l e R s m args below meth c H locs ls hI => lv_istore_n hI.1.1 hI.1.2.1 hd hi (ps_LR_has hI.2.1) hn rfl (fun ls' h' => k G p l e R s m args below meth c H locs ls' ⟨hI.1, ps_LR_set (v := .inl x) hI.2.1 rfl trivial hl rfl h', ps_ok_t hI.2.2.1, hI.2.2.2⟩)
theorem ps_istore {i : Nat} {x : Int32} (hd : decode (ps_code M) pc = .ok (.istore i, 2)) (hn : i < ps_maxL M) (hl : L.set i (some (.inl x)) = L') (k : ps_K M d F (pc + 2) L' st σ) : ps_K M d F pc L (.inl x :: st) σ :=
  fun G p l e R s m args below meth c H locs ls hI => lv_istore hI.1.1 hI.1.2.1 hd (ps_LR_has hI.2.1) hn rfl (fun ls' h' => k G p l e R s m args below meth c H locs ls' ⟨hI.1, ps_LR_set (v := .inl x) hI.2.1 rfl trivial hl rfl h', ps_ok_t hI.2.2.1, hI.2.2.2⟩)
theorem ps_astore_n {n : Fin 4} {i : Nat} {q : Nat × Nat} (hd : decode (ps_code M) pc = .ok (.astore_n n, 1)) (hi : (n : Nat) = i) (hn : i < ps_maxL M) (hl : L.set i (some (.inr (.inr q))) = L') (k : ps_K M d F (pc + 1) L' st σ) : ps_K M d F pc L (.inr (.inr q) :: st) σ :=
  fun G p l e R s m args below meth c H locs ls hI => lv_astore_n hI.1.1 hI.1.2.1 hd hi (ps_LR_has hI.2.1) hn rfl (fun ls' h' => k G p l e R s m args below meth c H locs ls' ⟨hI.1, ps_LR_set (v := .inr (.inr q)) hI.2.1 rfl (hI.2.2.1 _ List.mem_cons_self) hl rfl h', ps_ok_t hI.2.2.1, hI.2.2.2⟩)
theorem ps_iinc {i : Nat} {n : Int} {x y : Int32} (hd : decode (ps_code M) pc = .ok (.iinc i n, 3)) (hx : L[i]? = some (some (.inl x))) (hn : i < ps_maxL M) (hv : Int32.ofInt n = y) (hl : L.set i (some (.inl (x + y))) = L') (k : ps_K M d F (pc + 3) L' st σ) : ps_K M d F pc L st σ :=
  fun G p l e R s m args below meth c H locs ls hI => by
    obtain ⟨k0, hk0⟩ := List.getElem?_of_mem (show ((i, Value.int x) : Nat × Value) ∈ ((List.range (ps_maxL M)).filterMap (fun j => match L[j]? with | some (some u) => some (j, ps_cv G u) | _ => none)) from List.mem_filterMap.mpr ⟨i, List.mem_range.mpr hn, by rw [hx]; rfl⟩)
    exact lv_iinc hI.1.1 hI.1.2.1 hd (ps_LR_has hI.2.1) hk0 rfl hn rfl (fun ls' h' => k G p l e R s m args below meth c H locs ls' ⟨hI.1, ps_LR_set (v := .inl (x + y)) hI.2.1 rfl trivial hl (by rw [← hv]; rfl) h', hI.2.2⟩)
-- arithmetic
theorem ps_iadd {x y : Int32} (hd : decode (ps_code M) pc = .ok (.iadd, 1)) (k : ps_K M d F (pc + 1) L (.inl (x + y) :: st) σ) : ps_K M d F pc L (.inl y :: .inl x :: st) σ :=
  fun G p l e R s m args below meth c H locs ls hI => lv_iadd hI.1.1 hI.1.2.1 hd (k G p l e R s m args below meth c H locs ls (hI.to (ps_ok_i (ps_ok_t2 hI.2.2.1))))
theorem ps_isub {x y : Int32} (hd : decode (ps_code M) pc = .ok (.isub, 1)) (k : ps_K M d F (pc + 1) L (.inl (x - y) :: st) σ) : ps_K M d F pc L (.inl y :: .inl x :: st) σ :=
  fun G p l e R s m args below meth c H locs ls hI => lv_isub hI.1.1 hI.1.2.1 hd (k G p l e R s m args below meth c H locs ls (hI.to (ps_ok_i (ps_ok_t2 hI.2.2.1))))
theorem ps_imul {x y : Int32} (hd : decode (ps_code M) pc = .ok (.imul, 1)) (k : ps_K M d F (pc + 1) L (.inl (x * y) :: st) σ) : ps_K M d F pc L (.inl y :: .inl x :: st) σ :=
  fun G p l e R s m args below meth c H locs ls hI => lv_imul hI.1.1 hI.1.2.1 hd (k G p l e R s m args below meth c H locs ls (hI.to (ps_ok_i (ps_ok_t2 hI.2.2.1))))
theorem ps_iand {x y : Int32} (hd : decode (ps_code M) pc = .ok (.iand, 1)) (k : ps_K M d F (pc + 1) L (.inl (x &&& y) :: st) σ) : ps_K M d F pc L (.inl y :: .inl x :: st) σ :=
  fun G p l e R s m args below meth c H locs ls hI => lv_iand hI.1.1 hI.1.2.1 hd (k G p l e R s m args below meth c H locs ls (hI.to (ps_ok_i (ps_ok_t2 hI.2.2.1))))
theorem ps_ior {x y : Int32} (hd : decode (ps_code M) pc = .ok (.ior, 1)) (k : ps_K M d F (pc + 1) L (.inl (x ||| y) :: st) σ) : ps_K M d F pc L (.inl y :: .inl x :: st) σ :=
  fun G p l e R s m args below meth c H locs ls hI => lv_ior hI.1.1 hI.1.2.1 hd (k G p l e R s m args below meth c H locs ls (hI.to (ps_ok_i (ps_ok_t2 hI.2.2.1))))
theorem ps_ixor {x y : Int32} (hd : decode (ps_code M) pc = .ok (.ixor, 1)) (k : ps_K M d F (pc + 1) L (.inl (x ^^^ y) :: st) σ) : ps_K M d F pc L (.inl y :: .inl x :: st) σ :=
  fun G p l e R s m args below meth c H locs ls hI => lv_ixor hI.1.1 hI.1.2.1 hd (k G p l e R s m args below meth c H locs ls (hI.to (ps_ok_i (ps_ok_t2 hI.2.2.1))))
end PSK
end
section
/-! ===== the rules, a row an instruction (2) ===== -/
section PSL
variable {M : ps_M} {d pc : Nat} {F : ps_F} {L L' : ps_L} {st : List ps_V} {σ : ps_S}
theorem ps_idiv {x y : Int32} (hd : decode (ps_code M) pc = .ok (.idiv, 1)) (hn : ¬ y = 0) (k : ps_K M d F (pc + 1) L (.inl (x / y) :: st) σ) : ps_K M d F pc L (.inl y :: .inl x :: st) σ :=
  fun G p l e R s m args below meth c H locs ls hI => lv_idiv hI.1.1 hI.1.2.1 hd hn (k G p l e R s m args below meth c H locs ls (hI.to (ps_ok_i (ps_ok_t2 hI.2.2.1))))
theorem ps_irem {x y : Int32} (hd : decode (ps_code M) pc = .ok (.irem, 1)) (hn : ¬ y = 0) (k : ps_K M d F (pc + 1) L (.inl (x - x / y * y) :: st) σ) : ps_K M d F pc L (.inl y :: .inl x :: st) σ :=
  fun G p l e R s m args below meth c H locs ls hI => lv_irem hI.1.1 hI.1.2.1 hd hn (k G p l e R s m args below meth c H locs ls (hI.to (ps_ok_i (ps_ok_t2 hI.2.2.1))))
theorem ps_ishl {x y : Int32} (hd : decode (ps_code M) pc = .ok (.ishl, 1)) (k : ps_K M d F (pc + 1) L (.inl (x <<< (y &&& 31)) :: st) σ) : ps_K M d F pc L (.inl y :: .inl x :: st) σ :=
  fun G p l e R s m args below meth c H locs ls hI => lv_ishl hI.1.1 hI.1.2.1 hd (k G p l e R s m args below meth c H locs ls (hI.to (ps_ok_i (ps_ok_t2 hI.2.2.1))))
theorem ps_ishr {x y : Int32} (hd : decode (ps_code M) pc = .ok (.ishr, 1)) (k : ps_K M d F (pc + 1) L (.inl (x >>> (y &&& 31)) :: st) σ) : ps_K M d F pc L (.inl y :: .inl x :: st) σ :=
  fun G p l e R s m args below meth c H locs ls hI => lv_ishr hI.1.1 hI.1.2.1 hd (k G p l e R s m args below meth c H locs ls (hI.to (ps_ok_i (ps_ok_t2 hI.2.2.1))))
theorem ps_iushr {x y : Int32} (hd : decode (ps_code M) pc = .ok (.iushr, 1)) (k : ps_K M d F (pc + 1) L (.inl ((x.toUInt32 >>> (y.toUInt32 &&& Int32.toUInt32 31)).toInt32) :: st) σ) : ps_K M d F pc L (.inl y :: .inl x :: st) σ :=
  fun G p l e R s m args below meth c H locs ls hI => lv_iushr hI.1.1 hI.1.2.1 hd rfl (k G p l e R s m args below meth c H locs ls (hI.to (ps_ok_i (ps_ok_t2 hI.2.2.1))))
theorem ps_ineg {x : Int32} (hd : decode (ps_code M) pc = .ok (.ineg, 1)) (k : ps_K M d F (pc + 1) L (.inl (-x) :: st) σ) : ps_K M d F pc L (.inl x :: st) σ :=
  fun G p l e R s m args below meth c H locs ls hI => lv_ineg hI.1.1 hI.1.2.1 hd (k G p l e R s m args below meth c H locs ls (hI.to (ps_ok_i (ps_ok_t hI.2.2.1))))
theorem ps_dup_i {x : Int32} (hd : decode (ps_code M) pc = .ok (.dup, 1)) (k : ps_K M d F (pc + 1) L (.inl x :: .inl x :: st) σ) : ps_K M d F pc L (.inl x :: st) σ :=
  fun G p l e R s m args below meth c H locs ls hI => lv_dup hI.1.1 hI.1.2.1 hd rfl (k G p l e R s m args below meth c H locs ls (hI.to (ps_ok_i hI.2.2.1)))
theorem ps_dup_r {q : Nat × Nat} (hd : decode (ps_code M) pc = .ok (.dup, 1)) (k : ps_K M d F (pc + 1) L (.inr (.inr q) :: .inr (.inr q) :: st) σ) : ps_K M d F pc L (.inr (.inr q) :: st) σ :=
  fun G p l e R s m args below meth c H locs ls hI => lv_dup hI.1.1 hI.1.2.1 hd rfl (k G p l e R s m args below meth c H locs ls (hI.to (ps_ok_c (hI.2.2.1 _ List.mem_cons_self) hI.2.2.1)))
theorem ps_dup2 {x : Int32} {q : Nat × Nat} (hd : decode (ps_code M) pc = .ok (.dup2, 1)) (k : ps_K M d F (pc + 1) L (.inl x :: .inr (.inr q) :: .inl x :: .inr (.inr q) :: st) σ) : ps_K M d F pc L (.inl x :: .inr (.inr q) :: st) σ :=
  fun G p l e R s m args below meth c H locs ls hI => lv_dup2_11 hI.1.1 hI.1.2.1 hd rfl rfl (k G p l e R s m args below meth c H locs ls (hI.to (ps_ok_i (ps_ok_c (hI.2.2.1 _ (List.mem_cons_of_mem _ List.mem_cons_self)) hI.2.2.1))))
theorem ps_if_eq {x : Int32} {off : Int} {tgt : Nat} (hd : decode (ps_code M) pc = .ok (.ifCond .eq off, 3)) (ht : (pc : Int) + off = (tgt : Int)) (kt : x = 0 → ps_K M d F tgt L st σ) (kf : ¬ x = 0 → ps_K M d F (pc + 3) L st σ) : ps_K M d F pc L (.inl x :: st) σ :=
  fun G p l e R s m args below meth c H locs ls hI => lv_if_eq hI.1.1 hI.1.2.1 hd ht (fun h => kt h G p l e R s m args below meth c H locs ls (hI.to (ps_ok_t hI.2.2.1))) (fun h => kf h G p l e R s m args below meth c H locs ls (hI.to (ps_ok_t hI.2.2.1)))
theorem ps_icmp_eq {x y : Int32} {off : Int} {tgt : Nat} (hd : decode (ps_code M) pc = .ok (.if_icmp .eq off, 3)) (ht : (pc : Int) + off = (tgt : Int)) (kt : x = y → ps_K M d F tgt L st σ) (kf : ¬ x = y → ps_K M d F (pc + 3) L st σ) : ps_K M d F pc L (.inl y :: .inl x :: st) σ :=
  fun G p l e R s m args below meth c H locs ls hI => lv_icmp_eq hI.1.1 hI.1.2.1 hd ht (fun h => kt h G p l e R s m args below meth c H locs ls (hI.to (ps_ok_t2 hI.2.2.1))) (fun h => kf h G p l e R s m args below meth c H locs ls (hI.to (ps_ok_t2 hI.2.2.1)))
theorem ps_if_ne {x : Int32} {off : Int} {tgt : Nat} (hd : decode (ps_code M) pc = .ok (.ifCond .ne off, 3)) (ht : (pc : Int) + off = (tgt : Int)) (kt : ¬ x = 0 → ps_K M d F tgt L st σ) (kf : x = 0 → ps_K M d F (pc + 3) L st σ) : ps_K M d F pc L (.inl x :: st) σ :=
  fun G p l e R s m args below meth c H locs ls hI => lv_if_ne hI.1.1 hI.1.2.1 hd ht (fun h => kt h G p l e R s m args below meth c H locs ls (hI.to (ps_ok_t hI.2.2.1))) (fun h => kf h G p l e R s m args below meth c H locs ls (hI.to (ps_ok_t hI.2.2.1)))
theorem ps_icmp_ne {x y : Int32} {off : Int} {tgt : Nat} (hd : decode (ps_code M) pc = .ok (.if_icmp .ne off, 3)) (ht : (pc : Int) + off = (tgt : Int)) (kt : ¬ x = y → ps_K M d F tgt L st σ) (kf : x = y → ps_K M d F (pc + 3) L st σ) : ps_K M d F pc L (.inl y :: .inl x :: st) σ :=
  fun G p l e R s m args below meth c H locs ls hI => lv_icmp_ne hI.1.1 hI.1.2.1 hd ht (fun h => kt h G p l e R s m args below meth c H locs ls (hI.to (ps_ok_t2 hI.2.2.1))) (fun h => kf h G p l e R s m args below meth c H locs ls (hI.to (ps_ok_t2 hI.2.2.1)))
theorem ps_if_lt {x : Int32} {off : Int} {tgt : Nat} (hd : decode (ps_code M) pc = .ok (.ifCond .lt off, 3)) (ht : (pc : Int) + off = (tgt : Int)) (kt : x < 0 → ps_K M d F tgt L st σ) (kf : ¬ x < 0 → ps_K M d F (pc + 3) L st σ) : ps_K M d F pc L (.inl x :: st) σ :=
  fun G p l e R s m args below meth c H locs ls hI => lv_if_lt hI.1.1 hI.1.2.1 hd ht (fun h => kt h G p l e R s m args below meth c H locs ls (hI.to (ps_ok_t hI.2.2.1))) (fun h => kf h G p l e R s m args below meth c H locs ls (hI.to (ps_ok_t hI.2.2.1)))
theorem ps_icmp_lt {x y : Int32} {off : Int} {tgt : Nat} (hd : decode (ps_code M) pc = .ok (.if_icmp .lt off, 3)) (ht : (pc : Int) + off = (tgt : Int)) (kt : x < y → ps_K M d F tgt L st σ) (kf : ¬ x < y → ps_K M d F (pc + 3) L st σ) : ps_K M d F pc L (.inl y :: .inl x :: st) σ :=
  fun G p l e R s m args below meth c H locs ls hI => lv_icmp_lt hI.1.1 hI.1.2.1 hd ht (fun h => kt h G p l e R s m args below meth c H locs ls (hI.to (ps_ok_t2 hI.2.2.1))) (fun h => kf h G p l e R s m args below meth c H locs ls (hI.to (ps_ok_t2 hI.2.2.1)))
theorem ps_if_ge {x : Int32} {off : Int} {tgt : Nat} (hd : decode (ps_code M) pc = .ok (.ifCond .ge off, 3)) (ht : (pc : Int) + off = (tgt : Int)) (kt : 0 ≤ x → ps_K M d F tgt L st σ) (kf : ¬ 0 ≤ x → ps_K M d F (pc + 3) L st σ) : ps_K M d F pc L (.inl x :: st) σ :=
  fun G p l e R s m args below meth c H locs ls hI => lv_if_ge hI.1.1 hI.1.2.1 hd ht (fun h => kt h G p l e R s m args below meth c H locs ls (hI.to (ps_ok_t hI.2.2.1))) (fun h => kf h G p l e R s m args below meth c H locs ls (hI.to (ps_ok_t hI.2.2.1)))
theorem ps_icmp_ge {x y : Int32} {off : Int} {tgt : Nat} (hd : decode (ps_code M) pc = .ok (.if_icmp .ge off, 3)) (ht : (pc : Int) + off = (tgt : Int)) (kt : y ≤ x → ps_K M d F tgt L st σ) (kf : ¬ y ≤ x → ps_K M d F (pc + 3) L st σ) : ps_K M d F pc L (.inl y :: .inl x :: st) σ :=
  fun G p l e R s m args below meth c H locs ls hI => lv_icmp_ge hI.1.1 hI.1.2.1 hd ht (fun h => kt h G p l e R s m args below meth c H locs ls (hI.to (ps_ok_t2 hI.2.2.1))) (fun h => kf h G p l e R s m args below meth c H locs ls (hI.to (ps_ok_t2 hI.2.2.1)))
theorem ps_if_gt {x : Int32} {off : Int} {tgt : Nat} (hd : decode (ps_code M) pc = .ok (.ifCond .gt off, 3)) (ht : (pc : Int) + off = (tgt : Int)) (kt : 0 < x → ps_K M d F tgt L st σ) (kf : ¬ 0 < x → ps_K M d F (pc + 3) L st σ) : ps_K M d F pc L (.inl x :: st) σ :=
  fun G p l e R s m args below meth c H locs ls hI => lv_if_gt hI.1.1 hI.1.2.1 hd ht (fun h => kt h G p l e R s m args below meth c H locs ls (hI.to (ps_ok_t hI.2.2.1))) (fun h => kf h G p l e R s m args below meth c H locs ls (hI.to (ps_ok_t hI.2.2.1)))
theorem ps_icmp_gt {x y : Int32} {off : Int} {tgt : Nat} (hd : decode (ps_code M) pc = .ok (.if_icmp .gt off, 3)) (ht : (pc : Int) + off = (tgt : Int)) (kt : y < x → ps_K M d F tgt L st σ) (kf : ¬ y < x → ps_K M d F (pc + 3) L st σ) : ps_K M d F pc L (.inl y :: .inl x :: st) σ :=
  fun G p l e R s m args below meth c H locs ls hI => lv_icmp_gt hI.1.1 hI.1.2.1 hd ht (fun h => kt h G p l e R s m args below meth c H locs ls (hI.to (ps_ok_t2 hI.2.2.1))) (fun h => kf h G p l e R s m args below meth c H locs ls (hI.to (ps_ok_t2 hI.2.2.1)))
theorem ps_if_le {x : Int32} {off : Int} {tgt : Nat} (hd : decode (ps_code M) pc = .ok (.ifCond .le off, 3)) (ht : (pc : Int) + off = (tgt : Int)) (kt : x ≤ 0 → ps_K M d F tgt L st σ) (kf : ¬ x ≤ 0 → ps_K M d F (pc + 3) L st σ) : ps_K M d F pc L (.inl x :: st) σ :=
  fun G p l e R s m args below meth c H locs ls hI => lv_if_le hI.1.1 hI.1.2.1 hd ht (fun h => kt h G p l e R s m args below meth c H locs ls (hI.to (ps_ok_t hI.2.2.1))) (fun h => kf h G p l e R s m args below meth c H locs ls (hI.to (ps_ok_t hI.2.2.1)))
theorem ps_icmp_le {x y : Int32} {off : Int} {tgt : Nat} (hd : decode (ps_code M) pc = .ok (.if_icmp .le off, 3)) (ht : (pc : Int) + off = (tgt : Int)) (kt : x ≤ y → ps_K M d F tgt L st σ) (kf : ¬ x ≤ y → ps_K M d F (pc + 3) L st σ) : ps_K M d F pc L (.inl y :: .inl x :: st) σ :=
  fun G p l e R s m args below meth c H locs ls hI => lv_icmp_le hI.1.1 hI.1.2.1 hd ht (fun h => kt h G p l e R s m args below meth c H locs ls (hI.to (ps_ok_t2 hI.2.2.1))) (fun h => kf h G p l e R s m args below meth c H locs ls (hI.to (ps_ok_t2 hI.2.2.1)))
theorem ps_goto {off : Int} {tgt : Nat} (hd : decode (ps_code M) pc = .ok (.goto off, 3)) (ht : (pc : Int) + off = (tgt : Int)) (k : ps_K M d F tgt L st σ) : ps_K M d F pc L st σ :=
  fun G p l e R s m args below meth c H locs ls hI => lv_goto hI.1.1 hI.1.2.1 hd ht (k G p l e R s m args below meth c H locs ls hI)
theorem ps_tabOut {x : Int32} {dflt lo hi : Int} {offs : Array Int} {len tgt : Nat} (hd : decode (ps_code M) pc = .ok (.tableswitch dflt lo hi offs, len)) (h : x.toInt < lo ∨ hi < x.toInt) (ht : (pc : Int) + dflt = (tgt : Int)) (k : ps_K M d F tgt L st σ) : ps_K M d F pc L (.inl x :: st) σ :=
  fun G p l e R s m args below meth c H locs ls hI => lv_tableOut hI.1.1 hI.1.2.1 hd h ht (k G p l e R s m args below meth c H locs ls (hI.to (ps_ok_t hI.2.2.1)))
theorem ps_tabIn {x : Int32} {dflt lo hi off : Int} {offs : Array Int} {len tgt : Nat} (hd : decode (ps_code M) pc = .ok (.tableswitch dflt lo hi offs, len)) (h1 : ¬ x.toInt < lo) (h2 : ¬ hi < x.toInt) (ho : offs[(x.toInt - lo).toNat]? = some off) (ht : (pc : Int) + off = (tgt : Int)) (k : ps_K M d F tgt L st σ) : ps_K M d F pc L (.inl x :: st) σ :=
  fun G p l e R s m args below meth c H locs ls hI => lv_tableIn hI.1.1 hI.1.2.1 hd h1 h2 ho ht (k G p l e R s m args below meth c H locs ls (hI.to (ps_ok_t hI.2.2.1)))
/-- fewer locals known -/
def ps_sub (L' L : ps_L) : Prop := match L', L with
  | [], _ => True
  | none :: a, _ :: b => ps_sub a b
  | none :: a, [] => ps_sub a []
  | some v :: a, w :: b => w = some v ∧ ps_sub a b
  | some _ :: _, [] => False
theorem ps_sub_at : ∀ (L' L : ps_L), ps_sub L' L → ∀ (i : Nat) (v : ps_V), L'[i]? = some (some v) → L[i]? = some (some v)
  | [], _, _, i, v, h => by simp at h
  | none :: a, w :: b, hs, i, v, h => by
    cases i with
    | zero => simp at h
    | succ i => simp only [List.getElem?_cons_succ] at h ⊢; exact ps_sub_at a b (by simpa [ps_sub] using hs) i v h
  | none :: a, [], hs, i, v, h => by
    cases i with
    | zero => simp at h
    | succ i =>
      simp only [List.getElem?_cons_succ] at h
      have := ps_sub_at a [] (by simpa [ps_sub] using hs) i v h
      simp at this
  | some u :: a, w :: b, hs, i, v, h => by
    have hs : w = some u ∧ ps_sub a b := by simpa [ps_sub] using hs
    cases i with
    | zero => simp only [List.getElem?_cons_zero, Option.some.injEq] at h ⊢; rw [hs.1, h]
    | succ i => simp only [List.getElem?_cons_succ] at h ⊢; exact ps_sub_at a b hs.2 i v h
  | some u :: a, [], hs, i, v, h => by simp [ps_sub] at hs
theorem ps_forget (hs : ps_sub L' L) (k : ps_K M d F pc L' st σ) : ps_K M d F pc L st σ :=
  fun G p l e R s m args below meth c H locs ls hI => k G p l e R s m args below meth c H locs ls ⟨hI.1, ⟨hI.2.1.1, hI.2.1.2.1, fun i v hv => hI.2.1.2.2 i v (ps_sub_at L' L hs i v hv)⟩, hI.2.2⟩
theorem ps_deeper {d' : Nat} (hd : d ≤ d') (k : ps_K M d F pc L st σ) : ps_K M d' F pc L st σ :=
  fun G p l e R s m args below meth c H locs ls hI => k G p l e R s m args below meth c H locs ls ⟨⟨hI.1.1, hI.1.2.1, hI.1.2.2.1, hI.1.2.2.2.1, hI.1.2.2.2.2.1, hI.1.2.2.2.2.2.1, hI.1.2.2.2.2.2.2.1, ⟨Nat.le_trans hd hI.1.2.2.2.2.2.2.2.1.1, by have := hI.1.2.2.2.2.2.2.2.1.2.1; omega, hI.1.2.2.2.2.2.2.2.1.2.2⟩, hI.1.2.2.2.2.2.2.2.2⟩, hI.2⟩
-- fields
def ps_fl (own : String) (index ci k : Nat) : Prop := ∃ r : vw_C, ps_cls[ci]? = some r ∧ k < r.2.2 ∧ (Cond.fieldLink own index (r.2.1 k).1 (r.2.1 k).2.1 (r.2.1 k).2.2.1 ∈ lw_tbl ∨ ∃ host, Cond.fieldLinkNest own index (r.2.1 k).1 (r.2.1 k).2.1 (r.2.1 k).2.2.1 host ∈ lw_tbl)
def ps_lays : ∀ (ci : Nat) (r : vw_C), ps_cls[ci]? = some r → ∀ w ∈ u_ws r.1 r.2.1 r.2.2, w ∈ lw_tbl ∧ goodWord w = true := by
  intro ci r h
  match ci, h with
  | 0, h => cases h; exact (by decide +kernel : ∀ w ∈ u_ws RX0 TX0 12, w ∈ lw_tbl ∧ goodWord w = true)
  | 1, h => cases h; exact (by decide +kernel : ∀ w ∈ u_ws RX1 TX1 4, w ∈ lw_tbl ∧ goodWord w = true)
  | 2, h => cases h; exact (by decide +kernel : ∀ w ∈ u_ws RX2 TX2 11, w ∈ lw_tbl ∧ goodWord w = true)
  | 3, h => cases h; exact (by decide +kernel : ∀ w ∈ u_ws RX3 TX3 4, w ∈ lw_tbl ∧ goodWord w = true)
  | 4, h => cases h; exact (by decide +kernel : ∀ w ∈ u_ws RX4 TX4 7, w ∈ lw_tbl ∧ goodWord w = true)
  | 5, h => cases h; exact (by decide +kernel : ∀ w ∈ u_ws RX5 TX5 4, w ∈ lw_tbl ∧ goodWord w = true)
  | 6, h => cases h; exact (by decide +kernel : ∀ w ∈ u_ws RX6 TX6 4, w ∈ lw_tbl ∧ goodWord w = true)
  | 7, h => cases h; exact (by decide +kernel : ∀ w ∈ u_ws RX7 TX7 7, w ∈ lw_tbl ∧ goodWord w = true)
  | 8, h => cases h; exact (by decide +kernel : ∀ w ∈ u_ws RX8 TX8 29, w ∈ lw_tbl ∧ goodWord w = true)
  | n + 9, h => simp [ps_cls] at h
theorem ps_names : ∀ (ci : Nat) (r : vw_C), ps_cls[ci]? = some r → (∃ ty0 : Nat → FieldType, ∀ k, k < r.2.2 → parseFieldDescriptor (r.2.1 k).2.2.1 = some (ty0 k)) ∧ ∀ a, a < r.2.2 → ∀ b, b < r.2.2 → a ≠ b → (r.2.1 a).2.1 ≠ (r.2.1 b).2.1 := by
  intro ci r h
  match ci, h with
  | 0, h => cases h; exact ⟨⟨_, tyX0_ok⟩, nmX0⟩
  | 1, h => cases h; exact ⟨⟨_, tyX1_ok⟩, nmX1⟩
  | 2, h => cases h; exact ⟨⟨_, tyX2_ok⟩, nmX2⟩
  | 3, h => cases h; exact ⟨⟨_, tyX3_ok⟩, nmX3⟩
  | 4, h => cases h; exact ⟨⟨_, tyX4_ok⟩, nmX4⟩
  | 5, h => cases h; exact ⟨⟨_, tyX5_ok⟩, nmX5⟩
  | 6, h => cases h; exact ⟨⟨_, tyX6_ok⟩, nmX6⟩
  | 7, h => cases h; exact ⟨⟨_, tyX7_ok⟩, nmX7⟩
  | 8, h => cases h; exact ⟨⟨_, tyX8_ok⟩, nmX8⟩
  | n + 9, h => simp [ps_cls] at h
def ps_tabB (f : Nat) : Bool := match (ps_sh f).2 with
  | .inl (_, fs) => fs.all (fun t => match t with | none => true | some g => ps_cnt g == ps_cnt f)
  | .inr (_, n, some g) => ps_cnt g == n * ps_cnt f
  | _ => true
theorem ps_tab0 : (List.range ps_fams.length).all ps_tabB = true := by decide +kernel
theorem ps_tab {f : Nat} (h : 0 < ps_cnt f) : ps_tabB f = true := by
  refine List.all_eq_true.mp ps_tab0 f (List.mem_range.mpr ?_)
  rcases Nat.lt_or_ge f ps_fams.length with q | q
  · exact q
  · exfalso
    have e : ps_cnt f = 0 := by
      unfold ps_cnt ps_sh
      simp [List.getD, List.getElem?_eq_none q]
    omega
theorem ps_live {f i : Nat} {x : (Nat × List (Option Nat)) ⊕ (Nat × Nat × Option Nat)} (h : ps_ok (.inr (.inr (f, i)))) (hs : (ps_sh f).2 = x) (hx : x ≠ .inr (0, 0, none)) : i < ps_cnt f := by
  rcases h with h | h
  · exact h
  · exfalso
    have h0 : f = 0 := h
    subst h0
    exact hx (hs.symm.trans rfl)
theorem ps_E_obj {G : ps_G} {f i ci : Nat} {fs : List (Option Nat)} {g : Nat → Int32} (hs : (ps_sh f).2 = .inl (ci, fs)) : ps_E G (f, i) g = .inr (ci, fs.mapIdx (ps_fld G g i)) := by
  unfold ps_E
  show (match (ps_sh f).2 with | .inl (ci, fs) => _ | .inr (ay, n, none) => _ | .inr (ay, n, some f') => _) = _
  rw [hs]
theorem ps_E_arr {G : ps_G} {f i ay n : Nat} {g : Nat → Int32} (hs : (ps_sh f).2 = .inr (ay, n, none)) : ps_E G (f, i) g = .inl (G.2.2 ay, n, .inl g) := by
  unfold ps_E
  show (match (ps_sh f).2 with | .inl (ci, fs) => _ | .inr (ay, n, none) => _ | .inr (ay, n, some f') => _) = _
  rw [hs]
theorem ps_E_ref {G : ps_G} {f i ay n t : Nat} {g : Nat → Int32} (hs : (ps_sh f).2 = .inr (ay, n, some t)) : ps_E G (f, i) g = .inl (G.2.2 ay, n, .inr (.inr (.inr (.inr (fun j => if j < n then some (G.1 t (n * i + j)) else none))))) := by
  unfold ps_E
  show (match (ps_sh f).2 with | .inl (ci, fs) => _ | .inr (ay, n, none) => _ | .inr (ay, n, some f') => _) = _
  rw [hs]
theorem ps_at_obj {G : ps_G} {f i ci : Nat} {fs : List (Option Nat)} (σ : ps_S) (hs : (ps_sh f).2 = .inl (ci, fs)) (h : ps_ok (.inr (.inr (f, i)))) : ∃ q0 : Nat, ps_cells[q0]? = some (f, i) ∧ (ps_ws G σ)[q0]? = some (G.1 f i, .inr (ci, fs.mapIdx (ps_fld G (σ f i) i))) := by
  obtain ⟨q0, hq⟩ := ps_idx (ps_live h hs (by simp))
  exact ⟨q0, hq, by rw [ps_ws_at hq]; exact congrArg (fun e => some (G.1 f i, e)) (ps_E_obj hs)⟩
theorem ps_at_arr {G : ps_G} {f i ay n : Nat} (σ : ps_S) (hs : (ps_sh f).2 = .inr (ay, n, none)) (hn : n ≠ 0) (h : ps_ok (.inr (.inr (f, i)))) : ∃ q0 : Nat, ps_cells[q0]? = some (f, i) ∧ (ps_ws G σ)[q0]? = some (G.1 f i, .inl (G.2.2 ay, n, .inl (σ f i))) := by
  obtain ⟨q0, hq⟩ := ps_idx (ps_live h hs (by simp [hn]))
  exact ⟨q0, hq, by rw [ps_ws_at hq]; exact congrArg (fun e => some (G.1 f i, e)) (ps_E_arr hs)⟩
theorem ps_at_ref {G : ps_G} {f i ay n t : Nat} (σ : ps_S) (hs : (ps_sh f).2 = .inr (ay, n, some t)) (h : ps_ok (.inr (.inr (f, i)))) : ∃ q0 : Nat, ps_cells[q0]? = some (f, i) ∧ (ps_ws G σ)[q0]? = some (G.1 f i, .inl (G.2.2 ay, n, .inr (.inr (.inr (.inr (fun j => if j < n then some (G.1 t (n * i + j)) else none)))))) := by
  obtain ⟨q0, hq⟩ := ps_idx (ps_live h hs (by simp))
  exact ⟨q0, hq, by rw [ps_ws_at hq]; exact congrArg (fun e => some (G.1 f i, e)) (ps_E_ref hs)⟩
theorem ps_getV {G : ps_G} {p : Program} {l : Launch} {e : Env} {R : Room} {s : State} {m : MethodId} {args : Array Value} {below : List Frame} {meth : Method} {c : Code} {H : Heap} {locs : List Loc} {ls : Array Slot} {Z : State → Prop} {index ci k f i cs ss : Nat} {fs : List (Option Nat)} {t : Option Nat} {rest : List Value} (hI : ps_I M d G p R s m args meth c H locs ls L st σ) (hd : decode (ps_code M) pc = .ok (.getfield index, 3)) (hf : ps_fl (ps_own M) index ci k) (hs : (ps_sh f).2 = .inl (ci, fs)) (hk : fs[k]? = some t) (ho : ps_ok (.inr (.inr (f, i))))
    (kk : W p l e R s m args below meth c H locs cs ss Z (F0 m (pc + 3) ls (ps_fld G (σ f i) i k t :: rest))) : W p l e R s m args below meth c H locs cs ss Z (F0 m pc ls (.ref (G.1 f i) :: rest)) := by
  obtain ⟨r, hr, hkr, hw⟩ := hf
  obtain ⟨q0, -, hq⟩ := ps_at_obj (G := G) σ hs ho
  have hv : (fs.mapIdx (ps_fld G (σ f i) i))[k]? = some (ps_fld G (σ f i) i k t) := by rw [List.getElem?_mapIdx, hk]; rfl
  have hts : ∀ w ∈ u_ws r.1 r.2.1 r.2.2, w.before args s = true := fun w hw => hI.1.2.2.2.2.2.1 w (ps_lays ci r hr w hw).1 (ps_lays ci r hr w hw).2
  rcases hw with hw | ⟨host, hw⟩
  · exact va_get (own := ps_own M) (ref := (r.2.1 k).1) (C := r.1) (T := r.2.1) (N := r.2.2) hI.1.1 hI.1.2.1 hts (fun _ h => h) hI.1.2.2.2.2.1 hI.1.2.2.2.2.2.2.2.2.1 hI.2.2.2.1 q0 hq hr k hkr (hI.1.2.2.2.2.2.1 _ hw rfl) (fun _ h => h) hv hd kk
  · exact va_getN (own := ps_own M) (ref := (r.2.1 k).1) (C := r.1) (host := host) (T := r.2.1) (N := r.2.2) hI.1.1 hI.1.2.1 hts (fun _ h => h) hI.1.2.2.2.2.1 hI.1.2.2.2.2.2.2.2.2.1 hI.2.2.2.1 q0 hq hr k hkr (va_Nw.use rfl (hI.1.2.2.2.2.2.2.2.2.2.2 _ _ _ _ _ _ hw)) (fun _ h => h) hv hd kk
theorem ps_getI {index ci k f i : Nat} {fs : List (Option Nat)} (hd : decode (ps_code M) pc = .ok (.getfield index, 3)) (hf : ps_fl (ps_own M) index ci k) (hs : (ps_sh f).2 = .inl (ci, fs)) (hk : fs[k]? = some none) (kk : ps_K M d F (pc + 3) L (.inl (σ f i k) :: st) σ) : ps_K M d F pc L (.inr (.inr (f, i)) :: st) σ :=
  fun G p l e R s m args below meth c H locs ls hI => ps_getV hI hd hf hs hk (hI.2.2.1 _ List.mem_cons_self) (kk G p l e R s m args below meth c H locs ls (hI.to (ps_ok_i (ps_ok_t hI.2.2.1))))
theorem ps_fld_ok {f g i ci : Nat} {fs : List (Option Nat)} {k : Nat} (hs : (ps_sh f).2 = .inl (ci, fs)) (hk : fs[k]? = some (some g)) (ho : ps_ok (.inr (.inr (f, i)))) : ps_ok (.inr (.inr (g, i))) := by
  have hi := ps_live ho hs (by simp)
  have ht := ps_tab (f := f) (by omega)
  unfold ps_tabB at ht
  rw [hs] at ht
  have h1 := List.all_eq_true.mp ht (some g) (List.mem_of_getElem? hk)
  have h2 : ps_cnt g = ps_cnt f := by simpa using h1
  exact Or.inl (by rw [h2]; exact hi)
theorem ps_getR {index ci k f i g : Nat} {fs : List (Option Nat)} (hd : decode (ps_code M) pc = .ok (.getfield index, 3)) (hf : ps_fl (ps_own M) index ci k) (hs : (ps_sh f).2 = .inl (ci, fs)) (hk : fs[k]? = some (some g)) (kk : ps_K M d F (pc + 3) L (.inr (.inr (g, i)) :: st) σ) : ps_K M d F pc L (.inr (.inr (f, i)) :: st) σ :=
  fun G p l e R s m args below meth c H locs ls hI => ps_getV hI hd hf hs hk (hI.2.2.1 _ List.mem_cons_self) (kk G p l e R s m args below meth c H locs ls (hI.to (ps_ok_c (ps_fld_ok hs hk (hI.2.2.1 _ List.mem_cons_self)) (ps_ok_t hI.2.2.1))))
theorem ps_fset {G : ps_G} {fs : List (Option Nat)} {g : Nat → Int32} {i k : Nat} {x : Int32} (hk : fs[k]? = some none) : (fs.mapIdx (ps_fld G g i)).set k (.int x) = fs.mapIdx (ps_fld G (upd g k x) i) := by
  apply List.ext_getElem?
  intro j
  rw [List.getElem?_mapIdx]
  by_cases e : k = j
  · subst e
    rw [List.getElem?_set_self (by rw [List.length_mapIdx]; exact (List.getElem?_eq_some_iff.mp hk).1), hk]
    simp [ps_fld, upd]
  · rw [List.getElem?_set_ne e, List.getElem?_mapIdx]
    cases hj : fs[j]? with
    | none => rfl
    | some t =>
      cases t with
      | none => simp [ps_fld, upd, show ¬ j = k from fun q => e q.symm]
      | some g => rfl
def ps_fp (own : String) (index ci k : Nat) (ty : FieldType) : Prop := ∃ r : vw_C, ps_cls[ci]? = some r ∧ k < r.2.2 ∧ (r.2.1 k).2.2.2 = false ∧ parseFieldDescriptor (r.2.1 k).2.2.1 = some ty ∧ (Cond.fieldLink own index (r.2.1 k).1 (r.2.1 k).2.1 (r.2.1 k).2.2.1 ∈ lw_tbl ∨ ∃ host, Cond.fieldLinkNest own index (r.2.1 k).1 (r.2.1 k).2.1 (r.2.1 k).2.2.1 host ∈ lw_tbl)
theorem ps_putT {index ci k f i : Nat} {ty : FieldType} {fs : List (Option Nat)} {x : Int32} (hd : decode (ps_code M) pc = .ok (.putfield index, 3)) (hf : ps_fp (ps_own M) index ci k ty) (hs : (ps_sh f).2 = .inl (ci, fs)) (hk : fs[k]? = some none) (hn : narrow ty (.int x) = .int x) (hfit : fits ty (.int x) = true) (kk : ps_K M d F (pc + 3) L st (ps_up σ f i k x)) : ps_K M d F pc L (.inl x :: .inr (.inr (f, i)) :: st) σ := by
  intro G p l e R s m args below meth c H locs ls hI
  obtain ⟨r, hr, hkr, hfin, hty, hw⟩ := hf
  obtain ⟨q0, hq1, hq⟩ := ps_at_obj (G := G) σ hs (hI.2.2.1 _ (List.mem_cons_of_mem _ List.mem_cons_self))
  have hts : ∀ w ∈ u_ws r.1 r.2.1 r.2.2, w.before args s = true := fun w hw => hI.1.2.2.2.2.2.1 w (ps_lays ci r hr w hw).1 (ps_lays ci r hr w hw).2
  obtain ⟨⟨ty0, hty0⟩, hnm⟩ := ps_names ci r hr
  have hlen : k < (fs.mapIdx (ps_fld G (σ f i) i)).length := by rw [List.length_mapIdx]; exact (List.getElem?_eq_some_iff.mp hk).1
  have fin : ∀ (H1 : Heap) (locs1 : List Loc), va_P G.2.1 ps_cls ((ps_ws G σ).set q0 (G.1 f i, .inr (ci, (fs.mapIdx (ps_fld G (σ f i) i)).set k (.int x)))) H1 → va_D (ps_A G) ((ps_ws G σ).set q0 (G.1 f i, .inr (ci, (fs.mapIdx (ps_fld G (σ f i) i)).set k (.int x)))) → va_S (ps_A G) s.heap H1 locs1 → W p l e R s m args below meth c H1 locs1 (ps_cs M) (ps_ss M) (F G s args below) (F0 m (pc + 3) ls (st.map (ps_cv G))) := by
    intro H1 locs1 h1 h2 h3
    rw [ps_ws_set (x := x) (j := k) hq1 (by rw [ps_E_obj hs, ps_fset hk])] at h1 h2
    exact kk G p l e R s m args below meth c H1 locs1 ls ⟨hI.1, hI.2.1, ps_ok_t2 hI.2.2.1, h1, h2, h3⟩
  rcases hw with hw | ⟨host, hw⟩
  · exact va_put (own := ps_own M) (ref := (r.2.1 k).1) (C := r.1) (T := r.2.1) (N := r.2.2) hI.1.1 hI.1.2.1 hts (fun _ h => h) ty0 hty0 hnm hI.1.2.2.2.2.1 hI.1.2.2.2.2.2.2.2.2.1 hI.2.2.2.1 hI.2.2.2.2.1 hI.2.2.2.2.2 q0 hq hr k hkr (hI.1.2.2.2.2.2.1 _ hw rfl) (fun _ h => h) hfin hty hn hfit hlen hd fin
  · exact va_putN (own := ps_own M) (ref := (r.2.1 k).1) (C := r.1) (host := host) (T := r.2.1) (N := r.2.2) hI.1.1 hI.1.2.1 hts (fun _ h => h) ty0 hty0 hnm hI.1.2.2.2.2.1 hI.1.2.2.2.2.2.2.2.2.1 hI.2.2.2.1 hI.2.2.2.2.1 hI.2.2.2.2.2 q0 hq hr k hkr (va_Nw.use rfl (hI.1.2.2.2.2.2.2.2.2.2.2 _ _ _ _ _ _ hw)) (fun _ h => h) hfin hty hn hfit hlen hd fin
theorem ps_putI {index ci k f i : Nat} {fs : List (Option Nat)} {x : Int32} (hd : decode (ps_code M) pc = .ok (.putfield index, 3)) (hf : ps_fp (ps_own M) index ci k .int) (hs : (ps_sh f).2 = .inl (ci, fs)) (hk : fs[k]? = some none) (kk : ps_K M d F (pc + 3) L st (ps_up σ f i k x)) : ps_K M d F pc L (.inl x :: .inr (.inr (f, i)) :: st) σ :=
  ps_putT hd hf hs hk rfl rfl kk
theorem ps_bit_n {x : Int32} (h : x = 0 ∨ x = 1) : narrow .boolean (.int x) = .int x := by rcases h with rfl | rfl <;> rfl
theorem ps_bit_f {x : Int32} (h : x = 0 ∨ x = 1) : fits .boolean (.int x) = true := by rcases h with rfl | rfl <;> rfl
theorem ps_putZ {index ci k f i : Nat} {fs : List (Option Nat)} {x : Int32} (hd : decode (ps_code M) pc = .ok (.putfield index, 3)) (hf : ps_fp (ps_own M) index ci k .boolean) (hs : (ps_sh f).2 = .inl (ci, fs)) (hk : fs[k]? = some none) (hx : x = 0 ∨ x = 1) (kk : ps_K M d F (pc + 3) L st (ps_up σ f i k x)) : ps_K M d F pc L (.inl x :: .inr (.inr (f, i)) :: st) σ :=
  ps_putT hd hf hs hk (ps_bit_n hx) (ps_bit_f hx) kk
-- arrays
theorem ps_iald {f i n : Nat} {j : Int32} (hd : decode (ps_code M) pc = .ok (.iaload, 1)) (hs : (ps_sh f).2 = .inr (0, n, none)) (hin : vp_in j n) (kk : ps_K M d F (pc + 1) L (.inl (σ f i j.toNatClampNeg) :: st) σ) : ps_K M d F pc L (.inl j :: .inr (.inr (f, i)) :: st) σ := by
  intro G p l e R s m args below meth c H locs ls hI
  have hn : n ≠ 0 := fun h => hin (Or.inr (by omega))
  obtain ⟨q0, hq1, hq⟩ := ps_at_arr (G := G) σ hs hn (hI.2.2.1 _ (List.mem_cons_of_mem _ List.mem_cons_self))
  exact va_iald hI.1.1 hI.1.2.1 hI.1.2.2.2.2.2.2.2.2.1 hI.2.2.2.1 q0 0 hq rfl hin hd (kk G p l e R s m args below meth c H locs ls (hI.to (ps_ok_i (ps_ok_t2 hI.2.2.1))))
theorem ps_zald {f i n : Nat} {j : Int32} (hd : decode (ps_code M) pc = .ok (.baload, 1)) (hs : (ps_sh f).2 = .inr (1, n, none)) (hin : vp_in j n) (kk : ps_K M d F (pc + 1) L (.inl (σ f i j.toNatClampNeg) :: st) σ) : ps_K M d F pc L (.inl j :: .inr (.inr (f, i)) :: st) σ := by
  intro G p l e R s m args below meth c H locs ls hI
  have hn : n ≠ 0 := fun h => hin (Or.inr (by omega))
  obtain ⟨q0, hq1, hq⟩ := ps_at_arr (G := G) σ hs hn (hI.2.2.1 _ (List.mem_cons_of_mem _ List.mem_cons_self))
  exact va_zald hI.1.1 hI.1.2.1 hI.1.2.2.2.2.2.2.2.2.1 hI.2.2.2.1 q0 1 hq rfl hin hd (kk G p l e R s m args below meth c H locs ls (hI.to (ps_ok_i (ps_ok_t2 hI.2.2.1))))
theorem ps_iast {f i n : Nat} {j x : Int32} (hd : decode (ps_code M) pc = .ok (.iastore, 1)) (hs : (ps_sh f).2 = .inr (0, n, none)) (hin : vp_in j n) (kk : ps_K M d F (pc + 1) L st (ps_up σ f i j.toNatClampNeg x)) : ps_K M d F pc L (.inl x :: .inl j :: .inr (.inr (f, i)) :: st) σ := by
  intro G p l e R s m args below meth c H locs ls hI
  have hn : n ≠ 0 := fun h => hin (Or.inr (by omega))
  obtain ⟨q0, hq1, hq⟩ := ps_at_arr (G := G) σ hs hn (hI.2.2.1 _ (List.mem_cons_of_mem _ (List.mem_cons_of_mem _ List.mem_cons_self)))
  refine va_iast hI.1.1 hI.1.2.1 hI.1.2.2.2.2.2.2.2.2.1 hI.2.2.2.1 hI.2.2.2.2.1 hI.2.2.2.2.2 q0 0 hq rfl hin hd (fun H1 locs1 h1 h2 h3 => ?_)
  rw [ps_ws_set (x := x) (j := j.toNatClampNeg) hq1 (by rw [ps_E_arr hs])] at h1 h2
  exact kk G p l e R s m args below meth c H1 locs1 ls ⟨hI.1, hI.2.1, ps_ok_t (ps_ok_t2 hI.2.2.1), h1, h2, h3⟩
theorem ps_zast {f i n : Nat} {j x : Int32} (hd : decode (ps_code M) pc = .ok (.bastore, 1)) (hs : (ps_sh f).2 = .inr (1, n, none)) (hin : vp_in j n) (hx : x = 0 ∨ x = 1) (kk : ps_K M d F (pc + 1) L st (ps_up σ f i j.toNatClampNeg x)) : ps_K M d F pc L (.inl x :: .inl j :: .inr (.inr (f, i)) :: st) σ := by
  intro G p l e R s m args below meth c H locs ls hI
  have hn : n ≠ 0 := fun h => hin (Or.inr (by omega))
  have hx2 : vp_nar .boolean x = x := by unfold vp_nar; rw [ps_bit_n hx]
  obtain ⟨q0, hq1, hq⟩ := ps_at_arr (G := G) σ hs hn (hI.2.2.1 _ (List.mem_cons_of_mem _ (List.mem_cons_of_mem _ List.mem_cons_self)))
  refine va_zast hI.1.1 hI.1.2.1 hI.1.2.2.2.2.2.2.2.2.1 hI.2.2.2.1 hI.2.2.2.2.1 hI.2.2.2.2.2 q0 1 hq rfl hin hd (fun H1 locs1 h1 h2 h3 => ?_)
  rw [hx2, ps_ws_set (x := x) (j := j.toNatClampNeg) hq1 (by rw [ps_E_arr hs])] at h1 h2
  exact kk G p l e R s m args below meth c H1 locs1 ls ⟨hI.1, hI.2.1, ps_ok_t (ps_ok_t2 hI.2.2.1), h1, h2, h3⟩
theorem ps_aald {f i n g ay : Nat} {j : Int32} (hd : decode (ps_code M) pc = .ok (.aaload, 1)) (hs : (ps_sh f).2 = .inr (ay, n, some g)) (hay : ay = 2 ∨ ay = 3) (hin : vp_in j n) (kk : ps_K M d F (pc + 1) L (.inr (.inr (g, n * i + j.toNatClampNeg)) :: st) σ) : ps_K M d F pc L (.inl j :: .inr (.inr (f, i)) :: st) σ := by
  intro G p l e R s m args below meth c H locs ls hI
  have ho := hI.2.2.1 _ (List.mem_cons_of_mem _ List.mem_cons_self)
  obtain ⟨q0, hq1, hq⟩ := ps_at_ref (G := G) σ hs ho
  have hlt : j.toNatClampNeg < n := Nat.not_le.mp fun q => hin (Or.inr q)
  have hcell := hI.2.2.2.1 q0 _ hq
  have hok : ps_ok (.inr (.inr (g, n * i + j.toNatClampNeg))) := by
    have hi := ps_live ho hs (by simp)
    have ht := ps_tab (f := f) (by omega)
    unfold ps_tabB at ht
    rw [hs] at ht
    have h2 : ps_cnt g = n * ps_cnt f := by simpa using ht
    refine Or.inl ?_
    show n * i + j.toNatClampNeg < ps_cnt g
    rw [h2]
    calc n * i + j.toNatClampNeg < n * i + n := by omega
      _ = n * (i + 1) := by rw [Nat.mul_add, Nat.mul_one]
      _ ≤ n * ps_cnt f := Nat.mul_le_mul_left _ hi
  have kk2 := kk G p l e R s m args below meth c H locs ls (hI.to (ps_ok_c hok (ps_ok_t2 hI.2.2.1)))
  have key : ∀ (ty : FieldType), ty.isReference = true → ArrOfT s (G.2.2 ay) ty → W p l e R s m args below meth c H locs (ps_cs M) (ps_ss M) (F G s args below) (F0 m pc ls (.int j :: .ref (G.1 f i) :: st.map (ps_cv G))) := by
    intro ty hty harr
    refine W.aald (v := .ref (G.1 g (n * i + j.toNatClampNeg))) (ty := ty) hI.1.1 hI.1.2.1 hcell (harr n _) hty (fun q => by cases q) (by show ¬ (j < 0 ∨ (arrV _ _ _).slots.size ≤ _); rw [arrV_size]; exact hin) (by show (arrV _ _ _).slots[_]? = _; rw [arrV_read _ _ hlt]; simp [va_rf, hlt]) rfl rfl hd kk2
  rcases hay with rfl | rfl
  · exact key _ rfl (hI.1.2.2.2.2.2.2.2.2.1.2 2 _ rfl).1
  · exact key _ rfl (hI.1.2.2.2.2.2.2.2.2.1.2 3 _ rfl).1
theorem ps_alen {f i n : Nat} {x : Int32} (hd : decode (ps_code M) pc = .ok (.arraylength, 1)) (hs : (ps_sh f).2 = .inr (0, n, none)) (hn : n ≠ 0) (hx : Int32.ofNat n = x) (kk : ps_K M d F (pc + 1) L (.inl x :: st) σ) : ps_K M d F pc L (.inr (.inr (f, i)) :: st) σ := by
  intro G p l e R s m args below meth c H locs ls hI
  obtain ⟨q0, hq1, hq⟩ := ps_at_arr (G := G) σ hs hn (hI.2.2.1 _ List.mem_cons_self)
  exact va_alen hI.1.1 hI.1.2.1 hI.1.2.2.2.2.2.2.2.2.1 hI.2.2.2.1 q0 0 hq rfl hx hd (kk G p l e R s m args below meth c H locs ls (hI.to (ps_ok_i (ps_ok_t hI.2.2.1))))
end PSL
end
section
/-! ===== the rules: calls, returns, a method's entry, the script ===== -/
section PSC
variable {M M2 : ps_M} {d pc : Nat} {F : ps_F} {L L' : ps_L} {st : List ps_V} {σ : ps_S}
theorem ps_nest_warm {s U : State} (hW : s.WarmedH U.vm) (h : ps_nest s) : ps_nest U := fun a i b n d x hw => va_Nw.warmF hW (h a i b n d x hw)
theorem ps_Pre_blind {G : ps_G} (av : List Value) : FrameBlind (va_Pc av (ps_Pre G σ)) := by
  intro a U g mk q
  obtain ⟨q0, q1, q2, q3, q4⟩ := q
  refine ⟨q0, ?_, va_K.moved (u := U) (U := U.calling g mk a) (Vm.Alike.refl U.vm) q2, q3, ?_⟩
  · exact q1
  · intro x i b n d' h hw
    exact va_Nw.same (w := .fieldLinkNest x i b n d' h) rfl (show U.vm = (U.calling g mk a).vm from rfl) (q4 x i b n d' h hw)
/-- what a call of M2 at this entry of the pool needs of the tables -/
def ps_cB (own : String) (index : Nat) (M2 : ps_M) (n : Nat) : Prop :=
  Cond.methodLink own index (ps_y M2) ∈ lw_tbl ∧ Cond.initialized (ps_y M2).cls ∈ lw_tbl ∧ Cond.code (ps_y M2) (ps_code M2) (ps_maxL M2) (ps_ret M2) ∈ lw_tbl ∧
  ((ps_y M2).cls ≠ "java/lang/invoke/MethodHandle" ∧ (ps_y M2).cls ≠ "java/lang/invoke/VarHandle") ∧ (parseMethodDescriptor (ps_y M2).desc).map (fun d => d.parameters.length) = some n ∧ ps_maxL M2 ≤ 21
def ps_cV (own : String) (index : Nat) (M2 : ps_M) (n ci : Nat) : Prop :=
  ps_cB own index M2 n ∧ Cond.instanceMethod (ps_y M2) ∈ lw_tbl ∧ Cond.selects (ps_y M2).cls (ps_y M2) (ps_y M2) ∈ lw_tbl ∧ ∃ r : vw_C, ps_cls[ci]? = some r ∧ r.1 = (ps_y M2).cls
def ps_cS (own : String) (index : Nat) (M2 : ps_M) (n : Nat) : Prop := ps_cB own index M2 n ∧ Cond.static (ps_y M2) ∈ lw_tbl
theorem ps_callB {G : ps_G} {p : Program} {R : Room} {s : State} {m : MethodId} {args : Array Value} {meth : Method} {c : Code} {H : Heap} {locs : List Loc} {ls : Array Slot} {index n : Nat} (hI : ps_I M (d + 1) G p R s m args meth c H locs ls L st σ) (hc : ps_cB (ps_own M) index M2 n) :
    CallB R s args (ps_own M) index (ps_y M2) (ps_code M2) (ps_maxL M2) (ps_ret M2) (ps_words M2) (ps_rm d) 0 0 n := by
  obtain ⟨h1, h2, h3, h4, h5, h6⟩ := hc
  have ht : ∀ w ∈ lw_tbl.filter goodWord, w.before args s = true := fun w hw => hI.1.2.2.2.2.2.1 w (List.mem_filter.mp hw).1 (List.mem_filter.mp hw).2
  have hr := hI.1.2.2.2.2.2.2.2.1
  refine callB_of (Ts := lw_tbl.filter goodWord) n ht (ps_goodIn h3) rfl rfl rfl (hI.1.2.2.2.2.2.1 _ h2 rfl) (hI.1.2.2.2.2.2.1 _ h1 rfl) ⟨h4.1, h4.2, h5⟩ ⟨hr.1, ?_⟩
  show 8 + (ps_maxL M2 + 11) + 40 * d ≤ R.locals
  have := hr.2.1
  omega
theorem ps_fix {G : ps_G} {p : Program} {R : Room} {s : State} {m : MethodId} {args : Array Value} {meth : Method} {c : Code} {H : Heap} {locs : List Loc} {ls : Array Slot} (hI : ps_I M d G p R s m args meth c H locs ls L st σ) : CallFix p m c (ps_code M) (ps_maxL M) s args (lw_tbl.filter goodWord) (ps_own M) :=
  ⟨hI.1.1, hI.1.2.1, hI.1.2.2.1, hI.1.2.2.2.2.1, fun w hw => hI.1.2.2.2.2.2.1 w (List.mem_filter.mp hw).1 (List.mem_filter.mp hw).2⟩
theorem ps_go {G : ps_G} {p : Program} {l : Launch} {e : Env} {R : Room} {s : State} {m : MethodId} {args : Array Value} {below : List Frame} {meth : Method} {c : Code} {H : Heap} {locs : List Loc} {ls : Array Slot} {st0 rest : List Value} {a : Array Value} {Q : Option ps_V → ps_S → Prop} {Z : State → Prop} {cs ss : Nat}
    (hr : va_Run p l e R s m args below meth c H locs cs ss 0 0 (F0 m pc ls st0) rest (ps_Qc G Q a) (ps_A G)) (hS : va_S (ps_A G) s.heap H locs)
    (kk : ∀ (r : Option ps_V) (σ' : ps_S) (H1 : Heap) (locs1 : List Loc), (∀ v, r = some v → ps_ok v) → Q r σ' → va_P G.2.1 ps_cls (ps_ws G σ') H1 → va_S (ps_A G) s.heap H1 locs1 → W p l e R s m args below meth c H1 locs1 cs ss Z (F0 m (pc + 3) ls ((r.map (ps_cv G)).toList ++ rest))) : W p l e R s m args below meth c H locs cs ss Z (F0 m pc ls st0) := by
  intro T hT X
  obtain ⟨v, st₀, t, T', Lc, h0, X', hL, e1, e2, ⟨⟨r, σ', hv, hok, hq, hP⟩, hz, hk⟩, st⟩ := hr T hT X
  cases hv
  rw [h0] at hz hk
  obtain ⟨t2, a1, b1⟩ := kk r σ' T'.heap (locs ++ Lc) hok hq (by rw [e1]; exact hP)
    ⟨Nat.le_trans hS.1 (by rw [e1]; exact hz), fun q h1 h2 => by rw [e1, hk q (Nat.lt_of_lt_of_le h1 hS.1) h2]; exact hS.2.1 q h1 h2, fun q hq => by
      rcases List.mem_append.mp hq with h | h
      · exact hS.2.2 q h
      · exact hL q h⟩ T' rfl X'
  exact ⟨t2, st t2 a1, b1⟩
theorem ps_after {G : ps_G} {p : Program} {l : Launch} {e : Env} {R : Room} {s : State} {m : MethodId} {args : Array Value} {below : List Frame} {meth : Method} {c : Code} {H : Heap} {locs : List Loc} {ls : Array Slot} (hI : ps_I M d G p R s m args meth c H locs ls L st σ) {rest : List ps_V} (hrest : ∀ v ∈ rest, ps_ok v)
    {r : Option ps_V} {σ' : ps_S} {H1 : Heap} {locs1 : List Loc} (hok : ∀ v, r = some v → ps_ok v) (hP : va_P G.2.1 ps_cls (ps_ws G σ') H1) (hS : va_S (ps_A G) s.heap H1 locs1) (k : ps_K M d F (pc + 3) L (r.toList ++ rest) σ') : W p l e R s m args below meth c H1 locs1 (ps_cs M) (ps_ss M) (F G s args below) (F0 m (pc + 3) ls ((r.map (ps_cv G)).toList ++ rest.map (ps_cv G))) := by
  have h := k G p l e R s m args below meth c H1 locs1 ls ⟨hI.1, hI.2.1, fun v hv => ?_, hP, ps_D_of hI.2.2.2.2.1, hS⟩
  · cases r with
    | none => exact h
    | some v => exact h
  · rcases List.mem_append.mp hv with hv | hv
    · cases r with
      | none => cases hv
      | some w => exact hok v (by simp at hv; rw [hv])
    · exact hrest v hv
/-- a method of an object -/
theorem ps_callV {index n ci f i : Nat} {fs : List (Option Nat)} {av rest : List ps_V} (hd : decode (ps_code M) pc = .ok (.invokevirtual index, 3)) (hc : ps_cV (ps_own M) index M2 n ci) (hs : (ps_sh f).2 = .inl (ci, fs)) (hn : av.length = n) (hst : st = av.reverse ++ .inr (.inr (f, i)) :: rest) (hrm : ∀ G : ps_G, ((rest.map (ps_cv G)).map fun v => v.category).sum ≤ 8)
    (k : ps_C M2 d (.inr (.inr (f, i)) :: av) σ (fun r σ' => ps_K M (d + 1) F (pc + 3) L (r.toList ++ rest) σ')) : ps_K M (d + 1) F pc L st σ := by
  subst hst
  intro G p l e R s m args below meth c H locs ls hI
  obtain ⟨hcb, hin, hse, rC, hrC, hrn⟩ := hc
  have hcB := ps_callB (M2 := M2) hI hcb
  have hoks := hI.2.2.1
  have hor : ps_ok (.inr (.inr (f, i))) := hoks _ (List.mem_append_right _ List.mem_cons_self)
  have hav : ∀ v ∈ ((.inr (.inr (f, i)) : ps_V) :: av), ps_ok v := fun v hv => by
    rcases List.mem_cons.mp hv with h | h
    · subst h; exact hor
    · exact hoks v (List.mem_append_left _ (List.mem_reverse.mpr h))
  have hrest : ∀ v ∈ rest, ps_ok v := fun v hv => hoks v (List.mem_append_right _ (List.mem_cons_of_mem _ hv))
  have hM := k hav G l
  obtain ⟨q0, -, hq⟩ := ps_at_obj (G := G) σ hs hor
  have hrecv := va_recv hI.1.2.2.2.2.2.2.2.2.1 hI.2.2.2.1 hrC hq
  rw [hrn] at hrecv
  have hR := hI.1.2.2.2.2.2.2.2.1
  refine ps_go (va_runV (b := G.1 f i) (As := av.map (ps_cv G)) (rest := rest.map (ps_cv G)) (ps_fix hI) hM ⟨hcB, hI.1.2.2.2.2.2.1 _ hin rfl, hI.1.2.2.2.2.2.1 _ hse rfl⟩ ⟨ps_Pre_blind _, hrecv, fun U hU hW => ⟨rfl, by rw [hU]; exact hI.2.2.2.1, va_K.moved hW.alike hI.1.2.2.2.2.2.2.2.2.1, hI.2.2.2.2.1, ps_nest_warm hW hI.1.2.2.2.2.2.2.2.2.2.2⟩⟩ rfl (by rw [List.length_map]; exact hn) hI.2.1.1 (by simp [ps_cv]) (lv_room (hrm G)) hd ⟨by rw [Nat.add_zero]; exact hR.2.2.1, by rw [Nat.add_zero]; exact hR.2.2.2⟩) hI.2.2.2.2.2 (fun r σ' H1 locs1 hok hq hP hS => ps_after hI hrest hok hP hS hq)
/-- a static method -/
theorem ps_callS {index n : Nat} {av rest : List ps_V} (hd : decode (ps_code M) pc = .ok (.invokestatic index, 3)) (hc : ps_cS (ps_own M) index M2 n) (hn : av.length = n) (hst : st = av.reverse ++ rest) (hrm : ∀ G : ps_G, ((rest.map (ps_cv G)).map fun v => v.category).sum ≤ 8)
    (k : ps_C M2 d av σ (fun r σ' => ps_K M (d + 1) F (pc + 3) L (r.toList ++ rest) σ')) : ps_K M (d + 1) F pc L st σ := by
  subst hst
  intro G p l e R s m args below meth c H locs ls hI
  obtain ⟨hcb, hst⟩ := hc
  have hcB := ps_callB (M2 := M2) hI hcb
  have hoks := hI.2.2.1
  have hav : ∀ v ∈ av, ps_ok v := fun v h => hoks v (List.mem_append_left _ (List.mem_reverse.mpr h))
  have hrest : ∀ v ∈ rest, ps_ok v := fun v hv => hoks v (List.mem_append_right _ hv)
  have hM := k hav G l
  have hR := hI.1.2.2.2.2.2.2.2.1
  refine ps_go (va_runS (As := av.map (ps_cv G)) (rest := rest.map (ps_cv G)) (ps_fix hI) hM ⟨hcB, hI.1.2.2.2.2.2.1 _ hst rfl⟩ ⟨ps_Pre_blind _, fun U hU hW => ⟨rfl, by rw [hU]; exact hI.2.2.2.1, va_K.moved hW.alike hI.1.2.2.2.2.2.2.2.2.1, hI.2.2.2.2.1, ps_nest_warm hW hI.1.2.2.2.2.2.2.2.2.2.2⟩⟩ rfl (by rw [List.length_map]; exact hn) hI.2.1.1 (by simp) (lv_room (hrm G)) hd ⟨by rw [Nat.add_zero]; exact hR.2.2.1, by rw [Nat.add_zero]; exact hR.2.2.2⟩) hI.2.2.2.2.2 (fun r σ' H1 locs1 hok hq hP hS => ps_after hI hrest hok hP hS hq)
-- returns
theorem ps_iretT {x : Int32} {ty : FieldType} {Q : Option ps_V → ps_S → Prop} (hd : decode (ps_code M) pc = .ok (.ireturn, 1)) (hr : ps_ret M = some ty) (h0 : ps_cs M = 0 ∧ ps_ss M = 0) (hn : narrow ty (.int x) = .int x) (hq : Q (some (.inl x)) σ) : ps_K M d (ps_QF Q) pc L [.inl x] σ := by
  intro G p l e R s m args below meth c H locs ls hI
  rw [h0.1, h0.2]
  exact W.zret (v := x) hI.1.1 hI.1.2.1 (hI.1.2.2.2.1.trans hr) hn (fun t ht hW => ⟨⟨some (.inl x), σ, rfl, fun v hv => by cases hv; exact trivial, hq, by rw [ht]; exact hI.2.2.2.1⟩, hI.2.2.2.2.2.F ht⟩) hI.2.2.2.2.2.2.2 hd (hI.1.2.2.2.2.2.2.1)
theorem ps_iret {x : Int32} {Q : Option ps_V → ps_S → Prop} (hd : decode (ps_code M) pc = .ok (.ireturn, 1)) (hr : ps_ret M = some .int) (h0 : ps_cs M = 0 ∧ ps_ss M = 0) (hq : Q (some (.inl x)) σ) : ps_K M d (ps_QF Q) pc L [.inl x] σ := ps_iretT hd hr h0 rfl hq
theorem ps_zret {x : Int32} {Q : Option ps_V → ps_S → Prop} (hd : decode (ps_code M) pc = .ok (.ireturn, 1)) (hr : ps_ret M = some .boolean) (h0 : ps_cs M = 0 ∧ ps_ss M = 0) (hx : x = 0 ∨ x = 1) (hq : Q (some (.inl x)) σ) : ps_K M d (ps_QF Q) pc L [.inl x] σ := ps_iretT hd hr h0 (ps_bit_n hx) hq
theorem ps_vret {Q : Option ps_V → ps_S → Prop} (hd : decode (ps_code M) pc = .ok (.return_, 1)) (hr : ps_ret M = none) (h0 : ps_cs M = 0 ∧ ps_ss M = 0) (hq : Q none σ) : ps_K M d (ps_QF Q) pc L [] σ := by
  intro G p l e R s m args below meth c H locs ls hI
  rw [h0.1, h0.2]
  exact W.vret hI.1.1 hI.1.2.1 (hI.1.2.2.2.1.trans hr) (fun t ht hW => ⟨⟨none, σ, rfl, fun v hv => (by cases hv), hq, by rw [ht]; exact hI.2.2.2.1⟩, hI.2.2.2.2.2.F ht⟩) hI.2.2.2.2.2.2.2 hd (hI.1.2.2.2.2.2.2.1)
theorem ps_aret {q : Nat × Nat} {C : String} {Q : Option ps_V → ps_S → Prop} (hd : decode (ps_code M) pc = .ok (.areturn, 1)) (hr : ps_ret M = some (.object C)) (h0 : ps_cs M = 0 ∧ ps_ss M = 0) (hq : Q (some (.inr (.inr q))) σ) : ps_K M d (ps_QF Q) pc L [.inr (.inr q)] σ := by
  intro G p l e R s m args below meth c H locs ls hI
  rw [h0.1, h0.2]
  exact W.aret (v := .ref (G.1 q.1 q.2)) hI.1.1 hI.1.2.1 (hI.1.2.2.2.1.trans hr) (Or.inl ⟨C, rfl⟩) (Or.inr ⟨_, rfl⟩) (fun t ht hW => ⟨⟨some (.inr (.inr q)), σ, rfl, fun v hv => by cases hv; exact hI.2.2.1 _ List.mem_cons_self, hq, by rw [ht]; exact hI.2.2.2.1⟩, hI.2.2.2.2.2.F ht⟩) hI.2.2.2.2.2.2.2 hd (hI.1.2.2.2.2.2.2.1)
-- entry
def ps_c1 (v : ps_V) : Bool := match v with
  | .inr (.inl _) => false
  | _ => true
theorem ps_cat1 {G : ps_G} {v : ps_V} (h : ps_c1 v = true) : (ps_cv G v).category = 1 := by
  match v, h with
  | .inl _, _ => rfl
  | .inr (.inr _), _ => rfl
theorem ps_enter {av : List ps_V} {Q : Option ps_V → ps_S → Prop} (hy : plainName (ps_y M).cls = true) (ho : (ps_y M).cls = ps_own M) (h0 : ps_cs M = 0 ∧ ps_ss M = 0 ∧ ps_sc M = none) (hc : av.all ps_c1 = true) (hl : av.length ≤ ps_maxL M) (k : ps_K M d (ps_QF Q) 0 (av.map some ++ List.replicate (ps_maxL M - av.length) none) [] σ) : ps_C M d av σ Q := by
  intro hav G l
  refine Met.ofW (cc := ps_code M) (maxL := ps_maxL M) (ret := ps_ret M) hy rfl ?_
  intro p e s m args below meth c s₁ B hml hv
  obtain ⟨rfl, hP, hK, hD, hN⟩ := hv
  have hts := atoms_spec (ws := ps_words M) B.pre
  have hown : s.vm.findClass (ps_y M).cls = some m.cls := findClass_of_methodNamed B.named
  rw [ho] at hown
  have hcat : ∀ v ∈ av.map (ps_cv G), v.category = 1 := fun v hv => by
    obtain ⟨u, hu, rfl⟩ := List.mem_map.mp hv
    exact ps_cat1 (List.all_eq_true.mp hc u hu)
  have hsl : ∀ vs : List Value, (∀ v ∈ vs, v.category = 1) → lg_sl vs = vs.map Slot.val := by
    intro vs
    induction vs with
    | nil => intro _; rfl
    | cons v t ih =>
      intro h
      have h1 := h v List.mem_cons_self
      have h2 := ih (fun w hw => h w (List.mem_cons_of_mem _ hw))
      show (if v.category = 2 then [Slot.val v, .second] else [.val v]) ++ lg_sl t = _
      rw [h2, h1]
      rfl
  have hle : (lg_sl (av.map (ps_cv G))).length ≤ ps_maxL M := by rw [hsl _ hcat]; simpa using hl
  have hlv := lv_entry (av.map (ps_cv G)) (n := ps_maxL M) hle
  have hls : (lg_sl (av.map (ps_cv G)) ++ List.replicate (ps_maxL M - (lg_sl (av.map (ps_cv G))).length) Slot.unset).toArray = ((av.map (fun v => Slot.val (ps_cv G v))) ++ List.replicate (ps_maxL M - av.length) Slot.unset).toArray := by
    rw [hsl _ hcat]
    simp [List.map_map]
  rw [lg_entry_eq]
  rw [hls] at hlv ⊢
  have hk := k G p l e (headSpec (ps_words M) (ps_rm d)).room s m ((av.map (ps_cv G)).toArray) below meth c s.heap [] ((av.map (fun v => Slot.val (ps_cv G v))) ++ List.replicate (ps_maxL M - av.length) Slot.unset).toArray
    ⟨⟨B.exec, B.bytes, hml, B.returns, hown, fun w hw hg => hts w (List.mem_cons_of_mem _ (List.mem_filter.mpr ⟨hw, hg⟩)), B.notSynchronized, ⟨Nat.le_refl _, Nat.le_refl _, by rw [h0.1]; exact Nat.zero_le _, by rw [h0.2.1]; exact Nat.zero_le _⟩, hK, by rw [h0.2.2]; exact trivial, hN⟩, ⟨hlv.1, hlv.2.1, fun i v hv => ?_⟩, fun v hv => (by cases hv), hP, hD, va_S.rf⟩
  · rw [h0.1, h0.2.1] at hk
    exact hk
  · rcases Nat.lt_or_ge i av.length with q | q
    · rw [List.getElem?_append_left (by simpa using q), List.getElem?_map] at hv
      have hvi : av[i]? = some v := by
        cases hh : av[i]? with
        | none => rw [hh] at hv; cases hv
        | some w => rw [hh] at hv; cases hv; rfl
      have hmem := List.mem_of_getElem? hvi
      refine ⟨?_, ps_cat1 (List.all_eq_true.mp hc v hmem), hav v hmem⟩
      rw [List.getElem?_toArray, List.getElem?_append_left (by simpa using q), List.getElem?_map, hvi]
      rfl
    · rw [List.getElem?_append_right (by simpa using q)] at hv
      have := List.mem_of_getElem? hv
      exact absurd (List.eq_of_mem_replicate this) (by simp)
-- a contract's end may be weakened, and its depth grown
theorem ps_C.imp {av : List ps_V} {Q Q' : Option ps_V → ps_S → Prop} (h : ∀ r σ', Q r σ' → Q' r σ') (k : ps_C M d av σ Q) : ps_C M d av σ Q' := by
  intro hav G l p e ha hcas hck s m args below hf happ hpre hx
  obtain ⟨t, o, h1, h2, h3, ⟨⟨⟨r, σ', a1, a2, a3, a4⟩, a5⟩, h5⟩⟩ := k hav G l p e ha hcas hck s m args below hf happ hpre hx
  exact ⟨t, o, h1, h2, h3, ⟨⟨⟨r, σ', a1, a2, h r σ' a3, a4⟩, a5⟩, h5⟩⟩
-- the script
theorem ps_sld {n : Nat} {xs : Nat → Int32} {j : Int32} (hd : decode (ps_code M) pc = .ok (.iaload, 1)) (hs : ps_sc M = some (n, xs)) (hin : vp_in j n) (k : ps_K M d F (pc + 1) L (.inl (xs j.toNatClampNeg) :: st) σ) : ps_K M d F pc L (.inl j :: .inr (.inr (0, 0)) :: st) σ := by
  intro G p l e R s m args below meth c H locs ls hI
  have hX := hI.1.2.2.2.2.2.2.2.2.2.1
  rw [hs] at hX
  exact va_sld hI.1.1 hI.1.2.1 hX.2.2 hX.2.1 hX.1 hI.2.2.2.2.2 hin hd (k G p l e R s m args below meth c H locs ls (hI.to (ps_ok_i (ps_ok_t2 hI.2.2.1))))
theorem ps_slen {n : Nat} {xs : Nat → Int32} (hd : decode (ps_code M) pc = .ok (.arraylength, 1)) (hs : ps_sc M = some (n, xs)) (k : ps_K M d F (pc + 1) L (.inl (Int32.ofNat n) :: st) σ) : ps_K M d F pc L (.inr (.inr (0, 0)) :: st) σ := by
  intro G p l e R s m args below meth c H locs ls hI
  have hX := hI.1.2.2.2.2.2.2.2.2.2.1
  rw [hs] at hX
  exact va_slen hI.1.1 hI.1.2.1 hX.2.2 hX.2.1 hX.1 hI.2.2.2.2.2 hd (k G p l e R s m args below meth c H locs ls (hI.to (ps_ok_i (ps_ok_t hI.2.2.1))))
-- System.arraycopy of a whole int array
theorem ps_copy {f g n index : Nat} {x : Int32} (hd : decode (ps_code M) pc = .ok (.invokestatic index, 3)) (hl : Cond.methodLink (ps_own M) index arraycopyName ∈ lw_tbl) (hf : (ps_sh f).2 = .inr (0, n, none)) (hg : (ps_sh g).2 = .inr (0, n, none)) (hn : n ≠ 0) (hx : x.toNatClampNeg = n ∧ ¬ x < 0) {i j : Nat}
    (k : ps_K M (d + 1) F (pc + 3) L [] (fun f' k' j' => if f' = g ∧ k' = j ∧ j' < n then σ f i j' else σ f' k' j')) : ps_K M (d + 1) F pc L [.inl x, .inl 0, .inr (.inr (g, j)), .inl 0, .inr (.inr (f, i))] σ := by
  intro G p l e R s m args below meth c H locs ls hI
  obtain ⟨q0, hq1, hq⟩ := ps_at_arr (G := G) σ hf hn (hI.2.2.1 (.inr (.inr (f, i))) (by simp))
  obtain ⟨q2, hq3, hq4⟩ := ps_at_arr (G := G) σ hg hn (hI.2.2.1 (.inr (.inr (g, j))) (by simp))
  have hR := hI.1.2.2.2.2.2.2.2.1
  refine va_copyi (sp := 0) (dp := 0) (n := x) hI.1.1 hI.1.2.1 (hI.1.2.2.1.trans hI.2.1.1.symm) hI.1.2.2.2.2.1 (hI.1.2.2.2.2.2.1 _ hl rfl) (hI.1.2.2.2.2.2.1 (.native arraycopyName) (by decide +kernel) (by decide +kernel)) (hI.1.2.2.2.2.2.1 (.static arraycopyName) (by decide +kernel) rfl) (hI.1.2.2.2.2.2.1 (.initialized "java/lang/System") (by decide +kernel) rfl) hI.1.2.2.2.2.2.2.2.2.1 hI.2.2.2.1 hI.2.2.2.2.1 hI.2.2.2.2.2 q0 q2 0 0 (ty := .int) hq hq4 rfl rfl rfl (by decide) (by decide) hx.2 (by rw [hx.1]; show 0 + n ≤ n; omega) (by rw [hx.1]; show 0 + n ≤ n; omega) (fun _ _ => rfl) (by have := hR.1; omega) ?_ hd ?_
  · have h1 := hR.2.1
    have h2 : ((([] : List Value)).map fun v => v.category).sum + (nativeFrameWords "java/lang/System" "arraycopy" 5 + 11) ≤ 40 := by decide +kernel
    exact Nat.le_trans h2 (by omega)
  · intro H1 locs1 h1 h2 h3
    have hset : (ps_ws G σ).set q2 (G.1 g j, .inl (G.2.2 0, n, .inl (va_cpy (σ f i) (σ g j) (0 : Int32).toNatClampNeg (0 : Int32).toNatClampNeg x.toNatClampNeg))) = ps_ws G (fun f' k' j' => if f' = g ∧ k' = j ∧ j' < n then σ f i j' else σ f' k' j') := by
      apply List.ext_getElem?
      intro i'
      by_cases hi : i' = q2
      · subst hi
        rw [ps_ws_at hq3, ps_E_arr hg, List.getElem?_set_self (by rw [ps_ws_len]; exact (List.getElem?_eq_some_iff.mp hq3).1)]
        congr 6
        funext j'
        rw [hx.1]
        show va_cpy (σ f i) (σ g j) 0 0 n j' = _
        by_cases h : j' < n
        · simp [va_cpy, h]
        · simp [va_cpy, h]
      · rw [List.getElem?_set_ne (fun q => hi q.symm)]
        unfold ps_ws
        rw [List.getElem?_map, List.getElem?_map]
        cases hq9 : ps_cells[i']? with
        | none => rfl
        | some q =>
          have hne : ¬ (q.1 = g ∧ q.2 = j) := by
            rintro ⟨e1, e2⟩
            have e3 : q = (g, j) := by rw [← e1, ← e2]
            subst e3
            exact hi ((List.getElem?_inj (List.getElem?_eq_some_iff.mp hq9).1 ps_nodup).mp (hq9.trans hq3.symm))
          show some (G.1 q.1 q.2, ps_E G q (σ q.1 q.2)) = some (G.1 q.1 q.2, ps_E G q (fun j' => if q.1 = g ∧ q.2 = j ∧ j' < n then σ f i j' else σ q.1 q.2 j'))
          have e9 : (fun j' => if q.1 = g ∧ q.2 = j ∧ j' < n then σ f i j' else σ q.1 q.2 j') = σ q.1 q.2 := by
            funext j'
            rw [if_neg (fun z => hne ⟨z.1, z.2.1⟩)]
          rw [e9]
    rw [hset] at h1 h2
    exact k G p l e R s m args below meth c H1 locs1 ls ⟨hI.1, hI.2.1, fun v hv => (by cases hv), h1, h2, h3⟩
end PSC
end
section
/-! ===== small words for the printed rows ===== -/
theorem ps_at {c : ByteArray} {t : List (Nat × Instr × Nat)} (h : ∀ q ∈ t, decode c q.1 = .ok (q.2.1, q.2.2)) (k : Nat) {pc n : Nat} {i : Instr} (hk : t[k]? = some (pc, i, n)) : decode c pc = .ok (i, n) := h (pc, i, n) (List.mem_of_getElem? hk)
def ps_ri (q : Int32 → ps_S → Prop) : Option ps_V → ps_S → Prop := fun r σ => ∃ x : Int32, r = some (.inl x) ∧ q x σ
def ps_rv (q : ps_S → Prop) : Option ps_V → ps_S → Prop := fun r σ => r = none ∧ q σ
def ps_rr (f : Nat) (q : Nat → ps_S → Prop) : Option ps_V → ps_S → Prop := fun r σ => ∃ k : Nat, r = some (.inr (.inr (f, k))) ∧ q k σ
def ps_cpy (σ : ps_S) (f i g j n : Nat) : ps_S := fun f' k' j' => if f' = g ∧ k' = j ∧ j' < n then σ f i j' else σ f' k' j'
theorem ps_aald0 {M : ps_M} {d pc : Nat} {F : ps_F} {L : ps_L} {st : List ps_V} {σ : ps_S} {f n g ay : Nat} {j : Int32} (hd : decode (ps_code M) pc = .ok (.aaload, 1)) (hs : (ps_sh f).2 = .inr (ay, n, some g)) (hay : ay = 2 ∨ ay = 3) (hin : vp_in j n) (kk : ps_K M d F (pc + 1) L (.inr (.inr (g, j.toNatClampNeg)) :: st) σ) : ps_K M d F pc L (.inl j :: .inr (.inr (f, 0)) :: st) σ :=
  ps_aald hd hs hay hin (by rw [Nat.mul_zero, Nat.zero_add]; exact kk)
def jbMax (a b : Int32) : Int32 := if a < b then b else a
def jbMin (a b : Int32) : Int32 := if b < a then b else a
theorem ps_mmax {M : ps_M} {d pc index : Nat} {F : ps_F} {L : ps_L} {st : List ps_V} {σ : ps_S} {x y : Int32} (hd : decode (ps_code M) pc = .ok (.invokestatic index, 3)) (hl : Cond.methodLink (ps_own M) index Lib.Math.max.name ∈ lw_tbl) (hrm : ∀ G : ps_G, ((st.map (ps_cv G)).map fun v => v.category).sum ≤ 8) (k : ps_K M (d + 1) F (pc + 3) L (.inl (jbMax x y) :: st) σ) : ps_K M (d + 1) F pc L (.inl y :: .inl x :: st) σ := by
  intro G p l e R s m args below meth c H locs ls hI
  have hR := hI.1.2.2.2.2.2.2.2.1
  exact va_mmax hI.1.1 hI.1.2.1 (hI.1.2.2.1.trans hI.2.1.1.symm) hI.1.2.2.2.2.1 (hI.1.2.2.2.2.2.1 _ hl rfl) (hI.1.2.2.2.2.2.1 (.static Lib.Math.max.name) (by decide +kernel) rfl) (hI.1.2.2.2.2.2.1 (.initialized "java/lang/Math") (by decide +kernel) rfl) (hI.1.2.2.2.2.2.1 (.code Lib.Math.max.name Lib.Math.max.code 2 (some .int)) (by decide +kernel) rfl) (by have := hR.1; omega) (by have := hR.2.1; have := hrm G; omega) hR.2.2.1 hR.2.2.2 hd (k G p l e R s m args below meth c H locs ls (hI.to (ps_ok_i (ps_ok_t2 hI.2.2.1))))
theorem ps_mmin {M : ps_M} {d pc index : Nat} {F : ps_F} {L : ps_L} {st : List ps_V} {σ : ps_S} {x y : Int32} (hd : decode (ps_code M) pc = .ok (.invokestatic index, 3)) (hl : Cond.methodLink (ps_own M) index Lib.Math.min.name ∈ lw_tbl) (hrm : ∀ G : ps_G, ((st.map (ps_cv G)).map fun v => v.category).sum ≤ 8) (k : ps_K M (d + 1) F (pc + 3) L (.inl (jbMin x y) :: st) σ) : ps_K M (d + 1) F pc L (.inl y :: .inl x :: st) σ := by
  intro G p l e R s m args below meth c H locs ls hI
  have hR := hI.1.2.2.2.2.2.2.2.1
  exact va_mmin hI.1.1 hI.1.2.1 (hI.1.2.2.1.trans hI.2.1.1.symm) hI.1.2.2.2.2.1 (hI.1.2.2.2.2.2.1 _ hl rfl) (hI.1.2.2.2.2.2.1 (.static Lib.Math.min.name) (by decide +kernel) rfl) (hI.1.2.2.2.2.2.1 (.initialized "java/lang/Math") (by decide +kernel) rfl) (hI.1.2.2.2.2.2.1 (.code Lib.Math.min.name Lib.Math.min.code 2 (some .int)) (by decide +kernel) rfl) (by have := hR.1; omega) (by have := hR.2.1; have := hrm G; omega) hR.2.2.1 hR.2.2.2 hd (k G p l e R s m args below meth c H locs ls (hI.to (ps_ok_i (ps_ok_t2 hI.2.2.1))))
theorem ps_sw7 (x : Int32) : x = 0 ∨ x = 1 ∨ x = 2 ∨ x = 3 ∨ x = 4 ∨ x = 5 ∨ x = 6 ∨ (x.toInt < 0 ∨ 6 < x.toInt) := by
  by_cases h : x.toInt < 0 ∨ 6 < x.toInt
  · simp [h]
  · have e : ∀ n : Int, x.toInt = n → x = Int32.ofInt n := fun n hn => by rw [← hn, Int32.ofInt_toInt]
    have h2 : x.toInt = 0 ∨ x.toInt = 1 ∨ x.toInt = 2 ∨ x.toInt = 3 ∨ x.toInt = 4 ∨ x.toInt = 5 ∨ x.toInt = 6 := by omega
    rcases h2 with q | q | q | q | q | q | q <;> rw [e _ q] <;> decide
end
section
/-! ===== printed by wip/whole/gen.py: the methods of the class and of the reference, their decode tables ===== -/
abbrev mX0_putLetter : ps_M := (RX0, yX0_putLetter, cX0_putLetter, 5, some .int, (0, 0), none)
def tX0_putLetter : List (Nat × Instr × Nat) := [(0, .aload_n 0, 1), (1, .getfield 11, 3), (4, .iload_n 1, 1), (5, .aaload, 1), (6, .iload_n 2, 1), (7, .iaload, 1), (8, .istore 4, 2), (10, .aload_n 0, 1), (11, .getfield 11, 3), (14, .iload_n 1, 1), (15, .aaload, 1), (16, .iload_n 2, 1), (17, .iload_n 3, 1), (18, .iastore, 1), (19, .aload_n 0, 1), (20, .iconst 0, 1), (21, .putfield 39, 3), (24, .aload_n 0, 1), (25, .iconst 0, 1), (26, .putfield 43, 3), (29, .iload 4, 2), (31, .ireturn, 1)]
theorem tX0_putLetter_ok : ∀ q ∈ tX0_putLetter, decode cX0_putLetter q.1 = .ok (q.2.1, q.2.2) := by decide +kernel
abbrev mX0_tellAhead : ps_M := (RX0, yX0_tellAhead, cX0_tellAhead, 5, some .int, (0, 0), none)
def tX0_tellAhead : List (Nat × Instr × Nat) := [(0, .aload_n 0, 1), (1, .getfield 16, 3), (4, .iload_n 1, 1), (5, .iaload, 1), (6, .iload_n 2, 1), (7, .ishr, 1), (8, .iconst 1, 1), (9, .iand, 1), (10, .istore 4, 2), (12, .iload_n 3, 1), (13, .ifCond .eq 18, 3), (16, .aload_n 0, 1), (17, .getfield 16, 3), (20, .iload_n 1, 1), (21, .dup2, 1), (22, .iaload, 1), (23, .iconst 1, 1), (24, .iload_n 2, 1), (25, .ishl, 1), (26, .ior, 1), (27, .iastore, 1), (28, .goto 17, 3), (31, .aload_n 0, 1), (32, .getfield 16, 3), (35, .iload_n 1, 1), (36, .dup2, 1), (37, .iaload, 1), (38, .iconst 1, 1), (39, .iload_n 2, 1), (40, .ishl, 1), (41, .iconst (-1), 1), (42, .ixor, 1), (43, .iand, 1), (44, .iastore, 1), (45, .aload_n 0, 1), (46, .iconst 0, 1), (47, .putfield 43, 3), (50, .iload 4, 2), (52, .ireturn, 1)]
theorem tX0_tellAhead_ok : ∀ q ∈ tX0_tellAhead, decode cX0_tellAhead q.1 = .ok (q.2.1, q.2.2) := by decide +kernel
abbrev mX0_areAlike : ps_M := (RX0, yX0_areAlike, cX0_areAlike, 4, some .boolean, (0, 0), none)
def tX0_areAlike : List (Nat × Instr × Nat) := [(0, .iconst 0, 1), (1, .istore_n 3, 1), (2, .iload_n 3, 1), (3, .bipush 6, 2), (5, .if_icmp .ge 33, 3), (8, .aload_n 0, 1), (9, .getfield 11, 3), (12, .iload_n 1, 1), (13, .aaload, 1), (14, .iload_n 3, 1), (15, .iaload, 1), (16, .aload_n 0, 1), (17, .getfield 11, 3), (20, .iload_n 2, 1), (21, .aaload, 1), (22, .iload_n 3, 1), (23, .iaload, 1), (24, .invokestatic 46, 3), (27, .ifCond .eq 5, 3), (30, .iconst 0, 1), (31, .ireturn, 1), (32, .iinc 3 1, 3), (35, .goto (-33), 3), (38, .iconst 1, 1), (39, .ireturn, 1)]
theorem tX0_areAlike_ok : ∀ q ∈ tX0_areAlike, decode cX0_areAlike q.1 = .ok (q.2.1, q.2.2) := by decide +kernel
abbrev mX0_areUnlike : ps_M := (RX0, yX0_areUnlike, cX0_areUnlike, 2, some .boolean, (0, 0), none)
def tX0_areUnlike : List (Nat × Instr × Nat) := [(0, .iload_n 0, 1), (1, .ldc 32, 2), (3, .if_icmp .eq 18, 3), (6, .iload_n 1, 1), (7, .ldc 32, 2), (9, .if_icmp .eq 12, 3), (12, .iload_n 0, 1), (13, .iload_n 1, 1), (14, .if_icmp .eq 7, 3), (17, .iconst 1, 1), (18, .goto 4, 3), (21, .iconst 0, 1), (22, .ireturn, 1)]
theorem tX0_areUnlike_ok : ∀ q ∈ tX0_areUnlike, decode cX0_areUnlike q.1 = .ok (q.2.1, q.2.2) := by decide +kernel
abbrev mX0_makeGroups : ps_M := (RX0, yX0_makeGroups, cX0_makeGroups, 2, none, (0, 0), none)
def tX0_makeGroups : List (Nat × Instr × Nat) := [(0, .aload_n 0, 1), (1, .aload_n 0, 1), (2, .invokevirtual 50, 3), (5, .putfield 54, 3), (8, .iconst 0, 1), (9, .istore_n 1, 1), (10, .iload_n 1, 1), (11, .bipush 9, 2), (13, .if_icmp .ge 35, 3), (16, .aload_n 0, 1), (17, .getfield 23, 3), (20, .iload_n 1, 1), (21, .iconst 0, 1), (22, .iastore, 1), (23, .aload_n 0, 1), (24, .getfield 26, 3), (27, .iload_n 1, 1), (28, .ldc 32, 2), (30, .iastore, 1), (31, .aload_n 0, 1), (32, .getfield 20, 3), (35, .iload_n 1, 1), (36, .aload_n 0, 1), (37, .iload_n 1, 1), (38, .invokevirtual 58, 3), (41, .iastore, 1), (42, .iinc 1 1, 3), (45, .goto (-35), 3), (48, .aload_n 0, 1), (49, .iconst 0, 1), (50, .putfield 62, 3), (53, .aload_n 0, 1), (54, .iconst 0, 1), (55, .iconst 0, 1), (56, .invokestatic 65, 3), (59, .ifCond .ne 25, 3), (62, .aload_n 0, 1), (63, .getfield 62, 3), (66, .bipush 9, 2), (68, .if_icmp .ge 16, 3), (71, .aload_n 0, 1), (72, .dup, 1), (73, .getfield 62, 3), (76, .iconst 1, 1), (77, .iadd, 1), (78, .putfield 62, 3), (81, .goto (-28), 3), (84, .aload_n 0, 1), (85, .iconst 1, 1), (86, .putfield 39, 3), (89, .return_, 1)]
theorem tX0_makeGroups_ok : ∀ q ∈ tX0_makeGroups, decode cX0_makeGroups q.1 = .ok (q.2.1, q.2.2) := by decide +kernel
abbrev mX0_copiesLookedAt : ps_M := (RX0, yX0_copiesLookedAt, cX0_copiesLookedAt, 4, some .int, (0, 0), none)
def tX0_copiesLookedAt : List (Nat × Instr × Nat) := [(0, .iconst 0, 1), (1, .istore_n 1, 1), (2, .iconst 0, 1), (3, .istore_n 2, 1), (4, .iload_n 2, 1), (5, .bipush 9, 2), (7, .if_icmp .ge 42, 3), (10, .iconst 0, 1), (11, .istore_n 3, 1), (12, .iload_n 3, 1), (13, .bipush 6, 2), (15, .if_icmp .ge 28, 3), (18, .aload_n 0, 1), (19, .getfield 11, 3), (22, .iload_n 2, 1), (23, .aaload, 1), (24, .iload_n 3, 1), (25, .iaload, 1), (26, .ldc 32, 2), (28, .if_icmp .eq 9, 3), (31, .iload_n 1, 1), (32, .iconst 1, 1), (33, .iload_n 2, 1), (34, .ishl, 1), (35, .ior, 1), (36, .istore_n 1, 1), (37, .iinc 3 1, 3), (40, .goto (-28), 3), (43, .iinc 2 1, 3), (46, .goto (-42), 3), (49, .iload_n 1, 1), (50, .ireturn, 1)]
theorem tX0_copiesLookedAt_ok : ∀ q ∈ tX0_copiesLookedAt, decode cX0_copiesLookedAt q.1 = .ok (q.2.1, q.2.2) := by decide +kernel
abbrev mX0_unlikeCopies : ps_M := (RX0, yX0_unlikeCopies, cX0_unlikeCopies, 4, some .int, (0, 0), none)
def tX0_unlikeCopies : List (Nat × Instr × Nat) := [(0, .iconst 0, 1), (1, .istore_n 2, 1), (2, .iconst 0, 1), (3, .istore_n 3, 1), (4, .iload_n 3, 1), (5, .bipush 9, 2), (7, .if_icmp .ge 24, 3), (10, .aload_n 0, 1), (11, .iload_n 1, 1), (12, .iload_n 3, 1), (13, .invokevirtual 68, 3), (16, .ifCond .ne 9, 3), (19, .iload_n 2, 1), (20, .iconst 1, 1), (21, .iload_n 3, 1), (22, .ishl, 1), (23, .ior, 1), (24, .istore_n 2, 1), (25, .iinc 3 1, 3), (28, .goto (-24), 3), (31, .iload_n 2, 1), (32, .ireturn, 1)]
theorem tX0_unlikeCopies_ok : ∀ q ∈ tX0_unlikeCopies, decode cX0_unlikeCopies q.1 = .ok (q.2.1, q.2.2) := by decide +kernel
abbrev mX0_fill : ps_M := (RX0, yX0_fill, cX0_fill, 4, some .boolean, (0, 0), none)
def tX0_fill : List (Nat × Instr × Nat) := [(0, .iload_n 1, 1), (1, .bipush 9, 2), (3, .if_icmp .lt 5, 3), (6, .iconst 1, 1), (7, .ireturn, 1), (8, .aload_n 0, 1), (9, .getfield 54, 3), (12, .iload_n 1, 1), (13, .ishr, 1), (14, .iconst 1, 1), (15, .iand, 1), (16, .ifCond .ne 12, 3), (19, .aload_n 0, 1), (20, .iload_n 1, 1), (21, .iconst 1, 1), (22, .iadd, 1), (23, .iload_n 2, 1), (24, .invokestatic 65, 3), (27, .ireturn, 1), (28, .iconst 0, 1), (29, .istore_n 3, 1), (30, .iload_n 3, 1), (31, .iload_n 2, 1), (32, .if_icmp .gt 85, 3), (35, .iload_n 3, 1), (36, .aload_n 0, 1), (37, .getfield 62, 3), (40, .if_icmp .ge 77, 3), (43, .aload_n 0, 1), (44, .getfield 23, 3), (47, .iload_n 3, 1), (48, .iaload, 1), (49, .aload_n 0, 1), (50, .getfield 20, 3), (53, .iload_n 1, 1), (54, .iaload, 1), (55, .iand, 1), (56, .ifCond .ne 55, 3), (59, .aload_n 0, 1), (60, .getfield 23, 3), (63, .iload_n 3, 1), (64, .dup2, 1), (65, .iaload, 1), (66, .iconst 1, 1), (67, .iload_n 1, 1), (68, .ishl, 1), (69, .ior, 1), (70, .iastore, 1), (71, .aload_n 0, 1), (72, .getfield 26, 3), (75, .iload_n 1, 1), (76, .iload_n 3, 1), (77, .iastore, 1), (78, .aload_n 0, 1), (79, .iload_n 1, 1), (80, .iconst 1, 1), (81, .iadd, 1), (82, .iload_n 2, 1), (83, .iload_n 3, 1), (84, .iconst 1, 1), (85, .iadd, 1), (86, .invokestatic 71, 3), (89, .invokestatic 65, 3), (92, .ifCond .eq 5, 3), (95, .iconst 1, 1), (96, .ireturn, 1), (97, .aload_n 0, 1), (98, .getfield 23, 3), (101, .iload_n 3, 1), (102, .dup2, 1), (103, .iaload, 1), (104, .iconst 1, 1), (105, .iload_n 1, 1), (106, .ishl, 1), (107, .iconst (-1), 1), (108, .ixor, 1), (109, .iand, 1), (110, .iastore, 1), (111, .iinc 3 1, 3), (114, .goto (-84), 3), (117, .iconst 0, 1), (118, .ireturn, 1)]
theorem tX0_fill_ok : ∀ q ∈ tX0_fill, decode cX0_fill q.1 = .ok (q.2.1, q.2.2) := by decide +kernel
abbrev mX0_groupLetter : ps_M := (RX0, yX0_groupLetter, cX0_groupLetter, 4, some .int, (0, 0), none)
def tX0_groupLetter : List (Nat × Instr × Nat) := [(0, .iconst 0, 1), (1, .istore_n 3, 1), (2, .iload_n 3, 1), (3, .bipush 9, 2), (5, .if_icmp .ge 41, 3), (8, .aload_n 0, 1), (9, .getfield 26, 3), (12, .iload_n 3, 1), (13, .iaload, 1), (14, .iload_n 1, 1), (15, .if_icmp .ne 25, 3), (18, .aload_n 0, 1), (19, .getfield 11, 3), (22, .iload_n 3, 1), (23, .aaload, 1), (24, .iload_n 2, 1), (25, .iaload, 1), (26, .ldc 32, 2), (28, .if_icmp .eq 12, 3), (31, .aload_n 0, 1), (32, .getfield 11, 3), (35, .iload_n 3, 1), (36, .aaload, 1), (37, .iload_n 2, 1), (38, .iaload, 1), (39, .ireturn, 1), (40, .iinc 3 1, 3), (43, .goto (-41), 3), (46, .ldc 32, 2), (48, .ireturn, 1)]
theorem tX0_groupLetter_ok : ∀ q ∈ tX0_groupLetter, decode cX0_groupLetter q.1 = .ok (q.2.1, q.2.2) := by decide +kernel
abbrev mX0_unlikePlaces : ps_M := (RX0, yX0_unlikePlaces, cX0_unlikePlaces, 5, some .int, (0, 0), none)
def tX0_unlikePlaces : List (Nat × Instr × Nat) := [(0, .iconst 0, 1), (1, .istore_n 3, 1), (2, .iconst 0, 1), (3, .istore 4, 2), (5, .iload 4, 2), (7, .bipush 6, 2), (9, .if_icmp .ge 32, 3), (12, .aload_n 0, 1), (13, .iload_n 1, 1), (14, .iload 4, 2), (16, .invokevirtual 77, 3), (19, .aload_n 0, 1), (20, .iload_n 2, 1), (21, .iload 4, 2), (23, .invokevirtual 77, 3), (26, .invokestatic 46, 3), (29, .ifCond .eq 6, 3), (32, .iinc 3 1, 3), (35, .iinc 4 1, 3), (38, .goto (-33), 3), (41, .iload_n 3, 1), (42, .ireturn, 1)]
theorem tX0_unlikePlaces_ok : ∀ q ∈ tX0_unlikePlaces, decode cX0_unlikePlaces q.1 = .ok (q.2.1, q.2.2) := by decide +kernel
abbrev mX0_statesAhead : ps_M := (RX0, yX0_statesAhead, cX0_statesAhead, 4, some .int, (0, 0), none)
def tX0_statesAhead : List (Nat × Instr × Nat) := [(0, .iconst 0, 1), (1, .istore_n 2, 1), (2, .iconst 0, 1), (3, .istore_n 3, 1), (4, .iload_n 3, 1), (5, .bipush 9, 2), (7, .if_icmp .ge 50, 3), (10, .aload_n 0, 1), (11, .getfield 26, 3), (14, .iload_n 3, 1), (15, .iaload, 1), (16, .ldc 32, 2), (18, .if_icmp .eq 33, 3), (21, .aload_n 0, 1), (22, .getfield 26, 3), (25, .iload_n 3, 1), (26, .iaload, 1), (27, .iload_n 1, 1), (28, .if_icmp .eq 23, 3), (31, .aload_n 0, 1), (32, .iload_n 3, 1), (33, .iload_n 1, 1), (34, .invokevirtual 80, 3), (37, .ifCond .eq 14, 3), (40, .iload_n 2, 1), (41, .iconst 1, 1), (42, .aload_n 0, 1), (43, .getfield 26, 3), (46, .iload_n 3, 1), (47, .iaload, 1), (48, .ishl, 1), (49, .ior, 1), (50, .istore_n 2, 1), (51, .iinc 3 1, 3), (54, .goto (-50), 3), (57, .iload_n 2, 1), (58, .ireturn, 1)]
theorem tX0_statesAhead_ok : ∀ q ∈ tX0_statesAhead, decode cX0_statesAhead q.1 = .ok (q.2.1, q.2.2) := by decide +kernel
abbrev mX0_tellsAheadOf : ps_M := (RX0, yX0_tellsAheadOf, cX0_tellsAheadOf, 3, some .boolean, (0, 0), none)
def tX0_tellsAheadOf : List (Nat × Instr × Nat) := [(0, .aload_n 0, 1), (1, .getfield 16, 3), (4, .iload_n 1, 1), (5, .iaload, 1), (6, .aload_n 0, 1), (7, .getfield 23, 3), (10, .iload_n 2, 1), (11, .iaload, 1), (12, .iand, 1), (13, .ifCond .eq 7, 3), (16, .iconst 1, 1), (17, .goto 4, 3), (20, .iconst 0, 1), (21, .ireturn, 1)]
theorem tX0_tellsAheadOf_ok : ∀ q ∈ tX0_tellsAheadOf, decode cX0_tellsAheadOf q.1 = .ok (q.2.1, q.2.2) := by decide +kernel
abbrev mX0_readersOf : ps_M := (RX0, yX0_readersOf, cX0_readersOf, 5, some .int, (0, 0), none)
def tX0_readersOf : List (Nat × Instr × Nat) := [(0, .iconst 0, 1), (1, .istore_n 3, 1), (2, .iconst 0, 1), (3, .istore 4, 2), (5, .iload 4, 2), (7, .bipush 9, 2), (9, .if_icmp .ge 29, 3), (12, .aload_n 0, 1), (13, .getfield 11, 3), (16, .iload 4, 2), (18, .aaload, 1), (19, .iload_n 1, 1), (20, .iaload, 1), (21, .iload_n 2, 1), (22, .if_icmp .ne 10, 3), (25, .iload_n 3, 1), (26, .iconst 1, 1), (27, .iload 4, 2), (29, .ishl, 1), (30, .ior, 1), (31, .istore_n 3, 1), (32, .iinc 4 1, 3), (35, .goto (-30), 3), (38, .iload_n 3, 1), (39, .ireturn, 1)]
theorem tX0_readersOf_ok : ∀ q ∈ tX0_readersOf, decode cX0_readersOf q.1 = .ok (q.2.1, q.2.2) := by decide +kernel
abbrev mX0_readingCount : ps_M := (RX0, yX0_readingCount, cX0_readingCount, 4, some .int, (0, 0), none)
def tX0_readingCount : List (Nat × Instr × Nat) := [(0, .iconst 0, 1), (1, .istore_n 1, 1), (2, .iconst 0, 1), (3, .istore_n 2, 1), (4, .iload_n 2, 1), (5, .bipush 9, 2), (7, .if_icmp .ge 39, 3), (10, .iconst 0, 1), (11, .istore_n 3, 1), (12, .iload_n 3, 1), (13, .bipush 6, 2), (15, .if_icmp .ge 25, 3), (18, .aload_n 0, 1), (19, .getfield 11, 3), (22, .iload_n 2, 1), (23, .aaload, 1), (24, .iload_n 3, 1), (25, .iaload, 1), (26, .ldc 32, 2), (28, .if_icmp .eq 6, 3), (31, .iinc 1 1, 3), (34, .iinc 3 1, 3), (37, .goto (-25), 3), (40, .iinc 2 1, 3), (43, .goto (-39), 3), (46, .iload_n 1, 1), (47, .ireturn, 1)]
theorem tX0_readingCount_ok : ∀ q ∈ tX0_readingCount, decode cX0_readingCount q.1 = .ok (q.2.1, q.2.2) := by decide +kernel
abbrev mX0_aheadCount : ps_M := (RX0, yX0_aheadCount, cX0_aheadCount, 3, some .int, (0, 0), none)
def tX0_aheadCount : List (Nat × Instr × Nat) := [(0, .iconst 0, 1), (1, .istore_n 1, 1), (2, .iconst 0, 1), (3, .istore_n 2, 1), (4, .iload_n 2, 1), (5, .bipush 9, 2), (7, .if_icmp .ge 21, 3), (10, .iload_n 1, 1), (11, .aload_n 0, 1), (12, .getfield 16, 3), (15, .iload_n 2, 1), (16, .iaload, 1), (17, .invokestatic 83, 3), (20, .iadd, 1), (21, .istore_n 1, 1), (22, .iinc 2 1, 3), (25, .goto (-21), 3), (28, .iload_n 1, 1), (29, .ireturn, 1)]
theorem tX0_aheadCount_ok : ∀ q ∈ tX0_aheadCount, decode cX0_aheadCount q.1 = .ok (q.2.1, q.2.2) := by decide +kernel
abbrev mX1_addSheet : ps_M := (RX1, yX1_addSheet, cX1_addSheet, 3, some .int, (0, 0), none)
def tX1_addSheet : List (Nat × Instr × Nat) := [(0, .aload_n 0, 1), (1, .getfield 11, 3), (4, .iload_n 1, 1), (5, .aaload, 1), (6, .aload_n 0, 1), (7, .getfield 16, 3), (10, .iload_n 1, 1), (11, .iaload, 1), (12, .iload_n 2, 1), (13, .iastore, 1), (14, .aload_n 0, 1), (15, .getfield 16, 3), (18, .iload_n 1, 1), (19, .dup2, 1), (20, .iaload, 1), (21, .iconst 1, 1), (22, .iadd, 1), (23, .iastore, 1), (24, .aload_n 0, 1), (25, .getfield 16, 3), (28, .iload_n 1, 1), (29, .iaload, 1), (30, .ireturn, 1)]
theorem tX1_addSheet_ok : ∀ q ∈ tX1_addSheet, decode cX1_addSheet q.1 = .ok (q.2.1, q.2.2) := by decide +kernel
abbrev mX1_putSize : ps_M := (RX1, yX1_putSize, cX1_putSize, 3, some .int, (0, 0), none)
def tX1_putSize : List (Nat × Instr × Nat) := [(0, .aload_n 0, 1), (1, .getfield 23, 3), (4, .istore_n 2, 1), (5, .aload_n 0, 1), (6, .iload_n 1, 1), (7, .putfield 23, 3), (10, .iload_n 2, 1), (11, .ireturn, 1)]
theorem tX1_putSize_ok : ∀ q ∈ tX1_putSize, decode cX1_putSize q.1 = .ok (q.2.1, q.2.2) := by decide +kernel
abbrev mX1_putSeen : ps_M := (RX1, yX1_putSeen, cX1_putSeen, 5, some .int, (0, 0), none)
def tX1_putSeen : List (Nat × Instr × Nat) := [(0, .aload_n 0, 1), (1, .getfield 20, 3), (4, .iload_n 1, 1), (5, .aaload, 1), (6, .iload_n 2, 1), (7, .iaload, 1), (8, .istore 4, 2), (10, .aload_n 0, 1), (11, .getfield 20, 3), (14, .iload_n 1, 1), (15, .aaload, 1), (16, .iload_n 2, 1), (17, .iload_n 3, 1), (18, .iastore, 1), (19, .iload 4, 2), (21, .ireturn, 1)]
theorem tX1_putSeen_ok : ∀ q ∈ tX1_putSeen, decode cX1_putSeen q.1 = .ok (q.2.1, q.2.2) := by decide +kernel
abbrev mX1_heapCount : ps_M := (RX1, yX1_heapCount, cX1_heapCount, 2, some .int, (0, 0), none)
def tX1_heapCount : List (Nat × Instr × Nat) := [(0, .aload_n 0, 1), (1, .getfield 16, 3), (4, .iload_n 1, 1), (5, .iaload, 1), (6, .aload_n 0, 1), (7, .getfield 23, 3), (10, .iadd, 1), (11, .iconst 1, 1), (12, .isub, 1), (13, .aload_n 0, 1), (14, .getfield 23, 3), (17, .idiv, 1), (18, .ireturn, 1)]
theorem tX1_heapCount_ok : ∀ q ∈ tX1_heapCount, decode cX1_heapCount q.1 = .ok (q.2.1, q.2.2) := by decide +kernel
abbrev mX1_heapEnd : ps_M := (RX1, yX1_heapEnd, cX1_heapEnd, 3, some .int, (0, 0), none)
def tX1_heapEnd : List (Nat × Instr × Nat) := [(0, .iload_n 2, 1), (1, .iconst 1, 1), (2, .iadd, 1), (3, .aload_n 0, 1), (4, .getfield 23, 3), (7, .imul, 1), (8, .aload_n 0, 1), (9, .getfield 16, 3), (12, .iload_n 1, 1), (13, .iaload, 1), (14, .invokestatic 34, 3), (17, .ireturn, 1)]
theorem tX1_heapEnd_ok : ∀ q ∈ tX1_heapEnd, decode cX1_heapEnd q.1 = .ok (q.2.1, q.2.2) := by decide +kernel
abbrev mX1_kindIn : ps_M := (RX1, yX1_kindIn, cX1_kindIn, 6, some .int, (0, 0), none)
def tX1_kindIn : List (Nat × Instr × Nat) := [(0, .iload_n 2, 1), (1, .aload_n 0, 1), (2, .getfield 16, 3), (5, .iload_n 1, 1), (6, .iaload, 1), (7, .if_icmp .lt 6, 3), (10, .ldc 27, 2), (12, .ireturn, 1), (13, .iload_n 3, 1), (14, .ifCond .eq 12, 3), (17, .aload_n 0, 1), (18, .getfield 11, 3), (21, .iload_n 1, 1), (22, .aaload, 1), (23, .iload_n 2, 1), (24, .iaload, 1), (25, .ireturn, 1), (26, .iload_n 2, 1), (27, .aload_n 0, 1), (28, .getfield 23, 3), (31, .idiv, 1), (32, .istore 4, 2), (34, .iload_n 2, 1), (35, .iload 4, 2), (37, .aload_n 0, 1), (38, .getfield 23, 3), (41, .imul, 1), (42, .isub, 1), (43, .istore 5, 2), (45, .aload_n 0, 1), (46, .getfield 11, 3), (49, .iload_n 1, 1), (50, .aaload, 1), (51, .aload_n 0, 1), (52, .iload_n 1, 1), (53, .iload 4, 2), (55, .invokevirtual 40, 3), (58, .iconst 1, 1), (59, .isub, 1), (60, .iload 5, 2), (62, .isub, 1), (63, .iaload, 1), (64, .ireturn, 1)]
theorem tX1_kindIn_ok : ∀ q ∈ tX1_kindIn, decode cX1_kindIn q.1 = .ok (q.2.1, q.2.2) := by decide +kernel
abbrev mX1_mayBe : ps_M := (RX1, yX1_mayBe, cX1_mayBe, 7, some .boolean, (0, 0), none)
def tX1_mayBe : List (Nat × Instr × Nat) := [(0, .aload_n 0, 1), (1, .iload_n 1, 1), (2, .iload_n 2, 1), (3, .invokevirtual 40, 3), (6, .istore 4, 2), (8, .iload_n 2, 1), (9, .aload_n 0, 1), (10, .getfield 23, 3), (13, .imul, 1), (14, .istore 5, 2), (16, .iload 5, 2), (18, .iload 4, 2), (20, .if_icmp .ge 42, 3), (23, .aload_n 0, 1), (24, .getfield 20, 3), (27, .iload_n 1, 1), (28, .aaload, 1), (29, .iload 5, 2), (31, .iaload, 1), (32, .istore 6, 2), (34, .iload 6, 2), (36, .ldc 27, 2), (38, .if_icmp .eq 18, 3), (41, .iload 6, 2), (43, .aload_n 0, 1), (44, .iload_n 1, 1), (45, .iload 5, 2), (47, .iload_n 3, 1), (48, .invokevirtual 43, 3), (51, .if_icmp .eq 5, 3), (54, .iconst 0, 1), (55, .ireturn, 1), (56, .iinc 5 1, 3), (59, .goto (-43), 3), (62, .iconst 1, 1), (63, .ireturn, 1)]
theorem tX1_mayBe_ok : ∀ q ∈ tX1_mayBe, decode cX1_mayBe q.1 = .ok (q.2.1, q.2.2) := by decide +kernel
abbrev mX1_choices : ps_M := (RX1, yX1_choices, cX1_choices, 3, some .int, (0, 0), none)
def tX1_choices : List (Nat × Instr × Nat) := [(0, .aload_n 0, 1), (1, .iload_n 1, 1), (2, .iload_n 2, 1), (3, .iconst 0, 1), (4, .invokevirtual 47, 3), (7, .ifCond .eq 7, 3), (10, .iconst 1, 1), (11, .goto 4, 3), (14, .iconst 0, 1), (15, .aload_n 0, 1), (16, .iload_n 1, 1), (17, .iload_n 2, 1), (18, .iconst 1, 1), (19, .invokevirtual 47, 3), (22, .ifCond .eq 7, 3), (25, .iconst 2, 1), (26, .goto 4, 3), (29, .iconst 0, 1), (30, .iadd, 1), (31, .ireturn, 1)]
theorem tX1_choices_ok : ∀ q ∈ tX1_choices, decode cX1_choices q.1 = .ok (q.2.1, q.2.2) := by decide +kernel
abbrev mX1_turnings : ps_M := (RX1, yX1_turnings, cX1_turnings, 5, some .int, (0, 0), none)
def tX1_turnings : List (Nat × Instr × Nat) := [(0, .iconst 1, 1), (1, .istore_n 2, 1), (2, .aload_n 0, 1), (3, .iload_n 1, 1), (4, .invokevirtual 51, 3), (7, .istore_n 3, 1), (8, .iconst 0, 1), (9, .istore 4, 2), (11, .iload 4, 2), (13, .iload_n 3, 1), (14, .if_icmp .ge 22, 3), (17, .iload_n 2, 1), (18, .aload_n 0, 1), (19, .iload_n 1, 1), (20, .iload 4, 2), (22, .invokevirtual 55, 3), (25, .invokestatic 58, 3), (28, .imul, 1), (29, .istore_n 2, 1), (30, .iinc 4 1, 3), (33, .goto (-22), 3), (36, .iload_n 2, 1), (37, .ireturn, 1)]
theorem tX1_turnings_ok : ∀ q ∈ tX1_turnings, decode cX1_turnings q.1 = .ok (q.2.1, q.2.2) := by decide +kernel
abbrev mX1_countSheets : ps_M := (RX1, yX1_countSheets, cX1_countSheets, 3, some .int, (0, 0), none)
def tX1_countSheets : List (Nat × Instr × Nat) := [(0, .iconst 0, 1), (1, .istore_n 1, 1), (2, .iconst 0, 1), (3, .istore_n 2, 1), (4, .iload_n 2, 1), (5, .bipush 6, 2), (7, .if_icmp .ge 18, 3), (10, .iload_n 1, 1), (11, .aload_n 0, 1), (12, .getfield 16, 3), (15, .iload_n 2, 1), (16, .iaload, 1), (17, .iadd, 1), (18, .istore_n 1, 1), (19, .iinc 2 1, 3), (22, .goto (-18), 3), (25, .iload_n 1, 1), (26, .ireturn, 1)]
theorem tX1_countSheets_ok : ∀ q ∈ tX1_countSheets, decode cX1_countSheets q.1 = .ok (q.2.1, q.2.2) := by decide +kernel
abbrev mX1_countSeen : ps_M := (RX1, yX1_countSeen, cX1_countSeen, 4, some .int, (0, 0), none)
def tX1_countSeen : List (Nat × Instr × Nat) := [(0, .iconst 0, 1), (1, .istore_n 1, 1), (2, .iconst 0, 1), (3, .istore_n 2, 1), (4, .iload_n 2, 1), (5, .bipush 6, 2), (7, .if_icmp .ge 39, 3), (10, .iconst 0, 1), (11, .istore_n 3, 1), (12, .iload_n 3, 1), (13, .bipush 12, 2), (15, .if_icmp .ge 25, 3), (18, .aload_n 0, 1), (19, .getfield 20, 3), (22, .iload_n 2, 1), (23, .aaload, 1), (24, .iload_n 3, 1), (25, .iaload, 1), (26, .ldc 27, 2), (28, .if_icmp .eq 6, 3), (31, .iinc 1 1, 3), (34, .iinc 3 1, 3), (37, .goto (-25), 3), (40, .iinc 2 1, 3), (43, .goto (-39), 3), (46, .iload_n 1, 1), (47, .ireturn, 1)]
theorem tX1_countSeen_ok : ∀ q ∈ tX1_countSeen, decode cX1_countSeen q.1 = .ok (q.2.1, q.2.2) := by decide +kernel
abbrev mX2_putHouse : ps_M := (RX2, yX2_putHouse, cX2_putHouse, 4, some .int, (0, 0), none)
def tX2_putHouse : List (Nat × Instr × Nat) := [(0, .aload_n 0, 1), (1, .getfield 19, 3), (4, .istore_n 3, 1), (5, .aload_n 0, 1), (6, .iload_n 1, 1), (7, .putfield 19, 3), (10, .aload_n 0, 1), (11, .iload_n 2, 1), (12, .putfield 23, 3), (15, .aload_n 0, 1), (16, .iconst 0, 1), (17, .putfield 48, 3), (20, .iload_n 3, 1), (21, .ireturn, 1)]
theorem tX2_putHouse_ok : ∀ q ∈ tX2_putHouse, decode cX2_putHouse q.1 = .ok (q.2.1, q.2.2) := by decide +kernel
abbrev mX2_putHabit : ps_M := (RX2, yX2_putHabit, cX2_putHabit, 5, some .int, (0, 0), none)
def tX2_putHabit : List (Nat × Instr × Nat) := [(0, .aload_n 0, 1), (1, .getfield 11, 3), (4, .iload_n 1, 1), (5, .aaload, 1), (6, .iload_n 2, 1), (7, .iaload, 1), (8, .istore 4, 2), (10, .aload_n 0, 1), (11, .getfield 11, 3), (14, .iload_n 1, 1), (15, .aaload, 1), (16, .iload_n 2, 1), (17, .iload_n 3, 1), (18, .iastore, 1), (19, .aload_n 0, 1), (20, .iconst 0, 1), (21, .putfield 48, 3), (24, .iload 4, 2), (26, .ireturn, 1)]
theorem tX2_putHabit_ok : ∀ q ∈ tX2_putHabit, decode cX2_putHabit q.1 = .ok (q.2.1, q.2.2) := by decide +kernel
abbrev mX2_putTimes : ps_M := (RX2, yX2_putTimes, cX2_putTimes, 6, some .int, (0, 0), none)
def tX2_putTimes : List (Nat × Instr × Nat) := [(0, .aload_n 0, 1), (1, .getfield 16, 3), (4, .iload_n 1, 1), (5, .aaload, 1), (6, .iload_n 2, 1), (7, .iconst 2, 1), (8, .imul, 1), (9, .iload_n 3, 1), (10, .iadd, 1), (11, .iaload, 1), (12, .istore 5, 2), (14, .aload_n 0, 1), (15, .getfield 16, 3), (18, .iload_n 1, 1), (19, .aaload, 1), (20, .iload_n 2, 1), (21, .iconst 2, 1), (22, .imul, 1), (23, .iload_n 3, 1), (24, .iadd, 1), (25, .iload 4, 2), (27, .iastore, 1), (28, .aload_n 0, 1), (29, .iconst 0, 1), (30, .putfield 48, 3), (33, .iload 5, 2), (35, .ireturn, 1)]
theorem tX2_putTimes_ok : ∀ q ∈ tX2_putTimes, decode cX2_putTimes q.1 = .ok (q.2.1, q.2.2) := by decide +kernel
abbrev mX2_putChange : ps_M := (RX2, yX2_putChange, cX2_putChange, 3, some .int, (0, 0), none)
def tX2_putChange : List (Nat × Instr × Nat) := [(0, .aload_n 0, 1), (1, .getfield 26, 3), (4, .istore_n 2, 1), (5, .aload_n 0, 1), (6, .iload_n 1, 1), (7, .putfield 26, 3), (10, .aload_n 0, 1), (11, .iconst 0, 1), (12, .putfield 48, 3), (15, .iload_n 2, 1), (16, .ireturn, 1)]
theorem tX2_putChange_ok : ∀ q ∈ tX2_putChange, decode cX2_putChange q.1 = .ok (q.2.1, q.2.2) := by decide +kernel
abbrev mX2_wordsAgainst : ps_M := (RX2, yX2_wordsAgainst, cX2_wordsAgainst, 6, some .int, (0, 0), none)
def tX2_wordsAgainst : List (Nat × Instr × Nat) := [(0, .iconst 0, 1), (1, .istore_n 3, 1), (2, .iconst 0, 1), (3, .istore 4, 2), (5, .iload 4, 2), (7, .bipush 6, 2), (9, .if_icmp .ge 69, 3), (12, .iconst 0, 1), (13, .istore 5, 2), (15, .iload 5, 2), (17, .iconst 2, 1), (18, .if_icmp .ge 54, 3), (21, .aload_n 0, 1), (22, .getfield 11, 3), (25, .iload_n 2, 1), (26, .aaload, 1), (27, .iload 4, 2), (29, .iaload, 1), (30, .ldc 41, 2), (32, .if_icmp .eq 34, 3), (35, .aload_n 0, 1), (36, .getfield 11, 3), (39, .iload_n 2, 1), (40, .aaload, 1), (41, .iload 4, 2), (43, .iaload, 1), (44, .iload 5, 2), (46, .if_icmp .eq 20, 3), (49, .iload_n 3, 1), (50, .aload_n 0, 1), (51, .getfield 16, 3), (54, .iload_n 1, 1), (55, .aaload, 1), (56, .iload 4, 2), (58, .iconst 2, 1), (59, .imul, 1), (60, .iload 5, 2), (62, .iadd, 1), (63, .iaload, 1), (64, .iadd, 1), (65, .istore_n 3, 1), (66, .iinc 5 1, 3), (69, .goto (-54), 3), (72, .iinc 4 1, 3), (75, .goto (-70), 3), (78, .iload_n 3, 1), (79, .ireturn, 1)]
theorem tX2_wordsAgainst_ok : ∀ q ∈ tX2_wordsAgainst, decode cX2_wordsAgainst q.1 = .ok (q.2.1, q.2.2) := by decide +kernel
abbrev mX2_bestCost : ps_M := (RX2, yX2_bestCost, cX2_bestCost, 1, some .int, (0, 0), none)
def tX2_bestCost : List (Nat × Instr × Nat) := [(0, .aload_n 0, 1), (1, .invokevirtual 52, 3), (4, .aload_n 0, 1), (5, .getfield 55, 3), (8, .ireturn, 1)]
theorem tX2_bestCost_ok : ∀ q ∈ tX2_bestCost, decode cX2_bestCost q.1 = .ok (q.2.1, q.2.2) := by decide +kernel
abbrev mX2_bestWays : ps_M := (RX2, yX2_bestWays, cX2_bestWays, 3, some .int, (0, 0), none)
def tX2_bestWays : List (Nat × Instr × Nat) := [(0, .aload_n 0, 1), (1, .invokevirtual 52, 3), (4, .iconst 0, 1), (5, .istore_n 1, 1), (6, .iconst 0, 1), (7, .istore_n 2, 1), (8, .iload_n 2, 1), (9, .aload_n 0, 1), (10, .getfield 19, 3), (13, .if_icmp .ge 29, 3), (16, .aload_n 0, 1), (17, .iconst 0, 1), (18, .iload_n 2, 1), (19, .invokevirtual 58, 3), (22, .ifCond .eq 14, 3), (25, .iload_n 1, 1), (26, .aload_n 0, 1), (27, .getfield 38, 3), (30, .iconst 0, 1), (31, .aaload, 1), (32, .iload_n 2, 1), (33, .iaload, 1), (34, .iadd, 1), (35, .istore_n 1, 1), (36, .iinc 2 1, 3), (39, .goto (-31), 3), (42, .iload_n 1, 1), (43, .ireturn, 1)]
theorem tX2_bestWays_ok : ∀ q ∈ tX2_bestWays, decode cX2_bestWays q.1 = .ok (q.2.1, q.2.2) := by decide +kernel
abbrev mX2_bestMen : ps_M := (RX2, yX2_bestMen, cX2_bestMen, 4, some .int, (0, 0), none)
def tX2_bestMen : List (Nat × Instr × Nat) := [(0, .aload_n 0, 1), (1, .invokevirtual 52, 3), (4, .iconst 0, 1), (5, .istore_n 2, 1), (6, .iconst 0, 1), (7, .istore_n 3, 1), (8, .iload_n 3, 1), (9, .aload_n 0, 1), (10, .getfield 19, 3), (13, .if_icmp .ge 21, 3), (16, .aload_n 0, 1), (17, .iload_n 1, 1), (18, .iload_n 3, 1), (19, .invokevirtual 58, 3), (22, .ifCond .eq 6, 3), (25, .iinc 2 1, 3), (28, .iinc 3 1, 3), (31, .goto (-23), 3), (34, .iload_n 2, 1), (35, .ireturn, 1)]
theorem tX2_bestMen_ok : ∀ q ∈ tX2_bestMen, decode cX2_bestMen q.1 = .ok (q.2.1, q.2.2) := by decide +kernel
abbrev mX2_firstMan : ps_M := (RX2, yX2_firstMan, cX2_firstMan, 4, some .int, (0, 0), none)
def tX2_firstMan : List (Nat × Instr × Nat) := [(0, .aload_n 0, 1), (1, .invokevirtual 52, 3), (4, .aload_n 0, 1), (5, .invokevirtual 62, 3), (8, .istore_n 2, 1), (9, .iconst 0, 1), (10, .istore_n 3, 1), (11, .iload_n 3, 1), (12, .iload_n 1, 1), (13, .if_icmp .ge 16, 3), (16, .aload_n 0, 1), (17, .iload_n 3, 1), (18, .iload_n 2, 1), (19, .invokevirtual 66, 3), (22, .istore_n 2, 1), (23, .iinc 3 1, 3), (26, .goto (-15), 3), (29, .iload_n 2, 1), (30, .ireturn, 1)]
theorem tX2_firstMan_ok : ∀ q ∈ tX2_firstMan, decode cX2_firstMan q.1 = .ok (q.2.1, q.2.2) := by decide +kernel
abbrev mX2_isBest : ps_M := (RX2, yX2_isBest, cX2_isBest, 3, some .boolean, (0, 0), none)
def tX2_isBest : List (Nat × Instr × Nat) := [(0, .aload_n 0, 1), (1, .getfield 32, 3), (4, .iload_n 1, 1), (5, .aaload, 1), (6, .iload_n 2, 1), (7, .iaload, 1), (8, .aload_n 0, 1), (9, .getfield 35, 3), (12, .iload_n 1, 1), (13, .aaload, 1), (14, .iload_n 2, 1), (15, .iaload, 1), (16, .iadd, 1), (17, .aload_n 0, 1), (18, .getfield 55, 3), (21, .if_icmp .ne 7, 3), (24, .iconst 1, 1), (25, .goto 4, 3), (28, .iconst 0, 1), (29, .ireturn, 1)]
theorem tX2_isBest_ok : ∀ q ∈ tX2_isBest, decode cX2_isBest q.1 = .ok (q.2.1, q.2.2) := by decide +kernel
abbrev mX2_leastBestMan : ps_M := (RX2, yX2_leastBestMan, cX2_leastBestMan, 2, some .int, (0, 0), none)
def tX2_leastBestMan : List (Nat × Instr × Nat) := [(0, .iconst 0, 1), (1, .istore_n 1, 1), (2, .iload_n 1, 1), (3, .aload_n 0, 1), (4, .getfield 19, 3), (7, .iconst 1, 1), (8, .isub, 1), (9, .if_icmp .ge 20, 3), (12, .aload_n 0, 1), (13, .iconst 0, 1), (14, .iload_n 1, 1), (15, .invokevirtual 58, 3), (18, .ifCond .eq 5, 3), (21, .iload_n 1, 1), (22, .ireturn, 1), (23, .iinc 1 1, 3), (26, .goto (-24), 3), (29, .aload_n 0, 1), (30, .getfield 19, 3), (33, .iconst 1, 1), (34, .isub, 1), (35, .ireturn, 1)]
theorem tX2_leastBestMan_ok : ∀ q ∈ tX2_leastBestMan, decode cX2_leastBestMan q.1 = .ok (q.2.1, q.2.2) := by decide +kernel
abbrev mX2_nextMan : ps_M := (RX2, yX2_nextMan, cX2_nextMan, 4, some .int, (0, 0), none)
def tX2_nextMan : List (Nat × Instr × Nat) := [(0, .iconst 0, 1), (1, .istore_n 3, 1), (2, .iload_n 3, 1), (3, .aload_n 0, 1), (4, .getfield 19, 3), (7, .iconst 1, 1), (8, .isub, 1), (9, .if_icmp .ge 29, 3), (12, .aload_n 0, 1), (13, .iload_n 1, 1), (14, .iload_n 2, 1), (15, .iload_n 3, 1), (16, .invokevirtual 70, 3), (19, .aload_n 0, 1), (20, .getfield 35, 3), (23, .iload_n 1, 1), (24, .aaload, 1), (25, .iload_n 2, 1), (26, .iaload, 1), (27, .if_icmp .ne 5, 3), (30, .iload_n 3, 1), (31, .ireturn, 1), (32, .iinc 3 1, 3), (35, .goto (-33), 3), (38, .aload_n 0, 1), (39, .getfield 19, 3), (42, .iconst 1, 1), (43, .isub, 1), (44, .ireturn, 1)]
theorem tX2_nextMan_ok : ∀ q ∈ tX2_nextMan, decode cX2_nextMan q.1 = .ok (q.2.1, q.2.2) := by decide +kernel
abbrev mX2_changeOf : ps_M := (RX2, yX2_changeOf, cX2_changeOf, 3, some .int, (0, 0), none)
def tX2_changeOf : List (Nat × Instr × Nat) := [(0, .iload_n 1, 1), (1, .iload_n 2, 1), (2, .if_icmp .ne 7, 3), (5, .iconst 0, 1), (6, .goto 7, 3), (9, .aload_n 0, 1), (10, .getfield 26, 3), (13, .ireturn, 1)]
theorem tX2_changeOf_ok : ∀ q ∈ tX2_changeOf, decode cX2_changeOf q.1 = .ok (q.2.1, q.2.2) := by decide +kernel
abbrev mX2_costThrough : ps_M := (RX2, yX2_costThrough, cX2_costThrough, 4, some .int, (0, 0), none)
def tX2_costThrough : List (Nat × Instr × Nat) := [(0, .aload_n 0, 1), (1, .iload_n 2, 1), (2, .iload_n 3, 1), (3, .invokevirtual 74, 3), (6, .aload_n 0, 1), (7, .getfield 29, 3), (10, .iload_n 1, 1), (11, .iconst 1, 1), (12, .iadd, 1), (13, .aaload, 1), (14, .iload_n 3, 1), (15, .iaload, 1), (16, .iadd, 1), (17, .aload_n 0, 1), (18, .getfield 35, 3), (21, .iload_n 1, 1), (22, .iconst 1, 1), (23, .iadd, 1), (24, .aaload, 1), (25, .iload_n 3, 1), (26, .iaload, 1), (27, .iadd, 1), (28, .ireturn, 1)]
theorem tX2_costThrough_ok : ∀ q ∈ tX2_costThrough, decode cX2_costThrough q.1 = .ok (q.2.1, q.2.2) := by decide +kernel
abbrev mX2_solve : ps_M := (RX2, yX2_solve, cX2_solve, 3, none, (0, 0), none)
def tX2_solve : List (Nat × Instr × Nat) := [(0, .aload_n 0, 1), (1, .getfield 48, 3), (4, .ifCond .eq 4, 3), (7, .return_, 1), (8, .iconst 0, 1), (9, .istore_n 1, 1), (10, .iload_n 1, 1), (11, .aload_n 0, 1), (12, .getfield 23, 3), (15, .if_icmp .ge 70, 3), (18, .iconst 0, 1), (19, .istore_n 2, 1), (20, .iload_n 2, 1), (21, .aload_n 0, 1), (22, .getfield 19, 3), (25, .if_icmp .ge 54, 3), (28, .aload_n 0, 1), (29, .getfield 29, 3), (32, .iload_n 1, 1), (33, .aaload, 1), (34, .iload_n 2, 1), (35, .aload_n 0, 1), (36, .iload_n 1, 1), (37, .iload_n 2, 1), (38, .invokevirtual 77, 3), (41, .iastore, 1), (42, .aload_n 0, 1), (43, .getfield 32, 3), (46, .iload_n 1, 1), (47, .aaload, 1), (48, .iload_n 2, 1), (49, .aload_n 0, 1), (50, .getfield 29, 3), (53, .iload_n 1, 1), (54, .aaload, 1), (55, .iload_n 2, 1), (56, .iaload, 1), (57, .iload_n 1, 1), (58, .ifCond .ne 7, 3), (61, .iconst 0, 1), (62, .goto 9, 3), (65, .aload_n 0, 1), (66, .iload_n 1, 1), (67, .iload_n 2, 1), (68, .invokevirtual 80, 3), (71, .iadd, 1), (72, .iastore, 1), (73, .iinc 2 1, 3), (76, .goto (-56), 3), (79, .iinc 1 1, 3), (82, .goto (-72), 3), (85, .aload_n 0, 1), (86, .getfield 23, 3), (89, .iconst 1, 1), (90, .isub, 1), (91, .istore_n 1, 1), (92, .iload_n 1, 1), (93, .ifCond .lt 31, 3), (96, .iconst 0, 1), (97, .istore_n 2, 1), (98, .iload_n 2, 1), (99, .aload_n 0, 1), (100, .getfield 19, 3), (103, .if_icmp .ge 15, 3), (106, .aload_n 0, 1), (107, .iload_n 1, 1), (108, .iload_n 2, 1), (109, .invokevirtual 83, 3), (112, .iinc 2 1, 3), (115, .goto (-17), 3), (118, .iinc 1 (-1), 3), (121, .goto (-29), 3), (124, .aload_n 0, 1), (125, .aload_n 0, 1), (126, .aload_n 0, 1), (127, .getfield 23, 3), (130, .iconst 1, 1), (131, .isub, 1), (132, .invokevirtual 87, 3), (135, .putfield 55, 3), (138, .aload_n 0, 1), (139, .iconst 1, 1), (140, .putfield 48, 3), (143, .return_, 1)]
theorem tX2_solve_ok : ∀ q ∈ tX2_solve, decode cX2_solve q.1 = .ok (q.2.1, q.2.2) := by decide +kernel
abbrev mX2_costAhead : ps_M := (RX2, yX2_costAhead, cX2_costAhead, 5, some .int, (0, 0), none)
def tX2_costAhead : List (Nat × Instr × Nat) := [(0, .aload_n 0, 1), (1, .getfield 32, 3), (4, .iload_n 1, 1), (5, .iconst 1, 1), (6, .isub, 1), (7, .aaload, 1), (8, .iload_n 2, 1), (9, .iaload, 1), (10, .istore_n 3, 1), (11, .iconst 0, 1), (12, .istore 4, 2), (14, .iload 4, 2), (16, .aload_n 0, 1), (17, .getfield 19, 3), (20, .if_icmp .ge 33, 3), (23, .iload_n 3, 1), (24, .aload_n 0, 1), (25, .getfield 32, 3), (28, .iload_n 1, 1), (29, .iconst 1, 1), (30, .isub, 1), (31, .aaload, 1), (32, .iload 4, 2), (34, .iaload, 1), (35, .aload_n 0, 1), (36, .iload 4, 2), (38, .iload_n 2, 1), (39, .invokevirtual 74, 3), (42, .iadd, 1), (43, .invokestatic 91, 3), (46, .istore_n 3, 1), (47, .iinc 4 1, 3), (50, .goto (-36), 3), (53, .iload_n 3, 1), (54, .ireturn, 1)]
theorem tX2_costAhead_ok : ∀ q ∈ tX2_costAhead, decode cX2_costAhead q.1 = .ok (q.2.1, q.2.2) := by decide +kernel
abbrev mX2_lookBehind : ps_M := (RX2, yX2_lookBehind, cX2_lookBehind, 6, none, (0, 0), none)
def tX2_lookBehind : List (Nat × Instr × Nat) := [(0, .iload_n 1, 1), (1, .aload_n 0, 1), (2, .getfield 23, 3), (5, .iconst 1, 1), (6, .isub, 1), (7, .if_icmp .ne 22, 3), (10, .aload_n 0, 1), (11, .getfield 35, 3), (14, .iload_n 1, 1), (15, .aaload, 1), (16, .iload_n 2, 1), (17, .iconst 0, 1), (18, .iastore, 1), (19, .aload_n 0, 1), (20, .getfield 38, 3), (23, .iload_n 1, 1), (24, .aaload, 1), (25, .iload_n 2, 1), (26, .iconst 1, 1), (27, .iastore, 1), (28, .return_, 1), (29, .aload_n 0, 1), (30, .iload_n 1, 1), (31, .iload_n 2, 1), (32, .iload_n 2, 1), (33, .invokevirtual 70, 3), (36, .istore_n 3, 1), (37, .iconst 0, 1), (38, .istore 4, 2), (40, .iload 4, 2), (42, .aload_n 0, 1), (43, .getfield 19, 3), (46, .if_icmp .ge 22, 3), (49, .iload_n 3, 1), (50, .aload_n 0, 1), (51, .iload_n 1, 1), (52, .iload_n 2, 1), (53, .iload 4, 2), (55, .invokevirtual 70, 3), (58, .invokestatic 91, 3), (61, .istore_n 3, 1), (62, .iinc 4 1, 3), (65, .goto (-25), 3), (68, .iconst 0, 1), (69, .istore 4, 2), (71, .iconst 0, 1), (72, .istore 5, 2), (74, .iload 5, 2), (76, .aload_n 0, 1), (77, .getfield 19, 3), (80, .if_icmp .ge 37, 3), (83, .aload_n 0, 1), (84, .iload_n 1, 1), (85, .iload_n 2, 1), (86, .iload 5, 2), (88, .invokevirtual 70, 3), (91, .iload_n 3, 1), (92, .if_icmp .ne 19, 3), (95, .iload 4, 2), (97, .aload_n 0, 1), (98, .getfield 38, 3), (101, .iload_n 1, 1), (102, .iconst 1, 1), (103, .iadd, 1), (104, .aaload, 1), (105, .iload 5, 2), (107, .iaload, 1), (108, .iadd, 1), (109, .istore 4, 2), (111, .iinc 5 1, 3), (114, .goto (-40), 3), (117, .aload_n 0, 1), (118, .getfield 35, 3), (121, .iload_n 1, 1), (122, .aaload, 1), (123, .iload_n 2, 1), (124, .iload_n 3, 1), (125, .iastore, 1), (126, .aload_n 0, 1), (127, .getfield 38, 3), (130, .iload_n 1, 1), (131, .aaload, 1), (132, .iload_n 2, 1), (133, .iload 4, 2), (135, .iastore, 1), (136, .return_, 1)]
theorem tX2_lookBehind_ok : ∀ q ∈ tX2_lookBehind, decode cX2_lookBehind q.1 = .ok (q.2.1, q.2.2) := by decide +kernel
abbrev mX2_leastUpTo : ps_M := (RX2, yX2_leastUpTo, cX2_leastUpTo, 4, some .int, (0, 0), none)
def tX2_leastUpTo : List (Nat × Instr × Nat) := [(0, .aload_n 0, 1), (1, .getfield 32, 3), (4, .iload_n 1, 1), (5, .aaload, 1), (6, .iconst 0, 1), (7, .iaload, 1), (8, .istore_n 2, 1), (9, .iconst 1, 1), (10, .istore_n 3, 1), (11, .iload_n 3, 1), (12, .aload_n 0, 1), (13, .getfield 19, 3), (16, .if_icmp .ge 22, 3), (19, .iload_n 2, 1), (20, .aload_n 0, 1), (21, .getfield 32, 3), (24, .iload_n 1, 1), (25, .aaload, 1), (26, .iload_n 3, 1), (27, .iaload, 1), (28, .invokestatic 91, 3), (31, .istore_n 2, 1), (32, .iinc 3 1, 3), (35, .goto (-24), 3), (38, .iload_n 2, 1), (39, .ireturn, 1)]
theorem tX2_leastUpTo_ok : ∀ q ∈ tX2_leastUpTo, decode cX2_leastUpTo q.1 = .ok (q.2.1, q.2.2) := by decide +kernel
abbrev mX3_leastCost : ps_M := (RX3, yX3_leastCost, cX3_leastCost, 2, some .int, (0, 0), none)
def tX3_leastCost : List (Nat × Instr × Nat) := [(0, .aload_n 0, 1), (1, .aload_n 1, 1), (2, .invokevirtual 21, 3), (5, .aload_n 1, 1), (6, .getfield 25, 3), (9, .ireturn, 1)]
theorem tX3_leastCost_ok : ∀ q ∈ tX3_leastCost, decode cX3_leastCost q.1 = .ok (q.2.1, q.2.2) := by decide +kernel
abbrev mX3_leastWays : ps_M := (RX3, yX3_leastWays, cX3_leastWays, 2, some .int, (0, 0), none)
def tX3_leastWays : List (Nat × Instr × Nat) := [(0, .aload_n 0, 1), (1, .aload_n 1, 1), (2, .invokevirtual 21, 3), (5, .aload_n 1, 1), (6, .getfield 31, 3), (9, .ireturn, 1)]
theorem tX3_leastWays_ok : ∀ q ∈ tX3_leastWays, decode cX3_leastWays q.1 = .ok (q.2.1, q.2.2) := by decide +kernel
abbrev mX3_stateAt : ps_M := (RX3, yX3_stateAt, cX3_stateAt, 3, some .int, (0, 0), none)
def tX3_stateAt : List (Nat × Instr × Nat) := [(0, .aload_n 0, 1), (1, .aload_n 1, 1), (2, .invokevirtual 21, 3), (5, .aload_n 1, 1), (6, .getfield 34, 3), (9, .iload_n 2, 1), (10, .iaload, 1), (11, .ireturn, 1)]
theorem tX3_stateAt_ok : ∀ q ∈ tX3_stateAt, decode cX3_stateAt q.1 = .ok (q.2.1, q.2.2) := by decide +kernel
abbrev mX3_waysWith : ps_M := (RX3, yX3_waysWith, cX3_waysWith, 5, some .int, (0, 0), none)
def tX3_waysWith : List (Nat × Instr × Nat) := [(0, .aload_n 0, 1), (1, .aload_n 1, 1), (2, .invokevirtual 21, 3), (5, .aload_n 1, 1), (6, .getfield 25, 3), (9, .ldc 37, 2), (11, .if_icmp .ne 5, 3), (14, .iconst 0, 1), (15, .ireturn, 1), (16, .aload_n 0, 1), (17, .aload_n 1, 1), (18, .invokevirtual 38, 3), (21, .aload_n 0, 1), (22, .getfield 18, 3), (25, .iload_n 3, 1), (26, .dup2, 1), (27, .iaload, 1), (28, .iconst 1, 1), (29, .iload_n 2, 1), (30, .ishl, 1), (31, .ior, 1), (32, .iastore, 1), (33, .aload_n 0, 1), (34, .invokevirtual 41, 3), (37, .istore 4, 2), (39, .iload 4, 2), (41, .iconst (-1), 1), (42, .if_icmp .eq 23, 3), (45, .iload 4, 2), (47, .ldc 45, 2), (49, .idiv, 1), (50, .aload_n 1, 1), (51, .getfield 25, 3), (54, .if_icmp .ne 11, 3), (57, .iload 4, 2), (59, .ldc 45, 2), (61, .irem, 1), (62, .goto 4, 3), (65, .iconst 0, 1), (66, .ireturn, 1)]
theorem tX3_waysWith_ok : ∀ q ∈ tX3_waysWith, decode cX3_waysWith q.1 = .ok (q.2.1, q.2.2) := by decide +kernel
abbrev mX3_makeOrders : ps_M := (RX3, yX3_makeOrders, cX3_makeOrders, 3, none, (0, 0), none)
def tX3_makeOrders : List (Nat × Instr × Nat) := [(0, .aload_n 1, 1), (1, .getfield 46, 3), (4, .ifCond .eq 4, 3), (7, .return_, 1), (8, .aload_n 0, 1), (9, .aload_n 1, 1), (10, .invokevirtual 38, 3), (13, .aload_n 0, 1), (14, .invokevirtual 41, 3), (17, .istore_n 2, 1), (18, .aload_n 1, 1), (19, .iload_n 2, 1), (20, .iconst (-1), 1), (21, .if_icmp .ne 8, 3), (24, .ldc 37, 2), (26, .goto 7, 3), (29, .iload_n 2, 1), (30, .ldc 45, 2), (32, .idiv, 1), (33, .putfield 25, 3), (36, .aload_n 1, 1), (37, .iload_n 2, 1), (38, .iconst (-1), 1), (39, .if_icmp .ne 7, 3), (42, .iconst 0, 1), (43, .goto 7, 3), (46, .iload_n 2, 1), (47, .ldc 45, 2), (49, .irem, 1), (50, .putfield 31, 3), (53, .aload_n 1, 1), (54, .getfield 34, 3), (57, .ldc 37, 2), (59, .invokestatic 50, 3), (62, .iload_n 2, 1), (63, .iconst (-1), 1), (64, .if_icmp .eq 15, 3), (67, .aload_n 0, 1), (68, .aload_n 1, 1), (69, .getfield 34, 3), (72, .aload_n 1, 1), (73, .getfield 25, 3), (76, .invokevirtual 56, 3), (79, .aload_n 1, 1), (80, .iconst 1, 1), (81, .putfield 46, 3), (84, .return_, 1)]
theorem tX3_makeOrders_ok : ∀ q ∈ tX3_makeOrders, decode cX3_makeOrders q.1 = .ok (q.2.1, q.2.2) := by decide +kernel
abbrev mX3_takeStates : ps_M := (RX3, yX3_takeStates, cX3_takeStates, 5, none, (0, 0), none)
def tX3_takeStates : List (Nat × Instr × Nat) := [(0, .aload_n 0, 1), (1, .aload_n 1, 1), (2, .getfield 59, 3), (5, .putfield 62, 3), (8, .iconst 0, 1), (9, .istore_n 2, 1), (10, .iload_n 2, 1), (11, .aload_n 0, 1), (12, .getfield 62, 3), (15, .if_icmp .ge 67, 3), (18, .aload_n 0, 1), (19, .getfield 18, 3), (22, .iload_n 2, 1), (23, .aload_n 1, 1), (24, .iload_n 2, 1), (25, .invokevirtual 65, 3), (28, .iastore, 1), (29, .iconst 0, 1), (30, .istore_n 3, 1), (31, .iload_n 3, 1), (32, .iload_n 2, 1), (33, .if_icmp .ge 43, 3), (36, .aload_n 1, 1), (37, .iload_n 2, 1), (38, .iload_n 3, 1), (39, .invokevirtual 69, 3), (42, .istore 4, 2), (44, .aload_n 0, 1), (45, .getfield 15, 3), (48, .iload_n 2, 1), (49, .bipush 9, 2), (51, .imul, 1), (52, .iload_n 3, 1), (53, .iadd, 1), (54, .iload 4, 2), (56, .iastore, 1), (57, .aload_n 0, 1), (58, .getfield 15, 3), (61, .iload_n 3, 1), (62, .bipush 9, 2), (64, .imul, 1), (65, .iload_n 2, 1), (66, .iadd, 1), (67, .iload 4, 2), (69, .iastore, 1), (70, .iinc 3 1, 3), (73, .goto (-42), 3), (76, .iinc 2 1, 3), (79, .goto (-69), 3), (82, .return_, 1)]
theorem tX3_takeStates_ok : ∀ q ∈ tX3_takeStates, decode cX3_takeStates q.1 = .ok (q.2.1, q.2.2) := by decide +kernel
abbrev mX3_findRests : ps_M := (RX3, yX3_findRests, cX3_findRests, 4, some .int, (0, 0), none)
def tX3_findRests : List (Nat × Instr × Nat) := [(0, .iconst 1, 1), (1, .aload_n 0, 1), (2, .getfield 62, 3), (5, .ishl, 1), (6, .iconst 1, 1), (7, .isub, 1), (8, .istore_n 1, 1), (9, .iload_n 1, 1), (10, .istore_n 2, 1), (11, .iload_n 2, 1), (12, .ifCond .le 59, 3), (15, .iconst 0, 1), (16, .istore_n 3, 1), (17, .iload_n 3, 1), (18, .aload_n 0, 1), (19, .getfield 62, 3), (22, .if_icmp .ge 43, 3), (25, .iload_n 2, 1), (26, .iload_n 3, 1), (27, .ishr, 1), (28, .iconst 1, 1), (29, .iand, 1), (30, .ifCond .eq 29, 3), (33, .aload_n 0, 1), (34, .getfield 9, 3), (37, .iload_n 2, 1), (38, .bipush 9, 2), (40, .imul, 1), (41, .iload_n 3, 1), (42, .iadd, 1), (43, .iload_n 2, 1), (44, .iload_n 1, 1), (45, .if_icmp .ne 7, 3), (48, .iconst 1, 1), (49, .goto 9, 3), (52, .aload_n 0, 1), (53, .iload_n 2, 1), (54, .iload_n 3, 1), (55, .invokevirtual 73, 3), (58, .iastore, 1), (59, .iinc 3 1, 3), (62, .goto (-45), 3), (65, .iinc 2 (-1), 3), (68, .goto (-57), 3), (71, .iload_n 1, 1), (72, .ifCond .ne 7, 3), (75, .iconst 1, 1), (76, .goto 10, 3), (79, .aload_n 0, 1), (80, .iconst 0, 1), (81, .ldc 37, 2), (83, .invokevirtual 73, 3), (86, .ireturn, 1)]
theorem tX3_findRests_ok : ∀ q ∈ tX3_findRests, decode cX3_findRests q.1 = .ok (q.2.1, q.2.2) := by decide +kernel
abbrev mX3_restBehind : ps_M := (RX3, yX3_restBehind, cX3_restBehind, 5, some .int, (0, 0), none)
def tX3_restBehind : List (Nat × Instr × Nat) := [(0, .iconst (-1), 1), (1, .istore_n 3, 1), (2, .iconst 0, 1), (3, .istore 4, 2), (5, .iload 4, 2), (7, .aload_n 0, 1), (8, .getfield 62, 3), (11, .if_icmp .ge 32, 3), (14, .aload_n 0, 1), (15, .iload_n 1, 1), (16, .iload 4, 2), (18, .invokevirtual 76, 3), (21, .ifCond .eq 16, 3), (24, .iload_n 3, 1), (25, .aload_n 0, 1), (26, .iload_n 1, 1), (27, .iload_n 2, 1), (28, .iload 4, 2), (30, .invokevirtual 80, 3), (33, .invokestatic 84, 3), (36, .istore_n 3, 1), (37, .iinc 4 1, 3), (40, .goto (-35), 3), (43, .iload_n 3, 1), (44, .ireturn, 1)]
theorem tX3_restBehind_ok : ∀ q ∈ tX3_restBehind, decode cX3_restBehind q.1 = .ok (q.2.1, q.2.2) := by decide +kernel
abbrev mX3_mayCome : ps_M := (RX3, yX3_mayCome, cX3_mayCome, 3, some .boolean, (0, 0), none)
def tX3_mayCome : List (Nat × Instr × Nat) := [(0, .iload_n 1, 1), (1, .iload_n 2, 1), (2, .ishr, 1), (3, .iconst 1, 1), (4, .iand, 1), (5, .ifCond .ne 20, 3), (8, .aload_n 0, 1), (9, .getfield 18, 3), (12, .iload_n 2, 1), (13, .iaload, 1), (14, .iload_n 1, 1), (15, .iconst (-1), 1), (16, .ixor, 1), (17, .iand, 1), (18, .ifCond .ne 7, 3), (21, .iconst 1, 1), (22, .goto 4, 3), (25, .iconst 0, 1), (26, .ireturn, 1)]
theorem tX3_mayCome_ok : ∀ q ∈ tX3_mayCome, decode cX3_mayCome q.1 = .ok (q.2.1, q.2.2) := by decide +kernel
abbrev mX3_restThrough : ps_M := (RX3, yX3_restThrough, cX3_restThrough, 5, some .int, (0, 0), none)
def tX3_restThrough : List (Nat × Instr × Nat) := [(0, .aload_n 0, 1), (1, .getfield 9, 3), (4, .iload_n 1, 1), (5, .iconst 1, 1), (6, .iload_n 3, 1), (7, .ishl, 1), (8, .ior, 1), (9, .bipush 9, 2), (11, .imul, 1), (12, .iload_n 3, 1), (13, .iadd, 1), (14, .iaload, 1), (15, .istore 4, 2), (17, .iload 4, 2), (19, .iconst (-1), 1), (20, .if_icmp .eq 9, 3), (23, .iload_n 2, 1), (24, .ldc 37, 2), (26, .if_icmp .ne 6, 3), (29, .iload 4, 2), (31, .ireturn, 1), (32, .iload 4, 2), (34, .aload_n 0, 1), (35, .getfield 15, 3), (38, .iload_n 2, 1), (39, .bipush 9, 2), (41, .imul, 1), (42, .iload_n 3, 1), (43, .iadd, 1), (44, .iaload, 1), (45, .ldc 45, 2), (47, .imul, 1), (48, .iadd, 1), (49, .ireturn, 1)]
theorem tX3_restThrough_ok : ∀ q ∈ tX3_restThrough, decode cX3_restThrough q.1 = .ok (q.2.1, q.2.2) := by decide +kernel
abbrev mX3_join : ps_M := (RX3, yX3_join, cX3_join, 2, some .int, (0, 0), none)
def tX3_join : List (Nat × Instr × Nat) := [(0, .iload_n 0, 1), (1, .iconst (-1), 1), (2, .if_icmp .eq 8, 3), (5, .iload_n 1, 1), (6, .iconst (-1), 1), (7, .if_icmp .ne 9, 3), (10, .iload_n 0, 1), (11, .iload_n 1, 1), (12, .invokestatic 87, 3), (15, .ireturn, 1), (16, .iload_n 0, 1), (17, .ldc 45, 2), (19, .idiv, 1), (20, .iload_n 1, 1), (21, .ldc 45, 2), (23, .idiv, 1), (24, .if_icmp .eq 9, 3), (27, .iload_n 0, 1), (28, .iload_n 1, 1), (29, .invokestatic 92, 3), (32, .ireturn, 1), (33, .iload_n 0, 1), (34, .iload_n 1, 1), (35, .ldc 45, 2), (37, .irem, 1), (38, .iadd, 1), (39, .ireturn, 1)]
theorem tX3_join_ok : ∀ q ∈ tX3_join, decode cX3_join q.1 = .ok (q.2.1, q.2.2) := by decide +kernel
abbrev mX3_walkFirst : ps_M := (RX3, yX3_walkFirst, cX3_walkFirst, 8, none, (0, 0), none)
def tX3_walkFirst : List (Nat × Instr × Nat) := [(0, .iconst 0, 1), (1, .istore_n 3, 1), (2, .ldc 37, 2), (4, .istore 4, 2), (6, .iload_n 2, 1), (7, .istore 5, 2), (9, .iconst 0, 1), (10, .istore 6, 2), (12, .iload 6, 2), (14, .aload_n 0, 1), (15, .getfield 62, 3), (18, .if_icmp .ge 74, 3), (21, .aload_n 0, 1), (22, .iload_n 3, 1), (23, .iload 4, 2), (25, .iload 5, 2), (27, .invokevirtual 95, 3), (30, .istore 7, 2), (32, .iload 7, 2), (34, .ldc 37, 2), (36, .if_icmp .ne 4, 3), (39, .return_, 1), (40, .aload_n 1, 1), (41, .iload 6, 2), (43, .iload 7, 2), (45, .iastore, 1), (46, .iload 5, 2), (48, .iload 4, 2), (50, .ldc 37, 2), (52, .if_icmp .ne 7, 3), (55, .iconst 0, 1), (56, .goto 16, 3), (59, .aload_n 0, 1), (60, .getfield 15, 3), (63, .iload 4, 2), (65, .bipush 9, 2), (67, .imul, 1), (68, .iload 7, 2), (70, .iadd, 1), (71, .iaload, 1), (72, .isub, 1), (73, .istore 5, 2), (75, .iload_n 3, 1), (76, .iconst 1, 1), (77, .iload 7, 2), (79, .ishl, 1), (80, .ior, 1), (81, .istore_n 3, 1), (82, .iload 7, 2), (84, .istore 4, 2), (86, .iinc 6 1, 3), (89, .goto (-77), 3), (92, .return_, 1)]
theorem tX3_walkFirst_ok : ∀ q ∈ tX3_walkFirst, decode cX3_walkFirst q.1 = .ok (q.2.1, q.2.2) := by decide +kernel
abbrev mX3_leastNext : ps_M := (RX3, yX3_leastNext, cX3_leastNext, 6, some .int, (0, 0), none)
def tX3_leastNext : List (Nat × Instr × Nat) := [(0, .iconst 0, 1), (1, .istore 4, 2), (3, .iload 4, 2), (5, .aload_n 0, 1), (6, .getfield 62, 3), (9, .if_icmp .ge 51, 3), (12, .aload_n 0, 1), (13, .iload_n 1, 1), (14, .iload 4, 2), (16, .invokevirtual 76, 3), (19, .ifCond .eq 14, 3), (22, .aload_n 0, 1), (23, .iload_n 1, 1), (24, .iload_n 2, 1), (25, .iload 4, 2), (27, .invokevirtual 80, 3), (30, .goto 4, 3), (33, .iconst (-1), 1), (34, .istore 5, 2), (36, .iload 5, 2), (38, .iconst (-1), 1), (39, .if_icmp .eq 15, 3), (42, .iload 5, 2), (44, .ldc 45, 2), (46, .idiv, 1), (47, .iload_n 3, 1), (48, .if_icmp .ne 6, 3), (51, .iload 4, 2), (53, .ireturn, 1), (54, .iinc 4 1, 3), (57, .goto (-54), 3), (60, .ldc 37, 2), (62, .ireturn, 1)]
theorem tX3_leastNext_ok : ∀ q ∈ tX3_leastNext, decode cX3_leastNext q.1 = .ok (q.2.1, q.2.2) := by decide +kernel
abbrev mX4_forget : ps_M := (RX4, yX4_forget, cX4_forget, 1, none, (0, 0), none)
def tX4_forget : List (Nat × Instr × Nat) := [(0, .aload_n 0, 1), (1, .iconst 0, 1), (2, .putfield 31, 3), (5, .return_, 1)]
theorem tX4_forget_ok : ∀ q ∈ tX4_forget, decode cX4_forget q.1 = .ok (q.2.1, q.2.2) := by decide +kernel
abbrev mX4_putPresses : ps_M := (RX4, yX4_putPresses, cX4_putPresses, 3, some .int, (0, 0), none)
def tX4_putPresses : List (Nat × Instr × Nat) := [(0, .aload_n 0, 1), (1, .getfield 27, 3), (4, .istore_n 2, 1), (5, .aload_n 0, 1), (6, .iload_n 1, 1), (7, .putfield 27, 3), (10, .aload_n 0, 1), (11, .invokevirtual 34, 3), (14, .iload_n 2, 1), (15, .ireturn, 1)]
theorem tX4_putPresses_ok : ∀ q ∈ tX4_putPresses, decode cX4_putPresses q.1 = .ok (q.2.1, q.2.2) := by decide +kernel
abbrev mX4_planCount : ps_M := (RX4, yX4_planCount, cX4_planCount, 5, some .int, (0, 0), none)
def tX4_planCount : List (Nat × Instr × Nat) := [(0, .aload_n 0, 1), (1, .aload_n 1, 1), (2, .iload_n 3, 1), (3, .invokevirtual 37, 3), (6, .aload_n 0, 1), (7, .getfield 18, 3), (10, .iconst 0, 1), (11, .invokestatic 41, 3), (14, .aload_n 0, 1), (15, .getfield 18, 3), (18, .iconst 0, 1), (19, .iconst 1, 1), (20, .iastore, 1), (21, .iconst 0, 1), (22, .istore 4, 2), (24, .iload 4, 2), (26, .iload_n 2, 1), (27, .if_icmp .ge 17, 3), (30, .aload_n 0, 1), (31, .aload_n 1, 1), (32, .getfield 47, 3), (35, .invokevirtual 52, 3), (38, .iinc 4 1, 3), (41, .goto (-17), 3), (44, .aload_n 0, 1), (45, .getfield 18, 3), (48, .aload_n 1, 1), (49, .getfield 47, 3), (52, .iaload, 1), (53, .ireturn, 1)]
theorem tX4_planCount_ok : ∀ q ∈ tX4_planCount, decode cX4_planCount q.1 = .ok (q.2.1, q.2.2) := by decide +kernel
abbrev mX4_weighSets : ps_M := (RX4, yX4_weighSets, cX4_weighSets, 6, none, (0, 0), none)
def tX4_weighSets : List (Nat × Instr × Nat) := [(0, .iconst 0, 1), (1, .istore_n 3, 1), (2, .iload_n 3, 1), (3, .bipush 64, 2), (5, .if_icmp .ge 68, 3), (8, .iload_n 3, 1), (9, .iload_n 2, 1), (10, .iand, 1), (11, .istore 4, 2), (13, .iload 4, 2), (15, .ifCond .eq 9, 3), (18, .iload 4, 2), (20, .iload_n 2, 1), (21, .if_icmp .ne 7, 3), (24, .iconst 1, 1), (25, .goto 4, 3), (28, .iconst 0, 1), (29, .istore 5, 2), (31, .aload_n 0, 1), (32, .getfield 9, 3), (35, .iload_n 3, 1), (36, .iload 5, 2), (38, .ifCond .eq 16, 3), (41, .aload_n 0, 1), (42, .aload_n 1, 1), (43, .iload_n 3, 1), (44, .invokevirtual 56, 3), (47, .ifCond .eq 7, 3), (50, .iconst 1, 1), (51, .goto 4, 3), (54, .iconst 0, 1), (55, .iastore, 1), (56, .aload_n 0, 1), (57, .getfield 15, 3), (60, .iload_n 3, 1), (61, .aload_n 1, 1), (62, .iload_n 3, 1), (63, .invokestatic 60, 3), (66, .iastore, 1), (67, .iinc 3 1, 3), (70, .goto (-68), 3), (73, .return_, 1)]
theorem tX4_weighSets_ok : ∀ q ∈ tX4_weighSets, decode cX4_weighSets q.1 = .ok (q.2.1, q.2.2) := by decide +kernel
abbrev mX4_canLie : ps_M := (RX4, yX4_canLie, cX4_canLie, 5, some .boolean, (0, 0), none)
def tX4_canLie : List (Nat × Instr × Nat) := [(0, .iload_n 2, 1), (1, .invokestatic 64, 3), (4, .aload_n 0, 1), (5, .getfield 27, 3), (8, .if_icmp .le 5, 3), (11, .iconst 0, 1), (12, .ireturn, 1), (13, .iconst 0, 1), (14, .istore_n 3, 1), (15, .iload_n 3, 1), (16, .bipush 6, 2), (18, .if_icmp .ge 38, 3), (21, .iload_n 2, 1), (22, .iconst 1, 1), (23, .iload_n 3, 1), (24, .ishl, 1), (25, .iconst (-1), 1), (26, .ixor, 1), (27, .iand, 1), (28, .istore 4, 2), (30, .iload 4, 2), (32, .iload_n 2, 1), (33, .if_icmp .eq 17, 3), (36, .aload_n 1, 1), (37, .getfield 70, 3), (40, .iload_n 3, 1), (41, .iaload, 1), (42, .iload 4, 2), (44, .iand, 1), (45, .ifCond .eq 5, 3), (48, .iconst 0, 1), (49, .ireturn, 1), (50, .iinc 3 1, 3), (53, .goto (-38), 3), (56, .iconst 1, 1), (57, .ireturn, 1)]
theorem tX4_canLie_ok : ∀ q ∈ tX4_canLie, decode cX4_canLie q.1 = .ok (q.2.1, q.2.2) := by decide +kernel
abbrev mX4_formesAhead : ps_M := (RX4, yX4_formesAhead, cX4_formesAhead, 4, some .int, (0, 0), none)
def tX4_formesAhead : List (Nat × Instr × Nat) := [(0, .iconst 0, 1), (1, .istore_n 2, 1), (2, .iconst 0, 1), (3, .istore_n 3, 1), (4, .iload_n 3, 1), (5, .bipush 6, 2), (7, .if_icmp .ge 26, 3), (10, .aload_n 0, 1), (11, .getfield 73, 3), (14, .iload_n 3, 1), (15, .iaload, 1), (16, .iload_n 1, 1), (17, .iand, 1), (18, .ifCond .eq 9, 3), (21, .iload_n 2, 1), (22, .iconst 1, 1), (23, .iload_n 3, 1), (24, .ishl, 1), (25, .ior, 1), (26, .istore_n 2, 1), (27, .iinc 3 1, 3), (30, .goto (-26), 3), (33, .iload_n 2, 1), (34, .ireturn, 1)]
theorem tX4_formesAhead_ok : ∀ q ∈ tX4_formesAhead, decode cX4_formesAhead q.1 = .ok (q.2.1, q.2.2) := by decide +kernel
abbrev mX4_addDay : ps_M := (RX4, yX4_addDay, cX4_addDay, 5, none, (0, 0), none)
def tX4_addDay : List (Nat × Instr × Nat) := [(0, .iload_n 1, 1), (1, .istore_n 2, 1), (2, .iload_n 2, 1), (3, .ifCond .le 84, 3), (6, .aload_n 0, 1), (7, .getfield 18, 3), (10, .iload_n 2, 1), (11, .iaload, 1), (12, .istore_n 3, 1), (13, .iload_n 2, 1), (14, .istore 4, 2), (16, .iload 4, 2), (18, .ifCond .le 53, 3), (21, .aload_n 0, 1), (22, .getfield 9, 3), (25, .iload 4, 2), (27, .iaload, 1), (28, .ifCond .eq 32, 3), (31, .aload_n 0, 1), (32, .getfield 15, 3), (35, .iload 4, 2), (37, .iaload, 1), (38, .iload_n 2, 1), (39, .iload 4, 2), (41, .ixor, 1), (42, .iconst (-1), 1), (43, .ixor, 1), (44, .iand, 1), (45, .ifCond .ne 15, 3), (48, .iload_n 3, 1), (49, .aload_n 0, 1), (50, .getfield 18, 3), (53, .iload_n 2, 1), (54, .iload 4, 2), (56, .ixor, 1), (57, .iaload, 1), (58, .iadd, 1), (59, .istore_n 3, 1), (60, .iload 4, 2), (62, .iconst 1, 1), (63, .isub, 1), (64, .iload_n 2, 1), (65, .iand, 1), (66, .istore 4, 2), (68, .goto (-52), 3), (71, .aload_n 0, 1), (72, .getfield 18, 3), (75, .iload_n 2, 1), (76, .iload_n 3, 1), (77, .iastore, 1), (78, .iload_n 2, 1), (79, .iconst 1, 1), (80, .isub, 1), (81, .iload_n 1, 1), (82, .iand, 1), (83, .istore_n 2, 1), (84, .goto (-82), 3), (87, .return_, 1)]
theorem tX4_addDay_ok : ∀ q ∈ tX4_addDay, decode cX4_addDay q.1 = .ok (q.2.1, q.2.2) := by decide +kernel
abbrev mX4_dayInFirst : ps_M := (RX4, yX4_dayInFirst, cX4_dayInFirst, 4, some .int, (0, 0), none)
def tX4_dayInFirst : List (Nat × Instr × Nat) := [(0, .aload_n 0, 1), (1, .getfield 31, 3), (4, .iload_n 2, 1), (5, .if_icmp .eq 14, 3), (8, .aload_n 0, 1), (9, .aload_n 1, 1), (10, .iload_n 2, 1), (11, .invokevirtual 76, 3), (14, .aload_n 0, 1), (15, .iload_n 2, 1), (16, .putfield 31, 3), (19, .aload_n 0, 1), (20, .getfield 21, 3), (23, .iload_n 3, 1), (24, .iaload, 1), (25, .ireturn, 1)]
theorem tX4_dayInFirst_ok : ∀ q ∈ tX4_dayInFirst, decode cX4_dayInFirst q.1 = .ok (q.2.1, q.2.2) := by decide +kernel
abbrev mX4_makeFirst : ps_M := (RX4, yX4_makeFirst, cX4_makeFirst, 3, none, (0, 0), none)
def tX4_makeFirst : List (Nat × Instr × Nat) := [(0, .aload_n 0, 1), (1, .getfield 24, 3), (4, .iconst 0, 1), (5, .invokestatic 41, 3), (8, .aload_n 0, 1), (9, .getfield 21, 3), (12, .ldc 79, 2), (14, .invokestatic 41, 3), (17, .aload_n 1, 1), (18, .invokevirtual 80, 3), (21, .ifCond .gt 13, 3), (24, .aload_n 0, 1), (25, .aload_n 1, 1), (26, .iconst 0, 1), (27, .iload_n 2, 1), (28, .invokestatic 84, 3), (31, .ifCond .ne 12, 3), (34, .aload_n 0, 1), (35, .getfield 21, 3), (38, .ldc 79, 2), (40, .invokestatic 41, 3), (43, .return_, 1)]
theorem tX4_makeFirst_ok : ∀ q ∈ tX4_makeFirst, decode cX4_makeFirst q.1 = .ok (q.2.1, q.2.2) := by decide +kernel
abbrev mX4_lay : ps_M := (RX4, yX4_lay, cX4_lay, 5, some .boolean, (0, 0), none)
def tX4_lay : List (Nat × Instr × Nat) := [(0, .iload_n 2, 1), (1, .bipush 6, 2), (3, .if_icmp .lt 5, 3), (6, .iconst 1, 1), (7, .ireturn, 1), (8, .aload_n 1, 1), (9, .iload_n 2, 1), (10, .invokevirtual 88, 3), (13, .ifCond .ne 13, 3), (16, .aload_n 0, 1), (17, .aload_n 1, 1), (18, .iload_n 2, 1), (19, .iconst 1, 1), (20, .iadd, 1), (21, .iload_n 3, 1), (22, .invokestatic 84, 3), (25, .ireturn, 1), (26, .iconst 0, 1), (27, .istore 4, 2), (29, .iload 4, 2), (31, .iload_n 3, 1), (32, .if_icmp .ge 81, 3), (35, .aload_n 0, 1), (36, .aload_n 1, 1), (37, .iload_n 2, 1), (38, .iload 4, 2), (40, .invokevirtual 92, 3), (43, .ifCond .eq 64, 3), (46, .aload_n 0, 1), (47, .aload_n 1, 1), (48, .iload_n 2, 1), (49, .iload 4, 2), (51, .invokevirtual 96, 3), (54, .ifCond .eq 53, 3), (57, .aload_n 0, 1), (58, .getfield 24, 3), (61, .iload 4, 2), (63, .dup2, 1), (64, .iaload, 1), (65, .iconst 1, 1), (66, .iload_n 2, 1), (67, .ishl, 1), (68, .ior, 1), (69, .iastore, 1), (70, .aload_n 0, 1), (71, .getfield 21, 3), (74, .iload_n 2, 1), (75, .iload 4, 2), (77, .iastore, 1), (78, .aload_n 0, 1), (79, .aload_n 1, 1), (80, .iload_n 2, 1), (81, .iconst 1, 1), (82, .iadd, 1), (83, .iload_n 3, 1), (84, .invokestatic 84, 3), (87, .ifCond .eq 5, 3), (90, .iconst 1, 1), (91, .ireturn, 1), (92, .aload_n 0, 1), (93, .getfield 24, 3), (96, .iload 4, 2), (98, .dup2, 1), (99, .iaload, 1), (100, .iconst 1, 1), (101, .iload_n 2, 1), (102, .ishl, 1), (103, .iconst (-1), 1), (104, .ixor, 1), (105, .iand, 1), (106, .iastore, 1), (107, .iinc 4 1, 3), (110, .goto (-81), 3), (113, .iconst 0, 1), (114, .ireturn, 1)]
theorem tX4_lay_ok : ∀ q ∈ tX4_lay, decode cX4_lay q.1 = .ok (q.2.1, q.2.2) := by decide +kernel
abbrev mX4_hasRoom : ps_M := (RX4, yX4_hasRoom, cX4_hasRoom, 4, some .boolean, (0, 0), none)
def tX4_hasRoom : List (Nat × Instr × Nat) := [(0, .aload_n 0, 1), (1, .getfield 24, 3), (4, .iload_n 3, 1), (5, .iaload, 1), (6, .invokestatic 64, 3), (9, .aload_n 0, 1), (10, .getfield 27, 3), (13, .if_icmp .ge 23, 3), (16, .aload_n 0, 1), (17, .getfield 24, 3), (20, .iload_n 3, 1), (21, .iaload, 1), (22, .aload_n 1, 1), (23, .getfield 70, 3), (26, .iload_n 2, 1), (27, .iaload, 1), (28, .iand, 1), (29, .ifCond .ne 7, 3), (32, .iconst 1, 1), (33, .goto 4, 3), (36, .iconst 0, 1), (37, .ireturn, 1)]
theorem tX4_hasRoom_ok : ∀ q ∈ tX4_hasRoom, decode cX4_hasRoom q.1 = .ok (q.2.1, q.2.2) := by decide +kernel
abbrev mX4_keepsTurn : ps_M := (RX4, yX4_keepsTurn, cX4_keepsTurn, 7, some .boolean, (0, 0), none)
def tX4_keepsTurn : List (Nat × Instr × Nat) := [(0, .iconst 0, 1), (1, .istore 4, 2), (3, .iload 4, 2), (5, .iload_n 2, 1), (6, .if_icmp .ge 85, 3), (9, .aload_n 1, 1), (10, .getfield 73, 3), (13, .iload 4, 2), (15, .iaload, 1), (16, .iload_n 2, 1), (17, .ishr, 1), (18, .iconst 1, 1), (19, .iand, 1), (20, .ifCond .eq 7, 3), (23, .iconst 1, 1), (24, .goto 4, 3), (27, .iconst 0, 1), (28, .istore 5, 2), (30, .aload_n 1, 1), (31, .getfield 73, 3), (34, .iload_n 2, 1), (35, .iaload, 1), (36, .iload 4, 2), (38, .ishr, 1), (39, .iconst 1, 1), (40, .iand, 1), (41, .ifCond .eq 7, 3), (44, .iconst 1, 1), (45, .goto 4, 3), (48, .iconst 0, 1), (49, .istore 6, 2), (51, .iload 5, 2), (53, .ifCond .eq 14, 3), (56, .aload_n 0, 1), (57, .getfield 21, 3), (60, .iload 4, 2), (62, .iaload, 1), (63, .iload_n 3, 1), (64, .if_icmp .ge 19, 3), (67, .iload 6, 2), (69, .ifCond .eq 16, 3), (72, .aload_n 0, 1), (73, .getfield 21, 3), (76, .iload 4, 2), (78, .iaload, 1), (79, .iload_n 3, 1), (80, .if_icmp .gt 5, 3), (83, .iconst 0, 1), (84, .ireturn, 1), (85, .iinc 4 1, 3), (88, .goto (-85), 3), (91, .iconst 1, 1), (92, .ireturn, 1)]
theorem tX4_keepsTurn_ok : ∀ q ∈ tX4_keepsTurn, decode cX4_keepsTurn q.1 = .ok (q.2.1, q.2.2) := by decide +kernel
abbrev mX5_fewestSlips : ps_M := (RX5, yX5_fewestSlips, cX5_fewestSlips, 5, some .int, (0, 0), none)
def tX5_fewestSlips : List (Nat × Instr × Nat) := [(0, .iload_n 2, 1), (1, .aload_n 1, 1), (2, .getfield 21, 3), (5, .if_icmp .lt 5, 3), (8, .iconst 0, 1), (9, .ireturn, 1), (10, .aload_n 1, 1), (11, .getfield 27, 3), (14, .istore_n 3, 1), (15, .aload_n 0, 1), (16, .aload_n 1, 1), (17, .iload_n 3, 1), (18, .invokevirtual 30, 3), (21, .iload_n 2, 1), (22, .iconst 1, 1), (23, .if_icmp .ne 10, 3), (26, .aload_n 0, 1), (27, .getfield 9, 3), (30, .iload_n 3, 1), (31, .iaload, 1), (32, .ireturn, 1), (33, .aload_n 0, 1), (34, .getfield 9, 3), (37, .iconst 0, 1), (38, .aload_n 0, 1), (39, .getfield 15, 3), (42, .iconst 0, 1), (43, .sipush 512, 3), (46, .invokestatic 34, 3), (49, .iconst 2, 1), (50, .istore 4, 2), (52, .iload 4, 2), (54, .iload_n 2, 1), (55, .if_icmp .ge 14, 3), (58, .aload_n 0, 1), (59, .iload_n 3, 1), (60, .invokevirtual 40, 3), (63, .iinc 4 1, 3), (66, .goto (-14), 3), (69, .aload_n 0, 1), (70, .iload_n 3, 1), (71, .invokevirtual 44, 3), (74, .ireturn, 1)]
theorem tX5_fewestSlips_ok : ∀ q ∈ tX5_fewestSlips, decode cX5_fewestSlips q.1 = .ok (q.2.1, q.2.2) := by decide +kernel
abbrev mX5_countAlone : ps_M := (RX5, yX5_countAlone, cX5_countAlone, 5, none, (0, 0), none)
def tX5_countAlone : List (Nat × Instr × Nat) := [(0, .aload_n 0, 1), (1, .getfield 9, 3), (4, .iconst 0, 1), (5, .invokestatic 48, 3), (8, .iconst 0, 1), (9, .istore_n 3, 1), (10, .iload_n 3, 1), (11, .bipush 6, 2), (13, .if_icmp .ge 50, 3), (16, .aload_n 0, 1), (17, .aload_n 1, 1), (18, .iload_n 3, 1), (19, .invokevirtual 54, 3), (22, .iload_n 2, 1), (23, .istore 4, 2), (25, .iload 4, 2), (27, .ifCond .le 30, 3), (30, .aload_n 0, 1), (31, .getfield 9, 3), (34, .iload 4, 2), (36, .dup2, 1), (37, .iaload, 1), (38, .aload_n 0, 1), (39, .iload 4, 2), (41, .invokevirtual 57, 3), (44, .iadd, 1), (45, .iastore, 1), (46, .iload 4, 2), (48, .iconst 1, 1), (49, .isub, 1), (50, .iload_n 2, 1), (51, .iand, 1), (52, .istore 4, 2), (54, .goto (-29), 3), (57, .iinc 3 1, 3), (60, .goto (-50), 3), (63, .return_, 1)]
theorem tX5_countAlone_ok : ∀ q ∈ tX5_countAlone, decode cX5_countAlone q.1 = .ok (q.2.1, q.2.2) := by decide +kernel
abbrev mX5_takeReaders : ps_M := (RX5, yX5_takeReaders, cX5_takeReaders, 5, none, (0, 0), none)
def tX5_takeReaders : List (Nat × Instr × Nat) := [(0, .aload_n 0, 1), (1, .iconst 0, 1), (2, .putfield 60, 3), (5, .iconst 0, 1), (6, .istore_n 3, 1), (7, .iload_n 3, 1), (8, .bipush 10, 2), (10, .if_icmp .ge 43, 3), (13, .aload_n 1, 1), (14, .iload_n 2, 1), (15, .iload_n 3, 1), (16, .invokevirtual 63, 3), (19, .istore 4, 2), (21, .iload 4, 2), (23, .ifCond .eq 24, 3), (26, .aload_n 0, 1), (27, .getfield 18, 3), (30, .aload_n 0, 1), (31, .getfield 60, 3), (34, .iload 4, 2), (36, .iastore, 1), (37, .aload_n 0, 1), (38, .dup, 1), (39, .getfield 60, 3), (42, .iconst 1, 1), (43, .iadd, 1), (44, .putfield 60, 3), (47, .iinc 3 1, 3), (50, .goto (-43), 3), (53, .return_, 1)]
theorem tX5_takeReaders_ok : ∀ q ∈ tX5_takeReaders, decode cX5_takeReaders q.1 = .ok (q.2.1, q.2.2) := by decide +kernel
abbrev mX5_slipsAtPlace : ps_M := (RX5, yX5_slipsAtPlace, cX5_slipsAtPlace, 6, some .int, (0, 0), none)
def tX5_slipsAtPlace : List (Nat × Instr × Nat) := [(0, .iconst 0, 1), (1, .istore_n 2, 1), (2, .iconst 0, 1), (3, .istore_n 3, 1), (4, .iconst 0, 1), (5, .istore 4, 2), (7, .iload 4, 2), (9, .aload_n 0, 1), (10, .getfield 60, 3), (13, .if_icmp .ge 35, 3), (16, .iload_n 1, 1), (17, .aload_n 0, 1), (18, .getfield 18, 3), (21, .iload 4, 2), (23, .iaload, 1), (24, .iand, 1), (25, .invokestatic 67, 3), (28, .istore 5, 2), (30, .iload_n 2, 1), (31, .iload 5, 2), (33, .iadd, 1), (34, .istore_n 2, 1), (35, .iload_n 3, 1), (36, .iload 5, 2), (38, .invokestatic 72, 3), (41, .istore_n 3, 1), (42, .iinc 4 1, 3), (45, .goto (-38), 3), (48, .iload_n 2, 1), (49, .iload_n 3, 1), (50, .isub, 1), (51, .ireturn, 1)]
theorem tX5_slipsAtPlace_ok : ∀ q ∈ tX5_slipsAtPlace, decode cX5_slipsAtPlace q.1 = .ok (q.2.1, q.2.2) := by decide +kernel
abbrev mX5_allowOneMore : ps_M := (RX5, yX5_allowOneMore, cX5_allowOneMore, 3, none, (0, 0), none)
def tX5_allowOneMore : List (Nat × Instr × Nat) := [(0, .iload_n 1, 1), (1, .istore_n 2, 1), (2, .iload_n 2, 1), (3, .ifCond .le 23, 3), (6, .aload_n 0, 1), (7, .getfield 15, 3), (10, .iload_n 2, 1), (11, .aload_n 0, 1), (12, .iload_n 2, 1), (13, .invokevirtual 44, 3), (16, .iastore, 1), (17, .iload_n 2, 1), (18, .iconst 1, 1), (19, .isub, 1), (20, .iload_n 1, 1), (21, .iand, 1), (22, .istore_n 2, 1), (23, .goto (-21), 3), (26, .return_, 1)]
theorem tX5_allowOneMore_ok : ∀ q ∈ tX5_allowOneMore, decode cX5_allowOneMore q.1 = .ok (q.2.1, q.2.2) := by decide +kernel
abbrev mX5_slipsWithOneMore : ps_M := (RX5, yX5_slipsWithOneMore, cX5_slipsWithOneMore, 6, some .int, (0, 0), none)
def tX5_slipsWithOneMore : List (Nat × Instr × Nat) := [(0, .iload_n 1, 1), (1, .iload_n 1, 1), (2, .ineg, 1), (3, .iand, 1), (4, .istore_n 2, 1), (5, .iload_n 1, 1), (6, .iload_n 2, 1), (7, .ixor, 1), (8, .istore_n 3, 1), (9, .aload_n 0, 1), (10, .getfield 15, 3), (13, .iload_n 3, 1), (14, .iaload, 1), (15, .istore 4, 2), (17, .iload_n 3, 1), (18, .istore 5, 2), (20, .iload 5, 2), (22, .ifCond .le 40, 3), (25, .iload 4, 2), (27, .aload_n 0, 1), (28, .getfield 9, 3), (31, .iload 5, 2), (33, .iload_n 2, 1), (34, .ior, 1), (35, .iaload, 1), (36, .aload_n 0, 1), (37, .getfield 15, 3), (40, .iload_n 3, 1), (41, .iload 5, 2), (43, .ixor, 1), (44, .iaload, 1), (45, .iadd, 1), (46, .invokestatic 77, 3), (49, .istore 4, 2), (51, .iload 5, 2), (53, .iconst 1, 1), (54, .isub, 1), (55, .iload_n 3, 1), (56, .iand, 1), (57, .istore 5, 2), (59, .goto (-39), 3), (62, .iload 4, 2), (64, .ireturn, 1)]
theorem tX5_slipsWithOneMore_ok : ∀ q ∈ tX5_slipsWithOneMore, decode cX5_slipsWithOneMore q.1 = .ok (q.2.1, q.2.2) := by decide +kernel
abbrev mX6_putPiece : ps_M := (RX6, yX6_putPiece, cX6_putPiece, 5, some .int, (0, 0), none)
def tX6_putPiece : List (Nat × Instr × Nat) := [(0, .aload_n 0, 1), (1, .getfield 11, 3), (4, .iload_n 1, 1), (5, .aaload, 1), (6, .iload_n 2, 1), (7, .iaload, 1), (8, .istore 4, 2), (10, .aload_n 0, 1), (11, .getfield 11, 3), (14, .iload_n 1, 1), (15, .aaload, 1), (16, .iload_n 2, 1), (17, .iload_n 3, 1), (18, .iastore, 1), (19, .aload_n 0, 1), (20, .invokevirtual 30, 3), (23, .iload 4, 2), (25, .ireturn, 1)]
theorem tX6_putPiece_ok : ∀ q ∈ tX6_putPiece, decode cX6_putPiece q.1 = .ok (q.2.1, q.2.2) := by decide +kernel
abbrev mX6_link : ps_M := (RX6, yX6_link, cX6_link, 2, none, (0, 0), none)
def tX6_link : List (Nat × Instr × Nat) := [(0, .aload_n 0, 1), (1, .getfield 16, 3), (4, .iconst 0, 1), (5, .invokestatic 24, 3), (8, .aload_n 0, 1), (9, .getfield 20, 3), (12, .iconst 0, 1), (13, .invokestatic 24, 3), (16, .iconst 0, 1), (17, .istore_n 1, 1), (18, .iload_n 1, 1), (19, .bipush 16, 2), (21, .if_icmp .ge 19, 3), (24, .aload_n 0, 1), (25, .aload_n 0, 1), (26, .getfield 11, 3), (29, .iload_n 1, 1), (30, .aaload, 1), (31, .invokevirtual 33, 3), (34, .iinc 1 1, 3), (37, .goto (-19), 3), (40, .aload_n 0, 1), (41, .iconst 0, 1), (42, .putfield 37, 3), (45, .iconst 0, 1), (46, .istore_n 1, 1), (47, .iload_n 1, 1), (48, .bipush 6, 2), (50, .if_icmp .ge 24, 3), (53, .aload_n 0, 1), (54, .dup, 1), (55, .getfield 37, 3), (58, .aload_n 0, 1), (59, .getfield 16, 3), (62, .iload_n 1, 1), (63, .iaload, 1), (64, .ior, 1), (65, .putfield 37, 3), (68, .iinc 1 1, 3), (71, .goto (-24), 3), (74, .aload_n 0, 1), (75, .invokevirtual 41, 3), (78, .return_, 1)]
theorem tX6_link_ok : ∀ q ∈ tX6_link, decode cX6_link q.1 = .ok (q.2.1, q.2.2) := by decide +kernel
abbrev mX6_linkPiece : ps_M := (RX6, yX6_linkPiece, cX6_linkPiece, 5, none, (0, 0), none)
def tX6_linkPiece : List (Nat × Instr × Nat) := [(0, .aload_n 1, 1), (1, .iconst 0, 1), (2, .invokestatic 44, 3), (5, .istore_n 2, 1), (6, .aload_n 1, 1), (7, .iconst 1, 1), (8, .invokestatic 44, 3), (11, .istore_n 3, 1), (12, .iconst 0, 1), (13, .istore 4, 2), (15, .iload 4, 2), (17, .bipush 6, 2), (19, .if_icmp .ge 49, 3), (22, .aload_n 1, 1), (23, .iload 4, 2), (25, .iaload, 1), (26, .ldc 23, 2), (28, .if_icmp .eq 16, 3), (31, .aload_n 0, 1), (32, .getfield 16, 3), (35, .iload 4, 2), (37, .dup2, 1), (38, .iaload, 1), (39, .iload_n 2, 1), (40, .iload_n 3, 1), (41, .ior, 1), (42, .ior, 1), (43, .iastore, 1), (44, .aload_n 1, 1), (45, .iload 4, 2), (47, .iaload, 1), (48, .ifCond .ne 14, 3), (51, .aload_n 0, 1), (52, .getfield 20, 3), (55, .iload 4, 2), (57, .dup2, 1), (58, .iaload, 1), (59, .iload_n 3, 1), (60, .ior, 1), (61, .iastore, 1), (62, .iinc 4 1, 3), (65, .goto (-50), 3), (68, .return_, 1)]
theorem tX6_linkPiece_ok : ∀ q ∈ tX6_linkPiece, decode cX6_linkPiece q.1 = .ok (q.2.1, q.2.2) := by decide +kernel
abbrev mX6_formesWith : ps_M := (RX6, yX6_formesWith, cX6_formesWith, 4, some .int, (0, 0), none)
def tX6_formesWith : List (Nat × Instr × Nat) := [(0, .iconst 0, 1), (1, .istore_n 2, 1), (2, .iconst 0, 1), (3, .istore_n 3, 1), (4, .iload_n 3, 1), (5, .bipush 6, 2), (7, .if_icmp .ge 22, 3), (10, .aload_n 0, 1), (11, .iload_n 3, 1), (12, .iaload, 1), (13, .iload_n 1, 1), (14, .if_icmp .ne 9, 3), (17, .iload_n 2, 1), (18, .iconst 1, 1), (19, .iload_n 3, 1), (20, .ishl, 1), (21, .ior, 1), (22, .istore_n 2, 1), (23, .iinc 3 1, 3), (26, .goto (-22), 3), (29, .iload_n 2, 1), (30, .ireturn, 1)]
theorem tX6_formesWith_ok : ∀ q ∈ tX6_formesWith, decode cX6_formesWith q.1 = .ok (q.2.1, q.2.2) := by decide +kernel
abbrev mX6_reachOn : ps_M := (RX6, yX6_reachOn, cX6_reachOn, 3, none, (0, 0), none)
def tX6_reachOn : List (Nat × Instr × Nat) := [(0, .iconst 0, 1), (1, .istore_n 1, 1), (2, .iload_n 1, 1), (3, .bipush 6, 2), (5, .if_icmp .ge 51, 3), (8, .iconst 0, 1), (9, .istore_n 2, 1), (10, .iload_n 2, 1), (11, .bipush 6, 2), (13, .if_icmp .ge 37, 3), (16, .aload_n 0, 1), (17, .getfield 20, 3), (20, .iload_n 2, 1), (21, .iaload, 1), (22, .iload_n 1, 1), (23, .ishr, 1), (24, .iconst 1, 1), (25, .iand, 1), (26, .ifCond .eq 18, 3), (29, .aload_n 0, 1), (30, .getfield 20, 3), (33, .iload_n 2, 1), (34, .dup2, 1), (35, .iaload, 1), (36, .aload_n 0, 1), (37, .getfield 20, 3), (40, .iload_n 1, 1), (41, .iaload, 1), (42, .ior, 1), (43, .iastore, 1), (44, .iinc 2 1, 3), (47, .goto (-37), 3), (50, .iinc 1 1, 3), (53, .goto (-51), 3), (56, .return_, 1)]
theorem tX6_reachOn_ok : ∀ q ∈ tX6_reachOn, decode cX6_reachOn q.1 = .ok (q.2.1, q.2.2) := by decide +kernel
abbrev mX6_isTold : ps_M := (RX6, yX6_isTold, cX6_isTold, 2, some .boolean, (0, 0), none)
def tX6_isTold : List (Nat × Instr × Nat) := [(0, .aload_n 0, 1), (1, .getfield 37, 3), (4, .iload_n 1, 1), (5, .ishr, 1), (6, .iconst 1, 1), (7, .iand, 1), (8, .ifCond .eq 7, 3), (11, .iconst 1, 1), (12, .goto 4, 3), (15, .iconst 0, 1), (16, .ireturn, 1)]
theorem tX6_isTold_ok : ∀ q ∈ tX6_isTold, decode cX6_isTold q.1 = .ok (q.2.1, q.2.2) := by decide +kernel
abbrev mX6_ringSize : ps_M := (RX6, yX6_ringSize, cX6_ringSize, 3, some .int, (0, 0), none)
def tX6_ringSize : List (Nat × Instr × Nat) := [(0, .iconst 0, 1), (1, .istore_n 1, 1), (2, .iconst 0, 1), (3, .istore_n 2, 1), (4, .iload_n 2, 1), (5, .bipush 6, 2), (7, .if_icmp .ge 22, 3), (10, .iload_n 1, 1), (11, .aload_n 0, 1), (12, .getfield 20, 3), (15, .iload_n 2, 1), (16, .iaload, 1), (17, .iload_n 2, 1), (18, .ishr, 1), (19, .iconst 1, 1), (20, .iand, 1), (21, .iadd, 1), (22, .istore_n 1, 1), (23, .iinc 2 1, 3), (26, .goto (-22), 3), (29, .iload_n 1, 1), (30, .ireturn, 1)]
theorem tX6_ringSize_ok : ∀ q ∈ tX6_ringSize, decode cX6_ringSize q.1 = .ok (q.2.1, q.2.2) := by decide +kernel
abbrev mX7_read : ps_M := (RX7, yX7_read, cX7_read, 5, some .int, (0, 0), none)
def tX7_read : List (Nat × Instr × Nat) := [(0, .iload_n 1, 1), (1, .invokestatic 58, 3), (4, .ifCond .eq 19, 3), (7, .iload_n 2, 1), (8, .invokestatic 62, 3), (11, .ifCond .eq 12, 3), (14, .iload_n 3, 1), (15, .bipush 6, 2), (17, .invokestatic 65, 3), (20, .ifCond .ne 6, 3), (23, .ldc 69, 2), (25, .ireturn, 1), (26, .iload 4, 2), (28, .ldc 70, 2), (30, .if_icmp .eq 16, 3), (33, .iload 4, 2), (35, .bipush 10, 2), (37, .invokestatic 65, 3), (40, .ifCond .ne 6, 3), (43, .ldc 71, 2), (45, .ireturn, 1), (46, .aload_n 0, 1), (47, .getfield 11, 3), (50, .iload_n 2, 1), (51, .aaload, 1), (52, .iload_n 1, 1), (53, .iload_n 3, 1), (54, .iload 4, 2), (56, .invokevirtual 72, 3), (59, .ireturn, 1)]
theorem tX7_read_ok : ∀ q ∈ tX7_read, decode cX7_read q.1 = .ok (q.2.1, q.2.2) := by decide +kernel
abbrev mX7_agree : ps_M := (RX7, yX7_agree, cX7_agree, 4, some .int, (0, 0), none)
def tX7_agree : List (Nat × Instr × Nat) := [(0, .iload_n 1, 1), (1, .invokestatic 62, 3), (4, .ifCond .eq 17, 3), (7, .iload_n 2, 1), (8, .invokestatic 58, 3), (11, .ifCond .eq 10, 3), (14, .iload_n 3, 1), (15, .invokestatic 58, 3), (18, .ifCond .ne 6, 3), (21, .ldc 69, 2), (23, .ireturn, 1), (24, .aload_n 0, 1), (25, .getfield 11, 3), (28, .iload_n 1, 1), (29, .aaload, 1), (30, .iload_n 2, 1), (31, .iload_n 3, 1), (32, .invokevirtual 76, 3), (35, .ifCond .eq 7, 3), (38, .iconst 1, 1), (39, .goto 4, 3), (42, .iconst 0, 1), (43, .ireturn, 1)]
theorem tX7_agree_ok : ∀ q ∈ tX7_agree, decode cX7_agree q.1 = .ok (q.2.1, q.2.2) := by decide +kernel
abbrev mX7_states : ps_M := (RX7, yX7_states, cX7_states, 2, some .int, (0, 0), none)
def tX7_states : List (Nat × Instr × Nat) := [(0, .iload_n 1, 1), (1, .invokestatic 62, 3), (4, .ifCond .ne 6, 3), (7, .ldc 69, 2), (9, .ireturn, 1), (10, .aload_n 0, 1), (11, .iload_n 1, 1), (12, .invokevirtual 79, 3), (15, .getfield 83, 3), (18, .ireturn, 1)]
theorem tX7_states_ok : ∀ q ∈ tX7_states, decode cX7_states q.1 = .ok (q.2.1, q.2.2) := by decide +kernel
abbrev mX7_state : ps_M := (RX7, yX7_state, cX7_state, 3, some .int, (0, 0), none)
def tX7_state : List (Nat × Instr × Nat) := [(0, .iload_n 1, 1), (1, .invokestatic 62, 3), (4, .ifCond .eq 10, 3), (7, .iload_n 2, 1), (8, .invokestatic 58, 3), (11, .ifCond .ne 6, 3), (14, .ldc 69, 2), (16, .ireturn, 1), (17, .aload_n 0, 1), (18, .iload_n 1, 1), (19, .invokevirtual 79, 3), (22, .getfield 87, 3), (25, .iload_n 2, 1), (26, .iaload, 1), (27, .ireturn, 1)]
theorem tX7_state_ok : ∀ q ∈ tX7_state, decode cX7_state q.1 = .ok (q.2.1, q.2.2) := by decide +kernel
abbrev mX7_letter : ps_M := (RX7, yX7_letter, cX7_letter, 4, some .int, (0, 0), none)
def tX7_letter : List (Nat × Instr × Nat) := [(0, .aload_n 0, 1), (1, .iload_n 1, 1), (2, .iload_n 2, 1), (3, .invokevirtual 91, 3), (6, .ifCond .eq 12, 3), (9, .iload_n 3, 1), (10, .bipush 6, 2), (12, .invokestatic 65, 3), (15, .ifCond .ne 6, 3), (18, .ldc 69, 2), (20, .ireturn, 1), (21, .aload_n 0, 1), (22, .iload_n 1, 1), (23, .invokevirtual 79, 3), (26, .iload_n 2, 1), (27, .iload_n 3, 1), (28, .invokevirtual 94, 3), (31, .ireturn, 1)]
theorem tX7_letter_ok : ∀ q ∈ tX7_letter, decode cX7_letter q.1 = .ok (q.2.1, q.2.2) := by decide +kernel
abbrev mX7_slips : ps_M := (RX7, yX7_slips, cX7_slips, 3, some .int, (0, 0), none)
def tX7_slips : List (Nat × Instr × Nat) := [(0, .iload_n 1, 1), (1, .invokestatic 62, 3), (4, .ifCond .ne 6, 3), (7, .ldc 69, 2), (9, .ireturn, 1), (10, .iload_n 2, 1), (11, .iconst 1, 1), (12, .if_icmp .lt 9, 3), (15, .iload_n 2, 1), (16, .bipush 9, 2), (18, .if_icmp .le 6, 3), (21, .ldc 71, 2), (23, .ireturn, 1), (24, .aload_n 0, 1), (25, .getfield 19, 3), (28, .aload_n 0, 1), (29, .iload_n 1, 1), (30, .invokevirtual 79, 3), (33, .iload_n 2, 1), (34, .invokevirtual 98, 3), (37, .ireturn, 1)]
theorem tX7_slips_ok : ∀ q ∈ tX7_slips, decode cX7_slips q.1 = .ok (q.2.1, q.2.2) := by decide +kernel
abbrev mX7_ahead : ps_M := (RX7, yX7_ahead, cX7_ahead, 5, some .int, (0, 0), none)
def tX7_ahead : List (Nat × Instr × Nat) := [(0, .iload_n 1, 1), (1, .invokestatic 62, 3), (4, .ifCond .eq 17, 3), (7, .iload_n 2, 1), (8, .invokestatic 58, 3), (11, .ifCond .eq 10, 3), (14, .iload_n 3, 1), (15, .invokestatic 58, 3), (18, .ifCond .ne 6, 3), (21, .ldc 69, 2), (23, .ireturn, 1), (24, .iload_n 2, 1), (25, .iload_n 3, 1), (26, .if_icmp .ne 6, 3), (29, .ldc 102, 2), (31, .ireturn, 1), (32, .aload_n 0, 1), (33, .getfield 11, 3), (36, .iload_n 1, 1), (37, .aaload, 1), (38, .iload_n 2, 1), (39, .iload_n 3, 1), (40, .iload 4, 2), (42, .invokevirtual 103, 3), (45, .ireturn, 1)]
theorem tX7_ahead_ok : ∀ q ∈ tX7_ahead, decode cX7_ahead q.1 = .ok (q.2.1, q.2.2) := by decide +kernel
abbrev mX7_changes : ps_M := (RX7, yX7_changes, cX7_changes, 4, some .int, (0, 0), none)
def tX7_changes : List (Nat × Instr × Nat) := [(0, .aload_n 0, 1), (1, .iload_n 1, 1), (2, .iload_n 2, 1), (3, .invokevirtual 91, 3), (6, .ifCond .eq 12, 3), (9, .aload_n 0, 1), (10, .iload_n 1, 1), (11, .iload_n 3, 1), (12, .invokevirtual 91, 3), (15, .ifCond .ne 6, 3), (18, .ldc 69, 2), (20, .ireturn, 1), (21, .aload_n 0, 1), (22, .iload_n 1, 1), (23, .invokevirtual 79, 3), (26, .iload_n 2, 1), (27, .iload_n 3, 1), (28, .invokevirtual 107, 3), (31, .ireturn, 1)]
theorem tX7_changes_ok : ∀ q ∈ tX7_changes, decode cX7_changes q.1 = .ok (q.2.1, q.2.2) := by decide +kernel
abbrev mX7_least : ps_M := (RX7, yX7_least, cX7_least, 2, some .int, (0, 0), none)
def tX7_least : List (Nat × Instr × Nat) := [(0, .iload_n 1, 1), (1, .invokestatic 62, 3), (4, .ifCond .ne 6, 3), (7, .ldc 69, 2), (9, .ireturn, 1), (10, .aload_n 0, 1), (11, .getfield 26, 3), (14, .aload_n 0, 1), (15, .iload_n 1, 1), (16, .invokevirtual 79, 3), (19, .invokevirtual 110, 3), (22, .ireturn, 1)]
theorem tX7_least_ok : ∀ q ∈ tX7_least, decode cX7_least q.1 = .ok (q.2.1, q.2.2) := by decide +kernel
abbrev mX7_orders : ps_M := (RX7, yX7_orders, cX7_orders, 2, some .int, (0, 0), none)
def tX7_orders : List (Nat × Instr × Nat) := [(0, .iload_n 1, 1), (1, .invokestatic 62, 3), (4, .ifCond .ne 6, 3), (7, .ldc 69, 2), (9, .ireturn, 1), (10, .aload_n 0, 1), (11, .getfield 26, 3), (14, .aload_n 0, 1), (15, .iload_n 1, 1), (16, .invokevirtual 79, 3), (19, .invokevirtual 114, 3), (22, .ireturn, 1)]
theorem tX7_orders_ok : ∀ q ∈ tX7_orders, decode cX7_orders q.1 = .ok (q.2.1, q.2.2) := by decide +kernel
abbrev mX7_first : ps_M := (RX7, yX7_first, cX7_first, 3, some .int, (0, 0), none)
def tX7_first : List (Nat × Instr × Nat) := [(0, .iload_n 1, 1), (1, .invokestatic 62, 3), (4, .ifCond .ne 6, 3), (7, .ldc 69, 2), (9, .ireturn, 1), (10, .iload_n 2, 1), (11, .bipush 9, 2), (13, .invokestatic 65, 3), (16, .ifCond .ne 6, 3), (19, .ldc 70, 2), (21, .ireturn, 1), (22, .aload_n 0, 1), (23, .getfield 26, 3), (26, .aload_n 0, 1), (27, .iload_n 1, 1), (28, .invokevirtual 79, 3), (31, .iload_n 2, 1), (32, .invokevirtual 117, 3), (35, .ireturn, 1)]
theorem tX7_first_ok : ∀ q ∈ tX7_first, decode cX7_first q.1 = .ok (q.2.1, q.2.2) := by decide +kernel
abbrev mX7_before : ps_M := (RX7, yX7_before, cX7_before, 4, some .int, (0, 0), none)
def tX7_before : List (Nat × Instr × Nat) := [(0, .aload_n 0, 1), (1, .iload_n 1, 1), (2, .iload_n 2, 1), (3, .invokevirtual 91, 3), (6, .ifCond .eq 12, 3), (9, .aload_n 0, 1), (10, .iload_n 1, 1), (11, .iload_n 3, 1), (12, .invokevirtual 91, 3), (15, .ifCond .ne 6, 3), (18, .ldc 69, 2), (20, .ireturn, 1), (21, .iload_n 2, 1), (22, .iload_n 3, 1), (23, .if_icmp .ne 6, 3), (26, .ldc 102, 2), (28, .ireturn, 1), (29, .aload_n 0, 1), (30, .getfield 26, 3), (33, .aload_n 0, 1), (34, .iload_n 1, 1), (35, .invokevirtual 79, 3), (38, .iload_n 2, 1), (39, .iload_n 3, 1), (40, .invokevirtual 120, 3), (43, .ireturn, 1)]
theorem tX7_before_ok : ∀ q ∈ tX7_before, decode cX7_before q.1 = .ok (q.2.1, q.2.2) := by decide +kernel
abbrev mX7_piece : ps_M := (RX7, yX7_piece, cX7_piece, 4, some .int, (0, 0), none)
def tX7_piece : List (Nat × Instr × Nat) := [(0, .iload_n 1, 1), (1, .bipush 16, 2), (3, .invokestatic 65, 3), (6, .ifCond .eq 10, 3), (9, .iload_n 2, 1), (10, .invokestatic 62, 3), (13, .ifCond .ne 6, 3), (16, .ldc 69, 2), (18, .ireturn, 1), (19, .iload_n 3, 1), (20, .ldc 70, 2), (22, .if_icmp .eq 15, 3), (25, .iload_n 3, 1), (26, .ifCond .eq 11, 3), (29, .iload_n 3, 1), (30, .iconst 1, 1), (31, .if_icmp .eq 6, 3), (34, .ldc 71, 2), (36, .ireturn, 1), (37, .aload_n 0, 1), (38, .getfield 40, 3), (41, .invokevirtual 124, 3), (44, .aload_n 0, 1), (45, .getfield 33, 3), (48, .iload_n 1, 1), (49, .iload_n 2, 1), (50, .iload_n 3, 1), (51, .invokevirtual 127, 3), (54, .ireturn, 1)]
theorem tX7_piece_ok : ∀ q ∈ tX7_piece, decode cX7_piece q.1 = .ok (q.2.1, q.2.2) := by decide +kernel
abbrev mX7_share : ps_M := (RX7, yX7_share, cX7_share, 3, some .int, (0, 0), none)
def tX7_share : List (Nat × Instr × Nat) := [(0, .iload_n 1, 1), (1, .invokestatic 62, 3), (4, .ifCond .eq 10, 3), (7, .iload_n 2, 1), (8, .invokestatic 62, 3), (11, .ifCond .ne 6, 3), (14, .ldc 69, 2), (16, .ireturn, 1), (17, .aload_n 0, 1), (18, .getfield 33, 3), (21, .getfield 130, 3), (24, .iload_n 1, 1), (25, .iaload, 1), (26, .iload_n 2, 1), (27, .ishr, 1), (28, .iconst 1, 1), (29, .iand, 1), (30, .ireturn, 1)]
theorem tX7_share_ok : ∀ q ∈ tX7_share, decode cX7_share q.1 = .ok (q.2.1, q.2.2) := by decide +kernel
abbrev mX7_must : ps_M := (RX7, yX7_must, cX7_must, 3, some .int, (0, 0), none)
def tX7_must : List (Nat × Instr × Nat) := [(0, .iload_n 1, 1), (1, .invokestatic 62, 3), (4, .ifCond .eq 10, 3), (7, .iload_n 2, 1), (8, .invokestatic 62, 3), (11, .ifCond .ne 6, 3), (14, .ldc 69, 2), (16, .ireturn, 1), (17, .aload_n 0, 1), (18, .getfield 33, 3), (21, .getfield 133, 3), (24, .iload_n 1, 1), (25, .iaload, 1), (26, .iload_n 2, 1), (27, .ishr, 1), (28, .iconst 1, 1), (29, .iand, 1), (30, .ireturn, 1)]
theorem tX7_must_ok : ∀ q ∈ tX7_must, decode cX7_must q.1 = .ok (q.2.1, q.2.2) := by decide +kernel
abbrev mX7_ring : ps_M := (RX7, yX7_ring, cX7_ring, 1, some .int, (0, 0), none)
def tX7_ring : List (Nat × Instr × Nat) := [(0, .aload_n 0, 1), (1, .getfield 33, 3), (4, .invokevirtual 136, 3), (7, .ireturn, 1)]
theorem tX7_ring_ok : ∀ q ∈ tX7_ring, decode cX7_ring q.1 = .ok (q.2.1, q.2.2) := by decide +kernel
abbrev mX7_presses : ps_M := (RX7, yX7_presses, cX7_presses, 2, some .int, (0, 0), none)
def tX7_presses : List (Nat × Instr × Nat) := [(0, .iload_n 1, 1), (1, .iconst 1, 1), (2, .if_icmp .lt 9, 3), (5, .iload_n 1, 1), (6, .bipush 6, 2), (8, .if_icmp .le 6, 3), (11, .ldc 71, 2), (13, .ireturn, 1), (14, .aload_n 0, 1), (15, .getfield 40, 3), (18, .iload_n 1, 1), (19, .invokevirtual 140, 3), (22, .ireturn, 1)]
theorem tX7_presses_ok : ∀ q ∈ tX7_presses, decode cX7_presses q.1 = .ok (q.2.1, q.2.2) := by decide +kernel
abbrev mX7_plans : ps_M := (RX7, yX7_plans, cX7_plans, 2, some .int, (0, 0), none)
def tX7_plans : List (Nat × Instr × Nat) := [(0, .iload_n 1, 1), (1, .invokestatic 144, 3), (4, .ifCond .ne 6, 3), (7, .ldc 71, 2), (9, .ireturn, 1), (10, .aload_n 0, 1), (11, .getfield 40, 3), (14, .aload_n 0, 1), (15, .getfield 33, 3), (18, .iload_n 1, 1), (19, .iconst 0, 1), (20, .invokevirtual 147, 3), (23, .ireturn, 1)]
theorem tX7_plans_ok : ∀ q ∈ tX7_plans, decode cX7_plans q.1 = .ok (q.2.1, q.2.2) := by decide +kernel
abbrev mX7_day : ps_M := (RX7, yX7_day, cX7_day, 3, some .int, (0, 0), none)
def tX7_day : List (Nat × Instr × Nat) := [(0, .iload_n 2, 1), (1, .invokestatic 62, 3), (4, .ifCond .ne 6, 3), (7, .ldc 69, 2), (9, .ireturn, 1), (10, .iload_n 1, 1), (11, .invokestatic 144, 3), (14, .ifCond .ne 6, 3), (17, .ldc 71, 2), (19, .ireturn, 1), (20, .aload_n 0, 1), (21, .getfield 40, 3), (24, .aload_n 0, 1), (25, .getfield 33, 3), (28, .iload_n 1, 1), (29, .iload_n 2, 1), (30, .invokevirtual 151, 3), (33, .ireturn, 1)]
theorem tX7_day_ok : ∀ q ∈ tX7_day, decode cX7_day q.1 = .ok (q.2.1, q.2.2) := by decide +kernel
abbrev mX7_beside : ps_M := (RX7, yX7_beside, cX7_beside, 4, some .int, (0, 0), none)
def tX7_beside : List (Nat × Instr × Nat) := [(0, .iload_n 2, 1), (1, .invokestatic 62, 3), (4, .ifCond .eq 10, 3), (7, .iload_n 3, 1), (8, .invokestatic 62, 3), (11, .ifCond .ne 6, 3), (14, .ldc 69, 2), (16, .ireturn, 1), (17, .iload_n 1, 1), (18, .invokestatic 144, 3), (21, .ifCond .ne 6, 3), (24, .ldc 71, 2), (26, .ireturn, 1), (27, .aload_n 0, 1), (28, .getfield 33, 3), (31, .iload_n 2, 1), (32, .invokevirtual 154, 3), (35, .ifCond .eq 14, 3), (38, .aload_n 0, 1), (39, .getfield 33, 3), (42, .iload_n 3, 1), (43, .invokevirtual 154, 3), (46, .ifCond .ne 6, 3), (49, .ldc 102, 2), (51, .ireturn, 1), (52, .aload_n 0, 1), (53, .getfield 40, 3), (56, .aload_n 0, 1), (57, .getfield 33, 3), (60, .iload_n 1, 1), (61, .iconst 1, 1), (62, .iload_n 2, 1), (63, .ishl, 1), (64, .iconst 1, 1), (65, .iload_n 3, 1), (66, .ishl, 1), (67, .ior, 1), (68, .invokevirtual 147, 3), (71, .ireturn, 1)]
theorem tX7_beside_ok : ∀ q ∈ tX7_beside, decode cX7_beside q.1 = .ok (q.2.1, q.2.2) := by decide +kernel
abbrev mX7_fewest : ps_M := (RX7, yX7_fewest, cX7_fewest, 2, some .int, (0, 0), none)
def tX7_fewest : List (Nat × Instr × Nat) := [(0, .iconst 1, 1), (1, .istore_n 1, 1), (2, .iload_n 1, 1), (3, .bipush 6, 2), (5, .if_icmp .gt 27, 3), (8, .aload_n 0, 1), (9, .getfield 40, 3), (12, .aload_n 0, 1), (13, .getfield 33, 3), (16, .iload_n 1, 1), (17, .iconst 0, 1), (18, .invokevirtual 147, 3), (21, .ifCond .le 5, 3), (24, .iload_n 1, 1), (25, .ireturn, 1), (26, .iinc 1 1, 3), (29, .goto (-27), 3), (32, .ldc 70, 2), (34, .ireturn, 1)]
theorem tX7_fewest_ok : ∀ q ∈ tX7_fewest, decode cX7_fewest q.1 = .ok (q.2.1, q.2.2) := by decide +kernel
abbrev mX7_sheet : ps_M := (RX7, yX7_sheet, cX7_sheet, 3, some .int, (0, 0), none)
def tX7_sheet : List (Nat × Instr × Nat) := [(0, .iload_n 1, 1), (1, .invokestatic 62, 3), (4, .ifCond .ne 6, 3), (7, .ldc 69, 2), (9, .ireturn, 1), (10, .iload_n 2, 1), (11, .bipush 10, 2), (13, .invokestatic 65, 3), (16, .ifCond .ne 6, 3), (19, .ldc 71, 2), (21, .ireturn, 1), (22, .aload_n 0, 1), (23, .getfield 47, 3), (26, .getfield 157, 3), (29, .iload_n 1, 1), (30, .iaload, 1), (31, .bipush 12, 2), (33, .if_icmp .lt 6, 3), (36, .ldc 102, 2), (38, .ireturn, 1), (39, .aload_n 0, 1), (40, .getfield 47, 3), (43, .iload_n 1, 1), (44, .iload_n 2, 1), (45, .invokevirtual 160, 3), (48, .ireturn, 1)]
theorem tX7_sheet_ok : ∀ q ∈ tX7_sheet, decode cX7_sheet q.1 = .ok (q.2.1, q.2.2) := by decide +kernel
abbrev mX7_size : ps_M := (RX7, yX7_size, cX7_size, 2, some .int, (0, 0), none)
def tX7_size : List (Nat × Instr × Nat) := [(0, .iload_n 1, 1), (1, .iconst 1, 1), (2, .if_icmp .lt 9, 3), (5, .iload_n 1, 1), (6, .bipush 12, 2), (8, .if_icmp .le 6, 3), (11, .ldc 71, 2), (13, .ireturn, 1), (14, .aload_n 0, 1), (15, .getfield 47, 3), (18, .iload_n 1, 1), (19, .invokevirtual 163, 3), (22, .ireturn, 1)]
theorem tX7_size_ok : ∀ q ∈ tX7_size, decode cX7_size q.1 = .ok (q.2.1, q.2.2) := by decide +kernel
abbrev mX7_seen : ps_M := (RX7, yX7_seen, cX7_seen, 4, some .int, (0, 0), none)
def tX7_seen : List (Nat × Instr × Nat) := [(0, .iload_n 1, 1), (1, .invokestatic 62, 3), (4, .ifCond .eq 12, 3), (7, .iload_n 2, 1), (8, .bipush 12, 2), (10, .invokestatic 65, 3), (13, .ifCond .ne 6, 3), (16, .ldc 69, 2), (18, .ireturn, 1), (19, .iload_n 3, 1), (20, .ldc 70, 2), (22, .if_icmp .eq 15, 3), (25, .iload_n 3, 1), (26, .bipush 10, 2), (28, .invokestatic 65, 3), (31, .ifCond .ne 6, 3), (34, .ldc 71, 2), (36, .ireturn, 1), (37, .aload_n 0, 1), (38, .getfield 47, 3), (41, .iload_n 1, 1), (42, .iload_n 2, 1), (43, .iload_n 3, 1), (44, .invokevirtual 166, 3), (47, .ireturn, 1)]
theorem tX7_seen_ok : ∀ q ∈ tX7_seen, decode cX7_seen q.1 = .ok (q.2.1, q.2.2) := by decide +kernel
abbrev mX7_turns : ps_M := (RX7, yX7_turns, cX7_turns, 2, some .int, (0, 0), none)
def tX7_turns : List (Nat × Instr × Nat) := [(0, .iload_n 1, 1), (1, .invokestatic 62, 3), (4, .ifCond .ne 6, 3), (7, .ldc 69, 2), (9, .ireturn, 1), (10, .aload_n 0, 1), (11, .getfield 47, 3), (14, .iload_n 1, 1), (15, .invokevirtual 169, 3), (18, .ireturn, 1)]
theorem tX7_turns_ok : ∀ q ∈ tX7_turns, decode cX7_turns q.1 = .ok (q.2.1, q.2.2) := by decide +kernel
abbrev mX7_turned : ps_M := (RX7, yX7_turned, cX7_turned, 3, some .int, (0, 0), none)
def tX7_turned : List (Nat × Instr × Nat) := [(0, .iload_n 1, 1), (1, .invokestatic 62, 3), (4, .ifCond .eq 18, 3), (7, .iload_n 2, 1), (8, .aload_n 0, 1), (9, .getfield 47, 3), (12, .iload_n 1, 1), (13, .invokevirtual 172, 3), (16, .invokestatic 65, 3), (19, .ifCond .ne 6, 3), (22, .ldc 69, 2), (24, .ireturn, 1), (25, .aload_n 0, 1), (26, .getfield 47, 3), (29, .iload_n 1, 1), (30, .iload_n 2, 1), (31, .invokevirtual 175, 3), (34, .ireturn, 1)]
theorem tX7_turned_ok : ∀ q ∈ tX7_turned, decode cX7_turned q.1 = .ok (q.2.1, q.2.2) := by decide +kernel
abbrev mX7_bound : ps_M := (RX7, yX7_bound, cX7_bound, 4, some .int, (0, 0), none)
def tX7_bound : List (Nat × Instr × Nat) := [(0, .iload_n 1, 1), (1, .invokestatic 62, 3), (4, .ifCond .eq 12, 3), (7, .iload_n 2, 1), (8, .bipush 12, 2), (10, .invokestatic 65, 3), (13, .ifCond .ne 6, 3), (16, .ldc 69, 2), (18, .ireturn, 1), (19, .aload_n 0, 1), (20, .getfield 47, 3), (23, .iload_n 1, 1), (24, .iload_n 2, 1), (25, .iload_n 3, 1), (26, .invokevirtual 178, 3), (29, .ireturn, 1)]
theorem tX7_bound_ok : ∀ q ∈ tX7_bound, decode cX7_bound q.1 = .ok (q.2.1, q.2.2) := by decide +kernel
abbrev mX7_house : ps_M := (RX7, yX7_house, cX7_house, 3, some .int, (0, 0), none)
def tX7_house : List (Nat × Instr × Nat) := [(0, .iload_n 1, 1), (1, .iconst 1, 1), (2, .if_icmp .lt 19, 3), (5, .iload_n 1, 1), (6, .iconst 4, 1), (7, .if_icmp .gt 14, 3), (10, .iload_n 2, 1), (11, .iconst 1, 1), (12, .if_icmp .lt 9, 3), (15, .iload_n 2, 1), (16, .bipush 12, 2), (18, .if_icmp .le 6, 3), (21, .ldc 71, 2), (23, .ireturn, 1), (24, .aload_n 0, 1), (25, .getfield 54, 3), (28, .iload_n 1, 1), (29, .iload_n 2, 1), (30, .invokevirtual 181, 3), (33, .ireturn, 1)]
theorem tX7_house_ok : ∀ q ∈ tX7_house, decode cX7_house q.1 = .ok (q.2.1, q.2.2) := by decide +kernel
abbrev mX7_habit : ps_M := (RX7, yX7_habit, cX7_habit, 4, some .int, (0, 0), none)
def tX7_habit : List (Nat × Instr × Nat) := [(0, .aload_n 0, 1), (1, .iload_n 1, 1), (2, .invokevirtual 184, 3), (5, .ifCond .eq 12, 3), (8, .iload_n 2, 1), (9, .bipush 6, 2), (11, .invokestatic 65, 3), (14, .ifCond .ne 6, 3), (17, .ldc 69, 2), (19, .ireturn, 1), (20, .iload_n 3, 1), (21, .ldc 70, 2), (23, .if_icmp .eq 14, 3), (26, .iload_n 3, 1), (27, .iconst 2, 1), (28, .invokestatic 65, 3), (31, .ifCond .ne 6, 3), (34, .ldc 71, 2), (36, .ireturn, 1), (37, .aload_n 0, 1), (38, .getfield 54, 3), (41, .iload_n 1, 1), (42, .iload_n 2, 1), (43, .iload_n 3, 1), (44, .invokevirtual 187, 3), (47, .ireturn, 1)]
theorem tX7_habit_ok : ∀ q ∈ tX7_habit, decode cX7_habit q.1 = .ok (q.2.1, q.2.2) := by decide +kernel
abbrev mX7_spell : ps_M := (RX7, yX7_spell, cX7_spell, 5, some .int, (0, 0), none)
def tX7_spell : List (Nat × Instr × Nat) := [(0, .aload_n 0, 1), (1, .iload_n 1, 1), (2, .invokevirtual 190, 3), (5, .ifCond .eq 12, 3), (8, .iload_n 2, 1), (9, .bipush 6, 2), (11, .invokestatic 65, 3), (14, .ifCond .ne 6, 3), (17, .ldc 69, 2), (19, .ireturn, 1), (20, .iload_n 3, 1), (21, .iconst 2, 1), (22, .invokestatic 65, 3), (25, .ifCond .eq 13, 3), (28, .iload 4, 2), (30, .bipush 10, 2), (32, .invokestatic 65, 3), (35, .ifCond .ne 6, 3), (38, .ldc 71, 2), (40, .ireturn, 1), (41, .aload_n 0, 1), (42, .getfield 54, 3), (45, .iload_n 1, 1), (46, .iload_n 2, 1), (47, .iload_n 3, 1), (48, .iload 4, 2), (50, .invokevirtual 193, 3), (53, .ireturn, 1)]
theorem tX7_spell_ok : ∀ q ∈ tX7_spell, decode cX7_spell q.1 = .ok (q.2.1, q.2.2) := by decide +kernel
abbrev mX7_change : ps_M := (RX7, yX7_change, cX7_change, 2, some .int, (0, 0), none)
def tX7_change : List (Nat × Instr × Nat) := [(0, .iload_n 1, 1), (1, .ifCond .lt 9, 3), (4, .iload_n 1, 1), (5, .bipush 99, 2), (7, .if_icmp .le 6, 3), (10, .ldc 71, 2), (12, .ireturn, 1), (13, .aload_n 0, 1), (14, .getfield 54, 3), (17, .iload_n 1, 1), (18, .invokevirtual 197, 3), (21, .ireturn, 1)]
theorem tX7_change_ok : ∀ q ∈ tX7_change, decode cX7_change q.1 = .ok (q.2.1, q.2.2) := by decide +kernel
abbrev mX7_against : ps_M := (RX7, yX7_against, cX7_against, 3, some .int, (0, 0), none)
def tX7_against : List (Nat × Instr × Nat) := [(0, .aload_n 0, 1), (1, .iload_n 1, 1), (2, .invokevirtual 190, 3), (5, .ifCond .eq 11, 3), (8, .aload_n 0, 1), (9, .iload_n 2, 1), (10, .invokevirtual 184, 3), (13, .ifCond .ne 6, 3), (16, .ldc 69, 2), (18, .ireturn, 1), (19, .aload_n 0, 1), (20, .getfield 54, 3), (23, .iload_n 1, 1), (24, .iload_n 2, 1), (25, .invokevirtual 200, 3), (28, .ireturn, 1)]
theorem tX7_against_ok : ∀ q ∈ tX7_against, decode cX7_against q.1 = .ok (q.2.1, q.2.2) := by decide +kernel
abbrev mX7_setting : ps_M := (RX7, yX7_setting, cX7_setting, 1, some .int, (0, 0), none)
def tX7_setting : List (Nat × Instr × Nat) := [(0, .aload_n 0, 1), (1, .getfield 54, 3), (4, .invokevirtual 203, 3), (7, .ireturn, 1)]
theorem tX7_setting_ok : ∀ q ∈ tX7_setting, decode cX7_setting q.1 = .ok (q.2.1, q.2.2) := by decide +kernel
abbrev mX7_who : ps_M := (RX7, yX7_who, cX7_who, 2, some .int, (0, 0), none)
def tX7_who : List (Nat × Instr × Nat) := [(0, .aload_n 0, 1), (1, .iload_n 1, 1), (2, .invokevirtual 190, 3), (5, .ifCond .ne 6, 3), (8, .ldc 69, 2), (10, .ireturn, 1), (11, .aload_n 0, 1), (12, .getfield 54, 3), (15, .iload_n 1, 1), (16, .invokevirtual 206, 3), (19, .ireturn, 1)]
theorem tX7_who_ok : ∀ q ∈ tX7_who, decode cX7_who q.1 = .ok (q.2.1, q.2.2) := by decide +kernel
abbrev mX7_sure : ps_M := (RX7, yX7_sure, cX7_sure, 2, some .int, (0, 0), none)
def tX7_sure : List (Nat × Instr × Nat) := [(0, .aload_n 0, 1), (1, .iload_n 1, 1), (2, .invokevirtual 190, 3), (5, .ifCond .ne 6, 3), (8, .ldc 69, 2), (10, .ireturn, 1), (11, .aload_n 0, 1), (12, .getfield 54, 3), (15, .iload_n 1, 1), (16, .invokevirtual 209, 3), (19, .iconst 1, 1), (20, .if_icmp .ne 7, 3), (23, .iconst 1, 1), (24, .goto 4, 3), (27, .iconst 0, 1), (28, .ireturn, 1)]
theorem tX7_sure_ok : ∀ q ∈ tX7_sure, decode cX7_sure q.1 = .ok (q.2.1, q.2.2) := by decide +kernel
abbrev mX7_settings : ps_M := (RX7, yX7_settings, cX7_settings, 1, some .int, (0, 0), none)
def tX7_settings : List (Nat × Instr × Nat) := [(0, .aload_n 0, 1), (1, .getfield 54, 3), (4, .invokevirtual 212, 3), (7, .ireturn, 1)]
theorem tX7_settings_ok : ∀ q ∈ tX7_settings, decode cX7_settings q.1 = .ok (q.2.1, q.2.2) := by decide +kernel
abbrev mX7_count : ps_M := (RX7, yX7_count, cX7_count, 2, some .int, (0, 0), none)
def tX7_count : List (Nat × Instr × Nat) := [(0, .iload_n 1, 1), (1, .tableswitch 96 0 6 #[43, 48, 53, 64, 72, 80, 88], 43), (44, .aload_n 0, 1), (45, .invokevirtual 215, 3), (48, .ireturn, 1), (49, .aload_n 0, 1), (50, .invokevirtual 218, 3), (53, .ireturn, 1), (54, .aload_n 0, 1), (55, .getfield 33, 3), (58, .getfield 221, 3), (61, .invokestatic 224, 3), (64, .ireturn, 1), (65, .aload_n 0, 1), (66, .getfield 47, 3), (69, .invokevirtual 229, 3), (72, .ireturn, 1), (73, .aload_n 0, 1), (74, .getfield 47, 3), (77, .invokevirtual 232, 3), (80, .ireturn, 1), (81, .aload_n 0, 1), (82, .getfield 54, 3), (85, .getfield 235, 3), (88, .ireturn, 1), (89, .aload_n 0, 1), (90, .getfield 54, 3), (93, .getfield 238, 3), (96, .ireturn, 1), (97, .ldc 71, 2), (99, .ireturn, 1)]
theorem tX7_count_ok : ∀ q ∈ tX7_count, decode cX7_count q.1 = .ok (q.2.1, q.2.2) := by decide +kernel
abbrev mX7_countReadings : ps_M := (RX7, yX7_countReadings, cX7_countReadings, 3, some .int, (0, 0), none)
def tX7_countReadings : List (Nat × Instr × Nat) := [(0, .iconst 0, 1), (1, .istore_n 1, 1), (2, .iconst 0, 1), (3, .istore_n 2, 1), (4, .iload_n 2, 1), (5, .bipush 6, 2), (7, .if_icmp .ge 21, 3), (10, .iload_n 1, 1), (11, .aload_n 0, 1), (12, .getfield 11, 3), (15, .iload_n 2, 1), (16, .aaload, 1), (17, .invokevirtual 241, 3), (20, .iadd, 1), (21, .istore_n 1, 1), (22, .iinc 2 1, 3), (25, .goto (-21), 3), (28, .iload_n 1, 1), (29, .ireturn, 1)]
theorem tX7_countReadings_ok : ∀ q ∈ tX7_countReadings, decode cX7_countReadings q.1 = .ok (q.2.1, q.2.2) := by decide +kernel
abbrev mX7_countAhead : ps_M := (RX7, yX7_countAhead, cX7_countAhead, 3, some .int, (0, 0), none)
def tX7_countAhead : List (Nat × Instr × Nat) := [(0, .iconst 0, 1), (1, .istore_n 1, 1), (2, .iconst 0, 1), (3, .istore_n 2, 1), (4, .iload_n 2, 1), (5, .bipush 6, 2), (7, .if_icmp .ge 21, 3), (10, .iload_n 1, 1), (11, .aload_n 0, 1), (12, .getfield 11, 3), (15, .iload_n 2, 1), (16, .aaload, 1), (17, .invokevirtual 244, 3), (20, .iadd, 1), (21, .istore_n 1, 1), (22, .iinc 2 1, 3), (25, .goto (-21), 3), (28, .iload_n 1, 1), (29, .ireturn, 1)]
theorem tX7_countAhead_ok : ∀ q ∈ tX7_countAhead, decode cX7_countAhead q.1 = .ok (q.2.1, q.2.2) := by decide +kernel
abbrev mX7_within : ps_M := (RX7, yX7_within, cX7_within, 2, some .boolean, (0, 0), none)
def tX7_within : List (Nat × Instr × Nat) := [(0, .iload_n 0, 1), (1, .ifCond .lt 12, 3), (4, .iload_n 0, 1), (5, .iload_n 1, 1), (6, .if_icmp .ge 7, 3), (9, .iconst 1, 1), (10, .goto 4, 3), (13, .iconst 0, 1), (14, .ireturn, 1)]
theorem tX7_within_ok : ∀ q ∈ tX7_within, decode cX7_within q.1 = .ok (q.2.1, q.2.2) := by decide +kernel
abbrev mX7_isCopy : ps_M := (RX7, yX7_isCopy, cX7_isCopy, 1, some .boolean, (0, 0), none)
def tX7_isCopy : List (Nat × Instr × Nat) := [(0, .iload_n 0, 1), (1, .bipush 9, 2), (3, .invokestatic 65, 3), (6, .ireturn, 1)]
theorem tX7_isCopy_ok : ∀ q ∈ tX7_isCopy, decode cX7_isCopy q.1 = .ok (q.2.1, q.2.2) := by decide +kernel
abbrev mX7_isForme : ps_M := (RX7, yX7_isForme, cX7_isForme, 1, some .boolean, (0, 0), none)
def tX7_isForme : List (Nat × Instr × Nat) := [(0, .iload_n 0, 1), (1, .bipush 6, 2), (3, .invokestatic 65, 3), (6, .ireturn, 1)]
theorem tX7_isForme_ok : ∀ q ∈ tX7_isForme, decode cX7_isForme q.1 = .ok (q.2.1, q.2.2) := by decide +kernel
abbrev mX7_isDays : ps_M := (RX7, yX7_isDays, cX7_isDays, 1, some .boolean, (0, 0), none)
def tX7_isDays : List (Nat × Instr × Nat) := [(0, .iload_n 0, 1), (1, .iconst 1, 1), (2, .if_icmp .lt 13, 3), (5, .iload_n 0, 1), (6, .bipush 6, 2), (8, .if_icmp .gt 7, 3), (11, .iconst 1, 1), (12, .goto 4, 3), (15, .iconst 0, 1), (16, .ireturn, 1)]
theorem tX7_isDays_ok : ∀ q ∈ tX7_isDays, decode cX7_isDays q.1 = .ok (q.2.1, q.2.2) := by decide +kernel
abbrev mX7_isState : ps_M := (RX7, yX7_isState, cX7_isState, 3, some .boolean, (0, 0), none)
def tX7_isState : List (Nat × Instr × Nat) := [(0, .iload_n 1, 1), (1, .invokestatic 62, 3), (4, .ifCond .eq 22, 3), (7, .iload_n 2, 1), (8, .aload_n 0, 1), (9, .iload_n 1, 1), (10, .invokevirtual 79, 3), (13, .getfield 83, 3), (16, .invokestatic 65, 3), (19, .ifCond .eq 7, 3), (22, .iconst 1, 1), (23, .goto 4, 3), (26, .iconst 0, 1), (27, .ireturn, 1)]
theorem tX7_isState_ok : ∀ q ∈ tX7_isState, decode cX7_isState q.1 = .ok (q.2.1, q.2.2) := by decide +kernel
abbrev mX7_grouped : ps_M := (RX7, yX7_grouped, cX7_grouped, 3, some (.object "PressSheets$Forme"), (0, 0), none)
def tX7_grouped : List (Nat × Instr × Nat) := [(0, .aload_n 0, 1), (1, .getfield 11, 3), (4, .iload_n 1, 1), (5, .aaload, 1), (6, .astore_n 2, 1), (7, .aload_n 2, 1), (8, .getfield 247, 3), (11, .ifCond .ne 7, 3), (14, .aload_n 2, 1), (15, .invokevirtual 250, 3), (18, .aload_n 2, 1), (19, .areturn, 1)]
theorem tX7_grouped_ok : ∀ q ∈ tX7_grouped, decode cX7_grouped q.1 = .ok (q.2.1, q.2.2) := by decide +kernel
abbrev mX7_isMan : ps_M := (RX7, yX7_isMan, cX7_isMan, 2, some .boolean, (0, 0), none)
def tX7_isMan : List (Nat × Instr × Nat) := [(0, .iload_n 1, 1), (1, .aload_n 0, 1), (2, .getfield 54, 3), (5, .getfield 235, 3), (8, .invokestatic 65, 3), (11, .ireturn, 1)]
theorem tX7_isMan_ok : ∀ q ∈ tX7_isMan, decode cX7_isMan q.1 = .ok (q.2.1, q.2.2) := by decide +kernel
abbrev mX7_isPage : ps_M := (RX7, yX7_isPage, cX7_isPage, 2, some .boolean, (0, 0), none)
def tX7_isPage : List (Nat × Instr × Nat) := [(0, .iload_n 1, 1), (1, .aload_n 0, 1), (2, .getfield 54, 3), (5, .getfield 238, 3), (8, .invokestatic 65, 3), (11, .ireturn, 1)]
theorem tX7_isPage_ok : ∀ q ∈ tX7_isPage, decode cX7_isPage q.1 = .ok (q.2.1, q.2.2) := by decide +kernel
abbrev mX8_in : ps_M := (RX8, yX8_in, cX8_in, 6, some .boolean, (0, 0), none)
def tX8_in : List (Nat × Instr × Nat) := [(0, .lload_n 0, 1), (1, .lload_n 2, 1), (2, .lcmp, 1), (3, .ifCond .lt 14, 3), (6, .lload_n 0, 1), (7, .lload 4, 2), (9, .lcmp, 1), (10, .ifCond .gt 7, 3), (13, .iconst 1, 1), (14, .goto 4, 3), (17, .iconst 0, 1), (18, .ireturn, 1)]
theorem tX8_in_ok : ∀ q ∈ tX8_in, decode cX8_in q.1 = .ok (q.2.1, q.2.2) := by decide +kernel
abbrev mX8_isForme : ps_M := (RX8, yX8_isForme, cX8_isForme, 1, some .boolean, (0, 0), none)
def tX8_isForme : List (Nat × Instr × Nat) := [(0, .iload_n 0, 1), (1, .i2l, 1), (2, .lconst 0, 1), (3, .ldc2_w 97, 3), (6, .invokestatic 99, 3), (9, .ireturn, 1)]
theorem tX8_isForme_ok : ∀ q ∈ tX8_isForme, decode cX8_isForme q.1 = .ok (q.2.1, q.2.2) := by decide +kernel
abbrev mX8_isCopy : ps_M := (RX8, yX8_isCopy, cX8_isCopy, 1, some .boolean, (0, 0), none)
def tX8_isCopy : List (Nat × Instr × Nat) := [(0, .iload_n 0, 1), (1, .i2l, 1), (2, .lconst 0, 1), (3, .ldc2_w 103, 3), (6, .invokestatic 99, 3), (9, .ireturn, 1)]
theorem tX8_isCopy_ok : ∀ q ∈ tX8_isCopy, decode cX8_isCopy q.1 = .ok (q.2.1, q.2.2) := by decide +kernel
abbrev mX8_letterAt : ps_M := (RX8, yX8_letterAt, cX8_letterAt, 4, some .int, (0, 0), none)
def tX8_letterAt : List (Nat × Instr × Nat) := [(0, .aload_n 0, 1), (1, .getfield 7, 3), (4, .bipush 54, 2), (6, .iload_n 1, 1), (7, .imul, 1), (8, .bipush 6, 2), (10, .iload_n 2, 1), (11, .imul, 1), (12, .iadd, 1), (13, .iload_n 3, 1), (14, .iadd, 1), (15, .iaload, 1), (16, .ireturn, 1)]
theorem tX8_letterAt_ok : ∀ q ∈ tX8_letterAt, decode cX8_letterAt q.1 = .ok (q.2.1, q.2.2) := by decide +kernel
abbrev mX8_read : ps_M := (RX8, yX8_read, cX8_read, 6, some .int, (0, 0), none)
def tX8_read : List (Nat × Instr × Nat) := [(0, .iload_n 1, 1), (1, .invokestatic 105, 3), (4, .ifCond .eq 22, 3), (7, .iload_n 2, 1), (8, .invokestatic 109, 3), (11, .ifCond .eq 15, 3), (14, .iload_n 3, 1), (15, .i2l, 1), (16, .lconst 0, 1), (17, .ldc2_w 97, 3), (20, .invokestatic 99, 3), (23, .ifCond .ne 6, 3), (26, .ldc 112, 2), (28, .ireturn, 1), (29, .iload 4, 2), (31, .ldc 96, 2), (33, .if_icmp .eq 19, 3), (36, .iload 4, 2), (38, .i2l, 1), (39, .lconst 0, 1), (40, .ldc2_w 113, 3), (43, .invokestatic 99, 3), (46, .ifCond .ne 6, 3), (49, .ldc 115, 2), (51, .ireturn, 1), (52, .aload_n 0, 1), (53, .iload_n 2, 1), (54, .iload_n 1, 1), (55, .iload_n 3, 1), (56, .invokevirtual 116, 3), (59, .istore 5, 2), (61, .aload_n 0, 1), (62, .getfield 7, 3), (65, .bipush 54, 2), (67, .iload_n 2, 1), (68, .imul, 1), (69, .bipush 6, 2), (71, .iload_n 1, 1), (72, .imul, 1), (73, .iadd, 1), (74, .iload_n 3, 1), (75, .iadd, 1), (76, .iload 4, 2), (78, .iastore, 1), (79, .iload 5, 2), (81, .ireturn, 1)]
theorem tX8_read_ok : ∀ q ∈ tX8_read, decode cX8_read q.1 = .ok (q.2.1, q.2.2) := by decide +kernel
abbrev mX8_isLooked : ps_M := (RX8, yX8_isLooked, cX8_isLooked, 5, some .boolean, (0, 0), none)
def tX8_isLooked : List (Nat × Instr × Nat) := [(0, .iconst 0, 1), (1, .istore_n 3, 1), (2, .iconst 0, 1), (3, .istore 4, 2), (5, .iload 4, 2), (7, .bipush 6, 2), (9, .if_icmp .ge 32, 3), (12, .iload_n 3, 1), (13, .ifCond .ne 16, 3), (16, .aload_n 0, 1), (17, .iload_n 1, 1), (18, .iload_n 2, 1), (19, .iload 4, 2), (21, .invokevirtual 116, 3), (24, .ldc 96, 2), (26, .if_icmp .eq 7, 3), (29, .iconst 1, 1), (30, .goto 4, 3), (33, .iconst 0, 1), (34, .istore_n 3, 1), (35, .iinc 4 1, 3), (38, .goto (-33), 3), (41, .iload_n 3, 1), (42, .ireturn, 1)]
theorem tX8_isLooked_ok : ∀ q ∈ tX8_isLooked, decode cX8_isLooked q.1 = .ok (q.2.1, q.2.2) := by decide +kernel
abbrev mX8_agrees : ps_M := (RX8, yX8_agrees, cX8_agrees, 8, some .boolean, (0, 0), none)
def tX8_agrees : List (Nat × Instr × Nat) := [(0, .iconst 1, 1), (1, .istore 4, 2), (3, .iconst 0, 1), (4, .istore 5, 2), (6, .iload 5, 2), (8, .bipush 6, 2), (10, .if_icmp .ge 62, 3), (13, .aload_n 0, 1), (14, .iload_n 1, 1), (15, .iload_n 2, 1), (16, .iload 5, 2), (18, .invokevirtual 116, 3), (21, .istore 6, 2), (23, .aload_n 0, 1), (24, .iload_n 1, 1), (25, .iload_n 3, 1), (26, .iload 5, 2), (28, .invokevirtual 116, 3), (31, .istore 7, 2), (33, .iload 4, 2), (35, .ifCond .eq 28, 3), (38, .iload 6, 2), (40, .ldc 96, 2), (42, .if_icmp .eq 17, 3), (45, .iload 7, 2), (47, .ldc 96, 2), (49, .if_icmp .eq 10, 3), (52, .iload 6, 2), (54, .iload 7, 2), (56, .if_icmp .ne 7, 3), (59, .iconst 1, 1), (60, .goto 4, 3), (63, .iconst 0, 1), (64, .istore 4, 2), (66, .iinc 5 1, 3), (69, .goto (-63), 3), (72, .iload 4, 2), (74, .ireturn, 1)]
theorem tX8_agrees_ok : ∀ q ∈ tX8_agrees, decode cX8_agrees q.1 = .ok (q.2.1, q.2.2) := by decide +kernel
abbrev mX8_agree : ps_M := (RX8, yX8_agree, cX8_agree, 4, some .int, (0, 0), none)
def tX8_agree : List (Nat × Instr × Nat) := [(0, .iload_n 1, 1), (1, .invokestatic 109, 3), (4, .ifCond .eq 17, 3), (7, .iload_n 2, 1), (8, .invokestatic 105, 3), (11, .ifCond .eq 10, 3), (14, .iload_n 3, 1), (15, .invokestatic 105, 3), (18, .ifCond .ne 6, 3), (21, .ldc 112, 2), (23, .ireturn, 1), (24, .aload_n 0, 1), (25, .iload_n 1, 1), (26, .iload_n 2, 1), (27, .iload_n 3, 1), (28, .invokevirtual 120, 3), (31, .ifCond .eq 7, 3), (34, .iconst 1, 1), (35, .goto 4, 3), (38, .iconst 0, 1), (39, .ireturn, 1)]
theorem tX8_agree_ok : ∀ q ∈ tX8_agree, decode cX8_agree q.1 = .ok (q.2.1, q.2.2) := by decide +kernel
abbrev mX8_joins : ps_M := (RX8, yX8_joins, cX8_joins, 6, some .boolean, (0, 0), none)
def tX8_joins : List (Nat × Instr × Nat) := [(0, .iconst 1, 1), (1, .istore 4, 2), (3, .iconst 0, 1), (4, .istore 5, 2), (6, .iload 5, 2), (8, .iload_n 2, 1), (9, .if_icmp .ge 58, 3), (12, .iload 4, 2), (14, .ifCond .eq 44, 3), (17, .aload_n 0, 1), (18, .getfield 13, 3), (21, .aload_n 0, 1), (22, .getfield 16, 3), (25, .iload 5, 2), (27, .iaload, 1), (28, .iaload, 1), (29, .iload_n 3, 1), (30, .if_icmp .ne 24, 3), (33, .aload_n 0, 1), (34, .iload_n 1, 1), (35, .aload_n 0, 1), (36, .getfield 16, 3), (39, .iload 5, 2), (41, .iaload, 1), (42, .aload_n 0, 1), (43, .getfield 16, 3), (46, .iload_n 2, 1), (47, .iaload, 1), (48, .invokevirtual 120, 3), (51, .ifCond .eq 7, 3), (54, .iconst 1, 1), (55, .goto 4, 3), (58, .iconst 0, 1), (59, .istore 4, 2), (61, .iinc 5 1, 3), (64, .goto (-58), 3), (67, .iload 4, 2), (69, .ireturn, 1)]
theorem tX8_joins_ok : ∀ q ∈ tX8_joins, decode cX8_joins q.1 = .ok (q.2.1, q.2.2) := by decide +kernel
abbrev mX8_layGroups : ps_M := (RX8, yX8_layGroups, cX8_layGroups, 7, some .boolean, (0, 0), none)
def tX8_layGroups : List (Nat × Instr × Nat) := [(0, .iconst 0, 1), (1, .istore 4, 2), (3, .iload_n 2, 1), (4, .ifCond .le 15, 3), (7, .aload_n 0, 1), (8, .getfield 13, 3), (11, .aload_n 0, 1), (12, .getfield 16, 3), (15, .iconst 0, 1), (16, .iaload, 1), (17, .iconst (-1), 1), (18, .iastore, 1), (19, .iload 4, 2), (21, .ifCond .lt 171, 3), (24, .iload 4, 2), (26, .iload_n 2, 1), (27, .if_icmp .ge 165, 3), (30, .iconst 0, 1), (31, .istore 5, 2), (33, .iconst 0, 1), (34, .istore 6, 2), (36, .iload 6, 2), (38, .iload 4, 2), (40, .if_icmp .ge 47, 3), (43, .aload_n 0, 1), (44, .getfield 13, 3), (47, .aload_n 0, 1), (48, .getfield 16, 3), (51, .iload 6, 2), (53, .iaload, 1), (54, .iaload, 1), (55, .iload 5, 2), (57, .if_icmp .lt 20, 3), (60, .aload_n 0, 1), (61, .getfield 13, 3), (64, .aload_n 0, 1), (65, .getfield 16, 3), (68, .iload 6, 2), (70, .iaload, 1), (71, .iaload, 1), (72, .iconst 1, 1), (73, .iadd, 1), (74, .goto 5, 3), (77, .iload 5, 2), (79, .istore 5, 2), (81, .iinc 6 1, 3), (84, .goto (-48), 3), (87, .aload_n 0, 1), (88, .getfield 13, 3), (91, .aload_n 0, 1), (92, .getfield 16, 3), (95, .iload 4, 2), (97, .iaload, 1), (98, .iaload, 1), (99, .iconst 1, 1), (100, .iadd, 1), (101, .istore 6, 2), (103, .iload 6, 2), (105, .iload 5, 2), (107, .if_icmp .gt 27, 3), (110, .iload 6, 2), (112, .iload_n 3, 1), (113, .if_icmp .ge 21, 3), (116, .aload_n 0, 1), (117, .iload_n 1, 1), (118, .iload 4, 2), (120, .iload 6, 2), (122, .invokevirtual 124, 3), (125, .ifCond .ne 9, 3), (128, .iinc 6 1, 3), (131, .goto (-28), 3), (134, .iload 6, 2), (136, .iload 5, 2), (138, .if_icmp .gt 9, 3), (141, .iload 6, 2), (143, .iload_n 3, 1), (144, .if_icmp .lt 9, 3), (147, .iinc 4 (-1), 3), (150, .goto 39, 3), (153, .aload_n 0, 1), (154, .getfield 13, 3), (157, .aload_n 0, 1), (158, .getfield 16, 3), (161, .iload 4, 2), (163, .iaload, 1), (164, .iload 6, 2), (166, .iastore, 1), (167, .iinc 4 1, 3), (170, .iload 4, 2), (172, .iload_n 2, 1), (173, .if_icmp .ge 16, 3), (176, .aload_n 0, 1), (177, .getfield 13, 3), (180, .aload_n 0, 1), (181, .getfield 16, 3), (184, .iload 4, 2), (186, .iaload, 1), (187, .iconst (-1), 1), (188, .iastore, 1), (189, .goto (-170), 3), (192, .iload 4, 2), (194, .iload_n 2, 1), (195, .if_icmp .ne 7, 3), (198, .iconst 1, 1), (199, .goto 4, 3), (202, .iconst 0, 1), (203, .ireturn, 1)]
theorem tX8_layGroups_ok : ∀ q ∈ tX8_layGroups, decode cX8_layGroups q.1 = .ok (q.2.1, q.2.2) := by decide +kernel
abbrev mX8_layStates : ps_M := (RX8, yX8_layStates, cX8_layStates, 4, none, (0, 0), none)
def tX8_layStates : List (Nat × Instr × Nat) := [(0, .iconst 0, 1), (1, .istore_n 2, 1), (2, .iconst 0, 1), (3, .istore_n 3, 1), (4, .iload_n 3, 1), (5, .bipush 9, 2), (7, .if_icmp .ge 36, 3), (10, .aload_n 0, 1), (11, .getfield 13, 3), (14, .iload_n 3, 1), (15, .ldc 96, 2), (17, .iastore, 1), (18, .aload_n 0, 1), (19, .iload_n 1, 1), (20, .iload_n 3, 1), (21, .invokevirtual 127, 3), (24, .ifCond .eq 13, 3), (27, .aload_n 0, 1), (28, .getfield 16, 3), (31, .iload_n 2, 1), (32, .iload_n 3, 1), (33, .iastore, 1), (34, .iinc 2 1, 3), (37, .iinc 3 1, 3), (40, .goto (-36), 3), (43, .aload_n 0, 1), (44, .iconst 0, 1), (45, .putfield 131, 3), (48, .aload_n 0, 1), (49, .iload_n 1, 1), (50, .iload_n 2, 1), (51, .aload_n 0, 1), (52, .getfield 131, 3), (55, .invokevirtual 134, 3), (58, .ifCond .ne 16, 3), (61, .aload_n 0, 1), (62, .dup, 1), (63, .getfield 131, 3), (66, .iconst 1, 1), (67, .iadd, 1), (68, .putfield 131, 3), (71, .goto (-23), 3), (74, .return_, 1)]
theorem tX8_layStates_ok : ∀ q ∈ tX8_layStates, decode cX8_layStates q.1 = .ok (q.2.1, q.2.2) := by decide +kernel
abbrev mX8_states : ps_M := (RX8, yX8_states, cX8_states, 2, some .int, (0, 0), none)
def tX8_states : List (Nat × Instr × Nat) := [(0, .iload_n 1, 1), (1, .invokestatic 109, 3), (4, .ifCond .ne 6, 3), (7, .ldc 112, 2), (9, .ireturn, 1), (10, .aload_n 0, 1), (11, .iload_n 1, 1), (12, .invokevirtual 137, 3), (15, .aload_n 0, 1), (16, .getfield 131, 3), (19, .ireturn, 1)]
theorem tX8_states_ok : ∀ q ∈ tX8_states, decode cX8_states q.1 = .ok (q.2.1, q.2.2) := by decide +kernel
abbrev mX8_state : ps_M := (RX8, yX8_state, cX8_state, 3, some .int, (0, 0), none)
def tX8_state : List (Nat × Instr × Nat) := [(0, .iload_n 1, 1), (1, .invokestatic 109, 3), (4, .ifCond .eq 10, 3), (7, .iload_n 2, 1), (8, .invokestatic 105, 3), (11, .ifCond .ne 6, 3), (14, .ldc 112, 2), (16, .ireturn, 1), (17, .aload_n 0, 1), (18, .iload_n 1, 1), (19, .invokevirtual 137, 3), (22, .aload_n 0, 1), (23, .getfield 13, 3), (26, .iload_n 2, 1), (27, .iaload, 1), (28, .ireturn, 1)]
theorem tX8_state_ok : ∀ q ∈ tX8_state, decode cX8_state q.1 = .ok (q.2.1, q.2.2) := by decide +kernel
abbrev mX8_letterOf : ps_M := (RX8, yX8_letterOf, cX8_letterOf, 5, some .int, (0, 0), none)
def tX8_letterOf : List (Nat × Instr × Nat) := [(0, .iconst 0, 1), (1, .istore 4, 2), (3, .iload 4, 2), (5, .bipush 9, 2), (7, .if_icmp .ge 42, 3), (10, .aload_n 0, 1), (11, .getfield 13, 3), (14, .iload 4, 2), (16, .iaload, 1), (17, .iload_n 2, 1), (18, .if_icmp .ne 25, 3), (21, .aload_n 0, 1), (22, .iload_n 1, 1), (23, .iload 4, 2), (25, .iload_n 3, 1), (26, .invokevirtual 116, 3), (29, .ldc 96, 2), (31, .if_icmp .eq 12, 3), (34, .aload_n 0, 1), (35, .iload_n 1, 1), (36, .iload 4, 2), (38, .iload_n 3, 1), (39, .invokevirtual 116, 3), (42, .ireturn, 1), (43, .iinc 4 1, 3), (46, .goto (-43), 3), (49, .ldc 96, 2), (51, .ireturn, 1)]
theorem tX8_letterOf_ok : ∀ q ∈ tX8_letterOf, decode cX8_letterOf q.1 = .ok (q.2.1, q.2.2) := by decide +kernel
abbrev mX8_letter : ps_M := (RX8, yX8_letter, cX8_letter, 4, some .int, (0, 0), none)
def tX8_letter : List (Nat × Instr × Nat) := [(0, .iload_n 1, 1), (1, .invokestatic 109, 3), (4, .ifCond .eq 15, 3), (7, .iload_n 3, 1), (8, .i2l, 1), (9, .lconst 0, 1), (10, .ldc2_w 97, 3), (13, .invokestatic 99, 3), (16, .ifCond .ne 6, 3), (19, .ldc 112, 2), (21, .ireturn, 1), (22, .aload_n 0, 1), (23, .iload_n 1, 1), (24, .invokevirtual 137, 3), (27, .iload_n 2, 1), (28, .i2l, 1), (29, .lconst 0, 1), (30, .aload_n 0, 1), (31, .getfield 131, 3), (34, .iconst 1, 1), (35, .isub, 1), (36, .i2l, 1), (37, .invokestatic 99, 3), (40, .ifCond .eq 13, 3), (43, .aload_n 0, 1), (44, .iload_n 1, 1), (45, .iload_n 2, 1), (46, .iload_n 3, 1), (47, .invokevirtual 141, 3), (50, .goto 5, 3), (53, .ldc 112, 2), (55, .ireturn, 1)]
theorem tX8_letter_ok : ∀ q ∈ tX8_letter, decode cX8_letter q.1 = .ok (q.2.1, q.2.2) := by decide +kernel
abbrev mX8_slipsOf : ps_M := (RX8, yX8_slipsOf, cX8_slipsOf, 10, some .int, (0, 0), none)
def tX8_slipsOf : List (Nat × Instr × Nat) := [(0, .iconst 0, 1), (1, .istore_n 3, 1), (2, .iconst 0, 1), (3, .istore 4, 2), (5, .iload 4, 2), (7, .bipush 6, 2), (9, .if_icmp .ge 115, 3), (12, .iconst 0, 1), (13, .istore 5, 2), (15, .iconst 0, 1), (16, .istore 6, 2), (18, .iconst 0, 1), (19, .istore 7, 2), (21, .iload 7, 2), (23, .bipush 10, 2), (25, .if_icmp .ge 85, 3), (28, .iconst 0, 1), (29, .istore 8, 2), (31, .iconst 0, 1), (32, .istore 9, 2), (34, .iload 9, 2), (36, .bipush 9, 2), (38, .if_icmp .ge 43, 3), (41, .iload 8, 2), (43, .iload_n 2, 1), (44, .iload 9, 2), (46, .ishr, 1), (47, .iconst 1, 1), (48, .iand, 1), (49, .iconst 1, 1), (50, .if_icmp .ne 21, 3), (53, .aload_n 0, 1), (54, .iload_n 1, 1), (55, .iload 9, 2), (57, .iload 4, 2), (59, .invokevirtual 116, 3), (62, .iload 7, 2), (64, .if_icmp .ne 7, 3), (67, .iconst 1, 1), (68, .goto 4, 3), (71, .iconst 0, 1), (72, .iadd, 1), (73, .istore 8, 2), (75, .iinc 9 1, 3), (78, .goto (-44), 3), (81, .iload 6, 2), (83, .iload 8, 2), (85, .iadd, 1), (86, .istore 6, 2), (88, .iload 8, 2), (90, .iload 5, 2), (92, .if_icmp .le 8, 3), (95, .iload 8, 2), (97, .goto 5, 3), (100, .iload 5, 2), (102, .istore 5, 2), (104, .iinc 7 1, 3), (107, .goto (-86), 3), (110, .iload_n 3, 1), (111, .iload 6, 2), (113, .iload 5, 2), (115, .isub, 1), (116, .iadd, 1), (117, .istore_n 3, 1), (118, .iinc 4 1, 3), (121, .goto (-116), 3), (124, .iload_n 3, 1), (125, .ireturn, 1)]
theorem tX8_slipsOf_ok : ∀ q ∈ tX8_slipsOf, decode cX8_slipsOf q.1 = .ok (q.2.1, q.2.2) := by decide +kernel
abbrev mX8_slips : ps_M := (RX8, yX8_slips, cX8_slips, 7, some .int, (0, 0), none)
def tX8_slips : List (Nat × Instr × Nat) := [(0, .iload_n 1, 1), (1, .invokestatic 109, 3), (4, .ifCond .ne 6, 3), (7, .ldc 112, 2), (9, .ireturn, 1), (10, .iload_n 2, 1), (11, .i2l, 1), (12, .lconst 1, 1), (13, .ldc2_w 113, 3), (16, .invokestatic 99, 3), (19, .ifCond .ne 6, 3), (22, .ldc 115, 2), (24, .ireturn, 1), (25, .iconst 0, 1), (26, .istore_n 3, 1), (27, .iload_n 3, 1), (28, .sipush 512, 3), (31, .if_icmp .ge 33, 3), (34, .aload_n 0, 1), (35, .getfield 19, 3), (38, .iload_n 3, 1), (39, .aload_n 0, 1), (40, .iload_n 1, 1), (41, .iload_n 3, 1), (42, .invokevirtual 144, 3), (45, .iastore, 1), (46, .aload_n 0, 1), (47, .getfield 22, 3), (50, .iload_n 3, 1), (51, .aload_n 0, 1), (52, .getfield 19, 3), (55, .iload_n 3, 1), (56, .iaload, 1), (57, .iastore, 1), (58, .iinc 3 1, 3), (61, .goto (-34), 3), (64, .iconst 1, 1), (65, .istore_n 3, 1), (66, .iload_n 3, 1), (67, .iload_n 2, 1), (68, .if_icmp .ge 145, 3), (71, .iconst 0, 1), (72, .istore 4, 2), (74, .iload 4, 2), (76, .sipush 512, 3), (79, .if_icmp .ge 97, 3), (82, .aload_n 0, 1), (83, .getfield 25, 3), (86, .iload 4, 2), (88, .aload_n 0, 1), (89, .getfield 22, 3), (92, .iload 4, 2), (94, .iaload, 1), (95, .iastore, 1), (96, .iload 4, 2), (98, .istore 5, 2), (100, .iload 5, 2), (102, .ifCond .le 68, 3), (105, .aload_n 0, 1), (106, .getfield 19, 3), (109, .iload 5, 2), (111, .iaload, 1), (112, .aload_n 0, 1), (113, .getfield 22, 3), (116, .iload 4, 2), (118, .iload 5, 2), (120, .iconst (-1), 1), (121, .ixor, 1), (122, .iand, 1), (123, .iaload, 1), (124, .iadd, 1), (125, .istore 6, 2), (127, .aload_n 0, 1), (128, .getfield 25, 3), (131, .iload 4, 2), (133, .iload 6, 2), (135, .aload_n 0, 1), (136, .getfield 25, 3), (139, .iload 4, 2), (141, .iaload, 1), (142, .if_icmp .ge 8, 3), (145, .iload 6, 2), (147, .goto 10, 3), (150, .aload_n 0, 1), (151, .getfield 25, 3), (154, .iload 4, 2), (156, .iaload, 1), (157, .iastore, 1), (158, .iload 5, 2), (160, .iconst 1, 1), (161, .isub, 1), (162, .iload 4, 2), (164, .iand, 1), (165, .istore 5, 2), (167, .goto (-67), 3), (170, .iinc 4 1, 3), (173, .goto (-99), 3), (176, .iconst 0, 1), (177, .istore 4, 2), (179, .iload 4, 2), (181, .sipush 512, 3), (184, .if_icmp .ge 23, 3), (187, .aload_n 0, 1), (188, .getfield 22, 3), (191, .iload 4, 2), (193, .aload_n 0, 1), (194, .getfield 25, 3), (197, .iload 4, 2), (199, .iaload, 1), (200, .iastore, 1), (201, .iinc 4 1, 3), (204, .goto (-25), 3), (207, .iinc 3 1, 3), (210, .goto (-144), 3), (213, .aload_n 0, 1), (214, .getfield 22, 3), (217, .sipush 511, 3), (220, .iaload, 1), (221, .ireturn, 1)]
theorem tX8_slips_ok : ∀ q ∈ tX8_slips, decode cX8_slips q.1 = .ok (q.2.1, q.2.2) := by decide +kernel
abbrev mX8_ahead : ps_M := (RX8, yX8_ahead, cX8_ahead, 6, some .int, (0, 0), none)
def tX8_ahead : List (Nat × Instr × Nat) := [(0, .iload_n 1, 1), (1, .invokestatic 109, 3), (4, .ifCond .eq 17, 3), (7, .iload_n 2, 1), (8, .invokestatic 105, 3), (11, .ifCond .eq 10, 3), (14, .iload_n 3, 1), (15, .invokestatic 105, 3), (18, .ifCond .ne 6, 3), (21, .ldc 112, 2), (23, .ireturn, 1), (24, .iload_n 2, 1), (25, .iload_n 3, 1), (26, .if_icmp .ne 6, 3), (29, .ldc 148, 2), (31, .ireturn, 1), (32, .aload_n 0, 1), (33, .getfield 28, 3), (36, .bipush 81, 2), (38, .iload_n 1, 1), (39, .imul, 1), (40, .bipush 9, 2), (42, .iload_n 2, 1), (43, .imul, 1), (44, .iadd, 1), (45, .iload_n 3, 1), (46, .iadd, 1), (47, .baload, 1), (48, .ifCond .eq 7, 3), (51, .iconst 1, 1), (52, .goto 4, 3), (55, .iconst 0, 1), (56, .istore 5, 2), (58, .aload_n 0, 1), (59, .getfield 28, 3), (62, .bipush 81, 2), (64, .iload_n 1, 1), (65, .imul, 1), (66, .bipush 9, 2), (68, .iload_n 2, 1), (69, .imul, 1), (70, .iadd, 1), (71, .iload_n 3, 1), (72, .iadd, 1), (73, .iload 4, 2), (75, .bastore, 1), (76, .iload 5, 2), (78, .ireturn, 1)]
theorem tX8_ahead_ok : ∀ q ∈ tX8_ahead, decode cX8_ahead q.1 = .ok (q.2.1, q.2.2) := by decide +kernel
abbrev mX8_changesOf : ps_M := (RX8, yX8_changesOf, cX8_changesOf, 8, some .int, (0, 0), none)
def tX8_changesOf : List (Nat × Instr × Nat) := [(0, .iconst 0, 1), (1, .istore 4, 2), (3, .iconst 0, 1), (4, .istore 5, 2), (6, .iload 5, 2), (8, .bipush 6, 2), (10, .if_icmp .ge 60, 3), (13, .aload_n 0, 1), (14, .iload_n 1, 1), (15, .iload_n 2, 1), (16, .iload 5, 2), (18, .invokevirtual 141, 3), (21, .istore 6, 2), (23, .aload_n 0, 1), (24, .iload_n 1, 1), (25, .iload_n 3, 1), (26, .iload 5, 2), (28, .invokevirtual 141, 3), (31, .istore 7, 2), (33, .iload 4, 2), (35, .iload 6, 2), (37, .ldc 96, 2), (39, .if_icmp .eq 21, 3), (42, .iload 7, 2), (44, .ldc 96, 2), (46, .if_icmp .eq 14, 3), (49, .iload 6, 2), (51, .iload 7, 2), (53, .if_icmp .eq 7, 3), (56, .iconst 1, 1), (57, .goto 4, 3), (60, .iconst 0, 1), (61, .iadd, 1), (62, .istore 4, 2), (64, .iinc 5 1, 3), (67, .goto (-61), 3), (70, .iload 4, 2), (72, .ireturn, 1)]
theorem tX8_changesOf_ok : ∀ q ∈ tX8_changesOf, decode cX8_changesOf q.1 = .ok (q.2.1, q.2.2) := by decide +kernel
abbrev mX8_changes : ps_M := (RX8, yX8_changes, cX8_changes, 4, some .int, (0, 0), none)
def tX8_changes : List (Nat × Instr × Nat) := [(0, .iload_n 1, 1), (1, .invokestatic 109, 3), (4, .ifCond .ne 6, 3), (7, .ldc 112, 2), (9, .ireturn, 1), (10, .aload_n 0, 1), (11, .iload_n 1, 1), (12, .invokevirtual 137, 3), (15, .iload_n 2, 1), (16, .i2l, 1), (17, .lconst 0, 1), (18, .aload_n 0, 1), (19, .getfield 131, 3), (22, .iconst 1, 1), (23, .isub, 1), (24, .i2l, 1), (25, .invokestatic 99, 3), (28, .ifCond .eq 29, 3), (31, .iload_n 3, 1), (32, .i2l, 1), (33, .lconst 0, 1), (34, .aload_n 0, 1), (35, .getfield 131, 3), (38, .iconst 1, 1), (39, .isub, 1), (40, .i2l, 1), (41, .invokestatic 99, 3), (44, .ifCond .eq 13, 3), (47, .aload_n 0, 1), (48, .iload_n 1, 1), (49, .iload_n 2, 1), (50, .iload_n 3, 1), (51, .invokevirtual 149, 3), (54, .goto 5, 3), (57, .ldc 112, 2), (59, .ireturn, 1)]
theorem tX8_changes_ok : ∀ q ∈ tX8_changes, decode cX8_changes q.1 = .ok (q.2.1, q.2.2) := by decide +kernel
abbrev mX8_layNeeds : ps_M := (RX8, yX8_layNeeds, cX8_layNeeds, 5, none, (0, 0), none)
def tX8_layNeeds : List (Nat × Instr × Nat) := [(0, .aload_n 0, 1), (1, .iload_n 1, 1), (2, .invokevirtual 137, 3), (5, .iconst 0, 1), (6, .istore_n 2, 1), (7, .iload_n 2, 1), (8, .bipush 9, 2), (10, .if_icmp .ge 16, 3), (13, .aload_n 0, 1), (14, .getfield 32, 3), (17, .iload_n 2, 1), (18, .iconst 0, 1), (19, .iastore, 1), (20, .iinc 2 1, 3), (23, .goto (-16), 3), (26, .iconst 0, 1), (27, .istore_n 2, 1), (28, .iload_n 2, 1), (29, .bipush 81, 2), (31, .if_icmp .ge 76, 3), (34, .aload_n 0, 1), (35, .getfield 13, 3), (38, .iload_n 2, 1), (39, .bipush 9, 2), (41, .idiv, 1), (42, .iaload, 1), (43, .istore_n 3, 1), (44, .aload_n 0, 1), (45, .getfield 13, 3), (48, .iload_n 2, 1), (49, .bipush 9, 2), (51, .irem, 1), (52, .iaload, 1), (53, .istore 4, 2), (55, .aload_n 0, 1), (56, .getfield 28, 3), (59, .bipush 81, 2), (61, .iload_n 1, 1), (62, .imul, 1), (63, .iload_n 2, 1), (64, .iadd, 1), (65, .baload, 1), (66, .ifCond .eq 35, 3), (69, .iload_n 3, 1), (70, .ldc 96, 2), (72, .if_icmp .eq 29, 3), (75, .iload 4, 2), (77, .ldc 96, 2), (79, .if_icmp .eq 22, 3), (82, .iload_n 3, 1), (83, .iload 4, 2), (85, .if_icmp .eq 16, 3), (88, .aload_n 0, 1), (89, .getfield 32, 3), (92, .iload 4, 2), (94, .dup2, 1), (95, .iaload, 1), (96, .iconst 1, 1), (97, .iload_n 3, 1), (98, .ishl, 1), (99, .ior, 1), (100, .iastore, 1), (101, .iinc 2 1, 3), (104, .goto (-76), 3), (107, .iconst 0, 1), (108, .istore_n 2, 1), (109, .iload_n 2, 1), (110, .bipush 81, 2), (112, .if_icmp .ge 54, 3), (115, .aload_n 0, 1), (116, .getfield 35, 3), (119, .iload_n 2, 1), (120, .iload_n 2, 1), (121, .bipush 9, 2), (123, .idiv, 1), (124, .aload_n 0, 1), (125, .getfield 131, 3), (128, .if_icmp .ge 30, 3), (131, .iload_n 2, 1), (132, .bipush 9, 2), (134, .irem, 1), (135, .aload_n 0, 1), (136, .getfield 131, 3), (139, .if_icmp .ge 19, 3), (142, .aload_n 0, 1), (143, .iload_n 1, 1), (144, .iload_n 2, 1), (145, .bipush 9, 2), (147, .idiv, 1), (148, .iload_n 2, 1), (149, .bipush 9, 2), (151, .irem, 1), (152, .invokevirtual 149, 3), (155, .goto 4, 3), (158, .iconst 0, 1), (159, .iastore, 1), (160, .iinc 2 1, 3), (163, .goto (-54), 3), (166, .return_, 1)]
theorem tX8_layNeeds_ok : ∀ q ∈ tX8_layNeeds, decode cX8_layNeeds q.1 = .ok (q.2.1, q.2.2) := by decide +kernel
abbrev mX8_layOrders : ps_M := (RX8, yX8_layOrders, cX8_layOrders, 9, none, (0, 0), none)
def tX8_layOrders : List (Nat × Instr × Nat) := [(0, .iconst 1, 1), (1, .aload_n 0, 1), (2, .getfield 131, 3), (5, .ishl, 1), (6, .iconst 1, 1), (7, .isub, 1), (8, .istore_n 1, 1), (9, .iload_n 1, 1), (10, .istore_n 2, 1), (11, .iload_n 2, 1), (12, .ifCond .le 278, 3), (15, .iconst 0, 1), (16, .istore_n 3, 1), (17, .iload_n 3, 1), (18, .aload_n 0, 1), (19, .getfield 131, 3), (22, .if_icmp .ge 262, 3), (25, .iload_n 2, 1), (26, .iload_n 1, 1), (27, .if_icmp .ne 7, 3), (30, .iconst 0, 1), (31, .goto 5, 3), (34, .ldc 152, 2), (36, .istore 4, 2), (38, .iload_n 2, 1), (39, .iload_n 1, 1), (40, .if_icmp .ne 7, 3), (43, .iconst 1, 1), (44, .goto 4, 3), (47, .iconst 0, 1), (48, .istore 5, 2), (50, .iconst 0, 1), (51, .istore 6, 2), (53, .iload 6, 2), (55, .aload_n 0, 1), (56, .getfield 131, 3), (59, .if_icmp .ge 170, 3), (62, .iload_n 2, 1), (63, .iload_n 1, 1), (64, .if_icmp .eq 165, 3), (67, .iload_n 2, 1), (68, .iload 6, 2), (70, .ishr, 1), (71, .iconst 1, 1), (72, .iand, 1), (73, .ifCond .ne 21, 3), (76, .aload_n 0, 1), (77, .getfield 32, 3), (80, .iload 6, 2), (82, .iaload, 1), (83, .iload_n 2, 1), (84, .iconst (-1), 1), (85, .ixor, 1), (86, .iand, 1), (87, .ifCond .ne 7, 3), (90, .iconst 1, 1), (91, .goto 4, 3), (94, .iconst 0, 1), (95, .istore 7, 2), (97, .iload 7, 2), (99, .ifCond .eq 36, 3), (102, .aload_n 0, 1), (103, .getfield 35, 3), (106, .bipush 9, 2), (108, .iload_n 3, 1), (109, .imul, 1), (110, .iload 6, 2), (112, .iadd, 1), (113, .iaload, 1), (114, .aload_n 0, 1), (115, .getfield 38, 3), (118, .bipush 9, 2), (120, .iload_n 2, 1), (121, .iconst 1, 1), (122, .iload 6, 2), (124, .ishl, 1), (125, .ior, 1), (126, .imul, 1), (127, .iload 6, 2), (129, .iadd, 1), (130, .iaload, 1), (131, .iadd, 1), (132, .goto 5, 3), (135, .ldc 152, 2), (137, .istore 8, 2), (139, .iload 8, 2), (141, .iload 4, 2), (143, .if_icmp .ge 23, 3), (146, .aload_n 0, 1), (147, .getfield 41, 3), (150, .bipush 9, 2), (152, .iload_n 2, 1), (153, .iconst 1, 1), (154, .iload 6, 2), (156, .ishl, 1), (157, .ior, 1), (158, .imul, 1), (159, .iload 6, 2), (161, .iadd, 1), (162, .iaload, 1), (163, .goto 42, 3), (166, .iload 8, 2), (168, .iload 4, 2), (170, .if_icmp .ne 33, 3), (173, .iload 8, 2), (175, .ldc 152, 2), (177, .if_icmp .ge 26, 3), (180, .iload 5, 2), (182, .aload_n 0, 1), (183, .getfield 41, 3), (186, .bipush 9, 2), (188, .iload_n 2, 1), (189, .iconst 1, 1), (190, .iload 6, 2), (192, .ishl, 1), (193, .ior, 1), (194, .imul, 1), (195, .iload 6, 2), (197, .iadd, 1), (198, .iaload, 1), (199, .iadd, 1), (200, .goto 5, 3), (203, .iload 5, 2), (205, .istore 5, 2), (207, .iload 8, 2), (209, .iload 4, 2), (211, .if_icmp .ge 8, 3), (214, .iload 8, 2), (216, .goto 5, 3), (219, .iload 4, 2), (221, .istore 4, 2), (223, .iinc 6 1, 3), (226, .goto (-173), 3), (229, .aload_n 0, 1), (230, .getfield 38, 3), (233, .bipush 9, 2), (235, .iload_n 2, 1), (236, .imul, 1), (237, .iload_n 3, 1), (238, .iadd, 1), (239, .iload 4, 2), (241, .ldc 152, 2), (243, .if_icmp .ge 8, 3), (246, .iload 4, 2), (248, .goto 5, 3), (251, .ldc 152, 2), (253, .iastore, 1), (254, .aload_n 0, 1), (255, .getfield 41, 3), (258, .bipush 9, 2), (260, .iload_n 2, 1), (261, .imul, 1), (262, .iload_n 3, 1), (263, .iadd, 1), (264, .iload 4, 2), (266, .ldc 152, 2), (268, .if_icmp .ge 8, 3), (271, .iload 5, 2), (273, .goto 4, 3), (276, .iconst 0, 1), (277, .iastore, 1), (278, .iinc 3 1, 3), (281, .goto (-264), 3), (284, .iinc 2 (-1), 3), (287, .goto (-276), 3), (290, .return_, 1)]
theorem tX8_layOrders_ok : ∀ q ∈ tX8_layOrders, decode cX8_layOrders q.1 = .ok (q.2.1, q.2.2) := by decide +kernel
abbrev mX8_leastCost : ps_M := (RX8, yX8_leastCost, cX8_leastCost, 4, some .int, (0, 0), none)
def tX8_leastCost : List (Nat × Instr × Nat) := [(0, .aload_n 0, 1), (1, .getfield 131, 3), (4, .ifCond .ne 7, 3), (7, .iconst 0, 1), (8, .goto 5, 3), (11, .ldc 152, 2), (13, .istore_n 1, 1), (14, .iconst 0, 1), (15, .istore_n 2, 1), (16, .iload_n 2, 1), (17, .aload_n 0, 1), (18, .getfield 131, 3), (21, .if_icmp .ge 48, 3), (24, .aload_n 0, 1), (25, .getfield 32, 3), (28, .iload_n 2, 1), (29, .iaload, 1), (30, .ifCond .ne 19, 3), (33, .aload_n 0, 1), (34, .getfield 38, 3), (37, .bipush 9, 2), (39, .iconst 1, 1), (40, .iload_n 2, 1), (41, .ishl, 1), (42, .imul, 1), (43, .iload_n 2, 1), (44, .iadd, 1), (45, .iaload, 1), (46, .goto 5, 3), (49, .ldc 152, 2), (51, .istore_n 3, 1), (52, .iload_n 3, 1), (53, .iload_n 1, 1), (54, .if_icmp .ge 7, 3), (57, .iload_n 3, 1), (58, .goto 4, 3), (61, .iload_n 1, 1), (62, .istore_n 1, 1), (63, .iinc 2 1, 3), (66, .goto (-50), 3), (69, .iload_n 1, 1), (70, .ireturn, 1)]
theorem tX8_leastCost_ok : ∀ q ∈ tX8_leastCost, decode cX8_leastCost q.1 = .ok (q.2.1, q.2.2) := by decide +kernel
abbrev mX8_waysOf : ps_M := (RX8, yX8_waysOf, cX8_waysOf, 4, some .int, (0, 0), none)
def tX8_waysOf : List (Nat × Instr × Nat) := [(0, .aload_n 0, 1), (1, .getfield 131, 3), (4, .ifCond .ne 7, 3), (7, .iconst 1, 1), (8, .goto 4, 3), (11, .iconst 0, 1), (12, .istore_n 2, 1), (13, .iconst 0, 1), (14, .istore_n 3, 1), (15, .iload_n 3, 1), (16, .aload_n 0, 1), (17, .getfield 131, 3), (20, .if_icmp .ge 61, 3), (23, .iload_n 2, 1), (24, .aload_n 0, 1), (25, .getfield 32, 3), (28, .iload_n 3, 1), (29, .iaload, 1), (30, .ifCond .ne 42, 3), (33, .aload_n 0, 1), (34, .getfield 38, 3), (37, .bipush 9, 2), (39, .iconst 1, 1), (40, .iload_n 3, 1), (41, .ishl, 1), (42, .imul, 1), (43, .iload_n 3, 1), (44, .iadd, 1), (45, .iaload, 1), (46, .iload_n 1, 1), (47, .if_icmp .ne 25, 3), (50, .iload_n 1, 1), (51, .ldc 152, 2), (53, .if_icmp .ge 19, 3), (56, .aload_n 0, 1), (57, .getfield 41, 3), (60, .bipush 9, 2), (62, .iconst 1, 1), (63, .iload_n 3, 1), (64, .ishl, 1), (65, .imul, 1), (66, .iload_n 3, 1), (67, .iadd, 1), (68, .iaload, 1), (69, .goto 4, 3), (72, .iconst 0, 1), (73, .iadd, 1), (74, .istore_n 2, 1), (75, .iinc 3 1, 3), (78, .goto (-63), 3), (81, .iload_n 2, 1), (82, .ireturn, 1)]
theorem tX8_waysOf_ok : ∀ q ∈ tX8_waysOf, decode cX8_waysOf q.1 = .ok (q.2.1, q.2.2) := by decide +kernel
abbrev mX8_least : ps_M := (RX8, yX8_least, cX8_least, 3, some .int, (0, 0), none)
def tX8_least : List (Nat × Instr × Nat) := [(0, .iload_n 1, 1), (1, .invokestatic 109, 3), (4, .ifCond .ne 6, 3), (7, .ldc 112, 2), (9, .ireturn, 1), (10, .aload_n 0, 1), (11, .iload_n 1, 1), (12, .invokevirtual 153, 3), (15, .aload_n 0, 1), (16, .invokevirtual 156, 3), (19, .aload_n 0, 1), (20, .invokevirtual 159, 3), (23, .istore_n 2, 1), (24, .iload_n 2, 1), (25, .ldc 152, 2), (27, .if_icmp .lt 8, 3), (30, .ldc 96, 2), (32, .goto 4, 3), (35, .iload_n 2, 1), (36, .ireturn, 1)]
theorem tX8_least_ok : ∀ q ∈ tX8_least, decode cX8_least q.1 = .ok (q.2.1, q.2.2) := by decide +kernel
abbrev mX8_orders : ps_M := (RX8, yX8_orders, cX8_orders, 2, some .int, (0, 0), none)
def tX8_orders : List (Nat × Instr × Nat) := [(0, .iload_n 1, 1), (1, .invokestatic 109, 3), (4, .ifCond .ne 6, 3), (7, .ldc 112, 2), (9, .ireturn, 1), (10, .aload_n 0, 1), (11, .iload_n 1, 1), (12, .invokevirtual 153, 3), (15, .aload_n 0, 1), (16, .invokevirtual 156, 3), (19, .aload_n 0, 1), (20, .aload_n 0, 1), (21, .invokevirtual 159, 3), (24, .invokevirtual 163, 3), (27, .ireturn, 1)]
theorem tX8_orders_ok : ∀ q ∈ tX8_orders, decode cX8_orders q.1 = .ok (q.2.1, q.2.2) := by decide +kernel
abbrev mX8_first : ps_M := (RX8, yX8_first, cX8_first, 8, some .int, (0, 0), none)
def tX8_first : List (Nat × Instr × Nat) := [(0, .iload_n 1, 1), (1, .invokestatic 109, 3), (4, .ifCond .ne 6, 3), (7, .ldc 112, 2), (9, .ireturn, 1), (10, .aload_n 0, 1), (11, .iload_n 1, 1), (12, .invokevirtual 153, 3), (15, .aload_n 0, 1), (16, .invokevirtual 156, 3), (19, .aload_n 0, 1), (20, .invokevirtual 159, 3), (23, .istore_n 3, 1), (24, .iload_n 3, 1), (25, .ldc 152, 2), (27, .if_icmp .ge 19, 3), (30, .iload_n 2, 1), (31, .i2l, 1), (32, .lconst 0, 1), (33, .aload_n 0, 1), (34, .getfield 131, 3), (37, .iconst 1, 1), (38, .isub, 1), (39, .i2l, 1), (40, .invokestatic 99, 3), (43, .ifCond .ne 6, 3), (46, .ldc 96, 2), (48, .ireturn, 1), (49, .iconst 0, 1), (50, .istore 4, 2), (52, .aload_n 0, 1), (53, .getfield 32, 3), (56, .iload 4, 2), (58, .iaload, 1), (59, .ifCond .ne 22, 3), (62, .aload_n 0, 1), (63, .getfield 38, 3), (66, .bipush 9, 2), (68, .iconst 1, 1), (69, .iload 4, 2), (71, .ishl, 1), (72, .imul, 1), (73, .iload 4, 2), (75, .iadd, 1), (76, .iaload, 1), (77, .iload_n 3, 1), (78, .if_icmp .eq 9, 3), (81, .iinc 4 1, 3), (84, .goto (-32), 3), (87, .iconst 1, 1), (88, .iload 4, 2), (90, .ishl, 1), (91, .istore 5, 2), (93, .iconst 0, 1), (94, .istore 6, 2), (96, .iload 6, 2), (98, .iload_n 2, 1), (99, .if_icmp .ge 44, 3), (102, .iconst 0, 1), (103, .istore 7, 2), (105, .aload_n 0, 1), (106, .iload 5, 2), (108, .iload 4, 2), (110, .iload 7, 2), (112, .invokevirtual 167, 3), (115, .ifCond .ne 9, 3), (118, .iinc 7 1, 3), (121, .goto (-16), 3), (124, .iload 7, 2), (126, .istore 4, 2), (128, .iload 5, 2), (130, .iconst 1, 1), (131, .iload 4, 2), (133, .ishl, 1), (134, .ior, 1), (135, .istore 5, 2), (137, .iinc 6 1, 3), (140, .goto (-44), 3), (143, .iload 4, 2), (145, .ireturn, 1)]
theorem tX8_first_ok : ∀ q ∈ tX8_first, decode cX8_first q.1 = .ok (q.2.1, q.2.2) := by decide +kernel
abbrev mX8_isNext : ps_M := (RX8, yX8_isNext, cX8_isNext, 5, some .boolean, (0, 0), none)
def tX8_isNext : List (Nat × Instr × Nat) := [(0, .iload_n 1, 1), (1, .iload_n 3, 1), (2, .ishr, 1), (3, .iconst 1, 1), (4, .iand, 1), (5, .ifCond .ne 20, 3), (8, .aload_n 0, 1), (9, .getfield 32, 3), (12, .iload_n 3, 1), (13, .iaload, 1), (14, .iload_n 1, 1), (15, .iconst (-1), 1), (16, .ixor, 1), (17, .iand, 1), (18, .ifCond .ne 7, 3), (21, .iconst 1, 1), (22, .goto 4, 3), (25, .iconst 0, 1), (26, .istore 4, 2), (28, .iload 4, 2), (30, .ifCond .eq 48, 3), (33, .aload_n 0, 1), (34, .getfield 35, 3), (37, .bipush 9, 2), (39, .iload_n 2, 1), (40, .imul, 1), (41, .iload_n 3, 1), (42, .iadd, 1), (43, .iaload, 1), (44, .aload_n 0, 1), (45, .getfield 38, 3), (48, .bipush 9, 2), (50, .iload_n 1, 1), (51, .iconst 1, 1), (52, .iload_n 3, 1), (53, .ishl, 1), (54, .ior, 1), (55, .imul, 1), (56, .iload_n 3, 1), (57, .iadd, 1), (58, .iaload, 1), (59, .iadd, 1), (60, .aload_n 0, 1), (61, .getfield 38, 3), (64, .bipush 9, 2), (66, .iload_n 1, 1), (67, .imul, 1), (68, .iload_n 2, 1), (69, .iadd, 1), (70, .iaload, 1), (71, .if_icmp .ne 7, 3), (74, .iconst 1, 1), (75, .goto 4, 3), (78, .iconst 0, 1), (79, .ireturn, 1)]
theorem tX8_isNext_ok : ∀ q ∈ tX8_isNext, decode cX8_isNext q.1 = .ok (q.2.1, q.2.2) := by decide +kernel
abbrev mX8_before : ps_M := (RX8, yX8_before, cX8_before, 5, some .int, (0, 0), none)
def tX8_before : List (Nat × Instr × Nat) := [(0, .iload_n 1, 1), (1, .invokestatic 109, 3), (4, .ifCond .ne 6, 3), (7, .ldc 112, 2), (9, .ireturn, 1), (10, .aload_n 0, 1), (11, .iload_n 1, 1), (12, .invokevirtual 153, 3), (15, .iload_n 2, 1), (16, .i2l, 1), (17, .lconst 0, 1), (18, .aload_n 0, 1), (19, .getfield 131, 3), (22, .iconst 1, 1), (23, .isub, 1), (24, .i2l, 1), (25, .invokestatic 99, 3), (28, .ifCond .eq 19, 3), (31, .iload_n 3, 1), (32, .i2l, 1), (33, .lconst 0, 1), (34, .aload_n 0, 1), (35, .getfield 131, 3), (38, .iconst 1, 1), (39, .isub, 1), (40, .i2l, 1), (41, .invokestatic 99, 3), (44, .ifCond .ne 6, 3), (47, .ldc 112, 2), (49, .ireturn, 1), (50, .iload_n 2, 1), (51, .iload_n 3, 1), (52, .if_icmp .ne 6, 3), (55, .ldc 148, 2), (57, .ireturn, 1), (58, .aload_n 0, 1), (59, .invokevirtual 156, 3), (62, .aload_n 0, 1), (63, .invokevirtual 159, 3), (66, .istore 4, 2), (68, .aload_n 0, 1), (69, .getfield 32, 3), (72, .iload_n 3, 1), (73, .dup2, 1), (74, .iaload, 1), (75, .iconst 1, 1), (76, .iload_n 2, 1), (77, .ishl, 1), (78, .ior, 1), (79, .iastore, 1), (80, .aload_n 0, 1), (81, .invokevirtual 156, 3), (84, .aload_n 0, 1), (85, .invokevirtual 159, 3), (88, .iload 4, 2), (90, .if_icmp .ne 12, 3), (93, .aload_n 0, 1), (94, .iload 4, 2), (96, .invokevirtual 163, 3), (99, .goto 4, 3), (102, .iconst 0, 1), (103, .ireturn, 1)]
theorem tX8_before_ok : ∀ q ∈ tX8_before, decode cX8_before q.1 = .ok (q.2.1, q.2.2) := by decide +kernel
abbrev mX8_piece : ps_M := (RX8, yX8_piece, cX8_piece, 5, some .int, (0, 0), none)
def tX8_piece : List (Nat × Instr × Nat) := [(0, .iload_n 1, 1), (1, .i2l, 1), (2, .lconst 0, 1), (3, .ldc2_w 170, 3), (6, .invokestatic 99, 3), (9, .ifCond .eq 10, 3), (12, .iload_n 2, 1), (13, .invokestatic 109, 3), (16, .ifCond .ne 6, 3), (19, .ldc 112, 2), (21, .ireturn, 1), (22, .iload_n 3, 1), (23, .ldc 96, 2), (25, .if_icmp .eq 16, 3), (28, .iload_n 3, 1), (29, .i2l, 1), (30, .lconst 0, 1), (31, .lconst 1, 1), (32, .invokestatic 99, 3), (35, .ifCond .ne 6, 3), (38, .ldc 115, 2), (40, .ireturn, 1), (41, .aload_n 0, 1), (42, .getfield 44, 3), (45, .bipush 6, 2), (47, .iload_n 1, 1), (48, .imul, 1), (49, .iload_n 2, 1), (50, .iadd, 1), (51, .iaload, 1), (52, .istore 4, 2), (54, .aload_n 0, 1), (55, .getfield 44, 3), (58, .bipush 6, 2), (60, .iload_n 1, 1), (61, .imul, 1), (62, .iload_n 2, 1), (63, .iadd, 1), (64, .iload_n 3, 1), (65, .iastore, 1), (66, .iload 4, 2), (68, .ireturn, 1)]
theorem tX8_piece_ok : ∀ q ∈ tX8_piece, decode cX8_piece q.1 = .ok (q.2.1, q.2.2) := by decide +kernel
abbrev mX8_shares : ps_M := (RX8, yX8_shares, cX8_shares, 5, some .boolean, (0, 0), none)
def tX8_shares : List (Nat × Instr × Nat) := [(0, .iconst 0, 1), (1, .istore_n 3, 1), (2, .iconst 0, 1), (3, .istore 4, 2), (5, .iload 4, 2), (7, .bipush 16, 2), (9, .if_icmp .ge 53, 3), (12, .iload_n 3, 1), (13, .ifCond .ne 37, 3), (16, .aload_n 0, 1), (17, .getfield 44, 3), (20, .bipush 6, 2), (22, .iload 4, 2), (24, .imul, 1), (25, .iload_n 1, 1), (26, .iadd, 1), (27, .iaload, 1), (28, .ldc 96, 2), (30, .if_icmp .eq 24, 3), (33, .aload_n 0, 1), (34, .getfield 44, 3), (37, .bipush 6, 2), (39, .iload 4, 2), (41, .imul, 1), (42, .iload_n 2, 1), (43, .iadd, 1), (44, .iaload, 1), (45, .ldc 96, 2), (47, .if_icmp .eq 7, 3), (50, .iconst 1, 1), (51, .goto 4, 3), (54, .iconst 0, 1), (55, .istore_n 3, 1), (56, .iinc 4 1, 3), (59, .goto (-54), 3), (62, .iload_n 3, 1), (63, .ireturn, 1)]
theorem tX8_shares_ok : ∀ q ∈ tX8_shares, decode cX8_shares q.1 = .ok (q.2.1, q.2.2) := by decide +kernel
abbrev mX8_share : ps_M := (RX8, yX8_share, cX8_share, 3, some .int, (0, 0), none)
def tX8_share : List (Nat × Instr × Nat) := [(0, .iload_n 1, 1), (1, .invokestatic 109, 3), (4, .ifCond .eq 10, 3), (7, .iload_n 2, 1), (8, .invokestatic 109, 3), (11, .ifCond .ne 8, 3), (14, .ldc 112, 2), (16, .goto 17, 3), (19, .aload_n 0, 1), (20, .iload_n 1, 1), (21, .iload_n 2, 1), (22, .invokevirtual 172, 3), (25, .ifCond .eq 7, 3), (28, .iconst 1, 1), (29, .goto 4, 3), (32, .iconst 0, 1), (33, .ireturn, 1)]
theorem tX8_share_ok : ∀ q ∈ tX8_share, decode cX8_share q.1 = .ok (q.2.1, q.2.2) := by decide +kernel
abbrev mX8_layMusts : ps_M := (RX8, yX8_layMusts, cX8_layMusts, 3, none, (0, 0), none)
def tX8_layMusts : List (Nat × Instr × Nat) := [(0, .iconst 0, 1), (1, .istore_n 1, 1), (2, .iload_n 1, 1), (3, .bipush 6, 2), (5, .if_icmp .ge 76, 3), (8, .aload_n 0, 1), (9, .getfield 51, 3), (12, .iload_n 1, 1), (13, .iconst 0, 1), (14, .iastore, 1), (15, .iconst 0, 1), (16, .istore_n 2, 1), (17, .iload_n 2, 1), (18, .bipush 96, 2), (20, .if_icmp .ge 55, 3), (23, .aload_n 0, 1), (24, .getfield 51, 3), (27, .iload_n 1, 1), (28, .dup2, 1), (29, .iaload, 1), (30, .aload_n 0, 1), (31, .getfield 44, 3), (34, .iload_n 2, 1), (35, .bipush 6, 2), (37, .idiv, 1), (38, .bipush 6, 2), (40, .imul, 1), (41, .iload_n 1, 1), (42, .iadd, 1), (43, .iaload, 1), (44, .ifCond .ne 22, 3), (47, .aload_n 0, 1), (48, .getfield 44, 3), (51, .iload_n 2, 1), (52, .iaload, 1), (53, .iconst 1, 1), (54, .if_icmp .ne 12, 3), (57, .iconst 1, 1), (58, .iload_n 2, 1), (59, .bipush 6, 2), (61, .irem, 1), (62, .ishl, 1), (63, .goto 4, 3), (66, .iconst 0, 1), (67, .ior, 1), (68, .iastore, 1), (69, .iinc 2 1, 3), (72, .goto (-55), 3), (75, .iinc 1 1, 3), (78, .goto (-76), 3), (81, .iconst 0, 1), (82, .istore_n 1, 1), (83, .iload_n 1, 1), (84, .bipush 6, 2), (86, .if_icmp .ge 68, 3), (89, .iconst 0, 1), (90, .istore_n 2, 1), (91, .iload_n 2, 1), (92, .bipush 36, 2), (94, .if_icmp .ge 54, 3), (97, .aload_n 0, 1), (98, .getfield 51, 3), (101, .iload_n 2, 1), (102, .bipush 6, 2), (104, .idiv, 1), (105, .dup2, 1), (106, .iaload, 1), (107, .aload_n 0, 1), (108, .getfield 51, 3), (111, .iload_n 2, 1), (112, .bipush 6, 2), (114, .idiv, 1), (115, .iaload, 1), (116, .iload_n 2, 1), (117, .bipush 6, 2), (119, .irem, 1), (120, .ishr, 1), (121, .iconst 1, 1), (122, .iand, 1), (123, .iconst 1, 1), (124, .if_icmp .ne 15, 3), (127, .aload_n 0, 1), (128, .getfield 51, 3), (131, .iload_n 2, 1), (132, .bipush 6, 2), (134, .irem, 1), (135, .iaload, 1), (136, .goto 4, 3), (139, .iconst 0, 1), (140, .ior, 1), (141, .iastore, 1), (142, .iinc 2 1, 3), (145, .goto (-54), 3), (148, .iinc 1 1, 3), (151, .goto (-68), 3), (154, .return_, 1)]
theorem tX8_layMusts_ok : ∀ q ∈ tX8_layMusts, decode cX8_layMusts q.1 = .ok (q.2.1, q.2.2) := by decide +kernel
abbrev mX8_must : ps_M := (RX8, yX8_must, cX8_must, 3, some .int, (0, 0), none)
def tX8_must : List (Nat × Instr × Nat) := [(0, .iload_n 1, 1), (1, .invokestatic 109, 3), (4, .ifCond .eq 10, 3), (7, .iload_n 2, 1), (8, .invokestatic 109, 3), (11, .ifCond .ne 6, 3), (14, .ldc 112, 2), (16, .ireturn, 1), (17, .aload_n 0, 1), (18, .invokevirtual 175, 3), (21, .aload_n 0, 1), (22, .getfield 51, 3), (25, .iload_n 1, 1), (26, .iaload, 1), (27, .iload_n 2, 1), (28, .ishr, 1), (29, .iconst 1, 1), (30, .iand, 1), (31, .ireturn, 1)]
theorem tX8_must_ok : ∀ q ∈ tX8_must, decode cX8_must q.1 = .ok (q.2.1, q.2.2) := by decide +kernel
abbrev mX8_ring : ps_M := (RX8, yX8_ring, cX8_ring, 3, some .int, (0, 0), none)
def tX8_ring : List (Nat × Instr × Nat) := [(0, .aload_n 0, 1), (1, .invokevirtual 175, 3), (4, .iconst 0, 1), (5, .istore_n 1, 1), (6, .iconst 0, 1), (7, .istore_n 2, 1), (8, .iload_n 2, 1), (9, .bipush 6, 2), (11, .if_icmp .ge 22, 3), (14, .iload_n 1, 1), (15, .aload_n 0, 1), (16, .getfield 51, 3), (19, .iload_n 2, 1), (20, .iaload, 1), (21, .iload_n 2, 1), (22, .ishr, 1), (23, .iconst 1, 1), (24, .iand, 1), (25, .iadd, 1), (26, .istore_n 1, 1), (27, .iinc 2 1, 3), (30, .goto (-22), 3), (33, .iload_n 1, 1), (34, .ireturn, 1)]
theorem tX8_ring_ok : ∀ q ∈ tX8_ring, decode cX8_ring q.1 = .ok (q.2.1, q.2.2) := by decide +kernel
abbrev mX8_presses : ps_M := (RX8, yX8_presses, cX8_presses, 3, some .int, (0, 0), none)
def tX8_presses : List (Nat × Instr × Nat) := [(0, .iload_n 1, 1), (1, .i2l, 1), (2, .lconst 1, 1), (3, .ldc2_w 178, 3), (6, .invokestatic 99, 3), (9, .ifCond .ne 6, 3), (12, .ldc 115, 2), (14, .ireturn, 1), (15, .aload_n 0, 1), (16, .getfield 47, 3), (19, .istore_n 2, 1), (20, .aload_n 0, 1), (21, .iload_n 1, 1), (22, .putfield 47, 3), (25, .iload_n 2, 1), (26, .ireturn, 1)]
theorem tX8_presses_ok : ∀ q ∈ tX8_presses, decode cX8_presses q.1 = .ok (q.2.1, q.2.2) := by decide +kernel
abbrev mX8_isPlan : ps_M := (RX8, yX8_isPlan, cX8_isPlan, 6, some .boolean, (0, 0), none)
def tX8_isPlan : List (Nat × Instr × Nat) := [(0, .iconst 0, 1), (1, .istore_n 1, 1), (2, .iload_n 1, 1), (3, .bipush 6, 2), (5, .if_icmp .ge 159, 3), (8, .iconst 0, 1), (9, .istore_n 2, 1), (10, .iconst 0, 1), (11, .istore_n 3, 1), (12, .iload_n 3, 1), (13, .bipush 6, 2), (15, .if_icmp .ge 133, 3), (18, .aload_n 0, 1), (19, .getfield 54, 3), (22, .iload_n 1, 1), (23, .iaload, 1), (24, .ldc 96, 2), (26, .if_icmp .eq 18, 3), (29, .aload_n 0, 1), (30, .getfield 54, 3), (33, .iload_n 3, 1), (34, .iaload, 1), (35, .ldc 96, 2), (37, .if_icmp .eq 7, 3), (40, .iconst 1, 1), (41, .goto 4, 3), (44, .iconst 0, 1), (45, .istore 4, 2), (47, .iload 4, 2), (49, .ifCond .eq 22, 3), (52, .aload_n 0, 1), (53, .getfield 54, 3), (56, .iload_n 1, 1), (57, .iaload, 1), (58, .aload_n 0, 1), (59, .getfield 54, 3), (62, .iload_n 3, 1), (63, .iaload, 1), (64, .if_icmp .ne 7, 3), (67, .iconst 1, 1), (68, .goto 4, 3), (71, .iconst 0, 1), (72, .istore 5, 2), (74, .iload_n 2, 1), (75, .iload 5, 2), (77, .ifCond .eq 7, 3), (80, .iconst 1, 1), (81, .goto 4, 3), (84, .iconst 0, 1), (85, .iadd, 1), (86, .istore_n 2, 1), (87, .iload_n 1, 1), (88, .iload_n 3, 1), (89, .if_icmp .eq 17, 3), (92, .iload 5, 2), (94, .ifCond .eq 12, 3), (97, .aload_n 0, 1), (98, .iload_n 1, 1), (99, .iload_n 3, 1), (100, .invokevirtual 172, 3), (103, .ifCond .ne 37, 3), (106, .iload 4, 2), (108, .ifCond .eq 34, 3), (111, .aload_n 0, 1), (112, .getfield 51, 3), (115, .iload_n 1, 1), (116, .iaload, 1), (117, .iload_n 3, 1), (118, .ishr, 1), (119, .iconst 1, 1), (120, .iand, 1), (121, .iconst 1, 1), (122, .if_icmp .ne 20, 3), (125, .aload_n 0, 1), (126, .getfield 54, 3), (129, .iload_n 1, 1), (130, .iaload, 1), (131, .aload_n 0, 1), (132, .getfield 54, 3), (135, .iload_n 3, 1), (136, .iaload, 1), (137, .if_icmp .lt 5, 3), (140, .iconst 0, 1), (141, .ireturn, 1), (142, .iinc 3 1, 3), (145, .goto (-133), 3), (148, .iload_n 2, 1), (149, .aload_n 0, 1), (150, .getfield 47, 3), (153, .if_icmp .le 5, 3), (156, .iconst 0, 1), (157, .ireturn, 1), (158, .iinc 1 1, 3), (161, .goto (-159), 3), (164, .iconst 1, 1), (165, .ireturn, 1)]
theorem tX8_isPlan_ok : ∀ q ∈ tX8_isPlan, decode cX8_isPlan q.1 = .ok (q.2.1, q.2.2) := by decide +kernel
abbrev mX8_layPlans : ps_M := (RX8, yX8_layPlans, cX8_layPlans, 8, some .int, (0, 0), none)
def tX8_layPlans : List (Nat × Instr × Nat) := [(0, .aload_n 0, 1), (1, .invokevirtual 175, 3), (4, .iconst 0, 1), (5, .istore 4, 2), (7, .iconst 0, 1), (8, .istore 5, 2), (10, .iload 5, 2), (12, .bipush 6, 2), (14, .if_icmp .ge 42, 3), (17, .aload_n 0, 1), (18, .getfield 54, 3), (21, .iload 5, 2), (23, .aload_n 0, 1), (24, .iload 5, 2), (26, .iload 5, 2), (28, .invokevirtual 172, 3), (31, .ifCond .eq 7, 3), (34, .iconst 0, 1), (35, .goto 5, 3), (38, .ldc 96, 2), (40, .iastore, 1), (41, .aload_n 0, 1), (42, .getfield 57, 3), (45, .iload 5, 2), (47, .ldc 96, 2), (49, .iastore, 1), (50, .iinc 5 1, 3), (53, .goto (-43), 3), (56, .iconst 0, 1), (57, .istore 5, 2), (59, .iconst 1, 1), (60, .istore 6, 2), (62, .iload 6, 2), (64, .ifCond .eq 174, 3), (67, .aload_n 0, 1), (68, .invokevirtual 180, 3), (71, .ifCond .eq 72, 3), (74, .iconst 0, 1), (75, .istore 7, 2), (77, .iload 7, 2), (79, .bipush 6, 2), (81, .if_icmp .ge 28, 3), (84, .iload 4, 2), (86, .ifCond .ne 23, 3), (89, .aload_n 0, 1), (90, .getfield 57, 3), (93, .iload 7, 2), (95, .aload_n 0, 1), (96, .getfield 54, 3), (99, .iload 7, 2), (101, .iaload, 1), (102, .iastore, 1), (103, .iinc 7 1, 3), (106, .goto (-29), 3), (109, .iconst 1, 1), (110, .istore 4, 2), (112, .iload 5, 2), (114, .iload_n 2, 1), (115, .ldc 96, 2), (117, .if_icmp .eq 18, 3), (120, .aload_n 0, 1), (121, .getfield 54, 3), (124, .iload_n 2, 1), (125, .iaload, 1), (126, .aload_n 0, 1), (127, .getfield 54, 3), (130, .iload_n 3, 1), (131, .iaload, 1), (132, .if_icmp .ne 7, 3), (135, .iconst 1, 1), (136, .goto 4, 3), (139, .iconst 0, 1), (140, .iadd, 1), (141, .istore 5, 2), (143, .iconst 5, 1), (144, .istore 7, 2), (146, .iload 7, 2), (148, .ifCond .lt 59, 3), (151, .aload_n 0, 1), (152, .getfield 54, 3), (155, .iload 7, 2), (157, .iaload, 1), (158, .ldc 96, 2), (160, .if_icmp .eq 16, 3), (163, .aload_n 0, 1), (164, .getfield 54, 3), (167, .iload 7, 2), (169, .iaload, 1), (170, .iload_n 1, 1), (171, .iconst 1, 1), (172, .isub, 1), (173, .if_icmp .ne 34, 3), (176, .aload_n 0, 1), (177, .getfield 54, 3), (180, .iload 7, 2), (182, .aload_n 0, 1), (183, .getfield 54, 3), (186, .iload 7, 2), (188, .iaload, 1), (189, .ldc 96, 2), (191, .if_icmp .ne 8, 3), (194, .ldc 96, 2), (196, .goto 4, 3), (199, .iconst 0, 1), (200, .iastore, 1), (201, .iinc 7 (-1), 3), (204, .goto (-58), 3), (207, .iload 7, 2), (209, .ifCond .lt 7, 3), (212, .iconst 1, 1), (213, .goto 4, 3), (216, .iconst 0, 1), (217, .istore 6, 2), (219, .iload 6, 2), (221, .ifCond .eq 14, 3), (224, .aload_n 0, 1), (225, .getfield 54, 3), (228, .iload 7, 2), (230, .dup2, 1), (231, .iaload, 1), (232, .iconst 1, 1), (233, .iadd, 1), (234, .iastore, 1), (235, .goto (-173), 3), (238, .iload 5, 2), (240, .ireturn, 1)]
theorem tX8_layPlans_ok : ∀ q ∈ tX8_layPlans, decode cX8_layPlans q.1 = .ok (q.2.1, q.2.2) := by decide +kernel
abbrev mX8_plans : ps_M := (RX8, yX8_plans, cX8_plans, 2, some .int, (0, 0), none)
def tX8_plans : List (Nat × Instr × Nat) := [(0, .iload_n 1, 1), (1, .i2l, 1), (2, .lconst 1, 1), (3, .ldc2_w 178, 3), (6, .invokestatic 99, 3), (9, .ifCond .eq 15, 3), (12, .aload_n 0, 1), (13, .iload_n 1, 1), (14, .ldc 96, 2), (16, .ldc 96, 2), (18, .invokevirtual 184, 3), (21, .goto 5, 3), (24, .ldc 115, 2), (26, .ireturn, 1)]
theorem tX8_plans_ok : ∀ q ∈ tX8_plans, decode cX8_plans q.1 = .ok (q.2.1, q.2.2) := by decide +kernel
abbrev mX8_day : ps_M := (RX8, yX8_day, cX8_day, 4, some .int, (0, 0), none)
def tX8_day : List (Nat × Instr × Nat) := [(0, .iload_n 2, 1), (1, .invokestatic 109, 3), (4, .ifCond .ne 6, 3), (7, .ldc 112, 2), (9, .ireturn, 1), (10, .iload_n 1, 1), (11, .i2l, 1), (12, .lconst 1, 1), (13, .ldc2_w 178, 3), (16, .invokestatic 99, 3), (19, .ifCond .ne 6, 3), (22, .ldc 115, 2), (24, .ireturn, 1), (25, .aload_n 0, 1), (26, .iload_n 1, 1), (27, .ldc 96, 2), (29, .ldc 96, 2), (31, .invokevirtual 184, 3), (34, .istore_n 3, 1), (35, .aload_n 0, 1), (36, .getfield 57, 3), (39, .iload_n 2, 1), (40, .iaload, 1), (41, .ireturn, 1)]
theorem tX8_day_ok : ∀ q ∈ tX8_day, decode cX8_day q.1 = .ok (q.2.1, q.2.2) := by decide +kernel
abbrev mX8_beside : ps_M := (RX8, yX8_beside, cX8_beside, 4, some .int, (0, 0), none)
def tX8_beside : List (Nat × Instr × Nat) := [(0, .iload_n 2, 1), (1, .invokestatic 109, 3), (4, .ifCond .eq 10, 3), (7, .iload_n 3, 1), (8, .invokestatic 109, 3), (11, .ifCond .ne 6, 3), (14, .ldc 112, 2), (16, .ireturn, 1), (17, .iload_n 1, 1), (18, .i2l, 1), (19, .lconst 1, 1), (20, .ldc2_w 178, 3), (23, .invokestatic 99, 3), (26, .ifCond .ne 6, 3), (29, .ldc 115, 2), (31, .ireturn, 1), (32, .aload_n 0, 1), (33, .iload_n 2, 1), (34, .iload_n 2, 1), (35, .invokevirtual 172, 3), (38, .ifCond .eq 22, 3), (41, .aload_n 0, 1), (42, .iload_n 3, 1), (43, .iload_n 3, 1), (44, .invokevirtual 172, 3), (47, .ifCond .eq 13, 3), (50, .aload_n 0, 1), (51, .iload_n 1, 1), (52, .iload_n 2, 1), (53, .iload_n 3, 1), (54, .invokevirtual 184, 3), (57, .goto 5, 3), (60, .ldc 148, 2), (62, .ireturn, 1)]
theorem tX8_beside_ok : ∀ q ∈ tX8_beside, decode cX8_beside q.1 = .ok (q.2.1, q.2.2) := by decide +kernel
abbrev mX8_fewest : ps_M := (RX8, yX8_fewest, cX8_fewest, 2, some .int, (0, 0), none)
def tX8_fewest : List (Nat × Instr × Nat) := [(0, .iconst 1, 1), (1, .istore_n 1, 1), (2, .iload_n 1, 1), (3, .bipush 7, 2), (5, .if_icmp .ge 23, 3), (8, .aload_n 0, 1), (9, .iload_n 1, 1), (10, .ldc 96, 2), (12, .ldc 96, 2), (14, .invokevirtual 184, 3), (17, .ifCond .le 5, 3), (20, .iload_n 1, 1), (21, .ireturn, 1), (22, .iinc 1 1, 3), (25, .goto (-23), 3), (28, .ldc 96, 2), (30, .ireturn, 1)]
theorem tX8_fewest_ok : ∀ q ∈ tX8_fewest, decode cX8_fewest q.1 = .ok (q.2.1, q.2.2) := by decide +kernel
abbrev mX8_sheet : ps_M := (RX8, yX8_sheet, cX8_sheet, 3, some .int, (0, 0), none)
def tX8_sheet : List (Nat × Instr × Nat) := [(0, .iload_n 1, 1), (1, .invokestatic 109, 3), (4, .ifCond .ne 6, 3), (7, .ldc 112, 2), (9, .ireturn, 1), (10, .iload_n 2, 1), (11, .i2l, 1), (12, .lconst 0, 1), (13, .ldc2_w 113, 3), (16, .invokestatic 99, 3), (19, .ifCond .ne 6, 3), (22, .ldc 115, 2), (24, .ireturn, 1), (25, .aload_n 0, 1), (26, .getfield 60, 3), (29, .iload_n 1, 1), (30, .iaload, 1), (31, .bipush 12, 2), (33, .if_icmp .ne 6, 3), (36, .ldc 148, 2), (38, .ireturn, 1), (39, .aload_n 0, 1), (40, .getfield 63, 3), (43, .bipush 12, 2), (45, .iload_n 1, 1), (46, .imul, 1), (47, .aload_n 0, 1), (48, .getfield 60, 3), (51, .iload_n 1, 1), (52, .iaload, 1), (53, .iadd, 1), (54, .iload_n 2, 1), (55, .iastore, 1), (56, .aload_n 0, 1), (57, .getfield 60, 3), (60, .iload_n 1, 1), (61, .dup2, 1), (62, .iaload, 1), (63, .iconst 1, 1), (64, .iadd, 1), (65, .iastore, 1), (66, .aload_n 0, 1), (67, .getfield 60, 3), (70, .iload_n 1, 1), (71, .iaload, 1), (72, .ireturn, 1)]
theorem tX8_sheet_ok : ∀ q ∈ tX8_sheet, decode cX8_sheet q.1 = .ok (q.2.1, q.2.2) := by decide +kernel
abbrev mX8_size : ps_M := (RX8, yX8_size, cX8_size, 3, some .int, (0, 0), none)
def tX8_size : List (Nat × Instr × Nat) := [(0, .iload_n 1, 1), (1, .i2l, 1), (2, .lconst 1, 1), (3, .ldc2_w 187, 3), (6, .invokestatic 99, 3), (9, .ifCond .ne 6, 3), (12, .ldc 115, 2), (14, .ireturn, 1), (15, .aload_n 0, 1), (16, .getfield 69, 3), (19, .istore_n 2, 1), (20, .aload_n 0, 1), (21, .iload_n 1, 1), (22, .putfield 69, 3), (25, .iload_n 2, 1), (26, .ireturn, 1)]
theorem tX8_size_ok : ∀ q ∈ tX8_size, decode cX8_size q.1 = .ok (q.2.1, q.2.2) := by decide +kernel
abbrev mX8_seen : ps_M := (RX8, yX8_seen, cX8_seen, 5, some .int, (0, 0), none)
def tX8_seen : List (Nat × Instr × Nat) := [(0, .iload_n 1, 1), (1, .invokestatic 109, 3), (4, .ifCond .eq 15, 3), (7, .iload_n 2, 1), (8, .i2l, 1), (9, .lconst 0, 1), (10, .ldc2_w 189, 3), (13, .invokestatic 99, 3), (16, .ifCond .ne 6, 3), (19, .ldc 112, 2), (21, .ireturn, 1), (22, .iload_n 3, 1), (23, .ldc 96, 2), (25, .if_icmp .eq 18, 3), (28, .iload_n 3, 1), (29, .i2l, 1), (30, .lconst 0, 1), (31, .ldc2_w 113, 3), (34, .invokestatic 99, 3), (37, .ifCond .ne 6, 3), (40, .ldc 115, 2), (42, .ireturn, 1), (43, .aload_n 0, 1), (44, .getfield 66, 3), (47, .bipush 12, 2), (49, .iload_n 1, 1), (50, .imul, 1), (51, .iload_n 2, 1), (52, .iadd, 1), (53, .iaload, 1), (54, .istore 4, 2), (56, .aload_n 0, 1), (57, .getfield 66, 3), (60, .bipush 12, 2), (62, .iload_n 1, 1), (63, .imul, 1), (64, .iload_n 2, 1), (65, .iadd, 1), (66, .iload_n 3, 1), (67, .iastore, 1), (68, .iload 4, 2), (70, .ireturn, 1)]
theorem tX8_seen_ok : ∀ q ∈ tX8_seen, decode cX8_seen q.1 = .ok (q.2.1, q.2.2) := by decide +kernel
abbrev mX8_heaps : ps_M := (RX8, yX8_heaps, cX8_heaps, 2, some .int, (0, 0), none)
def tX8_heaps : List (Nat × Instr × Nat) := [(0, .aload_n 0, 1), (1, .getfield 60, 3), (4, .iload_n 1, 1), (5, .iaload, 1), (6, .aload_n 0, 1), (7, .getfield 69, 3), (10, .iadd, 1), (11, .iconst 1, 1), (12, .isub, 1), (13, .aload_n 0, 1), (14, .getfield 69, 3), (17, .idiv, 1), (18, .ireturn, 1)]
theorem tX8_heaps_ok : ∀ q ∈ tX8_heaps, decode cX8_heaps q.1 = .ok (q.2.1, q.2.2) := by decide +kernel
abbrev mX8_heapEnd : ps_M := (RX8, yX8_heapEnd, cX8_heapEnd, 4, some .int, (0, 0), none)
def tX8_heapEnd : List (Nat × Instr × Nat) := [(0, .iload_n 2, 1), (1, .aload_n 0, 1), (2, .getfield 69, 3), (5, .imul, 1), (6, .aload_n 0, 1), (7, .getfield 69, 3), (10, .iadd, 1), (11, .istore_n 3, 1), (12, .iload_n 3, 1), (13, .aload_n 0, 1), (14, .getfield 60, 3), (17, .iload_n 1, 1), (18, .iaload, 1), (19, .if_icmp .ge 7, 3), (22, .iload_n 3, 1), (23, .goto 9, 3), (26, .aload_n 0, 1), (27, .getfield 60, 3), (30, .iload_n 1, 1), (31, .iaload, 1), (32, .ireturn, 1)]
theorem tX8_heapEnd_ok : ∀ q ∈ tX8_heapEnd, decode cX8_heapEnd q.1 = .ok (q.2.1, q.2.2) := by decide +kernel
abbrev mX8_kindIn : ps_M := (RX8, yX8_kindIn, cX8_kindIn, 5, some .int, (0, 0), none)
def tX8_kindIn : List (Nat × Instr × Nat) := [(0, .iload_n 2, 1), (1, .aload_n 0, 1), (2, .getfield 69, 3), (5, .idiv, 1), (6, .aload_n 0, 1), (7, .getfield 69, 3), (10, .imul, 1), (11, .istore 4, 2), (13, .aload_n 0, 1), (14, .getfield 63, 3), (17, .bipush 12, 2), (19, .iload_n 1, 1), (20, .imul, 1), (21, .iload_n 3, 1), (22, .ifCond .eq 7, 3), (25, .iload_n 2, 1), (26, .goto 21, 3), (29, .iload 4, 2), (31, .aload_n 0, 1), (32, .iload_n 1, 1), (33, .iload_n 2, 1), (34, .aload_n 0, 1), (35, .getfield 69, 3), (38, .idiv, 1), (39, .invokevirtual 191, 3), (42, .iadd, 1), (43, .iconst 1, 1), (44, .isub, 1), (45, .iload_n 2, 1), (46, .isub, 1), (47, .iadd, 1), (48, .iaload, 1), (49, .ireturn, 1)]
theorem tX8_kindIn_ok : ∀ q ∈ tX8_kindIn, decode cX8_kindIn q.1 = .ok (q.2.1, q.2.2) := by decide +kernel
abbrev mX8_mayBe : ps_M := (RX8, yX8_mayBe, cX8_mayBe, 7, some .boolean, (0, 0), none)
def tX8_mayBe : List (Nat × Instr × Nat) := [(0, .iconst 1, 1), (1, .istore 4, 2), (3, .iload_n 2, 1), (4, .aload_n 0, 1), (5, .getfield 69, 3), (8, .imul, 1), (9, .istore 5, 2), (11, .iload 5, 2), (13, .aload_n 0, 1), (14, .iload_n 1, 1), (15, .iload_n 2, 1), (16, .invokevirtual 191, 3), (19, .if_icmp .ge 55, 3), (22, .aload_n 0, 1), (23, .getfield 66, 3), (26, .bipush 12, 2), (28, .iload_n 1, 1), (29, .imul, 1), (30, .iload 5, 2), (32, .iadd, 1), (33, .iaload, 1), (34, .istore 6, 2), (36, .iload 4, 2), (38, .ifCond .eq 27, 3), (41, .iload 6, 2), (43, .ldc 96, 2), (45, .if_icmp .eq 16, 3), (48, .iload 6, 2), (50, .aload_n 0, 1), (51, .iload_n 1, 1), (52, .iload 5, 2), (54, .iload_n 3, 1), (55, .invokevirtual 194, 3), (58, .if_icmp .ne 7, 3), (61, .iconst 1, 1), (62, .goto 4, 3), (65, .iconst 0, 1), (66, .istore 4, 2), (68, .iinc 5 1, 3), (71, .goto (-60), 3), (74, .iload 4, 2), (76, .ireturn, 1)]
theorem tX8_mayBe_ok : ∀ q ∈ tX8_mayBe, decode cX8_mayBe q.1 = .ok (q.2.1, q.2.2) := by decide +kernel
abbrev mX8_turns : ps_M := (RX8, yX8_turns, cX8_turns, 4, some .int, (0, 0), none)
def tX8_turns : List (Nat × Instr × Nat) := [(0, .iload_n 1, 1), (1, .invokestatic 109, 3), (4, .ifCond .ne 6, 3), (7, .ldc 112, 2), (9, .ireturn, 1), (10, .iconst 1, 1), (11, .istore_n 2, 1), (12, .iconst 0, 1), (13, .istore_n 3, 1), (14, .iload_n 3, 1), (15, .aload_n 0, 1), (16, .iload_n 1, 1), (17, .invokevirtual 198, 3), (20, .if_icmp .ge 43, 3), (23, .iload_n 2, 1), (24, .aload_n 0, 1), (25, .iload_n 1, 1), (26, .iload_n 3, 1), (27, .iconst 0, 1), (28, .invokevirtual 201, 3), (31, .ifCond .eq 7, 3), (34, .iconst 1, 1), (35, .goto 4, 3), (38, .iconst 0, 1), (39, .aload_n 0, 1), (40, .iload_n 1, 1), (41, .iload_n 3, 1), (42, .iconst 1, 1), (43, .invokevirtual 201, 3), (46, .ifCond .eq 7, 3), (49, .iconst 1, 1), (50, .goto 4, 3), (53, .iconst 0, 1), (54, .iadd, 1), (55, .imul, 1), (56, .istore_n 2, 1), (57, .iinc 3 1, 3), (60, .goto (-46), 3), (63, .iload_n 2, 1), (64, .ireturn, 1)]
theorem tX8_turns_ok : ∀ q ∈ tX8_turns, decode cX8_turns q.1 = .ok (q.2.1, q.2.2) := by decide +kernel
abbrev mX8_turned : ps_M := (RX8, yX8_turned, cX8_turned, 3, some .int, (0, 0), none)
def tX8_turned : List (Nat × Instr × Nat) := [(0, .iload_n 1, 1), (1, .invokestatic 109, 3), (4, .ifCond .eq 20, 3), (7, .iload_n 2, 1), (8, .i2l, 1), (9, .lconst 0, 1), (10, .aload_n 0, 1), (11, .iload_n 1, 1), (12, .invokevirtual 198, 3), (15, .iconst 1, 1), (16, .isub, 1), (17, .i2l, 1), (18, .invokestatic 99, 3), (21, .ifCond .ne 6, 3), (24, .ldc 112, 2), (26, .ireturn, 1), (27, .aload_n 0, 1), (28, .iload_n 1, 1), (29, .iload_n 2, 1), (30, .iconst 0, 1), (31, .invokevirtual 201, 3), (34, .ifCond .eq 7, 3), (37, .iconst 1, 1), (38, .goto 4, 3), (41, .iconst 0, 1), (42, .aload_n 0, 1), (43, .iload_n 1, 1), (44, .iload_n 2, 1), (45, .iconst 1, 1), (46, .invokevirtual 201, 3), (49, .ifCond .eq 7, 3), (52, .iconst 2, 1), (53, .goto 4, 3), (56, .iconst 0, 1), (57, .iadd, 1), (58, .ireturn, 1)]
theorem tX8_turned_ok : ∀ q ∈ tX8_turned, decode cX8_turned q.1 = .ok (q.2.1, q.2.2) := by decide +kernel
abbrev mX8_bound : ps_M := (RX8, yX8_bound, cX8_bound, 4, some .int, (0, 0), none)
def tX8_bound : List (Nat × Instr × Nat) := [(0, .iload_n 1, 1), (1, .invokestatic 109, 3), (4, .ifCond .eq 15, 3), (7, .iload_n 2, 1), (8, .i2l, 1), (9, .lconst 0, 1), (10, .ldc2_w 189, 3), (13, .invokestatic 99, 3), (16, .ifCond .ne 6, 3), (19, .ldc 112, 2), (21, .ireturn, 1), (22, .iload_n 2, 1), (23, .aload_n 0, 1), (24, .getfield 60, 3), (27, .iload_n 1, 1), (28, .iaload, 1), (29, .if_icmp .ge 13, 3), (32, .aload_n 0, 1), (33, .iload_n 1, 1), (34, .iload_n 2, 1), (35, .iload_n 3, 1), (36, .invokevirtual 194, 3), (39, .goto 5, 3), (42, .ldc 96, 2), (44, .ireturn, 1)]
theorem tX8_bound_ok : ∀ q ∈ tX8_bound, decode cX8_bound q.1 = .ok (q.2.1, q.2.2) := by decide +kernel
abbrev mX8_house : ps_M := (RX8, yX8_house, cX8_house, 4, some .int, (0, 0), none)
def tX8_house : List (Nat × Instr × Nat) := [(0, .iload_n 1, 1), (1, .i2l, 1), (2, .lconst 1, 1), (3, .ldc2_w 205, 3), (6, .invokestatic 99, 3), (9, .ifCond .eq 15, 3), (12, .iload_n 2, 1), (13, .i2l, 1), (14, .lconst 1, 1), (15, .ldc2_w 187, 3), (18, .invokestatic 99, 3), (21, .ifCond .ne 6, 3), (24, .ldc 115, 2), (26, .ireturn, 1), (27, .aload_n 0, 1), (28, .getfield 72, 3), (31, .istore_n 3, 1), (32, .aload_n 0, 1), (33, .iload_n 1, 1), (34, .putfield 72, 3), (37, .aload_n 0, 1), (38, .iload_n 2, 1), (39, .putfield 75, 3), (42, .iload_n 3, 1), (43, .ireturn, 1)]
theorem tX8_house_ok : ∀ q ∈ tX8_house, decode cX8_house q.1 = .ok (q.2.1, q.2.2) := by decide +kernel
abbrev mX8_isMan : ps_M := (RX8, yX8_isMan, cX8_isMan, 2, some .boolean, (0, 0), none)
def tX8_isMan : List (Nat × Instr × Nat) := [(0, .iload_n 1, 1), (1, .i2l, 1), (2, .lconst 0, 1), (3, .aload_n 0, 1), (4, .getfield 72, 3), (7, .iconst 1, 1), (8, .isub, 1), (9, .i2l, 1), (10, .invokestatic 99, 3), (13, .ireturn, 1)]
theorem tX8_isMan_ok : ∀ q ∈ tX8_isMan, decode cX8_isMan q.1 = .ok (q.2.1, q.2.2) := by decide +kernel
abbrev mX8_isPage : ps_M := (RX8, yX8_isPage, cX8_isPage, 2, some .boolean, (0, 0), none)
def tX8_isPage : List (Nat × Instr × Nat) := [(0, .iload_n 1, 1), (1, .i2l, 1), (2, .lconst 0, 1), (3, .aload_n 0, 1), (4, .getfield 75, 3), (7, .iconst 1, 1), (8, .isub, 1), (9, .i2l, 1), (10, .invokestatic 99, 3), (13, .ireturn, 1)]
theorem tX8_isPage_ok : ∀ q ∈ tX8_isPage, decode cX8_isPage q.1 = .ok (q.2.1, q.2.2) := by decide +kernel
abbrev mX8_habit : ps_M := (RX8, yX8_habit, cX8_habit, 5, some .int, (0, 0), none)
def tX8_habit : List (Nat × Instr × Nat) := [(0, .aload_n 0, 1), (1, .iload_n 1, 1), (2, .invokevirtual 207, 3), (5, .ifCond .eq 15, 3), (8, .iload_n 2, 1), (9, .i2l, 1), (10, .lconst 0, 1), (11, .ldc2_w 97, 3), (14, .invokestatic 99, 3), (17, .ifCond .ne 6, 3), (20, .ldc 112, 2), (22, .ireturn, 1), (23, .iload_n 3, 1), (24, .ldc 96, 2), (26, .if_icmp .eq 16, 3), (29, .iload_n 3, 1), (30, .i2l, 1), (31, .lconst 0, 1), (32, .lconst 1, 1), (33, .invokestatic 99, 3), (36, .ifCond .ne 6, 3), (39, .ldc 115, 2), (41, .ireturn, 1), (42, .aload_n 0, 1), (43, .getfield 78, 3), (46, .bipush 6, 2), (48, .iload_n 1, 1), (49, .imul, 1), (50, .iload_n 2, 1), (51, .iadd, 1), (52, .iaload, 1), (53, .istore 4, 2), (55, .aload_n 0, 1), (56, .getfield 78, 3), (59, .bipush 6, 2), (61, .iload_n 1, 1), (62, .imul, 1), (63, .iload_n 2, 1), (64, .iadd, 1), (65, .iload_n 3, 1), (66, .iastore, 1), (67, .iload 4, 2), (69, .ireturn, 1)]
theorem tX8_habit_ok : ∀ q ∈ tX8_habit, decode cX8_habit q.1 = .ok (q.2.1, q.2.2) := by decide +kernel
abbrev mX8_spell : ps_M := (RX8, yX8_spell, cX8_spell, 7, some .int, (0, 0), none)
def tX8_spell : List (Nat × Instr × Nat) := [(0, .aload_n 0, 1), (1, .iload_n 1, 1), (2, .invokevirtual 210, 3), (5, .ifCond .eq 15, 3), (8, .iload_n 2, 1), (9, .i2l, 1), (10, .lconst 0, 1), (11, .ldc2_w 97, 3), (14, .invokestatic 99, 3), (17, .ifCond .ne 6, 3), (20, .ldc 112, 2), (22, .ireturn, 1), (23, .iload_n 3, 1), (24, .i2l, 1), (25, .lconst 0, 1), (26, .lconst 1, 1), (27, .invokestatic 99, 3), (30, .ifCond .eq 16, 3), (33, .iload 4, 2), (35, .i2l, 1), (36, .lconst 0, 1), (37, .ldc2_w 113, 3), (40, .invokestatic 99, 3), (43, .ifCond .ne 6, 3), (46, .ldc 115, 2), (48, .ireturn, 1), (49, .bipush 12, 2), (51, .iload_n 1, 1), (52, .imul, 1), (53, .iconst 2, 1), (54, .iload_n 2, 1), (55, .imul, 1), (56, .iadd, 1), (57, .iload_n 3, 1), (58, .iadd, 1), (59, .istore 5, 2), (61, .aload_n 0, 1), (62, .getfield 81, 3), (65, .iload 5, 2), (67, .iaload, 1), (68, .istore 6, 2), (70, .aload_n 0, 1), (71, .getfield 81, 3), (74, .iload 5, 2), (76, .iload 4, 2), (78, .iastore, 1), (79, .iload 6, 2), (81, .ireturn, 1)]
theorem tX8_spell_ok : ∀ q ∈ tX8_spell, decode cX8_spell q.1 = .ok (q.2.1, q.2.2) := by decide +kernel
abbrev mX8_change : ps_M := (RX8, yX8_change, cX8_change, 3, some .int, (0, 0), none)
def tX8_change : List (Nat × Instr × Nat) := [(0, .iload_n 1, 1), (1, .i2l, 1), (2, .lconst 0, 1), (3, .ldc2_w 213, 3), (6, .invokestatic 99, 3), (9, .ifCond .ne 6, 3), (12, .ldc 115, 2), (14, .ireturn, 1), (15, .aload_n 0, 1), (16, .getfield 84, 3), (19, .istore_n 2, 1), (20, .aload_n 0, 1), (21, .iload_n 1, 1), (22, .putfield 84, 3), (25, .iload_n 2, 1), (26, .ireturn, 1)]
theorem tX8_change_ok : ∀ q ∈ tX8_change, decode cX8_change q.1 = .ok (q.2.1, q.2.2) := by decide +kernel
abbrev mX8_againstOf : ps_M := (RX8, yX8_againstOf, cX8_againstOf, 6, some .int, (0, 0), none)
def tX8_againstOf : List (Nat × Instr × Nat) := [(0, .iconst 0, 1), (1, .istore_n 3, 1), (2, .iconst 0, 1), (3, .istore 4, 2), (5, .iload 4, 2), (7, .bipush 6, 2), (9, .if_icmp .ge 56, 3), (12, .aload_n 0, 1), (13, .getfield 78, 3), (16, .bipush 6, 2), (18, .iload_n 2, 1), (19, .imul, 1), (20, .iload 4, 2), (22, .iadd, 1), (23, .iaload, 1), (24, .istore 5, 2), (26, .iload_n 3, 1), (27, .iload 5, 2), (29, .ldc 96, 2), (31, .if_icmp .ne 7, 3), (34, .iconst 0, 1), (35, .goto 22, 3), (38, .aload_n 0, 1), (39, .getfield 81, 3), (42, .bipush 12, 2), (44, .iload_n 1, 1), (45, .imul, 1), (46, .iconst 2, 1), (47, .iload 4, 2), (49, .imul, 1), (50, .iadd, 1), (51, .iconst 1, 1), (52, .iadd, 1), (53, .iload 5, 2), (55, .isub, 1), (56, .iaload, 1), (57, .iadd, 1), (58, .istore_n 3, 1), (59, .iinc 4 1, 3), (62, .goto (-57), 3), (65, .iload_n 3, 1), (66, .ireturn, 1)]
theorem tX8_againstOf_ok : ∀ q ∈ tX8_againstOf, decode cX8_againstOf q.1 = .ok (q.2.1, q.2.2) := by decide +kernel
abbrev mX8_against : ps_M := (RX8, yX8_against, cX8_against, 3, some .int, (0, 0), none)
def tX8_against : List (Nat × Instr × Nat) := [(0, .aload_n 0, 1), (1, .iload_n 1, 1), (2, .invokevirtual 210, 3), (5, .ifCond .eq 20, 3), (8, .aload_n 0, 1), (9, .iload_n 2, 1), (10, .invokevirtual 207, 3), (13, .ifCond .eq 12, 3), (16, .aload_n 0, 1), (17, .iload_n 1, 1), (18, .iload_n 2, 1), (19, .invokevirtual 215, 3), (22, .goto 5, 3), (25, .ldc 112, 2), (27, .ireturn, 1)]
theorem tX8_against_ok : ∀ q ∈ tX8_against, decode cX8_against q.1 = .ok (q.2.1, q.2.2) := by decide +kernel
abbrev mX8_layRest : ps_M := (RX8, yX8_layRest, cX8_layRest, 7, none, (0, 0), none)
def tX8_layRest : List (Nat × Instr × Nat) := [(0, .aload_n 0, 1), (1, .getfield 75, 3), (4, .iconst 1, 1), (5, .isub, 1), (6, .istore_n 1, 1), (7, .iload_n 1, 1), (8, .ifCond .lt 211, 3), (11, .iconst 0, 1), (12, .istore_n 2, 1), (13, .iload_n 2, 1), (14, .aload_n 0, 1), (15, .getfield 72, 3), (18, .if_icmp .ge 195, 3), (21, .iload_n 1, 1), (22, .aload_n 0, 1), (23, .getfield 75, 3), (26, .iconst 1, 1), (27, .isub, 1), (28, .if_icmp .ne 7, 3), (31, .iconst 0, 1), (32, .goto 5, 3), (35, .ldc 152, 2), (37, .istore_n 3, 1), (38, .iload_n 1, 1), (39, .aload_n 0, 1), (40, .getfield 75, 3), (43, .iconst 1, 1), (44, .isub, 1), (45, .if_icmp .ne 7, 3), (48, .iconst 1, 1), (49, .goto 4, 3), (52, .iconst 0, 1), (53, .istore 4, 2), (55, .iconst 0, 1), (56, .istore 5, 2), (58, .iload 5, 2), (60, .aload_n 0, 1), (61, .getfield 72, 3), (64, .if_icmp .ge 113, 3), (67, .iload_n 1, 1), (68, .aload_n 0, 1), (69, .getfield 75, 3), (72, .iconst 1, 1), (73, .isub, 1), (74, .if_icmp .ge 103, 3), (77, .aload_n 0, 1), (78, .getfield 87, 3), (81, .iconst 4, 1), (82, .iload_n 1, 1), (83, .imul, 1), (84, .iconst 4, 1), (85, .iadd, 1), (86, .iload 5, 2), (88, .iadd, 1), (89, .iaload, 1), (90, .iload 5, 2), (92, .iload_n 2, 1), (93, .if_icmp .ne 7, 3), (96, .iconst 0, 1), (97, .goto 7, 3), (100, .aload_n 0, 1), (101, .getfield 84, 3), (104, .iadd, 1), (105, .istore 6, 2), (107, .iload 6, 2), (109, .iload_n 3, 1), (110, .if_icmp .ge 19, 3), (113, .aload_n 0, 1), (114, .getfield 90, 3), (117, .iconst 4, 1), (118, .iload_n 1, 1), (119, .imul, 1), (120, .iconst 4, 1), (121, .iadd, 1), (122, .iload 5, 2), (124, .iadd, 1), (125, .iaload, 1), (126, .goto 30, 3), (129, .iload 6, 2), (131, .iload_n 3, 1), (132, .if_icmp .ne 22, 3), (135, .iload 4, 2), (137, .aload_n 0, 1), (138, .getfield 90, 3), (141, .iconst 4, 1), (142, .iload_n 1, 1), (143, .imul, 1), (144, .iconst 4, 1), (145, .iadd, 1), (146, .iload 5, 2), (148, .iadd, 1), (149, .iaload, 1), (150, .iadd, 1), (151, .goto 5, 3), (154, .iload 4, 2), (156, .istore 4, 2), (158, .iload 6, 2), (160, .iload_n 3, 1), (161, .if_icmp .ge 8, 3), (164, .iload 6, 2), (166, .goto 4, 3), (169, .iload_n 3, 1), (170, .istore_n 3, 1), (171, .iinc 5 1, 3), (174, .goto (-116), 3), (177, .aload_n 0, 1), (178, .getfield 87, 3), (181, .iconst 4, 1), (182, .iload_n 1, 1), (183, .imul, 1), (184, .iload_n 2, 1), (185, .iadd, 1), (186, .iload_n 3, 1), (187, .aload_n 0, 1), (188, .iload_n 1, 1), (189, .iload_n 2, 1), (190, .invokevirtual 215, 3), (193, .iadd, 1), (194, .iastore, 1), (195, .aload_n 0, 1), (196, .getfield 90, 3), (199, .iconst 4, 1), (200, .iload_n 1, 1), (201, .imul, 1), (202, .iload_n 2, 1), (203, .iadd, 1), (204, .iload 4, 2), (206, .iastore, 1), (207, .iinc 2 1, 3), (210, .goto (-197), 3), (213, .iinc 1 (-1), 3), (216, .goto (-209), 3), (219, .return_, 1)]
theorem tX8_layRest_ok : ∀ q ∈ tX8_layRest, decode cX8_layRest q.1 = .ok (q.2.1, q.2.2) := by decide +kernel
abbrev mX8_best : ps_M := (RX8, yX8_best, cX8_best, 3, some .int, (0, 0), none)
def tX8_best : List (Nat × Instr × Nat) := [(0, .ldc 152, 2), (2, .istore_n 1, 1), (3, .iconst 0, 1), (4, .istore_n 2, 1), (5, .iload_n 2, 1), (6, .aload_n 0, 1), (7, .getfield 72, 3), (10, .if_icmp .ge 30, 3), (13, .aload_n 0, 1), (14, .getfield 87, 3), (17, .iload_n 2, 1), (18, .iaload, 1), (19, .iload_n 1, 1), (20, .if_icmp .ge 12, 3), (23, .aload_n 0, 1), (24, .getfield 87, 3), (27, .iload_n 2, 1), (28, .iaload, 1), (29, .goto 4, 3), (32, .iload_n 1, 1), (33, .istore_n 1, 1), (34, .iinc 2 1, 3), (37, .goto (-32), 3), (40, .iload_n 1, 1), (41, .ireturn, 1)]
theorem tX8_best_ok : ∀ q ∈ tX8_best, decode cX8_best q.1 = .ok (q.2.1, q.2.2) := by decide +kernel
abbrev mX8_setting : ps_M := (RX8, yX8_setting, cX8_setting, 1, some .int, (0, 0), none)
def tX8_setting : List (Nat × Instr × Nat) := [(0, .aload_n 0, 1), (1, .invokevirtual 218, 3), (4, .aload_n 0, 1), (5, .invokevirtual 221, 3), (8, .ireturn, 1)]
theorem tX8_setting_ok : ∀ q ∈ tX8_setting, decode cX8_setting q.1 = .ok (q.2.1, q.2.2) := by decide +kernel
abbrev mX8_who : ps_M := (RX8, yX8_who, cX8_who, 5, some .int, (0, 0), none)
def tX8_who : List (Nat × Instr × Nat) := [(0, .aload_n 0, 1), (1, .iload_n 1, 1), (2, .invokevirtual 210, 3), (5, .ifCond .ne 6, 3), (8, .ldc 112, 2), (10, .ireturn, 1), (11, .aload_n 0, 1), (12, .invokevirtual 218, 3), (15, .iconst 0, 1), (16, .istore_n 2, 1), (17, .aload_n 0, 1), (18, .getfield 87, 3), (21, .iload_n 2, 1), (22, .iaload, 1), (23, .aload_n 0, 1), (24, .invokevirtual 221, 3), (27, .if_icmp .eq 9, 3), (30, .iinc 2 1, 3), (33, .goto (-16), 3), (36, .iconst 0, 1), (37, .istore_n 3, 1), (38, .iload_n 3, 1), (39, .iload_n 1, 1), (40, .if_icmp .ge 69, 3), (43, .iconst 0, 1), (44, .istore 4, 2), (46, .aload_n 0, 1), (47, .getfield 87, 3), (50, .iconst 4, 1), (51, .iload_n 3, 1), (52, .imul, 1), (53, .iload_n 2, 1), (54, .iadd, 1), (55, .iaload, 1), (56, .aload_n 0, 1), (57, .iload_n 3, 1), (58, .iload_n 2, 1), (59, .invokevirtual 215, 3), (62, .aload_n 0, 1), (63, .getfield 87, 3), (66, .iconst 4, 1), (67, .iload_n 3, 1), (68, .imul, 1), (69, .iconst 4, 1), (70, .iadd, 1), (71, .iload 4, 2), (73, .iadd, 1), (74, .iaload, 1), (75, .iadd, 1), (76, .iload 4, 2), (78, .iload_n 2, 1), (79, .if_icmp .ne 7, 3), (82, .iconst 0, 1), (83, .goto 7, 3), (86, .aload_n 0, 1), (87, .getfield 84, 3), (90, .iadd, 1), (91, .if_icmp .eq 9, 3), (94, .iinc 4 1, 3), (97, .goto (-51), 3), (100, .iload 4, 2), (102, .istore_n 2, 1), (103, .iinc 3 1, 3), (106, .goto (-68), 3), (109, .iload_n 2, 1), (110, .ireturn, 1)]
theorem tX8_who_ok : ∀ q ∈ tX8_who, decode cX8_who q.1 = .ok (q.2.1, q.2.2) := by decide +kernel
abbrev mX8_layGone : ps_M := (RX8, yX8_layGone, cX8_layGone, 6, none, (0, 0), none)
def tX8_layGone : List (Nat × Instr × Nat) := [(0, .iconst 0, 1), (1, .istore_n 1, 1), (2, .iload_n 1, 1), (3, .aload_n 0, 1), (4, .getfield 75, 3), (7, .if_icmp .ge 119, 3), (10, .iconst 0, 1), (11, .istore_n 2, 1), (12, .iload_n 2, 1), (13, .aload_n 0, 1), (14, .getfield 72, 3), (17, .if_icmp .ge 103, 3), (20, .iload_n 1, 1), (21, .ifCond .ne 7, 3), (24, .iconst 0, 1), (25, .goto 5, 3), (28, .ldc 152, 2), (30, .istore_n 3, 1), (31, .iconst 0, 1), (32, .istore 4, 2), (34, .iload 4, 2), (36, .aload_n 0, 1), (37, .getfield 72, 3), (40, .if_icmp .ge 56, 3), (43, .iload_n 1, 1), (44, .ifCond .le 52, 3), (47, .aload_n 0, 1), (48, .getfield 93, 3), (51, .iconst 4, 1), (52, .iload_n 1, 1), (53, .imul, 1), (54, .iconst 4, 1), (55, .isub, 1), (56, .iload 4, 2), (58, .iadd, 1), (59, .iaload, 1), (60, .iload 4, 2), (62, .iload_n 2, 1), (63, .if_icmp .ne 7, 3), (66, .iconst 0, 1), (67, .goto 7, 3), (70, .aload_n 0, 1), (71, .getfield 84, 3), (74, .iadd, 1), (75, .istore 5, 2), (77, .iload 5, 2), (79, .iload_n 3, 1), (80, .if_icmp .ge 8, 3), (83, .iload 5, 2), (85, .goto 4, 3), (88, .iload_n 3, 1), (89, .istore_n 3, 1), (90, .iinc 4 1, 3), (93, .goto (-59), 3), (96, .aload_n 0, 1), (97, .getfield 93, 3), (100, .iconst 4, 1), (101, .iload_n 1, 1), (102, .imul, 1), (103, .iload_n 2, 1), (104, .iadd, 1), (105, .iload_n 3, 1), (106, .aload_n 0, 1), (107, .iload_n 1, 1), (108, .iload_n 2, 1), (109, .invokevirtual 215, 3), (112, .iadd, 1), (113, .iastore, 1), (114, .iinc 2 1, 3), (117, .goto (-105), 3), (120, .iinc 1 1, 3), (123, .goto (-121), 3), (126, .return_, 1)]
theorem tX8_layGone_ok : ∀ q ∈ tX8_layGone, decode cX8_layGone q.1 = .ok (q.2.1, q.2.2) := by decide +kernel
abbrev mX8_sure : ps_M := (RX8, yX8_sure, cX8_sure, 4, some .int, (0, 0), none)
def tX8_sure : List (Nat × Instr × Nat) := [(0, .aload_n 0, 1), (1, .iload_n 1, 1), (2, .invokevirtual 210, 3), (5, .ifCond .ne 6, 3), (8, .ldc 112, 2), (10, .ireturn, 1), (11, .aload_n 0, 1), (12, .invokevirtual 218, 3), (15, .aload_n 0, 1), (16, .invokevirtual 224, 3), (19, .iconst 0, 1), (20, .istore_n 2, 1), (21, .iconst 0, 1), (22, .istore_n 3, 1), (23, .iload_n 3, 1), (24, .aload_n 0, 1), (25, .getfield 72, 3), (28, .if_icmp .ge 52, 3), (31, .iload_n 2, 1), (32, .aload_n 0, 1), (33, .getfield 93, 3), (36, .iconst 4, 1), (37, .iload_n 1, 1), (38, .imul, 1), (39, .iload_n 3, 1), (40, .iadd, 1), (41, .iaload, 1), (42, .aload_n 0, 1), (43, .getfield 87, 3), (46, .iconst 4, 1), (47, .iload_n 1, 1), (48, .imul, 1), (49, .iload_n 3, 1), (50, .iadd, 1), (51, .iaload, 1), (52, .iadd, 1), (53, .aload_n 0, 1), (54, .iload_n 1, 1), (55, .iload_n 3, 1), (56, .invokevirtual 215, 3), (59, .isub, 1), (60, .aload_n 0, 1), (61, .invokevirtual 221, 3), (64, .if_icmp .ne 7, 3), (67, .iconst 1, 1), (68, .goto 4, 3), (71, .iconst 0, 1), (72, .iadd, 1), (73, .istore_n 2, 1), (74, .iinc 3 1, 3), (77, .goto (-54), 3), (80, .iload_n 2, 1), (81, .iconst 1, 1), (82, .if_icmp .ne 7, 3), (85, .iconst 1, 1), (86, .goto 4, 3), (89, .iconst 0, 1), (90, .ireturn, 1)]
theorem tX8_sure_ok : ∀ q ∈ tX8_sure, decode cX8_sure q.1 = .ok (q.2.1, q.2.2) := by decide +kernel
abbrev mX8_settings : ps_M := (RX8, yX8_settings, cX8_settings, 3, some .int, (0, 0), none)
def tX8_settings : List (Nat × Instr × Nat) := [(0, .aload_n 0, 1), (1, .invokevirtual 218, 3), (4, .iconst 0, 1), (5, .istore_n 1, 1), (6, .iconst 0, 1), (7, .istore_n 2, 1), (8, .iload_n 2, 1), (9, .aload_n 0, 1), (10, .getfield 72, 3), (13, .if_icmp .ge 35, 3), (16, .iload_n 1, 1), (17, .aload_n 0, 1), (18, .getfield 87, 3), (21, .iload_n 2, 1), (22, .iaload, 1), (23, .aload_n 0, 1), (24, .invokevirtual 221, 3), (27, .if_icmp .ne 12, 3), (30, .aload_n 0, 1), (31, .getfield 90, 3), (34, .iload_n 2, 1), (35, .iaload, 1), (36, .goto 4, 3), (39, .iconst 0, 1), (40, .iadd, 1), (41, .istore_n 1, 1), (42, .iinc 2 1, 3), (45, .goto (-37), 3), (48, .iload_n 1, 1), (49, .ireturn, 1)]
theorem tX8_settings_ok : ∀ q ∈ tX8_settings, decode cX8_settings q.1 = .ok (q.2.1, q.2.2) := by decide +kernel
abbrev mX8_count : ps_M := (RX8, yX8_count, cX8_count, 8, some .int, (0, 0), none)
def tX8_count : List (Nat × Instr × Nat) := [(0, .iconst 0, 1), (1, .istore_n 2, 1), (2, .iconst 0, 1), (3, .istore_n 3, 1), (4, .iconst 0, 1), (5, .istore 4, 2), (7, .iconst 0, 1), (8, .istore 5, 2), (10, .iconst 0, 1), (11, .istore 6, 2), (13, .iconst 0, 1), (14, .istore 7, 2), (16, .iload 7, 2), (18, .sipush 486, 3), (21, .if_icmp .ge 84, 3), (24, .iload_n 2, 1), (25, .iload 7, 2), (27, .sipush 324, 3), (30, .if_icmp .ge 19, 3), (33, .aload_n 0, 1), (34, .getfield 7, 3), (37, .iload 7, 2), (39, .iaload, 1), (40, .ldc 96, 2), (42, .if_icmp .eq 7, 3), (45, .iconst 1, 1), (46, .goto 4, 3), (49, .iconst 0, 1), (50, .iadd, 1), (51, .istore_n 2, 1), (52, .iload_n 3, 1), (53, .aload_n 0, 1), (54, .getfield 28, 3), (57, .iload 7, 2), (59, .baload, 1), (60, .ifCond .eq 7, 3), (63, .iconst 1, 1), (64, .goto 4, 3), (67, .iconst 0, 1), (68, .iadd, 1), (69, .istore_n 3, 1), (70, .iload 6, 2), (72, .iload 7, 2), (74, .bipush 72, 2), (76, .if_icmp .ge 19, 3), (79, .aload_n 0, 1), (80, .getfield 66, 3), (83, .iload 7, 2), (85, .iaload, 1), (86, .ldc 96, 2), (88, .if_icmp .eq 7, 3), (91, .iconst 1, 1), (92, .goto 4, 3), (95, .iconst 0, 1), (96, .iadd, 1), (97, .istore 6, 2), (99, .iinc 7 1, 3), (102, .goto (-86), 3), (105, .iconst 0, 1), (106, .istore 7, 2), (108, .iload 7, 2), (110, .bipush 6, 2), (112, .if_icmp .ge 42, 3), (115, .iload 4, 2), (117, .aload_n 0, 1), (118, .iload 7, 2), (120, .iload 7, 2), (122, .invokevirtual 172, 3), (125, .ifCond .eq 7, 3), (128, .iconst 1, 1), (129, .goto 4, 3), (132, .iconst 0, 1), (133, .iadd, 1), (134, .istore 4, 2), (136, .iload 5, 2), (138, .aload_n 0, 1), (139, .getfield 60, 3), (142, .iload 7, 2), (144, .iaload, 1), (145, .iadd, 1), (146, .istore 5, 2), (148, .iinc 7 1, 3), (151, .goto (-43), 3), (154, .iload_n 1, 1), (155, .tableswitch 64 0 6 #[41, 43, 45, 48, 51, 54, 59], 41), (196, .iload_n 2, 1), (197, .ireturn, 1), (198, .iload_n 3, 1), (199, .ireturn, 1), (200, .iload 4, 2), (202, .ireturn, 1), (203, .iload 5, 2), (205, .ireturn, 1), (206, .iload 6, 2), (208, .ireturn, 1), (209, .aload_n 0, 1), (210, .getfield 72, 3), (213, .ireturn, 1), (214, .aload_n 0, 1), (215, .getfield 75, 3), (218, .ireturn, 1), (219, .ldc 115, 2), (221, .ireturn, 1)]
theorem tX8_count_ok : ∀ q ∈ tX8_count, decode cX8_count q.1 = .ok (q.2.1, q.2.2) := by decide +kernel
abbrev mJ6_bitCount_0f7a4 : ps_M := (RJ6, yJ6_bitCount_0f7a4, cJ6_bitCount_0f7a4, 1, some .int, (0, 0), none)
def tJ6_bitCount_0f7a4 : List (Nat × Instr × Nat) := [(0, .iload_n 0, 1), (1, .iload_n 0, 1), (2, .iconst 1, 1), (3, .iushr, 1), (4, .ldc_w 265, 3), (7, .iand, 1), (8, .isub, 1), (9, .istore_n 0, 1), (10, .iload_n 0, 1), (11, .ldc_w 266, 3), (14, .iand, 1), (15, .iload_n 0, 1), (16, .iconst 2, 1), (17, .iushr, 1), (18, .ldc_w 266, 3), (21, .iand, 1), (22, .iadd, 1), (23, .istore_n 0, 1), (24, .iload_n 0, 1), (25, .iload_n 0, 1), (26, .iconst 4, 1), (27, .iushr, 1), (28, .iadd, 1), (29, .ldc_w 267, 3), (32, .iand, 1), (33, .istore_n 0, 1), (34, .iload_n 0, 1), (35, .iload_n 0, 1), (36, .bipush 8, 2), (38, .iushr, 1), (39, .iadd, 1), (40, .istore_n 0, 1), (41, .iload_n 0, 1), (42, .iload_n 0, 1), (43, .bipush 16, 2), (45, .iushr, 1), (46, .iadd, 1), (47, .istore_n 0, 1), (48, .iload_n 0, 1), (49, .bipush 63, 2), (51, .iand, 1), (52, .ireturn, 1)]
theorem tJ6_bitCount_0f7a4_ok : ∀ q ∈ tJ6_bitCount_0f7a4, decode cJ6_bitCount_0f7a4 q.1 = .ok (q.2.1, q.2.2) := by decide +kernel
abbrev mJ7_fill_53178 : ps_M := (RJ7, yJ7_fill_53178, cJ7_fill_53178, 4, none, (0, 0), none)
def tJ7_fill_53178 : List (Nat × Instr × Nat) := [(0, .iconst 0, 1), (1, .istore_n 2, 1), (2, .aload_n 0, 1), (3, .arraylength, 1), (4, .istore_n 3, 1), (5, .iload_n 2, 1), (6, .iload_n 3, 1), (7, .if_icmp .ge 13, 3), (10, .aload_n 0, 1), (11, .iload_n 2, 1), (12, .iload_n 1, 1), (13, .iastore, 1), (14, .iinc 2 1, 3), (17, .goto (-12), 3), (20, .return_, 1)]
theorem tJ7_fill_53178_ok : ∀ q ∈ tJ7_fill_53178, decode cJ7_fill_53178 q.1 = .ok (q.2.1, q.2.2) := by decide +kernel
end
section
/-! ===== printed by wip/whole/gen.py: what the tables say of links ===== -/
theorem ps_tm (i : Nat) {w : Cond} (h : tables_1[i]? = some w) : w ∈ lw_tbl := List.mem_append_right _ (List.mem_of_getElem? h)
theorem ps_sm (i : Nat) {w : Cond} (h : (k2_sels lw_privs)[i]? = some w) : w ∈ lw_tbl := List.mem_append_left _ (List.mem_of_getElem? h)
theorem sh_1 : (ps_sh 1).2 = .inl (7, [some 2, some 11, some 15, some 19, some 24, some 30, some 36]) := rfl
theorem sh_2 : (ps_sh 2).2 = .inr (3, 6, some 3) := rfl
theorem sh_3 : (ps_sh 3).2 = .inl (0, [some 4, some 6, some 7, some 8, some 9, none, none, none, some 10, none, none, none]) := rfl
theorem sh_4 : (ps_sh 4).2 = .inr (2, 9, some 5) := rfl
theorem sh_5 : (ps_sh 5).2 = .inr (0, 6, none) := rfl
theorem sh_6 : (ps_sh 6).2 = .inr (0, 9, none) := rfl
theorem sh_7 : (ps_sh 7).2 = .inr (0, 9, none) := rfl
theorem sh_8 : (ps_sh 8).2 = .inr (0, 9, none) := rfl
theorem sh_9 : (ps_sh 9).2 = .inr (0, 9, none) := rfl
theorem sh_10 : (ps_sh 10).2 = .inr (0, 9, none) := rfl
theorem sh_11 : (ps_sh 11).2 = .inl (5, [some 12, some 13, some 14, none]) := rfl
theorem sh_12 : (ps_sh 12).2 = .inr (0, 512, none) := rfl
theorem sh_13 : (ps_sh 13).2 = .inr (0, 512, none) := rfl
theorem sh_14 : (ps_sh 14).2 = .inr (0, 10, none) := rfl
theorem sh_15 : (ps_sh 15).2 = .inl (3, [some 16, some 17, some 18, none]) := rfl
theorem sh_16 : (ps_sh 16).2 = .inr (0, 4608, none) := rfl
theorem sh_17 : (ps_sh 17).2 = .inr (0, 81, none) := rfl
theorem sh_18 : (ps_sh 18).2 = .inr (0, 9, none) := rfl
theorem sh_19 : (ps_sh 19).2 = .inl (6, [some 20, some 22, some 23, none]) := rfl
theorem sh_20 : (ps_sh 20).2 = .inr (2, 16, some 21) := rfl
theorem sh_21 : (ps_sh 21).2 = .inr (0, 6, none) := rfl
theorem sh_22 : (ps_sh 22).2 = .inr (0, 6, none) := rfl
theorem sh_23 : (ps_sh 23).2 = .inr (0, 6, none) := rfl
theorem sh_24 : (ps_sh 24).2 = .inl (4, [some 25, some 26, some 27, some 28, some 29, none, none]) := rfl
theorem sh_25 : (ps_sh 25).2 = .inr (0, 64, none) := rfl
theorem sh_26 : (ps_sh 26).2 = .inr (0, 64, none) := rfl
theorem sh_27 : (ps_sh 27).2 = .inr (0, 64, none) := rfl
theorem sh_28 : (ps_sh 28).2 = .inr (0, 6, none) := rfl
theorem sh_29 : (ps_sh 29).2 = .inr (0, 6, none) := rfl
theorem sh_30 : (ps_sh 30).2 = .inl (1, [some 31, some 33, some 34, none]) := rfl
theorem sh_31 : (ps_sh 31).2 = .inr (2, 6, some 32) := rfl
theorem sh_32 : (ps_sh 32).2 = .inr (0, 12, none) := rfl
theorem sh_33 : (ps_sh 33).2 = .inr (0, 6, none) := rfl
theorem sh_34 : (ps_sh 34).2 = .inr (2, 6, some 35) := rfl
theorem sh_35 : (ps_sh 35).2 = .inr (0, 12, none) := rfl
theorem sh_36 : (ps_sh 36).2 = .inl (2, [some 37, some 39, none, none, none, some 41, some 43, some 45, some 47, none, none]) := rfl
theorem sh_37 : (ps_sh 37).2 = .inr (2, 4, some 38) := rfl
theorem sh_38 : (ps_sh 38).2 = .inr (0, 6, none) := rfl
theorem sh_39 : (ps_sh 39).2 = .inr (2, 12, some 40) := rfl
theorem sh_40 : (ps_sh 40).2 = .inr (0, 12, none) := rfl
theorem sh_41 : (ps_sh 41).2 = .inr (2, 12, some 42) := rfl
theorem sh_42 : (ps_sh 42).2 = .inr (0, 4, none) := rfl
theorem sh_43 : (ps_sh 43).2 = .inr (2, 12, some 44) := rfl
theorem sh_44 : (ps_sh 44).2 = .inr (0, 4, none) := rfl
theorem sh_45 : (ps_sh 45).2 = .inr (2, 12, some 46) := rfl
theorem sh_46 : (ps_sh 46).2 = .inr (0, 4, none) := rfl
theorem sh_47 : (ps_sh 47).2 = .inr (2, 12, some 48) := rfl
theorem sh_48 : (ps_sh 48).2 = .inr (0, 4, none) := rfl
theorem sh_50 : (ps_sh 50).2 = .inl (8, [some 51, none, some 53, some 54, some 55, some 56, some 57, some 58, some 59, some 60, some 61, some 62, some 63, none, some 65, some 66, some 67, some 68, some 69, some 70, none, none, none, some 74, some 75, none, some 77, some 78, some 79]) := rfl
theorem sh_51 : (ps_sh 51).2 = .inr (0, 324, none) := rfl
theorem sh_53 : (ps_sh 53).2 = .inr (0, 9, none) := rfl
theorem sh_54 : (ps_sh 54).2 = .inr (0, 9, none) := rfl
theorem sh_55 : (ps_sh 55).2 = .inr (0, 512, none) := rfl
theorem sh_56 : (ps_sh 56).2 = .inr (0, 512, none) := rfl
theorem sh_57 : (ps_sh 57).2 = .inr (0, 512, none) := rfl
theorem sh_58 : (ps_sh 58).2 = .inr (1, 486, none) := rfl
theorem sh_59 : (ps_sh 59).2 = .inr (0, 9, none) := rfl
theorem sh_60 : (ps_sh 60).2 = .inr (0, 81, none) := rfl
theorem sh_61 : (ps_sh 61).2 = .inr (0, 4608, none) := rfl
theorem sh_62 : (ps_sh 62).2 = .inr (0, 4608, none) := rfl
theorem sh_63 : (ps_sh 63).2 = .inr (0, 96, none) := rfl
theorem sh_65 : (ps_sh 65).2 = .inr (0, 6, none) := rfl
theorem sh_66 : (ps_sh 66).2 = .inr (0, 6, none) := rfl
theorem sh_67 : (ps_sh 67).2 = .inr (0, 6, none) := rfl
theorem sh_68 : (ps_sh 68).2 = .inr (0, 6, none) := rfl
theorem sh_69 : (ps_sh 69).2 = .inr (0, 72, none) := rfl
theorem sh_70 : (ps_sh 70).2 = .inr (0, 72, none) := rfl
theorem sh_74 : (ps_sh 74).2 = .inr (0, 24, none) := rfl
theorem sh_75 : (ps_sh 75).2 = .inr (0, 144, none) := rfl
theorem sh_77 : (ps_sh 77).2 = .inr (0, 52, none) := rfl
theorem sh_78 : (ps_sh 78).2 = .inr (0, 52, none) := rfl
theorem sh_79 : (ps_sh 79).2 = .inr (0, 48, none) := rfl
theorem flX0_11 : ps_fl RX0 11 0 0 := ⟨_, rfl, by decide, Or.inl (ps_tm 35 (by decide +kernel))⟩
theorem flX0_16 : ps_fl RX0 16 0 1 := ⟨_, rfl, by decide, Or.inl (ps_tm 36 (by decide +kernel))⟩
theorem flX0_20 : ps_fl RX0 20 0 2 := ⟨_, rfl, by decide, Or.inl (ps_tm 37 (by decide +kernel))⟩
theorem flX0_23 : ps_fl RX0 23 0 3 := ⟨_, rfl, by decide, Or.inl (ps_tm 38 (by decide +kernel))⟩
theorem flX0_26 : ps_fl RX0 26 0 4 := ⟨_, rfl, by decide, Or.inl (ps_tm 39 (by decide +kernel))⟩
theorem flX0_54 : ps_fl RX0 54 0 5 := ⟨_, rfl, by decide, Or.inl (ps_tm 42 (by decide +kernel))⟩
theorem flX0_62 : ps_fl RX0 62 0 6 := ⟨_, rfl, by decide, Or.inl (ps_tm 45 (by decide +kernel))⟩
theorem flX1_11 : ps_fl RX1 11 1 0 := ⟨_, rfl, by decide, Or.inl (ps_tm 184 (by decide +kernel))⟩
theorem flX1_16 : ps_fl RX1 16 1 1 := ⟨_, rfl, by decide, Or.inl (ps_tm 185 (by decide +kernel))⟩
theorem flX1_20 : ps_fl RX1 20 1 2 := ⟨_, rfl, by decide, Or.inl (ps_tm 187 (by decide +kernel))⟩
theorem flX1_23 : ps_fl RX1 23 1 3 := ⟨_, rfl, by decide, Or.inl (ps_tm 188 (by decide +kernel))⟩
theorem flX2_11 : ps_fl RX2 11 2 0 := ⟨_, rfl, by decide, Or.inl (ps_tm 207 (by decide +kernel))⟩
theorem flX2_16 : ps_fl RX2 16 2 1 := ⟨_, rfl, by decide, Or.inl (ps_tm 208 (by decide +kernel))⟩
theorem flX2_19 : ps_fl RX2 19 2 2 := ⟨_, rfl, by decide, Or.inl (ps_tm 209 (by decide +kernel))⟩
theorem flX2_23 : ps_fl RX2 23 2 3 := ⟨_, rfl, by decide, Or.inl (ps_tm 211 (by decide +kernel))⟩
theorem flX2_26 : ps_fl RX2 26 2 4 := ⟨_, rfl, by decide, Or.inl (ps_tm 213 (by decide +kernel))⟩
theorem flX2_29 : ps_fl RX2 29 2 5 := ⟨_, rfl, by decide, Or.inl (ps_tm 214 (by decide +kernel))⟩
theorem flX2_32 : ps_fl RX2 32 2 6 := ⟨_, rfl, by decide, Or.inl (ps_tm 215 (by decide +kernel))⟩
theorem flX2_35 : ps_fl RX2 35 2 7 := ⟨_, rfl, by decide, Or.inl (ps_tm 216 (by decide +kernel))⟩
theorem flX2_38 : ps_fl RX2 38 2 8 := ⟨_, rfl, by decide, Or.inl (ps_tm 217 (by decide +kernel))⟩
theorem flX2_48 : ps_fl RX2 48 2 10 := ⟨_, rfl, by decide, Or.inl (ps_tm 219 (by decide +kernel))⟩
theorem flX2_55 : ps_fl RX2 55 2 9 := ⟨_, rfl, by decide, Or.inl (ps_tm 218 (by decide +kernel))⟩
theorem flX3_9 : ps_fl RX3 9 3 0 := ⟨_, rfl, by decide, Or.inl (ps_tm 106 (by decide +kernel))⟩
theorem flX3_15 : ps_fl RX3 15 3 1 := ⟨_, rfl, by decide, Or.inl (ps_tm 107 (by decide +kernel))⟩
theorem flX3_18 : ps_fl RX3 18 3 2 := ⟨_, rfl, by decide, Or.inl (ps_tm 108 (by decide +kernel))⟩
theorem flX3_25 : ps_fl RX3 25 0 9 := ⟨_, rfl, by decide, Or.inr ⟨"PressSheets", (ps_tm 51 (by decide +kernel))⟩⟩
theorem flX3_31 : ps_fl RX3 31 0 10 := ⟨_, rfl, by decide, Or.inr ⟨"PressSheets", (ps_tm 52 (by decide +kernel))⟩⟩
theorem flX3_34 : ps_fl RX3 34 0 8 := ⟨_, rfl, by decide, Or.inr ⟨"PressSheets", (ps_tm 50 (by decide +kernel))⟩⟩
theorem flX3_46 : ps_fl RX3 46 0 11 := ⟨_, rfl, by decide, Or.inr ⟨"PressSheets", (ps_tm 54 (by decide +kernel))⟩⟩
theorem flX3_59 : ps_fl RX3 59 0 6 := ⟨_, rfl, by decide, Or.inr ⟨"PressSheets", (ps_tm 46 (by decide +kernel))⟩⟩
theorem flX3_62 : ps_fl RX3 62 3 3 := ⟨_, rfl, by decide, Or.inl (ps_tm 109 (by decide +kernel))⟩
theorem flX4_9 : ps_fl RX4 9 4 0 := ⟨_, rfl, by decide, Or.inl (ps_tm 153 (by decide +kernel))⟩
theorem flX4_15 : ps_fl RX4 15 4 1 := ⟨_, rfl, by decide, Or.inl (ps_tm 154 (by decide +kernel))⟩
theorem flX4_18 : ps_fl RX4 18 4 2 := ⟨_, rfl, by decide, Or.inl (ps_tm 155 (by decide +kernel))⟩
theorem flX4_21 : ps_fl RX4 21 4 3 := ⟨_, rfl, by decide, Or.inl (ps_tm 156 (by decide +kernel))⟩
theorem flX4_24 : ps_fl RX4 24 4 4 := ⟨_, rfl, by decide, Or.inl (ps_tm 157 (by decide +kernel))⟩
theorem flX4_27 : ps_fl RX4 27 4 5 := ⟨_, rfl, by decide, Or.inl (ps_tm 158 (by decide +kernel))⟩
theorem flX4_31 : ps_fl RX4 31 4 6 := ⟨_, rfl, by decide, Or.inl (ps_tm 159 (by decide +kernel))⟩
theorem flX4_47 : ps_fl RX4 47 6 3 := ⟨_, rfl, by decide, Or.inr ⟨"PressSheets", (ps_tm 136 (by decide +kernel))⟩⟩
theorem flX4_70 : ps_fl RX4 70 6 1 := ⟨_, rfl, by decide, Or.inr ⟨"PressSheets", (ps_tm 130 (by decide +kernel))⟩⟩
theorem flX4_73 : ps_fl RX4 73 6 2 := ⟨_, rfl, by decide, Or.inr ⟨"PressSheets", (ps_tm 133 (by decide +kernel))⟩⟩
theorem flX5_9 : ps_fl RX5 9 5 0 := ⟨_, rfl, by decide, Or.inl (ps_tm 87 (by decide +kernel))⟩
theorem flX5_15 : ps_fl RX5 15 5 1 := ⟨_, rfl, by decide, Or.inl (ps_tm 88 (by decide +kernel))⟩
theorem flX5_18 : ps_fl RX5 18 5 2 := ⟨_, rfl, by decide, Or.inl (ps_tm 89 (by decide +kernel))⟩
theorem flX5_21 : ps_fl RX5 21 0 6 := ⟨_, rfl, by decide, Or.inr ⟨"PressSheets", (ps_tm 43 (by decide +kernel))⟩⟩
theorem flX5_27 : ps_fl RX5 27 0 5 := ⟨_, rfl, by decide, Or.inr ⟨"PressSheets", (ps_tm 41 (by decide +kernel))⟩⟩
theorem flX5_60 : ps_fl RX5 60 5 3 := ⟨_, rfl, by decide, Or.inl (ps_tm 90 (by decide +kernel))⟩
theorem flX6_11 : ps_fl RX6 11 6 0 := ⟨_, rfl, by decide, Or.inl (ps_tm 128 (by decide +kernel))⟩
theorem flX6_16 : ps_fl RX6 16 6 1 := ⟨_, rfl, by decide, Or.inl (ps_tm 129 (by decide +kernel))⟩
theorem flX6_20 : ps_fl RX6 20 6 2 := ⟨_, rfl, by decide, Or.inl (ps_tm 132 (by decide +kernel))⟩
theorem flX6_37 : ps_fl RX6 37 6 3 := ⟨_, rfl, by decide, Or.inl (ps_tm 135 (by decide +kernel))⟩
theorem flX7_11 : ps_fl RX7 11 7 0 := ⟨_, rfl, by decide, Or.inl (ps_tm 243 (by decide +kernel))⟩
theorem flX7_19 : ps_fl RX7 19 7 1 := ⟨_, rfl, by decide, Or.inl (ps_tm 244 (by decide +kernel))⟩
theorem flX7_26 : ps_fl RX7 26 7 2 := ⟨_, rfl, by decide, Or.inl (ps_tm 245 (by decide +kernel))⟩
theorem flX7_33 : ps_fl RX7 33 7 3 := ⟨_, rfl, by decide, Or.inl (ps_tm 246 (by decide +kernel))⟩
theorem flX7_40 : ps_fl RX7 40 7 4 := ⟨_, rfl, by decide, Or.inl (ps_tm 247 (by decide +kernel))⟩
theorem flX7_47 : ps_fl RX7 47 7 5 := ⟨_, rfl, by decide, Or.inl (ps_tm 248 (by decide +kernel))⟩
theorem flX7_54 : ps_fl RX7 54 7 6 := ⟨_, rfl, by decide, Or.inl (ps_tm 249 (by decide +kernel))⟩
theorem flX7_83 : ps_fl RX7 83 0 6 := ⟨_, rfl, by decide, Or.inr ⟨"PressSheets", (ps_tm 44 (by decide +kernel))⟩⟩
theorem flX7_87 : ps_fl RX7 87 0 4 := ⟨_, rfl, by decide, Or.inr ⟨"PressSheets", (ps_tm 40 (by decide +kernel))⟩⟩
theorem flX7_130 : ps_fl RX7 130 6 1 := ⟨_, rfl, by decide, Or.inr ⟨"PressSheets", (ps_tm 131 (by decide +kernel))⟩⟩
theorem flX7_133 : ps_fl RX7 133 6 2 := ⟨_, rfl, by decide, Or.inr ⟨"PressSheets", (ps_tm 134 (by decide +kernel))⟩⟩
theorem flX7_157 : ps_fl RX7 157 1 1 := ⟨_, rfl, by decide, Or.inr ⟨"PressSheets", (ps_tm 186 (by decide +kernel))⟩⟩
theorem flX7_221 : ps_fl RX7 221 6 3 := ⟨_, rfl, by decide, Or.inr ⟨"PressSheets", (ps_tm 137 (by decide +kernel))⟩⟩
theorem flX7_235 : ps_fl RX7 235 2 2 := ⟨_, rfl, by decide, Or.inr ⟨"PressSheets", (ps_tm 210 (by decide +kernel))⟩⟩
theorem flX7_238 : ps_fl RX7 238 2 3 := ⟨_, rfl, by decide, Or.inr ⟨"PressSheets", (ps_tm 212 (by decide +kernel))⟩⟩
theorem flX7_247 : ps_fl RX7 247 0 7 := ⟨_, rfl, by decide, Or.inr ⟨"PressSheets", (ps_tm 48 (by decide +kernel))⟩⟩
theorem flX8_7 : ps_fl RX8 7 8 0 := ⟨_, rfl, by decide, Or.inl (ps_tm 822 (by decide +kernel))⟩
theorem flX8_13 : ps_fl RX8 13 8 2 := ⟨_, rfl, by decide, Or.inl (ps_tm 824 (by decide +kernel))⟩
theorem flX8_16 : ps_fl RX8 16 8 3 := ⟨_, rfl, by decide, Or.inl (ps_tm 825 (by decide +kernel))⟩
theorem flX8_19 : ps_fl RX8 19 8 4 := ⟨_, rfl, by decide, Or.inl (ps_tm 826 (by decide +kernel))⟩
theorem flX8_22 : ps_fl RX8 22 8 5 := ⟨_, rfl, by decide, Or.inl (ps_tm 827 (by decide +kernel))⟩
theorem flX8_25 : ps_fl RX8 25 8 6 := ⟨_, rfl, by decide, Or.inl (ps_tm 828 (by decide +kernel))⟩
theorem flX8_28 : ps_fl RX8 28 8 7 := ⟨_, rfl, by decide, Or.inl (ps_tm 829 (by decide +kernel))⟩
theorem flX8_32 : ps_fl RX8 32 8 8 := ⟨_, rfl, by decide, Or.inl (ps_tm 830 (by decide +kernel))⟩
theorem flX8_35 : ps_fl RX8 35 8 9 := ⟨_, rfl, by decide, Or.inl (ps_tm 831 (by decide +kernel))⟩
theorem flX8_38 : ps_fl RX8 38 8 10 := ⟨_, rfl, by decide, Or.inl (ps_tm 832 (by decide +kernel))⟩
theorem flX8_41 : ps_fl RX8 41 8 11 := ⟨_, rfl, by decide, Or.inl (ps_tm 833 (by decide +kernel))⟩
theorem flX8_44 : ps_fl RX8 44 8 12 := ⟨_, rfl, by decide, Or.inl (ps_tm 834 (by decide +kernel))⟩
theorem flX8_47 : ps_fl RX8 47 8 13 := ⟨_, rfl, by decide, Or.inl (ps_tm 835 (by decide +kernel))⟩
theorem flX8_51 : ps_fl RX8 51 8 14 := ⟨_, rfl, by decide, Or.inl (ps_tm 836 (by decide +kernel))⟩
theorem flX8_54 : ps_fl RX8 54 8 15 := ⟨_, rfl, by decide, Or.inl (ps_tm 837 (by decide +kernel))⟩
theorem flX8_57 : ps_fl RX8 57 8 16 := ⟨_, rfl, by decide, Or.inl (ps_tm 838 (by decide +kernel))⟩
theorem flX8_60 : ps_fl RX8 60 8 17 := ⟨_, rfl, by decide, Or.inl (ps_tm 839 (by decide +kernel))⟩
theorem flX8_63 : ps_fl RX8 63 8 18 := ⟨_, rfl, by decide, Or.inl (ps_tm 840 (by decide +kernel))⟩
theorem flX8_66 : ps_fl RX8 66 8 19 := ⟨_, rfl, by decide, Or.inl (ps_tm 841 (by decide +kernel))⟩
theorem flX8_69 : ps_fl RX8 69 8 20 := ⟨_, rfl, by decide, Or.inl (ps_tm 842 (by decide +kernel))⟩
theorem flX8_72 : ps_fl RX8 72 8 21 := ⟨_, rfl, by decide, Or.inl (ps_tm 843 (by decide +kernel))⟩
theorem flX8_75 : ps_fl RX8 75 8 22 := ⟨_, rfl, by decide, Or.inl (ps_tm 844 (by decide +kernel))⟩
theorem flX8_78 : ps_fl RX8 78 8 23 := ⟨_, rfl, by decide, Or.inl (ps_tm 845 (by decide +kernel))⟩
theorem flX8_81 : ps_fl RX8 81 8 24 := ⟨_, rfl, by decide, Or.inl (ps_tm 846 (by decide +kernel))⟩
theorem flX8_84 : ps_fl RX8 84 8 25 := ⟨_, rfl, by decide, Or.inl (ps_tm 847 (by decide +kernel))⟩
theorem flX8_87 : ps_fl RX8 87 8 26 := ⟨_, rfl, by decide, Or.inl (ps_tm 848 (by decide +kernel))⟩
theorem flX8_90 : ps_fl RX8 90 8 27 := ⟨_, rfl, by decide, Or.inl (ps_tm 849 (by decide +kernel))⟩
theorem flX8_93 : ps_fl RX8 93 8 28 := ⟨_, rfl, by decide, Or.inl (ps_tm 850 (by decide +kernel))⟩
theorem flX8_131 : ps_fl RX8 131 8 1 := ⟨_, rfl, by decide, Or.inl (ps_tm 823 (by decide +kernel))⟩
theorem fpX0_39 : ps_fp RX0 39 0 7 .boolean := ⟨_, rfl, by decide, rfl, by decide +kernel, Or.inl (ps_tm 47 (by decide +kernel))⟩
theorem fpX0_43 : ps_fp RX0 43 0 11 .boolean := ⟨_, rfl, by decide, rfl, by decide +kernel, Or.inl (ps_tm 53 (by decide +kernel))⟩
theorem fpX0_54 : ps_fp RX0 54 0 5 .int := ⟨_, rfl, by decide, rfl, by decide +kernel, Or.inl (ps_tm 42 (by decide +kernel))⟩
theorem fpX0_62 : ps_fp RX0 62 0 6 .int := ⟨_, rfl, by decide, rfl, by decide +kernel, Or.inl (ps_tm 45 (by decide +kernel))⟩
theorem fpX1_23 : ps_fp RX1 23 1 3 .int := ⟨_, rfl, by decide, rfl, by decide +kernel, Or.inl (ps_tm 188 (by decide +kernel))⟩
theorem fpX2_19 : ps_fp RX2 19 2 2 .int := ⟨_, rfl, by decide, rfl, by decide +kernel, Or.inl (ps_tm 209 (by decide +kernel))⟩
theorem fpX2_23 : ps_fp RX2 23 2 3 .int := ⟨_, rfl, by decide, rfl, by decide +kernel, Or.inl (ps_tm 211 (by decide +kernel))⟩
theorem fpX2_26 : ps_fp RX2 26 2 4 .int := ⟨_, rfl, by decide, rfl, by decide +kernel, Or.inl (ps_tm 213 (by decide +kernel))⟩
theorem fpX2_48 : ps_fp RX2 48 2 10 .boolean := ⟨_, rfl, by decide, rfl, by decide +kernel, Or.inl (ps_tm 219 (by decide +kernel))⟩
theorem fpX2_55 : ps_fp RX2 55 2 9 .int := ⟨_, rfl, by decide, rfl, by decide +kernel, Or.inl (ps_tm 218 (by decide +kernel))⟩
theorem fpX3_25 : ps_fp RX3 25 0 9 .int := ⟨_, rfl, by decide, rfl, by decide +kernel, Or.inr ⟨"PressSheets", (ps_tm 51 (by decide +kernel))⟩⟩
theorem fpX3_31 : ps_fp RX3 31 0 10 .int := ⟨_, rfl, by decide, rfl, by decide +kernel, Or.inr ⟨"PressSheets", (ps_tm 52 (by decide +kernel))⟩⟩
theorem fpX3_46 : ps_fp RX3 46 0 11 .boolean := ⟨_, rfl, by decide, rfl, by decide +kernel, Or.inr ⟨"PressSheets", (ps_tm 54 (by decide +kernel))⟩⟩
theorem fpX3_62 : ps_fp RX3 62 3 3 .int := ⟨_, rfl, by decide, rfl, by decide +kernel, Or.inl (ps_tm 109 (by decide +kernel))⟩
theorem fpX4_27 : ps_fp RX4 27 4 5 .int := ⟨_, rfl, by decide, rfl, by decide +kernel, Or.inl (ps_tm 158 (by decide +kernel))⟩
theorem fpX4_31 : ps_fp RX4 31 4 6 .int := ⟨_, rfl, by decide, rfl, by decide +kernel, Or.inl (ps_tm 159 (by decide +kernel))⟩
theorem fpX5_60 : ps_fp RX5 60 5 3 .int := ⟨_, rfl, by decide, rfl, by decide +kernel, Or.inl (ps_tm 90 (by decide +kernel))⟩
theorem fpX6_37 : ps_fp RX6 37 6 3 .int := ⟨_, rfl, by decide, rfl, by decide +kernel, Or.inl (ps_tm 135 (by decide +kernel))⟩
theorem fpX8_47 : ps_fp RX8 47 8 13 .int := ⟨_, rfl, by decide, rfl, by decide +kernel, Or.inl (ps_tm 835 (by decide +kernel))⟩
theorem fpX8_69 : ps_fp RX8 69 8 20 .int := ⟨_, rfl, by decide, rfl, by decide +kernel, Or.inl (ps_tm 842 (by decide +kernel))⟩
theorem fpX8_72 : ps_fp RX8 72 8 21 .int := ⟨_, rfl, by decide, rfl, by decide +kernel, Or.inl (ps_tm 843 (by decide +kernel))⟩
theorem fpX8_75 : ps_fp RX8 75 8 22 .int := ⟨_, rfl, by decide, rfl, by decide +kernel, Or.inl (ps_tm 844 (by decide +kernel))⟩
theorem fpX8_84 : ps_fp RX8 84 8 25 .int := ⟨_, rfl, by decide, rfl, by decide +kernel, Or.inl (ps_tm 847 (by decide +kernel))⟩
theorem fpX8_131 : ps_fp RX8 131 8 1 .int := ⟨_, rfl, by decide, rfl, by decide +kernel, Or.inl (ps_tm 823 (by decide +kernel))⟩
theorem cnJ6_265 : Cond.constant RJ6 265 (1431655765) ∈ lw_tbl := (ps_tm 367 (by decide +kernel))
theorem cnJ6_266 : Cond.constant RJ6 266 (858993459) ∈ lw_tbl := (ps_tm 368 (by decide +kernel))
theorem cnJ6_267 : Cond.constant RJ6 267 (252645135) ∈ lw_tbl := (ps_tm 369 (by decide +kernel))
theorem cnX0_32 : Cond.constant RX0 32 (-900009) ∈ lw_tbl := (ps_tm 31 (by decide +kernel))
theorem cnX1_27 : Cond.constant RX1 27 (-900009) ∈ lw_tbl := (ps_tm 182 (by decide +kernel))
theorem cnX2_41 : Cond.constant RX2 41 (-900009) ∈ lw_tbl := (ps_tm 205 (by decide +kernel))
theorem cnX3_37 : Cond.constant RX3 37 (-900009) ∈ lw_tbl := (ps_tm 444 (by decide +kernel))
theorem cnX3_45 : Cond.constant RX3 45 (1048576) ∈ lw_tbl := (ps_tm 445 (by decide +kernel))
theorem cnX4_79 : Cond.constant RX4 79 (-900009) ∈ lw_tbl := (ps_tm 576 (by decide +kernel))
theorem cnX6_23 : Cond.constant RX6 23 (-900009) ∈ lw_tbl := (ps_tm 126 (by decide +kernel))
theorem cnX7_69 : Cond.constant RX7 69 (-900001) ∈ lw_tbl := (ps_tm 278 (by decide +kernel))
theorem cnX7_70 : Cond.constant RX7 70 (-900009) ∈ lw_tbl := (ps_tm 279 (by decide +kernel))
theorem cnX7_71 : Cond.constant RX7 71 (-900002) ∈ lw_tbl := (ps_tm 280 (by decide +kernel))
theorem cnX7_102 : Cond.constant RX7 102 (-900003) ∈ lw_tbl := (ps_tm 389 (by decide +kernel))
theorem cnX8_96 : Cond.constant RX8 96 (-900009) ∈ lw_tbl := (ps_tm 821 (by decide +kernel))
theorem cnX8_112 : Cond.constant RX8 112 (-900001) ∈ lw_tbl := (ps_tm 926 (by decide +kernel))
theorem cnX8_115 : Cond.constant RX8 115 (-900002) ∈ lw_tbl := (ps_tm 928 (by decide +kernel))
theorem cnX8_148 : Cond.constant RX8 148 (-900003) ∈ lw_tbl := (ps_tm 985 (by decide +kernel))
theorem cnX8_152 : Cond.constant RX8 152 (100000000) ∈ lw_tbl := (ps_tm 1006 (by decide +kernel))
theorem clX8_97 : Cond.constantLong RX8 97 (5) ∈ lw_tbl := (ps_tm 925 (by decide +kernel))
theorem clX8_103 : Cond.constantLong RX8 103 (8) ∈ lw_tbl := (ps_tm 918 (by decide +kernel))
theorem clX8_113 : Cond.constantLong RX8 113 (9) ∈ lw_tbl := (ps_tm 927 (by decide +kernel))
theorem clX8_170 : Cond.constantLong RX8 170 (15) ∈ lw_tbl := (ps_tm 1035 (by decide +kernel))
theorem clX8_178 : Cond.constantLong RX8 178 (6) ∈ lw_tbl := (ps_tm 1060 (by decide +kernel))
theorem clX8_187 : Cond.constantLong RX8 187 (12) ∈ lw_tbl := (ps_tm 1093 (by decide +kernel))
theorem clX8_189 : Cond.constantLong RX8 189 (11) ∈ lw_tbl := (ps_tm 1098 (by decide +kernel))
theorem clX8_205 : Cond.constantLong RX8 205 (4) ∈ lw_tbl := (ps_tm 1131 (by decide +kernel))
theorem clX8_213 : Cond.constantLong RX8 213 (99) ∈ lw_tbl := (ps_tm 1152 (by decide +kernel))
theorem cpX5_34 : Cond.methodLink RX5 34 arraycopyName ∈ lw_tbl := (ps_tm 371 (by decide +kernel))
theorem cmX0_71 : Cond.methodLink RX0 71 Lib.Math.max.name ∈ lw_tbl := (ps_tm 320 (by decide +kernel))
theorem cmX1_34 : Cond.methodLink RX1 34 Lib.Math.min.name ∈ lw_tbl := (ps_tm 650 (by decide +kernel))
theorem cmX2_91 : Cond.methodLink RX2 91 Lib.Math.min.name ∈ lw_tbl := (ps_tm 736 (by decide +kernel))
theorem cmX3_87 : Cond.methodLink RX3 87 Lib.Math.max.name ∈ lw_tbl := (ps_tm 449 (by decide +kernel))
theorem cmX3_92 : Cond.methodLink RX3 92 Lib.Math.min.name ∈ lw_tbl := (ps_tm 450 (by decide +kernel))
theorem cmX5_72 : Cond.methodLink RX5 72 Lib.Math.max.name ∈ lw_tbl := (ps_tm 370 (by decide +kernel))
theorem cmX5_77 : Cond.methodLink RX5 77 Lib.Math.min.name ∈ lw_tbl := (ps_tm 382 (by decide +kernel))
theorem cbX8_fewest : Cond.initialized (ps_y mX8_fewest).cls ∈ lw_tbl ∧ Cond.code (ps_y mX8_fewest) (ps_code mX8_fewest) (ps_maxL mX8_fewest) (ps_ret mX8_fewest) ∈ lw_tbl ∧ ((ps_y mX8_fewest).cls ≠ "java/lang/invoke/MethodHandle" ∧ (ps_y mX8_fewest).cls ≠ "java/lang/invoke/VarHandle") ∧ (parseMethodDescriptor (ps_y mX8_fewest).desc).map (fun d => d.parameters.length) = some 0 ∧ ps_maxL mX8_fewest ≤ 21 := ⟨(ps_tm 10 (by decide +kernel)), (ps_tm 1084 (by decide +kernel)), ⟨by decide +kernel, by decide +kernel⟩, by decide +kernel, by decide +kernel⟩
theorem ciX8_fewest : Cond.instanceMethod (ps_y mX8_fewest) ∈ lw_tbl ∧ Cond.selects (ps_y mX8_fewest).cls (ps_y mX8_fewest) (ps_y mX8_fewest) ∈ lw_tbl ∧ ∃ r : vw_C, ps_cls[8]? = some r ∧ r.1 = (ps_y mX8_fewest).cls := ⟨(ps_tm 1082 (by decide +kernel)), (ps_tm 1083 (by decide +kernel)), _, rfl, rfl⟩
theorem cbX7_sheet : Cond.initialized (ps_y mX7_sheet).cls ∈ lw_tbl ∧ Cond.code (ps_y mX7_sheet) (ps_code mX7_sheet) (ps_maxL mX7_sheet) (ps_ret mX7_sheet) ∈ lw_tbl ∧ ((ps_y mX7_sheet).cls ≠ "java/lang/invoke/MethodHandle" ∧ (ps_y mX7_sheet).cls ≠ "java/lang/invoke/VarHandle") ∧ (parseMethodDescriptor (ps_y mX7_sheet).desc).map (fun d => d.parameters.length) = some 2 ∧ ps_maxL mX7_sheet ≤ 21 := ⟨(ps_tm 1 (by decide +kernel)), (ps_tm 605 (by decide +kernel)), ⟨by decide +kernel, by decide +kernel⟩, by decide +kernel, by decide +kernel⟩
theorem ciX7_sheet : Cond.instanceMethod (ps_y mX7_sheet) ∈ lw_tbl ∧ Cond.selects (ps_y mX7_sheet).cls (ps_y mX7_sheet) (ps_y mX7_sheet) ∈ lw_tbl ∧ ∃ r : vw_C, ps_cls[7]? = some r ∧ r.1 = (ps_y mX7_sheet).cls := ⟨(ps_tm 603 (by decide +kernel)), (ps_tm 604 (by decide +kernel)), _, rfl, rfl⟩
theorem cbX8_sheet : Cond.initialized (ps_y mX8_sheet).cls ∈ lw_tbl ∧ Cond.code (ps_y mX8_sheet) (ps_code mX8_sheet) (ps_maxL mX8_sheet) (ps_ret mX8_sheet) ∈ lw_tbl ∧ ((ps_y mX8_sheet).cls ≠ "java/lang/invoke/MethodHandle" ∧ (ps_y mX8_sheet).cls ≠ "java/lang/invoke/VarHandle") ∧ (parseMethodDescriptor (ps_y mX8_sheet).desc).map (fun d => d.parameters.length) = some 2 ∧ ps_maxL mX8_sheet ≤ 21 := ⟨(ps_tm 10 (by decide +kernel)), (ps_tm 1088 (by decide +kernel)), ⟨by decide +kernel, by decide +kernel⟩, by decide +kernel, by decide +kernel⟩
theorem ciX8_sheet : Cond.instanceMethod (ps_y mX8_sheet) ∈ lw_tbl ∧ Cond.selects (ps_y mX8_sheet).cls (ps_y mX8_sheet) (ps_y mX8_sheet) ∈ lw_tbl ∧ ∃ r : vw_C, ps_cls[8]? = some r ∧ r.1 = (ps_y mX8_sheet).cls := ⟨(ps_tm 1086 (by decide +kernel)), (ps_tm 1087 (by decide +kernel)), _, rfl, rfl⟩
theorem cbX7_size : Cond.initialized (ps_y mX7_size).cls ∈ lw_tbl ∧ Cond.code (ps_y mX7_size) (ps_code mX7_size) (ps_maxL mX7_size) (ps_ret mX7_size) ∈ lw_tbl ∧ ((ps_y mX7_size).cls ≠ "java/lang/invoke/MethodHandle" ∧ (ps_y mX7_size).cls ≠ "java/lang/invoke/VarHandle") ∧ (parseMethodDescriptor (ps_y mX7_size).desc).map (fun d => d.parameters.length) = some 1 ∧ ps_maxL mX7_size ≤ 21 := ⟨(ps_tm 1 (by decide +kernel)), (ps_tm 613 (by decide +kernel)), ⟨by decide +kernel, by decide +kernel⟩, by decide +kernel, by decide +kernel⟩
theorem ciX7_size : Cond.instanceMethod (ps_y mX7_size) ∈ lw_tbl ∧ Cond.selects (ps_y mX7_size).cls (ps_y mX7_size) (ps_y mX7_size) ∈ lw_tbl ∧ ∃ r : vw_C, ps_cls[7]? = some r ∧ r.1 = (ps_y mX7_size).cls := ⟨(ps_tm 611 (by decide +kernel)), (ps_tm 612 (by decide +kernel)), _, rfl, rfl⟩
theorem cbX8_size : Cond.initialized (ps_y mX8_size).cls ∈ lw_tbl ∧ Cond.code (ps_y mX8_size) (ps_code mX8_size) (ps_maxL mX8_size) (ps_ret mX8_size) ∈ lw_tbl ∧ ((ps_y mX8_size).cls ≠ "java/lang/invoke/MethodHandle" ∧ (ps_y mX8_size).cls ≠ "java/lang/invoke/VarHandle") ∧ (parseMethodDescriptor (ps_y mX8_size).desc).map (fun d => d.parameters.length) = some 1 ∧ ps_maxL mX8_size ≤ 21 := ⟨(ps_tm 10 (by decide +kernel)), (ps_tm 1092 (by decide +kernel)), ⟨by decide +kernel, by decide +kernel⟩, by decide +kernel, by decide +kernel⟩
theorem ciX8_size : Cond.instanceMethod (ps_y mX8_size) ∈ lw_tbl ∧ Cond.selects (ps_y mX8_size).cls (ps_y mX8_size) (ps_y mX8_size) ∈ lw_tbl ∧ ∃ r : vw_C, ps_cls[8]? = some r ∧ r.1 = (ps_y mX8_size).cls := ⟨(ps_tm 1090 (by decide +kernel)), (ps_tm 1091 (by decide +kernel)), _, rfl, rfl⟩
theorem cbX7_seen : Cond.initialized (ps_y mX7_seen).cls ∈ lw_tbl ∧ Cond.code (ps_y mX7_seen) (ps_code mX7_seen) (ps_maxL mX7_seen) (ps_ret mX7_seen) ∈ lw_tbl ∧ ((ps_y mX7_seen).cls ≠ "java/lang/invoke/MethodHandle" ∧ (ps_y mX7_seen).cls ≠ "java/lang/invoke/VarHandle") ∧ (parseMethodDescriptor (ps_y mX7_seen).desc).map (fun d => d.parameters.length) = some 3 ∧ ps_maxL mX7_seen ≤ 21 := ⟨(ps_tm 1 (by decide +kernel)), (ps_tm 621 (by decide +kernel)), ⟨by decide +kernel, by decide +kernel⟩, by decide +kernel, by decide +kernel⟩
theorem ciX7_seen : Cond.instanceMethod (ps_y mX7_seen) ∈ lw_tbl ∧ Cond.selects (ps_y mX7_seen).cls (ps_y mX7_seen) (ps_y mX7_seen) ∈ lw_tbl ∧ ∃ r : vw_C, ps_cls[7]? = some r ∧ r.1 = (ps_y mX7_seen).cls := ⟨(ps_tm 619 (by decide +kernel)), (ps_tm 620 (by decide +kernel)), _, rfl, rfl⟩
theorem cbX8_seen : Cond.initialized (ps_y mX8_seen).cls ∈ lw_tbl ∧ Cond.code (ps_y mX8_seen) (ps_code mX8_seen) (ps_maxL mX8_seen) (ps_ret mX8_seen) ∈ lw_tbl ∧ ((ps_y mX8_seen).cls ≠ "java/lang/invoke/MethodHandle" ∧ (ps_y mX8_seen).cls ≠ "java/lang/invoke/VarHandle") ∧ (parseMethodDescriptor (ps_y mX8_seen).desc).map (fun d => d.parameters.length) = some 3 ∧ ps_maxL mX8_seen ≤ 21 := ⟨(ps_tm 10 (by decide +kernel)), (ps_tm 1097 (by decide +kernel)), ⟨by decide +kernel, by decide +kernel⟩, by decide +kernel, by decide +kernel⟩
theorem ciX8_seen : Cond.instanceMethod (ps_y mX8_seen) ∈ lw_tbl ∧ Cond.selects (ps_y mX8_seen).cls (ps_y mX8_seen) (ps_y mX8_seen) ∈ lw_tbl ∧ ∃ r : vw_C, ps_cls[8]? = some r ∧ r.1 = (ps_y mX8_seen).cls := ⟨(ps_tm 1095 (by decide +kernel)), (ps_tm 1096 (by decide +kernel)), _, rfl, rfl⟩
theorem cbX7_turns : Cond.initialized (ps_y mX7_turns).cls ∈ lw_tbl ∧ Cond.code (ps_y mX7_turns) (ps_code mX7_turns) (ps_maxL mX7_turns) (ps_ret mX7_turns) ∈ lw_tbl ∧ ((ps_y mX7_turns).cls ≠ "java/lang/invoke/MethodHandle" ∧ (ps_y mX7_turns).cls ≠ "java/lang/invoke/VarHandle") ∧ (parseMethodDescriptor (ps_y mX7_turns).desc).map (fun d => d.parameters.length) = some 1 ∧ ps_maxL mX7_turns ≤ 21 := ⟨(ps_tm 1 (by decide +kernel)), (ps_tm 629 (by decide +kernel)), ⟨by decide +kernel, by decide +kernel⟩, by decide +kernel, by decide +kernel⟩
theorem ciX7_turns : Cond.instanceMethod (ps_y mX7_turns) ∈ lw_tbl ∧ Cond.selects (ps_y mX7_turns).cls (ps_y mX7_turns) (ps_y mX7_turns) ∈ lw_tbl ∧ ∃ r : vw_C, ps_cls[7]? = some r ∧ r.1 = (ps_y mX7_turns).cls := ⟨(ps_tm 627 (by decide +kernel)), (ps_tm 628 (by decide +kernel)), _, rfl, rfl⟩
theorem cbX8_turns : Cond.initialized (ps_y mX8_turns).cls ∈ lw_tbl ∧ Cond.code (ps_y mX8_turns) (ps_code mX8_turns) (ps_maxL mX8_turns) (ps_ret mX8_turns) ∈ lw_tbl ∧ ((ps_y mX8_turns).cls ≠ "java/lang/invoke/MethodHandle" ∧ (ps_y mX8_turns).cls ≠ "java/lang/invoke/VarHandle") ∧ (parseMethodDescriptor (ps_y mX8_turns).desc).map (fun d => d.parameters.length) = some 1 ∧ ps_maxL mX8_turns ≤ 21 := ⟨(ps_tm 10 (by decide +kernel)), (ps_tm 1102 (by decide +kernel)), ⟨by decide +kernel, by decide +kernel⟩, by decide +kernel, by decide +kernel⟩
theorem ciX8_turns : Cond.instanceMethod (ps_y mX8_turns) ∈ lw_tbl ∧ Cond.selects (ps_y mX8_turns).cls (ps_y mX8_turns) (ps_y mX8_turns) ∈ lw_tbl ∧ ∃ r : vw_C, ps_cls[8]? = some r ∧ r.1 = (ps_y mX8_turns).cls := ⟨(ps_tm 1100 (by decide +kernel)), (ps_tm 1101 (by decide +kernel)), _, rfl, rfl⟩
theorem cbX7_turned : Cond.initialized (ps_y mX7_turned).cls ∈ lw_tbl ∧ Cond.code (ps_y mX7_turned) (ps_code mX7_turned) (ps_maxL mX7_turned) (ps_ret mX7_turned) ∈ lw_tbl ∧ ((ps_y mX7_turned).cls ≠ "java/lang/invoke/MethodHandle" ∧ (ps_y mX7_turned).cls ≠ "java/lang/invoke/VarHandle") ∧ (parseMethodDescriptor (ps_y mX7_turned).desc).map (fun d => d.parameters.length) = some 2 ∧ ps_maxL mX7_turned ≤ 21 := ⟨(ps_tm 1 (by decide +kernel)), (ps_tm 659 (by decide +kernel)), ⟨by decide +kernel, by decide +kernel⟩, by decide +kernel, by decide +kernel⟩
theorem ciX7_turned : Cond.instanceMethod (ps_y mX7_turned) ∈ lw_tbl ∧ Cond.selects (ps_y mX7_turned).cls (ps_y mX7_turned) (ps_y mX7_turned) ∈ lw_tbl ∧ ∃ r : vw_C, ps_cls[7]? = some r ∧ r.1 = (ps_y mX7_turned).cls := ⟨(ps_tm 657 (by decide +kernel)), (ps_tm 658 (by decide +kernel)), _, rfl, rfl⟩
theorem cbX8_turned : Cond.initialized (ps_y mX8_turned).cls ∈ lw_tbl ∧ Cond.code (ps_y mX8_turned) (ps_code mX8_turned) (ps_maxL mX8_turned) (ps_ret mX8_turned) ∈ lw_tbl ∧ ((ps_y mX8_turned).cls ≠ "java/lang/invoke/MethodHandle" ∧ (ps_y mX8_turned).cls ≠ "java/lang/invoke/VarHandle") ∧ (parseMethodDescriptor (ps_y mX8_turned).desc).map (fun d => d.parameters.length) = some 2 ∧ ps_maxL mX8_turned ≤ 21 := ⟨(ps_tm 10 (by decide +kernel)), (ps_tm 1122 (by decide +kernel)), ⟨by decide +kernel, by decide +kernel⟩, by decide +kernel, by decide +kernel⟩
theorem ciX8_turned : Cond.instanceMethod (ps_y mX8_turned) ∈ lw_tbl ∧ Cond.selects (ps_y mX8_turned).cls (ps_y mX8_turned) (ps_y mX8_turned) ∈ lw_tbl ∧ ∃ r : vw_C, ps_cls[8]? = some r ∧ r.1 = (ps_y mX8_turned).cls := ⟨(ps_tm 1120 (by decide +kernel)), (ps_tm 1121 (by decide +kernel)), _, rfl, rfl⟩
theorem cbX7_bound : Cond.initialized (ps_y mX7_bound).cls ∈ lw_tbl ∧ Cond.code (ps_y mX7_bound) (ps_code mX7_bound) (ps_maxL mX7_bound) (ps_ret mX7_bound) ∈ lw_tbl ∧ ((ps_y mX7_bound).cls ≠ "java/lang/invoke/MethodHandle" ∧ (ps_y mX7_bound).cls ≠ "java/lang/invoke/VarHandle") ∧ (parseMethodDescriptor (ps_y mX7_bound).desc).map (fun d => d.parameters.length) = some 3 ∧ ps_maxL mX7_bound ≤ 21 := ⟨(ps_tm 1 (by decide +kernel)), (ps_tm 665 (by decide +kernel)), ⟨by decide +kernel, by decide +kernel⟩, by decide +kernel, by decide +kernel⟩
theorem ciX7_bound : Cond.instanceMethod (ps_y mX7_bound) ∈ lw_tbl ∧ Cond.selects (ps_y mX7_bound).cls (ps_y mX7_bound) (ps_y mX7_bound) ∈ lw_tbl ∧ ∃ r : vw_C, ps_cls[7]? = some r ∧ r.1 = (ps_y mX7_bound).cls := ⟨(ps_tm 663 (by decide +kernel)), (ps_tm 664 (by decide +kernel)), _, rfl, rfl⟩
theorem cbX8_bound : Cond.initialized (ps_y mX8_bound).cls ∈ lw_tbl ∧ Cond.code (ps_y mX8_bound) (ps_code mX8_bound) (ps_maxL mX8_bound) (ps_ret mX8_bound) ∈ lw_tbl ∧ ((ps_y mX8_bound).cls ≠ "java/lang/invoke/MethodHandle" ∧ (ps_y mX8_bound).cls ≠ "java/lang/invoke/VarHandle") ∧ (parseMethodDescriptor (ps_y mX8_bound).desc).map (fun d => d.parameters.length) = some 3 ∧ ps_maxL mX8_bound ≤ 21 := ⟨(ps_tm 10 (by decide +kernel)), (ps_tm 1126 (by decide +kernel)), ⟨by decide +kernel, by decide +kernel⟩, by decide +kernel, by decide +kernel⟩
theorem ciX8_bound : Cond.instanceMethod (ps_y mX8_bound) ∈ lw_tbl ∧ Cond.selects (ps_y mX8_bound).cls (ps_y mX8_bound) (ps_y mX8_bound) ∈ lw_tbl ∧ ∃ r : vw_C, ps_cls[8]? = some r ∧ r.1 = (ps_y mX8_bound).cls := ⟨(ps_tm 1124 (by decide +kernel)), (ps_tm 1125 (by decide +kernel)), _, rfl, rfl⟩
theorem cbX7_house : Cond.initialized (ps_y mX7_house).cls ∈ lw_tbl ∧ Cond.code (ps_y mX7_house) (ps_code mX7_house) (ps_maxL mX7_house) (ps_ret mX7_house) ∈ lw_tbl ∧ ((ps_y mX7_house).cls ≠ "java/lang/invoke/MethodHandle" ∧ (ps_y mX7_house).cls ≠ "java/lang/invoke/VarHandle") ∧ (parseMethodDescriptor (ps_y mX7_house).desc).map (fun d => d.parameters.length) = some 2 ∧ ps_maxL mX7_house ≤ 21 := ⟨(ps_tm 1 (by decide +kernel)), (ps_tm 670 (by decide +kernel)), ⟨by decide +kernel, by decide +kernel⟩, by decide +kernel, by decide +kernel⟩
theorem ciX7_house : Cond.instanceMethod (ps_y mX7_house) ∈ lw_tbl ∧ Cond.selects (ps_y mX7_house).cls (ps_y mX7_house) (ps_y mX7_house) ∈ lw_tbl ∧ ∃ r : vw_C, ps_cls[7]? = some r ∧ r.1 = (ps_y mX7_house).cls := ⟨(ps_tm 668 (by decide +kernel)), (ps_tm 669 (by decide +kernel)), _, rfl, rfl⟩
theorem cbX7_read : Cond.initialized (ps_y mX7_read).cls ∈ lw_tbl ∧ Cond.code (ps_y mX7_read) (ps_code mX7_read) (ps_maxL mX7_read) (ps_ret mX7_read) ∈ lw_tbl ∧ ((ps_y mX7_read).cls ≠ "java/lang/invoke/MethodHandle" ∧ (ps_y mX7_read).cls ≠ "java/lang/invoke/VarHandle") ∧ (parseMethodDescriptor (ps_y mX7_read).desc).map (fun d => d.parameters.length) = some 4 ∧ ps_maxL mX7_read ≤ 21 := ⟨(ps_tm 1 (by decide +kernel)), (ps_tm 268 (by decide +kernel)), ⟨by decide +kernel, by decide +kernel⟩, by decide +kernel, by decide +kernel⟩
theorem ciX7_read : Cond.instanceMethod (ps_y mX7_read) ∈ lw_tbl ∧ Cond.selects (ps_y mX7_read).cls (ps_y mX7_read) (ps_y mX7_read) ∈ lw_tbl ∧ ∃ r : vw_C, ps_cls[7]? = some r ∧ r.1 = (ps_y mX7_read).cls := ⟨(ps_tm 266 (by decide +kernel)), (ps_tm 267 (by decide +kernel)), _, rfl, rfl⟩
theorem cbX8_house : Cond.initialized (ps_y mX8_house).cls ∈ lw_tbl ∧ Cond.code (ps_y mX8_house) (ps_code mX8_house) (ps_maxL mX8_house) (ps_ret mX8_house) ∈ lw_tbl ∧ ((ps_y mX8_house).cls ≠ "java/lang/invoke/MethodHandle" ∧ (ps_y mX8_house).cls ≠ "java/lang/invoke/VarHandle") ∧ (parseMethodDescriptor (ps_y mX8_house).desc).map (fun d => d.parameters.length) = some 2 ∧ ps_maxL mX8_house ≤ 21 := ⟨(ps_tm 10 (by decide +kernel)), (ps_tm 1130 (by decide +kernel)), ⟨by decide +kernel, by decide +kernel⟩, by decide +kernel, by decide +kernel⟩
theorem ciX8_house : Cond.instanceMethod (ps_y mX8_house) ∈ lw_tbl ∧ Cond.selects (ps_y mX8_house).cls (ps_y mX8_house) (ps_y mX8_house) ∈ lw_tbl ∧ ∃ r : vw_C, ps_cls[8]? = some r ∧ r.1 = (ps_y mX8_house).cls := ⟨(ps_tm 1128 (by decide +kernel)), (ps_tm 1129 (by decide +kernel)), _, rfl, rfl⟩
theorem cbX7_habit : Cond.initialized (ps_y mX7_habit).cls ∈ lw_tbl ∧ Cond.code (ps_y mX7_habit) (ps_code mX7_habit) (ps_maxL mX7_habit) (ps_ret mX7_habit) ∈ lw_tbl ∧ ((ps_y mX7_habit).cls ≠ "java/lang/invoke/MethodHandle" ∧ (ps_y mX7_habit).cls ≠ "java/lang/invoke/VarHandle") ∧ (parseMethodDescriptor (ps_y mX7_habit).desc).map (fun d => d.parameters.length) = some 3 ∧ ps_maxL mX7_habit ≤ 21 := ⟨(ps_tm 1 (by decide +kernel)), (ps_tm 678 (by decide +kernel)), ⟨by decide +kernel, by decide +kernel⟩, by decide +kernel, by decide +kernel⟩
theorem ciX7_habit : Cond.instanceMethod (ps_y mX7_habit) ∈ lw_tbl ∧ Cond.selects (ps_y mX7_habit).cls (ps_y mX7_habit) (ps_y mX7_habit) ∈ lw_tbl ∧ ∃ r : vw_C, ps_cls[7]? = some r ∧ r.1 = (ps_y mX7_habit).cls := ⟨(ps_tm 676 (by decide +kernel)), (ps_tm 677 (by decide +kernel)), _, rfl, rfl⟩
theorem cbX8_habit : Cond.initialized (ps_y mX8_habit).cls ∈ lw_tbl ∧ Cond.code (ps_y mX8_habit) (ps_code mX8_habit) (ps_maxL mX8_habit) (ps_ret mX8_habit) ∈ lw_tbl ∧ ((ps_y mX8_habit).cls ≠ "java/lang/invoke/MethodHandle" ∧ (ps_y mX8_habit).cls ≠ "java/lang/invoke/VarHandle") ∧ (parseMethodDescriptor (ps_y mX8_habit).desc).map (fun d => d.parameters.length) = some 3 ∧ ps_maxL mX8_habit ≤ 21 := ⟨(ps_tm 10 (by decide +kernel)), (ps_tm 1135 (by decide +kernel)), ⟨by decide +kernel, by decide +kernel⟩, by decide +kernel, by decide +kernel⟩
theorem ciX8_habit : Cond.instanceMethod (ps_y mX8_habit) ∈ lw_tbl ∧ Cond.selects (ps_y mX8_habit).cls (ps_y mX8_habit) (ps_y mX8_habit) ∈ lw_tbl ∧ ∃ r : vw_C, ps_cls[8]? = some r ∧ r.1 = (ps_y mX8_habit).cls := ⟨(ps_tm 1133 (by decide +kernel)), (ps_tm 1134 (by decide +kernel)), _, rfl, rfl⟩
theorem cbX7_spell : Cond.initialized (ps_y mX7_spell).cls ∈ lw_tbl ∧ Cond.code (ps_y mX7_spell) (ps_code mX7_spell) (ps_maxL mX7_spell) (ps_ret mX7_spell) ∈ lw_tbl ∧ ((ps_y mX7_spell).cls ≠ "java/lang/invoke/MethodHandle" ∧ (ps_y mX7_spell).cls ≠ "java/lang/invoke/VarHandle") ∧ (parseMethodDescriptor (ps_y mX7_spell).desc).map (fun d => d.parameters.length) = some 4 ∧ ps_maxL mX7_spell ≤ 21 := ⟨(ps_tm 1 (by decide +kernel)), (ps_tm 690 (by decide +kernel)), ⟨by decide +kernel, by decide +kernel⟩, by decide +kernel, by decide +kernel⟩
theorem ciX7_spell : Cond.instanceMethod (ps_y mX7_spell) ∈ lw_tbl ∧ Cond.selects (ps_y mX7_spell).cls (ps_y mX7_spell) (ps_y mX7_spell) ∈ lw_tbl ∧ ∃ r : vw_C, ps_cls[7]? = some r ∧ r.1 = (ps_y mX7_spell).cls := ⟨(ps_tm 688 (by decide +kernel)), (ps_tm 689 (by decide +kernel)), _, rfl, rfl⟩
theorem cbX8_spell : Cond.initialized (ps_y mX8_spell).cls ∈ lw_tbl ∧ Cond.code (ps_y mX8_spell) (ps_code mX8_spell) (ps_maxL mX8_spell) (ps_ret mX8_spell) ∈ lw_tbl ∧ ((ps_y mX8_spell).cls ≠ "java/lang/invoke/MethodHandle" ∧ (ps_y mX8_spell).cls ≠ "java/lang/invoke/VarHandle") ∧ (parseMethodDescriptor (ps_y mX8_spell).desc).map (fun d => d.parameters.length) = some 4 ∧ ps_maxL mX8_spell ≤ 21 := ⟨(ps_tm 10 (by decide +kernel)), (ps_tm 1143 (by decide +kernel)), ⟨by decide +kernel, by decide +kernel⟩, by decide +kernel, by decide +kernel⟩
theorem ciX8_spell : Cond.instanceMethod (ps_y mX8_spell) ∈ lw_tbl ∧ Cond.selects (ps_y mX8_spell).cls (ps_y mX8_spell) (ps_y mX8_spell) ∈ lw_tbl ∧ ∃ r : vw_C, ps_cls[8]? = some r ∧ r.1 = (ps_y mX8_spell).cls := ⟨(ps_tm 1141 (by decide +kernel)), (ps_tm 1142 (by decide +kernel)), _, rfl, rfl⟩
theorem cbX7_change : Cond.initialized (ps_y mX7_change).cls ∈ lw_tbl ∧ Cond.code (ps_y mX7_change) (ps_code mX7_change) (ps_maxL mX7_change) (ps_ret mX7_change) ∈ lw_tbl ∧ ((ps_y mX7_change).cls ≠ "java/lang/invoke/MethodHandle" ∧ (ps_y mX7_change).cls ≠ "java/lang/invoke/VarHandle") ∧ (parseMethodDescriptor (ps_y mX7_change).desc).map (fun d => d.parameters.length) = some 1 ∧ ps_maxL mX7_change ≤ 21 := ⟨(ps_tm 1 (by decide +kernel)), (ps_tm 702 (by decide +kernel)), ⟨by decide +kernel, by decide +kernel⟩, by decide +kernel, by decide +kernel⟩
theorem ciX7_change : Cond.instanceMethod (ps_y mX7_change) ∈ lw_tbl ∧ Cond.selects (ps_y mX7_change).cls (ps_y mX7_change) (ps_y mX7_change) ∈ lw_tbl ∧ ∃ r : vw_C, ps_cls[7]? = some r ∧ r.1 = (ps_y mX7_change).cls := ⟨(ps_tm 700 (by decide +kernel)), (ps_tm 701 (by decide +kernel)), _, rfl, rfl⟩
theorem cbX8_change : Cond.initialized (ps_y mX8_change).cls ∈ lw_tbl ∧ Cond.code (ps_y mX8_change) (ps_code mX8_change) (ps_maxL mX8_change) (ps_ret mX8_change) ∈ lw_tbl ∧ ((ps_y mX8_change).cls ≠ "java/lang/invoke/MethodHandle" ∧ (ps_y mX8_change).cls ≠ "java/lang/invoke/VarHandle") ∧ (parseMethodDescriptor (ps_y mX8_change).desc).map (fun d => d.parameters.length) = some 1 ∧ ps_maxL mX8_change ≤ 21 := ⟨(ps_tm 10 (by decide +kernel)), (ps_tm 1151 (by decide +kernel)), ⟨by decide +kernel, by decide +kernel⟩, by decide +kernel, by decide +kernel⟩
theorem ciX8_change : Cond.instanceMethod (ps_y mX8_change) ∈ lw_tbl ∧ Cond.selects (ps_y mX8_change).cls (ps_y mX8_change) (ps_y mX8_change) ∈ lw_tbl ∧ ∃ r : vw_C, ps_cls[8]? = some r ∧ r.1 = (ps_y mX8_change).cls := ⟨(ps_tm 1149 (by decide +kernel)), (ps_tm 1150 (by decide +kernel)), _, rfl, rfl⟩
theorem cbX7_against : Cond.initialized (ps_y mX7_against).cls ∈ lw_tbl ∧ Cond.code (ps_y mX7_against) (ps_code mX7_against) (ps_maxL mX7_against) (ps_ret mX7_against) ∈ lw_tbl ∧ ((ps_y mX7_against).cls ≠ "java/lang/invoke/MethodHandle" ∧ (ps_y mX7_against).cls ≠ "java/lang/invoke/VarHandle") ∧ (parseMethodDescriptor (ps_y mX7_against).desc).map (fun d => d.parameters.length) = some 2 ∧ ps_maxL mX7_against ≤ 21 := ⟨(ps_tm 1 (by decide +kernel)), (ps_tm 710 (by decide +kernel)), ⟨by decide +kernel, by decide +kernel⟩, by decide +kernel, by decide +kernel⟩
theorem ciX7_against : Cond.instanceMethod (ps_y mX7_against) ∈ lw_tbl ∧ Cond.selects (ps_y mX7_against).cls (ps_y mX7_against) (ps_y mX7_against) ∈ lw_tbl ∧ ∃ r : vw_C, ps_cls[7]? = some r ∧ r.1 = (ps_y mX7_against).cls := ⟨(ps_tm 708 (by decide +kernel)), (ps_tm 709 (by decide +kernel)), _, rfl, rfl⟩
theorem cbX8_against : Cond.initialized (ps_y mX8_against).cls ∈ lw_tbl ∧ Cond.code (ps_y mX8_against) (ps_code mX8_against) (ps_maxL mX8_against) (ps_ret mX8_against) ∈ lw_tbl ∧ ((ps_y mX8_against).cls ≠ "java/lang/invoke/MethodHandle" ∧ (ps_y mX8_against).cls ≠ "java/lang/invoke/VarHandle") ∧ (parseMethodDescriptor (ps_y mX8_against).desc).map (fun d => d.parameters.length) = some 2 ∧ ps_maxL mX8_against ≤ 21 := ⟨(ps_tm 10 (by decide +kernel)), (ps_tm 1156 (by decide +kernel)), ⟨by decide +kernel, by decide +kernel⟩, by decide +kernel, by decide +kernel⟩
theorem ciX8_against : Cond.instanceMethod (ps_y mX8_against) ∈ lw_tbl ∧ Cond.selects (ps_y mX8_against).cls (ps_y mX8_against) (ps_y mX8_against) ∈ lw_tbl ∧ ∃ r : vw_C, ps_cls[8]? = some r ∧ r.1 = (ps_y mX8_against).cls := ⟨(ps_tm 1154 (by decide +kernel)), (ps_tm 1155 (by decide +kernel)), _, rfl, rfl⟩
theorem cbX7_setting : Cond.initialized (ps_y mX7_setting).cls ∈ lw_tbl ∧ Cond.code (ps_y mX7_setting) (ps_code mX7_setting) (ps_maxL mX7_setting) (ps_ret mX7_setting) ∈ lw_tbl ∧ ((ps_y mX7_setting).cls ≠ "java/lang/invoke/MethodHandle" ∧ (ps_y mX7_setting).cls ≠ "java/lang/invoke/VarHandle") ∧ (parseMethodDescriptor (ps_y mX7_setting).desc).map (fun d => d.parameters.length) = some 0 ∧ ps_maxL mX7_setting ≤ 21 := ⟨(ps_tm 1 (by decide +kernel)), (ps_tm 718 (by decide +kernel)), ⟨by decide +kernel, by decide +kernel⟩, by decide +kernel, by decide +kernel⟩
theorem ciX7_setting : Cond.instanceMethod (ps_y mX7_setting) ∈ lw_tbl ∧ Cond.selects (ps_y mX7_setting).cls (ps_y mX7_setting) (ps_y mX7_setting) ∈ lw_tbl ∧ ∃ r : vw_C, ps_cls[7]? = some r ∧ r.1 = (ps_y mX7_setting).cls := ⟨(ps_tm 716 (by decide +kernel)), (ps_tm 717 (by decide +kernel)), _, rfl, rfl⟩
theorem cbX8_setting : Cond.initialized (ps_y mX8_setting).cls ∈ lw_tbl ∧ Cond.code (ps_y mX8_setting) (ps_code mX8_setting) (ps_maxL mX8_setting) (ps_ret mX8_setting) ∈ lw_tbl ∧ ((ps_y mX8_setting).cls ≠ "java/lang/invoke/MethodHandle" ∧ (ps_y mX8_setting).cls ≠ "java/lang/invoke/VarHandle") ∧ (parseMethodDescriptor (ps_y mX8_setting).desc).map (fun d => d.parameters.length) = some 0 ∧ ps_maxL mX8_setting ≤ 21 := ⟨(ps_tm 10 (by decide +kernel)), (ps_tm 1164 (by decide +kernel)), ⟨by decide +kernel, by decide +kernel⟩, by decide +kernel, by decide +kernel⟩
theorem ciX8_setting : Cond.instanceMethod (ps_y mX8_setting) ∈ lw_tbl ∧ Cond.selects (ps_y mX8_setting).cls (ps_y mX8_setting) (ps_y mX8_setting) ∈ lw_tbl ∧ ∃ r : vw_C, ps_cls[8]? = some r ∧ r.1 = (ps_y mX8_setting).cls := ⟨(ps_tm 1162 (by decide +kernel)), (ps_tm 1163 (by decide +kernel)), _, rfl, rfl⟩
theorem cbX7_who : Cond.initialized (ps_y mX7_who).cls ∈ lw_tbl ∧ Cond.code (ps_y mX7_who) (ps_code mX7_who) (ps_maxL mX7_who) (ps_ret mX7_who) ∈ lw_tbl ∧ ((ps_y mX7_who).cls ≠ "java/lang/invoke/MethodHandle" ∧ (ps_y mX7_who).cls ≠ "java/lang/invoke/VarHandle") ∧ (parseMethodDescriptor (ps_y mX7_who).desc).map (fun d => d.parameters.length) = some 1 ∧ ps_maxL mX7_who ≤ 21 := ⟨(ps_tm 1 (by decide +kernel)), (ps_tm 752 (by decide +kernel)), ⟨by decide +kernel, by decide +kernel⟩, by decide +kernel, by decide +kernel⟩
theorem ciX7_who : Cond.instanceMethod (ps_y mX7_who) ∈ lw_tbl ∧ Cond.selects (ps_y mX7_who).cls (ps_y mX7_who) (ps_y mX7_who) ∈ lw_tbl ∧ ∃ r : vw_C, ps_cls[7]? = some r ∧ r.1 = (ps_y mX7_who).cls := ⟨(ps_tm 750 (by decide +kernel)), (ps_tm 751 (by decide +kernel)), _, rfl, rfl⟩
theorem cbX8_who : Cond.initialized (ps_y mX8_who).cls ∈ lw_tbl ∧ Cond.code (ps_y mX8_who) (ps_code mX8_who) (ps_maxL mX8_who) (ps_ret mX8_who) ∈ lw_tbl ∧ ((ps_y mX8_who).cls ≠ "java/lang/invoke/MethodHandle" ∧ (ps_y mX8_who).cls ≠ "java/lang/invoke/VarHandle") ∧ (parseMethodDescriptor (ps_y mX8_who).desc).map (fun d => d.parameters.length) = some 1 ∧ ps_maxL mX8_who ≤ 21 := ⟨(ps_tm 10 (by decide +kernel)), (ps_tm 1176 (by decide +kernel)), ⟨by decide +kernel, by decide +kernel⟩, by decide +kernel, by decide +kernel⟩
theorem ciX8_who : Cond.instanceMethod (ps_y mX8_who) ∈ lw_tbl ∧ Cond.selects (ps_y mX8_who).cls (ps_y mX8_who) (ps_y mX8_who) ∈ lw_tbl ∧ ∃ r : vw_C, ps_cls[8]? = some r ∧ r.1 = (ps_y mX8_who).cls := ⟨(ps_tm 1174 (by decide +kernel)), (ps_tm 1175 (by decide +kernel)), _, rfl, rfl⟩
theorem cbX7_sure : Cond.initialized (ps_y mX7_sure).cls ∈ lw_tbl ∧ Cond.code (ps_y mX7_sure) (ps_code mX7_sure) (ps_maxL mX7_sure) (ps_ret mX7_sure) ∈ lw_tbl ∧ ((ps_y mX7_sure).cls ≠ "java/lang/invoke/MethodHandle" ∧ (ps_y mX7_sure).cls ≠ "java/lang/invoke/VarHandle") ∧ (parseMethodDescriptor (ps_y mX7_sure).desc).map (fun d => d.parameters.length) = some 1 ∧ ps_maxL mX7_sure ≤ 21 := ⟨(ps_tm 1 (by decide +kernel)), (ps_tm 772 (by decide +kernel)), ⟨by decide +kernel, by decide +kernel⟩, by decide +kernel, by decide +kernel⟩
theorem ciX7_sure : Cond.instanceMethod (ps_y mX7_sure) ∈ lw_tbl ∧ Cond.selects (ps_y mX7_sure).cls (ps_y mX7_sure) (ps_y mX7_sure) ∈ lw_tbl ∧ ∃ r : vw_C, ps_cls[7]? = some r ∧ r.1 = (ps_y mX7_sure).cls := ⟨(ps_tm 770 (by decide +kernel)), (ps_tm 771 (by decide +kernel)), _, rfl, rfl⟩
theorem cbX8_sure : Cond.initialized (ps_y mX8_sure).cls ∈ lw_tbl ∧ Cond.code (ps_y mX8_sure) (ps_code mX8_sure) (ps_maxL mX8_sure) (ps_ret mX8_sure) ∈ lw_tbl ∧ ((ps_y mX8_sure).cls ≠ "java/lang/invoke/MethodHandle" ∧ (ps_y mX8_sure).cls ≠ "java/lang/invoke/VarHandle") ∧ (parseMethodDescriptor (ps_y mX8_sure).desc).map (fun d => d.parameters.length) = some 1 ∧ ps_maxL mX8_sure ≤ 21 := ⟨(ps_tm 10 (by decide +kernel)), (ps_tm 1180 (by decide +kernel)), ⟨by decide +kernel, by decide +kernel⟩, by decide +kernel, by decide +kernel⟩
theorem ciX8_sure : Cond.instanceMethod (ps_y mX8_sure) ∈ lw_tbl ∧ Cond.selects (ps_y mX8_sure).cls (ps_y mX8_sure) (ps_y mX8_sure) ∈ lw_tbl ∧ ∃ r : vw_C, ps_cls[8]? = some r ∧ r.1 = (ps_y mX8_sure).cls := ⟨(ps_tm 1178 (by decide +kernel)), (ps_tm 1179 (by decide +kernel)), _, rfl, rfl⟩
theorem cbX7_settings : Cond.initialized (ps_y mX7_settings).cls ∈ lw_tbl ∧ Cond.code (ps_y mX7_settings) (ps_code mX7_settings) (ps_maxL mX7_settings) (ps_ret mX7_settings) ∈ lw_tbl ∧ ((ps_y mX7_settings).cls ≠ "java/lang/invoke/MethodHandle" ∧ (ps_y mX7_settings).cls ≠ "java/lang/invoke/VarHandle") ∧ (parseMethodDescriptor (ps_y mX7_settings).desc).map (fun d => d.parameters.length) = some 0 ∧ ps_maxL mX7_settings ≤ 21 := ⟨(ps_tm 1 (by decide +kernel)), (ps_tm 780 (by decide +kernel)), ⟨by decide +kernel, by decide +kernel⟩, by decide +kernel, by decide +kernel⟩
theorem ciX7_settings : Cond.instanceMethod (ps_y mX7_settings) ∈ lw_tbl ∧ Cond.selects (ps_y mX7_settings).cls (ps_y mX7_settings) (ps_y mX7_settings) ∈ lw_tbl ∧ ∃ r : vw_C, ps_cls[7]? = some r ∧ r.1 = (ps_y mX7_settings).cls := ⟨(ps_tm 778 (by decide +kernel)), (ps_tm 779 (by decide +kernel)), _, rfl, rfl⟩
theorem cbX8_settings : Cond.initialized (ps_y mX8_settings).cls ∈ lw_tbl ∧ Cond.code (ps_y mX8_settings) (ps_code mX8_settings) (ps_maxL mX8_settings) (ps_ret mX8_settings) ∈ lw_tbl ∧ ((ps_y mX8_settings).cls ≠ "java/lang/invoke/MethodHandle" ∧ (ps_y mX8_settings).cls ≠ "java/lang/invoke/VarHandle") ∧ (parseMethodDescriptor (ps_y mX8_settings).desc).map (fun d => d.parameters.length) = some 0 ∧ ps_maxL mX8_settings ≤ 21 := ⟨(ps_tm 10 (by decide +kernel)), (ps_tm 1188 (by decide +kernel)), ⟨by decide +kernel, by decide +kernel⟩, by decide +kernel, by decide +kernel⟩
theorem ciX8_settings : Cond.instanceMethod (ps_y mX8_settings) ∈ lw_tbl ∧ Cond.selects (ps_y mX8_settings).cls (ps_y mX8_settings) (ps_y mX8_settings) ∈ lw_tbl ∧ ∃ r : vw_C, ps_cls[8]? = some r ∧ r.1 = (ps_y mX8_settings).cls := ⟨(ps_tm 1186 (by decide +kernel)), (ps_tm 1187 (by decide +kernel)), _, rfl, rfl⟩
theorem cbX7_count : Cond.initialized (ps_y mX7_count).cls ∈ lw_tbl ∧ Cond.code (ps_y mX7_count) (ps_code mX7_count) (ps_maxL mX7_count) (ps_ret mX7_count) ∈ lw_tbl ∧ ((ps_y mX7_count).cls ≠ "java/lang/invoke/MethodHandle" ∧ (ps_y mX7_count).cls ≠ "java/lang/invoke/VarHandle") ∧ (parseMethodDescriptor (ps_y mX7_count).desc).map (fun d => d.parameters.length) = some 1 ∧ ps_maxL mX7_count ≤ 21 := ⟨(ps_tm 1 (by decide +kernel)), (ps_tm 788 (by decide +kernel)), ⟨by decide +kernel, by decide +kernel⟩, by decide +kernel, by decide +kernel⟩
theorem ciX7_count : Cond.instanceMethod (ps_y mX7_count) ∈ lw_tbl ∧ Cond.selects (ps_y mX7_count).cls (ps_y mX7_count) (ps_y mX7_count) ∈ lw_tbl ∧ ∃ r : vw_C, ps_cls[7]? = some r ∧ r.1 = (ps_y mX7_count).cls := ⟨(ps_tm 786 (by decide +kernel)), (ps_tm 787 (by decide +kernel)), _, rfl, rfl⟩
theorem cbX8_count : Cond.initialized (ps_y mX8_count).cls ∈ lw_tbl ∧ Cond.code (ps_y mX8_count) (ps_code mX8_count) (ps_maxL mX8_count) (ps_ret mX8_count) ∈ lw_tbl ∧ ((ps_y mX8_count).cls ≠ "java/lang/invoke/MethodHandle" ∧ (ps_y mX8_count).cls ≠ "java/lang/invoke/VarHandle") ∧ (parseMethodDescriptor (ps_y mX8_count).desc).map (fun d => d.parameters.length) = some 1 ∧ ps_maxL mX8_count ≤ 21 := ⟨(ps_tm 10 (by decide +kernel)), (ps_tm 1192 (by decide +kernel)), ⟨by decide +kernel, by decide +kernel⟩, by decide +kernel, by decide +kernel⟩
theorem ciX8_count : Cond.instanceMethod (ps_y mX8_count) ∈ lw_tbl ∧ Cond.selects (ps_y mX8_count).cls (ps_y mX8_count) (ps_y mX8_count) ∈ lw_tbl ∧ ∃ r : vw_C, ps_cls[8]? = some r ∧ r.1 = (ps_y mX8_count).cls := ⟨(ps_tm 1190 (by decide +kernel)), (ps_tm 1191 (by decide +kernel)), _, rfl, rfl⟩
theorem cbX8_read : Cond.initialized (ps_y mX8_read).cls ∈ lw_tbl ∧ Cond.code (ps_y mX8_read) (ps_code mX8_read) (ps_maxL mX8_read) (ps_ret mX8_read) ∈ lw_tbl ∧ ((ps_y mX8_read).cls ≠ "java/lang/invoke/MethodHandle" ∧ (ps_y mX8_read).cls ≠ "java/lang/invoke/VarHandle") ∧ (parseMethodDescriptor (ps_y mX8_read).desc).map (fun d => d.parameters.length) = some 4 ∧ ps_maxL mX8_read ≤ 21 := ⟨(ps_tm 10 (by decide +kernel)), (ps_tm 914 (by decide +kernel)), ⟨by decide +kernel, by decide +kernel⟩, by decide +kernel, by decide +kernel⟩
theorem ciX8_read : Cond.instanceMethod (ps_y mX8_read) ∈ lw_tbl ∧ Cond.selects (ps_y mX8_read).cls (ps_y mX8_read) (ps_y mX8_read) ∈ lw_tbl ∧ ∃ r : vw_C, ps_cls[8]? = some r ∧ r.1 = (ps_y mX8_read).cls := ⟨(ps_tm 912 (by decide +kernel)), (ps_tm 913 (by decide +kernel)), _, rfl, rfl⟩
theorem cbX7_agree : Cond.initialized (ps_y mX7_agree).cls ∈ lw_tbl ∧ Cond.code (ps_y mX7_agree) (ps_code mX7_agree) (ps_maxL mX7_agree) (ps_ret mX7_agree) ∈ lw_tbl ∧ ((ps_y mX7_agree).cls ≠ "java/lang/invoke/MethodHandle" ∧ (ps_y mX7_agree).cls ≠ "java/lang/invoke/VarHandle") ∧ (parseMethodDescriptor (ps_y mX7_agree).desc).map (fun d => d.parameters.length) = some 3 ∧ ps_maxL mX7_agree ≤ 21 := ⟨(ps_tm 1 (by decide +kernel)), (ps_tm 288 (by decide +kernel)), ⟨by decide +kernel, by decide +kernel⟩, by decide +kernel, by decide +kernel⟩
theorem ciX7_agree : Cond.instanceMethod (ps_y mX7_agree) ∈ lw_tbl ∧ Cond.selects (ps_y mX7_agree).cls (ps_y mX7_agree) (ps_y mX7_agree) ∈ lw_tbl ∧ ∃ r : vw_C, ps_cls[7]? = some r ∧ r.1 = (ps_y mX7_agree).cls := ⟨(ps_tm 286 (by decide +kernel)), (ps_tm 287 (by decide +kernel)), _, rfl, rfl⟩
theorem cbX8_agree : Cond.initialized (ps_y mX8_agree).cls ∈ lw_tbl ∧ Cond.code (ps_y mX8_agree) (ps_code mX8_agree) (ps_maxL mX8_agree) (ps_ret mX8_agree) ∈ lw_tbl ∧ ((ps_y mX8_agree).cls ≠ "java/lang/invoke/MethodHandle" ∧ (ps_y mX8_agree).cls ≠ "java/lang/invoke/VarHandle") ∧ (parseMethodDescriptor (ps_y mX8_agree).desc).map (fun d => d.parameters.length) = some 3 ∧ ps_maxL mX8_agree ≤ 21 := ⟨(ps_tm 10 (by decide +kernel)), (ps_tm 936 (by decide +kernel)), ⟨by decide +kernel, by decide +kernel⟩, by decide +kernel, by decide +kernel⟩
theorem ciX8_agree : Cond.instanceMethod (ps_y mX8_agree) ∈ lw_tbl ∧ Cond.selects (ps_y mX8_agree).cls (ps_y mX8_agree) (ps_y mX8_agree) ∈ lw_tbl ∧ ∃ r : vw_C, ps_cls[8]? = some r ∧ r.1 = (ps_y mX8_agree).cls := ⟨(ps_tm 934 (by decide +kernel)), (ps_tm 935 (by decide +kernel)), _, rfl, rfl⟩
theorem cbX7_states : Cond.initialized (ps_y mX7_states).cls ∈ lw_tbl ∧ Cond.code (ps_y mX7_states) (ps_code mX7_states) (ps_maxL mX7_states) (ps_ret mX7_states) ∈ lw_tbl ∧ ((ps_y mX7_states).cls ≠ "java/lang/invoke/MethodHandle" ∧ (ps_y mX7_states).cls ≠ "java/lang/invoke/VarHandle") ∧ (parseMethodDescriptor (ps_y mX7_states).desc).map (fun d => d.parameters.length) = some 1 ∧ ps_maxL mX7_states ≤ 21 := ⟨(ps_tm 1 (by decide +kernel)), (ps_tm 299 (by decide +kernel)), ⟨by decide +kernel, by decide +kernel⟩, by decide +kernel, by decide +kernel⟩
theorem ciX7_states : Cond.instanceMethod (ps_y mX7_states) ∈ lw_tbl ∧ Cond.selects (ps_y mX7_states).cls (ps_y mX7_states) (ps_y mX7_states) ∈ lw_tbl ∧ ∃ r : vw_C, ps_cls[7]? = some r ∧ r.1 = (ps_y mX7_states).cls := ⟨(ps_tm 297 (by decide +kernel)), (ps_tm 298 (by decide +kernel)), _, rfl, rfl⟩
theorem cbX8_states : Cond.initialized (ps_y mX8_states).cls ∈ lw_tbl ∧ Cond.code (ps_y mX8_states) (ps_code mX8_states) (ps_maxL mX8_states) (ps_ret mX8_states) ∈ lw_tbl ∧ ((ps_y mX8_states).cls ≠ "java/lang/invoke/MethodHandle" ∧ (ps_y mX8_states).cls ≠ "java/lang/invoke/VarHandle") ∧ (parseMethodDescriptor (ps_y mX8_states).desc).map (fun d => d.parameters.length) = some 1 ∧ ps_maxL mX8_states ≤ 21 := ⟨(ps_tm 10 (by decide +kernel)), (ps_tm 944 (by decide +kernel)), ⟨by decide +kernel, by decide +kernel⟩, by decide +kernel, by decide +kernel⟩
theorem ciX8_states : Cond.instanceMethod (ps_y mX8_states) ∈ lw_tbl ∧ Cond.selects (ps_y mX8_states).cls (ps_y mX8_states) (ps_y mX8_states) ∈ lw_tbl ∧ ∃ r : vw_C, ps_cls[8]? = some r ∧ r.1 = (ps_y mX8_states).cls := ⟨(ps_tm 942 (by decide +kernel)), (ps_tm 943 (by decide +kernel)), _, rfl, rfl⟩
theorem cbX7_state : Cond.initialized (ps_y mX7_state).cls ∈ lw_tbl ∧ Cond.code (ps_y mX7_state) (ps_code mX7_state) (ps_maxL mX7_state) (ps_ret mX7_state) ∈ lw_tbl ∧ ((ps_y mX7_state).cls ≠ "java/lang/invoke/MethodHandle" ∧ (ps_y mX7_state).cls ≠ "java/lang/invoke/VarHandle") ∧ (parseMethodDescriptor (ps_y mX7_state).desc).map (fun d => d.parameters.length) = some 2 ∧ ps_maxL mX7_state ≤ 21 := ⟨(ps_tm 1 (by decide +kernel)), (ps_tm 326 (by decide +kernel)), ⟨by decide +kernel, by decide +kernel⟩, by decide +kernel, by decide +kernel⟩
theorem ciX7_state : Cond.instanceMethod (ps_y mX7_state) ∈ lw_tbl ∧ Cond.selects (ps_y mX7_state).cls (ps_y mX7_state) (ps_y mX7_state) ∈ lw_tbl ∧ ∃ r : vw_C, ps_cls[7]? = some r ∧ r.1 = (ps_y mX7_state).cls := ⟨(ps_tm 324 (by decide +kernel)), (ps_tm 325 (by decide +kernel)), _, rfl, rfl⟩
theorem cbX8_state : Cond.initialized (ps_y mX8_state).cls ∈ lw_tbl ∧ Cond.code (ps_y mX8_state) (ps_code mX8_state) (ps_maxL mX8_state) (ps_ret mX8_state) ∈ lw_tbl ∧ ((ps_y mX8_state).cls ≠ "java/lang/invoke/MethodHandle" ∧ (ps_y mX8_state).cls ≠ "java/lang/invoke/VarHandle") ∧ (parseMethodDescriptor (ps_y mX8_state).desc).map (fun d => d.parameters.length) = some 2 ∧ ps_maxL mX8_state ≤ 21 := ⟨(ps_tm 10 (by decide +kernel)), (ps_tm 964 (by decide +kernel)), ⟨by decide +kernel, by decide +kernel⟩, by decide +kernel, by decide +kernel⟩
theorem ciX8_state : Cond.instanceMethod (ps_y mX8_state) ∈ lw_tbl ∧ Cond.selects (ps_y mX8_state).cls (ps_y mX8_state) (ps_y mX8_state) ∈ lw_tbl ∧ ∃ r : vw_C, ps_cls[8]? = some r ∧ r.1 = (ps_y mX8_state).cls := ⟨(ps_tm 962 (by decide +kernel)), (ps_tm 963 (by decide +kernel)), _, rfl, rfl⟩
theorem cbX7_letter : Cond.initialized (ps_y mX7_letter).cls ∈ lw_tbl ∧ Cond.code (ps_y mX7_letter) (ps_code mX7_letter) (ps_maxL mX7_letter) (ps_ret mX7_letter) ∈ lw_tbl ∧ ((ps_y mX7_letter).cls ≠ "java/lang/invoke/MethodHandle" ∧ (ps_y mX7_letter).cls ≠ "java/lang/invoke/VarHandle") ∧ (parseMethodDescriptor (ps_y mX7_letter).desc).map (fun d => d.parameters.length) = some 3 ∧ ps_maxL mX7_letter ≤ 21 := ⟨(ps_tm 1 (by decide +kernel)), (ps_tm 330 (by decide +kernel)), ⟨by decide +kernel, by decide +kernel⟩, by decide +kernel, by decide +kernel⟩
theorem ciX7_letter : Cond.instanceMethod (ps_y mX7_letter) ∈ lw_tbl ∧ Cond.selects (ps_y mX7_letter).cls (ps_y mX7_letter) (ps_y mX7_letter) ∈ lw_tbl ∧ ∃ r : vw_C, ps_cls[7]? = some r ∧ r.1 = (ps_y mX7_letter).cls := ⟨(ps_tm 328 (by decide +kernel)), (ps_tm 329 (by decide +kernel)), _, rfl, rfl⟩
theorem cbX8_letter : Cond.initialized (ps_y mX8_letter).cls ∈ lw_tbl ∧ Cond.code (ps_y mX8_letter) (ps_code mX8_letter) (ps_maxL mX8_letter) (ps_ret mX8_letter) ∈ lw_tbl ∧ ((ps_y mX8_letter).cls ≠ "java/lang/invoke/MethodHandle" ∧ (ps_y mX8_letter).cls ≠ "java/lang/invoke/VarHandle") ∧ (parseMethodDescriptor (ps_y mX8_letter).desc).map (fun d => d.parameters.length) = some 3 ∧ ps_maxL mX8_letter ≤ 21 := ⟨(ps_tm 10 (by decide +kernel)), (ps_tm 968 (by decide +kernel)), ⟨by decide +kernel, by decide +kernel⟩, by decide +kernel, by decide +kernel⟩
theorem ciX8_letter : Cond.instanceMethod (ps_y mX8_letter) ∈ lw_tbl ∧ Cond.selects (ps_y mX8_letter).cls (ps_y mX8_letter) (ps_y mX8_letter) ∈ lw_tbl ∧ ∃ r : vw_C, ps_cls[8]? = some r ∧ r.1 = (ps_y mX8_letter).cls := ⟨(ps_tm 966 (by decide +kernel)), (ps_tm 967 (by decide +kernel)), _, rfl, rfl⟩
theorem cbX7_slips : Cond.initialized (ps_y mX7_slips).cls ∈ lw_tbl ∧ Cond.code (ps_y mX7_slips) (ps_code mX7_slips) (ps_maxL mX7_slips) (ps_ret mX7_slips) ∈ lw_tbl ∧ ((ps_y mX7_slips).cls ≠ "java/lang/invoke/MethodHandle" ∧ (ps_y mX7_slips).cls ≠ "java/lang/invoke/VarHandle") ∧ (parseMethodDescriptor (ps_y mX7_slips).desc).map (fun d => d.parameters.length) = some 2 ∧ ps_maxL mX7_slips ≤ 21 := ⟨(ps_tm 1 (by decide +kernel)), (ps_tm 342 (by decide +kernel)), ⟨by decide +kernel, by decide +kernel⟩, by decide +kernel, by decide +kernel⟩
theorem ciX7_slips : Cond.instanceMethod (ps_y mX7_slips) ∈ lw_tbl ∧ Cond.selects (ps_y mX7_slips).cls (ps_y mX7_slips) (ps_y mX7_slips) ∈ lw_tbl ∧ ∃ r : vw_C, ps_cls[7]? = some r ∧ r.1 = (ps_y mX7_slips).cls := ⟨(ps_tm 340 (by decide +kernel)), (ps_tm 341 (by decide +kernel)), _, rfl, rfl⟩
theorem cbX8_slips : Cond.initialized (ps_y mX8_slips).cls ∈ lw_tbl ∧ Cond.code (ps_y mX8_slips) (ps_code mX8_slips) (ps_maxL mX8_slips) (ps_ret mX8_slips) ∈ lw_tbl ∧ ((ps_y mX8_slips).cls ≠ "java/lang/invoke/MethodHandle" ∧ (ps_y mX8_slips).cls ≠ "java/lang/invoke/VarHandle") ∧ (parseMethodDescriptor (ps_y mX8_slips).desc).map (fun d => d.parameters.length) = some 2 ∧ ps_maxL mX8_slips ≤ 21 := ⟨(ps_tm 10 (by decide +kernel)), (ps_tm 976 (by decide +kernel)), ⟨by decide +kernel, by decide +kernel⟩, by decide +kernel, by decide +kernel⟩
theorem ciX8_slips : Cond.instanceMethod (ps_y mX8_slips) ∈ lw_tbl ∧ Cond.selects (ps_y mX8_slips).cls (ps_y mX8_slips) (ps_y mX8_slips) ∈ lw_tbl ∧ ∃ r : vw_C, ps_cls[8]? = some r ∧ r.1 = (ps_y mX8_slips).cls := ⟨(ps_tm 974 (by decide +kernel)), (ps_tm 975 (by decide +kernel)), _, rfl, rfl⟩
theorem cbX7_ahead : Cond.initialized (ps_y mX7_ahead).cls ∈ lw_tbl ∧ Cond.code (ps_y mX7_ahead) (ps_code mX7_ahead) (ps_maxL mX7_ahead) (ps_ret mX7_ahead) ∈ lw_tbl ∧ ((ps_y mX7_ahead).cls ≠ "java/lang/invoke/MethodHandle" ∧ (ps_y mX7_ahead).cls ≠ "java/lang/invoke/VarHandle") ∧ (parseMethodDescriptor (ps_y mX7_ahead).desc).map (fun d => d.parameters.length) = some 4 ∧ ps_maxL mX7_ahead ≤ 21 := ⟨(ps_tm 1 (by decide +kernel)), (ps_tm 388 (by decide +kernel)), ⟨by decide +kernel, by decide +kernel⟩, by decide +kernel, by decide +kernel⟩
theorem ciX7_ahead : Cond.instanceMethod (ps_y mX7_ahead) ∈ lw_tbl ∧ Cond.selects (ps_y mX7_ahead).cls (ps_y mX7_ahead) (ps_y mX7_ahead) ∈ lw_tbl ∧ ∃ r : vw_C, ps_cls[7]? = some r ∧ r.1 = (ps_y mX7_ahead).cls := ⟨(ps_tm 386 (by decide +kernel)), (ps_tm 387 (by decide +kernel)), _, rfl, rfl⟩
theorem cbX8_ahead : Cond.initialized (ps_y mX8_ahead).cls ∈ lw_tbl ∧ Cond.code (ps_y mX8_ahead) (ps_code mX8_ahead) (ps_maxL mX8_ahead) (ps_ret mX8_ahead) ∈ lw_tbl ∧ ((ps_y mX8_ahead).cls ≠ "java/lang/invoke/MethodHandle" ∧ (ps_y mX8_ahead).cls ≠ "java/lang/invoke/VarHandle") ∧ (parseMethodDescriptor (ps_y mX8_ahead).desc).map (fun d => d.parameters.length) = some 4 ∧ ps_maxL mX8_ahead ≤ 21 := ⟨(ps_tm 10 (by decide +kernel)), (ps_tm 984 (by decide +kernel)), ⟨by decide +kernel, by decide +kernel⟩, by decide +kernel, by decide +kernel⟩
theorem ciX8_ahead : Cond.instanceMethod (ps_y mX8_ahead) ∈ lw_tbl ∧ Cond.selects (ps_y mX8_ahead).cls (ps_y mX8_ahead) (ps_y mX8_ahead) ∈ lw_tbl ∧ ∃ r : vw_C, ps_cls[8]? = some r ∧ r.1 = (ps_y mX8_ahead).cls := ⟨(ps_tm 982 (by decide +kernel)), (ps_tm 983 (by decide +kernel)), _, rfl, rfl⟩
theorem cbX7_changes : Cond.initialized (ps_y mX7_changes).cls ∈ lw_tbl ∧ Cond.code (ps_y mX7_changes) (ps_code mX7_changes) (ps_maxL mX7_changes) (ps_ret mX7_changes) ∈ lw_tbl ∧ ((ps_y mX7_changes).cls ≠ "java/lang/invoke/MethodHandle" ∧ (ps_y mX7_changes).cls ≠ "java/lang/invoke/VarHandle") ∧ (parseMethodDescriptor (ps_y mX7_changes).desc).map (fun d => d.parameters.length) = some 3 ∧ ps_maxL mX7_changes ≤ 21 := ⟨(ps_tm 1 (by decide +kernel)), (ps_tm 397 (by decide +kernel)), ⟨by decide +kernel, by decide +kernel⟩, by decide +kernel, by decide +kernel⟩
theorem ciX7_changes : Cond.instanceMethod (ps_y mX7_changes) ∈ lw_tbl ∧ Cond.selects (ps_y mX7_changes).cls (ps_y mX7_changes) (ps_y mX7_changes) ∈ lw_tbl ∧ ∃ r : vw_C, ps_cls[7]? = some r ∧ r.1 = (ps_y mX7_changes).cls := ⟨(ps_tm 395 (by decide +kernel)), (ps_tm 396 (by decide +kernel)), _, rfl, rfl⟩
theorem cbX8_changes : Cond.initialized (ps_y mX8_changes).cls ∈ lw_tbl ∧ Cond.code (ps_y mX8_changes) (ps_code mX8_changes) (ps_maxL mX8_changes) (ps_ret mX8_changes) ∈ lw_tbl ∧ ((ps_y mX8_changes).cls ≠ "java/lang/invoke/MethodHandle" ∧ (ps_y mX8_changes).cls ≠ "java/lang/invoke/VarHandle") ∧ (parseMethodDescriptor (ps_y mX8_changes).desc).map (fun d => d.parameters.length) = some 3 ∧ ps_maxL mX8_changes ≤ 21 := ⟨(ps_tm 10 (by decide +kernel)), (ps_tm 989 (by decide +kernel)), ⟨by decide +kernel, by decide +kernel⟩, by decide +kernel, by decide +kernel⟩
theorem ciX8_changes : Cond.instanceMethod (ps_y mX8_changes) ∈ lw_tbl ∧ Cond.selects (ps_y mX8_changes).cls (ps_y mX8_changes) (ps_y mX8_changes) ∈ lw_tbl ∧ ∃ r : vw_C, ps_cls[8]? = some r ∧ r.1 = (ps_y mX8_changes).cls := ⟨(ps_tm 987 (by decide +kernel)), (ps_tm 988 (by decide +kernel)), _, rfl, rfl⟩
theorem cbX7_least : Cond.initialized (ps_y mX7_least).cls ∈ lw_tbl ∧ Cond.code (ps_y mX7_least) (ps_code mX7_least) (ps_maxL mX7_least) (ps_ret mX7_least) ∈ lw_tbl ∧ ((ps_y mX7_least).cls ≠ "java/lang/invoke/MethodHandle" ∧ (ps_y mX7_least).cls ≠ "java/lang/invoke/VarHandle") ∧ (parseMethodDescriptor (ps_y mX7_least).desc).map (fun d => d.parameters.length) = some 1 ∧ ps_maxL mX7_least ≤ 21 := ⟨(ps_tm 1 (by decide +kernel)), (ps_tm 406 (by decide +kernel)), ⟨by decide +kernel, by decide +kernel⟩, by decide +kernel, by decide +kernel⟩
theorem ciX7_least : Cond.instanceMethod (ps_y mX7_least) ∈ lw_tbl ∧ Cond.selects (ps_y mX7_least).cls (ps_y mX7_least) (ps_y mX7_least) ∈ lw_tbl ∧ ∃ r : vw_C, ps_cls[7]? = some r ∧ r.1 = (ps_y mX7_least).cls := ⟨(ps_tm 404 (by decide +kernel)), (ps_tm 405 (by decide +kernel)), _, rfl, rfl⟩
theorem cbX8_least : Cond.initialized (ps_y mX8_least).cls ∈ lw_tbl ∧ Cond.code (ps_y mX8_least) (ps_code mX8_least) (ps_maxL mX8_least) (ps_ret mX8_least) ∈ lw_tbl ∧ ((ps_y mX8_least).cls ≠ "java/lang/invoke/MethodHandle" ∧ (ps_y mX8_least).cls ≠ "java/lang/invoke/VarHandle") ∧ (parseMethodDescriptor (ps_y mX8_least).desc).map (fun d => d.parameters.length) = some 1 ∧ ps_maxL mX8_least ≤ 21 := ⟨(ps_tm 10 (by decide +kernel)), (ps_tm 997 (by decide +kernel)), ⟨by decide +kernel, by decide +kernel⟩, by decide +kernel, by decide +kernel⟩
theorem ciX8_least : Cond.instanceMethod (ps_y mX8_least) ∈ lw_tbl ∧ Cond.selects (ps_y mX8_least).cls (ps_y mX8_least) (ps_y mX8_least) ∈ lw_tbl ∧ ∃ r : vw_C, ps_cls[8]? = some r ∧ r.1 = (ps_y mX8_least).cls := ⟨(ps_tm 995 (by decide +kernel)), (ps_tm 996 (by decide +kernel)), _, rfl, rfl⟩
theorem cbX7_orders : Cond.initialized (ps_y mX7_orders).cls ∈ lw_tbl ∧ Cond.code (ps_y mX7_orders) (ps_code mX7_orders) (ps_maxL mX7_orders) (ps_ret mX7_orders) ∈ lw_tbl ∧ ((ps_y mX7_orders).cls ≠ "java/lang/invoke/MethodHandle" ∧ (ps_y mX7_orders).cls ≠ "java/lang/invoke/VarHandle") ∧ (parseMethodDescriptor (ps_y mX7_orders).desc).map (fun d => d.parameters.length) = some 1 ∧ ps_maxL mX7_orders ≤ 21 := ⟨(ps_tm 1 (by decide +kernel)), (ps_tm 463 (by decide +kernel)), ⟨by decide +kernel, by decide +kernel⟩, by decide +kernel, by decide +kernel⟩
theorem ciX7_orders : Cond.instanceMethod (ps_y mX7_orders) ∈ lw_tbl ∧ Cond.selects (ps_y mX7_orders).cls (ps_y mX7_orders) (ps_y mX7_orders) ∈ lw_tbl ∧ ∃ r : vw_C, ps_cls[7]? = some r ∧ r.1 = (ps_y mX7_orders).cls := ⟨(ps_tm 461 (by decide +kernel)), (ps_tm 462 (by decide +kernel)), _, rfl, rfl⟩
theorem cbX8_orders : Cond.initialized (ps_y mX8_orders).cls ∈ lw_tbl ∧ Cond.code (ps_y mX8_orders) (ps_code mX8_orders) (ps_maxL mX8_orders) (ps_ret mX8_orders) ∈ lw_tbl ∧ ((ps_y mX8_orders).cls ≠ "java/lang/invoke/MethodHandle" ∧ (ps_y mX8_orders).cls ≠ "java/lang/invoke/VarHandle") ∧ (parseMethodDescriptor (ps_y mX8_orders).desc).map (fun d => d.parameters.length) = some 1 ∧ ps_maxL mX8_orders ≤ 21 := ⟨(ps_tm 10 (by decide +kernel)), (ps_tm 1014 (by decide +kernel)), ⟨by decide +kernel, by decide +kernel⟩, by decide +kernel, by decide +kernel⟩
theorem ciX8_orders : Cond.instanceMethod (ps_y mX8_orders) ∈ lw_tbl ∧ Cond.selects (ps_y mX8_orders).cls (ps_y mX8_orders) (ps_y mX8_orders) ∈ lw_tbl ∧ ∃ r : vw_C, ps_cls[8]? = some r ∧ r.1 = (ps_y mX8_orders).cls := ⟨(ps_tm 1012 (by decide +kernel)), (ps_tm 1013 (by decide +kernel)), _, rfl, rfl⟩
theorem cbX7_first : Cond.initialized (ps_y mX7_first).cls ∈ lw_tbl ∧ Cond.code (ps_y mX7_first) (ps_code mX7_first) (ps_maxL mX7_first) (ps_ret mX7_first) ∈ lw_tbl ∧ ((ps_y mX7_first).cls ≠ "java/lang/invoke/MethodHandle" ∧ (ps_y mX7_first).cls ≠ "java/lang/invoke/VarHandle") ∧ (parseMethodDescriptor (ps_y mX7_first).desc).map (fun d => d.parameters.length) = some 2 ∧ ps_maxL mX7_first ≤ 21 := ⟨(ps_tm 1 (by decide +kernel)), (ps_tm 471 (by decide +kernel)), ⟨by decide +kernel, by decide +kernel⟩, by decide +kernel, by decide +kernel⟩
theorem ciX7_first : Cond.instanceMethod (ps_y mX7_first) ∈ lw_tbl ∧ Cond.selects (ps_y mX7_first).cls (ps_y mX7_first) (ps_y mX7_first) ∈ lw_tbl ∧ ∃ r : vw_C, ps_cls[7]? = some r ∧ r.1 = (ps_y mX7_first).cls := ⟨(ps_tm 469 (by decide +kernel)), (ps_tm 470 (by decide +kernel)), _, rfl, rfl⟩
theorem cbX8_first : Cond.initialized (ps_y mX8_first).cls ∈ lw_tbl ∧ Cond.code (ps_y mX8_first) (ps_code mX8_first) (ps_maxL mX8_first) (ps_ret mX8_first) ∈ lw_tbl ∧ ((ps_y mX8_first).cls ≠ "java/lang/invoke/MethodHandle" ∧ (ps_y mX8_first).cls ≠ "java/lang/invoke/VarHandle") ∧ (parseMethodDescriptor (ps_y mX8_first).desc).map (fun d => d.parameters.length) = some 2 ∧ ps_maxL mX8_first ≤ 21 := ⟨(ps_tm 10 (by decide +kernel)), (ps_tm 1022 (by decide +kernel)), ⟨by decide +kernel, by decide +kernel⟩, by decide +kernel, by decide +kernel⟩
theorem ciX8_first : Cond.instanceMethod (ps_y mX8_first) ∈ lw_tbl ∧ Cond.selects (ps_y mX8_first).cls (ps_y mX8_first) (ps_y mX8_first) ∈ lw_tbl ∧ ∃ r : vw_C, ps_cls[8]? = some r ∧ r.1 = (ps_y mX8_first).cls := ⟨(ps_tm 1020 (by decide +kernel)), (ps_tm 1021 (by decide +kernel)), _, rfl, rfl⟩
theorem cbX7_before : Cond.initialized (ps_y mX7_before).cls ∈ lw_tbl ∧ Cond.code (ps_y mX7_before) (ps_code mX7_before) (ps_maxL mX7_before) (ps_ret mX7_before) ∈ lw_tbl ∧ ((ps_y mX7_before).cls ≠ "java/lang/invoke/MethodHandle" ∧ (ps_y mX7_before).cls ≠ "java/lang/invoke/VarHandle") ∧ (parseMethodDescriptor (ps_y mX7_before).desc).map (fun d => d.parameters.length) = some 3 ∧ ps_maxL mX7_before ≤ 21 := ⟨(ps_tm 1 (by decide +kernel)), (ps_tm 479 (by decide +kernel)), ⟨by decide +kernel, by decide +kernel⟩, by decide +kernel, by decide +kernel⟩
theorem ciX7_before : Cond.instanceMethod (ps_y mX7_before) ∈ lw_tbl ∧ Cond.selects (ps_y mX7_before).cls (ps_y mX7_before) (ps_y mX7_before) ∈ lw_tbl ∧ ∃ r : vw_C, ps_cls[7]? = some r ∧ r.1 = (ps_y mX7_before).cls := ⟨(ps_tm 477 (by decide +kernel)), (ps_tm 478 (by decide +kernel)), _, rfl, rfl⟩
theorem cbX8_before : Cond.initialized (ps_y mX8_before).cls ∈ lw_tbl ∧ Cond.code (ps_y mX8_before) (ps_code mX8_before) (ps_maxL mX8_before) (ps_ret mX8_before) ∈ lw_tbl ∧ ((ps_y mX8_before).cls ≠ "java/lang/invoke/MethodHandle" ∧ (ps_y mX8_before).cls ≠ "java/lang/invoke/VarHandle") ∧ (parseMethodDescriptor (ps_y mX8_before).desc).map (fun d => d.parameters.length) = some 3 ∧ ps_maxL mX8_before ≤ 21 := ⟨(ps_tm 10 (by decide +kernel)), (ps_tm 1030 (by decide +kernel)), ⟨by decide +kernel, by decide +kernel⟩, by decide +kernel, by decide +kernel⟩
theorem ciX8_before : Cond.instanceMethod (ps_y mX8_before) ∈ lw_tbl ∧ Cond.selects (ps_y mX8_before).cls (ps_y mX8_before) (ps_y mX8_before) ∈ lw_tbl ∧ ∃ r : vw_C, ps_cls[8]? = some r ∧ r.1 = (ps_y mX8_before).cls := ⟨(ps_tm 1028 (by decide +kernel)), (ps_tm 1029 (by decide +kernel)), _, rfl, rfl⟩
theorem cbX7_piece : Cond.initialized (ps_y mX7_piece).cls ∈ lw_tbl ∧ Cond.code (ps_y mX7_piece) (ps_code mX7_piece) (ps_maxL mX7_piece) (ps_ret mX7_piece) ∈ lw_tbl ∧ ((ps_y mX7_piece).cls ≠ "java/lang/invoke/MethodHandle" ∧ (ps_y mX7_piece).cls ≠ "java/lang/invoke/VarHandle") ∧ (parseMethodDescriptor (ps_y mX7_piece).desc).map (fun d => d.parameters.length) = some 3 ∧ ps_maxL mX7_piece ≤ 21 := ⟨(ps_tm 1 (by decide +kernel)), (ps_tm 487 (by decide +kernel)), ⟨by decide +kernel, by decide +kernel⟩, by decide +kernel, by decide +kernel⟩
theorem ciX7_piece : Cond.instanceMethod (ps_y mX7_piece) ∈ lw_tbl ∧ Cond.selects (ps_y mX7_piece).cls (ps_y mX7_piece) (ps_y mX7_piece) ∈ lw_tbl ∧ ∃ r : vw_C, ps_cls[7]? = some r ∧ r.1 = (ps_y mX7_piece).cls := ⟨(ps_tm 485 (by decide +kernel)), (ps_tm 486 (by decide +kernel)), _, rfl, rfl⟩
theorem cbX8_piece : Cond.initialized (ps_y mX8_piece).cls ∈ lw_tbl ∧ Cond.code (ps_y mX8_piece) (ps_code mX8_piece) (ps_maxL mX8_piece) (ps_ret mX8_piece) ∈ lw_tbl ∧ ((ps_y mX8_piece).cls ≠ "java/lang/invoke/MethodHandle" ∧ (ps_y mX8_piece).cls ≠ "java/lang/invoke/VarHandle") ∧ (parseMethodDescriptor (ps_y mX8_piece).desc).map (fun d => d.parameters.length) = some 3 ∧ ps_maxL mX8_piece ≤ 21 := ⟨(ps_tm 10 (by decide +kernel)), (ps_tm 1034 (by decide +kernel)), ⟨by decide +kernel, by decide +kernel⟩, by decide +kernel, by decide +kernel⟩
theorem ciX8_piece : Cond.instanceMethod (ps_y mX8_piece) ∈ lw_tbl ∧ Cond.selects (ps_y mX8_piece).cls (ps_y mX8_piece) (ps_y mX8_piece) ∈ lw_tbl ∧ ∃ r : vw_C, ps_cls[8]? = some r ∧ r.1 = (ps_y mX8_piece).cls := ⟨(ps_tm 1032 (by decide +kernel)), (ps_tm 1033 (by decide +kernel)), _, rfl, rfl⟩
theorem cbX7_share : Cond.initialized (ps_y mX7_share).cls ∈ lw_tbl ∧ Cond.code (ps_y mX7_share) (ps_code mX7_share) (ps_maxL mX7_share) (ps_ret mX7_share) ∈ lw_tbl ∧ ((ps_y mX7_share).cls ≠ "java/lang/invoke/MethodHandle" ∧ (ps_y mX7_share).cls ≠ "java/lang/invoke/VarHandle") ∧ (parseMethodDescriptor (ps_y mX7_share).desc).map (fun d => d.parameters.length) = some 2 ∧ ps_maxL mX7_share ≤ 21 := ⟨(ps_tm 1 (by decide +kernel)), (ps_tm 514 (by decide +kernel)), ⟨by decide +kernel, by decide +kernel⟩, by decide +kernel, by decide +kernel⟩
theorem ciX7_share : Cond.instanceMethod (ps_y mX7_share) ∈ lw_tbl ∧ Cond.selects (ps_y mX7_share).cls (ps_y mX7_share) (ps_y mX7_share) ∈ lw_tbl ∧ ∃ r : vw_C, ps_cls[7]? = some r ∧ r.1 = (ps_y mX7_share).cls := ⟨(ps_tm 512 (by decide +kernel)), (ps_tm 513 (by decide +kernel)), _, rfl, rfl⟩
theorem cbX8_share : Cond.initialized (ps_y mX8_share).cls ∈ lw_tbl ∧ Cond.code (ps_y mX8_share) (ps_code mX8_share) (ps_maxL mX8_share) (ps_ret mX8_share) ∈ lw_tbl ∧ ((ps_y mX8_share).cls ≠ "java/lang/invoke/MethodHandle" ∧ (ps_y mX8_share).cls ≠ "java/lang/invoke/VarHandle") ∧ (parseMethodDescriptor (ps_y mX8_share).desc).map (fun d => d.parameters.length) = some 2 ∧ ps_maxL mX8_share ≤ 21 := ⟨(ps_tm 10 (by decide +kernel)), (ps_tm 1039 (by decide +kernel)), ⟨by decide +kernel, by decide +kernel⟩, by decide +kernel, by decide +kernel⟩
theorem ciX8_share : Cond.instanceMethod (ps_y mX8_share) ∈ lw_tbl ∧ Cond.selects (ps_y mX8_share).cls (ps_y mX8_share) (ps_y mX8_share) ∈ lw_tbl ∧ ∃ r : vw_C, ps_cls[8]? = some r ∧ r.1 = (ps_y mX8_share).cls := ⟨(ps_tm 1037 (by decide +kernel)), (ps_tm 1038 (by decide +kernel)), _, rfl, rfl⟩
theorem cbX7_must : Cond.initialized (ps_y mX7_must).cls ∈ lw_tbl ∧ Cond.code (ps_y mX7_must) (ps_code mX7_must) (ps_maxL mX7_must) (ps_ret mX7_must) ∈ lw_tbl ∧ ((ps_y mX7_must).cls ≠ "java/lang/invoke/MethodHandle" ∧ (ps_y mX7_must).cls ≠ "java/lang/invoke/VarHandle") ∧ (parseMethodDescriptor (ps_y mX7_must).desc).map (fun d => d.parameters.length) = some 2 ∧ ps_maxL mX7_must ≤ 21 := ⟨(ps_tm 1 (by decide +kernel)), (ps_tm 518 (by decide +kernel)), ⟨by decide +kernel, by decide +kernel⟩, by decide +kernel, by decide +kernel⟩
theorem ciX7_must : Cond.instanceMethod (ps_y mX7_must) ∈ lw_tbl ∧ Cond.selects (ps_y mX7_must).cls (ps_y mX7_must) (ps_y mX7_must) ∈ lw_tbl ∧ ∃ r : vw_C, ps_cls[7]? = some r ∧ r.1 = (ps_y mX7_must).cls := ⟨(ps_tm 516 (by decide +kernel)), (ps_tm 517 (by decide +kernel)), _, rfl, rfl⟩
theorem cbX8_must : Cond.initialized (ps_y mX8_must).cls ∈ lw_tbl ∧ Cond.code (ps_y mX8_must) (ps_code mX8_must) (ps_maxL mX8_must) (ps_ret mX8_must) ∈ lw_tbl ∧ ((ps_y mX8_must).cls ≠ "java/lang/invoke/MethodHandle" ∧ (ps_y mX8_must).cls ≠ "java/lang/invoke/VarHandle") ∧ (parseMethodDescriptor (ps_y mX8_must).desc).map (fun d => d.parameters.length) = some 2 ∧ ps_maxL mX8_must ≤ 21 := ⟨(ps_tm 10 (by decide +kernel)), (ps_tm 1047 (by decide +kernel)), ⟨by decide +kernel, by decide +kernel⟩, by decide +kernel, by decide +kernel⟩
theorem ciX8_must : Cond.instanceMethod (ps_y mX8_must) ∈ lw_tbl ∧ Cond.selects (ps_y mX8_must).cls (ps_y mX8_must) (ps_y mX8_must) ∈ lw_tbl ∧ ∃ r : vw_C, ps_cls[8]? = some r ∧ r.1 = (ps_y mX8_must).cls := ⟨(ps_tm 1045 (by decide +kernel)), (ps_tm 1046 (by decide +kernel)), _, rfl, rfl⟩
theorem cbX7_ring : Cond.initialized (ps_y mX7_ring).cls ∈ lw_tbl ∧ Cond.code (ps_y mX7_ring) (ps_code mX7_ring) (ps_maxL mX7_ring) (ps_ret mX7_ring) ∈ lw_tbl ∧ ((ps_y mX7_ring).cls ≠ "java/lang/invoke/MethodHandle" ∧ (ps_y mX7_ring).cls ≠ "java/lang/invoke/VarHandle") ∧ (parseMethodDescriptor (ps_y mX7_ring).desc).map (fun d => d.parameters.length) = some 0 ∧ ps_maxL mX7_ring ≤ 21 := ⟨(ps_tm 1 (by decide +kernel)), (ps_tm 522 (by decide +kernel)), ⟨by decide +kernel, by decide +kernel⟩, by decide +kernel, by decide +kernel⟩
theorem ciX7_ring : Cond.instanceMethod (ps_y mX7_ring) ∈ lw_tbl ∧ Cond.selects (ps_y mX7_ring).cls (ps_y mX7_ring) (ps_y mX7_ring) ∈ lw_tbl ∧ ∃ r : vw_C, ps_cls[7]? = some r ∧ r.1 = (ps_y mX7_ring).cls := ⟨(ps_tm 520 (by decide +kernel)), (ps_tm 521 (by decide +kernel)), _, rfl, rfl⟩
theorem cbX8_ring : Cond.initialized (ps_y mX8_ring).cls ∈ lw_tbl ∧ Cond.code (ps_y mX8_ring) (ps_code mX8_ring) (ps_maxL mX8_ring) (ps_ret mX8_ring) ∈ lw_tbl ∧ ((ps_y mX8_ring).cls ≠ "java/lang/invoke/MethodHandle" ∧ (ps_y mX8_ring).cls ≠ "java/lang/invoke/VarHandle") ∧ (parseMethodDescriptor (ps_y mX8_ring).desc).map (fun d => d.parameters.length) = some 0 ∧ ps_maxL mX8_ring ≤ 21 := ⟨(ps_tm 10 (by decide +kernel)), (ps_tm 1055 (by decide +kernel)), ⟨by decide +kernel, by decide +kernel⟩, by decide +kernel, by decide +kernel⟩
theorem ciX8_ring : Cond.instanceMethod (ps_y mX8_ring) ∈ lw_tbl ∧ Cond.selects (ps_y mX8_ring).cls (ps_y mX8_ring) (ps_y mX8_ring) ∈ lw_tbl ∧ ∃ r : vw_C, ps_cls[8]? = some r ∧ r.1 = (ps_y mX8_ring).cls := ⟨(ps_tm 1053 (by decide +kernel)), (ps_tm 1054 (by decide +kernel)), _, rfl, rfl⟩
theorem cbX7_presses : Cond.initialized (ps_y mX7_presses).cls ∈ lw_tbl ∧ Cond.code (ps_y mX7_presses) (ps_code mX7_presses) (ps_maxL mX7_presses) (ps_ret mX7_presses) ∈ lw_tbl ∧ ((ps_y mX7_presses).cls ≠ "java/lang/invoke/MethodHandle" ∧ (ps_y mX7_presses).cls ≠ "java/lang/invoke/VarHandle") ∧ (parseMethodDescriptor (ps_y mX7_presses).desc).map (fun d => d.parameters.length) = some 1 ∧ ps_maxL mX7_presses ≤ 21 := ⟨(ps_tm 1 (by decide +kernel)), (ps_tm 530 (by decide +kernel)), ⟨by decide +kernel, by decide +kernel⟩, by decide +kernel, by decide +kernel⟩
theorem ciX7_presses : Cond.instanceMethod (ps_y mX7_presses) ∈ lw_tbl ∧ Cond.selects (ps_y mX7_presses).cls (ps_y mX7_presses) (ps_y mX7_presses) ∈ lw_tbl ∧ ∃ r : vw_C, ps_cls[7]? = some r ∧ r.1 = (ps_y mX7_presses).cls := ⟨(ps_tm 528 (by decide +kernel)), (ps_tm 529 (by decide +kernel)), _, rfl, rfl⟩
theorem cbX8_presses : Cond.initialized (ps_y mX8_presses).cls ∈ lw_tbl ∧ Cond.code (ps_y mX8_presses) (ps_code mX8_presses) (ps_maxL mX8_presses) (ps_ret mX8_presses) ∈ lw_tbl ∧ ((ps_y mX8_presses).cls ≠ "java/lang/invoke/MethodHandle" ∧ (ps_y mX8_presses).cls ≠ "java/lang/invoke/VarHandle") ∧ (parseMethodDescriptor (ps_y mX8_presses).desc).map (fun d => d.parameters.length) = some 1 ∧ ps_maxL mX8_presses ≤ 21 := ⟨(ps_tm 10 (by decide +kernel)), (ps_tm 1059 (by decide +kernel)), ⟨by decide +kernel, by decide +kernel⟩, by decide +kernel, by decide +kernel⟩
theorem ciX8_presses : Cond.instanceMethod (ps_y mX8_presses) ∈ lw_tbl ∧ Cond.selects (ps_y mX8_presses).cls (ps_y mX8_presses) (ps_y mX8_presses) ∈ lw_tbl ∧ ∃ r : vw_C, ps_cls[8]? = some r ∧ r.1 = (ps_y mX8_presses).cls := ⟨(ps_tm 1057 (by decide +kernel)), (ps_tm 1058 (by decide +kernel)), _, rfl, rfl⟩
theorem cbX7_plans : Cond.initialized (ps_y mX7_plans).cls ∈ lw_tbl ∧ Cond.code (ps_y mX7_plans) (ps_code mX7_plans) (ps_maxL mX7_plans) (ps_ret mX7_plans) ∈ lw_tbl ∧ ((ps_y mX7_plans).cls ≠ "java/lang/invoke/MethodHandle" ∧ (ps_y mX7_plans).cls ≠ "java/lang/invoke/VarHandle") ∧ (parseMethodDescriptor (ps_y mX7_plans).desc).map (fun d => d.parameters.length) = some 1 ∧ ps_maxL mX7_plans ≤ 21 := ⟨(ps_tm 1 (by decide +kernel)), (ps_tm 539 (by decide +kernel)), ⟨by decide +kernel, by decide +kernel⟩, by decide +kernel, by decide +kernel⟩
theorem ciX7_plans : Cond.instanceMethod (ps_y mX7_plans) ∈ lw_tbl ∧ Cond.selects (ps_y mX7_plans).cls (ps_y mX7_plans) (ps_y mX7_plans) ∈ lw_tbl ∧ ∃ r : vw_C, ps_cls[7]? = some r ∧ r.1 = (ps_y mX7_plans).cls := ⟨(ps_tm 537 (by decide +kernel)), (ps_tm 538 (by decide +kernel)), _, rfl, rfl⟩
theorem cbX8_plans : Cond.initialized (ps_y mX8_plans).cls ∈ lw_tbl ∧ Cond.code (ps_y mX8_plans) (ps_code mX8_plans) (ps_maxL mX8_plans) (ps_ret mX8_plans) ∈ lw_tbl ∧ ((ps_y mX8_plans).cls ≠ "java/lang/invoke/MethodHandle" ∧ (ps_y mX8_plans).cls ≠ "java/lang/invoke/VarHandle") ∧ (parseMethodDescriptor (ps_y mX8_plans).desc).map (fun d => d.parameters.length) = some 1 ∧ ps_maxL mX8_plans ≤ 21 := ⟨(ps_tm 10 (by decide +kernel)), (ps_tm 1064 (by decide +kernel)), ⟨by decide +kernel, by decide +kernel⟩, by decide +kernel, by decide +kernel⟩
theorem ciX8_plans : Cond.instanceMethod (ps_y mX8_plans) ∈ lw_tbl ∧ Cond.selects (ps_y mX8_plans).cls (ps_y mX8_plans) (ps_y mX8_plans) ∈ lw_tbl ∧ ∃ r : vw_C, ps_cls[8]? = some r ∧ r.1 = (ps_y mX8_plans).cls := ⟨(ps_tm 1062 (by decide +kernel)), (ps_tm 1063 (by decide +kernel)), _, rfl, rfl⟩
theorem cbX7_day : Cond.initialized (ps_y mX7_day).cls ∈ lw_tbl ∧ Cond.code (ps_y mX7_day) (ps_code mX7_day) (ps_maxL mX7_day) (ps_ret mX7_day) ∈ lw_tbl ∧ ((ps_y mX7_day).cls ≠ "java/lang/invoke/MethodHandle" ∧ (ps_y mX7_day).cls ≠ "java/lang/invoke/VarHandle") ∧ (parseMethodDescriptor (ps_y mX7_day).desc).map (fun d => d.parameters.length) = some 2 ∧ ps_maxL mX7_day ≤ 21 := ⟨(ps_tm 1 (by decide +kernel)), (ps_tm 567 (by decide +kernel)), ⟨by decide +kernel, by decide +kernel⟩, by decide +kernel, by decide +kernel⟩
theorem ciX7_day : Cond.instanceMethod (ps_y mX7_day) ∈ lw_tbl ∧ Cond.selects (ps_y mX7_day).cls (ps_y mX7_day) (ps_y mX7_day) ∈ lw_tbl ∧ ∃ r : vw_C, ps_cls[7]? = some r ∧ r.1 = (ps_y mX7_day).cls := ⟨(ps_tm 565 (by decide +kernel)), (ps_tm 566 (by decide +kernel)), _, rfl, rfl⟩
theorem cbX8_day : Cond.initialized (ps_y mX8_day).cls ∈ lw_tbl ∧ Cond.code (ps_y mX8_day) (ps_code mX8_day) (ps_maxL mX8_day) (ps_ret mX8_day) ∈ lw_tbl ∧ ((ps_y mX8_day).cls ≠ "java/lang/invoke/MethodHandle" ∧ (ps_y mX8_day).cls ≠ "java/lang/invoke/VarHandle") ∧ (parseMethodDescriptor (ps_y mX8_day).desc).map (fun d => d.parameters.length) = some 2 ∧ ps_maxL mX8_day ≤ 21 := ⟨(ps_tm 10 (by decide +kernel)), (ps_tm 1076 (by decide +kernel)), ⟨by decide +kernel, by decide +kernel⟩, by decide +kernel, by decide +kernel⟩
theorem ciX8_day : Cond.instanceMethod (ps_y mX8_day) ∈ lw_tbl ∧ Cond.selects (ps_y mX8_day).cls (ps_y mX8_day) (ps_y mX8_day) ∈ lw_tbl ∧ ∃ r : vw_C, ps_cls[8]? = some r ∧ r.1 = (ps_y mX8_day).cls := ⟨(ps_tm 1074 (by decide +kernel)), (ps_tm 1075 (by decide +kernel)), _, rfl, rfl⟩
theorem cbX7_beside : Cond.initialized (ps_y mX7_beside).cls ∈ lw_tbl ∧ Cond.code (ps_y mX7_beside) (ps_code mX7_beside) (ps_maxL mX7_beside) (ps_ret mX7_beside) ∈ lw_tbl ∧ ((ps_y mX7_beside).cls ≠ "java/lang/invoke/MethodHandle" ∧ (ps_y mX7_beside).cls ≠ "java/lang/invoke/VarHandle") ∧ (parseMethodDescriptor (ps_y mX7_beside).desc).map (fun d => d.parameters.length) = some 3 ∧ ps_maxL mX7_beside ≤ 21 := ⟨(ps_tm 1 (by decide +kernel)), (ps_tm 596 (by decide +kernel)), ⟨by decide +kernel, by decide +kernel⟩, by decide +kernel, by decide +kernel⟩
theorem ciX7_beside : Cond.instanceMethod (ps_y mX7_beside) ∈ lw_tbl ∧ Cond.selects (ps_y mX7_beside).cls (ps_y mX7_beside) (ps_y mX7_beside) ∈ lw_tbl ∧ ∃ r : vw_C, ps_cls[7]? = some r ∧ r.1 = (ps_y mX7_beside).cls := ⟨(ps_tm 594 (by decide +kernel)), (ps_tm 595 (by decide +kernel)), _, rfl, rfl⟩
theorem cbX8_beside : Cond.initialized (ps_y mX8_beside).cls ∈ lw_tbl ∧ Cond.code (ps_y mX8_beside) (ps_code mX8_beside) (ps_maxL mX8_beside) (ps_ret mX8_beside) ∈ lw_tbl ∧ ((ps_y mX8_beside).cls ≠ "java/lang/invoke/MethodHandle" ∧ (ps_y mX8_beside).cls ≠ "java/lang/invoke/VarHandle") ∧ (parseMethodDescriptor (ps_y mX8_beside).desc).map (fun d => d.parameters.length) = some 3 ∧ ps_maxL mX8_beside ≤ 21 := ⟨(ps_tm 10 (by decide +kernel)), (ps_tm 1080 (by decide +kernel)), ⟨by decide +kernel, by decide +kernel⟩, by decide +kernel, by decide +kernel⟩
theorem ciX8_beside : Cond.instanceMethod (ps_y mX8_beside) ∈ lw_tbl ∧ Cond.selects (ps_y mX8_beside).cls (ps_y mX8_beside) (ps_y mX8_beside) ∈ lw_tbl ∧ ∃ r : vw_C, ps_cls[8]? = some r ∧ r.1 = (ps_y mX8_beside).cls := ⟨(ps_tm 1078 (by decide +kernel)), (ps_tm 1079 (by decide +kernel)), _, rfl, rfl⟩
theorem cbX7_fewest : Cond.initialized (ps_y mX7_fewest).cls ∈ lw_tbl ∧ Cond.code (ps_y mX7_fewest) (ps_code mX7_fewest) (ps_maxL mX7_fewest) (ps_ret mX7_fewest) ∈ lw_tbl ∧ ((ps_y mX7_fewest).cls ≠ "java/lang/invoke/MethodHandle" ∧ (ps_y mX7_fewest).cls ≠ "java/lang/invoke/VarHandle") ∧ (parseMethodDescriptor (ps_y mX7_fewest).desc).map (fun d => d.parameters.length) = some 0 ∧ ps_maxL mX7_fewest ≤ 21 := ⟨(ps_tm 1 (by decide +kernel)), (ps_tm 601 (by decide +kernel)), ⟨by decide +kernel, by decide +kernel⟩, by decide +kernel, by decide +kernel⟩
theorem ciX7_fewest : Cond.instanceMethod (ps_y mX7_fewest) ∈ lw_tbl ∧ Cond.selects (ps_y mX7_fewest).cls (ps_y mX7_fewest) (ps_y mX7_fewest) ∈ lw_tbl ∧ ∃ r : vw_C, ps_cls[7]? = some r ∧ r.1 = (ps_y mX7_fewest).cls := ⟨(ps_tm 599 (by decide +kernel)), (ps_tm 600 (by decide +kernel)), _, rfl, rfl⟩
theorem cbX0_copiesLookedAt : Cond.initialized (ps_y mX0_copiesLookedAt).cls ∈ lw_tbl ∧ Cond.code (ps_y mX0_copiesLookedAt) (ps_code mX0_copiesLookedAt) (ps_maxL mX0_copiesLookedAt) (ps_ret mX0_copiesLookedAt) ∈ lw_tbl ∧ ((ps_y mX0_copiesLookedAt).cls ≠ "java/lang/invoke/MethodHandle" ∧ (ps_y mX0_copiesLookedAt).cls ≠ "java/lang/invoke/VarHandle") ∧ (parseMethodDescriptor (ps_y mX0_copiesLookedAt).desc).map (fun d => d.parameters.length) = some 0 ∧ ps_maxL mX0_copiesLookedAt ≤ 21 := ⟨(ps_tm 2 (by decide +kernel)), (ps_tm 311 (by decide +kernel)), ⟨by decide +kernel, by decide +kernel⟩, by decide +kernel, by decide +kernel⟩
theorem ciX0_copiesLookedAt : Cond.instanceMethod (ps_y mX0_copiesLookedAt) ∈ lw_tbl ∧ Cond.selects (ps_y mX0_copiesLookedAt).cls (ps_y mX0_copiesLookedAt) (ps_y mX0_copiesLookedAt) ∈ lw_tbl ∧ ∃ r : vw_C, ps_cls[0]? = some r ∧ r.1 = (ps_y mX0_copiesLookedAt).cls := ⟨(ps_tm 310 (by decide +kernel)), (ps_sm 1 (by decide +kernel)), _, rfl, rfl⟩
theorem cbX0_unlikeCopies : Cond.initialized (ps_y mX0_unlikeCopies).cls ∈ lw_tbl ∧ Cond.code (ps_y mX0_unlikeCopies) (ps_code mX0_unlikeCopies) (ps_maxL mX0_unlikeCopies) (ps_ret mX0_unlikeCopies) ∈ lw_tbl ∧ ((ps_y mX0_unlikeCopies).cls ≠ "java/lang/invoke/MethodHandle" ∧ (ps_y mX0_unlikeCopies).cls ≠ "java/lang/invoke/VarHandle") ∧ (parseMethodDescriptor (ps_y mX0_unlikeCopies).desc).map (fun d => d.parameters.length) = some 1 ∧ ps_maxL mX0_unlikeCopies ≤ 21 := ⟨(ps_tm 2 (by decide +kernel)), (ps_tm 315 (by decide +kernel)), ⟨by decide +kernel, by decide +kernel⟩, by decide +kernel, by decide +kernel⟩
theorem ciX0_unlikeCopies : Cond.instanceMethod (ps_y mX0_unlikeCopies) ∈ lw_tbl ∧ Cond.selects (ps_y mX0_unlikeCopies).cls (ps_y mX0_unlikeCopies) (ps_y mX0_unlikeCopies) ∈ lw_tbl ∧ ∃ r : vw_C, ps_cls[0]? = some r ∧ r.1 = (ps_y mX0_unlikeCopies).cls := ⟨(ps_tm 314 (by decide +kernel)), (ps_sm 2 (by decide +kernel)), _, rfl, rfl⟩
theorem cbX0_areAlike : Cond.initialized (ps_y mX0_areAlike).cls ∈ lw_tbl ∧ Cond.code (ps_y mX0_areAlike) (ps_code mX0_areAlike) (ps_maxL mX0_areAlike) (ps_ret mX0_areAlike) ∈ lw_tbl ∧ ((ps_y mX0_areAlike).cls ≠ "java/lang/invoke/MethodHandle" ∧ (ps_y mX0_areAlike).cls ≠ "java/lang/invoke/VarHandle") ∧ (parseMethodDescriptor (ps_y mX0_areAlike).desc).map (fun d => d.parameters.length) = some 2 ∧ ps_maxL mX0_areAlike ≤ 21 := ⟨(ps_tm 2 (by decide +kernel)), (ps_tm 292 (by decide +kernel)), ⟨by decide +kernel, by decide +kernel⟩, by decide +kernel, by decide +kernel⟩
theorem ciX0_areAlike : Cond.instanceMethod (ps_y mX0_areAlike) ∈ lw_tbl ∧ Cond.selects (ps_y mX0_areAlike).cls (ps_y mX0_areAlike) (ps_y mX0_areAlike) ∈ lw_tbl ∧ ∃ r : vw_C, ps_cls[0]? = some r ∧ r.1 = (ps_y mX0_areAlike).cls := ⟨(ps_tm 290 (by decide +kernel)), (ps_tm 291 (by decide +kernel)), _, rfl, rfl⟩
theorem cbX0_groupLetter : Cond.initialized (ps_y mX0_groupLetter).cls ∈ lw_tbl ∧ Cond.code (ps_y mX0_groupLetter) (ps_code mX0_groupLetter) (ps_maxL mX0_groupLetter) (ps_ret mX0_groupLetter) ∈ lw_tbl ∧ ((ps_y mX0_groupLetter).cls ≠ "java/lang/invoke/MethodHandle" ∧ (ps_y mX0_groupLetter).cls ≠ "java/lang/invoke/VarHandle") ∧ (parseMethodDescriptor (ps_y mX0_groupLetter).desc).map (fun d => d.parameters.length) = some 2 ∧ ps_maxL mX0_groupLetter ≤ 21 := ⟨(ps_tm 2 (by decide +kernel)), (ps_tm 338 (by decide +kernel)), ⟨by decide +kernel, by decide +kernel⟩, by decide +kernel, by decide +kernel⟩
theorem ciX0_groupLetter : Cond.instanceMethod (ps_y mX0_groupLetter) ∈ lw_tbl ∧ Cond.selects (ps_y mX0_groupLetter).cls (ps_y mX0_groupLetter) (ps_y mX0_groupLetter) ∈ lw_tbl ∧ ∃ r : vw_C, ps_cls[0]? = some r ∧ r.1 = (ps_y mX0_groupLetter).cls := ⟨(ps_tm 336 (by decide +kernel)), (ps_tm 337 (by decide +kernel)), _, rfl, rfl⟩
theorem cbX0_tellsAheadOf : Cond.initialized (ps_y mX0_tellsAheadOf).cls ∈ lw_tbl ∧ Cond.code (ps_y mX0_tellsAheadOf) (ps_code mX0_tellsAheadOf) (ps_maxL mX0_tellsAheadOf) (ps_ret mX0_tellsAheadOf) ∈ lw_tbl ∧ ((ps_y mX0_tellsAheadOf).cls ≠ "java/lang/invoke/MethodHandle" ∧ (ps_y mX0_tellsAheadOf).cls ≠ "java/lang/invoke/VarHandle") ∧ (parseMethodDescriptor (ps_y mX0_tellsAheadOf).desc).map (fun d => d.parameters.length) = some 2 ∧ ps_maxL mX0_tellsAheadOf ≤ 21 := ⟨(ps_tm 2 (by decide +kernel)), (ps_tm 426 (by decide +kernel)), ⟨by decide +kernel, by decide +kernel⟩, by decide +kernel, by decide +kernel⟩
theorem ciX0_tellsAheadOf : Cond.instanceMethod (ps_y mX0_tellsAheadOf) ∈ lw_tbl ∧ Cond.selects (ps_y mX0_tellsAheadOf).cls (ps_y mX0_tellsAheadOf) (ps_y mX0_tellsAheadOf) ∈ lw_tbl ∧ ∃ r : vw_C, ps_cls[0]? = some r ∧ r.1 = (ps_y mX0_tellsAheadOf).cls := ⟨(ps_tm 425 (by decide +kernel)), (ps_sm 11 (by decide +kernel)), _, rfl, rfl⟩
theorem cbX1_heapEnd : Cond.initialized (ps_y mX1_heapEnd).cls ∈ lw_tbl ∧ Cond.code (ps_y mX1_heapEnd) (ps_code mX1_heapEnd) (ps_maxL mX1_heapEnd) (ps_ret mX1_heapEnd) ∈ lw_tbl ∧ ((ps_y mX1_heapEnd).cls ≠ "java/lang/invoke/MethodHandle" ∧ (ps_y mX1_heapEnd).cls ≠ "java/lang/invoke/VarHandle") ∧ (parseMethodDescriptor (ps_y mX1_heapEnd).desc).map (fun d => d.parameters.length) = some 2 ∧ ps_maxL mX1_heapEnd ≤ 21 := ⟨(ps_tm 8 (by decide +kernel)), (ps_tm 649 (by decide +kernel)), ⟨by decide +kernel, by decide +kernel⟩, by decide +kernel, by decide +kernel⟩
theorem ciX1_heapEnd : Cond.instanceMethod (ps_y mX1_heapEnd) ∈ lw_tbl ∧ Cond.selects (ps_y mX1_heapEnd).cls (ps_y mX1_heapEnd) (ps_y mX1_heapEnd) ∈ lw_tbl ∧ ∃ r : vw_C, ps_cls[1]? = some r ∧ r.1 = (ps_y mX1_heapEnd).cls := ⟨(ps_tm 648 (by decide +kernel)), (ps_sm 28 (by decide +kernel)), _, rfl, rfl⟩
theorem cbX1_kindIn : Cond.initialized (ps_y mX1_kindIn).cls ∈ lw_tbl ∧ Cond.code (ps_y mX1_kindIn) (ps_code mX1_kindIn) (ps_maxL mX1_kindIn) (ps_ret mX1_kindIn) ∈ lw_tbl ∧ ((ps_y mX1_kindIn).cls ≠ "java/lang/invoke/MethodHandle" ∧ (ps_y mX1_kindIn).cls ≠ "java/lang/invoke/VarHandle") ∧ (parseMethodDescriptor (ps_y mX1_kindIn).desc).map (fun d => d.parameters.length) = some 3 ∧ ps_maxL mX1_kindIn ≤ 21 := ⟨(ps_tm 8 (by decide +kernel)), (ps_tm 654 (by decide +kernel)), ⟨by decide +kernel, by decide +kernel⟩, by decide +kernel, by decide +kernel⟩
theorem ciX1_kindIn : Cond.instanceMethod (ps_y mX1_kindIn) ∈ lw_tbl ∧ Cond.selects (ps_y mX1_kindIn).cls (ps_y mX1_kindIn) (ps_y mX1_kindIn) ∈ lw_tbl ∧ ∃ r : vw_C, ps_cls[1]? = some r ∧ r.1 = (ps_y mX1_kindIn).cls := ⟨(ps_tm 652 (by decide +kernel)), (ps_tm 653 (by decide +kernel)), _, rfl, rfl⟩
theorem cbX1_mayBe : Cond.initialized (ps_y mX1_mayBe).cls ∈ lw_tbl ∧ Cond.code (ps_y mX1_mayBe) (ps_code mX1_mayBe) (ps_maxL mX1_mayBe) (ps_ret mX1_mayBe) ∈ lw_tbl ∧ ((ps_y mX1_mayBe).cls ≠ "java/lang/invoke/MethodHandle" ∧ (ps_y mX1_mayBe).cls ≠ "java/lang/invoke/VarHandle") ∧ (parseMethodDescriptor (ps_y mX1_mayBe).desc).map (fun d => d.parameters.length) = some 3 ∧ ps_maxL mX1_mayBe ≤ 21 := ⟨(ps_tm 8 (by decide +kernel)), (ps_tm 645 (by decide +kernel)), ⟨by decide +kernel, by decide +kernel⟩, by decide +kernel, by decide +kernel⟩
theorem ciX1_mayBe : Cond.instanceMethod (ps_y mX1_mayBe) ∈ lw_tbl ∧ Cond.selects (ps_y mX1_mayBe).cls (ps_y mX1_mayBe) (ps_y mX1_mayBe) ∈ lw_tbl ∧ ∃ r : vw_C, ps_cls[1]? = some r ∧ r.1 = (ps_y mX1_mayBe).cls := ⟨(ps_tm 644 (by decide +kernel)), (ps_sm 27 (by decide +kernel)), _, rfl, rfl⟩
theorem cbX1_heapCount : Cond.initialized (ps_y mX1_heapCount).cls ∈ lw_tbl ∧ Cond.code (ps_y mX1_heapCount) (ps_code mX1_heapCount) (ps_maxL mX1_heapCount) (ps_ret mX1_heapCount) ∈ lw_tbl ∧ ((ps_y mX1_heapCount).cls ≠ "java/lang/invoke/MethodHandle" ∧ (ps_y mX1_heapCount).cls ≠ "java/lang/invoke/VarHandle") ∧ (parseMethodDescriptor (ps_y mX1_heapCount).desc).map (fun d => d.parameters.length) = some 1 ∧ ps_maxL mX1_heapCount ≤ 21 := ⟨(ps_tm 8 (by decide +kernel)), (ps_tm 637 (by decide +kernel)), ⟨by decide +kernel, by decide +kernel⟩, by decide +kernel, by decide +kernel⟩
theorem ciX1_heapCount : Cond.instanceMethod (ps_y mX1_heapCount) ∈ lw_tbl ∧ Cond.selects (ps_y mX1_heapCount).cls (ps_y mX1_heapCount) (ps_y mX1_heapCount) ∈ lw_tbl ∧ ∃ r : vw_C, ps_cls[1]? = some r ∧ r.1 = (ps_y mX1_heapCount).cls := ⟨(ps_tm 635 (by decide +kernel)), (ps_tm 636 (by decide +kernel)), _, rfl, rfl⟩
theorem cbX1_choices : Cond.initialized (ps_y mX1_choices).cls ∈ lw_tbl ∧ Cond.code (ps_y mX1_choices) (ps_code mX1_choices) (ps_maxL mX1_choices) (ps_ret mX1_choices) ∈ lw_tbl ∧ ((ps_y mX1_choices).cls ≠ "java/lang/invoke/MethodHandle" ∧ (ps_y mX1_choices).cls ≠ "java/lang/invoke/VarHandle") ∧ (parseMethodDescriptor (ps_y mX1_choices).desc).map (fun d => d.parameters.length) = some 2 ∧ ps_maxL mX1_choices ≤ 21 := ⟨(ps_tm 8 (by decide +kernel)), (ps_tm 641 (by decide +kernel)), ⟨by decide +kernel, by decide +kernel⟩, by decide +kernel, by decide +kernel⟩
theorem ciX1_choices : Cond.instanceMethod (ps_y mX1_choices) ∈ lw_tbl ∧ Cond.selects (ps_y mX1_choices).cls (ps_y mX1_choices) (ps_y mX1_choices) ∈ lw_tbl ∧ ∃ r : vw_C, ps_cls[1]? = some r ∧ r.1 = (ps_y mX1_choices).cls := ⟨(ps_tm 639 (by decide +kernel)), (ps_tm 640 (by decide +kernel)), _, rfl, rfl⟩
theorem cbX2_solve : Cond.initialized (ps_y mX2_solve).cls ∈ lw_tbl ∧ Cond.code (ps_y mX2_solve) (ps_code mX2_solve) (ps_maxL mX2_solve) (ps_ret mX2_solve) ∈ lw_tbl ∧ ((ps_y mX2_solve).cls ≠ "java/lang/invoke/MethodHandle" ∧ (ps_y mX2_solve).cls ≠ "java/lang/invoke/VarHandle") ∧ (parseMethodDescriptor (ps_y mX2_solve).desc).map (fun d => d.parameters.length) = some 0 ∧ ps_maxL mX2_solve ≤ 21 := ⟨(ps_tm 9 (by decide +kernel)), (ps_tm 726 (by decide +kernel)), ⟨by decide +kernel, by decide +kernel⟩, by decide +kernel, by decide +kernel⟩
theorem ciX2_solve : Cond.instanceMethod (ps_y mX2_solve) ∈ lw_tbl ∧ Cond.selects (ps_y mX2_solve).cls (ps_y mX2_solve) (ps_y mX2_solve) ∈ lw_tbl ∧ ∃ r : vw_C, ps_cls[2]? = some r ∧ r.1 = (ps_y mX2_solve).cls := ⟨(ps_tm 725 (by decide +kernel)), (ps_sm 31 (by decide +kernel)), _, rfl, rfl⟩
theorem cbX2_isBest : Cond.initialized (ps_y mX2_isBest).cls ∈ lw_tbl ∧ Cond.code (ps_y mX2_isBest) (ps_code mX2_isBest) (ps_maxL mX2_isBest) (ps_ret mX2_isBest) ∈ lw_tbl ∧ ((ps_y mX2_isBest).cls ≠ "java/lang/invoke/MethodHandle" ∧ (ps_y mX2_isBest).cls ≠ "java/lang/invoke/VarHandle") ∧ (parseMethodDescriptor (ps_y mX2_isBest).desc).map (fun d => d.parameters.length) = some 2 ∧ ps_maxL mX2_isBest ≤ 21 := ⟨(ps_tm 9 (by decide +kernel)), (ps_tm 764 (by decide +kernel)), ⟨by decide +kernel, by decide +kernel⟩, by decide +kernel, by decide +kernel⟩
theorem ciX2_isBest : Cond.instanceMethod (ps_y mX2_isBest) ∈ lw_tbl ∧ Cond.selects (ps_y mX2_isBest).cls (ps_y mX2_isBest) (ps_y mX2_isBest) ∈ lw_tbl ∧ ∃ r : vw_C, ps_cls[2]? = some r ∧ r.1 = (ps_y mX2_isBest).cls := ⟨(ps_tm 763 (by decide +kernel)), (ps_sm 38 (by decide +kernel)), _, rfl, rfl⟩
theorem cbX2_leastBestMan : Cond.initialized (ps_y mX2_leastBestMan).cls ∈ lw_tbl ∧ Cond.code (ps_y mX2_leastBestMan) (ps_code mX2_leastBestMan) (ps_maxL mX2_leastBestMan) (ps_ret mX2_leastBestMan) ∈ lw_tbl ∧ ((ps_y mX2_leastBestMan).cls ≠ "java/lang/invoke/MethodHandle" ∧ (ps_y mX2_leastBestMan).cls ≠ "java/lang/invoke/VarHandle") ∧ (parseMethodDescriptor (ps_y mX2_leastBestMan).desc).map (fun d => d.parameters.length) = some 0 ∧ ps_maxL mX2_leastBestMan ≤ 21 := ⟨(ps_tm 9 (by decide +kernel)), (ps_tm 760 (by decide +kernel)), ⟨by decide +kernel, by decide +kernel⟩, by decide +kernel, by decide +kernel⟩
theorem ciX2_leastBestMan : Cond.instanceMethod (ps_y mX2_leastBestMan) ∈ lw_tbl ∧ Cond.selects (ps_y mX2_leastBestMan).cls (ps_y mX2_leastBestMan) (ps_y mX2_leastBestMan) ∈ lw_tbl ∧ ∃ r : vw_C, ps_cls[2]? = some r ∧ r.1 = (ps_y mX2_leastBestMan).cls := ⟨(ps_tm 759 (by decide +kernel)), (ps_sm 37 (by decide +kernel)), _, rfl, rfl⟩
theorem cbX2_nextMan : Cond.initialized (ps_y mX2_nextMan).cls ∈ lw_tbl ∧ Cond.code (ps_y mX2_nextMan) (ps_code mX2_nextMan) (ps_maxL mX2_nextMan) (ps_ret mX2_nextMan) ∈ lw_tbl ∧ ((ps_y mX2_nextMan).cls ≠ "java/lang/invoke/MethodHandle" ∧ (ps_y mX2_nextMan).cls ≠ "java/lang/invoke/VarHandle") ∧ (parseMethodDescriptor (ps_y mX2_nextMan).desc).map (fun d => d.parameters.length) = some 2 ∧ ps_maxL mX2_nextMan ≤ 21 := ⟨(ps_tm 9 (by decide +kernel)), (ps_tm 768 (by decide +kernel)), ⟨by decide +kernel, by decide +kernel⟩, by decide +kernel, by decide +kernel⟩
theorem ciX2_nextMan : Cond.instanceMethod (ps_y mX2_nextMan) ∈ lw_tbl ∧ Cond.selects (ps_y mX2_nextMan).cls (ps_y mX2_nextMan) (ps_y mX2_nextMan) ∈ lw_tbl ∧ ∃ r : vw_C, ps_cls[2]? = some r ∧ r.1 = (ps_y mX2_nextMan).cls := ⟨(ps_tm 767 (by decide +kernel)), (ps_sm 39 (by decide +kernel)), _, rfl, rfl⟩
theorem cbX2_costThrough : Cond.initialized (ps_y mX2_costThrough).cls ∈ lw_tbl ∧ Cond.code (ps_y mX2_costThrough) (ps_code mX2_costThrough) (ps_maxL mX2_costThrough) (ps_ret mX2_costThrough) ∈ lw_tbl ∧ ((ps_y mX2_costThrough).cls ≠ "java/lang/invoke/MethodHandle" ∧ (ps_y mX2_costThrough).cls ≠ "java/lang/invoke/VarHandle") ∧ (parseMethodDescriptor (ps_y mX2_costThrough).desc).map (fun d => d.parameters.length) = some 3 ∧ ps_maxL mX2_costThrough ≤ 21 := ⟨(ps_tm 9 (by decide +kernel)), (ps_tm 744 (by decide +kernel)), ⟨by decide +kernel, by decide +kernel⟩, by decide +kernel, by decide +kernel⟩
theorem ciX2_costThrough : Cond.instanceMethod (ps_y mX2_costThrough) ∈ lw_tbl ∧ Cond.selects (ps_y mX2_costThrough).cls (ps_y mX2_costThrough) (ps_y mX2_costThrough) ∈ lw_tbl ∧ ∃ r : vw_C, ps_cls[2]? = some r ∧ r.1 = (ps_y mX2_costThrough).cls := ⟨(ps_tm 743 (by decide +kernel)), (ps_sm 35 (by decide +kernel)), _, rfl, rfl⟩
theorem cbX2_changeOf : Cond.initialized (ps_y mX2_changeOf).cls ∈ lw_tbl ∧ Cond.code (ps_y mX2_changeOf) (ps_code mX2_changeOf) (ps_maxL mX2_changeOf) (ps_ret mX2_changeOf) ∈ lw_tbl ∧ ((ps_y mX2_changeOf).cls ≠ "java/lang/invoke/MethodHandle" ∧ (ps_y mX2_changeOf).cls ≠ "java/lang/invoke/VarHandle") ∧ (parseMethodDescriptor (ps_y mX2_changeOf).desc).map (fun d => d.parameters.length) = some 2 ∧ ps_maxL mX2_changeOf ≤ 21 := ⟨(ps_tm 9 (by decide +kernel)), (ps_tm 735 (by decide +kernel)), ⟨by decide +kernel, by decide +kernel⟩, by decide +kernel, by decide +kernel⟩
theorem ciX2_changeOf : Cond.instanceMethod (ps_y mX2_changeOf) ∈ lw_tbl ∧ Cond.selects (ps_y mX2_changeOf).cls (ps_y mX2_changeOf) (ps_y mX2_changeOf) ∈ lw_tbl ∧ ∃ r : vw_C, ps_cls[2]? = some r ∧ r.1 = (ps_y mX2_changeOf).cls := ⟨(ps_tm 734 (by decide +kernel)), (ps_sm 33 (by decide +kernel)), _, rfl, rfl⟩
theorem cbX2_wordsAgainst : Cond.initialized (ps_y mX2_wordsAgainst).cls ∈ lw_tbl ∧ Cond.code (ps_y mX2_wordsAgainst) (ps_code mX2_wordsAgainst) (ps_maxL mX2_wordsAgainst) (ps_ret mX2_wordsAgainst) ∈ lw_tbl ∧ ((ps_y mX2_wordsAgainst).cls ≠ "java/lang/invoke/MethodHandle" ∧ (ps_y mX2_wordsAgainst).cls ≠ "java/lang/invoke/VarHandle") ∧ (parseMethodDescriptor (ps_y mX2_wordsAgainst).desc).map (fun d => d.parameters.length) = some 2 ∧ ps_maxL mX2_wordsAgainst ≤ 21 := ⟨(ps_tm 9 (by decide +kernel)), (ps_tm 714 (by decide +kernel)), ⟨by decide +kernel, by decide +kernel⟩, by decide +kernel, by decide +kernel⟩
theorem ciX2_wordsAgainst : Cond.instanceMethod (ps_y mX2_wordsAgainst) ∈ lw_tbl ∧ Cond.selects (ps_y mX2_wordsAgainst).cls (ps_y mX2_wordsAgainst) (ps_y mX2_wordsAgainst) ∈ lw_tbl ∧ ∃ r : vw_C, ps_cls[2]? = some r ∧ r.1 = (ps_y mX2_wordsAgainst).cls := ⟨(ps_tm 712 (by decide +kernel)), (ps_tm 713 (by decide +kernel)), _, rfl, rfl⟩
theorem cbX2_costAhead : Cond.initialized (ps_y mX2_costAhead).cls ∈ lw_tbl ∧ Cond.code (ps_y mX2_costAhead) (ps_code mX2_costAhead) (ps_maxL mX2_costAhead) (ps_ret mX2_costAhead) ∈ lw_tbl ∧ ((ps_y mX2_costAhead).cls ≠ "java/lang/invoke/MethodHandle" ∧ (ps_y mX2_costAhead).cls ≠ "java/lang/invoke/VarHandle") ∧ (parseMethodDescriptor (ps_y mX2_costAhead).desc).map (fun d => d.parameters.length) = some 2 ∧ ps_maxL mX2_costAhead ≤ 21 := ⟨(ps_tm 9 (by decide +kernel)), (ps_tm 731 (by decide +kernel)), ⟨by decide +kernel, by decide +kernel⟩, by decide +kernel, by decide +kernel⟩
theorem ciX2_costAhead : Cond.instanceMethod (ps_y mX2_costAhead) ∈ lw_tbl ∧ Cond.selects (ps_y mX2_costAhead).cls (ps_y mX2_costAhead) (ps_y mX2_costAhead) ∈ lw_tbl ∧ ∃ r : vw_C, ps_cls[2]? = some r ∧ r.1 = (ps_y mX2_costAhead).cls := ⟨(ps_tm 730 (by decide +kernel)), (ps_sm 32 (by decide +kernel)), _, rfl, rfl⟩
theorem cbX2_lookBehind : Cond.initialized (ps_y mX2_lookBehind).cls ∈ lw_tbl ∧ Cond.code (ps_y mX2_lookBehind) (ps_code mX2_lookBehind) (ps_maxL mX2_lookBehind) (ps_ret mX2_lookBehind) ∈ lw_tbl ∧ ((ps_y mX2_lookBehind).cls ≠ "java/lang/invoke/MethodHandle" ∧ (ps_y mX2_lookBehind).cls ≠ "java/lang/invoke/VarHandle") ∧ (parseMethodDescriptor (ps_y mX2_lookBehind).desc).map (fun d => d.parameters.length) = some 2 ∧ ps_maxL mX2_lookBehind ≤ 21 := ⟨(ps_tm 9 (by decide +kernel)), (ps_tm 740 (by decide +kernel)), ⟨by decide +kernel, by decide +kernel⟩, by decide +kernel, by decide +kernel⟩
theorem ciX2_lookBehind : Cond.instanceMethod (ps_y mX2_lookBehind) ∈ lw_tbl ∧ Cond.selects (ps_y mX2_lookBehind).cls (ps_y mX2_lookBehind) (ps_y mX2_lookBehind) ∈ lw_tbl ∧ ∃ r : vw_C, ps_cls[2]? = some r ∧ r.1 = (ps_y mX2_lookBehind).cls := ⟨(ps_tm 739 (by decide +kernel)), (ps_sm 34 (by decide +kernel)), _, rfl, rfl⟩
theorem cbX2_leastUpTo : Cond.initialized (ps_y mX2_leastUpTo).cls ∈ lw_tbl ∧ Cond.code (ps_y mX2_leastUpTo) (ps_code mX2_leastUpTo) (ps_maxL mX2_leastUpTo) (ps_ret mX2_leastUpTo) ∈ lw_tbl ∧ ((ps_y mX2_leastUpTo).cls ≠ "java/lang/invoke/MethodHandle" ∧ (ps_y mX2_leastUpTo).cls ≠ "java/lang/invoke/VarHandle") ∧ (parseMethodDescriptor (ps_y mX2_leastUpTo).desc).map (fun d => d.parameters.length) = some 1 ∧ ps_maxL mX2_leastUpTo ≤ 21 := ⟨(ps_tm 9 (by decide +kernel)), (ps_tm 748 (by decide +kernel)), ⟨by decide +kernel, by decide +kernel⟩, by decide +kernel, by decide +kernel⟩
theorem ciX2_leastUpTo : Cond.instanceMethod (ps_y mX2_leastUpTo) ∈ lw_tbl ∧ Cond.selects (ps_y mX2_leastUpTo).cls (ps_y mX2_leastUpTo) (ps_y mX2_leastUpTo) ∈ lw_tbl ∧ ∃ r : vw_C, ps_cls[2]? = some r ∧ r.1 = (ps_y mX2_leastUpTo).cls := ⟨(ps_tm 747 (by decide +kernel)), (ps_sm 36 (by decide +kernel)), _, rfl, rfl⟩
theorem cbX3_makeOrders : Cond.initialized (ps_y mX3_makeOrders).cls ∈ lw_tbl ∧ Cond.code (ps_y mX3_makeOrders) (ps_code mX3_makeOrders) (ps_maxL mX3_makeOrders) (ps_ret mX3_makeOrders) ∈ lw_tbl ∧ ((ps_y mX3_makeOrders).cls ≠ "java/lang/invoke/MethodHandle" ∧ (ps_y mX3_makeOrders).cls ≠ "java/lang/invoke/VarHandle") ∧ (parseMethodDescriptor (ps_y mX3_makeOrders).desc).map (fun d => d.parameters.length) = some 1 ∧ ps_maxL mX3_makeOrders ≤ 21 := ⟨(ps_tm 5 (by decide +kernel)), (ps_tm 414 (by decide +kernel)), ⟨by decide +kernel, by decide +kernel⟩, by decide +kernel, by decide +kernel⟩
theorem ciX3_makeOrders : Cond.instanceMethod (ps_y mX3_makeOrders) ∈ lw_tbl ∧ Cond.selects (ps_y mX3_makeOrders).cls (ps_y mX3_makeOrders) (ps_y mX3_makeOrders) ∈ lw_tbl ∧ ∃ r : vw_C, ps_cls[3]? = some r ∧ r.1 = (ps_y mX3_makeOrders).cls := ⟨(ps_tm 413 (by decide +kernel)), (ps_sm 9 (by decide +kernel)), _, rfl, rfl⟩
theorem cbX3_takeStates : Cond.initialized (ps_y mX3_takeStates).cls ∈ lw_tbl ∧ Cond.code (ps_y mX3_takeStates) (ps_code mX3_takeStates) (ps_maxL mX3_takeStates) (ps_ret mX3_takeStates) ∈ lw_tbl ∧ ((ps_y mX3_takeStates).cls ≠ "java/lang/invoke/MethodHandle" ∧ (ps_y mX3_takeStates).cls ≠ "java/lang/invoke/VarHandle") ∧ (parseMethodDescriptor (ps_y mX3_takeStates).desc).map (fun d => d.parameters.length) = some 1 ∧ ps_maxL mX3_takeStates ≤ 21 := ⟨(ps_tm 5 (by decide +kernel)), (ps_tm 418 (by decide +kernel)), ⟨by decide +kernel, by decide +kernel⟩, by decide +kernel, by decide +kernel⟩
theorem ciX3_takeStates : Cond.instanceMethod (ps_y mX3_takeStates) ∈ lw_tbl ∧ Cond.selects (ps_y mX3_takeStates).cls (ps_y mX3_takeStates) (ps_y mX3_takeStates) ∈ lw_tbl ∧ ∃ r : vw_C, ps_cls[3]? = some r ∧ r.1 = (ps_y mX3_takeStates).cls := ⟨(ps_tm 417 (by decide +kernel)), (ps_sm 10 (by decide +kernel)), _, rfl, rfl⟩
theorem cbX3_findRests : Cond.initialized (ps_y mX3_findRests).cls ∈ lw_tbl ∧ Cond.code (ps_y mX3_findRests) (ps_code mX3_findRests) (ps_maxL mX3_findRests) (ps_ret mX3_findRests) ∈ lw_tbl ∧ ((ps_y mX3_findRests).cls ≠ "java/lang/invoke/MethodHandle" ∧ (ps_y mX3_findRests).cls ≠ "java/lang/invoke/VarHandle") ∧ (parseMethodDescriptor (ps_y mX3_findRests).desc).map (fun d => d.parameters.length) = some 0 ∧ ps_maxL mX3_findRests ≤ 21 := ⟨(ps_tm 5 (by decide +kernel)), (ps_tm 431 (by decide +kernel)), ⟨by decide +kernel, by decide +kernel⟩, by decide +kernel, by decide +kernel⟩
theorem ciX3_findRests : Cond.instanceMethod (ps_y mX3_findRests) ∈ lw_tbl ∧ Cond.selects (ps_y mX3_findRests).cls (ps_y mX3_findRests) (ps_y mX3_findRests) ∈ lw_tbl ∧ ∃ r : vw_C, ps_cls[3]? = some r ∧ r.1 = (ps_y mX3_findRests).cls := ⟨(ps_tm 430 (by decide +kernel)), (ps_sm 12 (by decide +kernel)), _, rfl, rfl⟩
theorem cbX3_walkFirst : Cond.initialized (ps_y mX3_walkFirst).cls ∈ lw_tbl ∧ Cond.code (ps_y mX3_walkFirst) (ps_code mX3_walkFirst) (ps_maxL mX3_walkFirst) (ps_ret mX3_walkFirst) ∈ lw_tbl ∧ ((ps_y mX3_walkFirst).cls ≠ "java/lang/invoke/MethodHandle" ∧ (ps_y mX3_walkFirst).cls ≠ "java/lang/invoke/VarHandle") ∧ (parseMethodDescriptor (ps_y mX3_walkFirst).desc).map (fun d => d.parameters.length) = some 2 ∧ ps_maxL mX3_walkFirst ≤ 21 := ⟨(ps_tm 5 (by decide +kernel)), (ps_tm 455 (by decide +kernel)), ⟨by decide +kernel, by decide +kernel⟩, by decide +kernel, by decide +kernel⟩
theorem ciX3_walkFirst : Cond.instanceMethod (ps_y mX3_walkFirst) ∈ lw_tbl ∧ Cond.selects (ps_y mX3_walkFirst).cls (ps_y mX3_walkFirst) (ps_y mX3_walkFirst) ∈ lw_tbl ∧ ∃ r : vw_C, ps_cls[3]? = some r ∧ r.1 = (ps_y mX3_walkFirst).cls := ⟨(ps_tm 454 (by decide +kernel)), (ps_sm 16 (by decide +kernel)), _, rfl, rfl⟩
theorem cbX0_statesAhead : Cond.initialized (ps_y mX0_statesAhead).cls ∈ lw_tbl ∧ Cond.code (ps_y mX0_statesAhead) (ps_code mX0_statesAhead) (ps_maxL mX0_statesAhead) (ps_ret mX0_statesAhead) ∈ lw_tbl ∧ ((ps_y mX0_statesAhead).cls ≠ "java/lang/invoke/MethodHandle" ∧ (ps_y mX0_statesAhead).cls ≠ "java/lang/invoke/VarHandle") ∧ (parseMethodDescriptor (ps_y mX0_statesAhead).desc).map (fun d => d.parameters.length) = some 1 ∧ ps_maxL mX0_statesAhead ≤ 21 := ⟨(ps_tm 2 (by decide +kernel)), (ps_tm 422 (by decide +kernel)), ⟨by decide +kernel, by decide +kernel⟩, by decide +kernel, by decide +kernel⟩
theorem ciX0_statesAhead : Cond.instanceMethod (ps_y mX0_statesAhead) ∈ lw_tbl ∧ Cond.selects (ps_y mX0_statesAhead).cls (ps_y mX0_statesAhead) (ps_y mX0_statesAhead) ∈ lw_tbl ∧ ∃ r : vw_C, ps_cls[0]? = some r ∧ r.1 = (ps_y mX0_statesAhead).cls := ⟨(ps_tm 420 (by decide +kernel)), (ps_tm 421 (by decide +kernel)), _, rfl, rfl⟩
theorem cbX0_unlikePlaces : Cond.initialized (ps_y mX0_unlikePlaces).cls ∈ lw_tbl ∧ Cond.code (ps_y mX0_unlikePlaces) (ps_code mX0_unlikePlaces) (ps_maxL mX0_unlikePlaces) (ps_ret mX0_unlikePlaces) ∈ lw_tbl ∧ ((ps_y mX0_unlikePlaces).cls ≠ "java/lang/invoke/MethodHandle" ∧ (ps_y mX0_unlikePlaces).cls ≠ "java/lang/invoke/VarHandle") ∧ (parseMethodDescriptor (ps_y mX0_unlikePlaces).desc).map (fun d => d.parameters.length) = some 2 ∧ ps_maxL mX0_unlikePlaces ≤ 21 := ⟨(ps_tm 2 (by decide +kernel)), (ps_tm 401 (by decide +kernel)), ⟨by decide +kernel, by decide +kernel⟩, by decide +kernel, by decide +kernel⟩
theorem ciX0_unlikePlaces : Cond.instanceMethod (ps_y mX0_unlikePlaces) ∈ lw_tbl ∧ Cond.selects (ps_y mX0_unlikePlaces).cls (ps_y mX0_unlikePlaces) (ps_y mX0_unlikePlaces) ∈ lw_tbl ∧ ∃ r : vw_C, ps_cls[0]? = some r ∧ r.1 = (ps_y mX0_unlikePlaces).cls := ⟨(ps_tm 399 (by decide +kernel)), (ps_tm 400 (by decide +kernel)), _, rfl, rfl⟩
theorem cbX3_restBehind : Cond.initialized (ps_y mX3_restBehind).cls ∈ lw_tbl ∧ Cond.code (ps_y mX3_restBehind) (ps_code mX3_restBehind) (ps_maxL mX3_restBehind) (ps_ret mX3_restBehind) ∈ lw_tbl ∧ ((ps_y mX3_restBehind).cls ≠ "java/lang/invoke/MethodHandle" ∧ (ps_y mX3_restBehind).cls ≠ "java/lang/invoke/VarHandle") ∧ (parseMethodDescriptor (ps_y mX3_restBehind).desc).map (fun d => d.parameters.length) = some 2 ∧ ps_maxL mX3_restBehind ≤ 21 := ⟨(ps_tm 5 (by decide +kernel)), (ps_tm 435 (by decide +kernel)), ⟨by decide +kernel, by decide +kernel⟩, by decide +kernel, by decide +kernel⟩
theorem ciX3_restBehind : Cond.instanceMethod (ps_y mX3_restBehind) ∈ lw_tbl ∧ Cond.selects (ps_y mX3_restBehind).cls (ps_y mX3_restBehind) (ps_y mX3_restBehind) ∈ lw_tbl ∧ ∃ r : vw_C, ps_cls[3]? = some r ∧ r.1 = (ps_y mX3_restBehind).cls := ⟨(ps_tm 434 (by decide +kernel)), (ps_sm 13 (by decide +kernel)), _, rfl, rfl⟩
theorem cbX3_mayCome : Cond.initialized (ps_y mX3_mayCome).cls ∈ lw_tbl ∧ Cond.code (ps_y mX3_mayCome) (ps_code mX3_mayCome) (ps_maxL mX3_mayCome) (ps_ret mX3_mayCome) ∈ lw_tbl ∧ ((ps_y mX3_mayCome).cls ≠ "java/lang/invoke/MethodHandle" ∧ (ps_y mX3_mayCome).cls ≠ "java/lang/invoke/VarHandle") ∧ (parseMethodDescriptor (ps_y mX3_mayCome).desc).map (fun d => d.parameters.length) = some 2 ∧ ps_maxL mX3_mayCome ≤ 21 := ⟨(ps_tm 5 (by decide +kernel)), (ps_tm 439 (by decide +kernel)), ⟨by decide +kernel, by decide +kernel⟩, by decide +kernel, by decide +kernel⟩
theorem ciX3_mayCome : Cond.instanceMethod (ps_y mX3_mayCome) ∈ lw_tbl ∧ Cond.selects (ps_y mX3_mayCome).cls (ps_y mX3_mayCome) (ps_y mX3_mayCome) ∈ lw_tbl ∧ ∃ r : vw_C, ps_cls[3]? = some r ∧ r.1 = (ps_y mX3_mayCome).cls := ⟨(ps_tm 438 (by decide +kernel)), (ps_sm 14 (by decide +kernel)), _, rfl, rfl⟩
theorem cbX3_restThrough : Cond.initialized (ps_y mX3_restThrough).cls ∈ lw_tbl ∧ Cond.code (ps_y mX3_restThrough) (ps_code mX3_restThrough) (ps_maxL mX3_restThrough) (ps_ret mX3_restThrough) ∈ lw_tbl ∧ ((ps_y mX3_restThrough).cls ≠ "java/lang/invoke/MethodHandle" ∧ (ps_y mX3_restThrough).cls ≠ "java/lang/invoke/VarHandle") ∧ (parseMethodDescriptor (ps_y mX3_restThrough).desc).map (fun d => d.parameters.length) = some 3 ∧ ps_maxL mX3_restThrough ≤ 21 := ⟨(ps_tm 5 (by decide +kernel)), (ps_tm 443 (by decide +kernel)), ⟨by decide +kernel, by decide +kernel⟩, by decide +kernel, by decide +kernel⟩
theorem ciX3_restThrough : Cond.instanceMethod (ps_y mX3_restThrough) ∈ lw_tbl ∧ Cond.selects (ps_y mX3_restThrough).cls (ps_y mX3_restThrough) (ps_y mX3_restThrough) ∈ lw_tbl ∧ ∃ r : vw_C, ps_cls[3]? = some r ∧ r.1 = (ps_y mX3_restThrough).cls := ⟨(ps_tm 442 (by decide +kernel)), (ps_sm 15 (by decide +kernel)), _, rfl, rfl⟩
theorem cbX3_leastNext : Cond.initialized (ps_y mX3_leastNext).cls ∈ lw_tbl ∧ Cond.code (ps_y mX3_leastNext) (ps_code mX3_leastNext) (ps_maxL mX3_leastNext) (ps_ret mX3_leastNext) ∈ lw_tbl ∧ ((ps_y mX3_leastNext).cls ≠ "java/lang/invoke/MethodHandle" ∧ (ps_y mX3_leastNext).cls ≠ "java/lang/invoke/VarHandle") ∧ (parseMethodDescriptor (ps_y mX3_leastNext).desc).map (fun d => d.parameters.length) = some 3 ∧ ps_maxL mX3_leastNext ≤ 21 := ⟨(ps_tm 5 (by decide +kernel)), (ps_tm 459 (by decide +kernel)), ⟨by decide +kernel, by decide +kernel⟩, by decide +kernel, by decide +kernel⟩
theorem ciX3_leastNext : Cond.instanceMethod (ps_y mX3_leastNext) ∈ lw_tbl ∧ Cond.selects (ps_y mX3_leastNext).cls (ps_y mX3_leastNext) (ps_y mX3_leastNext) ∈ lw_tbl ∧ ∃ r : vw_C, ps_cls[3]? = some r ∧ r.1 = (ps_y mX3_leastNext).cls := ⟨(ps_tm 458 (by decide +kernel)), (ps_sm 17 (by decide +kernel)), _, rfl, rfl⟩
theorem cbX4_forget : Cond.initialized (ps_y mX4_forget).cls ∈ lw_tbl ∧ Cond.code (ps_y mX4_forget) (ps_code mX4_forget) (ps_maxL mX4_forget) (ps_ret mX4_forget) ∈ lw_tbl ∧ ((ps_y mX4_forget).cls ≠ "java/lang/invoke/MethodHandle" ∧ (ps_y mX4_forget).cls ≠ "java/lang/invoke/VarHandle") ∧ (parseMethodDescriptor (ps_y mX4_forget).desc).map (fun d => d.parameters.length) = some 0 ∧ ps_maxL mX4_forget ≤ 21 := ⟨(ps_tm 7 (by decide +kernel)), (ps_tm 491 (by decide +kernel)), ⟨by decide +kernel, by decide +kernel⟩, by decide +kernel, by decide +kernel⟩
theorem ciX4_forget : Cond.instanceMethod (ps_y mX4_forget) ∈ lw_tbl ∧ Cond.selects (ps_y mX4_forget).cls (ps_y mX4_forget) (ps_y mX4_forget) ∈ lw_tbl ∧ ∃ r : vw_C, ps_cls[4]? = some r ∧ r.1 = (ps_y mX4_forget).cls := ⟨(ps_tm 489 (by decide +kernel)), (ps_tm 490 (by decide +kernel)), _, rfl, rfl⟩
theorem cbX4_weighSets : Cond.initialized (ps_y mX4_weighSets).cls ∈ lw_tbl ∧ Cond.code (ps_y mX4_weighSets) (ps_code mX4_weighSets) (ps_maxL mX4_weighSets) (ps_ret mX4_weighSets) ∈ lw_tbl ∧ ((ps_y mX4_weighSets).cls ≠ "java/lang/invoke/MethodHandle" ∧ (ps_y mX4_weighSets).cls ≠ "java/lang/invoke/VarHandle") ∧ (parseMethodDescriptor (ps_y mX4_weighSets).desc).map (fun d => d.parameters.length) = some 2 ∧ ps_maxL mX4_weighSets ≤ 21 := ⟨(ps_tm 7 (by decide +kernel)), (ps_tm 550 (by decide +kernel)), ⟨by decide +kernel, by decide +kernel⟩, by decide +kernel, by decide +kernel⟩
theorem ciX4_weighSets : Cond.instanceMethod (ps_y mX4_weighSets) ∈ lw_tbl ∧ Cond.selects (ps_y mX4_weighSets).cls (ps_y mX4_weighSets) (ps_y mX4_weighSets) ∈ lw_tbl ∧ ∃ r : vw_C, ps_cls[4]? = some r ∧ r.1 = (ps_y mX4_weighSets).cls := ⟨(ps_tm 549 (by decide +kernel)), (ps_sm 21 (by decide +kernel)), _, rfl, rfl⟩
theorem cbX4_addDay : Cond.initialized (ps_y mX4_addDay).cls ∈ lw_tbl ∧ Cond.code (ps_y mX4_addDay) (ps_code mX4_addDay) (ps_maxL mX4_addDay) (ps_ret mX4_addDay) ∈ lw_tbl ∧ ((ps_y mX4_addDay).cls ≠ "java/lang/invoke/MethodHandle" ∧ (ps_y mX4_addDay).cls ≠ "java/lang/invoke/VarHandle") ∧ (parseMethodDescriptor (ps_y mX4_addDay).desc).map (fun d => d.parameters.length) = some 1 ∧ ps_maxL mX4_addDay ≤ 21 := ⟨(ps_tm 7 (by decide +kernel)), (ps_tm 563 (by decide +kernel)), ⟨by decide +kernel, by decide +kernel⟩, by decide +kernel, by decide +kernel⟩
theorem ciX4_addDay : Cond.instanceMethod (ps_y mX4_addDay) ∈ lw_tbl ∧ Cond.selects (ps_y mX4_addDay).cls (ps_y mX4_addDay) (ps_y mX4_addDay) ∈ lw_tbl ∧ ∃ r : vw_C, ps_cls[4]? = some r ∧ r.1 = (ps_y mX4_addDay).cls := ⟨(ps_tm 562 (by decide +kernel)), (ps_sm 23 (by decide +kernel)), _, rfl, rfl⟩
theorem cbX4_canLie : Cond.initialized (ps_y mX4_canLie).cls ∈ lw_tbl ∧ Cond.code (ps_y mX4_canLie) (ps_code mX4_canLie) (ps_maxL mX4_canLie) (ps_ret mX4_canLie) ∈ lw_tbl ∧ ((ps_y mX4_canLie).cls ≠ "java/lang/invoke/MethodHandle" ∧ (ps_y mX4_canLie).cls ≠ "java/lang/invoke/VarHandle") ∧ (parseMethodDescriptor (ps_y mX4_canLie).desc).map (fun d => d.parameters.length) = some 2 ∧ ps_maxL mX4_canLie ≤ 21 := ⟨(ps_tm 7 (by decide +kernel)), (ps_tm 554 (by decide +kernel)), ⟨by decide +kernel, by decide +kernel⟩, by decide +kernel, by decide +kernel⟩
theorem ciX4_canLie : Cond.instanceMethod (ps_y mX4_canLie) ∈ lw_tbl ∧ Cond.selects (ps_y mX4_canLie).cls (ps_y mX4_canLie) (ps_y mX4_canLie) ∈ lw_tbl ∧ ∃ r : vw_C, ps_cls[4]? = some r ∧ r.1 = (ps_y mX4_canLie).cls := ⟨(ps_tm 553 (by decide +kernel)), (ps_sm 22 (by decide +kernel)), _, rfl, rfl⟩
theorem cbX4_makeFirst : Cond.initialized (ps_y mX4_makeFirst).cls ∈ lw_tbl ∧ Cond.code (ps_y mX4_makeFirst) (ps_code mX4_makeFirst) (ps_maxL mX4_makeFirst) (ps_ret mX4_makeFirst) ∈ lw_tbl ∧ ((ps_y mX4_makeFirst).cls ≠ "java/lang/invoke/MethodHandle" ∧ (ps_y mX4_makeFirst).cls ≠ "java/lang/invoke/VarHandle") ∧ (parseMethodDescriptor (ps_y mX4_makeFirst).desc).map (fun d => d.parameters.length) = some 2 ∧ ps_maxL mX4_makeFirst ≤ 21 := ⟨(ps_tm 7 (by decide +kernel)), (ps_tm 575 (by decide +kernel)), ⟨by decide +kernel, by decide +kernel⟩, by decide +kernel, by decide +kernel⟩
theorem ciX4_makeFirst : Cond.instanceMethod (ps_y mX4_makeFirst) ∈ lw_tbl ∧ Cond.selects (ps_y mX4_makeFirst).cls (ps_y mX4_makeFirst) (ps_y mX4_makeFirst) ∈ lw_tbl ∧ ∃ r : vw_C, ps_cls[4]? = some r ∧ r.1 = (ps_y mX4_makeFirst).cls := ⟨(ps_tm 574 (by decide +kernel)), (ps_sm 24 (by decide +kernel)), _, rfl, rfl⟩
theorem cbX6_ringSize : Cond.initialized (ps_y mX6_ringSize).cls ∈ lw_tbl ∧ Cond.code (ps_y mX6_ringSize) (ps_code mX6_ringSize) (ps_maxL mX6_ringSize) (ps_ret mX6_ringSize) ∈ lw_tbl ∧ ((ps_y mX6_ringSize).cls ≠ "java/lang/invoke/MethodHandle" ∧ (ps_y mX6_ringSize).cls ≠ "java/lang/invoke/VarHandle") ∧ (parseMethodDescriptor (ps_y mX6_ringSize).desc).map (fun d => d.parameters.length) = some 0 ∧ ps_maxL mX6_ringSize ≤ 21 := ⟨(ps_tm 6 (by decide +kernel)), (ps_tm 526 (by decide +kernel)), ⟨by decide +kernel, by decide +kernel⟩, by decide +kernel, by decide +kernel⟩
theorem ciX6_ringSize : Cond.instanceMethod (ps_y mX6_ringSize) ∈ lw_tbl ∧ Cond.selects (ps_y mX6_ringSize).cls (ps_y mX6_ringSize) (ps_y mX6_ringSize) ∈ lw_tbl ∧ ∃ r : vw_C, ps_cls[6]? = some r ∧ r.1 = (ps_y mX6_ringSize).cls := ⟨(ps_tm 524 (by decide +kernel)), (ps_tm 525 (by decide +kernel)), _, rfl, rfl⟩
theorem cbX6_isTold : Cond.initialized (ps_y mX6_isTold).cls ∈ lw_tbl ∧ Cond.code (ps_y mX6_isTold) (ps_code mX6_isTold) (ps_maxL mX6_isTold) (ps_ret mX6_isTold) ∈ lw_tbl ∧ ((ps_y mX6_isTold).cls ≠ "java/lang/invoke/MethodHandle" ∧ (ps_y mX6_isTold).cls ≠ "java/lang/invoke/VarHandle") ∧ (parseMethodDescriptor (ps_y mX6_isTold).desc).map (fun d => d.parameters.length) = some 1 ∧ ps_maxL mX6_isTold ≤ 21 := ⟨(ps_tm 6 (by decide +kernel)), (ps_tm 584 (by decide +kernel)), ⟨by decide +kernel, by decide +kernel⟩, by decide +kernel, by decide +kernel⟩
theorem ciX6_isTold : Cond.instanceMethod (ps_y mX6_isTold) ∈ lw_tbl ∧ Cond.selects (ps_y mX6_isTold).cls (ps_y mX6_isTold) (ps_y mX6_isTold) ∈ lw_tbl ∧ ∃ r : vw_C, ps_cls[6]? = some r ∧ r.1 = (ps_y mX6_isTold).cls := ⟨(ps_tm 582 (by decide +kernel)), (ps_tm 583 (by decide +kernel)), _, rfl, rfl⟩
theorem cbX4_hasRoom : Cond.initialized (ps_y mX4_hasRoom).cls ∈ lw_tbl ∧ Cond.code (ps_y mX4_hasRoom) (ps_code mX4_hasRoom) (ps_maxL mX4_hasRoom) (ps_ret mX4_hasRoom) ∈ lw_tbl ∧ ((ps_y mX4_hasRoom).cls ≠ "java/lang/invoke/MethodHandle" ∧ (ps_y mX4_hasRoom).cls ≠ "java/lang/invoke/VarHandle") ∧ (parseMethodDescriptor (ps_y mX4_hasRoom).desc).map (fun d => d.parameters.length) = some 3 ∧ ps_maxL mX4_hasRoom ≤ 21 := ⟨(ps_tm 7 (by decide +kernel)), (ps_tm 588 (by decide +kernel)), ⟨by decide +kernel, by decide +kernel⟩, by decide +kernel, by decide +kernel⟩
theorem ciX4_hasRoom : Cond.instanceMethod (ps_y mX4_hasRoom) ∈ lw_tbl ∧ Cond.selects (ps_y mX4_hasRoom).cls (ps_y mX4_hasRoom) (ps_y mX4_hasRoom) ∈ lw_tbl ∧ ∃ r : vw_C, ps_cls[4]? = some r ∧ r.1 = (ps_y mX4_hasRoom).cls := ⟨(ps_tm 587 (by decide +kernel)), (ps_sm 25 (by decide +kernel)), _, rfl, rfl⟩
theorem cbX4_keepsTurn : Cond.initialized (ps_y mX4_keepsTurn).cls ∈ lw_tbl ∧ Cond.code (ps_y mX4_keepsTurn) (ps_code mX4_keepsTurn) (ps_maxL mX4_keepsTurn) (ps_ret mX4_keepsTurn) ∈ lw_tbl ∧ ((ps_y mX4_keepsTurn).cls ≠ "java/lang/invoke/MethodHandle" ∧ (ps_y mX4_keepsTurn).cls ≠ "java/lang/invoke/VarHandle") ∧ (parseMethodDescriptor (ps_y mX4_keepsTurn).desc).map (fun d => d.parameters.length) = some 3 ∧ ps_maxL mX4_keepsTurn ≤ 21 := ⟨(ps_tm 7 (by decide +kernel)), (ps_tm 592 (by decide +kernel)), ⟨by decide +kernel, by decide +kernel⟩, by decide +kernel, by decide +kernel⟩
theorem ciX4_keepsTurn : Cond.instanceMethod (ps_y mX4_keepsTurn) ∈ lw_tbl ∧ Cond.selects (ps_y mX4_keepsTurn).cls (ps_y mX4_keepsTurn) (ps_y mX4_keepsTurn) ∈ lw_tbl ∧ ∃ r : vw_C, ps_cls[4]? = some r ∧ r.1 = (ps_y mX4_keepsTurn).cls := ⟨(ps_tm 591 (by decide +kernel)), (ps_sm 26 (by decide +kernel)), _, rfl, rfl⟩
theorem cbX5_countAlone : Cond.initialized (ps_y mX5_countAlone).cls ∈ lw_tbl ∧ Cond.code (ps_y mX5_countAlone) (ps_code mX5_countAlone) (ps_maxL mX5_countAlone) (ps_ret mX5_countAlone) ∈ lw_tbl ∧ ((ps_y mX5_countAlone).cls ≠ "java/lang/invoke/MethodHandle" ∧ (ps_y mX5_countAlone).cls ≠ "java/lang/invoke/VarHandle") ∧ (parseMethodDescriptor (ps_y mX5_countAlone).desc).map (fun d => d.parameters.length) = some 2 ∧ ps_maxL mX5_countAlone ≤ 21 := ⟨(ps_tm 4 (by decide +kernel)), (ps_tm 350 (by decide +kernel)), ⟨by decide +kernel, by decide +kernel⟩, by decide +kernel, by decide +kernel⟩
theorem ciX5_countAlone : Cond.instanceMethod (ps_y mX5_countAlone) ∈ lw_tbl ∧ Cond.selects (ps_y mX5_countAlone).cls (ps_y mX5_countAlone) (ps_y mX5_countAlone) ∈ lw_tbl ∧ ∃ r : vw_C, ps_cls[5]? = some r ∧ r.1 = (ps_y mX5_countAlone).cls := ⟨(ps_tm 349 (by decide +kernel)), (ps_sm 4 (by decide +kernel)), _, rfl, rfl⟩
theorem cbX5_allowOneMore : Cond.initialized (ps_y mX5_allowOneMore).cls ∈ lw_tbl ∧ Cond.code (ps_y mX5_allowOneMore) (ps_code mX5_allowOneMore) (ps_maxL mX5_allowOneMore) (ps_ret mX5_allowOneMore) ∈ lw_tbl ∧ ((ps_y mX5_allowOneMore).cls ≠ "java/lang/invoke/MethodHandle" ∧ (ps_y mX5_allowOneMore).cls ≠ "java/lang/invoke/VarHandle") ∧ (parseMethodDescriptor (ps_y mX5_allowOneMore).desc).map (fun d => d.parameters.length) = some 1 ∧ ps_maxL mX5_allowOneMore ≤ 21 := ⟨(ps_tm 4 (by decide +kernel)), (ps_tm 377 (by decide +kernel)), ⟨by decide +kernel, by decide +kernel⟩, by decide +kernel, by decide +kernel⟩
theorem ciX5_allowOneMore : Cond.instanceMethod (ps_y mX5_allowOneMore) ∈ lw_tbl ∧ Cond.selects (ps_y mX5_allowOneMore).cls (ps_y mX5_allowOneMore) (ps_y mX5_allowOneMore) ∈ lw_tbl ∧ ∃ r : vw_C, ps_cls[5]? = some r ∧ r.1 = (ps_y mX5_allowOneMore).cls := ⟨(ps_tm 376 (by decide +kernel)), (ps_sm 7 (by decide +kernel)), _, rfl, rfl⟩
theorem cbX5_slipsWithOneMore : Cond.initialized (ps_y mX5_slipsWithOneMore).cls ∈ lw_tbl ∧ Cond.code (ps_y mX5_slipsWithOneMore) (ps_code mX5_slipsWithOneMore) (ps_maxL mX5_slipsWithOneMore) (ps_ret mX5_slipsWithOneMore) ∈ lw_tbl ∧ ((ps_y mX5_slipsWithOneMore).cls ≠ "java/lang/invoke/MethodHandle" ∧ (ps_y mX5_slipsWithOneMore).cls ≠ "java/lang/invoke/VarHandle") ∧ (parseMethodDescriptor (ps_y mX5_slipsWithOneMore).desc).map (fun d => d.parameters.length) = some 1 ∧ ps_maxL mX5_slipsWithOneMore ≤ 21 := ⟨(ps_tm 4 (by decide +kernel)), (ps_tm 381 (by decide +kernel)), ⟨by decide +kernel, by decide +kernel⟩, by decide +kernel, by decide +kernel⟩
theorem ciX5_slipsWithOneMore : Cond.instanceMethod (ps_y mX5_slipsWithOneMore) ∈ lw_tbl ∧ Cond.selects (ps_y mX5_slipsWithOneMore).cls (ps_y mX5_slipsWithOneMore) (ps_y mX5_slipsWithOneMore) ∈ lw_tbl ∧ ∃ r : vw_C, ps_cls[5]? = some r ∧ r.1 = (ps_y mX5_slipsWithOneMore).cls := ⟨(ps_tm 380 (by decide +kernel)), (ps_sm 8 (by decide +kernel)), _, rfl, rfl⟩
theorem cbX5_takeReaders : Cond.initialized (ps_y mX5_takeReaders).cls ∈ lw_tbl ∧ Cond.code (ps_y mX5_takeReaders) (ps_code mX5_takeReaders) (ps_maxL mX5_takeReaders) (ps_ret mX5_takeReaders) ∈ lw_tbl ∧ ((ps_y mX5_takeReaders).cls ≠ "java/lang/invoke/MethodHandle" ∧ (ps_y mX5_takeReaders).cls ≠ "java/lang/invoke/VarHandle") ∧ (parseMethodDescriptor (ps_y mX5_takeReaders).desc).map (fun d => d.parameters.length) = some 2 ∧ ps_maxL mX5_takeReaders ≤ 21 := ⟨(ps_tm 4 (by decide +kernel)), (ps_tm 355 (by decide +kernel)), ⟨by decide +kernel, by decide +kernel⟩, by decide +kernel, by decide +kernel⟩
theorem ciX5_takeReaders : Cond.instanceMethod (ps_y mX5_takeReaders) ∈ lw_tbl ∧ Cond.selects (ps_y mX5_takeReaders).cls (ps_y mX5_takeReaders) (ps_y mX5_takeReaders) ∈ lw_tbl ∧ ∃ r : vw_C, ps_cls[5]? = some r ∧ r.1 = (ps_y mX5_takeReaders).cls := ⟨(ps_tm 354 (by decide +kernel)), (ps_sm 5 (by decide +kernel)), _, rfl, rfl⟩
theorem cbX5_slipsAtPlace : Cond.initialized (ps_y mX5_slipsAtPlace).cls ∈ lw_tbl ∧ Cond.code (ps_y mX5_slipsAtPlace) (ps_code mX5_slipsAtPlace) (ps_maxL mX5_slipsAtPlace) (ps_ret mX5_slipsAtPlace) ∈ lw_tbl ∧ ((ps_y mX5_slipsAtPlace).cls ≠ "java/lang/invoke/MethodHandle" ∧ (ps_y mX5_slipsAtPlace).cls ≠ "java/lang/invoke/VarHandle") ∧ (parseMethodDescriptor (ps_y mX5_slipsAtPlace).desc).map (fun d => d.parameters.length) = some 1 ∧ ps_maxL mX5_slipsAtPlace ≤ 21 := ⟨(ps_tm 4 (by decide +kernel)), (ps_tm 363 (by decide +kernel)), ⟨by decide +kernel, by decide +kernel⟩, by decide +kernel, by decide +kernel⟩
theorem ciX5_slipsAtPlace : Cond.instanceMethod (ps_y mX5_slipsAtPlace) ∈ lw_tbl ∧ Cond.selects (ps_y mX5_slipsAtPlace).cls (ps_y mX5_slipsAtPlace) (ps_y mX5_slipsAtPlace) ∈ lw_tbl ∧ ∃ r : vw_C, ps_cls[5]? = some r ∧ r.1 = (ps_y mX5_slipsAtPlace).cls := ⟨(ps_tm 362 (by decide +kernel)), (ps_sm 6 (by decide +kernel)), _, rfl, rfl⟩
theorem cbX0_readersOf : Cond.initialized (ps_y mX0_readersOf).cls ∈ lw_tbl ∧ Cond.code (ps_y mX0_readersOf) (ps_code mX0_readersOf) (ps_maxL mX0_readersOf) (ps_ret mX0_readersOf) ∈ lw_tbl ∧ ((ps_y mX0_readersOf).cls ≠ "java/lang/invoke/MethodHandle" ∧ (ps_y mX0_readersOf).cls ≠ "java/lang/invoke/VarHandle") ∧ (parseMethodDescriptor (ps_y mX0_readersOf).desc).map (fun d => d.parameters.length) = some 2 ∧ ps_maxL mX0_readersOf ≤ 21 := ⟨(ps_tm 2 (by decide +kernel)), (ps_tm 359 (by decide +kernel)), ⟨by decide +kernel, by decide +kernel⟩, by decide +kernel, by decide +kernel⟩
theorem ciX0_readersOf : Cond.instanceMethod (ps_y mX0_readersOf) ∈ lw_tbl ∧ Cond.selects (ps_y mX0_readersOf).cls (ps_y mX0_readersOf) (ps_y mX0_readersOf) ∈ lw_tbl ∧ ∃ r : vw_C, ps_cls[0]? = some r ∧ r.1 = (ps_y mX0_readersOf).cls := ⟨(ps_tm 357 (by decide +kernel)), (ps_tm 358 (by decide +kernel)), _, rfl, rfl⟩
theorem cbX6_link : Cond.initialized (ps_y mX6_link).cls ∈ lw_tbl ∧ Cond.code (ps_y mX6_link) (ps_code mX6_link) (ps_maxL mX6_link) (ps_ret mX6_link) ∈ lw_tbl ∧ ((ps_y mX6_link).cls ≠ "java/lang/invoke/MethodHandle" ∧ (ps_y mX6_link).cls ≠ "java/lang/invoke/VarHandle") ∧ (parseMethodDescriptor (ps_y mX6_link).desc).map (fun d => d.parameters.length) = some 0 ∧ ps_maxL mX6_link ≤ 21 := ⟨(ps_tm 6 (by decide +kernel)), (ps_tm 499 (by decide +kernel)), ⟨by decide +kernel, by decide +kernel⟩, by decide +kernel, by decide +kernel⟩
theorem ciX6_link : Cond.instanceMethod (ps_y mX6_link) ∈ lw_tbl ∧ Cond.selects (ps_y mX6_link).cls (ps_y mX6_link) (ps_y mX6_link) ∈ lw_tbl ∧ ∃ r : vw_C, ps_cls[6]? = some r ∧ r.1 = (ps_y mX6_link).cls := ⟨(ps_tm 498 (by decide +kernel)), (ps_sm 18 (by decide +kernel)), _, rfl, rfl⟩
theorem cbX6_linkPiece : Cond.initialized (ps_y mX6_linkPiece).cls ∈ lw_tbl ∧ Cond.code (ps_y mX6_linkPiece) (ps_code mX6_linkPiece) (ps_maxL mX6_linkPiece) (ps_ret mX6_linkPiece) ∈ lw_tbl ∧ ((ps_y mX6_linkPiece).cls ≠ "java/lang/invoke/MethodHandle" ∧ (ps_y mX6_linkPiece).cls ≠ "java/lang/invoke/VarHandle") ∧ (parseMethodDescriptor (ps_y mX6_linkPiece).desc).map (fun d => d.parameters.length) = some 1 ∧ ps_maxL mX6_linkPiece ≤ 21 := ⟨(ps_tm 6 (by decide +kernel)), (ps_tm 503 (by decide +kernel)), ⟨by decide +kernel, by decide +kernel⟩, by decide +kernel, by decide +kernel⟩
theorem ciX6_linkPiece : Cond.instanceMethod (ps_y mX6_linkPiece) ∈ lw_tbl ∧ Cond.selects (ps_y mX6_linkPiece).cls (ps_y mX6_linkPiece) (ps_y mX6_linkPiece) ∈ lw_tbl ∧ ∃ r : vw_C, ps_cls[6]? = some r ∧ r.1 = (ps_y mX6_linkPiece).cls := ⟨(ps_tm 502 (by decide +kernel)), (ps_sm 19 (by decide +kernel)), _, rfl, rfl⟩
theorem cbX6_reachOn : Cond.initialized (ps_y mX6_reachOn).cls ∈ lw_tbl ∧ Cond.code (ps_y mX6_reachOn) (ps_code mX6_reachOn) (ps_maxL mX6_reachOn) (ps_ret mX6_reachOn) ∈ lw_tbl ∧ ((ps_y mX6_reachOn).cls ≠ "java/lang/invoke/MethodHandle" ∧ (ps_y mX6_reachOn).cls ≠ "java/lang/invoke/VarHandle") ∧ (parseMethodDescriptor (ps_y mX6_reachOn).desc).map (fun d => d.parameters.length) = some 0 ∧ ps_maxL mX6_reachOn ≤ 21 := ⟨(ps_tm 6 (by decide +kernel)), (ps_tm 510 (by decide +kernel)), ⟨by decide +kernel, by decide +kernel⟩, by decide +kernel, by decide +kernel⟩
theorem ciX6_reachOn : Cond.instanceMethod (ps_y mX6_reachOn) ∈ lw_tbl ∧ Cond.selects (ps_y mX6_reachOn).cls (ps_y mX6_reachOn) (ps_y mX6_reachOn) ∈ lw_tbl ∧ ∃ r : vw_C, ps_cls[6]? = some r ∧ r.1 = (ps_y mX6_reachOn).cls := ⟨(ps_tm 509 (by decide +kernel)), (ps_sm 20 (by decide +kernel)), _, rfl, rfl⟩
theorem cbX0_tellAhead : Cond.initialized (ps_y mX0_tellAhead).cls ∈ lw_tbl ∧ Cond.code (ps_y mX0_tellAhead) (ps_code mX0_tellAhead) (ps_maxL mX0_tellAhead) (ps_ret mX0_tellAhead) ∈ lw_tbl ∧ ((ps_y mX0_tellAhead).cls ≠ "java/lang/invoke/MethodHandle" ∧ (ps_y mX0_tellAhead).cls ≠ "java/lang/invoke/VarHandle") ∧ (parseMethodDescriptor (ps_y mX0_tellAhead).desc).map (fun d => d.parameters.length) = some 3 ∧ ps_maxL mX0_tellAhead ≤ 21 := ⟨(ps_tm 2 (by decide +kernel)), (ps_tm 393 (by decide +kernel)), ⟨by decide +kernel, by decide +kernel⟩, by decide +kernel, by decide +kernel⟩
theorem ciX0_tellAhead : Cond.instanceMethod (ps_y mX0_tellAhead) ∈ lw_tbl ∧ Cond.selects (ps_y mX0_tellAhead).cls (ps_y mX0_tellAhead) (ps_y mX0_tellAhead) ∈ lw_tbl ∧ ∃ r : vw_C, ps_cls[0]? = some r ∧ r.1 = (ps_y mX0_tellAhead).cls := ⟨(ps_tm 391 (by decide +kernel)), (ps_tm 392 (by decide +kernel)), _, rfl, rfl⟩
theorem cbX3_leastCost : Cond.initialized (ps_y mX3_leastCost).cls ∈ lw_tbl ∧ Cond.code (ps_y mX3_leastCost) (ps_code mX3_leastCost) (ps_maxL mX3_leastCost) (ps_ret mX3_leastCost) ∈ lw_tbl ∧ ((ps_y mX3_leastCost).cls ≠ "java/lang/invoke/MethodHandle" ∧ (ps_y mX3_leastCost).cls ≠ "java/lang/invoke/VarHandle") ∧ (parseMethodDescriptor (ps_y mX3_leastCost).desc).map (fun d => d.parameters.length) = some 1 ∧ ps_maxL mX3_leastCost ≤ 21 := ⟨(ps_tm 5 (by decide +kernel)), (ps_tm 410 (by decide +kernel)), ⟨by decide +kernel, by decide +kernel⟩, by decide +kernel, by decide +kernel⟩
theorem ciX3_leastCost : Cond.instanceMethod (ps_y mX3_leastCost) ∈ lw_tbl ∧ Cond.selects (ps_y mX3_leastCost).cls (ps_y mX3_leastCost) (ps_y mX3_leastCost) ∈ lw_tbl ∧ ∃ r : vw_C, ps_cls[3]? = some r ∧ r.1 = (ps_y mX3_leastCost).cls := ⟨(ps_tm 408 (by decide +kernel)), (ps_tm 409 (by decide +kernel)), _, rfl, rfl⟩
theorem cbX3_leastWays : Cond.initialized (ps_y mX3_leastWays).cls ∈ lw_tbl ∧ Cond.code (ps_y mX3_leastWays) (ps_code mX3_leastWays) (ps_maxL mX3_leastWays) (ps_ret mX3_leastWays) ∈ lw_tbl ∧ ((ps_y mX3_leastWays).cls ≠ "java/lang/invoke/MethodHandle" ∧ (ps_y mX3_leastWays).cls ≠ "java/lang/invoke/VarHandle") ∧ (parseMethodDescriptor (ps_y mX3_leastWays).desc).map (fun d => d.parameters.length) = some 1 ∧ ps_maxL mX3_leastWays ≤ 21 := ⟨(ps_tm 5 (by decide +kernel)), (ps_tm 467 (by decide +kernel)), ⟨by decide +kernel, by decide +kernel⟩, by decide +kernel, by decide +kernel⟩
theorem ciX3_leastWays : Cond.instanceMethod (ps_y mX3_leastWays) ∈ lw_tbl ∧ Cond.selects (ps_y mX3_leastWays).cls (ps_y mX3_leastWays) (ps_y mX3_leastWays) ∈ lw_tbl ∧ ∃ r : vw_C, ps_cls[3]? = some r ∧ r.1 = (ps_y mX3_leastWays).cls := ⟨(ps_tm 465 (by decide +kernel)), (ps_tm 466 (by decide +kernel)), _, rfl, rfl⟩
theorem cbX3_stateAt : Cond.initialized (ps_y mX3_stateAt).cls ∈ lw_tbl ∧ Cond.code (ps_y mX3_stateAt) (ps_code mX3_stateAt) (ps_maxL mX3_stateAt) (ps_ret mX3_stateAt) ∈ lw_tbl ∧ ((ps_y mX3_stateAt).cls ≠ "java/lang/invoke/MethodHandle" ∧ (ps_y mX3_stateAt).cls ≠ "java/lang/invoke/VarHandle") ∧ (parseMethodDescriptor (ps_y mX3_stateAt).desc).map (fun d => d.parameters.length) = some 2 ∧ ps_maxL mX3_stateAt ≤ 21 := ⟨(ps_tm 5 (by decide +kernel)), (ps_tm 475 (by decide +kernel)), ⟨by decide +kernel, by decide +kernel⟩, by decide +kernel, by decide +kernel⟩
theorem ciX3_stateAt : Cond.instanceMethod (ps_y mX3_stateAt) ∈ lw_tbl ∧ Cond.selects (ps_y mX3_stateAt).cls (ps_y mX3_stateAt) (ps_y mX3_stateAt) ∈ lw_tbl ∧ ∃ r : vw_C, ps_cls[3]? = some r ∧ r.1 = (ps_y mX3_stateAt).cls := ⟨(ps_tm 473 (by decide +kernel)), (ps_tm 474 (by decide +kernel)), _, rfl, rfl⟩
theorem cbX3_waysWith : Cond.initialized (ps_y mX3_waysWith).cls ∈ lw_tbl ∧ Cond.code (ps_y mX3_waysWith) (ps_code mX3_waysWith) (ps_maxL mX3_waysWith) (ps_ret mX3_waysWith) ∈ lw_tbl ∧ ((ps_y mX3_waysWith).cls ≠ "java/lang/invoke/MethodHandle" ∧ (ps_y mX3_waysWith).cls ≠ "java/lang/invoke/VarHandle") ∧ (parseMethodDescriptor (ps_y mX3_waysWith).desc).map (fun d => d.parameters.length) = some 3 ∧ ps_maxL mX3_waysWith ≤ 21 := ⟨(ps_tm 5 (by decide +kernel)), (ps_tm 483 (by decide +kernel)), ⟨by decide +kernel, by decide +kernel⟩, by decide +kernel, by decide +kernel⟩
theorem ciX3_waysWith : Cond.instanceMethod (ps_y mX3_waysWith) ∈ lw_tbl ∧ Cond.selects (ps_y mX3_waysWith).cls (ps_y mX3_waysWith) (ps_y mX3_waysWith) ∈ lw_tbl ∧ ∃ r : vw_C, ps_cls[3]? = some r ∧ r.1 = (ps_y mX3_waysWith).cls := ⟨(ps_tm 481 (by decide +kernel)), (ps_tm 482 (by decide +kernel)), _, rfl, rfl⟩
theorem cbX6_putPiece : Cond.initialized (ps_y mX6_putPiece).cls ∈ lw_tbl ∧ Cond.code (ps_y mX6_putPiece) (ps_code mX6_putPiece) (ps_maxL mX6_putPiece) (ps_ret mX6_putPiece) ∈ lw_tbl ∧ ((ps_y mX6_putPiece).cls ≠ "java/lang/invoke/MethodHandle" ∧ (ps_y mX6_putPiece).cls ≠ "java/lang/invoke/VarHandle") ∧ (parseMethodDescriptor (ps_y mX6_putPiece).desc).map (fun d => d.parameters.length) = some 3 ∧ ps_maxL mX6_putPiece ≤ 21 := ⟨(ps_tm 6 (by decide +kernel)), (ps_tm 495 (by decide +kernel)), ⟨by decide +kernel, by decide +kernel⟩, by decide +kernel, by decide +kernel⟩
theorem ciX6_putPiece : Cond.instanceMethod (ps_y mX6_putPiece) ∈ lw_tbl ∧ Cond.selects (ps_y mX6_putPiece).cls (ps_y mX6_putPiece) (ps_y mX6_putPiece) ∈ lw_tbl ∧ ∃ r : vw_C, ps_cls[6]? = some r ∧ r.1 = (ps_y mX6_putPiece).cls := ⟨(ps_tm 493 (by decide +kernel)), (ps_tm 494 (by decide +kernel)), _, rfl, rfl⟩
theorem cbX4_putPresses : Cond.initialized (ps_y mX4_putPresses).cls ∈ lw_tbl ∧ Cond.code (ps_y mX4_putPresses) (ps_code mX4_putPresses) (ps_maxL mX4_putPresses) (ps_ret mX4_putPresses) ∈ lw_tbl ∧ ((ps_y mX4_putPresses).cls ≠ "java/lang/invoke/MethodHandle" ∧ (ps_y mX4_putPresses).cls ≠ "java/lang/invoke/VarHandle") ∧ (parseMethodDescriptor (ps_y mX4_putPresses).desc).map (fun d => d.parameters.length) = some 1 ∧ ps_maxL mX4_putPresses ≤ 21 := ⟨(ps_tm 7 (by decide +kernel)), (ps_tm 534 (by decide +kernel)), ⟨by decide +kernel, by decide +kernel⟩, by decide +kernel, by decide +kernel⟩
theorem ciX4_putPresses : Cond.instanceMethod (ps_y mX4_putPresses) ∈ lw_tbl ∧ Cond.selects (ps_y mX4_putPresses).cls (ps_y mX4_putPresses) (ps_y mX4_putPresses) ∈ lw_tbl ∧ ∃ r : vw_C, ps_cls[4]? = some r ∧ r.1 = (ps_y mX4_putPresses).cls := ⟨(ps_tm 532 (by decide +kernel)), (ps_tm 533 (by decide +kernel)), _, rfl, rfl⟩
theorem cbX4_planCount : Cond.initialized (ps_y mX4_planCount).cls ∈ lw_tbl ∧ Cond.code (ps_y mX4_planCount) (ps_code mX4_planCount) (ps_maxL mX4_planCount) (ps_ret mX4_planCount) ∈ lw_tbl ∧ ((ps_y mX4_planCount).cls ≠ "java/lang/invoke/MethodHandle" ∧ (ps_y mX4_planCount).cls ≠ "java/lang/invoke/VarHandle") ∧ (parseMethodDescriptor (ps_y mX4_planCount).desc).map (fun d => d.parameters.length) = some 3 ∧ ps_maxL mX4_planCount ≤ 21 := ⟨(ps_tm 7 (by decide +kernel)), (ps_tm 546 (by decide +kernel)), ⟨by decide +kernel, by decide +kernel⟩, by decide +kernel, by decide +kernel⟩
theorem ciX4_planCount : Cond.instanceMethod (ps_y mX4_planCount) ∈ lw_tbl ∧ Cond.selects (ps_y mX4_planCount).cls (ps_y mX4_planCount) (ps_y mX4_planCount) ∈ lw_tbl ∧ ∃ r : vw_C, ps_cls[4]? = some r ∧ r.1 = (ps_y mX4_planCount).cls := ⟨(ps_tm 544 (by decide +kernel)), (ps_tm 545 (by decide +kernel)), _, rfl, rfl⟩
theorem cbX4_dayInFirst : Cond.initialized (ps_y mX4_dayInFirst).cls ∈ lw_tbl ∧ Cond.code (ps_y mX4_dayInFirst) (ps_code mX4_dayInFirst) (ps_maxL mX4_dayInFirst) (ps_ret mX4_dayInFirst) ∈ lw_tbl ∧ ((ps_y mX4_dayInFirst).cls ≠ "java/lang/invoke/MethodHandle" ∧ (ps_y mX4_dayInFirst).cls ≠ "java/lang/invoke/VarHandle") ∧ (parseMethodDescriptor (ps_y mX4_dayInFirst).desc).map (fun d => d.parameters.length) = some 3 ∧ ps_maxL mX4_dayInFirst ≤ 21 := ⟨(ps_tm 7 (by decide +kernel)), (ps_tm 571 (by decide +kernel)), ⟨by decide +kernel, by decide +kernel⟩, by decide +kernel, by decide +kernel⟩
theorem ciX4_dayInFirst : Cond.instanceMethod (ps_y mX4_dayInFirst) ∈ lw_tbl ∧ Cond.selects (ps_y mX4_dayInFirst).cls (ps_y mX4_dayInFirst) (ps_y mX4_dayInFirst) ∈ lw_tbl ∧ ∃ r : vw_C, ps_cls[4]? = some r ∧ r.1 = (ps_y mX4_dayInFirst).cls := ⟨(ps_tm 569 (by decide +kernel)), (ps_tm 570 (by decide +kernel)), _, rfl, rfl⟩
theorem cbX1_addSheet : Cond.initialized (ps_y mX1_addSheet).cls ∈ lw_tbl ∧ Cond.code (ps_y mX1_addSheet) (ps_code mX1_addSheet) (ps_maxL mX1_addSheet) (ps_ret mX1_addSheet) ∈ lw_tbl ∧ ((ps_y mX1_addSheet).cls ≠ "java/lang/invoke/MethodHandle" ∧ (ps_y mX1_addSheet).cls ≠ "java/lang/invoke/VarHandle") ∧ (parseMethodDescriptor (ps_y mX1_addSheet).desc).map (fun d => d.parameters.length) = some 2 ∧ ps_maxL mX1_addSheet ≤ 21 := ⟨(ps_tm 8 (by decide +kernel)), (ps_tm 609 (by decide +kernel)), ⟨by decide +kernel, by decide +kernel⟩, by decide +kernel, by decide +kernel⟩
theorem ciX1_addSheet : Cond.instanceMethod (ps_y mX1_addSheet) ∈ lw_tbl ∧ Cond.selects (ps_y mX1_addSheet).cls (ps_y mX1_addSheet) (ps_y mX1_addSheet) ∈ lw_tbl ∧ ∃ r : vw_C, ps_cls[1]? = some r ∧ r.1 = (ps_y mX1_addSheet).cls := ⟨(ps_tm 607 (by decide +kernel)), (ps_tm 608 (by decide +kernel)), _, rfl, rfl⟩
theorem cbX1_putSize : Cond.initialized (ps_y mX1_putSize).cls ∈ lw_tbl ∧ Cond.code (ps_y mX1_putSize) (ps_code mX1_putSize) (ps_maxL mX1_putSize) (ps_ret mX1_putSize) ∈ lw_tbl ∧ ((ps_y mX1_putSize).cls ≠ "java/lang/invoke/MethodHandle" ∧ (ps_y mX1_putSize).cls ≠ "java/lang/invoke/VarHandle") ∧ (parseMethodDescriptor (ps_y mX1_putSize).desc).map (fun d => d.parameters.length) = some 1 ∧ ps_maxL mX1_putSize ≤ 21 := ⟨(ps_tm 8 (by decide +kernel)), (ps_tm 617 (by decide +kernel)), ⟨by decide +kernel, by decide +kernel⟩, by decide +kernel, by decide +kernel⟩
theorem ciX1_putSize : Cond.instanceMethod (ps_y mX1_putSize) ∈ lw_tbl ∧ Cond.selects (ps_y mX1_putSize).cls (ps_y mX1_putSize) (ps_y mX1_putSize) ∈ lw_tbl ∧ ∃ r : vw_C, ps_cls[1]? = some r ∧ r.1 = (ps_y mX1_putSize).cls := ⟨(ps_tm 615 (by decide +kernel)), (ps_tm 616 (by decide +kernel)), _, rfl, rfl⟩
theorem cbX1_putSeen : Cond.initialized (ps_y mX1_putSeen).cls ∈ lw_tbl ∧ Cond.code (ps_y mX1_putSeen) (ps_code mX1_putSeen) (ps_maxL mX1_putSeen) (ps_ret mX1_putSeen) ∈ lw_tbl ∧ ((ps_y mX1_putSeen).cls ≠ "java/lang/invoke/MethodHandle" ∧ (ps_y mX1_putSeen).cls ≠ "java/lang/invoke/VarHandle") ∧ (parseMethodDescriptor (ps_y mX1_putSeen).desc).map (fun d => d.parameters.length) = some 3 ∧ ps_maxL mX1_putSeen ≤ 21 := ⟨(ps_tm 8 (by decide +kernel)), (ps_tm 625 (by decide +kernel)), ⟨by decide +kernel, by decide +kernel⟩, by decide +kernel, by decide +kernel⟩
theorem ciX1_putSeen : Cond.instanceMethod (ps_y mX1_putSeen) ∈ lw_tbl ∧ Cond.selects (ps_y mX1_putSeen).cls (ps_y mX1_putSeen) (ps_y mX1_putSeen) ∈ lw_tbl ∧ ∃ r : vw_C, ps_cls[1]? = some r ∧ r.1 = (ps_y mX1_putSeen).cls := ⟨(ps_tm 623 (by decide +kernel)), (ps_tm 624 (by decide +kernel)), _, rfl, rfl⟩
theorem cbX1_turnings : Cond.initialized (ps_y mX1_turnings).cls ∈ lw_tbl ∧ Cond.code (ps_y mX1_turnings) (ps_code mX1_turnings) (ps_maxL mX1_turnings) (ps_ret mX1_turnings) ∈ lw_tbl ∧ ((ps_y mX1_turnings).cls ≠ "java/lang/invoke/MethodHandle" ∧ (ps_y mX1_turnings).cls ≠ "java/lang/invoke/VarHandle") ∧ (parseMethodDescriptor (ps_y mX1_turnings).desc).map (fun d => d.parameters.length) = some 1 ∧ ps_maxL mX1_turnings ≤ 21 := ⟨(ps_tm 8 (by decide +kernel)), (ps_tm 633 (by decide +kernel)), ⟨by decide +kernel, by decide +kernel⟩, by decide +kernel, by decide +kernel⟩
theorem ciX1_turnings : Cond.instanceMethod (ps_y mX1_turnings) ∈ lw_tbl ∧ Cond.selects (ps_y mX1_turnings).cls (ps_y mX1_turnings) (ps_y mX1_turnings) ∈ lw_tbl ∧ ∃ r : vw_C, ps_cls[1]? = some r ∧ r.1 = (ps_y mX1_turnings).cls := ⟨(ps_tm 631 (by decide +kernel)), (ps_tm 632 (by decide +kernel)), _, rfl, rfl⟩
theorem cbX2_putHouse : Cond.initialized (ps_y mX2_putHouse).cls ∈ lw_tbl ∧ Cond.code (ps_y mX2_putHouse) (ps_code mX2_putHouse) (ps_maxL mX2_putHouse) (ps_ret mX2_putHouse) ∈ lw_tbl ∧ ((ps_y mX2_putHouse).cls ≠ "java/lang/invoke/MethodHandle" ∧ (ps_y mX2_putHouse).cls ≠ "java/lang/invoke/VarHandle") ∧ (parseMethodDescriptor (ps_y mX2_putHouse).desc).map (fun d => d.parameters.length) = some 2 ∧ ps_maxL mX2_putHouse ≤ 21 := ⟨(ps_tm 9 (by decide +kernel)), (ps_tm 674 (by decide +kernel)), ⟨by decide +kernel, by decide +kernel⟩, by decide +kernel, by decide +kernel⟩
theorem ciX2_putHouse : Cond.instanceMethod (ps_y mX2_putHouse) ∈ lw_tbl ∧ Cond.selects (ps_y mX2_putHouse).cls (ps_y mX2_putHouse) (ps_y mX2_putHouse) ∈ lw_tbl ∧ ∃ r : vw_C, ps_cls[2]? = some r ∧ r.1 = (ps_y mX2_putHouse).cls := ⟨(ps_tm 672 (by decide +kernel)), (ps_tm 673 (by decide +kernel)), _, rfl, rfl⟩
theorem cbX7_isMan : Cond.initialized (ps_y mX7_isMan).cls ∈ lw_tbl ∧ Cond.code (ps_y mX7_isMan) (ps_code mX7_isMan) (ps_maxL mX7_isMan) (ps_ret mX7_isMan) ∈ lw_tbl ∧ ((ps_y mX7_isMan).cls ≠ "java/lang/invoke/MethodHandle" ∧ (ps_y mX7_isMan).cls ≠ "java/lang/invoke/VarHandle") ∧ (parseMethodDescriptor (ps_y mX7_isMan).desc).map (fun d => d.parameters.length) = some 1 ∧ ps_maxL mX7_isMan ≤ 21 := ⟨(ps_tm 1 (by decide +kernel)), (ps_tm 682 (by decide +kernel)), ⟨by decide +kernel, by decide +kernel⟩, by decide +kernel, by decide +kernel⟩
theorem ciX7_isMan : Cond.instanceMethod (ps_y mX7_isMan) ∈ lw_tbl ∧ Cond.selects (ps_y mX7_isMan).cls (ps_y mX7_isMan) (ps_y mX7_isMan) ∈ lw_tbl ∧ ∃ r : vw_C, ps_cls[7]? = some r ∧ r.1 = (ps_y mX7_isMan).cls := ⟨(ps_tm 681 (by decide +kernel)), (ps_sm 29 (by decide +kernel)), _, rfl, rfl⟩
theorem cbX2_putHabit : Cond.initialized (ps_y mX2_putHabit).cls ∈ lw_tbl ∧ Cond.code (ps_y mX2_putHabit) (ps_code mX2_putHabit) (ps_maxL mX2_putHabit) (ps_ret mX2_putHabit) ∈ lw_tbl ∧ ((ps_y mX2_putHabit).cls ≠ "java/lang/invoke/MethodHandle" ∧ (ps_y mX2_putHabit).cls ≠ "java/lang/invoke/VarHandle") ∧ (parseMethodDescriptor (ps_y mX2_putHabit).desc).map (fun d => d.parameters.length) = some 3 ∧ ps_maxL mX2_putHabit ≤ 21 := ⟨(ps_tm 9 (by decide +kernel)), (ps_tm 686 (by decide +kernel)), ⟨by decide +kernel, by decide +kernel⟩, by decide +kernel, by decide +kernel⟩
theorem ciX2_putHabit : Cond.instanceMethod (ps_y mX2_putHabit) ∈ lw_tbl ∧ Cond.selects (ps_y mX2_putHabit).cls (ps_y mX2_putHabit) (ps_y mX2_putHabit) ∈ lw_tbl ∧ ∃ r : vw_C, ps_cls[2]? = some r ∧ r.1 = (ps_y mX2_putHabit).cls := ⟨(ps_tm 684 (by decide +kernel)), (ps_tm 685 (by decide +kernel)), _, rfl, rfl⟩
theorem cbX7_isPage : Cond.initialized (ps_y mX7_isPage).cls ∈ lw_tbl ∧ Cond.code (ps_y mX7_isPage) (ps_code mX7_isPage) (ps_maxL mX7_isPage) (ps_ret mX7_isPage) ∈ lw_tbl ∧ ((ps_y mX7_isPage).cls ≠ "java/lang/invoke/MethodHandle" ∧ (ps_y mX7_isPage).cls ≠ "java/lang/invoke/VarHandle") ∧ (parseMethodDescriptor (ps_y mX7_isPage).desc).map (fun d => d.parameters.length) = some 1 ∧ ps_maxL mX7_isPage ≤ 21 := ⟨(ps_tm 1 (by decide +kernel)), (ps_tm 694 (by decide +kernel)), ⟨by decide +kernel, by decide +kernel⟩, by decide +kernel, by decide +kernel⟩
theorem ciX7_isPage : Cond.instanceMethod (ps_y mX7_isPage) ∈ lw_tbl ∧ Cond.selects (ps_y mX7_isPage).cls (ps_y mX7_isPage) (ps_y mX7_isPage) ∈ lw_tbl ∧ ∃ r : vw_C, ps_cls[7]? = some r ∧ r.1 = (ps_y mX7_isPage).cls := ⟨(ps_tm 693 (by decide +kernel)), (ps_sm 30 (by decide +kernel)), _, rfl, rfl⟩
theorem cbX2_putTimes : Cond.initialized (ps_y mX2_putTimes).cls ∈ lw_tbl ∧ Cond.code (ps_y mX2_putTimes) (ps_code mX2_putTimes) (ps_maxL mX2_putTimes) (ps_ret mX2_putTimes) ∈ lw_tbl ∧ ((ps_y mX2_putTimes).cls ≠ "java/lang/invoke/MethodHandle" ∧ (ps_y mX2_putTimes).cls ≠ "java/lang/invoke/VarHandle") ∧ (parseMethodDescriptor (ps_y mX2_putTimes).desc).map (fun d => d.parameters.length) = some 4 ∧ ps_maxL mX2_putTimes ≤ 21 := ⟨(ps_tm 9 (by decide +kernel)), (ps_tm 698 (by decide +kernel)), ⟨by decide +kernel, by decide +kernel⟩, by decide +kernel, by decide +kernel⟩
theorem ciX2_putTimes : Cond.instanceMethod (ps_y mX2_putTimes) ∈ lw_tbl ∧ Cond.selects (ps_y mX2_putTimes).cls (ps_y mX2_putTimes) (ps_y mX2_putTimes) ∈ lw_tbl ∧ ∃ r : vw_C, ps_cls[2]? = some r ∧ r.1 = (ps_y mX2_putTimes).cls := ⟨(ps_tm 696 (by decide +kernel)), (ps_tm 697 (by decide +kernel)), _, rfl, rfl⟩
theorem cbX2_putChange : Cond.initialized (ps_y mX2_putChange).cls ∈ lw_tbl ∧ Cond.code (ps_y mX2_putChange) (ps_code mX2_putChange) (ps_maxL mX2_putChange) (ps_ret mX2_putChange) ∈ lw_tbl ∧ ((ps_y mX2_putChange).cls ≠ "java/lang/invoke/MethodHandle" ∧ (ps_y mX2_putChange).cls ≠ "java/lang/invoke/VarHandle") ∧ (parseMethodDescriptor (ps_y mX2_putChange).desc).map (fun d => d.parameters.length) = some 1 ∧ ps_maxL mX2_putChange ≤ 21 := ⟨(ps_tm 9 (by decide +kernel)), (ps_tm 706 (by decide +kernel)), ⟨by decide +kernel, by decide +kernel⟩, by decide +kernel, by decide +kernel⟩
theorem ciX2_putChange : Cond.instanceMethod (ps_y mX2_putChange) ∈ lw_tbl ∧ Cond.selects (ps_y mX2_putChange).cls (ps_y mX2_putChange) (ps_y mX2_putChange) ∈ lw_tbl ∧ ∃ r : vw_C, ps_cls[2]? = some r ∧ r.1 = (ps_y mX2_putChange).cls := ⟨(ps_tm 704 (by decide +kernel)), (ps_tm 705 (by decide +kernel)), _, rfl, rfl⟩
theorem cbX2_bestCost : Cond.initialized (ps_y mX2_bestCost).cls ∈ lw_tbl ∧ Cond.code (ps_y mX2_bestCost) (ps_code mX2_bestCost) (ps_maxL mX2_bestCost) (ps_ret mX2_bestCost) ∈ lw_tbl ∧ ((ps_y mX2_bestCost).cls ≠ "java/lang/invoke/MethodHandle" ∧ (ps_y mX2_bestCost).cls ≠ "java/lang/invoke/VarHandle") ∧ (parseMethodDescriptor (ps_y mX2_bestCost).desc).map (fun d => d.parameters.length) = some 0 ∧ ps_maxL mX2_bestCost ≤ 21 := ⟨(ps_tm 9 (by decide +kernel)), (ps_tm 722 (by decide +kernel)), ⟨by decide +kernel, by decide +kernel⟩, by decide +kernel, by decide +kernel⟩
theorem ciX2_bestCost : Cond.instanceMethod (ps_y mX2_bestCost) ∈ lw_tbl ∧ Cond.selects (ps_y mX2_bestCost).cls (ps_y mX2_bestCost) (ps_y mX2_bestCost) ∈ lw_tbl ∧ ∃ r : vw_C, ps_cls[2]? = some r ∧ r.1 = (ps_y mX2_bestCost).cls := ⟨(ps_tm 720 (by decide +kernel)), (ps_tm 721 (by decide +kernel)), _, rfl, rfl⟩
theorem cbX2_firstMan : Cond.initialized (ps_y mX2_firstMan).cls ∈ lw_tbl ∧ Cond.code (ps_y mX2_firstMan) (ps_code mX2_firstMan) (ps_maxL mX2_firstMan) (ps_ret mX2_firstMan) ∈ lw_tbl ∧ ((ps_y mX2_firstMan).cls ≠ "java/lang/invoke/MethodHandle" ∧ (ps_y mX2_firstMan).cls ≠ "java/lang/invoke/VarHandle") ∧ (parseMethodDescriptor (ps_y mX2_firstMan).desc).map (fun d => d.parameters.length) = some 1 ∧ ps_maxL mX2_firstMan ≤ 21 := ⟨(ps_tm 9 (by decide +kernel)), (ps_tm 756 (by decide +kernel)), ⟨by decide +kernel, by decide +kernel⟩, by decide +kernel, by decide +kernel⟩
theorem ciX2_firstMan : Cond.instanceMethod (ps_y mX2_firstMan) ∈ lw_tbl ∧ Cond.selects (ps_y mX2_firstMan).cls (ps_y mX2_firstMan) (ps_y mX2_firstMan) ∈ lw_tbl ∧ ∃ r : vw_C, ps_cls[2]? = some r ∧ r.1 = (ps_y mX2_firstMan).cls := ⟨(ps_tm 754 (by decide +kernel)), (ps_tm 755 (by decide +kernel)), _, rfl, rfl⟩
theorem cbX2_bestMen : Cond.initialized (ps_y mX2_bestMen).cls ∈ lw_tbl ∧ Cond.code (ps_y mX2_bestMen) (ps_code mX2_bestMen) (ps_maxL mX2_bestMen) (ps_ret mX2_bestMen) ∈ lw_tbl ∧ ((ps_y mX2_bestMen).cls ≠ "java/lang/invoke/MethodHandle" ∧ (ps_y mX2_bestMen).cls ≠ "java/lang/invoke/VarHandle") ∧ (parseMethodDescriptor (ps_y mX2_bestMen).desc).map (fun d => d.parameters.length) = some 1 ∧ ps_maxL mX2_bestMen ≤ 21 := ⟨(ps_tm 9 (by decide +kernel)), (ps_tm 776 (by decide +kernel)), ⟨by decide +kernel, by decide +kernel⟩, by decide +kernel, by decide +kernel⟩
theorem ciX2_bestMen : Cond.instanceMethod (ps_y mX2_bestMen) ∈ lw_tbl ∧ Cond.selects (ps_y mX2_bestMen).cls (ps_y mX2_bestMen) (ps_y mX2_bestMen) ∈ lw_tbl ∧ ∃ r : vw_C, ps_cls[2]? = some r ∧ r.1 = (ps_y mX2_bestMen).cls := ⟨(ps_tm 774 (by decide +kernel)), (ps_tm 775 (by decide +kernel)), _, rfl, rfl⟩
theorem cbX2_bestWays : Cond.initialized (ps_y mX2_bestWays).cls ∈ lw_tbl ∧ Cond.code (ps_y mX2_bestWays) (ps_code mX2_bestWays) (ps_maxL mX2_bestWays) (ps_ret mX2_bestWays) ∈ lw_tbl ∧ ((ps_y mX2_bestWays).cls ≠ "java/lang/invoke/MethodHandle" ∧ (ps_y mX2_bestWays).cls ≠ "java/lang/invoke/VarHandle") ∧ (parseMethodDescriptor (ps_y mX2_bestWays).desc).map (fun d => d.parameters.length) = some 0 ∧ ps_maxL mX2_bestWays ≤ 21 := ⟨(ps_tm 9 (by decide +kernel)), (ps_tm 784 (by decide +kernel)), ⟨by decide +kernel, by decide +kernel⟩, by decide +kernel, by decide +kernel⟩
theorem ciX2_bestWays : Cond.instanceMethod (ps_y mX2_bestWays) ∈ lw_tbl ∧ Cond.selects (ps_y mX2_bestWays).cls (ps_y mX2_bestWays) (ps_y mX2_bestWays) ∈ lw_tbl ∧ ∃ r : vw_C, ps_cls[2]? = some r ∧ r.1 = (ps_y mX2_bestWays).cls := ⟨(ps_tm 782 (by decide +kernel)), (ps_tm 783 (by decide +kernel)), _, rfl, rfl⟩
theorem cbX7_countReadings : Cond.initialized (ps_y mX7_countReadings).cls ∈ lw_tbl ∧ Cond.code (ps_y mX7_countReadings) (ps_code mX7_countReadings) (ps_maxL mX7_countReadings) (ps_ret mX7_countReadings) ∈ lw_tbl ∧ ((ps_y mX7_countReadings).cls ≠ "java/lang/invoke/MethodHandle" ∧ (ps_y mX7_countReadings).cls ≠ "java/lang/invoke/VarHandle") ∧ (parseMethodDescriptor (ps_y mX7_countReadings).desc).map (fun d => d.parameters.length) = some 0 ∧ ps_maxL mX7_countReadings ≤ 21 := ⟨(ps_tm 1 (by decide +kernel)), (ps_tm 792 (by decide +kernel)), ⟨by decide +kernel, by decide +kernel⟩, by decide +kernel, by decide +kernel⟩
theorem ciX7_countReadings : Cond.instanceMethod (ps_y mX7_countReadings) ∈ lw_tbl ∧ Cond.selects (ps_y mX7_countReadings).cls (ps_y mX7_countReadings) (ps_y mX7_countReadings) ∈ lw_tbl ∧ ∃ r : vw_C, ps_cls[7]? = some r ∧ r.1 = (ps_y mX7_countReadings).cls := ⟨(ps_tm 791 (by decide +kernel)), (ps_sm 40 (by decide +kernel)), _, rfl, rfl⟩
theorem cbX7_countAhead : Cond.initialized (ps_y mX7_countAhead).cls ∈ lw_tbl ∧ Cond.code (ps_y mX7_countAhead) (ps_code mX7_countAhead) (ps_maxL mX7_countAhead) (ps_ret mX7_countAhead) ∈ lw_tbl ∧ ((ps_y mX7_countAhead).cls ≠ "java/lang/invoke/MethodHandle" ∧ (ps_y mX7_countAhead).cls ≠ "java/lang/invoke/VarHandle") ∧ (parseMethodDescriptor (ps_y mX7_countAhead).desc).map (fun d => d.parameters.length) = some 0 ∧ ps_maxL mX7_countAhead ≤ 21 := ⟨(ps_tm 1 (by decide +kernel)), (ps_tm 800 (by decide +kernel)), ⟨by decide +kernel, by decide +kernel⟩, by decide +kernel, by decide +kernel⟩
theorem ciX7_countAhead : Cond.instanceMethod (ps_y mX7_countAhead) ∈ lw_tbl ∧ Cond.selects (ps_y mX7_countAhead).cls (ps_y mX7_countAhead) (ps_y mX7_countAhead) ∈ lw_tbl ∧ ∃ r : vw_C, ps_cls[7]? = some r ∧ r.1 = (ps_y mX7_countAhead).cls := ⟨(ps_tm 799 (by decide +kernel)), (ps_sm 41 (by decide +kernel)), _, rfl, rfl⟩
theorem cbX1_countSheets : Cond.initialized (ps_y mX1_countSheets).cls ∈ lw_tbl ∧ Cond.code (ps_y mX1_countSheets) (ps_code mX1_countSheets) (ps_maxL mX1_countSheets) (ps_ret mX1_countSheets) ∈ lw_tbl ∧ ((ps_y mX1_countSheets).cls ≠ "java/lang/invoke/MethodHandle" ∧ (ps_y mX1_countSheets).cls ≠ "java/lang/invoke/VarHandle") ∧ (parseMethodDescriptor (ps_y mX1_countSheets).desc).map (fun d => d.parameters.length) = some 0 ∧ ps_maxL mX1_countSheets ≤ 21 := ⟨(ps_tm 8 (by decide +kernel)), (ps_tm 810 (by decide +kernel)), ⟨by decide +kernel, by decide +kernel⟩, by decide +kernel, by decide +kernel⟩
theorem ciX1_countSheets : Cond.instanceMethod (ps_y mX1_countSheets) ∈ lw_tbl ∧ Cond.selects (ps_y mX1_countSheets).cls (ps_y mX1_countSheets) (ps_y mX1_countSheets) ∈ lw_tbl ∧ ∃ r : vw_C, ps_cls[1]? = some r ∧ r.1 = (ps_y mX1_countSheets).cls := ⟨(ps_tm 808 (by decide +kernel)), (ps_tm 809 (by decide +kernel)), _, rfl, rfl⟩
theorem cbX1_countSeen : Cond.initialized (ps_y mX1_countSeen).cls ∈ lw_tbl ∧ Cond.code (ps_y mX1_countSeen) (ps_code mX1_countSeen) (ps_maxL mX1_countSeen) (ps_ret mX1_countSeen) ∈ lw_tbl ∧ ((ps_y mX1_countSeen).cls ≠ "java/lang/invoke/MethodHandle" ∧ (ps_y mX1_countSeen).cls ≠ "java/lang/invoke/VarHandle") ∧ (parseMethodDescriptor (ps_y mX1_countSeen).desc).map (fun d => d.parameters.length) = some 0 ∧ ps_maxL mX1_countSeen ≤ 21 := ⟨(ps_tm 8 (by decide +kernel)), (ps_tm 814 (by decide +kernel)), ⟨by decide +kernel, by decide +kernel⟩, by decide +kernel, by decide +kernel⟩
theorem ciX1_countSeen : Cond.instanceMethod (ps_y mX1_countSeen) ∈ lw_tbl ∧ Cond.selects (ps_y mX1_countSeen).cls (ps_y mX1_countSeen) (ps_y mX1_countSeen) ∈ lw_tbl ∧ ∃ r : vw_C, ps_cls[1]? = some r ∧ r.1 = (ps_y mX1_countSeen).cls := ⟨(ps_tm 812 (by decide +kernel)), (ps_tm 813 (by decide +kernel)), _, rfl, rfl⟩
theorem cbX0_readingCount : Cond.initialized (ps_y mX0_readingCount).cls ∈ lw_tbl ∧ Cond.code (ps_y mX0_readingCount) (ps_code mX0_readingCount) (ps_maxL mX0_readingCount) (ps_ret mX0_readingCount) ∈ lw_tbl ∧ ((ps_y mX0_readingCount).cls ≠ "java/lang/invoke/MethodHandle" ∧ (ps_y mX0_readingCount).cls ≠ "java/lang/invoke/VarHandle") ∧ (parseMethodDescriptor (ps_y mX0_readingCount).desc).map (fun d => d.parameters.length) = some 0 ∧ ps_maxL mX0_readingCount ≤ 21 := ⟨(ps_tm 2 (by decide +kernel)), (ps_tm 796 (by decide +kernel)), ⟨by decide +kernel, by decide +kernel⟩, by decide +kernel, by decide +kernel⟩
theorem ciX0_readingCount : Cond.instanceMethod (ps_y mX0_readingCount) ∈ lw_tbl ∧ Cond.selects (ps_y mX0_readingCount).cls (ps_y mX0_readingCount) (ps_y mX0_readingCount) ∈ lw_tbl ∧ ∃ r : vw_C, ps_cls[0]? = some r ∧ r.1 = (ps_y mX0_readingCount).cls := ⟨(ps_tm 794 (by decide +kernel)), (ps_tm 795 (by decide +kernel)), _, rfl, rfl⟩
theorem cbX0_aheadCount : Cond.initialized (ps_y mX0_aheadCount).cls ∈ lw_tbl ∧ Cond.code (ps_y mX0_aheadCount) (ps_code mX0_aheadCount) (ps_maxL mX0_aheadCount) (ps_ret mX0_aheadCount) ∈ lw_tbl ∧ ((ps_y mX0_aheadCount).cls ≠ "java/lang/invoke/MethodHandle" ∧ (ps_y mX0_aheadCount).cls ≠ "java/lang/invoke/VarHandle") ∧ (parseMethodDescriptor (ps_y mX0_aheadCount).desc).map (fun d => d.parameters.length) = some 0 ∧ ps_maxL mX0_aheadCount ≤ 21 := ⟨(ps_tm 2 (by decide +kernel)), (ps_tm 804 (by decide +kernel)), ⟨by decide +kernel, by decide +kernel⟩, by decide +kernel, by decide +kernel⟩
theorem ciX0_aheadCount : Cond.instanceMethod (ps_y mX0_aheadCount) ∈ lw_tbl ∧ Cond.selects (ps_y mX0_aheadCount).cls (ps_y mX0_aheadCount) (ps_y mX0_aheadCount) ∈ lw_tbl ∧ ∃ r : vw_C, ps_cls[0]? = some r ∧ r.1 = (ps_y mX0_aheadCount).cls := ⟨(ps_tm 802 (by decide +kernel)), (ps_tm 803 (by decide +kernel)), _, rfl, rfl⟩
theorem cbX0_makeGroups : Cond.initialized (ps_y mX0_makeGroups).cls ∈ lw_tbl ∧ Cond.code (ps_y mX0_makeGroups) (ps_code mX0_makeGroups) (ps_maxL mX0_makeGroups) (ps_ret mX0_makeGroups) ∈ lw_tbl ∧ ((ps_y mX0_makeGroups).cls ≠ "java/lang/invoke/MethodHandle" ∧ (ps_y mX0_makeGroups).cls ≠ "java/lang/invoke/VarHandle") ∧ (parseMethodDescriptor (ps_y mX0_makeGroups).desc).map (fun d => d.parameters.length) = some 0 ∧ ps_maxL mX0_makeGroups ≤ 21 := ⟨(ps_tm 2 (by decide +kernel)), (ps_tm 307 (by decide +kernel)), ⟨by decide +kernel, by decide +kernel⟩, by decide +kernel, by decide +kernel⟩
theorem ciX0_makeGroups : Cond.instanceMethod (ps_y mX0_makeGroups) ∈ lw_tbl ∧ Cond.selects (ps_y mX0_makeGroups).cls (ps_y mX0_makeGroups) (ps_y mX0_makeGroups) ∈ lw_tbl ∧ ∃ r : vw_C, ps_cls[0]? = some r ∧ r.1 = (ps_y mX0_makeGroups).cls := ⟨(ps_tm 305 (by decide +kernel)), (ps_tm 306 (by decide +kernel)), _, rfl, rfl⟩
theorem cbX0_putLetter : Cond.initialized (ps_y mX0_putLetter).cls ∈ lw_tbl ∧ Cond.code (ps_y mX0_putLetter) (ps_code mX0_putLetter) (ps_maxL mX0_putLetter) (ps_ret mX0_putLetter) ∈ lw_tbl ∧ ((ps_y mX0_putLetter).cls ≠ "java/lang/invoke/MethodHandle" ∧ (ps_y mX0_putLetter).cls ≠ "java/lang/invoke/VarHandle") ∧ (parseMethodDescriptor (ps_y mX0_putLetter).desc).map (fun d => d.parameters.length) = some 3 ∧ ps_maxL mX0_putLetter ≤ 21 := ⟨(ps_tm 2 (by decide +kernel)), (ps_tm 284 (by decide +kernel)), ⟨by decide +kernel, by decide +kernel⟩, by decide +kernel, by decide +kernel⟩
theorem ciX0_putLetter : Cond.instanceMethod (ps_y mX0_putLetter) ∈ lw_tbl ∧ Cond.selects (ps_y mX0_putLetter).cls (ps_y mX0_putLetter) (ps_y mX0_putLetter) ∈ lw_tbl ∧ ∃ r : vw_C, ps_cls[0]? = some r ∧ r.1 = (ps_y mX0_putLetter).cls := ⟨(ps_tm 282 (by decide +kernel)), (ps_tm 283 (by decide +kernel)), _, rfl, rfl⟩
theorem cbX7_grouped : Cond.initialized (ps_y mX7_grouped).cls ∈ lw_tbl ∧ Cond.code (ps_y mX7_grouped) (ps_code mX7_grouped) (ps_maxL mX7_grouped) (ps_ret mX7_grouped) ∈ lw_tbl ∧ ((ps_y mX7_grouped).cls ≠ "java/lang/invoke/MethodHandle" ∧ (ps_y mX7_grouped).cls ≠ "java/lang/invoke/VarHandle") ∧ (parseMethodDescriptor (ps_y mX7_grouped).desc).map (fun d => d.parameters.length) = some 1 ∧ ps_maxL mX7_grouped ≤ 21 := ⟨(ps_tm 1 (by decide +kernel)), (ps_tm 303 (by decide +kernel)), ⟨by decide +kernel, by decide +kernel⟩, by decide +kernel, by decide +kernel⟩
theorem ciX7_grouped : Cond.instanceMethod (ps_y mX7_grouped) ∈ lw_tbl ∧ Cond.selects (ps_y mX7_grouped).cls (ps_y mX7_grouped) (ps_y mX7_grouped) ∈ lw_tbl ∧ ∃ r : vw_C, ps_cls[7]? = some r ∧ r.1 = (ps_y mX7_grouped).cls := ⟨(ps_tm 302 (by decide +kernel)), (ps_sm 0 (by decide +kernel)), _, rfl, rfl⟩
theorem cbX7_isState : Cond.initialized (ps_y mX7_isState).cls ∈ lw_tbl ∧ Cond.code (ps_y mX7_isState) (ps_code mX7_isState) (ps_maxL mX7_isState) (ps_ret mX7_isState) ∈ lw_tbl ∧ ((ps_y mX7_isState).cls ≠ "java/lang/invoke/MethodHandle" ∧ (ps_y mX7_isState).cls ≠ "java/lang/invoke/VarHandle") ∧ (parseMethodDescriptor (ps_y mX7_isState).desc).map (fun d => d.parameters.length) = some 2 ∧ ps_maxL mX7_isState ≤ 21 := ⟨(ps_tm 1 (by decide +kernel)), (ps_tm 334 (by decide +kernel)), ⟨by decide +kernel, by decide +kernel⟩, by decide +kernel, by decide +kernel⟩
theorem ciX7_isState : Cond.instanceMethod (ps_y mX7_isState) ∈ lw_tbl ∧ Cond.selects (ps_y mX7_isState).cls (ps_y mX7_isState) (ps_y mX7_isState) ∈ lw_tbl ∧ ∃ r : vw_C, ps_cls[7]? = some r ∧ r.1 = (ps_y mX7_isState).cls := ⟨(ps_tm 333 (by decide +kernel)), (ps_sm 3 (by decide +kernel)), _, rfl, rfl⟩
theorem cbX5_fewestSlips : Cond.initialized (ps_y mX5_fewestSlips).cls ∈ lw_tbl ∧ Cond.code (ps_y mX5_fewestSlips) (ps_code mX5_fewestSlips) (ps_maxL mX5_fewestSlips) (ps_ret mX5_fewestSlips) ∈ lw_tbl ∧ ((ps_y mX5_fewestSlips).cls ≠ "java/lang/invoke/MethodHandle" ∧ (ps_y mX5_fewestSlips).cls ≠ "java/lang/invoke/VarHandle") ∧ (parseMethodDescriptor (ps_y mX5_fewestSlips).desc).map (fun d => d.parameters.length) = some 2 ∧ ps_maxL mX5_fewestSlips ≤ 21 := ⟨(ps_tm 4 (by decide +kernel)), (ps_tm 346 (by decide +kernel)), ⟨by decide +kernel, by decide +kernel⟩, by decide +kernel, by decide +kernel⟩
theorem ciX5_fewestSlips : Cond.instanceMethod (ps_y mX5_fewestSlips) ∈ lw_tbl ∧ Cond.selects (ps_y mX5_fewestSlips).cls (ps_y mX5_fewestSlips) (ps_y mX5_fewestSlips) ∈ lw_tbl ∧ ∃ r : vw_C, ps_cls[5]? = some r ∧ r.1 = (ps_y mX5_fewestSlips).cls := ⟨(ps_tm 344 (by decide +kernel)), (ps_tm 345 (by decide +kernel)), _, rfl, rfl⟩
theorem cbX8_letterAt : Cond.initialized (ps_y mX8_letterAt).cls ∈ lw_tbl ∧ Cond.code (ps_y mX8_letterAt) (ps_code mX8_letterAt) (ps_maxL mX8_letterAt) (ps_ret mX8_letterAt) ∈ lw_tbl ∧ ((ps_y mX8_letterAt).cls ≠ "java/lang/invoke/MethodHandle" ∧ (ps_y mX8_letterAt).cls ≠ "java/lang/invoke/VarHandle") ∧ (parseMethodDescriptor (ps_y mX8_letterAt).desc).map (fun d => d.parameters.length) = some 3 ∧ ps_maxL mX8_letterAt ≤ 21 := ⟨(ps_tm 10 (by decide +kernel)), (ps_tm 932 (by decide +kernel)), ⟨by decide +kernel, by decide +kernel⟩, by decide +kernel, by decide +kernel⟩
theorem ciX8_letterAt : Cond.instanceMethod (ps_y mX8_letterAt) ∈ lw_tbl ∧ Cond.selects (ps_y mX8_letterAt).cls (ps_y mX8_letterAt) (ps_y mX8_letterAt) ∈ lw_tbl ∧ ∃ r : vw_C, ps_cls[8]? = some r ∧ r.1 = (ps_y mX8_letterAt).cls := ⟨(ps_tm 931 (by decide +kernel)), (ps_sm 42 (by decide +kernel)), _, rfl, rfl⟩
theorem cbX8_agrees : Cond.initialized (ps_y mX8_agrees).cls ∈ lw_tbl ∧ Cond.code (ps_y mX8_agrees) (ps_code mX8_agrees) (ps_maxL mX8_agrees) (ps_ret mX8_agrees) ∈ lw_tbl ∧ ((ps_y mX8_agrees).cls ≠ "java/lang/invoke/MethodHandle" ∧ (ps_y mX8_agrees).cls ≠ "java/lang/invoke/VarHandle") ∧ (parseMethodDescriptor (ps_y mX8_agrees).desc).map (fun d => d.parameters.length) = some 3 ∧ ps_maxL mX8_agrees ≤ 21 := ⟨(ps_tm 10 (by decide +kernel)), (ps_tm 940 (by decide +kernel)), ⟨by decide +kernel, by decide +kernel⟩, by decide +kernel, by decide +kernel⟩
theorem ciX8_agrees : Cond.instanceMethod (ps_y mX8_agrees) ∈ lw_tbl ∧ Cond.selects (ps_y mX8_agrees).cls (ps_y mX8_agrees) (ps_y mX8_agrees) ∈ lw_tbl ∧ ∃ r : vw_C, ps_cls[8]? = some r ∧ r.1 = (ps_y mX8_agrees).cls := ⟨(ps_tm 939 (by decide +kernel)), (ps_sm 43 (by decide +kernel)), _, rfl, rfl⟩
theorem cbX8_joins : Cond.initialized (ps_y mX8_joins).cls ∈ lw_tbl ∧ Cond.code (ps_y mX8_joins) (ps_code mX8_joins) (ps_maxL mX8_joins) (ps_ret mX8_joins) ∈ lw_tbl ∧ ((ps_y mX8_joins).cls ≠ "java/lang/invoke/MethodHandle" ∧ (ps_y mX8_joins).cls ≠ "java/lang/invoke/VarHandle") ∧ (parseMethodDescriptor (ps_y mX8_joins).desc).map (fun d => d.parameters.length) = some 3 ∧ ps_maxL mX8_joins ≤ 21 := ⟨(ps_tm 10 (by decide +kernel)), (ps_tm 960 (by decide +kernel)), ⟨by decide +kernel, by decide +kernel⟩, by decide +kernel, by decide +kernel⟩
theorem ciX8_joins : Cond.instanceMethod (ps_y mX8_joins) ∈ lw_tbl ∧ Cond.selects (ps_y mX8_joins).cls (ps_y mX8_joins) (ps_y mX8_joins) ∈ lw_tbl ∧ ∃ r : vw_C, ps_cls[8]? = some r ∧ r.1 = (ps_y mX8_joins).cls := ⟨(ps_tm 959 (by decide +kernel)), (ps_sm 47 (by decide +kernel)), _, rfl, rfl⟩
theorem cbX8_isLooked : Cond.initialized (ps_y mX8_isLooked).cls ∈ lw_tbl ∧ Cond.code (ps_y mX8_isLooked) (ps_code mX8_isLooked) (ps_maxL mX8_isLooked) (ps_ret mX8_isLooked) ∈ lw_tbl ∧ ((ps_y mX8_isLooked).cls ≠ "java/lang/invoke/MethodHandle" ∧ (ps_y mX8_isLooked).cls ≠ "java/lang/invoke/VarHandle") ∧ (parseMethodDescriptor (ps_y mX8_isLooked).desc).map (fun d => d.parameters.length) = some 2 ∧ ps_maxL mX8_isLooked ≤ 21 := ⟨(ps_tm 10 (by decide +kernel)), (ps_tm 952 (by decide +kernel)), ⟨by decide +kernel, by decide +kernel⟩, by decide +kernel, by decide +kernel⟩
theorem ciX8_isLooked : Cond.instanceMethod (ps_y mX8_isLooked) ∈ lw_tbl ∧ Cond.selects (ps_y mX8_isLooked).cls (ps_y mX8_isLooked) (ps_y mX8_isLooked) ∈ lw_tbl ∧ ∃ r : vw_C, ps_cls[8]? = some r ∧ r.1 = (ps_y mX8_isLooked).cls := ⟨(ps_tm 951 (by decide +kernel)), (ps_sm 45 (by decide +kernel)), _, rfl, rfl⟩
theorem cbX8_layGroups : Cond.initialized (ps_y mX8_layGroups).cls ∈ lw_tbl ∧ Cond.code (ps_y mX8_layGroups) (ps_code mX8_layGroups) (ps_maxL mX8_layGroups) (ps_ret mX8_layGroups) ∈ lw_tbl ∧ ((ps_y mX8_layGroups).cls ≠ "java/lang/invoke/MethodHandle" ∧ (ps_y mX8_layGroups).cls ≠ "java/lang/invoke/VarHandle") ∧ (parseMethodDescriptor (ps_y mX8_layGroups).desc).map (fun d => d.parameters.length) = some 3 ∧ ps_maxL mX8_layGroups ≤ 21 := ⟨(ps_tm 10 (by decide +kernel)), (ps_tm 956 (by decide +kernel)), ⟨by decide +kernel, by decide +kernel⟩, by decide +kernel, by decide +kernel⟩
theorem ciX8_layGroups : Cond.instanceMethod (ps_y mX8_layGroups) ∈ lw_tbl ∧ Cond.selects (ps_y mX8_layGroups).cls (ps_y mX8_layGroups) (ps_y mX8_layGroups) ∈ lw_tbl ∧ ∃ r : vw_C, ps_cls[8]? = some r ∧ r.1 = (ps_y mX8_layGroups).cls := ⟨(ps_tm 955 (by decide +kernel)), (ps_sm 46 (by decide +kernel)), _, rfl, rfl⟩
theorem cbX8_layStates : Cond.initialized (ps_y mX8_layStates).cls ∈ lw_tbl ∧ Cond.code (ps_y mX8_layStates) (ps_code mX8_layStates) (ps_maxL mX8_layStates) (ps_ret mX8_layStates) ∈ lw_tbl ∧ ((ps_y mX8_layStates).cls ≠ "java/lang/invoke/MethodHandle" ∧ (ps_y mX8_layStates).cls ≠ "java/lang/invoke/VarHandle") ∧ (parseMethodDescriptor (ps_y mX8_layStates).desc).map (fun d => d.parameters.length) = some 1 ∧ ps_maxL mX8_layStates ≤ 21 := ⟨(ps_tm 10 (by decide +kernel)), (ps_tm 948 (by decide +kernel)), ⟨by decide +kernel, by decide +kernel⟩, by decide +kernel, by decide +kernel⟩
theorem ciX8_layStates : Cond.instanceMethod (ps_y mX8_layStates) ∈ lw_tbl ∧ Cond.selects (ps_y mX8_layStates).cls (ps_y mX8_layStates) (ps_y mX8_layStates) ∈ lw_tbl ∧ ∃ r : vw_C, ps_cls[8]? = some r ∧ r.1 = (ps_y mX8_layStates).cls := ⟨(ps_tm 947 (by decide +kernel)), (ps_sm 44 (by decide +kernel)), _, rfl, rfl⟩
theorem cbX8_letterOf : Cond.initialized (ps_y mX8_letterOf).cls ∈ lw_tbl ∧ Cond.code (ps_y mX8_letterOf) (ps_code mX8_letterOf) (ps_maxL mX8_letterOf) (ps_ret mX8_letterOf) ∈ lw_tbl ∧ ((ps_y mX8_letterOf).cls ≠ "java/lang/invoke/MethodHandle" ∧ (ps_y mX8_letterOf).cls ≠ "java/lang/invoke/VarHandle") ∧ (parseMethodDescriptor (ps_y mX8_letterOf).desc).map (fun d => d.parameters.length) = some 3 ∧ ps_maxL mX8_letterOf ≤ 21 := ⟨(ps_tm 10 (by decide +kernel)), (ps_tm 972 (by decide +kernel)), ⟨by decide +kernel, by decide +kernel⟩, by decide +kernel, by decide +kernel⟩
theorem ciX8_letterOf : Cond.instanceMethod (ps_y mX8_letterOf) ∈ lw_tbl ∧ Cond.selects (ps_y mX8_letterOf).cls (ps_y mX8_letterOf) (ps_y mX8_letterOf) ∈ lw_tbl ∧ ∃ r : vw_C, ps_cls[8]? = some r ∧ r.1 = (ps_y mX8_letterOf).cls := ⟨(ps_tm 971 (by decide +kernel)), (ps_sm 48 (by decide +kernel)), _, rfl, rfl⟩
theorem cbX8_slipsOf : Cond.initialized (ps_y mX8_slipsOf).cls ∈ lw_tbl ∧ Cond.code (ps_y mX8_slipsOf) (ps_code mX8_slipsOf) (ps_maxL mX8_slipsOf) (ps_ret mX8_slipsOf) ∈ lw_tbl ∧ ((ps_y mX8_slipsOf).cls ≠ "java/lang/invoke/MethodHandle" ∧ (ps_y mX8_slipsOf).cls ≠ "java/lang/invoke/VarHandle") ∧ (parseMethodDescriptor (ps_y mX8_slipsOf).desc).map (fun d => d.parameters.length) = some 2 ∧ ps_maxL mX8_slipsOf ≤ 21 := ⟨(ps_tm 10 (by decide +kernel)), (ps_tm 980 (by decide +kernel)), ⟨by decide +kernel, by decide +kernel⟩, by decide +kernel, by decide +kernel⟩
theorem ciX8_slipsOf : Cond.instanceMethod (ps_y mX8_slipsOf) ∈ lw_tbl ∧ Cond.selects (ps_y mX8_slipsOf).cls (ps_y mX8_slipsOf) (ps_y mX8_slipsOf) ∈ lw_tbl ∧ ∃ r : vw_C, ps_cls[8]? = some r ∧ r.1 = (ps_y mX8_slipsOf).cls := ⟨(ps_tm 979 (by decide +kernel)), (ps_sm 49 (by decide +kernel)), _, rfl, rfl⟩
theorem cbX8_changesOf : Cond.initialized (ps_y mX8_changesOf).cls ∈ lw_tbl ∧ Cond.code (ps_y mX8_changesOf) (ps_code mX8_changesOf) (ps_maxL mX8_changesOf) (ps_ret mX8_changesOf) ∈ lw_tbl ∧ ((ps_y mX8_changesOf).cls ≠ "java/lang/invoke/MethodHandle" ∧ (ps_y mX8_changesOf).cls ≠ "java/lang/invoke/VarHandle") ∧ (parseMethodDescriptor (ps_y mX8_changesOf).desc).map (fun d => d.parameters.length) = some 3 ∧ ps_maxL mX8_changesOf ≤ 21 := ⟨(ps_tm 10 (by decide +kernel)), (ps_tm 993 (by decide +kernel)), ⟨by decide +kernel, by decide +kernel⟩, by decide +kernel, by decide +kernel⟩
theorem ciX8_changesOf : Cond.instanceMethod (ps_y mX8_changesOf) ∈ lw_tbl ∧ Cond.selects (ps_y mX8_changesOf).cls (ps_y mX8_changesOf) (ps_y mX8_changesOf) ∈ lw_tbl ∧ ∃ r : vw_C, ps_cls[8]? = some r ∧ r.1 = (ps_y mX8_changesOf).cls := ⟨(ps_tm 992 (by decide +kernel)), (ps_sm 50 (by decide +kernel)), _, rfl, rfl⟩
theorem cbX8_layNeeds : Cond.initialized (ps_y mX8_layNeeds).cls ∈ lw_tbl ∧ Cond.code (ps_y mX8_layNeeds) (ps_code mX8_layNeeds) (ps_maxL mX8_layNeeds) (ps_ret mX8_layNeeds) ∈ lw_tbl ∧ ((ps_y mX8_layNeeds).cls ≠ "java/lang/invoke/MethodHandle" ∧ (ps_y mX8_layNeeds).cls ≠ "java/lang/invoke/VarHandle") ∧ (parseMethodDescriptor (ps_y mX8_layNeeds).desc).map (fun d => d.parameters.length) = some 1 ∧ ps_maxL mX8_layNeeds ≤ 21 := ⟨(ps_tm 10 (by decide +kernel)), (ps_tm 1001 (by decide +kernel)), ⟨by decide +kernel, by decide +kernel⟩, by decide +kernel, by decide +kernel⟩
theorem ciX8_layNeeds : Cond.instanceMethod (ps_y mX8_layNeeds) ∈ lw_tbl ∧ Cond.selects (ps_y mX8_layNeeds).cls (ps_y mX8_layNeeds) (ps_y mX8_layNeeds) ∈ lw_tbl ∧ ∃ r : vw_C, ps_cls[8]? = some r ∧ r.1 = (ps_y mX8_layNeeds).cls := ⟨(ps_tm 1000 (by decide +kernel)), (ps_sm 51 (by decide +kernel)), _, rfl, rfl⟩
theorem cbX8_layOrders : Cond.initialized (ps_y mX8_layOrders).cls ∈ lw_tbl ∧ Cond.code (ps_y mX8_layOrders) (ps_code mX8_layOrders) (ps_maxL mX8_layOrders) (ps_ret mX8_layOrders) ∈ lw_tbl ∧ ((ps_y mX8_layOrders).cls ≠ "java/lang/invoke/MethodHandle" ∧ (ps_y mX8_layOrders).cls ≠ "java/lang/invoke/VarHandle") ∧ (parseMethodDescriptor (ps_y mX8_layOrders).desc).map (fun d => d.parameters.length) = some 0 ∧ ps_maxL mX8_layOrders ≤ 21 := ⟨(ps_tm 10 (by decide +kernel)), (ps_tm 1005 (by decide +kernel)), ⟨by decide +kernel, by decide +kernel⟩, by decide +kernel, by decide +kernel⟩
theorem ciX8_layOrders : Cond.instanceMethod (ps_y mX8_layOrders) ∈ lw_tbl ∧ Cond.selects (ps_y mX8_layOrders).cls (ps_y mX8_layOrders) (ps_y mX8_layOrders) ∈ lw_tbl ∧ ∃ r : vw_C, ps_cls[8]? = some r ∧ r.1 = (ps_y mX8_layOrders).cls := ⟨(ps_tm 1004 (by decide +kernel)), (ps_sm 52 (by decide +kernel)), _, rfl, rfl⟩
theorem cbX8_leastCost : Cond.initialized (ps_y mX8_leastCost).cls ∈ lw_tbl ∧ Cond.code (ps_y mX8_leastCost) (ps_code mX8_leastCost) (ps_maxL mX8_leastCost) (ps_ret mX8_leastCost) ∈ lw_tbl ∧ ((ps_y mX8_leastCost).cls ≠ "java/lang/invoke/MethodHandle" ∧ (ps_y mX8_leastCost).cls ≠ "java/lang/invoke/VarHandle") ∧ (parseMethodDescriptor (ps_y mX8_leastCost).desc).map (fun d => d.parameters.length) = some 0 ∧ ps_maxL mX8_leastCost ≤ 21 := ⟨(ps_tm 10 (by decide +kernel)), (ps_tm 1010 (by decide +kernel)), ⟨by decide +kernel, by decide +kernel⟩, by decide +kernel, by decide +kernel⟩
theorem ciX8_leastCost : Cond.instanceMethod (ps_y mX8_leastCost) ∈ lw_tbl ∧ Cond.selects (ps_y mX8_leastCost).cls (ps_y mX8_leastCost) (ps_y mX8_leastCost) ∈ lw_tbl ∧ ∃ r : vw_C, ps_cls[8]? = some r ∧ r.1 = (ps_y mX8_leastCost).cls := ⟨(ps_tm 1009 (by decide +kernel)), (ps_sm 53 (by decide +kernel)), _, rfl, rfl⟩
theorem cbX8_waysOf : Cond.initialized (ps_y mX8_waysOf).cls ∈ lw_tbl ∧ Cond.code (ps_y mX8_waysOf) (ps_code mX8_waysOf) (ps_maxL mX8_waysOf) (ps_ret mX8_waysOf) ∈ lw_tbl ∧ ((ps_y mX8_waysOf).cls ≠ "java/lang/invoke/MethodHandle" ∧ (ps_y mX8_waysOf).cls ≠ "java/lang/invoke/VarHandle") ∧ (parseMethodDescriptor (ps_y mX8_waysOf).desc).map (fun d => d.parameters.length) = some 1 ∧ ps_maxL mX8_waysOf ≤ 21 := ⟨(ps_tm 10 (by decide +kernel)), (ps_tm 1018 (by decide +kernel)), ⟨by decide +kernel, by decide +kernel⟩, by decide +kernel, by decide +kernel⟩
theorem ciX8_waysOf : Cond.instanceMethod (ps_y mX8_waysOf) ∈ lw_tbl ∧ Cond.selects (ps_y mX8_waysOf).cls (ps_y mX8_waysOf) (ps_y mX8_waysOf) ∈ lw_tbl ∧ ∃ r : vw_C, ps_cls[8]? = some r ∧ r.1 = (ps_y mX8_waysOf).cls := ⟨(ps_tm 1017 (by decide +kernel)), (ps_sm 54 (by decide +kernel)), _, rfl, rfl⟩
theorem cbX8_isNext : Cond.initialized (ps_y mX8_isNext).cls ∈ lw_tbl ∧ Cond.code (ps_y mX8_isNext) (ps_code mX8_isNext) (ps_maxL mX8_isNext) (ps_ret mX8_isNext) ∈ lw_tbl ∧ ((ps_y mX8_isNext).cls ≠ "java/lang/invoke/MethodHandle" ∧ (ps_y mX8_isNext).cls ≠ "java/lang/invoke/VarHandle") ∧ (parseMethodDescriptor (ps_y mX8_isNext).desc).map (fun d => d.parameters.length) = some 3 ∧ ps_maxL mX8_isNext ≤ 21 := ⟨(ps_tm 10 (by decide +kernel)), (ps_tm 1026 (by decide +kernel)), ⟨by decide +kernel, by decide +kernel⟩, by decide +kernel, by decide +kernel⟩
theorem ciX8_isNext : Cond.instanceMethod (ps_y mX8_isNext) ∈ lw_tbl ∧ Cond.selects (ps_y mX8_isNext).cls (ps_y mX8_isNext) (ps_y mX8_isNext) ∈ lw_tbl ∧ ∃ r : vw_C, ps_cls[8]? = some r ∧ r.1 = (ps_y mX8_isNext).cls := ⟨(ps_tm 1025 (by decide +kernel)), (ps_sm 55 (by decide +kernel)), _, rfl, rfl⟩
theorem cbX8_shares : Cond.initialized (ps_y mX8_shares).cls ∈ lw_tbl ∧ Cond.code (ps_y mX8_shares) (ps_code mX8_shares) (ps_maxL mX8_shares) (ps_ret mX8_shares) ∈ lw_tbl ∧ ((ps_y mX8_shares).cls ≠ "java/lang/invoke/MethodHandle" ∧ (ps_y mX8_shares).cls ≠ "java/lang/invoke/VarHandle") ∧ (parseMethodDescriptor (ps_y mX8_shares).desc).map (fun d => d.parameters.length) = some 2 ∧ ps_maxL mX8_shares ≤ 21 := ⟨(ps_tm 10 (by decide +kernel)), (ps_tm 1043 (by decide +kernel)), ⟨by decide +kernel, by decide +kernel⟩, by decide +kernel, by decide +kernel⟩
theorem ciX8_shares : Cond.instanceMethod (ps_y mX8_shares) ∈ lw_tbl ∧ Cond.selects (ps_y mX8_shares).cls (ps_y mX8_shares) (ps_y mX8_shares) ∈ lw_tbl ∧ ∃ r : vw_C, ps_cls[8]? = some r ∧ r.1 = (ps_y mX8_shares).cls := ⟨(ps_tm 1042 (by decide +kernel)), (ps_sm 56 (by decide +kernel)), _, rfl, rfl⟩
theorem cbX8_layMusts : Cond.initialized (ps_y mX8_layMusts).cls ∈ lw_tbl ∧ Cond.code (ps_y mX8_layMusts) (ps_code mX8_layMusts) (ps_maxL mX8_layMusts) (ps_ret mX8_layMusts) ∈ lw_tbl ∧ ((ps_y mX8_layMusts).cls ≠ "java/lang/invoke/MethodHandle" ∧ (ps_y mX8_layMusts).cls ≠ "java/lang/invoke/VarHandle") ∧ (parseMethodDescriptor (ps_y mX8_layMusts).desc).map (fun d => d.parameters.length) = some 0 ∧ ps_maxL mX8_layMusts ≤ 21 := ⟨(ps_tm 10 (by decide +kernel)), (ps_tm 1051 (by decide +kernel)), ⟨by decide +kernel, by decide +kernel⟩, by decide +kernel, by decide +kernel⟩
theorem ciX8_layMusts : Cond.instanceMethod (ps_y mX8_layMusts) ∈ lw_tbl ∧ Cond.selects (ps_y mX8_layMusts).cls (ps_y mX8_layMusts) (ps_y mX8_layMusts) ∈ lw_tbl ∧ ∃ r : vw_C, ps_cls[8]? = some r ∧ r.1 = (ps_y mX8_layMusts).cls := ⟨(ps_tm 1050 (by decide +kernel)), (ps_sm 57 (by decide +kernel)), _, rfl, rfl⟩
theorem cbX8_isPlan : Cond.initialized (ps_y mX8_isPlan).cls ∈ lw_tbl ∧ Cond.code (ps_y mX8_isPlan) (ps_code mX8_isPlan) (ps_maxL mX8_isPlan) (ps_ret mX8_isPlan) ∈ lw_tbl ∧ ((ps_y mX8_isPlan).cls ≠ "java/lang/invoke/MethodHandle" ∧ (ps_y mX8_isPlan).cls ≠ "java/lang/invoke/VarHandle") ∧ (parseMethodDescriptor (ps_y mX8_isPlan).desc).map (fun d => d.parameters.length) = some 0 ∧ ps_maxL mX8_isPlan ≤ 21 := ⟨(ps_tm 10 (by decide +kernel)), (ps_tm 1072 (by decide +kernel)), ⟨by decide +kernel, by decide +kernel⟩, by decide +kernel, by decide +kernel⟩
theorem ciX8_isPlan : Cond.instanceMethod (ps_y mX8_isPlan) ∈ lw_tbl ∧ Cond.selects (ps_y mX8_isPlan).cls (ps_y mX8_isPlan) (ps_y mX8_isPlan) ∈ lw_tbl ∧ ∃ r : vw_C, ps_cls[8]? = some r ∧ r.1 = (ps_y mX8_isPlan).cls := ⟨(ps_tm 1071 (by decide +kernel)), (ps_sm 59 (by decide +kernel)), _, rfl, rfl⟩
theorem cbX8_layPlans : Cond.initialized (ps_y mX8_layPlans).cls ∈ lw_tbl ∧ Cond.code (ps_y mX8_layPlans) (ps_code mX8_layPlans) (ps_maxL mX8_layPlans) (ps_ret mX8_layPlans) ∈ lw_tbl ∧ ((ps_y mX8_layPlans).cls ≠ "java/lang/invoke/MethodHandle" ∧ (ps_y mX8_layPlans).cls ≠ "java/lang/invoke/VarHandle") ∧ (parseMethodDescriptor (ps_y mX8_layPlans).desc).map (fun d => d.parameters.length) = some 3 ∧ ps_maxL mX8_layPlans ≤ 21 := ⟨(ps_tm 10 (by decide +kernel)), (ps_tm 1068 (by decide +kernel)), ⟨by decide +kernel, by decide +kernel⟩, by decide +kernel, by decide +kernel⟩
theorem ciX8_layPlans : Cond.instanceMethod (ps_y mX8_layPlans) ∈ lw_tbl ∧ Cond.selects (ps_y mX8_layPlans).cls (ps_y mX8_layPlans) (ps_y mX8_layPlans) ∈ lw_tbl ∧ ∃ r : vw_C, ps_cls[8]? = some r ∧ r.1 = (ps_y mX8_layPlans).cls := ⟨(ps_tm 1067 (by decide +kernel)), (ps_sm 58 (by decide +kernel)), _, rfl, rfl⟩
theorem cbX8_heapEnd : Cond.initialized (ps_y mX8_heapEnd).cls ∈ lw_tbl ∧ Cond.code (ps_y mX8_heapEnd) (ps_code mX8_heapEnd) (ps_maxL mX8_heapEnd) (ps_ret mX8_heapEnd) ∈ lw_tbl ∧ ((ps_y mX8_heapEnd).cls ≠ "java/lang/invoke/MethodHandle" ∧ (ps_y mX8_heapEnd).cls ≠ "java/lang/invoke/VarHandle") ∧ (parseMethodDescriptor (ps_y mX8_heapEnd).desc).map (fun d => d.parameters.length) = some 2 ∧ ps_maxL mX8_heapEnd ≤ 21 := ⟨(ps_tm 10 (by decide +kernel)), (ps_tm 1114 (by decide +kernel)), ⟨by decide +kernel, by decide +kernel⟩, by decide +kernel, by decide +kernel⟩
theorem ciX8_heapEnd : Cond.instanceMethod (ps_y mX8_heapEnd) ∈ lw_tbl ∧ Cond.selects (ps_y mX8_heapEnd).cls (ps_y mX8_heapEnd) (ps_y mX8_heapEnd) ∈ lw_tbl ∧ ∃ r : vw_C, ps_cls[8]? = some r ∧ r.1 = (ps_y mX8_heapEnd).cls := ⟨(ps_tm 1113 (by decide +kernel)), (ps_sm 62 (by decide +kernel)), _, rfl, rfl⟩
theorem cbX8_kindIn : Cond.initialized (ps_y mX8_kindIn).cls ∈ lw_tbl ∧ Cond.code (ps_y mX8_kindIn) (ps_code mX8_kindIn) (ps_maxL mX8_kindIn) (ps_ret mX8_kindIn) ∈ lw_tbl ∧ ((ps_y mX8_kindIn).cls ≠ "java/lang/invoke/MethodHandle" ∧ (ps_y mX8_kindIn).cls ≠ "java/lang/invoke/VarHandle") ∧ (parseMethodDescriptor (ps_y mX8_kindIn).desc).map (fun d => d.parameters.length) = some 3 ∧ ps_maxL mX8_kindIn ≤ 21 := ⟨(ps_tm 10 (by decide +kernel)), (ps_tm 1118 (by decide +kernel)), ⟨by decide +kernel, by decide +kernel⟩, by decide +kernel, by decide +kernel⟩
theorem ciX8_kindIn : Cond.instanceMethod (ps_y mX8_kindIn) ∈ lw_tbl ∧ Cond.selects (ps_y mX8_kindIn).cls (ps_y mX8_kindIn) (ps_y mX8_kindIn) ∈ lw_tbl ∧ ∃ r : vw_C, ps_cls[8]? = some r ∧ r.1 = (ps_y mX8_kindIn).cls := ⟨(ps_tm 1117 (by decide +kernel)), (ps_sm 63 (by decide +kernel)), _, rfl, rfl⟩
theorem cbX8_heaps : Cond.initialized (ps_y mX8_heaps).cls ∈ lw_tbl ∧ Cond.code (ps_y mX8_heaps) (ps_code mX8_heaps) (ps_maxL mX8_heaps) (ps_ret mX8_heaps) ∈ lw_tbl ∧ ((ps_y mX8_heaps).cls ≠ "java/lang/invoke/MethodHandle" ∧ (ps_y mX8_heaps).cls ≠ "java/lang/invoke/VarHandle") ∧ (parseMethodDescriptor (ps_y mX8_heaps).desc).map (fun d => d.parameters.length) = some 1 ∧ ps_maxL mX8_heaps ≤ 21 := ⟨(ps_tm 10 (by decide +kernel)), (ps_tm 1106 (by decide +kernel)), ⟨by decide +kernel, by decide +kernel⟩, by decide +kernel, by decide +kernel⟩
theorem ciX8_heaps : Cond.instanceMethod (ps_y mX8_heaps) ∈ lw_tbl ∧ Cond.selects (ps_y mX8_heaps).cls (ps_y mX8_heaps) (ps_y mX8_heaps) ∈ lw_tbl ∧ ∃ r : vw_C, ps_cls[8]? = some r ∧ r.1 = (ps_y mX8_heaps).cls := ⟨(ps_tm 1105 (by decide +kernel)), (ps_sm 60 (by decide +kernel)), _, rfl, rfl⟩
theorem cbX8_mayBe : Cond.initialized (ps_y mX8_mayBe).cls ∈ lw_tbl ∧ Cond.code (ps_y mX8_mayBe) (ps_code mX8_mayBe) (ps_maxL mX8_mayBe) (ps_ret mX8_mayBe) ∈ lw_tbl ∧ ((ps_y mX8_mayBe).cls ≠ "java/lang/invoke/MethodHandle" ∧ (ps_y mX8_mayBe).cls ≠ "java/lang/invoke/VarHandle") ∧ (parseMethodDescriptor (ps_y mX8_mayBe).desc).map (fun d => d.parameters.length) = some 3 ∧ ps_maxL mX8_mayBe ≤ 21 := ⟨(ps_tm 10 (by decide +kernel)), (ps_tm 1110 (by decide +kernel)), ⟨by decide +kernel, by decide +kernel⟩, by decide +kernel, by decide +kernel⟩
theorem ciX8_mayBe : Cond.instanceMethod (ps_y mX8_mayBe) ∈ lw_tbl ∧ Cond.selects (ps_y mX8_mayBe).cls (ps_y mX8_mayBe) (ps_y mX8_mayBe) ∈ lw_tbl ∧ ∃ r : vw_C, ps_cls[8]? = some r ∧ r.1 = (ps_y mX8_mayBe).cls := ⟨(ps_tm 1109 (by decide +kernel)), (ps_sm 61 (by decide +kernel)), _, rfl, rfl⟩
theorem cbX8_isMan : Cond.initialized (ps_y mX8_isMan).cls ∈ lw_tbl ∧ Cond.code (ps_y mX8_isMan) (ps_code mX8_isMan) (ps_maxL mX8_isMan) (ps_ret mX8_isMan) ∈ lw_tbl ∧ ((ps_y mX8_isMan).cls ≠ "java/lang/invoke/MethodHandle" ∧ (ps_y mX8_isMan).cls ≠ "java/lang/invoke/VarHandle") ∧ (parseMethodDescriptor (ps_y mX8_isMan).desc).map (fun d => d.parameters.length) = some 1 ∧ ps_maxL mX8_isMan ≤ 21 := ⟨(ps_tm 10 (by decide +kernel)), (ps_tm 1139 (by decide +kernel)), ⟨by decide +kernel, by decide +kernel⟩, by decide +kernel, by decide +kernel⟩
theorem ciX8_isMan : Cond.instanceMethod (ps_y mX8_isMan) ∈ lw_tbl ∧ Cond.selects (ps_y mX8_isMan).cls (ps_y mX8_isMan) (ps_y mX8_isMan) ∈ lw_tbl ∧ ∃ r : vw_C, ps_cls[8]? = some r ∧ r.1 = (ps_y mX8_isMan).cls := ⟨(ps_tm 1138 (by decide +kernel)), (ps_sm 64 (by decide +kernel)), _, rfl, rfl⟩
theorem cbX8_isPage : Cond.initialized (ps_y mX8_isPage).cls ∈ lw_tbl ∧ Cond.code (ps_y mX8_isPage) (ps_code mX8_isPage) (ps_maxL mX8_isPage) (ps_ret mX8_isPage) ∈ lw_tbl ∧ ((ps_y mX8_isPage).cls ≠ "java/lang/invoke/MethodHandle" ∧ (ps_y mX8_isPage).cls ≠ "java/lang/invoke/VarHandle") ∧ (parseMethodDescriptor (ps_y mX8_isPage).desc).map (fun d => d.parameters.length) = some 1 ∧ ps_maxL mX8_isPage ≤ 21 := ⟨(ps_tm 10 (by decide +kernel)), (ps_tm 1147 (by decide +kernel)), ⟨by decide +kernel, by decide +kernel⟩, by decide +kernel, by decide +kernel⟩
theorem ciX8_isPage : Cond.instanceMethod (ps_y mX8_isPage) ∈ lw_tbl ∧ Cond.selects (ps_y mX8_isPage).cls (ps_y mX8_isPage) (ps_y mX8_isPage) ∈ lw_tbl ∧ ∃ r : vw_C, ps_cls[8]? = some r ∧ r.1 = (ps_y mX8_isPage).cls := ⟨(ps_tm 1146 (by decide +kernel)), (ps_sm 65 (by decide +kernel)), _, rfl, rfl⟩
theorem cbX8_againstOf : Cond.initialized (ps_y mX8_againstOf).cls ∈ lw_tbl ∧ Cond.code (ps_y mX8_againstOf) (ps_code mX8_againstOf) (ps_maxL mX8_againstOf) (ps_ret mX8_againstOf) ∈ lw_tbl ∧ ((ps_y mX8_againstOf).cls ≠ "java/lang/invoke/MethodHandle" ∧ (ps_y mX8_againstOf).cls ≠ "java/lang/invoke/VarHandle") ∧ (parseMethodDescriptor (ps_y mX8_againstOf).desc).map (fun d => d.parameters.length) = some 2 ∧ ps_maxL mX8_againstOf ≤ 21 := ⟨(ps_tm 10 (by decide +kernel)), (ps_tm 1160 (by decide +kernel)), ⟨by decide +kernel, by decide +kernel⟩, by decide +kernel, by decide +kernel⟩
theorem ciX8_againstOf : Cond.instanceMethod (ps_y mX8_againstOf) ∈ lw_tbl ∧ Cond.selects (ps_y mX8_againstOf).cls (ps_y mX8_againstOf) (ps_y mX8_againstOf) ∈ lw_tbl ∧ ∃ r : vw_C, ps_cls[8]? = some r ∧ r.1 = (ps_y mX8_againstOf).cls := ⟨(ps_tm 1159 (by decide +kernel)), (ps_sm 66 (by decide +kernel)), _, rfl, rfl⟩
theorem cbX8_layRest : Cond.initialized (ps_y mX8_layRest).cls ∈ lw_tbl ∧ Cond.code (ps_y mX8_layRest) (ps_code mX8_layRest) (ps_maxL mX8_layRest) (ps_ret mX8_layRest) ∈ lw_tbl ∧ ((ps_y mX8_layRest).cls ≠ "java/lang/invoke/MethodHandle" ∧ (ps_y mX8_layRest).cls ≠ "java/lang/invoke/VarHandle") ∧ (parseMethodDescriptor (ps_y mX8_layRest).desc).map (fun d => d.parameters.length) = some 0 ∧ ps_maxL mX8_layRest ≤ 21 := ⟨(ps_tm 10 (by decide +kernel)), (ps_tm 1168 (by decide +kernel)), ⟨by decide +kernel, by decide +kernel⟩, by decide +kernel, by decide +kernel⟩
theorem ciX8_layRest : Cond.instanceMethod (ps_y mX8_layRest) ∈ lw_tbl ∧ Cond.selects (ps_y mX8_layRest).cls (ps_y mX8_layRest) (ps_y mX8_layRest) ∈ lw_tbl ∧ ∃ r : vw_C, ps_cls[8]? = some r ∧ r.1 = (ps_y mX8_layRest).cls := ⟨(ps_tm 1167 (by decide +kernel)), (ps_sm 67 (by decide +kernel)), _, rfl, rfl⟩
theorem cbX8_best : Cond.initialized (ps_y mX8_best).cls ∈ lw_tbl ∧ Cond.code (ps_y mX8_best) (ps_code mX8_best) (ps_maxL mX8_best) (ps_ret mX8_best) ∈ lw_tbl ∧ ((ps_y mX8_best).cls ≠ "java/lang/invoke/MethodHandle" ∧ (ps_y mX8_best).cls ≠ "java/lang/invoke/VarHandle") ∧ (parseMethodDescriptor (ps_y mX8_best).desc).map (fun d => d.parameters.length) = some 0 ∧ ps_maxL mX8_best ≤ 21 := ⟨(ps_tm 10 (by decide +kernel)), (ps_tm 1172 (by decide +kernel)), ⟨by decide +kernel, by decide +kernel⟩, by decide +kernel, by decide +kernel⟩
theorem ciX8_best : Cond.instanceMethod (ps_y mX8_best) ∈ lw_tbl ∧ Cond.selects (ps_y mX8_best).cls (ps_y mX8_best) (ps_y mX8_best) ∈ lw_tbl ∧ ∃ r : vw_C, ps_cls[8]? = some r ∧ r.1 = (ps_y mX8_best).cls := ⟨(ps_tm 1171 (by decide +kernel)), (ps_sm 68 (by decide +kernel)), _, rfl, rfl⟩
theorem cbX8_layGone : Cond.initialized (ps_y mX8_layGone).cls ∈ lw_tbl ∧ Cond.code (ps_y mX8_layGone) (ps_code mX8_layGone) (ps_maxL mX8_layGone) (ps_ret mX8_layGone) ∈ lw_tbl ∧ ((ps_y mX8_layGone).cls ≠ "java/lang/invoke/MethodHandle" ∧ (ps_y mX8_layGone).cls ≠ "java/lang/invoke/VarHandle") ∧ (parseMethodDescriptor (ps_y mX8_layGone).desc).map (fun d => d.parameters.length) = some 0 ∧ ps_maxL mX8_layGone ≤ 21 := ⟨(ps_tm 10 (by decide +kernel)), (ps_tm 1184 (by decide +kernel)), ⟨by decide +kernel, by decide +kernel⟩, by decide +kernel, by decide +kernel⟩
theorem ciX8_layGone : Cond.instanceMethod (ps_y mX8_layGone) ∈ lw_tbl ∧ Cond.selects (ps_y mX8_layGone).cls (ps_y mX8_layGone) (ps_y mX8_layGone) ∈ lw_tbl ∧ ∃ r : vw_C, ps_cls[8]? = some r ∧ r.1 = (ps_y mX8_layGone).cls := ⟨(ps_tm 1183 (by decide +kernel)), (ps_sm 69 (by decide +kernel)), _, rfl, rfl⟩
theorem cbX0_areUnlike : Cond.initialized (ps_y mX0_areUnlike).cls ∈ lw_tbl ∧ Cond.code (ps_y mX0_areUnlike) (ps_code mX0_areUnlike) (ps_maxL mX0_areUnlike) (ps_ret mX0_areUnlike) ∈ lw_tbl ∧ ((ps_y mX0_areUnlike).cls ≠ "java/lang/invoke/MethodHandle" ∧ (ps_y mX0_areUnlike).cls ≠ "java/lang/invoke/VarHandle") ∧ (parseMethodDescriptor (ps_y mX0_areUnlike).desc).map (fun d => d.parameters.length) = some 2 ∧ ps_maxL mX0_areUnlike ≤ 21 := ⟨(ps_tm 2 (by decide +kernel)), (ps_tm 295 (by decide +kernel)), ⟨by decide +kernel, by decide +kernel⟩, by decide +kernel, by decide +kernel⟩
theorem ciX0_areUnlike : Cond.static (ps_y mX0_areUnlike) ∈ lw_tbl := (ps_tm 294 (by decide +kernel))
theorem cbX0_fill : Cond.initialized (ps_y mX0_fill).cls ∈ lw_tbl ∧ Cond.code (ps_y mX0_fill) (ps_code mX0_fill) (ps_maxL mX0_fill) (ps_ret mX0_fill) ∈ lw_tbl ∧ ((ps_y mX0_fill).cls ≠ "java/lang/invoke/MethodHandle" ∧ (ps_y mX0_fill).cls ≠ "java/lang/invoke/VarHandle") ∧ (parseMethodDescriptor (ps_y mX0_fill).desc).map (fun d => d.parameters.length) = some 3 ∧ ps_maxL mX0_fill ≤ 21 := ⟨(ps_tm 2 (by decide +kernel)), (ps_tm 319 (by decide +kernel)), ⟨by decide +kernel, by decide +kernel⟩, by decide +kernel, by decide +kernel⟩
theorem ciX0_fill : Cond.static (ps_y mX0_fill) ∈ lw_tbl := (ps_tm 318 (by decide +kernel))
theorem cbJ6_bitCount_0f7a4 : Cond.initialized (ps_y mJ6_bitCount_0f7a4).cls ∈ lw_tbl ∧ Cond.code (ps_y mJ6_bitCount_0f7a4) (ps_code mJ6_bitCount_0f7a4) (ps_maxL mJ6_bitCount_0f7a4) (ps_ret mJ6_bitCount_0f7a4) ∈ lw_tbl ∧ ((ps_y mJ6_bitCount_0f7a4).cls ≠ "java/lang/invoke/MethodHandle" ∧ (ps_y mJ6_bitCount_0f7a4).cls ≠ "java/lang/invoke/VarHandle") ∧ (parseMethodDescriptor (ps_y mJ6_bitCount_0f7a4).desc).map (fun d => d.parameters.length) = some 1 ∧ ps_maxL mJ6_bitCount_0f7a4 ≤ 21 := ⟨(ps_tm 12 (by decide +kernel)), (ps_tm 366 (by decide +kernel)), ⟨by decide +kernel, by decide +kernel⟩, by decide +kernel, by decide +kernel⟩
theorem ciJ6_bitCount_0f7a4 : Cond.static (ps_y mJ6_bitCount_0f7a4) ∈ lw_tbl := (ps_tm 365 (by decide +kernel))
theorem cbJ7_fill_53178 : Cond.initialized (ps_y mJ7_fill_53178).cls ∈ lw_tbl ∧ Cond.code (ps_y mJ7_fill_53178) (ps_code mJ7_fill_53178) (ps_maxL mJ7_fill_53178) (ps_ret mJ7_fill_53178) ∈ lw_tbl ∧ ((ps_y mJ7_fill_53178).cls ≠ "java/lang/invoke/MethodHandle" ∧ (ps_y mJ7_fill_53178).cls ≠ "java/lang/invoke/VarHandle") ∧ (parseMethodDescriptor (ps_y mJ7_fill_53178).desc).map (fun d => d.parameters.length) = some 2 ∧ ps_maxL mJ7_fill_53178 ≤ 21 := ⟨(ps_tm 3 (by decide +kernel)), (ps_tm 34 (by decide +kernel)), ⟨by decide +kernel, by decide +kernel⟩, by decide +kernel, by decide +kernel⟩
theorem ciJ7_fill_53178 : Cond.static (ps_y mJ7_fill_53178) ∈ lw_tbl := (ps_tm 33 (by decide +kernel))
theorem cbX3_join : Cond.initialized (ps_y mX3_join).cls ∈ lw_tbl ∧ Cond.code (ps_y mX3_join) (ps_code mX3_join) (ps_maxL mX3_join) (ps_ret mX3_join) ∈ lw_tbl ∧ ((ps_y mX3_join).cls ≠ "java/lang/invoke/MethodHandle" ∧ (ps_y mX3_join).cls ≠ "java/lang/invoke/VarHandle") ∧ (parseMethodDescriptor (ps_y mX3_join).desc).map (fun d => d.parameters.length) = some 2 ∧ ps_maxL mX3_join ≤ 21 := ⟨(ps_tm 5 (by decide +kernel)), (ps_tm 448 (by decide +kernel)), ⟨by decide +kernel, by decide +kernel⟩, by decide +kernel, by decide +kernel⟩
theorem ciX3_join : Cond.static (ps_y mX3_join) ∈ lw_tbl := (ps_tm 447 (by decide +kernel))
theorem cbX4_formesAhead : Cond.initialized (ps_y mX4_formesAhead).cls ∈ lw_tbl ∧ Cond.code (ps_y mX4_formesAhead) (ps_code mX4_formesAhead) (ps_maxL mX4_formesAhead) (ps_ret mX4_formesAhead) ∈ lw_tbl ∧ ((ps_y mX4_formesAhead).cls ≠ "java/lang/invoke/MethodHandle" ∧ (ps_y mX4_formesAhead).cls ≠ "java/lang/invoke/VarHandle") ∧ (parseMethodDescriptor (ps_y mX4_formesAhead).desc).map (fun d => d.parameters.length) = some 2 ∧ ps_maxL mX4_formesAhead ≤ 21 := ⟨(ps_tm 7 (by decide +kernel)), (ps_tm 558 (by decide +kernel)), ⟨by decide +kernel, by decide +kernel⟩, by decide +kernel, by decide +kernel⟩
theorem ciX4_formesAhead : Cond.static (ps_y mX4_formesAhead) ∈ lw_tbl := (ps_tm 557 (by decide +kernel))
theorem cbX4_lay : Cond.initialized (ps_y mX4_lay).cls ∈ lw_tbl ∧ Cond.code (ps_y mX4_lay) (ps_code mX4_lay) (ps_maxL mX4_lay) (ps_ret mX4_lay) ∈ lw_tbl ∧ ((ps_y mX4_lay).cls ≠ "java/lang/invoke/MethodHandle" ∧ (ps_y mX4_lay).cls ≠ "java/lang/invoke/VarHandle") ∧ (parseMethodDescriptor (ps_y mX4_lay).desc).map (fun d => d.parameters.length) = some 4 ∧ ps_maxL mX4_lay ≤ 21 := ⟨(ps_tm 7 (by decide +kernel)), (ps_tm 580 (by decide +kernel)), ⟨by decide +kernel, by decide +kernel⟩, by decide +kernel, by decide +kernel⟩
theorem ciX4_lay : Cond.static (ps_y mX4_lay) ∈ lw_tbl := (ps_tm 579 (by decide +kernel))
theorem cbX6_formesWith : Cond.initialized (ps_y mX6_formesWith).cls ∈ lw_tbl ∧ Cond.code (ps_y mX6_formesWith) (ps_code mX6_formesWith) (ps_maxL mX6_formesWith) (ps_ret mX6_formesWith) ∈ lw_tbl ∧ ((ps_y mX6_formesWith).cls ≠ "java/lang/invoke/MethodHandle" ∧ (ps_y mX6_formesWith).cls ≠ "java/lang/invoke/VarHandle") ∧ (parseMethodDescriptor (ps_y mX6_formesWith).desc).map (fun d => d.parameters.length) = some 2 ∧ ps_maxL mX6_formesWith ≤ 21 := ⟨(ps_tm 6 (by decide +kernel)), (ps_tm 506 (by decide +kernel)), ⟨by decide +kernel, by decide +kernel⟩, by decide +kernel, by decide +kernel⟩
theorem ciX6_formesWith : Cond.static (ps_y mX6_formesWith) ∈ lw_tbl := (ps_tm 505 (by decide +kernel))
theorem cbX7_isDays : Cond.initialized (ps_y mX7_isDays).cls ∈ lw_tbl ∧ Cond.code (ps_y mX7_isDays) (ps_code mX7_isDays) (ps_maxL mX7_isDays) (ps_ret mX7_isDays) ∈ lw_tbl ∧ ((ps_y mX7_isDays).cls ≠ "java/lang/invoke/MethodHandle" ∧ (ps_y mX7_isDays).cls ≠ "java/lang/invoke/VarHandle") ∧ (parseMethodDescriptor (ps_y mX7_isDays).desc).map (fun d => d.parameters.length) = some 1 ∧ ps_maxL mX7_isDays ≤ 21 := ⟨(ps_tm 1 (by decide +kernel)), (ps_tm 542 (by decide +kernel)), ⟨by decide +kernel, by decide +kernel⟩, by decide +kernel, by decide +kernel⟩
theorem ciX7_isDays : Cond.static (ps_y mX7_isDays) ∈ lw_tbl := (ps_tm 541 (by decide +kernel))
theorem cbX7_isCopy : Cond.initialized (ps_y mX7_isCopy).cls ∈ lw_tbl ∧ Cond.code (ps_y mX7_isCopy) (ps_code mX7_isCopy) (ps_maxL mX7_isCopy) (ps_ret mX7_isCopy) ∈ lw_tbl ∧ ((ps_y mX7_isCopy).cls ≠ "java/lang/invoke/MethodHandle" ∧ (ps_y mX7_isCopy).cls ≠ "java/lang/invoke/VarHandle") ∧ (parseMethodDescriptor (ps_y mX7_isCopy).desc).map (fun d => d.parameters.length) = some 1 ∧ ps_maxL mX7_isCopy ≤ 21 := ⟨(ps_tm 1 (by decide +kernel)), (ps_tm 271 (by decide +kernel)), ⟨by decide +kernel, by decide +kernel⟩, by decide +kernel, by decide +kernel⟩
theorem ciX7_isCopy : Cond.static (ps_y mX7_isCopy) ∈ lw_tbl := (ps_tm 270 (by decide +kernel))
theorem cbX7_isForme : Cond.initialized (ps_y mX7_isForme).cls ∈ lw_tbl ∧ Cond.code (ps_y mX7_isForme) (ps_code mX7_isForme) (ps_maxL mX7_isForme) (ps_ret mX7_isForme) ∈ lw_tbl ∧ ((ps_y mX7_isForme).cls ≠ "java/lang/invoke/MethodHandle" ∧ (ps_y mX7_isForme).cls ≠ "java/lang/invoke/VarHandle") ∧ (parseMethodDescriptor (ps_y mX7_isForme).desc).map (fun d => d.parameters.length) = some 1 ∧ ps_maxL mX7_isForme ≤ 21 := ⟨(ps_tm 1 (by decide +kernel)), (ps_tm 277 (by decide +kernel)), ⟨by decide +kernel, by decide +kernel⟩, by decide +kernel, by decide +kernel⟩
theorem ciX7_isForme : Cond.static (ps_y mX7_isForme) ∈ lw_tbl := (ps_tm 276 (by decide +kernel))
theorem cbX7_within : Cond.initialized (ps_y mX7_within).cls ∈ lw_tbl ∧ Cond.code (ps_y mX7_within) (ps_code mX7_within) (ps_maxL mX7_within) (ps_ret mX7_within) ∈ lw_tbl ∧ ((ps_y mX7_within).cls ≠ "java/lang/invoke/MethodHandle" ∧ (ps_y mX7_within).cls ≠ "java/lang/invoke/VarHandle") ∧ (parseMethodDescriptor (ps_y mX7_within).desc).map (fun d => d.parameters.length) = some 2 ∧ ps_maxL mX7_within ≤ 21 := ⟨(ps_tm 1 (by decide +kernel)), (ps_tm 274 (by decide +kernel)), ⟨by decide +kernel, by decide +kernel⟩, by decide +kernel, by decide +kernel⟩
theorem ciX7_within : Cond.static (ps_y mX7_within) ∈ lw_tbl := (ps_tm 273 (by decide +kernel))
theorem cbX8_isCopy : Cond.initialized (ps_y mX8_isCopy).cls ∈ lw_tbl ∧ Cond.code (ps_y mX8_isCopy) (ps_code mX8_isCopy) (ps_maxL mX8_isCopy) (ps_ret mX8_isCopy) ∈ lw_tbl ∧ ((ps_y mX8_isCopy).cls ≠ "java/lang/invoke/MethodHandle" ∧ (ps_y mX8_isCopy).cls ≠ "java/lang/invoke/VarHandle") ∧ (parseMethodDescriptor (ps_y mX8_isCopy).desc).map (fun d => d.parameters.length) = some 1 ∧ ps_maxL mX8_isCopy ≤ 21 := ⟨(ps_tm 10 (by decide +kernel)), (ps_tm 917 (by decide +kernel)), ⟨by decide +kernel, by decide +kernel⟩, by decide +kernel, by decide +kernel⟩
theorem ciX8_isCopy : Cond.static (ps_y mX8_isCopy) ∈ lw_tbl := (ps_tm 916 (by decide +kernel))
theorem cbX8_isForme : Cond.initialized (ps_y mX8_isForme).cls ∈ lw_tbl ∧ Cond.code (ps_y mX8_isForme) (ps_code mX8_isForme) (ps_maxL mX8_isForme) (ps_ret mX8_isForme) ∈ lw_tbl ∧ ((ps_y mX8_isForme).cls ≠ "java/lang/invoke/MethodHandle" ∧ (ps_y mX8_isForme).cls ≠ "java/lang/invoke/VarHandle") ∧ (parseMethodDescriptor (ps_y mX8_isForme).desc).map (fun d => d.parameters.length) = some 1 ∧ ps_maxL mX8_isForme ≤ 21 := ⟨(ps_tm 10 (by decide +kernel)), (ps_tm 924 (by decide +kernel)), ⟨by decide +kernel, by decide +kernel⟩, by decide +kernel, by decide +kernel⟩
theorem ciX8_isForme : Cond.static (ps_y mX8_isForme) ∈ lw_tbl := (ps_tm 923 (by decide +kernel))
theorem cbX8_in : Cond.initialized (ps_y mX8_in).cls ∈ lw_tbl ∧ Cond.code (ps_y mX8_in) (ps_code mX8_in) (ps_maxL mX8_in) (ps_ret mX8_in) ∈ lw_tbl ∧ ((ps_y mX8_in).cls ≠ "java/lang/invoke/MethodHandle" ∧ (ps_y mX8_in).cls ≠ "java/lang/invoke/VarHandle") ∧ (parseMethodDescriptor (ps_y mX8_in).desc).map (fun d => d.parameters.length) = some 3 ∧ ps_maxL mX8_in ≤ 21 := ⟨(ps_tm 10 (by decide +kernel)), (ps_tm 921 (by decide +kernel)), ⟨by decide +kernel, by decide +kernel⟩, by decide +kernel, by decide +kernel⟩
theorem ciX8_in : Cond.static (ps_y mX8_in) ∈ lw_tbl := (ps_tm 920 (by decide +kernel))
theorem cvL_102 : ps_cV RL 102 mX8_fewest 0 8 := ⟨⟨(ps_tm 1081 (by decide +kernel)), cbX8_fewest⟩, ciX8_fewest⟩
theorem cvL_103 : ps_cV RL 103 mX7_sheet 2 7 := ⟨⟨(ps_tm 602 (by decide +kernel)), cbX7_sheet⟩, ciX7_sheet⟩
theorem cvL_106 : ps_cV RL 106 mX8_sheet 2 8 := ⟨⟨(ps_tm 1085 (by decide +kernel)), cbX8_sheet⟩, ciX8_sheet⟩
theorem cvL_107 : ps_cV RL 107 mX7_size 1 7 := ⟨⟨(ps_tm 610 (by decide +kernel)), cbX7_size⟩, ciX7_size⟩
theorem cvL_110 : ps_cV RL 110 mX8_size 1 8 := ⟨⟨(ps_tm 1089 (by decide +kernel)), cbX8_size⟩, ciX8_size⟩
theorem cvL_111 : ps_cV RL 111 mX7_seen 3 7 := ⟨⟨(ps_tm 618 (by decide +kernel)), cbX7_seen⟩, ciX7_seen⟩
theorem cvL_114 : ps_cV RL 114 mX8_seen 3 8 := ⟨⟨(ps_tm 1094 (by decide +kernel)), cbX8_seen⟩, ciX8_seen⟩
theorem cvL_115 : ps_cV RL 115 mX7_turns 1 7 := ⟨⟨(ps_tm 626 (by decide +kernel)), cbX7_turns⟩, ciX7_turns⟩
theorem cvL_118 : ps_cV RL 118 mX8_turns 1 8 := ⟨⟨(ps_tm 1099 (by decide +kernel)), cbX8_turns⟩, ciX8_turns⟩
theorem cvL_119 : ps_cV RL 119 mX7_turned 2 7 := ⟨⟨(ps_tm 656 (by decide +kernel)), cbX7_turned⟩, ciX7_turned⟩
theorem cvL_122 : ps_cV RL 122 mX8_turned 2 8 := ⟨⟨(ps_tm 1119 (by decide +kernel)), cbX8_turned⟩, ciX8_turned⟩
theorem cvL_123 : ps_cV RL 123 mX7_bound 3 7 := ⟨⟨(ps_tm 662 (by decide +kernel)), cbX7_bound⟩, ciX7_bound⟩
theorem cvL_127 : ps_cV RL 127 mX8_bound 3 8 := ⟨⟨(ps_tm 1123 (by decide +kernel)), cbX8_bound⟩, ciX8_bound⟩
theorem cvL_128 : ps_cV RL 128 mX7_house 2 7 := ⟨⟨(ps_tm 667 (by decide +kernel)), cbX7_house⟩, ciX7_house⟩
theorem cvL_13 : ps_cV RL 13 mX7_read 4 7 := ⟨⟨(ps_tm 265 (by decide +kernel)), cbX7_read⟩, ciX7_read⟩
theorem cvL_131 : ps_cV RL 131 mX8_house 2 8 := ⟨⟨(ps_tm 1127 (by decide +kernel)), cbX8_house⟩, ciX8_house⟩
theorem cvL_132 : ps_cV RL 132 mX7_habit 3 7 := ⟨⟨(ps_tm 675 (by decide +kernel)), cbX7_habit⟩, ciX7_habit⟩
theorem cvL_135 : ps_cV RL 135 mX8_habit 3 8 := ⟨⟨(ps_tm 1132 (by decide +kernel)), cbX8_habit⟩, ciX8_habit⟩
theorem cvL_136 : ps_cV RL 136 mX7_spell 4 7 := ⟨⟨(ps_tm 687 (by decide +kernel)), cbX7_spell⟩, ciX7_spell⟩
theorem cvL_139 : ps_cV RL 139 mX8_spell 4 8 := ⟨⟨(ps_tm 1140 (by decide +kernel)), cbX8_spell⟩, ciX8_spell⟩
theorem cvL_140 : ps_cV RL 140 mX7_change 1 7 := ⟨⟨(ps_tm 699 (by decide +kernel)), cbX7_change⟩, ciX7_change⟩
theorem cvL_143 : ps_cV RL 143 mX8_change 1 8 := ⟨⟨(ps_tm 1148 (by decide +kernel)), cbX8_change⟩, ciX8_change⟩
theorem cvL_144 : ps_cV RL 144 mX7_against 2 7 := ⟨⟨(ps_tm 707 (by decide +kernel)), cbX7_against⟩, ciX7_against⟩
theorem cvL_147 : ps_cV RL 147 mX8_against 2 8 := ⟨⟨(ps_tm 1153 (by decide +kernel)), cbX8_against⟩, ciX8_against⟩
theorem cvL_148 : ps_cV RL 148 mX7_setting 0 7 := ⟨⟨(ps_tm 715 (by decide +kernel)), cbX7_setting⟩, ciX7_setting⟩
theorem cvL_151 : ps_cV RL 151 mX8_setting 0 8 := ⟨⟨(ps_tm 1161 (by decide +kernel)), cbX8_setting⟩, ciX8_setting⟩
theorem cvL_152 : ps_cV RL 152 mX7_who 1 7 := ⟨⟨(ps_tm 749 (by decide +kernel)), cbX7_who⟩, ciX7_who⟩
theorem cvL_155 : ps_cV RL 155 mX8_who 1 8 := ⟨⟨(ps_tm 1173 (by decide +kernel)), cbX8_who⟩, ciX8_who⟩
theorem cvL_156 : ps_cV RL 156 mX7_sure 1 7 := ⟨⟨(ps_tm 769 (by decide +kernel)), cbX7_sure⟩, ciX7_sure⟩
theorem cvL_159 : ps_cV RL 159 mX8_sure 1 8 := ⟨⟨(ps_tm 1177 (by decide +kernel)), cbX8_sure⟩, ciX8_sure⟩
theorem cvL_160 : ps_cV RL 160 mX7_settings 0 7 := ⟨⟨(ps_tm 777 (by decide +kernel)), cbX7_settings⟩, ciX7_settings⟩
theorem cvL_163 : ps_cV RL 163 mX8_settings 0 8 := ⟨⟨(ps_tm 1185 (by decide +kernel)), cbX8_settings⟩, ciX8_settings⟩
theorem cvL_164 : ps_cV RL 164 mX7_count 1 7 := ⟨⟨(ps_tm 785 (by decide +kernel)), cbX7_count⟩, ciX7_count⟩
theorem cvL_167 : ps_cV RL 167 mX8_count 1 8 := ⟨⟨(ps_tm 1189 (by decide +kernel)), cbX8_count⟩, ciX8_count⟩
theorem cvL_17 : ps_cV RL 17 mX8_read 4 8 := ⟨⟨(ps_tm 911 (by decide +kernel)), cbX8_read⟩, ciX8_read⟩
theorem cvL_18 : ps_cV RL 18 mX7_agree 3 7 := ⟨⟨(ps_tm 285 (by decide +kernel)), cbX7_agree⟩, ciX7_agree⟩
theorem cvL_22 : ps_cV RL 22 mX8_agree 3 8 := ⟨⟨(ps_tm 933 (by decide +kernel)), cbX8_agree⟩, ciX8_agree⟩
theorem cvL_23 : ps_cV RL 23 mX7_states 1 7 := ⟨⟨(ps_tm 296 (by decide +kernel)), cbX7_states⟩, ciX7_states⟩
theorem cvL_27 : ps_cV RL 27 mX8_states 1 8 := ⟨⟨(ps_tm 941 (by decide +kernel)), cbX8_states⟩, ciX8_states⟩
theorem cvL_28 : ps_cV RL 28 mX7_state 2 7 := ⟨⟨(ps_tm 323 (by decide +kernel)), cbX7_state⟩, ciX7_state⟩
theorem cvL_32 : ps_cV RL 32 mX8_state 2 8 := ⟨⟨(ps_tm 961 (by decide +kernel)), cbX8_state⟩, ciX8_state⟩
theorem cvL_33 : ps_cV RL 33 mX7_letter 3 7 := ⟨⟨(ps_tm 327 (by decide +kernel)), cbX7_letter⟩, ciX7_letter⟩
theorem cvL_36 : ps_cV RL 36 mX8_letter 3 8 := ⟨⟨(ps_tm 965 (by decide +kernel)), cbX8_letter⟩, ciX8_letter⟩
theorem cvL_37 : ps_cV RL 37 mX7_slips 2 7 := ⟨⟨(ps_tm 339 (by decide +kernel)), cbX7_slips⟩, ciX7_slips⟩
theorem cvL_40 : ps_cV RL 40 mX8_slips 2 8 := ⟨⟨(ps_tm 973 (by decide +kernel)), cbX8_slips⟩, ciX8_slips⟩
theorem cvL_41 : ps_cV RL 41 mX7_ahead 4 7 := ⟨⟨(ps_tm 385 (by decide +kernel)), cbX7_ahead⟩, ciX7_ahead⟩
theorem cvL_45 : ps_cV RL 45 mX8_ahead 4 8 := ⟨⟨(ps_tm 981 (by decide +kernel)), cbX8_ahead⟩, ciX8_ahead⟩
theorem cvL_46 : ps_cV RL 46 mX7_changes 3 7 := ⟨⟨(ps_tm 394 (by decide +kernel)), cbX7_changes⟩, ciX7_changes⟩
theorem cvL_49 : ps_cV RL 49 mX8_changes 3 8 := ⟨⟨(ps_tm 986 (by decide +kernel)), cbX8_changes⟩, ciX8_changes⟩
theorem cvL_50 : ps_cV RL 50 mX7_least 1 7 := ⟨⟨(ps_tm 403 (by decide +kernel)), cbX7_least⟩, ciX7_least⟩
theorem cvL_53 : ps_cV RL 53 mX8_least 1 8 := ⟨⟨(ps_tm 994 (by decide +kernel)), cbX8_least⟩, ciX8_least⟩
theorem cvL_54 : ps_cV RL 54 mX7_orders 1 7 := ⟨⟨(ps_tm 460 (by decide +kernel)), cbX7_orders⟩, ciX7_orders⟩
theorem cvL_57 : ps_cV RL 57 mX8_orders 1 8 := ⟨⟨(ps_tm 1011 (by decide +kernel)), cbX8_orders⟩, ciX8_orders⟩
theorem cvL_58 : ps_cV RL 58 mX7_first 2 7 := ⟨⟨(ps_tm 468 (by decide +kernel)), cbX7_first⟩, ciX7_first⟩
theorem cvL_61 : ps_cV RL 61 mX8_first 2 8 := ⟨⟨(ps_tm 1019 (by decide +kernel)), cbX8_first⟩, ciX8_first⟩
theorem cvL_62 : ps_cV RL 62 mX7_before 3 7 := ⟨⟨(ps_tm 476 (by decide +kernel)), cbX7_before⟩, ciX7_before⟩
theorem cvL_65 : ps_cV RL 65 mX8_before 3 8 := ⟨⟨(ps_tm 1027 (by decide +kernel)), cbX8_before⟩, ciX8_before⟩
theorem cvL_66 : ps_cV RL 66 mX7_piece 3 7 := ⟨⟨(ps_tm 484 (by decide +kernel)), cbX7_piece⟩, ciX7_piece⟩
theorem cvL_69 : ps_cV RL 69 mX8_piece 3 8 := ⟨⟨(ps_tm 1031 (by decide +kernel)), cbX8_piece⟩, ciX8_piece⟩
theorem cvL_70 : ps_cV RL 70 mX7_share 2 7 := ⟨⟨(ps_tm 511 (by decide +kernel)), cbX7_share⟩, ciX7_share⟩
theorem cvL_73 : ps_cV RL 73 mX8_share 2 8 := ⟨⟨(ps_tm 1036 (by decide +kernel)), cbX8_share⟩, ciX8_share⟩
theorem cvL_74 : ps_cV RL 74 mX7_must 2 7 := ⟨⟨(ps_tm 515 (by decide +kernel)), cbX7_must⟩, ciX7_must⟩
theorem cvL_77 : ps_cV RL 77 mX8_must 2 8 := ⟨⟨(ps_tm 1044 (by decide +kernel)), cbX8_must⟩, ciX8_must⟩
theorem cvL_78 : ps_cV RL 78 mX7_ring 0 7 := ⟨⟨(ps_tm 519 (by decide +kernel)), cbX7_ring⟩, ciX7_ring⟩
theorem cvL_82 : ps_cV RL 82 mX8_ring 0 8 := ⟨⟨(ps_tm 1052 (by decide +kernel)), cbX8_ring⟩, ciX8_ring⟩
theorem cvL_83 : ps_cV RL 83 mX7_presses 1 7 := ⟨⟨(ps_tm 527 (by decide +kernel)), cbX7_presses⟩, ciX7_presses⟩
theorem cvL_86 : ps_cV RL 86 mX8_presses 1 8 := ⟨⟨(ps_tm 1056 (by decide +kernel)), cbX8_presses⟩, ciX8_presses⟩
theorem cvL_87 : ps_cV RL 87 mX7_plans 1 7 := ⟨⟨(ps_tm 536 (by decide +kernel)), cbX7_plans⟩, ciX7_plans⟩
theorem cvL_90 : ps_cV RL 90 mX8_plans 1 8 := ⟨⟨(ps_tm 1061 (by decide +kernel)), cbX8_plans⟩, ciX8_plans⟩
theorem cvL_91 : ps_cV RL 91 mX7_day 2 7 := ⟨⟨(ps_tm 564 (by decide +kernel)), cbX7_day⟩, ciX7_day⟩
theorem cvL_94 : ps_cV RL 94 mX8_day 2 8 := ⟨⟨(ps_tm 1073 (by decide +kernel)), cbX8_day⟩, ciX8_day⟩
theorem cvL_95 : ps_cV RL 95 mX7_beside 3 7 := ⟨⟨(ps_tm 593 (by decide +kernel)), cbX7_beside⟩, ciX7_beside⟩
theorem cvL_98 : ps_cV RL 98 mX8_beside 3 8 := ⟨⟨(ps_tm 1077 (by decide +kernel)), cbX8_beside⟩, ciX8_beside⟩
theorem cvL_99 : ps_cV RL 99 mX7_fewest 0 7 := ⟨⟨(ps_tm 598 (by decide +kernel)), cbX7_fewest⟩, ciX7_fewest⟩
theorem cvX0_50 : ps_cV RX0 50 mX0_copiesLookedAt 0 0 := ⟨⟨(ps_tm 308 (by decide +kernel)), cbX0_copiesLookedAt⟩, ciX0_copiesLookedAt⟩
theorem cvX0_58 : ps_cV RX0 58 mX0_unlikeCopies 1 0 := ⟨⟨(ps_tm 312 (by decide +kernel)), cbX0_unlikeCopies⟩, ciX0_unlikeCopies⟩
theorem cvX0_68 : ps_cV RX0 68 mX0_areAlike 2 0 := ⟨⟨(ps_tm 316 (by decide +kernel)), cbX0_areAlike⟩, ciX0_areAlike⟩
theorem cvX0_77 : ps_cV RX0 77 mX0_groupLetter 2 0 := ⟨⟨(ps_tm 402 (by decide +kernel)), cbX0_groupLetter⟩, ciX0_groupLetter⟩
theorem cvX0_80 : ps_cV RX0 80 mX0_tellsAheadOf 2 0 := ⟨⟨(ps_tm 423 (by decide +kernel)), cbX0_tellsAheadOf⟩, ciX0_tellsAheadOf⟩
theorem cvX1_40 : ps_cV RX1 40 mX1_heapEnd 2 1 := ⟨⟨(ps_tm 646 (by decide +kernel)), cbX1_heapEnd⟩, ciX1_heapEnd⟩
theorem cvX1_43 : ps_cV RX1 43 mX1_kindIn 3 1 := ⟨⟨(ps_tm 651 (by decide +kernel)), cbX1_kindIn⟩, ciX1_kindIn⟩
theorem cvX1_47 : ps_cV RX1 47 mX1_mayBe 3 1 := ⟨⟨(ps_tm 642 (by decide +kernel)), cbX1_mayBe⟩, ciX1_mayBe⟩
theorem cvX1_51 : ps_cV RX1 51 mX1_heapCount 1 1 := ⟨⟨(ps_tm 634 (by decide +kernel)), cbX1_heapCount⟩, ciX1_heapCount⟩
theorem cvX1_55 : ps_cV RX1 55 mX1_choices 2 1 := ⟨⟨(ps_tm 638 (by decide +kernel)), cbX1_choices⟩, ciX1_choices⟩
theorem cvX2_52 : ps_cV RX2 52 mX2_solve 0 2 := ⟨⟨(ps_tm 723 (by decide +kernel)), cbX2_solve⟩, ciX2_solve⟩
theorem cvX2_58 : ps_cV RX2 58 mX2_isBest 2 2 := ⟨⟨(ps_tm 761 (by decide +kernel)), cbX2_isBest⟩, ciX2_isBest⟩
theorem cvX2_62 : ps_cV RX2 62 mX2_leastBestMan 0 2 := ⟨⟨(ps_tm 757 (by decide +kernel)), cbX2_leastBestMan⟩, ciX2_leastBestMan⟩
theorem cvX2_66 : ps_cV RX2 66 mX2_nextMan 2 2 := ⟨⟨(ps_tm 765 (by decide +kernel)), cbX2_nextMan⟩, ciX2_nextMan⟩
theorem cvX2_70 : ps_cV RX2 70 mX2_costThrough 3 2 := ⟨⟨(ps_tm 741 (by decide +kernel)), cbX2_costThrough⟩, ciX2_costThrough⟩
theorem cvX2_74 : ps_cV RX2 74 mX2_changeOf 2 2 := ⟨⟨(ps_tm 732 (by decide +kernel)), cbX2_changeOf⟩, ciX2_changeOf⟩
theorem cvX2_77 : ps_cV RX2 77 mX2_wordsAgainst 2 2 := ⟨⟨(ps_tm 727 (by decide +kernel)), cbX2_wordsAgainst⟩, ciX2_wordsAgainst⟩
theorem cvX2_80 : ps_cV RX2 80 mX2_costAhead 2 2 := ⟨⟨(ps_tm 728 (by decide +kernel)), cbX2_costAhead⟩, ciX2_costAhead⟩
theorem cvX2_83 : ps_cV RX2 83 mX2_lookBehind 2 2 := ⟨⟨(ps_tm 737 (by decide +kernel)), cbX2_lookBehind⟩, ciX2_lookBehind⟩
theorem cvX2_87 : ps_cV RX2 87 mX2_leastUpTo 1 2 := ⟨⟨(ps_tm 745 (by decide +kernel)), cbX2_leastUpTo⟩, ciX2_leastUpTo⟩
theorem cvX3_21 : ps_cV RX3 21 mX3_makeOrders 1 3 := ⟨⟨(ps_tm 411 (by decide +kernel)), cbX3_makeOrders⟩, ciX3_makeOrders⟩
theorem cvX3_38 : ps_cV RX3 38 mX3_takeStates 1 3 := ⟨⟨(ps_tm 415 (by decide +kernel)), cbX3_takeStates⟩, ciX3_takeStates⟩
theorem cvX3_41 : ps_cV RX3 41 mX3_findRests 0 3 := ⟨⟨(ps_tm 428 (by decide +kernel)), cbX3_findRests⟩, ciX3_findRests⟩
theorem cvX3_56 : ps_cV RX3 56 mX3_walkFirst 2 3 := ⟨⟨(ps_tm 452 (by decide +kernel)), cbX3_walkFirst⟩, ciX3_walkFirst⟩
theorem cvX3_65 : ps_cV RX3 65 mX0_statesAhead 1 0 := ⟨⟨(ps_tm 419 (by decide +kernel)), cbX0_statesAhead⟩, ciX0_statesAhead⟩
theorem cvX3_69 : ps_cV RX3 69 mX0_unlikePlaces 2 0 := ⟨⟨(ps_tm 427 (by decide +kernel)), cbX0_unlikePlaces⟩, ciX0_unlikePlaces⟩
theorem cvX3_73 : ps_cV RX3 73 mX3_restBehind 2 3 := ⟨⟨(ps_tm 432 (by decide +kernel)), cbX3_restBehind⟩, ciX3_restBehind⟩
theorem cvX3_76 : ps_cV RX3 76 mX3_mayCome 2 3 := ⟨⟨(ps_tm 436 (by decide +kernel)), cbX3_mayCome⟩, ciX3_mayCome⟩
theorem cvX3_80 : ps_cV RX3 80 mX3_restThrough 3 3 := ⟨⟨(ps_tm 440 (by decide +kernel)), cbX3_restThrough⟩, ciX3_restThrough⟩
theorem cvX3_95 : ps_cV RX3 95 mX3_leastNext 3 3 := ⟨⟨(ps_tm 456 (by decide +kernel)), cbX3_leastNext⟩, ciX3_leastNext⟩
theorem cvX4_34 : ps_cV RX4 34 mX4_forget 0 4 := ⟨⟨(ps_tm 535 (by decide +kernel)), cbX4_forget⟩, ciX4_forget⟩
theorem cvX4_37 : ps_cV RX4 37 mX4_weighSets 2 4 := ⟨⟨(ps_tm 547 (by decide +kernel)), cbX4_weighSets⟩, ciX4_weighSets⟩
theorem cvX4_52 : ps_cV RX4 52 mX4_addDay 1 4 := ⟨⟨(ps_tm 560 (by decide +kernel)), cbX4_addDay⟩, ciX4_addDay⟩
theorem cvX4_56 : ps_cV RX4 56 mX4_canLie 2 4 := ⟨⟨(ps_tm 551 (by decide +kernel)), cbX4_canLie⟩, ciX4_canLie⟩
theorem cvX4_76 : ps_cV RX4 76 mX4_makeFirst 2 4 := ⟨⟨(ps_tm 572 (by decide +kernel)), cbX4_makeFirst⟩, ciX4_makeFirst⟩
theorem cvX4_80 : ps_cV RX4 80 mX6_ringSize 0 6 := ⟨⟨(ps_tm 577 (by decide +kernel)), cbX6_ringSize⟩, ciX6_ringSize⟩
theorem cvX4_88 : ps_cV RX4 88 mX6_isTold 1 6 := ⟨⟨(ps_tm 581 (by decide +kernel)), cbX6_isTold⟩, ciX6_isTold⟩
theorem cvX4_92 : ps_cV RX4 92 mX4_hasRoom 3 4 := ⟨⟨(ps_tm 585 (by decide +kernel)), cbX4_hasRoom⟩, ciX4_hasRoom⟩
theorem cvX4_96 : ps_cV RX4 96 mX4_keepsTurn 3 4 := ⟨⟨(ps_tm 589 (by decide +kernel)), cbX4_keepsTurn⟩, ciX4_keepsTurn⟩
theorem cvX5_30 : ps_cV RX5 30 mX5_countAlone 2 5 := ⟨⟨(ps_tm 347 (by decide +kernel)), cbX5_countAlone⟩, ciX5_countAlone⟩
theorem cvX5_40 : ps_cV RX5 40 mX5_allowOneMore 1 5 := ⟨⟨(ps_tm 374 (by decide +kernel)), cbX5_allowOneMore⟩, ciX5_allowOneMore⟩
theorem cvX5_44 : ps_cV RX5 44 mX5_slipsWithOneMore 1 5 := ⟨⟨(ps_tm 378 (by decide +kernel)), cbX5_slipsWithOneMore⟩, ciX5_slipsWithOneMore⟩
theorem cvX5_54 : ps_cV RX5 54 mX5_takeReaders 2 5 := ⟨⟨(ps_tm 352 (by decide +kernel)), cbX5_takeReaders⟩, ciX5_takeReaders⟩
theorem cvX5_57 : ps_cV RX5 57 mX5_slipsAtPlace 1 5 := ⟨⟨(ps_tm 360 (by decide +kernel)), cbX5_slipsAtPlace⟩, ciX5_slipsAtPlace⟩
theorem cvX5_63 : ps_cV RX5 63 mX0_readersOf 2 0 := ⟨⟨(ps_tm 356 (by decide +kernel)), cbX0_readersOf⟩, ciX0_readersOf⟩
theorem cvX6_30 : ps_cV RX6 30 mX6_link 0 6 := ⟨⟨(ps_tm 496 (by decide +kernel)), cbX6_link⟩, ciX6_link⟩
theorem cvX6_33 : ps_cV RX6 33 mX6_linkPiece 1 6 := ⟨⟨(ps_tm 500 (by decide +kernel)), cbX6_linkPiece⟩, ciX6_linkPiece⟩
theorem cvX6_41 : ps_cV RX6 41 mX6_reachOn 0 6 := ⟨⟨(ps_tm 507 (by decide +kernel)), cbX6_reachOn⟩, ciX6_reachOn⟩
theorem cvX7_103 : ps_cV RX7 103 mX0_tellAhead 3 0 := ⟨⟨(ps_tm 390 (by decide +kernel)), cbX0_tellAhead⟩, ciX0_tellAhead⟩
theorem cvX7_107 : ps_cV RX7 107 mX0_unlikePlaces 2 0 := ⟨⟨(ps_tm 398 (by decide +kernel)), cbX0_unlikePlaces⟩, ciX0_unlikePlaces⟩
theorem cvX7_110 : ps_cV RX7 110 mX3_leastCost 1 3 := ⟨⟨(ps_tm 407 (by decide +kernel)), cbX3_leastCost⟩, ciX3_leastCost⟩
theorem cvX7_114 : ps_cV RX7 114 mX3_leastWays 1 3 := ⟨⟨(ps_tm 464 (by decide +kernel)), cbX3_leastWays⟩, ciX3_leastWays⟩
theorem cvX7_117 : ps_cV RX7 117 mX3_stateAt 2 3 := ⟨⟨(ps_tm 472 (by decide +kernel)), cbX3_stateAt⟩, ciX3_stateAt⟩
theorem cvX7_120 : ps_cV RX7 120 mX3_waysWith 3 3 := ⟨⟨(ps_tm 480 (by decide +kernel)), cbX3_waysWith⟩, ciX3_waysWith⟩
theorem cvX7_124 : ps_cV RX7 124 mX4_forget 0 4 := ⟨⟨(ps_tm 488 (by decide +kernel)), cbX4_forget⟩, ciX4_forget⟩
theorem cvX7_127 : ps_cV RX7 127 mX6_putPiece 3 6 := ⟨⟨(ps_tm 492 (by decide +kernel)), cbX6_putPiece⟩, ciX6_putPiece⟩
theorem cvX7_136 : ps_cV RX7 136 mX6_ringSize 0 6 := ⟨⟨(ps_tm 523 (by decide +kernel)), cbX6_ringSize⟩, ciX6_ringSize⟩
theorem cvX7_140 : ps_cV RX7 140 mX4_putPresses 1 4 := ⟨⟨(ps_tm 531 (by decide +kernel)), cbX4_putPresses⟩, ciX4_putPresses⟩
theorem cvX7_147 : ps_cV RX7 147 mX4_planCount 3 4 := ⟨⟨(ps_tm 543 (by decide +kernel)), cbX4_planCount⟩, ciX4_planCount⟩
theorem cvX7_151 : ps_cV RX7 151 mX4_dayInFirst 3 4 := ⟨⟨(ps_tm 568 (by decide +kernel)), cbX4_dayInFirst⟩, ciX4_dayInFirst⟩
theorem cvX7_154 : ps_cV RX7 154 mX6_isTold 1 6 := ⟨⟨(ps_tm 597 (by decide +kernel)), cbX6_isTold⟩, ciX6_isTold⟩
theorem cvX7_160 : ps_cV RX7 160 mX1_addSheet 2 1 := ⟨⟨(ps_tm 606 (by decide +kernel)), cbX1_addSheet⟩, ciX1_addSheet⟩
theorem cvX7_163 : ps_cV RX7 163 mX1_putSize 1 1 := ⟨⟨(ps_tm 614 (by decide +kernel)), cbX1_putSize⟩, ciX1_putSize⟩
theorem cvX7_166 : ps_cV RX7 166 mX1_putSeen 3 1 := ⟨⟨(ps_tm 622 (by decide +kernel)), cbX1_putSeen⟩, ciX1_putSeen⟩
theorem cvX7_169 : ps_cV RX7 169 mX1_turnings 1 1 := ⟨⟨(ps_tm 630 (by decide +kernel)), cbX1_turnings⟩, ciX1_turnings⟩
theorem cvX7_172 : ps_cV RX7 172 mX1_heapCount 1 1 := ⟨⟨(ps_tm 660 (by decide +kernel)), cbX1_heapCount⟩, ciX1_heapCount⟩
theorem cvX7_175 : ps_cV RX7 175 mX1_choices 2 1 := ⟨⟨(ps_tm 661 (by decide +kernel)), cbX1_choices⟩, ciX1_choices⟩
theorem cvX7_178 : ps_cV RX7 178 mX1_kindIn 3 1 := ⟨⟨(ps_tm 666 (by decide +kernel)), cbX1_kindIn⟩, ciX1_kindIn⟩
theorem cvX7_181 : ps_cV RX7 181 mX2_putHouse 2 2 := ⟨⟨(ps_tm 671 (by decide +kernel)), cbX2_putHouse⟩, ciX2_putHouse⟩
theorem cvX7_184 : ps_cV RX7 184 mX7_isMan 1 7 := ⟨⟨(ps_tm 679 (by decide +kernel)), cbX7_isMan⟩, ciX7_isMan⟩
theorem cvX7_187 : ps_cV RX7 187 mX2_putHabit 3 2 := ⟨⟨(ps_tm 683 (by decide +kernel)), cbX2_putHabit⟩, ciX2_putHabit⟩
theorem cvX7_190 : ps_cV RX7 190 mX7_isPage 1 7 := ⟨⟨(ps_tm 691 (by decide +kernel)), cbX7_isPage⟩, ciX7_isPage⟩
theorem cvX7_193 : ps_cV RX7 193 mX2_putTimes 4 2 := ⟨⟨(ps_tm 695 (by decide +kernel)), cbX2_putTimes⟩, ciX2_putTimes⟩
theorem cvX7_197 : ps_cV RX7 197 mX2_putChange 1 2 := ⟨⟨(ps_tm 703 (by decide +kernel)), cbX2_putChange⟩, ciX2_putChange⟩
theorem cvX7_200 : ps_cV RX7 200 mX2_wordsAgainst 2 2 := ⟨⟨(ps_tm 711 (by decide +kernel)), cbX2_wordsAgainst⟩, ciX2_wordsAgainst⟩
theorem cvX7_203 : ps_cV RX7 203 mX2_bestCost 0 2 := ⟨⟨(ps_tm 719 (by decide +kernel)), cbX2_bestCost⟩, ciX2_bestCost⟩
theorem cvX7_206 : ps_cV RX7 206 mX2_firstMan 1 2 := ⟨⟨(ps_tm 753 (by decide +kernel)), cbX2_firstMan⟩, ciX2_firstMan⟩
theorem cvX7_209 : ps_cV RX7 209 mX2_bestMen 1 2 := ⟨⟨(ps_tm 773 (by decide +kernel)), cbX2_bestMen⟩, ciX2_bestMen⟩
theorem cvX7_212 : ps_cV RX7 212 mX2_bestWays 0 2 := ⟨⟨(ps_tm 781 (by decide +kernel)), cbX2_bestWays⟩, ciX2_bestWays⟩
theorem cvX7_215 : ps_cV RX7 215 mX7_countReadings 0 7 := ⟨⟨(ps_tm 789 (by decide +kernel)), cbX7_countReadings⟩, ciX7_countReadings⟩
theorem cvX7_218 : ps_cV RX7 218 mX7_countAhead 0 7 := ⟨⟨(ps_tm 797 (by decide +kernel)), cbX7_countAhead⟩, ciX7_countAhead⟩
theorem cvX7_229 : ps_cV RX7 229 mX1_countSheets 0 1 := ⟨⟨(ps_tm 807 (by decide +kernel)), cbX1_countSheets⟩, ciX1_countSheets⟩
theorem cvX7_232 : ps_cV RX7 232 mX1_countSeen 0 1 := ⟨⟨(ps_tm 811 (by decide +kernel)), cbX1_countSeen⟩, ciX1_countSeen⟩
theorem cvX7_241 : ps_cV RX7 241 mX0_readingCount 0 0 := ⟨⟨(ps_tm 793 (by decide +kernel)), cbX0_readingCount⟩, ciX0_readingCount⟩
theorem cvX7_244 : ps_cV RX7 244 mX0_aheadCount 0 0 := ⟨⟨(ps_tm 801 (by decide +kernel)), cbX0_aheadCount⟩, ciX0_aheadCount⟩
theorem cvX7_250 : ps_cV RX7 250 mX0_makeGroups 0 0 := ⟨⟨(ps_tm 304 (by decide +kernel)), cbX0_makeGroups⟩, ciX0_makeGroups⟩
theorem cvX7_72 : ps_cV RX7 72 mX0_putLetter 3 0 := ⟨⟨(ps_tm 281 (by decide +kernel)), cbX0_putLetter⟩, ciX0_putLetter⟩
theorem cvX7_76 : ps_cV RX7 76 mX0_areAlike 2 0 := ⟨⟨(ps_tm 289 (by decide +kernel)), cbX0_areAlike⟩, ciX0_areAlike⟩
theorem cvX7_79 : ps_cV RX7 79 mX7_grouped 1 7 := ⟨⟨(ps_tm 300 (by decide +kernel)), cbX7_grouped⟩, ciX7_grouped⟩
theorem cvX7_91 : ps_cV RX7 91 mX7_isState 2 7 := ⟨⟨(ps_tm 331 (by decide +kernel)), cbX7_isState⟩, ciX7_isState⟩
theorem cvX7_94 : ps_cV RX7 94 mX0_groupLetter 2 0 := ⟨⟨(ps_tm 335 (by decide +kernel)), cbX0_groupLetter⟩, ciX0_groupLetter⟩
theorem cvX7_98 : ps_cV RX7 98 mX5_fewestSlips 2 5 := ⟨⟨(ps_tm 343 (by decide +kernel)), cbX5_fewestSlips⟩, ciX5_fewestSlips⟩
theorem cvX8_116 : ps_cV RX8 116 mX8_letterAt 3 8 := ⟨⟨(ps_tm 929 (by decide +kernel)), cbX8_letterAt⟩, ciX8_letterAt⟩
theorem cvX8_120 : ps_cV RX8 120 mX8_agrees 3 8 := ⟨⟨(ps_tm 937 (by decide +kernel)), cbX8_agrees⟩, ciX8_agrees⟩
theorem cvX8_124 : ps_cV RX8 124 mX8_joins 3 8 := ⟨⟨(ps_tm 957 (by decide +kernel)), cbX8_joins⟩, ciX8_joins⟩
theorem cvX8_127 : ps_cV RX8 127 mX8_isLooked 2 8 := ⟨⟨(ps_tm 949 (by decide +kernel)), cbX8_isLooked⟩, ciX8_isLooked⟩
theorem cvX8_134 : ps_cV RX8 134 mX8_layGroups 3 8 := ⟨⟨(ps_tm 953 (by decide +kernel)), cbX8_layGroups⟩, ciX8_layGroups⟩
theorem cvX8_137 : ps_cV RX8 137 mX8_layStates 1 8 := ⟨⟨(ps_tm 945 (by decide +kernel)), cbX8_layStates⟩, ciX8_layStates⟩
theorem cvX8_141 : ps_cV RX8 141 mX8_letterOf 3 8 := ⟨⟨(ps_tm 969 (by decide +kernel)), cbX8_letterOf⟩, ciX8_letterOf⟩
theorem cvX8_144 : ps_cV RX8 144 mX8_slipsOf 2 8 := ⟨⟨(ps_tm 977 (by decide +kernel)), cbX8_slipsOf⟩, ciX8_slipsOf⟩
theorem cvX8_149 : ps_cV RX8 149 mX8_changesOf 3 8 := ⟨⟨(ps_tm 990 (by decide +kernel)), cbX8_changesOf⟩, ciX8_changesOf⟩
theorem cvX8_153 : ps_cV RX8 153 mX8_layNeeds 1 8 := ⟨⟨(ps_tm 998 (by decide +kernel)), cbX8_layNeeds⟩, ciX8_layNeeds⟩
theorem cvX8_156 : ps_cV RX8 156 mX8_layOrders 0 8 := ⟨⟨(ps_tm 1002 (by decide +kernel)), cbX8_layOrders⟩, ciX8_layOrders⟩
theorem cvX8_159 : ps_cV RX8 159 mX8_leastCost 0 8 := ⟨⟨(ps_tm 1007 (by decide +kernel)), cbX8_leastCost⟩, ciX8_leastCost⟩
theorem cvX8_163 : ps_cV RX8 163 mX8_waysOf 1 8 := ⟨⟨(ps_tm 1015 (by decide +kernel)), cbX8_waysOf⟩, ciX8_waysOf⟩
theorem cvX8_167 : ps_cV RX8 167 mX8_isNext 3 8 := ⟨⟨(ps_tm 1023 (by decide +kernel)), cbX8_isNext⟩, ciX8_isNext⟩
theorem cvX8_172 : ps_cV RX8 172 mX8_shares 2 8 := ⟨⟨(ps_tm 1040 (by decide +kernel)), cbX8_shares⟩, ciX8_shares⟩
theorem cvX8_175 : ps_cV RX8 175 mX8_layMusts 0 8 := ⟨⟨(ps_tm 1048 (by decide +kernel)), cbX8_layMusts⟩, ciX8_layMusts⟩
theorem cvX8_180 : ps_cV RX8 180 mX8_isPlan 0 8 := ⟨⟨(ps_tm 1069 (by decide +kernel)), cbX8_isPlan⟩, ciX8_isPlan⟩
theorem cvX8_184 : ps_cV RX8 184 mX8_layPlans 3 8 := ⟨⟨(ps_tm 1065 (by decide +kernel)), cbX8_layPlans⟩, ciX8_layPlans⟩
theorem cvX8_191 : ps_cV RX8 191 mX8_heapEnd 2 8 := ⟨⟨(ps_tm 1111 (by decide +kernel)), cbX8_heapEnd⟩, ciX8_heapEnd⟩
theorem cvX8_194 : ps_cV RX8 194 mX8_kindIn 3 8 := ⟨⟨(ps_tm 1115 (by decide +kernel)), cbX8_kindIn⟩, ciX8_kindIn⟩
theorem cvX8_198 : ps_cV RX8 198 mX8_heaps 1 8 := ⟨⟨(ps_tm 1103 (by decide +kernel)), cbX8_heaps⟩, ciX8_heaps⟩
theorem cvX8_201 : ps_cV RX8 201 mX8_mayBe 3 8 := ⟨⟨(ps_tm 1107 (by decide +kernel)), cbX8_mayBe⟩, ciX8_mayBe⟩
theorem cvX8_207 : ps_cV RX8 207 mX8_isMan 1 8 := ⟨⟨(ps_tm 1136 (by decide +kernel)), cbX8_isMan⟩, ciX8_isMan⟩
theorem cvX8_210 : ps_cV RX8 210 mX8_isPage 1 8 := ⟨⟨(ps_tm 1144 (by decide +kernel)), cbX8_isPage⟩, ciX8_isPage⟩
theorem cvX8_215 : ps_cV RX8 215 mX8_againstOf 2 8 := ⟨⟨(ps_tm 1157 (by decide +kernel)), cbX8_againstOf⟩, ciX8_againstOf⟩
theorem cvX8_218 : ps_cV RX8 218 mX8_layRest 0 8 := ⟨⟨(ps_tm 1165 (by decide +kernel)), cbX8_layRest⟩, ciX8_layRest⟩
theorem cvX8_221 : ps_cV RX8 221 mX8_best 0 8 := ⟨⟨(ps_tm 1169 (by decide +kernel)), cbX8_best⟩, ciX8_best⟩
theorem cvX8_224 : ps_cV RX8 224 mX8_layGone 0 8 := ⟨⟨(ps_tm 1181 (by decide +kernel)), cbX8_layGone⟩, ciX8_layGone⟩
theorem csX0_46 : ps_cS RX0 46 mX0_areUnlike 2 := ⟨⟨(ps_tm 293 (by decide +kernel)), cbX0_areUnlike⟩, ciX0_areUnlike⟩
theorem csX0_65 : ps_cS RX0 65 mX0_fill 3 := ⟨⟨(ps_tm 317 (by decide +kernel)), cbX0_fill⟩, ciX0_fill⟩
theorem csX0_83 : ps_cS RX0 83 mJ6_bitCount_0f7a4 1 := ⟨⟨(ps_tm 805 (by decide +kernel)), cbJ6_bitCount_0f7a4⟩, ciJ6_bitCount_0f7a4⟩
theorem csX1_58 : ps_cS RX1 58 mJ6_bitCount_0f7a4 1 := ⟨⟨(ps_tm 655 (by decide +kernel)), cbJ6_bitCount_0f7a4⟩, ciJ6_bitCount_0f7a4⟩
theorem csX3_50 : ps_cS RX3 50 mJ7_fill_53178 2 := ⟨⟨(ps_tm 451 (by decide +kernel)), cbJ7_fill_53178⟩, ciJ7_fill_53178⟩
theorem csX3_84 : ps_cS RX3 84 mX3_join 2 := ⟨⟨(ps_tm 446 (by decide +kernel)), cbX3_join⟩, ciX3_join⟩
theorem csX4_41 : ps_cS RX4 41 mJ7_fill_53178 2 := ⟨⟨(ps_tm 559 (by decide +kernel)), cbJ7_fill_53178⟩, ciJ7_fill_53178⟩
theorem csX4_60 : ps_cS RX4 60 mX4_formesAhead 2 := ⟨⟨(ps_tm 556 (by decide +kernel)), cbX4_formesAhead⟩, ciX4_formesAhead⟩
theorem csX4_64 : ps_cS RX4 64 mJ6_bitCount_0f7a4 1 := ⟨⟨(ps_tm 555 (by decide +kernel)), cbJ6_bitCount_0f7a4⟩, ciJ6_bitCount_0f7a4⟩
theorem csX4_84 : ps_cS RX4 84 mX4_lay 4 := ⟨⟨(ps_tm 578 (by decide +kernel)), cbX4_lay⟩, ciX4_lay⟩
theorem csX5_48 : ps_cS RX5 48 mJ7_fill_53178 2 := ⟨⟨(ps_tm 351 (by decide +kernel)), cbJ7_fill_53178⟩, ciJ7_fill_53178⟩
theorem csX5_67 : ps_cS RX5 67 mJ6_bitCount_0f7a4 1 := ⟨⟨(ps_tm 364 (by decide +kernel)), cbJ6_bitCount_0f7a4⟩, ciJ6_bitCount_0f7a4⟩
theorem csX6_24 : ps_cS RX6 24 mJ7_fill_53178 2 := ⟨⟨(ps_tm 127 (by decide +kernel)), cbJ7_fill_53178⟩, ciJ7_fill_53178⟩
theorem csX6_44 : ps_cS RX6 44 mX6_formesWith 2 := ⟨⟨(ps_tm 504 (by decide +kernel)), cbX6_formesWith⟩, ciX6_formesWith⟩
theorem csX7_144 : ps_cS RX7 144 mX7_isDays 1 := ⟨⟨(ps_tm 540 (by decide +kernel)), cbX7_isDays⟩, ciX7_isDays⟩
theorem csX7_224 : ps_cS RX7 224 mJ6_bitCount_0f7a4 1 := ⟨⟨(ps_tm 806 (by decide +kernel)), cbJ6_bitCount_0f7a4⟩, ciJ6_bitCount_0f7a4⟩
theorem csX7_58 : ps_cS RX7 58 mX7_isCopy 1 := ⟨⟨(ps_tm 269 (by decide +kernel)), cbX7_isCopy⟩, ciX7_isCopy⟩
theorem csX7_62 : ps_cS RX7 62 mX7_isForme 1 := ⟨⟨(ps_tm 275 (by decide +kernel)), cbX7_isForme⟩, ciX7_isForme⟩
theorem csX7_65 : ps_cS RX7 65 mX7_within 2 := ⟨⟨(ps_tm 272 (by decide +kernel)), cbX7_within⟩, ciX7_within⟩
theorem csX8_105 : ps_cS RX8 105 mX8_isCopy 1 := ⟨⟨(ps_tm 915 (by decide +kernel)), cbX8_isCopy⟩, ciX8_isCopy⟩
theorem csX8_109 : ps_cS RX8 109 mX8_isForme 1 := ⟨⟨(ps_tm 922 (by decide +kernel)), cbX8_isForme⟩, ciX8_isForme⟩
theorem csX8_99 : ps_cS RX8 99 mX8_in 3 := ⟨⟨(ps_tm 919 (by decide +kernel)), cbX8_in⟩, ciX8_in⟩
end
section
/-! ===== what the small methods answer ===== -/
def jbIn (v a b : Int64) : Int32 := if a ≤ v ∧ v ≤ b then 1 else 0
def jbWi (v n : Int32) : Int32 := if v < 0 then 0 else if n ≤ v then 0 else 1
def jbDays (v : Int32) : Int32 := if v < 1 then 0 else if 6 < v then 0 else 1
def jbUn (x y : Int32) : Int32 := if x = -900009 then 0 else if y = -900009 then 0 else if x = y then 0 else 1
def jbP1 (x : Int32) : Int32 := x - ((x.toUInt32 >>> ((1 : Int32).toUInt32 &&& Int32.toUInt32 31)).toInt32 &&& 1431655765)
def jbP2 (x : Int32) : Int32 := (x &&& 858993459) + ((x.toUInt32 >>> ((2 : Int32).toUInt32 &&& Int32.toUInt32 31)).toInt32 &&& 858993459)
def jbP3 (x : Int32) : Int32 := (x + (x.toUInt32 >>> ((4 : Int32).toUInt32 &&& Int32.toUInt32 31)).toInt32) &&& 252645135
def jbP4 (x : Int32) : Int32 := x + (x.toUInt32 >>> ((8 : Int32).toUInt32 &&& Int32.toUInt32 31)).toInt32
def jbP5 (x : Int32) : Int32 := x + (x.toUInt32 >>> ((16 : Int32).toUInt32 &&& Int32.toUInt32 31)).toInt32
/-- Integer.bitCount, as its code has it -/
def jbPop (x : Int32) : Int32 := jbP5 (jbP4 (jbP3 (jbP2 (jbP1 x)))) &&& 63
theorem ps_bitI (v a b : Int64) : jbIn v a b = 0 ∨ jbIn v a b = 1 := by unfold jbIn; split <;> simp
theorem ps_bitW (v n : Int32) : jbWi v n = 0 ∨ jbWi v n = 1 := by unfold jbWi; split <;> (try split) <;> simp
set_option maxHeartbeats 4000000 in
set_option maxRecDepth 100000 in
/-- in(v, a, b) of the reference: whether v lies from a to b -/
theorem pX8_in {d : Nat} {Q : Option ps_V → ps_S → Prop} {x y z : Int64} {σ : ps_S} (hq : Q (some (.inl (jbIn x y z))) σ) : ps_C mX8_in d [.inr (.inl x), .inr (.inl y), .inr (.inl z)] σ Q := by
  intro hav G l
  refine Met.ofW (cc := cX8_in) (maxL := 6) (ret := some .boolean) (by decide) rfl ?_
  intro p e s m args below meth c s₁ B hml hv
  obtain ⟨rfl, hP, hK, hD, hN⟩ := hv
  have hx := B.exec
  have hb := B.bytes
  have hr := B.returns
  have hlocks := B.notSynchronized
  have hl := lv_entry ([.long x, .long y, .long z]) (n := 6) (Nat.le_of_ble_eq_true rfl)
  show W p l e _ s m _ below meth c s.heap [] 0 0 _ (entryFrame m ([.long x, .long y, .long z] : List Value).toArray 6)
  rw [lg_entry_eq]
  generalize (lg_sl ([.long x, .long y, .long z]) ++ List.replicate (6 - (lg_sl ([.long x, .long y, .long z])).length) Slot.unset).toArray = ls at hl ⊢
  have hl : lv_has ls 6 [(0, .long x), (2, .long y), (4, .long z)] := hl
  have hS : va_S (ps_A G) s.heap s.heap [] := va_S.rf
  have fin : ∀ v : Int32, (v = 0 ∨ v = 1) → v = jbIn x y z → W p l e (headSpec (ps_words mX8_in) (ps_rm d)).room s m ((List.map (ps_cv G) [.inr (.inl x), .inr (.inl y), .inr (.inl z)]).toArray) below meth c s.heap [] 0 0 (MQ below (ps_Qc G Q) ((List.map (ps_cv G) [.inr (.inl x), .inr (.inl y), .inr (.inl z)]).toArray) s 0 0 (ps_A G)) (F0 m 18 ls [.int v]) := by
    intro v hv1 hv2
    subst hv2
    exact W.zret (v := jbIn x y z) hx hb hr (ps_bit_n hv1) (fun t ht hW => ⟨⟨some (.inl (jbIn x y z)), σ, rfl, fun v hv => (by cases hv; exact trivial), hq, by rw [ht]; exact hP⟩, hS.F ht⟩) hS.2.2 (ps_at tX8_in_ok 11 rfl) hlocks
  refine lv_lload_n hx hb (ps_at tX8_in_ok 0 rfl) rfl (lv_at hl 0 rfl) ?_
  refine lv_lload_n hx hb (ps_at tX8_in_ok 1 rfl) rfl (lv_at hl 1 rfl) ?_
  refine W.lcmp hx hb (ps_at tX8_in_ok 2 rfl) ?_
  have e1 : ∀ a b : Int64, lg_cmp a b < 0 ↔ ¬ b ≤ a := fun a b => by
    rw [← lg_cmp_ge]; exact Int32.not_le.symm
  refine lv_if_lt (tgt := 17) hx hb (ps_at tX8_in_ok 3 rfl) (by decide) (fun c1 => ?_) (fun c1 => ?_)
  · refine lv_iconst (v := 0) hx hb (ps_at tX8_in_ok 10 rfl) (by decide) ?_
    refine fin 0 (Or.inl rfl) ?_
    unfold jbIn
    rw [if_neg (fun h => (e1 x y).mp c1 h.1)]
  · have h1 : y ≤ x := Classical.not_not.mp (fun h => c1 ((e1 x y).mpr h))
    refine lv_lload_n hx hb (ps_at tX8_in_ok 4 rfl) rfl (lv_at hl 0 rfl) ?_
    refine lv_lload hx hb (ps_at tX8_in_ok 5 rfl) (lv_at hl 2 rfl) ?_
    refine W.lcmp hx hb (ps_at tX8_in_ok 6 rfl) ?_
    have e2 : 0 < lg_cmp x z ↔ ¬ x ≤ z := by
      unfold lg_cmp
      by_cases q : x > z
      · rw [if_pos q]; exact ⟨fun _ h => absurd q (Int64.not_lt.mpr h), fun _ => by decide⟩
      · rw [if_neg q]
        have q2 : x ≤ z := Int64.not_lt.mp q
        by_cases q3 : x = z
        · rw [if_pos q3]; exact ⟨fun h => absurd h (by decide), fun h => absurd q2 h⟩
        · rw [if_neg q3]; exact ⟨fun h => absurd h (by decide), fun h => absurd q2 h⟩
    refine lv_if_gt (tgt := 17) hx hb (ps_at tX8_in_ok 7 rfl) (by decide) (fun c2 => ?_) (fun c2 => ?_)
    · refine lv_iconst (v := 0) hx hb (ps_at tX8_in_ok 10 rfl) (by decide) ?_
      refine fin 0 (Or.inl rfl) ?_
      unfold jbIn
      rw [if_neg (fun h => e2.mp c2 h.2)]
    · have h2 : x ≤ z := Classical.not_not.mp (fun h => c2 (e2.mpr h))
      refine lv_iconst (v := 1) hx hb (ps_at tX8_in_ok 8 rfl) (by decide) ?_
      refine lv_goto (tgt := 18) hx hb (ps_at tX8_in_ok 9 rfl) (by decide) ?_
      refine fin 1 (Or.inr rfl) ?_
      unfold jbIn
      rw [if_pos ⟨h1, h2⟩]
end
section
/-! ===== printed by wip/whole/gen.py: answers of methods without loops, as functions ===== -/
def jX0_tellsAheadOf (σ : ps_S) (i0 : Nat) (v1 : Int32) (v2 : Int32) : Int32 := if ((σ 6 i0 v1.toNatClampNeg) &&& (σ 8 i0 v2.toNatClampNeg)) = 0 then 0 else 1
def jX1_heapCount (σ : ps_S) (v1 : Int32) : Int32 := (((σ 33 0 v1.toNatClampNeg) + (σ 30 0 3)) - 1) / (σ 30 0 3)
def jX1_heapEnd (σ : ps_S) (v1 : Int32) (v2 : Int32) : Int32 := jbMin ((v2 + 1) * (σ 30 0 3)) (σ 33 0 v1.toNatClampNeg)
def jX1_kindIn (σ : ps_S) (v1 : Int32) (v2 : Int32) (v3 : Int32) : Int32 := if v2 < (σ 33 0 v1.toNatClampNeg) then (if v3 = 0 then (σ 32 v1.toNatClampNeg (((jX1_heapEnd σ v1 (v2 / (σ 30 0 3))) - 1) - (v2 - ((v2 / (σ 30 0 3)) * (σ 30 0 3)))).toNatClampNeg) else (σ 32 v1.toNatClampNeg v2.toNatClampNeg)) else (-900009)
def jX2_isBest (σ : ps_S) (v1 : Int32) (v2 : Int32) : Int32 := if ¬ ((σ 44 v1.toNatClampNeg v2.toNatClampNeg) + (σ 46 v1.toNatClampNeg v2.toNatClampNeg)) = (σ 36 0 9) then 0 else 1
def jX2_changeOf (σ : ps_S) (v1 : Int32) (v2 : Int32) : Int32 := if ¬ v1 = v2 then (σ 36 0 4) else 0
def jX2_costThrough (σ : ps_S) (v1 : Int32) (v2 : Int32) (v3 : Int32) : Int32 := ((jX2_changeOf σ v2 v3) + (σ 42 ((v1 + 1).toNatClampNeg) v3.toNatClampNeg)) + (σ 46 ((v1 + 1).toNatClampNeg) v3.toNatClampNeg)
def jX3_mayCome (σ : ps_S) (v1 : Int32) (v2 : Int32) : Int32 := if ¬ ((v1 >>> (v2 &&& 31)) &&& 1) = 0 then 0 else (if ¬ ((σ 18 0 v2.toNatClampNeg) &&& (v1 ^^^ (-1))) = 0 then 0 else 1)
def jX3_restThrough (σ : ps_S) (v1 : Int32) (v2 : Int32) (v3 : Int32) : Int32 := if (σ 16 0 (((v1 ||| ((1 : Int32) <<< (v3 &&& 31))) * 9) + v3).toNatClampNeg) = (-1) then (σ 16 0 (((v1 ||| ((1 : Int32) <<< (v3 &&& 31))) * 9) + v3).toNatClampNeg) else (if ¬ v2 = (-900009) then ((σ 16 0 (((v1 ||| ((1 : Int32) <<< (v3 &&& 31))) * 9) + v3).toNatClampNeg) + ((σ 17 0 ((v2 * 9) + v3).toNatClampNeg) * 1048576)) else (σ 16 0 (((v1 ||| ((1 : Int32) <<< (v3 &&& 31))) * 9) + v3).toNatClampNeg))
def jX3_join (σ : ps_S) (v0 : Int32) (v1 : Int32) : Int32 := if v0 = (-1) then (jbMax v0 v1) else (if ¬ v1 = (-1) then (if (v0 / 1048576) = (v1 / 1048576) then (v0 + (v1 - v1 / 1048576 * 1048576)) else (jbMin v0 v1)) else (jbMax v0 v1))
def jX4_hasRoom (σ : ps_S) (v2 : Int32) (v3 : Int32) : Int32 := if (σ 24 0 5) ≤ (jbPop (σ 29 0 v3.toNatClampNeg)) then 0 else (if ¬ ((σ 29 0 v3.toNatClampNeg) &&& (σ 22 0 v2.toNatClampNeg)) = 0 then 0 else 1)
def jX6_isTold (σ : ps_S) (v1 : Int32) : Int32 := if (((σ 19 0 3) >>> (v1 &&& 31)) &&& 1) = 0 then 0 else 1
def jX7_isMan (σ : ps_S) (v1 : Int32) : Int32 := jbWi v1 (σ 36 0 2)
def jX7_isPage (σ : ps_S) (v1 : Int32) : Int32 := jbWi v1 (σ 36 0 3)
def jX8_letterAt (σ : ps_S) (v1 : Int32) (v2 : Int32) (v3 : Int32) : Int32 := σ 51 0 (((54 * v1) + (6 * v2)) + v3).toNatClampNeg
def jX8_isNext (σ : ps_S) (v1 : Int32) (v2 : Int32) (v3 : Int32) : Int32 := if ¬ ((v1 >>> (v3 &&& 31)) &&& 1) = 0 then 0 else (if ¬ ((σ 59 0 v3.toNatClampNeg) &&& (v1 ^^^ (-1))) = 0 then 0 else (if ¬ ((σ 60 0 ((9 * v2) + v3).toNatClampNeg) + (σ 61 0 ((9 * (v1 ||| ((1 : Int32) <<< (v3 &&& 31)))) + v3).toNatClampNeg)) = (σ 61 0 ((9 * v1) + v2).toNatClampNeg) then 0 else 1))
def jX8_heaps (σ : ps_S) (v1 : Int32) : Int32 := (((σ 68 0 v1.toNatClampNeg) + (σ 50 0 20)) - 1) / (σ 50 0 20)
def jX8_heapEnd (σ : ps_S) (v1 : Int32) (v2 : Int32) : Int32 := if (σ 68 0 v1.toNatClampNeg) ≤ ((v2 * (σ 50 0 20)) + (σ 50 0 20)) then (σ 68 0 v1.toNatClampNeg) else ((v2 * (σ 50 0 20)) + (σ 50 0 20))
def jX8_kindIn (σ : ps_S) (v1 : Int32) (v2 : Int32) (v3 : Int32) : Int32 := if v3 = 0 then (σ 69 0 ((12 * v1) + (((((v2 / (σ 50 0 20)) * (σ 50 0 20)) + (jX8_heapEnd σ v1 (v2 / (σ 50 0 20)))) - 1) - v2)).toNatClampNeg) else (σ 69 0 ((12 * v1) + v2).toNatClampNeg)
def jX8_isMan (σ : ps_S) (v1 : Int32) : Int32 := jbIn v1.toInt64 0 (((σ 50 0 21) - 1).toInt64)
def jX8_isPage (σ : ps_S) (v1 : Int32) : Int32 := jbIn v1.toInt64 0 (((σ 50 0 22) - 1).toInt64)
end
section
/-! ===== words for what methods answer: truth as a number, sets as numbers, counts, sums; the class's (s..) and the reference's (m..) ===== -/
noncomputable def jbP (p : Prop) : Int32 := @ite _ p (Classical.propDecidable p) 1 0
noncomputable def jN (p : Prop) : Nat := @ite _ p (Classical.propDecidable p) 1 0
theorem jbP_t {p : Prop} (h : p) : jbP p = 1 := by unfold jbP; rw [if_pos h]
theorem jbP_f {p : Prop} (h : ¬ p) : jbP p = 0 := by unfold jbP; rw [if_neg h]
theorem jN_t {p : Prop} (h : p) : jN p = 1 := by unfold jN; rw [if_pos h]
theorem jN_f {p : Prop} (h : ¬ p) : jN p = 0 := by unfold jN; rw [if_neg h]
theorem ps_bitP (p : Prop) : jbP p = 0 ∨ jbP p = 1 := by
  by_cases h : p
  · exact Or.inr (jbP_t h)
  · exact Or.inl (jbP_f h)
/-- the set of those below n, as a number -/
noncomputable def mkN : Nat → (Nat → Prop) → Nat
  | 0, _ => 0
  | n + 1, P => mkN n P + jN (P n) * 2 ^ n
noncomputable def cntN : Nat → (Nat → Prop) → Nat
  | 0, _ => 0
  | n + 1, P => cntN n P + jN (P n)
def sumN : Nat → (Nat → Nat) → Nat
  | 0, _ => 0
  | n + 1, g => sumN n g + g n
def jSum : Nat → (Nat → Int32) → Int32
  | 0, _ => 0
  | n + 1, g => jSum n g + g n
def jOrs : Nat → (Nat → Int32) → Int32
  | 0, _ => 0
  | n + 1, g => jOrs n g ||| g n
/-- the first below n, from k on -/
noncomputable def fstN : Nat → Nat → (Nat → Prop) → Option Nat
  | 0, _, _ => none
  | n + 1, k, P => @ite _ (P k) (Classical.propDecidable _) (some k) (fstN n (k + 1) P)
-- the class's
def sAlk (σ : ps_S) (f a b : Nat) : Prop := ∀ p, p < 6 → jbUn (σ 5 (9 * f + a) p) (σ 5 (9 * f + b) p) = 0
def sLk (σ : ps_S) (f c : Nat) : Prop := ∃ p, p < 6 ∧ ¬ σ 5 (9 * f + c) p = -900009
noncomputable def sGl (σ : ps_S) (f : Nat) (s : Int32) (p : Nat) : Int32 := match fstN 9 0 (fun c => σ 9 f c = s ∧ ¬ σ 5 (9 * f + c) p = -900009) with
  | some c => σ 5 (9 * f + c) p
  | none => -900009
def sAh (σ : ps_S) (f : Nat) (s : Int32) : Int32 := jOrs 9 (fun a => if σ 9 f a = -900009 then 0 else if σ 9 f a = s then 0 else if jX0_tellsAheadOf σ f (nI a) s = 0 then 0 else 1 <<< (σ 9 f a &&& 31))
def sWa (σ : ps_S) (p m : Nat) : Int32 := jSum 6 (fun w => jSum 2 (fun fo => if σ 38 m w = -900009 then 0 else if σ 38 m w = nI fo then 0 else σ 40 p (2 * w + fo)))
-- the reference's
def mLk (σ : ps_S) (f c : Nat) : Prop := ∃ p, p < 6 ∧ ¬ σ 51 0 (54 * f + 6 * c + p) = -900009
def mAlk (σ : ps_S) (f a b : Nat) : Prop := ∀ p, p < 6 → jbUn (σ 51 0 (54 * f + 6 * a + p)) (σ 51 0 (54 * f + 6 * b + p)) = 0
noncomputable def mGl (σ : ps_S) (f : Nat) (s : Int32) (p : Nat) : Int32 := match fstN 9 0 (fun c => σ 53 0 c = s ∧ ¬ σ 51 0 (54 * f + 6 * c + p) = -900009) with
  | some c => σ 51 0 (54 * f + 6 * c + p)
  | none => -900009
def mSh (σ : ps_S) (a b : Nat) : Prop := ∃ p, p < 16 ∧ ¬ σ 63 0 (6 * p + a) = -900009 ∧ ¬ σ 63 0 (6 * p + b) = -900009
def mHab (σ : ps_S) (m : Nat) : Prop := ∀ w, w < 6 → σ 74 0 (6 * m + w) = -900009 ∨ σ 74 0 (6 * m + w) = 0 ∨ σ 74 0 (6 * m + w) = 1
def mWa (σ : ps_S) (p m : Nat) : Int32 := jSum 6 (fun w => if σ 74 0 (6 * m + w) = -900009 then 0 else if σ 74 0 (6 * m + w) = 0 then σ 75 0 (12 * p + 2 * w + 1) else σ 75 0 (12 * p + 2 * w))
def mMin : Nat → (Nat → Int32) → Int32 → Int32
  | 0, _, b => b
  | n + 1, g, b => if g n < mMin n g b then g n else mMin n g b
def mBest (σ : ps_S) : Int32 := mMin (σ 50 0 21).toNatClampNeg (fun m => σ 77 0 m) 100000000
-- loops: their counters
theorem lpN {N j : Nat} {p : Prop} (h : j < N) (hN : N < 2 ^ 31) : nI N ≤ nI j → p := fun c => absurd c (nI_ge h hN)
theorem lpX {N : Nat} {p : Prop} (hN : N < 2 ^ 31) : ¬ nI N ≤ nI N → p := fun c => absurd (nI_le (Nat.le_refl N) hN) c
theorem nx_or (a b : Nat) : nI a ||| nI b = nI (a ||| b) := by
  apply Int32.toBitVec_inj.1
  show BitVec.ofNat 32 a ||| BitVec.ofNat 32 b = BitVec.ofNat 32 (a ||| b)
  apply BitVec.eq_of_getLsbD_eq
  intro i hi
  simp [hi]
theorem nx_sh1 : ∀ j, j < 31 → (1 : Int32) <<< (nI j &&& 31) = nI (2 ^ j) := by decide +kernel
theorem mkN_lt (P : Nat → Prop) : ∀ n, mkN n P < 2 ^ n
  | 0 => Nat.one_pos
  | n + 1 => by
    have h := mkN_lt P n
    have h2 : jN (P n) ≤ 1 := by
      by_cases hp : P n
      · rw [jN_t hp]; omega
      · rw [jN_f hp]; omega
    show mkN n P + jN (P n) * 2 ^ n < 2 ^ (n + 1)
    have h3 : jN (P n) * 2 ^ n ≤ 1 * 2 ^ n := Nat.mul_le_mul_right _ h2
    rw [Nat.pow_succ]
    omega
theorem mk_or {a j : Nat} (hj : j < 31) (ha : a < 2 ^ j) : nI a ||| ((1 : Int32) <<< (nI j &&& 31)) = nI (a + 2 ^ j) := by
  rw [nx_sh1 j hj, nx_or, Nat.or_comm]
  have h := Nat.two_pow_add_eq_or_of_lt ha 1
  rw [Nat.mul_one] at h
  rw [← h, Nat.add_comm]
theorem mk_t {P : Nat → Prop} {j : Nat} (hj : j < 31) (h : P j) : nI (mkN j P) ||| ((1 : Int32) <<< (nI j &&& 31)) = nI (mkN (j + 1) P) := by
  rw [mk_or hj (mkN_lt P j)]
  show _ = nI (mkN j P + jN (P j) * 2 ^ j)
  rw [jN_t h, Nat.one_mul]
theorem mk_f {P : Nat → Prop} {j : Nat} (h : ¬ P j) : nI (mkN j P) = nI (mkN (j + 1) P) := by
  show _ = nI (mkN j P + jN (P j) * 2 ^ j)
  rw [jN_f h, Nat.zero_mul, Nat.add_zero]
theorem cn_t {P : Nat → Prop} {j : Nat} (h : P j) : nI (cntN j P) + 1 = nI (cntN (j + 1) P) := by
  show _ = nI (cntN j P + jN (P j))
  rw [jN_t h, nI_1]
theorem cn_f {P : Nat → Prop} {j : Nat} (h : ¬ P j) : nI (cntN j P) = nI (cntN (j + 1) P) := by
  show _ = nI (cntN j P + jN (P j))
  rw [jN_f h, Nat.add_zero]
theorem fst_t {P : Nat → Prop} {n k : Nat} (h : P k) : fstN (n + 1) k P = some k := by
  show @ite _ (P k) (Classical.propDecidable _) (some k) (fstN n (k + 1) P) = some k
  rw [if_pos h]
theorem fst_f {P : Nat → Prop} {n k : Nat} (h : ¬ P k) : fstN (n + 1) k P = fstN n (k + 1) P := by
  show @ite _ (P k) (Classical.propDecidable _) (some k) (fstN n (k + 1) P) = _
  rw [if_neg h]
theorem jbP_0 {p : Prop} : jbP p = 0 ↔ ¬ p := by
  by_cases h : p
  · rw [jbP_t h]; exact ⟨fun e => absurd e (by decide), fun e => absurd h e⟩
  · rw [jbP_f h]; exact ⟨fun _ => h, fun _ => rfl⟩
theorem jbUn_0 {x y : Int32} : jbUn x y = 0 ↔ (x = -900009 ∨ y = -900009 ∨ x = y) := by
  unfold jbUn
  by_cases h1 : x = -900009
  · simp [h1]
  · by_cases h2 : y = -900009
    · simp [h1, h2]
    · by_cases h3 : x = y
      · simp [h3]
      · simp [h1, h2, h3]
/-- the reference's place of a letter -/
theorem ix_let {f c p : Nat} (hf : f < 6) (hc : c < 9) (hp : p < 6) : ((54 * nI f) + (6 * nI c)) + nI p = nI (54 * f + 6 * c + p) := by
  have h1 : (54 : Int32) * nI f = nI (54 * f) := (Int32.ofNat_mul 54 f).symm
  have h2 : (6 : Int32) * nI c = nI (6 * c) := (Int32.ofNat_mul 6 c).symm
  rw [h1, h2, nI_add, nI_add]
theorem ix_mul (a b : Nat) : nI a * nI b = nI (a * b) := (Int32.ofNat_mul a b).symm
end
section
/-! ===== printed by wip/whole/gen.py: block rows ===== -/
abbrev kJ7_fill_53178_0 (d : Nat) (Q : Option ps_V → ps_S → Prop) (g : Nat) (i0 : Nat) (v1 : Int32) (σ : ps_S) : Prop := ps_K mJ7_fill_53178 d (ps_QF Q) 0 [some (.inr (.inr (g, i0))), some (.inl v1), none, none] [] σ
abbrev kJ7_fill_53178_5 (d : Nat) (Q : Option ps_V → ps_S → Prop) (g : Nat) (i0 : Nat) (v1 : Int32) (v2 : Int32) (v3 : Int32) (σ : ps_S) : Prop := ps_K mJ7_fill_53178 d (ps_QF Q) 5 [some (.inr (.inr (g, i0))), some (.inl v1), some (.inl v2), some (.inl v3)] [] σ
theorem bJ7_fill_53178_0 {d : Nat} {Q : Option ps_V → ps_S → Prop} {i0 : Nat} {v1 : Int32} {σ : ps_S} {g n : Nat} (hs : (ps_sh g).2 = .inr (0, n, none)) (hn : n ≠ 0) (h1 : kJ7_fill_53178_5 d Q g i0 v1 0 (Int32.ofNat n) σ) : kJ7_fill_53178_0 d Q g i0 v1 σ := by
  refine ps_iconst (x := 0) (ps_at tJ7_fill_53178_ok 0 rfl) (by decide) ?_
  refine ps_istore_n (L' := [some (.inr (.inr (g, i0))), some (.inl v1), some (.inl 0), none]) (ps_at tJ7_fill_53178_ok 1 rfl) rfl (by decide) rfl ?_
  refine ps_aload_n (ps_at tJ7_fill_53178_ok 2 rfl) rfl rfl ?_
  refine ps_alen (ps_at tJ7_fill_53178_ok 3 rfl) hs hn rfl ?_
  refine ps_istore_n (L' := [some (.inr (.inr (g, i0))), some (.inl v1), some (.inl 0), some (.inl (Int32.ofNat n))]) (ps_at tJ7_fill_53178_ok 4 rfl) rfl (by decide) rfl ?_
  exact h1
theorem bJ7_fill_53178_5 {d : Nat} {Q : Option ps_V → ps_S → Prop} {i0 : Nat} {v1 : Int32} {v2 : Int32} {v3 : Int32} {σ : ps_S} {g n : Nat} (hs : (ps_sh g).2 = .inr (0, n, none)) (hn : n ≠ 0) (h1 : v3 ≤ v2 → Q none σ) (h2 : ¬ v3 ≤ v2 → vp_in v2 n) (h3 : ¬ v3 ≤ v2 → kJ7_fill_53178_5 d Q g i0 v1 (v2 + 1) v3 (ps_up σ g i0 v2.toNatClampNeg v1)) : kJ7_fill_53178_5 d Q g i0 v1 v2 v3 σ := by
  refine ps_iload_n (ps_at tJ7_fill_53178_ok 5 rfl) rfl rfl ?_
  refine ps_iload_n (ps_at tJ7_fill_53178_ok 6 rfl) rfl rfl ?_
  refine ps_icmp_ge (tgt := 20) (ps_at tJ7_fill_53178_ok 7 rfl) (by decide) (fun c0 => ?_) (fun c0 => ?_)
  · skip
    exact ps_vret (ps_at tJ7_fill_53178_ok 14 rfl) rfl ⟨rfl, rfl⟩ (h1 c0)
  · skip
    refine ps_aload_n (ps_at tJ7_fill_53178_ok 8 rfl) rfl rfl ?_
    refine ps_iload_n (ps_at tJ7_fill_53178_ok 9 rfl) rfl rfl ?_
    refine ps_iload_n (ps_at tJ7_fill_53178_ok 10 rfl) rfl rfl ?_
    refine ps_iast (ps_at tJ7_fill_53178_ok 11 rfl) hs (h2 c0) ?_
    refine ps_iinc (L' := [some (.inr (.inr (g, i0))), some (.inl v1), some (.inl (v2 + 1)), some (.inl v3)]) (y := 1) (ps_at tJ7_fill_53178_ok 12 rfl) rfl (by decide) (by decide) rfl ?_
    refine ps_goto (tgt := 5) (ps_at tJ7_fill_53178_ok 13 rfl) (by decide) ?_
    exact h3 c0
theorem eJ7_fill_53178 {d : Nat} {Q : Option ps_V → ps_S → Prop} {g : Nat} {i0 : Nat} {v1 : Int32} {σ : ps_S} (h : kJ7_fill_53178_0 d Q g i0 v1 σ) : ps_C mJ7_fill_53178 d [.inr (.inr (g, i0)), .inl v1] σ Q := ps_enter (by decide) rfl ⟨rfl, rfl, rfl⟩ rfl (Nat.le_of_ble_eq_true rfl) h
abbrev kJ6_bitCount_0f7a4_0 (d : Nat) (Q : Option ps_V → ps_S → Prop) (v0 : Int32) (σ : ps_S) : Prop := ps_K mJ6_bitCount_0f7a4 d (ps_QF Q) 0 [some (.inl v0)] [] σ
theorem bJ6_bitCount_0f7a4_0 {d : Nat} {Q : Option ps_V → ps_S → Prop} {v0 : Int32} {σ : ps_S} (h1 : Q (some (.inl ((((((((v0 - (((v0.toUInt32 >>> ((1 : Int32).toUInt32 &&& Int32.toUInt32 31)).toInt32) &&& 1431655765)) &&& 858993459) + ((((v0 - (((v0.toUInt32 >>> ((1 : Int32).toUInt32 &&& Int32.toUInt32 31)).toInt32) &&& 1431655765)).toUInt32 >>> ((2 : Int32).toUInt32 &&& Int32.toUInt32 31)).toInt32) &&& 858993459)) + (((((v0 - (((v0.toUInt32 >>> ((1 : Int32).toUInt32 &&& Int32.toUInt32 31)).toInt32) &&& 1431655765)) &&& 858993459) + ((((v0 - (((v0.toUInt32 >>> ((1 : Int32).toUInt32 &&& Int32.toUInt32 31)).toInt32) &&& 1431655765)).toUInt32 >>> ((2 : Int32).toUInt32 &&& Int32.toUInt32 31)).toInt32) &&& 858993459)).toUInt32 >>> ((4 : Int32).toUInt32 &&& Int32.toUInt32 31)).toInt32)) &&& 252645135) + (((((((v0 - (((v0.toUInt32 >>> ((1 : Int32).toUInt32 &&& Int32.toUInt32 31)).toInt32) &&& 1431655765)) &&& 858993459) + ((((v0 - (((v0.toUInt32 >>> ((1 : Int32).toUInt32 &&& Int32.toUInt32 31)).toInt32) &&& 1431655765)).toUInt32 >>> ((2 : Int32).toUInt32 &&& Int32.toUInt32 31)).toInt32) &&& 858993459)) + (((((v0 - (((v0.toUInt32 >>> ((1 : Int32).toUInt32 &&& Int32.toUInt32 31)).toInt32) &&& 1431655765)) &&& 858993459) + ((((v0 - (((v0.toUInt32 >>> ((1 : Int32).toUInt32 &&& Int32.toUInt32 31)).toInt32) &&& 1431655765)).toUInt32 >>> ((2 : Int32).toUInt32 &&& Int32.toUInt32 31)).toInt32) &&& 858993459)).toUInt32 >>> ((4 : Int32).toUInt32 &&& Int32.toUInt32 31)).toInt32)) &&& 252645135).toUInt32 >>> ((8 : Int32).toUInt32 &&& Int32.toUInt32 31)).toInt32)) + ((((((((v0 - (((v0.toUInt32 >>> ((1 : Int32).toUInt32 &&& Int32.toUInt32 31)).toInt32) &&& 1431655765)) &&& 858993459) + ((((v0 - (((v0.toUInt32 >>> ((1 : Int32).toUInt32 &&& Int32.toUInt32 31)).toInt32) &&& 1431655765)).toUInt32 >>> ((2 : Int32).toUInt32 &&& Int32.toUInt32 31)).toInt32) &&& 858993459)) + (((((v0 - (((v0.toUInt32 >>> ((1 : Int32).toUInt32 &&& Int32.toUInt32 31)).toInt32) &&& 1431655765)) &&& 858993459) + ((((v0 - (((v0.toUInt32 >>> ((1 : Int32).toUInt32 &&& Int32.toUInt32 31)).toInt32) &&& 1431655765)).toUInt32 >>> ((2 : Int32).toUInt32 &&& Int32.toUInt32 31)).toInt32) &&& 858993459)).toUInt32 >>> ((4 : Int32).toUInt32 &&& Int32.toUInt32 31)).toInt32)) &&& 252645135) + (((((((v0 - (((v0.toUInt32 >>> ((1 : Int32).toUInt32 &&& Int32.toUInt32 31)).toInt32) &&& 1431655765)) &&& 858993459) + ((((v0 - (((v0.toUInt32 >>> ((1 : Int32).toUInt32 &&& Int32.toUInt32 31)).toInt32) &&& 1431655765)).toUInt32 >>> ((2 : Int32).toUInt32 &&& Int32.toUInt32 31)).toInt32) &&& 858993459)) + (((((v0 - (((v0.toUInt32 >>> ((1 : Int32).toUInt32 &&& Int32.toUInt32 31)).toInt32) &&& 1431655765)) &&& 858993459) + ((((v0 - (((v0.toUInt32 >>> ((1 : Int32).toUInt32 &&& Int32.toUInt32 31)).toInt32) &&& 1431655765)).toUInt32 >>> ((2 : Int32).toUInt32 &&& Int32.toUInt32 31)).toInt32) &&& 858993459)).toUInt32 >>> ((4 : Int32).toUInt32 &&& Int32.toUInt32 31)).toInt32)) &&& 252645135).toUInt32 >>> ((8 : Int32).toUInt32 &&& Int32.toUInt32 31)).toInt32)).toUInt32 >>> ((16 : Int32).toUInt32 &&& Int32.toUInt32 31)).toInt32)) &&& 63))) σ) : kJ6_bitCount_0f7a4_0 d Q v0 σ := by
  refine ps_iload_n (ps_at tJ6_bitCount_0f7a4_ok 0 rfl) rfl rfl ?_
  refine ps_iload_n (ps_at tJ6_bitCount_0f7a4_ok 1 rfl) rfl rfl ?_
  refine ps_iconst (x := 1) (ps_at tJ6_bitCount_0f7a4_ok 2 rfl) (by decide) ?_
  refine ps_iushr (ps_at tJ6_bitCount_0f7a4_ok 3 rfl) ?_
  refine ps_ldcw (ps_at tJ6_bitCount_0f7a4_ok 4 rfl) cnJ6_265 ?_
  refine ps_iand (ps_at tJ6_bitCount_0f7a4_ok 5 rfl) ?_
  refine ps_isub (ps_at tJ6_bitCount_0f7a4_ok 6 rfl) ?_
  refine ps_istore_n (L' := [some (.inl (v0 - (((v0.toUInt32 >>> ((1 : Int32).toUInt32 &&& Int32.toUInt32 31)).toInt32) &&& 1431655765)))]) (ps_at tJ6_bitCount_0f7a4_ok 7 rfl) rfl (by decide) rfl ?_
  refine ps_iload_n (ps_at tJ6_bitCount_0f7a4_ok 8 rfl) rfl rfl ?_
  refine ps_ldcw (ps_at tJ6_bitCount_0f7a4_ok 9 rfl) cnJ6_266 ?_
  refine ps_iand (ps_at tJ6_bitCount_0f7a4_ok 10 rfl) ?_
  refine ps_iload_n (ps_at tJ6_bitCount_0f7a4_ok 11 rfl) rfl rfl ?_
  refine ps_iconst (x := 2) (ps_at tJ6_bitCount_0f7a4_ok 12 rfl) (by decide) ?_
  refine ps_iushr (ps_at tJ6_bitCount_0f7a4_ok 13 rfl) ?_
  refine ps_ldcw (ps_at tJ6_bitCount_0f7a4_ok 14 rfl) cnJ6_266 ?_
  refine ps_iand (ps_at tJ6_bitCount_0f7a4_ok 15 rfl) ?_
  refine ps_iadd (ps_at tJ6_bitCount_0f7a4_ok 16 rfl) ?_
  refine ps_istore_n (L' := [some (.inl (((v0 - (((v0.toUInt32 >>> ((1 : Int32).toUInt32 &&& Int32.toUInt32 31)).toInt32) &&& 1431655765)) &&& 858993459) + ((((v0 - (((v0.toUInt32 >>> ((1 : Int32).toUInt32 &&& Int32.toUInt32 31)).toInt32) &&& 1431655765)).toUInt32 >>> ((2 : Int32).toUInt32 &&& Int32.toUInt32 31)).toInt32) &&& 858993459)))]) (ps_at tJ6_bitCount_0f7a4_ok 17 rfl) rfl (by decide) rfl ?_
  refine ps_iload_n (ps_at tJ6_bitCount_0f7a4_ok 18 rfl) rfl rfl ?_
  refine ps_iload_n (ps_at tJ6_bitCount_0f7a4_ok 19 rfl) rfl rfl ?_
  refine ps_iconst (x := 4) (ps_at tJ6_bitCount_0f7a4_ok 20 rfl) (by decide) ?_
  refine ps_iushr (ps_at tJ6_bitCount_0f7a4_ok 21 rfl) ?_
  refine ps_iadd (ps_at tJ6_bitCount_0f7a4_ok 22 rfl) ?_
  refine ps_ldcw (ps_at tJ6_bitCount_0f7a4_ok 23 rfl) cnJ6_267 ?_
  refine ps_iand (ps_at tJ6_bitCount_0f7a4_ok 24 rfl) ?_
  refine ps_istore_n (L' := [some (.inl (((((v0 - (((v0.toUInt32 >>> ((1 : Int32).toUInt32 &&& Int32.toUInt32 31)).toInt32) &&& 1431655765)) &&& 858993459) + ((((v0 - (((v0.toUInt32 >>> ((1 : Int32).toUInt32 &&& Int32.toUInt32 31)).toInt32) &&& 1431655765)).toUInt32 >>> ((2 : Int32).toUInt32 &&& Int32.toUInt32 31)).toInt32) &&& 858993459)) + (((((v0 - (((v0.toUInt32 >>> ((1 : Int32).toUInt32 &&& Int32.toUInt32 31)).toInt32) &&& 1431655765)) &&& 858993459) + ((((v0 - (((v0.toUInt32 >>> ((1 : Int32).toUInt32 &&& Int32.toUInt32 31)).toInt32) &&& 1431655765)).toUInt32 >>> ((2 : Int32).toUInt32 &&& Int32.toUInt32 31)).toInt32) &&& 858993459)).toUInt32 >>> ((4 : Int32).toUInt32 &&& Int32.toUInt32 31)).toInt32)) &&& 252645135))]) (ps_at tJ6_bitCount_0f7a4_ok 25 rfl) rfl (by decide) rfl ?_
  refine ps_iload_n (ps_at tJ6_bitCount_0f7a4_ok 26 rfl) rfl rfl ?_
  refine ps_iload_n (ps_at tJ6_bitCount_0f7a4_ok 27 rfl) rfl rfl ?_
  refine ps_bipush (x := 8) (ps_at tJ6_bitCount_0f7a4_ok 28 rfl) (by decide) ?_
  refine ps_iushr (ps_at tJ6_bitCount_0f7a4_ok 29 rfl) ?_
  refine ps_iadd (ps_at tJ6_bitCount_0f7a4_ok 30 rfl) ?_
  refine ps_istore_n (L' := [some (.inl ((((((v0 - (((v0.toUInt32 >>> ((1 : Int32).toUInt32 &&& Int32.toUInt32 31)).toInt32) &&& 1431655765)) &&& 858993459) + ((((v0 - (((v0.toUInt32 >>> ((1 : Int32).toUInt32 &&& Int32.toUInt32 31)).toInt32) &&& 1431655765)).toUInt32 >>> ((2 : Int32).toUInt32 &&& Int32.toUInt32 31)).toInt32) &&& 858993459)) + (((((v0 - (((v0.toUInt32 >>> ((1 : Int32).toUInt32 &&& Int32.toUInt32 31)).toInt32) &&& 1431655765)) &&& 858993459) + ((((v0 - (((v0.toUInt32 >>> ((1 : Int32).toUInt32 &&& Int32.toUInt32 31)).toInt32) &&& 1431655765)).toUInt32 >>> ((2 : Int32).toUInt32 &&& Int32.toUInt32 31)).toInt32) &&& 858993459)).toUInt32 >>> ((4 : Int32).toUInt32 &&& Int32.toUInt32 31)).toInt32)) &&& 252645135) + (((((((v0 - (((v0.toUInt32 >>> ((1 : Int32).toUInt32 &&& Int32.toUInt32 31)).toInt32) &&& 1431655765)) &&& 858993459) + ((((v0 - (((v0.toUInt32 >>> ((1 : Int32).toUInt32 &&& Int32.toUInt32 31)).toInt32) &&& 1431655765)).toUInt32 >>> ((2 : Int32).toUInt32 &&& Int32.toUInt32 31)).toInt32) &&& 858993459)) + (((((v0 - (((v0.toUInt32 >>> ((1 : Int32).toUInt32 &&& Int32.toUInt32 31)).toInt32) &&& 1431655765)) &&& 858993459) + ((((v0 - (((v0.toUInt32 >>> ((1 : Int32).toUInt32 &&& Int32.toUInt32 31)).toInt32) &&& 1431655765)).toUInt32 >>> ((2 : Int32).toUInt32 &&& Int32.toUInt32 31)).toInt32) &&& 858993459)).toUInt32 >>> ((4 : Int32).toUInt32 &&& Int32.toUInt32 31)).toInt32)) &&& 252645135).toUInt32 >>> ((8 : Int32).toUInt32 &&& Int32.toUInt32 31)).toInt32)))]) (ps_at tJ6_bitCount_0f7a4_ok 31 rfl) rfl (by decide) rfl ?_
  refine ps_iload_n (ps_at tJ6_bitCount_0f7a4_ok 32 rfl) rfl rfl ?_
  refine ps_iload_n (ps_at tJ6_bitCount_0f7a4_ok 33 rfl) rfl rfl ?_
  refine ps_bipush (x := 16) (ps_at tJ6_bitCount_0f7a4_ok 34 rfl) (by decide) ?_
  refine ps_iushr (ps_at tJ6_bitCount_0f7a4_ok 35 rfl) ?_
  refine ps_iadd (ps_at tJ6_bitCount_0f7a4_ok 36 rfl) ?_
  refine ps_istore_n (L' := [some (.inl (((((((v0 - (((v0.toUInt32 >>> ((1 : Int32).toUInt32 &&& Int32.toUInt32 31)).toInt32) &&& 1431655765)) &&& 858993459) + ((((v0 - (((v0.toUInt32 >>> ((1 : Int32).toUInt32 &&& Int32.toUInt32 31)).toInt32) &&& 1431655765)).toUInt32 >>> ((2 : Int32).toUInt32 &&& Int32.toUInt32 31)).toInt32) &&& 858993459)) + (((((v0 - (((v0.toUInt32 >>> ((1 : Int32).toUInt32 &&& Int32.toUInt32 31)).toInt32) &&& 1431655765)) &&& 858993459) + ((((v0 - (((v0.toUInt32 >>> ((1 : Int32).toUInt32 &&& Int32.toUInt32 31)).toInt32) &&& 1431655765)).toUInt32 >>> ((2 : Int32).toUInt32 &&& Int32.toUInt32 31)).toInt32) &&& 858993459)).toUInt32 >>> ((4 : Int32).toUInt32 &&& Int32.toUInt32 31)).toInt32)) &&& 252645135) + (((((((v0 - (((v0.toUInt32 >>> ((1 : Int32).toUInt32 &&& Int32.toUInt32 31)).toInt32) &&& 1431655765)) &&& 858993459) + ((((v0 - (((v0.toUInt32 >>> ((1 : Int32).toUInt32 &&& Int32.toUInt32 31)).toInt32) &&& 1431655765)).toUInt32 >>> ((2 : Int32).toUInt32 &&& Int32.toUInt32 31)).toInt32) &&& 858993459)) + (((((v0 - (((v0.toUInt32 >>> ((1 : Int32).toUInt32 &&& Int32.toUInt32 31)).toInt32) &&& 1431655765)) &&& 858993459) + ((((v0 - (((v0.toUInt32 >>> ((1 : Int32).toUInt32 &&& Int32.toUInt32 31)).toInt32) &&& 1431655765)).toUInt32 >>> ((2 : Int32).toUInt32 &&& Int32.toUInt32 31)).toInt32) &&& 858993459)).toUInt32 >>> ((4 : Int32).toUInt32 &&& Int32.toUInt32 31)).toInt32)) &&& 252645135).toUInt32 >>> ((8 : Int32).toUInt32 &&& Int32.toUInt32 31)).toInt32)) + ((((((((v0 - (((v0.toUInt32 >>> ((1 : Int32).toUInt32 &&& Int32.toUInt32 31)).toInt32) &&& 1431655765)) &&& 858993459) + ((((v0 - (((v0.toUInt32 >>> ((1 : Int32).toUInt32 &&& Int32.toUInt32 31)).toInt32) &&& 1431655765)).toUInt32 >>> ((2 : Int32).toUInt32 &&& Int32.toUInt32 31)).toInt32) &&& 858993459)) + (((((v0 - (((v0.toUInt32 >>> ((1 : Int32).toUInt32 &&& Int32.toUInt32 31)).toInt32) &&& 1431655765)) &&& 858993459) + ((((v0 - (((v0.toUInt32 >>> ((1 : Int32).toUInt32 &&& Int32.toUInt32 31)).toInt32) &&& 1431655765)).toUInt32 >>> ((2 : Int32).toUInt32 &&& Int32.toUInt32 31)).toInt32) &&& 858993459)).toUInt32 >>> ((4 : Int32).toUInt32 &&& Int32.toUInt32 31)).toInt32)) &&& 252645135) + (((((((v0 - (((v0.toUInt32 >>> ((1 : Int32).toUInt32 &&& Int32.toUInt32 31)).toInt32) &&& 1431655765)) &&& 858993459) + ((((v0 - (((v0.toUInt32 >>> ((1 : Int32).toUInt32 &&& Int32.toUInt32 31)).toInt32) &&& 1431655765)).toUInt32 >>> ((2 : Int32).toUInt32 &&& Int32.toUInt32 31)).toInt32) &&& 858993459)) + (((((v0 - (((v0.toUInt32 >>> ((1 : Int32).toUInt32 &&& Int32.toUInt32 31)).toInt32) &&& 1431655765)) &&& 858993459) + ((((v0 - (((v0.toUInt32 >>> ((1 : Int32).toUInt32 &&& Int32.toUInt32 31)).toInt32) &&& 1431655765)).toUInt32 >>> ((2 : Int32).toUInt32 &&& Int32.toUInt32 31)).toInt32) &&& 858993459)).toUInt32 >>> ((4 : Int32).toUInt32 &&& Int32.toUInt32 31)).toInt32)) &&& 252645135).toUInt32 >>> ((8 : Int32).toUInt32 &&& Int32.toUInt32 31)).toInt32)).toUInt32 >>> ((16 : Int32).toUInt32 &&& Int32.toUInt32 31)).toInt32)))]) (ps_at tJ6_bitCount_0f7a4_ok 37 rfl) rfl (by decide) rfl ?_
  refine ps_iload_n (ps_at tJ6_bitCount_0f7a4_ok 38 rfl) rfl rfl ?_
  refine ps_bipush (x := 63) (ps_at tJ6_bitCount_0f7a4_ok 39 rfl) (by decide) ?_
  refine ps_iand (ps_at tJ6_bitCount_0f7a4_ok 40 rfl) ?_
  exact ps_iret (ps_at tJ6_bitCount_0f7a4_ok 41 rfl) rfl ⟨rfl, rfl⟩ (h1)
theorem eJ6_bitCount_0f7a4 {d : Nat} {Q : Option ps_V → ps_S → Prop} {v0 : Int32} {σ : ps_S} (h : kJ6_bitCount_0f7a4_0 d Q v0 σ) : ps_C mJ6_bitCount_0f7a4 d [.inl v0] σ Q := ps_enter (by decide) rfl ⟨rfl, rfl, rfl⟩ rfl (Nat.le_of_ble_eq_true rfl) h
theorem pJ6_bitCount_0f7a4 {d : Nat} {Q : Option ps_V → ps_S → Prop} {v0 : Int32} {σ : ps_S}  (hq : Q (some (.inl (jbPop v0))) σ) : ps_C mJ6_bitCount_0f7a4 d [.inl v0] σ Q := eJ6_bitCount_0f7a4 (bJ6_bitCount_0f7a4_0 hq)
abbrev kX8_isForme_0 (d : Nat) (Q : Option ps_V → ps_S → Prop) (v0 : Int32) (σ : ps_S) : Prop := ps_K mX8_isForme (d + 1) (ps_QF Q) 0 [some (.inl v0)] [] σ
theorem bX8_isForme_0 {d : Nat} {Q : Option ps_V → ps_S → Prop} {v0 : Int32} {σ : ps_S} (h1 : Q (some (.inl (jbIn v0.toInt64 0 5))) σ) : kX8_isForme_0 d Q v0 σ := by
  refine ps_iload_n (ps_at tX8_isForme_ok 0 rfl) rfl rfl ?_
  refine ps_i2l (ps_at tX8_isForme_ok 1 rfl) ?_
  refine ps_lconst (x := 0) (ps_at tX8_isForme_ok 2 rfl) (by decide) ?_
  refine ps_ldc2 (ps_at tX8_isForme_ok 3 rfl) clX8_97 ?_
  refine ps_callS (M2 := mX8_in) (av := [.inr (.inl v0.toInt64), .inr (.inl 0), .inr (.inl 5)]) (rest := []) (ps_at tX8_isForme_ok 4 rfl) csX8_99 rfl rfl (fun _ => Nat.le_of_ble_eq_true rfl) (pX8_in ?_)
  exact ps_zret (ps_at tX8_isForme_ok 5 rfl) rfl ⟨rfl, rfl⟩ (ps_bitI _ _ _) (h1)
theorem eX8_isForme {d : Nat} {Q : Option ps_V → ps_S → Prop} {v0 : Int32} {σ : ps_S} (h : kX8_isForme_0 d Q v0 σ) : ps_C mX8_isForme (d + 1) [.inl v0] σ Q := ps_enter (by decide) rfl ⟨rfl, rfl, rfl⟩ rfl (Nat.le_of_ble_eq_true rfl) h
theorem pX8_isForme {d : Nat} {Q : Option ps_V → ps_S → Prop} {v0 : Int32} {σ : ps_S}  (hq : Q (some (.inl (jbIn v0.toInt64 0 5))) σ) : ps_C mX8_isForme (d + 1) [.inl v0] σ Q := eX8_isForme (bX8_isForme_0 hq)
abbrev kX8_isCopy_0 (d : Nat) (Q : Option ps_V → ps_S → Prop) (v0 : Int32) (σ : ps_S) : Prop := ps_K mX8_isCopy (d + 1) (ps_QF Q) 0 [some (.inl v0)] [] σ
theorem bX8_isCopy_0 {d : Nat} {Q : Option ps_V → ps_S → Prop} {v0 : Int32} {σ : ps_S} (h1 : Q (some (.inl (jbIn v0.toInt64 0 8))) σ) : kX8_isCopy_0 d Q v0 σ := by
  refine ps_iload_n (ps_at tX8_isCopy_ok 0 rfl) rfl rfl ?_
  refine ps_i2l (ps_at tX8_isCopy_ok 1 rfl) ?_
  refine ps_lconst (x := 0) (ps_at tX8_isCopy_ok 2 rfl) (by decide) ?_
  refine ps_ldc2 (ps_at tX8_isCopy_ok 3 rfl) clX8_103 ?_
  refine ps_callS (M2 := mX8_in) (av := [.inr (.inl v0.toInt64), .inr (.inl 0), .inr (.inl 8)]) (rest := []) (ps_at tX8_isCopy_ok 4 rfl) csX8_99 rfl rfl (fun _ => Nat.le_of_ble_eq_true rfl) (pX8_in ?_)
  exact ps_zret (ps_at tX8_isCopy_ok 5 rfl) rfl ⟨rfl, rfl⟩ (ps_bitI _ _ _) (h1)
theorem eX8_isCopy {d : Nat} {Q : Option ps_V → ps_S → Prop} {v0 : Int32} {σ : ps_S} (h : kX8_isCopy_0 d Q v0 σ) : ps_C mX8_isCopy (d + 1) [.inl v0] σ Q := ps_enter (by decide) rfl ⟨rfl, rfl, rfl⟩ rfl (Nat.le_of_ble_eq_true rfl) h
theorem pX8_isCopy {d : Nat} {Q : Option ps_V → ps_S → Prop} {v0 : Int32} {σ : ps_S}  (hq : Q (some (.inl (jbIn v0.toInt64 0 8))) σ) : ps_C mX8_isCopy (d + 1) [.inl v0] σ Q := eX8_isCopy (bX8_isCopy_0 hq)
abbrev kX7_within_0 (d : Nat) (Q : Option ps_V → ps_S → Prop) (v0 : Int32) (v1 : Int32) (σ : ps_S) : Prop := ps_K mX7_within d (ps_QF Q) 0 [some (.inl v0), some (.inl v1)] [] σ
theorem bX7_within_0 {d : Nat} {Q : Option ps_V → ps_S → Prop} {v0 : Int32} {v1 : Int32} {σ : ps_S} (h1 : v0 < 0 → Q (some (.inl 0)) σ) (h2 : ¬ v0 < 0 → v1 ≤ v0 → Q (some (.inl 0)) σ) (h3 : ¬ v0 < 0 → ¬ v1 ≤ v0 → Q (some (.inl 1)) σ) : kX7_within_0 d Q v0 v1 σ := by
  refine ps_iload_n (ps_at tX7_within_ok 0 rfl) rfl rfl ?_
  refine ps_if_lt (tgt := 13) (ps_at tX7_within_ok 1 rfl) (by decide) (fun c0 => ?_) (fun c0 => ?_)
  · skip
    refine ps_iconst (x := 0) (ps_at tX7_within_ok 7 rfl) (by decide) ?_
    exact ps_zret (ps_at tX7_within_ok 8 rfl) rfl ⟨rfl, rfl⟩ (Or.inl rfl) (h1 c0)
  · skip
    refine ps_iload_n (ps_at tX7_within_ok 2 rfl) rfl rfl ?_
    refine ps_iload_n (ps_at tX7_within_ok 3 rfl) rfl rfl ?_
    refine ps_icmp_ge (tgt := 13) (ps_at tX7_within_ok 4 rfl) (by decide) (fun c1 => ?_) (fun c1 => ?_)
    · skip
      refine ps_iconst (x := 0) (ps_at tX7_within_ok 7 rfl) (by decide) ?_
      exact ps_zret (ps_at tX7_within_ok 8 rfl) rfl ⟨rfl, rfl⟩ (Or.inl rfl) (h2 c0 c1)
    · skip
      refine ps_iconst (x := 1) (ps_at tX7_within_ok 5 rfl) (by decide) ?_
      refine ps_goto (tgt := 14) (ps_at tX7_within_ok 6 rfl) (by decide) ?_
      exact ps_zret (ps_at tX7_within_ok 8 rfl) rfl ⟨rfl, rfl⟩ (Or.inr rfl) (h3 c0 c1)
theorem eX7_within {d : Nat} {Q : Option ps_V → ps_S → Prop} {v0 : Int32} {v1 : Int32} {σ : ps_S} (h : kX7_within_0 d Q v0 v1 σ) : ps_C mX7_within d [.inl v0, .inl v1] σ Q := ps_enter (by decide) rfl ⟨rfl, rfl, rfl⟩ rfl (Nat.le_of_ble_eq_true rfl) h
theorem pX7_within {d : Nat} {Q : Option ps_V → ps_S → Prop} {v0 v1 : Int32} {σ : ps_S}  (hq : Q (some (.inl (jbWi v0 v1))) σ) : ps_C mX7_within d [.inl v0, .inl v1] σ Q := eX7_within (bX7_within_0 (fun c => by simpa [jbWi, c] using hq) (fun c c2 => by simpa [jbWi, c, c2] using hq) (fun c c2 => by simpa [jbWi, c, c2] using hq))
abbrev kX7_isCopy_0 (d : Nat) (Q : Option ps_V → ps_S → Prop) (v0 : Int32) (σ : ps_S) : Prop := ps_K mX7_isCopy (d + 1) (ps_QF Q) 0 [some (.inl v0)] [] σ
theorem bX7_isCopy_0 {d : Nat} {Q : Option ps_V → ps_S → Prop} {v0 : Int32} {σ : ps_S} (h1 : Q (some (.inl (jbWi v0 9))) σ) : kX7_isCopy_0 d Q v0 σ := by
  refine ps_iload_n (ps_at tX7_isCopy_ok 0 rfl) rfl rfl ?_
  refine ps_bipush (x := 9) (ps_at tX7_isCopy_ok 1 rfl) (by decide) ?_
  refine ps_callS (M2 := mX7_within) (av := [.inl v0, .inl 9]) (rest := []) (ps_at tX7_isCopy_ok 2 rfl) csX7_65 rfl rfl (fun _ => Nat.le_of_ble_eq_true rfl) (pX7_within ?_)
  exact ps_zret (ps_at tX7_isCopy_ok 3 rfl) rfl ⟨rfl, rfl⟩ (ps_bitW _ _) (h1)
theorem eX7_isCopy {d : Nat} {Q : Option ps_V → ps_S → Prop} {v0 : Int32} {σ : ps_S} (h : kX7_isCopy_0 d Q v0 σ) : ps_C mX7_isCopy (d + 1) [.inl v0] σ Q := ps_enter (by decide) rfl ⟨rfl, rfl, rfl⟩ rfl (Nat.le_of_ble_eq_true rfl) h
theorem pX7_isCopy {d : Nat} {Q : Option ps_V → ps_S → Prop} {v0 : Int32} {σ : ps_S}  (hq : Q (some (.inl (jbWi v0 9))) σ) : ps_C mX7_isCopy (d + 1) [.inl v0] σ Q := eX7_isCopy (bX7_isCopy_0 hq)
abbrev kX7_isForme_0 (d : Nat) (Q : Option ps_V → ps_S → Prop) (v0 : Int32) (σ : ps_S) : Prop := ps_K mX7_isForme (d + 1) (ps_QF Q) 0 [some (.inl v0)] [] σ
theorem bX7_isForme_0 {d : Nat} {Q : Option ps_V → ps_S → Prop} {v0 : Int32} {σ : ps_S} (h1 : Q (some (.inl (jbWi v0 6))) σ) : kX7_isForme_0 d Q v0 σ := by
  refine ps_iload_n (ps_at tX7_isForme_ok 0 rfl) rfl rfl ?_
  refine ps_bipush (x := 6) (ps_at tX7_isForme_ok 1 rfl) (by decide) ?_
  refine ps_callS (M2 := mX7_within) (av := [.inl v0, .inl 6]) (rest := []) (ps_at tX7_isForme_ok 2 rfl) csX7_65 rfl rfl (fun _ => Nat.le_of_ble_eq_true rfl) (pX7_within ?_)
  exact ps_zret (ps_at tX7_isForme_ok 3 rfl) rfl ⟨rfl, rfl⟩ (ps_bitW _ _) (h1)
theorem eX7_isForme {d : Nat} {Q : Option ps_V → ps_S → Prop} {v0 : Int32} {σ : ps_S} (h : kX7_isForme_0 d Q v0 σ) : ps_C mX7_isForme (d + 1) [.inl v0] σ Q := ps_enter (by decide) rfl ⟨rfl, rfl, rfl⟩ rfl (Nat.le_of_ble_eq_true rfl) h
theorem pX7_isForme {d : Nat} {Q : Option ps_V → ps_S → Prop} {v0 : Int32} {σ : ps_S}  (hq : Q (some (.inl (jbWi v0 6))) σ) : ps_C mX7_isForme (d + 1) [.inl v0] σ Q := eX7_isForme (bX7_isForme_0 hq)
abbrev kX7_isDays_0 (d : Nat) (Q : Option ps_V → ps_S → Prop) (v0 : Int32) (σ : ps_S) : Prop := ps_K mX7_isDays d (ps_QF Q) 0 [some (.inl v0)] [] σ
theorem bX7_isDays_0 {d : Nat} {Q : Option ps_V → ps_S → Prop} {v0 : Int32} {σ : ps_S} (h1 : v0 < 1 → Q (some (.inl 0)) σ) (h2 : ¬ v0 < 1 → 6 < v0 → Q (some (.inl 0)) σ) (h3 : ¬ v0 < 1 → ¬ 6 < v0 → Q (some (.inl 1)) σ) : kX7_isDays_0 d Q v0 σ := by
  refine ps_iload_n (ps_at tX7_isDays_ok 0 rfl) rfl rfl ?_
  refine ps_iconst (x := 1) (ps_at tX7_isDays_ok 1 rfl) (by decide) ?_
  refine ps_icmp_lt (tgt := 15) (ps_at tX7_isDays_ok 2 rfl) (by decide) (fun c0 => ?_) (fun c0 => ?_)
  · skip
    refine ps_iconst (x := 0) (ps_at tX7_isDays_ok 8 rfl) (by decide) ?_
    exact ps_zret (ps_at tX7_isDays_ok 9 rfl) rfl ⟨rfl, rfl⟩ (Or.inl rfl) (h1 c0)
  · skip
    refine ps_iload_n (ps_at tX7_isDays_ok 3 rfl) rfl rfl ?_
    refine ps_bipush (x := 6) (ps_at tX7_isDays_ok 4 rfl) (by decide) ?_
    refine ps_icmp_gt (tgt := 15) (ps_at tX7_isDays_ok 5 rfl) (by decide) (fun c1 => ?_) (fun c1 => ?_)
    · skip
      refine ps_iconst (x := 0) (ps_at tX7_isDays_ok 8 rfl) (by decide) ?_
      exact ps_zret (ps_at tX7_isDays_ok 9 rfl) rfl ⟨rfl, rfl⟩ (Or.inl rfl) (h2 c0 c1)
    · skip
      refine ps_iconst (x := 1) (ps_at tX7_isDays_ok 6 rfl) (by decide) ?_
      refine ps_goto (tgt := 16) (ps_at tX7_isDays_ok 7 rfl) (by decide) ?_
      exact ps_zret (ps_at tX7_isDays_ok 9 rfl) rfl ⟨rfl, rfl⟩ (Or.inr rfl) (h3 c0 c1)
theorem eX7_isDays {d : Nat} {Q : Option ps_V → ps_S → Prop} {v0 : Int32} {σ : ps_S} (h : kX7_isDays_0 d Q v0 σ) : ps_C mX7_isDays d [.inl v0] σ Q := ps_enter (by decide) rfl ⟨rfl, rfl, rfl⟩ rfl (Nat.le_of_ble_eq_true rfl) h
theorem pX7_isDays {d : Nat} {Q : Option ps_V → ps_S → Prop} {v0 : Int32} {σ : ps_S}  (hq : Q (some (.inl (jbDays v0))) σ) : ps_C mX7_isDays d [.inl v0] σ Q := eX7_isDays (bX7_isDays_0 (fun c => by simpa [jbDays, c] using hq) (fun c c2 => by simpa [jbDays, c, c2] using hq) (fun c c2 => by simpa [jbDays, c, c2] using hq))
abbrev kX0_areUnlike_0 (d : Nat) (Q : Option ps_V → ps_S → Prop) (v0 : Int32) (v1 : Int32) (σ : ps_S) : Prop := ps_K mX0_areUnlike d (ps_QF Q) 0 [some (.inl v0), some (.inl v1)] [] σ
theorem bX0_areUnlike_0 {d : Nat} {Q : Option ps_V → ps_S → Prop} {v0 : Int32} {v1 : Int32} {σ : ps_S} (h1 : v0 = (-900009) → Q (some (.inl 0)) σ) (h2 : ¬ v0 = (-900009) → v1 = (-900009) → Q (some (.inl 0)) σ) (h3 : ¬ v0 = (-900009) → ¬ v1 = (-900009) → v0 = v1 → Q (some (.inl 0)) σ) (h4 : ¬ v0 = (-900009) → ¬ v1 = (-900009) → ¬ v0 = v1 → Q (some (.inl 1)) σ) : kX0_areUnlike_0 d Q v0 v1 σ := by
  refine ps_iload_n (ps_at tX0_areUnlike_ok 0 rfl) rfl rfl ?_
  refine ps_ldc (ps_at tX0_areUnlike_ok 1 rfl) cnX0_32 ?_
  refine ps_icmp_eq (tgt := 21) (ps_at tX0_areUnlike_ok 2 rfl) (by decide) (fun c0 => ?_) (fun c0 => ?_)
  · skip
    refine ps_iconst (x := 0) (ps_at tX0_areUnlike_ok 11 rfl) (by decide) ?_
    exact ps_zret (ps_at tX0_areUnlike_ok 12 rfl) rfl ⟨rfl, rfl⟩ (Or.inl rfl) (h1 c0)
  · skip
    refine ps_iload_n (ps_at tX0_areUnlike_ok 3 rfl) rfl rfl ?_
    refine ps_ldc (ps_at tX0_areUnlike_ok 4 rfl) cnX0_32 ?_
    refine ps_icmp_eq (tgt := 21) (ps_at tX0_areUnlike_ok 5 rfl) (by decide) (fun c1 => ?_) (fun c1 => ?_)
    · skip
      refine ps_iconst (x := 0) (ps_at tX0_areUnlike_ok 11 rfl) (by decide) ?_
      exact ps_zret (ps_at tX0_areUnlike_ok 12 rfl) rfl ⟨rfl, rfl⟩ (Or.inl rfl) (h2 c0 c1)
    · skip
      refine ps_iload_n (ps_at tX0_areUnlike_ok 6 rfl) rfl rfl ?_
      refine ps_iload_n (ps_at tX0_areUnlike_ok 7 rfl) rfl rfl ?_
      refine ps_icmp_eq (tgt := 21) (ps_at tX0_areUnlike_ok 8 rfl) (by decide) (fun c2 => ?_) (fun c2 => ?_)
      · skip
        refine ps_iconst (x := 0) (ps_at tX0_areUnlike_ok 11 rfl) (by decide) ?_
        exact ps_zret (ps_at tX0_areUnlike_ok 12 rfl) rfl ⟨rfl, rfl⟩ (Or.inl rfl) (h3 c0 c1 c2)
      · skip
        refine ps_iconst (x := 1) (ps_at tX0_areUnlike_ok 9 rfl) (by decide) ?_
        refine ps_goto (tgt := 22) (ps_at tX0_areUnlike_ok 10 rfl) (by decide) ?_
        exact ps_zret (ps_at tX0_areUnlike_ok 12 rfl) rfl ⟨rfl, rfl⟩ (Or.inr rfl) (h4 c0 c1 c2)
theorem eX0_areUnlike {d : Nat} {Q : Option ps_V → ps_S → Prop} {v0 : Int32} {v1 : Int32} {σ : ps_S} (h : kX0_areUnlike_0 d Q v0 v1 σ) : ps_C mX0_areUnlike d [.inl v0, .inl v1] σ Q := ps_enter (by decide) rfl ⟨rfl, rfl, rfl⟩ rfl (Nat.le_of_ble_eq_true rfl) h
theorem pX0_areUnlike {d : Nat} {Q : Option ps_V → ps_S → Prop} {v0 v1 : Int32} {σ : ps_S}  (hq : Q (some (.inl (jbUn v0 v1))) σ) : ps_C mX0_areUnlike d [.inl v0, .inl v1] σ Q := eX0_areUnlike (bX0_areUnlike_0 (fun c => by simpa [jbUn, c] using hq) (fun c c2 => by simpa [jbUn, c, c2] using hq) (fun c c2 c3 => by simpa [jbUn, c, c2, c3] using hq) (fun c c2 c3 => by simpa [jbUn, c, c2, c3] using hq))
abbrev kX0_tellsAheadOf_0 (d : Nat) (Q : Option ps_V → ps_S → Prop) (i0 : Nat) (v1 : Int32) (v2 : Int32) (σ : ps_S) : Prop := ps_K mX0_tellsAheadOf d (ps_QF Q) 0 [some (.inr (.inr (3, i0))), some (.inl v1), some (.inl v2)] [] σ
theorem bX0_tellsAheadOf_0 {d : Nat} {Q : Option ps_V → ps_S → Prop} {i0 : Nat} {v1 : Int32} {v2 : Int32} {σ : ps_S} (h1 : vp_in v1 9) (h2 : vp_in v2 9) (h3 : ((σ 6 i0 v1.toNatClampNeg) &&& (σ 8 i0 v2.toNatClampNeg)) = 0 → Q (some (.inl 0)) σ) (h4 : ¬ ((σ 6 i0 v1.toNatClampNeg) &&& (σ 8 i0 v2.toNatClampNeg)) = 0 → Q (some (.inl 1)) σ) : kX0_tellsAheadOf_0 d Q i0 v1 v2 σ := by
  refine ps_aload_n (ps_at tX0_tellsAheadOf_ok 0 rfl) rfl rfl ?_
  refine ps_getR (ps_at tX0_tellsAheadOf_ok 1 rfl) flX0_16 sh_3 rfl ?_
  refine ps_iload_n (ps_at tX0_tellsAheadOf_ok 2 rfl) rfl rfl ?_
  refine ps_iald (ps_at tX0_tellsAheadOf_ok 3 rfl) sh_6 (h1) ?_
  refine ps_aload_n (ps_at tX0_tellsAheadOf_ok 4 rfl) rfl rfl ?_
  refine ps_getR (ps_at tX0_tellsAheadOf_ok 5 rfl) flX0_23 sh_3 rfl ?_
  refine ps_iload_n (ps_at tX0_tellsAheadOf_ok 6 rfl) rfl rfl ?_
  refine ps_iald (ps_at tX0_tellsAheadOf_ok 7 rfl) sh_8 (h2) ?_
  refine ps_iand (ps_at tX0_tellsAheadOf_ok 8 rfl) ?_
  refine ps_if_eq (tgt := 20) (ps_at tX0_tellsAheadOf_ok 9 rfl) (by decide) (fun c0 => ?_) (fun c0 => ?_)
  · skip
    refine ps_iconst (x := 0) (ps_at tX0_tellsAheadOf_ok 12 rfl) (by decide) ?_
    exact ps_zret (ps_at tX0_tellsAheadOf_ok 13 rfl) rfl ⟨rfl, rfl⟩ (Or.inl rfl) (h3 c0)
  · skip
    refine ps_iconst (x := 1) (ps_at tX0_tellsAheadOf_ok 10 rfl) (by decide) ?_
    refine ps_goto (tgt := 21) (ps_at tX0_tellsAheadOf_ok 11 rfl) (by decide) ?_
    exact ps_zret (ps_at tX0_tellsAheadOf_ok 13 rfl) rfl ⟨rfl, rfl⟩ (Or.inr rfl) (h4 c0)
theorem eX0_tellsAheadOf {d : Nat} {Q : Option ps_V → ps_S → Prop} {i0 : Nat} {v1 : Int32} {v2 : Int32} {σ : ps_S} (h : kX0_tellsAheadOf_0 d Q i0 v1 v2 σ) : ps_C mX0_tellsAheadOf d [.inr (.inr (3, i0)), .inl v1, .inl v2] σ Q := ps_enter (by decide) rfl ⟨rfl, rfl, rfl⟩ rfl (Nat.le_of_ble_eq_true rfl) h
theorem pX0_tellsAheadOf {d : Nat} {Q : Option ps_V → ps_S → Prop} {i0 : Nat} {v1 : Int32} {v2 : Int32} {σ : ps_S} (h1 : vp_in v1 9) (h2 : vp_in v2 9) (hq : Q (some (.inl (jX0_tellsAheadOf σ i0 v1 v2))) σ) : ps_C mX0_tellsAheadOf d [.inr (.inr (3, i0)), .inl v1, .inl v2] σ Q := eX0_tellsAheadOf (bX0_tellsAheadOf_0 h1 h2 (fun c0 => by unfold jX0_tellsAheadOf at hq; rw [if_pos c0] at hq; exact hq) (fun c0 => by unfold jX0_tellsAheadOf at hq; rw [if_neg c0] at hq; exact hq))
theorem btX0_tellsAheadOf (σ : ps_S) (i0 : Nat) (v1 : Int32) (v2 : Int32) : jX0_tellsAheadOf σ i0 v1 v2 = 0 ∨ jX0_tellsAheadOf σ i0 v1 v2 = 1 := by unfold jX0_tellsAheadOf; first | exact ps_bitW _ _ | exact ps_bitI _ _ _ | (repeat (first | split | simp))
abbrev kX1_heapCount_0 (d : Nat) (Q : Option ps_V → ps_S → Prop) (v1 : Int32) (σ : ps_S) : Prop := ps_K mX1_heapCount d (ps_QF Q) 0 [some (.inr (.inr (30, 0))), some (.inl v1)] [] σ
theorem bX1_heapCount_0 {d : Nat} {Q : Option ps_V → ps_S → Prop} {v1 : Int32} {σ : ps_S} (h1 : vp_in v1 6) (h2 : ¬ (σ 30 0 3) = 0) (h3 : Q (some (.inl ((((σ 33 0 v1.toNatClampNeg) + (σ 30 0 3)) - 1) / (σ 30 0 3)))) σ) : kX1_heapCount_0 d Q v1 σ := by
  refine ps_aload_n (ps_at tX1_heapCount_ok 0 rfl) rfl rfl ?_
  refine ps_getR (ps_at tX1_heapCount_ok 1 rfl) flX1_16 sh_30 rfl ?_
  refine ps_iload_n (ps_at tX1_heapCount_ok 2 rfl) rfl rfl ?_
  refine ps_iald (ps_at tX1_heapCount_ok 3 rfl) sh_33 (h1) ?_
  refine ps_aload_n (ps_at tX1_heapCount_ok 4 rfl) rfl rfl ?_
  refine ps_getI (ps_at tX1_heapCount_ok 5 rfl) flX1_23 sh_30 rfl ?_
  refine ps_iadd (ps_at tX1_heapCount_ok 6 rfl) ?_
  refine ps_iconst (x := 1) (ps_at tX1_heapCount_ok 7 rfl) (by decide) ?_
  refine ps_isub (ps_at tX1_heapCount_ok 8 rfl) ?_
  refine ps_aload_n (ps_at tX1_heapCount_ok 9 rfl) rfl rfl ?_
  refine ps_getI (ps_at tX1_heapCount_ok 10 rfl) flX1_23 sh_30 rfl ?_
  refine ps_idiv (ps_at tX1_heapCount_ok 11 rfl) (h2) ?_
  exact ps_iret (ps_at tX1_heapCount_ok 12 rfl) rfl ⟨rfl, rfl⟩ (h3)
theorem eX1_heapCount {d : Nat} {Q : Option ps_V → ps_S → Prop} {v1 : Int32} {σ : ps_S} (h : kX1_heapCount_0 d Q v1 σ) : ps_C mX1_heapCount d [.inr (.inr (30, 0)), .inl v1] σ Q := ps_enter (by decide) rfl ⟨rfl, rfl, rfl⟩ rfl (Nat.le_of_ble_eq_true rfl) h
theorem pX1_heapCount {d : Nat} {Q : Option ps_V → ps_S → Prop} {v1 : Int32} {σ : ps_S} (h1 : vp_in v1 6) (h2 : ¬ (σ 30 0 3) = 0) (hq : Q (some (.inl (jX1_heapCount σ v1))) σ) : ps_C mX1_heapCount d [.inr (.inr (30, 0)), .inl v1] σ Q := eX1_heapCount (bX1_heapCount_0 h1 h2 (by unfold jX1_heapCount at hq; exact hq))
abbrev kX1_heapEnd_0 (d : Nat) (Q : Option ps_V → ps_S → Prop) (v1 : Int32) (v2 : Int32) (σ : ps_S) : Prop := ps_K mX1_heapEnd (d + 1) (ps_QF Q) 0 [some (.inr (.inr (30, 0))), some (.inl v1), some (.inl v2)] [] σ
theorem bX1_heapEnd_0 {d : Nat} {Q : Option ps_V → ps_S → Prop} {v1 : Int32} {v2 : Int32} {σ : ps_S} (h1 : vp_in v1 6) (h2 : Q (some (.inl (jbMin ((v2 + 1) * (σ 30 0 3)) (σ 33 0 v1.toNatClampNeg)))) σ) : kX1_heapEnd_0 d Q v1 v2 σ := by
  refine ps_iload_n (ps_at tX1_heapEnd_ok 0 rfl) rfl rfl ?_
  refine ps_iconst (x := 1) (ps_at tX1_heapEnd_ok 1 rfl) (by decide) ?_
  refine ps_iadd (ps_at tX1_heapEnd_ok 2 rfl) ?_
  refine ps_aload_n (ps_at tX1_heapEnd_ok 3 rfl) rfl rfl ?_
  refine ps_getI (ps_at tX1_heapEnd_ok 4 rfl) flX1_23 sh_30 rfl ?_
  refine ps_imul (ps_at tX1_heapEnd_ok 5 rfl) ?_
  refine ps_aload_n (ps_at tX1_heapEnd_ok 6 rfl) rfl rfl ?_
  refine ps_getR (ps_at tX1_heapEnd_ok 7 rfl) flX1_16 sh_30 rfl ?_
  refine ps_iload_n (ps_at tX1_heapEnd_ok 8 rfl) rfl rfl ?_
  refine ps_iald (ps_at tX1_heapEnd_ok 9 rfl) sh_33 (h1) ?_
  refine ps_mmin (ps_at tX1_heapEnd_ok 10 rfl) cmX1_34 (fun _ => Nat.le_of_ble_eq_true rfl) ?_
  exact ps_iret (ps_at tX1_heapEnd_ok 11 rfl) rfl ⟨rfl, rfl⟩ (h2)
theorem eX1_heapEnd {d : Nat} {Q : Option ps_V → ps_S → Prop} {v1 : Int32} {v2 : Int32} {σ : ps_S} (h : kX1_heapEnd_0 d Q v1 v2 σ) : ps_C mX1_heapEnd (d + 1) [.inr (.inr (30, 0)), .inl v1, .inl v2] σ Q := ps_enter (by decide) rfl ⟨rfl, rfl, rfl⟩ rfl (Nat.le_of_ble_eq_true rfl) h
theorem pX1_heapEnd {d : Nat} {Q : Option ps_V → ps_S → Prop} {v1 : Int32} {v2 : Int32} {σ : ps_S} (h1 : vp_in v1 6) (hq : Q (some (.inl (jX1_heapEnd σ v1 v2))) σ) : ps_C mX1_heapEnd (d + 1) [.inr (.inr (30, 0)), .inl v1, .inl v2] σ Q := eX1_heapEnd (bX1_heapEnd_0 h1 (by unfold jX1_heapEnd at hq; exact hq))
abbrev kX1_kindIn_0 (d : Nat) (Q : Option ps_V → ps_S → Prop) (v1 : Int32) (v2 : Int32) (v3 : Int32) (σ : ps_S) : Prop := ps_K mX1_kindIn (d + 2) (ps_QF Q) 0 [some (.inr (.inr (30, 0))), some (.inl v1), some (.inl v2), some (.inl v3), none, none] [] σ
theorem bX1_kindIn_0 {d : Nat} {Q : Option ps_V → ps_S → Prop} {v1 : Int32} {v2 : Int32} {v3 : Int32} {σ : ps_S} (h1 : vp_in v1 6) (h2 : v2 < (σ 33 0 v1.toNatClampNeg) → v3 = 0 → ¬ (σ 30 0 3) = 0) (h3 : v2 < (σ 33 0 v1.toNatClampNeg) → v3 = 0 → vp_in (((jX1_heapEnd σ v1 (v2 / (σ 30 0 3))) - 1) - (v2 - ((v2 / (σ 30 0 3)) * (σ 30 0 3)))) 12) (h4 : v2 < (σ 33 0 v1.toNatClampNeg) → v3 = 0 → Q (some (.inl (σ 32 v1.toNatClampNeg (((jX1_heapEnd σ v1 (v2 / (σ 30 0 3))) - 1) - (v2 - ((v2 / (σ 30 0 3)) * (σ 30 0 3)))).toNatClampNeg))) σ) (h5 : v2 < (σ 33 0 v1.toNatClampNeg) → ¬ v3 = 0 → vp_in v2 12) (h6 : v2 < (σ 33 0 v1.toNatClampNeg) → ¬ v3 = 0 → Q (some (.inl (σ 32 v1.toNatClampNeg v2.toNatClampNeg))) σ) (h7 : ¬ v2 < (σ 33 0 v1.toNatClampNeg) → Q (some (.inl (-900009))) σ) : kX1_kindIn_0 d Q v1 v2 v3 σ := by
  refine ps_iload_n (ps_at tX1_kindIn_ok 0 rfl) rfl rfl ?_
  refine ps_aload_n (ps_at tX1_kindIn_ok 1 rfl) rfl rfl ?_
  refine ps_getR (ps_at tX1_kindIn_ok 2 rfl) flX1_16 sh_30 rfl ?_
  refine ps_iload_n (ps_at tX1_kindIn_ok 3 rfl) rfl rfl ?_
  refine ps_iald (ps_at tX1_kindIn_ok 4 rfl) sh_33 (h1) ?_
  refine ps_icmp_lt (tgt := 13) (ps_at tX1_kindIn_ok 5 rfl) (by decide) (fun c0 => ?_) (fun c0 => ?_)
  · skip
    refine ps_iload_n (ps_at tX1_kindIn_ok 8 rfl) rfl rfl ?_
    refine ps_if_eq (tgt := 26) (ps_at tX1_kindIn_ok 9 rfl) (by decide) (fun c1 => ?_) (fun c1 => ?_)
    · skip
      refine ps_iload_n (ps_at tX1_kindIn_ok 17 rfl) rfl rfl ?_
      refine ps_aload_n (ps_at tX1_kindIn_ok 18 rfl) rfl rfl ?_
      refine ps_getI (ps_at tX1_kindIn_ok 19 rfl) flX1_23 sh_30 rfl ?_
      refine ps_idiv (ps_at tX1_kindIn_ok 20 rfl) (h2 c0 c1) ?_
      refine ps_istore (L' := [some (.inr (.inr (30, 0))), some (.inl v1), some (.inl v2), some (.inl v3), some (.inl (v2 / (σ 30 0 3))), none]) (ps_at tX1_kindIn_ok 21 rfl) (by decide) rfl ?_
      refine ps_iload_n (ps_at tX1_kindIn_ok 22 rfl) rfl rfl ?_
      refine ps_iload (ps_at tX1_kindIn_ok 23 rfl) rfl ?_
      refine ps_aload_n (ps_at tX1_kindIn_ok 24 rfl) rfl rfl ?_
      refine ps_getI (ps_at tX1_kindIn_ok 25 rfl) flX1_23 sh_30 rfl ?_
      refine ps_imul (ps_at tX1_kindIn_ok 26 rfl) ?_
      refine ps_isub (ps_at tX1_kindIn_ok 27 rfl) ?_
      refine ps_istore (L' := [some (.inr (.inr (30, 0))), some (.inl v1), some (.inl v2), some (.inl v3), some (.inl (v2 / (σ 30 0 3))), some (.inl (v2 - ((v2 / (σ 30 0 3)) * (σ 30 0 3))))]) (ps_at tX1_kindIn_ok 28 rfl) (by decide) rfl ?_
      refine ps_aload_n (ps_at tX1_kindIn_ok 29 rfl) rfl rfl ?_
      refine ps_getR (ps_at tX1_kindIn_ok 30 rfl) flX1_11 sh_30 rfl ?_
      refine ps_iload_n (ps_at tX1_kindIn_ok 31 rfl) rfl rfl ?_
      refine ps_aald0 (ps_at tX1_kindIn_ok 32 rfl) sh_31 (Or.inl rfl) (h1) ?_
      refine ps_aload_n (ps_at tX1_kindIn_ok 33 rfl) rfl rfl ?_
      refine ps_iload_n (ps_at tX1_kindIn_ok 34 rfl) rfl rfl ?_
      refine ps_iload (ps_at tX1_kindIn_ok 35 rfl) rfl ?_
      refine ps_callV (M2 := mX1_heapEnd) (av := [.inl v1, .inl (v2 / (σ 30 0 3))]) (rest := [.inr (.inr (32, v1.toNatClampNeg))]) (ps_at tX1_kindIn_ok 36 rfl) cvX1_40 sh_30 rfl rfl (fun _ => Nat.le_of_ble_eq_true rfl) (pX1_heapEnd (h1) ?_)
      refine ps_iconst (x := 1) (ps_at tX1_kindIn_ok 37 rfl) (by decide) ?_
      refine ps_isub (ps_at tX1_kindIn_ok 38 rfl) ?_
      refine ps_iload (ps_at tX1_kindIn_ok 39 rfl) rfl ?_
      refine ps_isub (ps_at tX1_kindIn_ok 40 rfl) ?_
      refine ps_iald (ps_at tX1_kindIn_ok 41 rfl) sh_32 (h3 c0 c1) ?_
      exact ps_iret (ps_at tX1_kindIn_ok 42 rfl) rfl ⟨rfl, rfl⟩ (h4 c0 c1)
    · skip
      refine ps_aload_n (ps_at tX1_kindIn_ok 10 rfl) rfl rfl ?_
      refine ps_getR (ps_at tX1_kindIn_ok 11 rfl) flX1_11 sh_30 rfl ?_
      refine ps_iload_n (ps_at tX1_kindIn_ok 12 rfl) rfl rfl ?_
      refine ps_aald0 (ps_at tX1_kindIn_ok 13 rfl) sh_31 (Or.inl rfl) (h1) ?_
      refine ps_iload_n (ps_at tX1_kindIn_ok 14 rfl) rfl rfl ?_
      refine ps_iald (ps_at tX1_kindIn_ok 15 rfl) sh_32 (h5 c0 c1) ?_
      exact ps_iret (ps_at tX1_kindIn_ok 16 rfl) rfl ⟨rfl, rfl⟩ (h6 c0 c1)
  · skip
    refine ps_ldc (ps_at tX1_kindIn_ok 6 rfl) cnX1_27 ?_
    exact ps_iret (ps_at tX1_kindIn_ok 7 rfl) rfl ⟨rfl, rfl⟩ (h7 c0)
theorem eX1_kindIn {d : Nat} {Q : Option ps_V → ps_S → Prop} {v1 : Int32} {v2 : Int32} {v3 : Int32} {σ : ps_S} (h : kX1_kindIn_0 d Q v1 v2 v3 σ) : ps_C mX1_kindIn (d + 2) [.inr (.inr (30, 0)), .inl v1, .inl v2, .inl v3] σ Q := ps_enter (by decide) rfl ⟨rfl, rfl, rfl⟩ rfl (Nat.le_of_ble_eq_true rfl) h
theorem pX1_kindIn {d : Nat} {Q : Option ps_V → ps_S → Prop} {v1 : Int32} {v2 : Int32} {v3 : Int32} {σ : ps_S} (h1 : vp_in v1 6) (h2 : v2 < (σ 33 0 v1.toNatClampNeg) → v3 = 0 → ¬ (σ 30 0 3) = 0) (h3 : v2 < (σ 33 0 v1.toNatClampNeg) → v3 = 0 → vp_in (((jX1_heapEnd σ v1 (v2 / (σ 30 0 3))) - 1) - (v2 - ((v2 / (σ 30 0 3)) * (σ 30 0 3)))) 12) (h5 : v2 < (σ 33 0 v1.toNatClampNeg) → ¬ v3 = 0 → vp_in v2 12) (hq : Q (some (.inl (jX1_kindIn σ v1 v2 v3))) σ) : ps_C mX1_kindIn (d + 2) [.inr (.inr (30, 0)), .inl v1, .inl v2, .inl v3] σ Q := eX1_kindIn (bX1_kindIn_0 h1 h2 h3 (fun c0 c1 => by unfold jX1_kindIn at hq; rw [if_pos c0, if_pos c1] at hq; exact hq) h5 (fun c0 c1 => by unfold jX1_kindIn at hq; rw [if_pos c0, if_neg c1] at hq; exact hq) (fun c0 => by unfold jX1_kindIn at hq; rw [if_neg c0] at hq; exact hq))
abbrev kX2_isBest_0 (d : Nat) (Q : Option ps_V → ps_S → Prop) (v1 : Int32) (v2 : Int32) (σ : ps_S) : Prop := ps_K mX2_isBest d (ps_QF Q) 0 [some (.inr (.inr (36, 0))), some (.inl v1), some (.inl v2)] [] σ
theorem bX2_isBest_0 {d : Nat} {Q : Option ps_V → ps_S → Prop} {v1 : Int32} {v2 : Int32} {σ : ps_S} (h1 : vp_in v1 12) (h2 : vp_in v2 4) (h3 : ¬ ((σ 44 v1.toNatClampNeg v2.toNatClampNeg) + (σ 46 v1.toNatClampNeg v2.toNatClampNeg)) = (σ 36 0 9) → Q (some (.inl 0)) σ) (h4 : ((σ 44 v1.toNatClampNeg v2.toNatClampNeg) + (σ 46 v1.toNatClampNeg v2.toNatClampNeg)) = (σ 36 0 9) → Q (some (.inl 1)) σ) : kX2_isBest_0 d Q v1 v2 σ := by
  refine ps_aload_n (ps_at tX2_isBest_ok 0 rfl) rfl rfl ?_
  refine ps_getR (ps_at tX2_isBest_ok 1 rfl) flX2_32 sh_36 rfl ?_
  refine ps_iload_n (ps_at tX2_isBest_ok 2 rfl) rfl rfl ?_
  refine ps_aald0 (ps_at tX2_isBest_ok 3 rfl) sh_43 (Or.inl rfl) (h1) ?_
  refine ps_iload_n (ps_at tX2_isBest_ok 4 rfl) rfl rfl ?_
  refine ps_iald (ps_at tX2_isBest_ok 5 rfl) sh_44 (h2) ?_
  refine ps_aload_n (ps_at tX2_isBest_ok 6 rfl) rfl rfl ?_
  refine ps_getR (ps_at tX2_isBest_ok 7 rfl) flX2_35 sh_36 rfl ?_
  refine ps_iload_n (ps_at tX2_isBest_ok 8 rfl) rfl rfl ?_
  refine ps_aald0 (ps_at tX2_isBest_ok 9 rfl) sh_45 (Or.inl rfl) (h1) ?_
  refine ps_iload_n (ps_at tX2_isBest_ok 10 rfl) rfl rfl ?_
  refine ps_iald (ps_at tX2_isBest_ok 11 rfl) sh_46 (h2) ?_
  refine ps_iadd (ps_at tX2_isBest_ok 12 rfl) ?_
  refine ps_aload_n (ps_at tX2_isBest_ok 13 rfl) rfl rfl ?_
  refine ps_getI (ps_at tX2_isBest_ok 14 rfl) flX2_55 sh_36 rfl ?_
  refine ps_icmp_ne (tgt := 28) (ps_at tX2_isBest_ok 15 rfl) (by decide) (fun c0 => ?_) (fun c0 => ?_)
  · skip
    refine ps_iconst (x := 0) (ps_at tX2_isBest_ok 18 rfl) (by decide) ?_
    exact ps_zret (ps_at tX2_isBest_ok 19 rfl) rfl ⟨rfl, rfl⟩ (Or.inl rfl) (h3 c0)
  · skip
    refine ps_iconst (x := 1) (ps_at tX2_isBest_ok 16 rfl) (by decide) ?_
    refine ps_goto (tgt := 29) (ps_at tX2_isBest_ok 17 rfl) (by decide) ?_
    exact ps_zret (ps_at tX2_isBest_ok 19 rfl) rfl ⟨rfl, rfl⟩ (Or.inr rfl) (h4 c0)
theorem eX2_isBest {d : Nat} {Q : Option ps_V → ps_S → Prop} {v1 : Int32} {v2 : Int32} {σ : ps_S} (h : kX2_isBest_0 d Q v1 v2 σ) : ps_C mX2_isBest d [.inr (.inr (36, 0)), .inl v1, .inl v2] σ Q := ps_enter (by decide) rfl ⟨rfl, rfl, rfl⟩ rfl (Nat.le_of_ble_eq_true rfl) h
theorem pX2_isBest {d : Nat} {Q : Option ps_V → ps_S → Prop} {v1 : Int32} {v2 : Int32} {σ : ps_S} (h1 : vp_in v1 12) (h2 : vp_in v2 4) (hq : Q (some (.inl (jX2_isBest σ v1 v2))) σ) : ps_C mX2_isBest d [.inr (.inr (36, 0)), .inl v1, .inl v2] σ Q := eX2_isBest (bX2_isBest_0 h1 h2 (fun c0 => by unfold jX2_isBest at hq; rw [if_pos c0] at hq; exact hq) (fun c0 => by unfold jX2_isBest at hq; rw [if_neg (fun h => h c0)] at hq; exact hq))
theorem btX2_isBest (σ : ps_S) (v1 : Int32) (v2 : Int32) : jX2_isBest σ v1 v2 = 0 ∨ jX2_isBest σ v1 v2 = 1 := by unfold jX2_isBest; first | exact ps_bitW _ _ | exact ps_bitI _ _ _ | (repeat (first | split | simp))
abbrev kX2_changeOf_0 (d : Nat) (Q : Option ps_V → ps_S → Prop) (v1 : Int32) (v2 : Int32) (σ : ps_S) : Prop := ps_K mX2_changeOf d (ps_QF Q) 0 [some (.inr (.inr (36, 0))), some (.inl v1), some (.inl v2)] [] σ
theorem bX2_changeOf_0 {d : Nat} {Q : Option ps_V → ps_S → Prop} {v1 : Int32} {v2 : Int32} {σ : ps_S} (h1 : ¬ v1 = v2 → Q (some (.inl (σ 36 0 4))) σ) (h2 : v1 = v2 → Q (some (.inl 0)) σ) : kX2_changeOf_0 d Q v1 v2 σ := by
  refine ps_iload_n (ps_at tX2_changeOf_ok 0 rfl) rfl rfl ?_
  refine ps_iload_n (ps_at tX2_changeOf_ok 1 rfl) rfl rfl ?_
  refine ps_icmp_ne (tgt := 9) (ps_at tX2_changeOf_ok 2 rfl) (by decide) (fun c0 => ?_) (fun c0 => ?_)
  · skip
    refine ps_aload_n (ps_at tX2_changeOf_ok 5 rfl) rfl rfl ?_
    refine ps_getI (ps_at tX2_changeOf_ok 6 rfl) flX2_26 sh_36 rfl ?_
    exact ps_iret (ps_at tX2_changeOf_ok 7 rfl) rfl ⟨rfl, rfl⟩ (h1 c0)
  · skip
    refine ps_iconst (x := 0) (ps_at tX2_changeOf_ok 3 rfl) (by decide) ?_
    refine ps_goto (tgt := 13) (ps_at tX2_changeOf_ok 4 rfl) (by decide) ?_
    exact ps_iret (ps_at tX2_changeOf_ok 7 rfl) rfl ⟨rfl, rfl⟩ (h2 c0)
theorem eX2_changeOf {d : Nat} {Q : Option ps_V → ps_S → Prop} {v1 : Int32} {v2 : Int32} {σ : ps_S} (h : kX2_changeOf_0 d Q v1 v2 σ) : ps_C mX2_changeOf d [.inr (.inr (36, 0)), .inl v1, .inl v2] σ Q := ps_enter (by decide) rfl ⟨rfl, rfl, rfl⟩ rfl (Nat.le_of_ble_eq_true rfl) h
theorem pX2_changeOf {d : Nat} {Q : Option ps_V → ps_S → Prop} {v1 : Int32} {v2 : Int32} {σ : ps_S}  (hq : Q (some (.inl (jX2_changeOf σ v1 v2))) σ) : ps_C mX2_changeOf d [.inr (.inr (36, 0)), .inl v1, .inl v2] σ Q := eX2_changeOf (bX2_changeOf_0 (fun c0 => by unfold jX2_changeOf at hq; rw [if_pos c0] at hq; exact hq) (fun c0 => by unfold jX2_changeOf at hq; rw [if_neg (fun h => h c0)] at hq; exact hq))
abbrev kX2_costThrough_0 (d : Nat) (Q : Option ps_V → ps_S → Prop) (v1 : Int32) (v2 : Int32) (v3 : Int32) (σ : ps_S) : Prop := ps_K mX2_costThrough (d + 1) (ps_QF Q) 0 [some (.inr (.inr (36, 0))), some (.inl v1), some (.inl v2), some (.inl v3)] [] σ
theorem bX2_costThrough_0 {d : Nat} {Q : Option ps_V → ps_S → Prop} {v1 : Int32} {v2 : Int32} {v3 : Int32} {σ : ps_S} (h1 : vp_in (v1 + 1) 12) (h2 : vp_in v3 4) (h3 : Q (some (.inl (((jX2_changeOf σ v2 v3) + (σ 42 ((v1 + 1).toNatClampNeg) v3.toNatClampNeg)) + (σ 46 ((v1 + 1).toNatClampNeg) v3.toNatClampNeg)))) σ) : kX2_costThrough_0 d Q v1 v2 v3 σ := by
  refine ps_aload_n (ps_at tX2_costThrough_ok 0 rfl) rfl rfl ?_
  refine ps_iload_n (ps_at tX2_costThrough_ok 1 rfl) rfl rfl ?_
  refine ps_iload_n (ps_at tX2_costThrough_ok 2 rfl) rfl rfl ?_
  refine ps_callV (M2 := mX2_changeOf) (av := [.inl v2, .inl v3]) (rest := []) (ps_at tX2_costThrough_ok 3 rfl) cvX2_74 sh_36 rfl rfl (fun _ => Nat.le_of_ble_eq_true rfl) (pX2_changeOf ?_)
  refine ps_aload_n (ps_at tX2_costThrough_ok 4 rfl) rfl rfl ?_
  refine ps_getR (ps_at tX2_costThrough_ok 5 rfl) flX2_29 sh_36 rfl ?_
  refine ps_iload_n (ps_at tX2_costThrough_ok 6 rfl) rfl rfl ?_
  refine ps_iconst (x := 1) (ps_at tX2_costThrough_ok 7 rfl) (by decide) ?_
  refine ps_iadd (ps_at tX2_costThrough_ok 8 rfl) ?_
  refine ps_aald0 (ps_at tX2_costThrough_ok 9 rfl) sh_41 (Or.inl rfl) (h1) ?_
  refine ps_iload_n (ps_at tX2_costThrough_ok 10 rfl) rfl rfl ?_
  refine ps_iald (ps_at tX2_costThrough_ok 11 rfl) sh_42 (h2) ?_
  refine ps_iadd (ps_at tX2_costThrough_ok 12 rfl) ?_
  refine ps_aload_n (ps_at tX2_costThrough_ok 13 rfl) rfl rfl ?_
  refine ps_getR (ps_at tX2_costThrough_ok 14 rfl) flX2_35 sh_36 rfl ?_
  refine ps_iload_n (ps_at tX2_costThrough_ok 15 rfl) rfl rfl ?_
  refine ps_iconst (x := 1) (ps_at tX2_costThrough_ok 16 rfl) (by decide) ?_
  refine ps_iadd (ps_at tX2_costThrough_ok 17 rfl) ?_
  refine ps_aald0 (ps_at tX2_costThrough_ok 18 rfl) sh_45 (Or.inl rfl) (h1) ?_
  refine ps_iload_n (ps_at tX2_costThrough_ok 19 rfl) rfl rfl ?_
  refine ps_iald (ps_at tX2_costThrough_ok 20 rfl) sh_46 (h2) ?_
  refine ps_iadd (ps_at tX2_costThrough_ok 21 rfl) ?_
  exact ps_iret (ps_at tX2_costThrough_ok 22 rfl) rfl ⟨rfl, rfl⟩ (h3)
theorem eX2_costThrough {d : Nat} {Q : Option ps_V → ps_S → Prop} {v1 : Int32} {v2 : Int32} {v3 : Int32} {σ : ps_S} (h : kX2_costThrough_0 d Q v1 v2 v3 σ) : ps_C mX2_costThrough (d + 1) [.inr (.inr (36, 0)), .inl v1, .inl v2, .inl v3] σ Q := ps_enter (by decide) rfl ⟨rfl, rfl, rfl⟩ rfl (Nat.le_of_ble_eq_true rfl) h
theorem pX2_costThrough {d : Nat} {Q : Option ps_V → ps_S → Prop} {v1 : Int32} {v2 : Int32} {v3 : Int32} {σ : ps_S} (h1 : vp_in (v1 + 1) 12) (h2 : vp_in v3 4) (hq : Q (some (.inl (jX2_costThrough σ v1 v2 v3))) σ) : ps_C mX2_costThrough (d + 1) [.inr (.inr (36, 0)), .inl v1, .inl v2, .inl v3] σ Q := eX2_costThrough (bX2_costThrough_0 h1 h2 (by unfold jX2_costThrough at hq; exact hq))
abbrev kX3_mayCome_0 (d : Nat) (Q : Option ps_V → ps_S → Prop) (v1 : Int32) (v2 : Int32) (σ : ps_S) : Prop := ps_K mX3_mayCome d (ps_QF Q) 0 [some (.inr (.inr (15, 0))), some (.inl v1), some (.inl v2)] [] σ
theorem bX3_mayCome_0 {d : Nat} {Q : Option ps_V → ps_S → Prop} {v1 : Int32} {v2 : Int32} {σ : ps_S} (h1 : ¬ ((v1 >>> (v2 &&& 31)) &&& 1) = 0 → Q (some (.inl 0)) σ) (h2 : ((v1 >>> (v2 &&& 31)) &&& 1) = 0 → vp_in v2 9) (h3 : ((v1 >>> (v2 &&& 31)) &&& 1) = 0 → ¬ ((σ 18 0 v2.toNatClampNeg) &&& (v1 ^^^ (-1))) = 0 → Q (some (.inl 0)) σ) (h4 : ((v1 >>> (v2 &&& 31)) &&& 1) = 0 → ((σ 18 0 v2.toNatClampNeg) &&& (v1 ^^^ (-1))) = 0 → Q (some (.inl 1)) σ) : kX3_mayCome_0 d Q v1 v2 σ := by
  refine ps_iload_n (ps_at tX3_mayCome_ok 0 rfl) rfl rfl ?_
  refine ps_iload_n (ps_at tX3_mayCome_ok 1 rfl) rfl rfl ?_
  refine ps_ishr (ps_at tX3_mayCome_ok 2 rfl) ?_
  refine ps_iconst (x := 1) (ps_at tX3_mayCome_ok 3 rfl) (by decide) ?_
  refine ps_iand (ps_at tX3_mayCome_ok 4 rfl) ?_
  refine ps_if_ne (tgt := 25) (ps_at tX3_mayCome_ok 5 rfl) (by decide) (fun c0 => ?_) (fun c0 => ?_)
  · skip
    refine ps_iconst (x := 0) (ps_at tX3_mayCome_ok 17 rfl) (by decide) ?_
    exact ps_zret (ps_at tX3_mayCome_ok 18 rfl) rfl ⟨rfl, rfl⟩ (Or.inl rfl) (h1 c0)
  · skip
    refine ps_aload_n (ps_at tX3_mayCome_ok 6 rfl) rfl rfl ?_
    refine ps_getR (ps_at tX3_mayCome_ok 7 rfl) flX3_18 sh_15 rfl ?_
    refine ps_iload_n (ps_at tX3_mayCome_ok 8 rfl) rfl rfl ?_
    refine ps_iald (ps_at tX3_mayCome_ok 9 rfl) sh_18 (h2 c0) ?_
    refine ps_iload_n (ps_at tX3_mayCome_ok 10 rfl) rfl rfl ?_
    refine ps_iconst (x := (-1)) (ps_at tX3_mayCome_ok 11 rfl) (by decide) ?_
    refine ps_ixor (ps_at tX3_mayCome_ok 12 rfl) ?_
    refine ps_iand (ps_at tX3_mayCome_ok 13 rfl) ?_
    refine ps_if_ne (tgt := 25) (ps_at tX3_mayCome_ok 14 rfl) (by decide) (fun c1 => ?_) (fun c1 => ?_)
    · skip
      refine ps_iconst (x := 0) (ps_at tX3_mayCome_ok 17 rfl) (by decide) ?_
      exact ps_zret (ps_at tX3_mayCome_ok 18 rfl) rfl ⟨rfl, rfl⟩ (Or.inl rfl) (h3 c0 c1)
    · skip
      refine ps_iconst (x := 1) (ps_at tX3_mayCome_ok 15 rfl) (by decide) ?_
      refine ps_goto (tgt := 26) (ps_at tX3_mayCome_ok 16 rfl) (by decide) ?_
      exact ps_zret (ps_at tX3_mayCome_ok 18 rfl) rfl ⟨rfl, rfl⟩ (Or.inr rfl) (h4 c0 c1)
theorem eX3_mayCome {d : Nat} {Q : Option ps_V → ps_S → Prop} {v1 : Int32} {v2 : Int32} {σ : ps_S} (h : kX3_mayCome_0 d Q v1 v2 σ) : ps_C mX3_mayCome d [.inr (.inr (15, 0)), .inl v1, .inl v2] σ Q := ps_enter (by decide) rfl ⟨rfl, rfl, rfl⟩ rfl (Nat.le_of_ble_eq_true rfl) h
theorem pX3_mayCome {d : Nat} {Q : Option ps_V → ps_S → Prop} {v1 : Int32} {v2 : Int32} {σ : ps_S} (h2 : ((v1 >>> (v2 &&& 31)) &&& 1) = 0 → vp_in v2 9) (hq : Q (some (.inl (jX3_mayCome σ v1 v2))) σ) : ps_C mX3_mayCome d [.inr (.inr (15, 0)), .inl v1, .inl v2] σ Q := eX3_mayCome (bX3_mayCome_0 (fun c0 => by unfold jX3_mayCome at hq; rw [if_pos c0] at hq; exact hq) h2 (fun c0 c1 => by unfold jX3_mayCome at hq; rw [if_neg (fun h => h c0), if_pos c1] at hq; exact hq) (fun c0 c1 => by unfold jX3_mayCome at hq; rw [if_neg (fun h => h c0), if_neg (fun h => h c1)] at hq; exact hq))
theorem btX3_mayCome (σ : ps_S) (v1 : Int32) (v2 : Int32) : jX3_mayCome σ v1 v2 = 0 ∨ jX3_mayCome σ v1 v2 = 1 := by unfold jX3_mayCome; first | exact ps_bitW _ _ | exact ps_bitI _ _ _ | (repeat (first | split | simp))
abbrev kX3_restThrough_0 (d : Nat) (Q : Option ps_V → ps_S → Prop) (v1 : Int32) (v2 : Int32) (v3 : Int32) (σ : ps_S) : Prop := ps_K mX3_restThrough d (ps_QF Q) 0 [some (.inr (.inr (15, 0))), some (.inl v1), some (.inl v2), some (.inl v3), none] [] σ
theorem bX3_restThrough_0 {d : Nat} {Q : Option ps_V → ps_S → Prop} {v1 : Int32} {v2 : Int32} {v3 : Int32} {σ : ps_S} (h1 : vp_in (((v1 ||| ((1 : Int32) <<< (v3 &&& 31))) * 9) + v3) 4608) (h2 : (σ 16 0 (((v1 ||| ((1 : Int32) <<< (v3 &&& 31))) * 9) + v3).toNatClampNeg) = (-1) → Q (some (.inl (σ 16 0 (((v1 ||| ((1 : Int32) <<< (v3 &&& 31))) * 9) + v3).toNatClampNeg))) σ) (h3 : ¬ (σ 16 0 (((v1 ||| ((1 : Int32) <<< (v3 &&& 31))) * 9) + v3).toNatClampNeg) = (-1) → ¬ v2 = (-900009) → vp_in ((v2 * 9) + v3) 81) (h4 : ¬ (σ 16 0 (((v1 ||| ((1 : Int32) <<< (v3 &&& 31))) * 9) + v3).toNatClampNeg) = (-1) → ¬ v2 = (-900009) → Q (some (.inl ((σ 16 0 (((v1 ||| ((1 : Int32) <<< (v3 &&& 31))) * 9) + v3).toNatClampNeg) + ((σ 17 0 ((v2 * 9) + v3).toNatClampNeg) * 1048576)))) σ) (h5 : ¬ (σ 16 0 (((v1 ||| ((1 : Int32) <<< (v3 &&& 31))) * 9) + v3).toNatClampNeg) = (-1) → v2 = (-900009) → Q (some (.inl (σ 16 0 (((v1 ||| ((1 : Int32) <<< (v3 &&& 31))) * 9) + v3).toNatClampNeg))) σ) : kX3_restThrough_0 d Q v1 v2 v3 σ := by
  refine ps_aload_n (ps_at tX3_restThrough_ok 0 rfl) rfl rfl ?_
  refine ps_getR (ps_at tX3_restThrough_ok 1 rfl) flX3_9 sh_15 rfl ?_
  refine ps_iload_n (ps_at tX3_restThrough_ok 2 rfl) rfl rfl ?_
  refine ps_iconst (x := 1) (ps_at tX3_restThrough_ok 3 rfl) (by decide) ?_
  refine ps_iload_n (ps_at tX3_restThrough_ok 4 rfl) rfl rfl ?_
  refine ps_ishl (ps_at tX3_restThrough_ok 5 rfl) ?_
  refine ps_ior (ps_at tX3_restThrough_ok 6 rfl) ?_
  refine ps_bipush (x := 9) (ps_at tX3_restThrough_ok 7 rfl) (by decide) ?_
  refine ps_imul (ps_at tX3_restThrough_ok 8 rfl) ?_
  refine ps_iload_n (ps_at tX3_restThrough_ok 9 rfl) rfl rfl ?_
  refine ps_iadd (ps_at tX3_restThrough_ok 10 rfl) ?_
  refine ps_iald (ps_at tX3_restThrough_ok 11 rfl) sh_16 (h1) ?_
  refine ps_istore (L' := [some (.inr (.inr (15, 0))), some (.inl v1), some (.inl v2), some (.inl v3), some (.inl (σ 16 0 (((v1 ||| ((1 : Int32) <<< (v3 &&& 31))) * 9) + v3).toNatClampNeg))]) (ps_at tX3_restThrough_ok 12 rfl) (by decide) rfl ?_
  refine ps_iload (ps_at tX3_restThrough_ok 13 rfl) rfl ?_
  refine ps_iconst (x := (-1)) (ps_at tX3_restThrough_ok 14 rfl) (by decide) ?_
  refine ps_icmp_eq (tgt := 29) (ps_at tX3_restThrough_ok 15 rfl) (by decide) (fun c0 => ?_) (fun c0 => ?_)
  · skip
    refine ps_iload (ps_at tX3_restThrough_ok 19 rfl) rfl ?_
    exact ps_iret (ps_at tX3_restThrough_ok 20 rfl) rfl ⟨rfl, rfl⟩ (h2 c0)
  · skip
    refine ps_iload_n (ps_at tX3_restThrough_ok 16 rfl) rfl rfl ?_
    refine ps_ldc (ps_at tX3_restThrough_ok 17 rfl) cnX3_37 ?_
    refine ps_icmp_ne (tgt := 32) (ps_at tX3_restThrough_ok 18 rfl) (by decide) (fun c1 => ?_) (fun c1 => ?_)
    · skip
      refine ps_iload (ps_at tX3_restThrough_ok 21 rfl) rfl ?_
      refine ps_aload_n (ps_at tX3_restThrough_ok 22 rfl) rfl rfl ?_
      refine ps_getR (ps_at tX3_restThrough_ok 23 rfl) flX3_15 sh_15 rfl ?_
      refine ps_iload_n (ps_at tX3_restThrough_ok 24 rfl) rfl rfl ?_
      refine ps_bipush (x := 9) (ps_at tX3_restThrough_ok 25 rfl) (by decide) ?_
      refine ps_imul (ps_at tX3_restThrough_ok 26 rfl) ?_
      refine ps_iload_n (ps_at tX3_restThrough_ok 27 rfl) rfl rfl ?_
      refine ps_iadd (ps_at tX3_restThrough_ok 28 rfl) ?_
      refine ps_iald (ps_at tX3_restThrough_ok 29 rfl) sh_17 (h3 c0 c1) ?_
      refine ps_ldc (ps_at tX3_restThrough_ok 30 rfl) cnX3_45 ?_
      refine ps_imul (ps_at tX3_restThrough_ok 31 rfl) ?_
      refine ps_iadd (ps_at tX3_restThrough_ok 32 rfl) ?_
      exact ps_iret (ps_at tX3_restThrough_ok 33 rfl) rfl ⟨rfl, rfl⟩ (h4 c0 c1)
    · skip
      refine ps_iload (ps_at tX3_restThrough_ok 19 rfl) rfl ?_
      exact ps_iret (ps_at tX3_restThrough_ok 20 rfl) rfl ⟨rfl, rfl⟩ (h5 c0 c1)
theorem eX3_restThrough {d : Nat} {Q : Option ps_V → ps_S → Prop} {v1 : Int32} {v2 : Int32} {v3 : Int32} {σ : ps_S} (h : kX3_restThrough_0 d Q v1 v2 v3 σ) : ps_C mX3_restThrough d [.inr (.inr (15, 0)), .inl v1, .inl v2, .inl v3] σ Q := ps_enter (by decide) rfl ⟨rfl, rfl, rfl⟩ rfl (Nat.le_of_ble_eq_true rfl) h
theorem pX3_restThrough {d : Nat} {Q : Option ps_V → ps_S → Prop} {v1 : Int32} {v2 : Int32} {v3 : Int32} {σ : ps_S} (h1 : vp_in (((v1 ||| ((1 : Int32) <<< (v3 &&& 31))) * 9) + v3) 4608) (h3 : ¬ (σ 16 0 (((v1 ||| ((1 : Int32) <<< (v3 &&& 31))) * 9) + v3).toNatClampNeg) = (-1) → ¬ v2 = (-900009) → vp_in ((v2 * 9) + v3) 81) (hq : Q (some (.inl (jX3_restThrough σ v1 v2 v3))) σ) : ps_C mX3_restThrough d [.inr (.inr (15, 0)), .inl v1, .inl v2, .inl v3] σ Q := eX3_restThrough (bX3_restThrough_0 h1 (fun c0 => by unfold jX3_restThrough at hq; rw [if_pos c0] at hq; exact hq) h3 (fun c0 c1 => by unfold jX3_restThrough at hq; rw [if_neg c0, if_pos c1] at hq; exact hq) (fun c0 c1 => by unfold jX3_restThrough at hq; rw [if_neg c0, if_neg (fun h => h c1)] at hq; exact hq))
abbrev kX3_join_0 (d : Nat) (Q : Option ps_V → ps_S → Prop) (v0 : Int32) (v1 : Int32) (σ : ps_S) : Prop := ps_K mX3_join (d + 1) (ps_QF Q) 0 [some (.inl v0), some (.inl v1)] [] σ
theorem bX3_join_0 {d : Nat} {Q : Option ps_V → ps_S → Prop} {v0 : Int32} {v1 : Int32} {σ : ps_S} (h1 : v0 = (-1) → Q (some (.inl (jbMax v0 v1))) σ) (h2 : ¬ v0 = (-1) → ¬ v1 = (-1) → (v0 / 1048576) = (v1 / 1048576) → Q (some (.inl (v0 + (v1 - v1 / 1048576 * 1048576)))) σ) (h3 : ¬ v0 = (-1) → ¬ v1 = (-1) → ¬ (v0 / 1048576) = (v1 / 1048576) → Q (some (.inl (jbMin v0 v1))) σ) (h4 : ¬ v0 = (-1) → v1 = (-1) → Q (some (.inl (jbMax v0 v1))) σ) : kX3_join_0 d Q v0 v1 σ := by
  refine ps_iload_n (ps_at tX3_join_ok 0 rfl) rfl rfl ?_
  refine ps_iconst (x := (-1)) (ps_at tX3_join_ok 1 rfl) (by decide) ?_
  refine ps_icmp_eq (tgt := 10) (ps_at tX3_join_ok 2 rfl) (by decide) (fun c0 => ?_) (fun c0 => ?_)
  · skip
    refine ps_iload_n (ps_at tX3_join_ok 6 rfl) rfl rfl ?_
    refine ps_iload_n (ps_at tX3_join_ok 7 rfl) rfl rfl ?_
    refine ps_mmax (ps_at tX3_join_ok 8 rfl) cmX3_87 (fun _ => Nat.le_of_ble_eq_true rfl) ?_
    exact ps_iret (ps_at tX3_join_ok 9 rfl) rfl ⟨rfl, rfl⟩ (h1 c0)
  · skip
    refine ps_iload_n (ps_at tX3_join_ok 3 rfl) rfl rfl ?_
    refine ps_iconst (x := (-1)) (ps_at tX3_join_ok 4 rfl) (by decide) ?_
    refine ps_icmp_ne (tgt := 16) (ps_at tX3_join_ok 5 rfl) (by decide) (fun c1 => ?_) (fun c1 => ?_)
    · skip
      refine ps_iload_n (ps_at tX3_join_ok 10 rfl) rfl rfl ?_
      refine ps_ldc (ps_at tX3_join_ok 11 rfl) cnX3_45 ?_
      refine ps_idiv (ps_at tX3_join_ok 12 rfl) (by decide) ?_
      refine ps_iload_n (ps_at tX3_join_ok 13 rfl) rfl rfl ?_
      refine ps_ldc (ps_at tX3_join_ok 14 rfl) cnX3_45 ?_
      refine ps_idiv (ps_at tX3_join_ok 15 rfl) (by decide) ?_
      refine ps_icmp_eq (tgt := 33) (ps_at tX3_join_ok 16 rfl) (by decide) (fun c2 => ?_) (fun c2 => ?_)
      · skip
        refine ps_iload_n (ps_at tX3_join_ok 21 rfl) rfl rfl ?_
        refine ps_iload_n (ps_at tX3_join_ok 22 rfl) rfl rfl ?_
        refine ps_ldc (ps_at tX3_join_ok 23 rfl) cnX3_45 ?_
        refine ps_irem (ps_at tX3_join_ok 24 rfl) (by decide) ?_
        refine ps_iadd (ps_at tX3_join_ok 25 rfl) ?_
        exact ps_iret (ps_at tX3_join_ok 26 rfl) rfl ⟨rfl, rfl⟩ (h2 c0 c1 c2)
      · skip
        refine ps_iload_n (ps_at tX3_join_ok 17 rfl) rfl rfl ?_
        refine ps_iload_n (ps_at tX3_join_ok 18 rfl) rfl rfl ?_
        refine ps_mmin (ps_at tX3_join_ok 19 rfl) cmX3_92 (fun _ => Nat.le_of_ble_eq_true rfl) ?_
        exact ps_iret (ps_at tX3_join_ok 20 rfl) rfl ⟨rfl, rfl⟩ (h3 c0 c1 c2)
    · skip
      refine ps_iload_n (ps_at tX3_join_ok 6 rfl) rfl rfl ?_
      refine ps_iload_n (ps_at tX3_join_ok 7 rfl) rfl rfl ?_
      refine ps_mmax (ps_at tX3_join_ok 8 rfl) cmX3_87 (fun _ => Nat.le_of_ble_eq_true rfl) ?_
      exact ps_iret (ps_at tX3_join_ok 9 rfl) rfl ⟨rfl, rfl⟩ (h4 c0 c1)
theorem eX3_join {d : Nat} {Q : Option ps_V → ps_S → Prop} {v0 : Int32} {v1 : Int32} {σ : ps_S} (h : kX3_join_0 d Q v0 v1 σ) : ps_C mX3_join (d + 1) [.inl v0, .inl v1] σ Q := ps_enter (by decide) rfl ⟨rfl, rfl, rfl⟩ rfl (Nat.le_of_ble_eq_true rfl) h
theorem pX3_join {d : Nat} {Q : Option ps_V → ps_S → Prop} {v0 : Int32} {v1 : Int32} {σ : ps_S}  (hq : Q (some (.inl (jX3_join σ v0 v1))) σ) : ps_C mX3_join (d + 1) [.inl v0, .inl v1] σ Q := eX3_join (bX3_join_0 (fun c0 => by unfold jX3_join at hq; rw [if_pos c0] at hq; exact hq) (fun c0 c1 c2 => by unfold jX3_join at hq; rw [if_neg c0, if_pos c1, if_pos c2] at hq; exact hq) (fun c0 c1 c2 => by unfold jX3_join at hq; rw [if_neg c0, if_pos c1, if_neg c2] at hq; exact hq) (fun c0 c1 => by unfold jX3_join at hq; rw [if_neg c0, if_neg (fun h => h c1)] at hq; exact hq))
abbrev kX4_hasRoom_0 (d : Nat) (Q : Option ps_V → ps_S → Prop) (v2 : Int32) (v3 : Int32) (σ : ps_S) : Prop := ps_K mX4_hasRoom (d + 1) (ps_QF Q) 0 [some (.inr (.inr (24, 0))), some (.inr (.inr (19, 0))), some (.inl v2), some (.inl v3)] [] σ
theorem bX4_hasRoom_0 {d : Nat} {Q : Option ps_V → ps_S → Prop} {v2 : Int32} {v3 : Int32} {σ : ps_S} (h1 : vp_in v3 6) (h2 : (σ 24 0 5) ≤ (jbPop (σ 29 0 v3.toNatClampNeg)) → Q (some (.inl 0)) σ) (h3 : ¬ (σ 24 0 5) ≤ (jbPop (σ 29 0 v3.toNatClampNeg)) → vp_in v2 6) (h4 : ¬ (σ 24 0 5) ≤ (jbPop (σ 29 0 v3.toNatClampNeg)) → ¬ ((σ 29 0 v3.toNatClampNeg) &&& (σ 22 0 v2.toNatClampNeg)) = 0 → Q (some (.inl 0)) σ) (h5 : ¬ (σ 24 0 5) ≤ (jbPop (σ 29 0 v3.toNatClampNeg)) → ((σ 29 0 v3.toNatClampNeg) &&& (σ 22 0 v2.toNatClampNeg)) = 0 → Q (some (.inl 1)) σ) : kX4_hasRoom_0 d Q v2 v3 σ := by
  refine ps_aload_n (ps_at tX4_hasRoom_ok 0 rfl) rfl rfl ?_
  refine ps_getR (ps_at tX4_hasRoom_ok 1 rfl) flX4_24 sh_24 rfl ?_
  refine ps_iload_n (ps_at tX4_hasRoom_ok 2 rfl) rfl rfl ?_
  refine ps_iald (ps_at tX4_hasRoom_ok 3 rfl) sh_29 (h1) ?_
  refine ps_callS (M2 := mJ6_bitCount_0f7a4) (av := [.inl (σ 29 0 v3.toNatClampNeg)]) (rest := []) (ps_at tX4_hasRoom_ok 4 rfl) csX4_64 rfl rfl (fun _ => Nat.le_of_ble_eq_true rfl) (pJ6_bitCount_0f7a4 ?_)
  refine ps_aload_n (ps_at tX4_hasRoom_ok 5 rfl) rfl rfl ?_
  refine ps_getI (ps_at tX4_hasRoom_ok 6 rfl) flX4_27 sh_24 rfl ?_
  refine ps_icmp_ge (tgt := 36) (ps_at tX4_hasRoom_ok 7 rfl) (by decide) (fun c0 => ?_) (fun c0 => ?_)
  · skip
    refine ps_iconst (x := 0) (ps_at tX4_hasRoom_ok 20 rfl) (by decide) ?_
    exact ps_zret (ps_at tX4_hasRoom_ok 21 rfl) rfl ⟨rfl, rfl⟩ (Or.inl rfl) (h2 c0)
  · skip
    refine ps_aload_n (ps_at tX4_hasRoom_ok 8 rfl) rfl rfl ?_
    refine ps_getR (ps_at tX4_hasRoom_ok 9 rfl) flX4_24 sh_24 rfl ?_
    refine ps_iload_n (ps_at tX4_hasRoom_ok 10 rfl) rfl rfl ?_
    refine ps_iald (ps_at tX4_hasRoom_ok 11 rfl) sh_29 (h1) ?_
    refine ps_aload_n (ps_at tX4_hasRoom_ok 12 rfl) rfl rfl ?_
    refine ps_getR (ps_at tX4_hasRoom_ok 13 rfl) flX4_70 sh_19 rfl ?_
    refine ps_iload_n (ps_at tX4_hasRoom_ok 14 rfl) rfl rfl ?_
    refine ps_iald (ps_at tX4_hasRoom_ok 15 rfl) sh_22 (h3 c0) ?_
    refine ps_iand (ps_at tX4_hasRoom_ok 16 rfl) ?_
    refine ps_if_ne (tgt := 36) (ps_at tX4_hasRoom_ok 17 rfl) (by decide) (fun c1 => ?_) (fun c1 => ?_)
    · skip
      refine ps_iconst (x := 0) (ps_at tX4_hasRoom_ok 20 rfl) (by decide) ?_
      exact ps_zret (ps_at tX4_hasRoom_ok 21 rfl) rfl ⟨rfl, rfl⟩ (Or.inl rfl) (h4 c0 c1)
    · skip
      refine ps_iconst (x := 1) (ps_at tX4_hasRoom_ok 18 rfl) (by decide) ?_
      refine ps_goto (tgt := 37) (ps_at tX4_hasRoom_ok 19 rfl) (by decide) ?_
      exact ps_zret (ps_at tX4_hasRoom_ok 21 rfl) rfl ⟨rfl, rfl⟩ (Or.inr rfl) (h5 c0 c1)
theorem eX4_hasRoom {d : Nat} {Q : Option ps_V → ps_S → Prop} {v2 : Int32} {v3 : Int32} {σ : ps_S} (h : kX4_hasRoom_0 d Q v2 v3 σ) : ps_C mX4_hasRoom (d + 1) [.inr (.inr (24, 0)), .inr (.inr (19, 0)), .inl v2, .inl v3] σ Q := ps_enter (by decide) rfl ⟨rfl, rfl, rfl⟩ rfl (Nat.le_of_ble_eq_true rfl) h
theorem pX4_hasRoom {d : Nat} {Q : Option ps_V → ps_S → Prop} {v2 : Int32} {v3 : Int32} {σ : ps_S} (h1 : vp_in v3 6) (h3 : ¬ (σ 24 0 5) ≤ (jbPop (σ 29 0 v3.toNatClampNeg)) → vp_in v2 6) (hq : Q (some (.inl (jX4_hasRoom σ v2 v3))) σ) : ps_C mX4_hasRoom (d + 1) [.inr (.inr (24, 0)), .inr (.inr (19, 0)), .inl v2, .inl v3] σ Q := eX4_hasRoom (bX4_hasRoom_0 h1 (fun c0 => by unfold jX4_hasRoom at hq; rw [if_pos c0] at hq; exact hq) h3 (fun c0 c1 => by unfold jX4_hasRoom at hq; rw [if_neg c0, if_pos c1] at hq; exact hq) (fun c0 c1 => by unfold jX4_hasRoom at hq; rw [if_neg c0, if_neg (fun h => h c1)] at hq; exact hq))
theorem btX4_hasRoom (σ : ps_S) (v2 : Int32) (v3 : Int32) : jX4_hasRoom σ v2 v3 = 0 ∨ jX4_hasRoom σ v2 v3 = 1 := by unfold jX4_hasRoom; first | exact ps_bitW _ _ | exact ps_bitI _ _ _ | (repeat (first | split | simp))
abbrev kX6_isTold_0 (d : Nat) (Q : Option ps_V → ps_S → Prop) (v1 : Int32) (σ : ps_S) : Prop := ps_K mX6_isTold d (ps_QF Q) 0 [some (.inr (.inr (19, 0))), some (.inl v1)] [] σ
theorem bX6_isTold_0 {d : Nat} {Q : Option ps_V → ps_S → Prop} {v1 : Int32} {σ : ps_S} (h1 : (((σ 19 0 3) >>> (v1 &&& 31)) &&& 1) = 0 → Q (some (.inl 0)) σ) (h2 : ¬ (((σ 19 0 3) >>> (v1 &&& 31)) &&& 1) = 0 → Q (some (.inl 1)) σ) : kX6_isTold_0 d Q v1 σ := by
  refine ps_aload_n (ps_at tX6_isTold_ok 0 rfl) rfl rfl ?_
  refine ps_getI (ps_at tX6_isTold_ok 1 rfl) flX6_37 sh_19 rfl ?_
  refine ps_iload_n (ps_at tX6_isTold_ok 2 rfl) rfl rfl ?_
  refine ps_ishr (ps_at tX6_isTold_ok 3 rfl) ?_
  refine ps_iconst (x := 1) (ps_at tX6_isTold_ok 4 rfl) (by decide) ?_
  refine ps_iand (ps_at tX6_isTold_ok 5 rfl) ?_
  refine ps_if_eq (tgt := 15) (ps_at tX6_isTold_ok 6 rfl) (by decide) (fun c0 => ?_) (fun c0 => ?_)
  · skip
    refine ps_iconst (x := 0) (ps_at tX6_isTold_ok 9 rfl) (by decide) ?_
    exact ps_zret (ps_at tX6_isTold_ok 10 rfl) rfl ⟨rfl, rfl⟩ (Or.inl rfl) (h1 c0)
  · skip
    refine ps_iconst (x := 1) (ps_at tX6_isTold_ok 7 rfl) (by decide) ?_
    refine ps_goto (tgt := 16) (ps_at tX6_isTold_ok 8 rfl) (by decide) ?_
    exact ps_zret (ps_at tX6_isTold_ok 10 rfl) rfl ⟨rfl, rfl⟩ (Or.inr rfl) (h2 c0)
theorem eX6_isTold {d : Nat} {Q : Option ps_V → ps_S → Prop} {v1 : Int32} {σ : ps_S} (h : kX6_isTold_0 d Q v1 σ) : ps_C mX6_isTold d [.inr (.inr (19, 0)), .inl v1] σ Q := ps_enter (by decide) rfl ⟨rfl, rfl, rfl⟩ rfl (Nat.le_of_ble_eq_true rfl) h
theorem pX6_isTold {d : Nat} {Q : Option ps_V → ps_S → Prop} {v1 : Int32} {σ : ps_S}  (hq : Q (some (.inl (jX6_isTold σ v1))) σ) : ps_C mX6_isTold d [.inr (.inr (19, 0)), .inl v1] σ Q := eX6_isTold (bX6_isTold_0 (fun c0 => by unfold jX6_isTold at hq; rw [if_pos c0] at hq; exact hq) (fun c0 => by unfold jX6_isTold at hq; rw [if_neg c0] at hq; exact hq))
theorem btX6_isTold (σ : ps_S) (v1 : Int32) : jX6_isTold σ v1 = 0 ∨ jX6_isTold σ v1 = 1 := by unfold jX6_isTold; first | exact ps_bitW _ _ | exact ps_bitI _ _ _ | (repeat (first | split | simp))
abbrev kX7_isMan_0 (d : Nat) (Q : Option ps_V → ps_S → Prop) (v1 : Int32) (σ : ps_S) : Prop := ps_K mX7_isMan (d + 1) (ps_QF Q) 0 [some (.inr (.inr (1, 0))), some (.inl v1)] [] σ
theorem bX7_isMan_0 {d : Nat} {Q : Option ps_V → ps_S → Prop} {v1 : Int32} {σ : ps_S} (h1 : Q (some (.inl (jbWi v1 (σ 36 0 2)))) σ) : kX7_isMan_0 d Q v1 σ := by
  refine ps_iload_n (ps_at tX7_isMan_ok 0 rfl) rfl rfl ?_
  refine ps_aload_n (ps_at tX7_isMan_ok 1 rfl) rfl rfl ?_
  refine ps_getR (ps_at tX7_isMan_ok 2 rfl) flX7_54 sh_1 rfl ?_
  refine ps_getI (ps_at tX7_isMan_ok 3 rfl) flX7_235 sh_36 rfl ?_
  refine ps_callS (M2 := mX7_within) (av := [.inl v1, .inl (σ 36 0 2)]) (rest := []) (ps_at tX7_isMan_ok 4 rfl) csX7_65 rfl rfl (fun _ => Nat.le_of_ble_eq_true rfl) (pX7_within ?_)
  exact ps_zret (ps_at tX7_isMan_ok 5 rfl) rfl ⟨rfl, rfl⟩ (ps_bitW _ _) (h1)
theorem eX7_isMan {d : Nat} {Q : Option ps_V → ps_S → Prop} {v1 : Int32} {σ : ps_S} (h : kX7_isMan_0 d Q v1 σ) : ps_C mX7_isMan (d + 1) [.inr (.inr (1, 0)), .inl v1] σ Q := ps_enter (by decide) rfl ⟨rfl, rfl, rfl⟩ rfl (Nat.le_of_ble_eq_true rfl) h
theorem pX7_isMan {d : Nat} {Q : Option ps_V → ps_S → Prop} {v1 : Int32} {σ : ps_S}  (hq : Q (some (.inl (jX7_isMan σ v1))) σ) : ps_C mX7_isMan (d + 1) [.inr (.inr (1, 0)), .inl v1] σ Q := eX7_isMan (bX7_isMan_0 (by unfold jX7_isMan at hq; exact hq))
theorem btX7_isMan (σ : ps_S) (v1 : Int32) : jX7_isMan σ v1 = 0 ∨ jX7_isMan σ v1 = 1 := by unfold jX7_isMan; first | exact ps_bitW _ _ | exact ps_bitI _ _ _ | (repeat (first | split | simp))
abbrev kX7_isPage_0 (d : Nat) (Q : Option ps_V → ps_S → Prop) (v1 : Int32) (σ : ps_S) : Prop := ps_K mX7_isPage (d + 1) (ps_QF Q) 0 [some (.inr (.inr (1, 0))), some (.inl v1)] [] σ
theorem bX7_isPage_0 {d : Nat} {Q : Option ps_V → ps_S → Prop} {v1 : Int32} {σ : ps_S} (h1 : Q (some (.inl (jbWi v1 (σ 36 0 3)))) σ) : kX7_isPage_0 d Q v1 σ := by
  refine ps_iload_n (ps_at tX7_isPage_ok 0 rfl) rfl rfl ?_
  refine ps_aload_n (ps_at tX7_isPage_ok 1 rfl) rfl rfl ?_
  refine ps_getR (ps_at tX7_isPage_ok 2 rfl) flX7_54 sh_1 rfl ?_
  refine ps_getI (ps_at tX7_isPage_ok 3 rfl) flX7_238 sh_36 rfl ?_
  refine ps_callS (M2 := mX7_within) (av := [.inl v1, .inl (σ 36 0 3)]) (rest := []) (ps_at tX7_isPage_ok 4 rfl) csX7_65 rfl rfl (fun _ => Nat.le_of_ble_eq_true rfl) (pX7_within ?_)
  exact ps_zret (ps_at tX7_isPage_ok 5 rfl) rfl ⟨rfl, rfl⟩ (ps_bitW _ _) (h1)
theorem eX7_isPage {d : Nat} {Q : Option ps_V → ps_S → Prop} {v1 : Int32} {σ : ps_S} (h : kX7_isPage_0 d Q v1 σ) : ps_C mX7_isPage (d + 1) [.inr (.inr (1, 0)), .inl v1] σ Q := ps_enter (by decide) rfl ⟨rfl, rfl, rfl⟩ rfl (Nat.le_of_ble_eq_true rfl) h
theorem pX7_isPage {d : Nat} {Q : Option ps_V → ps_S → Prop} {v1 : Int32} {σ : ps_S}  (hq : Q (some (.inl (jX7_isPage σ v1))) σ) : ps_C mX7_isPage (d + 1) [.inr (.inr (1, 0)), .inl v1] σ Q := eX7_isPage (bX7_isPage_0 (by unfold jX7_isPage at hq; exact hq))
theorem btX7_isPage (σ : ps_S) (v1 : Int32) : jX7_isPage σ v1 = 0 ∨ jX7_isPage σ v1 = 1 := by unfold jX7_isPage; first | exact ps_bitW _ _ | exact ps_bitI _ _ _ | (repeat (first | split | simp))
abbrev kX8_letterAt_0 (d : Nat) (Q : Option ps_V → ps_S → Prop) (v1 : Int32) (v2 : Int32) (v3 : Int32) (σ : ps_S) : Prop := ps_K mX8_letterAt d (ps_QF Q) 0 [some (.inr (.inr (50, 0))), some (.inl v1), some (.inl v2), some (.inl v3)] [] σ
theorem bX8_letterAt_0 {d : Nat} {Q : Option ps_V → ps_S → Prop} {v1 : Int32} {v2 : Int32} {v3 : Int32} {σ : ps_S} (h1 : vp_in (((54 * v1) + (6 * v2)) + v3) 324) (h2 : Q (some (.inl (σ 51 0 (((54 * v1) + (6 * v2)) + v3).toNatClampNeg))) σ) : kX8_letterAt_0 d Q v1 v2 v3 σ := by
  refine ps_aload_n (ps_at tX8_letterAt_ok 0 rfl) rfl rfl ?_
  refine ps_getR (ps_at tX8_letterAt_ok 1 rfl) flX8_7 sh_50 rfl ?_
  refine ps_bipush (x := 54) (ps_at tX8_letterAt_ok 2 rfl) (by decide) ?_
  refine ps_iload_n (ps_at tX8_letterAt_ok 3 rfl) rfl rfl ?_
  refine ps_imul (ps_at tX8_letterAt_ok 4 rfl) ?_
  refine ps_bipush (x := 6) (ps_at tX8_letterAt_ok 5 rfl) (by decide) ?_
  refine ps_iload_n (ps_at tX8_letterAt_ok 6 rfl) rfl rfl ?_
  refine ps_imul (ps_at tX8_letterAt_ok 7 rfl) ?_
  refine ps_iadd (ps_at tX8_letterAt_ok 8 rfl) ?_
  refine ps_iload_n (ps_at tX8_letterAt_ok 9 rfl) rfl rfl ?_
  refine ps_iadd (ps_at tX8_letterAt_ok 10 rfl) ?_
  refine ps_iald (ps_at tX8_letterAt_ok 11 rfl) sh_51 (h1) ?_
  exact ps_iret (ps_at tX8_letterAt_ok 12 rfl) rfl ⟨rfl, rfl⟩ (h2)
theorem eX8_letterAt {d : Nat} {Q : Option ps_V → ps_S → Prop} {v1 : Int32} {v2 : Int32} {v3 : Int32} {σ : ps_S} (h : kX8_letterAt_0 d Q v1 v2 v3 σ) : ps_C mX8_letterAt d [.inr (.inr (50, 0)), .inl v1, .inl v2, .inl v3] σ Q := ps_enter (by decide) rfl ⟨rfl, rfl, rfl⟩ rfl (Nat.le_of_ble_eq_true rfl) h
theorem pX8_letterAt {d : Nat} {Q : Option ps_V → ps_S → Prop} {v1 : Int32} {v2 : Int32} {v3 : Int32} {σ : ps_S} (h1 : vp_in (((54 * v1) + (6 * v2)) + v3) 324) (hq : Q (some (.inl (jX8_letterAt σ v1 v2 v3))) σ) : ps_C mX8_letterAt d [.inr (.inr (50, 0)), .inl v1, .inl v2, .inl v3] σ Q := eX8_letterAt (bX8_letterAt_0 h1 (by unfold jX8_letterAt at hq; exact hq))
abbrev kX8_isNext_0 (d : Nat) (Q : Option ps_V → ps_S → Prop) (v1 : Int32) (v2 : Int32) (v3 : Int32) (σ : ps_S) : Prop := ps_K mX8_isNext d (ps_QF Q) 0 [some (.inr (.inr (50, 0))), some (.inl v1), some (.inl v2), some (.inl v3), none] [] σ
theorem bX8_isNext_0 {d : Nat} {Q : Option ps_V → ps_S → Prop} {v1 : Int32} {v2 : Int32} {v3 : Int32} {σ : ps_S} (h1 : ¬ ((v1 >>> (v3 &&& 31)) &&& 1) = 0 → Q (some (.inl 0)) σ) (h2 : ((v1 >>> (v3 &&& 31)) &&& 1) = 0 → vp_in v3 9) (h3 : ((v1 >>> (v3 &&& 31)) &&& 1) = 0 → ¬ ((σ 59 0 v3.toNatClampNeg) &&& (v1 ^^^ (-1))) = 0 → Q (some (.inl 0)) σ) (h4 : ((v1 >>> (v3 &&& 31)) &&& 1) = 0 → ((σ 59 0 v3.toNatClampNeg) &&& (v1 ^^^ (-1))) = 0 → vp_in ((9 * v2) + v3) 81) (h5 : ((v1 >>> (v3 &&& 31)) &&& 1) = 0 → ((σ 59 0 v3.toNatClampNeg) &&& (v1 ^^^ (-1))) = 0 → vp_in ((9 * (v1 ||| ((1 : Int32) <<< (v3 &&& 31)))) + v3) 4608) (h6 : ((v1 >>> (v3 &&& 31)) &&& 1) = 0 → ((σ 59 0 v3.toNatClampNeg) &&& (v1 ^^^ (-1))) = 0 → vp_in ((9 * v1) + v2) 4608) (h7 : ((v1 >>> (v3 &&& 31)) &&& 1) = 0 → ((σ 59 0 v3.toNatClampNeg) &&& (v1 ^^^ (-1))) = 0 → ¬ ((σ 60 0 ((9 * v2) + v3).toNatClampNeg) + (σ 61 0 ((9 * (v1 ||| ((1 : Int32) <<< (v3 &&& 31)))) + v3).toNatClampNeg)) = (σ 61 0 ((9 * v1) + v2).toNatClampNeg) → Q (some (.inl 0)) σ) (h8 : ((v1 >>> (v3 &&& 31)) &&& 1) = 0 → ((σ 59 0 v3.toNatClampNeg) &&& (v1 ^^^ (-1))) = 0 → ((σ 60 0 ((9 * v2) + v3).toNatClampNeg) + (σ 61 0 ((9 * (v1 ||| ((1 : Int32) <<< (v3 &&& 31)))) + v3).toNatClampNeg)) = (σ 61 0 ((9 * v1) + v2).toNatClampNeg) → Q (some (.inl 1)) σ) : kX8_isNext_0 d Q v1 v2 v3 σ := by
  refine ps_iload_n (ps_at tX8_isNext_ok 0 rfl) rfl rfl ?_
  refine ps_iload_n (ps_at tX8_isNext_ok 1 rfl) rfl rfl ?_
  refine ps_ishr (ps_at tX8_isNext_ok 2 rfl) ?_
  refine ps_iconst (x := 1) (ps_at tX8_isNext_ok 3 rfl) (by decide) ?_
  refine ps_iand (ps_at tX8_isNext_ok 4 rfl) ?_
  refine ps_if_ne (tgt := 25) (ps_at tX8_isNext_ok 5 rfl) (by decide) (fun c0 => ?_) (fun c0 => ?_)
  · skip
    refine ps_iconst (x := 0) (ps_at tX8_isNext_ok 17 rfl) (by decide) ?_
    refine ps_istore (L' := [some (.inr (.inr (50, 0))), some (.inl v1), some (.inl v2), some (.inl v3), some (.inl 0)]) (ps_at tX8_isNext_ok 18 rfl) (by decide) rfl ?_
    refine ps_iload (ps_at tX8_isNext_ok 19 rfl) rfl ?_
    refine ps_if_eq (tgt := 78) (ps_at tX8_isNext_ok 20 rfl) (by decide) (fun cx => ?_) (fun cx => ?_)
    rotate_left
    · exact absurd cx (by decide)
    refine ps_iconst (x := 0) (ps_at tX8_isNext_ok 53 rfl) (by decide) ?_
    exact ps_zret (ps_at tX8_isNext_ok 54 rfl) rfl ⟨rfl, rfl⟩ (Or.inl rfl) (h1 c0)
  · skip
    refine ps_aload_n (ps_at tX8_isNext_ok 6 rfl) rfl rfl ?_
    refine ps_getR (ps_at tX8_isNext_ok 7 rfl) flX8_32 sh_50 rfl ?_
    refine ps_iload_n (ps_at tX8_isNext_ok 8 rfl) rfl rfl ?_
    refine ps_iald (ps_at tX8_isNext_ok 9 rfl) sh_59 (h2 c0) ?_
    refine ps_iload_n (ps_at tX8_isNext_ok 10 rfl) rfl rfl ?_
    refine ps_iconst (x := (-1)) (ps_at tX8_isNext_ok 11 rfl) (by decide) ?_
    refine ps_ixor (ps_at tX8_isNext_ok 12 rfl) ?_
    refine ps_iand (ps_at tX8_isNext_ok 13 rfl) ?_
    refine ps_if_ne (tgt := 25) (ps_at tX8_isNext_ok 14 rfl) (by decide) (fun c1 => ?_) (fun c1 => ?_)
    · skip
      refine ps_iconst (x := 0) (ps_at tX8_isNext_ok 17 rfl) (by decide) ?_
      refine ps_istore (L' := [some (.inr (.inr (50, 0))), some (.inl v1), some (.inl v2), some (.inl v3), some (.inl 0)]) (ps_at tX8_isNext_ok 18 rfl) (by decide) rfl ?_
      refine ps_iload (ps_at tX8_isNext_ok 19 rfl) rfl ?_
      refine ps_if_eq (tgt := 78) (ps_at tX8_isNext_ok 20 rfl) (by decide) (fun cx => ?_) (fun cx => ?_)
      rotate_left
      · exact absurd cx (by decide)
      refine ps_iconst (x := 0) (ps_at tX8_isNext_ok 53 rfl) (by decide) ?_
      exact ps_zret (ps_at tX8_isNext_ok 54 rfl) rfl ⟨rfl, rfl⟩ (Or.inl rfl) (h3 c0 c1)
    · skip
      refine ps_iconst (x := 1) (ps_at tX8_isNext_ok 15 rfl) (by decide) ?_
      refine ps_goto (tgt := 26) (ps_at tX8_isNext_ok 16 rfl) (by decide) ?_
      refine ps_istore (L' := [some (.inr (.inr (50, 0))), some (.inl v1), some (.inl v2), some (.inl v3), some (.inl 1)]) (ps_at tX8_isNext_ok 18 rfl) (by decide) rfl ?_
      refine ps_iload (ps_at tX8_isNext_ok 19 rfl) rfl ?_
      refine ps_if_eq (tgt := 78) (ps_at tX8_isNext_ok 20 rfl) (by decide) (fun cx => ?_) (fun cx => ?_)
      · exact absurd cx (by decide)
      refine ps_aload_n (ps_at tX8_isNext_ok 21 rfl) rfl rfl ?_
      refine ps_getR (ps_at tX8_isNext_ok 22 rfl) flX8_35 sh_50 rfl ?_
      refine ps_bipush (x := 9) (ps_at tX8_isNext_ok 23 rfl) (by decide) ?_
      refine ps_iload_n (ps_at tX8_isNext_ok 24 rfl) rfl rfl ?_
      refine ps_imul (ps_at tX8_isNext_ok 25 rfl) ?_
      refine ps_iload_n (ps_at tX8_isNext_ok 26 rfl) rfl rfl ?_
      refine ps_iadd (ps_at tX8_isNext_ok 27 rfl) ?_
      refine ps_iald (ps_at tX8_isNext_ok 28 rfl) sh_60 (h4 c0 c1) ?_
      refine ps_aload_n (ps_at tX8_isNext_ok 29 rfl) rfl rfl ?_
      refine ps_getR (ps_at tX8_isNext_ok 30 rfl) flX8_38 sh_50 rfl ?_
      refine ps_bipush (x := 9) (ps_at tX8_isNext_ok 31 rfl) (by decide) ?_
      refine ps_iload_n (ps_at tX8_isNext_ok 32 rfl) rfl rfl ?_
      refine ps_iconst (x := 1) (ps_at tX8_isNext_ok 33 rfl) (by decide) ?_
      refine ps_iload_n (ps_at tX8_isNext_ok 34 rfl) rfl rfl ?_
      refine ps_ishl (ps_at tX8_isNext_ok 35 rfl) ?_
      refine ps_ior (ps_at tX8_isNext_ok 36 rfl) ?_
      refine ps_imul (ps_at tX8_isNext_ok 37 rfl) ?_
      refine ps_iload_n (ps_at tX8_isNext_ok 38 rfl) rfl rfl ?_
      refine ps_iadd (ps_at tX8_isNext_ok 39 rfl) ?_
      refine ps_iald (ps_at tX8_isNext_ok 40 rfl) sh_61 (h5 c0 c1) ?_
      refine ps_iadd (ps_at tX8_isNext_ok 41 rfl) ?_
      refine ps_aload_n (ps_at tX8_isNext_ok 42 rfl) rfl rfl ?_
      refine ps_getR (ps_at tX8_isNext_ok 43 rfl) flX8_38 sh_50 rfl ?_
      refine ps_bipush (x := 9) (ps_at tX8_isNext_ok 44 rfl) (by decide) ?_
      refine ps_iload_n (ps_at tX8_isNext_ok 45 rfl) rfl rfl ?_
      refine ps_imul (ps_at tX8_isNext_ok 46 rfl) ?_
      refine ps_iload_n (ps_at tX8_isNext_ok 47 rfl) rfl rfl ?_
      refine ps_iadd (ps_at tX8_isNext_ok 48 rfl) ?_
      refine ps_iald (ps_at tX8_isNext_ok 49 rfl) sh_61 (h6 c0 c1) ?_
      refine ps_icmp_ne (tgt := 78) (ps_at tX8_isNext_ok 50 rfl) (by decide) (fun c2 => ?_) (fun c2 => ?_)
      · skip
        refine ps_iconst (x := 0) (ps_at tX8_isNext_ok 53 rfl) (by decide) ?_
        exact ps_zret (ps_at tX8_isNext_ok 54 rfl) rfl ⟨rfl, rfl⟩ (Or.inl rfl) (h7 c0 c1 c2)
      · skip
        refine ps_iconst (x := 1) (ps_at tX8_isNext_ok 51 rfl) (by decide) ?_
        refine ps_goto (tgt := 79) (ps_at tX8_isNext_ok 52 rfl) (by decide) ?_
        exact ps_zret (ps_at tX8_isNext_ok 54 rfl) rfl ⟨rfl, rfl⟩ (Or.inr rfl) (h8 c0 c1 c2)
theorem eX8_isNext {d : Nat} {Q : Option ps_V → ps_S → Prop} {v1 : Int32} {v2 : Int32} {v3 : Int32} {σ : ps_S} (h : kX8_isNext_0 d Q v1 v2 v3 σ) : ps_C mX8_isNext d [.inr (.inr (50, 0)), .inl v1, .inl v2, .inl v3] σ Q := ps_enter (by decide) rfl ⟨rfl, rfl, rfl⟩ rfl (Nat.le_of_ble_eq_true rfl) h
theorem pX8_isNext {d : Nat} {Q : Option ps_V → ps_S → Prop} {v1 : Int32} {v2 : Int32} {v3 : Int32} {σ : ps_S} (h2 : ((v1 >>> (v3 &&& 31)) &&& 1) = 0 → vp_in v3 9) (h4 : ((v1 >>> (v3 &&& 31)) &&& 1) = 0 → ((σ 59 0 v3.toNatClampNeg) &&& (v1 ^^^ (-1))) = 0 → vp_in ((9 * v2) + v3) 81) (h5 : ((v1 >>> (v3 &&& 31)) &&& 1) = 0 → ((σ 59 0 v3.toNatClampNeg) &&& (v1 ^^^ (-1))) = 0 → vp_in ((9 * (v1 ||| ((1 : Int32) <<< (v3 &&& 31)))) + v3) 4608) (h6 : ((v1 >>> (v3 &&& 31)) &&& 1) = 0 → ((σ 59 0 v3.toNatClampNeg) &&& (v1 ^^^ (-1))) = 0 → vp_in ((9 * v1) + v2) 4608) (hq : Q (some (.inl (jX8_isNext σ v1 v2 v3))) σ) : ps_C mX8_isNext d [.inr (.inr (50, 0)), .inl v1, .inl v2, .inl v3] σ Q := eX8_isNext (bX8_isNext_0 (fun c0 => by unfold jX8_isNext at hq; rw [if_pos c0] at hq; exact hq) h2 (fun c0 c1 => by unfold jX8_isNext at hq; rw [if_neg (fun h => h c0), if_pos c1] at hq; exact hq) h4 h5 h6 (fun c0 c1 c2 => by unfold jX8_isNext at hq; rw [if_neg (fun h => h c0), if_neg (fun h => h c1), if_pos c2] at hq; exact hq) (fun c0 c1 c2 => by unfold jX8_isNext at hq; rw [if_neg (fun h => h c0), if_neg (fun h => h c1), if_neg (fun h => h c2)] at hq; exact hq))
theorem btX8_isNext (σ : ps_S) (v1 : Int32) (v2 : Int32) (v3 : Int32) : jX8_isNext σ v1 v2 v3 = 0 ∨ jX8_isNext σ v1 v2 v3 = 1 := by unfold jX8_isNext; first | exact ps_bitW _ _ | exact ps_bitI _ _ _ | (repeat (first | split | simp))
abbrev kX8_heaps_0 (d : Nat) (Q : Option ps_V → ps_S → Prop) (v1 : Int32) (σ : ps_S) : Prop := ps_K mX8_heaps d (ps_QF Q) 0 [some (.inr (.inr (50, 0))), some (.inl v1)] [] σ
theorem bX8_heaps_0 {d : Nat} {Q : Option ps_V → ps_S → Prop} {v1 : Int32} {σ : ps_S} (h1 : vp_in v1 6) (h2 : ¬ (σ 50 0 20) = 0) (h3 : Q (some (.inl ((((σ 68 0 v1.toNatClampNeg) + (σ 50 0 20)) - 1) / (σ 50 0 20)))) σ) : kX8_heaps_0 d Q v1 σ := by
  refine ps_aload_n (ps_at tX8_heaps_ok 0 rfl) rfl rfl ?_
  refine ps_getR (ps_at tX8_heaps_ok 1 rfl) flX8_60 sh_50 rfl ?_
  refine ps_iload_n (ps_at tX8_heaps_ok 2 rfl) rfl rfl ?_
  refine ps_iald (ps_at tX8_heaps_ok 3 rfl) sh_68 (h1) ?_
  refine ps_aload_n (ps_at tX8_heaps_ok 4 rfl) rfl rfl ?_
  refine ps_getI (ps_at tX8_heaps_ok 5 rfl) flX8_69 sh_50 rfl ?_
  refine ps_iadd (ps_at tX8_heaps_ok 6 rfl) ?_
  refine ps_iconst (x := 1) (ps_at tX8_heaps_ok 7 rfl) (by decide) ?_
  refine ps_isub (ps_at tX8_heaps_ok 8 rfl) ?_
  refine ps_aload_n (ps_at tX8_heaps_ok 9 rfl) rfl rfl ?_
  refine ps_getI (ps_at tX8_heaps_ok 10 rfl) flX8_69 sh_50 rfl ?_
  refine ps_idiv (ps_at tX8_heaps_ok 11 rfl) (h2) ?_
  exact ps_iret (ps_at tX8_heaps_ok 12 rfl) rfl ⟨rfl, rfl⟩ (h3)
theorem eX8_heaps {d : Nat} {Q : Option ps_V → ps_S → Prop} {v1 : Int32} {σ : ps_S} (h : kX8_heaps_0 d Q v1 σ) : ps_C mX8_heaps d [.inr (.inr (50, 0)), .inl v1] σ Q := ps_enter (by decide) rfl ⟨rfl, rfl, rfl⟩ rfl (Nat.le_of_ble_eq_true rfl) h
theorem pX8_heaps {d : Nat} {Q : Option ps_V → ps_S → Prop} {v1 : Int32} {σ : ps_S} (h1 : vp_in v1 6) (h2 : ¬ (σ 50 0 20) = 0) (hq : Q (some (.inl (jX8_heaps σ v1))) σ) : ps_C mX8_heaps d [.inr (.inr (50, 0)), .inl v1] σ Q := eX8_heaps (bX8_heaps_0 h1 h2 (by unfold jX8_heaps at hq; exact hq))
abbrev kX8_heapEnd_0 (d : Nat) (Q : Option ps_V → ps_S → Prop) (v1 : Int32) (v2 : Int32) (σ : ps_S) : Prop := ps_K mX8_heapEnd d (ps_QF Q) 0 [some (.inr (.inr (50, 0))), some (.inl v1), some (.inl v2), none] [] σ
theorem bX8_heapEnd_0 {d : Nat} {Q : Option ps_V → ps_S → Prop} {v1 : Int32} {v2 : Int32} {σ : ps_S} (h1 : vp_in v1 6) (h2 : (σ 68 0 v1.toNatClampNeg) ≤ ((v2 * (σ 50 0 20)) + (σ 50 0 20)) → Q (some (.inl (σ 68 0 v1.toNatClampNeg))) σ) (h3 : ¬ (σ 68 0 v1.toNatClampNeg) ≤ ((v2 * (σ 50 0 20)) + (σ 50 0 20)) → Q (some (.inl ((v2 * (σ 50 0 20)) + (σ 50 0 20)))) σ) : kX8_heapEnd_0 d Q v1 v2 σ := by
  refine ps_iload_n (ps_at tX8_heapEnd_ok 0 rfl) rfl rfl ?_
  refine ps_aload_n (ps_at tX8_heapEnd_ok 1 rfl) rfl rfl ?_
  refine ps_getI (ps_at tX8_heapEnd_ok 2 rfl) flX8_69 sh_50 rfl ?_
  refine ps_imul (ps_at tX8_heapEnd_ok 3 rfl) ?_
  refine ps_aload_n (ps_at tX8_heapEnd_ok 4 rfl) rfl rfl ?_
  refine ps_getI (ps_at tX8_heapEnd_ok 5 rfl) flX8_69 sh_50 rfl ?_
  refine ps_iadd (ps_at tX8_heapEnd_ok 6 rfl) ?_
  refine ps_istore_n (L' := [some (.inr (.inr (50, 0))), some (.inl v1), some (.inl v2), some (.inl ((v2 * (σ 50 0 20)) + (σ 50 0 20)))]) (ps_at tX8_heapEnd_ok 7 rfl) rfl (by decide) rfl ?_
  refine ps_iload_n (ps_at tX8_heapEnd_ok 8 rfl) rfl rfl ?_
  refine ps_aload_n (ps_at tX8_heapEnd_ok 9 rfl) rfl rfl ?_
  refine ps_getR (ps_at tX8_heapEnd_ok 10 rfl) flX8_60 sh_50 rfl ?_
  refine ps_iload_n (ps_at tX8_heapEnd_ok 11 rfl) rfl rfl ?_
  refine ps_iald (ps_at tX8_heapEnd_ok 12 rfl) sh_68 (h1) ?_
  refine ps_icmp_ge (tgt := 26) (ps_at tX8_heapEnd_ok 13 rfl) (by decide) (fun c0 => ?_) (fun c0 => ?_)
  · skip
    refine ps_aload_n (ps_at tX8_heapEnd_ok 16 rfl) rfl rfl ?_
    refine ps_getR (ps_at tX8_heapEnd_ok 17 rfl) flX8_60 sh_50 rfl ?_
    refine ps_iload_n (ps_at tX8_heapEnd_ok 18 rfl) rfl rfl ?_
    refine ps_iald (ps_at tX8_heapEnd_ok 19 rfl) sh_68 (h1) ?_
    exact ps_iret (ps_at tX8_heapEnd_ok 20 rfl) rfl ⟨rfl, rfl⟩ (h2 c0)
  · skip
    refine ps_iload_n (ps_at tX8_heapEnd_ok 14 rfl) rfl rfl ?_
    refine ps_goto (tgt := 32) (ps_at tX8_heapEnd_ok 15 rfl) (by decide) ?_
    exact ps_iret (ps_at tX8_heapEnd_ok 20 rfl) rfl ⟨rfl, rfl⟩ (h3 c0)
theorem eX8_heapEnd {d : Nat} {Q : Option ps_V → ps_S → Prop} {v1 : Int32} {v2 : Int32} {σ : ps_S} (h : kX8_heapEnd_0 d Q v1 v2 σ) : ps_C mX8_heapEnd d [.inr (.inr (50, 0)), .inl v1, .inl v2] σ Q := ps_enter (by decide) rfl ⟨rfl, rfl, rfl⟩ rfl (Nat.le_of_ble_eq_true rfl) h
theorem pX8_heapEnd {d : Nat} {Q : Option ps_V → ps_S → Prop} {v1 : Int32} {v2 : Int32} {σ : ps_S} (h1 : vp_in v1 6) (hq : Q (some (.inl (jX8_heapEnd σ v1 v2))) σ) : ps_C mX8_heapEnd d [.inr (.inr (50, 0)), .inl v1, .inl v2] σ Q := eX8_heapEnd (bX8_heapEnd_0 h1 (fun c0 => by unfold jX8_heapEnd at hq; rw [if_pos c0] at hq; exact hq) (fun c0 => by unfold jX8_heapEnd at hq; rw [if_neg c0] at hq; exact hq))
abbrev kX8_kindIn_0 (d : Nat) (Q : Option ps_V → ps_S → Prop) (v1 : Int32) (v2 : Int32) (v3 : Int32) (σ : ps_S) : Prop := ps_K mX8_kindIn (d + 1) (ps_QF Q) 0 [some (.inr (.inr (50, 0))), some (.inl v1), some (.inl v2), some (.inl v3), none] [] σ
theorem bX8_kindIn_0 {d : Nat} {Q : Option ps_V → ps_S → Prop} {v1 : Int32} {v2 : Int32} {v3 : Int32} {σ : ps_S} (h1 : ¬ (σ 50 0 20) = 0) (h2 : v3 = 0 → vp_in v1 6) (h3 : v3 = 0 → vp_in ((12 * v1) + (((((v2 / (σ 50 0 20)) * (σ 50 0 20)) + (jX8_heapEnd σ v1 (v2 / (σ 50 0 20)))) - 1) - v2)) 72) (h4 : v3 = 0 → Q (some (.inl (σ 69 0 ((12 * v1) + (((((v2 / (σ 50 0 20)) * (σ 50 0 20)) + (jX8_heapEnd σ v1 (v2 / (σ 50 0 20)))) - 1) - v2)).toNatClampNeg))) σ) (h5 : ¬ v3 = 0 → vp_in ((12 * v1) + v2) 72) (h6 : ¬ v3 = 0 → Q (some (.inl (σ 69 0 ((12 * v1) + v2).toNatClampNeg))) σ) : kX8_kindIn_0 d Q v1 v2 v3 σ := by
  refine ps_iload_n (ps_at tX8_kindIn_ok 0 rfl) rfl rfl ?_
  refine ps_aload_n (ps_at tX8_kindIn_ok 1 rfl) rfl rfl ?_
  refine ps_getI (ps_at tX8_kindIn_ok 2 rfl) flX8_69 sh_50 rfl ?_
  refine ps_idiv (ps_at tX8_kindIn_ok 3 rfl) (h1) ?_
  refine ps_aload_n (ps_at tX8_kindIn_ok 4 rfl) rfl rfl ?_
  refine ps_getI (ps_at tX8_kindIn_ok 5 rfl) flX8_69 sh_50 rfl ?_
  refine ps_imul (ps_at tX8_kindIn_ok 6 rfl) ?_
  refine ps_istore (L' := [some (.inr (.inr (50, 0))), some (.inl v1), some (.inl v2), some (.inl v3), some (.inl ((v2 / (σ 50 0 20)) * (σ 50 0 20)))]) (ps_at tX8_kindIn_ok 7 rfl) (by decide) rfl ?_
  refine ps_aload_n (ps_at tX8_kindIn_ok 8 rfl) rfl rfl ?_
  refine ps_getR (ps_at tX8_kindIn_ok 9 rfl) flX8_63 sh_50 rfl ?_
  refine ps_bipush (x := 12) (ps_at tX8_kindIn_ok 10 rfl) (by decide) ?_
  refine ps_iload_n (ps_at tX8_kindIn_ok 11 rfl) rfl rfl ?_
  refine ps_imul (ps_at tX8_kindIn_ok 12 rfl) ?_
  refine ps_iload_n (ps_at tX8_kindIn_ok 13 rfl) rfl rfl ?_
  refine ps_if_eq (tgt := 29) (ps_at tX8_kindIn_ok 14 rfl) (by decide) (fun c0 => ?_) (fun c0 => ?_)
  · skip
    refine ps_iload (ps_at tX8_kindIn_ok 17 rfl) rfl ?_
    refine ps_aload_n (ps_at tX8_kindIn_ok 18 rfl) rfl rfl ?_
    refine ps_iload_n (ps_at tX8_kindIn_ok 19 rfl) rfl rfl ?_
    refine ps_iload_n (ps_at tX8_kindIn_ok 20 rfl) rfl rfl ?_
    refine ps_aload_n (ps_at tX8_kindIn_ok 21 rfl) rfl rfl ?_
    refine ps_getI (ps_at tX8_kindIn_ok 22 rfl) flX8_69 sh_50 rfl ?_
    refine ps_idiv (ps_at tX8_kindIn_ok 23 rfl) (h1) ?_
    refine ps_callV (M2 := mX8_heapEnd) (av := [.inl v1, .inl (v2 / (σ 50 0 20))]) (rest := [.inl ((v2 / (σ 50 0 20)) * (σ 50 0 20)), .inl (12 * v1), .inr (.inr (69, 0))]) (ps_at tX8_kindIn_ok 24 rfl) cvX8_191 sh_50 rfl rfl (fun _ => Nat.le_of_ble_eq_true rfl) (pX8_heapEnd (h2 c0) ?_)
    refine ps_iadd (ps_at tX8_kindIn_ok 25 rfl) ?_
    refine ps_iconst (x := 1) (ps_at tX8_kindIn_ok 26 rfl) (by decide) ?_
    refine ps_isub (ps_at tX8_kindIn_ok 27 rfl) ?_
    refine ps_iload_n (ps_at tX8_kindIn_ok 28 rfl) rfl rfl ?_
    refine ps_isub (ps_at tX8_kindIn_ok 29 rfl) ?_
    refine ps_iadd (ps_at tX8_kindIn_ok 30 rfl) ?_
    refine ps_iald (ps_at tX8_kindIn_ok 31 rfl) sh_69 (h3 c0) ?_
    exact ps_iret (ps_at tX8_kindIn_ok 32 rfl) rfl ⟨rfl, rfl⟩ (h4 c0)
  · skip
    refine ps_iload_n (ps_at tX8_kindIn_ok 15 rfl) rfl rfl ?_
    refine ps_goto (tgt := 47) (ps_at tX8_kindIn_ok 16 rfl) (by decide) ?_
    refine ps_iadd (ps_at tX8_kindIn_ok 30 rfl) ?_
    refine ps_iald (ps_at tX8_kindIn_ok 31 rfl) sh_69 (h5 c0) ?_
    exact ps_iret (ps_at tX8_kindIn_ok 32 rfl) rfl ⟨rfl, rfl⟩ (h6 c0)
theorem eX8_kindIn {d : Nat} {Q : Option ps_V → ps_S → Prop} {v1 : Int32} {v2 : Int32} {v3 : Int32} {σ : ps_S} (h : kX8_kindIn_0 d Q v1 v2 v3 σ) : ps_C mX8_kindIn (d + 1) [.inr (.inr (50, 0)), .inl v1, .inl v2, .inl v3] σ Q := ps_enter (by decide) rfl ⟨rfl, rfl, rfl⟩ rfl (Nat.le_of_ble_eq_true rfl) h
theorem pX8_kindIn {d : Nat} {Q : Option ps_V → ps_S → Prop} {v1 : Int32} {v2 : Int32} {v3 : Int32} {σ : ps_S} (h1 : ¬ (σ 50 0 20) = 0) (h2 : v3 = 0 → vp_in v1 6) (h3 : v3 = 0 → vp_in ((12 * v1) + (((((v2 / (σ 50 0 20)) * (σ 50 0 20)) + (jX8_heapEnd σ v1 (v2 / (σ 50 0 20)))) - 1) - v2)) 72) (h5 : ¬ v3 = 0 → vp_in ((12 * v1) + v2) 72) (hq : Q (some (.inl (jX8_kindIn σ v1 v2 v3))) σ) : ps_C mX8_kindIn (d + 1) [.inr (.inr (50, 0)), .inl v1, .inl v2, .inl v3] σ Q := eX8_kindIn (bX8_kindIn_0 h1 h2 h3 (fun c0 => by unfold jX8_kindIn at hq; rw [if_pos c0] at hq; exact hq) h5 (fun c0 => by unfold jX8_kindIn at hq; rw [if_neg c0] at hq; exact hq))
abbrev kX8_isMan_0 (d : Nat) (Q : Option ps_V → ps_S → Prop) (v1 : Int32) (σ : ps_S) : Prop := ps_K mX8_isMan (d + 1) (ps_QF Q) 0 [some (.inr (.inr (50, 0))), some (.inl v1)] [] σ
theorem bX8_isMan_0 {d : Nat} {Q : Option ps_V → ps_S → Prop} {v1 : Int32} {σ : ps_S} (h1 : Q (some (.inl (jbIn v1.toInt64 0 (((σ 50 0 21) - 1).toInt64)))) σ) : kX8_isMan_0 d Q v1 σ := by
  refine ps_iload_n (ps_at tX8_isMan_ok 0 rfl) rfl rfl ?_
  refine ps_i2l (ps_at tX8_isMan_ok 1 rfl) ?_
  refine ps_lconst (x := 0) (ps_at tX8_isMan_ok 2 rfl) (by decide) ?_
  refine ps_aload_n (ps_at tX8_isMan_ok 3 rfl) rfl rfl ?_
  refine ps_getI (ps_at tX8_isMan_ok 4 rfl) flX8_72 sh_50 rfl ?_
  refine ps_iconst (x := 1) (ps_at tX8_isMan_ok 5 rfl) (by decide) ?_
  refine ps_isub (ps_at tX8_isMan_ok 6 rfl) ?_
  refine ps_i2l (ps_at tX8_isMan_ok 7 rfl) ?_
  refine ps_callS (M2 := mX8_in) (av := [.inr (.inl v1.toInt64), .inr (.inl 0), .inr (.inl (((σ 50 0 21) - 1).toInt64))]) (rest := []) (ps_at tX8_isMan_ok 8 rfl) csX8_99 rfl rfl (fun _ => Nat.le_of_ble_eq_true rfl) (pX8_in ?_)
  exact ps_zret (ps_at tX8_isMan_ok 9 rfl) rfl ⟨rfl, rfl⟩ (ps_bitI _ _ _) (h1)
theorem eX8_isMan {d : Nat} {Q : Option ps_V → ps_S → Prop} {v1 : Int32} {σ : ps_S} (h : kX8_isMan_0 d Q v1 σ) : ps_C mX8_isMan (d + 1) [.inr (.inr (50, 0)), .inl v1] σ Q := ps_enter (by decide) rfl ⟨rfl, rfl, rfl⟩ rfl (Nat.le_of_ble_eq_true rfl) h
theorem pX8_isMan {d : Nat} {Q : Option ps_V → ps_S → Prop} {v1 : Int32} {σ : ps_S}  (hq : Q (some (.inl (jX8_isMan σ v1))) σ) : ps_C mX8_isMan (d + 1) [.inr (.inr (50, 0)), .inl v1] σ Q := eX8_isMan (bX8_isMan_0 (by unfold jX8_isMan at hq; exact hq))
theorem btX8_isMan (σ : ps_S) (v1 : Int32) : jX8_isMan σ v1 = 0 ∨ jX8_isMan σ v1 = 1 := by unfold jX8_isMan; first | exact ps_bitW _ _ | exact ps_bitI _ _ _ | (repeat (first | split | simp))
abbrev kX8_isPage_0 (d : Nat) (Q : Option ps_V → ps_S → Prop) (v1 : Int32) (σ : ps_S) : Prop := ps_K mX8_isPage (d + 1) (ps_QF Q) 0 [some (.inr (.inr (50, 0))), some (.inl v1)] [] σ
theorem bX8_isPage_0 {d : Nat} {Q : Option ps_V → ps_S → Prop} {v1 : Int32} {σ : ps_S} (h1 : Q (some (.inl (jbIn v1.toInt64 0 (((σ 50 0 22) - 1).toInt64)))) σ) : kX8_isPage_0 d Q v1 σ := by
  refine ps_iload_n (ps_at tX8_isPage_ok 0 rfl) rfl rfl ?_
  refine ps_i2l (ps_at tX8_isPage_ok 1 rfl) ?_
  refine ps_lconst (x := 0) (ps_at tX8_isPage_ok 2 rfl) (by decide) ?_
  refine ps_aload_n (ps_at tX8_isPage_ok 3 rfl) rfl rfl ?_
  refine ps_getI (ps_at tX8_isPage_ok 4 rfl) flX8_75 sh_50 rfl ?_
  refine ps_iconst (x := 1) (ps_at tX8_isPage_ok 5 rfl) (by decide) ?_
  refine ps_isub (ps_at tX8_isPage_ok 6 rfl) ?_
  refine ps_i2l (ps_at tX8_isPage_ok 7 rfl) ?_
  refine ps_callS (M2 := mX8_in) (av := [.inr (.inl v1.toInt64), .inr (.inl 0), .inr (.inl (((σ 50 0 22) - 1).toInt64))]) (rest := []) (ps_at tX8_isPage_ok 8 rfl) csX8_99 rfl rfl (fun _ => Nat.le_of_ble_eq_true rfl) (pX8_in ?_)
  exact ps_zret (ps_at tX8_isPage_ok 9 rfl) rfl ⟨rfl, rfl⟩ (ps_bitI _ _ _) (h1)
theorem eX8_isPage {d : Nat} {Q : Option ps_V → ps_S → Prop} {v1 : Int32} {σ : ps_S} (h : kX8_isPage_0 d Q v1 σ) : ps_C mX8_isPage (d + 1) [.inr (.inr (50, 0)), .inl v1] σ Q := ps_enter (by decide) rfl ⟨rfl, rfl, rfl⟩ rfl (Nat.le_of_ble_eq_true rfl) h
theorem pX8_isPage {d : Nat} {Q : Option ps_V → ps_S → Prop} {v1 : Int32} {σ : ps_S}  (hq : Q (some (.inl (jX8_isPage σ v1))) σ) : ps_C mX8_isPage (d + 1) [.inr (.inr (50, 0)), .inl v1] σ Q := eX8_isPage (bX8_isPage_0 (by unfold jX8_isPage at hq; exact hq))
theorem btX8_isPage (σ : ps_S) (v1 : Int32) : jX8_isPage σ v1 = 0 ∨ jX8_isPage σ v1 = 1 := by unfold jX8_isPage; first | exact ps_bitW _ _ | exact ps_bitI _ _ _ | (repeat (first | split | simp))
abbrev kX0_areAlike_0 (d : Nat) (Q : Option ps_V → ps_S → Prop) (i0 : Nat) (v1 : Int32) (v2 : Int32) (σ : ps_S) : Prop := ps_K mX0_areAlike (d + 1) (ps_QF Q) 0 [some (.inr (.inr (3, i0))), some (.inl v1), some (.inl v2), none] [] σ
abbrev kX0_areAlike_2 (d : Nat) (Q : Option ps_V → ps_S → Prop) (i0 : Nat) (v1 : Int32) (v2 : Int32) (v3 : Int32) (σ : ps_S) : Prop := ps_K mX0_areAlike (d + 1) (ps_QF Q) 2 [some (.inr (.inr (3, i0))), some (.inl v1), some (.inl v2), some (.inl v3)] [] σ
theorem bX0_areAlike_0 {d : Nat} {Q : Option ps_V → ps_S → Prop} {i0 : Nat} {v1 : Int32} {v2 : Int32} {σ : ps_S} (h1 : kX0_areAlike_2 d Q i0 v1 v2 0 σ) : kX0_areAlike_0 d Q i0 v1 v2 σ := by
  refine ps_iconst (x := 0) (ps_at tX0_areAlike_ok 0 rfl) (by decide) ?_
  refine ps_istore_n (L' := [some (.inr (.inr (3, i0))), some (.inl v1), some (.inl v2), some (.inl 0)]) (ps_at tX0_areAlike_ok 1 rfl) rfl (by decide) rfl ?_
  exact h1
theorem bX0_areAlike_2 {d : Nat} {Q : Option ps_V → ps_S → Prop} {i0 : Nat} {v1 : Int32} {v2 : Int32} {v3 : Int32} {σ : ps_S} (h1 : 6 ≤ v3 → Q (some (.inl 1)) σ) (h2 : ¬ 6 ≤ v3 → vp_in v1 9) (h3 : ¬ 6 ≤ v3 → vp_in v3 6) (h4 : ¬ 6 ≤ v3 → vp_in v2 9) (h5 : ¬ 6 ≤ v3 → (jbUn (σ 5 (9 * i0 + v1.toNatClampNeg) v3.toNatClampNeg) (σ 5 (9 * i0 + v2.toNatClampNeg) v3.toNatClampNeg)) = 0 → kX0_areAlike_2 d Q i0 v1 v2 (v3 + 1) σ) (h6 : ¬ 6 ≤ v3 → ¬ (jbUn (σ 5 (9 * i0 + v1.toNatClampNeg) v3.toNatClampNeg) (σ 5 (9 * i0 + v2.toNatClampNeg) v3.toNatClampNeg)) = 0 → Q (some (.inl 0)) σ) : kX0_areAlike_2 d Q i0 v1 v2 v3 σ := by
  refine ps_iload_n (ps_at tX0_areAlike_ok 2 rfl) rfl rfl ?_
  refine ps_bipush (x := 6) (ps_at tX0_areAlike_ok 3 rfl) (by decide) ?_
  refine ps_icmp_ge (tgt := 38) (ps_at tX0_areAlike_ok 4 rfl) (by decide) (fun c0 => ?_) (fun c0 => ?_)
  · skip
    refine ps_iconst (x := 1) (ps_at tX0_areAlike_ok 23 rfl) (by decide) ?_
    exact ps_zret (ps_at tX0_areAlike_ok 24 rfl) rfl ⟨rfl, rfl⟩ (Or.inr rfl) (h1 c0)
  · skip
    refine ps_aload_n (ps_at tX0_areAlike_ok 5 rfl) rfl rfl ?_
    refine ps_getR (ps_at tX0_areAlike_ok 6 rfl) flX0_11 sh_3 rfl ?_
    refine ps_iload_n (ps_at tX0_areAlike_ok 7 rfl) rfl rfl ?_
    refine ps_aald (ps_at tX0_areAlike_ok 8 rfl) sh_4 (Or.inl rfl) (h2 c0) ?_
    refine ps_iload_n (ps_at tX0_areAlike_ok 9 rfl) rfl rfl ?_
    refine ps_iald (ps_at tX0_areAlike_ok 10 rfl) sh_5 (h3 c0) ?_
    refine ps_aload_n (ps_at tX0_areAlike_ok 11 rfl) rfl rfl ?_
    refine ps_getR (ps_at tX0_areAlike_ok 12 rfl) flX0_11 sh_3 rfl ?_
    refine ps_iload_n (ps_at tX0_areAlike_ok 13 rfl) rfl rfl ?_
    refine ps_aald (ps_at tX0_areAlike_ok 14 rfl) sh_4 (Or.inl rfl) (h4 c0) ?_
    refine ps_iload_n (ps_at tX0_areAlike_ok 15 rfl) rfl rfl ?_
    refine ps_iald (ps_at tX0_areAlike_ok 16 rfl) sh_5 (h3 c0) ?_
    refine ps_callS (M2 := mX0_areUnlike) (av := [.inl (σ 5 (9 * i0 + v1.toNatClampNeg) v3.toNatClampNeg), .inl (σ 5 (9 * i0 + v2.toNatClampNeg) v3.toNatClampNeg)]) (rest := []) (ps_at tX0_areAlike_ok 17 rfl) csX0_46 rfl rfl (fun _ => Nat.le_of_ble_eq_true rfl) (pX0_areUnlike ?_)
    refine ps_if_eq (tgt := 32) (ps_at tX0_areAlike_ok 18 rfl) (by decide) (fun c1 => ?_) (fun c1 => ?_)
    · skip
      refine ps_iinc (L' := [some (.inr (.inr (3, i0))), some (.inl v1), some (.inl v2), some (.inl (v3 + 1))]) (y := 1) (ps_at tX0_areAlike_ok 21 rfl) rfl (by decide) (by decide) rfl ?_
      refine ps_goto (tgt := 2) (ps_at tX0_areAlike_ok 22 rfl) (by decide) ?_
      exact h5 c0 c1
    · skip
      refine ps_iconst (x := 0) (ps_at tX0_areAlike_ok 19 rfl) (by decide) ?_
      exact ps_zret (ps_at tX0_areAlike_ok 20 rfl) rfl ⟨rfl, rfl⟩ (Or.inl rfl) (h6 c0 c1)
theorem eX0_areAlike {d : Nat} {Q : Option ps_V → ps_S → Prop} {i0 : Nat} {v1 : Int32} {v2 : Int32} {σ : ps_S} (h : kX0_areAlike_0 d Q i0 v1 v2 σ) : ps_C mX0_areAlike (d + 1) [.inr (.inr (3, i0)), .inl v1, .inl v2] σ Q := ps_enter (by decide) rfl ⟨rfl, rfl, rfl⟩ rfl (Nat.le_of_ble_eq_true rfl) h
theorem pX0_areAlike {d : Nat} {Q : Option ps_V → ps_S → Prop} {i0 : Nat} {v1 v2 : Int32} {σ : ps_S} (o1 : vp_in v1 9) (o2 : vp_in v2 9) (hq : Q (some (.inl (jbP (sAlk σ i0 v1.toNatClampNeg v2.toNatClampNeg)))) σ) : ps_C mX0_areAlike (d + 1) [.inr (.inr (3, i0)), .inl v1, .inl v2] σ Q := by
  have key : ∀ r j, j + r = 6 → (∀ p, p < j → jbUn (σ 5 (9 * i0 + v1.toNatClampNeg) p) (σ 5 (9 * i0 + v2.toNatClampNeg) p) = 0) → kX0_areAlike_2 d Q i0 v1 v2 (nI j) σ := by
    intro r
    induction r with
    | zero =>
      intro j hj hall
      obtain rfl : j = 6 := by omega
      refine bX0_areAlike_2 (fun _ => ?_) (lpX (N := 6) (by decide)) (lpX (N := 6) (by decide)) (lpX (N := 6) (by decide)) (lpX (N := 6) (by decide)) (lpX (N := 6) (by decide))
      rw [jbP_t (show sAlk σ i0 v1.toNatClampNeg v2.toNatClampNeg from hall)] at hq
      exact hq
    | succ r ih =>
      intro j hj hall
      have hj0 : j < 6 := by omega
      have hjc : (nI j).toNatClampNeg = j := nI_clamp (by omega)
      refine bX0_areAlike_2 (lpN (N := 6) hj0 (by decide)) (fun _ => o1) (fun _ => vp_in_nI hj0 (by decide)) (fun _ => o2) (fun _ c => ?_) (fun _ c => ?_)
      · rw [hjc] at c
        rw [nI_1]
        refine ih (j + 1) (by omega) (fun p hp => ?_)
        rcases Nat.lt_or_eq_of_le (Nat.le_of_lt_succ hp) with h | h
        · exact hall p h
        · subst h; exact c
      · rw [hjc] at c
        rw [jbP_f (show ¬ sAlk σ i0 v1.toNatClampNeg v2.toNatClampNeg from fun h => c (h j hj0))] at hq
        exact hq
  exact eX0_areAlike (bX0_areAlike_0 (key 6 0 rfl (fun p h => absurd h (Nat.not_lt_zero p))))
abbrev kX0_copiesLookedAt_0 (d : Nat) (Q : Option ps_V → ps_S → Prop) (i0 : Nat) (σ : ps_S) : Prop := ps_K mX0_copiesLookedAt d (ps_QF Q) 0 [some (.inr (.inr (3, i0))), none, none, none] [] σ
abbrev kX0_copiesLookedAt_4 (d : Nat) (Q : Option ps_V → ps_S → Prop) (i0 : Nat) (v1 : Int32) (v2 : Int32) (σ : ps_S) : Prop := ps_K mX0_copiesLookedAt d (ps_QF Q) 4 [some (.inr (.inr (3, i0))), some (.inl v1), some (.inl v2), none] [] σ
abbrev kX0_copiesLookedAt_12 (d : Nat) (Q : Option ps_V → ps_S → Prop) (i0 : Nat) (v1 : Int32) (v2 : Int32) (v3 : Int32) (σ : ps_S) : Prop := ps_K mX0_copiesLookedAt d (ps_QF Q) 12 [some (.inr (.inr (3, i0))), some (.inl v1), some (.inl v2), some (.inl v3)] [] σ
theorem bX0_copiesLookedAt_0 {d : Nat} {Q : Option ps_V → ps_S → Prop} {i0 : Nat} {σ : ps_S} (h1 : kX0_copiesLookedAt_4 d Q i0 0 0 σ) : kX0_copiesLookedAt_0 d Q i0 σ := by
  refine ps_iconst (x := 0) (ps_at tX0_copiesLookedAt_ok 0 rfl) (by decide) ?_
  refine ps_istore_n (L' := [some (.inr (.inr (3, i0))), some (.inl 0), none, none]) (ps_at tX0_copiesLookedAt_ok 1 rfl) rfl (by decide) rfl ?_
  refine ps_iconst (x := 0) (ps_at tX0_copiesLookedAt_ok 2 rfl) (by decide) ?_
  refine ps_istore_n (L' := [some (.inr (.inr (3, i0))), some (.inl 0), some (.inl 0), none]) (ps_at tX0_copiesLookedAt_ok 3 rfl) rfl (by decide) rfl ?_
  exact h1
theorem bX0_copiesLookedAt_4 {d : Nat} {Q : Option ps_V → ps_S → Prop} {i0 : Nat} {v1 : Int32} {v2 : Int32} {σ : ps_S} (h1 : 9 ≤ v2 → Q (some (.inl v1)) σ) (h2 : ¬ 9 ≤ v2 → kX0_copiesLookedAt_12 d Q i0 v1 v2 0 σ) : kX0_copiesLookedAt_4 d Q i0 v1 v2 σ := by
  refine ps_iload_n (ps_at tX0_copiesLookedAt_ok 4 rfl) rfl rfl ?_
  refine ps_bipush (x := 9) (ps_at tX0_copiesLookedAt_ok 5 rfl) (by decide) ?_
  refine ps_icmp_ge (tgt := 49) (ps_at tX0_copiesLookedAt_ok 6 rfl) (by decide) (fun c0 => ?_) (fun c0 => ?_)
  · skip
    refine ps_iload_n (ps_at tX0_copiesLookedAt_ok 30 rfl) rfl rfl ?_
    exact ps_iret (ps_at tX0_copiesLookedAt_ok 31 rfl) rfl ⟨rfl, rfl⟩ (h1 c0)
  · skip
    refine ps_iconst (x := 0) (ps_at tX0_copiesLookedAt_ok 7 rfl) (by decide) ?_
    refine ps_istore_n (L' := [some (.inr (.inr (3, i0))), some (.inl v1), some (.inl v2), some (.inl 0)]) (ps_at tX0_copiesLookedAt_ok 8 rfl) rfl (by decide) rfl ?_
    exact h2 c0
theorem bX0_copiesLookedAt_12 {d : Nat} {Q : Option ps_V → ps_S → Prop} {i0 : Nat} {v1 : Int32} {v2 : Int32} {v3 : Int32} {σ : ps_S} (h1 : 6 ≤ v3 → kX0_copiesLookedAt_4 d Q i0 v1 (v2 + 1) σ) (h2 : ¬ 6 ≤ v3 → vp_in v2 9) (h3 : ¬ 6 ≤ v3 → vp_in v3 6) (h4 : ¬ 6 ≤ v3 → (σ 5 (9 * i0 + v2.toNatClampNeg) v3.toNatClampNeg) = (-900009) → kX0_copiesLookedAt_12 d Q i0 v1 v2 (v3 + 1) σ) (h5 : ¬ 6 ≤ v3 → ¬ (σ 5 (9 * i0 + v2.toNatClampNeg) v3.toNatClampNeg) = (-900009) → kX0_copiesLookedAt_12 d Q i0 (v1 ||| ((1 : Int32) <<< (v2 &&& 31))) v2 (v3 + 1) σ) : kX0_copiesLookedAt_12 d Q i0 v1 v2 v3 σ := by
  refine ps_iload_n (ps_at tX0_copiesLookedAt_ok 9 rfl) rfl rfl ?_
  refine ps_bipush (x := 6) (ps_at tX0_copiesLookedAt_ok 10 rfl) (by decide) ?_
  refine ps_icmp_ge (tgt := 43) (ps_at tX0_copiesLookedAt_ok 11 rfl) (by decide) (fun c0 => ?_) (fun c0 => ?_)
  · skip
    refine ps_iinc (L' := [some (.inr (.inr (3, i0))), some (.inl v1), some (.inl (v2 + 1)), some (.inl v3)]) (y := 1) (ps_at tX0_copiesLookedAt_ok 28 rfl) rfl (by decide) (by decide) rfl ?_
    refine ps_goto (tgt := 4) (ps_at tX0_copiesLookedAt_ok 29 rfl) (by decide) ?_
    refine ps_forget (L' := [some (.inr (.inr (3, i0))), some (.inl v1), some (.inl (v2 + 1)), none]) (And.intro rfl (And.intro rfl (And.intro rfl trivial))) ?_
    exact h1 c0
  · skip
    refine ps_aload_n (ps_at tX0_copiesLookedAt_ok 12 rfl) rfl rfl ?_
    refine ps_getR (ps_at tX0_copiesLookedAt_ok 13 rfl) flX0_11 sh_3 rfl ?_
    refine ps_iload_n (ps_at tX0_copiesLookedAt_ok 14 rfl) rfl rfl ?_
    refine ps_aald (ps_at tX0_copiesLookedAt_ok 15 rfl) sh_4 (Or.inl rfl) (h2 c0) ?_
    refine ps_iload_n (ps_at tX0_copiesLookedAt_ok 16 rfl) rfl rfl ?_
    refine ps_iald (ps_at tX0_copiesLookedAt_ok 17 rfl) sh_5 (h3 c0) ?_
    refine ps_ldc (ps_at tX0_copiesLookedAt_ok 18 rfl) cnX0_32 ?_
    refine ps_icmp_eq (tgt := 37) (ps_at tX0_copiesLookedAt_ok 19 rfl) (by decide) (fun c1 => ?_) (fun c1 => ?_)
    · skip
      refine ps_iinc (L' := [some (.inr (.inr (3, i0))), some (.inl v1), some (.inl v2), some (.inl (v3 + 1))]) (y := 1) (ps_at tX0_copiesLookedAt_ok 26 rfl) rfl (by decide) (by decide) rfl ?_
      refine ps_goto (tgt := 12) (ps_at tX0_copiesLookedAt_ok 27 rfl) (by decide) ?_
      exact h4 c0 c1
    · skip
      refine ps_iload_n (ps_at tX0_copiesLookedAt_ok 20 rfl) rfl rfl ?_
      refine ps_iconst (x := 1) (ps_at tX0_copiesLookedAt_ok 21 rfl) (by decide) ?_
      refine ps_iload_n (ps_at tX0_copiesLookedAt_ok 22 rfl) rfl rfl ?_
      refine ps_ishl (ps_at tX0_copiesLookedAt_ok 23 rfl) ?_
      refine ps_ior (ps_at tX0_copiesLookedAt_ok 24 rfl) ?_
      refine ps_istore_n (L' := [some (.inr (.inr (3, i0))), some (.inl (v1 ||| ((1 : Int32) <<< (v2 &&& 31)))), some (.inl v2), some (.inl v3)]) (ps_at tX0_copiesLookedAt_ok 25 rfl) rfl (by decide) rfl ?_
      refine ps_iinc (L' := [some (.inr (.inr (3, i0))), some (.inl (v1 ||| ((1 : Int32) <<< (v2 &&& 31)))), some (.inl v2), some (.inl (v3 + 1))]) (y := 1) (ps_at tX0_copiesLookedAt_ok 26 rfl) rfl (by decide) (by decide) rfl ?_
      refine ps_goto (tgt := 12) (ps_at tX0_copiesLookedAt_ok 27 rfl) (by decide) ?_
      exact h5 c0 c1
theorem eX0_copiesLookedAt {d : Nat} {Q : Option ps_V → ps_S → Prop} {i0 : Nat} {σ : ps_S} (h : kX0_copiesLookedAt_0 d Q i0 σ) : ps_C mX0_copiesLookedAt d [.inr (.inr (3, i0))] σ Q := ps_enter (by decide) rfl ⟨rfl, rfl, rfl⟩ rfl (Nat.le_of_ble_eq_true rfl) h
theorem pX0_copiesLookedAt {d : Nat} {Q : Option ps_V → ps_S → Prop} {i0 : Nat} {σ : ps_S}  (hq : Q (some (.inl (nI (mkN 9 (sLk σ i0))))) σ) : ps_C mX0_copiesLookedAt d [.inr (.inr (3, i0))] σ Q := by
  have inner : ∀ c, c < 9 → ∀ r j acc, j + r = 6 → ((∃ p, j ≤ p ∧ p < 6 ∧ ¬ σ 5 (9 * i0 + c) p = -900009) → kX0_copiesLookedAt_4 d Q i0 (acc ||| ((1 : Int32) <<< (nI c &&& 31))) (nI c + 1) σ) → ((¬ ∃ p, j ≤ p ∧ p < 6 ∧ ¬ σ 5 (9 * i0 + c) p = -900009) → kX0_copiesLookedAt_4 d Q i0 acc (nI c + 1) σ) → kX0_copiesLookedAt_12 d Q i0 acc (nI c) (nI j) σ := by
    intro c hc r
    have hcc : (nI c).toNatClampNeg = c := nI_clamp (by omega)
    induction r with
    | zero =>
      intro j acc hj h1 h2
      obtain rfl : j = 6 := by omega
      exact bX0_copiesLookedAt_12 (fun _ => h2 (fun ⟨p, a, b, _⟩ => by omega)) (lpX (N := 6) (by decide)) (lpX (N := 6) (by decide)) (lpX (N := 6) (by decide)) (lpX (N := 6) (by decide))
    | succ r ih =>
      intro j acc hj h1 h2
      have hj0 : j < 6 := by omega
      have hjc : (nI j).toNatClampNeg = j := nI_clamp (by omega)
      refine bX0_copiesLookedAt_12 (lpN (N := 6) hj0 (by decide)) (fun _ => vp_in_nI hc (by decide)) (fun _ => vp_in_nI hj0 (by decide)) (fun _ e => ?_) (fun _ e => ?_)
      · rw [hcc, hjc] at e
        rw [nI_1]
        refine ih (j + 1) acc (by omega) (fun ⟨p, a, b, h⟩ => h1 ⟨p, by omega, b, h⟩) (fun h => h2 (fun ⟨p, a, b, h3⟩ => ?_))
        rcases Nat.lt_or_eq_of_le a with q | q
        · exact h ⟨p, q, b, h3⟩
        · subst q; exact h3 e
      · rw [hcc, hjc] at e
        rw [nI_1]
        have h3 := h1 ⟨j, Nat.le_refl _, hj0, e⟩
        refine ih (j + 1) _ (by omega) (fun _ => ?_) (fun _ => h3)
        rw [Int32.or_assoc, Int32.or_self]
        exact h3
  have key : ∀ r j, j + r = 9 → kX0_copiesLookedAt_4 d Q i0 (nI (mkN j (sLk σ i0))) (nI j) σ := by
    intro r
    induction r with
    | zero =>
      intro j hj
      obtain rfl : j = 9 := by omega
      exact bX0_copiesLookedAt_4 (fun _ => hq) (lpX (N := 9) (by decide))
    | succ r ih =>
      intro j hj
      have hj0 : j < 9 := by omega
      refine bX0_copiesLookedAt_4 (lpN (N := 9) hj0 (by decide)) (fun _ => inner j hj0 6 0 _ rfl (fun ⟨p, _, b, h⟩ => ?_) (fun h => ?_))
      · rw [nI_1, mk_t (by omega) (show sLk σ i0 j from ⟨p, b, h⟩)]
        exact ih (j + 1) (by omega)
      · rw [nI_1, mk_f (show ¬ sLk σ i0 j from fun ⟨p, b, h2⟩ => h ⟨p, Nat.zero_le _, b, h2⟩)]
        exact ih (j + 1) (by omega)
  exact eX0_copiesLookedAt (bX0_copiesLookedAt_0 (key 9 0 rfl))
abbrev kX0_unlikeCopies_0 (d : Nat) (Q : Option ps_V → ps_S → Prop) (i0 : Nat) (v1 : Int32) (σ : ps_S) : Prop := ps_K mX0_unlikeCopies (d + 2) (ps_QF Q) 0 [some (.inr (.inr (3, i0))), some (.inl v1), none, none] [] σ
abbrev kX0_unlikeCopies_4 (d : Nat) (Q : Option ps_V → ps_S → Prop) (i0 : Nat) (v1 : Int32) (v2 : Int32) (v3 : Int32) (σ : ps_S) : Prop := ps_K mX0_unlikeCopies (d + 2) (ps_QF Q) 4 [some (.inr (.inr (3, i0))), some (.inl v1), some (.inl v2), some (.inl v3)] [] σ
theorem bX0_unlikeCopies_0 {d : Nat} {Q : Option ps_V → ps_S → Prop} {i0 : Nat} {v1 : Int32} {σ : ps_S} (h1 : kX0_unlikeCopies_4 d Q i0 v1 0 0 σ) : kX0_unlikeCopies_0 d Q i0 v1 σ := by
  refine ps_iconst (x := 0) (ps_at tX0_unlikeCopies_ok 0 rfl) (by decide) ?_
  refine ps_istore_n (L' := [some (.inr (.inr (3, i0))), some (.inl v1), some (.inl 0), none]) (ps_at tX0_unlikeCopies_ok 1 rfl) rfl (by decide) rfl ?_
  refine ps_iconst (x := 0) (ps_at tX0_unlikeCopies_ok 2 rfl) (by decide) ?_
  refine ps_istore_n (L' := [some (.inr (.inr (3, i0))), some (.inl v1), some (.inl 0), some (.inl 0)]) (ps_at tX0_unlikeCopies_ok 3 rfl) rfl (by decide) rfl ?_
  exact h1
theorem bX0_unlikeCopies_4 {d : Nat} {Q : Option ps_V → ps_S → Prop} {i0 : Nat} {v1 : Int32} {v2 : Int32} {v3 : Int32} {σ : ps_S} (h1 : 9 ≤ v3 → Q (some (.inl v2)) σ) (h2 : ¬ 9 ≤ v3 → vp_in v1 9) (h3 : ¬ 9 ≤ v3 → vp_in v3 9) (h4 : ¬ 9 ≤ v3 → ¬ (jbP (sAlk σ i0 v1.toNatClampNeg v3.toNatClampNeg)) = 0 → kX0_unlikeCopies_4 d Q i0 v1 v2 (v3 + 1) σ) (h5 : ¬ 9 ≤ v3 → (jbP (sAlk σ i0 v1.toNatClampNeg v3.toNatClampNeg)) = 0 → kX0_unlikeCopies_4 d Q i0 v1 (v2 ||| ((1 : Int32) <<< (v3 &&& 31))) (v3 + 1) σ) : kX0_unlikeCopies_4 d Q i0 v1 v2 v3 σ := by
  refine ps_iload_n (ps_at tX0_unlikeCopies_ok 4 rfl) rfl rfl ?_
  refine ps_bipush (x := 9) (ps_at tX0_unlikeCopies_ok 5 rfl) (by decide) ?_
  refine ps_icmp_ge (tgt := 31) (ps_at tX0_unlikeCopies_ok 6 rfl) (by decide) (fun c0 => ?_) (fun c0 => ?_)
  · skip
    refine ps_iload_n (ps_at tX0_unlikeCopies_ok 20 rfl) rfl rfl ?_
    exact ps_iret (ps_at tX0_unlikeCopies_ok 21 rfl) rfl ⟨rfl, rfl⟩ (h1 c0)
  · skip
    refine ps_aload_n (ps_at tX0_unlikeCopies_ok 7 rfl) rfl rfl ?_
    refine ps_iload_n (ps_at tX0_unlikeCopies_ok 8 rfl) rfl rfl ?_
    refine ps_iload_n (ps_at tX0_unlikeCopies_ok 9 rfl) rfl rfl ?_
    refine ps_callV (M2 := mX0_areAlike) (av := [.inl v1, .inl v3]) (rest := []) (ps_at tX0_unlikeCopies_ok 10 rfl) cvX0_68 sh_3 rfl rfl (fun _ => Nat.le_of_ble_eq_true rfl) (pX0_areAlike (h2 c0) (h3 c0) ?_)
    refine ps_if_ne (tgt := 25) (ps_at tX0_unlikeCopies_ok 11 rfl) (by decide) (fun c1 => ?_) (fun c1 => ?_)
    · skip
      refine ps_iinc (L' := [some (.inr (.inr (3, i0))), some (.inl v1), some (.inl v2), some (.inl (v3 + 1))]) (y := 1) (ps_at tX0_unlikeCopies_ok 18 rfl) rfl (by decide) (by decide) rfl ?_
      refine ps_goto (tgt := 4) (ps_at tX0_unlikeCopies_ok 19 rfl) (by decide) ?_
      exact h4 c0 c1
    · skip
      refine ps_iload_n (ps_at tX0_unlikeCopies_ok 12 rfl) rfl rfl ?_
      refine ps_iconst (x := 1) (ps_at tX0_unlikeCopies_ok 13 rfl) (by decide) ?_
      refine ps_iload_n (ps_at tX0_unlikeCopies_ok 14 rfl) rfl rfl ?_
      refine ps_ishl (ps_at tX0_unlikeCopies_ok 15 rfl) ?_
      refine ps_ior (ps_at tX0_unlikeCopies_ok 16 rfl) ?_
      refine ps_istore_n (L' := [some (.inr (.inr (3, i0))), some (.inl v1), some (.inl (v2 ||| ((1 : Int32) <<< (v3 &&& 31)))), some (.inl v3)]) (ps_at tX0_unlikeCopies_ok 17 rfl) rfl (by decide) rfl ?_
      refine ps_iinc (L' := [some (.inr (.inr (3, i0))), some (.inl v1), some (.inl (v2 ||| ((1 : Int32) <<< (v3 &&& 31)))), some (.inl (v3 + 1))]) (y := 1) (ps_at tX0_unlikeCopies_ok 18 rfl) rfl (by decide) (by decide) rfl ?_
      refine ps_goto (tgt := 4) (ps_at tX0_unlikeCopies_ok 19 rfl) (by decide) ?_
      exact h5 c0 c1
theorem eX0_unlikeCopies {d : Nat} {Q : Option ps_V → ps_S → Prop} {i0 : Nat} {v1 : Int32} {σ : ps_S} (h : kX0_unlikeCopies_0 d Q i0 v1 σ) : ps_C mX0_unlikeCopies (d + 2) [.inr (.inr (3, i0)), .inl v1] σ Q := ps_enter (by decide) rfl ⟨rfl, rfl, rfl⟩ rfl (Nat.le_of_ble_eq_true rfl) h
theorem pX0_unlikeCopies {d : Nat} {Q : Option ps_V → ps_S → Prop} {i0 : Nat} {v1 : Int32} {σ : ps_S} (o1 : vp_in v1 9) (hq : Q (some (.inl (nI (mkN 9 (fun b => ¬ sAlk σ i0 v1.toNatClampNeg b))))) σ) : ps_C mX0_unlikeCopies (d + 2) [.inr (.inr (3, i0)), .inl v1] σ Q := by
  have key : ∀ r j, j + r = 9 → kX0_unlikeCopies_4 d Q i0 v1 (nI (mkN j (fun b => ¬ sAlk σ i0 v1.toNatClampNeg b))) (nI j) σ := by
    intro r
    induction r with
    | zero =>
      intro j hj
      obtain rfl : j = 9 := by omega
      exact bX0_unlikeCopies_4 (fun _ => hq) (lpX (N := 9) (by decide)) (lpX (N := 9) (by decide)) (lpX (N := 9) (by decide)) (lpX (N := 9) (by decide))
    | succ r ih =>
      intro j hj
      have hj0 : j < 9 := by omega
      have hjc : (nI j).toNatClampNeg = j := nI_clamp (by omega)
      refine bX0_unlikeCopies_4 (lpN (N := 9) hj0 (by decide)) (fun _ => o1) (fun _ => vp_in_nI hj0 (by decide)) (fun _ c => ?_) (fun _ c => ?_)
      · rw [hjc, jbP_0] at c
        rw [nI_1, mk_f (P := fun b => ¬ sAlk σ i0 v1.toNatClampNeg b) c]
        exact ih (j + 1) (by omega)
      · rw [hjc, jbP_0] at c
        rw [nI_1, mk_t (P := fun b => ¬ sAlk σ i0 v1.toNatClampNeg b) (by omega) c]
        exact ih (j + 1) (by omega)
  exact eX0_unlikeCopies (bX0_unlikeCopies_0 (key 9 0 rfl))
abbrev kX0_groupLetter_0 (d : Nat) (Q : Option ps_V → ps_S → Prop) (i0 : Nat) (v1 : Int32) (v2 : Int32) (σ : ps_S) : Prop := ps_K mX0_groupLetter d (ps_QF Q) 0 [some (.inr (.inr (3, i0))), some (.inl v1), some (.inl v2), none] [] σ
abbrev kX0_groupLetter_2 (d : Nat) (Q : Option ps_V → ps_S → Prop) (i0 : Nat) (v1 : Int32) (v2 : Int32) (v3 : Int32) (σ : ps_S) : Prop := ps_K mX0_groupLetter d (ps_QF Q) 2 [some (.inr (.inr (3, i0))), some (.inl v1), some (.inl v2), some (.inl v3)] [] σ
theorem bX0_groupLetter_0 {d : Nat} {Q : Option ps_V → ps_S → Prop} {i0 : Nat} {v1 : Int32} {v2 : Int32} {σ : ps_S} (h1 : kX0_groupLetter_2 d Q i0 v1 v2 0 σ) : kX0_groupLetter_0 d Q i0 v1 v2 σ := by
  refine ps_iconst (x := 0) (ps_at tX0_groupLetter_ok 0 rfl) (by decide) ?_
  refine ps_istore_n (L' := [some (.inr (.inr (3, i0))), some (.inl v1), some (.inl v2), some (.inl 0)]) (ps_at tX0_groupLetter_ok 1 rfl) rfl (by decide) rfl ?_
  exact h1
theorem bX0_groupLetter_2 {d : Nat} {Q : Option ps_V → ps_S → Prop} {i0 : Nat} {v1 : Int32} {v2 : Int32} {v3 : Int32} {σ : ps_S} (h1 : 9 ≤ v3 → Q (some (.inl (-900009))) σ) (h2 : ¬ 9 ≤ v3 → vp_in v3 9) (h3 : ¬ 9 ≤ v3 → ¬ (σ 9 i0 v3.toNatClampNeg) = v1 → kX0_groupLetter_2 d Q i0 v1 v2 (v3 + 1) σ) (h4 : ¬ 9 ≤ v3 → (σ 9 i0 v3.toNatClampNeg) = v1 → vp_in v2 6) (h5 : ¬ 9 ≤ v3 → (σ 9 i0 v3.toNatClampNeg) = v1 → (σ 5 (9 * i0 + v3.toNatClampNeg) v2.toNatClampNeg) = (-900009) → kX0_groupLetter_2 d Q i0 v1 v2 (v3 + 1) σ) (h6 : ¬ 9 ≤ v3 → (σ 9 i0 v3.toNatClampNeg) = v1 → ¬ (σ 5 (9 * i0 + v3.toNatClampNeg) v2.toNatClampNeg) = (-900009) → Q (some (.inl (σ 5 (9 * i0 + v3.toNatClampNeg) v2.toNatClampNeg))) σ) : kX0_groupLetter_2 d Q i0 v1 v2 v3 σ := by
  refine ps_iload_n (ps_at tX0_groupLetter_ok 2 rfl) rfl rfl ?_
  refine ps_bipush (x := 9) (ps_at tX0_groupLetter_ok 3 rfl) (by decide) ?_
  refine ps_icmp_ge (tgt := 46) (ps_at tX0_groupLetter_ok 4 rfl) (by decide) (fun c0 => ?_) (fun c0 => ?_)
  · skip
    refine ps_ldc (ps_at tX0_groupLetter_ok 28 rfl) cnX0_32 ?_
    exact ps_iret (ps_at tX0_groupLetter_ok 29 rfl) rfl ⟨rfl, rfl⟩ (h1 c0)
  · skip
    refine ps_aload_n (ps_at tX0_groupLetter_ok 5 rfl) rfl rfl ?_
    refine ps_getR (ps_at tX0_groupLetter_ok 6 rfl) flX0_26 sh_3 rfl ?_
    refine ps_iload_n (ps_at tX0_groupLetter_ok 7 rfl) rfl rfl ?_
    refine ps_iald (ps_at tX0_groupLetter_ok 8 rfl) sh_9 (h2 c0) ?_
    refine ps_iload_n (ps_at tX0_groupLetter_ok 9 rfl) rfl rfl ?_
    refine ps_icmp_ne (tgt := 40) (ps_at tX0_groupLetter_ok 10 rfl) (by decide) (fun c1 => ?_) (fun c1 => ?_)
    · skip
      refine ps_iinc (L' := [some (.inr (.inr (3, i0))), some (.inl v1), some (.inl v2), some (.inl (v3 + 1))]) (y := 1) (ps_at tX0_groupLetter_ok 26 rfl) rfl (by decide) (by decide) rfl ?_
      refine ps_goto (tgt := 2) (ps_at tX0_groupLetter_ok 27 rfl) (by decide) ?_
      exact h3 c0 c1
    · skip
      refine ps_aload_n (ps_at tX0_groupLetter_ok 11 rfl) rfl rfl ?_
      refine ps_getR (ps_at tX0_groupLetter_ok 12 rfl) flX0_11 sh_3 rfl ?_
      refine ps_iload_n (ps_at tX0_groupLetter_ok 13 rfl) rfl rfl ?_
      refine ps_aald (ps_at tX0_groupLetter_ok 14 rfl) sh_4 (Or.inl rfl) (h2 c0) ?_
      refine ps_iload_n (ps_at tX0_groupLetter_ok 15 rfl) rfl rfl ?_
      refine ps_iald (ps_at tX0_groupLetter_ok 16 rfl) sh_5 (h4 c0 c1) ?_
      refine ps_ldc (ps_at tX0_groupLetter_ok 17 rfl) cnX0_32 ?_
      refine ps_icmp_eq (tgt := 40) (ps_at tX0_groupLetter_ok 18 rfl) (by decide) (fun c2 => ?_) (fun c2 => ?_)
      · skip
        refine ps_iinc (L' := [some (.inr (.inr (3, i0))), some (.inl v1), some (.inl v2), some (.inl (v3 + 1))]) (y := 1) (ps_at tX0_groupLetter_ok 26 rfl) rfl (by decide) (by decide) rfl ?_
        refine ps_goto (tgt := 2) (ps_at tX0_groupLetter_ok 27 rfl) (by decide) ?_
        exact h5 c0 c1 c2
      · skip
        refine ps_aload_n (ps_at tX0_groupLetter_ok 19 rfl) rfl rfl ?_
        refine ps_getR (ps_at tX0_groupLetter_ok 20 rfl) flX0_11 sh_3 rfl ?_
        refine ps_iload_n (ps_at tX0_groupLetter_ok 21 rfl) rfl rfl ?_
        refine ps_aald (ps_at tX0_groupLetter_ok 22 rfl) sh_4 (Or.inl rfl) (h2 c0) ?_
        refine ps_iload_n (ps_at tX0_groupLetter_ok 23 rfl) rfl rfl ?_
        refine ps_iald (ps_at tX0_groupLetter_ok 24 rfl) sh_5 (h4 c0 c1) ?_
        exact ps_iret (ps_at tX0_groupLetter_ok 25 rfl) rfl ⟨rfl, rfl⟩ (h6 c0 c1 c2)
theorem eX0_groupLetter {d : Nat} {Q : Option ps_V → ps_S → Prop} {i0 : Nat} {v1 : Int32} {v2 : Int32} {σ : ps_S} (h : kX0_groupLetter_0 d Q i0 v1 v2 σ) : ps_C mX0_groupLetter d [.inr (.inr (3, i0)), .inl v1, .inl v2] σ Q := ps_enter (by decide) rfl ⟨rfl, rfl, rfl⟩ rfl (Nat.le_of_ble_eq_true rfl) h
theorem pX0_groupLetter {d : Nat} {Q : Option ps_V → ps_S → Prop} {i0 : Nat} {v1 v2 : Int32} {σ : ps_S} (o1 : vp_in v2 6) (hq : Q (some (.inl (sGl σ i0 v1 v2.toNatClampNeg))) σ) : ps_C mX0_groupLetter d [.inr (.inr (3, i0)), .inl v1, .inl v2] σ Q := by
  have key : ∀ r j, j + r = 9 → Q (some (.inl (match fstN r j (fun c => σ 9 i0 c = v1 ∧ ¬ σ 5 (9 * i0 + c) v2.toNatClampNeg = -900009) with | some c => σ 5 (9 * i0 + c) v2.toNatClampNeg | none => -900009))) σ → kX0_groupLetter_2 d Q i0 v1 v2 (nI j) σ := by
    intro r
    induction r with
    | zero =>
      intro j hj hh
      obtain rfl : j = 9 := by omega
      exact bX0_groupLetter_2 (fun _ => hh) (lpX (N := 9) (by decide)) (lpX (N := 9) (by decide)) (lpX (N := 9) (by decide)) (lpX (N := 9) (by decide)) (lpX (N := 9) (by decide))
    | succ r ih =>
      intro j hj hh
      have hj0 : j < 9 := by omega
      have hjc : (nI j).toNatClampNeg = j := nI_clamp (by omega)
      refine bX0_groupLetter_2 (lpN (N := 9) hj0 (by decide)) (fun _ => vp_in_nI hj0 (by decide)) (fun _ c => ?_) (fun _ _ => o1) (fun _ c c2 => ?_) (fun _ c c2 => ?_)
      · rw [hjc] at c
        rw [fst_f (fun h => c h.1)] at hh
        rw [nI_1]
        exact ih (j + 1) (by omega) hh
      · rw [hjc] at c c2
        rw [fst_f (fun h => h.2 c2)] at hh
        rw [nI_1]
        exact ih (j + 1) (by omega) hh
      · rw [hjc] at c c2 ⊢
        rw [fst_t ⟨c, c2⟩] at hh
        exact hh
  exact eX0_groupLetter (bX0_groupLetter_0 (key 9 0 rfl hq))
abbrev kX0_unlikePlaces_0 (d : Nat) (Q : Option ps_V → ps_S → Prop) (i0 : Nat) (v1 : Int32) (v2 : Int32) (σ : ps_S) : Prop := ps_K mX0_unlikePlaces (d + 1) (ps_QF Q) 0 [some (.inr (.inr (3, i0))), some (.inl v1), some (.inl v2), none, none] [] σ
abbrev kX0_unlikePlaces_5 (d : Nat) (Q : Option ps_V → ps_S → Prop) (i0 : Nat) (v1 : Int32) (v2 : Int32) (v3 : Int32) (v4 : Int32) (σ : ps_S) : Prop := ps_K mX0_unlikePlaces (d + 1) (ps_QF Q) 5 [some (.inr (.inr (3, i0))), some (.inl v1), some (.inl v2), some (.inl v3), some (.inl v4)] [] σ
theorem bX0_unlikePlaces_0 {d : Nat} {Q : Option ps_V → ps_S → Prop} {i0 : Nat} {v1 : Int32} {v2 : Int32} {σ : ps_S} (h1 : kX0_unlikePlaces_5 d Q i0 v1 v2 0 0 σ) : kX0_unlikePlaces_0 d Q i0 v1 v2 σ := by
  refine ps_iconst (x := 0) (ps_at tX0_unlikePlaces_ok 0 rfl) (by decide) ?_
  refine ps_istore_n (L' := [some (.inr (.inr (3, i0))), some (.inl v1), some (.inl v2), some (.inl 0), none]) (ps_at tX0_unlikePlaces_ok 1 rfl) rfl (by decide) rfl ?_
  refine ps_iconst (x := 0) (ps_at tX0_unlikePlaces_ok 2 rfl) (by decide) ?_
  refine ps_istore (L' := [some (.inr (.inr (3, i0))), some (.inl v1), some (.inl v2), some (.inl 0), some (.inl 0)]) (ps_at tX0_unlikePlaces_ok 3 rfl) (by decide) rfl ?_
  exact h1
theorem bX0_unlikePlaces_5 {d : Nat} {Q : Option ps_V → ps_S → Prop} {i0 : Nat} {v1 : Int32} {v2 : Int32} {v3 : Int32} {v4 : Int32} {σ : ps_S} (h1 : 6 ≤ v4 → Q (some (.inl v3)) σ) (h2 : ¬ 6 ≤ v4 → vp_in v4 6) (h3 : ¬ 6 ≤ v4 → (jbUn (sGl σ i0 v1 v4.toNatClampNeg) (sGl σ i0 v2 v4.toNatClampNeg)) = 0 → kX0_unlikePlaces_5 d Q i0 v1 v2 v3 (v4 + 1) σ) (h4 : ¬ 6 ≤ v4 → ¬ (jbUn (sGl σ i0 v1 v4.toNatClampNeg) (sGl σ i0 v2 v4.toNatClampNeg)) = 0 → kX0_unlikePlaces_5 d Q i0 v1 v2 (v3 + 1) (v4 + 1) σ) : kX0_unlikePlaces_5 d Q i0 v1 v2 v3 v4 σ := by
  refine ps_iload (ps_at tX0_unlikePlaces_ok 4 rfl) rfl ?_
  refine ps_bipush (x := 6) (ps_at tX0_unlikePlaces_ok 5 rfl) (by decide) ?_
  refine ps_icmp_ge (tgt := 41) (ps_at tX0_unlikePlaces_ok 6 rfl) (by decide) (fun c0 => ?_) (fun c0 => ?_)
  · skip
    refine ps_iload_n (ps_at tX0_unlikePlaces_ok 20 rfl) rfl rfl ?_
    exact ps_iret (ps_at tX0_unlikePlaces_ok 21 rfl) rfl ⟨rfl, rfl⟩ (h1 c0)
  · skip
    refine ps_aload_n (ps_at tX0_unlikePlaces_ok 7 rfl) rfl rfl ?_
    refine ps_iload_n (ps_at tX0_unlikePlaces_ok 8 rfl) rfl rfl ?_
    refine ps_iload (ps_at tX0_unlikePlaces_ok 9 rfl) rfl ?_
    refine ps_callV (M2 := mX0_groupLetter) (av := [.inl v1, .inl v4]) (rest := []) (ps_at tX0_unlikePlaces_ok 10 rfl) cvX0_77 sh_3 rfl rfl (fun _ => Nat.le_of_ble_eq_true rfl) (pX0_groupLetter (h2 c0) ?_)
    refine ps_aload_n (ps_at tX0_unlikePlaces_ok 11 rfl) rfl rfl ?_
    refine ps_iload_n (ps_at tX0_unlikePlaces_ok 12 rfl) rfl rfl ?_
    refine ps_iload (ps_at tX0_unlikePlaces_ok 13 rfl) rfl ?_
    refine ps_callV (M2 := mX0_groupLetter) (av := [.inl v2, .inl v4]) (rest := [.inl (sGl σ i0 v1 v4.toNatClampNeg)]) (ps_at tX0_unlikePlaces_ok 14 rfl) cvX0_77 sh_3 rfl rfl (fun _ => Nat.le_of_ble_eq_true rfl) (pX0_groupLetter (h2 c0) ?_)
    refine ps_callS (M2 := mX0_areUnlike) (av := [.inl (sGl σ i0 v1 v4.toNatClampNeg), .inl (sGl σ i0 v2 v4.toNatClampNeg)]) (rest := []) (ps_at tX0_unlikePlaces_ok 15 rfl) csX0_46 rfl rfl (fun _ => Nat.le_of_ble_eq_true rfl) (pX0_areUnlike ?_)
    refine ps_if_eq (tgt := 35) (ps_at tX0_unlikePlaces_ok 16 rfl) (by decide) (fun c1 => ?_) (fun c1 => ?_)
    · skip
      refine ps_iinc (L' := [some (.inr (.inr (3, i0))), some (.inl v1), some (.inl v2), some (.inl v3), some (.inl (v4 + 1))]) (y := 1) (ps_at tX0_unlikePlaces_ok 18 rfl) rfl (by decide) (by decide) rfl ?_
      refine ps_goto (tgt := 5) (ps_at tX0_unlikePlaces_ok 19 rfl) (by decide) ?_
      exact h3 c0 c1
    · skip
      refine ps_iinc (L' := [some (.inr (.inr (3, i0))), some (.inl v1), some (.inl v2), some (.inl (v3 + 1)), some (.inl v4)]) (y := 1) (ps_at tX0_unlikePlaces_ok 17 rfl) rfl (by decide) (by decide) rfl ?_
      refine ps_iinc (L' := [some (.inr (.inr (3, i0))), some (.inl v1), some (.inl v2), some (.inl (v3 + 1)), some (.inl (v4 + 1))]) (y := 1) (ps_at tX0_unlikePlaces_ok 18 rfl) rfl (by decide) (by decide) rfl ?_
      refine ps_goto (tgt := 5) (ps_at tX0_unlikePlaces_ok 19 rfl) (by decide) ?_
      exact h4 c0 c1
theorem eX0_unlikePlaces {d : Nat} {Q : Option ps_V → ps_S → Prop} {i0 : Nat} {v1 : Int32} {v2 : Int32} {σ : ps_S} (h : kX0_unlikePlaces_0 d Q i0 v1 v2 σ) : ps_C mX0_unlikePlaces (d + 1) [.inr (.inr (3, i0)), .inl v1, .inl v2] σ Q := ps_enter (by decide) rfl ⟨rfl, rfl, rfl⟩ rfl (Nat.le_of_ble_eq_true rfl) h
theorem pX0_unlikePlaces {d : Nat} {Q : Option ps_V → ps_S → Prop} {i0 : Nat} {v1 v2 : Int32} {σ : ps_S}  (hq : Q (some (.inl (nI (cntN 6 (fun p => ¬ jbUn (sGl σ i0 v1 p) (sGl σ i0 v2 p) = 0))))) σ) : ps_C mX0_unlikePlaces (d + 1) [.inr (.inr (3, i0)), .inl v1, .inl v2] σ Q := by
  have key : ∀ r j, j + r = 6 → kX0_unlikePlaces_5 d Q i0 v1 v2 (nI (cntN j (fun p => ¬ jbUn (sGl σ i0 v1 p) (sGl σ i0 v2 p) = 0))) (nI j) σ := by
    intro r
    induction r with
    | zero =>
      intro j hj
      obtain rfl : j = 6 := by omega
      exact bX0_unlikePlaces_5 (fun _ => hq) (lpX (N := 6) (by decide)) (lpX (N := 6) (by decide)) (lpX (N := 6) (by decide))
    | succ r ih =>
      intro j hj
      have hj0 : j < 6 := by omega
      have hjc : (nI j).toNatClampNeg = j := nI_clamp (by omega)
      refine bX0_unlikePlaces_5 (lpN (N := 6) hj0 (by decide)) (fun _ => vp_in_nI hj0 (by decide)) (fun _ c => ?_) (fun _ c => ?_)
      · rw [hjc] at c
        rw [nI_1, cn_f (P := fun p => ¬ jbUn (sGl σ i0 v1 p) (sGl σ i0 v2 p) = 0) (fun h => h c)]
        exact ih (j + 1) (by omega)
      · rw [hjc] at c
        rw [cn_t (P := fun p => ¬ jbUn (sGl σ i0 v1 p) (sGl σ i0 v2 p) = 0) c, nI_1]
        exact ih (j + 1) (by omega)
  exact eX0_unlikePlaces (bX0_unlikePlaces_0 (key 6 0 rfl))
abbrev kX0_statesAhead_0 (d : Nat) (Q : Option ps_V → ps_S → Prop) (i0 : Nat) (v1 : Int32) (σ : ps_S) : Prop := ps_K mX0_statesAhead (d + 1) (ps_QF Q) 0 [some (.inr (.inr (3, i0))), some (.inl v1), none, none] [] σ
abbrev kX0_statesAhead_4 (d : Nat) (Q : Option ps_V → ps_S → Prop) (i0 : Nat) (v1 : Int32) (v2 : Int32) (v3 : Int32) (σ : ps_S) : Prop := ps_K mX0_statesAhead (d + 1) (ps_QF Q) 4 [some (.inr (.inr (3, i0))), some (.inl v1), some (.inl v2), some (.inl v3)] [] σ
theorem bX0_statesAhead_0 {d : Nat} {Q : Option ps_V → ps_S → Prop} {i0 : Nat} {v1 : Int32} {σ : ps_S} (h1 : kX0_statesAhead_4 d Q i0 v1 0 0 σ) : kX0_statesAhead_0 d Q i0 v1 σ := by
  refine ps_iconst (x := 0) (ps_at tX0_statesAhead_ok 0 rfl) (by decide) ?_
  refine ps_istore_n (L' := [some (.inr (.inr (3, i0))), some (.inl v1), some (.inl 0), none]) (ps_at tX0_statesAhead_ok 1 rfl) rfl (by decide) rfl ?_
  refine ps_iconst (x := 0) (ps_at tX0_statesAhead_ok 2 rfl) (by decide) ?_
  refine ps_istore_n (L' := [some (.inr (.inr (3, i0))), some (.inl v1), some (.inl 0), some (.inl 0)]) (ps_at tX0_statesAhead_ok 3 rfl) rfl (by decide) rfl ?_
  exact h1
theorem bX0_statesAhead_4 {d : Nat} {Q : Option ps_V → ps_S → Prop} {i0 : Nat} {v1 : Int32} {v2 : Int32} {v3 : Int32} {σ : ps_S} (h1 : 9 ≤ v3 → Q (some (.inl v2)) σ) (h2 : ¬ 9 ≤ v3 → vp_in v3 9) (h3 : ¬ 9 ≤ v3 → (σ 9 i0 v3.toNatClampNeg) = (-900009) → kX0_statesAhead_4 d Q i0 v1 v2 (v3 + 1) σ) (h4 : ¬ 9 ≤ v3 → ¬ (σ 9 i0 v3.toNatClampNeg) = (-900009) → (σ 9 i0 v3.toNatClampNeg) = v1 → kX0_statesAhead_4 d Q i0 v1 v2 (v3 + 1) σ) (h5 : ¬ 9 ≤ v3 → ¬ (σ 9 i0 v3.toNatClampNeg) = (-900009) → ¬ (σ 9 i0 v3.toNatClampNeg) = v1 → vp_in v1 9) (h6 : ¬ 9 ≤ v3 → ¬ (σ 9 i0 v3.toNatClampNeg) = (-900009) → ¬ (σ 9 i0 v3.toNatClampNeg) = v1 → (jX0_tellsAheadOf σ i0 v3 v1) = 0 → kX0_statesAhead_4 d Q i0 v1 v2 (v3 + 1) σ) (h7 : ¬ 9 ≤ v3 → ¬ (σ 9 i0 v3.toNatClampNeg) = (-900009) → ¬ (σ 9 i0 v3.toNatClampNeg) = v1 → ¬ (jX0_tellsAheadOf σ i0 v3 v1) = 0 → kX0_statesAhead_4 d Q i0 v1 (v2 ||| ((1 : Int32) <<< ((σ 9 i0 v3.toNatClampNeg) &&& 31))) (v3 + 1) σ) : kX0_statesAhead_4 d Q i0 v1 v2 v3 σ := by
  refine ps_iload_n (ps_at tX0_statesAhead_ok 4 rfl) rfl rfl ?_
  refine ps_bipush (x := 9) (ps_at tX0_statesAhead_ok 5 rfl) (by decide) ?_
  refine ps_icmp_ge (tgt := 57) (ps_at tX0_statesAhead_ok 6 rfl) (by decide) (fun c0 => ?_) (fun c0 => ?_)
  · skip
    refine ps_iload_n (ps_at tX0_statesAhead_ok 35 rfl) rfl rfl ?_
    exact ps_iret (ps_at tX0_statesAhead_ok 36 rfl) rfl ⟨rfl, rfl⟩ (h1 c0)
  · skip
    refine ps_aload_n (ps_at tX0_statesAhead_ok 7 rfl) rfl rfl ?_
    refine ps_getR (ps_at tX0_statesAhead_ok 8 rfl) flX0_26 sh_3 rfl ?_
    refine ps_iload_n (ps_at tX0_statesAhead_ok 9 rfl) rfl rfl ?_
    refine ps_iald (ps_at tX0_statesAhead_ok 10 rfl) sh_9 (h2 c0) ?_
    refine ps_ldc (ps_at tX0_statesAhead_ok 11 rfl) cnX0_32 ?_
    refine ps_icmp_eq (tgt := 51) (ps_at tX0_statesAhead_ok 12 rfl) (by decide) (fun c1 => ?_) (fun c1 => ?_)
    · skip
      refine ps_iinc (L' := [some (.inr (.inr (3, i0))), some (.inl v1), some (.inl v2), some (.inl (v3 + 1))]) (y := 1) (ps_at tX0_statesAhead_ok 33 rfl) rfl (by decide) (by decide) rfl ?_
      refine ps_goto (tgt := 4) (ps_at tX0_statesAhead_ok 34 rfl) (by decide) ?_
      exact h3 c0 c1
    · skip
      refine ps_aload_n (ps_at tX0_statesAhead_ok 13 rfl) rfl rfl ?_
      refine ps_getR (ps_at tX0_statesAhead_ok 14 rfl) flX0_26 sh_3 rfl ?_
      refine ps_iload_n (ps_at tX0_statesAhead_ok 15 rfl) rfl rfl ?_
      refine ps_iald (ps_at tX0_statesAhead_ok 16 rfl) sh_9 (h2 c0) ?_
      refine ps_iload_n (ps_at tX0_statesAhead_ok 17 rfl) rfl rfl ?_
      refine ps_icmp_eq (tgt := 51) (ps_at tX0_statesAhead_ok 18 rfl) (by decide) (fun c2 => ?_) (fun c2 => ?_)
      · skip
        refine ps_iinc (L' := [some (.inr (.inr (3, i0))), some (.inl v1), some (.inl v2), some (.inl (v3 + 1))]) (y := 1) (ps_at tX0_statesAhead_ok 33 rfl) rfl (by decide) (by decide) rfl ?_
        refine ps_goto (tgt := 4) (ps_at tX0_statesAhead_ok 34 rfl) (by decide) ?_
        exact h4 c0 c1 c2
      · skip
        refine ps_aload_n (ps_at tX0_statesAhead_ok 19 rfl) rfl rfl ?_
        refine ps_iload_n (ps_at tX0_statesAhead_ok 20 rfl) rfl rfl ?_
        refine ps_iload_n (ps_at tX0_statesAhead_ok 21 rfl) rfl rfl ?_
        refine ps_callV (M2 := mX0_tellsAheadOf) (av := [.inl v3, .inl v1]) (rest := []) (ps_at tX0_statesAhead_ok 22 rfl) cvX0_80 sh_3 rfl rfl (fun _ => Nat.le_of_ble_eq_true rfl) (pX0_tellsAheadOf (h2 c0) (h5 c0 c1 c2) ?_)
        refine ps_if_eq (tgt := 51) (ps_at tX0_statesAhead_ok 23 rfl) (by decide) (fun c3 => ?_) (fun c3 => ?_)
        · skip
          refine ps_iinc (L' := [some (.inr (.inr (3, i0))), some (.inl v1), some (.inl v2), some (.inl (v3 + 1))]) (y := 1) (ps_at tX0_statesAhead_ok 33 rfl) rfl (by decide) (by decide) rfl ?_
          refine ps_goto (tgt := 4) (ps_at tX0_statesAhead_ok 34 rfl) (by decide) ?_
          exact h6 c0 c1 c2 c3
        · skip
          refine ps_iload_n (ps_at tX0_statesAhead_ok 24 rfl) rfl rfl ?_
          refine ps_iconst (x := 1) (ps_at tX0_statesAhead_ok 25 rfl) (by decide) ?_
          refine ps_aload_n (ps_at tX0_statesAhead_ok 26 rfl) rfl rfl ?_
          refine ps_getR (ps_at tX0_statesAhead_ok 27 rfl) flX0_26 sh_3 rfl ?_
          refine ps_iload_n (ps_at tX0_statesAhead_ok 28 rfl) rfl rfl ?_
          refine ps_iald (ps_at tX0_statesAhead_ok 29 rfl) sh_9 (h2 c0) ?_
          refine ps_ishl (ps_at tX0_statesAhead_ok 30 rfl) ?_
          refine ps_ior (ps_at tX0_statesAhead_ok 31 rfl) ?_
          refine ps_istore_n (L' := [some (.inr (.inr (3, i0))), some (.inl v1), some (.inl (v2 ||| ((1 : Int32) <<< ((σ 9 i0 v3.toNatClampNeg) &&& 31)))), some (.inl v3)]) (ps_at tX0_statesAhead_ok 32 rfl) rfl (by decide) rfl ?_
          refine ps_iinc (L' := [some (.inr (.inr (3, i0))), some (.inl v1), some (.inl (v2 ||| ((1 : Int32) <<< ((σ 9 i0 v3.toNatClampNeg) &&& 31)))), some (.inl (v3 + 1))]) (y := 1) (ps_at tX0_statesAhead_ok 33 rfl) rfl (by decide) (by decide) rfl ?_
          refine ps_goto (tgt := 4) (ps_at tX0_statesAhead_ok 34 rfl) (by decide) ?_
          exact h7 c0 c1 c2 c3
theorem eX0_statesAhead {d : Nat} {Q : Option ps_V → ps_S → Prop} {i0 : Nat} {v1 : Int32} {σ : ps_S} (h : kX0_statesAhead_0 d Q i0 v1 σ) : ps_C mX0_statesAhead (d + 1) [.inr (.inr (3, i0)), .inl v1] σ Q := ps_enter (by decide) rfl ⟨rfl, rfl, rfl⟩ rfl (Nat.le_of_ble_eq_true rfl) h
theorem pX0_statesAhead {d : Nat} {Q : Option ps_V → ps_S → Prop} {i0 : Nat} {v1 : Int32} {σ : ps_S} (o1 : vp_in v1 9) (hq : Q (some (.inl (sAh σ i0 v1))) σ) : ps_C mX0_statesAhead (d + 1) [.inr (.inr (3, i0)), .inl v1] σ Q := by
  obtain ⟨g, hg⟩ : ∃ g : Nat → Int32, g = (fun a => if σ 9 i0 a = -900009 then 0 else if σ 9 i0 a = v1 then 0 else if jX0_tellsAheadOf σ i0 (nI a) v1 = 0 then 0 else (1 : Int32) <<< (σ 9 i0 a &&& 31)) := ⟨_, rfl⟩
  have hq : Q (some (.inl (jOrs 9 g))) σ := by rw [hg]; exact hq
  have or0 : ∀ x : Int32, x = x ||| 0 := fun x => (Int32.or_zero).symm
  have key : ∀ r j, j + r = 9 → kX0_statesAhead_4 d Q i0 v1 (jOrs j g) (nI j) σ := by
    intro r
    induction r with
    | zero =>
      intro j hj
      obtain rfl : j = 9 := by omega
      exact bX0_statesAhead_4 (fun _ => hq) (lpX (N := 9) (by decide)) (lpX (N := 9) (by decide)) (lpX (N := 9) (by decide)) (lpX (N := 9) (by decide)) (lpX (N := 9) (by decide)) (lpX (N := 9) (by decide))
    | succ r ih =>
      intro j hj
      have hj0 : j < 9 := by omega
      have hjc : (nI j).toNatClampNeg = j := nI_clamp (by omega)
      have ih2 := ih (j + 1) (by omega)
      rw [show jOrs (j + 1) g = jOrs j g ||| g j from rfl, ← nI_1] at ih2
      refine bX0_statesAhead_4 (lpN (N := 9) hj0 (by decide)) (fun _ => vp_in_nI hj0 (by decide)) (fun _ c => ?_) (fun _ c c2 => ?_) (fun _ _ _ => o1) (fun _ c c2 c3 => ?_) (fun _ c c2 c3 => ?_)
      · rw [hjc] at c
        have e : g j = 0 := by rw [hg]; simp only [c, if_true]
        rw [e, ← or0] at ih2
        exact ih2
      · rw [hjc] at c c2
        have e : g j = 0 := by rw [hg]; simp only [c2, if_true]; split <;> rfl
        rw [e, ← or0] at ih2
        exact ih2
      · rw [hjc] at c c2
        have e : g j = 0 := by rw [hg]; simp only [c, c2, c3, if_true, if_false]
        rw [e, ← or0] at ih2
        exact ih2
      · rw [hjc] at c c2 ⊢
        have e : g j = (1 : Int32) <<< (σ 9 i0 j &&& 31) := by rw [hg]; simp only [c, c2, c3, if_false]
        rw [e] at ih2
        exact ih2
  exact eX0_statesAhead (bX0_statesAhead_0 (key 9 0 rfl))
abbrev kX0_readersOf_0 (d : Nat) (Q : Option ps_V → ps_S → Prop) (i0 : Nat) (v1 : Int32) (v2 : Int32) (σ : ps_S) : Prop := ps_K mX0_readersOf d (ps_QF Q) 0 [some (.inr (.inr (3, i0))), some (.inl v1), some (.inl v2), none, none] [] σ
abbrev kX0_readersOf_5 (d : Nat) (Q : Option ps_V → ps_S → Prop) (i0 : Nat) (v1 : Int32) (v2 : Int32) (v3 : Int32) (v4 : Int32) (σ : ps_S) : Prop := ps_K mX0_readersOf d (ps_QF Q) 5 [some (.inr (.inr (3, i0))), some (.inl v1), some (.inl v2), some (.inl v3), some (.inl v4)] [] σ
theorem bX0_readersOf_0 {d : Nat} {Q : Option ps_V → ps_S → Prop} {i0 : Nat} {v1 : Int32} {v2 : Int32} {σ : ps_S} (h1 : kX0_readersOf_5 d Q i0 v1 v2 0 0 σ) : kX0_readersOf_0 d Q i0 v1 v2 σ := by
  refine ps_iconst (x := 0) (ps_at tX0_readersOf_ok 0 rfl) (by decide) ?_
  refine ps_istore_n (L' := [some (.inr (.inr (3, i0))), some (.inl v1), some (.inl v2), some (.inl 0), none]) (ps_at tX0_readersOf_ok 1 rfl) rfl (by decide) rfl ?_
  refine ps_iconst (x := 0) (ps_at tX0_readersOf_ok 2 rfl) (by decide) ?_
  refine ps_istore (L' := [some (.inr (.inr (3, i0))), some (.inl v1), some (.inl v2), some (.inl 0), some (.inl 0)]) (ps_at tX0_readersOf_ok 3 rfl) (by decide) rfl ?_
  exact h1
theorem bX0_readersOf_5 {d : Nat} {Q : Option ps_V → ps_S → Prop} {i0 : Nat} {v1 : Int32} {v2 : Int32} {v3 : Int32} {v4 : Int32} {σ : ps_S} (h1 : 9 ≤ v4 → Q (some (.inl v3)) σ) (h2 : ¬ 9 ≤ v4 → vp_in v4 9) (h3 : ¬ 9 ≤ v4 → vp_in v1 6) (h4 : ¬ 9 ≤ v4 → ¬ (σ 5 (9 * i0 + v4.toNatClampNeg) v1.toNatClampNeg) = v2 → kX0_readersOf_5 d Q i0 v1 v2 v3 (v4 + 1) σ) (h5 : ¬ 9 ≤ v4 → (σ 5 (9 * i0 + v4.toNatClampNeg) v1.toNatClampNeg) = v2 → kX0_readersOf_5 d Q i0 v1 v2 (v3 ||| ((1 : Int32) <<< (v4 &&& 31))) (v4 + 1) σ) : kX0_readersOf_5 d Q i0 v1 v2 v3 v4 σ := by
  refine ps_iload (ps_at tX0_readersOf_ok 4 rfl) rfl ?_
  refine ps_bipush (x := 9) (ps_at tX0_readersOf_ok 5 rfl) (by decide) ?_
  refine ps_icmp_ge (tgt := 38) (ps_at tX0_readersOf_ok 6 rfl) (by decide) (fun c0 => ?_) (fun c0 => ?_)
  · skip
    refine ps_iload_n (ps_at tX0_readersOf_ok 23 rfl) rfl rfl ?_
    exact ps_iret (ps_at tX0_readersOf_ok 24 rfl) rfl ⟨rfl, rfl⟩ (h1 c0)
  · skip
    refine ps_aload_n (ps_at tX0_readersOf_ok 7 rfl) rfl rfl ?_
    refine ps_getR (ps_at tX0_readersOf_ok 8 rfl) flX0_11 sh_3 rfl ?_
    refine ps_iload (ps_at tX0_readersOf_ok 9 rfl) rfl ?_
    refine ps_aald (ps_at tX0_readersOf_ok 10 rfl) sh_4 (Or.inl rfl) (h2 c0) ?_
    refine ps_iload_n (ps_at tX0_readersOf_ok 11 rfl) rfl rfl ?_
    refine ps_iald (ps_at tX0_readersOf_ok 12 rfl) sh_5 (h3 c0) ?_
    refine ps_iload_n (ps_at tX0_readersOf_ok 13 rfl) rfl rfl ?_
    refine ps_icmp_ne (tgt := 32) (ps_at tX0_readersOf_ok 14 rfl) (by decide) (fun c1 => ?_) (fun c1 => ?_)
    · skip
      refine ps_iinc (L' := [some (.inr (.inr (3, i0))), some (.inl v1), some (.inl v2), some (.inl v3), some (.inl (v4 + 1))]) (y := 1) (ps_at tX0_readersOf_ok 21 rfl) rfl (by decide) (by decide) rfl ?_
      refine ps_goto (tgt := 5) (ps_at tX0_readersOf_ok 22 rfl) (by decide) ?_
      exact h4 c0 c1
    · skip
      refine ps_iload_n (ps_at tX0_readersOf_ok 15 rfl) rfl rfl ?_
      refine ps_iconst (x := 1) (ps_at tX0_readersOf_ok 16 rfl) (by decide) ?_
      refine ps_iload (ps_at tX0_readersOf_ok 17 rfl) rfl ?_
      refine ps_ishl (ps_at tX0_readersOf_ok 18 rfl) ?_
      refine ps_ior (ps_at tX0_readersOf_ok 19 rfl) ?_
      refine ps_istore_n (L' := [some (.inr (.inr (3, i0))), some (.inl v1), some (.inl v2), some (.inl (v3 ||| ((1 : Int32) <<< (v4 &&& 31)))), some (.inl v4)]) (ps_at tX0_readersOf_ok 20 rfl) rfl (by decide) rfl ?_
      refine ps_iinc (L' := [some (.inr (.inr (3, i0))), some (.inl v1), some (.inl v2), some (.inl (v3 ||| ((1 : Int32) <<< (v4 &&& 31)))), some (.inl (v4 + 1))]) (y := 1) (ps_at tX0_readersOf_ok 21 rfl) rfl (by decide) (by decide) rfl ?_
      refine ps_goto (tgt := 5) (ps_at tX0_readersOf_ok 22 rfl) (by decide) ?_
      exact h5 c0 c1
theorem eX0_readersOf {d : Nat} {Q : Option ps_V → ps_S → Prop} {i0 : Nat} {v1 : Int32} {v2 : Int32} {σ : ps_S} (h : kX0_readersOf_0 d Q i0 v1 v2 σ) : ps_C mX0_readersOf d [.inr (.inr (3, i0)), .inl v1, .inl v2] σ Q := ps_enter (by decide) rfl ⟨rfl, rfl, rfl⟩ rfl (Nat.le_of_ble_eq_true rfl) h
theorem pX0_readersOf {d : Nat} {Q : Option ps_V → ps_S → Prop} {i0 : Nat} {v1 v2 : Int32} {σ : ps_S} (o1 : vp_in v1 6) (hq : Q (some (.inl (nI (mkN 9 (fun c => σ 5 (9 * i0 + c) v1.toNatClampNeg = v2))))) σ) : ps_C mX0_readersOf d [.inr (.inr (3, i0)), .inl v1, .inl v2] σ Q := by
  have key : ∀ r j, j + r = 9 → kX0_readersOf_5 d Q i0 v1 v2 (nI (mkN j (fun c => σ 5 (9 * i0 + c) v1.toNatClampNeg = v2))) (nI j) σ := by
    intro r
    induction r with
    | zero =>
      intro j hj
      obtain rfl : j = 9 := by omega
      exact bX0_readersOf_5 (fun _ => hq) (lpX (N := 9) (by decide)) (lpX (N := 9) (by decide)) (lpX (N := 9) (by decide)) (lpX (N := 9) (by decide))
    | succ r ih =>
      intro j hj
      have hj0 : j < 9 := by omega
      have hjc : (nI j).toNatClampNeg = j := nI_clamp (by omega)
      refine bX0_readersOf_5 (lpN (N := 9) hj0 (by decide)) (fun _ => vp_in_nI hj0 (by decide)) (fun _ => o1) (fun _ c => ?_) (fun _ c => ?_)
      · rw [hjc] at c
        rw [nI_1, mk_f (P := fun c => σ 5 (9 * i0 + c) v1.toNatClampNeg = v2) c]
        exact ih (j + 1) (by omega)
      · rw [hjc] at c
        rw [nI_1, mk_t (P := fun c => σ 5 (9 * i0 + c) v1.toNatClampNeg = v2) (by omega) c]
        exact ih (j + 1) (by omega)
  exact eX0_readersOf (bX0_readersOf_0 (key 9 0 rfl))
abbrev kX0_readingCount_0 (d : Nat) (Q : Option ps_V → ps_S → Prop) (i0 : Nat) (σ : ps_S) : Prop := ps_K mX0_readingCount d (ps_QF Q) 0 [some (.inr (.inr (3, i0))), none, none, none] [] σ
abbrev kX0_readingCount_4 (d : Nat) (Q : Option ps_V → ps_S → Prop) (i0 : Nat) (v1 : Int32) (v2 : Int32) (σ : ps_S) : Prop := ps_K mX0_readingCount d (ps_QF Q) 4 [some (.inr (.inr (3, i0))), some (.inl v1), some (.inl v2), none] [] σ
abbrev kX0_readingCount_12 (d : Nat) (Q : Option ps_V → ps_S → Prop) (i0 : Nat) (v1 : Int32) (v2 : Int32) (v3 : Int32) (σ : ps_S) : Prop := ps_K mX0_readingCount d (ps_QF Q) 12 [some (.inr (.inr (3, i0))), some (.inl v1), some (.inl v2), some (.inl v3)] [] σ
theorem bX0_readingCount_0 {d : Nat} {Q : Option ps_V → ps_S → Prop} {i0 : Nat} {σ : ps_S} (h1 : kX0_readingCount_4 d Q i0 0 0 σ) : kX0_readingCount_0 d Q i0 σ := by
  refine ps_iconst (x := 0) (ps_at tX0_readingCount_ok 0 rfl) (by decide) ?_
  refine ps_istore_n (L' := [some (.inr (.inr (3, i0))), some (.inl 0), none, none]) (ps_at tX0_readingCount_ok 1 rfl) rfl (by decide) rfl ?_
  refine ps_iconst (x := 0) (ps_at tX0_readingCount_ok 2 rfl) (by decide) ?_
  refine ps_istore_n (L' := [some (.inr (.inr (3, i0))), some (.inl 0), some (.inl 0), none]) (ps_at tX0_readingCount_ok 3 rfl) rfl (by decide) rfl ?_
  exact h1
theorem bX0_readingCount_4 {d : Nat} {Q : Option ps_V → ps_S → Prop} {i0 : Nat} {v1 : Int32} {v2 : Int32} {σ : ps_S} (h1 : 9 ≤ v2 → Q (some (.inl v1)) σ) (h2 : ¬ 9 ≤ v2 → kX0_readingCount_12 d Q i0 v1 v2 0 σ) : kX0_readingCount_4 d Q i0 v1 v2 σ := by
  refine ps_iload_n (ps_at tX0_readingCount_ok 4 rfl) rfl rfl ?_
  refine ps_bipush (x := 9) (ps_at tX0_readingCount_ok 5 rfl) (by decide) ?_
  refine ps_icmp_ge (tgt := 46) (ps_at tX0_readingCount_ok 6 rfl) (by decide) (fun c0 => ?_) (fun c0 => ?_)
  · skip
    refine ps_iload_n (ps_at tX0_readingCount_ok 25 rfl) rfl rfl ?_
    exact ps_iret (ps_at tX0_readingCount_ok 26 rfl) rfl ⟨rfl, rfl⟩ (h1 c0)
  · skip
    refine ps_iconst (x := 0) (ps_at tX0_readingCount_ok 7 rfl) (by decide) ?_
    refine ps_istore_n (L' := [some (.inr (.inr (3, i0))), some (.inl v1), some (.inl v2), some (.inl 0)]) (ps_at tX0_readingCount_ok 8 rfl) rfl (by decide) rfl ?_
    exact h2 c0
theorem bX0_readingCount_12 {d : Nat} {Q : Option ps_V → ps_S → Prop} {i0 : Nat} {v1 : Int32} {v2 : Int32} {v3 : Int32} {σ : ps_S} (h1 : 6 ≤ v3 → kX0_readingCount_4 d Q i0 v1 (v2 + 1) σ) (h2 : ¬ 6 ≤ v3 → vp_in v2 9) (h3 : ¬ 6 ≤ v3 → vp_in v3 6) (h4 : ¬ 6 ≤ v3 → (σ 5 (9 * i0 + v2.toNatClampNeg) v3.toNatClampNeg) = (-900009) → kX0_readingCount_12 d Q i0 v1 v2 (v3 + 1) σ) (h5 : ¬ 6 ≤ v3 → ¬ (σ 5 (9 * i0 + v2.toNatClampNeg) v3.toNatClampNeg) = (-900009) → kX0_readingCount_12 d Q i0 (v1 + 1) v2 (v3 + 1) σ) : kX0_readingCount_12 d Q i0 v1 v2 v3 σ := by
  refine ps_iload_n (ps_at tX0_readingCount_ok 9 rfl) rfl rfl ?_
  refine ps_bipush (x := 6) (ps_at tX0_readingCount_ok 10 rfl) (by decide) ?_
  refine ps_icmp_ge (tgt := 40) (ps_at tX0_readingCount_ok 11 rfl) (by decide) (fun c0 => ?_) (fun c0 => ?_)
  · skip
    refine ps_iinc (L' := [some (.inr (.inr (3, i0))), some (.inl v1), some (.inl (v2 + 1)), some (.inl v3)]) (y := 1) (ps_at tX0_readingCount_ok 23 rfl) rfl (by decide) (by decide) rfl ?_
    refine ps_goto (tgt := 4) (ps_at tX0_readingCount_ok 24 rfl) (by decide) ?_
    refine ps_forget (L' := [some (.inr (.inr (3, i0))), some (.inl v1), some (.inl (v2 + 1)), none]) (And.intro rfl (And.intro rfl (And.intro rfl trivial))) ?_
    exact h1 c0
  · skip
    refine ps_aload_n (ps_at tX0_readingCount_ok 12 rfl) rfl rfl ?_
    refine ps_getR (ps_at tX0_readingCount_ok 13 rfl) flX0_11 sh_3 rfl ?_
    refine ps_iload_n (ps_at tX0_readingCount_ok 14 rfl) rfl rfl ?_
    refine ps_aald (ps_at tX0_readingCount_ok 15 rfl) sh_4 (Or.inl rfl) (h2 c0) ?_
    refine ps_iload_n (ps_at tX0_readingCount_ok 16 rfl) rfl rfl ?_
    refine ps_iald (ps_at tX0_readingCount_ok 17 rfl) sh_5 (h3 c0) ?_
    refine ps_ldc (ps_at tX0_readingCount_ok 18 rfl) cnX0_32 ?_
    refine ps_icmp_eq (tgt := 34) (ps_at tX0_readingCount_ok 19 rfl) (by decide) (fun c1 => ?_) (fun c1 => ?_)
    · skip
      refine ps_iinc (L' := [some (.inr (.inr (3, i0))), some (.inl v1), some (.inl v2), some (.inl (v3 + 1))]) (y := 1) (ps_at tX0_readingCount_ok 21 rfl) rfl (by decide) (by decide) rfl ?_
      refine ps_goto (tgt := 12) (ps_at tX0_readingCount_ok 22 rfl) (by decide) ?_
      exact h4 c0 c1
    · skip
      refine ps_iinc (L' := [some (.inr (.inr (3, i0))), some (.inl (v1 + 1)), some (.inl v2), some (.inl v3)]) (y := 1) (ps_at tX0_readingCount_ok 20 rfl) rfl (by decide) (by decide) rfl ?_
      refine ps_iinc (L' := [some (.inr (.inr (3, i0))), some (.inl (v1 + 1)), some (.inl v2), some (.inl (v3 + 1))]) (y := 1) (ps_at tX0_readingCount_ok 21 rfl) rfl (by decide) (by decide) rfl ?_
      refine ps_goto (tgt := 12) (ps_at tX0_readingCount_ok 22 rfl) (by decide) ?_
      exact h5 c0 c1
theorem eX0_readingCount {d : Nat} {Q : Option ps_V → ps_S → Prop} {i0 : Nat} {σ : ps_S} (h : kX0_readingCount_0 d Q i0 σ) : ps_C mX0_readingCount d [.inr (.inr (3, i0))] σ Q := ps_enter (by decide) rfl ⟨rfl, rfl, rfl⟩ rfl (Nat.le_of_ble_eq_true rfl) h
theorem pX0_readingCount {d : Nat} {Q : Option ps_V → ps_S → Prop} {i0 : Nat} {σ : ps_S}  (hq : Q (some (.inl (nI (sumN 9 (fun c => cntN 6 (fun p => ¬ σ 5 (9 * i0 + c) p = -900009)))))) σ) : ps_C mX0_readingCount d [.inr (.inr (3, i0))] σ Q := by
  have inner : ∀ c0, c0 < 9 → ∀ acc, kX0_readingCount_4 d Q i0 (nI (acc + cntN 6 (fun p => ¬ σ 5 (9 * i0 + c0) p = -900009))) (nI c0 + 1) σ → ∀ r j, j + r = 6 → kX0_readingCount_12 d Q i0 (nI (acc + cntN j (fun p => ¬ σ 5 (9 * i0 + c0) p = -900009))) (nI c0) (nI j) σ := by
    intro c0 hc acc hk r
    have hcc : (nI c0).toNatClampNeg = c0 := nI_clamp (by omega)
    induction r with
    | zero =>
      intro j hj
      obtain rfl : j = 6 := by omega
      exact bX0_readingCount_12 (fun _ => hk) (lpX (N := 6) (by decide)) (lpX (N := 6) (by decide)) (lpX (N := 6) (by decide)) (lpX (N := 6) (by decide))
    | succ r ih =>
      intro j hj
      have hj0 : j < 6 := by omega
      have hjc : (nI j).toNatClampNeg = j := nI_clamp (by omega)
      refine bX0_readingCount_12 (lpN (N := 6) hj0 (by decide)) (fun _ => vp_in_nI hc (by decide)) (fun _ => vp_in_nI hj0 (by decide)) (fun _ e => ?_) (fun _ e => ?_)
      · rw [hcc, hjc] at e
        have h := ih (j + 1) (by omega)
        rw [show cntN (j + 1) (fun p => ¬ σ 5 (9 * i0 + c0) p = -900009) = cntN j (fun p => ¬ σ 5 (9 * i0 + c0) p = -900009) + jN ((fun p => ¬ σ 5 (9 * i0 + c0) p = -900009) j) from rfl, jN_f (fun q => q e), Nat.add_zero] at h
        rw [nI_1]
        exact h
      · rw [hcc, hjc] at e
        have h := ih (j + 1) (by omega)
        rw [show cntN (j + 1) (fun p => ¬ σ 5 (9 * i0 + c0) p = -900009) = cntN j (fun p => ¬ σ 5 (9 * i0 + c0) p = -900009) + jN ((fun p => ¬ σ 5 (9 * i0 + c0) p = -900009) j) from rfl, jN_t (show (fun p => ¬ σ 5 (9 * i0 + c0) p = -900009) j from e), ← Nat.add_assoc] at h
        rw [nI_1, nI_1]
        exact h
  have key : ∀ r j, j + r = 9 → kX0_readingCount_4 d Q i0 (nI (sumN j (fun c => cntN 6 (fun p => ¬ σ 5 (9 * i0 + c) p = -900009)))) (nI j) σ := by
    intro r
    induction r with
    | zero =>
      intro j hj
      obtain rfl : j = 9 := by omega
      exact bX0_readingCount_4 (fun _ => hq) (lpX (N := 9) (by decide))
    | succ r ih =>
      intro j hj
      have hj0 : j < 9 := by omega
      refine bX0_readingCount_4 (lpN (N := 9) hj0 (by decide)) (fun _ => inner j hj0 _ ?_ 6 0 rfl)
      rw [nI_1]
      exact ih (j + 1) (by omega)
  exact eX0_readingCount (bX0_readingCount_0 (key 9 0 rfl))
abbrev kX0_aheadCount_0 (d : Nat) (Q : Option ps_V → ps_S → Prop) (i0 : Nat) (σ : ps_S) : Prop := ps_K mX0_aheadCount (d + 1) (ps_QF Q) 0 [some (.inr (.inr (3, i0))), none, none] [] σ
abbrev kX0_aheadCount_4 (d : Nat) (Q : Option ps_V → ps_S → Prop) (i0 : Nat) (v1 : Int32) (v2 : Int32) (σ : ps_S) : Prop := ps_K mX0_aheadCount (d + 1) (ps_QF Q) 4 [some (.inr (.inr (3, i0))), some (.inl v1), some (.inl v2)] [] σ
theorem bX0_aheadCount_0 {d : Nat} {Q : Option ps_V → ps_S → Prop} {i0 : Nat} {σ : ps_S} (h1 : kX0_aheadCount_4 d Q i0 0 0 σ) : kX0_aheadCount_0 d Q i0 σ := by
  refine ps_iconst (x := 0) (ps_at tX0_aheadCount_ok 0 rfl) (by decide) ?_
  refine ps_istore_n (L' := [some (.inr (.inr (3, i0))), some (.inl 0), none]) (ps_at tX0_aheadCount_ok 1 rfl) rfl (by decide) rfl ?_
  refine ps_iconst (x := 0) (ps_at tX0_aheadCount_ok 2 rfl) (by decide) ?_
  refine ps_istore_n (L' := [some (.inr (.inr (3, i0))), some (.inl 0), some (.inl 0)]) (ps_at tX0_aheadCount_ok 3 rfl) rfl (by decide) rfl ?_
  exact h1
theorem bX0_aheadCount_4 {d : Nat} {Q : Option ps_V → ps_S → Prop} {i0 : Nat} {v1 : Int32} {v2 : Int32} {σ : ps_S} (h1 : 9 ≤ v2 → Q (some (.inl v1)) σ) (h2 : ¬ 9 ≤ v2 → vp_in v2 9) (h3 : ¬ 9 ≤ v2 → kX0_aheadCount_4 d Q i0 (v1 + (jbPop (σ 6 i0 v2.toNatClampNeg))) (v2 + 1) σ) : kX0_aheadCount_4 d Q i0 v1 v2 σ := by
  refine ps_iload_n (ps_at tX0_aheadCount_ok 4 rfl) rfl rfl ?_
  refine ps_bipush (x := 9) (ps_at tX0_aheadCount_ok 5 rfl) (by decide) ?_
  refine ps_icmp_ge (tgt := 28) (ps_at tX0_aheadCount_ok 6 rfl) (by decide) (fun c0 => ?_) (fun c0 => ?_)
  · skip
    refine ps_iload_n (ps_at tX0_aheadCount_ok 17 rfl) rfl rfl ?_
    exact ps_iret (ps_at tX0_aheadCount_ok 18 rfl) rfl ⟨rfl, rfl⟩ (h1 c0)
  · skip
    refine ps_iload_n (ps_at tX0_aheadCount_ok 7 rfl) rfl rfl ?_
    refine ps_aload_n (ps_at tX0_aheadCount_ok 8 rfl) rfl rfl ?_
    refine ps_getR (ps_at tX0_aheadCount_ok 9 rfl) flX0_16 sh_3 rfl ?_
    refine ps_iload_n (ps_at tX0_aheadCount_ok 10 rfl) rfl rfl ?_
    refine ps_iald (ps_at tX0_aheadCount_ok 11 rfl) sh_6 (h2 c0) ?_
    refine ps_callS (M2 := mJ6_bitCount_0f7a4) (av := [.inl (σ 6 i0 v2.toNatClampNeg)]) (rest := [.inl v1]) (ps_at tX0_aheadCount_ok 12 rfl) csX0_83 rfl rfl (fun _ => Nat.le_of_ble_eq_true rfl) (pJ6_bitCount_0f7a4 ?_)
    refine ps_iadd (ps_at tX0_aheadCount_ok 13 rfl) ?_
    refine ps_istore_n (L' := [some (.inr (.inr (3, i0))), some (.inl (v1 + (jbPop (σ 6 i0 v2.toNatClampNeg)))), some (.inl v2)]) (ps_at tX0_aheadCount_ok 14 rfl) rfl (by decide) rfl ?_
    refine ps_iinc (L' := [some (.inr (.inr (3, i0))), some (.inl (v1 + (jbPop (σ 6 i0 v2.toNatClampNeg)))), some (.inl (v2 + 1))]) (y := 1) (ps_at tX0_aheadCount_ok 15 rfl) rfl (by decide) (by decide) rfl ?_
    refine ps_goto (tgt := 4) (ps_at tX0_aheadCount_ok 16 rfl) (by decide) ?_
    exact h3 c0
theorem eX0_aheadCount {d : Nat} {Q : Option ps_V → ps_S → Prop} {i0 : Nat} {σ : ps_S} (h : kX0_aheadCount_0 d Q i0 σ) : ps_C mX0_aheadCount (d + 1) [.inr (.inr (3, i0))] σ Q := ps_enter (by decide) rfl ⟨rfl, rfl, rfl⟩ rfl (Nat.le_of_ble_eq_true rfl) h
theorem pX0_aheadCount {d : Nat} {Q : Option ps_V → ps_S → Prop} {i0 : Nat} {σ : ps_S}  (hq : Q (some (.inl (jSum 9 (fun a => jbPop (σ 6 i0 a))))) σ) : ps_C mX0_aheadCount (d + 1) [.inr (.inr (3, i0))] σ Q := by
  have key : ∀ r j, j + r = 9 → kX0_aheadCount_4 d Q i0 (jSum j (fun a => jbPop (σ 6 i0 a))) (nI j) σ := by
    intro r
    induction r with
    | zero =>
      intro j hj
      obtain rfl : j = 9 := by omega
      exact bX0_aheadCount_4 (fun _ => hq) (lpX (N := 9) (by decide)) (lpX (N := 9) (by decide))
    | succ r ih =>
      intro j hj
      have hj0 : j < 9 := by omega
      have hjc : (nI j).toNatClampNeg = j := nI_clamp (by omega)
      have h := ih (j + 1) (by omega)
      rw [← nI_1] at h
      refine bX0_aheadCount_4 (lpN (N := 9) hj0 (by decide)) (fun _ => vp_in_nI hj0 (by decide)) (fun _ => ?_)
      rw [hjc]
      exact h
  exact eX0_aheadCount (bX0_aheadCount_0 (key 9 0 rfl))
abbrev kX1_countSheets_0 (d : Nat) (Q : Option ps_V → ps_S → Prop)  (σ : ps_S) : Prop := ps_K mX1_countSheets d (ps_QF Q) 0 [some (.inr (.inr (30, 0))), none, none] [] σ
abbrev kX1_countSheets_4 (d : Nat) (Q : Option ps_V → ps_S → Prop) (v1 : Int32) (v2 : Int32) (σ : ps_S) : Prop := ps_K mX1_countSheets d (ps_QF Q) 4 [some (.inr (.inr (30, 0))), some (.inl v1), some (.inl v2)] [] σ
theorem bX1_countSheets_0 {d : Nat} {Q : Option ps_V → ps_S → Prop}  {σ : ps_S} (h1 : kX1_countSheets_4 d Q 0 0 σ) : kX1_countSheets_0 d Q σ := by
  refine ps_iconst (x := 0) (ps_at tX1_countSheets_ok 0 rfl) (by decide) ?_
  refine ps_istore_n (L' := [some (.inr (.inr (30, 0))), some (.inl 0), none]) (ps_at tX1_countSheets_ok 1 rfl) rfl (by decide) rfl ?_
  refine ps_iconst (x := 0) (ps_at tX1_countSheets_ok 2 rfl) (by decide) ?_
  refine ps_istore_n (L' := [some (.inr (.inr (30, 0))), some (.inl 0), some (.inl 0)]) (ps_at tX1_countSheets_ok 3 rfl) rfl (by decide) rfl ?_
  exact h1
theorem bX1_countSheets_4 {d : Nat} {Q : Option ps_V → ps_S → Prop} {v1 : Int32} {v2 : Int32} {σ : ps_S} (h1 : 6 ≤ v2 → Q (some (.inl v1)) σ) (h2 : ¬ 6 ≤ v2 → vp_in v2 6) (h3 : ¬ 6 ≤ v2 → kX1_countSheets_4 d Q (v1 + (σ 33 0 v2.toNatClampNeg)) (v2 + 1) σ) : kX1_countSheets_4 d Q v1 v2 σ := by
  refine ps_iload_n (ps_at tX1_countSheets_ok 4 rfl) rfl rfl ?_
  refine ps_bipush (x := 6) (ps_at tX1_countSheets_ok 5 rfl) (by decide) ?_
  refine ps_icmp_ge (tgt := 25) (ps_at tX1_countSheets_ok 6 rfl) (by decide) (fun c0 => ?_) (fun c0 => ?_)
  · skip
    refine ps_iload_n (ps_at tX1_countSheets_ok 16 rfl) rfl rfl ?_
    exact ps_iret (ps_at tX1_countSheets_ok 17 rfl) rfl ⟨rfl, rfl⟩ (h1 c0)
  · skip
    refine ps_iload_n (ps_at tX1_countSheets_ok 7 rfl) rfl rfl ?_
    refine ps_aload_n (ps_at tX1_countSheets_ok 8 rfl) rfl rfl ?_
    refine ps_getR (ps_at tX1_countSheets_ok 9 rfl) flX1_16 sh_30 rfl ?_
    refine ps_iload_n (ps_at tX1_countSheets_ok 10 rfl) rfl rfl ?_
    refine ps_iald (ps_at tX1_countSheets_ok 11 rfl) sh_33 (h2 c0) ?_
    refine ps_iadd (ps_at tX1_countSheets_ok 12 rfl) ?_
    refine ps_istore_n (L' := [some (.inr (.inr (30, 0))), some (.inl (v1 + (σ 33 0 v2.toNatClampNeg))), some (.inl v2)]) (ps_at tX1_countSheets_ok 13 rfl) rfl (by decide) rfl ?_
    refine ps_iinc (L' := [some (.inr (.inr (30, 0))), some (.inl (v1 + (σ 33 0 v2.toNatClampNeg))), some (.inl (v2 + 1))]) (y := 1) (ps_at tX1_countSheets_ok 14 rfl) rfl (by decide) (by decide) rfl ?_
    refine ps_goto (tgt := 4) (ps_at tX1_countSheets_ok 15 rfl) (by decide) ?_
    exact h3 c0
theorem eX1_countSheets {d : Nat} {Q : Option ps_V → ps_S → Prop}  {σ : ps_S} (h : kX1_countSheets_0 d Q σ) : ps_C mX1_countSheets d [.inr (.inr (30, 0))] σ Q := ps_enter (by decide) rfl ⟨rfl, rfl, rfl⟩ rfl (Nat.le_of_ble_eq_true rfl) h
theorem pX1_countSheets {d : Nat} {Q : Option ps_V → ps_S → Prop}  {σ : ps_S}  (hq : Q (some (.inl (jSum 6 (fun f => σ 33 0 f)))) σ) : ps_C mX1_countSheets d [.inr (.inr (30, 0))] σ Q := by
  have key : ∀ r j, j + r = 6 → kX1_countSheets_4 d Q (jSum j (fun f => σ 33 0 f)) (nI j) σ := by
    intro r
    induction r with
    | zero =>
      intro j hj
      obtain rfl : j = 6 := by omega
      exact bX1_countSheets_4 (fun _ => hq) (lpX (N := 6) (by decide)) (lpX (N := 6) (by decide))
    | succ r ih =>
      intro j hj
      have hj0 : j < 6 := by omega
      have hjc : (nI j).toNatClampNeg = j := nI_clamp (by omega)
      have h := ih (j + 1) (by omega)
      rw [← nI_1] at h
      refine bX1_countSheets_4 (lpN (N := 6) hj0 (by decide)) (fun _ => vp_in_nI hj0 (by decide)) (fun _ => ?_)
      rw [hjc]
      exact h
  exact eX1_countSheets (bX1_countSheets_0 (key 6 0 rfl))
abbrev kX1_countSeen_0 (d : Nat) (Q : Option ps_V → ps_S → Prop)  (σ : ps_S) : Prop := ps_K mX1_countSeen d (ps_QF Q) 0 [some (.inr (.inr (30, 0))), none, none, none] [] σ
abbrev kX1_countSeen_4 (d : Nat) (Q : Option ps_V → ps_S → Prop) (v1 : Int32) (v2 : Int32) (σ : ps_S) : Prop := ps_K mX1_countSeen d (ps_QF Q) 4 [some (.inr (.inr (30, 0))), some (.inl v1), some (.inl v2), none] [] σ
abbrev kX1_countSeen_12 (d : Nat) (Q : Option ps_V → ps_S → Prop) (v1 : Int32) (v2 : Int32) (v3 : Int32) (σ : ps_S) : Prop := ps_K mX1_countSeen d (ps_QF Q) 12 [some (.inr (.inr (30, 0))), some (.inl v1), some (.inl v2), some (.inl v3)] [] σ
theorem bX1_countSeen_0 {d : Nat} {Q : Option ps_V → ps_S → Prop}  {σ : ps_S} (h1 : kX1_countSeen_4 d Q 0 0 σ) : kX1_countSeen_0 d Q σ := by
  refine ps_iconst (x := 0) (ps_at tX1_countSeen_ok 0 rfl) (by decide) ?_
  refine ps_istore_n (L' := [some (.inr (.inr (30, 0))), some (.inl 0), none, none]) (ps_at tX1_countSeen_ok 1 rfl) rfl (by decide) rfl ?_
  refine ps_iconst (x := 0) (ps_at tX1_countSeen_ok 2 rfl) (by decide) ?_
  refine ps_istore_n (L' := [some (.inr (.inr (30, 0))), some (.inl 0), some (.inl 0), none]) (ps_at tX1_countSeen_ok 3 rfl) rfl (by decide) rfl ?_
  exact h1
theorem bX1_countSeen_4 {d : Nat} {Q : Option ps_V → ps_S → Prop} {v1 : Int32} {v2 : Int32} {σ : ps_S} (h1 : 6 ≤ v2 → Q (some (.inl v1)) σ) (h2 : ¬ 6 ≤ v2 → kX1_countSeen_12 d Q v1 v2 0 σ) : kX1_countSeen_4 d Q v1 v2 σ := by
  refine ps_iload_n (ps_at tX1_countSeen_ok 4 rfl) rfl rfl ?_
  refine ps_bipush (x := 6) (ps_at tX1_countSeen_ok 5 rfl) (by decide) ?_
  refine ps_icmp_ge (tgt := 46) (ps_at tX1_countSeen_ok 6 rfl) (by decide) (fun c0 => ?_) (fun c0 => ?_)
  · skip
    refine ps_iload_n (ps_at tX1_countSeen_ok 25 rfl) rfl rfl ?_
    exact ps_iret (ps_at tX1_countSeen_ok 26 rfl) rfl ⟨rfl, rfl⟩ (h1 c0)
  · skip
    refine ps_iconst (x := 0) (ps_at tX1_countSeen_ok 7 rfl) (by decide) ?_
    refine ps_istore_n (L' := [some (.inr (.inr (30, 0))), some (.inl v1), some (.inl v2), some (.inl 0)]) (ps_at tX1_countSeen_ok 8 rfl) rfl (by decide) rfl ?_
    exact h2 c0
theorem bX1_countSeen_12 {d : Nat} {Q : Option ps_V → ps_S → Prop} {v1 : Int32} {v2 : Int32} {v3 : Int32} {σ : ps_S} (h1 : 12 ≤ v3 → kX1_countSeen_4 d Q v1 (v2 + 1) σ) (h2 : ¬ 12 ≤ v3 → vp_in v2 6) (h3 : ¬ 12 ≤ v3 → vp_in v3 12) (h4 : ¬ 12 ≤ v3 → (σ 35 v2.toNatClampNeg v3.toNatClampNeg) = (-900009) → kX1_countSeen_12 d Q v1 v2 (v3 + 1) σ) (h5 : ¬ 12 ≤ v3 → ¬ (σ 35 v2.toNatClampNeg v3.toNatClampNeg) = (-900009) → kX1_countSeen_12 d Q (v1 + 1) v2 (v3 + 1) σ) : kX1_countSeen_12 d Q v1 v2 v3 σ := by
  refine ps_iload_n (ps_at tX1_countSeen_ok 9 rfl) rfl rfl ?_
  refine ps_bipush (x := 12) (ps_at tX1_countSeen_ok 10 rfl) (by decide) ?_
  refine ps_icmp_ge (tgt := 40) (ps_at tX1_countSeen_ok 11 rfl) (by decide) (fun c0 => ?_) (fun c0 => ?_)
  · skip
    refine ps_iinc (L' := [some (.inr (.inr (30, 0))), some (.inl v1), some (.inl (v2 + 1)), some (.inl v3)]) (y := 1) (ps_at tX1_countSeen_ok 23 rfl) rfl (by decide) (by decide) rfl ?_
    refine ps_goto (tgt := 4) (ps_at tX1_countSeen_ok 24 rfl) (by decide) ?_
    refine ps_forget (L' := [some (.inr (.inr (30, 0))), some (.inl v1), some (.inl (v2 + 1)), none]) (And.intro rfl (And.intro rfl (And.intro rfl trivial))) ?_
    exact h1 c0
  · skip
    refine ps_aload_n (ps_at tX1_countSeen_ok 12 rfl) rfl rfl ?_
    refine ps_getR (ps_at tX1_countSeen_ok 13 rfl) flX1_20 sh_30 rfl ?_
    refine ps_iload_n (ps_at tX1_countSeen_ok 14 rfl) rfl rfl ?_
    refine ps_aald0 (ps_at tX1_countSeen_ok 15 rfl) sh_34 (Or.inl rfl) (h2 c0) ?_
    refine ps_iload_n (ps_at tX1_countSeen_ok 16 rfl) rfl rfl ?_
    refine ps_iald (ps_at tX1_countSeen_ok 17 rfl) sh_35 (h3 c0) ?_
    refine ps_ldc (ps_at tX1_countSeen_ok 18 rfl) cnX1_27 ?_
    refine ps_icmp_eq (tgt := 34) (ps_at tX1_countSeen_ok 19 rfl) (by decide) (fun c1 => ?_) (fun c1 => ?_)
    · skip
      refine ps_iinc (L' := [some (.inr (.inr (30, 0))), some (.inl v1), some (.inl v2), some (.inl (v3 + 1))]) (y := 1) (ps_at tX1_countSeen_ok 21 rfl) rfl (by decide) (by decide) rfl ?_
      refine ps_goto (tgt := 12) (ps_at tX1_countSeen_ok 22 rfl) (by decide) ?_
      exact h4 c0 c1
    · skip
      refine ps_iinc (L' := [some (.inr (.inr (30, 0))), some (.inl (v1 + 1)), some (.inl v2), some (.inl v3)]) (y := 1) (ps_at tX1_countSeen_ok 20 rfl) rfl (by decide) (by decide) rfl ?_
      refine ps_iinc (L' := [some (.inr (.inr (30, 0))), some (.inl (v1 + 1)), some (.inl v2), some (.inl (v3 + 1))]) (y := 1) (ps_at tX1_countSeen_ok 21 rfl) rfl (by decide) (by decide) rfl ?_
      refine ps_goto (tgt := 12) (ps_at tX1_countSeen_ok 22 rfl) (by decide) ?_
      exact h5 c0 c1
theorem eX1_countSeen {d : Nat} {Q : Option ps_V → ps_S → Prop}  {σ : ps_S} (h : kX1_countSeen_0 d Q σ) : ps_C mX1_countSeen d [.inr (.inr (30, 0))] σ Q := ps_enter (by decide) rfl ⟨rfl, rfl, rfl⟩ rfl (Nat.le_of_ble_eq_true rfl) h
theorem pX1_countSeen {d : Nat} {Q : Option ps_V → ps_S → Prop}  {σ : ps_S}  (hq : Q (some (.inl (nI (sumN 6 (fun f => cntN 12 (fun b => ¬ σ 35 f b = -900009)))))) σ) : ps_C mX1_countSeen d [.inr (.inr (30, 0))] σ Q := by
  have inner : ∀ c0, c0 < 6 → ∀ acc, kX1_countSeen_4 d Q (nI (acc + cntN 12 (fun p => ¬ σ 35 c0 p = -900009))) (nI c0 + 1) σ → ∀ r j, j + r = 12 → kX1_countSeen_12 d Q (nI (acc + cntN j (fun p => ¬ σ 35 c0 p = -900009))) (nI c0) (nI j) σ := by
    intro c0 hc acc hk r
    have hcc : (nI c0).toNatClampNeg = c0 := nI_clamp (by omega)
    induction r with
    | zero =>
      intro j hj
      obtain rfl : j = 12 := by omega
      exact bX1_countSeen_12 (fun _ => hk) (lpX (N := 12) (by decide)) (lpX (N := 12) (by decide)) (lpX (N := 12) (by decide)) (lpX (N := 12) (by decide))
    | succ r ih =>
      intro j hj
      have hj0 : j < 12 := by omega
      have hjc : (nI j).toNatClampNeg = j := nI_clamp (by omega)
      refine bX1_countSeen_12 (lpN (N := 12) hj0 (by decide)) (fun _ => vp_in_nI hc (by decide)) (fun _ => vp_in_nI hj0 (by decide)) (fun _ e => ?_) (fun _ e => ?_)
      · rw [hcc, hjc] at e
        have h := ih (j + 1) (by omega)
        rw [show cntN (j + 1) (fun p => ¬ σ 35 c0 p = -900009) = cntN j (fun p => ¬ σ 35 c0 p = -900009) + jN ((fun p => ¬ σ 35 c0 p = -900009) j) from rfl, jN_f (fun q => q e), Nat.add_zero] at h
        rw [nI_1]
        exact h
      · rw [hcc, hjc] at e
        have h := ih (j + 1) (by omega)
        rw [show cntN (j + 1) (fun p => ¬ σ 35 c0 p = -900009) = cntN j (fun p => ¬ σ 35 c0 p = -900009) + jN ((fun p => ¬ σ 35 c0 p = -900009) j) from rfl, jN_t (show (fun p => ¬ σ 35 c0 p = -900009) j from e), ← Nat.add_assoc] at h
        rw [nI_1, nI_1]
        exact h
  have key : ∀ r j, j + r = 6 → kX1_countSeen_4 d Q (nI (sumN j (fun c => cntN 12 (fun p => ¬ σ 35 c p = -900009)))) (nI j) σ := by
    intro r
    induction r with
    | zero =>
      intro j hj
      obtain rfl : j = 6 := by omega
      exact bX1_countSeen_4 (fun _ => hq) (lpX (N := 6) (by decide))
    | succ r ih =>
      intro j hj
      have hj0 : j < 6 := by omega
      refine bX1_countSeen_4 (lpN (N := 6) hj0 (by decide)) (fun _ => inner j hj0 _ ?_ 12 0 rfl)
      rw [nI_1]
      exact ih (j + 1) (by omega)
  exact eX1_countSeen (bX1_countSeen_0 (key 6 0 rfl))
abbrev kX2_wordsAgainst_0 (d : Nat) (Q : Option ps_V → ps_S → Prop) (v1 : Int32) (v2 : Int32) (σ : ps_S) : Prop := ps_K mX2_wordsAgainst d (ps_QF Q) 0 [some (.inr (.inr (36, 0))), some (.inl v1), some (.inl v2), none, none, none] [] σ
abbrev kX2_wordsAgainst_5 (d : Nat) (Q : Option ps_V → ps_S → Prop) (v1 : Int32) (v2 : Int32) (v3 : Int32) (v4 : Int32) (σ : ps_S) : Prop := ps_K mX2_wordsAgainst d (ps_QF Q) 5 [some (.inr (.inr (36, 0))), some (.inl v1), some (.inl v2), some (.inl v3), some (.inl v4), none] [] σ
abbrev kX2_wordsAgainst_15 (d : Nat) (Q : Option ps_V → ps_S → Prop) (v1 : Int32) (v2 : Int32) (v3 : Int32) (v4 : Int32) (v5 : Int32) (σ : ps_S) : Prop := ps_K mX2_wordsAgainst d (ps_QF Q) 15 [some (.inr (.inr (36, 0))), some (.inl v1), some (.inl v2), some (.inl v3), some (.inl v4), some (.inl v5)] [] σ
theorem bX2_wordsAgainst_0 {d : Nat} {Q : Option ps_V → ps_S → Prop} {v1 : Int32} {v2 : Int32} {σ : ps_S} (h1 : kX2_wordsAgainst_5 d Q v1 v2 0 0 σ) : kX2_wordsAgainst_0 d Q v1 v2 σ := by
  refine ps_iconst (x := 0) (ps_at tX2_wordsAgainst_ok 0 rfl) (by decide) ?_
  refine ps_istore_n (L' := [some (.inr (.inr (36, 0))), some (.inl v1), some (.inl v2), some (.inl 0), none, none]) (ps_at tX2_wordsAgainst_ok 1 rfl) rfl (by decide) rfl ?_
  refine ps_iconst (x := 0) (ps_at tX2_wordsAgainst_ok 2 rfl) (by decide) ?_
  refine ps_istore (L' := [some (.inr (.inr (36, 0))), some (.inl v1), some (.inl v2), some (.inl 0), some (.inl 0), none]) (ps_at tX2_wordsAgainst_ok 3 rfl) (by decide) rfl ?_
  exact h1
theorem bX2_wordsAgainst_5 {d : Nat} {Q : Option ps_V → ps_S → Prop} {v1 : Int32} {v2 : Int32} {v3 : Int32} {v4 : Int32} {σ : ps_S} (h1 : 6 ≤ v4 → Q (some (.inl v3)) σ) (h2 : ¬ 6 ≤ v4 → kX2_wordsAgainst_15 d Q v1 v2 v3 v4 0 σ) : kX2_wordsAgainst_5 d Q v1 v2 v3 v4 σ := by
  refine ps_iload (ps_at tX2_wordsAgainst_ok 4 rfl) rfl ?_
  refine ps_bipush (x := 6) (ps_at tX2_wordsAgainst_ok 5 rfl) (by decide) ?_
  refine ps_icmp_ge (tgt := 78) (ps_at tX2_wordsAgainst_ok 6 rfl) (by decide) (fun c0 => ?_) (fun c0 => ?_)
  · skip
    refine ps_iload_n (ps_at tX2_wordsAgainst_ok 45 rfl) rfl rfl ?_
    exact ps_iret (ps_at tX2_wordsAgainst_ok 46 rfl) rfl ⟨rfl, rfl⟩ (h1 c0)
  · skip
    refine ps_iconst (x := 0) (ps_at tX2_wordsAgainst_ok 7 rfl) (by decide) ?_
    refine ps_istore (L' := [some (.inr (.inr (36, 0))), some (.inl v1), some (.inl v2), some (.inl v3), some (.inl v4), some (.inl 0)]) (ps_at tX2_wordsAgainst_ok 8 rfl) (by decide) rfl ?_
    exact h2 c0
theorem bX2_wordsAgainst_15 {d : Nat} {Q : Option ps_V → ps_S → Prop} {v1 : Int32} {v2 : Int32} {v3 : Int32} {v4 : Int32} {v5 : Int32} {σ : ps_S} (h1 : 2 ≤ v5 → kX2_wordsAgainst_5 d Q v1 v2 v3 (v4 + 1) σ) (h2 : ¬ 2 ≤ v5 → vp_in v2 4) (h3 : ¬ 2 ≤ v5 → vp_in v4 6) (h4 : ¬ 2 ≤ v5 → (σ 38 v2.toNatClampNeg v4.toNatClampNeg) = (-900009) → kX2_wordsAgainst_15 d Q v1 v2 v3 v4 (v5 + 1) σ) (h5 : ¬ 2 ≤ v5 → ¬ (σ 38 v2.toNatClampNeg v4.toNatClampNeg) = (-900009) → (σ 38 v2.toNatClampNeg v4.toNatClampNeg) = v5 → kX2_wordsAgainst_15 d Q v1 v2 v3 v4 (v5 + 1) σ) (h6 : ¬ 2 ≤ v5 → ¬ (σ 38 v2.toNatClampNeg v4.toNatClampNeg) = (-900009) → ¬ (σ 38 v2.toNatClampNeg v4.toNatClampNeg) = v5 → vp_in v1 12) (h7 : ¬ 2 ≤ v5 → ¬ (σ 38 v2.toNatClampNeg v4.toNatClampNeg) = (-900009) → ¬ (σ 38 v2.toNatClampNeg v4.toNatClampNeg) = v5 → vp_in ((v4 * 2) + v5) 12) (h8 : ¬ 2 ≤ v5 → ¬ (σ 38 v2.toNatClampNeg v4.toNatClampNeg) = (-900009) → ¬ (σ 38 v2.toNatClampNeg v4.toNatClampNeg) = v5 → kX2_wordsAgainst_15 d Q v1 v2 (v3 + (σ 40 v1.toNatClampNeg ((v4 * 2) + v5).toNatClampNeg)) v4 (v5 + 1) σ) : kX2_wordsAgainst_15 d Q v1 v2 v3 v4 v5 σ := by
  refine ps_iload (ps_at tX2_wordsAgainst_ok 9 rfl) rfl ?_
  refine ps_iconst (x := 2) (ps_at tX2_wordsAgainst_ok 10 rfl) (by decide) ?_
  refine ps_icmp_ge (tgt := 72) (ps_at tX2_wordsAgainst_ok 11 rfl) (by decide) (fun c0 => ?_) (fun c0 => ?_)
  · skip
    refine ps_iinc (L' := [some (.inr (.inr (36, 0))), some (.inl v1), some (.inl v2), some (.inl v3), some (.inl (v4 + 1)), some (.inl v5)]) (y := 1) (ps_at tX2_wordsAgainst_ok 43 rfl) rfl (by decide) (by decide) rfl ?_
    refine ps_goto (tgt := 5) (ps_at tX2_wordsAgainst_ok 44 rfl) (by decide) ?_
    refine ps_forget (L' := [some (.inr (.inr (36, 0))), some (.inl v1), some (.inl v2), some (.inl v3), some (.inl (v4 + 1)), none]) (And.intro rfl (And.intro rfl (And.intro rfl (And.intro rfl (And.intro rfl trivial))))) ?_
    exact h1 c0
  · skip
    refine ps_aload_n (ps_at tX2_wordsAgainst_ok 12 rfl) rfl rfl ?_
    refine ps_getR (ps_at tX2_wordsAgainst_ok 13 rfl) flX2_11 sh_36 rfl ?_
    refine ps_iload_n (ps_at tX2_wordsAgainst_ok 14 rfl) rfl rfl ?_
    refine ps_aald0 (ps_at tX2_wordsAgainst_ok 15 rfl) sh_37 (Or.inl rfl) (h2 c0) ?_
    refine ps_iload (ps_at tX2_wordsAgainst_ok 16 rfl) rfl ?_
    refine ps_iald (ps_at tX2_wordsAgainst_ok 17 rfl) sh_38 (h3 c0) ?_
    refine ps_ldc (ps_at tX2_wordsAgainst_ok 18 rfl) cnX2_41 ?_
    refine ps_icmp_eq (tgt := 66) (ps_at tX2_wordsAgainst_ok 19 rfl) (by decide) (fun c1 => ?_) (fun c1 => ?_)
    · skip
      refine ps_iinc (L' := [some (.inr (.inr (36, 0))), some (.inl v1), some (.inl v2), some (.inl v3), some (.inl v4), some (.inl (v5 + 1))]) (y := 1) (ps_at tX2_wordsAgainst_ok 41 rfl) rfl (by decide) (by decide) rfl ?_
      refine ps_goto (tgt := 15) (ps_at tX2_wordsAgainst_ok 42 rfl) (by decide) ?_
      exact h4 c0 c1
    · skip
      refine ps_aload_n (ps_at tX2_wordsAgainst_ok 20 rfl) rfl rfl ?_
      refine ps_getR (ps_at tX2_wordsAgainst_ok 21 rfl) flX2_11 sh_36 rfl ?_
      refine ps_iload_n (ps_at tX2_wordsAgainst_ok 22 rfl) rfl rfl ?_
      refine ps_aald0 (ps_at tX2_wordsAgainst_ok 23 rfl) sh_37 (Or.inl rfl) (h2 c0) ?_
      refine ps_iload (ps_at tX2_wordsAgainst_ok 24 rfl) rfl ?_
      refine ps_iald (ps_at tX2_wordsAgainst_ok 25 rfl) sh_38 (h3 c0) ?_
      refine ps_iload (ps_at tX2_wordsAgainst_ok 26 rfl) rfl ?_
      refine ps_icmp_eq (tgt := 66) (ps_at tX2_wordsAgainst_ok 27 rfl) (by decide) (fun c2 => ?_) (fun c2 => ?_)
      · skip
        refine ps_iinc (L' := [some (.inr (.inr (36, 0))), some (.inl v1), some (.inl v2), some (.inl v3), some (.inl v4), some (.inl (v5 + 1))]) (y := 1) (ps_at tX2_wordsAgainst_ok 41 rfl) rfl (by decide) (by decide) rfl ?_
        refine ps_goto (tgt := 15) (ps_at tX2_wordsAgainst_ok 42 rfl) (by decide) ?_
        exact h5 c0 c1 c2
      · skip
        refine ps_iload_n (ps_at tX2_wordsAgainst_ok 28 rfl) rfl rfl ?_
        refine ps_aload_n (ps_at tX2_wordsAgainst_ok 29 rfl) rfl rfl ?_
        refine ps_getR (ps_at tX2_wordsAgainst_ok 30 rfl) flX2_16 sh_36 rfl ?_
        refine ps_iload_n (ps_at tX2_wordsAgainst_ok 31 rfl) rfl rfl ?_
        refine ps_aald0 (ps_at tX2_wordsAgainst_ok 32 rfl) sh_39 (Or.inl rfl) (h6 c0 c1 c2) ?_
        refine ps_iload (ps_at tX2_wordsAgainst_ok 33 rfl) rfl ?_
        refine ps_iconst (x := 2) (ps_at tX2_wordsAgainst_ok 34 rfl) (by decide) ?_
        refine ps_imul (ps_at tX2_wordsAgainst_ok 35 rfl) ?_
        refine ps_iload (ps_at tX2_wordsAgainst_ok 36 rfl) rfl ?_
        refine ps_iadd (ps_at tX2_wordsAgainst_ok 37 rfl) ?_
        refine ps_iald (ps_at tX2_wordsAgainst_ok 38 rfl) sh_40 (h7 c0 c1 c2) ?_
        refine ps_iadd (ps_at tX2_wordsAgainst_ok 39 rfl) ?_
        refine ps_istore_n (L' := [some (.inr (.inr (36, 0))), some (.inl v1), some (.inl v2), some (.inl (v3 + (σ 40 v1.toNatClampNeg ((v4 * 2) + v5).toNatClampNeg))), some (.inl v4), some (.inl v5)]) (ps_at tX2_wordsAgainst_ok 40 rfl) rfl (by decide) rfl ?_
        refine ps_iinc (L' := [some (.inr (.inr (36, 0))), some (.inl v1), some (.inl v2), some (.inl (v3 + (σ 40 v1.toNatClampNeg ((v4 * 2) + v5).toNatClampNeg))), some (.inl v4), some (.inl (v5 + 1))]) (y := 1) (ps_at tX2_wordsAgainst_ok 41 rfl) rfl (by decide) (by decide) rfl ?_
        refine ps_goto (tgt := 15) (ps_at tX2_wordsAgainst_ok 42 rfl) (by decide) ?_
        exact h8 c0 c1 c2
theorem eX2_wordsAgainst {d : Nat} {Q : Option ps_V → ps_S → Prop} {v1 : Int32} {v2 : Int32} {σ : ps_S} (h : kX2_wordsAgainst_0 d Q v1 v2 σ) : ps_C mX2_wordsAgainst d [.inr (.inr (36, 0)), .inl v1, .inl v2] σ Q := ps_enter (by decide) rfl ⟨rfl, rfl, rfl⟩ rfl (Nat.le_of_ble_eq_true rfl) h
theorem pX2_wordsAgainst {d : Nat} {Q : Option ps_V → ps_S → Prop} {v1 v2 : Int32} {σ : ps_S} (o1 : vp_in v1 12) (o2 : vp_in v2 4) (hq : Q (some (.inl (sWa σ v1.toNatClampNeg v2.toNatClampNeg))) σ) : ps_C mX2_wordsAgainst d [.inr (.inr (36, 0)), .inl v1, .inl v2] σ Q := by
  obtain ⟨g, hg⟩ : ∃ g : Nat → Nat → Int32, g = (fun w fo => if σ 38 v2.toNatClampNeg w = -900009 then 0 else if σ 38 v2.toNatClampNeg w = nI fo then 0 else σ 40 v1.toNatClampNeg (2 * w + fo)) := ⟨_, rfl⟩
  have hq : Q (some (.inl (jSum 6 (fun w => jSum 2 (g w))))) σ := by rw [hg]; exact hq
  have inner : ∀ w, w < 6 → ∀ acc, kX2_wordsAgainst_5 d Q v1 v2 (acc + jSum 2 (g w)) (nI w + 1) σ → ∀ r j, j + r = 2 → kX2_wordsAgainst_15 d Q v1 v2 (acc + jSum j (g w)) (nI w) (nI j) σ := by
    intro w hw acc hk r
    have hcc : (nI w).toNatClampNeg = w := nI_clamp (by omega)
    induction r with
    | zero =>
      intro j hj
      obtain rfl : j = 2 := by omega
      exact bX2_wordsAgainst_15 (fun _ => hk) (lpX (N := 2) (by decide)) (lpX (N := 2) (by decide)) (lpX (N := 2) (by decide)) (lpX (N := 2) (by decide)) (lpX (N := 2) (by decide)) (lpX (N := 2) (by decide)) (lpX (N := 2) (by decide))
    | succ r ih =>
      intro j hj
      have hj0 : j < 2 := by omega
      have e5 : (nI w * 2) + nI j = nI (2 * w + j) := by rw [show nI w * 2 = nI (w * 2) from ix_mul w 2, nI_add]; congr 1; omega
      have h := ih (j + 1) (by omega)
      rw [show jSum (j + 1) (g w) = jSum j (g w) + g w j from rfl, ← Int32.add_assoc, ← nI_1] at h
      refine bX2_wordsAgainst_15 (lpN (N := 2) hj0 (by decide)) (fun _ => o2) (fun _ => vp_in_nI hw (by decide)) (fun _ c => ?_) (fun _ c c2 => ?_) (fun _ _ _ => o1) (fun _ _ _ => by rw [e5]; exact vp_in_nI (by omega) (by decide)) (fun _ c c2 => ?_)
      · rw [hcc] at c
        have e : g w j = 0 := by rw [hg]; simp only [c, if_true]
        rw [e, Int32.add_zero] at h
        exact h
      · rw [hcc] at c c2
        have e : g w j = 0 := by rw [hg]; simp only [c2, if_true]; split <;> rfl
        rw [e, Int32.add_zero] at h
        exact h
      · rw [hcc] at c c2
        have e : g w j = σ 40 v1.toNatClampNeg (2 * w + j) := by rw [hg]; simp only [c, c2, if_false]
        rw [e5, nI_clamp (by omega)]
        rw [e] at h
        exact h
  have key : ∀ r j, j + r = 6 → kX2_wordsAgainst_5 d Q v1 v2 (jSum j (fun w => jSum 2 (g w))) (nI j) σ := by
    intro r
    induction r with
    | zero =>
      intro j hj
      obtain rfl : j = 6 := by omega
      exact bX2_wordsAgainst_5 (fun _ => hq) (lpX (N := 6) (by decide))
    | succ r ih =>
      intro j hj
      have hj0 : j < 6 := by omega
      refine bX2_wordsAgainst_5 (lpN (N := 6) hj0 (by decide)) (fun _ => ?_)
      have h := inner j hj0 (jSum j (fun w => jSum 2 (g w))) (by rw [nI_1]; exact ih (j + 1) (by omega)) 2 0 rfl
      rw [show jSum 0 (g j) = 0 from rfl, Int32.add_zero] at h
      exact h
  exact eX2_wordsAgainst (bX2_wordsAgainst_0 (key 6 0 rfl))
abbrev kX6_formesWith_0 (d : Nat) (Q : Option ps_V → ps_S → Prop) (i0 : Nat) (v1 : Int32) (σ : ps_S) : Prop := ps_K mX6_formesWith d (ps_QF Q) 0 [some (.inr (.inr (21, i0))), some (.inl v1), none, none] [] σ
abbrev kX6_formesWith_4 (d : Nat) (Q : Option ps_V → ps_S → Prop) (i0 : Nat) (v1 : Int32) (v2 : Int32) (v3 : Int32) (σ : ps_S) : Prop := ps_K mX6_formesWith d (ps_QF Q) 4 [some (.inr (.inr (21, i0))), some (.inl v1), some (.inl v2), some (.inl v3)] [] σ
theorem bX6_formesWith_0 {d : Nat} {Q : Option ps_V → ps_S → Prop} {i0 : Nat} {v1 : Int32} {σ : ps_S} (h1 : kX6_formesWith_4 d Q i0 v1 0 0 σ) : kX6_formesWith_0 d Q i0 v1 σ := by
  refine ps_iconst (x := 0) (ps_at tX6_formesWith_ok 0 rfl) (by decide) ?_
  refine ps_istore_n (L' := [some (.inr (.inr (21, i0))), some (.inl v1), some (.inl 0), none]) (ps_at tX6_formesWith_ok 1 rfl) rfl (by decide) rfl ?_
  refine ps_iconst (x := 0) (ps_at tX6_formesWith_ok 2 rfl) (by decide) ?_
  refine ps_istore_n (L' := [some (.inr (.inr (21, i0))), some (.inl v1), some (.inl 0), some (.inl 0)]) (ps_at tX6_formesWith_ok 3 rfl) rfl (by decide) rfl ?_
  exact h1
theorem bX6_formesWith_4 {d : Nat} {Q : Option ps_V → ps_S → Prop} {i0 : Nat} {v1 : Int32} {v2 : Int32} {v3 : Int32} {σ : ps_S} (h1 : 6 ≤ v3 → Q (some (.inl v2)) σ) (h2 : ¬ 6 ≤ v3 → vp_in v3 6) (h3 : ¬ 6 ≤ v3 → ¬ (σ 21 i0 v3.toNatClampNeg) = v1 → kX6_formesWith_4 d Q i0 v1 v2 (v3 + 1) σ) (h4 : ¬ 6 ≤ v3 → (σ 21 i0 v3.toNatClampNeg) = v1 → kX6_formesWith_4 d Q i0 v1 (v2 ||| ((1 : Int32) <<< (v3 &&& 31))) (v3 + 1) σ) : kX6_formesWith_4 d Q i0 v1 v2 v3 σ := by
  refine ps_iload_n (ps_at tX6_formesWith_ok 4 rfl) rfl rfl ?_
  refine ps_bipush (x := 6) (ps_at tX6_formesWith_ok 5 rfl) (by decide) ?_
  refine ps_icmp_ge (tgt := 29) (ps_at tX6_formesWith_ok 6 rfl) (by decide) (fun c0 => ?_) (fun c0 => ?_)
  · skip
    refine ps_iload_n (ps_at tX6_formesWith_ok 20 rfl) rfl rfl ?_
    exact ps_iret (ps_at tX6_formesWith_ok 21 rfl) rfl ⟨rfl, rfl⟩ (h1 c0)
  · skip
    refine ps_aload_n (ps_at tX6_formesWith_ok 7 rfl) rfl rfl ?_
    refine ps_iload_n (ps_at tX6_formesWith_ok 8 rfl) rfl rfl ?_
    refine ps_iald (ps_at tX6_formesWith_ok 9 rfl) sh_21 (h2 c0) ?_
    refine ps_iload_n (ps_at tX6_formesWith_ok 10 rfl) rfl rfl ?_
    refine ps_icmp_ne (tgt := 23) (ps_at tX6_formesWith_ok 11 rfl) (by decide) (fun c1 => ?_) (fun c1 => ?_)
    · skip
      refine ps_iinc (L' := [some (.inr (.inr (21, i0))), some (.inl v1), some (.inl v2), some (.inl (v3 + 1))]) (y := 1) (ps_at tX6_formesWith_ok 18 rfl) rfl (by decide) (by decide) rfl ?_
      refine ps_goto (tgt := 4) (ps_at tX6_formesWith_ok 19 rfl) (by decide) ?_
      exact h3 c0 c1
    · skip
      refine ps_iload_n (ps_at tX6_formesWith_ok 12 rfl) rfl rfl ?_
      refine ps_iconst (x := 1) (ps_at tX6_formesWith_ok 13 rfl) (by decide) ?_
      refine ps_iload_n (ps_at tX6_formesWith_ok 14 rfl) rfl rfl ?_
      refine ps_ishl (ps_at tX6_formesWith_ok 15 rfl) ?_
      refine ps_ior (ps_at tX6_formesWith_ok 16 rfl) ?_
      refine ps_istore_n (L' := [some (.inr (.inr (21, i0))), some (.inl v1), some (.inl (v2 ||| ((1 : Int32) <<< (v3 &&& 31)))), some (.inl v3)]) (ps_at tX6_formesWith_ok 17 rfl) rfl (by decide) rfl ?_
      refine ps_iinc (L' := [some (.inr (.inr (21, i0))), some (.inl v1), some (.inl (v2 ||| ((1 : Int32) <<< (v3 &&& 31)))), some (.inl (v3 + 1))]) (y := 1) (ps_at tX6_formesWith_ok 18 rfl) rfl (by decide) (by decide) rfl ?_
      refine ps_goto (tgt := 4) (ps_at tX6_formesWith_ok 19 rfl) (by decide) ?_
      exact h4 c0 c1
theorem eX6_formesWith {d : Nat} {Q : Option ps_V → ps_S → Prop} {i0 : Nat} {v1 : Int32} {σ : ps_S} (h : kX6_formesWith_0 d Q i0 v1 σ) : ps_C mX6_formesWith d [.inr (.inr (21, i0)), .inl v1] σ Q := ps_enter (by decide) rfl ⟨rfl, rfl, rfl⟩ rfl (Nat.le_of_ble_eq_true rfl) h
theorem pX6_formesWith {d : Nat} {Q : Option ps_V → ps_S → Prop} {i0 : Nat} {v1 : Int32} {σ : ps_S}  (hq : Q (some (.inl (nI (mkN 6 (fun f => σ 21 i0 f = v1))))) σ) : ps_C mX6_formesWith d [.inr (.inr (21, i0)), .inl v1] σ Q := by
  have key : ∀ r j, j + r = 6 → kX6_formesWith_4 d Q i0 v1 (nI (mkN j (fun f => σ 21 i0 f = v1))) (nI j) σ := by
    intro r
    induction r with
    | zero =>
      intro j hj
      obtain rfl : j = 6 := by omega
      exact bX6_formesWith_4 (fun _ => hq) (lpX (N := 6) (by decide)) (lpX (N := 6) (by decide)) (lpX (N := 6) (by decide))
    | succ r ih =>
      intro j hj
      have hj0 : j < 6 := by omega
      have hjc : (nI j).toNatClampNeg = j := nI_clamp (by omega)
      refine bX6_formesWith_4 (lpN (N := 6) hj0 (by decide)) (fun _ => vp_in_nI hj0 (by decide)) (fun _ c => ?_) (fun _ c => ?_)
      · rw [hjc] at c
        rw [nI_1, mk_f (P := fun f => σ 21 i0 f = v1) c]
        exact ih (j + 1) (by omega)
      · rw [hjc] at c
        rw [nI_1, mk_t (P := fun f => σ 21 i0 f = v1) (by omega) c]
        exact ih (j + 1) (by omega)
  exact eX6_formesWith (bX6_formesWith_0 (key 6 0 rfl))
abbrev kX6_ringSize_0 (d : Nat) (Q : Option ps_V → ps_S → Prop)  (σ : ps_S) : Prop := ps_K mX6_ringSize d (ps_QF Q) 0 [some (.inr (.inr (19, 0))), none, none] [] σ
abbrev kX6_ringSize_4 (d : Nat) (Q : Option ps_V → ps_S → Prop) (v1 : Int32) (v2 : Int32) (σ : ps_S) : Prop := ps_K mX6_ringSize d (ps_QF Q) 4 [some (.inr (.inr (19, 0))), some (.inl v1), some (.inl v2)] [] σ
theorem bX6_ringSize_0 {d : Nat} {Q : Option ps_V → ps_S → Prop}  {σ : ps_S} (h1 : kX6_ringSize_4 d Q 0 0 σ) : kX6_ringSize_0 d Q σ := by
  refine ps_iconst (x := 0) (ps_at tX6_ringSize_ok 0 rfl) (by decide) ?_
  refine ps_istore_n (L' := [some (.inr (.inr (19, 0))), some (.inl 0), none]) (ps_at tX6_ringSize_ok 1 rfl) rfl (by decide) rfl ?_
  refine ps_iconst (x := 0) (ps_at tX6_ringSize_ok 2 rfl) (by decide) ?_
  refine ps_istore_n (L' := [some (.inr (.inr (19, 0))), some (.inl 0), some (.inl 0)]) (ps_at tX6_ringSize_ok 3 rfl) rfl (by decide) rfl ?_
  exact h1
theorem bX6_ringSize_4 {d : Nat} {Q : Option ps_V → ps_S → Prop} {v1 : Int32} {v2 : Int32} {σ : ps_S} (h1 : 6 ≤ v2 → Q (some (.inl v1)) σ) (h2 : ¬ 6 ≤ v2 → vp_in v2 6) (h3 : ¬ 6 ≤ v2 → kX6_ringSize_4 d Q (v1 + (((σ 23 0 v2.toNatClampNeg) >>> (v2 &&& 31)) &&& 1)) (v2 + 1) σ) : kX6_ringSize_4 d Q v1 v2 σ := by
  refine ps_iload_n (ps_at tX6_ringSize_ok 4 rfl) rfl rfl ?_
  refine ps_bipush (x := 6) (ps_at tX6_ringSize_ok 5 rfl) (by decide) ?_
  refine ps_icmp_ge (tgt := 29) (ps_at tX6_ringSize_ok 6 rfl) (by decide) (fun c0 => ?_) (fun c0 => ?_)
  · skip
    refine ps_iload_n (ps_at tX6_ringSize_ok 20 rfl) rfl rfl ?_
    exact ps_iret (ps_at tX6_ringSize_ok 21 rfl) rfl ⟨rfl, rfl⟩ (h1 c0)
  · skip
    refine ps_iload_n (ps_at tX6_ringSize_ok 7 rfl) rfl rfl ?_
    refine ps_aload_n (ps_at tX6_ringSize_ok 8 rfl) rfl rfl ?_
    refine ps_getR (ps_at tX6_ringSize_ok 9 rfl) flX6_20 sh_19 rfl ?_
    refine ps_iload_n (ps_at tX6_ringSize_ok 10 rfl) rfl rfl ?_
    refine ps_iald (ps_at tX6_ringSize_ok 11 rfl) sh_23 (h2 c0) ?_
    refine ps_iload_n (ps_at tX6_ringSize_ok 12 rfl) rfl rfl ?_
    refine ps_ishr (ps_at tX6_ringSize_ok 13 rfl) ?_
    refine ps_iconst (x := 1) (ps_at tX6_ringSize_ok 14 rfl) (by decide) ?_
    refine ps_iand (ps_at tX6_ringSize_ok 15 rfl) ?_
    refine ps_iadd (ps_at tX6_ringSize_ok 16 rfl) ?_
    refine ps_istore_n (L' := [some (.inr (.inr (19, 0))), some (.inl (v1 + (((σ 23 0 v2.toNatClampNeg) >>> (v2 &&& 31)) &&& 1))), some (.inl v2)]) (ps_at tX6_ringSize_ok 17 rfl) rfl (by decide) rfl ?_
    refine ps_iinc (L' := [some (.inr (.inr (19, 0))), some (.inl (v1 + (((σ 23 0 v2.toNatClampNeg) >>> (v2 &&& 31)) &&& 1))), some (.inl (v2 + 1))]) (y := 1) (ps_at tX6_ringSize_ok 18 rfl) rfl (by decide) (by decide) rfl ?_
    refine ps_goto (tgt := 4) (ps_at tX6_ringSize_ok 19 rfl) (by decide) ?_
    exact h3 c0
theorem eX6_ringSize {d : Nat} {Q : Option ps_V → ps_S → Prop}  {σ : ps_S} (h : kX6_ringSize_0 d Q σ) : ps_C mX6_ringSize d [.inr (.inr (19, 0))] σ Q := ps_enter (by decide) rfl ⟨rfl, rfl, rfl⟩ rfl (Nat.le_of_ble_eq_true rfl) h
theorem pX6_ringSize {d : Nat} {Q : Option ps_V → ps_S → Prop}  {σ : ps_S}  (hq : Q (some (.inl (jSum 6 (fun f => (σ 23 0 f >>> (nI f &&& 31)) &&& 1)))) σ) : ps_C mX6_ringSize d [.inr (.inr (19, 0))] σ Q := by
  have key : ∀ r j, j + r = 6 → kX6_ringSize_4 d Q (jSum j (fun f => (σ 23 0 f >>> (nI f &&& 31)) &&& 1)) (nI j) σ := by
    intro r
    induction r with
    | zero =>
      intro j hj
      obtain rfl : j = 6 := by omega
      exact bX6_ringSize_4 (fun _ => hq) (lpX (N := 6) (by decide)) (lpX (N := 6) (by decide))
    | succ r ih =>
      intro j hj
      have hj0 : j < 6 := by omega
      have hjc : (nI j).toNatClampNeg = j := nI_clamp (by omega)
      have h := ih (j + 1) (by omega)
      rw [← nI_1] at h
      refine bX6_ringSize_4 (lpN (N := 6) hj0 (by decide)) (fun _ => vp_in_nI hj0 (by decide)) (fun _ => ?_)
      rw [hjc]
      exact h
  exact eX6_ringSize (bX6_ringSize_0 (key 6 0 rfl))
abbrev kX7_countReadings_0 (d : Nat) (Q : Option ps_V → ps_S → Prop)  (σ : ps_S) : Prop := ps_K mX7_countReadings (d + 1) (ps_QF Q) 0 [some (.inr (.inr (1, 0))), none, none] [] σ
abbrev kX7_countReadings_4 (d : Nat) (Q : Option ps_V → ps_S → Prop) (v1 : Int32) (v2 : Int32) (σ : ps_S) : Prop := ps_K mX7_countReadings (d + 1) (ps_QF Q) 4 [some (.inr (.inr (1, 0))), some (.inl v1), some (.inl v2)] [] σ
theorem bX7_countReadings_0 {d : Nat} {Q : Option ps_V → ps_S → Prop}  {σ : ps_S} (h1 : kX7_countReadings_4 d Q 0 0 σ) : kX7_countReadings_0 d Q σ := by
  refine ps_iconst (x := 0) (ps_at tX7_countReadings_ok 0 rfl) (by decide) ?_
  refine ps_istore_n (L' := [some (.inr (.inr (1, 0))), some (.inl 0), none]) (ps_at tX7_countReadings_ok 1 rfl) rfl (by decide) rfl ?_
  refine ps_iconst (x := 0) (ps_at tX7_countReadings_ok 2 rfl) (by decide) ?_
  refine ps_istore_n (L' := [some (.inr (.inr (1, 0))), some (.inl 0), some (.inl 0)]) (ps_at tX7_countReadings_ok 3 rfl) rfl (by decide) rfl ?_
  exact h1
theorem bX7_countReadings_4 {d : Nat} {Q : Option ps_V → ps_S → Prop} {v1 : Int32} {v2 : Int32} {σ : ps_S} (h1 : 6 ≤ v2 → Q (some (.inl v1)) σ) (h2 : ¬ 6 ≤ v2 → vp_in v2 6) (h3 : ¬ 6 ≤ v2 → kX7_countReadings_4 d Q (v1 + (nI (sumN 9 (fun c => cntN 6 (fun p => ¬ σ 5 (9 * v2.toNatClampNeg + c) p = -900009))))) (v2 + 1) σ) : kX7_countReadings_4 d Q v1 v2 σ := by
  refine ps_iload_n (ps_at tX7_countReadings_ok 4 rfl) rfl rfl ?_
  refine ps_bipush (x := 6) (ps_at tX7_countReadings_ok 5 rfl) (by decide) ?_
  refine ps_icmp_ge (tgt := 28) (ps_at tX7_countReadings_ok 6 rfl) (by decide) (fun c0 => ?_) (fun c0 => ?_)
  · skip
    refine ps_iload_n (ps_at tX7_countReadings_ok 17 rfl) rfl rfl ?_
    exact ps_iret (ps_at tX7_countReadings_ok 18 rfl) rfl ⟨rfl, rfl⟩ (h1 c0)
  · skip
    refine ps_iload_n (ps_at tX7_countReadings_ok 7 rfl) rfl rfl ?_
    refine ps_aload_n (ps_at tX7_countReadings_ok 8 rfl) rfl rfl ?_
    refine ps_getR (ps_at tX7_countReadings_ok 9 rfl) flX7_11 sh_1 rfl ?_
    refine ps_iload_n (ps_at tX7_countReadings_ok 10 rfl) rfl rfl ?_
    refine ps_aald0 (ps_at tX7_countReadings_ok 11 rfl) sh_2 (Or.inr rfl) (h2 c0) ?_
    refine ps_callV (M2 := mX0_readingCount) (av := []) (rest := [.inl v1]) (ps_at tX7_countReadings_ok 12 rfl) cvX7_241 sh_3 rfl rfl (fun _ => Nat.le_of_ble_eq_true rfl) (pX0_readingCount ?_)
    refine ps_iadd (ps_at tX7_countReadings_ok 13 rfl) ?_
    refine ps_istore_n (L' := [some (.inr (.inr (1, 0))), some (.inl (v1 + (nI (sumN 9 (fun c => cntN 6 (fun p => ¬ σ 5 (9 * v2.toNatClampNeg + c) p = -900009)))))), some (.inl v2)]) (ps_at tX7_countReadings_ok 14 rfl) rfl (by decide) rfl ?_
    refine ps_iinc (L' := [some (.inr (.inr (1, 0))), some (.inl (v1 + (nI (sumN 9 (fun c => cntN 6 (fun p => ¬ σ 5 (9 * v2.toNatClampNeg + c) p = -900009)))))), some (.inl (v2 + 1))]) (y := 1) (ps_at tX7_countReadings_ok 15 rfl) rfl (by decide) (by decide) rfl ?_
    refine ps_goto (tgt := 4) (ps_at tX7_countReadings_ok 16 rfl) (by decide) ?_
    exact h3 c0
theorem eX7_countReadings {d : Nat} {Q : Option ps_V → ps_S → Prop}  {σ : ps_S} (h : kX7_countReadings_0 d Q σ) : ps_C mX7_countReadings (d + 1) [.inr (.inr (1, 0))] σ Q := ps_enter (by decide) rfl ⟨rfl, rfl, rfl⟩ rfl (Nat.le_of_ble_eq_true rfl) h
theorem pX7_countReadings {d : Nat} {Q : Option ps_V → ps_S → Prop}  {σ : ps_S}  (hq : Q (some (.inl (jSum 6 (fun f => nI (sumN 9 (fun c => cntN 6 (fun p => ¬ σ 5 (9 * f + c) p = -900009))))))) σ) : ps_C mX7_countReadings (d + 1) [.inr (.inr (1, 0))] σ Q := by
  have key : ∀ r j, j + r = 6 → kX7_countReadings_4 d Q (jSum j (fun f => nI (sumN 9 (fun c => cntN 6 (fun p => ¬ σ 5 (9 * f + c) p = -900009))))) (nI j) σ := by
    intro r
    induction r with
    | zero =>
      intro j hj
      obtain rfl : j = 6 := by omega
      exact bX7_countReadings_4 (fun _ => hq) (lpX (N := 6) (by decide)) (lpX (N := 6) (by decide))
    | succ r ih =>
      intro j hj
      have hj0 : j < 6 := by omega
      have hjc : (nI j).toNatClampNeg = j := nI_clamp (by omega)
      have h := ih (j + 1) (by omega)
      rw [← nI_1] at h
      refine bX7_countReadings_4 (lpN (N := 6) hj0 (by decide)) (fun _ => vp_in_nI hj0 (by decide)) (fun _ => ?_)
      rw [hjc]
      exact h
  exact eX7_countReadings (bX7_countReadings_0 (key 6 0 rfl))
abbrev kX7_countAhead_0 (d : Nat) (Q : Option ps_V → ps_S → Prop)  (σ : ps_S) : Prop := ps_K mX7_countAhead (d + 2) (ps_QF Q) 0 [some (.inr (.inr (1, 0))), none, none] [] σ
abbrev kX7_countAhead_4 (d : Nat) (Q : Option ps_V → ps_S → Prop) (v1 : Int32) (v2 : Int32) (σ : ps_S) : Prop := ps_K mX7_countAhead (d + 2) (ps_QF Q) 4 [some (.inr (.inr (1, 0))), some (.inl v1), some (.inl v2)] [] σ
theorem bX7_countAhead_0 {d : Nat} {Q : Option ps_V → ps_S → Prop}  {σ : ps_S} (h1 : kX7_countAhead_4 d Q 0 0 σ) : kX7_countAhead_0 d Q σ := by
  refine ps_iconst (x := 0) (ps_at tX7_countAhead_ok 0 rfl) (by decide) ?_
  refine ps_istore_n (L' := [some (.inr (.inr (1, 0))), some (.inl 0), none]) (ps_at tX7_countAhead_ok 1 rfl) rfl (by decide) rfl ?_
  refine ps_iconst (x := 0) (ps_at tX7_countAhead_ok 2 rfl) (by decide) ?_
  refine ps_istore_n (L' := [some (.inr (.inr (1, 0))), some (.inl 0), some (.inl 0)]) (ps_at tX7_countAhead_ok 3 rfl) rfl (by decide) rfl ?_
  exact h1
theorem bX7_countAhead_4 {d : Nat} {Q : Option ps_V → ps_S → Prop} {v1 : Int32} {v2 : Int32} {σ : ps_S} (h1 : 6 ≤ v2 → Q (some (.inl v1)) σ) (h2 : ¬ 6 ≤ v2 → vp_in v2 6) (h3 : ¬ 6 ≤ v2 → kX7_countAhead_4 d Q (v1 + (jSum 9 (fun a => jbPop (σ 6 v2.toNatClampNeg a)))) (v2 + 1) σ) : kX7_countAhead_4 d Q v1 v2 σ := by
  refine ps_iload_n (ps_at tX7_countAhead_ok 4 rfl) rfl rfl ?_
  refine ps_bipush (x := 6) (ps_at tX7_countAhead_ok 5 rfl) (by decide) ?_
  refine ps_icmp_ge (tgt := 28) (ps_at tX7_countAhead_ok 6 rfl) (by decide) (fun c0 => ?_) (fun c0 => ?_)
  · skip
    refine ps_iload_n (ps_at tX7_countAhead_ok 17 rfl) rfl rfl ?_
    exact ps_iret (ps_at tX7_countAhead_ok 18 rfl) rfl ⟨rfl, rfl⟩ (h1 c0)
  · skip
    refine ps_iload_n (ps_at tX7_countAhead_ok 7 rfl) rfl rfl ?_
    refine ps_aload_n (ps_at tX7_countAhead_ok 8 rfl) rfl rfl ?_
    refine ps_getR (ps_at tX7_countAhead_ok 9 rfl) flX7_11 sh_1 rfl ?_
    refine ps_iload_n (ps_at tX7_countAhead_ok 10 rfl) rfl rfl ?_
    refine ps_aald0 (ps_at tX7_countAhead_ok 11 rfl) sh_2 (Or.inr rfl) (h2 c0) ?_
    refine ps_callV (M2 := mX0_aheadCount) (av := []) (rest := [.inl v1]) (ps_at tX7_countAhead_ok 12 rfl) cvX7_244 sh_3 rfl rfl (fun _ => Nat.le_of_ble_eq_true rfl) (pX0_aheadCount ?_)
    refine ps_iadd (ps_at tX7_countAhead_ok 13 rfl) ?_
    refine ps_istore_n (L' := [some (.inr (.inr (1, 0))), some (.inl (v1 + (jSum 9 (fun a => jbPop (σ 6 v2.toNatClampNeg a))))), some (.inl v2)]) (ps_at tX7_countAhead_ok 14 rfl) rfl (by decide) rfl ?_
    refine ps_iinc (L' := [some (.inr (.inr (1, 0))), some (.inl (v1 + (jSum 9 (fun a => jbPop (σ 6 v2.toNatClampNeg a))))), some (.inl (v2 + 1))]) (y := 1) (ps_at tX7_countAhead_ok 15 rfl) rfl (by decide) (by decide) rfl ?_
    refine ps_goto (tgt := 4) (ps_at tX7_countAhead_ok 16 rfl) (by decide) ?_
    exact h3 c0
theorem eX7_countAhead {d : Nat} {Q : Option ps_V → ps_S → Prop}  {σ : ps_S} (h : kX7_countAhead_0 d Q σ) : ps_C mX7_countAhead (d + 2) [.inr (.inr (1, 0))] σ Q := ps_enter (by decide) rfl ⟨rfl, rfl, rfl⟩ rfl (Nat.le_of_ble_eq_true rfl) h
theorem pX7_countAhead {d : Nat} {Q : Option ps_V → ps_S → Prop}  {σ : ps_S}  (hq : Q (some (.inl (jSum 6 (fun f => jSum 9 (fun a => jbPop (σ 6 f a)))))) σ) : ps_C mX7_countAhead (d + 2) [.inr (.inr (1, 0))] σ Q := by
  have key : ∀ r j, j + r = 6 → kX7_countAhead_4 d Q (jSum j (fun f => jSum 9 (fun a => jbPop (σ 6 f a)))) (nI j) σ := by
    intro r
    induction r with
    | zero =>
      intro j hj
      obtain rfl : j = 6 := by omega
      exact bX7_countAhead_4 (fun _ => hq) (lpX (N := 6) (by decide)) (lpX (N := 6) (by decide))
    | succ r ih =>
      intro j hj
      have hj0 : j < 6 := by omega
      have hjc : (nI j).toNatClampNeg = j := nI_clamp (by omega)
      have h := ih (j + 1) (by omega)
      rw [← nI_1] at h
      refine bX7_countAhead_4 (lpN (N := 6) hj0 (by decide)) (fun _ => vp_in_nI hj0 (by decide)) (fun _ => ?_)
      rw [hjc]
      exact h
  exact eX7_countAhead (bX7_countAhead_0 (key 6 0 rfl))
abbrev kX8_isLooked_0 (d : Nat) (Q : Option ps_V → ps_S → Prop) (v1 : Int32) (v2 : Int32) (σ : ps_S) : Prop := ps_K mX8_isLooked (d + 1) (ps_QF Q) 0 [some (.inr (.inr (50, 0))), some (.inl v1), some (.inl v2), none, none] [] σ
abbrev kX8_isLooked_5 (d : Nat) (Q : Option ps_V → ps_S → Prop) (v1 : Int32) (v2 : Int32) (v3 : Int32) (v4 : Int32) (σ : ps_S) : Prop := ps_K mX8_isLooked (d + 1) (ps_QF Q) 5 [some (.inr (.inr (50, 0))), some (.inl v1), some (.inl v2), some (.inl v3), some (.inl v4)] [] σ
theorem bX8_isLooked_0 {d : Nat} {Q : Option ps_V → ps_S → Prop} {v1 : Int32} {v2 : Int32} {σ : ps_S} (h1 : kX8_isLooked_5 d Q v1 v2 0 0 σ) : kX8_isLooked_0 d Q v1 v2 σ := by
  refine ps_iconst (x := 0) (ps_at tX8_isLooked_ok 0 rfl) (by decide) ?_
  refine ps_istore_n (L' := [some (.inr (.inr (50, 0))), some (.inl v1), some (.inl v2), some (.inl 0), none]) (ps_at tX8_isLooked_ok 1 rfl) rfl (by decide) rfl ?_
  refine ps_iconst (x := 0) (ps_at tX8_isLooked_ok 2 rfl) (by decide) ?_
  refine ps_istore (L' := [some (.inr (.inr (50, 0))), some (.inl v1), some (.inl v2), some (.inl 0), some (.inl 0)]) (ps_at tX8_isLooked_ok 3 rfl) (by decide) rfl ?_
  exact h1
theorem bX8_isLooked_5 {d : Nat} {Q : Option ps_V → ps_S → Prop} {v1 : Int32} {v2 : Int32} {v3 : Int32} {v4 : Int32} {σ : ps_S} (h1 : 6 ≤ v4 → (v3 = 0 ∨ v3 = 1)) (h2 : 6 ≤ v4 → Q (some (.inl v3)) σ) (h3 : ¬ 6 ≤ v4 → ¬ v3 = 0 → kX8_isLooked_5 d Q v1 v2 1 (v4 + 1) σ) (h4 : ¬ 6 ≤ v4 → v3 = 0 → vp_in (((54 * v1) + (6 * v2)) + v4) 324) (h5 : ¬ 6 ≤ v4 → v3 = 0 → (jX8_letterAt σ v1 v2 v4) = (-900009) → kX8_isLooked_5 d Q v1 v2 0 (v4 + 1) σ) (h6 : ¬ 6 ≤ v4 → v3 = 0 → ¬ (jX8_letterAt σ v1 v2 v4) = (-900009) → kX8_isLooked_5 d Q v1 v2 1 (v4 + 1) σ) : kX8_isLooked_5 d Q v1 v2 v3 v4 σ := by
  refine ps_iload (ps_at tX8_isLooked_ok 4 rfl) rfl ?_
  refine ps_bipush (x := 6) (ps_at tX8_isLooked_ok 5 rfl) (by decide) ?_
  refine ps_icmp_ge (tgt := 41) (ps_at tX8_isLooked_ok 6 rfl) (by decide) (fun c0 => ?_) (fun c0 => ?_)
  · skip
    refine ps_iload_n (ps_at tX8_isLooked_ok 22 rfl) rfl rfl ?_
    exact ps_zret (ps_at tX8_isLooked_ok 23 rfl) rfl ⟨rfl, rfl⟩ (h1 c0) (h2 c0)
  · skip
    refine ps_iload_n (ps_at tX8_isLooked_ok 7 rfl) rfl rfl ?_
    refine ps_if_ne (tgt := 29) (ps_at tX8_isLooked_ok 8 rfl) (by decide) (fun c1 => ?_) (fun c1 => ?_)
    · skip
      refine ps_iconst (x := 1) (ps_at tX8_isLooked_ok 16 rfl) (by decide) ?_
      refine ps_goto (tgt := 34) (ps_at tX8_isLooked_ok 17 rfl) (by decide) ?_
      refine ps_istore_n (L' := [some (.inr (.inr (50, 0))), some (.inl v1), some (.inl v2), some (.inl 1), some (.inl v4)]) (ps_at tX8_isLooked_ok 19 rfl) rfl (by decide) rfl ?_
      refine ps_iinc (L' := [some (.inr (.inr (50, 0))), some (.inl v1), some (.inl v2), some (.inl 1), some (.inl (v4 + 1))]) (y := 1) (ps_at tX8_isLooked_ok 20 rfl) rfl (by decide) (by decide) rfl ?_
      refine ps_goto (tgt := 5) (ps_at tX8_isLooked_ok 21 rfl) (by decide) ?_
      exact h3 c0 c1
    · skip
      refine ps_aload_n (ps_at tX8_isLooked_ok 9 rfl) rfl rfl ?_
      refine ps_iload_n (ps_at tX8_isLooked_ok 10 rfl) rfl rfl ?_
      refine ps_iload_n (ps_at tX8_isLooked_ok 11 rfl) rfl rfl ?_
      refine ps_iload (ps_at tX8_isLooked_ok 12 rfl) rfl ?_
      refine ps_callV (M2 := mX8_letterAt) (av := [.inl v1, .inl v2, .inl v4]) (rest := []) (ps_at tX8_isLooked_ok 13 rfl) cvX8_116 sh_50 rfl rfl (fun _ => Nat.le_of_ble_eq_true rfl) (pX8_letterAt (h4 c0 c1) ?_)
      refine ps_ldc (ps_at tX8_isLooked_ok 14 rfl) cnX8_96 ?_
      refine ps_icmp_eq (tgt := 33) (ps_at tX8_isLooked_ok 15 rfl) (by decide) (fun c2 => ?_) (fun c2 => ?_)
      · skip
        refine ps_iconst (x := 0) (ps_at tX8_isLooked_ok 18 rfl) (by decide) ?_
        refine ps_istore_n (L' := [some (.inr (.inr (50, 0))), some (.inl v1), some (.inl v2), some (.inl 0), some (.inl v4)]) (ps_at tX8_isLooked_ok 19 rfl) rfl (by decide) rfl ?_
        refine ps_iinc (L' := [some (.inr (.inr (50, 0))), some (.inl v1), some (.inl v2), some (.inl 0), some (.inl (v4 + 1))]) (y := 1) (ps_at tX8_isLooked_ok 20 rfl) rfl (by decide) (by decide) rfl ?_
        refine ps_goto (tgt := 5) (ps_at tX8_isLooked_ok 21 rfl) (by decide) ?_
        exact h5 c0 c1 c2
      · skip
        refine ps_iconst (x := 1) (ps_at tX8_isLooked_ok 16 rfl) (by decide) ?_
        refine ps_goto (tgt := 34) (ps_at tX8_isLooked_ok 17 rfl) (by decide) ?_
        refine ps_istore_n (L' := [some (.inr (.inr (50, 0))), some (.inl v1), some (.inl v2), some (.inl 1), some (.inl v4)]) (ps_at tX8_isLooked_ok 19 rfl) rfl (by decide) rfl ?_
        refine ps_iinc (L' := [some (.inr (.inr (50, 0))), some (.inl v1), some (.inl v2), some (.inl 1), some (.inl (v4 + 1))]) (y := 1) (ps_at tX8_isLooked_ok 20 rfl) rfl (by decide) (by decide) rfl ?_
        refine ps_goto (tgt := 5) (ps_at tX8_isLooked_ok 21 rfl) (by decide) ?_
        exact h6 c0 c1 c2
theorem eX8_isLooked {d : Nat} {Q : Option ps_V → ps_S → Prop} {v1 : Int32} {v2 : Int32} {σ : ps_S} (h : kX8_isLooked_0 d Q v1 v2 σ) : ps_C mX8_isLooked (d + 1) [.inr (.inr (50, 0)), .inl v1, .inl v2] σ Q := ps_enter (by decide) rfl ⟨rfl, rfl, rfl⟩ rfl (Nat.le_of_ble_eq_true rfl) h
theorem pX8_isLooked {d : Nat} {Q : Option ps_V → ps_S → Prop} {v1 v2 : Int32} {σ : ps_S} (o1 : vp_in v1 6) (o2 : vp_in v2 9) (hq : Q (some (.inl (jbP (mLk σ v1.toNatClampNeg v2.toNatClampNeg)))) σ) : ps_C mX8_isLooked (d + 1) [.inr (.inr (50, 0)), .inl v1, .inl v2] σ Q := by
  obtain ⟨f, hf, rfl⟩ := vp_in_of o1 (by decide)
  obtain ⟨c, hc, rfl⟩ := vp_in_of o2 (by decide)
  rw [nI_clamp (by omega), nI_clamp (by omega)] at hq
  have key : ∀ r j, j + r = 6 → kX8_isLooked_5 d Q (nI f) (nI c) (jbP (∃ p, p < j ∧ ¬ σ 51 0 (54 * f + 6 * c + p) = -900009)) (nI j) σ := by
    intro r
    induction r with
    | zero =>
      intro j hj
      obtain rfl : j = 6 := by omega
      exact bX8_isLooked_5 (fun _ => ps_bitP _) (fun _ => hq) (lpX (N := 6) (by decide)) (lpX (N := 6) (by decide)) (lpX (N := 6) (by decide)) (lpX (N := 6) (by decide))
    | succ r ih =>
      intro j hj
      have hj0 : j < 6 := by omega
      have e5 := ix_let hf hc hj0
      have e6 : jX8_letterAt σ (nI f) (nI c) (nI j) = σ 51 0 (54 * f + 6 * c + j) := by unfold jX8_letterAt; rw [e5, nI_clamp (by omega)]
      have h := ih (j + 1) (by omega)
      rw [← nI_1] at h
      refine bX8_isLooked_5 (lpN (N := 6) hj0 (by decide)) (lpN (N := 6) hj0 (by decide)) (fun _ c1 => ?_) (fun _ _ => by rw [e5]; exact vp_in_nI (by omega) (by decide)) (fun _ c1 c2 => ?_) (fun _ c1 c2 => ?_)
      · rw [jbP_0, Classical.not_not] at c1
        obtain ⟨p, hp, hn⟩ := c1
        rw [jbP_t ⟨p, by omega, hn⟩] at h
        exact h
      · rw [jbP_0] at c1
        rw [e6] at c2
        rw [jbP_f] at h
        · exact h
        · rintro ⟨p, hp, hn⟩
          rcases Nat.lt_or_eq_of_le (Nat.le_of_lt_succ hp) with q | q
          · exact c1 ⟨p, q, hn⟩
          · subst q; exact hn c2
      · rw [e6] at c2
        rw [jbP_t ⟨j, by omega, c2⟩] at h
        exact h
  have h0 := key 6 0 rfl
  rw [jbP_f (by rintro ⟨p, hp, _⟩; omega)] at h0
  exact eX8_isLooked (bX8_isLooked_0 h0)
abbrev kX8_agrees_0 (d : Nat) (Q : Option ps_V → ps_S → Prop) (v1 : Int32) (v2 : Int32) (v3 : Int32) (σ : ps_S) : Prop := ps_K mX8_agrees (d + 1) (ps_QF Q) 0 [some (.inr (.inr (50, 0))), some (.inl v1), some (.inl v2), some (.inl v3), none, none, none, none] [] σ
abbrev kX8_agrees_6 (d : Nat) (Q : Option ps_V → ps_S → Prop) (v1 : Int32) (v2 : Int32) (v3 : Int32) (v4 : Int32) (v5 : Int32) (σ : ps_S) : Prop := ps_K mX8_agrees (d + 1) (ps_QF Q) 6 [some (.inr (.inr (50, 0))), some (.inl v1), some (.inl v2), some (.inl v3), some (.inl v4), some (.inl v5), none, none] [] σ
theorem bX8_agrees_0 {d : Nat} {Q : Option ps_V → ps_S → Prop} {v1 : Int32} {v2 : Int32} {v3 : Int32} {σ : ps_S} (h1 : kX8_agrees_6 d Q v1 v2 v3 1 0 σ) : kX8_agrees_0 d Q v1 v2 v3 σ := by
  refine ps_iconst (x := 1) (ps_at tX8_agrees_ok 0 rfl) (by decide) ?_
  refine ps_istore (L' := [some (.inr (.inr (50, 0))), some (.inl v1), some (.inl v2), some (.inl v3), some (.inl 1), none, none, none]) (ps_at tX8_agrees_ok 1 rfl) (by decide) rfl ?_
  refine ps_iconst (x := 0) (ps_at tX8_agrees_ok 2 rfl) (by decide) ?_
  refine ps_istore (L' := [some (.inr (.inr (50, 0))), some (.inl v1), some (.inl v2), some (.inl v3), some (.inl 1), some (.inl 0), none, none]) (ps_at tX8_agrees_ok 3 rfl) (by decide) rfl ?_
  exact h1
theorem bX8_agrees_6 {d : Nat} {Q : Option ps_V → ps_S → Prop} {v1 : Int32} {v2 : Int32} {v3 : Int32} {v4 : Int32} {v5 : Int32} {σ : ps_S} (h1 : 6 ≤ v5 → (v4 = 0 ∨ v4 = 1)) (h2 : 6 ≤ v5 → Q (some (.inl v4)) σ) (h3 : ¬ 6 ≤ v5 → vp_in (((54 * v1) + (6 * v2)) + v5) 324) (h4 : ¬ 6 ≤ v5 → vp_in (((54 * v1) + (6 * v3)) + v5) 324) (h5 : ¬ 6 ≤ v5 → v4 = 0 → kX8_agrees_6 d Q v1 v2 v3 0 (v5 + 1) σ) (h6 : ¬ 6 ≤ v5 → ¬ v4 = 0 → (jX8_letterAt σ v1 v2 v5) = (-900009) → kX8_agrees_6 d Q v1 v2 v3 1 (v5 + 1) σ) (h7 : ¬ 6 ≤ v5 → ¬ v4 = 0 → ¬ (jX8_letterAt σ v1 v2 v5) = (-900009) → (jX8_letterAt σ v1 v3 v5) = (-900009) → kX8_agrees_6 d Q v1 v2 v3 1 (v5 + 1) σ) (h8 : ¬ 6 ≤ v5 → ¬ v4 = 0 → ¬ (jX8_letterAt σ v1 v2 v5) = (-900009) → ¬ (jX8_letterAt σ v1 v3 v5) = (-900009) → ¬ (jX8_letterAt σ v1 v2 v5) = (jX8_letterAt σ v1 v3 v5) → kX8_agrees_6 d Q v1 v2 v3 0 (v5 + 1) σ) (h9 : ¬ 6 ≤ v5 → ¬ v4 = 0 → ¬ (jX8_letterAt σ v1 v2 v5) = (-900009) → ¬ (jX8_letterAt σ v1 v3 v5) = (-900009) → (jX8_letterAt σ v1 v2 v5) = (jX8_letterAt σ v1 v3 v5) → kX8_agrees_6 d Q v1 v2 v3 1 (v5 + 1) σ) : kX8_agrees_6 d Q v1 v2 v3 v4 v5 σ := by
  refine ps_iload (ps_at tX8_agrees_ok 4 rfl) rfl ?_
  refine ps_bipush (x := 6) (ps_at tX8_agrees_ok 5 rfl) (by decide) ?_
  refine ps_icmp_ge (tgt := 72) (ps_at tX8_agrees_ok 6 rfl) (by decide) (fun c0 => ?_) (fun c0 => ?_)
  · skip
    refine ps_iload (ps_at tX8_agrees_ok 36 rfl) rfl ?_
    exact ps_zret (ps_at tX8_agrees_ok 37 rfl) rfl ⟨rfl, rfl⟩ (h1 c0) (h2 c0)
  · skip
    refine ps_aload_n (ps_at tX8_agrees_ok 7 rfl) rfl rfl ?_
    refine ps_iload_n (ps_at tX8_agrees_ok 8 rfl) rfl rfl ?_
    refine ps_iload_n (ps_at tX8_agrees_ok 9 rfl) rfl rfl ?_
    refine ps_iload (ps_at tX8_agrees_ok 10 rfl) rfl ?_
    refine ps_callV (M2 := mX8_letterAt) (av := [.inl v1, .inl v2, .inl v5]) (rest := []) (ps_at tX8_agrees_ok 11 rfl) cvX8_116 sh_50 rfl rfl (fun _ => Nat.le_of_ble_eq_true rfl) (pX8_letterAt (h3 c0) ?_)
    refine ps_istore (L' := [some (.inr (.inr (50, 0))), some (.inl v1), some (.inl v2), some (.inl v3), some (.inl v4), some (.inl v5), some (.inl (jX8_letterAt σ v1 v2 v5)), none]) (ps_at tX8_agrees_ok 12 rfl) (by decide) rfl ?_
    refine ps_aload_n (ps_at tX8_agrees_ok 13 rfl) rfl rfl ?_
    refine ps_iload_n (ps_at tX8_agrees_ok 14 rfl) rfl rfl ?_
    refine ps_iload_n (ps_at tX8_agrees_ok 15 rfl) rfl rfl ?_
    refine ps_iload (ps_at tX8_agrees_ok 16 rfl) rfl ?_
    refine ps_callV (M2 := mX8_letterAt) (av := [.inl v1, .inl v3, .inl v5]) (rest := []) (ps_at tX8_agrees_ok 17 rfl) cvX8_116 sh_50 rfl rfl (fun _ => Nat.le_of_ble_eq_true rfl) (pX8_letterAt (h4 c0) ?_)
    refine ps_istore (L' := [some (.inr (.inr (50, 0))), some (.inl v1), some (.inl v2), some (.inl v3), some (.inl v4), some (.inl v5), some (.inl (jX8_letterAt σ v1 v2 v5)), some (.inl (jX8_letterAt σ v1 v3 v5))]) (ps_at tX8_agrees_ok 18 rfl) (by decide) rfl ?_
    refine ps_iload (ps_at tX8_agrees_ok 19 rfl) rfl ?_
    refine ps_if_eq (tgt := 63) (ps_at tX8_agrees_ok 20 rfl) (by decide) (fun c1 => ?_) (fun c1 => ?_)
    · skip
      refine ps_iconst (x := 0) (ps_at tX8_agrees_ok 32 rfl) (by decide) ?_
      refine ps_istore (L' := [some (.inr (.inr (50, 0))), some (.inl v1), some (.inl v2), some (.inl v3), some (.inl 0), some (.inl v5), some (.inl (jX8_letterAt σ v1 v2 v5)), some (.inl (jX8_letterAt σ v1 v3 v5))]) (ps_at tX8_agrees_ok 33 rfl) (by decide) rfl ?_
      refine ps_iinc (L' := [some (.inr (.inr (50, 0))), some (.inl v1), some (.inl v2), some (.inl v3), some (.inl 0), some (.inl (v5 + 1)), some (.inl (jX8_letterAt σ v1 v2 v5)), some (.inl (jX8_letterAt σ v1 v3 v5))]) (y := 1) (ps_at tX8_agrees_ok 34 rfl) rfl (by decide) (by decide) rfl ?_
      refine ps_goto (tgt := 6) (ps_at tX8_agrees_ok 35 rfl) (by decide) ?_
      refine ps_forget (L' := [some (.inr (.inr (50, 0))), some (.inl v1), some (.inl v2), some (.inl v3), some (.inl 0), some (.inl (v5 + 1)), none, none]) (And.intro rfl (And.intro rfl (And.intro rfl (And.intro rfl (And.intro rfl (And.intro rfl trivial)))))) ?_
      exact h5 c0 c1
    · skip
      refine ps_iload (ps_at tX8_agrees_ok 21 rfl) rfl ?_
      refine ps_ldc (ps_at tX8_agrees_ok 22 rfl) cnX8_96 ?_
      refine ps_icmp_eq (tgt := 59) (ps_at tX8_agrees_ok 23 rfl) (by decide) (fun c2 => ?_) (fun c2 => ?_)
      · skip
        refine ps_iconst (x := 1) (ps_at tX8_agrees_ok 30 rfl) (by decide) ?_
        refine ps_goto (tgt := 64) (ps_at tX8_agrees_ok 31 rfl) (by decide) ?_
        refine ps_istore (L' := [some (.inr (.inr (50, 0))), some (.inl v1), some (.inl v2), some (.inl v3), some (.inl 1), some (.inl v5), some (.inl (jX8_letterAt σ v1 v2 v5)), some (.inl (jX8_letterAt σ v1 v3 v5))]) (ps_at tX8_agrees_ok 33 rfl) (by decide) rfl ?_
        refine ps_iinc (L' := [some (.inr (.inr (50, 0))), some (.inl v1), some (.inl v2), some (.inl v3), some (.inl 1), some (.inl (v5 + 1)), some (.inl (jX8_letterAt σ v1 v2 v5)), some (.inl (jX8_letterAt σ v1 v3 v5))]) (y := 1) (ps_at tX8_agrees_ok 34 rfl) rfl (by decide) (by decide) rfl ?_
        refine ps_goto (tgt := 6) (ps_at tX8_agrees_ok 35 rfl) (by decide) ?_
        refine ps_forget (L' := [some (.inr (.inr (50, 0))), some (.inl v1), some (.inl v2), some (.inl v3), some (.inl 1), some (.inl (v5 + 1)), none, none]) (And.intro rfl (And.intro rfl (And.intro rfl (And.intro rfl (And.intro rfl (And.intro rfl trivial)))))) ?_
        exact h6 c0 c1 c2
      · skip
        refine ps_iload (ps_at tX8_agrees_ok 24 rfl) rfl ?_
        refine ps_ldc (ps_at tX8_agrees_ok 25 rfl) cnX8_96 ?_
        refine ps_icmp_eq (tgt := 59) (ps_at tX8_agrees_ok 26 rfl) (by decide) (fun c3 => ?_) (fun c3 => ?_)
        · skip
          refine ps_iconst (x := 1) (ps_at tX8_agrees_ok 30 rfl) (by decide) ?_
          refine ps_goto (tgt := 64) (ps_at tX8_agrees_ok 31 rfl) (by decide) ?_
          refine ps_istore (L' := [some (.inr (.inr (50, 0))), some (.inl v1), some (.inl v2), some (.inl v3), some (.inl 1), some (.inl v5), some (.inl (jX8_letterAt σ v1 v2 v5)), some (.inl (jX8_letterAt σ v1 v3 v5))]) (ps_at tX8_agrees_ok 33 rfl) (by decide) rfl ?_
          refine ps_iinc (L' := [some (.inr (.inr (50, 0))), some (.inl v1), some (.inl v2), some (.inl v3), some (.inl 1), some (.inl (v5 + 1)), some (.inl (jX8_letterAt σ v1 v2 v5)), some (.inl (jX8_letterAt σ v1 v3 v5))]) (y := 1) (ps_at tX8_agrees_ok 34 rfl) rfl (by decide) (by decide) rfl ?_
          refine ps_goto (tgt := 6) (ps_at tX8_agrees_ok 35 rfl) (by decide) ?_
          refine ps_forget (L' := [some (.inr (.inr (50, 0))), some (.inl v1), some (.inl v2), some (.inl v3), some (.inl 1), some (.inl (v5 + 1)), none, none]) (And.intro rfl (And.intro rfl (And.intro rfl (And.intro rfl (And.intro rfl (And.intro rfl trivial)))))) ?_
          exact h7 c0 c1 c2 c3
        · skip
          refine ps_iload (ps_at tX8_agrees_ok 27 rfl) rfl ?_
          refine ps_iload (ps_at tX8_agrees_ok 28 rfl) rfl ?_
          refine ps_icmp_ne (tgt := 63) (ps_at tX8_agrees_ok 29 rfl) (by decide) (fun c4 => ?_) (fun c4 => ?_)
          · skip
            refine ps_iconst (x := 0) (ps_at tX8_agrees_ok 32 rfl) (by decide) ?_
            refine ps_istore (L' := [some (.inr (.inr (50, 0))), some (.inl v1), some (.inl v2), some (.inl v3), some (.inl 0), some (.inl v5), some (.inl (jX8_letterAt σ v1 v2 v5)), some (.inl (jX8_letterAt σ v1 v3 v5))]) (ps_at tX8_agrees_ok 33 rfl) (by decide) rfl ?_
            refine ps_iinc (L' := [some (.inr (.inr (50, 0))), some (.inl v1), some (.inl v2), some (.inl v3), some (.inl 0), some (.inl (v5 + 1)), some (.inl (jX8_letterAt σ v1 v2 v5)), some (.inl (jX8_letterAt σ v1 v3 v5))]) (y := 1) (ps_at tX8_agrees_ok 34 rfl) rfl (by decide) (by decide) rfl ?_
            refine ps_goto (tgt := 6) (ps_at tX8_agrees_ok 35 rfl) (by decide) ?_
            refine ps_forget (L' := [some (.inr (.inr (50, 0))), some (.inl v1), some (.inl v2), some (.inl v3), some (.inl 0), some (.inl (v5 + 1)), none, none]) (And.intro rfl (And.intro rfl (And.intro rfl (And.intro rfl (And.intro rfl (And.intro rfl trivial)))))) ?_
            exact h8 c0 c1 c2 c3 c4
          · skip
            refine ps_iconst (x := 1) (ps_at tX8_agrees_ok 30 rfl) (by decide) ?_
            refine ps_goto (tgt := 64) (ps_at tX8_agrees_ok 31 rfl) (by decide) ?_
            refine ps_istore (L' := [some (.inr (.inr (50, 0))), some (.inl v1), some (.inl v2), some (.inl v3), some (.inl 1), some (.inl v5), some (.inl (jX8_letterAt σ v1 v2 v5)), some (.inl (jX8_letterAt σ v1 v3 v5))]) (ps_at tX8_agrees_ok 33 rfl) (by decide) rfl ?_
            refine ps_iinc (L' := [some (.inr (.inr (50, 0))), some (.inl v1), some (.inl v2), some (.inl v3), some (.inl 1), some (.inl (v5 + 1)), some (.inl (jX8_letterAt σ v1 v2 v5)), some (.inl (jX8_letterAt σ v1 v3 v5))]) (y := 1) (ps_at tX8_agrees_ok 34 rfl) rfl (by decide) (by decide) rfl ?_
            refine ps_goto (tgt := 6) (ps_at tX8_agrees_ok 35 rfl) (by decide) ?_
            refine ps_forget (L' := [some (.inr (.inr (50, 0))), some (.inl v1), some (.inl v2), some (.inl v3), some (.inl 1), some (.inl (v5 + 1)), none, none]) (And.intro rfl (And.intro rfl (And.intro rfl (And.intro rfl (And.intro rfl (And.intro rfl trivial)))))) ?_
            exact h9 c0 c1 c2 c3 c4
theorem eX8_agrees {d : Nat} {Q : Option ps_V → ps_S → Prop} {v1 : Int32} {v2 : Int32} {v3 : Int32} {σ : ps_S} (h : kX8_agrees_0 d Q v1 v2 v3 σ) : ps_C mX8_agrees (d + 1) [.inr (.inr (50, 0)), .inl v1, .inl v2, .inl v3] σ Q := ps_enter (by decide) rfl ⟨rfl, rfl, rfl⟩ rfl (Nat.le_of_ble_eq_true rfl) h
theorem pX8_agrees {d : Nat} {Q : Option ps_V → ps_S → Prop} {v1 v2 v3 : Int32} {σ : ps_S} (o1 : vp_in v1 6) (o2 : vp_in v2 9) (o3 : vp_in v3 9) (hq : Q (some (.inl (jbP (mAlk σ v1.toNatClampNeg v2.toNatClampNeg v3.toNatClampNeg)))) σ) : ps_C mX8_agrees (d + 1) [.inr (.inr (50, 0)), .inl v1, .inl v2, .inl v3] σ Q := by
  obtain ⟨f, hf, rfl⟩ := vp_in_of o1 (by decide)
  obtain ⟨a, ha, rfl⟩ := vp_in_of o2 (by decide)
  obtain ⟨b, hb, rfl⟩ := vp_in_of o3 (by decide)
  rw [nI_clamp (by omega), nI_clamp (by omega), nI_clamp (by omega)] at hq
  have key : ∀ r j, j + r = 6 → kX8_agrees_6 d Q (nI f) (nI a) (nI b) (jbP (∀ p, p < j → jbUn (σ 51 0 (54 * f + 6 * a + p)) (σ 51 0 (54 * f + 6 * b + p)) = 0)) (nI j) σ := by
    intro r
    induction r with
    | zero =>
      intro j hj
      obtain rfl : j = 6 := by omega
      exact bX8_agrees_6 (fun _ => ps_bitP _) (fun _ => hq) (lpX (N := 6) (by decide)) (lpX (N := 6) (by decide)) (lpX (N := 6) (by decide)) (lpX (N := 6) (by decide)) (lpX (N := 6) (by decide)) (lpX (N := 6) (by decide)) (lpX (N := 6) (by decide))
    | succ r ih =>
      intro j hj
      have hj0 : j < 6 := by omega
      have e5 := ix_let hf ha hj0
      have e7 := ix_let hf hb hj0
      have e6 : jX8_letterAt σ (nI f) (nI a) (nI j) = σ 51 0 (54 * f + 6 * a + j) := by unfold jX8_letterAt; rw [e5, nI_clamp (by omega)]
      have e8 : jX8_letterAt σ (nI f) (nI b) (nI j) = σ 51 0 (54 * f + 6 * b + j) := by unfold jX8_letterAt; rw [e7, nI_clamp (by omega)]
      have h := ih (j + 1) (by omega)
      rw [← nI_1] at h
      have yes : (∀ p, p < j → jbUn (σ 51 0 (54 * f + 6 * a + p)) (σ 51 0 (54 * f + 6 * b + p)) = 0) → jbUn (σ 51 0 (54 * f + 6 * a + j)) (σ 51 0 (54 * f + 6 * b + j)) = 0 → kX8_agrees_6 d Q (nI f) (nI a) (nI b) 1 (nI j + 1) σ := by
        intro h1 h2
        rw [jbP_t] at h
        · exact h
        · intro p hp
          rcases Nat.lt_or_eq_of_le (Nat.le_of_lt_succ hp) with q | q
          · exact h1 p q
          · subst q; exact h2
      refine bX8_agrees_6 (lpN (N := 6) hj0 (by decide)) (lpN (N := 6) hj0 (by decide)) (fun _ => by rw [e5]; exact vp_in_nI (by omega) (by decide)) (fun _ => by rw [e7]; exact vp_in_nI (by omega) (by decide)) (fun _ c1 => ?_) (fun _ c1 c2 => ?_) (fun _ c1 c2 c3 => ?_) (fun _ c1 c2 c3 c4 => ?_) (fun _ c1 c2 c3 c4 => ?_)
      · rw [jbP_0] at c1
        rw [jbP_f (fun q => c1 (fun p hp => q p (by omega)))] at h
        exact h
      · rw [jbP_0, Classical.not_not] at c1
        rw [e6] at c2
        exact yes c1 (jbUn_0.mpr (Or.inl c2))
      · rw [jbP_0, Classical.not_not] at c1
        rw [e8] at c3
        exact yes c1 (jbUn_0.mpr (Or.inr (Or.inl c3)))
      · rw [e6, e8] at c4
        rw [e6] at c2
        rw [e8] at c3
        rw [jbP_f] at h
        · exact h
        · intro q
          rcases jbUn_0.mp (q j (by omega)) with z | z | z
          · exact c2 z
          · exact c3 z
          · exact c4 z
      · rw [jbP_0, Classical.not_not] at c1
        rw [e6, e8] at c4
        exact yes c1 (jbUn_0.mpr (Or.inr (Or.inr c4)))
  have h0 := key 6 0 rfl
  rw [jbP_t (fun p hp => absurd hp (Nat.not_lt_zero p))] at h0
  exact eX8_agrees (bX8_agrees_0 h0)
abbrev kX8_letterOf_0 (d : Nat) (Q : Option ps_V → ps_S → Prop) (v1 : Int32) (v2 : Int32) (v3 : Int32) (σ : ps_S) : Prop := ps_K mX8_letterOf (d + 1) (ps_QF Q) 0 [some (.inr (.inr (50, 0))), some (.inl v1), some (.inl v2), some (.inl v3), none] [] σ
abbrev kX8_letterOf_3 (d : Nat) (Q : Option ps_V → ps_S → Prop) (v1 : Int32) (v2 : Int32) (v3 : Int32) (v4 : Int32) (σ : ps_S) : Prop := ps_K mX8_letterOf (d + 1) (ps_QF Q) 3 [some (.inr (.inr (50, 0))), some (.inl v1), some (.inl v2), some (.inl v3), some (.inl v4)] [] σ
theorem bX8_letterOf_0 {d : Nat} {Q : Option ps_V → ps_S → Prop} {v1 : Int32} {v2 : Int32} {v3 : Int32} {σ : ps_S} (h1 : kX8_letterOf_3 d Q v1 v2 v3 0 σ) : kX8_letterOf_0 d Q v1 v2 v3 σ := by
  refine ps_iconst (x := 0) (ps_at tX8_letterOf_ok 0 rfl) (by decide) ?_
  refine ps_istore (L' := [some (.inr (.inr (50, 0))), some (.inl v1), some (.inl v2), some (.inl v3), some (.inl 0)]) (ps_at tX8_letterOf_ok 1 rfl) (by decide) rfl ?_
  exact h1
theorem bX8_letterOf_3 {d : Nat} {Q : Option ps_V → ps_S → Prop} {v1 : Int32} {v2 : Int32} {v3 : Int32} {v4 : Int32} {σ : ps_S} (h1 : 9 ≤ v4 → Q (some (.inl (-900009))) σ) (h2 : ¬ 9 ≤ v4 → vp_in v4 9) (h3 : ¬ 9 ≤ v4 → ¬ (σ 53 0 v4.toNatClampNeg) = v2 → kX8_letterOf_3 d Q v1 v2 v3 (v4 + 1) σ) (h4 : ¬ 9 ≤ v4 → (σ 53 0 v4.toNatClampNeg) = v2 → vp_in (((54 * v1) + (6 * v4)) + v3) 324) (h5 : ¬ 9 ≤ v4 → (σ 53 0 v4.toNatClampNeg) = v2 → (jX8_letterAt σ v1 v4 v3) = (-900009) → kX8_letterOf_3 d Q v1 v2 v3 (v4 + 1) σ) (h6 : ¬ 9 ≤ v4 → (σ 53 0 v4.toNatClampNeg) = v2 → ¬ (jX8_letterAt σ v1 v4 v3) = (-900009) → Q (some (.inl (jX8_letterAt σ v1 v4 v3))) σ) : kX8_letterOf_3 d Q v1 v2 v3 v4 σ := by
  refine ps_iload (ps_at tX8_letterOf_ok 2 rfl) rfl ?_
  refine ps_bipush (x := 9) (ps_at tX8_letterOf_ok 3 rfl) (by decide) ?_
  refine ps_icmp_ge (tgt := 49) (ps_at tX8_letterOf_ok 4 rfl) (by decide) (fun c0 => ?_) (fun c0 => ?_)
  · skip
    refine ps_ldc (ps_at tX8_letterOf_ok 26 rfl) cnX8_96 ?_
    exact ps_iret (ps_at tX8_letterOf_ok 27 rfl) rfl ⟨rfl, rfl⟩ (h1 c0)
  · skip
    refine ps_aload_n (ps_at tX8_letterOf_ok 5 rfl) rfl rfl ?_
    refine ps_getR (ps_at tX8_letterOf_ok 6 rfl) flX8_13 sh_50 rfl ?_
    refine ps_iload (ps_at tX8_letterOf_ok 7 rfl) rfl ?_
    refine ps_iald (ps_at tX8_letterOf_ok 8 rfl) sh_53 (h2 c0) ?_
    refine ps_iload_n (ps_at tX8_letterOf_ok 9 rfl) rfl rfl ?_
    refine ps_icmp_ne (tgt := 43) (ps_at tX8_letterOf_ok 10 rfl) (by decide) (fun c1 => ?_) (fun c1 => ?_)
    · skip
      refine ps_iinc (L' := [some (.inr (.inr (50, 0))), some (.inl v1), some (.inl v2), some (.inl v3), some (.inl (v4 + 1))]) (y := 1) (ps_at tX8_letterOf_ok 24 rfl) rfl (by decide) (by decide) rfl ?_
      refine ps_goto (tgt := 3) (ps_at tX8_letterOf_ok 25 rfl) (by decide) ?_
      exact h3 c0 c1
    · skip
      refine ps_aload_n (ps_at tX8_letterOf_ok 11 rfl) rfl rfl ?_
      refine ps_iload_n (ps_at tX8_letterOf_ok 12 rfl) rfl rfl ?_
      refine ps_iload (ps_at tX8_letterOf_ok 13 rfl) rfl ?_
      refine ps_iload_n (ps_at tX8_letterOf_ok 14 rfl) rfl rfl ?_
      refine ps_callV (M2 := mX8_letterAt) (av := [.inl v1, .inl v4, .inl v3]) (rest := []) (ps_at tX8_letterOf_ok 15 rfl) cvX8_116 sh_50 rfl rfl (fun _ => Nat.le_of_ble_eq_true rfl) (pX8_letterAt (h4 c0 c1) ?_)
      refine ps_ldc (ps_at tX8_letterOf_ok 16 rfl) cnX8_96 ?_
      refine ps_icmp_eq (tgt := 43) (ps_at tX8_letterOf_ok 17 rfl) (by decide) (fun c2 => ?_) (fun c2 => ?_)
      · skip
        refine ps_iinc (L' := [some (.inr (.inr (50, 0))), some (.inl v1), some (.inl v2), some (.inl v3), some (.inl (v4 + 1))]) (y := 1) (ps_at tX8_letterOf_ok 24 rfl) rfl (by decide) (by decide) rfl ?_
        refine ps_goto (tgt := 3) (ps_at tX8_letterOf_ok 25 rfl) (by decide) ?_
        exact h5 c0 c1 c2
      · skip
        refine ps_aload_n (ps_at tX8_letterOf_ok 18 rfl) rfl rfl ?_
        refine ps_iload_n (ps_at tX8_letterOf_ok 19 rfl) rfl rfl ?_
        refine ps_iload (ps_at tX8_letterOf_ok 20 rfl) rfl ?_
        refine ps_iload_n (ps_at tX8_letterOf_ok 21 rfl) rfl rfl ?_
        refine ps_callV (M2 := mX8_letterAt) (av := [.inl v1, .inl v4, .inl v3]) (rest := []) (ps_at tX8_letterOf_ok 22 rfl) cvX8_116 sh_50 rfl rfl (fun _ => Nat.le_of_ble_eq_true rfl) (pX8_letterAt (h4 c0 c1) ?_)
        exact ps_iret (ps_at tX8_letterOf_ok 23 rfl) rfl ⟨rfl, rfl⟩ (h6 c0 c1 c2)
theorem eX8_letterOf {d : Nat} {Q : Option ps_V → ps_S → Prop} {v1 : Int32} {v2 : Int32} {v3 : Int32} {σ : ps_S} (h : kX8_letterOf_0 d Q v1 v2 v3 σ) : ps_C mX8_letterOf (d + 1) [.inr (.inr (50, 0)), .inl v1, .inl v2, .inl v3] σ Q := ps_enter (by decide) rfl ⟨rfl, rfl, rfl⟩ rfl (Nat.le_of_ble_eq_true rfl) h
theorem pX8_letterOf {d : Nat} {Q : Option ps_V → ps_S → Prop} {v1 v2 v3 : Int32} {σ : ps_S} (o1 : vp_in v1 6) (o2 : vp_in v3 6) (hq : Q (some (.inl (mGl σ v1.toNatClampNeg v2 v3.toNatClampNeg))) σ) : ps_C mX8_letterOf (d + 1) [.inr (.inr (50, 0)), .inl v1, .inl v2, .inl v3] σ Q := by
  obtain ⟨f, hf, rfl⟩ := vp_in_of o1 (by decide)
  obtain ⟨p, hp, rfl⟩ := vp_in_of o2 (by decide)
  rw [nI_clamp (by omega), nI_clamp (by omega)] at hq
  have key : ∀ r j, j + r = 9 → Q (some (.inl (match fstN r j (fun c => σ 53 0 c = v2 ∧ ¬ σ 51 0 (54 * f + 6 * c + p) = -900009) with | some c => σ 51 0 (54 * f + 6 * c + p) | none => -900009))) σ → kX8_letterOf_3 d Q (nI f) v2 (nI p) (nI j) σ := by
    intro r
    induction r with
    | zero =>
      intro j hj hh
      obtain rfl : j = 9 := by omega
      exact bX8_letterOf_3 (fun _ => hh) (lpX (N := 9) (by decide)) (lpX (N := 9) (by decide)) (lpX (N := 9) (by decide)) (lpX (N := 9) (by decide)) (lpX (N := 9) (by decide))
    | succ r ih =>
      intro j hj hh
      have hj0 : j < 9 := by omega
      have hjc : (nI j).toNatClampNeg = j := nI_clamp (by omega)
      have e5 := ix_let hf hj0 hp
      have e6 : jX8_letterAt σ (nI f) (nI j) (nI p) = σ 51 0 (54 * f + 6 * j + p) := by unfold jX8_letterAt; rw [e5, nI_clamp (by omega)]
      refine bX8_letterOf_3 (lpN (N := 9) hj0 (by decide)) (fun _ => vp_in_nI hj0 (by decide)) (fun _ c => ?_) (fun _ _ => by rw [e5]; exact vp_in_nI (by omega) (by decide)) (fun _ c c2 => ?_) (fun _ c c2 => ?_)
      · rw [hjc] at c
        rw [fst_f (fun h => c h.1)] at hh
        rw [nI_1]
        exact ih (j + 1) (by omega) hh
      · rw [hjc] at c
        rw [e6] at c2
        rw [fst_f (fun h => h.2 c2)] at hh
        rw [nI_1]
        exact ih (j + 1) (by omega) hh
      · rw [hjc] at c
        rw [e6] at c2 ⊢
        rw [fst_t ⟨c, c2⟩] at hh
        exact hh
  exact eX8_letterOf (bX8_letterOf_0 (key 9 0 rfl hq))
abbrev kX8_changesOf_0 (d : Nat) (Q : Option ps_V → ps_S → Prop) (v1 : Int32) (v2 : Int32) (v3 : Int32) (σ : ps_S) : Prop := ps_K mX8_changesOf (d + 2) (ps_QF Q) 0 [some (.inr (.inr (50, 0))), some (.inl v1), some (.inl v2), some (.inl v3), none, none, none, none] [] σ
abbrev kX8_changesOf_6 (d : Nat) (Q : Option ps_V → ps_S → Prop) (v1 : Int32) (v2 : Int32) (v3 : Int32) (v4 : Int32) (v5 : Int32) (σ : ps_S) : Prop := ps_K mX8_changesOf (d + 2) (ps_QF Q) 6 [some (.inr (.inr (50, 0))), some (.inl v1), some (.inl v2), some (.inl v3), some (.inl v4), some (.inl v5), none, none] [] σ
theorem bX8_changesOf_0 {d : Nat} {Q : Option ps_V → ps_S → Prop} {v1 : Int32} {v2 : Int32} {v3 : Int32} {σ : ps_S} (h1 : kX8_changesOf_6 d Q v1 v2 v3 0 0 σ) : kX8_changesOf_0 d Q v1 v2 v3 σ := by
  refine ps_iconst (x := 0) (ps_at tX8_changesOf_ok 0 rfl) (by decide) ?_
  refine ps_istore (L' := [some (.inr (.inr (50, 0))), some (.inl v1), some (.inl v2), some (.inl v3), some (.inl 0), none, none, none]) (ps_at tX8_changesOf_ok 1 rfl) (by decide) rfl ?_
  refine ps_iconst (x := 0) (ps_at tX8_changesOf_ok 2 rfl) (by decide) ?_
  refine ps_istore (L' := [some (.inr (.inr (50, 0))), some (.inl v1), some (.inl v2), some (.inl v3), some (.inl 0), some (.inl 0), none, none]) (ps_at tX8_changesOf_ok 3 rfl) (by decide) rfl ?_
  exact h1
theorem bX8_changesOf_6 {d : Nat} {Q : Option ps_V → ps_S → Prop} {v1 : Int32} {v2 : Int32} {v3 : Int32} {v4 : Int32} {v5 : Int32} {σ : ps_S} (h1 : 6 ≤ v5 → Q (some (.inl v4)) σ) (h2 : ¬ 6 ≤ v5 → vp_in v1 6) (h3 : ¬ 6 ≤ v5 → vp_in v5 6) (h4 : ¬ 6 ≤ v5 → (mGl σ v1.toNatClampNeg v2 v5.toNatClampNeg) = (-900009) → kX8_changesOf_6 d Q v1 v2 v3 (v4 + 0) (v5 + 1) σ) (h5 : ¬ 6 ≤ v5 → ¬ (mGl σ v1.toNatClampNeg v2 v5.toNatClampNeg) = (-900009) → (mGl σ v1.toNatClampNeg v3 v5.toNatClampNeg) = (-900009) → kX8_changesOf_6 d Q v1 v2 v3 (v4 + 0) (v5 + 1) σ) (h6 : ¬ 6 ≤ v5 → ¬ (mGl σ v1.toNatClampNeg v2 v5.toNatClampNeg) = (-900009) → ¬ (mGl σ v1.toNatClampNeg v3 v5.toNatClampNeg) = (-900009) → (mGl σ v1.toNatClampNeg v2 v5.toNatClampNeg) = (mGl σ v1.toNatClampNeg v3 v5.toNatClampNeg) → kX8_changesOf_6 d Q v1 v2 v3 (v4 + 0) (v5 + 1) σ) (h7 : ¬ 6 ≤ v5 → ¬ (mGl σ v1.toNatClampNeg v2 v5.toNatClampNeg) = (-900009) → ¬ (mGl σ v1.toNatClampNeg v3 v5.toNatClampNeg) = (-900009) → ¬ (mGl σ v1.toNatClampNeg v2 v5.toNatClampNeg) = (mGl σ v1.toNatClampNeg v3 v5.toNatClampNeg) → kX8_changesOf_6 d Q v1 v2 v3 (v4 + 1) (v5 + 1) σ) : kX8_changesOf_6 d Q v1 v2 v3 v4 v5 σ := by
  refine ps_iload (ps_at tX8_changesOf_ok 4 rfl) rfl ?_
  refine ps_bipush (x := 6) (ps_at tX8_changesOf_ok 5 rfl) (by decide) ?_
  refine ps_icmp_ge (tgt := 70) (ps_at tX8_changesOf_ok 6 rfl) (by decide) (fun c0 => ?_) (fun c0 => ?_)
  · skip
    refine ps_iload (ps_at tX8_changesOf_ok 36 rfl) rfl ?_
    exact ps_iret (ps_at tX8_changesOf_ok 37 rfl) rfl ⟨rfl, rfl⟩ (h1 c0)
  · skip
    refine ps_aload_n (ps_at tX8_changesOf_ok 7 rfl) rfl rfl ?_
    refine ps_iload_n (ps_at tX8_changesOf_ok 8 rfl) rfl rfl ?_
    refine ps_iload_n (ps_at tX8_changesOf_ok 9 rfl) rfl rfl ?_
    refine ps_iload (ps_at tX8_changesOf_ok 10 rfl) rfl ?_
    refine ps_callV (M2 := mX8_letterOf) (av := [.inl v1, .inl v2, .inl v5]) (rest := []) (ps_at tX8_changesOf_ok 11 rfl) cvX8_141 sh_50 rfl rfl (fun _ => Nat.le_of_ble_eq_true rfl) (pX8_letterOf (h2 c0) (h3 c0) ?_)
    refine ps_istore (L' := [some (.inr (.inr (50, 0))), some (.inl v1), some (.inl v2), some (.inl v3), some (.inl v4), some (.inl v5), some (.inl (mGl σ v1.toNatClampNeg v2 v5.toNatClampNeg)), none]) (ps_at tX8_changesOf_ok 12 rfl) (by decide) rfl ?_
    refine ps_aload_n (ps_at tX8_changesOf_ok 13 rfl) rfl rfl ?_
    refine ps_iload_n (ps_at tX8_changesOf_ok 14 rfl) rfl rfl ?_
    refine ps_iload_n (ps_at tX8_changesOf_ok 15 rfl) rfl rfl ?_
    refine ps_iload (ps_at tX8_changesOf_ok 16 rfl) rfl ?_
    refine ps_callV (M2 := mX8_letterOf) (av := [.inl v1, .inl v3, .inl v5]) (rest := []) (ps_at tX8_changesOf_ok 17 rfl) cvX8_141 sh_50 rfl rfl (fun _ => Nat.le_of_ble_eq_true rfl) (pX8_letterOf (h2 c0) (h3 c0) ?_)
    refine ps_istore (L' := [some (.inr (.inr (50, 0))), some (.inl v1), some (.inl v2), some (.inl v3), some (.inl v4), some (.inl v5), some (.inl (mGl σ v1.toNatClampNeg v2 v5.toNatClampNeg)), some (.inl (mGl σ v1.toNatClampNeg v3 v5.toNatClampNeg))]) (ps_at tX8_changesOf_ok 18 rfl) (by decide) rfl ?_
    refine ps_iload (ps_at tX8_changesOf_ok 19 rfl) rfl ?_
    refine ps_iload (ps_at tX8_changesOf_ok 20 rfl) rfl ?_
    refine ps_ldc (ps_at tX8_changesOf_ok 21 rfl) cnX8_96 ?_
    refine ps_icmp_eq (tgt := 60) (ps_at tX8_changesOf_ok 22 rfl) (by decide) (fun c1 => ?_) (fun c1 => ?_)
    · skip
      refine ps_iconst (x := 0) (ps_at tX8_changesOf_ok 31 rfl) (by decide) ?_
      refine ps_iadd (ps_at tX8_changesOf_ok 32 rfl) ?_
      refine ps_istore (L' := [some (.inr (.inr (50, 0))), some (.inl v1), some (.inl v2), some (.inl v3), some (.inl (v4 + 0)), some (.inl v5), some (.inl (mGl σ v1.toNatClampNeg v2 v5.toNatClampNeg)), some (.inl (mGl σ v1.toNatClampNeg v3 v5.toNatClampNeg))]) (ps_at tX8_changesOf_ok 33 rfl) (by decide) rfl ?_
      refine ps_iinc (L' := [some (.inr (.inr (50, 0))), some (.inl v1), some (.inl v2), some (.inl v3), some (.inl (v4 + 0)), some (.inl (v5 + 1)), some (.inl (mGl σ v1.toNatClampNeg v2 v5.toNatClampNeg)), some (.inl (mGl σ v1.toNatClampNeg v3 v5.toNatClampNeg))]) (y := 1) (ps_at tX8_changesOf_ok 34 rfl) rfl (by decide) (by decide) rfl ?_
      refine ps_goto (tgt := 6) (ps_at tX8_changesOf_ok 35 rfl) (by decide) ?_
      refine ps_forget (L' := [some (.inr (.inr (50, 0))), some (.inl v1), some (.inl v2), some (.inl v3), some (.inl (v4 + 0)), some (.inl (v5 + 1)), none, none]) (And.intro rfl (And.intro rfl (And.intro rfl (And.intro rfl (And.intro rfl (And.intro rfl trivial)))))) ?_
      exact h4 c0 c1
    · skip
      refine ps_iload (ps_at tX8_changesOf_ok 23 rfl) rfl ?_
      refine ps_ldc (ps_at tX8_changesOf_ok 24 rfl) cnX8_96 ?_
      refine ps_icmp_eq (tgt := 60) (ps_at tX8_changesOf_ok 25 rfl) (by decide) (fun c2 => ?_) (fun c2 => ?_)
      · skip
        refine ps_iconst (x := 0) (ps_at tX8_changesOf_ok 31 rfl) (by decide) ?_
        refine ps_iadd (ps_at tX8_changesOf_ok 32 rfl) ?_
        refine ps_istore (L' := [some (.inr (.inr (50, 0))), some (.inl v1), some (.inl v2), some (.inl v3), some (.inl (v4 + 0)), some (.inl v5), some (.inl (mGl σ v1.toNatClampNeg v2 v5.toNatClampNeg)), some (.inl (mGl σ v1.toNatClampNeg v3 v5.toNatClampNeg))]) (ps_at tX8_changesOf_ok 33 rfl) (by decide) rfl ?_
        refine ps_iinc (L' := [some (.inr (.inr (50, 0))), some (.inl v1), some (.inl v2), some (.inl v3), some (.inl (v4 + 0)), some (.inl (v5 + 1)), some (.inl (mGl σ v1.toNatClampNeg v2 v5.toNatClampNeg)), some (.inl (mGl σ v1.toNatClampNeg v3 v5.toNatClampNeg))]) (y := 1) (ps_at tX8_changesOf_ok 34 rfl) rfl (by decide) (by decide) rfl ?_
        refine ps_goto (tgt := 6) (ps_at tX8_changesOf_ok 35 rfl) (by decide) ?_
        refine ps_forget (L' := [some (.inr (.inr (50, 0))), some (.inl v1), some (.inl v2), some (.inl v3), some (.inl (v4 + 0)), some (.inl (v5 + 1)), none, none]) (And.intro rfl (And.intro rfl (And.intro rfl (And.intro rfl (And.intro rfl (And.intro rfl trivial)))))) ?_
        exact h5 c0 c1 c2
      · skip
        refine ps_iload (ps_at tX8_changesOf_ok 26 rfl) rfl ?_
        refine ps_iload (ps_at tX8_changesOf_ok 27 rfl) rfl ?_
        refine ps_icmp_eq (tgt := 60) (ps_at tX8_changesOf_ok 28 rfl) (by decide) (fun c3 => ?_) (fun c3 => ?_)
        · skip
          refine ps_iconst (x := 0) (ps_at tX8_changesOf_ok 31 rfl) (by decide) ?_
          refine ps_iadd (ps_at tX8_changesOf_ok 32 rfl) ?_
          refine ps_istore (L' := [some (.inr (.inr (50, 0))), some (.inl v1), some (.inl v2), some (.inl v3), some (.inl (v4 + 0)), some (.inl v5), some (.inl (mGl σ v1.toNatClampNeg v2 v5.toNatClampNeg)), some (.inl (mGl σ v1.toNatClampNeg v3 v5.toNatClampNeg))]) (ps_at tX8_changesOf_ok 33 rfl) (by decide) rfl ?_
          refine ps_iinc (L' := [some (.inr (.inr (50, 0))), some (.inl v1), some (.inl v2), some (.inl v3), some (.inl (v4 + 0)), some (.inl (v5 + 1)), some (.inl (mGl σ v1.toNatClampNeg v2 v5.toNatClampNeg)), some (.inl (mGl σ v1.toNatClampNeg v3 v5.toNatClampNeg))]) (y := 1) (ps_at tX8_changesOf_ok 34 rfl) rfl (by decide) (by decide) rfl ?_
          refine ps_goto (tgt := 6) (ps_at tX8_changesOf_ok 35 rfl) (by decide) ?_
          refine ps_forget (L' := [some (.inr (.inr (50, 0))), some (.inl v1), some (.inl v2), some (.inl v3), some (.inl (v4 + 0)), some (.inl (v5 + 1)), none, none]) (And.intro rfl (And.intro rfl (And.intro rfl (And.intro rfl (And.intro rfl (And.intro rfl trivial)))))) ?_
          exact h6 c0 c1 c2 c3
        · skip
          refine ps_iconst (x := 1) (ps_at tX8_changesOf_ok 29 rfl) (by decide) ?_
          refine ps_goto (tgt := 61) (ps_at tX8_changesOf_ok 30 rfl) (by decide) ?_
          refine ps_iadd (ps_at tX8_changesOf_ok 32 rfl) ?_
          refine ps_istore (L' := [some (.inr (.inr (50, 0))), some (.inl v1), some (.inl v2), some (.inl v3), some (.inl (v4 + 1)), some (.inl v5), some (.inl (mGl σ v1.toNatClampNeg v2 v5.toNatClampNeg)), some (.inl (mGl σ v1.toNatClampNeg v3 v5.toNatClampNeg))]) (ps_at tX8_changesOf_ok 33 rfl) (by decide) rfl ?_
          refine ps_iinc (L' := [some (.inr (.inr (50, 0))), some (.inl v1), some (.inl v2), some (.inl v3), some (.inl (v4 + 1)), some (.inl (v5 + 1)), some (.inl (mGl σ v1.toNatClampNeg v2 v5.toNatClampNeg)), some (.inl (mGl σ v1.toNatClampNeg v3 v5.toNatClampNeg))]) (y := 1) (ps_at tX8_changesOf_ok 34 rfl) rfl (by decide) (by decide) rfl ?_
          refine ps_goto (tgt := 6) (ps_at tX8_changesOf_ok 35 rfl) (by decide) ?_
          refine ps_forget (L' := [some (.inr (.inr (50, 0))), some (.inl v1), some (.inl v2), some (.inl v3), some (.inl (v4 + 1)), some (.inl (v5 + 1)), none, none]) (And.intro rfl (And.intro rfl (And.intro rfl (And.intro rfl (And.intro rfl (And.intro rfl trivial)))))) ?_
          exact h7 c0 c1 c2 c3
theorem eX8_changesOf {d : Nat} {Q : Option ps_V → ps_S → Prop} {v1 : Int32} {v2 : Int32} {v3 : Int32} {σ : ps_S} (h : kX8_changesOf_0 d Q v1 v2 v3 σ) : ps_C mX8_changesOf (d + 2) [.inr (.inr (50, 0)), .inl v1, .inl v2, .inl v3] σ Q := ps_enter (by decide) rfl ⟨rfl, rfl, rfl⟩ rfl (Nat.le_of_ble_eq_true rfl) h
theorem pX8_changesOf {d : Nat} {Q : Option ps_V → ps_S → Prop} {v1 v2 v3 : Int32} {σ : ps_S} (o1 : vp_in v1 6) (hq : Q (some (.inl (nI (cntN 6 (fun p => ¬ jbUn (mGl σ v1.toNatClampNeg v2 p) (mGl σ v1.toNatClampNeg v3 p) = 0))))) σ) : ps_C mX8_changesOf (d + 2) [.inr (.inr (50, 0)), .inl v1, .inl v2, .inl v3] σ Q := by
  have key : ∀ r j, j + r = 6 → kX8_changesOf_6 d Q v1 v2 v3 (nI (cntN j (fun p => ¬ jbUn (mGl σ v1.toNatClampNeg v2 p) (mGl σ v1.toNatClampNeg v3 p) = 0))) (nI j) σ := by
    intro r
    induction r with
    | zero =>
      intro j hj
      obtain rfl : j = 6 := by omega
      exact bX8_changesOf_6 (fun _ => hq) (lpX (N := 6) (by decide)) (lpX (N := 6) (by decide)) (lpX (N := 6) (by decide)) (lpX (N := 6) (by decide)) (lpX (N := 6) (by decide)) (lpX (N := 6) (by decide))
    | succ r ih =>
      intro j hj
      have hj0 : j < 6 := by omega
      have hjc : (nI j).toNatClampNeg = j := nI_clamp (by omega)
      have no : jbUn (mGl σ v1.toNatClampNeg v2 j) (mGl σ v1.toNatClampNeg v3 j) = 0 → kX8_changesOf_6 d Q v1 v2 v3 (nI (cntN j (fun p => ¬ jbUn (mGl σ v1.toNatClampNeg v2 p) (mGl σ v1.toNatClampNeg v3 p) = 0)) + 0) (nI j + 1) σ := by
        intro c
        rw [Int32.add_zero, nI_1, cn_f (P := fun p => ¬ jbUn (mGl σ v1.toNatClampNeg v2 p) (mGl σ v1.toNatClampNeg v3 p) = 0) (fun h => h c)]
        exact ih (j + 1) (by omega)
      refine bX8_changesOf_6 (lpN (N := 6) hj0 (by decide)) (fun _ => o1) (fun _ => vp_in_nI hj0 (by decide)) (fun _ c => ?_) (fun _ c c2 => ?_) (fun _ c c2 c3 => ?_) (fun _ c c2 c3 => ?_)
      · rw [hjc] at c
        exact no (jbUn_0.mpr (Or.inl c))
      · rw [hjc] at c2
        exact no (jbUn_0.mpr (Or.inr (Or.inl c2)))
      · rw [hjc] at c3
        exact no (jbUn_0.mpr (Or.inr (Or.inr c3)))
      · rw [hjc] at c c2 c3
        rw [cn_t (P := fun p => ¬ jbUn (mGl σ v1.toNatClampNeg v2 p) (mGl σ v1.toNatClampNeg v3 p) = 0)]
        · rw [nI_1]
          exact ih (j + 1) (by omega)
        · intro h
          rcases jbUn_0.mp h with z | z | z
          · exact c z
          · exact c2 z
          · exact c3 z
  exact eX8_changesOf (bX8_changesOf_0 (key 6 0 rfl))
abbrev kX8_shares_0 (d : Nat) (Q : Option ps_V → ps_S → Prop) (v1 : Int32) (v2 : Int32) (σ : ps_S) : Prop := ps_K mX8_shares d (ps_QF Q) 0 [some (.inr (.inr (50, 0))), some (.inl v1), some (.inl v2), none, none] [] σ
abbrev kX8_shares_5 (d : Nat) (Q : Option ps_V → ps_S → Prop) (v1 : Int32) (v2 : Int32) (v3 : Int32) (v4 : Int32) (σ : ps_S) : Prop := ps_K mX8_shares d (ps_QF Q) 5 [some (.inr (.inr (50, 0))), some (.inl v1), some (.inl v2), some (.inl v3), some (.inl v4)] [] σ
theorem bX8_shares_0 {d : Nat} {Q : Option ps_V → ps_S → Prop} {v1 : Int32} {v2 : Int32} {σ : ps_S} (h1 : kX8_shares_5 d Q v1 v2 0 0 σ) : kX8_shares_0 d Q v1 v2 σ := by
  refine ps_iconst (x := 0) (ps_at tX8_shares_ok 0 rfl) (by decide) ?_
  refine ps_istore_n (L' := [some (.inr (.inr (50, 0))), some (.inl v1), some (.inl v2), some (.inl 0), none]) (ps_at tX8_shares_ok 1 rfl) rfl (by decide) rfl ?_
  refine ps_iconst (x := 0) (ps_at tX8_shares_ok 2 rfl) (by decide) ?_
  refine ps_istore (L' := [some (.inr (.inr (50, 0))), some (.inl v1), some (.inl v2), some (.inl 0), some (.inl 0)]) (ps_at tX8_shares_ok 3 rfl) (by decide) rfl ?_
  exact h1
theorem bX8_shares_5 {d : Nat} {Q : Option ps_V → ps_S → Prop} {v1 : Int32} {v2 : Int32} {v3 : Int32} {v4 : Int32} {σ : ps_S} (h1 : 16 ≤ v4 → (v3 = 0 ∨ v3 = 1)) (h2 : 16 ≤ v4 → Q (some (.inl v3)) σ) (h3 : ¬ 16 ≤ v4 → ¬ v3 = 0 → kX8_shares_5 d Q v1 v2 1 (v4 + 1) σ) (h4 : ¬ 16 ≤ v4 → v3 = 0 → vp_in ((6 * v4) + v1) 96) (h5 : ¬ 16 ≤ v4 → v3 = 0 → (σ 63 0 ((6 * v4) + v1).toNatClampNeg) = (-900009) → kX8_shares_5 d Q v1 v2 0 (v4 + 1) σ) (h6 : ¬ 16 ≤ v4 → v3 = 0 → ¬ (σ 63 0 ((6 * v4) + v1).toNatClampNeg) = (-900009) → vp_in ((6 * v4) + v2) 96) (h7 : ¬ 16 ≤ v4 → v3 = 0 → ¬ (σ 63 0 ((6 * v4) + v1).toNatClampNeg) = (-900009) → (σ 63 0 ((6 * v4) + v2).toNatClampNeg) = (-900009) → kX8_shares_5 d Q v1 v2 0 (v4 + 1) σ) (h8 : ¬ 16 ≤ v4 → v3 = 0 → ¬ (σ 63 0 ((6 * v4) + v1).toNatClampNeg) = (-900009) → ¬ (σ 63 0 ((6 * v4) + v2).toNatClampNeg) = (-900009) → kX8_shares_5 d Q v1 v2 1 (v4 + 1) σ) : kX8_shares_5 d Q v1 v2 v3 v4 σ := by
  refine ps_iload (ps_at tX8_shares_ok 4 rfl) rfl ?_
  refine ps_bipush (x := 16) (ps_at tX8_shares_ok 5 rfl) (by decide) ?_
  refine ps_icmp_ge (tgt := 62) (ps_at tX8_shares_ok 6 rfl) (by decide) (fun c0 => ?_) (fun c0 => ?_)
  · skip
    refine ps_iload_n (ps_at tX8_shares_ok 35 rfl) rfl rfl ?_
    exact ps_zret (ps_at tX8_shares_ok 36 rfl) rfl ⟨rfl, rfl⟩ (h1 c0) (h2 c0)
  · skip
    refine ps_iload_n (ps_at tX8_shares_ok 7 rfl) rfl rfl ?_
    refine ps_if_ne (tgt := 50) (ps_at tX8_shares_ok 8 rfl) (by decide) (fun c1 => ?_) (fun c1 => ?_)
    · skip
      refine ps_iconst (x := 1) (ps_at tX8_shares_ok 29 rfl) (by decide) ?_
      refine ps_goto (tgt := 55) (ps_at tX8_shares_ok 30 rfl) (by decide) ?_
      refine ps_istore_n (L' := [some (.inr (.inr (50, 0))), some (.inl v1), some (.inl v2), some (.inl 1), some (.inl v4)]) (ps_at tX8_shares_ok 32 rfl) rfl (by decide) rfl ?_
      refine ps_iinc (L' := [some (.inr (.inr (50, 0))), some (.inl v1), some (.inl v2), some (.inl 1), some (.inl (v4 + 1))]) (y := 1) (ps_at tX8_shares_ok 33 rfl) rfl (by decide) (by decide) rfl ?_
      refine ps_goto (tgt := 5) (ps_at tX8_shares_ok 34 rfl) (by decide) ?_
      exact h3 c0 c1
    · skip
      refine ps_aload_n (ps_at tX8_shares_ok 9 rfl) rfl rfl ?_
      refine ps_getR (ps_at tX8_shares_ok 10 rfl) flX8_44 sh_50 rfl ?_
      refine ps_bipush (x := 6) (ps_at tX8_shares_ok 11 rfl) (by decide) ?_
      refine ps_iload (ps_at tX8_shares_ok 12 rfl) rfl ?_
      refine ps_imul (ps_at tX8_shares_ok 13 rfl) ?_
      refine ps_iload_n (ps_at tX8_shares_ok 14 rfl) rfl rfl ?_
      refine ps_iadd (ps_at tX8_shares_ok 15 rfl) ?_
      refine ps_iald (ps_at tX8_shares_ok 16 rfl) sh_63 (h4 c0 c1) ?_
      refine ps_ldc (ps_at tX8_shares_ok 17 rfl) cnX8_96 ?_
      refine ps_icmp_eq (tgt := 54) (ps_at tX8_shares_ok 18 rfl) (by decide) (fun c2 => ?_) (fun c2 => ?_)
      · skip
        refine ps_iconst (x := 0) (ps_at tX8_shares_ok 31 rfl) (by decide) ?_
        refine ps_istore_n (L' := [some (.inr (.inr (50, 0))), some (.inl v1), some (.inl v2), some (.inl 0), some (.inl v4)]) (ps_at tX8_shares_ok 32 rfl) rfl (by decide) rfl ?_
        refine ps_iinc (L' := [some (.inr (.inr (50, 0))), some (.inl v1), some (.inl v2), some (.inl 0), some (.inl (v4 + 1))]) (y := 1) (ps_at tX8_shares_ok 33 rfl) rfl (by decide) (by decide) rfl ?_
        refine ps_goto (tgt := 5) (ps_at tX8_shares_ok 34 rfl) (by decide) ?_
        exact h5 c0 c1 c2
      · skip
        refine ps_aload_n (ps_at tX8_shares_ok 19 rfl) rfl rfl ?_
        refine ps_getR (ps_at tX8_shares_ok 20 rfl) flX8_44 sh_50 rfl ?_
        refine ps_bipush (x := 6) (ps_at tX8_shares_ok 21 rfl) (by decide) ?_
        refine ps_iload (ps_at tX8_shares_ok 22 rfl) rfl ?_
        refine ps_imul (ps_at tX8_shares_ok 23 rfl) ?_
        refine ps_iload_n (ps_at tX8_shares_ok 24 rfl) rfl rfl ?_
        refine ps_iadd (ps_at tX8_shares_ok 25 rfl) ?_
        refine ps_iald (ps_at tX8_shares_ok 26 rfl) sh_63 (h6 c0 c1 c2) ?_
        refine ps_ldc (ps_at tX8_shares_ok 27 rfl) cnX8_96 ?_
        refine ps_icmp_eq (tgt := 54) (ps_at tX8_shares_ok 28 rfl) (by decide) (fun c3 => ?_) (fun c3 => ?_)
        · skip
          refine ps_iconst (x := 0) (ps_at tX8_shares_ok 31 rfl) (by decide) ?_
          refine ps_istore_n (L' := [some (.inr (.inr (50, 0))), some (.inl v1), some (.inl v2), some (.inl 0), some (.inl v4)]) (ps_at tX8_shares_ok 32 rfl) rfl (by decide) rfl ?_
          refine ps_iinc (L' := [some (.inr (.inr (50, 0))), some (.inl v1), some (.inl v2), some (.inl 0), some (.inl (v4 + 1))]) (y := 1) (ps_at tX8_shares_ok 33 rfl) rfl (by decide) (by decide) rfl ?_
          refine ps_goto (tgt := 5) (ps_at tX8_shares_ok 34 rfl) (by decide) ?_
          exact h7 c0 c1 c2 c3
        · skip
          refine ps_iconst (x := 1) (ps_at tX8_shares_ok 29 rfl) (by decide) ?_
          refine ps_goto (tgt := 55) (ps_at tX8_shares_ok 30 rfl) (by decide) ?_
          refine ps_istore_n (L' := [some (.inr (.inr (50, 0))), some (.inl v1), some (.inl v2), some (.inl 1), some (.inl v4)]) (ps_at tX8_shares_ok 32 rfl) rfl (by decide) rfl ?_
          refine ps_iinc (L' := [some (.inr (.inr (50, 0))), some (.inl v1), some (.inl v2), some (.inl 1), some (.inl (v4 + 1))]) (y := 1) (ps_at tX8_shares_ok 33 rfl) rfl (by decide) (by decide) rfl ?_
          refine ps_goto (tgt := 5) (ps_at tX8_shares_ok 34 rfl) (by decide) ?_
          exact h8 c0 c1 c2 c3
theorem eX8_shares {d : Nat} {Q : Option ps_V → ps_S → Prop} {v1 : Int32} {v2 : Int32} {σ : ps_S} (h : kX8_shares_0 d Q v1 v2 σ) : ps_C mX8_shares d [.inr (.inr (50, 0)), .inl v1, .inl v2] σ Q := ps_enter (by decide) rfl ⟨rfl, rfl, rfl⟩ rfl (Nat.le_of_ble_eq_true rfl) h
theorem pX8_shares {d : Nat} {Q : Option ps_V → ps_S → Prop} {v1 v2 : Int32} {σ : ps_S} (o1 : vp_in v1 6) (o2 : vp_in v2 6) (hq : Q (some (.inl (jbP (mSh σ v1.toNatClampNeg v2.toNatClampNeg)))) σ) : ps_C mX8_shares d [.inr (.inr (50, 0)), .inl v1, .inl v2] σ Q := by
  obtain ⟨a, ha, rfl⟩ := vp_in_of o1 (by decide)
  obtain ⟨b, hb, rfl⟩ := vp_in_of o2 (by decide)
  rw [nI_clamp (by omega), nI_clamp (by omega)] at hq
  have key : ∀ r j, j + r = 16 → kX8_shares_5 d Q (nI a) (nI b) (jbP (∃ p, p < j ∧ ¬ σ 63 0 (6 * p + a) = -900009 ∧ ¬ σ 63 0 (6 * p + b) = -900009)) (nI j) σ := by
    intro r
    induction r with
    | zero =>
      intro j hj
      obtain rfl : j = 16 := by omega
      exact bX8_shares_5 (fun _ => ps_bitP _) (fun _ => hq) (lpX (N := 16) (by decide)) (lpX (N := 16) (by decide)) (lpX (N := 16) (by decide)) (lpX (N := 16) (by decide)) (lpX (N := 16) (by decide)) (lpX (N := 16) (by decide))
    | succ r ih =>
      intro j hj
      have hj0 : j < 16 := by omega
      have e5 : ((6 : Int32) * nI j) + nI a = nI (6 * j + a) := by rw [show (6 : Int32) * nI j = nI (6 * j) from ix_mul 6 j, nI_add]
      have e6 : ((6 : Int32) * nI j) + nI b = nI (6 * j + b) := by rw [show (6 : Int32) * nI j = nI (6 * j) from ix_mul 6 j, nI_add]
      have h := ih (j + 1) (by omega)
      rw [← nI_1] at h
      have no : ¬ (∃ p, p < j ∧ ¬ σ 63 0 (6 * p + a) = -900009 ∧ ¬ σ 63 0 (6 * p + b) = -900009) → (σ 63 0 (6 * j + a) = -900009 ∨ σ 63 0 (6 * j + b) = -900009) → kX8_shares_5 d Q (nI a) (nI b) 0 (nI j + 1) σ := by
        intro c1 c2
        rw [jbP_f] at h
        · exact h
        · rintro ⟨p, hp, h1, h2⟩
          rcases Nat.lt_or_eq_of_le (Nat.le_of_lt_succ hp) with q | q
          · exact c1 ⟨p, q, h1, h2⟩
          · subst q
            rcases c2 with c2 | c2
            · exact h1 c2
            · exact h2 c2
      refine bX8_shares_5 (lpN (N := 16) hj0 (by decide)) (lpN (N := 16) hj0 (by decide)) (fun _ c1 => ?_) (fun _ _ => by rw [e5]; exact vp_in_nI (by omega) (by decide)) (fun _ c1 c2 => ?_) (fun _ _ _ => by rw [e6]; exact vp_in_nI (by omega) (by decide)) (fun _ c1 c2 c3 => ?_) (fun _ c1 c2 c3 => ?_)
      · rw [jbP_0, Classical.not_not] at c1
        obtain ⟨p, hp, hn⟩ := c1
        rw [jbP_t ⟨p, by omega, hn⟩] at h
        exact h
      · rw [jbP_0] at c1
        rw [e5, nI_clamp (by omega)] at c2
        exact no c1 (Or.inl c2)
      · rw [jbP_0] at c1
        rw [e6, nI_clamp (by omega)] at c3
        exact no c1 (Or.inr c3)
      · rw [e5, nI_clamp (by omega)] at c2
        rw [e6, nI_clamp (by omega)] at c3
        rw [jbP_t ⟨j, by omega, c2, c3⟩] at h
        exact h
  have h0 := key 16 0 rfl
  rw [jbP_f (by rintro ⟨p, hp, _⟩; omega)] at h0
  exact eX8_shares (bX8_shares_0 h0)
abbrev kX8_againstOf_0 (d : Nat) (Q : Option ps_V → ps_S → Prop) (v1 : Int32) (v2 : Int32) (σ : ps_S) : Prop := ps_K mX8_againstOf d (ps_QF Q) 0 [some (.inr (.inr (50, 0))), some (.inl v1), some (.inl v2), none, none, none] [] σ
abbrev kX8_againstOf_5 (d : Nat) (Q : Option ps_V → ps_S → Prop) (v1 : Int32) (v2 : Int32) (v3 : Int32) (v4 : Int32) (σ : ps_S) : Prop := ps_K mX8_againstOf d (ps_QF Q) 5 [some (.inr (.inr (50, 0))), some (.inl v1), some (.inl v2), some (.inl v3), some (.inl v4), none] [] σ
theorem bX8_againstOf_0 {d : Nat} {Q : Option ps_V → ps_S → Prop} {v1 : Int32} {v2 : Int32} {σ : ps_S} (h1 : kX8_againstOf_5 d Q v1 v2 0 0 σ) : kX8_againstOf_0 d Q v1 v2 σ := by
  refine ps_iconst (x := 0) (ps_at tX8_againstOf_ok 0 rfl) (by decide) ?_
  refine ps_istore_n (L' := [some (.inr (.inr (50, 0))), some (.inl v1), some (.inl v2), some (.inl 0), none, none]) (ps_at tX8_againstOf_ok 1 rfl) rfl (by decide) rfl ?_
  refine ps_iconst (x := 0) (ps_at tX8_againstOf_ok 2 rfl) (by decide) ?_
  refine ps_istore (L' := [some (.inr (.inr (50, 0))), some (.inl v1), some (.inl v2), some (.inl 0), some (.inl 0), none]) (ps_at tX8_againstOf_ok 3 rfl) (by decide) rfl ?_
  exact h1
theorem bX8_againstOf_5 {d : Nat} {Q : Option ps_V → ps_S → Prop} {v1 : Int32} {v2 : Int32} {v3 : Int32} {v4 : Int32} {σ : ps_S} (h1 : 6 ≤ v4 → Q (some (.inl v3)) σ) (h2 : ¬ 6 ≤ v4 → vp_in ((6 * v2) + v4) 24) (h3 : ¬ 6 ≤ v4 → ¬ (σ 74 0 ((6 * v2) + v4).toNatClampNeg) = (-900009) → vp_in ((((12 * v1) + (2 * v4)) + 1) - (σ 74 0 ((6 * v2) + v4).toNatClampNeg)) 144) (h4 : ¬ 6 ≤ v4 → ¬ (σ 74 0 ((6 * v2) + v4).toNatClampNeg) = (-900009) → kX8_againstOf_5 d Q v1 v2 (v3 + (σ 75 0 ((((12 * v1) + (2 * v4)) + 1) - (σ 74 0 ((6 * v2) + v4).toNatClampNeg)).toNatClampNeg)) (v4 + 1) σ) (h5 : ¬ 6 ≤ v4 → (σ 74 0 ((6 * v2) + v4).toNatClampNeg) = (-900009) → kX8_againstOf_5 d Q v1 v2 (v3 + 0) (v4 + 1) σ) : kX8_againstOf_5 d Q v1 v2 v3 v4 σ := by
  refine ps_iload (ps_at tX8_againstOf_ok 4 rfl) rfl ?_
  refine ps_bipush (x := 6) (ps_at tX8_againstOf_ok 5 rfl) (by decide) ?_
  refine ps_icmp_ge (tgt := 65) (ps_at tX8_againstOf_ok 6 rfl) (by decide) (fun c0 => ?_) (fun c0 => ?_)
  · skip
    refine ps_iload_n (ps_at tX8_againstOf_ok 40 rfl) rfl rfl ?_
    exact ps_iret (ps_at tX8_againstOf_ok 41 rfl) rfl ⟨rfl, rfl⟩ (h1 c0)
  · skip
    refine ps_aload_n (ps_at tX8_againstOf_ok 7 rfl) rfl rfl ?_
    refine ps_getR (ps_at tX8_againstOf_ok 8 rfl) flX8_78 sh_50 rfl ?_
    refine ps_bipush (x := 6) (ps_at tX8_againstOf_ok 9 rfl) (by decide) ?_
    refine ps_iload_n (ps_at tX8_againstOf_ok 10 rfl) rfl rfl ?_
    refine ps_imul (ps_at tX8_againstOf_ok 11 rfl) ?_
    refine ps_iload (ps_at tX8_againstOf_ok 12 rfl) rfl ?_
    refine ps_iadd (ps_at tX8_againstOf_ok 13 rfl) ?_
    refine ps_iald (ps_at tX8_againstOf_ok 14 rfl) sh_74 (h2 c0) ?_
    refine ps_istore (L' := [some (.inr (.inr (50, 0))), some (.inl v1), some (.inl v2), some (.inl v3), some (.inl v4), some (.inl (σ 74 0 ((6 * v2) + v4).toNatClampNeg))]) (ps_at tX8_againstOf_ok 15 rfl) (by decide) rfl ?_
    refine ps_iload_n (ps_at tX8_againstOf_ok 16 rfl) rfl rfl ?_
    refine ps_iload (ps_at tX8_againstOf_ok 17 rfl) rfl ?_
    refine ps_ldc (ps_at tX8_againstOf_ok 18 rfl) cnX8_96 ?_
    refine ps_icmp_ne (tgt := 38) (ps_at tX8_againstOf_ok 19 rfl) (by decide) (fun c1 => ?_) (fun c1 => ?_)
    · skip
      refine ps_aload_n (ps_at tX8_againstOf_ok 22 rfl) rfl rfl ?_
      refine ps_getR (ps_at tX8_againstOf_ok 23 rfl) flX8_81 sh_50 rfl ?_
      refine ps_bipush (x := 12) (ps_at tX8_againstOf_ok 24 rfl) (by decide) ?_
      refine ps_iload_n (ps_at tX8_againstOf_ok 25 rfl) rfl rfl ?_
      refine ps_imul (ps_at tX8_againstOf_ok 26 rfl) ?_
      refine ps_iconst (x := 2) (ps_at tX8_againstOf_ok 27 rfl) (by decide) ?_
      refine ps_iload (ps_at tX8_againstOf_ok 28 rfl) rfl ?_
      refine ps_imul (ps_at tX8_againstOf_ok 29 rfl) ?_
      refine ps_iadd (ps_at tX8_againstOf_ok 30 rfl) ?_
      refine ps_iconst (x := 1) (ps_at tX8_againstOf_ok 31 rfl) (by decide) ?_
      refine ps_iadd (ps_at tX8_againstOf_ok 32 rfl) ?_
      refine ps_iload (ps_at tX8_againstOf_ok 33 rfl) rfl ?_
      refine ps_isub (ps_at tX8_againstOf_ok 34 rfl) ?_
      refine ps_iald (ps_at tX8_againstOf_ok 35 rfl) sh_75 (h3 c0 c1) ?_
      refine ps_iadd (ps_at tX8_againstOf_ok 36 rfl) ?_
      refine ps_istore_n (L' := [some (.inr (.inr (50, 0))), some (.inl v1), some (.inl v2), some (.inl (v3 + (σ 75 0 ((((12 * v1) + (2 * v4)) + 1) - (σ 74 0 ((6 * v2) + v4).toNatClampNeg)).toNatClampNeg))), some (.inl v4), some (.inl (σ 74 0 ((6 * v2) + v4).toNatClampNeg))]) (ps_at tX8_againstOf_ok 37 rfl) rfl (by decide) rfl ?_
      refine ps_iinc (L' := [some (.inr (.inr (50, 0))), some (.inl v1), some (.inl v2), some (.inl (v3 + (σ 75 0 ((((12 * v1) + (2 * v4)) + 1) - (σ 74 0 ((6 * v2) + v4).toNatClampNeg)).toNatClampNeg))), some (.inl (v4 + 1)), some (.inl (σ 74 0 ((6 * v2) + v4).toNatClampNeg))]) (y := 1) (ps_at tX8_againstOf_ok 38 rfl) rfl (by decide) (by decide) rfl ?_
      refine ps_goto (tgt := 5) (ps_at tX8_againstOf_ok 39 rfl) (by decide) ?_
      refine ps_forget (L' := [some (.inr (.inr (50, 0))), some (.inl v1), some (.inl v2), some (.inl (v3 + (σ 75 0 ((((12 * v1) + (2 * v4)) + 1) - (σ 74 0 ((6 * v2) + v4).toNatClampNeg)).toNatClampNeg))), some (.inl (v4 + 1)), none]) (And.intro rfl (And.intro rfl (And.intro rfl (And.intro rfl (And.intro rfl trivial))))) ?_
      exact h4 c0 c1
    · skip
      refine ps_iconst (x := 0) (ps_at tX8_againstOf_ok 20 rfl) (by decide) ?_
      refine ps_goto (tgt := 57) (ps_at tX8_againstOf_ok 21 rfl) (by decide) ?_
      refine ps_iadd (ps_at tX8_againstOf_ok 36 rfl) ?_
      refine ps_istore_n (L' := [some (.inr (.inr (50, 0))), some (.inl v1), some (.inl v2), some (.inl (v3 + 0)), some (.inl v4), some (.inl (σ 74 0 ((6 * v2) + v4).toNatClampNeg))]) (ps_at tX8_againstOf_ok 37 rfl) rfl (by decide) rfl ?_
      refine ps_iinc (L' := [some (.inr (.inr (50, 0))), some (.inl v1), some (.inl v2), some (.inl (v3 + 0)), some (.inl (v4 + 1)), some (.inl (σ 74 0 ((6 * v2) + v4).toNatClampNeg))]) (y := 1) (ps_at tX8_againstOf_ok 38 rfl) rfl (by decide) (by decide) rfl ?_
      refine ps_goto (tgt := 5) (ps_at tX8_againstOf_ok 39 rfl) (by decide) ?_
      refine ps_forget (L' := [some (.inr (.inr (50, 0))), some (.inl v1), some (.inl v2), some (.inl (v3 + 0)), some (.inl (v4 + 1)), none]) (And.intro rfl (And.intro rfl (And.intro rfl (And.intro rfl (And.intro rfl trivial))))) ?_
      exact h5 c0 c1
theorem eX8_againstOf {d : Nat} {Q : Option ps_V → ps_S → Prop} {v1 : Int32} {v2 : Int32} {σ : ps_S} (h : kX8_againstOf_0 d Q v1 v2 σ) : ps_C mX8_againstOf d [.inr (.inr (50, 0)), .inl v1, .inl v2] σ Q := ps_enter (by decide) rfl ⟨rfl, rfl, rfl⟩ rfl (Nat.le_of_ble_eq_true rfl) h
theorem pX8_againstOf {d : Nat} {Q : Option ps_V → ps_S → Prop} {v1 v2 : Int32} {σ : ps_S} (o1 : vp_in v1 12) (o2 : vp_in v2 4) (o3 : mHab σ v2.toNatClampNeg) (hq : Q (some (.inl (mWa σ v1.toNatClampNeg v2.toNatClampNeg))) σ) : ps_C mX8_againstOf d [.inr (.inr (50, 0)), .inl v1, .inl v2] σ Q := by
  obtain ⟨p, hp, rfl⟩ := vp_in_of o1 (by decide)
  obtain ⟨m, hm, rfl⟩ := vp_in_of o2 (by decide)
  rw [nI_clamp (by omega), nI_clamp (by omega)] at hq
  rw [nI_clamp (by omega)] at o3
  obtain ⟨g, hg⟩ : ∃ g : Nat → Int32, g = (fun w => if σ 74 0 (6 * m + w) = -900009 then 0 else if σ 74 0 (6 * m + w) = 0 then σ 75 0 (12 * p + 2 * w + 1) else σ 75 0 (12 * p + 2 * w)) := ⟨_, rfl⟩
  have hq : Q (some (.inl (jSum 6 g))) σ := by rw [hg]; exact hq
  have key : ∀ r j, j + r = 6 → kX8_againstOf_5 d Q (nI p) (nI m) (jSum j g) (nI j) σ := by
    intro r
    induction r with
    | zero =>
      intro j hj
      obtain rfl : j = 6 := by omega
      exact bX8_againstOf_5 (fun _ => hq) (lpX (N := 6) (by decide)) (lpX (N := 6) (by decide)) (lpX (N := 6) (by decide)) (lpX (N := 6) (by decide))
    | succ r ih =>
      intro j hj
      have hj0 : j < 6 := by omega
      have hjc : (nI j).toNatClampNeg = j := nI_clamp (by omega)
      have e5 : ((6 : Int32) * nI m) + nI j = nI (6 * m + j) := by rw [show (6 : Int32) * nI m = nI (6 * m) from ix_mul 6 m, nI_add]
      have e6 : (((12 : Int32) * nI p) + (2 * nI j)) + 1 = nI (12 * p + 2 * j + 1) := by rw [show (12 : Int32) * nI p = nI (12 * p) from ix_mul 12 p, show (2 : Int32) * nI j = nI (2 * j) from ix_mul 2 j, nI_add, nI_1]
      have ec : (nI (6 * m + j)).toNatClampNeg = 6 * m + j := nI_clamp (by omega)
      have h := ih (j + 1) (by omega)
      rw [← nI_1, show jSum (j + 1) g = jSum j g + g j from rfl] at h
      have ix : ¬ σ 74 0 (6 * m + j) = -900009 → ∃ q, q < 144 ∧ nI (12 * p + 2 * j + 1) - σ 74 0 (6 * m + j) = nI q ∧ g j = σ 75 0 q := by
        intro c
        rcases o3 j hj0 with z | z | z
        · exact absurd z c
        · refine ⟨12 * p + 2 * j + 1, by omega, by rw [z, Int32.sub_zero], ?_⟩
          rw [hg]
          simp only [z, if_true]
          simp
        · refine ⟨12 * p + 2 * j, by omega, by rw [z, nI_pred], ?_⟩
          rw [hg]
          simp only [z]
          simp
      refine bX8_againstOf_5 (lpN (N := 6) hj0 (by decide)) (fun _ => by rw [e5]; exact vp_in_nI (by omega) (by decide)) (fun _ c => ?_) (fun _ c => ?_) (fun _ c => ?_)
      · rw [e5, ec] at c ⊢
        obtain ⟨q, hq1, hq2, _⟩ := ix c
        rw [e6, hq2]
        exact vp_in_nI hq1 (by decide)
      · rw [e5, ec] at c ⊢
        obtain ⟨q, hq1, hq2, hq3⟩ := ix c
        rw [e6, hq2, nI_clamp (by omega), ← hq3]
        exact h
      · rw [e5, ec] at c
        have e : g j = 0 := by rw [hg]; simp only [c, if_true]
        rw [e] at h
        exact h
  exact eX8_againstOf (bX8_againstOf_0 (key 6 0 rfl))
abbrev kX8_best_0 (d : Nat) (Q : Option ps_V → ps_S → Prop)  (σ : ps_S) : Prop := ps_K mX8_best d (ps_QF Q) 0 [some (.inr (.inr (50, 0))), none, none] [] σ
abbrev kX8_best_5 (d : Nat) (Q : Option ps_V → ps_S → Prop) (v1 : Int32) (v2 : Int32) (σ : ps_S) : Prop := ps_K mX8_best d (ps_QF Q) 5 [some (.inr (.inr (50, 0))), some (.inl v1), some (.inl v2)] [] σ
theorem bX8_best_0 {d : Nat} {Q : Option ps_V → ps_S → Prop}  {σ : ps_S} (h1 : kX8_best_5 d Q 100000000 0 σ) : kX8_best_0 d Q σ := by
  refine ps_ldc (ps_at tX8_best_ok 0 rfl) cnX8_152 ?_
  refine ps_istore_n (L' := [some (.inr (.inr (50, 0))), some (.inl 100000000), none]) (ps_at tX8_best_ok 1 rfl) rfl (by decide) rfl ?_
  refine ps_iconst (x := 0) (ps_at tX8_best_ok 2 rfl) (by decide) ?_
  refine ps_istore_n (L' := [some (.inr (.inr (50, 0))), some (.inl 100000000), some (.inl 0)]) (ps_at tX8_best_ok 3 rfl) rfl (by decide) rfl ?_
  exact h1
theorem bX8_best_5 {d : Nat} {Q : Option ps_V → ps_S → Prop} {v1 : Int32} {v2 : Int32} {σ : ps_S} (h1 : (σ 50 0 21) ≤ v2 → Q (some (.inl v1)) σ) (h2 : ¬ (σ 50 0 21) ≤ v2 → vp_in v2 52) (h3 : ¬ (σ 50 0 21) ≤ v2 → v1 ≤ (σ 77 0 v2.toNatClampNeg) → kX8_best_5 d Q v1 (v2 + 1) σ) (h4 : ¬ (σ 50 0 21) ≤ v2 → ¬ v1 ≤ (σ 77 0 v2.toNatClampNeg) → kX8_best_5 d Q (σ 77 0 v2.toNatClampNeg) (v2 + 1) σ) : kX8_best_5 d Q v1 v2 σ := by
  refine ps_iload_n (ps_at tX8_best_ok 4 rfl) rfl rfl ?_
  refine ps_aload_n (ps_at tX8_best_ok 5 rfl) rfl rfl ?_
  refine ps_getI (ps_at tX8_best_ok 6 rfl) flX8_72 sh_50 rfl ?_
  refine ps_icmp_ge (tgt := 40) (ps_at tX8_best_ok 7 rfl) (by decide) (fun c0 => ?_) (fun c0 => ?_)
  · skip
    refine ps_iload_n (ps_at tX8_best_ok 23 rfl) rfl rfl ?_
    exact ps_iret (ps_at tX8_best_ok 24 rfl) rfl ⟨rfl, rfl⟩ (h1 c0)
  · skip
    refine ps_aload_n (ps_at tX8_best_ok 8 rfl) rfl rfl ?_
    refine ps_getR (ps_at tX8_best_ok 9 rfl) flX8_87 sh_50 rfl ?_
    refine ps_iload_n (ps_at tX8_best_ok 10 rfl) rfl rfl ?_
    refine ps_iald (ps_at tX8_best_ok 11 rfl) sh_77 (h2 c0) ?_
    refine ps_iload_n (ps_at tX8_best_ok 12 rfl) rfl rfl ?_
    refine ps_icmp_ge (tgt := 32) (ps_at tX8_best_ok 13 rfl) (by decide) (fun c1 => ?_) (fun c1 => ?_)
    · skip
      refine ps_iload_n (ps_at tX8_best_ok 19 rfl) rfl rfl ?_
      refine ps_istore_n (L' := [some (.inr (.inr (50, 0))), some (.inl v1), some (.inl v2)]) (ps_at tX8_best_ok 20 rfl) rfl (by decide) rfl ?_
      refine ps_iinc (L' := [some (.inr (.inr (50, 0))), some (.inl v1), some (.inl (v2 + 1))]) (y := 1) (ps_at tX8_best_ok 21 rfl) rfl (by decide) (by decide) rfl ?_
      refine ps_goto (tgt := 5) (ps_at tX8_best_ok 22 rfl) (by decide) ?_
      exact h3 c0 c1
    · skip
      refine ps_aload_n (ps_at tX8_best_ok 14 rfl) rfl rfl ?_
      refine ps_getR (ps_at tX8_best_ok 15 rfl) flX8_87 sh_50 rfl ?_
      refine ps_iload_n (ps_at tX8_best_ok 16 rfl) rfl rfl ?_
      refine ps_iald (ps_at tX8_best_ok 17 rfl) sh_77 (h2 c0) ?_
      refine ps_goto (tgt := 33) (ps_at tX8_best_ok 18 rfl) (by decide) ?_
      refine ps_istore_n (L' := [some (.inr (.inr (50, 0))), some (.inl (σ 77 0 v2.toNatClampNeg)), some (.inl v2)]) (ps_at tX8_best_ok 20 rfl) rfl (by decide) rfl ?_
      refine ps_iinc (L' := [some (.inr (.inr (50, 0))), some (.inl (σ 77 0 v2.toNatClampNeg)), some (.inl (v2 + 1))]) (y := 1) (ps_at tX8_best_ok 21 rfl) rfl (by decide) (by decide) rfl ?_
      refine ps_goto (tgt := 5) (ps_at tX8_best_ok 22 rfl) (by decide) ?_
      exact h4 c0 c1
theorem eX8_best {d : Nat} {Q : Option ps_V → ps_S → Prop}  {σ : ps_S} (h : kX8_best_0 d Q σ) : ps_C mX8_best d [.inr (.inr (50, 0))] σ Q := ps_enter (by decide) rfl ⟨rfl, rfl, rfl⟩ rfl (Nat.le_of_ble_eq_true rfl) h
theorem pX8_best {d : Nat} {Q : Option ps_V → ps_S → Prop}  {σ : ps_S} (o1 : vp_in (σ 50 0 21) 5) (hq : Q (some (.inl (mBest σ))) σ) : ps_C mX8_best d [.inr (.inr (50, 0))] σ Q := by
  obtain ⟨n, hn, he⟩ := vp_in_of o1 (by decide)
  have hq : Q (some (.inl (mMin n (fun m => σ 77 0 m) 100000000))) σ := by
    unfold mBest at hq
    rw [he, nI_clamp (by omega)] at hq
    exact hq
  have key : ∀ r j, j + r = n → kX8_best_5 d Q (mMin j (fun m => σ 77 0 m) 100000000) (nI j) σ := by
    intro r
    induction r with
    | zero =>
      intro j hj
      obtain rfl : j = n := by omega
      have hx : ¬ σ 50 0 21 ≤ nI j → False := fun c => c (by rw [he]; exact nI_le (Nat.le_refl _) (by omega))
      exact bX8_best_5 (fun _ => hq) (fun c => (hx c).elim) (fun c => (hx c).elim) (fun c => (hx c).elim)
    | succ r ih =>
      intro j hj
      have hj0 : j < n := by omega
      have hjc : (nI j).toNatClampNeg = j := nI_clamp (by omega)
      have h := ih (j + 1) (by omega)
      rw [← nI_1] at h
      refine bX8_best_5 (fun c => absurd c (by rw [he]; exact nI_ge hj0 (by omega))) (fun _ => vp_in_nI (by omega) (by decide)) (fun _ c => ?_) (fun _ c => ?_)
      · rw [hjc] at c
        rw [show mMin (j + 1) (fun m => σ 77 0 m) 100000000 = (if σ 77 0 j < mMin j (fun m => σ 77 0 m) 100000000 then σ 77 0 j else mMin j (fun m => σ 77 0 m) 100000000) from rfl, if_neg (Int32.not_lt.mpr c)] at h
        exact h
      · rw [hjc] at c ⊢
        rw [show mMin (j + 1) (fun m => σ 77 0 m) 100000000 = (if σ 77 0 j < mMin j (fun m => σ 77 0 m) 100000000 then σ 77 0 j else mMin j (fun m => σ 77 0 m) 100000000) from rfl, if_pos (Int32.not_le.mp c)] at h
        exact h
  exact eX8_best (bX8_best_0 (key n 0 (by omega)))
end
