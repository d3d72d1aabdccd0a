section
-- ===== PART A: goes FIRST, ahead of the names: the tables' words, and 'selects' of the private methods out of them =====
/-- a private method of a class that the tables say can be made, by its rows of tables_1 -/
def lw_okq (q : MethodName × Nat) : Prop := (q.1.cls ≠ "java/lang/invoke/MethodHandle" ∧ q.1.cls ≠ "java/lang/invoke/VarHandle") ∧ Cond.instantiable q.1.cls q.2 ∈ tables_1 ∧ Cond.privateMethod q.1 ∈ tables_1 ∧ Cond.instanceMethod q.1 ∈ tables_1
theorem lw_p0 : lw_okq (⟨"PressSheets", "grouped", "(I)LPressSheets$Forme;"⟩, 7) := ⟨⟨by decide +kernel, by decide +kernel⟩, List.mem_of_getElem? (i := 15) (by decide +kernel), List.mem_of_getElem? (i := 301) (by decide +kernel), List.mem_of_getElem? (i := 302) (by decide +kernel)⟩
theorem lw_p1 : lw_okq (⟨"PressSheets$Forme", "copiesLookedAt", "()I"⟩, 12) := ⟨⟨by decide +kernel, by decide +kernel⟩, List.mem_of_getElem? (i := 24) (by decide +kernel), List.mem_of_getElem? (i := 309) (by decide +kernel), List.mem_of_getElem? (i := 310) (by decide +kernel)⟩
theorem lw_p2 : lw_okq (⟨"PressSheets$Forme", "unlikeCopies", "(I)I"⟩, 12) := ⟨⟨by decide +kernel, by decide +kernel⟩, List.mem_of_getElem? (i := 24) (by decide +kernel), List.mem_of_getElem? (i := 313) (by decide +kernel), List.mem_of_getElem? (i := 314) (by decide +kernel)⟩
theorem lw_p3 : lw_okq (⟨"PressSheets", "isState", "(II)Z"⟩, 7) := ⟨⟨by decide +kernel, by decide +kernel⟩, List.mem_of_getElem? (i := 15) (by decide +kernel), List.mem_of_getElem? (i := 332) (by decide +kernel), List.mem_of_getElem? (i := 333) (by decide +kernel)⟩
theorem lw_p4 : lw_okq (⟨"PressSheets$SlipCounter", "countAlone", "(LPressSheets$Forme;I)V"⟩, 4) := ⟨⟨by decide +kernel, by decide +kernel⟩, List.mem_of_getElem? (i := 82) (by decide +kernel), List.mem_of_getElem? (i := 348) (by decide +kernel), List.mem_of_getElem? (i := 349) (by decide +kernel)⟩
theorem lw_p5 : lw_okq (⟨"PressSheets$SlipCounter", "takeReaders", "(LPressSheets$Forme;I)V"⟩, 4) := ⟨⟨by decide +kernel, by decide +kernel⟩, List.mem_of_getElem? (i := 82) (by decide +kernel), List.mem_of_getElem? (i := 353) (by decide +kernel), List.mem_of_getElem? (i := 354) (by decide +kernel)⟩
theorem lw_p6 : lw_okq (⟨"PressSheets$SlipCounter", "slipsAtPlace", "(I)I"⟩, 4) := ⟨⟨by decide +kernel, by decide +kernel⟩, List.mem_of_getElem? (i := 82) (by decide +kernel), List.mem_of_getElem? (i := 361) (by decide +kernel), List.mem_of_getElem? (i := 362) (by decide +kernel)⟩
theorem lw_p7 : lw_okq (⟨"PressSheets$SlipCounter", "allowOneMore", "(I)V"⟩, 4) := ⟨⟨by decide +kernel, by decide +kernel⟩, List.mem_of_getElem? (i := 82) (by decide +kernel), List.mem_of_getElem? (i := 375) (by decide +kernel), List.mem_of_getElem? (i := 376) (by decide +kernel)⟩
theorem lw_p8 : lw_okq (⟨"PressSheets$SlipCounter", "slipsWithOneMore", "(I)I"⟩, 4) := ⟨⟨by decide +kernel, by decide +kernel⟩, List.mem_of_getElem? (i := 82) (by decide +kernel), List.mem_of_getElem? (i := 379) (by decide +kernel), List.mem_of_getElem? (i := 380) (by decide +kernel)⟩
theorem lw_p9 : lw_okq (⟨"PressSheets$OrderFinder", "makeOrders", "(LPressSheets$Forme;)V"⟩, 4) := ⟨⟨by decide +kernel, by decide +kernel⟩, List.mem_of_getElem? (i := 101) (by decide +kernel), List.mem_of_getElem? (i := 412) (by decide +kernel), List.mem_of_getElem? (i := 413) (by decide +kernel)⟩
theorem lw_p10 : lw_okq (⟨"PressSheets$OrderFinder", "takeStates", "(LPressSheets$Forme;)V"⟩, 4) := ⟨⟨by decide +kernel, by decide +kernel⟩, List.mem_of_getElem? (i := 101) (by decide +kernel), List.mem_of_getElem? (i := 416) (by decide +kernel), List.mem_of_getElem? (i := 417) (by decide +kernel)⟩
theorem lw_p11 : lw_okq (⟨"PressSheets$Forme", "tellsAheadOf", "(II)Z"⟩, 12) := ⟨⟨by decide +kernel, by decide +kernel⟩, List.mem_of_getElem? (i := 24) (by decide +kernel), List.mem_of_getElem? (i := 424) (by decide +kernel), List.mem_of_getElem? (i := 425) (by decide +kernel)⟩
theorem lw_p12 : lw_okq (⟨"PressSheets$OrderFinder", "findRests", "()I"⟩, 4) := ⟨⟨by decide +kernel, by decide +kernel⟩, List.mem_of_getElem? (i := 101) (by decide +kernel), List.mem_of_getElem? (i := 429) (by decide +kernel), List.mem_of_getElem? (i := 430) (by decide +kernel)⟩
theorem lw_p13 : lw_okq (⟨"PressSheets$OrderFinder", "restBehind", "(II)I"⟩, 4) := ⟨⟨by decide +kernel, by decide +kernel⟩, List.mem_of_getElem? (i := 101) (by decide +kernel), List.mem_of_getElem? (i := 433) (by decide +kernel), List.mem_of_getElem? (i := 434) (by decide +kernel)⟩
theorem lw_p14 : lw_okq (⟨"PressSheets$OrderFinder", "mayCome", "(II)Z"⟩, 4) := ⟨⟨by decide +kernel, by decide +kernel⟩, List.mem_of_getElem? (i := 101) (by decide +kernel), List.mem_of_getElem? (i := 437) (by decide +kernel), List.mem_of_getElem? (i := 438) (by decide +kernel)⟩
theorem lw_p15 : lw_okq (⟨"PressSheets$OrderFinder", "restThrough", "(III)I"⟩, 4) := ⟨⟨by decide +kernel, by decide +kernel⟩, List.mem_of_getElem? (i := 101) (by decide +kernel), List.mem_of_getElem? (i := 441) (by decide +kernel), List.mem_of_getElem? (i := 442) (by decide +kernel)⟩
def lw_privs_1 : List (MethodName × Nat) := [(⟨"PressSheets", "grouped", "(I)LPressSheets$Forme;"⟩, 7), (⟨"PressSheets$Forme", "copiesLookedAt", "()I"⟩, 12), (⟨"PressSheets$Forme", "unlikeCopies", "(I)I"⟩, 12), (⟨"PressSheets", "isState", "(II)Z"⟩, 7), (⟨"PressSheets$SlipCounter", "countAlone", "(LPressSheets$Forme;I)V"⟩, 4), (⟨"PressSheets$SlipCounter", "takeReaders", "(LPressSheets$Forme;I)V"⟩, 4), (⟨"PressSheets$SlipCounter", "slipsAtPlace", "(I)I"⟩, 4), (⟨"PressSheets$SlipCounter", "allowOneMore", "(I)V"⟩, 4), (⟨"PressSheets$SlipCounter", "slipsWithOneMore", "(I)I"⟩, 4), (⟨"PressSheets$OrderFinder", "makeOrders", "(LPressSheets$Forme;)V"⟩, 4), (⟨"PressSheets$OrderFinder", "takeStates", "(LPressSheets$Forme;)V"⟩, 4), (⟨"PressSheets$Forme", "tellsAheadOf", "(II)Z"⟩, 12), (⟨"PressSheets$OrderFinder", "findRests", "()I"⟩, 4), (⟨"PressSheets$OrderFinder", "restBehind", "(II)I"⟩, 4), (⟨"PressSheets$OrderFinder", "mayCome", "(II)Z"⟩, 4), (⟨"PressSheets$OrderFinder", "restThrough", "(III)I"⟩, 4)]
theorem lw_r1 : ∀ q ∈ lw_privs_1, lw_okq q := List.forall_mem_cons.mpr ⟨lw_p0, List.forall_mem_cons.mpr ⟨lw_p1, List.forall_mem_cons.mpr ⟨lw_p2, List.forall_mem_cons.mpr ⟨lw_p3, List.forall_mem_cons.mpr ⟨lw_p4, List.forall_mem_cons.mpr ⟨lw_p5, List.forall_mem_cons.mpr ⟨lw_p6, List.forall_mem_cons.mpr ⟨lw_p7, List.forall_mem_cons.mpr ⟨lw_p8, List.forall_mem_cons.mpr ⟨lw_p9, List.forall_mem_cons.mpr ⟨lw_p10, List.forall_mem_cons.mpr ⟨lw_p11, List.forall_mem_cons.mpr ⟨lw_p12, List.forall_mem_cons.mpr ⟨lw_p13, List.forall_mem_cons.mpr ⟨lw_p14, List.forall_mem_cons.mpr ⟨lw_p15, fun _ h => absurd h List.not_mem_nil⟩⟩⟩⟩⟩⟩⟩⟩⟩⟩⟩⟩⟩⟩⟩⟩
theorem lw_p16 : lw_okq (⟨"PressSheets$OrderFinder", "walkFirst", "([II)V"⟩, 4) := ⟨⟨by decide +kernel, by decide +kernel⟩, List.mem_of_getElem? (i := 101) (by decide +kernel), List.mem_of_getElem? (i := 453) (by decide +kernel), List.mem_of_getElem? (i := 454) (by decide +kernel)⟩
theorem lw_p17 : lw_okq (⟨"PressSheets$OrderFinder", "leastNext", "(III)I"⟩, 4) := ⟨⟨by decide +kernel, by decide +kernel⟩, List.mem_of_getElem? (i := 101) (by decide +kernel), List.mem_of_getElem? (i := 457) (by decide +kernel), List.mem_of_getElem? (i := 458) (by decide +kernel)⟩
theorem lw_p18 : lw_okq (⟨"PressSheets$Type", "link", "()V"⟩, 4) := ⟨⟨by decide +kernel, by decide +kernel⟩, List.mem_of_getElem? (i := 120) (by decide +kernel), List.mem_of_getElem? (i := 497) (by decide +kernel), List.mem_of_getElem? (i := 498) (by decide +kernel)⟩
theorem lw_p19 : lw_okq (⟨"PressSheets$Type", "linkPiece", "([I)V"⟩, 4) := ⟨⟨by decide +kernel, by decide +kernel⟩, List.mem_of_getElem? (i := 120) (by decide +kernel), List.mem_of_getElem? (i := 501) (by decide +kernel), List.mem_of_getElem? (i := 502) (by decide +kernel)⟩
theorem lw_p20 : lw_okq (⟨"PressSheets$Type", "reachOn", "()V"⟩, 4) := ⟨⟨by decide +kernel, by decide +kernel⟩, List.mem_of_getElem? (i := 120) (by decide +kernel), List.mem_of_getElem? (i := 508) (by decide +kernel), List.mem_of_getElem? (i := 509) (by decide +kernel)⟩
theorem lw_p21 : lw_okq (⟨"PressSheets$Planner", "weighSets", "(LPressSheets$Type;I)V"⟩, 7) := ⟨⟨by decide +kernel, by decide +kernel⟩, List.mem_of_getElem? (i := 148) (by decide +kernel), List.mem_of_getElem? (i := 548) (by decide +kernel), List.mem_of_getElem? (i := 549) (by decide +kernel)⟩
theorem lw_p22 : lw_okq (⟨"PressSheets$Planner", "canLie", "(LPressSheets$Type;I)Z"⟩, 7) := ⟨⟨by decide +kernel, by decide +kernel⟩, List.mem_of_getElem? (i := 148) (by decide +kernel), List.mem_of_getElem? (i := 552) (by decide +kernel), List.mem_of_getElem? (i := 553) (by decide +kernel)⟩
theorem lw_p23 : lw_okq (⟨"PressSheets$Planner", "addDay", "(I)V"⟩, 7) := ⟨⟨by decide +kernel, by decide +kernel⟩, List.mem_of_getElem? (i := 148) (by decide +kernel), List.mem_of_getElem? (i := 561) (by decide +kernel), List.mem_of_getElem? (i := 562) (by decide +kernel)⟩
theorem lw_p24 : lw_okq (⟨"PressSheets$Planner", "makeFirst", "(LPressSheets$Type;I)V"⟩, 7) := ⟨⟨by decide +kernel, by decide +kernel⟩, List.mem_of_getElem? (i := 148) (by decide +kernel), List.mem_of_getElem? (i := 573) (by decide +kernel), List.mem_of_getElem? (i := 574) (by decide +kernel)⟩
theorem lw_p25 : lw_okq (⟨"PressSheets$Planner", "hasRoom", "(LPressSheets$Type;II)Z"⟩, 7) := ⟨⟨by decide +kernel, by decide +kernel⟩, List.mem_of_getElem? (i := 148) (by decide +kernel), List.mem_of_getElem? (i := 586) (by decide +kernel), List.mem_of_getElem? (i := 587) (by decide +kernel)⟩
theorem lw_p26 : lw_okq (⟨"PressSheets$Planner", "keepsTurn", "(LPressSheets$Type;II)Z"⟩, 7) := ⟨⟨by decide +kernel, by decide +kernel⟩, List.mem_of_getElem? (i := 148) (by decide +kernel), List.mem_of_getElem? (i := 590) (by decide +kernel), List.mem_of_getElem? (i := 591) (by decide +kernel)⟩
theorem lw_p27 : lw_okq (⟨"PressSheets$Heaps", "mayBe", "(IIZ)Z"⟩, 4) := ⟨⟨by decide +kernel, by decide +kernel⟩, List.mem_of_getElem? (i := 176) (by decide +kernel), List.mem_of_getElem? (i := 643) (by decide +kernel), List.mem_of_getElem? (i := 644) (by decide +kernel)⟩
theorem lw_p28 : lw_okq (⟨"PressSheets$Heaps", "heapEnd", "(II)I"⟩, 4) := ⟨⟨by decide +kernel, by decide +kernel⟩, List.mem_of_getElem? (i := 176) (by decide +kernel), List.mem_of_getElem? (i := 647) (by decide +kernel), List.mem_of_getElem? (i := 648) (by decide +kernel)⟩
theorem lw_p29 : lw_okq (⟨"PressSheets", "isMan", "(I)Z"⟩, 7) := ⟨⟨by decide +kernel, by decide +kernel⟩, List.mem_of_getElem? (i := 15) (by decide +kernel), List.mem_of_getElem? (i := 680) (by decide +kernel), List.mem_of_getElem? (i := 681) (by decide +kernel)⟩
theorem lw_p30 : lw_okq (⟨"PressSheets", "isPage", "(I)Z"⟩, 7) := ⟨⟨by decide +kernel, by decide +kernel⟩, List.mem_of_getElem? (i := 15) (by decide +kernel), List.mem_of_getElem? (i := 692) (by decide +kernel), List.mem_of_getElem? (i := 693) (by decide +kernel)⟩
theorem lw_p31 : lw_okq (⟨"PressSheets$House", "solve", "()V"⟩, 11) := ⟨⟨by decide +kernel, by decide +kernel⟩, List.mem_of_getElem? (i := 199) (by decide +kernel), List.mem_of_getElem? (i := 724) (by decide +kernel), List.mem_of_getElem? (i := 725) (by decide +kernel)⟩
def lw_privs_2 : List (MethodName × Nat) := [(⟨"PressSheets$OrderFinder", "walkFirst", "([II)V"⟩, 4), (⟨"PressSheets$OrderFinder", "leastNext", "(III)I"⟩, 4), (⟨"PressSheets$Type", "link", "()V"⟩, 4), (⟨"PressSheets$Type", "linkPiece", "([I)V"⟩, 4), (⟨"PressSheets$Type", "reachOn", "()V"⟩, 4), (⟨"PressSheets$Planner", "weighSets", "(LPressSheets$Type;I)V"⟩, 7), (⟨"PressSheets$Planner", "canLie", "(LPressSheets$Type;I)Z"⟩, 7), (⟨"PressSheets$Planner", "addDay", "(I)V"⟩, 7), (⟨"PressSheets$Planner", "makeFirst", "(LPressSheets$Type;I)V"⟩, 7), (⟨"PressSheets$Planner", "hasRoom", "(LPressSheets$Type;II)Z"⟩, 7), (⟨"PressSheets$Planner", "keepsTurn", "(LPressSheets$Type;II)Z"⟩, 7), (⟨"PressSheets$Heaps", "mayBe", "(IIZ)Z"⟩, 4), (⟨"PressSheets$Heaps", "heapEnd", "(II)I"⟩, 4), (⟨"PressSheets", "isMan", "(I)Z"⟩, 7), (⟨"PressSheets", "isPage", "(I)Z"⟩, 7), (⟨"PressSheets$House", "solve", "()V"⟩, 11)]
theorem lw_r2 : ∀ q ∈ lw_privs_2, lw_okq q := List.forall_mem_cons.mpr ⟨lw_p16, List.forall_mem_cons.mpr ⟨lw_p17, List.forall_mem_cons.mpr ⟨lw_p18, List.forall_mem_cons.mpr ⟨lw_p19, List.forall_mem_cons.mpr ⟨lw_p20, List.forall_mem_cons.mpr ⟨lw_p21, List.forall_mem_cons.mpr ⟨lw_p22, List.forall_mem_cons.mpr ⟨lw_p23, List.forall_mem_cons.mpr ⟨lw_p24, List.forall_mem_cons.mpr ⟨lw_p25, List.forall_mem_cons.mpr ⟨lw_p26, List.forall_mem_cons.mpr ⟨lw_p27, List.forall_mem_cons.mpr ⟨lw_p28, List.forall_mem_cons.mpr ⟨lw_p29, List.forall_mem_cons.mpr ⟨lw_p30, List.forall_mem_cons.mpr ⟨lw_p31, fun _ h => absurd h List.not_mem_nil⟩⟩⟩⟩⟩⟩⟩⟩⟩⟩⟩⟩⟩⟩⟩⟩
theorem lw_p32 : lw_okq (⟨"PressSheets$House", "costAhead", "(II)I"⟩, 11) := ⟨⟨by decide +kernel, by decide +kernel⟩, List.mem_of_getElem? (i := 199) (by decide +kernel), List.mem_of_getElem? (i := 729) (by decide +kernel), List.mem_of_getElem? (i := 730) (by decide +kernel)⟩
theorem lw_p33 : lw_okq (⟨"PressSheets$House", "changeOf", "(II)I"⟩, 11) := ⟨⟨by decide +kernel, by decide +kernel⟩, List.mem_of_getElem? (i := 199) (by decide +kernel), List.mem_of_getElem? (i := 733) (by decide +kernel), List.mem_of_getElem? (i := 734) (by decide +kernel)⟩
theorem lw_p34 : lw_okq (⟨"PressSheets$House", "lookBehind", "(II)V"⟩, 11) := ⟨⟨by decide +kernel, by decide +kernel⟩, List.mem_of_getElem? (i := 199) (by decide +kernel), List.mem_of_getElem? (i := 738) (by decide +kernel), List.mem_of_getElem? (i := 739) (by decide +kernel)⟩
theorem lw_p35 : lw_okq (⟨"PressSheets$House", "costThrough", "(III)I"⟩, 11) := ⟨⟨by decide +kernel, by decide +kernel⟩, List.mem_of_getElem? (i := 199) (by decide +kernel), List.mem_of_getElem? (i := 742) (by decide +kernel), List.mem_of_getElem? (i := 743) (by decide +kernel)⟩
theorem lw_p36 : lw_okq (⟨"PressSheets$House", "leastUpTo", "(I)I"⟩, 11) := ⟨⟨by decide +kernel, by decide +kernel⟩, List.mem_of_getElem? (i := 199) (by decide +kernel), List.mem_of_getElem? (i := 746) (by decide +kernel), List.mem_of_getElem? (i := 747) (by decide +kernel)⟩
theorem lw_p37 : lw_okq (⟨"PressSheets$House", "leastBestMan", "()I"⟩, 11) := ⟨⟨by decide +kernel, by decide +kernel⟩, List.mem_of_getElem? (i := 199) (by decide +kernel), List.mem_of_getElem? (i := 758) (by decide +kernel), List.mem_of_getElem? (i := 759) (by decide +kernel)⟩
theorem lw_p38 : lw_okq (⟨"PressSheets$House", "isBest", "(II)Z"⟩, 11) := ⟨⟨by decide +kernel, by decide +kernel⟩, List.mem_of_getElem? (i := 199) (by decide +kernel), List.mem_of_getElem? (i := 762) (by decide +kernel), List.mem_of_getElem? (i := 763) (by decide +kernel)⟩
theorem lw_p39 : lw_okq (⟨"PressSheets$House", "nextMan", "(II)I"⟩, 11) := ⟨⟨by decide +kernel, by decide +kernel⟩, List.mem_of_getElem? (i := 199) (by decide +kernel), List.mem_of_getElem? (i := 766) (by decide +kernel), List.mem_of_getElem? (i := 767) (by decide +kernel)⟩
theorem lw_p40 : lw_okq (⟨"PressSheets", "countReadings", "()I"⟩, 7) := ⟨⟨by decide +kernel, by decide +kernel⟩, List.mem_of_getElem? (i := 15) (by decide +kernel), List.mem_of_getElem? (i := 790) (by decide +kernel), List.mem_of_getElem? (i := 791) (by decide +kernel)⟩
theorem lw_p41 : lw_okq (⟨"PressSheets", "countAhead", "()I"⟩, 7) := ⟨⟨by decide +kernel, by decide +kernel⟩, List.mem_of_getElem? (i := 15) (by decide +kernel), List.mem_of_getElem? (i := 798) (by decide +kernel), List.mem_of_getElem? (i := 799) (by decide +kernel)⟩
theorem lw_p42 : lw_okq (⟨"PressSheetsModel", "letterAt", "(III)I"⟩, 29) := ⟨⟨by decide +kernel, by decide +kernel⟩, List.mem_of_getElem? (i := 816) (by decide +kernel), List.mem_of_getElem? (i := 930) (by decide +kernel), List.mem_of_getElem? (i := 931) (by decide +kernel)⟩
theorem lw_p43 : lw_okq (⟨"PressSheetsModel", "agrees", "(III)Z"⟩, 29) := ⟨⟨by decide +kernel, by decide +kernel⟩, List.mem_of_getElem? (i := 816) (by decide +kernel), List.mem_of_getElem? (i := 938) (by decide +kernel), List.mem_of_getElem? (i := 939) (by decide +kernel)⟩
theorem lw_p44 : lw_okq (⟨"PressSheetsModel", "layStates", "(I)V"⟩, 29) := ⟨⟨by decide +kernel, by decide +kernel⟩, List.mem_of_getElem? (i := 816) (by decide +kernel), List.mem_of_getElem? (i := 946) (by decide +kernel), List.mem_of_getElem? (i := 947) (by decide +kernel)⟩
theorem lw_p45 : lw_okq (⟨"PressSheetsModel", "isLooked", "(II)Z"⟩, 29) := ⟨⟨by decide +kernel, by decide +kernel⟩, List.mem_of_getElem? (i := 816) (by decide +kernel), List.mem_of_getElem? (i := 950) (by decide +kernel), List.mem_of_getElem? (i := 951) (by decide +kernel)⟩
theorem lw_p46 : lw_okq (⟨"PressSheetsModel", "layGroups", "(III)Z"⟩, 29) := ⟨⟨by decide +kernel, by decide +kernel⟩, List.mem_of_getElem? (i := 816) (by decide +kernel), List.mem_of_getElem? (i := 954) (by decide +kernel), List.mem_of_getElem? (i := 955) (by decide +kernel)⟩
theorem lw_p47 : lw_okq (⟨"PressSheetsModel", "joins", "(III)Z"⟩, 29) := ⟨⟨by decide +kernel, by decide +kernel⟩, List.mem_of_getElem? (i := 816) (by decide +kernel), List.mem_of_getElem? (i := 958) (by decide +kernel), List.mem_of_getElem? (i := 959) (by decide +kernel)⟩
def lw_privs_3 : List (MethodName × Nat) := [(⟨"PressSheets$House", "costAhead", "(II)I"⟩, 11), (⟨"PressSheets$House", "changeOf", "(II)I"⟩, 11), (⟨"PressSheets$House", "lookBehind", "(II)V"⟩, 11), (⟨"PressSheets$House", "costThrough", "(III)I"⟩, 11), (⟨"PressSheets$House", "leastUpTo", "(I)I"⟩, 11), (⟨"PressSheets$House", "leastBestMan", "()I"⟩, 11), (⟨"PressSheets$House", "isBest", "(II)Z"⟩, 11), (⟨"PressSheets$House", "nextMan", "(II)I"⟩, 11), (⟨"PressSheets", "countReadings", "()I"⟩, 7), (⟨"PressSheets", "countAhead", "()I"⟩, 7), (⟨"PressSheetsModel", "letterAt", "(III)I"⟩, 29), (⟨"PressSheetsModel", "agrees", "(III)Z"⟩, 29), (⟨"PressSheetsModel", "layStates", "(I)V"⟩, 29), (⟨"PressSheetsModel", "isLooked", "(II)Z"⟩, 29), (⟨"PressSheetsModel", "layGroups", "(III)Z"⟩, 29), (⟨"PressSheetsModel", "joins", "(III)Z"⟩, 29)]
theorem lw_r3 : ∀ q ∈ lw_privs_3, lw_okq q := List.forall_mem_cons.mpr ⟨lw_p32, List.forall_mem_cons.mpr ⟨lw_p33, List.forall_mem_cons.mpr ⟨lw_p34, List.forall_mem_cons.mpr ⟨lw_p35, List.forall_mem_cons.mpr ⟨lw_p36, List.forall_mem_cons.mpr ⟨lw_p37, List.forall_mem_cons.mpr ⟨lw_p38, List.forall_mem_cons.mpr ⟨lw_p39, List.forall_mem_cons.mpr ⟨lw_p40, List.forall_mem_cons.mpr ⟨lw_p41, List.forall_mem_cons.mpr ⟨lw_p42, List.forall_mem_cons.mpr ⟨lw_p43, List.forall_mem_cons.mpr ⟨lw_p44, List.forall_mem_cons.mpr ⟨lw_p45, List.forall_mem_cons.mpr ⟨lw_p46, List.forall_mem_cons.mpr ⟨lw_p47, fun _ h => absurd h List.not_mem_nil⟩⟩⟩⟩⟩⟩⟩⟩⟩⟩⟩⟩⟩⟩⟩⟩
theorem lw_p48 : lw_okq (⟨"PressSheetsModel", "letterOf", "(III)I"⟩, 29) := ⟨⟨by decide +kernel, by decide +kernel⟩, List.mem_of_getElem? (i := 816) (by decide +kernel), List.mem_of_getElem? (i := 970) (by decide +kernel), List.mem_of_getElem? (i := 971) (by decide +kernel)⟩
theorem lw_p49 : lw_okq (⟨"PressSheetsModel", "slipsOf", "(II)I"⟩, 29) := ⟨⟨by decide +kernel, by decide +kernel⟩, List.mem_of_getElem? (i := 816) (by decide +kernel), List.mem_of_getElem? (i := 978) (by decide +kernel), List.mem_of_getElem? (i := 979) (by decide +kernel)⟩
theorem lw_p50 : lw_okq (⟨"PressSheetsModel", "changesOf", "(III)I"⟩, 29) := ⟨⟨by decide +kernel, by decide +kernel⟩, List.mem_of_getElem? (i := 816) (by decide +kernel), List.mem_of_getElem? (i := 991) (by decide +kernel), List.mem_of_getElem? (i := 992) (by decide +kernel)⟩
theorem lw_p51 : lw_okq (⟨"PressSheetsModel", "layNeeds", "(I)V"⟩, 29) := ⟨⟨by decide +kernel, by decide +kernel⟩, List.mem_of_getElem? (i := 816) (by decide +kernel), List.mem_of_getElem? (i := 999) (by decide +kernel), List.mem_of_getElem? (i := 1000) (by decide +kernel)⟩
theorem lw_p52 : lw_okq (⟨"PressSheetsModel", "layOrders", "()V"⟩, 29) := ⟨⟨by decide +kernel, by decide +kernel⟩, List.mem_of_getElem? (i := 816) (by decide +kernel), List.mem_of_getElem? (i := 1003) (by decide +kernel), List.mem_of_getElem? (i := 1004) (by decide +kernel)⟩
theorem lw_p53 : lw_okq (⟨"PressSheetsModel", "leastCost", "()I"⟩, 29) := ⟨⟨by decide +kernel, by decide +kernel⟩, List.mem_of_getElem? (i := 816) (by decide +kernel), List.mem_of_getElem? (i := 1008) (by decide +kernel), List.mem_of_getElem? (i := 1009) (by decide +kernel)⟩
theorem lw_p54 : lw_okq (⟨"PressSheetsModel", "waysOf", "(I)I"⟩, 29) := ⟨⟨by decide +kernel, by decide +kernel⟩, List.mem_of_getElem? (i := 816) (by decide +kernel), List.mem_of_getElem? (i := 1016) (by decide +kernel), List.mem_of_getElem? (i := 1017) (by decide +kernel)⟩
theorem lw_p55 : lw_okq (⟨"PressSheetsModel", "isNext", "(III)Z"⟩, 29) := ⟨⟨by decide +kernel, by decide +kernel⟩, List.mem_of_getElem? (i := 816) (by decide +kernel), List.mem_of_getElem? (i := 1024) (by decide +kernel), List.mem_of_getElem? (i := 1025) (by decide +kernel)⟩
theorem lw_p56 : lw_okq (⟨"PressSheetsModel", "shares", "(II)Z"⟩, 29) := ⟨⟨by decide +kernel, by decide +kernel⟩, List.mem_of_getElem? (i := 816) (by decide +kernel), List.mem_of_getElem? (i := 1041) (by decide +kernel), List.mem_of_getElem? (i := 1042) (by decide +kernel)⟩
theorem lw_p57 : lw_okq (⟨"PressSheetsModel", "layMusts", "()V"⟩, 29) := ⟨⟨by decide +kernel, by decide +kernel⟩, List.mem_of_getElem? (i := 816) (by decide +kernel), List.mem_of_getElem? (i := 1049) (by decide +kernel), List.mem_of_getElem? (i := 1050) (by decide +kernel)⟩
theorem lw_p58 : lw_okq (⟨"PressSheetsModel", "layPlans", "(III)I"⟩, 29) := ⟨⟨by decide +kernel, by decide +kernel⟩, List.mem_of_getElem? (i := 816) (by decide +kernel), List.mem_of_getElem? (i := 1066) (by decide +kernel), List.mem_of_getElem? (i := 1067) (by decide +kernel)⟩
theorem lw_p59 : lw_okq (⟨"PressSheetsModel", "isPlan", "()Z"⟩, 29) := ⟨⟨by decide +kernel, by decide +kernel⟩, List.mem_of_getElem? (i := 816) (by decide +kernel), List.mem_of_getElem? (i := 1070) (by decide +kernel), List.mem_of_getElem? (i := 1071) (by decide +kernel)⟩
theorem lw_p60 : lw_okq (⟨"PressSheetsModel", "heaps", "(I)I"⟩, 29) := ⟨⟨by decide +kernel, by decide +kernel⟩, List.mem_of_getElem? (i := 816) (by decide +kernel), List.mem_of_getElem? (i := 1104) (by decide +kernel), List.mem_of_getElem? (i := 1105) (by decide +kernel)⟩
theorem lw_p61 : lw_okq (⟨"PressSheetsModel", "mayBe", "(IIZ)Z"⟩, 29) := ⟨⟨by decide +kernel, by decide +kernel⟩, List.mem_of_getElem? (i := 816) (by decide +kernel), List.mem_of_getElem? (i := 1108) (by decide +kernel), List.mem_of_getElem? (i := 1109) (by decide +kernel)⟩
theorem lw_p62 : lw_okq (⟨"PressSheetsModel", "heapEnd", "(II)I"⟩, 29) := ⟨⟨by decide +kernel, by decide +kernel⟩, List.mem_of_getElem? (i := 816) (by decide +kernel), List.mem_of_getElem? (i := 1112) (by decide +kernel), List.mem_of_getElem? (i := 1113) (by decide +kernel)⟩
theorem lw_p63 : lw_okq (⟨"PressSheetsModel", "kindIn", "(IIZ)I"⟩, 29) := ⟨⟨by decide +kernel, by decide +kernel⟩, List.mem_of_getElem? (i := 816) (by decide +kernel), List.mem_of_getElem? (i := 1116) (by decide +kernel), List.mem_of_getElem? (i := 1117) (by decide +kernel)⟩
def lw_privs_4 : List (MethodName × Nat) := [(⟨"PressSheetsModel", "letterOf", "(III)I"⟩, 29), (⟨"PressSheetsModel", "slipsOf", "(II)I"⟩, 29), (⟨"PressSheetsModel", "changesOf", "(III)I"⟩, 29), (⟨"PressSheetsModel", "layNeeds", "(I)V"⟩, 29), (⟨"PressSheetsModel", "layOrders", "()V"⟩, 29), (⟨"PressSheetsModel", "leastCost", "()I"⟩, 29), (⟨"PressSheetsModel", "waysOf", "(I)I"⟩, 29), (⟨"PressSheetsModel", "isNext", "(III)Z"⟩, 29), (⟨"PressSheetsModel", "shares", "(II)Z"⟩, 29), (⟨"PressSheetsModel", "layMusts", "()V"⟩, 29), (⟨"PressSheetsModel", "layPlans", "(III)I"⟩, 29), (⟨"PressSheetsModel", "isPlan", "()Z"⟩, 29), (⟨"PressSheetsModel", "heaps", "(I)I"⟩, 29), (⟨"PressSheetsModel", "mayBe", "(IIZ)Z"⟩, 29), (⟨"PressSheetsModel", "heapEnd", "(II)I"⟩, 29), (⟨"PressSheetsModel", "kindIn", "(IIZ)I"⟩, 29)]
theorem lw_r4 : ∀ q ∈ lw_privs_4, lw_okq q := List.forall_mem_cons.mpr ⟨lw_p48, List.forall_mem_cons.mpr ⟨lw_p49, List.forall_mem_cons.mpr ⟨lw_p50, List.forall_mem_cons.mpr ⟨lw_p51, List.forall_mem_cons.mpr ⟨lw_p52, List.forall_mem_cons.mpr ⟨lw_p53, List.forall_mem_cons.mpr ⟨lw_p54, List.forall_mem_cons.mpr ⟨lw_p55, List.forall_mem_cons.mpr ⟨lw_p56, List.forall_mem_cons.mpr ⟨lw_p57, List.forall_mem_cons.mpr ⟨lw_p58, List.forall_mem_cons.mpr ⟨lw_p59, List.forall_mem_cons.mpr ⟨lw_p60, List.forall_mem_cons.mpr ⟨lw_p61, List.forall_mem_cons.mpr ⟨lw_p62, List.forall_mem_cons.mpr ⟨lw_p63, fun _ h => absurd h List.not_mem_nil⟩⟩⟩⟩⟩⟩⟩⟩⟩⟩⟩⟩⟩⟩⟩⟩
theorem lw_p64 : lw_okq (⟨"PressSheetsModel", "isMan", "(I)Z"⟩, 29) := ⟨⟨by decide +kernel, by decide +kernel⟩, List.mem_of_getElem? (i := 816) (by decide +kernel), List.mem_of_getElem? (i := 1137) (by decide +kernel), List.mem_of_getElem? (i := 1138) (by decide +kernel)⟩
theorem lw_p65 : lw_okq (⟨"PressSheetsModel", "isPage", "(I)Z"⟩, 29) := ⟨⟨by decide +kernel, by decide +kernel⟩, List.mem_of_getElem? (i := 816) (by decide +kernel), List.mem_of_getElem? (i := 1145) (by decide +kernel), List.mem_of_getElem? (i := 1146) (by decide +kernel)⟩
theorem lw_p66 : lw_okq (⟨"PressSheetsModel", "againstOf", "(II)I"⟩, 29) := ⟨⟨by decide +kernel, by decide +kernel⟩, List.mem_of_getElem? (i := 816) (by decide +kernel), List.mem_of_getElem? (i := 1158) (by decide +kernel), List.mem_of_getElem? (i := 1159) (by decide +kernel)⟩
theorem lw_p67 : lw_okq (⟨"PressSheetsModel", "layRest", "()V"⟩, 29) := ⟨⟨by decide +kernel, by decide +kernel⟩, List.mem_of_getElem? (i := 816) (by decide +kernel), List.mem_of_getElem? (i := 1166) (by decide +kernel), List.mem_of_getElem? (i := 1167) (by decide +kernel)⟩
theorem lw_p68 : lw_okq (⟨"PressSheetsModel", "best", "()I"⟩, 29) := ⟨⟨by decide +kernel, by decide +kernel⟩, List.mem_of_getElem? (i := 816) (by decide +kernel), List.mem_of_getElem? (i := 1170) (by decide +kernel), List.mem_of_getElem? (i := 1171) (by decide +kernel)⟩
theorem lw_p69 : lw_okq (⟨"PressSheetsModel", "layGone", "()V"⟩, 29) := ⟨⟨by decide +kernel, by decide +kernel⟩, List.mem_of_getElem? (i := 816) (by decide +kernel), List.mem_of_getElem? (i := 1182) (by decide +kernel), List.mem_of_getElem? (i := 1183) (by decide +kernel)⟩
def lw_privs_5 : List (MethodName × Nat) := [(⟨"PressSheetsModel", "isMan", "(I)Z"⟩, 29), (⟨"PressSheetsModel", "isPage", "(I)Z"⟩, 29), (⟨"PressSheetsModel", "againstOf", "(II)I"⟩, 29), (⟨"PressSheetsModel", "layRest", "()V"⟩, 29), (⟨"PressSheetsModel", "best", "()I"⟩, 29), (⟨"PressSheetsModel", "layGone", "()V"⟩, 29)]
theorem lw_r5 : ∀ q ∈ lw_privs_5, lw_okq q := List.forall_mem_cons.mpr ⟨lw_p64, List.forall_mem_cons.mpr ⟨lw_p65, List.forall_mem_cons.mpr ⟨lw_p66, List.forall_mem_cons.mpr ⟨lw_p67, List.forall_mem_cons.mpr ⟨lw_p68, List.forall_mem_cons.mpr ⟨lw_p69, fun _ h => absurd h List.not_mem_nil⟩⟩⟩⟩⟩⟩
def lw_privs : List (MethodName × Nat) := lw_privs_1 ++ (lw_privs_2 ++ (lw_privs_3 ++ (lw_privs_4 ++ (lw_privs_5))))
def lw_tbl : List Cond := k2_sels lw_privs ++ tables_1
theorem lw_privs_ok : ∀ q ∈ lw_privs, lw_okq q := by
  show ∀ q ∈ lw_privs_1 ++ (lw_privs_2 ++ (lw_privs_3 ++ (lw_privs_4 ++ (lw_privs_5)))), lw_okq q
  exact List.forall_mem_append.mpr ⟨lw_r1, List.forall_mem_append.mpr ⟨lw_r2, List.forall_mem_append.mpr ⟨lw_r3, List.forall_mem_append.mpr ⟨lw_r4, lw_r5⟩⟩⟩⟩
-- ===== end of PART A; then your names; then what follows =====
end
section
/-! ===== BEGIN printed: names, fields, word lists, decode rows ===== -/
def RX0 : String := "PressSheets$Forme"
def TX0 : u_T := fun k => match k with
  | 0 => ("PressSheets$Forme", "letters", "[[I", true)
  | 1 => ("PressSheets$Forme", "toldAhead", "[I", true)
  | 2 => ("PressSheets$Forme", "unlike", "[I", true)
  | 3 => ("PressSheets$Forme", "members", "[I", true)
  | 4 => ("PressSheets$Forme", "group", "[I", true)
  | 5 => ("PressSheets$Forme", "lookedAt", "I", false)
  | 6 => ("PressSheets$Forme", "groups", "I", false)
  | 7 => ("PressSheets$Forme", "grouped", "Z", false)
  | 8 => ("PressSheets$Forme", "firstOrder", "[I", true)
  | 9 => ("PressSheets$Forme", "orderCost", "I", false)
  | 10 => ("PressSheets$Forme", "orderWays", "I", false)
  | _ => ("PressSheets$Forme", "ordered", "Z", false)
def tyX0 : Nat → FieldType := fun k => match k with
  | 0 => .array (.array .int)
  | 1 => .array .int
  | 2 => .array .int
  | 3 => .array .int
  | 4 => .array .int
  | 5 => .int
  | 6 => .int
  | 7 => .boolean
  | 8 => .array .int
  | 9 => .int
  | 10 => .int
  | _ => .boolean
theorem nmX0 : ∀ a, a < 12 → ∀ b, b < 12 → a ≠ b → (TX0 a).2.1 ≠ (TX0 b).2.1 := by decide +kernel
theorem tyX0_ok : ∀ k, k < 12 → parseFieldDescriptor (TX0 k).2.2.1 = some (tyX0 k) := by decide +kernel
abbrev cX0_init : ByteArray := prog_2_method_1_code
def yX0_init : MethodName := ⟨RX0, "<init>", "()V"⟩
abbrev cX0_putLetter : ByteArray := prog_2_method_2_code
def yX0_putLetter : MethodName := ⟨RX0, "putLetter", "(III)I"⟩
abbrev cX0_tellAhead : ByteArray := prog_2_method_3_code
def yX0_tellAhead : MethodName := ⟨RX0, "tellAhead", "(IIZ)I"⟩
abbrev cX0_areAlike : ByteArray := prog_2_method_4_code
def yX0_areAlike : MethodName := ⟨RX0, "areAlike", "(II)Z"⟩
abbrev cX0_areUnlike : ByteArray := prog_2_method_5_code
def yX0_areUnlike : MethodName := ⟨RX0, "areUnlike", "(II)Z"⟩
abbrev cX0_makeGroups : ByteArray := prog_2_method_6_code
def yX0_makeGroups : MethodName := ⟨RX0, "makeGroups", "()V"⟩
abbrev cX0_copiesLookedAt : ByteArray := prog_2_method_7_code
def yX0_copiesLookedAt : MethodName := ⟨RX0, "copiesLookedAt", "()I"⟩
abbrev cX0_unlikeCopies : ByteArray := prog_2_method_8_code
def yX0_unlikeCopies : MethodName := ⟨RX0, "unlikeCopies", "(I)I"⟩
abbrev cX0_fill : ByteArray := prog_2_method_9_code
def yX0_fill : MethodName := ⟨RX0, "fill", "(LPressSheets$Forme;II)Z"⟩
abbrev cX0_groupLetter : ByteArray := prog_2_method_10_code
def yX0_groupLetter : MethodName := ⟨RX0, "groupLetter", "(II)I"⟩
abbrev cX0_unlikePlaces : ByteArray := prog_2_method_11_code
def yX0_unlikePlaces : MethodName := ⟨RX0, "unlikePlaces", "(II)I"⟩
abbrev cX0_statesAhead : ByteArray := prog_2_method_12_code
def yX0_statesAhead : MethodName := ⟨RX0, "statesAhead", "(I)I"⟩
abbrev cX0_tellsAheadOf : ByteArray := prog_2_method_13_code
def yX0_tellsAheadOf : MethodName := ⟨RX0, "tellsAheadOf", "(II)Z"⟩
abbrev cX0_readersOf : ByteArray := prog_2_method_14_code
def yX0_readersOf : MethodName := ⟨RX0, "readersOf", "(II)I"⟩
abbrev cX0_readingCount : ByteArray := prog_2_method_15_code
def yX0_readingCount : MethodName := ⟨RX0, "readingCount", "()I"⟩
abbrev cX0_aheadCount : ByteArray := prog_2_method_16_code
def yX0_aheadCount : MethodName := ⟨RX0, "aheadCount", "()I"⟩
def RX1 : String := "PressSheets$Heaps"
def TX1 : u_T := fun k => match k with
  | 0 => ("PressSheets$Heaps", "kinds", "[[I", true)
  | 1 => ("PressSheets$Heaps", "printed", "[I", true)
  | 2 => ("PressSheets$Heaps", "seenKinds", "[[I", true)
  | _ => ("PressSheets$Heaps", "heapSize", "I", false)
def tyX1 : Nat → FieldType := fun k => match k with
  | 0 => .array (.array .int)
  | 1 => .array .int
  | 2 => .array (.array .int)
  | _ => .int
theorem nmX1 : ∀ a, a < 4 → ∀ b, b < 4 → a ≠ b → (TX1 a).2.1 ≠ (TX1 b).2.1 := by decide +kernel
theorem tyX1_ok : ∀ k, k < 4 → parseFieldDescriptor (TX1 k).2.2.1 = some (tyX1 k) := by decide +kernel
abbrev cX1_init : ByteArray := prog_3_method_1_code
def yX1_init : MethodName := ⟨RX1, "<init>", "()V"⟩
abbrev cX1_addSheet : ByteArray := prog_3_method_2_code
def yX1_addSheet : MethodName := ⟨RX1, "addSheet", "(II)I"⟩
abbrev cX1_putSize : ByteArray := prog_3_method_3_code
def yX1_putSize : MethodName := ⟨RX1, "putSize", "(I)I"⟩
abbrev cX1_putSeen : ByteArray := prog_3_method_4_code
def yX1_putSeen : MethodName := ⟨RX1, "putSeen", "(III)I"⟩
abbrev cX1_heapCount : ByteArray := prog_3_method_5_code
def yX1_heapCount : MethodName := ⟨RX1, "heapCount", "(I)I"⟩
abbrev cX1_heapEnd : ByteArray := prog_3_method_6_code
def yX1_heapEnd : MethodName := ⟨RX1, "heapEnd", "(II)I"⟩
abbrev cX1_kindIn : ByteArray := prog_3_method_7_code
def yX1_kindIn : MethodName := ⟨RX1, "kindIn", "(IIZ)I"⟩
abbrev cX1_mayBe : ByteArray := prog_3_method_8_code
def yX1_mayBe : MethodName := ⟨RX1, "mayBe", "(IIZ)Z"⟩
abbrev cX1_choices : ByteArray := prog_3_method_9_code
def yX1_choices : MethodName := ⟨RX1, "choices", "(II)I"⟩
abbrev cX1_turnings : ByteArray := prog_3_method_10_code
def yX1_turnings : MethodName := ⟨RX1, "turnings", "(I)I"⟩
abbrev cX1_countSheets : ByteArray := prog_3_method_11_code
def yX1_countSheets : MethodName := ⟨RX1, "countSheets", "()I"⟩
abbrev cX1_countSeen : ByteArray := prog_3_method_12_code
def yX1_countSeen : MethodName := ⟨RX1, "countSeen", "()I"⟩
def RX2 : String := "PressSheets$House"
def TX2 : u_T := fun k => match k with
  | 0 => ("PressSheets$House", "habits", "[[I", true)
  | 1 => ("PressSheets$House", "wordTimes", "[[I", true)
  | 2 => ("PressSheets$House", "men", "I", false)
  | 3 => ("PressSheets$House", "pages", "I", false)
  | 4 => ("PressSheets$House", "changeCost", "I", false)
  | 5 => ("PressSheets$House", "own", "[[I", true)
  | 6 => ("PressSheets$House", "upTo", "[[I", true)
  | 7 => ("PressSheets$House", "behind", "[[I", true)
  | 8 => ("PressSheets$House", "ways", "[[I", true)
  | 9 => ("PressSheets$House", "least", "I", false)
  | _ => ("PressSheets$House", "solved", "Z", false)
def tyX2 : Nat → FieldType := fun k => match k with
  | 0 => .array (.array .int)
  | 1 => .array (.array .int)
  | 2 => .int
  | 3 => .int
  | 4 => .int
  | 5 => .array (.array .int)
  | 6 => .array (.array .int)
  | 7 => .array (.array .int)
  | 8 => .array (.array .int)
  | 9 => .int
  | _ => .boolean
theorem nmX2 : ∀ a, a < 11 → ∀ b, b < 11 → a ≠ b → (TX2 a).2.1 ≠ (TX2 b).2.1 := by decide +kernel
theorem tyX2_ok : ∀ k, k < 11 → parseFieldDescriptor (TX2 k).2.2.1 = some (tyX2 k) := by decide +kernel
abbrev cX2_init : ByteArray := prog_4_method_1_code
def yX2_init : MethodName := ⟨RX2, "<init>", "()V"⟩
abbrev cX2_putHouse : ByteArray := prog_4_method_2_code
def yX2_putHouse : MethodName := ⟨RX2, "putHouse", "(II)I"⟩
abbrev cX2_putHabit : ByteArray := prog_4_method_3_code
def yX2_putHabit : MethodName := ⟨RX2, "putHabit", "(III)I"⟩
abbrev cX2_putTimes : ByteArray := prog_4_method_4_code
def yX2_putTimes : MethodName := ⟨RX2, "putTimes", "(IIII)I"⟩
abbrev cX2_putChange : ByteArray := prog_4_method_5_code
def yX2_putChange : MethodName := ⟨RX2, "putChange", "(I)I"⟩
abbrev cX2_wordsAgainst : ByteArray := prog_4_method_6_code
def yX2_wordsAgainst : MethodName := ⟨RX2, "wordsAgainst", "(II)I"⟩
abbrev cX2_bestCost : ByteArray := prog_4_method_7_code
def yX2_bestCost : MethodName := ⟨RX2, "bestCost", "()I"⟩
abbrev cX2_bestWays : ByteArray := prog_4_method_8_code
def yX2_bestWays : MethodName := ⟨RX2, "bestWays", "()I"⟩
abbrev cX2_bestMen : ByteArray := prog_4_method_9_code
def yX2_bestMen : MethodName := ⟨RX2, "bestMen", "(I)I"⟩
abbrev cX2_firstMan : ByteArray := prog_4_method_10_code
def yX2_firstMan : MethodName := ⟨RX2, "firstMan", "(I)I"⟩
abbrev cX2_isBest : ByteArray := prog_4_method_11_code
def yX2_isBest : MethodName := ⟨RX2, "isBest", "(II)Z"⟩
abbrev cX2_leastBestMan : ByteArray := prog_4_method_12_code
def yX2_leastBestMan : MethodName := ⟨RX2, "leastBestMan", "()I"⟩
abbrev cX2_nextMan : ByteArray := prog_4_method_13_code
def yX2_nextMan : MethodName := ⟨RX2, "nextMan", "(II)I"⟩
abbrev cX2_changeOf : ByteArray := prog_4_method_14_code
def yX2_changeOf : MethodName := ⟨RX2, "changeOf", "(II)I"⟩
abbrev cX2_costThrough : ByteArray := prog_4_method_15_code
def yX2_costThrough : MethodName := ⟨RX2, "costThrough", "(III)I"⟩
abbrev cX2_solve : ByteArray := prog_4_method_16_code
def yX2_solve : MethodName := ⟨RX2, "solve", "()V"⟩
abbrev cX2_costAhead : ByteArray := prog_4_method_17_code
def yX2_costAhead : MethodName := ⟨RX2, "costAhead", "(II)I"⟩
abbrev cX2_lookBehind : ByteArray := prog_4_method_18_code
def yX2_lookBehind : MethodName := ⟨RX2, "lookBehind", "(II)V"⟩
abbrev cX2_leastUpTo : ByteArray := prog_4_method_19_code
def yX2_leastUpTo : MethodName := ⟨RX2, "leastUpTo", "(I)I"⟩
def RX3 : String := "PressSheets$OrderFinder"
def TX3 : u_T := fun k => match k with
  | 0 => ("PressSheets$OrderFinder", "rests", "[I", true)
  | 1 => ("PressSheets$OrderFinder", "steps", "[I", true)
  | 2 => ("PressSheets$OrderFinder", "needs", "[I", true)
  | _ => ("PressSheets$OrderFinder", "states", "I", false)
def tyX3 : Nat → FieldType := fun k => match k with
  | 0 => .array .int
  | 1 => .array .int
  | 2 => .array .int
  | _ => .int
theorem nmX3 : ∀ a, a < 4 → ∀ b, b < 4 → a ≠ b → (TX3 a).2.1 ≠ (TX3 b).2.1 := by decide +kernel
theorem tyX3_ok : ∀ k, k < 4 → parseFieldDescriptor (TX3 k).2.2.1 = some (tyX3 k) := by decide +kernel
abbrev cX3_init : ByteArray := prog_5_method_1_code
def yX3_init : MethodName := ⟨RX3, "<init>", "()V"⟩
abbrev cX3_leastCost : ByteArray := prog_5_method_2_code
def yX3_leastCost : MethodName := ⟨RX3, "leastCost", "(LPressSheets$Forme;)I"⟩
abbrev cX3_leastWays : ByteArray := prog_5_method_3_code
def yX3_leastWays : MethodName := ⟨RX3, "leastWays", "(LPressSheets$Forme;)I"⟩
abbrev cX3_stateAt : ByteArray := prog_5_method_4_code
def yX3_stateAt : MethodName := ⟨RX3, "stateAt", "(LPressSheets$Forme;I)I"⟩
abbrev cX3_waysWith : ByteArray := prog_5_method_5_code
def yX3_waysWith : MethodName := ⟨RX3, "waysWith", "(LPressSheets$Forme;II)I"⟩
abbrev cX3_makeOrders : ByteArray := prog_5_method_6_code
def yX3_makeOrders : MethodName := ⟨RX3, "makeOrders", "(LPressSheets$Forme;)V"⟩
abbrev cX3_takeStates : ByteArray := prog_5_method_7_code
def yX3_takeStates : MethodName := ⟨RX3, "takeStates", "(LPressSheets$Forme;)V"⟩
abbrev cX3_findRests : ByteArray := prog_5_method_8_code
def yX3_findRests : MethodName := ⟨RX3, "findRests", "()I"⟩
abbrev cX3_restBehind : ByteArray := prog_5_method_9_code
def yX3_restBehind : MethodName := ⟨RX3, "restBehind", "(II)I"⟩
abbrev cX3_mayCome : ByteArray := prog_5_method_10_code
def yX3_mayCome : MethodName := ⟨RX3, "mayCome", "(II)Z"⟩
abbrev cX3_restThrough : ByteArray := prog_5_method_11_code
def yX3_restThrough : MethodName := ⟨RX3, "restThrough", "(III)I"⟩
abbrev cX3_join : ByteArray := prog_5_method_12_code
def yX3_join : MethodName := ⟨RX3, "join", "(II)I"⟩
abbrev cX3_walkFirst : ByteArray := prog_5_method_13_code
def yX3_walkFirst : MethodName := ⟨RX3, "walkFirst", "([II)V"⟩
abbrev cX3_leastNext : ByteArray := prog_5_method_14_code
def yX3_leastNext : MethodName := ⟨RX3, "leastNext", "(III)I"⟩
def RX4 : String := "PressSheets$Planner"
def TX4 : u_T := fun k => match k with
  | 0 => ("PressSheets$Planner", "fits", "[I", true)
  | 1 => ("PressSheets$Planner", "needs", "[I", true)
  | 2 => ("PressSheets$Planner", "ways", "[I", true)
  | 3 => ("PressSheets$Planner", "firstPlan", "[I", true)
  | 4 => ("PressSheets$Planner", "onDay", "[I", true)
  | 5 => ("PressSheets$Planner", "mostOnDay", "I", false)
  | _ => ("PressSheets$Planner", "plannedDays", "I", false)
def tyX4 : Nat → FieldType := fun k => match k with
  | 0 => .array .int
  | 1 => .array .int
  | 2 => .array .int
  | 3 => .array .int
  | 4 => .array .int
  | 5 => .int
  | _ => .int
theorem nmX4 : ∀ a, a < 7 → ∀ b, b < 7 → a ≠ b → (TX4 a).2.1 ≠ (TX4 b).2.1 := by decide +kernel
theorem tyX4_ok : ∀ k, k < 7 → parseFieldDescriptor (TX4 k).2.2.1 = some (tyX4 k) := by decide +kernel
abbrev cX4_init : ByteArray := prog_6_method_1_code
def yX4_init : MethodName := ⟨RX4, "<init>", "()V"⟩
abbrev cX4_forget : ByteArray := prog_6_method_2_code
def yX4_forget : MethodName := ⟨RX4, "forget", "()V"⟩
abbrev cX4_putPresses : ByteArray := prog_6_method_3_code
def yX4_putPresses : MethodName := ⟨RX4, "putPresses", "(I)I"⟩
abbrev cX4_planCount : ByteArray := prog_6_method_4_code
def yX4_planCount : MethodName := ⟨RX4, "planCount", "(LPressSheets$Type;II)I"⟩
abbrev cX4_weighSets : ByteArray := prog_6_method_5_code
def yX4_weighSets : MethodName := ⟨RX4, "weighSets", "(LPressSheets$Type;I)V"⟩
abbrev cX4_canLie : ByteArray := prog_6_method_6_code
def yX4_canLie : MethodName := ⟨RX4, "canLie", "(LPressSheets$Type;I)Z"⟩
abbrev cX4_formesAhead : ByteArray := prog_6_method_7_code
def yX4_formesAhead : MethodName := ⟨RX4, "formesAhead", "(LPressSheets$Type;I)I"⟩
abbrev cX4_addDay : ByteArray := prog_6_method_8_code
def yX4_addDay : MethodName := ⟨RX4, "addDay", "(I)V"⟩
abbrev cX4_dayInFirst : ByteArray := prog_6_method_9_code
def yX4_dayInFirst : MethodName := ⟨RX4, "dayInFirst", "(LPressSheets$Type;II)I"⟩
abbrev cX4_makeFirst : ByteArray := prog_6_method_10_code
def yX4_makeFirst : MethodName := ⟨RX4, "makeFirst", "(LPressSheets$Type;I)V"⟩
abbrev cX4_lay : ByteArray := prog_6_method_11_code
def yX4_lay : MethodName := ⟨RX4, "lay", "(LPressSheets$Planner;LPressSheets$Type;II)Z"⟩
abbrev cX4_hasRoom : ByteArray := prog_6_method_12_code
def yX4_hasRoom : MethodName := ⟨RX4, "hasRoom", "(LPressSheets$Type;II)Z"⟩
abbrev cX4_keepsTurn : ByteArray := prog_6_method_13_code
def yX4_keepsTurn : MethodName := ⟨RX4, "keepsTurn", "(LPressSheets$Type;II)Z"⟩
def RX5 : String := "PressSheets$SlipCounter"
def TX5 : u_T := fun k => match k with
  | 0 => ("PressSheets$SlipCounter", "alone", "[I", true)
  | 1 => ("PressSheets$SlipCounter", "parted", "[I", true)
  | 2 => ("PressSheets$SlipCounter", "readers", "[I", true)
  | _ => ("PressSheets$SlipCounter", "lettersHere", "I", false)
def tyX5 : Nat → FieldType := fun k => match k with
  | 0 => .array .int
  | 1 => .array .int
  | 2 => .array .int
  | _ => .int
theorem nmX5 : ∀ a, a < 4 → ∀ b, b < 4 → a ≠ b → (TX5 a).2.1 ≠ (TX5 b).2.1 := by decide +kernel
theorem tyX5_ok : ∀ k, k < 4 → parseFieldDescriptor (TX5 k).2.2.1 = some (tyX5 k) := by decide +kernel
abbrev cX5_init : ByteArray := prog_7_method_1_code
def yX5_init : MethodName := ⟨RX5, "<init>", "()V"⟩
abbrev cX5_fewestSlips : ByteArray := prog_7_method_2_code
def yX5_fewestSlips : MethodName := ⟨RX5, "fewestSlips", "(LPressSheets$Forme;I)I"⟩
abbrev cX5_countAlone : ByteArray := prog_7_method_3_code
def yX5_countAlone : MethodName := ⟨RX5, "countAlone", "(LPressSheets$Forme;I)V"⟩
abbrev cX5_takeReaders : ByteArray := prog_7_method_4_code
def yX5_takeReaders : MethodName := ⟨RX5, "takeReaders", "(LPressSheets$Forme;I)V"⟩
abbrev cX5_slipsAtPlace : ByteArray := prog_7_method_5_code
def yX5_slipsAtPlace : MethodName := ⟨RX5, "slipsAtPlace", "(I)I"⟩
abbrev cX5_allowOneMore : ByteArray := prog_7_method_6_code
def yX5_allowOneMore : MethodName := ⟨RX5, "allowOneMore", "(I)V"⟩
abbrev cX5_slipsWithOneMore : ByteArray := prog_7_method_7_code
def yX5_slipsWithOneMore : MethodName := ⟨RX5, "slipsWithOneMore", "(I)I"⟩
def RX6 : String := "PressSheets$Type"
def TX6 : u_T := fun k => match k with
  | 0 => ("PressSheets$Type", "pieces", "[[I", true)
  | 1 => ("PressSheets$Type", "sharing", "[I", true)
  | 2 => ("PressSheets$Type", "behind", "[I", true)
  | _ => ("PressSheets$Type", "toldOf", "I", false)
def tyX6 : Nat → FieldType := fun k => match k with
  | 0 => .array (.array .int)
  | 1 => .array .int
  | 2 => .array .int
  | _ => .int
theorem nmX6 : ∀ a, a < 4 → ∀ b, b < 4 → a ≠ b → (TX6 a).2.1 ≠ (TX6 b).2.1 := by decide +kernel
theorem tyX6_ok : ∀ k, k < 4 → parseFieldDescriptor (TX6 k).2.2.1 = some (tyX6 k) := by decide +kernel
abbrev cX6_init : ByteArray := prog_8_method_1_code
def yX6_init : MethodName := ⟨RX6, "<init>", "()V"⟩
abbrev cX6_putPiece : ByteArray := prog_8_method_2_code
def yX6_putPiece : MethodName := ⟨RX6, "putPiece", "(III)I"⟩
abbrev cX6_link : ByteArray := prog_8_method_3_code
def yX6_link : MethodName := ⟨RX6, "link", "()V"⟩
abbrev cX6_linkPiece : ByteArray := prog_8_method_4_code
def yX6_linkPiece : MethodName := ⟨RX6, "linkPiece", "([I)V"⟩
abbrev cX6_formesWith : ByteArray := prog_8_method_5_code
def yX6_formesWith : MethodName := ⟨RX6, "formesWith", "([II)I"⟩
abbrev cX6_reachOn : ByteArray := prog_8_method_6_code
def yX6_reachOn : MethodName := ⟨RX6, "reachOn", "()V"⟩
abbrev cX6_isTold : ByteArray := prog_8_method_7_code
def yX6_isTold : MethodName := ⟨RX6, "isTold", "(I)Z"⟩
abbrev cX6_ringSize : ByteArray := prog_8_method_8_code
def yX6_ringSize : MethodName := ⟨RX6, "ringSize", "()I"⟩
def RX7 : String := "PressSheets"
def TX7 : u_T := fun k => match k with
  | 0 => ("PressSheets", "formes", "[LPressSheets$Forme;", true)
  | 1 => ("PressSheets", "slipCounter", "LPressSheets$SlipCounter;", true)
  | 2 => ("PressSheets", "orderFinder", "LPressSheets$OrderFinder;", true)
  | 3 => ("PressSheets", "type", "LPressSheets$Type;", true)
  | 4 => ("PressSheets", "planner", "LPressSheets$Planner;", true)
  | 5 => ("PressSheets", "heaps", "LPressSheets$Heaps;", true)
  | _ => ("PressSheets", "workers", "LPressSheets$House;", true)
def tyX7 : Nat → FieldType := fun k => match k with
  | 0 => .array (.object "PressSheets$Forme")
  | 1 => .object "PressSheets$SlipCounter"
  | 2 => .object "PressSheets$OrderFinder"
  | 3 => .object "PressSheets$Type"
  | 4 => .object "PressSheets$Planner"
  | 5 => .object "PressSheets$Heaps"
  | _ => .object "PressSheets$House"
theorem nmX7 : ∀ a, a < 7 → ∀ b, b < 7 → a ≠ b → (TX7 a).2.1 ≠ (TX7 b).2.1 := by decide +kernel
theorem tyX7_ok : ∀ k, k < 7 → parseFieldDescriptor (TX7 k).2.2.1 = some (tyX7 k) := by decide +kernel
abbrev cX7_init : ByteArray := prog_1_method_1_code
def yX7_init : MethodName := ⟨RX7, "<init>", "()V"⟩
abbrev cX7_read : ByteArray := prog_1_method_2_code
def yX7_read : MethodName := ⟨RX7, "read", "(IIII)I"⟩
abbrev cX7_agree : ByteArray := prog_1_method_3_code
def yX7_agree : MethodName := ⟨RX7, "agree", "(III)I"⟩
abbrev cX7_states : ByteArray := prog_1_method_4_code
def yX7_states : MethodName := ⟨RX7, "states", "(I)I"⟩
abbrev cX7_state : ByteArray := prog_1_method_5_code
def yX7_state : MethodName := ⟨RX7, "state", "(II)I"⟩
abbrev cX7_letter : ByteArray := prog_1_method_6_code
def yX7_letter : MethodName := ⟨RX7, "letter", "(III)I"⟩
abbrev cX7_slips : ByteArray := prog_1_method_7_code
def yX7_slips : MethodName := ⟨RX7, "slips", "(II)I"⟩
abbrev cX7_ahead : ByteArray := prog_1_method_8_code
def yX7_ahead : MethodName := ⟨RX7, "ahead", "(IIIZ)I"⟩
abbrev cX7_changes : ByteArray := prog_1_method_9_code
def yX7_changes : MethodName := ⟨RX7, "changes", "(III)I"⟩
abbrev cX7_least : ByteArray := prog_1_method_10_code
def yX7_least : MethodName := ⟨RX7, "least", "(I)I"⟩
abbrev cX7_orders : ByteArray := prog_1_method_11_code
def yX7_orders : MethodName := ⟨RX7, "orders", "(I)I"⟩
abbrev cX7_first : ByteArray := prog_1_method_12_code
def yX7_first : MethodName := ⟨RX7, "first", "(II)I"⟩
abbrev cX7_before : ByteArray := prog_1_method_13_code
def yX7_before : MethodName := ⟨RX7, "before", "(III)I"⟩
abbrev cX7_piece : ByteArray := prog_1_method_14_code
def yX7_piece : MethodName := ⟨RX7, "piece", "(III)I"⟩
abbrev cX7_share : ByteArray := prog_1_method_15_code
def yX7_share : MethodName := ⟨RX7, "share", "(II)I"⟩
abbrev cX7_must : ByteArray := prog_1_method_16_code
def yX7_must : MethodName := ⟨RX7, "must", "(II)I"⟩
abbrev cX7_ring : ByteArray := prog_1_method_17_code
def yX7_ring : MethodName := ⟨RX7, "ring", "()I"⟩
abbrev cX7_presses : ByteArray := prog_1_method_18_code
def yX7_presses : MethodName := ⟨RX7, "presses", "(I)I"⟩
abbrev cX7_plans : ByteArray := prog_1_method_19_code
def yX7_plans : MethodName := ⟨RX7, "plans", "(I)I"⟩
abbrev cX7_day : ByteArray := prog_1_method_20_code
def yX7_day : MethodName := ⟨RX7, "day", "(II)I"⟩
abbrev cX7_beside : ByteArray := prog_1_method_21_code
def yX7_beside : MethodName := ⟨RX7, "beside", "(III)I"⟩
abbrev cX7_fewest : ByteArray := prog_1_method_22_code
def yX7_fewest : MethodName := ⟨RX7, "fewest", "()I"⟩
abbrev cX7_sheet : ByteArray := prog_1_method_23_code
def yX7_sheet : MethodName := ⟨RX7, "sheet", "(II)I"⟩
abbrev cX7_size : ByteArray := prog_1_method_24_code
def yX7_size : MethodName := ⟨RX7, "size", "(I)I"⟩
abbrev cX7_seen : ByteArray := prog_1_method_25_code
def yX7_seen : MethodName := ⟨RX7, "seen", "(III)I"⟩
abbrev cX7_turns : ByteArray := prog_1_method_26_code
def yX7_turns : MethodName := ⟨RX7, "turns", "(I)I"⟩
abbrev cX7_turned : ByteArray := prog_1_method_27_code
def yX7_turned : MethodName := ⟨RX7, "turned", "(II)I"⟩
abbrev cX7_bound : ByteArray := prog_1_method_28_code
def yX7_bound : MethodName := ⟨RX7, "bound", "(IIZ)I"⟩
abbrev cX7_house : ByteArray := prog_1_method_29_code
def yX7_house : MethodName := ⟨RX7, "house", "(II)I"⟩
abbrev cX7_habit : ByteArray := prog_1_method_30_code
def yX7_habit : MethodName := ⟨RX7, "habit", "(III)I"⟩
abbrev cX7_spell : ByteArray := prog_1_method_31_code
def yX7_spell : MethodName := ⟨RX7, "spell", "(IIII)I"⟩
abbrev cX7_change : ByteArray := prog_1_method_32_code
def yX7_change : MethodName := ⟨RX7, "change", "(I)I"⟩
abbrev cX7_against : ByteArray := prog_1_method_33_code
def yX7_against : MethodName := ⟨RX7, "against", "(II)I"⟩
abbrev cX7_setting : ByteArray := prog_1_method_34_code
def yX7_setting : MethodName := ⟨RX7, "setting", "()I"⟩
abbrev cX7_who : ByteArray := prog_1_method_35_code
def yX7_who : MethodName := ⟨RX7, "who", "(I)I"⟩
abbrev cX7_sure : ByteArray := prog_1_method_36_code
def yX7_sure : MethodName := ⟨RX7, "sure", "(I)I"⟩
abbrev cX7_settings : ByteArray := prog_1_method_37_code
def yX7_settings : MethodName := ⟨RX7, "settings", "()I"⟩
abbrev cX7_count : ByteArray := prog_1_method_38_code
def yX7_count : MethodName := ⟨RX7, "count", "(I)I"⟩
abbrev cX7_countReadings : ByteArray := prog_1_method_39_code
def yX7_countReadings : MethodName := ⟨RX7, "countReadings", "()I"⟩
abbrev cX7_countAhead : ByteArray := prog_1_method_40_code
def yX7_countAhead : MethodName := ⟨RX7, "countAhead", "()I"⟩
abbrev cX7_within : ByteArray := prog_1_method_41_code
def yX7_within : MethodName := ⟨RX7, "within", "(II)Z"⟩
abbrev cX7_isCopy : ByteArray := prog_1_method_42_code
def yX7_isCopy : MethodName := ⟨RX7, "isCopy", "(I)Z"⟩
abbrev cX7_isForme : ByteArray := prog_1_method_43_code
def yX7_isForme : MethodName := ⟨RX7, "isForme", "(I)Z"⟩
abbrev cX7_isDays : ByteArray := prog_1_method_44_code
def yX7_isDays : MethodName := ⟨RX7, "isDays", "(I)Z"⟩
abbrev cX7_isState : ByteArray := prog_1_method_45_code
def yX7_isState : MethodName := ⟨RX7, "isState", "(II)Z"⟩
abbrev cX7_grouped : ByteArray := prog_1_method_46_code
def yX7_grouped : MethodName := ⟨RX7, "grouped", "(I)LPressSheets$Forme;"⟩
abbrev cX7_isMan : ByteArray := prog_1_method_47_code
def yX7_isMan : MethodName := ⟨RX7, "isMan", "(I)Z"⟩
abbrev cX7_isPage : ByteArray := prog_1_method_48_code
def yX7_isPage : MethodName := ⟨RX7, "isPage", "(I)Z"⟩
def RX8 : String := "PressSheetsModel"
def TX8 : u_T := fun k => match k with
  | 0 => ("PressSheetsModel", "letters", "[I", true)
  | 1 => ("PressSheetsModel", "states", "I", false)
  | 2 => ("PressSheetsModel", "stateOf", "[I", true)
  | 3 => ("PressSheetsModel", "copies", "[I", true)
  | 4 => ("PressSheetsModel", "one", "[I", true)
  | 5 => ("PressSheetsModel", "some", "[I", true)
  | 6 => ("PressSheetsModel", "more", "[I", true)
  | 7 => ("PressSheetsModel", "isAhead", "[Z", true)
  | 8 => ("PressSheetsModel", "needs", "[I", true)
  | 9 => ("PressSheetsModel", "changes", "[I", true)
  | 10 => ("PressSheetsModel", "cost", "[I", true)
  | 11 => ("PressSheetsModel", "ways", "[I", true)
  | 12 => ("PressSheetsModel", "pieces", "[I", true)
  | 13 => ("PressSheetsModel", "presses", "I", false)
  | 14 => ("PressSheetsModel", "musts", "[I", true)
  | 15 => ("PressSheetsModel", "dayOf", "[I", true)
  | 16 => ("PressSheetsModel", "firstDay", "[I", true)
  | 17 => ("PressSheetsModel", "sheets", "[I", true)
  | 18 => ("PressSheetsModel", "kinds", "[I", true)
  | 19 => ("PressSheetsModel", "seen", "[I", true)
  | 20 => ("PressSheetsModel", "heapSize", "I", false)
  | 21 => ("PressSheetsModel", "men", "I", false)
  | 22 => ("PressSheetsModel", "pages", "I", false)
  | 23 => ("PressSheetsModel", "habits", "[I", true)
  | 24 => ("PressSheetsModel", "times", "[I", true)
  | 25 => ("PressSheetsModel", "change", "I", false)
  | 26 => ("PressSheetsModel", "rest", "[I", true)
  | 27 => ("PressSheetsModel", "restWays", "[I", true)
  | _ => ("PressSheetsModel", "gone", "[I", true)
def tyX8 : Nat → FieldType := fun k => match k with
  | 0 => .array .int
  | 1 => .int
  | 2 => .array .int
  | 3 => .array .int
  | 4 => .array .int
  | 5 => .array .int
  | 6 => .array .int
  | 7 => .array .boolean
  | 8 => .array .int
  | 9 => .array .int
  | 10 => .array .int
  | 11 => .array .int
  | 12 => .array .int
  | 13 => .int
  | 14 => .array .int
  | 15 => .array .int
  | 16 => .array .int
  | 17 => .array .int
  | 18 => .array .int
  | 19 => .array .int
  | 20 => .int
  | 21 => .int
  | 22 => .int
  | 23 => .array .int
  | 24 => .array .int
  | 25 => .int
  | 26 => .array .int
  | 27 => .array .int
  | _ => .array .int
theorem nmX8 : ∀ a, a < 29 → ∀ b, b < 29 → a ≠ b → (TX8 a).2.1 ≠ (TX8 b).2.1 := by decide +kernel
theorem tyX8_ok : ∀ k, k < 29 → parseFieldDescriptor (TX8 k).2.2.1 = some (tyX8 k) := by decide +kernel
abbrev cX8_init : ByteArray := prog_10_method_1_code
def yX8_init : MethodName := ⟨RX8, "<init>", "()V"⟩
abbrev cX8_in : ByteArray := prog_10_method_3_code
def yX8_in : MethodName := ⟨RX8, "in", "(JJJ)Z"⟩
abbrev cX8_isForme : ByteArray := prog_10_method_4_code
def yX8_isForme : MethodName := ⟨RX8, "isForme", "(I)Z"⟩
abbrev cX8_isCopy : ByteArray := prog_10_method_5_code
def yX8_isCopy : MethodName := ⟨RX8, "isCopy", "(I)Z"⟩
abbrev cX8_letterAt : ByteArray := prog_10_method_6_code
def yX8_letterAt : MethodName := ⟨RX8, "letterAt", "(III)I"⟩
abbrev cX8_read : ByteArray := prog_10_method_7_code
def yX8_read : MethodName := ⟨RX8, "read", "(IIII)I"⟩
abbrev cX8_isLooked : ByteArray := prog_10_method_8_code
def yX8_isLooked : MethodName := ⟨RX8, "isLooked", "(II)Z"⟩
abbrev cX8_agrees : ByteArray := prog_10_method_9_code
def yX8_agrees : MethodName := ⟨RX8, "agrees", "(III)Z"⟩
abbrev cX8_agree : ByteArray := prog_10_method_10_code
def yX8_agree : MethodName := ⟨RX8, "agree", "(III)I"⟩
abbrev cX8_joins : ByteArray := prog_10_method_11_code
def yX8_joins : MethodName := ⟨RX8, "joins", "(III)Z"⟩
abbrev cX8_layGroups : ByteArray := prog_10_method_12_code
def yX8_layGroups : MethodName := ⟨RX8, "layGroups", "(III)Z"⟩
abbrev cX8_layStates : ByteArray := prog_10_method_13_code
def yX8_layStates : MethodName := ⟨RX8, "layStates", "(I)V"⟩
abbrev cX8_states : ByteArray := prog_10_method_14_code
def yX8_states : MethodName := ⟨RX8, "states", "(I)I"⟩
abbrev cX8_state : ByteArray := prog_10_method_15_code
def yX8_state : MethodName := ⟨RX8, "state", "(II)I"⟩
abbrev cX8_letterOf : ByteArray := prog_10_method_16_code
def yX8_letterOf : MethodName := ⟨RX8, "letterOf", "(III)I"⟩
abbrev cX8_letter : ByteArray := prog_10_method_17_code
def yX8_letter : MethodName := ⟨RX8, "letter", "(III)I"⟩
abbrev cX8_slipsOf : ByteArray := prog_10_method_18_code
def yX8_slipsOf : MethodName := ⟨RX8, "slipsOf", "(II)I"⟩
abbrev cX8_slips : ByteArray := prog_10_method_19_code
def yX8_slips : MethodName := ⟨RX8, "slips", "(II)I"⟩
abbrev cX8_ahead : ByteArray := prog_10_method_20_code
def yX8_ahead : MethodName := ⟨RX8, "ahead", "(IIIZ)I"⟩
abbrev cX8_changesOf : ByteArray := prog_10_method_21_code
def yX8_changesOf : MethodName := ⟨RX8, "changesOf", "(III)I"⟩
abbrev cX8_changes : ByteArray := prog_10_method_22_code
def yX8_changes : MethodName := ⟨RX8, "changes", "(III)I"⟩
abbrev cX8_layNeeds : ByteArray := prog_10_method_23_code
def yX8_layNeeds : MethodName := ⟨RX8, "layNeeds", "(I)V"⟩
abbrev cX8_layOrders : ByteArray := prog_10_method_24_code
def yX8_layOrders : MethodName := ⟨RX8, "layOrders", "()V"⟩
abbrev cX8_leastCost : ByteArray := prog_10_method_25_code
def yX8_leastCost : MethodName := ⟨RX8, "leastCost", "()I"⟩
abbrev cX8_waysOf : ByteArray := prog_10_method_26_code
def yX8_waysOf : MethodName := ⟨RX8, "waysOf", "(I)I"⟩
abbrev cX8_least : ByteArray := prog_10_method_27_code
def yX8_least : MethodName := ⟨RX8, "least", "(I)I"⟩
abbrev cX8_orders : ByteArray := prog_10_method_28_code
def yX8_orders : MethodName := ⟨RX8, "orders", "(I)I"⟩
abbrev cX8_first : ByteArray := prog_10_method_29_code
def yX8_first : MethodName := ⟨RX8, "first", "(II)I"⟩
abbrev cX8_isNext : ByteArray := prog_10_method_30_code
def yX8_isNext : MethodName := ⟨RX8, "isNext", "(III)Z"⟩
abbrev cX8_before : ByteArray := prog_10_method_31_code
def yX8_before : MethodName := ⟨RX8, "before", "(III)I"⟩
abbrev cX8_piece : ByteArray := prog_10_method_32_code
def yX8_piece : MethodName := ⟨RX8, "piece", "(III)I"⟩
abbrev cX8_shares : ByteArray := prog_10_method_33_code
def yX8_shares : MethodName := ⟨RX8, "shares", "(II)Z"⟩
abbrev cX8_share : ByteArray := prog_10_method_34_code
def yX8_share : MethodName := ⟨RX8, "share", "(II)I"⟩
abbrev cX8_layMusts : ByteArray := prog_10_method_35_code
def yX8_layMusts : MethodName := ⟨RX8, "layMusts", "()V"⟩
abbrev cX8_must : ByteArray := prog_10_method_36_code
def yX8_must : MethodName := ⟨RX8, "must", "(II)I"⟩
abbrev cX8_ring : ByteArray := prog_10_method_37_code
def yX8_ring : MethodName := ⟨RX8, "ring", "()I"⟩
abbrev cX8_presses : ByteArray := prog_10_method_38_code
def yX8_presses : MethodName := ⟨RX8, "presses", "(I)I"⟩
abbrev cX8_isPlan : ByteArray := prog_10_method_39_code
def yX8_isPlan : MethodName := ⟨RX8, "isPlan", "()Z"⟩
abbrev cX8_layPlans : ByteArray := prog_10_method_40_code
def yX8_layPlans : MethodName := ⟨RX8, "layPlans", "(III)I"⟩
abbrev cX8_plans : ByteArray := prog_10_method_41_code
def yX8_plans : MethodName := ⟨RX8, "plans", "(I)I"⟩
abbrev cX8_day : ByteArray := prog_10_method_42_code
def yX8_day : MethodName := ⟨RX8, "day", "(II)I"⟩
abbrev cX8_beside : ByteArray := prog_10_method_43_code
def yX8_beside : MethodName := ⟨RX8, "beside", "(III)I"⟩
abbrev cX8_fewest : ByteArray := prog_10_method_44_code
def yX8_fewest : MethodName := ⟨RX8, "fewest", "()I"⟩
abbrev cX8_sheet : ByteArray := prog_10_method_45_code
def yX8_sheet : MethodName := ⟨RX8, "sheet", "(II)I"⟩
abbrev cX8_size : ByteArray := prog_10_method_46_code
def yX8_size : MethodName := ⟨RX8, "size", "(I)I"⟩
abbrev cX8_seen : ByteArray := prog_10_method_47_code
def yX8_seen : MethodName := ⟨RX8, "seen", "(III)I"⟩
abbrev cX8_heaps : ByteArray := prog_10_method_48_code
def yX8_heaps : MethodName := ⟨RX8, "heaps", "(I)I"⟩
abbrev cX8_heapEnd : ByteArray := prog_10_method_49_code
def yX8_heapEnd : MethodName := ⟨RX8, "heapEnd", "(II)I"⟩
abbrev cX8_kindIn : ByteArray := prog_10_method_50_code
def yX8_kindIn : MethodName := ⟨RX8, "kindIn", "(IIZ)I"⟩
abbrev cX8_mayBe : ByteArray := prog_10_method_51_code
def yX8_mayBe : MethodName := ⟨RX8, "mayBe", "(IIZ)Z"⟩
abbrev cX8_turns : ByteArray := prog_10_method_52_code
def yX8_turns : MethodName := ⟨RX8, "turns", "(I)I"⟩
abbrev cX8_turned : ByteArray := prog_10_method_53_code
def yX8_turned : MethodName := ⟨RX8, "turned", "(II)I"⟩
abbrev cX8_bound : ByteArray := prog_10_method_54_code
def yX8_bound : MethodName := ⟨RX8, "bound", "(IIZ)I"⟩
abbrev cX8_house : ByteArray := prog_10_method_55_code
def yX8_house : MethodName := ⟨RX8, "house", "(II)I"⟩
abbrev cX8_isMan : ByteArray := prog_10_method_56_code
def yX8_isMan : MethodName := ⟨RX8, "isMan", "(I)Z"⟩
abbrev cX8_isPage : ByteArray := prog_10_method_57_code
def yX8_isPage : MethodName := ⟨RX8, "isPage", "(I)Z"⟩
abbrev cX8_habit : ByteArray := prog_10_method_58_code
def yX8_habit : MethodName := ⟨RX8, "habit", "(III)I"⟩
abbrev cX8_spell : ByteArray := prog_10_method_59_code
def yX8_spell : MethodName := ⟨RX8, "spell", "(IIII)I"⟩
abbrev cX8_change : ByteArray := prog_10_method_60_code
def yX8_change : MethodName := ⟨RX8, "change", "(I)I"⟩
abbrev cX8_againstOf : ByteArray := prog_10_method_61_code
def yX8_againstOf : MethodName := ⟨RX8, "againstOf", "(II)I"⟩
abbrev cX8_against : ByteArray := prog_10_method_62_code
def yX8_against : MethodName := ⟨RX8, "against", "(II)I"⟩
abbrev cX8_layRest : ByteArray := prog_10_method_63_code
def yX8_layRest : MethodName := ⟨RX8, "layRest", "()V"⟩
abbrev cX8_best : ByteArray := prog_10_method_64_code
def yX8_best : MethodName := ⟨RX8, "best", "()I"⟩
abbrev cX8_setting : ByteArray := prog_10_method_65_code
def yX8_setting : MethodName := ⟨RX8, "setting", "()I"⟩
abbrev cX8_who : ByteArray := prog_10_method_66_code
def yX8_who : MethodName := ⟨RX8, "who", "(I)I"⟩
abbrev cX8_layGone : ByteArray := prog_10_method_67_code
def yX8_layGone : MethodName := ⟨RX8, "layGone", "()V"⟩
abbrev cX8_sure : ByteArray := prog_10_method_68_code
def yX8_sure : MethodName := ⟨RX8, "sure", "(I)I"⟩
abbrev cX8_settings : ByteArray := prog_10_method_69_code
def yX8_settings : MethodName := ⟨RX8, "settings", "()I"⟩
abbrev cX8_count : ByteArray := prog_10_method_70_code
def yX8_count : MethodName := ⟨RX8, "count", "(I)I"⟩
def RJ6 : String := "java/lang/Integer"
def TJ6 : u_T := fun k => match k with
  | _ => ("", "", "", false)
def tyJ6 : Nat → FieldType := fun k => match k with
  | _ => .int
theorem nmJ6 : ∀ a, a < 0 → ∀ b, b < 0 → a ≠ b → (TJ6 a).2.1 ≠ (TJ6 b).2.1 := by decide +kernel
theorem tyJ6_ok : ∀ k, k < 0 → parseFieldDescriptor (TJ6 k).2.2.1 = some (tyJ6 k) := by decide +kernel
abbrev cJ6_bitCount_0f7a4 : ByteArray := prog_11_method_49_code
def yJ6_bitCount_0f7a4 : MethodName := ⟨RJ6, "bitCount", "(I)I"⟩
def RJ9 : String := "java/lang/Math"
def TJ9 : u_T := fun k => match k with
  | _ => ("", "", "", false)
def tyJ9 : Nat → FieldType := fun k => match k with
  | _ => .int
theorem nmJ9 : ∀ a, a < 0 → ∀ b, b < 0 → a ≠ b → (TJ9 a).2.1 ≠ (TJ9 b).2.1 := by decide +kernel
theorem tyJ9_ok : ∀ k, k < 0 → parseFieldDescriptor (TJ9 k).2.2.1 = some (tyJ9 k) := by decide +kernel
abbrev cJ9_max_7cf53 : ByteArray := prog_12_method_65_code
def yJ9_max_7cf53 : MethodName := ⟨RJ9, "max", "(II)I"⟩
abbrev cJ9_min_7cf53 : ByteArray := prog_12_method_69_code
def yJ9_min_7cf53 : MethodName := ⟨RJ9, "min", "(II)I"⟩
def RJ10 : String := "java/lang/System"
def TJ10 : u_T := fun k => match k with
  | _ => ("", "", "", false)
def tyJ10 : Nat → FieldType := fun k => match k with
  | _ => .int
theorem nmJ10 : ∀ a, a < 0 → ∀ b, b < 0 → a ≠ b → (TJ10 a).2.1 ≠ (TJ10 b).2.1 := by decide +kernel
theorem tyJ10_ok : ∀ k, k < 0 → parseFieldDescriptor (TJ10 k).2.2.1 = some (tyJ10 k) := by decide +kernel
def RJ7 : String := "java/util/Arrays"
def TJ7 : u_T := fun k => match k with
  | _ => ("", "", "", false)
def tyJ7 : Nat → FieldType := fun k => match k with
  | _ => .int
theorem nmJ7 : ∀ a, a < 0 → ∀ b, b < 0 → a ≠ b → (TJ7 a).2.1 ≠ (TJ7 b).2.1 := by decide +kernel
theorem tyJ7_ok : ∀ k, k < 0 → parseFieldDescriptor (TJ7 k).2.2.1 = some (tyJ7 k) := by decide +kernel
abbrev cJ7_fill_53178 : ByteArray := prog_14_method_103_code
def yJ7_fill_53178 : MethodName := ⟨RJ7, "fill", "([II)V"⟩
def RL : String := "PressSheetsLaw"
end
section
/-! ===== the machine as this proof sees it: values, families of cells, memory =====
A value is an int, a long, or a cell (family, number). A family is a kind of cell of the two objects (the class's and the reference's): how many there are, and either an object
(its class's number, its fields: none is an int, some g the cell of family g of the same number) or an array (its type's number, its length; of ints, or of the cells of family g). No cell is made behind the constructors,
and no reference is ever written there: so a memory is a function from family, number and place to an int. -/
abbrev ps_V : Type := Int32 ⊕ (Int64 ⊕ (Nat × Nat))
abbrev ps_S : Type := Nat → Nat → Nat → Int32
abbrev ps_Sh : Type := Nat × ((Nat × List (Option Nat)) ⊕ (Nat × Nat × Option Nat))
def ps_fams : List ps_Sh := [
  (0, .inr (0, 0, none)),
  (1, .inl (7, [some 2, some 11, some 15, some 19, some 24, some 30, some 36])),
  (1, .inr (3, 6, some 3)),
  (6, .inl (0, [some 4, some 6, some 7, some 8, some 9, none, none, none, some 10, none, none, none])),
  (6, .inr (2, 9, some 5)),
  (54, .inr (0, 6, none)),
  (6, .inr (0, 9, none)),
  (6, .inr (0, 9, none)),
  (6, .inr (0, 9, none)),
  (6, .inr (0, 9, none)),
  (6, .inr (0, 9, none)),
  (1, .inl (5, [some 12, some 13, some 14, none])),
  (1, .inr (0, 512, none)),
  (1, .inr (0, 512, none)),
  (1, .inr (0, 10, none)),
  (1, .inl (3, [some 16, some 17, some 18, none])),
  (1, .inr (0, 4608, none)),
  (1, .inr (0, 81, none)),
  (1, .inr (0, 9, none)),
  (1, .inl (6, [some 20, some 22, some 23, none])),
  (1, .inr (2, 16, some 21)),
  (16, .inr (0, 6, none)),
  (1, .inr (0, 6, none)),
  (1, .inr (0, 6, none)),
  (1, .inl (4, [some 25, some 26, some 27, some 28, some 29, none, none])),
  (1, .inr (0, 64, none)),
  (1, .inr (0, 64, none)),
  (1, .inr (0, 64, none)),
  (1, .inr (0, 6, none)),
  (1, .inr (0, 6, none)),
  (1, .inl (1, [some 31, some 33, some 34, none])),
  (1, .inr (2, 6, some 32)),
  (6, .inr (0, 12, none)),
  (1, .inr (0, 6, none)),
  (1, .inr (2, 6, some 35)),
  (6, .inr (0, 12, none)),
  (1, .inl (2, [some 37, some 39, none, none, none, some 41, some 43, some 45, some 47, none, none])),
  (1, .inr (2, 4, some 38)),
  (4, .inr (0, 6, none)),
  (1, .inr (2, 12, some 40)),
  (12, .inr (0, 12, none)),
  (1, .inr (2, 12, some 42)),
  (12, .inr (0, 4, none)),
  (1, .inr (2, 12, some 44)),
  (12, .inr (0, 4, none)),
  (1, .inr (2, 12, some 46)),
  (12, .inr (0, 4, none)),
  (1, .inr (2, 12, some 48)),
  (12, .inr (0, 4, none)),
  (0, .inr (0, 0, none)),
  (1, .inl (8, [some 51, none, some 53, some 54, some 55, some 56, some 57, some 58, some 59, some 60, some 61, some 62, some 63, none, some 65, some 66, some 67, some 68, some 69, some 70, none, none, none, some 74, some 75, none, some 77, some 78, some 79])),
  (1, .inr (0, 324, none)),
  (0, .inr (0, 0, none)),
  (1, .inr (0, 9, none)),
  (1, .inr (0, 9, none)),
  (1, .inr (0, 512, none)),
  (1, .inr (0, 512, none)),
  (1, .inr (0, 512, none)),
  (1, .inr (1, 486, none)),
  (1, .inr (0, 9, none)),
  (1, .inr (0, 81, none)),
  (1, .inr (0, 4608, none)),
  (1, .inr (0, 4608, none)),
  (1, .inr (0, 96, none)),
  (0, .inr (0, 0, none)),
  (1, .inr (0, 6, none)),
  (1, .inr (0, 6, none)),
  (1, .inr (0, 6, none)),
  (1, .inr (0, 6, none)),
  (1, .inr (0, 72, none)),
  (1, .inr (0, 72, none)),
  (0, .inr (0, 0, none)),
  (0, .inr (0, 0, none)),
  (0, .inr (0, 0, none)),
  (1, .inr (0, 24, none)),
  (1, .inr (0, 144, none)),
  (0, .inr (0, 0, none)),
  (1, .inr (0, 52, none)),
  (1, .inr (0, 52, none)),
  (1, .inr (0, 48, none))]
def ps_sh (f : Nat) : ps_Sh := ps_fams.getD f (0, .inr (0, 0, none))
def ps_cnt (f : Nat) : Nat := (ps_sh f).1
/-- addresses of the cells; the classes' numbers and slots; the array classes' numbers (0 int[], 1 boolean[], 2 int[][], 3 Forme[]) -/
abbrev ps_G : Type := (Nat → Nat → Nat) × va_G × (Nat → ClassId)
def ps_cv (G : ps_G) (v : ps_V) : Value := match v with
  | .inl x => .int x
  | .inr (.inl x) => .long x
  | .inr (.inr q) => .ref (G.1 q.1 q.2)
def ps_ok (v : ps_V) : Prop := match v with
  | .inr (.inr q) => q.2 < ps_cnt q.1 ∨ q.1 = 0
  | _ => True
def ps_fld (G : ps_G) (g : Nat → Int32) (k : Nat) : Nat → Option Nat → Value := fun j t => match t with
  | none => .int (g j)
  | some f' => .ref (G.1 f' k)
def ps_E (G : ps_G) (q : Nat × Nat) (g : Nat → Int32) : va_E := match (ps_sh q.1).2 with
  | .inl (ci, fs) => .inr (ci, fs.mapIdx (ps_fld G g q.2))
  | .inr (ay, n, none) => .inl (G.2.2 ay, n, .inl g)
  | .inr (ay, n, some f') => .inl (G.2.2 ay, n, .inr (.inr (.inr (.inr (fun j => if j < n then some (G.1 f' (n * q.2 + j)) else none)))))
def ps_cells : List (Nat × Nat) := (List.range ps_fams.length).flatMap fun f => (List.range (ps_cnt f)).map fun k => (f, k)
def ps_ws (G : ps_G) (σ : ps_S) : va_W := ps_cells.map fun q => (G.1 q.1 q.2, ps_E G q (σ q.1 q.2))
def ps_up (σ : ps_S) (f k j : Nat) (x : Int32) : ps_S := fun f' k' j' => if f' = f ∧ k' = k ∧ j' = j then x else σ f' k' j'
def ps_A (G : ps_G) : Nat → Prop := fun a => ∃ q ∈ ps_cells, a = G.1 q.1 q.2
abbrev ps_cls : List vw_C := [(RX0, TX0, 12), (RX1, TX1, 4), (RX2, TX2, 11), (RX3, TX3, 4), (RX4, TX4, 7), (RX5, TX5, 4), (RX6, TX6, 4), (RX7, TX7, 7), (RX8, TX8, 29)]
def ps_tys (G : ps_G) : List (ClassId × FieldType) := [(G.2.2 0, .int), (G.2.2 1, .boolean), (G.2.2 2, .array .int), (G.2.2 3, .object "PressSheets$Forme")]
theorem ps_mem {f k : Nat} (h : k < ps_cnt f) : (f, k) ∈ ps_cells := by
  refine List.mem_flatMap.mpr ⟨f, List.mem_range.mpr ?_, List.mem_map.mpr ⟨k, List.mem_range.mpr h, rfl⟩⟩
  rcases Nat.lt_or_ge f ps_fams.length with q | q
  · exact q
  · exfalso
    have e : ps_cnt f = 0 := by
      unfold ps_cnt ps_sh
      simp [List.getD, List.getElem?_eq_none q]
    omega
theorem ps_mem_iff {f k : Nat} (h : (f, k) ∈ ps_cells) : k < ps_cnt f := by
  obtain ⟨f', -, h2⟩ := List.mem_flatMap.mp h
  obtain ⟨k', h3, h4⟩ := List.mem_map.mp h2
  cases h4
  exact List.mem_range.mp h3
set_option maxRecDepth 100000 in
theorem ps_nodup : ps_cells.Nodup := by decide +kernel
theorem ps_idx {f k : Nat} (h : k < ps_cnt f) : ∃ i : Nat, ps_cells[i]? = some (f, k) := List.getElem?_of_mem (ps_mem h)
theorem ps_ws_at {G : ps_G} {σ : ps_S} {i : Nat} {q : Nat × Nat} (h : ps_cells[i]? = some q) : (ps_ws G σ)[i]? = some (G.1 q.1 q.2, ps_E G q (σ q.1 q.2)) := by
  unfold ps_ws
  rw [List.getElem?_map, h]
  rfl
theorem ps_up_ne {σ : ps_S} {f k j f' k' : Nat} {x : Int32} (h : ¬ (f' = f ∧ k' = k)) : ps_up σ f k j x f' k' = σ f' k' := by
  funext j'
  unfold ps_up
  rw [if_neg (fun q => h ⟨q.1, q.2.1⟩)]
theorem ps_up_eq {σ : ps_S} {f k j : Nat} {x : Int32} : ps_up σ f k j x f k = upd (σ f k) j x := by
  funext j'
  unfold ps_up upd
  by_cases e : j' = j
  · rw [if_pos e, if_pos ⟨rfl, rfl, e⟩]
  · rw [if_neg e, if_neg (fun q => e q.2.2)]
theorem ps_ws_set {G : ps_G} {σ : ps_S} {i f k j : Nat} {x : Int32} {e : va_E} (h : ps_cells[i]? = some (f, k)) (he : e = ps_E G (f, k) (upd (σ f k) j x)) : (ps_ws G σ).set i (G.1 f k, e) = ps_ws G (ps_up σ f k j x) := by
  apply List.ext_getElem?
  intro i'
  by_cases hi : i' = i
  · subst hi
    rw [ps_ws_at h, ps_up_eq, ← he]
    have hl : i' < (ps_ws G σ).length := by
      unfold ps_ws
      rw [List.length_map]
      exact (List.getElem?_eq_some_iff.mp h).1
    rw [List.getElem?_set_self hl]
  · rw [List.getElem?_set_ne (fun q => hi q.symm)]
    unfold ps_ws
    rw [List.getElem?_map, List.getElem?_map]
    cases hq : ps_cells[i']? with
    | none => rfl
    | some q =>
      show some (G.1 q.1 q.2, ps_E G q (σ q.1 q.2)) = some (G.1 q.1 q.2, ps_E G q (ps_up σ f k j x q.1 q.2))
      rw [ps_up_ne (σ := σ) (f := f) (k := k) (j := j) (x := x) (f' := q.1) (k' := q.2)]
      rintro ⟨e1, e2⟩
      have e3 : q = (f, k) := by rw [← e1, ← e2]
      subst e3
      exact hi ((List.getElem?_inj (List.getElem?_eq_some_iff.mp hq).1 ps_nodup).mp (hq.trans h.symm))
theorem ps_ws_len (G : ps_G) (σ : ps_S) : (ps_ws G σ).length = ps_cells.length := List.length_map ..
/-- the cells are apart: said of the addresses alone -/
theorem ps_D_of {G : ps_G} {σ σ' : ps_S} {A : Nat → Prop} (h : va_D A (ps_ws G σ)) : va_D A (ps_ws G σ') := by
  have at' : ∀ {k : Nat} {q : Nat × va_E}, (ps_ws G σ')[k]? = some q → ∃ e, (ps_ws G σ)[k]? = some (q.1, e) := by
    intro k q hq
    unfold ps_ws at hq ⊢
    rw [List.getElem?_map] at hq ⊢
    cases hc : ps_cells[k]? with
    | none => rw [hc] at hq; cases hq
    | some c =>
      rw [hc] at hq
      cases hq
      exact ⟨_, rfl⟩
  refine ⟨fun i j p q hi hj hpq => ?_, fun k q hk => ?_⟩
  · obtain ⟨e1, h1⟩ := at' hi
    obtain ⟨e2, h2⟩ := at' hj
    exact h.1 i j _ _ h1 h2 hpq
  · obtain ⟨e1, h1⟩ := at' hk
    exact h.2 k (q.1, e1) h1
end
section
/-! ===== methods, and what holds at a place of a method =====
ps_M: own class, name, bytes, locals, answer's type, cells and slots that stand for the room, the script (the law's alone) -/
abbrev ps_M : Type := String × MethodName × ByteArray × Nat × Option FieldType × (Nat × Nat) × Option (Nat × (Nat → Int32))
abbrev ps_own (M : ps_M) : String := M.1
abbrev ps_y (M : ps_M) : MethodName := M.2.1
abbrev ps_code (M : ps_M) : ByteArray := M.2.2.1
abbrev ps_maxL (M : ps_M) : Nat := M.2.2.2.1
abbrev ps_ret (M : ps_M) : Option FieldType := M.2.2.2.2.1
abbrev ps_cs (M : ps_M) : Nat := M.2.2.2.2.2.1.1
abbrev ps_ss (M : ps_M) : Nat := M.2.2.2.2.2.1.2
abbrev ps_sc (M : ps_M) : Option (Nat × (Nat → Int32)) := M.2.2.2.2.2.2
abbrev ps_L : Type := List (Option ps_V)
def ps_LR (G : ps_G) (ls : Array Slot) (n : Nat) (L : ps_L) : Prop := ls.size = n ∧ lv_wf ls ∧ ∀ (i : Nat) (v : ps_V), L[i]? = some (some v) → ls[i]? = some (.val (ps_cv G v)) ∧ (ps_cv G v).category = 1 ∧ ps_ok v
def ps_SX (G : ps_G) (s : State) (X : Option (Nat × (Nat → Int32))) : Prop := match X with
  | none => True
  | some q => ¬ ps_A G (G.1 0 0) ∧ G.1 0 0 < s.heap.size ∧ va_X (G.1 0 0) q.1 q.2 s s.heap
/-- links to fields of nest mates: these words aren't carried by a contract's own list -/
def ps_nest (U : State) : Prop := ∀ (a : String) (i : Nat) (b n d h : String), Cond.fieldLinkNest a i b n d h ∈ lw_tbl → va_Nw (.fieldLinkNest a i b n d h) U
def ps_Cx (M : ps_M) (d : Nat) (G : ps_G) (p : Program) (R : Room) (s : State) (m : MethodId) (args : Array Value) (meth : Method) (c : Code) : Prop :=
  p.tables.exec = Jvm.exec ∧ c.code = ps_code M ∧ c.maxLocals = ps_maxL M ∧ meth.sig.returnType = ps_ret M ∧ s.vm.findClass (ps_own M) = some m.cls ∧ (∀ w ∈ lw_tbl, goodWord w = true → w.before args s = true) ∧ meth.locks = false ∧
  (d ≤ R.frames ∧ 40 * d ≤ R.locals ∧ ps_cs M ≤ R.cells ∧ ps_ss M ≤ R.slots) ∧ va_K G.2.1 ps_cls (ps_tys G) s ∧ ps_SX G s (ps_sc M) ∧ ps_nest s
/-- what a place of a method may rely on -/
def ps_I (M : ps_M) (d : Nat) (G : ps_G) (p : Program) (R : Room) (s : State) (m : MethodId) (args : Array Value) (meth : Method) (c : Code) (H : Heap) (locs : List Loc) (ls : Array Slot) (L : ps_L) (st : List ps_V) (σ : ps_S) : Prop :=
  ps_Cx M d G p R s m args meth c ∧ ps_LR G ls (ps_maxL M) L ∧ (∀ v ∈ st, ps_ok v) ∧ va_P G.2.1 ps_cls (ps_ws G σ) H ∧ va_D (ps_A G) (ps_ws G σ) ∧ va_S (ps_A G) s.heap H locs
abbrev ps_F : Type := ps_G → State → Array Value → List Frame → State → Prop
/-- from this place, with these locals, this stack and this memory, the method comes to its end as told -/
def ps_K (M : ps_M) (d : Nat) (F : ps_F) (pc : Nat) (L : ps_L) (st : List ps_V) (σ : ps_S) : Prop :=
  ∀ (G : ps_G) (p : Program) (l : Launch) (e : Env) (R : Room) (s : State) (m : MethodId) (args : Array Value) (below : List Frame) (meth : Method) (c : Code) (H : Heap) (locs : List Loc) (ls : Array Slot),
    ps_I M d G p R s m args meth c H locs ls L st σ → W p l e R s m args below meth c H locs (ps_cs M) (ps_ss M) (F G s args below) (F0 m pc ls (st.map (ps_cv G)))
/-- a method's end: its answer and the memory are as told -/
def ps_Qc (G : ps_G) (Q : Option ps_V → ps_S → Prop) : Array Value → State → Outcome → State → Prop := fun _ st oc t =>
  (∃ (r : Option ps_V) (σ : ps_S), oc = .returned (r.map (ps_cv G)) ∧ (∀ v, r = some v → ps_ok v) ∧ Q r σ ∧ va_P G.2.1 ps_cls (ps_ws G σ) t.heap) ∧ va_F (ps_A G) st t
def ps_QF (Q : Option ps_V → ps_S → Prop) : ps_F := fun G s args below => MQ below (ps_Qc G Q) args s 0 0 (ps_A G)
def ps_words (M : ps_M) : List Cond := .code (ps_y M) (ps_code M) (ps_maxL M) (ps_ret M) :: lw_tbl.filter goodWord
abbrev ps_rm (d : Nat) : Room := { frames := d, cells := 0, slots := 0, locals := 40 * d }
def ps_Pre (G : ps_G) (σ : ps_S) (U : State) : Prop := va_P G.2.1 ps_cls (ps_ws G σ) U.heap ∧ va_K G.2.1 ps_cls (ps_tys G) U ∧ va_D (ps_A G) (ps_ws G σ) ∧ ps_nest U
/-- a method's contract: with these arguments in this memory it ends, within d frames, as told -/
def ps_C (M : ps_M) (d : Nat) (av : List ps_V) (σ : ps_S) (Q : Option ps_V → ps_S → Prop) : Prop :=
  (∀ v ∈ av, ps_ok v) → ∀ (G : ps_G) (l : Launch), Met l (ps_y M) (ps_words M) (ps_rm d) (va_Pc (av.map (ps_cv G)) (ps_Pre G σ)) (ps_Qc G Q) 0 0 (ps_A G)
theorem ps_goodIn {M : ps_M} (h : Cond.code (ps_y M) (ps_code M) (ps_maxL M) (ps_ret M) ∈ lw_tbl) : GoodIn (lw_tbl.filter goodWord) (ps_words M) := by
  intro w hw
  rcases List.mem_cons.mp hw with e | hw
  · subst e
    exact ⟨List.mem_filter.mpr ⟨h, rfl⟩, Or.inl rfl⟩
  · exact ⟨hw, good_of_word (List.mem_filter.mp hw).2⟩
section PSK
variable {M : ps_M} {d pc : Nat} {F : ps_F} {L L' : ps_L} {st : List ps_V} {σ : ps_S}
theorem ps_I.to {G : ps_G} {p : Program} {R : Room} {s : State} {m : MethodId} {args : Array Value} {meth : Method} {c : Code} {H : Heap} {locs : List Loc} {ls : Array Slot} {st' : List ps_V} (h : ps_I M d G p R s m args meth c H locs ls L st σ) (hs : ∀ v ∈ st', ps_ok v) : ps_I M d G p R s m args meth c H locs ls L st' σ :=
  ⟨h.1, h.2.1, hs, h.2.2.2⟩
theorem ps_ok_i {x : Int32} (h : ∀ v ∈ st, ps_ok v) : ∀ v ∈ ((.inl x : ps_V) :: st), ps_ok v := fun v hv => by
  rcases List.mem_cons.mp hv with e | q
  · subst e; exact trivial
  · exact h v q
theorem ps_ok_l {x : Int64} (h : ∀ v ∈ st, ps_ok v) : ∀ v ∈ ((.inr (.inl x) : ps_V) :: st), ps_ok v := fun v hv => by
  rcases List.mem_cons.mp hv with e | q
  · subst e; exact trivial
  · exact h v q
theorem ps_ok_c {v0 : ps_V} (h0 : ps_ok v0) (h : ∀ v ∈ st, ps_ok v) : ∀ v ∈ (v0 :: st), ps_ok v := fun v hv => by
  rcases List.mem_cons.mp hv with e | q
  · subst e; exact h0
  · exact h v q
theorem ps_ok_t {v0 : ps_V} (h : ∀ v ∈ (v0 :: st), ps_ok v) : ∀ v ∈ st, ps_ok v := fun v hv => h v (List.mem_cons_of_mem _ hv)
theorem ps_ok_t2 {v0 v1 : ps_V} (h : ∀ v ∈ (v0 :: v1 :: st), ps_ok v) : ∀ v ∈ st, ps_ok v := ps_ok_t (ps_ok_t h)
-- constants
theorem ps_iconst {n : Int} {x : Int32} (hd : decode (ps_code M) pc = .ok (.iconst n, 1)) (hv : Int32.ofInt n = x) (k : ps_K M d F (pc + 1) L (.inl x :: st) σ) : ps_K M d F pc L st σ :=
  fun G p l e R s m args below meth c H locs ls hI => lv_iconst hI.1.1 hI.1.2.1 hd hv (k G p l e R s m args below meth c H locs ls (hI.to (ps_ok_i hI.2.2.1)))
theorem ps_bipush {n : Int} {x : Int32} (hd : decode (ps_code M) pc = .ok (.bipush n, 2)) (hv : (Int8.ofInt n).toInt32 = x) (k : ps_K M d F (pc + 2) L (.inl x :: st) σ) : ps_K M d F pc L st σ :=
  fun G p l e R s m args below meth c H locs ls hI => lv_bipush hI.1.1 hI.1.2.1 hd hv (k G p l e R s m args below meth c H locs ls (hI.to (ps_ok_i hI.2.2.1)))
theorem ps_sipush {n : Int} {x : Int32} (hd : decode (ps_code M) pc = .ok (.sipush n, 3)) (hv : (Int16.ofInt n).toInt32 = x) (k : ps_K M d F (pc + 3) L (.inl x :: st) σ) : ps_K M d F pc L st σ :=
  fun G p l e R s m args below meth c H locs ls hI => lv_sipush hI.1.1 hI.1.2.1 hd hv (k G p l e R s m args below meth c H locs ls (hI.to (ps_ok_i hI.2.2.1)))
theorem ps_ldc {index : Nat} {x : Int32} (hd : decode (ps_code M) pc = .ok (.ldc index, 2)) (hw : Cond.constant (ps_own M) index x ∈ lw_tbl) (k : ps_K M d F (pc + 2) L (.inl x :: st) σ) : ps_K M d F pc L st σ :=
  fun G p l e R s m args below meth c H locs ls hI => lv_ldc hI.1.1 hI.1.2.1 hI.1.2.2.2.2.1 (hI.1.2.2.2.2.2.1 _ hw rfl) hd (k G p l e R s m args below meth c H locs ls (hI.to (ps_ok_i hI.2.2.1)))
theorem ps_ldcw {index : Nat} {x : Int32} (hd : decode (ps_code M) pc = .ok (.ldc_w index, 3)) (hw : Cond.constant (ps_own M) index x ∈ lw_tbl) (k : ps_K M d F (pc + 3) L (.inl x :: st) σ) : ps_K M d F pc L st σ :=
  fun G p l e R s m args below meth c H locs ls hI => lv_ldcw hI.1.1 hI.1.2.1 hI.1.2.2.2.2.1 (hI.1.2.2.2.2.2.1 _ hw rfl) hd (k G p l e R s m args below meth c H locs ls (hI.to (ps_ok_i hI.2.2.1)))
theorem ps_ldc2 {index : Nat} {x : Int64} (hd : decode (ps_code M) pc = .ok (.ldc2_w index, 3)) (hw : Cond.constantLong (ps_own M) index x ∈ lw_tbl) (k : ps_K M d F (pc + 3) L (.inr (.inl x) :: st) σ) : ps_K M d F pc L st σ :=
  fun G p l e R s m args below meth c H locs ls hI => lv_ldc2 hI.1.1 hI.1.2.1 hI.1.2.2.2.2.1 (hI.1.2.2.2.2.2.1 _ hw rfl) hd (k G p l e R s m args below meth c H locs ls (hI.to (ps_ok_l hI.2.2.1)))
theorem ps_lconst {n : Fin 2} {x : Int64} (hd : decode (ps_code M) pc = .ok (.lconst n, 1)) (hv : Int64.ofNat (n : Nat) = x) (k : ps_K M d F (pc + 1) L (.inr (.inl x) :: st) σ) : ps_K M d F pc L st σ :=
  fun G p l e R s m args below meth c H locs ls hI => lv_lconst hI.1.1 hI.1.2.1 hd hv (k G p l e R s m args below meth c H locs ls (hI.to (ps_ok_l hI.2.2.1)))
theorem ps_i2l {x : Int32} (hd : decode (ps_code M) pc = .ok (.i2l, 1)) (k : ps_K M d F (pc + 1) L (.inr (.inl x.toInt64) :: st) σ) : ps_K M d F pc L (.inl x :: st) σ :=
  fun G p l e R s m args below meth c H locs ls hI => lv_i2l hI.1.1 hI.1.2.1 hd rfl (k G p l e R s m args below meth c H locs ls (hI.to (ps_ok_l (ps_ok_t hI.2.2.1))))
-- locals
theorem ps_iload_n {n : Fin 4} {i : Nat} {x : Int32} (hd : decode (ps_code M) pc = .ok (.iload_n n, 1)) (hi : (n : Nat) = i) (hl : L[i]? = some (some (.inl x))) (k : ps_K M d F (pc + 1) L (.inl x :: st) σ) : ps_K M d F pc L st σ :=
  fun G p l e R s m args below meth c H locs ls hI => lv_iload_n hI.1.1 hI.1.2.1 hd hi (hI.2.1.2.2 i _ hl).1 (k G p l e R s m args below meth c H locs ls (hI.to (ps_ok_i hI.2.2.1)))
theorem ps_iload {i : Nat} {x : Int32} (hd : decode (ps_code M) pc = .ok (.iload i, 2)) (hl : L[i]? = some (some (.inl x))) (k : ps_K M d F (pc + 2) L (.inl x :: st) σ) : ps_K M d F pc L st σ :=
  fun G p l e R s m args below meth c H locs ls hI => lv_iload hI.1.1 hI.1.2.1 hd (hI.2.1.2.2 i _ hl).1 (k G p l e R s m args below meth c H locs ls (hI.to (ps_ok_i hI.2.2.1)))
theorem ps_aload_n {n : Fin 4} {i : Nat} {q : Nat × Nat} (hd : decode (ps_code M) pc = .ok (.aload_n n, 1)) (hi : (n : Nat) = i) (hl : L[i]? = some (some (.inr (.inr q)))) (k : ps_K M d F (pc + 1) L (.inr (.inr q) :: st) σ) : ps_K M d F pc L st σ :=
  fun G p l e R s m args below meth c H locs ls hI => lv_aload_n hI.1.1 hI.1.2.1 hd hi (hI.2.1.2.2 i _ hl).1 (k G p l e R s m args below meth c H locs ls (hI.to (ps_ok_c (hI.2.1.2.2 i _ hl).2.2 hI.2.2.1)))
theorem ps_LR_set {G : ps_G} {ls ls' : Array Slot} {n i : Nat} {v : ps_V} (h : ps_LR G ls n L) (hc : (ps_cv G v).category = 1) (ho : ps_ok v) (hl : L.set i (some v) = L') {w : Value} (hw : w = ps_cv G v)
    (h' : lv_has ls' n ((i, w) :: (((List.range n).filterMap (fun j => match L[j]? with | some (some u) => some (j, ps_cv G u) | _ => none)).filter (fun q => !(q.1 == i) && !(q.1 + 1 == i && q.2.category == 2))))) : ps_LR G ls' n L' := by
  subst hl
  subst hw
  refine ⟨h'.1, h'.2.1, fun j u hj => ?_⟩
  by_cases e : i = j
  · subst e
    have hlt : i < L.length := by
      have := (List.getElem?_eq_some_iff.mp hj).1
      rwa [List.length_set] at this
    rw [List.getElem?_set_self hlt] at hj
    cases hj
    exact ⟨h'.2.2 (i, ps_cv G v) List.mem_cons_self, hc, ho⟩
  · rw [List.getElem?_set_ne e] at hj
    obtain ⟨g1, g2, g3⟩ := h.2.2 j u hj
    refine ⟨h'.2.2 (j, ps_cv G u) (List.mem_cons_of_mem _ (List.mem_filter.mpr ⟨List.mem_filterMap.mpr ⟨j, List.mem_range.mpr ?_, ?_⟩, ?_⟩)), g2, g3⟩
    · rw [← h.1]
      exact lv_lt g1
    · simp [hj]
    · have e2 : j ≠ i := fun q => e q.symm
      simp [g2, e2]
theorem ps_LR_has {G : ps_G} {ls : Array Slot} {n : Nat} (h : ps_LR G ls n L) : lv_has ls n ((List.range n).filterMap (fun j => match L[j]? with | some (some u) => some (j, ps_cv G u) | _ => none)) := by
  refine ⟨h.1, h.2.1, fun q hq => ?_⟩
  obtain ⟨j, -, hj⟩ := List.mem_filterMap.mp hq
  cases hL : L[j]? with
  | none => rw [hL] at hj; cases hj
  | some o =>
    cases o with
    | none => rw [hL] at hj; cases hj
    | some u =>
      rw [hL] at hj
      cases hj
      exact (h.2.2 j u hL).1
theorem ps_istore_n {n : Fin 4} {i : Nat} {x : Int32} (hd : decode (ps_code M) pc = .ok (.istore_n n, 1)) (hi : (n : Nat) = i) (hn : i < ps_maxL M) (hl : L.set i (some (.inl x)) = L') (k : ps_K M d F (pc + 1) L' st σ) : ps_K M d F pc L (.inl x :: st) σ :=
  fun G p l e R s m args below meth c H locs ls hI => lv_istore_n hI.1.1 hI.1.2.1 hd hi (ps_LR_has hI.2.1) hn rfl (fun ls' h' => k G p l e R s m args below meth c H locs ls' ⟨hI.1, ps_LR_set (v := .inl x) hI.2.1 rfl trivial hl rfl h', ps_ok_t hI.2.2.1, hI.2.2.2⟩)
theorem ps_istore {i : Nat} {x : Int32} (hd : decode (ps_code M) pc = .ok (.istore i, 2)) (hn : i < ps_maxL M) (hl : L.set i (some (.inl x)) = L') (k : ps_K M d F (pc + 2) L' st σ) : ps_K M d F pc L (.inl x :: st) σ :=
  fun G p l e R s m args below meth c H locs ls hI => lv_istore hI.1.1 hI.1.2.1 hd (ps_LR_has hI.2.1) hn rfl (fun ls' h' => k G p l e R s m args below meth c H locs ls' ⟨hI.1, ps_LR_set (v := .inl x) hI.2.1 rfl trivial hl rfl h', ps_ok_t hI.2.2.1, hI.2.2.2⟩)
theorem ps_astore_n {n : Fin 4} {i : Nat} {q : Nat × Nat} (hd : decode (ps_code M) pc = .ok (.astore_n n, 1)) (hi : (n : Nat) = i) (hn : i < ps_maxL M) (hl : L.set i (some (.inr (.inr q))) = L') (k : ps_K M d F (pc + 1) L' st σ) : ps_K M d F pc L (.inr (.inr q) :: st) σ :=
  fun G p l e R s m args below meth c H locs ls hI => lv_astore_n hI.1.1 hI.1.2.1 hd hi (ps_LR_has hI.2.1) hn rfl (fun ls' h' => k G p l e R s m args below meth c H locs ls' ⟨hI.1, ps_LR_set (v := .inr (.inr q)) hI.2.1 rfl (hI.2.2.1 _ List.mem_cons_self) hl rfl h', ps_ok_t hI.2.2.1, hI.2.2.2⟩)
theorem ps_iinc {i : Nat} {n : Int} {x y : Int32} (hd : decode (ps_code M) pc = .ok (.iinc i n, 3)) (hx : L[i]? = some (some (.inl x))) (hn : i < ps_maxL M) (hv : Int32.ofInt n = y) (hl : L.set i (some (.inl (x + y))) = L') (k : ps_K M d F (pc + 3) L' st σ) : ps_K M d F pc L st σ :=
  fun G p l e R s m args below meth c H locs ls hI => by
    obtain ⟨k0, hk0⟩ := List.getElem?_of_mem (show ((i, Value.int x) : Nat × Value) ∈ ((List.range (ps_maxL M)).filterMap (fun j => match L[j]? with | some (some u) => some (j, ps_cv G u) | _ => none)) from List.mem_filterMap.mpr ⟨i, List.mem_range.mpr hn, by rw [hx]; rfl⟩)
    exact lv_iinc hI.1.1 hI.1.2.1 hd (ps_LR_has hI.2.1) hk0 rfl hn rfl (fun ls' h' => k G p l e R s m args below meth c H locs ls' ⟨hI.1, ps_LR_set (v := .inl (x + y)) hI.2.1 rfl trivial hl (by rw [← hv]; rfl) h', hI.2.2⟩)
-- arithmetic
theorem ps_iadd {x y : Int32} (hd : decode (ps_code M) pc = .ok (.iadd, 1)) (k : ps_K M d F (pc + 1) L (.inl (x + y) :: st) σ) : ps_K M d F pc L (.inl y :: .inl x :: st) σ :=
  fun G p l e R s m args below meth c H locs ls hI => lv_iadd hI.1.1 hI.1.2.1 hd (k G p l e R s m args below meth c H locs ls (hI.to (ps_ok_i (ps_ok_t2 hI.2.2.1))))
theorem ps_isub {x y : Int32} (hd : decode (ps_code M) pc = .ok (.isub, 1)) (k : ps_K M d F (pc + 1) L (.inl (x - y) :: st) σ) : ps_K M d F pc L (.inl y :: .inl x :: st) σ :=
  fun G p l e R s m args below meth c H locs ls hI => lv_isub hI.1.1 hI.1.2.1 hd (k G p l e R s m args below meth c H locs ls (hI.to (ps_ok_i (ps_ok_t2 hI.2.2.1))))
theorem ps_imul {x y : Int32} (hd : decode (ps_code M) pc = .ok (.imul, 1)) (k : ps_K M d F (pc + 1) L (.inl (x * y) :: st) σ) : ps_K M d F pc L (.inl y :: .inl x :: st) σ :=
  fun G p l e R s m args below meth c H locs ls hI => lv_imul hI.1.1 hI.1.2.1 hd (k G p l e R s m args below meth c H locs ls (hI.to (ps_ok_i (ps_ok_t2 hI.2.2.1))))
theorem ps_iand {x y : Int32} (hd : decode (ps_code M) pc = .ok (.iand, 1)) (k : ps_K M d F (pc + 1) L (.inl (x &&& y) :: st) σ) : ps_K M d F pc L (.inl y :: .inl x :: st) σ :=
  fun G p l e R s m args below meth c H locs ls hI => lv_iand hI.1.1 hI.1.2.1 hd (k G p l e R s m args below meth c H locs ls (hI.to (ps_ok_i (ps_ok_t2 hI.2.2.1))))
theorem ps_ior {x y : Int32} (hd : decode (ps_code M) pc = .ok (.ior, 1)) (k : ps_K M d F (pc + 1) L (.inl (x ||| y) :: st) σ) : ps_K M d F pc L (.inl y :: .inl x :: st) σ :=
  fun G p l e R s m args below meth c H locs ls hI => lv_ior hI.1.1 hI.1.2.1 hd (k G p l e R s m args below meth c H locs ls (hI.to (ps_ok_i (ps_ok_t2 hI.2.2.1))))
theorem ps_ixor {x y : Int32} (hd : decode (ps_code M) pc = .ok (.ixor, 1)) (k : ps_K M d F (pc + 1) L (.inl (x ^^^ y) :: st) σ) : ps_K M d F pc L (.inl y :: .inl x :: st) σ :=
  fun G p l e R s m args below meth c H locs ls hI => lv_ixor hI.1.1 hI.1.2.1 hd (k G p l e R s m args below meth c H locs ls (hI.to (ps_ok_i (ps_ok_t2 hI.2.2.1))))
end PSK
end
section
/-! ===== the rules, a row an instruction (2) ===== -/
section PSL
variable {M : ps_M} {d pc : Nat} {F : ps_F} {L L' : ps_L} {st : List ps_V} {σ : ps_S}
theorem ps_idiv {x y : Int32} (hd : decode (ps_code M) pc = .ok (.idiv, 1)) (hn : ¬ y = 0) (k : ps_K M d F (pc + 1) L (.inl (x / y) :: st) σ) : ps_K M d F pc L (.inl y :: .inl x :: st) σ :=
  fun G p l e R s m args below meth c H locs ls hI => lv_idiv hI.1.1 hI.1.2.1 hd hn (k G p l e R s m args below meth c H locs ls (hI.to (ps_ok_i (ps_ok_t2 hI.2.2.1))))
theorem ps_irem {x y : Int32} (hd : decode (ps_code M) pc = .ok (.irem, 1)) (hn : ¬ y = 0) (k : ps_K M d F (pc + 1) L (.inl (x - x / y * y) :: st) σ) : ps_K M d F pc L (.inl y :: .inl x :: st) σ :=
  fun G p l e R s m args below meth c H locs ls hI => lv_irem hI.1.1 hI.1.2.1 hd hn (k G p l e R s m args below meth c H locs ls (hI.to (ps_ok_i (ps_ok_t2 hI.2.2.1))))
theorem ps_ishl {x y : Int32} (hd : decode (ps_code M) pc = .ok (.ishl, 1)) (k : ps_K M d F (pc + 1) L (.inl (x <<< (y &&& 31)) :: st) σ) : ps_K M d F pc L (.inl y :: .inl x :: st) σ :=
  fun G p l e R s m args below meth c H locs ls hI => lv_ishl hI.1.1 hI.1.2.1 hd (k G p l e R s m args below meth c H locs ls (hI.to (ps_ok_i (ps_ok_t2 hI.2.2.1))))
theorem ps_ishr {x y : Int32} (hd : decode (ps_code M) pc = .ok (.ishr, 1)) (k : ps_K M d F (pc + 1) L (.inl (x >>> (y &&& 31)) :: st) σ) : ps_K M d F pc L (.inl y :: .inl x :: st) σ :=
  fun G p l e R s m args below meth c H locs ls hI => lv_ishr hI.1.1 hI.1.2.1 hd (k G p l e R s m args below meth c H locs ls (hI.to (ps_ok_i (ps_ok_t2 hI.2.2.1))))
theorem ps_iushr {x y : Int32} (hd : decode (ps_code M) pc = .ok (.iushr, 1)) (k : ps_K M d F (pc + 1) L (.inl ((x.toUInt32 >>> (y.toUInt32 &&& Int32.toUInt32 31)).toInt32) :: st) σ) : ps_K M d F pc L (.inl y :: .inl x :: st) σ :=
  fun G p l e R s m args below meth c H locs ls hI => lv_iushr hI.1.1 hI.1.2.1 hd rfl (k G p l e R s m args below meth c H locs ls (hI.to (ps_ok_i (ps_ok_t2 hI.2.2.1))))
theorem ps_ineg {x : Int32} (hd : decode (ps_code M) pc = .ok (.ineg, 1)) (k : ps_K M d F (pc + 1) L (.inl (-x) :: st) σ) : ps_K M d F pc L (.inl x :: st) σ :=
  fun G p l e R s m args below meth c H locs ls hI => lv_ineg hI.1.1 hI.1.2.1 hd (k G p l e R s m args below meth c H locs ls (hI.to (ps_ok_i (ps_ok_t hI.2.2.1))))
theorem ps_dup_i {x : Int32} (hd : decode (ps_code M) pc = .ok (.dup, 1)) (k : ps_K M d F (pc + 1) L (.inl x :: .inl x :: st) σ) : ps_K M d F pc L (.inl x :: st) σ :=
  fun G p l e R s m args below meth c H locs ls hI => lv_dup hI.1.1 hI.1.2.1 hd rfl (k G p l e R s m args below meth c H locs ls (hI.to (ps_ok_i hI.2.2.1)))
theorem ps_dup_r {q : Nat × Nat} (hd : decode (ps_code M) pc = .ok (.dup, 1)) (k : ps_K M d F (pc + 1) L (.inr (.inr q) :: .inr (.inr q) :: st) σ) : ps_K M d F pc L (.inr (.inr q) :: st) σ :=
  fun G p l e R s m args below meth c H locs ls hI => lv_dup hI.1.1 hI.1.2.1 hd rfl (k G p l e R s m args below meth c H locs ls (hI.to (ps_ok_c (hI.2.2.1 _ List.mem_cons_self) hI.2.2.1)))
theorem ps_dup2 {x : Int32} {q : Nat × Nat} (hd : decode (ps_code M) pc = .ok (.dup2, 1)) (k : ps_K M d F (pc + 1) L (.inl x :: .inr (.inr q) :: .inl x :: .inr (.inr q) :: st) σ) : ps_K M d F pc L (.inl x :: .inr (.inr q) :: st) σ :=
  fun G p l e R s m args below meth c H locs ls hI => lv_dup2_11 hI.1.1 hI.1.2.1 hd rfl rfl (k G p l e R s m args below meth c H locs ls (hI.to (ps_ok_i (ps_ok_c (hI.2.2.1 _ (List.mem_cons_of_mem _ List.mem_cons_self)) hI.2.2.1))))
theorem ps_if_eq {x : Int32} {off : Int} {tgt : Nat} (hd : decode (ps_code M) pc = .ok (.ifCond .eq off, 3)) (ht : (pc : Int) + off = (tgt : Int)) (kt : x = 0 → ps_K M d F tgt L st σ) (kf : ¬ x = 0 → ps_K M d F (pc + 3) L st σ) : ps_K M d F pc L (.inl x :: st) σ :=
  fun G p l e R s m args below meth c H locs ls hI => lv_if_eq hI.1.1 hI.1.2.1 hd ht (fun h => kt h G p l e R s m args below meth c H locs ls (hI.to (ps_ok_t hI.2.2.1))) (fun h => kf h G p l e R s m args below meth c H locs ls (hI.to (ps_ok_t hI.2.2.1)))
theorem ps_icmp_eq {x y : Int32} {off : Int} {tgt : Nat} (hd : decode (ps_code M) pc = .ok (.if_icmp .eq off, 3)) (ht : (pc : Int) + off = (tgt : Int)) (kt : x = y → ps_K M d F tgt L st σ) (kf : ¬ x = y → ps_K M d F (pc + 3) L st σ) : ps_K M d F pc L (.inl y :: .inl x :: st) σ :=
  fun G p l e R s m args below meth c H locs ls hI => lv_icmp_eq hI.1.1 hI.1.2.1 hd ht (fun h => kt h G p l e R s m args below meth c H locs ls (hI.to (ps_ok_t2 hI.2.2.1))) (fun h => kf h G p l e R s m args below meth c H locs ls (hI.to (ps_ok_t2 hI.2.2.1)))
theorem ps_if_ne {x : Int32} {off : Int} {tgt : Nat} (hd : decode (ps_code M) pc = .ok (.ifCond .ne off, 3)) (ht : (pc : Int) + off = (tgt : Int)) (kt : ¬ x = 0 → ps_K M d F tgt L st σ) (kf : x = 0 → ps_K M d F (pc + 3) L st σ) : ps_K M d F pc L (.inl x :: st) σ :=
  fun G p l e R s m args below meth c H locs ls hI => lv_if_ne hI.1.1 hI.1.2.1 hd ht (fun h => kt h G p l e R s m args below meth c H locs ls (hI.to (ps_ok_t hI.2.2.1))) (fun h => kf h G p l e R s m args below meth c H locs ls (hI.to (ps_ok_t hI.2.2.1)))
theorem ps_icmp_ne {x y : Int32} {off : Int} {tgt : Nat} (hd : decode (ps_code M) pc = .ok (.if_icmp .ne off, 3)) (ht : (pc : Int) + off = (tgt : Int)) (kt : ¬ x = y → ps_K M d F tgt L st σ) (kf : x = y → ps_K M d F (pc + 3) L st σ) : ps_K M d F pc L (.inl y :: .inl x :: st) σ :=
  fun G p l e R s m args below meth c H locs ls hI => lv_icmp_ne hI.1.1 hI.1.2.1 hd ht (fun h => kt h G p l e R s m args below meth c H locs ls (hI.to (ps_ok_t2 hI.2.2.1))) (fun h => kf h G p l e R s m args below meth c H locs ls (hI.to (ps_ok_t2 hI.2.2.1)))
theorem ps_if_lt {x : Int32} {off : Int} {tgt : Nat} (hd : decode (ps_code M) pc = .ok (.ifCond .lt off, 3)) (ht : (pc : Int) + off = (tgt : Int)) (kt : x < 0 → ps_K M d F tgt L st σ) (kf : ¬ x < 0 → ps_K M d F (pc + 3) L st σ) : ps_K M d F pc L (.inl x :: st) σ :=
  fun G p l e R s m args below meth c H locs ls hI => lv_if_lt hI.1.1 hI.1.2.1 hd ht (fun h => kt h G p l e R s m args below meth c H locs ls (hI.to (ps_ok_t hI.2.2.1))) (fun h => kf h G p l e R s m args below meth c H locs ls (hI.to (ps_ok_t hI.2.2.1)))
theorem ps_icmp_lt {x y : Int32} {off : Int} {tgt : Nat} (hd : decode (ps_code M) pc = .ok (.if_icmp .lt off, 3)) (ht : (pc : Int) + off = (tgt : Int)) (kt : x < y → ps_K M d F tgt L st σ) (kf : ¬ x < y → ps_K M d F (pc + 3) L st σ) : ps_K M d F pc L (.inl y :: .inl x :: st) σ :=
  fun G p l e R s m args below meth c H locs ls hI => lv_icmp_lt hI.1.1 hI.1.2.1 hd ht (fun h => kt h G p l e R s m args below meth c H locs ls (hI.to (ps_ok_t2 hI.2.2.1))) (fun h => kf h G p l e R s m args below meth c H locs ls (hI.to (ps_ok_t2 hI.2.2.1)))
theorem ps_if_ge {x : Int32} {off : Int} {tgt : Nat} (hd : decode (ps_code M) pc = .ok (.ifCond .ge off, 3)) (ht : (pc : Int) + off = (tgt : Int)) (kt : 0 ≤ x → ps_K M d F tgt L st σ) (kf : ¬ 0 ≤ x → ps_K M d F (pc + 3) L st σ) : ps_K M d F pc L (.inl x :: st) σ :=
  fun G p l e R s m args below meth c H locs ls hI => lv_if_ge hI.1.1 hI.1.2.1 hd ht (fun h => kt h G p l e R s m args below meth c H locs ls (hI.to (ps_ok_t hI.2.2.1))) (fun h => kf h G p l e R s m args below meth c H locs ls (hI.to (ps_ok_t hI.2.2.1)))
theorem ps_icmp_ge {x y : Int32} {off : Int} {tgt : Nat} (hd : decode (ps_code M) pc = .ok (.if_icmp .ge off, 3)) (ht : (pc : Int) + off = (tgt : Int)) (kt : y ≤ x → ps_K M d F tgt L st σ) (kf : ¬ y ≤ x → ps_K M d F (pc + 3) L st σ) : ps_K M d F pc L (.inl y :: .inl x :: st) σ :=
  fun G p l e R s m args below meth c H locs ls hI => lv_icmp_ge hI.1.1 hI.1.2.1 hd ht (fun h => kt h G p l e R s m args below meth c H locs ls (hI.to (ps_ok_t2 hI.2.2.1))) (fun h => kf h G p l e R s m args below meth c H locs ls (hI.to (ps_ok_t2 hI.2.2.1)))
theorem ps_if_gt {x : Int32} {off : Int} {tgt : Nat} (hd : decode (ps_code M) pc = .ok (.ifCond .gt off, 3)) (ht : (pc : Int) + off = (tgt : Int)) (kt : 0 < x → ps_K M d F tgt L st σ) (kf : ¬ 0 < x → ps_K M d F (pc + 3) L st σ) : ps_K M d F pc L (.inl x :: st) σ :=
  fun G p l e R s m args below meth c H locs ls hI => lv_if_gt hI.1.1 hI.1.2.1 hd ht (fun h => kt h G p l e R s m args below meth c H locs ls (hI.to (ps_ok_t hI.2.2.1))) (fun h => kf h G p l e R s m args below meth c H locs ls (hI.to (ps_ok_t hI.2.2.1)))
theorem ps_icmp_gt {x y : Int32} {off : Int} {tgt : Nat} (hd : decode (ps_code M) pc = .ok (.if_icmp .gt off, 3)) (ht : (pc : Int) + off = (tgt : Int)) (kt : y < x → ps_K M d F tgt L st σ) (kf : ¬ y < x → ps_K M d F (pc + 3) L st σ) : ps_K M d F pc L (.inl y :: .inl x :: st) σ :=
  fun G p l e R s m args below meth c H locs ls hI => lv_icmp_gt hI.1.1 hI.1.2.1 hd ht (fun h => kt h G p l e R s m args below meth c H locs ls (hI.to (ps_ok_t2 hI.2.2.1))) (fun h => kf h G p l e R s m args below meth c H locs ls (hI.to (ps_ok_t2 hI.2.2.1)))
theorem ps_if_le {x : Int32} {off : Int} {tgt : Nat} (hd : decode (ps_code M) pc = .ok (.ifCond .le off, 3)) (ht : (pc : Int) + off = (tgt : Int)) (kt : x ≤ 0 → ps_K M d F tgt L st σ) (kf : ¬ x ≤ 0 → ps_K M d F (pc + 3) L st σ) : ps_K M d F pc L (.inl x :: st) σ :=
  fun G p l e R s m args below meth c H locs ls hI => lv_if_le hI.1.1 hI.1.2.1 hd ht (fun h => kt h G p l e R s m args below meth c H locs ls (hI.to (ps_ok_t hI.2.2.1))) (fun h => kf h G p l e R s m args below meth c H locs ls (hI.to (ps_ok_t hI.2.2.1)))
theorem ps_icmp_le {x y : Int32} {off : Int} {tgt : Nat} (hd : decode (ps_code M) pc = .ok (.if_icmp .le off, 3)) (ht : (pc : Int) + off = (tgt : Int)) (kt : x ≤ y → ps_K M d F tgt L st σ) (kf : ¬ x ≤ y → ps_K M d F (pc + 3) L st σ) : ps_K M d F pc L (.inl y :: .inl x :: st) σ :=
  fun G p l e R s m args below meth c H locs ls hI => lv_icmp_le hI.1.1 hI.1.2.1 hd ht (fun h => kt h G p l e R s m args below meth c H locs ls (hI.to (ps_ok_t2 hI.2.2.1))) (fun h => kf h G p l e R s m args below meth c H locs ls (hI.to (ps_ok_t2 hI.2.2.1)))
theorem ps_goto {off : Int} {tgt : Nat} (hd : decode (ps_code M) pc = .ok (.goto off, 3)) (ht : (pc : Int) + off = (tgt : Int)) (k : ps_K M d F tgt L st σ) : ps_K M d F pc L st σ :=
  fun G p l e R s m args below meth c H locs ls hI => lv_goto hI.1.1 hI.1.2.1 hd ht (k G p l e R s m args below meth c H locs ls hI)
theorem ps_tabOut {x : Int32} {dflt lo hi : Int} {offs : Array Int} {len tgt : Nat} (hd : decode (ps_code M) pc = .ok (.tableswitch dflt lo hi offs, len)) (h : x.toInt < lo ∨ hi < x.toInt) (ht : (pc : Int) + dflt = (tgt : Int)) (k : ps_K M d F tgt L st σ) : ps_K M d F pc L (.inl x :: st) σ :=
  fun G p l e R s m args below meth c H locs ls hI => lv_tableOut hI.1.1 hI.1.2.1 hd h ht (k G p l e R s m args below meth c H locs ls (hI.to (ps_ok_t hI.2.2.1)))
theorem ps_tabIn {x : Int32} {dflt lo hi off : Int} {offs : Array Int} {len tgt : Nat} (hd : decode (ps_code M) pc = .ok (.tableswitch dflt lo hi offs, len)) (h1 : ¬ x.toInt < lo) (h2 : ¬ hi < x.toInt) (ho : offs[(x.toInt - lo).toNat]? = some off) (ht : (pc : Int) + off = (tgt : Int)) (k : ps_K M d F tgt L st σ) : ps_K M d F pc L (.inl x :: st) σ :=
  fun G p l e R s m args below meth c H locs ls hI => lv_tableIn hI.1.1 hI.1.2.1 hd h1 h2 ho ht (k G p l e R s m args below meth c H locs ls (hI.to (ps_ok_t hI.2.2.1)))
/-- fewer locals known -/
def ps_sub (L' L : ps_L) : Prop := match L', L with
  | [], _ => True
  | none :: a, _ :: b => ps_sub a b
  | none :: a, [] => ps_sub a []
  | some v :: a, w :: b => w = some v ∧ ps_sub a b
  | some _ :: _, [] => False
theorem ps_sub_at : ∀ (L' L : ps_L), ps_sub L' L → ∀ (i : Nat) (v : ps_V), L'[i]? = some (some v) → L[i]? = some (some v)
  | [], _, _, i, v, h => by simp at h
  | none :: a, w :: b, hs, i, v, h => by
    cases i with
    | zero => simp at h
    | succ i => simp only [List.getElem?_cons_succ] at h ⊢; exact ps_sub_at a b (by simpa [ps_sub] using hs) i v h
  | none :: a, [], hs, i, v, h => by
    cases i with
    | zero => simp at h
    | succ i =>
      simp only [List.getElem?_cons_succ] at h
      have := ps_sub_at a [] (by simpa [ps_sub] using hs) i v h
      simp at this
  | some u :: a, w :: b, hs, i, v, h => by
    have hs : w = some u ∧ ps_sub a b := by simpa [ps_sub] using hs
    cases i with
    | zero => simp only [List.getElem?_cons_zero, Option.some.injEq] at h ⊢; rw [hs.1, h]
    | succ i => simp only [List.getElem?_cons_succ] at h ⊢; exact ps_sub_at a b hs.2 i v h
  | some u :: a, [], hs, i, v, h => by simp [ps_sub] at hs
theorem ps_forget (hs : ps_sub L' L) (k : ps_K M d F pc L' st σ) : ps_K M d F pc L st σ :=
  fun G p l e R s m args below meth c H locs ls hI => k G p l e R s m args below meth c H locs ls ⟨hI.1, ⟨hI.2.1.1, hI.2.1.2.1, fun i v hv => hI.2.1.2.2 i v (ps_sub_at L' L hs i v hv)⟩, hI.2.2⟩
theorem ps_deeper {d' : Nat} (hd : d ≤ d') (k : ps_K M d F pc L st σ) : ps_K M d' F pc L st σ :=
  fun G p l e R s m args below meth c H locs ls hI => k G p l e R s m args below meth c H locs ls ⟨⟨hI.1.1, hI.1.2.1, hI.1.2.2.1, hI.1.2.2.2.1, hI.1.2.2.2.2.1, hI.1.2.2.2.2.2.1, hI.1.2.2.2.2.2.2.1, ⟨Nat.le_trans hd hI.1.2.2.2.2.2.2.2.1.1, by have := hI.1.2.2.2.2.2.2.2.1.2.1; omega, hI.1.2.2.2.2.2.2.2.1.2.2⟩, hI.1.2.2.2.2.2.2.2.2⟩, hI.2⟩
-- fields
def ps_fl (own : String) (index ci k : Nat) : Prop := ∃ r : vw_C, ps_cls[ci]? = some r ∧ k < r.2.2 ∧ (Cond.fieldLink own index (r.2.1 k).1 (r.2.1 k).2.1 (r.2.1 k).2.2.1 ∈ lw_tbl ∨ ∃ host, Cond.fieldLinkNest own index (r.2.1 k).1 (r.2.1 k).2.1 (r.2.1 k).2.2.1 host ∈ lw_tbl)
def ps_lays : ∀ (ci : Nat) (r : vw_C), ps_cls[ci]? = some r → ∀ w ∈ u_ws r.1 r.2.1 r.2.2, w ∈ lw_tbl ∧ goodWord w = true := by
  intro ci r h
  match ci, h with
  | 0, h => cases h; exact (by decide +kernel : ∀ w ∈ u_ws RX0 TX0 12, w ∈ lw_tbl ∧ goodWord w = true)
  | 1, h => cases h; exact (by decide +kernel : ∀ w ∈ u_ws RX1 TX1 4, w ∈ lw_tbl ∧ goodWord w = true)
  | 2, h => cases h; exact (by decide +kernel : ∀ w ∈ u_ws RX2 TX2 11, w ∈ lw_tbl ∧ goodWord w = true)
  | 3, h => cases h; exact (by decide +kernel : ∀ w ∈ u_ws RX3 TX3 4, w ∈ lw_tbl ∧ goodWord w = true)
  | 4, h => cases h; exact (by decide +kernel : ∀ w ∈ u_ws RX4 TX4 7, w ∈ lw_tbl ∧ goodWord w = true)
  | 5, h => cases h; exact (by decide +kernel : ∀ w ∈ u_ws RX5 TX5 4, w ∈ lw_tbl ∧ goodWord w = true)
  | 6, h => cases h; exact (by decide +kernel : ∀ w ∈ u_ws RX6 TX6 4, w ∈ lw_tbl ∧ goodWord w = true)
  | 7, h => cases h; exact (by decide +kernel : ∀ w ∈ u_ws RX7 TX7 7, w ∈ lw_tbl ∧ goodWord w = true)
  | 8, h => cases h; exact (by decide +kernel : ∀ w ∈ u_ws RX8 TX8 29, w ∈ lw_tbl ∧ goodWord w = true)
  | n + 9, h => simp [ps_cls] at h
theorem ps_names : ∀ (ci : Nat) (r : vw_C), ps_cls[ci]? = some r → (∃ ty0 : Nat → FieldType, ∀ k, k < r.2.2 → parseFieldDescriptor (r.2.1 k).2.2.1 = some (ty0 k)) ∧ ∀ a, a < r.2.2 → ∀ b, b < r.2.2 → a ≠ b → (r.2.1 a).2.1 ≠ (r.2.1 b).2.1 := by
  intro ci r h
  match ci, h with
  | 0, h => cases h; exact ⟨⟨_, tyX0_ok⟩, nmX0⟩
  | 1, h => cases h; exact ⟨⟨_, tyX1_ok⟩, nmX1⟩
  | 2, h => cases h; exact ⟨⟨_, tyX2_ok⟩, nmX2⟩
  | 3, h => cases h; exact ⟨⟨_, tyX3_ok⟩, nmX3⟩
  | 4, h => cases h; exact ⟨⟨_, tyX4_ok⟩, nmX4⟩
  | 5, h => cases h; exact ⟨⟨_, tyX5_ok⟩, nmX5⟩
  | 6, h => cases h; exact ⟨⟨_, tyX6_ok⟩, nmX6⟩
  | 7, h => cases h; exact ⟨⟨_, tyX7_ok⟩, nmX7⟩
  | 8, h => cases h; exact ⟨⟨_, tyX8_ok⟩, nmX8⟩
  | n + 9, h => simp [ps_cls] at h
def ps_tabB (f : Nat) : Bool := match (ps_sh f).2 with
  | .inl (_, fs) => fs.all (fun t => match t with | none => true | some g => ps_cnt g == ps_cnt f)
  | .inr (_, n, some g) => ps_cnt g == n * ps_cnt f
  | _ => true
theorem ps_tab0 : (List.range ps_fams.length).all ps_tabB = true := by decide +kernel
theorem ps_tab {f : Nat} (h : 0 < ps_cnt f) : ps_tabB f = true := by
  refine List.all_eq_true.mp ps_tab0 f (List.mem_range.mpr ?_)
  rcases Nat.lt_or_ge f ps_fams.length with q | q
  · exact q
  · exfalso
    have e : ps_cnt f = 0 := by
      unfold ps_cnt ps_sh
      simp [List.getD, List.getElem?_eq_none q]
    omega
theorem ps_live {f i : Nat} {x : (Nat × List (Option Nat)) ⊕ (Nat × Nat × Option Nat)} (h : ps_ok (.inr (.inr (f, i)))) (hs : (ps_sh f).2 = x) (hx : x ≠ .inr (0, 0, none)) : i < ps_cnt f := by
  rcases h with h | h
  · exact h
  · exfalso
    have h0 : f = 0 := h
    subst h0
    exact hx (hs.symm.trans rfl)
theorem ps_E_obj {G : ps_G} {f i ci : Nat} {fs : List (Option Nat)} {g : Nat → Int32} (hs : (ps_sh f).2 = .inl (ci, fs)) : ps_E G (f, i) g = .inr (ci, fs.mapIdx (ps_fld G g i)) := by
  unfold ps_E
  show (match (ps_sh f).2 with | .inl (ci, fs) => _ | .inr (ay, n, none) => _ | .inr (ay, n, some f') => _) = _
  rw [hs]
theorem ps_E_arr {G : ps_G} {f i ay n : Nat} {g : Nat → Int32} (hs : (ps_sh f).2 = .inr (ay, n, none)) : ps_E G (f, i) g = .inl (G.2.2 ay, n, .inl g) := by
  unfold ps_E
  show (match (ps_sh f).2 with | .inl (ci, fs) => _ | .inr (ay, n, none) => _ | .inr (ay, n, some f') => _) = _
  rw [hs]
theorem ps_E_ref {G : ps_G} {f i ay n t : Nat} {g : Nat → Int32} (hs : (ps_sh f).2 = .inr (ay, n, some t)) : ps_E G (f, i) g = .inl (G.2.2 ay, n, .inr (.inr (.inr (.inr (fun j => if j < n then some (G.1 t (n * i + j)) else none))))) := by
  unfold ps_E
  show (match (ps_sh f).2 with | .inl (ci, fs) => _ | .inr (ay, n, none) => _ | .inr (ay, n, some f') => _) = _
  rw [hs]
theorem ps_at_obj {G : ps_G} {f i ci : Nat} {fs : List (Option Nat)} (σ : ps_S) (hs : (ps_sh f).2 = .inl (ci, fs)) (h : ps_ok (.inr (.inr (f, i)))) : ∃ q0 : Nat, ps_cells[q0]? = some (f, i) ∧ (ps_ws G σ)[q0]? = some (G.1 f i, .inr (ci, fs.mapIdx (ps_fld G (σ f i) i))) := by
  obtain ⟨q0, hq⟩ := ps_idx (ps_live h hs (by simp))
  exact ⟨q0, hq, by rw [ps_ws_at hq]; exact congrArg (fun e => some (G.1 f i, e)) (ps_E_obj hs)⟩
theorem ps_at_arr {G : ps_G} {f i ay n : Nat} (σ : ps_S) (hs : (ps_sh f).2 = .inr (ay, n, none)) (hn : n ≠ 0) (h : ps_ok (.inr (.inr (f, i)))) : ∃ q0 : Nat, ps_cells[q0]? = some (f, i) ∧ (ps_ws G σ)[q0]? = some (G.1 f i, .inl (G.2.2 ay, n, .inl (σ f i))) := by
  obtain ⟨q0, hq⟩ := ps_idx (ps_live h hs (by simp [hn]))
  exact ⟨q0, hq, by rw [ps_ws_at hq]; exact congrArg (fun e => some (G.1 f i, e)) (ps_E_arr hs)⟩
theorem ps_at_ref {G : ps_G} {f i ay n t : Nat} (σ : ps_S) (hs : (ps_sh f).2 = .inr (ay, n, some t)) (h : ps_ok (.inr (.inr (f, i)))) : ∃ q0 : Nat, ps_cells[q0]? = some (f, i) ∧ (ps_ws G σ)[q0]? = some (G.1 f i, .inl (G.2.2 ay, n, .inr (.inr (.inr (.inr (fun j => if j < n then some (G.1 t (n * i + j)) else none)))))) := by
  obtain ⟨q0, hq⟩ := ps_idx (ps_live h hs (by simp))
  exact ⟨q0, hq, by rw [ps_ws_at hq]; exact congrArg (fun e => some (G.1 f i, e)) (ps_E_ref hs)⟩
theorem ps_getV {G : ps_G} {p : Program} {l : Launch} {e : Env} {R : Room} {s : State} {m : MethodId} {args : Array Value} {below : List Frame} {meth : Method} {c : Code} {H : Heap} {locs : List Loc} {ls : Array Slot} {Z : State → Prop} {index ci k f i cs ss : Nat} {fs : List (Option Nat)} {t : Option Nat} {rest : List Value} (hI : ps_I M d G p R s m args meth c H locs ls L st σ) (hd : decode (ps_code M) pc = .ok (.getfield index, 3)) (hf : ps_fl (ps_own M) index ci k) (hs : (ps_sh f).2 = .inl (ci, fs)) (hk : fs[k]? = some t) (ho : ps_ok (.inr (.inr (f, i))))
    (kk : W p l e R s m args below meth c H locs cs ss Z (F0 m (pc + 3) ls (ps_fld G (σ f i) i k t :: rest))) : W p l e R s m args below meth c H locs cs ss Z (F0 m pc ls (.ref (G.1 f i) :: rest)) := by
  obtain ⟨r, hr, hkr, hw⟩ := hf
  obtain ⟨q0, -, hq⟩ := ps_at_obj (G := G) σ hs ho
  have hv : (fs.mapIdx (ps_fld G (σ f i) i))[k]? = some (ps_fld G (σ f i) i k t) := by rw [List.getElem?_mapIdx, hk]; rfl
  have hts : ∀ w ∈ u_ws r.1 r.2.1 r.2.2, w.before args s = true := fun w hw => hI.1.2.2.2.2.2.1 w (ps_lays ci r hr w hw).1 (ps_lays ci r hr w hw).2
  rcases hw with hw | ⟨host, hw⟩
  · exact va_get (own := ps_own M) (ref := (r.2.1 k).1) (C := r.1) (T := r.2.1) (N := r.2.2) hI.1.1 hI.1.2.1 hts (fun _ h => h) hI.1.2.2.2.2.1 hI.1.2.2.2.2.2.2.2.2.1 hI.2.2.2.1 q0 hq hr k hkr (hI.1.2.2.2.2.2.1 _ hw rfl) (fun _ h => h) hv hd kk
  · exact va_getN (own := ps_own M) (ref := (r.2.1 k).1) (C := r.1) (host := host) (T := r.2.1) (N := r.2.2) hI.1.1 hI.1.2.1 hts (fun _ h => h) hI.1.2.2.2.2.1 hI.1.2.2.2.2.2.2.2.2.1 hI.2.2.2.1 q0 hq hr k hkr (va_Nw.use rfl (hI.1.2.2.2.2.2.2.2.2.2.2 _ _ _ _ _ _ hw)) (fun _ h => h) hv hd kk
theorem ps_getI {index ci k f i : Nat} {fs : List (Option Nat)} (hd : decode (ps_code M) pc = .ok (.getfield index, 3)) (hf : ps_fl (ps_own M) index ci k) (hs : (ps_sh f).2 = .inl (ci, fs)) (hk : fs[k]? = some none) (kk : ps_K M d F (pc + 3) L (.inl (σ f i k) :: st) σ) : ps_K M d F pc L (.inr (.inr (f, i)) :: st) σ :=
  fun G p l e R s m args below meth c H locs ls hI => ps_getV hI hd hf hs hk (hI.2.2.1 _ List.mem_cons_self) (kk G p l e R s m args below meth c H locs ls (hI.to (ps_ok_i (ps_ok_t hI.2.2.1))))
theorem ps_fld_ok {f g i ci : Nat} {fs : List (Option Nat)} {k : Nat} (hs : (ps_sh f).2 = .inl (ci, fs)) (hk : fs[k]? = some (some g)) (ho : ps_ok (.inr (.inr (f, i)))) : ps_ok (.inr (.inr (g, i))) := by
  have hi := ps_live ho hs (by simp)
  have ht := ps_tab (f := f) (by omega)
  unfold ps_tabB at ht
  rw [hs] at ht
  have h1 := List.all_eq_true.mp ht (some g) (List.mem_of_getElem? hk)
  have h2 : ps_cnt g = ps_cnt f := by simpa using h1
  exact Or.inl (by rw [h2]; exact hi)
theorem ps_getR {index ci k f i g : Nat} {fs : List (Option Nat)} (hd : decode (ps_code M) pc = .ok (.getfield index, 3)) (hf : ps_fl (ps_own M) index ci k) (hs : (ps_sh f).2 = .inl (ci, fs)) (hk : fs[k]? = some (some g)) (kk : ps_K M d F (pc + 3) L (.inr (.inr (g, i)) :: st) σ) : ps_K M d F pc L (.inr (.inr (f, i)) :: st) σ :=
  fun G p l e R s m args below meth c H locs ls hI => ps_getV hI hd hf hs hk (hI.2.2.1 _ List.mem_cons_self) (kk G p l e R s m args below meth c H locs ls (hI.to (ps_ok_c (ps_fld_ok hs hk (hI.2.2.1 _ List.mem_cons_self)) (ps_ok_t hI.2.2.1))))
theorem ps_fset {G : ps_G} {fs : List (Option Nat)} {g : Nat → Int32} {i k : Nat} {x : Int32} (hk : fs[k]? = some none) : (fs.mapIdx (ps_fld G g i)).set k (.int x) = fs.mapIdx (ps_fld G (upd g k x) i) := by
  apply List.ext_getElem?
  intro j
  rw [List.getElem?_mapIdx]
  by_cases e : k = j
  · subst e
    rw [List.getElem?_set_self (by rw [List.length_mapIdx]; exact (List.getElem?_eq_some_iff.mp hk).1), hk]
    simp [ps_fld, upd]
  · rw [List.getElem?_set_ne e, List.getElem?_mapIdx]
    cases hj : fs[j]? with
    | none => rfl
    | some t =>
      cases t with
      | none => simp [ps_fld, upd, show ¬ j = k from fun q => e q.symm]
      | some g => rfl
def ps_fp (own : String) (index ci k : Nat) (ty : FieldType) : Prop := ∃ r : vw_C, ps_cls[ci]? = some r ∧ k < r.2.2 ∧ (r.2.1 k).2.2.2 = false ∧ parseFieldDescriptor (r.2.1 k).2.2.1 = some ty ∧ (Cond.fieldLink own index (r.2.1 k).1 (r.2.1 k).2.1 (r.2.1 k).2.2.1 ∈ lw_tbl ∨ ∃ host, Cond.fieldLinkNest own index (r.2.1 k).1 (r.2.1 k).2.1 (r.2.1 k).2.2.1 host ∈ lw_tbl)
theorem ps_putT {index ci k f i : Nat} {ty : FieldType} {fs : List (Option Nat)} {x : Int32} (hd : decode (ps_code M) pc = .ok (.putfield index, 3)) (hf : ps_fp (ps_own M) index ci k ty) (hs : (ps_sh f).2 = .inl (ci, fs)) (hk : fs[k]? = some none) (hn : narrow ty (.int x) = .int x) (hfit : fits ty (.int x) = true) (kk : ps_K M d F (pc + 3) L st (ps_up σ f i k x)) : ps_K M d F pc L (.inl x :: .inr (.inr (f, i)) :: st) σ := by
  intro G p l e R s m args below meth c H locs ls hI
  obtain ⟨r, hr, hkr, hfin, hty, hw⟩ := hf
  obtain ⟨q0, hq1, hq⟩ := ps_at_obj (G := G) σ hs (hI.2.2.1 _ (List.mem_cons_of_mem _ List.mem_cons_self))
  have hts : ∀ w ∈ u_ws r.1 r.2.1 r.2.2, w.before args s = true := fun w hw => hI.1.2.2.2.2.2.1 w (ps_lays ci r hr w hw).1 (ps_lays ci r hr w hw).2
  obtain ⟨⟨ty0, hty0⟩, hnm⟩ := ps_names ci r hr
  have hlen : k < (fs.mapIdx (ps_fld G (σ f i) i)).length := by rw [List.length_mapIdx]; exact (List.getElem?_eq_some_iff.mp hk).1
  have fin : ∀ (H1 : Heap) (locs1 : List Loc), va_P G.2.1 ps_cls ((ps_ws G σ).set q0 (G.1 f i, .inr (ci, (fs.mapIdx (ps_fld G (σ f i) i)).set k (.int x)))) H1 → va_D (ps_A G) ((ps_ws G σ).set q0 (G.1 f i, .inr (ci, (fs.mapIdx (ps_fld G (σ f i) i)).set k (.int x)))) → va_S (ps_A G) s.heap H1 locs1 → W p l e R s m args below meth c H1 locs1 (ps_cs M) (ps_ss M) (F G s args below) (F0 m (pc + 3) ls (st.map (ps_cv G))) := by
    intro H1 locs1 h1 h2 h3
    rw [ps_ws_set (x := x) (j := k) hq1 (by rw [ps_E_obj hs, ps_fset hk])] at h1 h2
    exact kk G p l e R s m args below meth c H1 locs1 ls ⟨hI.1, hI.2.1, ps_ok_t2 hI.2.2.1, h1, h2, h3⟩
  rcases hw with hw | ⟨host, hw⟩
  · exact va_put (own := ps_own M) (ref := (r.2.1 k).1) (C := r.1) (T := r.2.1) (N := r.2.2) hI.1.1 hI.1.2.1 hts (fun _ h => h) ty0 hty0 hnm hI.1.2.2.2.2.1 hI.1.2.2.2.2.2.2.2.2.1 hI.2.2.2.1 hI.2.2.2.2.1 hI.2.2.2.2.2 q0 hq hr k hkr (hI.1.2.2.2.2.2.1 _ hw rfl) (fun _ h => h) hfin hty hn hfit hlen hd fin
  · exact va_putN (own := ps_own M) (ref := (r.2.1 k).1) (C := r.1) (host := host) (T := r.2.1) (N := r.2.2) hI.1.1 hI.1.2.1 hts (fun _ h => h) ty0 hty0 hnm hI.1.2.2.2.2.1 hI.1.2.2.2.2.2.2.2.2.1 hI.2.2.2.1 hI.2.2.2.2.1 hI.2.2.2.2.2 q0 hq hr k hkr (va_Nw.use rfl (hI.1.2.2.2.2.2.2.2.2.2.2 _ _ _ _ _ _ hw)) (fun _ h => h) hfin hty hn hfit hlen hd fin
theorem ps_putI {index ci k f i : Nat} {fs : List (Option Nat)} {x : Int32} (hd : decode (ps_code M) pc = .ok (.putfield index, 3)) (hf : ps_fp (ps_own M) index ci k .int) (hs : (ps_sh f).2 = .inl (ci, fs)) (hk : fs[k]? = some none) (kk : ps_K M d F (pc + 3) L st (ps_up σ f i k x)) : ps_K M d F pc L (.inl x :: .inr (.inr (f, i)) :: st) σ :=
  ps_putT hd hf hs hk rfl rfl kk
theorem ps_bit_n {x : Int32} (h : x = 0 ∨ x = 1) : narrow .boolean (.int x) = .int x := by rcases h with rfl | rfl <;> rfl
theorem ps_bit_f {x : Int32} (h : x = 0 ∨ x = 1) : fits .boolean (.int x) = true := by rcases h with rfl | rfl <;> rfl
theorem ps_putZ {index ci k f i : Nat} {fs : List (Option Nat)} {x : Int32} (hd : decode (ps_code M) pc = .ok (.putfield index, 3)) (hf : ps_fp (ps_own M) index ci k .boolean) (hs : (ps_sh f).2 = .inl (ci, fs)) (hk : fs[k]? = some none) (hx : x = 0 ∨ x = 1) (kk : ps_K M d F (pc + 3) L st (ps_up σ f i k x)) : ps_K M d F pc L (.inl x :: .inr (.inr (f, i)) :: st) σ :=
  ps_putT hd hf hs hk (ps_bit_n hx) (ps_bit_f hx) kk
-- arrays
theorem ps_iald {f i n : Nat} {j : Int32} (hd : decode (ps_code M) pc = .ok (.iaload, 1)) (hs : (ps_sh f).2 = .inr (0, n, none)) (hin : vp_in j n) (kk : ps_K M d F (pc + 1) L (.inl (σ f i j.toNatClampNeg) :: st) σ) : ps_K M d F pc L (.inl j :: .inr (.inr (f, i)) :: st) σ := by
  intro G p l e R s m args below meth c H locs ls hI
  have hn : n ≠ 0 := fun h => hin (Or.inr (by omega))
  obtain ⟨q0, hq1, hq⟩ := ps_at_arr (G := G) σ hs hn (hI.2.2.1 _ (List.mem_cons_of_mem _ List.mem_cons_self))
  exact va_iald hI.1.1 hI.1.2.1 hI.1.2.2.2.2.2.2.2.2.1 hI.2.2.2.1 q0 0 hq rfl hin hd (kk G p l e R s m args below meth c H locs ls (hI.to (ps_ok_i (ps_ok_t2 hI.2.2.1))))
theorem ps_zald {f i n : Nat} {j : Int32} (hd : decode (ps_code M) pc = .ok (.baload, 1)) (hs : (ps_sh f).2 = .inr (1, n, none)) (hin : vp_in j n) (kk : ps_K M d F (pc + 1) L (.inl (σ f i j.toNatClampNeg) :: st) σ) : ps_K M d F pc L (.inl j :: .inr (.inr (f, i)) :: st) σ := by
  intro G p l e R s m args below meth c H locs ls hI
  have hn : n ≠ 0 := fun h => hin (Or.inr (by omega))
  obtain ⟨q0, hq1, hq⟩ := ps_at_arr (G := G) σ hs hn (hI.2.2.1 _ (List.mem_cons_of_mem _ List.mem_cons_self))
  exact va_zald hI.1.1 hI.1.2.1 hI.1.2.2.2.2.2.2.2.2.1 hI.2.2.2.1 q0 1 hq rfl hin hd (kk G p l e R s m args below meth c H locs ls (hI.to (ps_ok_i (ps_ok_t2 hI.2.2.1))))
theorem ps_iast {f i n : Nat} {j x : Int32} (hd : decode (ps_code M) pc = .ok (.iastore, 1)) (hs : (ps_sh f).2 = .inr (0, n, none)) (hin : vp_in j n) (kk : ps_K M d F (pc + 1) L st (ps_up σ f i j.toNatClampNeg x)) : ps_K M d F pc L (.inl x :: .inl j :: .inr (.inr (f, i)) :: st) σ := by
  intro G p l e R s m args below meth c H locs ls hI
  have hn : n ≠ 0 := fun h => hin (Or.inr (by omega))
  obtain ⟨q0, hq1, hq⟩ := ps_at_arr (G := G) σ hs hn (hI.2.2.1 _ (List.mem_cons_of_mem _ (List.mem_cons_of_mem _ List.mem_cons_self)))
  refine va_iast hI.1.1 hI.1.2.1 hI.1.2.2.2.2.2.2.2.2.1 hI.2.2.2.1 hI.2.2.2.2.1 hI.2.2.2.2.2 q0 0 hq rfl hin hd (fun H1 locs1 h1 h2 h3 => ?_)
  rw [ps_ws_set (x := x) (j := j.toNatClampNeg) hq1 (by rw [ps_E_arr hs])] at h1 h2
  exact kk G p l e R s m args below meth c H1 locs1 ls ⟨hI.1, hI.2.1, ps_ok_t (ps_ok_t2 hI.2.2.1), h1, h2, h3⟩
theorem ps_zast {f i n : Nat} {j x : Int32} (hd : decode (ps_code M) pc = .ok (.bastore, 1)) (hs : (ps_sh f).2 = .inr (1, n, none)) (hin : vp_in j n) (hx : x = 0 ∨ x = 1) (kk : ps_K M d F (pc + 1) L st (ps_up σ f i j.toNatClampNeg x)) : ps_K M d F pc L (.inl x :: .inl j :: .inr (.inr (f, i)) :: st) σ := by
  intro G p l e R s m args below meth c H locs ls hI
  have hn : n ≠ 0 := fun h => hin (Or.inr (by omega))
  have hx2 : vp_nar .boolean x = x := by unfold vp_nar; rw [ps_bit_n hx]
  obtain ⟨q0, hq1, hq⟩ := ps_at_arr (G := G) σ hs hn (hI.2.2.1 _ (List.mem_cons_of_mem _ (List.mem_cons_of_mem _ List.mem_cons_self)))
  refine va_zast hI.1.1 hI.1.2.1 hI.1.2.2.2.2.2.2.2.2.1 hI.2.2.2.1 hI.2.2.2.2.1 hI.2.2.2.2.2 q0 1 hq rfl hin hd (fun H1 locs1 h1 h2 h3 => ?_)
  rw [hx2, ps_ws_set (x := x) (j := j.toNatClampNeg) hq1 (by rw [ps_E_arr hs])] at h1 h2
  exact kk G p l e R s m args below meth c H1 locs1 ls ⟨hI.1, hI.2.1, ps_ok_t (ps_ok_t2 hI.2.2.1), h1, h2, h3⟩
theorem ps_aald {f i n g ay : Nat} {j : Int32} (hd : decode (ps_code M) pc = .ok (.aaload, 1)) (hs : (ps_sh f).2 = .inr (ay, n, some g)) (hay : ay = 2 ∨ ay = 3) (hin : vp_in j n) (kk : ps_K M d F (pc + 1) L (.inr (.inr (g, n * i + j.toNatClampNeg)) :: st) σ) : ps_K M d F pc L (.inl j :: .inr (.inr (f, i)) :: st) σ := by
  intro G p l e R s m args below meth c H locs ls hI
  have ho := hI.2.2.1 _ (List.mem_cons_of_mem _ List.mem_cons_self)
  obtain ⟨q0, hq1, hq⟩ := ps_at_ref (G := G) σ hs ho
  have hlt : j.toNatClampNeg < n := Nat.not_le.mp fun q => hin (Or.inr q)
  have hcell := hI.2.2.2.1 q0 _ hq
  have hok : ps_ok (.inr (.inr (g, n * i + j.toNatClampNeg))) := by
    have hi := ps_live ho hs (by simp)
    have ht := ps_tab (f := f) (by omega)
    unfold ps_tabB at ht
    rw [hs] at ht
    have h2 : ps_cnt g = n * ps_cnt f := by simpa using ht
    refine Or.inl ?_
    show n * i + j.toNatClampNeg < ps_cnt g
    rw [h2]
    calc n * i + j.toNatClampNeg < n * i + n := by omega
      _ = n * (i + 1) := by rw [Nat.mul_add, Nat.mul_one]
      _ ≤ n * ps_cnt f := Nat.mul_le_mul_left _ hi
  have kk2 := kk G p l e R s m args below meth c H locs ls (hI.to (ps_ok_c hok (ps_ok_t2 hI.2.2.1)))
  have key : ∀ (ty : FieldType), ty.isReference = true → ArrOfT s (G.2.2 ay) ty → W p l e R s m args below meth c H locs (ps_cs M) (ps_ss M) (F G s args below) (F0 m pc ls (.int j :: .ref (G.1 f i) :: st.map (ps_cv G))) := by
    intro ty hty harr
    refine W.aald (v := .ref (G.1 g (n * i + j.toNatClampNeg))) (ty := ty) hI.1.1 hI.1.2.1 hcell (harr n _) hty (fun q => by cases q) (by show ¬ (j < 0 ∨ (arrV _ _ _).slots.size ≤ _); rw [arrV_size]; exact hin) (by show (arrV _ _ _).slots[_]? = _; rw [arrV_read _ _ hlt]; simp [va_rf, hlt]) rfl rfl hd kk2
  rcases hay with rfl | rfl
  · exact key _ rfl (hI.1.2.2.2.2.2.2.2.2.1.2 2 _ rfl).1
  · exact key _ rfl (hI.1.2.2.2.2.2.2.2.2.1.2 3 _ rfl).1
theorem ps_alen {f i n : Nat} {x : Int32} (hd : decode (ps_code M) pc = .ok (.arraylength, 1)) (hs : (ps_sh f).2 = .inr (0, n, none)) (hn : n ≠ 0) (hx : Int32.ofNat n = x) (kk : ps_K M d F (pc + 1) L (.inl x :: st) σ) : ps_K M d F pc L (.inr (.inr (f, i)) :: st) σ := by
  intro G p l e R s m args below meth c H locs ls hI
  obtain ⟨q0, hq1, hq⟩ := ps_at_arr (G := G) σ hs hn (hI.2.2.1 _ List.mem_cons_self)
  exact va_alen hI.1.1 hI.1.2.1 hI.1.2.2.2.2.2.2.2.2.1 hI.2.2.2.1 q0 0 hq rfl hx hd (kk G p l e R s m args below meth c H locs ls (hI.to (ps_ok_i (ps_ok_t hI.2.2.1))))
end PSL
end
section
/-! ===== the rules: calls, returns, a method's entry, the script ===== -/
section PSC
variable {M M2 : ps_M} {d pc : Nat} {F : ps_F} {L L' : ps_L} {st : List ps_V} {σ : ps_S}
theorem ps_nest_warm {s U : State} (hW : s.WarmedH U.vm) (h : ps_nest s) : ps_nest U := fun a i b n d x hw => va_Nw.warmF hW (h a i b n d x hw)
theorem ps_Pre_blind {G : ps_G} (av : List Value) : FrameBlind (va_Pc av (ps_Pre G σ)) := by
  intro a U g mk q
  obtain ⟨q0, q1, q2, q3, q4⟩ := q
  refine ⟨q0, ?_, va_K.moved (u := U) (U := U.calling g mk a) (Vm.Alike.refl U.vm) q2, q3, ?_⟩
  · exact q1
  · intro x i b n d' h hw
    exact va_Nw.same (w := .fieldLinkNest x i b n d' h) rfl (show U.vm = (U.calling g mk a).vm from rfl) (q4 x i b n d' h hw)
/-- what a call of M2 at this entry of the pool needs of the tables -/
def ps_cB (own : String) (index : Nat) (M2 : ps_M) (n : Nat) : Prop :=
  Cond.methodLink own index (ps_y M2) ∈ lw_tbl ∧ Cond.initialized (ps_y M2).cls ∈ lw_tbl ∧ Cond.code (ps_y M2) (ps_code M2) (ps_maxL M2) (ps_ret M2) ∈ lw_tbl ∧
  ((ps_y M2).cls ≠ "java/lang/invoke/MethodHandle" ∧ (ps_y M2).cls ≠ "java/lang/invoke/VarHandle") ∧ (parseMethodDescriptor (ps_y M2).desc).map (fun d => d.parameters.length) = some n ∧ ps_maxL M2 ≤ 21
def ps_cV (own : String) (index : Nat) (M2 : ps_M) (n ci : Nat) : Prop :=
  ps_cB own index M2 n ∧ Cond.instanceMethod (ps_y M2) ∈ lw_tbl ∧ Cond.selects (ps_y M2).cls (ps_y M2) (ps_y M2) ∈ lw_tbl ∧ ∃ r : vw_C, ps_cls[ci]? = some r ∧ r.1 = (ps_y M2).cls
def ps_cS (own : String) (index : Nat) (M2 : ps_M) (n : Nat) : Prop := ps_cB own index M2 n ∧ Cond.static (ps_y M2) ∈ lw_tbl
theorem ps_callB {G : ps_G} {p : Program} {R : Room} {s : State} {m : MethodId} {args : Array Value} {meth : Method} {c : Code} {H : Heap} {locs : List Loc} {ls : Array Slot} {index n : Nat} (hI : ps_I M (d + 1) G p R s m args meth c H locs ls L st σ) (hc : ps_cB (ps_own M) index M2 n) :
    CallB R s args (ps_own M) index (ps_y M2) (ps_code M2) (ps_maxL M2) (ps_ret M2) (ps_words M2) (ps_rm d) 0 0 n := by
  obtain ⟨h1, h2, h3, h4, h5, h6⟩ := hc
  have ht : ∀ w ∈ lw_tbl.filter goodWord, w.before args s = true := fun w hw => hI.1.2.2.2.2.2.1 w (List.mem_filter.mp hw).1 (List.mem_filter.mp hw).2
  have hr := hI.1.2.2.2.2.2.2.2.1
  refine callB_of (Ts := lw_tbl.filter goodWord) n ht (ps_goodIn h3) rfl rfl rfl (hI.1.2.2.2.2.2.1 _ h2 rfl) (hI.1.2.2.2.2.2.1 _ h1 rfl) ⟨h4.1, h4.2, h5⟩ ⟨hr.1, ?_⟩
  show 8 + (ps_maxL M2 + 11) + 40 * d ≤ R.locals
  have := hr.2.1
  omega
theorem ps_fix {G : ps_G} {p : Program} {R : Room} {s : State} {m : MethodId} {args : Array Value} {meth : Method} {c : Code} {H : Heap} {locs : List Loc} {ls : Array Slot} (hI : ps_I M d G p R s m args meth c H locs ls L st σ) : CallFix p m c (ps_code M) (ps_maxL M) s args (lw_tbl.filter goodWord) (ps_own M) :=
  ⟨hI.1.1, hI.1.2.1, hI.1.2.2.1, hI.1.2.2.2.2.1, fun w hw => hI.1.2.2.2.2.2.1 w (List.mem_filter.mp hw).1 (List.mem_filter.mp hw).2⟩
theorem ps_go {G : ps_G} {p : Program} {l : Launch} {e : Env} {R : Room} {s : State} {m : MethodId} {args : Array Value} {below : List Frame} {meth : Method} {c : Code} {H : Heap} {locs : List Loc} {ls : Array Slot} {st0 rest : List Value} {a : Array Value} {Q : Option ps_V → ps_S → Prop} {Z : State → Prop} {cs ss : Nat}
    (hr : va_Run p l e R s m args below meth c H locs cs ss 0 0 (F0 m pc ls st0) rest (ps_Qc G Q a) (ps_A G)) (hS : va_S (ps_A G) s.heap H locs)
    (kk : ∀ (r : Option ps_V) (σ' : ps_S) (H1 : Heap) (locs1 : List Loc), (∀ v, r = some v → ps_ok v) → Q r σ' → va_P G.2.1 ps_cls (ps_ws G σ') H1 → va_S (ps_A G) s.heap H1 locs1 → W p l e R s m args below meth c H1 locs1 cs ss Z (F0 m (pc + 3) ls ((r.map (ps_cv G)).toList ++ rest))) : W p l e R s m args below meth c H locs cs ss Z (F0 m pc ls st0) := by
  intro T hT X
  obtain ⟨v, st₀, t, T', Lc, h0, X', hL, e1, e2, ⟨⟨r, σ', hv, hok, hq, hP⟩, hz, hk⟩, st⟩ := hr T hT X
  cases hv
  rw [h0] at hz hk
  obtain ⟨t2, a1, b1⟩ := kk r σ' T'.heap (locs ++ Lc) hok hq (by rw [e1]; exact hP)
    ⟨Nat.le_trans hS.1 (by rw [e1]; exact hz), fun q h1 h2 => by rw [e1, hk q (Nat.lt_of_lt_of_le h1 hS.1) h2]; exact hS.2.1 q h1 h2, fun q hq => by
      rcases List.mem_append.mp hq with h | h
      · exact hS.2.2 q h
      · exact hL q h⟩ T' rfl X'
  exact ⟨t2, st t2 a1, b1⟩
theorem ps_after {G : ps_G} {p : Program} {l : Launch} {e : Env} {R : Room} {s : State} {m : MethodId} {args : Array Value} {below : List Frame} {meth : Method} {c : Code} {H : Heap} {locs : List Loc} {ls : Array Slot} (hI : ps_I M d G p R s m args meth c H locs ls L st σ) {rest : List ps_V} (hrest : ∀ v ∈ rest, ps_ok v)
    {r : Option ps_V} {σ' : ps_S} {H1 : Heap} {locs1 : List Loc} (hok : ∀ v, r = some v → ps_ok v) (hP : va_P G.2.1 ps_cls (ps_ws G σ') H1) (hS : va_S (ps_A G) s.heap H1 locs1) (k : ps_K M d F (pc + 3) L (r.toList ++ rest) σ') : W p l e R s m args below meth c H1 locs1 (ps_cs M) (ps_ss M) (F G s args below) (F0 m (pc + 3) ls ((r.map (ps_cv G)).toList ++ rest.map (ps_cv G))) := by
  have h := k G p l e R s m args below meth c H1 locs1 ls ⟨hI.1, hI.2.1, fun v hv => ?_, hP, ps_D_of hI.2.2.2.2.1, hS⟩
  · cases r with
    | none => exact h
    | some v => exact h
  · rcases List.mem_append.mp hv with hv | hv
    · cases r with
      | none => cases hv
      | some w => exact hok v (by simp at hv; rw [hv])
    · exact hrest v hv
/-- a method of an object -/
theorem ps_callV {index n ci f i : Nat} {fs : List (Option Nat)} {av rest : List ps_V} (hd : decode (ps_code M) pc = .ok (.invokevirtual index, 3)) (hc : ps_cV (ps_own M) index M2 n ci) (hs : (ps_sh f).2 = .inl (ci, fs)) (hn : av.length = n) (hst : st = av.reverse ++ .inr (.inr (f, i)) :: rest) (hrm : ∀ G : ps_G, ((rest.map (ps_cv G)).map fun v => v.category).sum ≤ 8)
    (k : ps_C M2 d (.inr (.inr (f, i)) :: av) σ (fun r σ' => ps_K M (d + 1) F (pc + 3) L (r.toList ++ rest) σ')) : ps_K M (d + 1) F pc L st σ := by
  subst hst
  intro G p l e R s m args below meth c H locs ls hI
  obtain ⟨hcb, hin, hse, rC, hrC, hrn⟩ := hc
  have hcB := ps_callB (M2 := M2) hI hcb
  have hoks := hI.2.2.1
  have hor : ps_ok (.inr (.inr (f, i))) := hoks _ (List.mem_append_right _ List.mem_cons_self)
  have hav : ∀ v ∈ ((.inr (.inr (f, i)) : ps_V) :: av), ps_ok v := fun v hv => by
    rcases List.mem_cons.mp hv with h | h
    · subst h; exact hor
    · exact hoks v (List.mem_append_left _ (List.mem_reverse.mpr h))
  have hrest : ∀ v ∈ rest, ps_ok v := fun v hv => hoks v (List.mem_append_right _ (List.mem_cons_of_mem _ hv))
  have hM := k hav G l
  obtain ⟨q0, -, hq⟩ := ps_at_obj (G := G) σ hs hor
  have hrecv := va_recv hI.1.2.2.2.2.2.2.2.2.1 hI.2.2.2.1 hrC hq
  rw [hrn] at hrecv
  have hR := hI.1.2.2.2.2.2.2.2.1
  refine ps_go (va_runV (b := G.1 f i) (As := av.map (ps_cv G)) (rest := rest.map (ps_cv G)) (ps_fix hI) hM ⟨hcB, hI.1.2.2.2.2.2.1 _ hin rfl, hI.1.2.2.2.2.2.1 _ hse rfl⟩ ⟨ps_Pre_blind _, hrecv, fun U hU hW => ⟨rfl, by rw [hU]; exact hI.2.2.2.1, va_K.moved hW.alike hI.1.2.2.2.2.2.2.2.2.1, hI.2.2.2.2.1, ps_nest_warm hW hI.1.2.2.2.2.2.2.2.2.2.2⟩⟩ rfl (by rw [List.length_map]; exact hn) hI.2.1.1 (by simp [ps_cv]) (lv_room (hrm G)) hd ⟨by rw [Nat.add_zero]; exact hR.2.2.1, by rw [Nat.add_zero]; exact hR.2.2.2⟩) hI.2.2.2.2.2 (fun r σ' H1 locs1 hok hq hP hS => ps_after hI hrest hok hP hS hq)
/-- a static method -/
theorem ps_callS {index n : Nat} {av rest : List ps_V} (hd : decode (ps_code M) pc = .ok (.invokestatic index, 3)) (hc : ps_cS (ps_own M) index M2 n) (hn : av.length = n) (hst : st = av.reverse ++ rest) (hrm : ∀ G : ps_G, ((rest.map (ps_cv G)).map fun v => v.category).sum ≤ 8)
    (k : ps_C M2 d av σ (fun r σ' => ps_K M (d + 1) F (pc + 3) L (r.toList ++ rest) σ')) : ps_K M (d + 1) F pc L st σ := by
  subst hst
  intro G p l e R s m args below meth c H locs ls hI
  obtain ⟨hcb, hst⟩ := hc
  have hcB := ps_callB (M2 := M2) hI hcb
  have hoks := hI.2.2.1
  have hav : ∀ v ∈ av, ps_ok v := fun v h => hoks v (List.mem_append_left _ (List.mem_reverse.mpr h))
  have hrest : ∀ v ∈ rest, ps_ok v := fun v hv => hoks v (List.mem_append_right _ hv)
  have hM := k hav G l
  have hR := hI.1.2.2.2.2.2.2.2.1
  refine ps_go (va_runS (As := av.map (ps_cv G)) (rest := rest.map (ps_cv G)) (ps_fix hI) hM ⟨hcB, hI.1.2.2.2.2.2.1 _ hst rfl⟩ ⟨ps_Pre_blind _, fun U hU hW => ⟨rfl, by rw [hU]; exact hI.2.2.2.1, va_K.moved hW.alike hI.1.2.2.2.2.2.2.2.2.1, hI.2.2.2.2.1, ps_nest_warm hW hI.1.2.2.2.2.2.2.2.2.2.2⟩⟩ rfl (by rw [List.length_map]; exact hn) hI.2.1.1 (by simp) (lv_room (hrm G)) hd ⟨by rw [Nat.add_zero]; exact hR.2.2.1, by rw [Nat.add_zero]; exact hR.2.2.2⟩) hI.2.2.2.2.2 (fun r σ' H1 locs1 hok hq hP hS => ps_after hI hrest hok hP hS hq)
-- returns
theorem ps_iretT {x : Int32} {ty : FieldType} {Q : Option ps_V → ps_S → Prop} (hd : decode (ps_code M) pc = .ok (.ireturn, 1)) (hr : ps_ret M = some ty) (h0 : ps_cs M = 0 ∧ ps_ss M = 0) (hn : narrow ty (.int x) = .int x) (hq : Q (some (.inl x)) σ) : ps_K M d (ps_QF Q) pc L [.inl x] σ := by
  intro G p l e R s m args below meth c H locs ls hI
  rw [h0.1, h0.2]
  exact W.zret (v := x) hI.1.1 hI.1.2.1 (hI.1.2.2.2.1.trans hr) hn (fun t ht hW => ⟨⟨some (.inl x), σ, rfl, fun v hv => by cases hv; exact trivial, hq, by rw [ht]; exact hI.2.2.2.1⟩, hI.2.2.2.2.2.F ht⟩) hI.2.2.2.2.2.2.2 hd (hI.1.2.2.2.2.2.2.1)
theorem ps_iret {x : Int32} {Q : Option ps_V → ps_S → Prop} (hd : decode (ps_code M) pc = .ok (.ireturn, 1)) (hr : ps_ret M = some .int) (h0 : ps_cs M = 0 ∧ ps_ss M = 0) (hq : Q (some (.inl x)) σ) : ps_K M d (ps_QF Q) pc L [.inl x] σ := ps_iretT hd hr h0 rfl hq
theorem ps_zret {x : Int32} {Q : Option ps_V → ps_S → Prop} (hd : decode (ps_code M) pc = .ok (.ireturn, 1)) (hr : ps_ret M = some .boolean) (h0 : ps_cs M = 0 ∧ ps_ss M = 0) (hx : x = 0 ∨ x = 1) (hq : Q (some (.inl x)) σ) : ps_K M d (ps_QF Q) pc L [.inl x] σ := ps_iretT hd hr h0 (ps_bit_n hx) hq
theorem ps_vret {Q : Option ps_V → ps_S → Prop} (hd : decode (ps_code M) pc = .ok (.return_, 1)) (hr : ps_ret M = none) (h0 : ps_cs M = 0 ∧ ps_ss M = 0) (hq : Q none σ) : ps_K M d (ps_QF Q) pc L [] σ := by
  intro G p l e R s m args below meth c H locs ls hI
  rw [h0.1, h0.2]
  exact W.vret hI.1.1 hI.1.2.1 (hI.1.2.2.2.1.trans hr) (fun t ht hW => ⟨⟨none, σ, rfl, fun v hv => (by cases hv), hq, by rw [ht]; exact hI.2.2.2.1⟩, hI.2.2.2.2.2.F ht⟩) hI.2.2.2.2.2.2.2 hd (hI.1.2.2.2.2.2.2.1)
theorem ps_aret {q : Nat × Nat} {C : String} {Q : Option ps_V → ps_S → Prop} (hd : decode (ps_code M) pc = .ok (.areturn, 1)) (hr : ps_ret M = some (.object C)) (h0 : ps_cs M = 0 ∧ ps_ss M = 0) (hq : Q (some (.inr (.inr q))) σ) : ps_K M d (ps_QF Q) pc L [.inr (.inr q)] σ := by
  intro G p l e R s m args below meth c H locs ls hI
  rw [h0.1, h0.2]
  exact W.aret (v := .ref (G.1 q.1 q.2)) hI.1.1 hI.1.2.1 (hI.1.2.2.2.1.trans hr) (Or.inl ⟨C, rfl⟩) (Or.inr ⟨_, rfl⟩) (fun t ht hW => ⟨⟨some (.inr (.inr q)), σ, rfl, fun v hv => by cases hv; exact hI.2.2.1 _ List.mem_cons_self, hq, by rw [ht]; exact hI.2.2.2.1⟩, hI.2.2.2.2.2.F ht⟩) hI.2.2.2.2.2.2.2 hd (hI.1.2.2.2.2.2.2.1)
-- entry
def ps_c1 (v : ps_V) : Bool := match v with
  | .inr (.inl _) => false
  | _ => true
theorem ps_cat1 {G : ps_G} {v : ps_V} (h : ps_c1 v = true) : (ps_cv G v).category = 1 := by
  match v, h with
  | .inl _, _ => rfl
  | .inr (.inr _), _ => rfl
theorem ps_enter {av : List ps_V} {Q : Option ps_V → ps_S → Prop} (hy : plainName (ps_y M).cls = true) (ho : (ps_y M).cls = ps_own M) (h0 : ps_cs M = 0 ∧ ps_ss M = 0 ∧ ps_sc M = none) (hc : av.all ps_c1 = true) (hl : av.length ≤ ps_maxL M) (k : ps_K M d (ps_QF Q) 0 (av.map some ++ List.replicate (ps_maxL M - av.length) none) [] σ) : ps_C M d av σ Q := by
  intro hav G l
  refine Met.ofW (cc := ps_code M) (maxL := ps_maxL M) (ret := ps_ret M) hy rfl ?_
  intro p e s m args below meth c s₁ B hml hv
  obtain ⟨rfl, hP, hK, hD, hN⟩ := hv
  have hts := atoms_spec (ws := ps_words M) B.pre
  have hown : s.vm.findClass (ps_y M).cls = some m.cls := findClass_of_methodNamed B.named
  rw [ho] at hown
  have hcat : ∀ v ∈ av.map (ps_cv G), v.category = 1 := fun v hv => by
    obtain ⟨u, hu, rfl⟩ := List.mem_map.mp hv
    exact ps_cat1 (List.all_eq_true.mp hc u hu)
  have hsl : ∀ vs : List Value, (∀ v ∈ vs, v.category = 1) → lg_sl vs = vs.map Slot.val := by
    intro vs
    induction vs with
    | nil => intro _; rfl
    | cons v t ih =>
      intro h
      have h1 := h v List.mem_cons_self
      have h2 := ih (fun w hw => h w (List.mem_cons_of_mem _ hw))
      show (if v.category = 2 then [Slot.val v, .second] else [.val v]) ++ lg_sl t = _
      rw [h2, h1]
      rfl
  have hle : (lg_sl (av.map (ps_cv G))).length ≤ ps_maxL M := by rw [hsl _ hcat]; simpa using hl
  have hlv := lv_entry (av.map (ps_cv G)) (n := ps_maxL M) hle
  have hls : (lg_sl (av.map (ps_cv G)) ++ List.replicate (ps_maxL M - (lg_sl (av.map (ps_cv G))).length) Slot.unset).toArray = ((av.map (fun v => Slot.val (ps_cv G v))) ++ List.replicate (ps_maxL M - av.length) Slot.unset).toArray := by
    rw [hsl _ hcat]
    simp [List.map_map]
  rw [lg_entry_eq]
  rw [hls] at hlv ⊢
  have hk := k G p l e (headSpec (ps_words M) (ps_rm d)).room s m ((av.map (ps_cv G)).toArray) below meth c s.heap [] ((av.map (fun v => Slot.val (ps_cv G v))) ++ List.replicate (ps_maxL M - av.length) Slot.unset).toArray
    ⟨⟨B.exec, B.bytes, hml, B.returns, hown, fun w hw hg => hts w (List.mem_cons_of_mem _ (List.mem_filter.mpr ⟨hw, hg⟩)), B.notSynchronized, ⟨Nat.le_refl _, Nat.le_refl _, by rw [h0.1]; exact Nat.zero_le _, by rw [h0.2.1]; exact Nat.zero_le _⟩, hK, by rw [h0.2.2]; exact trivial, hN⟩, ⟨hlv.1, hlv.2.1, fun i v hv => ?_⟩, fun v hv => (by cases hv), hP, hD, va_S.rf⟩
  · rw [h0.1, h0.2.1] at hk
    exact hk
  · rcases Nat.lt_or_ge i av.length with q | q
    · rw [List.getElem?_append_left (by simpa using q), List.getElem?_map] at hv
      have hvi : av[i]? = some v := by
        cases hh : av[i]? with
        | none => rw [hh] at hv; cases hv
        | some w => rw [hh] at hv; cases hv; rfl
      have hmem := List.mem_of_getElem? hvi
      refine ⟨?_, ps_cat1 (List.all_eq_true.mp hc v hmem), hav v hmem⟩
      rw [List.getElem?_toArray, List.getElem?_append_left (by simpa using q), List.getElem?_map, hvi]
      rfl
    · rw [List.getElem?_append_right (by simpa using q)] at hv
      have := List.mem_of_getElem? hv
      exact absurd (List.eq_of_mem_replicate this) (by simp)
-- a contract's end may be weakened, and its depth grown
theorem ps_C.imp {av : List ps_V} {Q Q' : Option ps_V → ps_S → Prop} (h : ∀ r σ', Q r σ' → Q' r σ') (k : ps_C M d av σ Q) : ps_C M d av σ Q' := by
  intro hav G l p e ha hcas hck s m args below hf happ hpre hx
  obtain ⟨t, o, h1, h2, h3, ⟨⟨⟨r, σ', a1, a2, a3, a4⟩, a5⟩, h5⟩⟩ := k hav G l p e ha hcas hck s m args below hf happ hpre hx
  exact ⟨t, o, h1, h2, h3, ⟨⟨⟨r, σ', a1, a2, h r σ' a3, a4⟩, a5⟩, h5⟩⟩
-- the script
theorem ps_sld {n : Nat} {xs : Nat → Int32} {j : Int32} (hd : decode (ps_code M) pc = .ok (.iaload, 1)) (hs : ps_sc M = some (n, xs)) (hin : vp_in j n) (k : ps_K M d F (pc + 1) L (.inl (xs j.toNatClampNeg) :: st) σ) : ps_K M d F pc L (.inl j :: .inr (.inr (0, 0)) :: st) σ := by
  intro G p l e R s m args below meth c H locs ls hI
  have hX := hI.1.2.2.2.2.2.2.2.2.2.1
  rw [hs] at hX
  exact va_sld hI.1.1 hI.1.2.1 hX.2.2 hX.2.1 hX.1 hI.2.2.2.2.2 hin hd (k G p l e R s m args below meth c H locs ls (hI.to (ps_ok_i (ps_ok_t2 hI.2.2.1))))
theorem ps_slen {n : Nat} {xs : Nat → Int32} (hd : decode (ps_code M) pc = .ok (.arraylength, 1)) (hs : ps_sc M = some (n, xs)) (k : ps_K M d F (pc + 1) L (.inl (Int32.ofNat n) :: st) σ) : ps_K M d F pc L (.inr (.inr (0, 0)) :: st) σ := by
  intro G p l e R s m args below meth c H locs ls hI
  have hX := hI.1.2.2.2.2.2.2.2.2.2.1
  rw [hs] at hX
  exact va_slen hI.1.1 hI.1.2.1 hX.2.2 hX.2.1 hX.1 hI.2.2.2.2.2 hd (k G p l e R s m args below meth c H locs ls (hI.to (ps_ok_i (ps_ok_t hI.2.2.1))))
-- System.arraycopy of a whole int array
theorem ps_copy {f g n index : Nat} {x : Int32} (hd : decode (ps_code M) pc = .ok (.invokestatic index, 3)) (hl : Cond.methodLink (ps_own M) index arraycopyName ∈ lw_tbl) (hf : (ps_sh f).2 = .inr (0, n, none)) (hg : (ps_sh g).2 = .inr (0, n, none)) (hn : n ≠ 0) (hx : x.toNatClampNeg = n ∧ ¬ x < 0) {i j : Nat}
    (k : ps_K M (d + 1) F (pc + 3) L [] (fun f' k' j' => if f' = g ∧ k' = j ∧ j' < n then σ f i j' else σ f' k' j')) : ps_K M (d + 1) F pc L [.inl x, .inl 0, .inr (.inr (g, j)), .inl 0, .inr (.inr (f, i))] σ := by
  intro G p l e R s m args below meth c H locs ls hI
  obtain ⟨q0, hq1, hq⟩ := ps_at_arr (G := G) σ hf hn (hI.2.2.1 (.inr (.inr (f, i))) (by simp))
  obtain ⟨q2, hq3, hq4⟩ := ps_at_arr (G := G) σ hg hn (hI.2.2.1 (.inr (.inr (g, j))) (by simp))
  have hR := hI.1.2.2.2.2.2.2.2.1
  refine va_copyi (sp := 0) (dp := 0) (n := x) hI.1.1 hI.1.2.1 (hI.1.2.2.1.trans hI.2.1.1.symm) hI.1.2.2.2.2.1 (hI.1.2.2.2.2.2.1 _ hl rfl) (hI.1.2.2.2.2.2.1 (.native arraycopyName) (by decide +kernel) (by decide +kernel)) (hI.1.2.2.2.2.2.1 (.static arraycopyName) (by decide +kernel) rfl) (hI.1.2.2.2.2.2.1 (.initialized "java/lang/System") (by decide +kernel) rfl) hI.1.2.2.2.2.2.2.2.2.1 hI.2.2.2.1 hI.2.2.2.2.1 hI.2.2.2.2.2 q0 q2 0 0 (ty := .int) hq hq4 rfl rfl rfl (by decide) (by decide) hx.2 (by rw [hx.1]; show 0 + n ≤ n; omega) (by rw [hx.1]; show 0 + n ≤ n; omega) (fun _ _ => rfl) (by have := hR.1; omega) ?_ hd ?_
  · have h1 := hR.2.1
    have h2 : ((([] : List Value)).map fun v => v.category).sum + (nativeFrameWords "java/lang/System" "arraycopy" 5 + 11) ≤ 40 := by decide +kernel
    exact Nat.le_trans h2 (by omega)
  · intro H1 locs1 h1 h2 h3
    have hset : (ps_ws G σ).set q2 (G.1 g j, .inl (G.2.2 0, n, .inl (va_cpy (σ f i) (σ g j) (0 : Int32).toNatClampNeg (0 : Int32).toNatClampNeg x.toNatClampNeg))) = ps_ws G (fun f' k' j' => if f' = g ∧ k' = j ∧ j' < n then σ f i j' else σ f' k' j') := by
      apply List.ext_getElem?
      intro i'
      by_cases hi : i' = q2
      · subst hi
        rw [ps_ws_at hq3, ps_E_arr hg, List.getElem?_set_self (by rw [ps_ws_len]; exact (List.getElem?_eq_some_iff.mp hq3).1)]
        congr 6
        funext j'
        rw [hx.1]
        show va_cpy (σ f i) (σ g j) 0 0 n j' = _
        by_cases h : j' < n
        · simp [va_cpy, h]
        · simp [va_cpy, h]
      · rw [List.getElem?_set_ne (fun q => hi q.symm)]
        unfold ps_ws
        rw [List.getElem?_map, List.getElem?_map]
        cases hq9 : ps_cells[i']? with
        | none => rfl
        | some q =>
          have hne : ¬ (q.1 = g ∧ q.2 = j) := by
            rintro ⟨e1, e2⟩
            have e3 : q = (g, j) := by rw [← e1, ← e2]
            subst e3
            exact hi ((List.getElem?_inj (List.getElem?_eq_some_iff.mp hq9).1 ps_nodup).mp (hq9.trans hq3.symm))
          show some (G.1 q.1 q.2, ps_E G q (σ q.1 q.2)) = some (G.1 q.1 q.2, ps_E G q (fun j' => if q.1 = g ∧ q.2 = j ∧ j' < n then σ f i j' else σ q.1 q.2 j'))
          have e9 : (fun j' => if q.1 = g ∧ q.2 = j ∧ j' < n then σ f i j' else σ q.1 q.2 j') = σ q.1 q.2 := by
            funext j'
            rw [if_neg (fun z => hne ⟨z.1, z.2.1⟩)]
          rw [e9]
    rw [hset] at h1 h2
    exact k G p l e R s m args below meth c H1 locs1 ls ⟨hI.1, hI.2.1, fun v hv => (by cases hv), h1, h2, h3⟩
end PSC
end
