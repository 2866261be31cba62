section
-- ===== PART A: goes FIRST, ahead of the names: the tables' words, and 'selects' of the private methods out of them =====
/-- a private method of a class that the tables say can be made, by its rows of tables_1 -/
def lw_okq (q : MethodName × Nat) : Prop := (q.1.cls ≠ "java/lang/invoke/MethodHandle" ∧ q.1.cls ≠ "java/lang/invoke/VarHandle") ∧ Cond.instantiable q.1.cls q.2 ∈ tables_1 ∧ Cond.privateMethod q.1 ∈ tables_1 ∧ Cond.instanceMethod q.1 ∈ tables_1
theorem lw_p0 : lw_okq (⟨"TurnCabinet$Reader", "advance", "()V"⟩, 16) := ⟨⟨by decide +kernel, by decide +kernel⟩, List.mem_of_getElem? (i := 135) (by decide +kernel), List.mem_of_getElem? (i := 470) (by decide +kernel), List.mem_of_getElem? (i := 471) (by decide +kernel)⟩
theorem lw_p1 : lw_okq (⟨"TurnCabinet$Reader", "takeWord", "()V"⟩, 16) := ⟨⟨by decide +kernel, by decide +kernel⟩, List.mem_of_getElem? (i := 135) (by decide +kernel), List.mem_of_getElem? (i := 485) (by decide +kernel), List.mem_of_getElem? (i := 486) (by decide +kernel)⟩
theorem lw_p2 : lw_okq (⟨"TurnCabinet$Reader", "takeNumber", "()V"⟩, 16) := ⟨⟨by decide +kernel, by decide +kernel⟩, List.mem_of_getElem? (i := 135) (by decide +kernel), List.mem_of_getElem? (i := 495) (by decide +kernel), List.mem_of_getElem? (i := 496) (by decide +kernel)⟩
theorem lw_p3 : lw_okq (⟨"TurnCabinet$Reader", "readDivisors", "()V"⟩, 16) := ⟨⟨by decide +kernel, by decide +kernel⟩, List.mem_of_getElem? (i := 135) (by decide +kernel), List.mem_of_getElem? (i := 507) (by decide +kernel), List.mem_of_getElem? (i := 508) (by decide +kernel)⟩
theorem lw_p4 : lw_okq (⟨"TurnCabinet$Reader", "checkOnce", "()V"⟩, 16) := ⟨⟨by decide +kernel, by decide +kernel⟩, List.mem_of_getElem? (i := 135) (by decide +kernel), List.mem_of_getElem? (i := 511) (by decide +kernel), List.mem_of_getElem? (i := 512) (by decide +kernel)⟩
theorem lw_p5 : lw_okq (⟨"TurnCabinet$Reader", "fail", "(I)V"⟩, 16) := ⟨⟨by decide +kernel, by decide +kernel⟩, List.mem_of_getElem? (i := 135) (by decide +kernel), List.mem_of_getElem? (i := 518) (by decide +kernel), List.mem_of_getElem? (i := 519) (by decide +kernel)⟩
theorem lw_p6 : lw_okq (⟨"TurnCabinet$Reader", "readNumber", "(II)I"⟩, 16) := ⟨⟨by decide +kernel, by decide +kernel⟩, List.mem_of_getElem? (i := 135) (by decide +kernel), List.mem_of_getElem? (i := 522) (by decide +kernel), List.mem_of_getElem? (i := 523) (by decide +kernel)⟩
theorem lw_p7 : lw_okq (⟨"TurnCabinet$Reader", "failToken", "()V"⟩, 16) := ⟨⟨by decide +kernel, by decide +kernel⟩, List.mem_of_getElem? (i := 135) (by decide +kernel), List.mem_of_getElem? (i := 526) (by decide +kernel), List.mem_of_getElem? (i := 527) (by decide +kernel)⟩
theorem lw_p8 : lw_okq (⟨"TurnCabinet$Reader", "readSign", "()V"⟩, 16) := ⟨⟨by decide +kernel, by decide +kernel⟩, List.mem_of_getElem? (i := 135) (by decide +kernel), List.mem_of_getElem? (i := 530) (by decide +kernel), List.mem_of_getElem? (i := 531) (by decide +kernel)⟩
theorem lw_p9 : lw_okq (⟨"TurnCabinet$Reader", "readOnlyNumber", "(II)I"⟩, 16) := ⟨⟨by decide +kernel, by decide +kernel⟩, List.mem_of_getElem? (i := 135) (by decide +kernel), List.mem_of_getElem? (i := 534) (by decide +kernel), List.mem_of_getElem? (i := 535) (by decide +kernel)⟩
theorem lw_p10 : lw_okq (⟨"TurnCabinet$Reader", "readOffice", "()V"⟩, 16) := ⟨⟨by decide +kernel, by decide +kernel⟩, List.mem_of_getElem? (i := 135) (by decide +kernel), List.mem_of_getElem? (i := 538) (by decide +kernel), List.mem_of_getElem? (i := 539) (by decide +kernel)⟩
theorem lw_p11 : lw_okq (⟨"TurnCabinet$Reader", "readName", "()J"⟩, 16) := ⟨⟨by decide +kernel, by decide +kernel⟩, List.mem_of_getElem? (i := 135) (by decide +kernel), List.mem_of_getElem? (i := 542) (by decide +kernel), List.mem_of_getElem? (i := 543) (by decide +kernel)⟩
theorem lw_p12 : lw_okq (⟨"TurnCabinet$Reader", "checkNew", "(J)V"⟩, 16) := ⟨⟨by decide +kernel, by decide +kernel⟩, List.mem_of_getElem? (i := 135) (by decide +kernel), List.mem_of_getElem? (i := 546) (by decide +kernel), List.mem_of_getElem? (i := 547) (by decide +kernel)⟩
theorem lw_p13 : lw_okq (⟨"TurnCabinet$Reader", "readParty", "()V"⟩, 16) := ⟨⟨by decide +kernel, by decide +kernel⟩, List.mem_of_getElem? (i := 135) (by decide +kernel), List.mem_of_getElem? (i := 550) (by decide +kernel), List.mem_of_getElem? (i := 551) (by decide +kernel)⟩
theorem lw_p14 : lw_okq (⟨"TurnCabinet$Reader", "readWord", "(I)V"⟩, 16) := ⟨⟨by decide +kernel, by decide +kernel⟩, List.mem_of_getElem? (i := 135) (by decide +kernel), List.mem_of_getElem? (i := 554) (by decide +kernel), List.mem_of_getElem? (i := 555) (by decide +kernel)⟩
theorem lw_p15 : lw_okq (⟨"TurnCabinet$Reader", "readTable", "([I[II)V"⟩, 16) := ⟨⟨by decide +kernel, by decide +kernel⟩, List.mem_of_getElem? (i := 135) (by decide +kernel), List.mem_of_getElem? (i := 558) (by decide +kernel), List.mem_of_getElem? (i := 559) (by decide +kernel)⟩
def lw_privs_1 : List (MethodName × Nat) := [(⟨"TurnCabinet$Reader", "advance", "()V"⟩, 16), (⟨"TurnCabinet$Reader", "takeWord", "()V"⟩, 16), (⟨"TurnCabinet$Reader", "takeNumber", "()V"⟩, 16), (⟨"TurnCabinet$Reader", "readDivisors", "()V"⟩, 16), (⟨"TurnCabinet$Reader", "checkOnce", "()V"⟩, 16), (⟨"TurnCabinet$Reader", "fail", "(I)V"⟩, 16), (⟨"TurnCabinet$Reader", "readNumber", "(II)I"⟩, 16), (⟨"TurnCabinet$Reader", "failToken", "()V"⟩, 16), (⟨"TurnCabinet$Reader", "readSign", "()V"⟩, 16), (⟨"TurnCabinet$Reader", "readOnlyNumber", "(II)I"⟩, 16), (⟨"TurnCabinet$Reader", "readOffice", "()V"⟩, 16), (⟨"TurnCabinet$Reader", "readName", "()J"⟩, 16), (⟨"TurnCabinet$Reader", "checkNew", "(J)V"⟩, 16), (⟨"TurnCabinet$Reader", "readParty", "()V"⟩, 16), (⟨"TurnCabinet$Reader", "readWord", "(I)V"⟩, 16), (⟨"TurnCabinet$Reader", "readTable", "([I[II)V"⟩, 16)]
theorem lw_r1 : ∀ q ∈ lw_privs_1, lw_okq q := List.forall_mem_cons.mpr ⟨lw_p0, List.forall_mem_cons.mpr ⟨lw_p1, List.forall_mem_cons.mpr ⟨lw_p2, List.forall_mem_cons.mpr ⟨lw_p3, List.forall_mem_cons.mpr ⟨lw_p4, List.forall_mem_cons.mpr ⟨lw_p5, List.forall_mem_cons.mpr ⟨lw_p6, List.forall_mem_cons.mpr ⟨lw_p7, List.forall_mem_cons.mpr ⟨lw_p8, List.forall_mem_cons.mpr ⟨lw_p9, List.forall_mem_cons.mpr ⟨lw_p10, List.forall_mem_cons.mpr ⟨lw_p11, List.forall_mem_cons.mpr ⟨lw_p12, List.forall_mem_cons.mpr ⟨lw_p13, List.forall_mem_cons.mpr ⟨lw_p14, List.forall_mem_cons.mpr ⟨lw_p15, fun _ h => absurd h List.not_mem_nil⟩⟩⟩⟩⟩⟩⟩⟩⟩⟩⟩⟩⟩⟩⟩⟩
theorem lw_p16 : lw_okq (⟨"TurnCabinet$Reader", "known", "([JIJ)I"⟩, 16) := ⟨⟨by decide +kernel, by decide +kernel⟩, List.mem_of_getElem? (i := 135) (by decide +kernel), List.mem_of_getElem? (i := 562) (by decide +kernel), List.mem_of_getElem? (i := 563) (by decide +kernel)⟩
theorem lw_p17 : lw_okq (⟨"TurnCabinet$Reader", "readBar", "()V"⟩, 16) := ⟨⟨by decide +kernel, by decide +kernel⟩, List.mem_of_getElem? (i := 135) (by decide +kernel), List.mem_of_getElem? (i := 566) (by decide +kernel), List.mem_of_getElem? (i := 567) (by decide +kernel)⟩
theorem lw_p18 : lw_okq (⟨"TurnCabinet$Cabinet", "heldBy", "(I)I"⟩, 8) := ⟨⟨by decide +kernel, by decide +kernel⟩, List.mem_of_getElem? (i := 380) (by decide +kernel), List.mem_of_getElem? (i := 606) (by decide +kernel), List.mem_of_getElem? (i := 607) (by decide +kernel)⟩
theorem lw_p19 : lw_okq (⟨"TurnCabinet$Coalitions", "forgetPicks", "()V"⟩, 15) := ⟨⟨by decide +kernel, by decide +kernel⟩, List.mem_of_getElem? (i := 293) (by decide +kernel), List.mem_of_getElem? (i := 715) (by decide +kernel), List.mem_of_getElem? (i := 716) (by decide +kernel)⟩
theorem lw_p20 : lw_okq (⟨"TurnCabinet$Coalitions", "foreseePicks", "(I)V"⟩, 15) := ⟨⟨by decide +kernel, by decide +kernel⟩, List.mem_of_getElem? (i := 293) (by decide +kernel), List.mem_of_getElem? (i := 727) (by decide +kernel), List.mem_of_getElem? (i := 728) (by decide +kernel)⟩
theorem lw_p21 : lw_okq (⟨"TurnCabinet$Picks", "layLanes", "(I)V"⟩, 7) := ⟨⟨by decide +kernel, by decide +kernel⟩, List.mem_of_getElem? (i := 249) (by decide +kernel), List.mem_of_getElem? (i := 736) (by decide +kernel), List.mem_of_getElem? (i := 737) (by decide +kernel)⟩
theorem lw_p22 : lw_okq (⟨"TurnCabinet$Picks", "allOffices", "()I"⟩, 7) := ⟨⟨by decide +kernel, by decide +kernel⟩, List.mem_of_getElem? (i := 249) (by decide +kernel), List.mem_of_getElem? (i := 743) (by decide +kernel), List.mem_of_getElem? (i := 744) (by decide +kernel)⟩
theorem lw_p23 : lw_okq (⟨"TurnCabinet$Picks", "choose", "(II)V"⟩, 7) := ⟨⟨by decide +kernel, by decide +kernel⟩, List.mem_of_getElem? (i := 249) (by decide +kernel), List.mem_of_getElem? (i := 747) (by decide +kernel), List.mem_of_getElem? (i := 748) (by decide +kernel)⟩
theorem lw_p24 : lw_okq (⟨"TurnCabinet$Picks", "laneOf", "(JI)J"⟩, 7) := ⟨⟨by decide +kernel, by decide +kernel⟩, List.mem_of_getElem? (i := 249) (by decide +kernel), List.mem_of_getElem? (i := 753) (by decide +kernel), List.mem_of_getElem? (i := 754) (by decide +kernel)⟩
theorem lw_p25 : lw_okq (⟨"TurnCabinet$Picks", "firstSwap", "(I)I"⟩, 7) := ⟨⟨by decide +kernel, by decide +kernel⟩, List.mem_of_getElem? (i := 249) (by decide +kernel), List.mem_of_getElem? (i := 800) (by decide +kernel), List.mem_of_getElem? (i := 801) (by decide +kernel)⟩
theorem lw_p26 : lw_okq (⟨"TurnCabinet$Picks", "helpsBoth", "(III)Z"⟩, 7) := ⟨⟨by decide +kernel, by decide +kernel⟩, List.mem_of_getElem? (i := 249) (by decide +kernel), List.mem_of_getElem? (i := 804) (by decide +kernel), List.mem_of_getElem? (i := 805) (by decide +kernel)⟩
theorem lw_p27 : lw_okq (⟨"TurnCabinet$Shares", "sumWorths", "(II)V"⟩, 3) := ⟨⟨by decide +kernel, by decide +kernel⟩, List.mem_of_getElem? (i := 277) (by decide +kernel), List.mem_of_getElem? (i := 883) (by decide +kernel), List.mem_of_getElem? (i := 884) (by decide +kernel)⟩
theorem lw_p28 : lw_okq (⟨"TurnCabinet$Shares", "bestWith", "(IIZ)I"⟩, 3) := ⟨⟨by decide +kernel, by decide +kernel⟩, List.mem_of_getElem? (i := 277) (by decide +kernel), List.mem_of_getElem? (i := 890) (by decide +kernel), List.mem_of_getElem? (i := 891) (by decide +kernel)⟩
theorem lw_p29 : lw_okq (⟨"TurnCabinet$Coalitions", "leads", "(I)Z"⟩, 15) := ⟨⟨by decide +kernel, by decide +kernel⟩, List.mem_of_getElem? (i := 293) (by decide +kernel), List.mem_of_getElem? (i := 912) (by decide +kernel), List.mem_of_getElem? (i := 913) (by decide +kernel)⟩
theorem lw_p30 : lw_okq (⟨"TurnCabinet$Coalitions", "isMinimal", "(I)Z"⟩, 15) := ⟨⟨by decide +kernel, by decide +kernel⟩, List.mem_of_getElem? (i := 293) (by decide +kernel), List.mem_of_getElem? (i := 920) (by decide +kernel), List.mem_of_getElem? (i := 921) (by decide +kernel)⟩
theorem lw_p31 : lw_okq (⟨"TurnCabinet$Coalitions", "leadsWithout", "(II)Z"⟩, 15) := ⟨⟨by decide +kernel, by decide +kernel⟩, List.mem_of_getElem? (i := 293) (by decide +kernel), List.mem_of_getElem? (i := 924) (by decide +kernel), List.mem_of_getElem? (i := 925) (by decide +kernel)⟩
def lw_privs_2 : List (MethodName × Nat) := [(⟨"TurnCabinet$Reader", "known", "([JIJ)I"⟩, 16), (⟨"TurnCabinet$Reader", "readBar", "()V"⟩, 16), (⟨"TurnCabinet$Cabinet", "heldBy", "(I)I"⟩, 8), (⟨"TurnCabinet$Coalitions", "forgetPicks", "()V"⟩, 15), (⟨"TurnCabinet$Coalitions", "foreseePicks", "(I)V"⟩, 15), (⟨"TurnCabinet$Picks", "layLanes", "(I)V"⟩, 7), (⟨"TurnCabinet$Picks", "allOffices", "()I"⟩, 7), (⟨"TurnCabinet$Picks", "choose", "(II)V"⟩, 7), (⟨"TurnCabinet$Picks", "laneOf", "(JI)J"⟩, 7), (⟨"TurnCabinet$Picks", "firstSwap", "(I)I"⟩, 7), (⟨"TurnCabinet$Picks", "helpsBoth", "(III)Z"⟩, 7), (⟨"TurnCabinet$Shares", "sumWorths", "(II)V"⟩, 3), (⟨"TurnCabinet$Shares", "bestWith", "(IIZ)I"⟩, 3), (⟨"TurnCabinet$Coalitions", "leads", "(I)Z"⟩, 15), (⟨"TurnCabinet$Coalitions", "isMinimal", "(I)Z"⟩, 15), (⟨"TurnCabinet$Coalitions", "leadsWithout", "(II)Z"⟩, 15)]
theorem lw_r2 : ∀ q ∈ lw_privs_2, lw_okq q := List.forall_mem_cons.mpr ⟨lw_p16, List.forall_mem_cons.mpr ⟨lw_p17, List.forall_mem_cons.mpr ⟨lw_p18, List.forall_mem_cons.mpr ⟨lw_p19, List.forall_mem_cons.mpr ⟨lw_p20, List.forall_mem_cons.mpr ⟨lw_p21, List.forall_mem_cons.mpr ⟨lw_p22, List.forall_mem_cons.mpr ⟨lw_p23, List.forall_mem_cons.mpr ⟨lw_p24, List.forall_mem_cons.mpr ⟨lw_p25, List.forall_mem_cons.mpr ⟨lw_p26, List.forall_mem_cons.mpr ⟨lw_p27, List.forall_mem_cons.mpr ⟨lw_p28, List.forall_mem_cons.mpr ⟨lw_p29, List.forall_mem_cons.mpr ⟨lw_p30, List.forall_mem_cons.mpr ⟨lw_p31, fun _ h => absurd h List.not_mem_nil⟩⟩⟩⟩⟩⟩⟩⟩⟩⟩⟩⟩⟩⟩⟩⟩
theorem lw_p32 : lw_okq (⟨"TurnCabinet$Coalitions", "firstRival", "(I)I"⟩, 15) := ⟨⟨by decide +kernel, by decide +kernel⟩, List.mem_of_getElem? (i := 293) (by decide +kernel), List.mem_of_getElem? (i := 946) (by decide +kernel), List.mem_of_getElem? (i := 947) (by decide +kernel)⟩
theorem lw_p33 : lw_okq (⟨"TurnCabinet$Coalitions", "paysMore", "(II)Z"⟩, 15) := ⟨⟨by decide +kernel, by decide +kernel⟩, List.mem_of_getElem? (i := 293) (by decide +kernel), List.mem_of_getElem? (i := 950) (by decide +kernel), List.mem_of_getElem? (i := 951) (by decide +kernel)⟩
theorem lw_p34 : lw_okq (⟨"TurnCabinet$Coalitions", "isUnbeaten", "(I)Z"⟩, 15) := ⟨⟨by decide +kernel, by decide +kernel⟩, List.mem_of_getElem? (i := 293) (by decide +kernel), List.mem_of_getElem? (i := 993) (by decide +kernel), List.mem_of_getElem? (i := 994) (by decide +kernel)⟩
theorem lw_p35 : lw_okq (⟨"TurnCabinet$Coalitions", "isBeaten", "(I)Z"⟩, 15) := ⟨⟨by decide +kernel, by decide +kernel⟩, List.mem_of_getElem? (i := 293) (by decide +kernel), List.mem_of_getElem? (i := 997) (by decide +kernel), List.mem_of_getElem? (i := 998) (by decide +kernel)⟩
theorem lw_p36 : lw_okq (⟨"TurnCabinet$House", "nextByPlace", "(I)I"⟩, 16) := ⟨⟨by decide +kernel, by decide +kernel⟩, List.mem_of_getElem? (i := 41) (by decide +kernel), List.mem_of_getElem? (i := 1028) (by decide +kernel), List.mem_of_getElem? (i := 1029) (by decide +kernel)⟩
theorem lw_p37 : lw_okq (⟨"TurnCabinet$Forming", "goRound", "(I)V"⟩, 8) := ⟨⟨by decide +kernel, by decide +kernel⟩, List.mem_of_getElem? (i := 346) (by decide +kernel), List.mem_of_getElem? (i := 1084) (by decide +kernel), List.mem_of_getElem? (i := 1085) (by decide +kernel)⟩
theorem lw_p38 : lw_okq (⟨"TurnCabinet$Forming", "nextFormer", "(I)I"⟩, 8) := ⟨⟨by decide +kernel, by decide +kernel⟩, List.mem_of_getElem? (i := 346) (by decide +kernel), List.mem_of_getElem? (i := 1088) (by decide +kernel), List.mem_of_getElem? (i := 1089) (by decide +kernel)⟩
theorem lw_p39 : lw_okq (⟨"TurnCabinet$Forming", "letForm", "(II)V"⟩, 8) := ⟨⟨by decide +kernel, by decide +kernel⟩, List.mem_of_getElem? (i := 346) (by decide +kernel), List.mem_of_getElem? (i := 1094) (by decide +kernel), List.mem_of_getElem? (i := 1095) (by decide +kernel)⟩
theorem lw_p40 : lw_okq (⟨"TurnCabinet$Forming", "choice", "(I)I"⟩, 8) := ⟨⟨by decide +kernel, by decide +kernel⟩, List.mem_of_getElem? (i := 346) (by decide +kernel), List.mem_of_getElem? (i := 1098) (by decide +kernel), List.mem_of_getElem? (i := 1099) (by decide +kernel)⟩
theorem lw_p41 : lw_okq (⟨"TurnCabinet$Forming", "isLiked", "(III)Z"⟩, 8) := ⟨⟨by decide +kernel, by decide +kernel⟩, List.mem_of_getElem? (i := 346) (by decide +kernel), List.mem_of_getElem? (i := 1104) (by decide +kernel), List.mem_of_getElem? (i := 1105) (by decide +kernel)⟩
theorem lw_p42 : lw_okq (⟨"TurnCabinet$Forming", "walkersFrom", "(II)I"⟩, 8) := ⟨⟨by decide +kernel, by decide +kernel⟩, List.mem_of_getElem? (i := 346) (by decide +kernel), List.mem_of_getElem? (i := 1110) (by decide +kernel), List.mem_of_getElem? (i := 1111) (by decide +kernel)⟩
theorem lw_p43 : lw_okq (⟨"TurnCabinet$Forming", "keep", "(III)V"⟩, 8) := ⟨⟨by decide +kernel, by decide +kernel⟩, List.mem_of_getElem? (i := 346) (by decide +kernel), List.mem_of_getElem? (i := 1115) (by decide +kernel), List.mem_of_getElem? (i := 1116) (by decide +kernel)⟩
theorem lw_p44 : lw_okq (⟨"TurnCabinet$Forming", "wasMade", "(I)Z"⟩, 8) := ⟨⟨by decide +kernel, by decide +kernel⟩, List.mem_of_getElem? (i := 346) (by decide +kernel), List.mem_of_getElem? (i := 1123) (by decide +kernel), List.mem_of_getElem? (i := 1124) (by decide +kernel)⟩
theorem lw_p45 : lw_okq (⟨"TurnCabinet$Cabinet", "dropOldest", "()V"⟩, 8) := ⟨⟨by decide +kernel, by decide +kernel⟩, List.mem_of_getElem? (i := 380) (by decide +kernel), List.mem_of_getElem? (i := 1151) (by decide +kernel), List.mem_of_getElem? (i := 1152) (by decide +kernel)⟩
theorem lw_p46 : lw_okq (⟨"TurnCabinet$Cabinet", "countsHeld", "(I)I"⟩, 8) := ⟨⟨by decide +kernel, by decide +kernel⟩, List.mem_of_getElem? (i := 380) (by decide +kernel), List.mem_of_getElem? (i := 1181) (by decide +kernel), List.mem_of_getElem? (i := 1182) (by decide +kernel)⟩
theorem lw_p47 : lw_okq (⟨"TurnCabinet$Cabinet", "firstUnpaid", "()I"⟩, 8) := ⟨⟨by decide +kernel, by decide +kernel⟩, List.mem_of_getElem? (i := 380) (by decide +kernel), List.mem_of_getElem? (i := 1208) (by decide +kernel), List.mem_of_getElem? (i := 1209) (by decide +kernel)⟩
def lw_privs_3 : List (MethodName × Nat) := [(⟨"TurnCabinet$Coalitions", "firstRival", "(I)I"⟩, 15), (⟨"TurnCabinet$Coalitions", "paysMore", "(II)Z"⟩, 15), (⟨"TurnCabinet$Coalitions", "isUnbeaten", "(I)Z"⟩, 15), (⟨"TurnCabinet$Coalitions", "isBeaten", "(I)Z"⟩, 15), (⟨"TurnCabinet$House", "nextByPlace", "(I)I"⟩, 16), (⟨"TurnCabinet$Forming", "goRound", "(I)V"⟩, 8), (⟨"TurnCabinet$Forming", "nextFormer", "(I)I"⟩, 8), (⟨"TurnCabinet$Forming", "letForm", "(II)V"⟩, 8), (⟨"TurnCabinet$Forming", "choice", "(I)I"⟩, 8), (⟨"TurnCabinet$Forming", "isLiked", "(III)Z"⟩, 8), (⟨"TurnCabinet$Forming", "walkersFrom", "(II)I"⟩, 8), (⟨"TurnCabinet$Forming", "keep", "(III)V"⟩, 8), (⟨"TurnCabinet$Forming", "wasMade", "(I)Z"⟩, 8), (⟨"TurnCabinet$Cabinet", "dropOldest", "()V"⟩, 8), (⟨"TurnCabinet$Cabinet", "countsHeld", "(I)I"⟩, 8), (⟨"TurnCabinet$Cabinet", "firstUnpaid", "()I"⟩, 8)]
theorem lw_r3 : ∀ q ∈ lw_privs_3, lw_okq q := List.forall_mem_cons.mpr ⟨lw_p32, List.forall_mem_cons.mpr ⟨lw_p33, List.forall_mem_cons.mpr ⟨lw_p34, List.forall_mem_cons.mpr ⟨lw_p35, List.forall_mem_cons.mpr ⟨lw_p36, List.forall_mem_cons.mpr ⟨lw_p37, List.forall_mem_cons.mpr ⟨lw_p38, List.forall_mem_cons.mpr ⟨lw_p39, List.forall_mem_cons.mpr ⟨lw_p40, List.forall_mem_cons.mpr ⟨lw_p41, List.forall_mem_cons.mpr ⟨lw_p42, List.forall_mem_cons.mpr ⟨lw_p43, List.forall_mem_cons.mpr ⟨lw_p44, List.forall_mem_cons.mpr ⟨lw_p45, List.forall_mem_cons.mpr ⟨lw_p46, List.forall_mem_cons.mpr ⟨lw_p47, fun _ h => absurd h List.not_mem_nil⟩⟩⟩⟩⟩⟩⟩⟩⟩⟩⟩⟩⟩⟩⟩⟩
theorem lw_p48 : lw_okq (⟨"TurnCabinet", "toldCabinet", "(I)I"⟩, 8) := ⟨⟨by decide +kernel, by decide +kernel⟩, List.mem_of_getElem? (i := 19) (by decide +kernel), List.mem_of_getElem? (i := 1253) (by decide +kernel), List.mem_of_getElem? (i := 1254) (by decide +kernel)⟩
theorem lw_p49 : lw_okq (⟨"TurnCabinet", "countUnkept", "(II)I"⟩, 8) := ⟨⟨by decide +kernel, by decide +kernel⟩, List.mem_of_getElem? (i := 19) (by decide +kernel), List.mem_of_getElem? (i := 1268) (by decide +kernel), List.mem_of_getElem? (i := 1269) (by decide +kernel)⟩
theorem lw_p50 : lw_okq (⟨"TurnCabinetModel", "readsNothing", "()V"⟩, 66) := ⟨⟨by decide +kernel, by decide +kernel⟩, List.mem_of_getElem? (i := 1273) (by decide +kernel), List.mem_of_getElem? (i := 1279) (by decide +kernel), List.mem_of_getElem? (i := 1280) (by decide +kernel)⟩
theorem lw_p51 : lw_okq (⟨"TurnCabinetModel", "takes", "()V"⟩, 66) := ⟨⟨by decide +kernel, by decide +kernel⟩, List.mem_of_getElem? (i := 1273) (by decide +kernel), List.mem_of_getElem? (i := 1283) (by decide +kernel), List.mem_of_getElem? (i := 1284) (by decide +kernel)⟩
theorem lw_p52 : lw_okq (⟨"TurnCabinetModel", "four", "(I)V"⟩, 66) := ⟨⟨by decide +kernel, by decide +kernel⟩, List.mem_of_getElem? (i := 1273) (by decide +kernel), List.mem_of_getElem? (i := 1493) (by decide +kernel), List.mem_of_getElem? (i := 1494) (by decide +kernel)⟩
theorem lw_p53 : lw_okq (⟨"TurnCabinetModel", "goOn", "()V"⟩, 66) := ⟨⟨by decide +kernel, by decide +kernel⟩, List.mem_of_getElem? (i := 1273) (by decide +kernel), List.mem_of_getElem? (i := 1508) (by decide +kernel), List.mem_of_getElem? (i := 1509) (by decide +kernel)⟩
theorem lw_p54 : lw_okq (⟨"TurnCabinetModel", "here", "(I)I"⟩, 66) := ⟨⟨by decide +kernel, by decide +kernel⟩, List.mem_of_getElem? (i := 1273) (by decide +kernel), List.mem_of_getElem? (i := 1512) (by decide +kernel), List.mem_of_getElem? (i := 1513) (by decide +kernel)⟩
theorem lw_p55 : lw_okq (⟨"TurnCabinetModel", "isGood", "()Z"⟩, 66) := ⟨⟨by decide +kernel, by decide +kernel⟩, List.mem_of_getElem? (i := 1273) (by decide +kernel), List.mem_of_getElem? (i := 1522) (by decide +kernel), List.mem_of_getElem? (i := 1523) (by decide +kernel)⟩
theorem lw_p56 : lw_okq (⟨"TurnCabinetModel", "line", "()V"⟩, 66) := ⟨⟨by decide +kernel, by decide +kernel⟩, List.mem_of_getElem? (i := 1273) (by decide +kernel), List.mem_of_getElem? (i := 1526) (by decide +kernel), List.mem_of_getElem? (i := 1527) (by decide +kernel)⟩
theorem lw_p57 : lw_okq (⟨"TurnCabinetModel", "isWord", "(J)Z"⟩, 66) := ⟨⟨by decide +kernel, by decide +kernel⟩, List.mem_of_getElem? (i := 1273) (by decide +kernel), List.mem_of_getElem? (i := 1531) (by decide +kernel), List.mem_of_getElem? (i := 1532) (by decide +kernel)⟩
theorem lw_p58 : lw_okq (⟨"TurnCabinetModel", "divisorsLine", "()V"⟩, 66) := ⟨⟨by decide +kernel, by decide +kernel⟩, List.mem_of_getElem? (i := 1273) (by decide +kernel), List.mem_of_getElem? (i := 1535) (by decide +kernel), List.mem_of_getElem? (i := 1536) (by decide +kernel)⟩
theorem lw_p59 : lw_okq (⟨"TurnCabinetModel", "once", "(I)V"⟩, 66) := ⟨⟨by decide +kernel, by decide +kernel⟩, List.mem_of_getElem? (i := 1273) (by decide +kernel), List.mem_of_getElem? (i := 1539) (by decide +kernel), List.mem_of_getElem? (i := 1540) (by decide +kernel)⟩
theorem lw_p60 : lw_okq (⟨"TurnCabinetModel", "wrong", "(I)V"⟩, 66) := ⟨⟨by decide +kernel, by decide +kernel⟩, List.mem_of_getElem? (i := 1273) (by decide +kernel), List.mem_of_getElem? (i := 1546) (by decide +kernel), List.mem_of_getElem? (i := 1547) (by decide +kernel)⟩
theorem lw_p61 : lw_okq (⟨"TurnCabinetModel", "number", "(II)I"⟩, 66) := ⟨⟨by decide +kernel, by decide +kernel⟩, List.mem_of_getElem? (i := 1273) (by decide +kernel), List.mem_of_getElem? (i := 1550) (by decide +kernel), List.mem_of_getElem? (i := 1551) (by decide +kernel)⟩
theorem lw_p62 : lw_okq (⟨"TurnCabinetModel", "needLine", "()V"⟩, 66) := ⟨⟨by decide +kernel, by decide +kernel⟩, List.mem_of_getElem? (i := 1273) (by decide +kernel), List.mem_of_getElem? (i := 1555) (by decide +kernel), List.mem_of_getElem? (i := 1556) (by decide +kernel)⟩
theorem lw_p63 : lw_okq (⟨"TurnCabinetModel", "careLine", "()V"⟩, 66) := ⟨⟨by decide +kernel, by decide +kernel⟩, List.mem_of_getElem? (i := 1273) (by decide +kernel), List.mem_of_getElem? (i := 1560) (by decide +kernel), List.mem_of_getElem? (i := 1561) (by decide +kernel)⟩
def lw_privs_4 : List (MethodName × Nat) := [(⟨"TurnCabinet", "toldCabinet", "(I)I"⟩, 8), (⟨"TurnCabinet", "countUnkept", "(II)I"⟩, 8), (⟨"TurnCabinetModel", "readsNothing", "()V"⟩, 66), (⟨"TurnCabinetModel", "takes", "()V"⟩, 66), (⟨"TurnCabinetModel", "four", "(I)V"⟩, 66), (⟨"TurnCabinetModel", "goOn", "()V"⟩, 66), (⟨"TurnCabinetModel", "here", "(I)I"⟩, 66), (⟨"TurnCabinetModel", "isGood", "()Z"⟩, 66), (⟨"TurnCabinetModel", "line", "()V"⟩, 66), (⟨"TurnCabinetModel", "isWord", "(J)Z"⟩, 66), (⟨"TurnCabinetModel", "divisorsLine", "()V"⟩, 66), (⟨"TurnCabinetModel", "once", "(I)V"⟩, 66), (⟨"TurnCabinetModel", "wrong", "(I)V"⟩, 66), (⟨"TurnCabinetModel", "number", "(II)I"⟩, 66), (⟨"TurnCabinetModel", "needLine", "()V"⟩, 66), (⟨"TurnCabinetModel", "careLine", "()V"⟩, 66)]
theorem lw_r4 : ∀ q ∈ lw_privs_4, lw_okq q := List.forall_mem_cons.mpr ⟨lw_p48, List.forall_mem_cons.mpr ⟨lw_p49, List.forall_mem_cons.mpr ⟨lw_p50, List.forall_mem_cons.mpr ⟨lw_p51, List.forall_mem_cons.mpr ⟨lw_p52, List.forall_mem_cons.mpr ⟨lw_p53, List.forall_mem_cons.mpr ⟨lw_p54, List.forall_mem_cons.mpr ⟨lw_p55, List.forall_mem_cons.mpr ⟨lw_p56, List.forall_mem_cons.mpr ⟨lw_p57, List.forall_mem_cons.mpr ⟨lw_p58, List.forall_mem_cons.mpr ⟨lw_p59, List.forall_mem_cons.mpr ⟨lw_p60, List.forall_mem_cons.mpr ⟨lw_p61, List.forall_mem_cons.mpr ⟨lw_p62, List.forall_mem_cons.mpr ⟨lw_p63, fun _ h => absurd h List.not_mem_nil⟩⟩⟩⟩⟩⟩⟩⟩⟩⟩⟩⟩⟩⟩⟩⟩
theorem lw_p64 : lw_okq (⟨"TurnCabinetModel", "triesLine", "()V"⟩, 66) := ⟨⟨by decide +kernel, by decide +kernel⟩, List.mem_of_getElem? (i := 1273) (by decide +kernel), List.mem_of_getElem? (i := 1565) (by decide +kernel), List.mem_of_getElem? (i := 1566) (by decide +kernel)⟩
theorem lw_p65 : lw_okq (⟨"TurnCabinetModel", "tireLine", "()V"⟩, 66) := ⟨⟨by decide +kernel, by decide +kernel⟩, List.mem_of_getElem? (i := 1273) (by decide +kernel), List.mem_of_getElem? (i := 1570) (by decide +kernel), List.mem_of_getElem? (i := 1571) (by decide +kernel)⟩
theorem lw_p66 : lw_okq (⟨"TurnCabinetModel", "officeLine", "()V"⟩, 66) := ⟨⟨by decide +kernel, by decide +kernel⟩, List.mem_of_getElem? (i := 1273) (by decide +kernel), List.mem_of_getElem? (i := 1575) (by decide +kernel), List.mem_of_getElem? (i := 1576) (by decide +kernel)⟩
theorem lw_p67 : lw_okq (⟨"TurnCabinetModel", "freshName", "()V"⟩, 66) := ⟨⟨by decide +kernel, by decide +kernel⟩, List.mem_of_getElem? (i := 1273) (by decide +kernel), List.mem_of_getElem? (i := 1579) (by decide +kernel), List.mem_of_getElem? (i := 1580) (by decide +kernel)⟩
theorem lw_p68 : lw_okq (⟨"TurnCabinetModel", "mustName", "()V"⟩, 66) := ⟨⟨by decide +kernel, by decide +kernel⟩, List.mem_of_getElem? (i := 1273) (by decide +kernel), List.mem_of_getElem? (i := 1583) (by decide +kernel), List.mem_of_getElem? (i := 1584) (by decide +kernel)⟩
theorem lw_p69 : lw_okq (⟨"TurnCabinetModel", "isKept", "()Z"⟩, 66) := ⟨⟨by decide +kernel, by decide +kernel⟩, List.mem_of_getElem? (i := 1273) (by decide +kernel), List.mem_of_getElem? (i := 1587) (by decide +kernel), List.mem_of_getElem? (i := 1588) (by decide +kernel)⟩
theorem lw_p70 : lw_okq (⟨"TurnCabinetModel", "partyLine", "()V"⟩, 66) := ⟨⟨by decide +kernel, by decide +kernel⟩, List.mem_of_getElem? (i := 1273) (by decide +kernel), List.mem_of_getElem? (i := 1601) (by decide +kernel), List.mem_of_getElem? (i := 1602) (by decide +kernel)⟩
theorem lw_p71 : lw_okq (⟨"TurnCabinetModel", "mustWord", "(J)V"⟩, 66) := ⟨⟨by decide +kernel, by decide +kernel⟩, List.mem_of_getElem? (i := 1273) (by decide +kernel), List.mem_of_getElem? (i := 1605) (by decide +kernel), List.mem_of_getElem? (i := 1606) (by decide +kernel)⟩
theorem lw_p72 : lw_okq (⟨"TurnCabinetModel", "numberLine", "([II)V"⟩, 66) := ⟨⟨by decide +kernel, by decide +kernel⟩, List.mem_of_getElem? (i := 1273) (by decide +kernel), List.mem_of_getElem? (i := 1609) (by decide +kernel), List.mem_of_getElem? (i := 1610) (by decide +kernel)⟩
theorem lw_p73 : lw_okq (⟨"TurnCabinetModel", "partyHere", "()I"⟩, 66) := ⟨⟨by decide +kernel, by decide +kernel⟩, List.mem_of_getElem? (i := 1273) (by decide +kernel), List.mem_of_getElem? (i := 1613) (by decide +kernel), List.mem_of_getElem? (i := 1614) (by decide +kernel)⟩
theorem lw_p74 : lw_okq (⟨"TurnCabinetModel", "barLine", "()V"⟩, 66) := ⟨⟨by decide +kernel, by decide +kernel⟩, List.mem_of_getElem? (i := 1273) (by decide +kernel), List.mem_of_getElem? (i := 1617) (by decide +kernel), List.mem_of_getElem? (i := 1618) (by decide +kernel)⟩
theorem lw_p75 : lw_okq (⟨"TurnCabinetModel", "must", "(I)V"⟩, 66) := ⟨⟨by decide +kernel, by decide +kernel⟩, List.mem_of_getElem? (i := 1273) (by decide +kernel), List.mem_of_getElem? (i := 1621) (by decide +kernel), List.mem_of_getElem? (i := 1622) (by decide +kernel)⟩
theorem lw_p76 : lw_okq (⟨"TurnCabinetModel", "isParty", "(I)Z"⟩, 66) := ⟨⟨by decide +kernel, by decide +kernel⟩, List.mem_of_getElem? (i := 1273) (by decide +kernel), List.mem_of_getElem? (i := 1637) (by decide +kernel), List.mem_of_getElem? (i := 1638) (by decide +kernel)⟩
theorem lw_p77 : lw_okq (⟨"TurnCabinetModel", "seatsOf", "(I)I"⟩, 66) := ⟨⟨by decide +kernel, by decide +kernel⟩, List.mem_of_getElem? (i := 1273) (by decide +kernel), List.mem_of_getElem? (i := 1641) (by decide +kernel), List.mem_of_getElem? (i := 1642) (by decide +kernel)⟩
theorem lw_p78 : lw_okq (⟨"TurnCabinetModel", "held", "(I)I"⟩, 66) := ⟨⟨by decide +kernel, by decide +kernel⟩, List.mem_of_getElem? (i := 1273) (by decide +kernel), List.mem_of_getElem? (i := 1645) (by decide +kernel), List.mem_of_getElem? (i := 1646) (by decide +kernel)⟩
theorem lw_p79 : lw_okq (⟨"TurnCabinetModel", "isOffice", "(I)Z"⟩, 66) := ⟨⟨by decide +kernel, by decide +kernel⟩, List.mem_of_getElem? (i := 1273) (by decide +kernel), List.mem_of_getElem? (i := 1656) (by decide +kernel), List.mem_of_getElem? (i := 1657) (by decide +kernel)⟩
def lw_privs_5 : List (MethodName × Nat) := [(⟨"TurnCabinetModel", "triesLine", "()V"⟩, 66), (⟨"TurnCabinetModel", "tireLine", "()V"⟩, 66), (⟨"TurnCabinetModel", "officeLine", "()V"⟩, 66), (⟨"TurnCabinetModel", "freshName", "()V"⟩, 66), (⟨"TurnCabinetModel", "mustName", "()V"⟩, 66), (⟨"TurnCabinetModel", "isKept", "()Z"⟩, 66), (⟨"TurnCabinetModel", "partyLine", "()V"⟩, 66), (⟨"TurnCabinetModel", "mustWord", "(J)V"⟩, 66), (⟨"TurnCabinetModel", "numberLine", "([II)V"⟩, 66), (⟨"TurnCabinetModel", "partyHere", "()I"⟩, 66), (⟨"TurnCabinetModel", "barLine", "()V"⟩, 66), (⟨"TurnCabinetModel", "must", "(I)V"⟩, 66), (⟨"TurnCabinetModel", "isParty", "(I)Z"⟩, 66), (⟨"TurnCabinetModel", "seatsOf", "(I)I"⟩, 66), (⟨"TurnCabinetModel", "held", "(I)I"⟩, 66), (⟨"TurnCabinetModel", "isOffice", "(I)Z"⟩, 66)]
theorem lw_r5 : ∀ q ∈ lw_privs_5, lw_okq q := List.forall_mem_cons.mpr ⟨lw_p64, List.forall_mem_cons.mpr ⟨lw_p65, List.forall_mem_cons.mpr ⟨lw_p66, List.forall_mem_cons.mpr ⟨lw_p67, List.forall_mem_cons.mpr ⟨lw_p68, List.forall_mem_cons.mpr ⟨lw_p69, List.forall_mem_cons.mpr ⟨lw_p70, List.forall_mem_cons.mpr ⟨lw_p71, List.forall_mem_cons.mpr ⟨lw_p72, List.forall_mem_cons.mpr ⟨lw_p73, List.forall_mem_cons.mpr ⟨lw_p74, List.forall_mem_cons.mpr ⟨lw_p75, List.forall_mem_cons.mpr ⟨lw_p76, List.forall_mem_cons.mpr ⟨lw_p77, List.forall_mem_cons.mpr ⟨lw_p78, List.forall_mem_cons.mpr ⟨lw_p79, fun _ h => absurd h List.not_mem_nil⟩⟩⟩⟩⟩⟩⟩⟩⟩⟩⟩⟩⟩⟩⟩⟩
theorem lw_p80 : lw_okq (⟨"TurnCabinetModel", "worthOf", "(II)I"⟩, 66) := ⟨⟨by decide +kernel, by decide +kernel⟩, List.mem_of_getElem? (i := 1273) (by decide +kernel), List.mem_of_getElem? (i := 1660) (by decide +kernel), List.mem_of_getElem? (i := 1661) (by decide +kernel)⟩
theorem lw_p81 : lw_okq (⟨"TurnCabinetModel", "need", "()I"⟩, 66) := ⟨⟨by decide +kernel, by decide +kernel⟩, List.mem_of_getElem? (i := 1273) (by decide +kernel), List.mem_of_getElem? (i := 1668) (by decide +kernel), List.mem_of_getElem? (i := 1669) (by decide +kernel)⟩
theorem lw_p82 : lw_okq (⟨"TurnCabinetModel", "everyone", "()I"⟩, 66) := ⟨⟨by decide +kernel, by decide +kernel⟩, List.mem_of_getElem? (i := 1273) (by decide +kernel), List.mem_of_getElem? (i := 1672) (by decide +kernel), List.mem_of_getElem? (i := 1673) (by decide +kernel)⟩
theorem lw_p83 : lw_okq (⟨"TurnCabinetModel", "seatsIn", "(I)I"⟩, 66) := ⟨⟨by decide +kernel, by decide +kernel⟩, List.mem_of_getElem? (i := 1273) (by decide +kernel), List.mem_of_getElem? (i := 1676) (by decide +kernel), List.mem_of_getElem? (i := 1677) (by decide +kernel)⟩
theorem lw_p84 : lw_okq (⟨"TurnCabinetModel", "isCoalition", "(I)Z"⟩, 66) := ⟨⟨by decide +kernel, by decide +kernel⟩, List.mem_of_getElem? (i := 1273) (by decide +kernel), List.mem_of_getElem? (i := 1684) (by decide +kernel), List.mem_of_getElem? (i := 1685) (by decide +kernel)⟩
theorem lw_p85 : lw_okq (⟨"TurnCabinetModel", "laysTurns", "(I)V"⟩, 66) := ⟨⟨by decide +kernel, by decide +kernel⟩, List.mem_of_getElem? (i := 1273) (by decide +kernel), List.mem_of_getElem? (i := 1688) (by decide +kernel), List.mem_of_getElem? (i := 1689) (by decide +kernel)⟩
theorem lw_p86 : lw_okq (⟨"TurnCabinetModel", "nextOf", "(I)I"⟩, 66) := ⟨⟨by decide +kernel, by decide +kernel⟩, List.mem_of_getElem? (i := 1273) (by decide +kernel), List.mem_of_getElem? (i := 1692) (by decide +kernel), List.mem_of_getElem? (i := 1693) (by decide +kernel)⟩
theorem lw_p87 : lw_okq (⟨"TurnCabinetModel", "isAhead", "(II)Z"⟩, 66) := ⟨⟨by decide +kernel, by decide +kernel⟩, List.mem_of_getElem? (i := 1273) (by decide +kernel), List.mem_of_getElem? (i := 1696) (by decide +kernel), List.mem_of_getElem? (i := 1697) (by decide +kernel)⟩
theorem lw_p88 : lw_okq (⟨"TurnCabinetModel", "picks", "(II)V"⟩, 66) := ⟨⟨by decide +kernel, by decide +kernel⟩, List.mem_of_getElem? (i := 1273) (by decide +kernel), List.mem_of_getElem? (i := 1710) (by decide +kernel), List.mem_of_getElem? (i := 1711) (by decide +kernel)⟩
theorem lw_p89 : lw_okq (⟨"TurnCabinetModel", "foresees", "()V"⟩, 66) := ⟨⟨by decide +kernel, by decide +kernel⟩, List.mem_of_getElem? (i := 1273) (by decide +kernel), List.mem_of_getElem? (i := 1714) (by decide +kernel), List.mem_of_getElem? (i := 1715) (by decide +kernel)⟩
theorem lw_p90 : lw_okq (⟨"TurnCabinetModel", "turnAt", "(I)I"⟩, 66) := ⟨⟨by decide +kernel, by decide +kernel⟩, List.mem_of_getElem? (i := 1273) (by decide +kernel), List.mem_of_getElem? (i := 1718) (by decide +kernel), List.mem_of_getElem? (i := 1719) (by decide +kernel)⟩
theorem lw_p91 : lw_okq (⟨"TurnCabinetModel", "all", "()I"⟩, 66) := ⟨⟨by decide +kernel, by decide +kernel⟩, List.mem_of_getElem? (i := 1273) (by decide +kernel), List.mem_of_getElem? (i := 1725) (by decide +kernel), List.mem_of_getElem? (i := 1726) (by decide +kernel)⟩
theorem lw_p92 : lw_okq (⟨"TurnCabinetModel", "bestLeft", "(II)I"⟩, 66) := ⟨⟨by decide +kernel, by decide +kernel⟩, List.mem_of_getElem? (i := 1273) (by decide +kernel), List.mem_of_getElem? (i := 1729) (by decide +kernel), List.mem_of_getElem? (i := 1730) (by decide +kernel)⟩
theorem lw_p93 : lw_okq (⟨"TurnCabinetModel", "swapsOne", "()Z"⟩, 66) := ⟨⟨by decide +kernel, by decide +kernel⟩, List.mem_of_getElem? (i := 1273) (by decide +kernel), List.mem_of_getElem? (i := 1733) (by decide +kernel), List.mem_of_getElem? (i := 1734) (by decide +kernel)⟩
theorem lw_p94 : lw_okq (⟨"TurnCabinetModel", "wouldSwap", "(II)Z"⟩, 66) := ⟨⟨by decide +kernel, by decide +kernel⟩, List.mem_of_getElem? (i := 1273) (by decide +kernel), List.mem_of_getElem? (i := 1737) (by decide +kernel), List.mem_of_getElem? (i := 1738) (by decide +kernel)⟩
theorem lw_p95 : lw_okq (⟨"TurnCabinetModel", "exchanges", "(II)V"⟩, 66) := ⟨⟨by decide +kernel, by decide +kernel⟩, List.mem_of_getElem? (i := 1273) (by decide +kernel), List.mem_of_getElem? (i := 1741) (by decide +kernel), List.mem_of_getElem? (i := 1742) (by decide +kernel)⟩
def lw_privs_6 : List (MethodName × Nat) := [(⟨"TurnCabinetModel", "worthOf", "(II)I"⟩, 66), (⟨"TurnCabinetModel", "need", "()I"⟩, 66), (⟨"TurnCabinetModel", "everyone", "()I"⟩, 66), (⟨"TurnCabinetModel", "seatsIn", "(I)I"⟩, 66), (⟨"TurnCabinetModel", "isCoalition", "(I)Z"⟩, 66), (⟨"TurnCabinetModel", "laysTurns", "(I)V"⟩, 66), (⟨"TurnCabinetModel", "nextOf", "(I)I"⟩, 66), (⟨"TurnCabinetModel", "isAhead", "(II)Z"⟩, 66), (⟨"TurnCabinetModel", "picks", "(II)V"⟩, 66), (⟨"TurnCabinetModel", "foresees", "()V"⟩, 66), (⟨"TurnCabinetModel", "turnAt", "(I)I"⟩, 66), (⟨"TurnCabinetModel", "all", "()I"⟩, 66), (⟨"TurnCabinetModel", "bestLeft", "(II)I"⟩, 66), (⟨"TurnCabinetModel", "swapsOne", "()Z"⟩, 66), (⟨"TurnCabinetModel", "wouldSwap", "(II)Z"⟩, 66), (⟨"TurnCabinetModel", "exchanges", "(II)V"⟩, 66)]
theorem lw_r6 : ∀ q ∈ lw_privs_6, lw_okq q := List.forall_mem_cons.mpr ⟨lw_p80, List.forall_mem_cons.mpr ⟨lw_p81, List.forall_mem_cons.mpr ⟨lw_p82, List.forall_mem_cons.mpr ⟨lw_p83, List.forall_mem_cons.mpr ⟨lw_p84, List.forall_mem_cons.mpr ⟨lw_p85, List.forall_mem_cons.mpr ⟨lw_p86, List.forall_mem_cons.mpr ⟨lw_p87, List.forall_mem_cons.mpr ⟨lw_p88, List.forall_mem_cons.mpr ⟨lw_p89, List.forall_mem_cons.mpr ⟨lw_p90, List.forall_mem_cons.mpr ⟨lw_p91, List.forall_mem_cons.mpr ⟨lw_p92, List.forall_mem_cons.mpr ⟨lw_p93, List.forall_mem_cons.mpr ⟨lw_p94, List.forall_mem_cons.mpr ⟨lw_p95, fun _ h => absurd h List.not_mem_nil⟩⟩⟩⟩⟩⟩⟩⟩⟩⟩⟩⟩⟩⟩⟩⟩
theorem lw_p96 : lw_okq (⟨"TurnCabinetModel", "ownedBy", "(I)I"⟩, 66) := ⟨⟨by decide +kernel, by decide +kernel⟩, List.mem_of_getElem? (i := 1273) (by decide +kernel), List.mem_of_getElem? (i := 1749) (by decide +kernel), List.mem_of_getElem? (i := 1750) (by decide +kernel)⟩
theorem lw_p97 : lw_okq (⟨"TurnCabinetModel", "griefOf", "(I)I"⟩, 66) := ⟨⟨by decide +kernel, by decide +kernel⟩, List.mem_of_getElem? (i := 1273) (by decide +kernel), List.mem_of_getElem? (i := 1761) (by decide +kernel), List.mem_of_getElem? (i := 1762) (by decide +kernel)⟩
theorem lw_p98 : lw_okq (⟨"TurnCabinetModel", "worthTo", "(II)I"⟩, 66) := ⟨⟨by decide +kernel, by decide +kernel⟩, List.mem_of_getElem? (i := 1273) (by decide +kernel), List.mem_of_getElem? (i := 1769) (by decide +kernel), List.mem_of_getElem? (i := 1770) (by decide +kernel)⟩
theorem lw_p99 : lw_okq (⟨"TurnCabinetModel", "gives", "(IZ)V"⟩, 66) := ⟨⟨by decide +kernel, by decide +kernel⟩, List.mem_of_getElem? (i := 1273) (by decide +kernel), List.mem_of_getElem? (i := 1777) (by decide +kernel), List.mem_of_getElem? (i := 1778) (by decide +kernel)⟩
theorem lw_p100 : lw_okq (⟨"TurnCabinetModel", "worthAll", "(II)I"⟩, 66) := ⟨⟨by decide +kernel, by decide +kernel⟩, List.mem_of_getElem? (i := 1273) (by decide +kernel), List.mem_of_getElem? (i := 1781) (by decide +kernel), List.mem_of_getElem? (i := 1782) (by decide +kernel)⟩
theorem lw_p101 : lw_okq (⟨"TurnCabinetModel", "middleOf", "(I)I"⟩, 66) := ⟨⟨by decide +kernel, by decide +kernel⟩, List.mem_of_getElem? (i := 1273) (by decide +kernel), List.mem_of_getElem? (i := 1797) (by decide +kernel), List.mem_of_getElem? (i := 1798) (by decide +kernel)⟩
theorem lw_p102 : lw_okq (⟨"TurnCabinetModel", "laysAll", "()V"⟩, 66) := ⟨⟨by decide +kernel, by decide +kernel⟩, List.mem_of_getElem? (i := 1273) (by decide +kernel), List.mem_of_getElem? (i := 1806) (by decide +kernel), List.mem_of_getElem? (i := 1807) (by decide +kernel)⟩
theorem lw_p103 : lw_okq (⟨"TurnCabinetModel", "far", "(II)I"⟩, 66) := ⟨⟨by decide +kernel, by decide +kernel⟩, List.mem_of_getElem? (i := 1273) (by decide +kernel), List.mem_of_getElem? (i := 1810) (by decide +kernel), List.mem_of_getElem? (i := 1811) (by decide +kernel)⟩
theorem lw_p104 : lw_okq (⟨"TurnCabinetModel", "rivalOf", "(I)I"⟩, 66) := ⟨⟨by decide +kernel, by decide +kernel⟩, List.mem_of_getElem? (i := 1273) (by decide +kernel), List.mem_of_getElem? (i := 1814) (by decide +kernel), List.mem_of_getElem? (i := 1815) (by decide +kernel)⟩
theorem lw_p105 : lw_okq (⟨"TurnCabinetModel", "isRival", "(II)Z"⟩, 66) := ⟨⟨by decide +kernel, by decide +kernel⟩, List.mem_of_getElem? (i := 1273) (by decide +kernel), List.mem_of_getElem? (i := 1818) (by decide +kernel), List.mem_of_getElem? (i := 1819) (by decide +kernel)⟩
theorem lw_p106 : lw_okq (⟨"TurnCabinetModel", "can", "(I)Z"⟩, 66) := ⟨⟨by decide +kernel, by decide +kernel⟩, List.mem_of_getElem? (i := 1273) (by decide +kernel), List.mem_of_getElem? (i := 1822) (by decide +kernel), List.mem_of_getElem? (i := 1823) (by decide +kernel)⟩
theorem lw_p107 : lw_okq (⟨"TurnCabinetModel", "isMajority", "(I)Z"⟩, 66) := ⟨⟨by decide +kernel, by decide +kernel⟩, List.mem_of_getElem? (i := 1273) (by decide +kernel), List.mem_of_getElem? (i := 1826) (by decide +kernel), List.mem_of_getElem? (i := 1827) (by decide +kernel)⟩
theorem lw_p108 : lw_okq (⟨"TurnCabinetModel", "isFree", "(I)Z"⟩, 66) := ⟨⟨by decide +kernel, by decide +kernel⟩, List.mem_of_getElem? (i := 1273) (by decide +kernel), List.mem_of_getElem? (i := 1830) (by decide +kernel), List.mem_of_getElem? (i := 1831) (by decide +kernel)⟩
theorem lw_p109 : lw_okq (⟨"TurnCabinetModel", "kindOf", "(I)I"⟩, 66) := ⟨⟨by decide +kernel, by decide +kernel⟩, List.mem_of_getElem? (i := 1273) (by decide +kernel), List.mem_of_getElem? (i := 1838) (by decide +kernel), List.mem_of_getElem? (i := 1839) (by decide +kernel)⟩
theorem lw_p110 : lw_okq (⟨"TurnCabinetModel", "isMinimal", "(I)Z"⟩, 66) := ⟨⟨by decide +kernel, by decide +kernel⟩, List.mem_of_getElem? (i := 1273) (by decide +kernel), List.mem_of_getElem? (i := 1842) (by decide +kernel), List.mem_of_getElem? (i := 1843) (by decide +kernel)⟩
theorem lw_p111 : lw_okq (⟨"TurnCabinetModel", "isConnected", "(I)Z"⟩, 66) := ⟨⟨by decide +kernel, by decide +kernel⟩, List.mem_of_getElem? (i := 1273) (by decide +kernel), List.mem_of_getElem? (i := 1846) (by decide +kernel), List.mem_of_getElem? (i := 1847) (by decide +kernel)⟩
def lw_privs_7 : List (MethodName × Nat) := [(⟨"TurnCabinetModel", "ownedBy", "(I)I"⟩, 66), (⟨"TurnCabinetModel", "griefOf", "(I)I"⟩, 66), (⟨"TurnCabinetModel", "worthTo", "(II)I"⟩, 66), (⟨"TurnCabinetModel", "gives", "(IZ)V"⟩, 66), (⟨"TurnCabinetModel", "worthAll", "(II)I"⟩, 66), (⟨"TurnCabinetModel", "middleOf", "(I)I"⟩, 66), (⟨"TurnCabinetModel", "laysAll", "()V"⟩, 66), (⟨"TurnCabinetModel", "far", "(II)I"⟩, 66), (⟨"TurnCabinetModel", "rivalOf", "(I)I"⟩, 66), (⟨"TurnCabinetModel", "isRival", "(II)Z"⟩, 66), (⟨"TurnCabinetModel", "can", "(I)Z"⟩, 66), (⟨"TurnCabinetModel", "isMajority", "(I)Z"⟩, 66), (⟨"TurnCabinetModel", "isFree", "(I)Z"⟩, 66), (⟨"TurnCabinetModel", "kindOf", "(I)I"⟩, 66), (⟨"TurnCabinetModel", "isMinimal", "(I)Z"⟩, 66), (⟨"TurnCabinetModel", "isConnected", "(I)Z"⟩, 66)]
theorem lw_r7 : ∀ q ∈ lw_privs_7, lw_okq q := List.forall_mem_cons.mpr ⟨lw_p96, List.forall_mem_cons.mpr ⟨lw_p97, List.forall_mem_cons.mpr ⟨lw_p98, List.forall_mem_cons.mpr ⟨lw_p99, List.forall_mem_cons.mpr ⟨lw_p100, List.forall_mem_cons.mpr ⟨lw_p101, List.forall_mem_cons.mpr ⟨lw_p102, List.forall_mem_cons.mpr ⟨lw_p103, List.forall_mem_cons.mpr ⟨lw_p104, List.forall_mem_cons.mpr ⟨lw_p105, List.forall_mem_cons.mpr ⟨lw_p106, List.forall_mem_cons.mpr ⟨lw_p107, List.forall_mem_cons.mpr ⟨lw_p108, List.forall_mem_cons.mpr ⟨lw_p109, List.forall_mem_cons.mpr ⟨lw_p110, List.forall_mem_cons.mpr ⟨lw_p111, fun _ h => absurd h List.not_mem_nil⟩⟩⟩⟩⟩⟩⟩⟩⟩⟩⟩⟩⟩⟩⟩⟩
theorem lw_p112 : lw_okq (⟨"TurnCabinetModel", "beatsIt", "(II)Z"⟩, 66) := ⟨⟨by decide +kernel, by decide +kernel⟩, List.mem_of_getElem? (i := 1273) (by decide +kernel), List.mem_of_getElem? (i := 1867) (by decide +kernel), List.mem_of_getElem? (i := 1868) (by decide +kernel)⟩
theorem lw_p113 : lw_okq (⟨"TurnCabinetModel", "isUnbeaten", "(I)Z"⟩, 66) := ⟨⟨by decide +kernel, by decide +kernel⟩, List.mem_of_getElem? (i := 1273) (by decide +kernel), List.mem_of_getElem? (i := 1875) (by decide +kernel), List.mem_of_getElem? (i := 1876) (by decide +kernel)⟩
theorem lw_p114 : lw_okq (⟨"TurnCabinetModel", "forms", "()V"⟩, 66) := ⟨⟨by decide +kernel, by decide +kernel⟩, List.mem_of_getElem? (i := 1273) (by decide +kernel), List.mem_of_getElem? (i := 1919) (by decide +kernel), List.mem_of_getElem? (i := 1920) (by decide +kernel)⟩
theorem lw_p115 : lw_okq (⟨"TurnCabinetModel", "ordersFormers", "()V"⟩, 66) := ⟨⟨by decide +kernel, by decide +kernel⟩, List.mem_of_getElem? (i := 1273) (by decide +kernel), List.mem_of_getElem? (i := 1923) (by decide +kernel), List.mem_of_getElem? (i := 1924) (by decide +kernel)⟩
theorem lw_p116 : lw_okq (⟨"TurnCabinetModel", "round", "()V"⟩, 66) := ⟨⟨by decide +kernel, by decide +kernel⟩, List.mem_of_getElem? (i := 1273) (by decide +kernel), List.mem_of_getElem? (i := 1927) (by decide +kernel), List.mem_of_getElem? (i := 1928) (by decide +kernel)⟩
theorem lw_p117 : lw_okq (⟨"TurnCabinetModel", "bestFor", "(I)I"⟩, 66) := ⟨⟨by decide +kernel, by decide +kernel⟩, List.mem_of_getElem? (i := 1273) (by decide +kernel), List.mem_of_getElem? (i := 1931) (by decide +kernel), List.mem_of_getElem? (i := 1932) (by decide +kernel)⟩
theorem lw_p118 : lw_okq (⟨"TurnCabinetModel", "goesBy", "(II)Z"⟩, 66) := ⟨⟨by decide +kernel, by decide +kernel⟩, List.mem_of_getElem? (i := 1273) (by decide +kernel), List.mem_of_getElem? (i := 1935) (by decide +kernel), List.mem_of_getElem? (i := 1936) (by decide +kernel)⟩
theorem lw_p119 : lw_okq (⟨"TurnCabinetModel", "walkOut", "(II)I"⟩, 66) := ⟨⟨by decide +kernel, by decide +kernel⟩, List.mem_of_getElem? (i := 1273) (by decide +kernel), List.mem_of_getElem? (i := 1939) (by decide +kernel), List.mem_of_getElem? (i := 1940) (by decide +kernel)⟩
theorem lw_p120 : lw_okq (⟨"TurnCabinetModel", "act", "()V"⟩, 66) := ⟨⟨by decide +kernel, by decide +kernel⟩, List.mem_of_getElem? (i := 1273) (by decide +kernel), List.mem_of_getElem? (i := 1951) (by decide +kernel), List.mem_of_getElem? (i := 1952) (by decide +kernel)⟩
theorem lw_p121 : lw_okq (⟨"TurnCabinetModel", "goesOut", "(I)I"⟩, 66) := ⟨⟨by decide +kernel, by decide +kernel⟩, List.mem_of_getElem? (i := 1273) (by decide +kernel), List.mem_of_getElem? (i := 1963) (by decide +kernel), List.mem_of_getElem? (i := 1964) (by decide +kernel)⟩
theorem lw_p122 : lw_okq (⟨"TurnCabinetModel", "paysNow", "(I)I"⟩, 66) := ⟨⟨by decide +kernel, by decide +kernel⟩, List.mem_of_getElem? (i := 1273) (by decide +kernel), List.mem_of_getElem? (i := 1971) (by decide +kernel), List.mem_of_getElem? (i := 1972) (by decide +kernel)⟩
theorem lw_p123 : lw_okq (⟨"TurnCabinetModel", "goer", "()I"⟩, 66) := ⟨⟨by decide +kernel, by decide +kernel⟩, List.mem_of_getElem? (i := 1273) (by decide +kernel), List.mem_of_getElem? (i := 1979) (by decide +kernel), List.mem_of_getElem? (i := 1980) (by decide +kernel)⟩
def lw_privs_8 : List (MethodName × Nat) := [(⟨"TurnCabinetModel", "beatsIt", "(II)Z"⟩, 66), (⟨"TurnCabinetModel", "isUnbeaten", "(I)Z"⟩, 66), (⟨"TurnCabinetModel", "forms", "()V"⟩, 66), (⟨"TurnCabinetModel", "ordersFormers", "()V"⟩, 66), (⟨"TurnCabinetModel", "round", "()V"⟩, 66), (⟨"TurnCabinetModel", "bestFor", "(I)I"⟩, 66), (⟨"TurnCabinetModel", "goesBy", "(II)Z"⟩, 66), (⟨"TurnCabinetModel", "walkOut", "(II)I"⟩, 66), (⟨"TurnCabinetModel", "act", "()V"⟩, 66), (⟨"TurnCabinetModel", "goesOut", "(I)I"⟩, 66), (⟨"TurnCabinetModel", "paysNow", "(I)I"⟩, 66), (⟨"TurnCabinetModel", "goer", "()I"⟩, 66)]
theorem lw_r8 : ∀ q ∈ lw_privs_8, lw_okq q := List.forall_mem_cons.mpr ⟨lw_p112, List.forall_mem_cons.mpr ⟨lw_p113, List.forall_mem_cons.mpr ⟨lw_p114, List.forall_mem_cons.mpr ⟨lw_p115, List.forall_mem_cons.mpr ⟨lw_p116, List.forall_mem_cons.mpr ⟨lw_p117, List.forall_mem_cons.mpr ⟨lw_p118, List.forall_mem_cons.mpr ⟨lw_p119, List.forall_mem_cons.mpr ⟨lw_p120, List.forall_mem_cons.mpr ⟨lw_p121, List.forall_mem_cons.mpr ⟨lw_p122, List.forall_mem_cons.mpr ⟨lw_p123, fun _ h => absurd h List.not_mem_nil⟩⟩⟩⟩⟩⟩⟩⟩⟩⟩⟩⟩
def lw_privs : List (MethodName × Nat) := lw_privs_1 ++ (lw_privs_2 ++ (lw_privs_3 ++ (lw_privs_4 ++ (lw_privs_5 ++ (lw_privs_6 ++ (lw_privs_7 ++ (lw_privs_8)))))))
def lw_tbl : List Cond := k2_sels lw_privs ++ tables_1
theorem lw_privs_ok : ∀ q ∈ lw_privs, lw_okq q := by
  show ∀ q ∈ lw_privs_1 ++ (lw_privs_2 ++ (lw_privs_3 ++ (lw_privs_4 ++ (lw_privs_5 ++ (lw_privs_6 ++ (lw_privs_7 ++ (lw_privs_8))))))), lw_okq q
  exact List.forall_mem_append.mpr ⟨lw_r1, List.forall_mem_append.mpr ⟨lw_r2, List.forall_mem_append.mpr ⟨lw_r3, List.forall_mem_append.mpr ⟨lw_r4, List.forall_mem_append.mpr ⟨lw_r5, List.forall_mem_append.mpr ⟨lw_r6, List.forall_mem_append.mpr ⟨lw_r7, lw_r8⟩⟩⟩⟩⟩⟩⟩
-- ===== end of PART A; then your names; then what follows =====
end
section
/-! ===== the pure machine: the same bytecode over cells that have numbers of their own; no heap, no frames below ===== -/
abbrev pm_L : Type := List (Option Value)
/-- how many cells there are; references in fields (0: null, else the cell and 1); ints; longs -/
abbrev pm_S : Type := Nat × (Nat → Nat → Nat) × (Nat → Nat → Int32) × (Nat → Nat → Int64)
abbrev pm_R : Type := Option (Option Value × pm_S)
abbrev pm_F : Type := Nat → Nat → pm_L → List Value → pm_S → pm_R
/-- an instruction: its place, itself, the next one's place, its word's place, what it is tied to, its constants -/
abbrev pm_Q : Type := Nat × Instr × Nat × Nat × List Nat × Int32 × Int64
/-- a method: its name, code, locals, answer; frames and locals' words below it; its instructions -/
abbrev pm_Me : Type := MethodName × ByteArray × Nat × Option FieldType × Nat × Nat × List pm_Q
/-- a cell's kind: an array (its type's place, its length), an object (its class' place, its fields' kinds: 0 int, 1 long, 2 boolean, 3 a reference) -/
abbrev pm_K : Type := (Nat × Nat) ⊕ (Nat × List Nat)
/-- tables that nobody writes: type's place, length, contents -/
abbrev pm_T : Type := Nat → Option (Nat × Nat × (Nat → Int32))
def pm_ui (f : Nat → Nat → Int32) (r k : Nat) (v : Int32) : Nat → Nat → Int32 := fun a b => bif Nat.beq a r && Nat.beq b k then v else f a b
def pm_ul (f : Nat → Nat → Int64) (r k : Nat) (v : Int64) : Nat → Nat → Int64 := fun a b => bif Nat.beq a r && Nat.beq b k then v else f a b
def pm_ug (f : Nat → Nat → Nat) (r k : Nat) (v : Nat) : Nat → Nat → Nat := fun a b => bif Nat.beq a r && Nat.beq b k then v else f a b
def pm_ci (f : Nat → Nat → Int32) (r : Nat) : Nat → Nat → Int32 := fun a b => bif Nat.beq a r then 0 else f a b
def pm_cl (f : Nat → Nat → Int64) (r : Nat) : Nat → Nat → Int64 := fun a b => bif Nat.beq a r then 0 else f a b
def pm_cg (f : Nat → Nat → Nat) (r : Nat) : Nat → Nat → Nat := fun a b => bif Nat.beq a r then 0 else f a b
def pm_at : List pm_Q → Nat → Option pm_Q
  | [], _ => none
  | q :: t, pc => bif Nat.beq q.1 pc then some q else pm_at t pc
def pm_pop : Nat → List Value → List Value → Option (List Value × List Value)
  | 0, acc, st => some (acc, st)
  | _ + 1, _, [] => none
  | n + 1, acc, v :: st => pm_pop n (v :: acc) st
/-- a method's locals at its entry -/
def pm_en : Nat → List Value → pm_L
  | n, [] => List.replicate n none
  | n, v :: vs => bif Nat.beq v.category 2 then some v :: none :: pm_en (n - 2) vs else some v :: pm_en (n - 1) vs
def pm_wd : List Value → Nat
  | [] => 0
  | v :: vs => v.category + pm_wd vs
def pm_st1 (ls : pm_L) (i : Nat) (v : Value) : Option pm_L := bif Nat.blt i ls.length then some (ls.set i (some v)) else none
def pm_st2 (ls : pm_L) (i : Nat) (v : Value) : Option pm_L := bif Nat.blt (i + 1) ls.length then some ((ls.set i (some v)).set (i + 1) none) else none
/-- an index within -/
def pm_ib (i : Int32) (n : Nat) : Bool := !(decide (i < 0)) && Nat.blt i.toNatClampNeg n
def pm_sw (k : Nat → pm_R) (x : Int32) (d : Nat) : List Nat → Nat → pm_R
  | [], _ => k d
  | t :: ts, j => if x = nI j then k t else pm_sw k x d ts (j + 1)
/-- what an instruction does: on to a place; by a comparison; by a switch; a call; an answer -/
abbrev pm_C : Type := (Nat × pm_L × List Value × pm_S) ⊕ (Nat × Int32 × Int32 × Nat × Nat × pm_L × List Value × pm_S) ⊕ (Int32 × Nat × List Nat × pm_L × List Value × pm_S) ⊕ (Nat × List Value × Nat × pm_L × List Value × pm_S) ⊕ (Option Value × pm_S)
/-- if it can be done at all: under which condition, and what -/
abbrev pm_Z : Type := Option (Bool × pm_C)
def pm_n (g : Bool) (pc : Nat) (ls : pm_L) (st : List Value) (S : pm_S) : pm_Z := some (g, .inl (pc, ls, st, S))
def pm_b (o : Nat) (x y : Int32) (t e : Nat) (ls : pm_L) (st : List Value) (S : pm_S) : pm_Z := some (true, .inr (.inl (o, x, y, t, e, ls, st, S)))
def pm_w (x : Int32) (d : Nat) (ts : List Nat) (ls : pm_L) (st : List Value) (S : pm_S) : pm_Z := some (true, .inr (.inr (.inl (x, d, ts, ls, st, S))))
def pm_j (mj : Nat) (as : List Value) (nx : Nat) (ls : pm_L) (st : List Value) (S : pm_S) : pm_Z := some (true, .inr (.inr (.inr (.inl (mj, as, nx, ls, st, S)))))
def pm_e (g : Bool) (v : Option Value) (S : pm_S) : pm_Z := some (g, .inr (.inr (.inr (.inr (v, S)))))
def pm_call (nx : Nat) (xs : List Nat) (ls : pm_L) (st : List Value) (S : pm_S) : pm_Z := match pm_pop (xs.getD 1 0) [] st with
  | some (as, rest) => bif Nat.ble (pm_wd rest) 8 then pm_j (xs.getD 0 0) as nx ls rest S else none
  | none => none
/-- an object's field -/
def pm_fv (S : pm_S) (r k : Nat) (kd : Nat) : Option Value := match kd with
  | 0 => some (.int (S.2.2.1 r k))
  | 1 => some (.long (S.2.2.2 r k))
  | 2 => some (.int (S.2.2.1 r k))
  | 3 => match S.2.1 r k with
    | 0 => none
    | j + 1 => some (.ref j)
  | _ => none
def pm_us (x y : Int32) : Int32 := (x.toUInt32 >>> (y.toUInt32 &&& Int32.toUInt32 31)).toInt32
def pm_uls (x : Int64) (y : Int32) : Int64 := (x.toUInt64 >>> (y.toInt64.toUInt64 &&& Int64.toUInt64 63)).toInt64
def pm_rc (Sg : Nat → pm_K) (S : pm_S) (r c : Nat) : Bool := bif Nat.beq c 99 then Nat.beq r 201 else Nat.blt r S.1 && (match Sg r with
  | .inr (c', _) => Nat.beq c' c
  | .inl _ => false)
def pm_callV (Sg : Nat → pm_K) (nx : Nat) (xs : List Nat) (ls : pm_L) (st : List Value) (S : pm_S) : pm_Z := match pm_pop (xs.getD 1 0) [] st with
  | some (.ref r :: as, rest) => bif pm_rc Sg S r (xs.getD 3 0) && Nat.ble (pm_wd rest) 8 then pm_j (xs.getD 0 0) (.ref r :: as) nx ls rest S else none
  | _ => none
def pm_callI (nx : Nat) (xs : List Nat) (ls : pm_L) (st : List Value) (S : pm_S) : pm_Z := match pm_pop (xs.getD 1 0) [] st with
  | some (.ref r :: as, rest) => bif Nat.blt r S.1 && Nat.ble (pm_wd rest) 8 then pm_j (xs.getD 0 0) (.ref r :: as) nx ls rest S else none
  | _ => none
/-- a goto may forget locals -/
def pm_lg : Option Value → Bool
  | some v => Nat.beq v.category 2
  | none => false
def pm_clr : List Nat → pm_L → pm_L
  | [], ls => ls
  | j :: t, ls => pm_clr t (bif pm_lg (ls.getD (j - 1) none) then ls else ls.set j none)
def pm_x (Sg : Nat → pm_K) (Rt : pm_T) (ret : Option FieldType) (q : pm_Q) (ls : pm_L) (st : List Value) (S : pm_S)   : pm_Z := match q with
  | (_, ins, nx, _, xs, ci, cl) => match ins with
    | .iload_n _ | .iload _ => match ls.getD (xs.getD 0 0) none with
      | some (.int x) => pm_n true nx ls (.int x :: st) S
      | _ => none
    | .lload_n _ | .lload _ => match ls.getD (xs.getD 0 0) none with
      | some (.long x) => match ls.getD (xs.getD 0 0 + 1) (some .null) with
        | none => pm_n true nx ls (.long x :: st) S
        | some _ => none
      | _ => none
    | .aload_n _ | .aload _ => match ls.getD (xs.getD 0 0) none with
      | some (.ref x) => bif Nat.beq x 204 then none else pm_n true nx ls (.ref x :: st) S
      | _ => none
    | .istore_n _ | .istore _ => match st with
      | .int x :: r => match pm_st1 ls (xs.getD 0 0) (.int x) with
        | some ls' => pm_n true nx ls' r S
        | none => none
      | _ => none
    | .astore_n _ | .astore _ => match st with
      | .ref x :: r => bif Nat.beq x 204 then none else (match pm_st1 ls (xs.getD 0 0) (.ref x) with
        | some ls' => pm_n true nx ls' r S
        | none => none)
      | _ => none
    | .lstore_n _ | .lstore _ => match st with
      | .long x :: r => match pm_st2 ls (xs.getD 0 0) (.long x) with
        | some ls' => pm_n true nx ls' r S
        | none => none
      | _ => none
    | .iinc _ _ => match ls.getD (xs.getD 0 0) none with
      | some (.int x) => match pm_st1 ls (xs.getD 0 0) (.int (x + ci)) with
        | some ls' => pm_n true nx ls' st S
        | none => none
      | _ => none
    | .iconst _ | .bipush _ | .sipush _ | .ldc_w _ => pm_n true nx ls (.int ci :: st) S
    | .ldc _ => match xs with
      | [] => pm_n true nx ls (.int ci :: st) S
      | r :: _ => pm_n true nx ls (.ref r :: st) S
    | .lconst _ | .ldc2_w _ => pm_n true nx ls (.long cl :: st) S
    | .iadd => match st with
      | .int y :: .int x :: r => pm_n true nx ls (.int (x + y) :: r) S
      | _ => none
    | .isub => match st with
      | .int y :: .int x :: r => pm_n true nx ls (.int (x - y) :: r) S
      | _ => none
    | .imul => match st with
      | .int y :: .int x :: r => pm_n true nx ls (.int (x * y) :: r) S
      | _ => none
    | .idiv => match st with
      | .int y :: .int x :: r => pm_n (!(decide (y = 0))) nx ls (.int (x / y) :: r) S
      | _ => none
    | .iand => match st with
      | .int y :: .int x :: r => pm_n true nx ls (.int (x &&& y) :: r) S
      | _ => none
    | .ior => match st with
      | .int y :: .int x :: r => pm_n true nx ls (.int (x ||| y) :: r) S
      | _ => none
    | .ixor => match st with
      | .int y :: .int x :: r => pm_n true nx ls (.int (x ^^^ y) :: r) S
      | _ => none
    | .ishl => match st with
      | .int y :: .int x :: r => pm_n true nx ls (.int (x <<< (y &&& 31)) :: r) S
      | _ => none
    | .ishr => match st with
      | .int y :: .int x :: r => pm_n true nx ls (.int (x >>> (y &&& 31)) :: r) S
      | _ => none
    | .iushr => match st with
      | .int y :: .int x :: r => pm_n true nx ls (.int (pm_us x y) :: r) S
      | _ => none
    | .ineg => match st with
      | .int x :: r => pm_n true nx ls (.int (-x) :: r) S
      | _ => none
    | .ladd => match st with
      | .long y :: .long x :: r => pm_n true nx ls (.long (x + y) :: r) S
      | _ => none
    | .lmul => match st with
      | .long y :: .long x :: r => pm_n true nx ls (.long (x * y) :: r) S
      | _ => none
    | .land => match st with
      | .long y :: .long x :: r => pm_n true nx ls (.long (x &&& y) :: r) S
      | _ => none
    | .lor => match st with
      | .long y :: .long x :: r => pm_n true nx ls (.long (x ||| y) :: r) S
      | _ => none
    | .lcmp => match st with
      | .long y :: .long x :: r => pm_n true nx ls (.int (lg_cmp x y) :: r) S
      | _ => none
    | .lshl => match st with
      | .int y :: .long x :: r => pm_n true nx ls (.long (x <<< (y.toInt64 &&& 63)) :: r) S
      | _ => none
    | .lushr => match st with
      | .int y :: .long x :: r => pm_n true nx ls (.long (pm_uls x y) :: r) S
      | _ => none
    | .i2l => match st with
      | .int x :: r => pm_n true nx ls (.long x.toInt64 :: r) S
      | _ => none
    | .l2i => match st with
      | .long x :: r => pm_n true nx ls (.int x.toInt32 :: r) S
      | _ => none
    | .i2b => match st with
      | .int x :: r => pm_n true nx ls (.int x.toInt8.toInt32 :: r) S
      | _ => none
    | .i2c => match st with
      | .int x :: r => pm_n true nx ls (.int (x.toUInt32 % 65536).toInt32 :: r) S
      | _ => none
    | .dup => match st with
      | .int x :: r => pm_n true nx ls (.int x :: .int x :: r) S
      | .ref x :: r => pm_n true nx ls (.ref x :: .ref x :: r) S
      | _ => none
    | .dup2 => match st with
      | .int y :: .ref x :: r => pm_n true nx ls (.int y :: .ref x :: .int y :: .ref x :: r) S
      | _ => none
    | .pop => match st with
      | .int _ :: r => pm_n true nx ls r S
      | _ => none
    | .ifCond .eq _ => match st with
      | .int x :: r => pm_b 0 x 0 (xs.getD 0 0) nx ls r S
      | _ => none
    | .ifCond .ne _ => match st with
      | .int x :: r => pm_b 0 x 0 nx (xs.getD 0 0) ls r S
      | _ => none
    | .ifCond .lt _ => match st with
      | .int x :: r => pm_b 1 x 0 (xs.getD 0 0) nx ls r S
      | _ => none
    | .ifCond .ge _ => match st with
      | .int x :: r => pm_b 1 x 0 nx (xs.getD 0 0) ls r S
      | _ => none
    | .ifCond .gt _ => match st with
      | .int x :: r => pm_b 2 x 0 nx (xs.getD 0 0) ls r S
      | _ => none
    | .ifCond .le _ => match st with
      | .int x :: r => pm_b 2 x 0 (xs.getD 0 0) nx ls r S
      | _ => none
    | .if_icmp .eq _ => match st with
      | .int y :: .int x :: r => pm_b 0 x y (xs.getD 0 0) nx ls r S
      | _ => none
    | .if_icmp .ne _ => match st with
      | .int y :: .int x :: r => pm_b 0 x y nx (xs.getD 0 0) ls r S
      | _ => none
    | .if_icmp .lt _ => match st with
      | .int y :: .int x :: r => pm_b 1 x y (xs.getD 0 0) nx ls r S
      | _ => none
    | .if_icmp .ge _ => match st with
      | .int y :: .int x :: r => pm_b 1 x y nx (xs.getD 0 0) ls r S
      | _ => none
    | .if_icmp .gt _ => match st with
      | .int y :: .int x :: r => pm_b 2 x y nx (xs.getD 0 0) ls r S
      | _ => none
    | .if_icmp .le _ => match st with
      | .int y :: .int x :: r => pm_b 2 x y (xs.getD 0 0) nx ls r S
      | _ => none
    | .goto _ => pm_n true (xs.getD 0 0) (pm_clr (xs.drop 1) ls) st S
    | .tableswitch _ _ _ _ => match st with
      | .int x :: r => pm_w x (xs.getD 0 0) (xs.drop 1) ls r S
      | _ => none
    | .getfield _ => match st with
      | .ref r :: rest => bif Nat.ble (xs.getD 0 9) 1 then (bif Nat.blt r S.1 then (match Sg r with
          | .inr (c, ks) => bif Nat.beq c (xs.getD 1 0) then (match pm_fv S r (xs.getD 2 0) (ks.getD (xs.getD 2 0) 9) with
              | some v => pm_n true nx ls (v :: rest) S
              | none => none) else none
          | .inl _ => none) else none)
        else (bif Nat.beq r 201 then (match xs.getD 0 9 with
          | 2 => pm_n true nx ls (.ref 202 :: rest) S
          | 3 => pm_n true nx ls (.int 0 :: rest) S
          | _ => none) else none)
      | _ => none
    | .putfield _ => match st with
      | .int x :: .ref r :: rest => bif Nat.blt r S.1 && Nat.ble (xs.getD 0 9) 1 then (match Sg r with
          | .inr (c, ks) => bif Nat.beq c (xs.getD 1 0) then (match ks.getD (xs.getD 2 0) 9 with
              | 0 => pm_n true nx ls rest (S.1, S.2.1, pm_ui S.2.2.1 r (xs.getD 2 0) x, S.2.2.2)
              | 2 => pm_n (decide (x &&& 1 = x)) nx ls rest (S.1, S.2.1, pm_ui S.2.2.1 r (xs.getD 2 0) x, S.2.2.2)
              | _ => none) else none
          | .inl _ => none) else none
      | .long x :: .ref r :: rest => bif Nat.blt r S.1 && Nat.ble (xs.getD 0 9) 1 then (match Sg r with
          | .inr (c, ks) => bif Nat.beq c (xs.getD 1 0) && Nat.beq (ks.getD (xs.getD 2 0) 9) 1 then pm_n true nx ls rest (S.1, S.2.1, S.2.2.1, pm_ul S.2.2.2 r (xs.getD 2 0) x) else none
          | .inl _ => none) else none
      | .ref z :: .ref r :: rest => bif Nat.blt r S.1 && (Nat.blt z S.1 && Nat.beq (xs.getD 0 9) 4) then (match Sg r with
          | .inr (c, ks) => bif Nat.beq c (xs.getD 1 0) && Nat.beq (ks.getD (xs.getD 2 0) 9) 3 then pm_n true nx ls rest (S.1, pm_ug S.2.1 r (xs.getD 2 0) (z + 1), S.2.2.1, S.2.2.2) else none
          | .inl _ => none) else none
      | _ => none
    | .getstatic _ => match xs.getD 0 0 with
      | 0 => pm_n true nx ls (.ref 200 :: st) S
      | 1 => pm_n true nx ls (.int 1 :: st) S
      | 2 => pm_n true nx ls (.ref 204 :: st) S
      | _ => none
    | .iaload => match st with
      | .int i :: .ref r :: rest => bif Nat.blt r S.1 then (match Sg r with
          | .inl (0, n) => pm_n (pm_ib i n) nx ls (.int (S.2.2.1 r i.toNatClampNeg) :: rest) S
          | _ => none)
        else (match Rt r with
          | some (0, n, f) => pm_n (pm_ib i n) nx ls (.int (f i.toNatClampNeg) :: rest) S
          | _ => none)
      | _ => none
    | .baload => match st with
      | .int i :: .ref r :: rest => bif Nat.blt r S.1 then (match Sg r with
          | .inl (2, n) => pm_n (pm_ib i n) nx ls (.int (S.2.2.1 r i.toNatClampNeg) :: rest) S
          | .inl (3, n) => pm_n (pm_ib i n) nx ls (.int (S.2.2.1 r i.toNatClampNeg) :: rest) S
          | _ => none)
        else (match Rt r with
          | some (2, n, f) => pm_n (pm_ib i n) nx ls (.int (f i.toNatClampNeg) :: rest) S
          | _ => none)
      | _ => none
    | .laload => match st with
      | .int i :: .ref r :: rest => bif Nat.blt r S.1 then (match Sg r with
          | .inl (1, n) => pm_n (pm_ib i n) nx ls (.long (S.2.2.2 r i.toNatClampNeg) :: rest) S
          | _ => none) else none
      | _ => none
    | .iastore => match st with
      | .int x :: .int i :: .ref r :: rest => bif Nat.blt r S.1 then (match Sg r with
          | .inl (0, n) => pm_n (pm_ib i n) nx ls rest (S.1, S.2.1, pm_ui S.2.2.1 r i.toNatClampNeg x, S.2.2.2)
          | _ => none) else none
      | _ => none
    | .bastore => match st with
      | .int x :: .int i :: .ref r :: rest => bif Nat.blt r S.1 then (match Sg r with
          | .inl (2, n) => pm_n (pm_ib i n) nx ls rest (S.1, S.2.1, pm_ui S.2.2.1 r i.toNatClampNeg (vp_nar .byte x), S.2.2.2)
          | .inl (3, n) => pm_n (pm_ib i n) nx ls rest (S.1, S.2.1, pm_ui S.2.2.1 r i.toNatClampNeg (vp_nar .boolean x), S.2.2.2)
          | _ => none) else none
      | _ => none
    | .lastore => match st with
      | .long x :: .int i :: .ref r :: rest => bif Nat.blt r S.1 then (match Sg r with
          | .inl (1, n) => pm_n (pm_ib i n) nx ls rest (S.1, S.2.1, S.2.2.1, pm_ul S.2.2.2 r i.toNatClampNeg x)
          | _ => none) else none
      | _ => none
    | .arraylength => match st with
      | .ref r :: rest => bif Nat.blt r S.1 then (match Sg r with
          | .inl (t, n) => bif Nat.ble t 3 then pm_n true nx ls (.int (nI n) :: rest) S else none
          | _ => none)
        else (match Rt r with
          | some (_, n, _) => pm_n true nx ls (.int (nI n) :: rest) S
          | _ => none)
      | _ => none
    | .newarray _ => match st with
      | .int n :: rest => match Sg S.1 with
        | .inl (t, w) => bif Nat.beq t (xs.getD 0 9) && Nat.blt S.1 200 then (pm_n (decide (n = nI w)) nx ls (.ref S.1 :: rest) (S.1 + 1, pm_cg S.2.1 S.1, pm_ci S.2.2.1 S.1, pm_cl S.2.2.2 S.1)) else none
        | _ => none
      | _ => none
    | .new _ => match Sg S.1 with
      | .inr (c, _) => bif Nat.beq c (xs.getD 1 0) && Nat.blt S.1 200 then pm_n true nx ls (.ref S.1 :: st) (S.1 + 1, pm_cg S.2.1 S.1, pm_ci S.2.2.1 S.1, pm_cl S.2.2.2 S.1) else none
      | _ => none
    | .invokespecial _ => match xs with
      | [] => match st with
        | .ref r :: rest => bif Nat.blt r S.1 && Nat.ble (pm_wd rest) 8 then pm_n true nx ls rest S else none
        | _ => none
      | xs => pm_callI nx xs ls st S
    | .invokevirtual _ => pm_callV Sg nx xs ls st S
    | .invokestatic _ => pm_call nx xs ls st S
    | .ireturn => match st with
      | [.int x] => match ret with
        | some .int => pm_e true (some (.int x)) S
        | some .boolean => pm_e (decide (x &&& 1 = x)) (some (.int x)) S
        | some .byte => pm_e (decide (x.toInt8.toInt32 = x)) (some (.int x)) S
        | some .char => pm_e (decide ((x.toUInt32 % 65536).toInt32 = x)) (some (.int x)) S
        | _ => none
      | _ => none
    | .lreturn => match st with
      | [.long x] => match ret with
        | some .long => pm_e true (some (.long x)) S
        | _ => none
      | _ => none
    | .return_ => match st with
      | [] => match ret with
        | none => pm_e true none S
        | _ => none
      | _ => none
    | _ => none
/-- behind a call -/
def pm_k (r : pm_R) (k : Option Value → pm_S → pm_R) : pm_R := match r with
  | some (v, S) => k v S
  | none => none
def pm_c (me : Nat → pm_Me) (F : pm_F) (mj : Nat) (as : List Value) (S : pm_S) : pm_R := bif Nat.ble (pm_wd as) (me mj).2.2.1 then F mj 0 (pm_en (me mj).2.2.1 as) [] S else none
def pm_dc (me : Nat → pm_Me) (F : pm_F) (mi : Nat) : pm_C → pm_R
  | .inl (pc, ls, st, S) => F mi pc ls st S
  | .inr (.inl (o, x, y, t, e, ls, st, S)) => match o with
    | 0 => if x = y then F mi t ls st S else F mi e ls st S
    | 1 => if x < y then F mi t ls st S else F mi e ls st S
    | _ => if x ≤ y then F mi t ls st S else F mi e ls st S
  | .inr (.inr (.inl (x, d, ts, ls, st, S))) => pm_sw (fun t => F mi t ls st S) x d ts 0
  | .inr (.inr (.inr (.inl (mj, as, nx, ls, st, S)))) => pm_k (pm_c me F mj as S) (fun v S' => F mi nx ls (v.toList ++ st) S')
  | .inr (.inr (.inr (.inr (v, S)))) => some (v, S)
def pm_do (me : Nat → pm_Me) (F : pm_F) (mi : Nat) : pm_Z → pm_R
  | none => none
  | some (g, c) => bif g then pm_dc me F mi c else none
def pm_body (me : Nat → pm_Me) (Sg : Nat → pm_K) (Rt : pm_T) (F : pm_F) : pm_F := fun mi pc ls st S => match pm_at (me mi).2.2.2.2.2.2 pc with
  | some q => pm_do me F mi (pm_x Sg Rt (me mi).2.2.2.1 q ls st S)
  | none => none
/-- so many instructions deep at most -/
def pm_run (me : Nat → pm_Me) (Sg : Nat → pm_K) (Rt : pm_T) : Nat → pm_F
  | 0 => fun _ _ _ _ _ => none
  | n + 1 => pm_body me Sg Rt (pm_run me Sg Rt n)
/-- a block: till a place where it stops; at most k instructions -/
def pm_blk (me : Nat → pm_Me) (Sg : Nat → pm_K) (Rt : pm_T) (F : pm_F) (stop : Nat → Nat → Bool) : Nat → pm_F
  | 0 => F
  | k + 1 => fun mi pc ls st S => pm_body me Sg Rt (fun mi pc ls st S => bif stop mi pc then F mi pc ls st S else pm_blk me Sg Rt F stop k mi pc ls st S) mi pc ls st S
def pm_fix (me : Nat → pm_Me) (Sg : Nat → pm_K) (Rt : pm_T) (F : pm_F) : Prop := ∀ mi pc ls st S, F mi pc ls st S = pm_body me Sg Rt F mi pc ls st S
theorem pm_blk_eq {me : Nat → pm_Me} {Sg : Nat → pm_K} {Rt : pm_T} {F : pm_F} (h : pm_fix me Sg Rt F) (stop : Nat → Nat → Bool) : ∀ (k : Nat), pm_blk me Sg Rt F stop k = F := by
  intro k
  induction k with
  | zero => rfl
  | succ k ih =>
    funext mi pc ls st S
    rw [h mi pc ls st S]
    show pm_body me Sg Rt (fun mi pc ls st S => bif stop mi pc then F mi pc ls st S else pm_blk me Sg Rt F stop k mi pc ls st S) mi pc ls st S = _
    rw [ih]
    congr 1
    funext mi pc ls st S
    cases stop mi pc <;> rfl
theorem pm_blk_to {me : Nat → pm_Me} {Sg : Nat → pm_K} {Rt : pm_T} {F : pm_F} (h : pm_fix me Sg Rt F) (stop : Nat → Nat → Bool) (k : Nat) {mi pc : Nat} {ls : pm_L} {st : List Value} {S : pm_S} {r : pm_R} (hr : pm_blk me Sg Rt F stop k mi pc ls st S = r) : F mi pc ls st S = r := by
  rw [← hr, pm_blk_eq h]
/-! the least machine: what some depth answers -/
def pm_le (F F' : pm_F) : Prop := ∀ mi pc ls st S r, F mi pc ls st S = some r → F' mi pc ls st S = some r
theorem pm_k_some {r : pm_R} {k : Option Value → pm_S → pm_R} {z : Option Value × pm_S} (h : pm_k r k = some z) : ∃ v S, r = some (v, S) ∧ k v S = some z := by
  cases r with
  | none => cases h
  | some a => exact ⟨a.1, a.2, rfl, h⟩
theorem pm_c_some {me : Nat → pm_Me} {F : pm_F} {mj : Nat} {as : List Value} {S : pm_S} {z : Option Value × pm_S} (h : pm_c me F mj as S = some z) : Nat.ble (pm_wd as) (me mj).2.2.1 = true ∧ F mj 0 (pm_en (me mj).2.2.1 as) [] S = some z := by
  unfold pm_c at h
  cases hb : Nat.ble (pm_wd as) (me mj).2.2.1 with
  | true => rw [hb] at h; exact ⟨rfl, h⟩
  | false => rw [hb] at h; cases h
theorem pm_sw_some {k k' : Nat → pm_R} {x : Int32} {d : Nat} {z : Option Value × pm_S} (hk : ∀ t, k t = some z → k' t = some z) : ∀ (ts : List Nat) (j : Nat), pm_sw k x d ts j = some z → pm_sw k' x d ts j = some z := by
  intro ts
  induction ts with
  | nil => intro j h; exact hk _ h
  | cons t ts ih =>
    intro j h
    unfold pm_sw at h ⊢
    by_cases c : x = nI j
    · rw [if_pos c] at h ⊢; exact hk _ h
    · rw [if_neg c] at h ⊢; exact ih _ h
theorem pm_sw_which {k : Nat → pm_R} {x : Int32} {d : Nat} : ∀ (ts : List Nat) (j : Nat), ∃ t, pm_sw k x d ts j = k t ∧ ∀ k', pm_sw k' x d ts j = k' t := by
  intro ts
  induction ts with
  | nil => intro j; exact ⟨d, rfl, fun _ => rfl⟩
  | cons t ts ih =>
    intro j
    by_cases c : x = nI j
    · exact ⟨t, by unfold pm_sw; rw [if_pos c], fun k' => by unfold pm_sw; rw [if_pos c]⟩
    · obtain ⟨u, h1, h2⟩ := ih (j + 1)
      exact ⟨u, by unfold pm_sw; rw [if_neg c]; exact h1, fun k' => by unfold pm_sw; rw [if_neg c]; exact h2 k'⟩
theorem pm_body_mono {me : Nat → pm_Me} {Sg : Nat → pm_K} {Rt : pm_T} {F F' : pm_F} (h : pm_le F F') : pm_le (pm_body me Sg Rt F) (pm_body me Sg Rt F') := by
  intro mi pc ls st S r hr
  unfold pm_body at hr ⊢
  cases hq : pm_at (me mi).2.2.2.2.2.2 pc with
  | none => rw [hq] at hr; cases hr
  | some q =>
    rw [hq] at hr
    dsimp only at hr ⊢
    cases hz : pm_x Sg Rt (me mi).2.2.2.1 q ls st S with
    | none => rw [hz] at hr; cases hr
    | some gc =>
      obtain ⟨g, c⟩ := gc
      rw [hz] at hr
      cases g with
      | false => cases hr
      | true =>
        show pm_dc me F' mi c = some r
        have hr : pm_dc me F mi c = some r := hr
        rcases c with ⟨pc', ls', st', S'⟩ | ⟨o, x, y, t, e, ls', st', S'⟩ | ⟨x, d, ts, ls', st', S'⟩ | ⟨mj, as, nx, ls', st', S'⟩ | ⟨v, S'⟩
        · exact h _ _ _ _ _ _ hr
        · unfold pm_dc at hr ⊢
          dsimp only at hr ⊢
          split at hr <;> split at hr <;> rename_i c1 <;> first | (rw [if_pos c1]; exact h _ _ _ _ _ _ hr) | (rw [if_neg c1]; exact h _ _ _ _ _ _ hr)
        · exact pm_sw_some (fun t ht => h _ _ _ _ _ _ ht) ts 0 hr
        · obtain ⟨v, S2, h1, h2⟩ := pm_k_some hr
          obtain ⟨h3, h4⟩ := pm_c_some h1
          show pm_k (pm_c me F' mj as S') _ = _
          have : pm_c me F' mj as S' = some (v, S2) := by unfold pm_c; rw [h3]; exact h _ _ _ _ _ _ h4
          rw [this]
          exact h _ _ _ _ _ _ h2
        · exact hr
theorem pm_run_le {me : Nat → pm_Me} {Sg : Nat → pm_K} {Rt : pm_T} : ∀ (n : Nat), pm_le (pm_run me Sg Rt n) (pm_run me Sg Rt (n + 1)) := by
  intro n
  induction n with
  | zero => intro mi pc ls st S r h; cases h
  | succ n ih => exact pm_body_mono ih
theorem pm_run_mono {me : Nat → pm_Me} {Sg : Nat → pm_K} {Rt : pm_T} {n m : Nat} (h : n ≤ m) : pm_le (pm_run me Sg Rt n) (pm_run me Sg Rt m) := by
  induction h with
  | refl => exact fun _ _ _ _ _ _ h => h
  | step _ ih => exact fun mi pc ls st S r hr => pm_run_le _ _ _ _ _ _ _ (ih _ _ _ _ _ _ hr)
noncomputable def pm_sem (me : Nat → pm_Me) (Sg : Nat → pm_K) (Rt : pm_T) : pm_F := fun mi pc ls st S => by
  classical
  exact if h : ∃ n r, pm_run me Sg Rt n mi pc ls st S = some r then some (Classical.choose (Classical.choose_spec h)) else none
theorem pm_sem_iff {me : Nat → pm_Me} {Sg : Nat → pm_K} {Rt : pm_T} {mi pc : Nat} {ls : pm_L} {st : List Value} {S : pm_S} {r : Option Value × pm_S} : pm_sem me Sg Rt mi pc ls st S = some r ↔ ∃ n, pm_run me Sg Rt n mi pc ls st S = some r := by
  unfold pm_sem
  constructor
  · intro h
    by_cases c : ∃ n r, pm_run me Sg Rt n mi pc ls st S = some r
    · rw [dif_pos c] at h
      cases h
      exact ⟨_, Classical.choose_spec (Classical.choose_spec c)⟩
    · rw [dif_neg c] at h; cases h
  · rintro ⟨n, hn⟩
    have c : ∃ n r, pm_run me Sg Rt n mi pc ls st S = some r := ⟨n, r, hn⟩
    rw [dif_pos c]
    have h2 := Classical.choose_spec (Classical.choose_spec c)
    have h3 := pm_run_mono (Nat.le_max_left (Classical.choose c) n) _ _ _ _ _ _ h2
    have h4 := pm_run_mono (Nat.le_max_right (Classical.choose c) n) _ _ _ _ _ _ hn
    rw [h3] at h4
    exact h4
theorem pm_sem_cont {me : Nat → pm_Me} {Sg : Nat → pm_K} {Rt : pm_T} {mi pc : Nat} {ls : pm_L} {st : List Value} {S : pm_S} {r : Option Value × pm_S} (hr : pm_body me Sg Rt (pm_sem me Sg Rt) mi pc ls st S = some r) : ∃ n, pm_body me Sg Rt (pm_run me Sg Rt n) mi pc ls st S = some r := by
  unfold pm_body at hr ⊢
  cases hq : pm_at (me mi).2.2.2.2.2.2 pc with
  | none => rw [hq] at hr; cases hr
  | some q =>
    rw [hq] at hr
    dsimp only at hr ⊢
    cases hz : pm_x Sg Rt (me mi).2.2.2.1 q ls st S with
    | none => rw [hz] at hr; cases hr
    | some gc =>
      obtain ⟨g, c⟩ := gc
      rw [hz] at hr
      cases g with
      | false => cases hr
      | true =>
        show ∃ n, pm_dc me (pm_run me Sg Rt n) mi c = some r
        have hr : pm_dc me (pm_sem me Sg Rt) mi c = some r := hr
        rcases c with ⟨pc', ls', st', S'⟩ | ⟨o, x, y, t, e, ls', st', S'⟩ | ⟨x, d, ts, ls', st', S'⟩ | ⟨mj, as, nx, ls', st', S'⟩ | ⟨v, S'⟩
        · exact pm_sem_iff.mp hr
        · unfold pm_dc at hr ⊢
          dsimp only at hr ⊢
          split at hr <;> split at hr <;> rename_i c1 <;> (obtain ⟨n, hn⟩ := pm_sem_iff.mp hr; refine ⟨n, ?_⟩) <;> first | (rw [if_pos c1]; exact hn) | (rw [if_neg c1]; exact hn)
        · obtain ⟨t, h1, h2⟩ := pm_sw_which (k := fun t => pm_sem me Sg Rt mi t ls' st' S') (x := x) (d := d) ts 0
          obtain ⟨n, hn⟩ := pm_sem_iff.mp (h1.symm.trans hr)
          exact ⟨n, (h2 _).trans hn⟩
        · obtain ⟨v, S2, h1, h2⟩ := pm_k_some hr
          obtain ⟨h3, h4⟩ := pm_c_some h1
          obtain ⟨n1, h5⟩ := pm_sem_iff.mp h4
          obtain ⟨n2, h6⟩ := pm_sem_iff.mp h2
          refine ⟨max n1 n2, ?_⟩
          show pm_k (pm_c me _ mj as S') _ = _
          have : pm_c me (pm_run me Sg Rt (max n1 n2)) mj as S' = some (v, S2) := by unfold pm_c; rw [h3]; exact pm_run_mono (Nat.le_max_left _ _) _ _ _ _ _ _ h5
          rw [this]
          exact pm_run_mono (Nat.le_max_right _ _) _ _ _ _ _ _ h6
        · exact ⟨0, hr⟩
theorem pm_sem_fix (me : Nat → pm_Me) (Sg : Nat → pm_K) (Rt : pm_T) : pm_fix me Sg Rt (pm_sem me Sg Rt) := by
  intro mi pc ls st S
  apply Option.ext
  intro r
  constructor
  · intro h
    obtain ⟨n, hn⟩ := pm_sem_iff.mp h
    cases n with
    | zero => cases hn
    | succ n => exact pm_body_mono (fun _ _ _ _ _ _ h => pm_sem_iff.mpr ⟨n, h⟩) _ _ _ _ _ _ hn
  · intro h
    obtain ⟨n, hn⟩ := pm_sem_cont h
    exact pm_sem_iff.mpr ⟨n + 1, hn⟩
/-- a block of a method stops at its cuts, and at every other method -/
def pm_el (b : Nat) : List Nat → Bool
  | [] => false
  | a :: l => Nat.beq a b || pm_el b l
def pm_stp (mi : Nat) (C : List Nat) (a b : Nat) : Bool := !(Nat.beq a mi) || pm_el b C
theorem pm_k_i {v : Option Value} {S : pm_S} {k : Option Value → pm_S → pm_R} : pm_k (some (v, S)) k = k v S := rfl
end
section
/-! ===== what the tables must say of an instruction ===== -/
def pm_G : List Cond := lw_tbl.filter goodWord
def pm_ty : Nat → FieldType
  | 0 => .int
  | 1 => .long
  | 2 => .byte
  | _ => .boolean
def pm_d (b : ByteArray) (pc : Nat) (ins : Instr) (nx n : Nat) : Bool := decide (decode b pc = .ok (ins, n)) && Nat.beq nx (pc + n)
def pm_wn (w : Nat) (x : Cond) : Bool := decide (lw_tbl[w]? = some x)
def pm_wk (w : Nat) (x : Cond) : Bool := pm_wn w x && goodWord x
def pm_fk (cl : List vw_C) (c k : Nat) : Option (String × String × String × Bool) := match cl[c]? with
  | some (C, T, N) => bif Nat.blt k N && decide ((T k).1 = C) then some (T k) else none
  | none => none
def pm_cc (me : Nat → pm_Me) (mi mj n wi wc : Nat) : Bool := pm_wk wi (.initialized (me mj).1.cls) && (pm_wk wc (.code (me mj).1 (me mj).2.1 (me mj).2.2.1 (me mj).2.2.2.1) && (decide ((me mj).1.cls ≠ "java/lang/invoke/MethodHandle") && (decide ((me mj).1.cls ≠ "java/lang/invoke/VarHandle") && (decide ((parseMethodDescriptor (me mj).1.desc).map (fun d => d.parameters.length) = some n) && (Nat.ble ((me mj).2.2.2.2.1 + 1) (me mi).2.2.2.2.1 && (Nat.ble (8 + ((me mj).2.2.1 + 11) + (me mj).2.2.2.2.2.1) (me mi).2.2.2.2.2.1 && plainFor (me mj).1))))))
def pm_lnk (own : String) (idx w tag : Nat) (y : MethodName) : Bool := match tag with
  | 0 => pm_wk w (.methodLink own idx y)
  | _ => pm_wn w (.methodLinkNest own idx y "TurnCabinet")
def pm_flk (own : String) (idx w tag : Nat) (t : String × String × String × Bool) : Bool := match tag with
  | 1 => pm_wn w (.fieldLinkNest own idx t.1 t.2.1 t.2.2.1 "TurnCabinet")
  | _ => pm_wk w (.fieldLink own idx t.1 t.2.1 t.2.2.1)
def pm_swk (pc : Nat) : List Int → List Nat → Bool
  | [], [] => true
  | o :: os, t :: ts => decide ((pc : Int) + o = (t : Int)) && pm_swk pc os ts
  | _, _ => false
def pm_chk (cl : List vw_C) (me : Nat → pm_Me) (mi : Nat) (q : pm_Q) : Bool := match q with
  | (pc, ins, nx, w, xs, ci, cj) => match ins with
    | .iload_n n | .lload_n n | .aload_n n | .istore_n n | .lstore_n n | .astore_n n => pm_d (me mi).2.1 pc ins nx 1 && Nat.beq n.val (xs.getD 0 0)
    | .iload i | .lload i | .aload i | .istore i | .lstore i | .astore i => pm_d (me mi).2.1 pc ins nx 2 && Nat.beq i (xs.getD 0 0)
    | .iinc i n => pm_d (me mi).2.1 pc ins nx 3 && (Nat.beq i (xs.getD 0 0) && decide (Int32.ofInt n = ci))
    | .iconst n => pm_d (me mi).2.1 pc ins nx 1 && decide (Int32.ofInt n = ci)
    | .bipush n => pm_d (me mi).2.1 pc ins nx 2 && decide ((Int8.ofInt n).toInt32 = ci)
    | .sipush n => pm_d (me mi).2.1 pc ins nx 3 && decide ((Int16.ofInt n).toInt32 = ci)
    | .ldc idx => pm_d (me mi).2.1 pc ins nx 2 && (match xs with
      | [] => pm_wk w (.constant (me mi).1.cls idx ci)
      | r :: _ => Nat.beq r 201 && (decide ((me mi).1.cls = "TurnCabinet$Reader") && Nat.beq idx 46))
    | .ldc_w idx => pm_d (me mi).2.1 pc ins nx 3 && pm_wk w (.constant (me mi).1.cls idx ci)
    | .lconst n => pm_d (me mi).2.1 pc ins nx 1 && decide (Int64.ofNat (n : Nat) = cj)
    | .ldc2_w idx => pm_d (me mi).2.1 pc ins nx 3 && pm_wk w (.constantLong (me mi).1.cls idx cj)
    | .ifCond _ o | .if_icmp _ o | .goto o => pm_d (me mi).2.1 pc ins nx 3 && decide ((pc : Int) + o = (xs.getD 0 0 : Int))
    | .tableswitch d lo hi offs => pm_d (me mi).2.1 pc ins nx (nx - pc) && (decide (lo = 0) && (decide (hi + 1 = (offs.size : Int)) && (decide (offs.size < 1000) && (decide ((pc : Int) + d = (xs.getD 0 0 : Int)) && pm_swk pc offs.toList (xs.drop 1)))))
    | .getfield idx => pm_d (me mi).2.1 pc ins nx 3 && (match xs.getD 0 9 with
      | 2 => pm_wk w (.fieldLink (me mi).1.cls idx "java/lang/String" "value" "[B")
      | 3 => pm_wk w (.fieldLink (me mi).1.cls idx "java/lang/String" "coder" "B")
      | tag => match pm_fk cl (xs.getD 1 0) (xs.getD 2 0) with
        | some t => pm_flk (me mi).1.cls idx w tag t
        | none => false)
    | .putfield idx => pm_d (me mi).2.1 pc ins nx 3 && (match pm_fk cl (xs.getD 1 0) (xs.getD 2 0) with
        | some t => pm_flk (me mi).1.cls idx w (xs.getD 0 9) t && (bif Nat.beq (xs.getD 0 9) 4 then t.2.2.2 && (decide ((me mi).1.name = "<init>") && decide (t.1 = (me mi).1.cls)) else !t.2.2.2)
        | none => false)
    | .getstatic idx => pm_d (me mi).2.1 pc ins nx 3 && (match xs.getD 0 0 with
      | 0 => pm_wk w (.fieldLink (me mi).1.cls idx "TurnCabinet$Coalitions" "ORDERS" "[I")
      | 1 => pm_wk w (.fieldLink (me mi).1.cls idx "java/lang/String" "COMPACT_STRINGS" "Z")
      | 2 => pm_wk w (.fieldLink (me mi).1.cls idx "jdk/internal/util/Preconditions" "SIOOBE_FORMATTER" "Ljava/util/function/BiFunction;")
      | _ => false)
    | .newarray a => pm_d (me mi).2.1 pc ins nx 2 && (pm_wk w (.arrayClass (newarray.typeOf a)) && (decide (newarray.typeOf a = pm_ty (xs.getD 0 9)) && Nat.ble (xs.getD 0 9) 3))
    | .new idx => pm_d (me mi).2.1 pc ins nx 3 && (match cl[xs.getD 1 0]? with
      | some (C, _, N) => pm_wk w (.classLink (me mi).1.cls idx C) && (pm_wk (xs.getD 2 0) (.instantiable C N) && pm_wk (xs.getD 3 0) (.initialized C))
      | none => false)
    | .invokespecial idx => pm_d (me mi).2.1 pc ins nx 3 && (match xs with
      | [] => pm_wk w (.methodLink (me mi).1.cls idx objectInit) && (pm_G.contains (.instanceMethod objectInit) && (pm_G.contains (.code objectInit ⟨#[0xb1]⟩ 1 none) && (Nat.ble 1 (me mi).2.2.2.2.1 && Nat.ble 20 (me mi).2.2.2.2.2.1)))
      | _ => pm_lnk (me mi).1.cls idx w (xs.getD 2 0) (me (xs.getD 0 0)).1 && (pm_wk (xs.getD 3 0) (.instanceMethod (me (xs.getD 0 0)).1) && (decide ((me (xs.getD 0 0)).1.name = "<init>") && (decide ((me (xs.getD 0 0)).2.2.2.1 = none) && pm_cc me mi (xs.getD 0 0) (xs.getD 1 0 - 1) (xs.getD 4 0) (xs.getD 5 0)))))
    | .invokevirtual idx => pm_d (me mi).2.1 pc ins nx 3 && (pm_lnk (me mi).1.cls idx w (xs.getD 2 0) (me (xs.getD 0 0)).1 && (pm_wk (xs.getD 4 0) (.instanceMethod (me (xs.getD 0 0)).1) && (pm_wk (xs.getD 5 0) (.selects (me (xs.getD 0 0)).1.cls (me (xs.getD 0 0)).1 (me (xs.getD 0 0)).1) && (pm_cc me mi (xs.getD 0 0) (xs.getD 1 0 - 1) (xs.getD 6 0) (xs.getD 7 0) && (bif Nat.beq (xs.getD 3 0) 99 then decide ((me (xs.getD 0 0)).1.cls = "java/lang/String") else (match cl[xs.getD 3 0]? with
      | some (C, _, _) => decide ((me (xs.getD 0 0)).1.cls = C)
      | none => false))))))
    | .invokestatic idx => pm_d (me mi).2.1 pc ins nx 3 && (pm_lnk (me mi).1.cls idx w (xs.getD 2 0) (me (xs.getD 0 0)).1 && (pm_wk (xs.getD 3 0) (.static (me (xs.getD 0 0)).1) && pm_cc me mi (xs.getD 0 0) (xs.getD 1 0) (xs.getD 4 0) (xs.getD 5 0)))
    | _ => pm_d (me mi).2.1 pc ins nx 1
/-! ===== the worlds ===== -/
def pm_rl (ρ : Nat → Nat) (fv : Value) : Value → Value
  | .ref a => if a = 204 then fv else .ref (ρ a)
  | v => v
def pm_val (ρ : Nat → Nat) (fv : Value) (S : pm_S) (r k : Nat) : Nat → Value
  | 0 => .int (S.2.2.1 r k)
  | 1 => .long (S.2.2.2 r k)
  | 2 => .int (S.2.2.1 r k)
  | _ => match S.2.1 r k with
    | 0 => .null
    | j + 1 => pm_rl ρ fv (.ref j)
def pm_con (S : pm_S) (r : Nat) : Nat → ((Nat → Int32) ⊕ (Nat → Int64) ⊕ (Nat → UInt32) ⊕ (Nat → UInt64) ⊕ (Nat → Option Nat))
  | 1 => .inr (.inl (S.2.2.2 r))
  | _ => .inl (S.2.2.1 r)
def pm_cell (ρ : Nat → Nat) (fv : Value) (cA : Nat → ClassId) (K : pm_K) (S : pm_S) (r : Nat) : va_E := match K with
  | .inl (t, n) => .inl (cA t, n, pm_con S r t)
  | .inr (c, ks) => .inr (c, ks.mapIdx (fun k kd => pm_val ρ fv S r k kd))
def pm_ws (ρ : Nat → Nat) (fv : Value) (cA : Nat → ClassId) (Sg : Nat → pm_K) (S : pm_S) : va_W := (List.range S.1).map (fun r => (ρ r, pm_cell ρ fv cA (Sg r) S r))
def pm_tys (cA : Nat → ClassId) : List (ClassId × FieldType) := [(cA 0, .int), (cA 1, .long), (cA 2, .byte), (cA 3, .boolean)]
def pm_sz (K : pm_K) : Nat := match K with
  | .inl (_, n) => n
  | .inr (_, ks) => ks.length
/-- the slots of the first so many cells -/
def pm_ss (Sg : Nat → pm_K) : Nat → Nat
  | 0 => 0
  | n + 1 => pm_ss Sg n + pm_sz (Sg n)
def pm_isN : Cond → Bool
  | .fieldLinkNest _ _ _ _ _ _ | .methodLinkNest _ _ _ _ => true
  | _ => false
/-- what is there from the start, and nobody writes -/
def pm_Zf (Rt : pm_T) (ρ : Nat → Nat) (fv : Value) (A : Nat → Prop) (U : State) (H : Heap) : Prop :=
  va_Z "TurnCabinet$Coalitions" "ORDERS" "[I" (.ref (ρ 200)) A U H ∧ va_Z "java/lang/String" "COMPACT_STRINGS" "Z" (.int 1) A U H ∧ va_Z "jdk/internal/util/Preconditions" "SIOOBE_FORMATTER" "Ljava/util/function/BiFunction;" fv A U H ∧
  va_OF "java/lang/String" "coder" "B" (.int 0) (ρ 201) A U H ∧ va_OF "java/lang/String" "value" "[B" (.ref (ρ 202)) (ρ 201) A U H ∧ va_O "java/lang/String" (ρ 201) A U H ∧
  ∀ (r t n : Nat) (f : Nat → Int32), Rt r = some (t, n, f) → va_T (pm_ty t) (ρ r) n (fun j => .int (f j)) A U H
/-- what the tables say, of the state alone -/
def pm_Nf (tx : String) (ρ : Nat → Nat) (U : State) : Prop := (∀ w ∈ lw_tbl, pm_isN w = true → va_Nw w U) ∧ vk_R "TurnCabinet$Reader" 46 tx (ρ 201) U
theorem pm_Zf.moved {Rt : pm_T} {ρ : Nat → Nat} {fv : Value} {A : Nat → Prop} {u U : State} {H : Heap} (hvm : u.vm.Alike U.vm) (h : pm_Zf Rt ρ fv A u H) : pm_Zf Rt ρ fv A U H := by
  obtain ⟨h1, h2, h3, h4, h5, h6, h7⟩ := h
  exact ⟨h1.moved hvm, h2.moved hvm, h3.moved hvm, h4.moved hvm, h5.moved hvm, h6.moved hvm, fun r t n f h => (h7 r t n f h).moved hvm⟩
theorem pm_Zf.kept {Rt : pm_T} {ρ : Nat → Nat} {fv : Value} {A : Nat → Prop} {U : State} {H H1 : Heap} (h : pm_Zf Rt ρ fv A U H) (hq : ∀ a : Nat, a < H.size → ¬ A a → H1[a]? = H[a]?) : pm_Zf Rt ρ fv A U H1 := by
  obtain ⟨h1, h2, h3, h4, h5, h6, h7⟩ := h
  exact ⟨h1.kept hq, h2.kept hq, h3.kept hq, h4.kept hq, h5.kept hq, h6.kept hq, fun r t n f h => (h7 r t n f h).kept hq⟩
theorem pm_Nf.warm {tx : String} {ρ : Nat → Nat} {s U : State} (hW : s.WarmedH U.vm) (h : pm_Nf tx ρ s) : pm_Nf tx ρ U := by
  refine ⟨fun w hw hn => ?_, h.2.warm hW⟩
  have h1 := h.1 w hw hn
  cases w <;> first | exact va_Nw.warmF hW h1 | exact va_Nw.warmM hW h1 | cases hn
theorem pm_Nf.same {tx : String} {ρ : Nat → Nat} {u U : State} (hv : U.vm = u.vm) (h : pm_Nf tx ρ u) : pm_Nf tx ρ U := by
  refine ⟨fun w hw hn => ?_, h.2.same hv⟩
  have h1 := h.1 w hw hn
  cases w <;> first | (cases hn; done) | exact va_Nw.same rfl hv.symm h1
theorem pm_ws_at {ρ : Nat → Nat} {fv : Value} {cA : Nat → ClassId} {Sg : Nat → pm_K} {S : pm_S} {r : Nat} (h : r < S.1) : (pm_ws ρ fv cA Sg S)[r]? = some (ρ r, pm_cell ρ fv cA (Sg r) S r) := by
  simp [pm_ws, List.getElem?_map, List.getElem?_range h]
theorem pm_ws_mem {ρ : Nat → Nat} {fv : Value} {cA : Nat → ClassId} {Sg : Nat → pm_K} {S : pm_S} {k : Nat} {q : Nat × va_E} (h : (pm_ws ρ fv cA Sg S)[k]? = some q) : k < S.1 ∧ q = (ρ k, pm_cell ρ fv cA (Sg k) S k) := by
  have hk : k < S.1 := by
    have := (List.getElem?_eq_some_iff.mp h).1
    simpa [pm_ws] using this
  rw [pm_ws_at hk] at h
  exact ⟨hk, (Option.some.inj h).symm⟩
theorem pm_ws_set {ρ : Nat → Nat} {fv : Value} {cA : Nat → ClassId} {Sg : Nat → pm_K} {S S' : pm_S} {r : Nat} (hn : S'.1 = S.1) (hr : r < S.1) (h : ∀ k, k < S.1 → k ≠ r → pm_cell ρ fv cA (Sg k) S' k = pm_cell ρ fv cA (Sg k) S k) :
    (pm_ws ρ fv cA Sg S).set r (ρ r, pm_cell ρ fv cA (Sg r) S' r) = pm_ws ρ fv cA Sg S' := by
  apply List.ext_getElem?
  intro k
  by_cases hk : k < S.1
  · rw [pm_ws_at (by omega)]
    by_cases e : k = r
    · subst e
      rw [List.getElem?_set_self (by simpa [pm_ws] using hk)]
    · rw [List.getElem?_set_ne (Ne.symm e), pm_ws_at hk, h k hk e]
  · rw [List.getElem?_eq_none (by simp [pm_ws]; omega), List.getElem?_eq_none (by simp [pm_ws]; omega)]
theorem pm_ws_D {ρ : Nat → Nat} {fv : Value} {cA : Nat → ClassId} {Sg : Nat → pm_K} {S : pm_S} {base : Nat} (hρ : ∀ a, a < 200 → ρ a = base + a) (h : S.1 ≤ 200) : va_D (fun q : Nat => base ≤ q) (pm_ws ρ fv cA Sg S) := by
  refine ⟨fun i j x y hi hj hxy => ?_, fun k q hk => ?_⟩
  · obtain ⟨h1, rfl⟩ := pm_ws_mem hi
    obtain ⟨h2, rfl⟩ := pm_ws_mem hj
    have h3 : ρ i = ρ j := hxy
    rw [hρ i (by omega), hρ j (by omega)] at h3
    omega
  · obtain ⟨h1, rfl⟩ := pm_ws_mem hk
    show base ≤ ρ k
    rw [hρ k (by omega)]
    omega
/-! locals -/
def pm_LH (ρ : Nat → Nat) (fv : Value) (nL : Nat) (ls : Array Slot) (pl : pm_L) : Prop := ls.size = nL ∧ pl.length = nL ∧ lv_wf ls ∧ ∀ (i : Nat) (v : Value), pl[i]? = some (some v) → (v.category = 2 → pl[i + 1]? = some none) → ls[i]? = some (.val (pm_rl ρ fv v))
theorem pm_LH.clr {ρ : Nat → Nat} {fv : Value} {nL : Nat} {ls : Array Slot} : ∀ (ds : List Nat) {pl : pm_L}, pm_LH ρ fv nL ls pl → pm_LH ρ fv nL ls (pm_clr ds pl) := by
  intro ds
  induction ds with
  | nil => intro pl h; exact h
  | cons j t ih =>
    intro pl h
    unfold pm_clr
    refine ih ?_
    cases hb : pm_lg (pl.getD (j - 1) none) with
    | true => exact h
    | false =>
      show pm_LH ρ fv nL ls (pl.set j none)
      refine ⟨h.1, by rw [List.length_set]; exact h.2.1, h.2.2.1, fun i v hv hc => ?_⟩
      have hij : j ≠ i := by
        intro e
        subst e
        rw [List.getElem?_set] at hv
        split at hv
        · split at hv <;> cases hv
        · rename_i hn; exact hn rfl
      rw [List.getElem?_set_ne hij] at hv
      refine h.2.2.2 i v hv (fun h2 => ?_)
      have h3 := hc h2
      by_cases e : j = i + 1
      · subst e
        exfalso
        have h4 : pl.getD (i + 1 - 1) none = some v := by
          rw [List.getD_eq_getElem?_getD, Nat.add_sub_cancel, hv]; rfl
        rw [h4] at hb
        unfold pm_lg at hb
        dsimp only at hb
        rw [h2] at hb
        cases hb
      · rwa [List.getElem?_set_ne e] at h3
def pm_vs (pl : pm_L) (i : Nat) : Option Value := match pl[i]? with
  | some (some v) => if v.category = 2 → pl[i + 1]? = some none then some v else none
  | _ => none
def pm_pr (ρ : Nat → Nat) (fv : Value) (pl : pm_L) : List (Nat × Value) := (List.range pl.length).filterMap (fun i => (pm_vs pl i).map (fun v => (i, pm_rl ρ fv v)))
theorem pm_pr_mem {ρ : Nat → Nat} {fv : Value} {pl : pm_L} {i : Nat} {v : Value} (h : pl[i]? = some (some v)) (h2 : v.category = 2 → pl[i + 1]? = some none) : (i, pm_rl ρ fv v) ∈ pm_pr ρ fv pl := by
  refine List.mem_filterMap.mpr ⟨i, List.mem_range.mpr (List.getElem?_eq_some_iff.mp h).1, ?_⟩
  have : pm_vs pl i = some v := by
    unfold pm_vs
    rw [h]
    exact if_pos h2
  rw [this]
  rfl
theorem pm_LH.has {ρ : Nat → Nat} {fv : Value} {nL : Nat} {ls : Array Slot} {pl : pm_L} (h : pm_LH ρ fv nL ls pl) : lv_has ls nL (pm_pr ρ fv pl) := by
  refine ⟨h.1, h.2.2.1, fun q hq => ?_⟩
  obtain ⟨i, h1, h2⟩ := List.mem_filterMap.mp hq
  cases hv : pm_vs pl i with
  | none => rw [hv] at h2; cases h2
  | some v =>
    rw [hv] at h2
    cases h2
    unfold pm_vs at hv
    split at hv
    · rename_i w hw
      split at hv
      · rename_i hc
        cases hv
        exact h.2.2.2 i v hw hc
      · cases hv
    · cases hv
theorem pm_gd {pl : pm_L} {i : Nat} {v : Value} (hv : pl.getD i none = some v) : pl[i]? = some (some v) := by
  rw [List.getD_eq_getElem?_getD] at hv
  cases hp : pl[i]? with
  | none => rw [hp] at hv; cases hv
  | some o => rw [hp] at hv; exact congrArg some hv
theorem pm_gn {pl : pm_L} {i : Nat} (hv : pl.getD i (some .null) = none) : pl[i]? = some none := by
  rw [List.getD_eq_getElem?_getD] at hv
  cases hp : pl[i]? with
  | none => rw [hp] at hv; cases hv
  | some o => rw [hp] at hv; exact congrArg some hv
theorem pm_LH.get {ρ : Nat → Nat} {fv : Value} {nL : Nat} {ls : Array Slot} {pl : pm_L} {i : Nat} {v : Value} (h : pm_LH ρ fv nL ls pl) (hv : pl.getD i none = some v) (h2 : v.category = 2 → pl[i + 1]? = some none) : ls[i]? = some (.val (pm_rl ρ fv v)) := h.2.2.2 i v (pm_gd hv) h2
theorem pm_rl_cat {ρ : Nat → Nat} {fv : Value} (hfv : fv = .null ∨ ∃ t, fv = .ref t) (v : Value) : (pm_rl ρ fv v).category = v.category := by
  cases v <;> try rfl
  rename_i a
  show (if a = 204 then fv else Value.ref (ρ a)).category = 1
  by_cases e : a = 204
  · rw [if_pos e]
    rcases hfv with h | ⟨t, h⟩ <;> rw [h] <;> rfl
  · rw [if_neg e]; rfl
theorem pm_LH.st1 {ρ : Nat → Nat} {fv : Value} (hfv : fv = .null ∨ ∃ t, fv = .ref t) {nL : Nat} {ls ls' : Array Slot} {pl pl' : pm_L} {i : Nat} {v : Value} (h : pm_LH ρ fv nL ls pl) (hs : pm_st1 pl i v = some pl')
    (hl : lv_has ls' nL ((i, pm_rl ρ fv v) :: (pm_pr ρ fv pl).filter (fun q => !(q.1 == i) && !(q.1 + 1 == i && q.2.category == 2)))) : i < nL ∧ pm_LH ρ fv nL ls' pl' := by
  unfold pm_st1 at hs
  cases hb : Nat.blt i pl.length with
  | false => rw [hb] at hs; cases hs
  | true =>
    rw [hb] at hs
    cases hs
    have hi : i < pl.length := by simpa [Nat.blt_eq] using hb
    refine ⟨by rw [← h.2.1]; exact hi, hl.1, by rw [List.length_set]; exact h.2.1, hl.2.1, fun j w hj hc => ?_⟩
    refine hl.2.2 (j, pm_rl ρ fv w) ?_
    by_cases e : j = i
    · subst e
      rw [List.getElem?_set_self hi] at hj
      cases hj
      exact List.mem_cons_self
    · rw [List.getElem?_set_ne (Ne.symm e)] at hj
      have hne : w.category = 2 → j + 1 ≠ i := by
        intro h2 e2
        have := hc h2
        rw [e2, List.getElem?_set_self hi] at this
        cases this
      refine List.mem_cons_of_mem _ (List.mem_filter.mpr ⟨pm_pr_mem hj (fun h2 => ?_), ?_⟩)
      · have := hc h2
        rw [List.getElem?_set_ne (Ne.symm (hne h2))] at this
        exact this
      · simp only [Bool.and_eq_true, Bool.not_eq_true', beq_eq_false_iff_ne, ne_eq, Bool.and_eq_false_iff]
        refine ⟨e, ?_⟩
        by_cases e2 : w.category = 2
        · exact Or.inl (hne e2)
        · exact Or.inr (by rw [pm_rl_cat hfv]; exact e2)
theorem pm_LH.st2 {ρ : Nat → Nat} {fv : Value} (hfv : fv = .null ∨ ∃ t, fv = .ref t) {nL : Nat} {ls ls' : Array Slot} {pl pl' : pm_L} {i : Nat} {v : Value} (h : pm_LH ρ fv nL ls pl) (hs : pm_st2 pl i v = some pl')
    (hl : lv_has ls' nL ((i, pm_rl ρ fv v) :: (pm_pr ρ fv pl).filter (fun q => !(q.1 == i) && (!(q.1 == i + 1) && !(q.1 + 1 == i && q.2.category == 2))))) : i + 1 < nL ∧ pm_LH ρ fv nL ls' pl' := by
  unfold pm_st2 at hs
  cases hb : Nat.blt (i + 1) pl.length with
  | false => rw [hb] at hs; cases hs
  | true =>
    rw [hb] at hs
    cases hs
    have hi : i + 1 < pl.length := by simpa [Nat.blt_eq] using hb
    refine ⟨by rw [← h.2.1]; exact hi, hl.1, by rw [List.length_set, List.length_set]; exact h.2.1, hl.2.1, fun j w hj hc => ?_⟩
    refine hl.2.2 (j, pm_rl ρ fv w) ?_
    by_cases e1 : j = i + 1
    · subst e1
      rw [List.getElem?_set_self (by rw [List.length_set]; exact hi)] at hj
      cases hj
    · rw [List.getElem?_set_ne (Ne.symm e1)] at hj
      by_cases e : j = i
      · subst e
        rw [List.getElem?_set_self (by omega)] at hj
        cases hj
        exact List.mem_cons_self
      · rw [List.getElem?_set_ne (Ne.symm e)] at hj
        have hne : w.category = 2 → j + 1 ≠ i := by
          intro h2 e2
          have := hc h2
          rw [e2, List.getElem?_set_ne (by omega), List.getElem?_set_self (by omega)] at this
          cases this
        refine List.mem_cons_of_mem _ (List.mem_filter.mpr ⟨pm_pr_mem hj (fun h2 => ?_), ?_⟩)
        · have := hc h2
          rw [List.getElem?_set_ne (by omega), List.getElem?_set_ne (Ne.symm (hne h2))] at this
          exact this
        · simp only [Bool.and_eq_true, Bool.not_eq_true', beq_eq_false_iff_ne, ne_eq, Bool.and_eq_false_iff]
          refine ⟨e, e1, ?_⟩
          by_cases e2 : w.category = 2
          · exact Or.inl (hne e2)
          · exact Or.inr (by rw [pm_rl_cat hfv]; exact e2)
end
section
/-! ===== one instruction of the pure machine is one of the machine's ===== -/
def pm_kt (kd : Nat) (ty : FieldType) : Prop := match kd with
  | 0 => ty = .int
  | 1 => ty = .long
  | 2 => ty = .boolean
  | 3 => (∃ n, ty = .object n) ∨ ∃ t, ty = .array t
  | _ => False
/-- the tables are right -/
def pm_E1 (me : Nat → pm_Me) (Sg : Nat → pm_K) (cl : List vw_C) : Prop := (∀ mi q, q ∈ (me mi).2.2.2.2.2.2 → pm_chk cl me mi q = true) ∧ (∀ c C T N, cl[c]? = some (C, T, N) → ∃ ty : Nat → FieldType, (∀ w ∈ u_ws C T N, w ∈ pm_G) ∧ (∀ a, a < N → ∀ b, b < N → a ≠ b → (T a).2.1 ≠ (T b).2.1) ∧ (∀ k, k < N → parseFieldDescriptor (T k).2.2.1 = some (ty k)) ∧ ∀ r ks, Sg r = .inr (c, ks) → ks.length = N ∧ ∀ k, k < N → pm_kt (ks.getD k 9) (ty k)) ∧ (∀ r t n, Sg r = .inl (t, n) → t ≤ 3 → n < 100000)
/-- where a method stands -/
def pm_E2 (me : Nat → pm_Me) (mi : Nat) (p : Program) (s : State) (m : MethodId) (args : Array Value) (meth : Method) (c : Code) (R : Room) (D : va_G) (cl : List vw_C) (cA : Nat → ClassId) (Rt : pm_T) (ρ : Nat → Nat) (fv : Value) (base : Nat) (tx : String) (c0 : Nat) : Prop :=
  p.tables.exec = Jvm.exec ∧ c.code = (me mi).2.1 ∧ c.maxLocals = (me mi).2.2.1 ∧ s.vm.findClass (me mi).1.cls = some m.cls ∧ ((me mi).1.name = "<init>" → meth.name = "<init>") ∧ (∀ w ∈ pm_G, w.before args s = true) ∧ (me mi).2.2.2.2.1 ≤ R.frames ∧ (me mi).2.2.2.2.2.1 ≤ R.locals ∧ va_K D cl (pm_tys cA) s ∧ pm_Zf Rt ρ fv (fun q => base ≤ q) s s.heap ∧ pm_Nf tx ρ s ∧ s.heap.size = base + c0
def pm_E3 (Rt : pm_T) (ρ : Nat → Nat) (fv : Value) (base : Nat) : Prop := (∀ a, a < 200 → ρ a = base + a) ∧ (fv = .null ∨ ∃ t, fv = .ref t) ∧ ∀ r x, Rt r = some x → 200 ≤ r ∧ r ≠ 204 ∧ x.1 ≤ 3
def pm_I (D : va_G) (cl : List vw_C) (ρ : Nat → Nat) (fv : Value) (cA : Nat → ClassId) (Sg : Nat → pm_K) (base : Nat) (S : pm_S) (s : State) (H : Heap) (locs : List Loc) : Prop :=
  va_P D cl (pm_ws ρ fv cA Sg S) H ∧ va_S (fun q : Nat => base ≤ q) s.heap H locs ∧ S.1 ≤ 200
theorem pm_d_of {b : ByteArray} {pc nx n : Nat} {ins : Instr} (h : pm_d b pc ins nx n = true) : decode b pc = .ok (ins, n) ∧ nx = pc + n := by
  unfold pm_d at h
  rw [Bool.and_eq_true] at h
  exact ⟨of_decide_eq_true h.1, Nat.eq_of_beq_eq_true h.2⟩
theorem pm_n_inj {g : Bool} {pc pc' : Nat} {ls ls' : pm_L} {st st' : List Value} {S S' : pm_S} (h : pm_n g pc ls st S = some (true, .inl (pc', ls', st', S'))) : g = true ∧ pc = pc' ∧ ls = ls' ∧ st = st' ∧ S = S' := by
  unfold pm_n at h
  cases h
  exact ⟨rfl, rfl, rfl, rfl, rfl⟩
theorem pm_wn_of {w : Nat} {x : Cond} (h : pm_wn w x = true) : x ∈ lw_tbl := List.mem_of_getElem? (of_decide_eq_true h)
theorem pm_wk_of {w : Nat} {x : Cond} (h : pm_wk w x = true) : x ∈ pm_G := by
  unfold pm_wk at h
  rw [Bool.and_eq_true] at h
  exact List.mem_filter.mpr ⟨pm_wn_of h.1, h.2⟩
theorem pm_ib_of {i : Int32} {n : Nat} (h : pm_ib i n = true) : vp_in i n := by
  unfold pm_ib at h
  rw [Bool.and_eq_true] at h
  have h1 := of_decide_eq_false (Bool.not_eq_true' _ ▸ h.1)
  have h2 : i.toNatClampNeg < n := by simpa [Nat.blt_eq] using h.2
  rintro (q | q)
  · exact h1 q
  · omega
theorem pm_bf {a b : Nat} (h : a ≠ b) : Nat.beq a b = false := by
  cases hb : Nat.beq a b with
  | false => rfl
  | true => exact absurd (Nat.eq_of_beq_eq_true hb) h
theorem pm_bt (a : Nat) : Nat.beq a a = true := Nat.beq_refl a
theorem pm_tys_at {cA : Nat → ClassId} {t : Nat} (h : t ≤ 3) : (pm_tys cA)[t]? = some (cA t, pm_ty t) := by
  match t, h with
  | 0, _ => rfl
  | 1, _ => rfl
  | 2, _ => rfl
  | 3, _ => rfl
theorem pm_ss_mono (Sg : Nat → pm_K) : ∀ {a b : Nat}, a ≤ b → pm_ss Sg a ≤ pm_ss Sg b := by
  intro a b h
  induction h with
  | refl => exact Nat.le_refl _
  | step _ ih => exact Nat.le_trans ih (Nat.le_add_right _ _)
theorem pm_ci_off {f : Nat → Nat → Int32} {r j : Nat} (h : j ≠ r) : pm_ci f r j = f j := by
  funext b
  have : Nat.beq j r = false := by
    cases hb : Nat.beq j r with
    | false => rfl
    | true => exact absurd (Nat.eq_of_beq_eq_true hb) h
  simp [pm_ci, this]
theorem pm_cl_off {f : Nat → Nat → Int64} {r j : Nat} (h : j ≠ r) : pm_cl f r j = f j := by
  funext b
  have : Nat.beq j r = false := by
    cases hb : Nat.beq j r with
    | false => rfl
    | true => exact absurd (Nat.eq_of_beq_eq_true hb) h
  simp [pm_cl, this]
theorem pm_cg_off {f : Nat → Nat → Nat} {r j : Nat} (h : j ≠ r) : pm_cg f r j = f j := by
  funext b
  have : Nat.beq j r = false := by
    cases hb : Nat.beq j r with
    | false => rfl
    | true => exact absurd (Nat.eq_of_beq_eq_true hb) h
  simp [pm_cg, this]
theorem pm_ci_row {f : Nat → Nat → Int32} {r b : Nat} : pm_ci f r r b = 0 := by simp [pm_ci]
theorem pm_cl_row {f : Nat → Nat → Int64} {r b : Nat} : pm_cl f r r b = 0 := by simp [pm_cl]
theorem pm_cg_row {f : Nat → Nat → Nat} {r b : Nat} : pm_cg f r r b = 0 := by simp [pm_cg]
theorem pm_wd_sum (l : List Value) : (l.map (fun v => v.category)).sum = pm_wd l := by
  induction l with
  | nil => rfl
  | cons v vs ih => simp [pm_wd, ih]
theorem pm_getD_lt {α : Type} {l : List α} {k : Nat} {d : α} (h : k < l.length) : l.getD k d = l[k] := by
  rw [List.getD_eq_getElem?_getD, List.getElem?_eq_getElem h]
  rfl
theorem pm_ui_off {f : Nat → Nat → Int32} {r k j : Nat} {v : Int32} (h : j ≠ r) : pm_ui f r k v j = f j := by
  funext b
  simp [pm_ui, pm_bf h]
theorem pm_ui_row {f : Nat → Nat → Int32} {r k : Nat} {v : Int32} : pm_ui f r k v r = upd (f r) k v := by
  funext b
  by_cases h : b = k
  · subst h; simp [pm_ui, upd, pm_bt]
  · simp [pm_ui, upd, h, pm_bf h]
theorem pm_ul_off {f : Nat → Nat → Int64} {r k j : Nat} {v : Int64} (h : j ≠ r) : pm_ul f r k v j = f j := by
  funext b
  simp [pm_ul, pm_bf h]
theorem pm_ul_row {f : Nat → Nat → Int64} {r k : Nat} {v : Int64} : pm_ul f r k v r = vp_updL (f r) k v := by
  funext b
  by_cases h : b = k
  · subst h; simp [pm_ul, vp_updL, pm_bt]
  · simp [pm_ul, vp_updL, h, pm_bf h]
theorem pm_ug_off {f : Nat → Nat → Nat} {r k j : Nat} {v : Nat} (h : j ≠ r) : pm_ug f r k v j = f j := by
  funext b
  simp [pm_ug, pm_bf h]
theorem pm_b_ne {o : Nat} {x y : Int32} {t e : Nat} {ls : pm_L} {st : List Value} {S : pm_S} {g : Bool} {z} (h : pm_b o x y t e ls st S = some (g, .inl z)) : False := by unfold pm_b at h; cases h
theorem pm_w_ne {x : Int32} {d : Nat} {ts : List Nat} {ls : pm_L} {st : List Value} {S : pm_S} {g : Bool} {z} (h : pm_w x d ts ls st S = some (g, .inl z)) : False := by unfold pm_w at h; cases h
theorem pm_j_ne {mj : Nat} {as : List Value} {nx : Nat} {ls : pm_L} {st : List Value} {S : pm_S} {g : Bool} {z} (h : pm_j mj as nx ls st S = some (g, .inl z)) : False := by unfold pm_j at h; cases h
theorem pm_e_ne {b : Bool} {v : Option Value} {S : pm_S} {g : Bool} {z} (h : pm_e b v S = some (g, .inl z)) : False := by unfold pm_e at h; cases h
theorem pm_cond {b : Bool} {α : Type} {x : Option α} {z : α} (h : (bif b then x else none) = some z) : b = true ∧ x = some z := by
  cases b with
  | true => exact ⟨rfl, h⟩
  | false => cases h
theorem pm_fk_of {cl : List vw_C} {c k : Nat} {t : String × String × String × Bool} (h : pm_fk cl c k = some t) : ∃ C T N, cl[c]? = some (C, T, N) ∧ k < N ∧ (T k).1 = C ∧ t = T k := by
  unfold pm_fk at h
  split at h
  · rename_i C T N hc
    obtain ⟨h1, h2⟩ := pm_cond h
    rw [Bool.and_eq_true] at h1
    exact ⟨C, T, N, hc, by simpa [Nat.blt_eq] using h1.1, of_decide_eq_true h1.2, (Option.some.inj h2).symm⟩
  · cases h
theorem pm_fv_val {ρ : Nat → Nat} {fv : Value} {S : pm_S} {r k kd : Nat} {v : Value} (h : pm_fv S r k kd = some v) : pm_val ρ fv S r k kd = pm_rl ρ fv v ∧ kd < 4 := by
  unfold pm_fv at h
  split at h
  · cases h; exact ⟨rfl, by decide⟩
  · cases h; exact ⟨rfl, by decide⟩
  · cases h; exact ⟨rfl, by decide⟩
  · split at h
    · cases h
    · rename_i j hj
      cases h
      refine ⟨?_, by decide⟩
      show (match S.2.1 r k with | 0 => Value.null | j + 1 => pm_rl ρ fv (.ref j)) = _
      rw [hj]
  · cases h
theorem pm_cell_eq {ρ : Nat → Nat} {fv : Value} {cA : Nat → ClassId} {K : pm_K} {S S' : pm_S} {r : Nat} (h1 : S'.2.1 r = S.2.1 r) (h2 : S'.2.2.1 r = S.2.2.1 r) (h3 : S'.2.2.2 r = S.2.2.2 r) : pm_cell ρ fv cA K S' r = pm_cell ρ fv cA K S r := by
  have hv : ∀ k kd, pm_val ρ fv S' r k kd = pm_val ρ fv S r k kd := by
    intro k kd
    unfold pm_val
    rw [h1, h2, h3]
  have hc : ∀ t, pm_con S' r t = pm_con S r t := by
    intro t
    unfold pm_con
    rw [h2, h3]
  unfold pm_cell
  cases K with
  | inl q =>
    obtain ⟨t, n⟩ := q
    show Sum.inl (cA t, n, pm_con S' r t) = _
    rw [hc]
  | inr q => simp only [hv]
theorem pm_fields {ρ : Nat → Nat} {fv : Value} {S S' : pm_S} {r k : Nat} {ks : List Nat} {v : Value} (hk : k < ks.length) (hv : pm_val ρ fv S' r k (ks.getD k 9) = v) (ho : ∀ j kd, j ≠ k → pm_val ρ fv S' r j kd = pm_val ρ fv S r j kd) :
    (ks.mapIdx (fun k kd => pm_val ρ fv S r k kd)).set k v = ks.mapIdx (fun k kd => pm_val ρ fv S' r k kd) := by
  apply List.ext_getElem?
  intro j
  by_cases e : j = k
  · subst e
    rw [List.getElem?_set_self (by rw [List.length_mapIdx]; exact hk), List.getElem?_mapIdx, ← hv]
    simp [List.getElem?_eq_getElem hk, List.getD]
  · rw [List.getElem?_set_ne (Ne.symm e), List.getElem?_mapIdx, List.getElem?_mapIdx]
    cases ks[j]? with
    | none => rfl
    | some kd => simp only [Option.map_some, ho j kd e]
theorem pm_P_push {D : va_G} {cl : List vw_C} {ρ : Nat → Nat} {fv : Value} {cA : Nat → ClassId} {Sg : Nat → pm_K} {S S' : pm_S} {H H1 : Heap} (hP : va_P D cl (pm_ws ρ fv cA Sg S) H) (ho : ∀ q, q < H.size → H1[q]? = H[q]?) (hn : S'.1 = S.1 + 1) (hrow : ∀ k, k < S.1 → pm_cell ρ fv cA (Sg k) S' k = pm_cell ρ fv cA (Sg k) S k) (hnew : va_at D cl (ρ S.1, pm_cell ρ fv cA (Sg S.1) S' S.1) H1) : va_P D cl (pm_ws ρ fv cA Sg S') H1 := by
  intro k q hk
  obtain ⟨h1, rfl⟩ := pm_ws_mem hk
  by_cases e : k = S.1
  · subst e; exact hnew
  · have hk' : k < S.1 := by omega
    rw [hrow k hk']
    have h2 := hP k _ (pm_ws_at hk')
    exact h2.kept (ho _ h2.lt)
theorem pm_val_new_0 {ρ : Nat → Nat} {fv : Value} {S : pm_S} {r k : Nat} {x : Int32} : pm_val ρ fv (S.1, S.2.1, pm_ui S.2.2.1 r k x, S.2.2.2) r k 0 = .int x := by
  show Value.int (pm_ui S.2.2.1 r k x r k) = _
  simp [pm_ui]
theorem pm_val_new_2 {ρ : Nat → Nat} {fv : Value} {S : pm_S} {r k : Nat} {x : Int32} : pm_val ρ fv (S.1, S.2.1, pm_ui S.2.2.1 r k x, S.2.2.2) r k 2 = .int x := by
  show Value.int (pm_ui S.2.2.1 r k x r k) = _
  simp [pm_ui]
theorem pm_val_new_1 {ρ : Nat → Nat} {fv : Value} {S : pm_S} {r k : Nat} {x : Int64} : pm_val ρ fv (S.1, S.2.1, S.2.2.1, pm_ul S.2.2.2 r k x) r k 1 = .long x := by
  show Value.long (pm_ul S.2.2.2 r k x r k) = _
  simp [pm_ul]
theorem pm_val_new_3 {ρ : Nat → Nat} {fv : Value} {S : pm_S} {r k z : Nat} : pm_val ρ fv (S.1, pm_ug S.2.1 r k (z + 1), S.2.2.1, S.2.2.2) r k 3 = pm_rl ρ fv (.ref z) := by
  show (match pm_ug S.2.1 r k (z + 1) r k with | 0 => Value.null | j + 1 => pm_rl ρ fv (.ref j)) = _
  simp [pm_ug]
theorem pm_val_off_i {ρ : Nat → Nat} {fv : Value} {S : pm_S} {r k j kd : Nat} {x : Int32} (h : j ≠ k) : pm_val ρ fv (S.1, S.2.1, pm_ui S.2.2.1 r k x, S.2.2.2) r j kd = pm_val ρ fv S r j kd := by
  have e : pm_ui S.2.2.1 r k x r j = S.2.2.1 r j := by simp [pm_ui, pm_bf h]
  unfold pm_val
  dsimp only
  rw [e]
theorem pm_val_off_l {ρ : Nat → Nat} {fv : Value} {S : pm_S} {r k j kd : Nat} {x : Int64} (h : j ≠ k) : pm_val ρ fv (S.1, S.2.1, S.2.2.1, pm_ul S.2.2.2 r k x) r j kd = pm_val ρ fv S r j kd := by
  have e : pm_ul S.2.2.2 r k x r j = S.2.2.2 r j := by simp [pm_ul, pm_bf h]
  unfold pm_val
  dsimp only
  rw [e]
theorem pm_val_off_g {ρ : Nat → Nat} {fv : Value} {S : pm_S} {r k j kd z : Nat} (h : j ≠ k) : pm_val ρ fv (S.1, pm_ug S.2.1 r k z, S.2.2.1, S.2.2.2) r j kd = pm_val ρ fv S r j kd := by
  have e : pm_ug S.2.1 r k z r j = S.2.1 r j := by simp [pm_ug, pm_bf h]
  unfold pm_val
  dsimp only
  rw [e]
theorem pm_nz (x : Int32) (h : x &&& 1 = x) : narrow .boolean (.int x) = .int x := by
  show Value.int _ = _
  first | exact congrArg Value.int h | (simp [narrow, h])
theorem pm_fz (x : Int32) (h : x &&& 1 = x) : fits .boolean (.int x) = true := by
  have h1 : x.toBitVec.toNat &&& 1 = x.toBitVec.toNat := by
    have := congrArg (fun y : Int32 => y.toBitVec.toNat) h
    simpa using this
  have h2 : x.toBitVec.toNat < 2 := by
    rw [← h1]
    exact Nat.lt_of_le_of_lt Nat.and_le_right (by decide)
  have : x = 0 ∨ x = 1 := by
    rcases (show x.toBitVec.toNat = 0 ∨ x.toBitVec.toNat = 1 by omega) with h3 | h3
    · exact Or.inl (Int32.toBitVec_inj.mp (BitVec.eq_of_toNat_eq h3))
    · exact Or.inr (Int32.toBitVec_inj.mp (BitVec.eq_of_toNat_eq h3))
  rcases this with h | h <;> rw [h] <;> rfl
section
variable {p : Program} {l : Launch} {e : Env} {R : Room} {s : State} {m : MethodId} {args : Array Value} {below : List Frame} {meth : Method} {c : Code} {Q : State → Prop}
variable {me : Nat → pm_Me} {Sg : Nat → pm_K} {Rt : pm_T} {cl : List vw_C} {D : va_G} {cA : Nat → ClassId} {ρ : Nat → Nat} {fv : Value} {base : Nat} {tx : String} {mi c0 : Nat}
/-- how large the heap is -/
theorem pm_siz {S : pm_S} {H : Heap} {locs : List Loc} {sl : Nat} {g : JFrame} (hρ : ∀ a, a < 200 → ρ a = base + a) (hs : s.heap.size = base + c0) (hc0 : c0 ≤ S.1) (hI : pm_I D cl ρ fv cA Sg base S s H locs)
    (k : H.size = base + S.1 → W p l e R s m args below meth c H locs (S.1 - c0) sl Q g) : W p l e R s m args below meth c H locs (S.1 - c0) sl Q g := by
  intro T hT X
  refine k ?_ T hT X
  obtain ⟨-, h1, h2, -⟩ := X.same
  have h3 : (T.setVm s.vm).heap = H := hT
  rw [h3] at h1 h2
  obtain ⟨hP, hS, hn⟩ := hI
  by_cases e : S.1 = 0
  · omega
  · have h4 := (hP _ _ (pm_ws_at (r := S.1 - 1) (by omega))).lt
    have h5 : ρ (S.1 - 1) < H.size := h4
    rw [hρ _ (by omega)] at h5
    omega
set_option maxHeartbeats 4000000 in
theorem pm_next (h1 : pm_E1 me Sg cl) (h2 : pm_E2 me mi p s m args meth c R D cl cA Rt ρ fv base tx c0) (h3 : pm_E3 Rt ρ fv base) {q : pm_Q} (hq : pm_chk cl me mi q = true) {pl pl' : pm_L} {st st' : List Value} {S S' : pm_S} {pc' : Nat}
    (h : pm_x Sg Rt (me mi).2.2.2.1 q pl st S = some (true, .inl (pc', pl', st', S'))) {H : Heap} {locs : List Loc} {ls : Array Slot} (hc0 : c0 ≤ S.1) (hI : pm_I D cl ρ fv cA Sg base S s H locs) (hL : pm_LH ρ fv (me mi).2.2.1 ls pl) (hR1 : S'.1 - c0 ≤ R.cells) (hR2 : pm_ss Sg S'.1 - pm_ss Sg c0 ≤ R.slots)
    (kk : ∀ (H' : Heap) (locs' : List Loc) (ls' : Array Slot), pm_I D cl ρ fv cA Sg base S' s H' locs' → pm_LH ρ fv (me mi).2.2.1 ls' pl' → W p l e R s m args below meth c H' locs' (S'.1 - c0) (pm_ss Sg S'.1 - pm_ss Sg c0) Q (F0 m pc' ls' (st'.map (pm_rl ρ fv)))) :
    W p l e R s m args below meth c H locs (S.1 - c0) (pm_ss Sg S.1 - pm_ss Sg c0) Q (F0 m q.1 ls (st.map (pm_rl ρ fv))) := by
  obtain ⟨hx, hb, hml, hown, hmn, hts, hfr, hlo, hK, hZ, hN, hsz⟩ := h2
  obtain ⟨hρ, hfv, hRt⟩ := h3
  obtain ⟨pc, ins, nx, w, xs, ci, cj⟩ := q
  show W p l e R s m args below meth c H locs (S.1 - c0) (pm_ss Sg S.1 - pm_ss Sg c0) Q (F0 m pc ls (st.map (pm_rl ρ fv)))
  obtain ⟨hP, hS, hn2⟩ := id hI
  have hD := pm_ws_D (fv := fv) (cA := cA) (Sg := Sg) hρ hn2
  have hrl : ∀ r, r < S.1 → pm_rl ρ fv (.ref r) = .ref (ρ r) := fun r hr => by
    show (if r = 204 then fv else Value.ref (ρ r)) = _
    rw [if_neg (by omega)]
  cases ins
  case iload_n n =>
    simp only [pm_chk, Bool.and_eq_true] at hq
    obtain ⟨hd0, hi⟩ := hq
    obtain ⟨hd, rfl⟩ := pm_d_of hd0
    simp only [pm_x] at h
    split at h
    · rename_i x hx'
      obtain ⟨-, rfl, rfl, rfl, rfl⟩ := pm_n_inj h
      exact lv_iload_n hx hb hd (Nat.eq_of_beq_eq_true hi) (hL.get hx' (fun h => by cases h)) (kk H locs ls hI hL)
    · cases h
  case lload_n n =>
    simp only [pm_chk, Bool.and_eq_true] at hq
    obtain ⟨hd0, hi⟩ := hq
    obtain ⟨hd, rfl⟩ := pm_d_of hd0
    simp only [pm_x] at h
    split at h
    · rename_i x hx'
      split at h
      · rename_i hx2
        obtain ⟨-, rfl, rfl, rfl, rfl⟩ := pm_n_inj h
        exact lv_lload_n hx hb hd (Nat.eq_of_beq_eq_true hi) (hL.get hx' (fun _ => pm_gn hx2)) (kk H locs ls hI hL)
      · cases h
    · cases h
  case aload_n n =>
    simp only [pm_chk, Bool.and_eq_true] at hq
    obtain ⟨hd0, hi⟩ := hq
    obtain ⟨hd, rfl⟩ := pm_d_of hd0
    simp only [pm_x] at h
    split at h
    · rename_i x hx'
      cases h204 : Nat.beq x 204 with
      | true => rw [h204] at h; cases h
      | false =>
        rw [h204] at h
        obtain ⟨-, rfl, rfl, rfl, rfl⟩ := pm_n_inj h
        have hne : pm_rl ρ fv (.ref x) = .ref (ρ x) := by
          show (if x = 204 then fv else Value.ref (ρ x)) = _
          rw [if_neg (Nat.ne_of_beq_eq_false h204)]
        have g1 := hL.get hx' (fun h => by cases h)
        rw [hne] at g1
        have g2 := kk H locs ls hI hL
        rw [List.map_cons, hne] at g2
        exact lv_aload_n hx hb hd (Nat.eq_of_beq_eq_true hi) g1 g2
    · cases h
  case lload n =>
    simp only [pm_chk, Bool.and_eq_true] at hq
    obtain ⟨hd0, hi⟩ := hq
    obtain ⟨hd, rfl⟩ := pm_d_of hd0
    have hi := Nat.eq_of_beq_eq_true hi
    subst hi
    simp only [pm_x] at h
    split at h
    · rename_i x hx'
      split at h
      · rename_i hx2
        obtain ⟨-, rfl, rfl, rfl, rfl⟩ := pm_n_inj h
        exact lv_lload hx hb hd (hL.get hx' (fun _ => pm_gn hx2)) (kk H locs ls hI hL)
      · cases h
    · cases h
  case iload n =>
    simp only [pm_chk, Bool.and_eq_true] at hq
    obtain ⟨hd0, hi⟩ := hq
    obtain ⟨hd, rfl⟩ := pm_d_of hd0
    have hi := Nat.eq_of_beq_eq_true hi
    subst hi
    simp only [pm_x] at h
    split at h
    · rename_i x hx'
      obtain ⟨-, rfl, rfl, rfl, rfl⟩ := pm_n_inj h
      exact lv_iload hx hb hd (hL.get hx' (fun h => by cases h)) (kk H locs ls hI hL)
    · cases h
  case aload n =>
    simp only [pm_chk, Bool.and_eq_true] at hq
    obtain ⟨hd0, hi⟩ := hq
    obtain ⟨hd, rfl⟩ := pm_d_of hd0
    have hi := Nat.eq_of_beq_eq_true hi
    subst hi
    simp only [pm_x] at h
    split at h
    · rename_i x hx'
      cases h204 : Nat.beq x 204 with
      | true => rw [h204] at h; cases h
      | false =>
        rw [h204] at h
        obtain ⟨-, rfl, rfl, rfl, rfl⟩ := pm_n_inj h
        have hne : pm_rl ρ fv (.ref x) = .ref (ρ x) := by
          show (if x = 204 then fv else Value.ref (ρ x)) = _
          rw [if_neg (Nat.ne_of_beq_eq_false h204)]
        have g1 := hL.get hx' (fun h => by cases h)
        rw [hne] at g1
        have g2 := kk H locs ls hI hL
        rw [List.map_cons, hne] at g2
        exact lv_aload hx hb hd g1 g2
    · cases h
  case istore_n n =>
    simp only [pm_chk, Bool.and_eq_true] at hq
    obtain ⟨hd0, hi⟩ := hq
    obtain ⟨hd, rfl⟩ := pm_d_of hd0
    simp only [pm_x] at h
    split at h
    · rename_i x r
      split at h
      · rename_i ls2 hs
        obtain ⟨-, rfl, rfl, rfl, rfl⟩ := pm_n_inj h
        have hlt : xs.getD 0 0 < (me mi).2.2.1 := by
          unfold pm_st1 at hs
          rw [← hL.2.1]
          cases hb2 : Nat.blt (xs.getD 0 0) pl.length with
          | true => simpa [Nat.blt_eq] using hb2
          | false => rw [hb2] at hs; cases hs
        exact lv_istore_n hx hb hd (Nat.eq_of_beq_eq_true hi) hL.has hlt rfl (fun ls' hl => kk H locs ls' hI (hL.st1 hfv hs hl).2)
      · cases h
    · cases h
  case lstore_n n =>
    simp only [pm_chk, Bool.and_eq_true] at hq
    obtain ⟨hd0, hi⟩ := hq
    obtain ⟨hd, rfl⟩ := pm_d_of hd0
    simp only [pm_x] at h
    split at h
    · rename_i x r
      split at h
      · rename_i ls2 hs
        obtain ⟨-, rfl, rfl, rfl, rfl⟩ := pm_n_inj h
        have hlt : xs.getD 0 0 + 1 < (me mi).2.2.1 := by
          unfold pm_st2 at hs
          rw [← hL.2.1]
          cases hb2 : Nat.blt (xs.getD 0 0 + 1) pl.length with
          | true => simpa [Nat.blt_eq] using hb2
          | false => rw [hb2] at hs; cases hs
        exact lv_lstore_n hx hb hd (Nat.eq_of_beq_eq_true hi) hL.has hlt rfl (fun ls' hl => kk H locs ls' hI (hL.st2 hfv hs hl).2)
      · cases h
    · cases h
  case istore n =>
    simp only [pm_chk, Bool.and_eq_true] at hq
    obtain ⟨hd0, hi⟩ := hq
    obtain ⟨hd, rfl⟩ := pm_d_of hd0
    have hi := Nat.eq_of_beq_eq_true hi
    subst hi
    simp only [pm_x] at h
    split at h
    · rename_i x r
      split at h
      · rename_i ls2 hs
        obtain ⟨-, rfl, rfl, rfl, rfl⟩ := pm_n_inj h
        have hlt : xs.getD 0 0 < (me mi).2.2.1 := by
          unfold pm_st1 at hs
          rw [← hL.2.1]
          cases hb2 : Nat.blt (xs.getD 0 0) pl.length with
          | true => simpa [Nat.blt_eq] using hb2
          | false => rw [hb2] at hs; cases hs
        exact lv_istore hx hb hd  hL.has hlt rfl (fun ls' hl => kk H locs ls' hI (hL.st1 hfv hs hl).2)
      · cases h
    · cases h
  case lstore n =>
    simp only [pm_chk, Bool.and_eq_true] at hq
    obtain ⟨hd0, hi⟩ := hq
    obtain ⟨hd, rfl⟩ := pm_d_of hd0
    have hi := Nat.eq_of_beq_eq_true hi
    subst hi
    simp only [pm_x] at h
    split at h
    · rename_i x r
      split at h
      · rename_i ls2 hs
        obtain ⟨-, rfl, rfl, rfl, rfl⟩ := pm_n_inj h
        have hlt : xs.getD 0 0 + 1 < (me mi).2.2.1 := by
          unfold pm_st2 at hs
          rw [← hL.2.1]
          cases hb2 : Nat.blt (xs.getD 0 0 + 1) pl.length with
          | true => simpa [Nat.blt_eq] using hb2
          | false => rw [hb2] at hs; cases hs
        exact lv_lstore hx hb hd  hL.has hlt rfl (fun ls' hl => kk H locs ls' hI (hL.st2 hfv hs hl).2)
      · cases h
    · cases h
  case astore_n n =>
    simp only [pm_chk, Bool.and_eq_true] at hq
    obtain ⟨hd0, hi⟩ := hq
    obtain ⟨hd, rfl⟩ := pm_d_of hd0
    simp only [pm_x] at h
    split at h
    · rename_i x r
      cases h204 : Nat.beq x 204 with
      | true => rw [h204] at h; cases h
      | false =>
        rw [h204] at h
        simp only [cond_false] at h
        split at h
        · rename_i ls2 hs
          obtain ⟨-, rfl, rfl, rfl, rfl⟩ := pm_n_inj h
          have hne : pm_rl ρ fv (.ref x) = .ref (ρ x) := by
            show (if x = 204 then fv else Value.ref (ρ x)) = _
            rw [if_neg (Nat.ne_of_beq_eq_false h204)]
          have hlt : xs.getD 0 0 < (me mi).2.2.1 := by
            unfold pm_st1 at hs
            rw [← hL.2.1]
            cases hb2 : Nat.blt (xs.getD 0 0) pl.length with
            | true => simpa [Nat.blt_eq] using hb2
            | false => rw [hb2] at hs; cases hs
          rw [List.map_cons, hne]
          exact lv_astore_n hx hb hd (Nat.eq_of_beq_eq_true hi) hL.has hlt rfl (fun ls' hl => kk H locs ls' hI (hL.st1 hfv hs (by rw [hne]; exact hl)).2)
        · cases h
    · cases h
  case astore n =>
    simp only [pm_chk, Bool.and_eq_true] at hq
    obtain ⟨hd0, hi⟩ := hq
    obtain ⟨hd, rfl⟩ := pm_d_of hd0
    have hi := Nat.eq_of_beq_eq_true hi
    subst hi
    simp only [pm_x] at h
    split at h
    · rename_i x r
      cases h204 : Nat.beq x 204 with
      | true => rw [h204] at h; cases h
      | false =>
        rw [h204] at h
        simp only [cond_false] at h
        split at h
        · rename_i ls2 hs
          obtain ⟨-, rfl, rfl, rfl, rfl⟩ := pm_n_inj h
          have hne : pm_rl ρ fv (.ref x) = .ref (ρ x) := by
            show (if x = 204 then fv else Value.ref (ρ x)) = _
            rw [if_neg (Nat.ne_of_beq_eq_false h204)]
          have hlt : xs.getD 0 0 < (me mi).2.2.1 := by
            unfold pm_st1 at hs
            rw [← hL.2.1]
            cases hb2 : Nat.blt (xs.getD 0 0) pl.length with
            | true => simpa [Nat.blt_eq] using hb2
            | false => rw [hb2] at hs; cases hs
          rw [List.map_cons, hne]
          exact lv_astore hx hb hd  hL.has hlt rfl (fun ls' hl => kk H locs ls' hI (hL.st1 hfv hs (by rw [hne]; exact hl)).2)
        · cases h
    · cases h
  case iinc i n =>
    simp only [pm_chk, Bool.and_eq_true] at hq
    obtain ⟨hd0, hi, hcv⟩ := hq
    obtain ⟨hd, rfl⟩ := pm_d_of hd0
    have hi := Nat.eq_of_beq_eq_true hi
    subst hi
    have hcv := of_decide_eq_true hcv
    subst hcv
    simp only [pm_x] at h
    split at h
    · rename_i x hx'
      split at h
      · rename_i ls2 hs
        obtain ⟨-, rfl, rfl, rfl, rfl⟩ := pm_n_inj h
        have hlt : xs.getD 0 0 < (me mi).2.2.1 := by
          unfold pm_st1 at hs
          rw [← hL.2.1]
          cases hb2 : Nat.blt (xs.getD 0 0) pl.length with
          | true => simpa [Nat.blt_eq] using hb2
          | false => rw [hb2] at hs; cases hs
        have hmem : (xs.getD 0 0, Value.int x) ∈ pm_pr ρ fv pl := by
          exact pm_pr_mem (v := .int x) (pm_gd hx') (fun h => by cases h)
        obtain ⟨k, hk⟩ := List.getElem?_of_mem hmem
        exact lv_iinc hx hb hd hL.has hk rfl hlt rfl (fun ls' hl => kk H locs ls' hI (hL.st1 hfv hs hl).2)
      · cases h
    · cases h
  case iconst n =>
    simp only [pm_chk, Bool.and_eq_true] at hq
    obtain ⟨hd0, hcv⟩ := hq
    obtain ⟨hd, rfl⟩ := pm_d_of hd0
    have hcv := of_decide_eq_true hcv
    simp only [pm_x] at h
    obtain ⟨-, rfl, rfl, rfl, rfl⟩ := pm_n_inj h
    exact lv_iconst hx hb hd hcv (kk H locs ls hI hL)
  case bipush n =>
    simp only [pm_chk, Bool.and_eq_true] at hq
    obtain ⟨hd0, hcv⟩ := hq
    obtain ⟨hd, rfl⟩ := pm_d_of hd0
    have hcv := of_decide_eq_true hcv
    simp only [pm_x] at h
    obtain ⟨-, rfl, rfl, rfl, rfl⟩ := pm_n_inj h
    exact lv_bipush hx hb hd hcv (kk H locs ls hI hL)
  case sipush n =>
    simp only [pm_chk, Bool.and_eq_true] at hq
    obtain ⟨hd0, hcv⟩ := hq
    obtain ⟨hd, rfl⟩ := pm_d_of hd0
    have hcv := of_decide_eq_true hcv
    simp only [pm_x] at h
    obtain ⟨-, rfl, rfl, rfl, rfl⟩ := pm_n_inj h
    exact lv_sipush hx hb hd hcv (kk H locs ls hI hL)
  case ldc_w idx =>
    simp only [pm_chk, Bool.and_eq_true] at hq
    obtain ⟨hd0, hcv⟩ := hq
    obtain ⟨hd, rfl⟩ := pm_d_of hd0
    simp only [pm_x] at h
    obtain ⟨-, rfl, rfl, rfl, rfl⟩ := pm_n_inj h
    exact lv_ldcw hx hb hown (hts _ (pm_wk_of hcv)) hd (kk H locs ls hI hL)
  case ldc idx =>
    simp only [pm_chk, Bool.and_eq_true] at hq
    obtain ⟨hd0, hcv⟩ := hq
    obtain ⟨hd, rfl⟩ := pm_d_of hd0
    simp only [pm_x] at h
    split at h
    · obtain ⟨-, rfl, rfl, rfl, rfl⟩ := pm_n_inj h
      exact lv_ldc hx hb hown (hts _ (pm_wk_of hcv)) hd (kk H locs ls hI hL)
    · rename_i r t
      obtain ⟨-, rfl, rfl, rfl, rfl⟩ := pm_n_inj h
      simp only [Bool.and_eq_true] at hcv
      obtain ⟨g1, g2, g3⟩ := hcv
      have g1 := Nat.eq_of_beq_eq_true g1
      have g3 := Nat.eq_of_beq_eq_true g3
      subst g1
      subst g3
      exact va_ldcS hx hb (of_decide_eq_true g2 ▸ hown) hN.2 hd (kk H locs ls hI hL)
  case lconst n =>
    simp only [pm_chk, Bool.and_eq_true] at hq
    obtain ⟨hd0, hcv⟩ := hq
    obtain ⟨hd, rfl⟩ := pm_d_of hd0
    simp only [pm_x] at h
    obtain ⟨-, rfl, rfl, rfl, rfl⟩ := pm_n_inj h
    exact lv_lconst hx hb hd (of_decide_eq_true hcv) (kk H locs ls hI hL)
  case ldc2_w idx =>
    simp only [pm_chk, Bool.and_eq_true] at hq
    obtain ⟨hd0, hcv⟩ := hq
    obtain ⟨hd, rfl⟩ := pm_d_of hd0
    simp only [pm_x] at h
    obtain ⟨-, rfl, rfl, rfl, rfl⟩ := pm_n_inj h
    exact lv_ldc2 hx hb hown (hts _ (pm_wk_of hcv)) hd (kk H locs ls hI hL)
  case iadd =>
    obtain ⟨hd, rfl⟩ := pm_d_of (show pm_d _ _ _ _ 1 = true from hq)
    simp only [pm_x] at h
    split at h
    · obtain ⟨hg, rfl, rfl, rfl, rfl⟩ := pm_n_inj h
      exact lv_iadd hx hb hd (kk H locs ls hI hL)
    · cases h
  case isub =>
    obtain ⟨hd, rfl⟩ := pm_d_of (show pm_d _ _ _ _ 1 = true from hq)
    simp only [pm_x] at h
    split at h
    · obtain ⟨hg, rfl, rfl, rfl, rfl⟩ := pm_n_inj h
      exact lv_isub hx hb hd (kk H locs ls hI hL)
    · cases h
  case imul =>
    obtain ⟨hd, rfl⟩ := pm_d_of (show pm_d _ _ _ _ 1 = true from hq)
    simp only [pm_x] at h
    split at h
    · obtain ⟨hg, rfl, rfl, rfl, rfl⟩ := pm_n_inj h
      exact lv_imul hx hb hd (kk H locs ls hI hL)
    · cases h
  case iand =>
    obtain ⟨hd, rfl⟩ := pm_d_of (show pm_d _ _ _ _ 1 = true from hq)
    simp only [pm_x] at h
    split at h
    · obtain ⟨hg, rfl, rfl, rfl, rfl⟩ := pm_n_inj h
      exact lv_iand hx hb hd (kk H locs ls hI hL)
    · cases h
  case ior =>
    obtain ⟨hd, rfl⟩ := pm_d_of (show pm_d _ _ _ _ 1 = true from hq)
    simp only [pm_x] at h
    split at h
    · obtain ⟨hg, rfl, rfl, rfl, rfl⟩ := pm_n_inj h
      exact lv_ior hx hb hd (kk H locs ls hI hL)
    · cases h
  case ixor =>
    obtain ⟨hd, rfl⟩ := pm_d_of (show pm_d _ _ _ _ 1 = true from hq)
    simp only [pm_x] at h
    split at h
    · obtain ⟨hg, rfl, rfl, rfl, rfl⟩ := pm_n_inj h
      exact lv_ixor hx hb hd (kk H locs ls hI hL)
    · cases h
  case ishl =>
    obtain ⟨hd, rfl⟩ := pm_d_of (show pm_d _ _ _ _ 1 = true from hq)
    simp only [pm_x] at h
    split at h
    · obtain ⟨hg, rfl, rfl, rfl, rfl⟩ := pm_n_inj h
      exact lv_ishl hx hb hd (kk H locs ls hI hL)
    · cases h
  case ishr =>
    obtain ⟨hd, rfl⟩ := pm_d_of (show pm_d _ _ _ _ 1 = true from hq)
    simp only [pm_x] at h
    split at h
    · obtain ⟨hg, rfl, rfl, rfl, rfl⟩ := pm_n_inj h
      exact lv_ishr hx hb hd (kk H locs ls hI hL)
    · cases h
  case ineg =>
    obtain ⟨hd, rfl⟩ := pm_d_of (show pm_d _ _ _ _ 1 = true from hq)
    simp only [pm_x] at h
    split at h
    · obtain ⟨hg, rfl, rfl, rfl, rfl⟩ := pm_n_inj h
      exact lv_ineg hx hb hd (kk H locs ls hI hL)
    · cases h
  case ladd =>
    obtain ⟨hd, rfl⟩ := pm_d_of (show pm_d _ _ _ _ 1 = true from hq)
    simp only [pm_x] at h
    split at h
    · obtain ⟨hg, rfl, rfl, rfl, rfl⟩ := pm_n_inj h
      exact lv_ladd hx hb hd (kk H locs ls hI hL)
    · cases h
  case lmul =>
    obtain ⟨hd, rfl⟩ := pm_d_of (show pm_d _ _ _ _ 1 = true from hq)
    simp only [pm_x] at h
    split at h
    · obtain ⟨hg, rfl, rfl, rfl, rfl⟩ := pm_n_inj h
      exact lv_lmul hx hb hd (kk H locs ls hI hL)
    · cases h
  case land =>
    obtain ⟨hd, rfl⟩ := pm_d_of (show pm_d _ _ _ _ 1 = true from hq)
    simp only [pm_x] at h
    split at h
    · obtain ⟨hg, rfl, rfl, rfl, rfl⟩ := pm_n_inj h
      exact lv_land hx hb hd (kk H locs ls hI hL)
    · cases h
  case lor =>
    obtain ⟨hd, rfl⟩ := pm_d_of (show pm_d _ _ _ _ 1 = true from hq)
    simp only [pm_x] at h
    split at h
    · obtain ⟨hg, rfl, rfl, rfl, rfl⟩ := pm_n_inj h
      exact lv_lor hx hb hd (kk H locs ls hI hL)
    · cases h
  case lcmp =>
    obtain ⟨hd, rfl⟩ := pm_d_of (show pm_d _ _ _ _ 1 = true from hq)
    simp only [pm_x] at h
    split at h
    · obtain ⟨hg, rfl, rfl, rfl, rfl⟩ := pm_n_inj h
      exact W.lcmp hx hb hd (kk H locs ls hI hL)
    · cases h
  case idiv =>
    obtain ⟨hd, rfl⟩ := pm_d_of (show pm_d _ _ _ _ 1 = true from hq)
    simp only [pm_x] at h
    split at h
    · obtain ⟨hg, rfl, rfl, rfl, rfl⟩ := pm_n_inj h
      exact lv_idiv hx hb hd (by simpa using hg) (kk H locs ls hI hL)
    · cases h
  case iushr =>
    obtain ⟨hd, rfl⟩ := pm_d_of (show pm_d _ _ _ _ 1 = true from hq)
    simp only [pm_x] at h
    split at h
    · obtain ⟨hg, rfl, rfl, rfl, rfl⟩ := pm_n_inj h
      exact lv_iushr hx hb hd rfl (kk H locs ls hI hL)
    · cases h
  case lshl =>
    obtain ⟨hd, rfl⟩ := pm_d_of (show pm_d _ _ _ _ 1 = true from hq)
    simp only [pm_x] at h
    split at h
    · obtain ⟨hg, rfl, rfl, rfl, rfl⟩ := pm_n_inj h
      exact lv_lshl hx hb hd rfl (kk H locs ls hI hL)
    · cases h
  case lushr =>
    obtain ⟨hd, rfl⟩ := pm_d_of (show pm_d _ _ _ _ 1 = true from hq)
    simp only [pm_x] at h
    split at h
    · obtain ⟨hg, rfl, rfl, rfl, rfl⟩ := pm_n_inj h
      exact lv_lushr hx hb hd rfl (kk H locs ls hI hL)
    · cases h
  case i2l =>
    obtain ⟨hd, rfl⟩ := pm_d_of (show pm_d _ _ _ _ 1 = true from hq)
    simp only [pm_x] at h
    split at h
    · obtain ⟨hg, rfl, rfl, rfl, rfl⟩ := pm_n_inj h
      exact lv_i2l hx hb hd rfl (kk H locs ls hI hL)
    · cases h
  case l2i =>
    obtain ⟨hd, rfl⟩ := pm_d_of (show pm_d _ _ _ _ 1 = true from hq)
    simp only [pm_x] at h
    split at h
    · obtain ⟨hg, rfl, rfl, rfl, rfl⟩ := pm_n_inj h
      exact lv_l2i hx hb hd rfl (kk H locs ls hI hL)
    · cases h
  case i2b =>
    obtain ⟨hd, rfl⟩ := pm_d_of (show pm_d _ _ _ _ 1 = true from hq)
    simp only [pm_x] at h
    split at h
    · obtain ⟨hg, rfl, rfl, rfl, rfl⟩ := pm_n_inj h
      exact lv_i2b hx hb hd rfl (kk H locs ls hI hL)
    · cases h
  case i2c =>
    obtain ⟨hd, rfl⟩ := pm_d_of (show pm_d _ _ _ _ 1 = true from hq)
    simp only [pm_x] at h
    split at h
    · obtain ⟨hg, rfl, rfl, rfl, rfl⟩ := pm_n_inj h
      exact lv_i2c hx hb hd rfl (kk H locs ls hI hL)
    · cases h
  case pop =>
    obtain ⟨hd, rfl⟩ := pm_d_of (show pm_d _ _ _ _ 1 = true from hq)
    simp only [pm_x] at h
    split at h
    · obtain ⟨hg, rfl, rfl, rfl, rfl⟩ := pm_n_inj h
      exact lv_pop hx hb hd rfl (kk H locs ls hI hL)
    · cases h
  case dup2 =>
    obtain ⟨hd, rfl⟩ := pm_d_of (show pm_d _ _ _ _ 1 = true from hq)
    simp only [pm_x] at h
    split at h
    · obtain ⟨hg, rfl, rfl, rfl, rfl⟩ := pm_n_inj h
      exact lv_dup2_11 hx hb hd rfl (pm_rl_cat hfv (.ref _)) (kk H locs ls hI hL)
    · cases h
  case dup =>
    obtain ⟨hd, rfl⟩ := pm_d_of (show pm_d _ _ _ _ 1 = true from hq)
    simp only [pm_x] at h
    split at h
    · obtain ⟨hg, rfl, rfl, rfl, rfl⟩ := pm_n_inj h
      exact lv_dup hx hb hd rfl (kk H locs ls hI hL)
    · obtain ⟨hg, rfl, rfl, rfl, rfl⟩ := pm_n_inj h
      exact lv_dup hx hb hd (pm_rl_cat hfv (.ref _)) (kk H locs ls hI hL)
    · cases h
  case goto o =>
    simp only [pm_chk, Bool.and_eq_true] at hq
    obtain ⟨hd0, ht⟩ := hq
    obtain ⟨hd, rfl⟩ := pm_d_of hd0
    simp only [pm_x] at h
    obtain ⟨hg, rfl, rfl, rfl, rfl⟩ := pm_n_inj h
    exact lv_goto hx hb hd (of_decide_eq_true ht) (kk H locs ls hI (hL.clr _))
  case getstatic idx =>
    simp only [pm_chk, Bool.and_eq_true] at hq
    obtain ⟨hd0, ht⟩ := hq
    obtain ⟨hd, rfl⟩ := pm_d_of hd0
    simp only [pm_x] at h
    split at h
    · rename_i hk
      obtain ⟨hg, rfl, rfl, rfl, rfl⟩ := pm_n_inj h
      rw [hk] at ht
      exact va_gets hx hb hZ.1 hS hown (hts _ (pm_wk_of ht)) (fun _ h => h) hd (kk H locs ls hI hL)
    · rename_i hk
      obtain ⟨hg, rfl, rfl, rfl, rfl⟩ := pm_n_inj h
      rw [hk] at ht
      exact va_gets hx hb hZ.2.1 hS hown (hts _ (pm_wk_of ht)) (fun _ h => h) hd (kk H locs ls hI hL)
    · rename_i hk
      obtain ⟨hg, rfl, rfl, rfl, rfl⟩ := pm_n_inj h
      rw [hk] at ht
      exact va_gets hx hb hZ.2.2.1 hS hown (hts _ (pm_wk_of ht)) (fun _ h => h) hd (kk H locs ls hI hL)
    · cases h
  case iaload =>
    obtain ⟨hd, rfl⟩ := pm_d_of (show pm_d _ _ _ _ 1 = true from hq)
    simp only [pm_x] at h
    split at h
    · rename_i i r rest
      cases hbl : Nat.blt r S.1 with
      | true =>
        rw [hbl] at h
        simp only [cond_true] at h
        have hr : r < S.1 := by simpa [Nat.blt_eq] using hbl
        split at h
        · rename_i n hs
          obtain ⟨hg, rfl, rfl, rfl, rfl⟩ := pm_n_inj h
          rw [List.map_cons, List.map_cons, hrl r hr]
          have hc2 : pm_cell ρ fv cA (Sg r) S r = .inl (cA 0, n, .inl (S.2.2.1 r)) := by rw [hs]; rfl
          exact va_iald hx hb hK hP r 0 (by rw [pm_ws_at hr, hc2]) rfl (pm_ib_of hg) hd (kk H locs ls hI hL)
        · cases h
      | false =>
        rw [hbl] at h
        simp only [cond_false] at h
        split at h
        · rename_i n f hs
          obtain ⟨hg, rfl, rfl, rfl, rfl⟩ := pm_n_inj h
          have hr : pm_rl ρ fv (.ref r) = .ref (ρ r) := by
            show (if r = 204 then fv else Value.ref (ρ r)) = _
            rw [if_neg (hRt _ _ hs).2.1]
          rw [List.map_cons, List.map_cons, hr]
          exact va_ti hx hb (hZ.2.2.2.2.2.2 _ _ _ _ hs) hS (pm_ib_of hg) rfl hd (kk H locs ls hI hL)
        · cases h
    · cases h
  case baload =>
    obtain ⟨hd, rfl⟩ := pm_d_of (show pm_d _ _ _ _ 1 = true from hq)
    simp only [pm_x] at h
    split at h
    · rename_i i r rest
      cases hbl : Nat.blt r S.1 with
      | true =>
        rw [hbl] at h
        simp only [cond_true] at h
        have hr : r < S.1 := by simpa [Nat.blt_eq] using hbl
        split at h
        · rename_i n hs
          obtain ⟨hg, rfl, rfl, rfl, rfl⟩ := pm_n_inj h
          rw [List.map_cons, List.map_cons, hrl r hr]
          have hc2 : pm_cell ρ fv cA (Sg r) S r = .inl (cA 2, n, .inl (S.2.2.1 r)) := by rw [hs]; rfl
          exact va_bald hx hb hK hP r 2 (by rw [pm_ws_at hr, hc2]) rfl (pm_ib_of hg) hd (kk H locs ls hI hL)
        · rename_i n hs
          obtain ⟨hg, rfl, rfl, rfl, rfl⟩ := pm_n_inj h
          rw [List.map_cons, List.map_cons, hrl r hr]
          have hc2 : pm_cell ρ fv cA (Sg r) S r = .inl (cA 3, n, .inl (S.2.2.1 r)) := by rw [hs]; rfl
          exact va_zald hx hb hK hP r 3 (by rw [pm_ws_at hr, hc2]) rfl (pm_ib_of hg) hd (kk H locs ls hI hL)
        · cases h
      | false =>
        rw [hbl] at h
        simp only [cond_false] at h
        split at h
        · rename_i n f hs
          obtain ⟨hg, rfl, rfl, rfl, rfl⟩ := pm_n_inj h
          have hr : pm_rl ρ fv (.ref r) = .ref (ρ r) := by
            show (if r = 204 then fv else Value.ref (ρ r)) = _
            rw [if_neg (hRt _ _ hs).2.1]
          rw [List.map_cons, List.map_cons, hr]
          exact va_tb hx hb (hZ.2.2.2.2.2.2 _ _ _ _ hs) hS (pm_ib_of hg) rfl hd (kk H locs ls hI hL)
        · cases h
    · cases h
  case laload =>
    obtain ⟨hd, rfl⟩ := pm_d_of (show pm_d _ _ _ _ 1 = true from hq)
    simp only [pm_x] at h
    split at h
    · rename_i i r rest
      cases hbl : Nat.blt r S.1 with
      | true =>
        rw [hbl] at h
        simp only [cond_true] at h
        have hr : r < S.1 := by simpa [Nat.blt_eq] using hbl
        split at h
        · rename_i n hs
          obtain ⟨hg, rfl, rfl, rfl, rfl⟩ := pm_n_inj h
          rw [List.map_cons, List.map_cons, hrl r hr]
          have hc2 : pm_cell ρ fv cA (Sg r) S r = .inl (cA 1, n, .inr (.inl (S.2.2.2 r))) := by rw [hs]; rfl
          exact va_lald hx hb hK hP r 1 (by rw [pm_ws_at hr, hc2]) rfl (pm_ib_of hg) hd (kk H locs ls hI hL)
        · cases h
      | false => rw [hbl] at h; cases h
    · cases h
  case iastore =>
    obtain ⟨hd, rfl⟩ := pm_d_of (show pm_d _ _ _ _ 1 = true from hq)
    simp only [pm_x] at h
    split at h
    · rename_i x i r rest
      replace h := pm_cond h
      obtain ⟨hbl, h⟩ := h
      have hr : r < S.1 := by simpa [Nat.blt_eq] using hbl
      split at h
      · rename_i n hs
        obtain ⟨hg, rfl, rfl, rfl, rfl⟩ := pm_n_inj h
        rw [List.map_cons, List.map_cons, List.map_cons, hrl r hr]
        have hc2 : pm_cell ρ fv cA (Sg r) S r = .inl (cA 0, n, .inl (S.2.2.1 r)) := by rw [hs]; rfl
        refine va_iast hx hb hK hP hD hS r 0 (by rw [pm_ws_at hr, hc2]) rfl (pm_ib_of hg) hd (fun H1 locs1 hP1 hD1 hS1 => ?_)
        refine kk H1 locs1 ls ⟨?_, hS1, hn2⟩ hL
        have e := pm_ws_set (ρ := ρ) (fv := fv) (cA := cA) (Sg := Sg) (S := S) (S' := (S.1, S.2.1, pm_ui S.2.2.1 r i.toNatClampNeg x, S.2.2.2)) rfl hr (fun k hk hne => pm_cell_eq rfl (pm_ui_off hne) rfl)
        have e2 : pm_cell ρ fv cA (Sg r) (S.1, S.2.1, pm_ui S.2.2.1 r i.toNatClampNeg x, S.2.2.2) r = .inl (cA 0, n, .inl (upd (S.2.2.1 r) i.toNatClampNeg x)) := by
          rw [hs]
          show Sum.inl (cA 0, n, Sum.inl (pm_ui S.2.2.1 r i.toNatClampNeg x r)) = _
          rw [pm_ui_row]
        rw [e2] at e
        rw [← e]
        exact hP1
      · cases h
    · cases h
  case bastore =>
    obtain ⟨hd, rfl⟩ := pm_d_of (show pm_d _ _ _ _ 1 = true from hq)
    simp only [pm_x] at h
    split at h
    · rename_i x i r rest
      replace h := pm_cond h
      obtain ⟨hbl, h⟩ := h
      have hr : r < S.1 := by simpa [Nat.blt_eq] using hbl
      split at h
      · rename_i n hs
        obtain ⟨hg, rfl, rfl, rfl, rfl⟩ := pm_n_inj h
        rw [List.map_cons, List.map_cons, List.map_cons, hrl r hr]
        have hc2 : pm_cell ρ fv cA (Sg r) S r = .inl (cA 2, n, .inl (S.2.2.1 r)) := by rw [hs]; rfl
        refine va_bast hx hb hK hP hD hS r 2 (by rw [pm_ws_at hr, hc2]) rfl (pm_ib_of hg) hd (fun H1 locs1 hP1 hD1 hS1 => ?_)
        refine kk H1 locs1 ls ⟨?_, hS1, hn2⟩ hL
        have e := pm_ws_set (ρ := ρ) (fv := fv) (cA := cA) (Sg := Sg) (S := S) (S' := (S.1, S.2.1, pm_ui S.2.2.1 r i.toNatClampNeg (vp_nar .byte x), S.2.2.2)) rfl hr (fun k hk hne => pm_cell_eq rfl (pm_ui_off hne) rfl)
        have e2 : pm_cell ρ fv cA (Sg r) (S.1, S.2.1, pm_ui S.2.2.1 r i.toNatClampNeg (vp_nar .byte x), S.2.2.2) r = .inl (cA 2, n, .inl (upd (S.2.2.1 r) i.toNatClampNeg (vp_nar .byte x))) := by
          rw [hs]
          show Sum.inl (cA 2, n, Sum.inl (pm_ui S.2.2.1 r i.toNatClampNeg (vp_nar .byte x) r)) = _
          rw [pm_ui_row]
        rw [e2] at e
        rw [← e]
        exact hP1
      · rename_i n hs
        obtain ⟨hg, rfl, rfl, rfl, rfl⟩ := pm_n_inj h
        rw [List.map_cons, List.map_cons, List.map_cons, hrl r hr]
        have hc2 : pm_cell ρ fv cA (Sg r) S r = .inl (cA 3, n, .inl (S.2.2.1 r)) := by rw [hs]; rfl
        refine va_zast hx hb hK hP hD hS r 3 (by rw [pm_ws_at hr, hc2]) rfl (pm_ib_of hg) hd (fun H1 locs1 hP1 hD1 hS1 => ?_)
        refine kk H1 locs1 ls ⟨?_, hS1, hn2⟩ hL
        have e := pm_ws_set (ρ := ρ) (fv := fv) (cA := cA) (Sg := Sg) (S := S) (S' := (S.1, S.2.1, pm_ui S.2.2.1 r i.toNatClampNeg (vp_nar .boolean x), S.2.2.2)) rfl hr (fun k hk hne => pm_cell_eq rfl (pm_ui_off hne) rfl)
        have e2 : pm_cell ρ fv cA (Sg r) (S.1, S.2.1, pm_ui S.2.2.1 r i.toNatClampNeg (vp_nar .boolean x), S.2.2.2) r = .inl (cA 3, n, .inl (upd (S.2.2.1 r) i.toNatClampNeg (vp_nar .boolean x))) := by
          rw [hs]
          show Sum.inl (cA 3, n, Sum.inl (pm_ui S.2.2.1 r i.toNatClampNeg (vp_nar .boolean x) r)) = _
          rw [pm_ui_row]
        rw [e2] at e
        rw [← e]
        exact hP1
      · cases h
    · cases h
  case lastore =>
    obtain ⟨hd, rfl⟩ := pm_d_of (show pm_d _ _ _ _ 1 = true from hq)
    simp only [pm_x] at h
    split at h
    · rename_i x i r rest
      replace h := pm_cond h
      obtain ⟨hbl, h⟩ := h
      have hr : r < S.1 := by simpa [Nat.blt_eq] using hbl
      split at h
      · rename_i n hs
        obtain ⟨hg, rfl, rfl, rfl, rfl⟩ := pm_n_inj h
        rw [List.map_cons, List.map_cons, List.map_cons, hrl r hr]
        have hc2 : pm_cell ρ fv cA (Sg r) S r = .inl (cA 1, n, .inr (.inl (S.2.2.2 r))) := by rw [hs]; rfl
        refine va_last hx hb hK hP hD hS r 1 (by rw [pm_ws_at hr, hc2]) rfl (pm_ib_of hg) hd (fun H1 locs1 hP1 hD1 hS1 => ?_)
        refine kk H1 locs1 ls ⟨?_, hS1, hn2⟩ hL
        have e := pm_ws_set (ρ := ρ) (fv := fv) (cA := cA) (Sg := Sg) (S := S) (S' := (S.1, S.2.1, S.2.2.1, pm_ul S.2.2.2 r i.toNatClampNeg x)) rfl hr (fun k hk hne => pm_cell_eq rfl rfl (pm_ul_off hne))
        have e2 : pm_cell ρ fv cA (Sg r) (S.1, S.2.1, S.2.2.1, pm_ul S.2.2.2 r i.toNatClampNeg x) r = .inl (cA 1, n, .inr (.inl (vp_updL (S.2.2.2 r) i.toNatClampNeg x))) := by
          rw [hs]
          show Sum.inl (cA 1, n, Sum.inr (Sum.inl (pm_ul S.2.2.2 r i.toNatClampNeg x r))) = _
          rw [pm_ul_row]
        rw [e2] at e
        rw [← e]
        exact hP1
      · cases h
    · cases h
  case arraylength =>
    obtain ⟨hd, rfl⟩ := pm_d_of (show pm_d _ _ _ _ 1 = true from hq)
    simp only [pm_x] at h
    split at h
    · rename_i r rest
      cases hbl : Nat.blt r S.1 with
      | true =>
        rw [hbl] at h
        simp only [cond_true] at h
        have hr : r < S.1 := by simpa [Nat.blt_eq] using hbl
        split at h
        · rename_i t n hs
          replace h := pm_cond h
          obtain ⟨ht3, h⟩ := h
          obtain ⟨hg, rfl, rfl, rfl, rfl⟩ := pm_n_inj h
          rw [List.map_cons, hrl r hr]
          have hc2 : pm_cell ρ fv cA (Sg r) S r = .inl (cA t, n, pm_con S r t) := by rw [hs]; rfl
          exact va_alen (x := (n, pm_con S r t)) hx hb hK hP r t (by rw [pm_ws_at hr, hc2]) (pm_tys_at (Nat.le_of_ble_eq_true ht3)) rfl hd (kk H locs ls hI hL)
        · cases h
      | false =>
        rw [hbl] at h
        simp only [cond_false] at h
        split at h
        · rename_i t n f hs
          obtain ⟨hg, rfl, rfl, rfl, rfl⟩ := pm_n_inj h
          have hr : pm_rl ρ fv (.ref r) = .ref (ρ r) := by
            show (if r = 204 then fv else Value.ref (ρ r)) = _
            rw [if_neg (hRt _ _ hs).2.1]
          rw [List.map_cons, hr]
          exact va_tlen hx hb (hZ.2.2.2.2.2.2 _ _ _ _ hs) hS rfl hd (kk H locs ls hI hL)
        · cases h
    · cases h
  case getfield idx =>
    simp only [pm_chk, Bool.and_eq_true] at hq
    obtain ⟨hd0, hcv⟩ := hq
    obtain ⟨hd, rfl⟩ := pm_d_of hd0
    simp only [pm_x] at h
    split at h
    · rename_i r rest
      cases htg : Nat.ble (xs.getD 0 9) 1 with
      | true =>
        rw [htg] at h
        simp only [cond_true] at h
        replace h := pm_cond h
        obtain ⟨hbl, h⟩ := h
        have hr : r < S.1 := by simpa [Nat.blt_eq] using hbl
        split at h
        · rename_i c2 ks hs
          replace h := pm_cond h
          obtain ⟨hce, h⟩ := h
          have hce := Nat.eq_of_beq_eq_true hce
          subst hce
          split at h
          · rename_i v hv
            obtain ⟨-, rfl, rfl, rfl, rfl⟩ := pm_n_inj h
            obtain ⟨hval, hkd⟩ := pm_fv_val (ρ := ρ) (fv := fv) hv
            have hkl : xs.getD 2 0 < ks.length := by
              apply Decidable.byContradiction
              intro hn
              rw [List.getD_eq_getElem?_getD, List.getElem?_eq_none (by omega)] at hkd
              exact absurd hkd (by decide)
            have hf2 : (ks.mapIdx (fun k kd => pm_val ρ fv S r k kd))[xs.getD 2 0]? = some (pm_rl ρ fv v) := by
              rw [List.getElem?_mapIdx, ← hval, pm_getD_lt hkl, List.getElem?_eq_getElem hkl]
              rfl
            have hat : (pm_ws ρ fv cA Sg S)[r]? = some (ρ r, .inr (xs.getD 1 0, ks.mapIdx (fun k kd => pm_val ρ fv S r k kd))) := by
              rw [pm_ws_at hr, hs]
              rfl
            rw [List.map_cons, hrl r hr]
            have htag : xs.getD 0 9 = 0 ∨ xs.getD 0 9 = 1 := by
              have := Nat.le_of_ble_eq_true htg
              omega
            rcases htag with ht | ht
            · rw [ht] at hcv
              simp only at hcv
              split at hcv
              · rename_i t hfk
                obtain ⟨C, T, N, hcl, hkN, hT1, rfl⟩ := pm_fk_of hfk
                obtain ⟨ty, hin, hnm, hty, -⟩ := h1.2.1 _ _ _ _ hcl
                simp only [pm_flk] at hcv
                exact va_get hx hb hts hin hown hK hP r hat hcl (xs.getD 2 0) hkN (hts _ (pm_wk_of hcv)) (fun _ h => h) hf2 hd (kk H locs ls hI hL)
              · cases hcv
            · rw [ht] at hcv
              simp only at hcv
              split at hcv
              · rename_i t hfk
                obtain ⟨C, T, N, hcl, hkN, hT1, rfl⟩ := pm_fk_of hfk
                obtain ⟨ty, hin, hnm, hty, -⟩ := h1.2.1 _ _ _ _ hcl
                simp only [pm_flk] at hcv
                exact va_getN hx hb hts hin hown hK hP r hat hcl (xs.getD 2 0) hkN (va_Nw.use rfl (hN.1 _ (pm_wn_of hcv) rfl)) (fun _ h => h) hf2 hd (kk H locs ls hI hL)
              · cases hcv
          · cases h
        · cases h
      | false =>
        rw [htg] at h
        simp only [cond_false] at h
        replace h := pm_cond h
        obtain ⟨hre, h⟩ := h
        have hre := Nat.eq_of_beq_eq_true hre
        subst hre
        have hr : pm_rl ρ fv (.ref 201) = .ref (ρ 201) := rfl
        split at h
        · rename_i ht
          rw [ht] at hcv
          obtain ⟨-, rfl, rfl, rfl, rfl⟩ := pm_n_inj h
          exact vk_getf hx hb hZ.2.2.2.2.1 hS hown (hts _ (pm_wk_of hcv)) (fun _ h => h) hd (kk H locs ls hI hL)
        · rename_i ht
          rw [ht] at hcv
          obtain ⟨-, rfl, rfl, rfl, rfl⟩ := pm_n_inj h
          exact vk_getf hx hb hZ.2.2.2.1 hS hown (hts _ (pm_wk_of hcv)) (fun _ h => h) hd (kk H locs ls hI hL)
        · cases h
    · cases h
  case newarray a =>
    simp only [pm_chk, Bool.and_eq_true] at hq
    obtain ⟨hd0, hw, hty0, ht3⟩ := hq
    obtain ⟨hd, rfl⟩ := pm_d_of hd0
    have hty0 := of_decide_eq_true hty0
    have ht3 := Nat.le_of_ble_eq_true ht3
    simp only [pm_x] at h
    split at h
    · rename_i n rest
      split at h
      · rename_i t w2 hs
        replace h := pm_cond h
        obtain ⟨hg1, h⟩ := h
        rw [Bool.and_eq_true] at hg1
        have ht := Nat.eq_of_beq_eq_true hg1.1
        have h200 : S.1 < 200 := by simpa [Nat.blt_eq] using hg1.2
        obtain ⟨hg, rfl, rfl, rfl, rfl⟩ := pm_n_inj h
        have hn := of_decide_eq_true hg
        rw [← ht] at hty0 ht3
        have hwl : w2 < 100000 := h1.2.2 _ _ _ hs ht3
        refine pm_siz hρ hsz hc0 hI fun hz => ?_
        have hss : pm_ss Sg (S.1 + 1) = pm_ss Sg S.1 + w2 := by
          show pm_ss Sg S.1 + pm_sz (Sg S.1) = _
          rw [hs]
          rfl
        have hmono := pm_ss_mono Sg hc0
        dsimp only at hR1 hR2
        rw [hss] at hR2
        refine va_newaK (N := w2) hx hb (hts _ (pm_wk_of hw)) rfl hd rfl (by rw [hn]; exact nI_pos (by omega)) (by rw [hn]; exact nI_clamp (by omega)) (by rw [hty0]; have : componentBytes (pm_ty t) ≤ 8 := (by match t, ht3 with | 0, _ => decide | 1, _ => decide | 2, _ => decide | 3, _ => decide); calc w2 * componentBytes (pm_ty t) ≤ 100000 * 8 := Nat.mul_le_mul (by omega) this
            _ ≤ _ := by decide) (by omega) (by omega) hz (fun H1 cA2 e1 z1 o1 hAr hnm => ?_)
        have hcA : cA2 = cA t := by
          have g2 := (hK.2 t _ (pm_tys_at ht3)).2
          rw [hty0] at hnm
          have g3 : s.vm.findClass ("[" ++ (pm_ty t).toString) = some (cA t) := by
            match t, ht3, g2 with
            | 0, _, g2 => exact g2
            | 1, _, g2 => exact g2
            | 2, _, g2 => exact g2
            | 3, _, g2 => exact g2
          exact Option.some.inj (hnm.symm.trans g3)
        subst hcA
        have hk := kk H1 locs ls ⟨pm_P_push hP (fun q hq => o1 q (by omega)) rfl (fun k hk => pm_cell_eq (pm_cg_off (by omega)) (pm_ci_off (by omega)) (pm_cl_off (by omega))) ?_, ⟨Nat.le_trans hS.1 (by omega), fun x g1 g2 => (o1 x (by have := hS.1; omega)).trans (hS.2.1 x g1 g2), hS.2.2⟩, by show S.1 + 1 ≤ 200; omega⟩ hL
        · have er : pm_rl ρ fv (.ref S.1) = .ref (base + S.1) := by
            show (if S.1 = 204 then fv else Value.ref (ρ S.1)) = _
            rw [if_neg (by omega), hρ _ h200]
          rw [List.map_cons, er] at hk
          dsimp only at hk
          rw [hss] at hk
          rw [show S.1 - c0 + 1 = S.1 + 1 - c0 by omega, show pm_ss Sg S.1 - pm_ss Sg c0 + w2 = pm_ss Sg S.1 + w2 - pm_ss Sg c0 by omega]
          exact hk
        · rw [hs, hρ _ h200]
          show H1[base + S.1]? = some (vp_cell (cA t) (w2, _))
          rw [e1, hty0]
          match t, ht3 with
          | 0, _ =>
            show some (arrV (cA 0) w2 (fun _ => Value.int 0)) = some (arrV (cA 0) w2 (fun j => Value.int (pm_ci S.2.2.1 S.1 S.1 j)))
            simp only [pm_ci_row]
          | 1, _ =>
            show some (arrV (cA 1) w2 (fun _ => Value.long 0)) = some (arrV (cA 1) w2 (fun j => Value.long (pm_cl S.2.2.2 S.1 S.1 j)))
            simp only [pm_cl_row]
          | 2, _ =>
            show some (arrV (cA 2) w2 (fun _ => Value.int 0)) = some (arrV (cA 2) w2 (fun j => Value.int (pm_ci S.2.2.1 S.1 S.1 j)))
            simp only [pm_ci_row]
          | 3, _ =>
            show some (arrV (cA 3) w2 (fun _ => Value.int 0)) = some (arrV (cA 3) w2 (fun j => Value.int (pm_ci S.2.2.1 S.1 S.1 j)))
            simp only [pm_ci_row]
      · cases h
    · cases h
  case new idx =>
    simp only [pm_chk, Bool.and_eq_true] at hq
    obtain ⟨hd0, hq⟩ := hq
    obtain ⟨hd, rfl⟩ := pm_d_of hd0
    simp only [pm_x] at h
    split at h
    · rename_i c2 ks hs
      replace h := pm_cond h
      obtain ⟨hg1, h⟩ := h
      rw [Bool.and_eq_true] at hg1
      have hc2 := Nat.eq_of_beq_eq_true hg1.1
      have h200 : S.1 < 200 := by simpa [Nat.blt_eq] using hg1.2
      obtain ⟨hg, rfl, rfl, rfl, rfl⟩ := pm_n_inj h
      subst hc2
      split at hq
      · rename_i C T N hcl
        simp only [Bool.and_eq_true] at hq
        obtain ⟨q1, q2, q3⟩ := hq
        obtain ⟨ty, hin, hnm, hty, hkt⟩ := h1.2.1 _ _ _ _ hcl
        obtain ⟨hlen, hkt⟩ := hkt _ _ hs
        refine pm_siz hρ hsz hc0 hI fun hz => ?_
        have hss : pm_ss Sg (S.1 + 1) = pm_ss Sg S.1 + N := by
          show pm_ss Sg S.1 + pm_sz (Sg S.1) = _
          rw [hs, ← hlen]
          rfl
        have hmono := pm_ss_mono Sg hc0
        dsimp only at hR1 hR2
        rw [hss] at hR2
        have hKn := hK.1 _ _ hcl
        refine W.newcK hx hb hown (hts _ (pm_wk_of q1)) (hts _ (pm_wk_of q2)) (hts _ (pm_wk_of q3)) rfl hd (by omega) (by omega) hKn.2.1 hz (fun H1 kC hkC e1 z1 o1 => ?_)
        have hk := kk H1 locs ls ⟨pm_P_push hP (fun q hq => o1 q (by omega)) rfl (fun k hk => pm_cell_eq (pm_cg_off (by omega)) (pm_ci_off (by omega)) (pm_cl_off (by omega))) ?_, ⟨Nat.le_trans hS.1 (by omega), fun x g1 g2 => (o1 x (by have := hS.1; omega)).trans (hS.2.1 x g1 g2), hS.2.2⟩, by show S.1 + 1 ≤ 200; omega⟩ hL
        · have er : pm_rl ρ fv (.ref S.1) = .ref (base + S.1) := by
            show (if S.1 = 204 then fv else Value.ref (ρ S.1)) = _
            rw [if_neg (by omega), hρ _ h200]
          rw [List.map_cons, er] at hk
          dsimp only at hk
          rw [hss] at hk
          rw [show S.1 - c0 + 1 = S.1 + 1 - c0 by omega, show pm_ss Sg S.1 - pm_ss Sg c0 + N = pm_ss Sg S.1 + N - pm_ss Sg c0 by omega]
          exact hk
        · rw [hs, hρ _ h200]
          refine ⟨_, hcl, (u_born ty hts hin hKn hkC e1 hty).to fun j hj => ?_⟩
          have hjk : j < ks.length := by omega
          show _ = List.getD (List.mapIdx _ ks) j Value.null
          rw [List.getD_eq_getElem?_getD, List.getElem?_mapIdx, List.getElem?_eq_getElem hjk]
          have g := hkt j hj
          rw [List.getD_eq_getElem?_getD, List.getElem?_eq_getElem hjk] at g
          simp only [Option.getD_some, Option.map_some] at g ⊢
          match hkd : ks[j], g with
          | 0, g => rw [show ty j = .int from g]; exact congrArg Value.int pm_ci_row.symm
          | 1, g => rw [show ty j = .long from g]; exact congrArg Value.long pm_cl_row.symm
          | 2, g => rw [show ty j = .boolean from g]; exact congrArg Value.int pm_ci_row.symm
          | 3, g =>
            have e0 : pm_val ρ fv (S.1 + 1, pm_cg S.2.1 S.1, pm_ci S.2.2.1 S.1, pm_cl S.2.2.2 S.1) S.1 j 3 = .null := by
              show (match pm_cg S.2.1 S.1 S.1 j with | 0 => Value.null | j + 1 => pm_rl ρ fv (.ref j)) = _
              rw [pm_cg_row]
            rw [e0]
            rcases (show (∃ n, ty j = .object n) ∨ ∃ t, ty j = .array t from g) with ⟨n, hn⟩ | ⟨n, hn⟩ <;> rw [hn] <;> rfl
          | (n + 4), g => exact absurd g (by intro h; exact h)
      · cases hq
    · cases h
  case invokespecial idx =>
    simp only [pm_chk, Bool.and_eq_true] at hq
    obtain ⟨hd0, hq⟩ := hq
    obtain ⟨hd, rfl⟩ := pm_d_of hd0
    simp only [pm_x] at h
    split at h
    · split at h
      · rename_i r rest
        replace h := pm_cond h
        obtain ⟨hg1, h⟩ := h
        rw [Bool.and_eq_true] at hg1
        have hr : r < S.1 := by simpa [Nat.blt_eq] using hg1.1
        obtain ⟨hg, rfl, rfl, rfl, rfl⟩ := pm_n_inj h
        simp only [Bool.and_eq_true] at hq
        obtain ⟨q1, q2, q3, q4, q5⟩ := hq
        rw [List.map_cons, hrl r hr]
        have hsize : ls.size = c.maxLocals := hL.1.trans hml.symm
        have hwd : (rest.map (pm_rl ρ fv)).map (fun v => v.category) = rest.map (fun v => v.category) := by
          rw [List.map_map]
          exact List.map_congr_left fun v _ => pm_rl_cat hfv v
        have hwd2 := pm_wd_sum rest
        have h8 := Nat.le_of_ble_eq_true hg1.2
        have q4 := Nat.le_of_ble_eq_true q4
        have q5 := Nat.le_of_ble_eq_true q5
        have hmr : 2 * (F0 m pc ls (Value.ref (ρ r) :: rest.map (pm_rl ρ fv))).monitorRoom + ((rest.map (pm_rl ρ fv)).map fun v => v.category).sum ≤ 8 := lv_room (by rw [hwd, hwd2]; exact h8)
        exact W.objInit hx hb hown (hts _ (pm_wk_of q1)) (hts _ (List.contains_iff_mem.mp q2)) (hts _ (List.contains_iff_mem.mp q3)) rfl hsize rfl hd (Nat.le_trans q4 hfr) (by omega) (kk H locs ls hI hL)
      · cases h
    · unfold pm_callI at h
      split at h
      · replace h := pm_cond h
        obtain ⟨-, h⟩ := h
        exact (pm_j_ne h).elim
      · cases h
  case invokevirtual idx =>
    simp only [pm_x] at h
    unfold pm_callV at h
    split at h
    · replace h := pm_cond h
      obtain ⟨-, h⟩ := h
      exact (pm_j_ne h).elim
    · cases h
  case invokestatic idx =>
    simp only [pm_x] at h
    unfold pm_call at h
    split at h
    · replace h := pm_cond h
      obtain ⟨-, h⟩ := h
      exact (pm_j_ne h).elim
    · cases h
  case tableswitch d lo hi offs =>
    simp only [pm_x] at h
    split at h
    · exact (pm_w_ne h).elim
    · cases h
  case ifCond cnd o => cases cnd <;> (simp only [pm_x] at h; split at h <;> first | exact (pm_b_ne h).elim | cases h)
  case if_icmp cnd o => cases cnd <;> (simp only [pm_x] at h; split at h <;> first | exact (pm_b_ne h).elim | cases h)
  case ireturn =>
    simp only [pm_x] at h
    split at h
    · split at h <;> first | exact (pm_e_ne h).elim | cases h
    · cases h
  case lreturn =>
    simp only [pm_x] at h
    split at h
    · split at h <;> first | exact (pm_e_ne h).elim | cases h
    · cases h
  case return_ =>
    simp only [pm_x] at h
    split at h
    · split at h <;> first | exact (pm_e_ne h).elim | cases h
    · cases h
  case putfield idx =>
    simp only [pm_chk, Bool.and_eq_true] at hq
    obtain ⟨hd0, hq⟩ := hq
    obtain ⟨hd, rfl⟩ := pm_d_of hd0
    split at hq
    · rename_i t hfk
      obtain ⟨C, T, N, hcl, hkN, hT1, rfl⟩ := pm_fk_of hfk
      obtain ⟨ty, hin, hnm, hty, hkt⟩ := h1.2.1 _ _ _ _ hcl
      rw [Bool.and_eq_true] at hq
      obtain ⟨hlk, hfl⟩ := hq
      simp only [pm_x] at h
      split at h
      · rename_i x r rest
        replace h := pm_cond h
        obtain ⟨hg1, h⟩ := h
        rw [Bool.and_eq_true] at hg1
        have hr : r < S.1 := by simpa [Nat.blt_eq] using hg1.1
        have htag : xs.getD 0 9 = 0 ∨ xs.getD 0 9 = 1 := by
          have := Nat.le_of_ble_eq_true hg1.2
          omega
        have hb4 : Nat.beq (xs.getD 0 9) 4 = false := by rcases htag with h | h <;> rw [h] <;> rfl
        split at h
        · rename_i c2 ks hs
          replace h := pm_cond h
          obtain ⟨hce, h⟩ := h
          have hce := Nat.eq_of_beq_eq_true hce
          subst hce
          obtain ⟨hlen, hkt⟩ := hkt _ _ hs
          split at h
          · rename_i hkd
            obtain ⟨hg, rfl, rfl, rfl, rfl⟩ := pm_n_inj h
            have hkl : xs.getD 2 0 < ks.length := by rw [hlen]; exact hkN
            have hk0 := hkt _ hkN
            rw [hkd] at hk0
            have hk0 : ty (xs.getD 2 0) = .int := hk0
            have hat : (pm_ws ρ fv cA Sg S)[r]? = some (ρ r, .inr (xs.getD 1 0, ks.mapIdx (fun k kd => pm_val ρ fv S r k kd))) := by
              rw [pm_ws_at hr, hs]
              rfl
            have hfin : (T (xs.getD 2 0)).2.2.2 = false := by
              rw [hb4] at hfl
              simpa using hfl
            have e := pm_ws_set (ρ := ρ) (fv := fv) (cA := cA) (Sg := Sg) (S := S) (S' := (S.1, S.2.1, pm_ui S.2.2.1 r (xs.getD 2 0) x, S.2.2.2)) rfl hr (fun k hk hne => pm_cell_eq rfl (pm_ui_off hne) rfl)
            have e2 : pm_cell ρ fv cA (Sg r) (S.1, S.2.1, pm_ui S.2.2.1 r (xs.getD 2 0) x, S.2.2.2) r = .inr (xs.getD 1 0, (ks.mapIdx (fun k kd => pm_val ρ fv S r k kd)).set (xs.getD 2 0) (.int x)) := by
              rw [hs]
              show Sum.inr (xs.getD 1 0, ks.mapIdx (fun k kd => pm_val ρ fv (S.1, S.2.1, pm_ui S.2.2.1 r (xs.getD 2 0) x, S.2.2.2) r k kd)) = _
              refine congrArg (fun z => Sum.inr (xs.getD 1 0, z)) (pm_fields hkl (by rw [hkd]; exact pm_val_new_0) (fun j kd hj => pm_val_off_i hj)).symm
            rw [e2] at e
            have kk2 := fun (H1 : Heap) (locs1 : List Loc) (hP1 : va_P D cl ((pm_ws ρ fv cA Sg S).set r (ρ r, .inr (xs.getD 1 0, (ks.mapIdx (fun k kd => pm_val ρ fv S r k kd)).set (xs.getD 2 0) (.int x)))) H1) (_ : va_D (fun q : Nat => base ≤ q) ((pm_ws ρ fv cA Sg S).set r (ρ r, .inr (xs.getD 1 0, (ks.mapIdx (fun k kd => pm_val ρ fv S r k kd)).set (xs.getD 2 0) (.int x))))) (hS1 : va_S (fun q : Nat => base ≤ q) s.heap H1 locs1) => kk H1 locs1 ls ⟨e ▸ hP1, hS1, hn2⟩ hL
            rw [List.map_cons, List.map_cons, hrl r hr]
            rcases htag with ht | ht
            · rw [ht] at hlk
              exact va_put hx hb hts hin ty hty hnm hown hK hP hD hS r hat hcl (xs.getD 2 0) hkN (hts _ (pm_wk_of hlk)) (fun _ h => h) hfin (hty _ hkN) (by rw [hk0]; exact rfl) (by rw [hk0]; exact rfl) (by rw [List.length_mapIdx]; exact hkl) hd kk2
            · rw [ht] at hlk
              exact va_putN hx hb hts hin ty hty hnm hown hK hP hD hS r hat hcl (xs.getD 2 0) hkN (va_Nw.use rfl (hN.1 _ (pm_wn_of hlk) rfl)) (fun _ h => h) hfin (hty _ hkN) (by rw [hk0]; exact rfl) (by rw [hk0]; exact rfl) (by rw [List.length_mapIdx]; exact hkl) hd kk2
          · rename_i hkd
            obtain ⟨hg, rfl, rfl, rfl, rfl⟩ := pm_n_inj h
            have hkl : xs.getD 2 0 < ks.length := by rw [hlen]; exact hkN
            have hk0 := hkt _ hkN
            rw [hkd] at hk0
            have hk0 : ty (xs.getD 2 0) = .boolean := hk0
            have hat : (pm_ws ρ fv cA Sg S)[r]? = some (ρ r, .inr (xs.getD 1 0, ks.mapIdx (fun k kd => pm_val ρ fv S r k kd))) := by
              rw [pm_ws_at hr, hs]
              rfl
            have hfin : (T (xs.getD 2 0)).2.2.2 = false := by
              rw [hb4] at hfl
              simpa using hfl
            have e := pm_ws_set (ρ := ρ) (fv := fv) (cA := cA) (Sg := Sg) (S := S) (S' := (S.1, S.2.1, pm_ui S.2.2.1 r (xs.getD 2 0) x, S.2.2.2)) rfl hr (fun k hk hne => pm_cell_eq rfl (pm_ui_off hne) rfl)
            have e2 : pm_cell ρ fv cA (Sg r) (S.1, S.2.1, pm_ui S.2.2.1 r (xs.getD 2 0) x, S.2.2.2) r = .inr (xs.getD 1 0, (ks.mapIdx (fun k kd => pm_val ρ fv S r k kd)).set (xs.getD 2 0) (.int x)) := by
              rw [hs]
              show Sum.inr (xs.getD 1 0, ks.mapIdx (fun k kd => pm_val ρ fv (S.1, S.2.1, pm_ui S.2.2.1 r (xs.getD 2 0) x, S.2.2.2) r k kd)) = _
              refine congrArg (fun z => Sum.inr (xs.getD 1 0, z)) (pm_fields hkl (by rw [hkd]; exact pm_val_new_2) (fun j kd hj => pm_val_off_i hj)).symm
            rw [e2] at e
            have kk2 := fun (H1 : Heap) (locs1 : List Loc) (hP1 : va_P D cl ((pm_ws ρ fv cA Sg S).set r (ρ r, .inr (xs.getD 1 0, (ks.mapIdx (fun k kd => pm_val ρ fv S r k kd)).set (xs.getD 2 0) (.int x)))) H1) (_ : va_D (fun q : Nat => base ≤ q) ((pm_ws ρ fv cA Sg S).set r (ρ r, .inr (xs.getD 1 0, (ks.mapIdx (fun k kd => pm_val ρ fv S r k kd)).set (xs.getD 2 0) (.int x))))) (hS1 : va_S (fun q : Nat => base ≤ q) s.heap H1 locs1) => kk H1 locs1 ls ⟨e ▸ hP1, hS1, hn2⟩ hL
            rw [List.map_cons, List.map_cons, hrl r hr]
            rcases htag with ht | ht
            · rw [ht] at hlk
              exact va_put hx hb hts hin ty hty hnm hown hK hP hD hS r hat hcl (xs.getD 2 0) hkN (hts _ (pm_wk_of hlk)) (fun _ h => h) hfin (hty _ hkN) (by rw [hk0]; exact pm_nz x (of_decide_eq_true hg)) (by rw [hk0]; exact pm_fz x (of_decide_eq_true hg)) (by rw [List.length_mapIdx]; exact hkl) hd kk2
            · rw [ht] at hlk
              exact va_putN hx hb hts hin ty hty hnm hown hK hP hD hS r hat hcl (xs.getD 2 0) hkN (va_Nw.use rfl (hN.1 _ (pm_wn_of hlk) rfl)) (fun _ h => h) hfin (hty _ hkN) (by rw [hk0]; exact pm_nz x (of_decide_eq_true hg)) (by rw [hk0]; exact pm_fz x (of_decide_eq_true hg)) (by rw [List.length_mapIdx]; exact hkl) hd kk2
          · cases h
        · cases h
      · rename_i x r rest
        replace h := pm_cond h
        obtain ⟨hg1, h⟩ := h
        rw [Bool.and_eq_true] at hg1
        have hr : r < S.1 := by simpa [Nat.blt_eq] using hg1.1
        have htag : xs.getD 0 9 = 0 ∨ xs.getD 0 9 = 1 := by
          have := Nat.le_of_ble_eq_true hg1.2
          omega
        have hb4 : Nat.beq (xs.getD 0 9) 4 = false := by rcases htag with h | h <;> rw [h] <;> rfl
        split at h
        · rename_i c2 ks hs
          replace h := pm_cond h
          obtain ⟨hce, h⟩ := h
          rw [Bool.and_eq_true] at hce
          have hkd := Nat.eq_of_beq_eq_true hce.2
          have hce := Nat.eq_of_beq_eq_true hce.1
          subst hce
          obtain ⟨hlen, hkt⟩ := hkt _ _ hs
          obtain ⟨hg, rfl, rfl, rfl, rfl⟩ := pm_n_inj h
          have hkl : xs.getD 2 0 < ks.length := by rw [hlen]; exact hkN
          have hk0 := hkt _ hkN
          rw [hkd] at hk0
          have hk0 : ty (xs.getD 2 0) = .long := hk0
          have hat : (pm_ws ρ fv cA Sg S)[r]? = some (ρ r, .inr (xs.getD 1 0, ks.mapIdx (fun k kd => pm_val ρ fv S r k kd))) := by
            rw [pm_ws_at hr, hs]
            rfl
          have hfin : (T (xs.getD 2 0)).2.2.2 = false := by
            rw [hb4] at hfl
            simpa using hfl
          have e := pm_ws_set (ρ := ρ) (fv := fv) (cA := cA) (Sg := Sg) (S := S) (S' := (S.1, S.2.1, S.2.2.1, pm_ul S.2.2.2 r (xs.getD 2 0) x)) rfl hr (fun k hk hne => pm_cell_eq rfl rfl (pm_ul_off hne))
          have e2 : pm_cell ρ fv cA (Sg r) (S.1, S.2.1, S.2.2.1, pm_ul S.2.2.2 r (xs.getD 2 0) x) r = .inr (xs.getD 1 0, (ks.mapIdx (fun k kd => pm_val ρ fv S r k kd)).set (xs.getD 2 0) (.long x)) := by
            rw [hs]
            show Sum.inr (xs.getD 1 0, ks.mapIdx (fun k kd => pm_val ρ fv (S.1, S.2.1, S.2.2.1, pm_ul S.2.2.2 r (xs.getD 2 0) x) r k kd)) = _
            refine congrArg (fun z => Sum.inr (xs.getD 1 0, z)) (pm_fields hkl (by rw [hkd]; exact pm_val_new_1) (fun j kd hj => pm_val_off_l hj)).symm
          rw [e2] at e
          have kk2 := fun (H1 : Heap) (locs1 : List Loc) (hP1 : va_P D cl ((pm_ws ρ fv cA Sg S).set r (ρ r, .inr (xs.getD 1 0, (ks.mapIdx (fun k kd => pm_val ρ fv S r k kd)).set (xs.getD 2 0) (.long x)))) H1) (_ : va_D (fun q : Nat => base ≤ q) ((pm_ws ρ fv cA Sg S).set r (ρ r, .inr (xs.getD 1 0, (ks.mapIdx (fun k kd => pm_val ρ fv S r k kd)).set (xs.getD 2 0) (.long x))))) (hS1 : va_S (fun q : Nat => base ≤ q) s.heap H1 locs1) => kk H1 locs1 ls ⟨e ▸ hP1, hS1, hn2⟩ hL
          rw [List.map_cons, List.map_cons, hrl r hr]
          rcases htag with ht | ht
          · rw [ht] at hlk
            exact va_put hx hb hts hin ty hty hnm hown hK hP hD hS r hat hcl (xs.getD 2 0) hkN (hts _ (pm_wk_of hlk)) (fun _ h => h) hfin (hty _ hkN) (by rw [hk0]; exact rfl) (by rw [hk0]; exact rfl) (by rw [List.length_mapIdx]; exact hkl) hd kk2
          · rw [ht] at hlk
            exact va_putN hx hb hts hin ty hty hnm hown hK hP hD hS r hat hcl (xs.getD 2 0) hkN (va_Nw.use rfl (hN.1 _ (pm_wn_of hlk) rfl)) (fun _ h => h) hfin (hty _ hkN) (by rw [hk0]; exact rfl) (by rw [hk0]; exact rfl) (by rw [List.length_mapIdx]; exact hkl) hd kk2
        · cases h
      · rename_i z r rest
        replace h := pm_cond h
        obtain ⟨hg1, h⟩ := h
        rw [Bool.and_eq_true, Bool.and_eq_true] at hg1
        have hr : r < S.1 := by simpa [Nat.blt_eq] using hg1.1
        have hz : z < S.1 := by simpa [Nat.blt_eq] using hg1.2.1
        have hb4 := hg1.2.2
        have ht4 := Nat.eq_of_beq_eq_true hb4
        split at h
        · rename_i c2 ks hs
          replace h := pm_cond h
          obtain ⟨hce, h⟩ := h
          rw [Bool.and_eq_true] at hce
          have hkd := Nat.eq_of_beq_eq_true hce.2
          have hce := Nat.eq_of_beq_eq_true hce.1
          subst hce
          obtain ⟨hlen, hkt⟩ := hkt _ _ hs
          obtain ⟨hg, rfl, rfl, rfl, rfl⟩ := pm_n_inj h
          have hkl : xs.getD 2 0 < ks.length := by rw [hlen]; exact hkN
          have hk0 := hkt _ hkN
          rw [hkd] at hk0
          have hk0 : (∃ n, ty (xs.getD 2 0) = .object n) ∨ ∃ t, ty (xs.getD 2 0) = .array t := hk0
          have hat : (pm_ws ρ fv cA Sg S)[r]? = some (ρ r, .inr (xs.getD 1 0, ks.mapIdx (fun k kd => pm_val ρ fv S r k kd))) := by
            rw [pm_ws_at hr, hs]
            rfl
          rw [hb4] at hfl
          simp only [cond_true, Bool.and_eq_true] at hfl
          obtain ⟨hfin, hname, hdecl⟩ := hfl
          have hname := of_decide_eq_true hname
          have hdecl := of_decide_eq_true hdecl
          have e := pm_ws_set (ρ := ρ) (fv := fv) (cA := cA) (Sg := Sg) (S := S) (S' := (S.1, pm_ug S.2.1 r (xs.getD 2 0) (z + 1), S.2.2.1, S.2.2.2)) rfl hr (fun k hk hne => pm_cell_eq (pm_ug_off hne) rfl rfl)
          have e2 : pm_cell ρ fv cA (Sg r) (S.1, pm_ug S.2.1 r (xs.getD 2 0) (z + 1), S.2.2.1, S.2.2.2) r = .inr (xs.getD 1 0, (ks.mapIdx (fun k kd => pm_val ρ fv S r k kd)).set (xs.getD 2 0) (.ref (ρ z))) := by
            rw [hs]
            show Sum.inr (xs.getD 1 0, ks.mapIdx (fun k kd => pm_val ρ fv (S.1, pm_ug S.2.1 r (xs.getD 2 0) (z + 1), S.2.2.1, S.2.2.2) r k kd)) = _
            refine congrArg (fun z => Sum.inr (xs.getD 1 0, z)) (pm_fields hkl (by rw [hkd, ← hrl z hz]; exact pm_val_new_3) (fun j kd hj => pm_val_off_g hj)).symm
          rw [e2] at e
          have kk2 := fun (H1 : Heap) (locs1 : List Loc) (hP1 : va_P D cl ((pm_ws ρ fv cA Sg S).set r (ρ r, .inr (xs.getD 1 0, (ks.mapIdx (fun k kd => pm_val ρ fv S r k kd)).set (xs.getD 2 0) (.ref (ρ z))))) H1) (_ : va_D (fun q : Nat => base ≤ q) ((pm_ws ρ fv cA Sg S).set r (ρ r, .inr (xs.getD 1 0, (ks.mapIdx (fun k kd => pm_val ρ fv S r k kd)).set (xs.getD 2 0) (.ref (ρ z)))))) (hS1 : va_S (fun q : Nat => base ≤ q) s.heap H1 locs1) => kk H1 locs1 ls ⟨e ▸ hP1, hS1, hn2⟩ hL
          rw [List.map_cons, List.map_cons, hrl r hr, hrl z hz]
          rw [ht4] at hlk
          refine va_putF hx hb hts hin ty hty hnm hown hK hP hD hS r hat hcl (xs.getD 2 0) hkN (hts _ (pm_wk_of hlk)) (fun _ h => h) hfin (hmn hname) hdecl (hty _ hkN) ?_ ?_ (by rw [List.length_mapIdx]; exact hkl) hd kk2
          · rcases hk0 with ⟨n, hn⟩ | ⟨n, hn⟩ <;> rw [hn] <;> rfl
          · rcases hk0 with ⟨n, hn⟩ | ⟨n, hn⟩ <;> rw [hn] <;> rfl
        · cases h
      · cases h
    · cases hq
  all_goals (simp only [pm_x] at h; cases h)
end
end
section
/-! ===== the pure machine's runs are the machine's ===== -/
theorem pm_x_cnt {Sg : Nat → pm_K} {Rt : pm_T} {ret : Option FieldType} {q : pm_Q} {pl : pm_L} {st : List Value} {S : pm_S} {g : Bool} : ∀ {z : pm_C}, pm_x Sg Rt ret q pl st S = some (g, z) → S.1 ≤ (match z with
    | .inl (_, _, _, S') => S'
    | .inr (.inl (_, _, _, _, _, _, _, S')) => S'
    | .inr (.inr (.inl (_, _, _, _, _, S'))) => S'
    | .inr (.inr (.inr (.inl (_, _, _, _, _, S')))) => S'
    | .inr (.inr (.inr (.inr (_, S')))) => S').1 := by
  intro z h
  obtain ⟨pc, ins, nx, w, xs, ci, cj⟩ := q
  have hN : ∀ {g1 : Bool} {pc' : Nat} {ls' : pm_L} {st' : List Value} {S1 : pm_S}, S.1 ≤ S1.1 → pm_n g1 pc' ls' st' S1 = some (g, z) → S.1 ≤ (match z with
    | .inl (_, _, _, S') => S'
    | .inr (.inl (_, _, _, _, _, _, _, S')) => S'
    | .inr (.inr (.inl (_, _, _, _, _, S'))) => S'
    | .inr (.inr (.inr (.inl (_, _, _, _, _, S')))) => S'
    | .inr (.inr (.inr (.inr (_, S')))) => S').1 := fun hle h => by unfold pm_n at h; cases h; exact hle
  have hB : ∀ {o : Nat} {x y : Int32} {t e : Nat} {ls' : pm_L} {st' : List Value}, pm_b o x y t e ls' st' S = some (g, z) → S.1 ≤ (match z with
    | .inl (_, _, _, S') => S'
    | .inr (.inl (_, _, _, _, _, _, _, S')) => S'
    | .inr (.inr (.inl (_, _, _, _, _, S'))) => S'
    | .inr (.inr (.inr (.inl (_, _, _, _, _, S')))) => S'
    | .inr (.inr (.inr (.inr (_, S')))) => S').1 := fun h => by unfold pm_b at h; cases h; exact Nat.le_refl _
  have hW : ∀ {x : Int32} {d : Nat} {ts : List Nat} {ls' : pm_L} {st' : List Value}, pm_w x d ts ls' st' S = some (g, z) → S.1 ≤ (match z with
    | .inl (_, _, _, S') => S'
    | .inr (.inl (_, _, _, _, _, _, _, S')) => S'
    | .inr (.inr (.inl (_, _, _, _, _, S'))) => S'
    | .inr (.inr (.inr (.inl (_, _, _, _, _, S')))) => S'
    | .inr (.inr (.inr (.inr (_, S')))) => S').1 := fun h => by unfold pm_w at h; cases h; exact Nat.le_refl _
  have hJ : ∀ {mj nx : Nat} {as : List Value} {ls' : pm_L} {st' : List Value}, pm_j mj as nx ls' st' S = some (g, z) → S.1 ≤ (match z with
    | .inl (_, _, _, S') => S'
    | .inr (.inl (_, _, _, _, _, _, _, S')) => S'
    | .inr (.inr (.inl (_, _, _, _, _, S'))) => S'
    | .inr (.inr (.inr (.inl (_, _, _, _, _, S')))) => S'
    | .inr (.inr (.inr (.inr (_, S')))) => S').1 := fun h => by unfold pm_j at h; cases h; exact Nat.le_refl _
  have hE : ∀ {b : Bool} {v : Option Value}, pm_e b v S = some (g, z) → S.1 ≤ (match z with
    | .inl (_, _, _, S') => S'
    | .inr (.inl (_, _, _, _, _, _, _, S')) => S'
    | .inr (.inr (.inl (_, _, _, _, _, S'))) => S'
    | .inr (.inr (.inr (.inl (_, _, _, _, _, S')))) => S'
    | .inr (.inr (.inr (.inr (_, S')))) => S').1 := fun h => by unfold pm_e at h; cases h; exact Nat.le_refl _
  cases ins
  case ifCond cnd o => cases cnd <;> (simp only [pm_x] at h; split at h <;> first | exact hB h | cases h)
  case if_icmp cnd o => cases cnd <;> (simp only [pm_x] at h; split at h <;> first | exact hB h | cases h)
  case invokespecial idx =>
    simp only [pm_x] at h
    split at h
    · split at h
      · replace h := pm_cond h
        exact hN (Nat.le_refl _) h.2
      · cases h
    · unfold pm_callI at h
      split at h
      · exact hJ (pm_cond h).2
      · cases h
  case invokevirtual idx =>
    simp only [pm_x] at h
    unfold pm_callV at h
    split at h
    · exact hJ (pm_cond h).2
    · cases h
  case invokestatic idx =>
    simp only [pm_x] at h
    unfold pm_call at h
    split at h
    · exact hJ (pm_cond h).2
    · cases h
  all_goals simp only [pm_x, Bool.cond_eq_ite] at h
  all_goals (repeat' split at h)
  all_goals first
    | exact hN (by first | exact Nat.le_refl _ | exact Nat.le_succ _) h
    | exact hE h
    | exact hW h
    | cases h
theorem pm_cnt {me : Nat → pm_Me} {Sg : Nat → pm_K} {Rt : pm_T} : ∀ (n : Nat) {mi pc : Nat} {pl : pm_L} {st : List Value} {S S' : pm_S} {v : Option Value}, pm_run me Sg Rt n mi pc pl st S = some (v, S') → S.1 ≤ S'.1 := by
  intro n
  induction n with
  | zero => intro mi pc pl st S S' v h; cases h
  | succ n ih =>
    intro mi pc pl st S S' v h
    have h : pm_body me Sg Rt (pm_run me Sg Rt n) mi pc pl st S = some (v, S') := h
    unfold pm_body at h
    split at h
    · rename_i q hq
      cases hz : pm_x Sg Rt (me mi).2.2.2.1 q pl st S with
      | none => rw [hz] at h; cases h
      | some gc =>
        obtain ⟨g, c⟩ := gc
        rw [hz] at h
        have hle := pm_x_cnt hz
        replace h := pm_cond (show (bif g then pm_dc me (pm_run me Sg Rt n) mi c else none) = some (v, S') from h)
        obtain ⟨-, h⟩ := h
        rcases c with ⟨pc', ls', st', S1⟩ | ⟨o, x, y, t, e, ls', st', S1⟩ | ⟨x, d, ts, ls', st', S1⟩ | ⟨mj, as, nx, ls', st', S1⟩ | ⟨v1, S1⟩
        · exact Nat.le_trans hle (ih h)
        · unfold pm_dc at h
          dsimp only at h
          split at h <;> split at h <;> exact Nat.le_trans hle (ih h)
        · obtain ⟨t, h1, -⟩ := pm_sw_which (k := fun t => pm_run me Sg Rt n mi t ls' st' S1) (x := x) (d := d) ts 0
          exact Nat.le_trans hle (ih (h1.symm.trans h))
        · obtain ⟨v1, S2, h1, h2⟩ := pm_k_some h
          obtain ⟨-, h3⟩ := pm_c_some h1
          exact Nat.le_trans hle (Nat.le_trans (ih h3) (ih h2))
        · cases h
          exact hle
    · cases h
theorem pm_at_mem : ∀ {l : List pm_Q} {pc : Nat} {q : pm_Q}, pm_at l pc = some q → q ∈ l ∧ q.1 = pc := by
  intro l
  induction l with
  | nil => intro pc q h; cases h
  | cons a t ih =>
    intro pc q h
    unfold pm_at at h
    cases hb : Nat.beq a.1 pc with
    | true =>
      rw [hb] at h
      cases h
      exact ⟨List.mem_cons_self, Nat.eq_of_beq_eq_true hb⟩
    | false =>
      rw [hb] at h
      obtain ⟨h1, h2⟩ := ih h
      exact ⟨List.mem_cons_of_mem _ h1, h2⟩
theorem pm_pop_eq : ∀ (n : Nat) {acc st as rest : List Value}, pm_pop n acc st = some (as, rest) → ∃ xs, as = xs.reverse ++ acc ∧ st = xs ++ rest ∧ xs.length = n := by
  intro n
  induction n with
  | zero => intro acc st as rest h; cases h; exact ⟨[], rfl, rfl, rfl⟩
  | succ n ih =>
    intro acc st as rest h
    cases st with
    | nil => cases h
    | cons v st =>
      obtain ⟨xs, h1, h2, h3⟩ := ih h
      exact ⟨v :: xs, by rw [h1]; simp, by rw [h2]; rfl, by simp [h3]⟩
theorem pm_en_len : ∀ (as : List Value) (n : Nat), pm_wd as ≤ n → (pm_en n as).length = n := by
  intro as
  induction as with
  | nil => intro n h; simp [pm_en]
  | cons v vs ih =>
    intro n h
    have hc : pm_wd (v :: vs) = v.category + pm_wd vs := rfl
    unfold pm_en
    rcases lv_cat v with e | e
    · rw [e]
      show (some v :: pm_en (n - 1) vs).length = n
      rw [List.length_cons, ih _ (by omega)]
      omega
    · rw [e]
      show (some v :: none :: pm_en (n - 2) vs).length = n
      rw [List.length_cons, List.length_cons, ih _ (by omega)]
      omega
theorem pm_en_at {ρ : Nat → Nat} {fv : Value} (hfv : fv = .null ∨ ∃ t, fv = .ref t) : ∀ (as : List Value) (n : Nat) (b : Nat) (i : Nat) (v : Value), (pm_en n as)[i]? = some (some v) → (b + i, pm_rl ρ fv v) ∈ lv_args b (as.map (pm_rl ρ fv)) := by
  intro as
  induction as with
  | nil =>
    intro n b i v h
    unfold pm_en at h
    have := List.eq_of_mem_replicate (List.mem_of_getElem? h)
    cases this
  | cons w ws ih =>
    intro n b i v h
    unfold pm_en at h
    show _ ∈ (b, pm_rl ρ fv w) :: lv_args (if (pm_rl ρ fv w).category = 2 then b + 2 else b + 1) (ws.map (pm_rl ρ fv))
    rw [pm_rl_cat hfv]
    rcases lv_cat w with e | e
    · rw [e] at h ⊢
      have h : (some w :: pm_en (n - 1) ws)[i]? = some (some v) := h
      rw [if_neg (by decide)]
      cases i with
      | zero => cases h; exact List.mem_cons_self
      | succ i =>
        have := ih _ (b + 1) i v h
        rw [show b + 1 + i = b + (i + 1) by omega] at this
        exact List.mem_cons_of_mem _ this
    · rw [e] at h ⊢
      have h : (some w :: none :: pm_en (n - 2) ws)[i]? = some (some v) := h
      rw [if_pos rfl]
      cases i with
      | zero => cases h; exact List.mem_cons_self
      | succ i =>
        cases i with
        | zero => cases h
        | succ i =>
          have := ih _ (b + 2) i v h
          rw [show b + 2 + i = b + (i + 1 + 1) by omega] at this
          exact List.mem_cons_of_mem _ this
theorem pm_sl_len {ρ : Nat → Nat} {fv : Value} (hfv : fv = .null ∨ ∃ t, fv = .ref t) (as : List Value) : (lg_sl (as.map (pm_rl ρ fv))).length = pm_wd as := by
  induction as with
  | nil => rfl
  | cons v vs ih =>
    have e1 : lg_sl ((v :: vs).map (pm_rl ρ fv)) = (if (pm_rl ρ fv v).category = 2 then [Slot.val (pm_rl ρ fv v), .second] else [.val (pm_rl ρ fv v)]) ++ lg_sl (vs.map (pm_rl ρ fv)) := by
      simp [lg_sl]
    rw [e1, List.length_append, ih, pm_rl_cat hfv]
    show _ = v.category + pm_wd vs
    rcases lv_cat v with e | e <;> rw [e] <;> rfl
/-- a method's locals at its entry -/
theorem pm_entry {ρ : Nat → Nat} {fv : Value} (hfv : fv = .null ∨ ∃ t, fv = .ref t) {as : List Value} {n : Nat} (h : pm_wd as ≤ n) : pm_LH ρ fv n ((lg_sl (as.map (pm_rl ρ fv)) ++ List.replicate (n - (lg_sl (as.map (pm_rl ρ fv))).length) Slot.unset).toArray) (pm_en n as) := by
  have hl := lv_entry (as.map (pm_rl ρ fv)) (n := n) (by rw [pm_sl_len hfv]; exact h)
  refine ⟨hl.1, pm_en_len as n h, hl.2.1, fun i v hv _ => ?_⟩
  have := hl.2.2 _ (pm_en_at hfv as n 0 i v hv)
  rw [Nat.zero_add] at this
  exact this
def pm_Qc (D : va_G) (cl : List vw_C) (cA : Nat → ClassId) (Sg : Nat → pm_K) (ρ : Nat → Nat) (fv : Value) (base : Nat) (v : Option Value) (S' : pm_S) : Array Value → State → Outcome → State → Prop := fun _ st oc t =>
  oc = .returned (v.map (pm_rl ρ fv)) ∧ va_P D cl (pm_ws ρ fv cA Sg S') t.heap ∧ va_F (fun q : Nat => base ≤ q) st t ∧ S'.1 ≤ 200
def pm_Pc (D : va_G) (cl : List vw_C) (cA : Nat → ClassId) (Sg : Nat → pm_K) (Rt : pm_T) (ρ : Nat → Nat) (fv : Value) (base : Nat) (tx : String) (as : List Value) (S : pm_S) : Array Value → State → Prop := va_Pc (as.map (pm_rl ρ fv)) (fun U => U.heap.size = base + S.1 ∧ va_P D cl (pm_ws ρ fv cA Sg S) U.heap ∧ va_K D cl (pm_tys cA) U ∧ pm_Zf Rt ρ fv (fun q => base ≤ q) U U.heap ∧ pm_Nf tx ρ U ∧ S.1 ≤ 200)
theorem pm_blind {D : va_G} {cl : List vw_C} {cA : Nat → ClassId} {Sg : Nat → pm_K} {Rt : pm_T} {ρ : Nat → Nat} {fv : Value} {base : Nat} {tx : String} {as : List Value} {S : pm_S} : FrameBlind (pm_Pc D cl cA Sg Rt ρ fv base tx as S) := by
  intro a U g mk h
  obtain ⟨h0, h1, h2, h3, h4, h5, h6⟩ := h
  exact ⟨h0, h1, h2, va_K.moved (u := U) (U := U.calling g mk a) (Vm.Alike.refl U.vm) h3, pm_Zf.moved (u := U) (U := U.calling g mk a) (Vm.Alike.refl U.vm) h4, pm_Nf.same (u := U) (U := U.calling g mk a) rfl h5, h6⟩
/-- a method's words: its own code, and all that stay -/
def pm_wo (M : pm_Me) : List Cond := .code M.1 M.2.1 M.2.2.1 M.2.2.2.1 :: pm_G
def pm_rm (Sg : Nat → pm_K) (M : pm_Me) (S S' : pm_S) : Room := { frames := M.2.2.2.2.1, cells := S'.1 - S.1, slots := pm_ss Sg S'.1 - pm_ss Sg S.1, locals := M.2.2.2.2.2.1 }
theorem pm_good {y : Cond} (h : y ∈ pm_G) : GoodIn pm_G (y :: pm_G) := by
  intro w hw
  have hw2 : w ∈ pm_G := by
    rcases List.mem_cons.mp hw with e | h2
    · exact e ▸ h
    · exact h2
  exact ⟨hw2, good_of_word (List.mem_filter.mp hw2).2⟩
section
variable {p : Program} {l : Launch} {e : Env} {R : Room} {s : State} {m : MethodId} {args : Array Value} {below : List Frame} {meth : Method} {c : Code} {Q : State → Prop}
variable {me : Nat → pm_Me} {Sg : Nat → pm_K} {Rt : pm_T} {cl : List vw_C} {D : va_G} {cA : Nat → ClassId} {ρ : Nat → Nat} {fv : Value} {base : Nat} {tx : String} {mi c0 : Nat}
/-- behind a call -/
theorem pm_after {H : Heap} {locs : List Loc} {cells slots mc ms pc : Nat} {ls : Array Slot} {st0 rest : List Value} {a : Array Value} {v : Option Value} {S' : pm_S}
    (hr : va_Run p l e R s m args below meth c H locs cells slots mc ms (F0 m pc ls st0) rest (pm_Qc D cl cA Sg ρ fv base v S' a) (fun q => base ≤ q)) (hS : va_S (fun q : Nat => base ≤ q) s.heap H locs)
    (kk : ∀ (H1 : Heap) (locs1 : List Loc), pm_I D cl ρ fv cA Sg base S' s H1 locs1 → W p l e R s m args below meth c H1 locs1 (cells + mc) (slots + ms) Q (F0 m (pc + 3) ls ((v.map (pm_rl ρ fv)).toList ++ rest))) : W p l e R s m args below meth c H locs cells slots Q (F0 m pc ls st0) := by
  intro T hT X
  obtain ⟨v1, st₀, t, T', L, h0, X', hL, e1, e2, ⟨hv, hP, ⟨hz, hk⟩, hn⟩, st⟩ := hr T hT X
  cases hv
  rw [h0] at hz hk
  obtain ⟨t2, a1, b1⟩ := kk T'.heap (locs ++ L) ⟨by rw [e1]; exact hP, ⟨Nat.le_trans hS.1 (by rw [e1]; exact hz), fun q h1 h2 => by rw [e1, hk q (Nat.lt_of_lt_of_le h1 hS.1) h2]; exact hS.2.1 q h1 h2, fun q hq => by
      rcases List.mem_append.mp hq with h | h
      · exact hS.2.2 q h
      · exact hL q h⟩, hn⟩ T' rfl X'
  exact ⟨t2, st t2 a1, b1⟩
end
end
section
def pm_pick (o : Nat) (x y : Int32) (t e : Nat) : Nat := match o with
  | 0 => if x = y then t else e
  | 1 => if x < y then t else e
  | _ => if x ≤ y then t else e
def pm_wh (x : Int32) (d : Nat) : List Nat → Nat → Nat
  | [], _ => d
  | t :: ts, j => if x = nI j then t else pm_wh x d ts (j + 1)
theorem pm_sw_wh {k : Nat → pm_R} {x : Int32} {d : Nat} : ∀ (ts : List Nat) (j : Nat), pm_sw k x d ts j = k (pm_wh x d ts j) := by
  intro ts
  induction ts with
  | nil => intro j; rfl
  | cons t ts ih =>
    intro j
    unfold pm_sw pm_wh
    by_cases c : x = nI j
    · rw [if_pos c, if_pos c]
    · rw [if_neg c, if_neg c, ih]
theorem pm_wh_in {d : Nat} : ∀ (ts : List Nat) (j i : Nat), i < ts.length → j + ts.length < 2 ^ 31 → pm_wh (nI (j + i)) d ts j = ts.getD i 0 := by
  intro ts
  induction ts with
  | nil => intro j i h; cases h
  | cons t ts ih =>
    intro j i h hb
    rw [List.length_cons] at h hb
    unfold pm_wh
    cases i with
    | zero => rw [Nat.add_zero, if_pos rfl]; rfl
    | succ i =>
      rw [if_neg (fun e => by have := (nI_eq (by omega) (by omega)).mp e; omega), show j + (i + 1) = j + 1 + i by omega, ih (j + 1) i (by omega) (by omega)]
      rfl
theorem pm_wh_out {x : Int32} {d : Nat} : ∀ (ts : List Nat) (j : Nat), (∀ i, i < ts.length → x ≠ nI (j + i)) → pm_wh x d ts j = d := by
  intro ts
  induction ts with
  | nil => intro j h; rfl
  | cons t ts ih =>
    intro j h
    unfold pm_wh
    have h0 := h 0 (by simp)
    rw [Nat.add_zero] at h0
    rw [if_neg h0, ih (j + 1) (fun i hi => by rw [show j + 1 + i = j + (i + 1) by omega]; exact h (i + 1) (by simpa using hi))]
theorem pm_swk_at {pc : Nat} : ∀ (os : List Int) (ts : List Nat), pm_swk pc os ts = true → os.length = ts.length ∧ ∀ i, i < os.length → ∃ o, os[i]? = some o ∧ (pc : Int) + o = (ts.getD i 0 : Int) := by
  intro os
  induction os with
  | nil =>
    intro ts h
    cases ts with
    | nil => exact ⟨rfl, fun i hi => by cases hi⟩
    | cons t ts => cases h
  | cons o os ih =>
    intro ts h
    cases ts with
    | nil => cases h
    | cons t ts =>
      unfold pm_swk at h
      rw [Bool.and_eq_true] at h
      obtain ⟨h1, h2⟩ := ih ts h.2
      refine ⟨by simp [h1], fun i hi => ?_⟩
      cases i with
      | zero => exact ⟨o, rfl, of_decide_eq_true h.1⟩
      | succ i =>
        obtain ⟨o', e1, e2⟩ := h2 i (by simpa using hi)
        exact ⟨o', by simpa using e1, by simpa using e2⟩
section
variable {p : Program} {l : Launch} {e : Env} {R : Room} {s : State} {m : MethodId} {args : Array Value} {below : List Frame} {meth : Method} {c : Code} {Q : State → Prop}
variable {me : Nat → pm_Me} {Sg : Nat → pm_K} {Rt : pm_T} {cl : List vw_C} {D : va_G} {cA : Nat → ClassId} {ρ : Nat → Nat} {fv : Value} {base : Nat} {tx : String} {mi c0 : Nat}
theorem pm_b_inj {o o' : Nat} {x y x' y' : Int32} {t e t' e' : Nat} {ls ls' : pm_L} {st st' : List Value} {S S' : pm_S} (h : pm_b o x y t e ls st S = some (true, .inr (.inl (o', x', y', t', e', ls', st', S')))) : o = o' ∧ x = x' ∧ y = y' ∧ t = t' ∧ e = e' ∧ ls = ls' ∧ st = st' ∧ S = S' := by
  unfold pm_b at h
  cases h
  exact ⟨rfl, rfl, rfl, rfl, rfl, rfl, rfl, rfl⟩
theorem pm_n_nb {g g' : Bool} {pc : Nat} {ls : pm_L} {st : List Value} {S : pm_S} {z} (h : pm_n g pc ls st S = some (g', .inr z)) : False := by unfold pm_n at h; cases h
theorem pm_w_nb {x : Int32} {d : Nat} {ts : List Nat} {ls : pm_L} {st : List Value} {S : pm_S} {g : Bool} {z} (h : pm_w x d ts ls st S = some (g, .inr (.inl z))) : False := by unfold pm_w at h; cases h
theorem pm_j_nb {mj : Nat} {as : List Value} {nx : Nat} {ls : pm_L} {st : List Value} {S : pm_S} {g : Bool} {z} (h : pm_j mj as nx ls st S = some (g, .inr (.inl z))) : False := by unfold pm_j at h; cases h
theorem pm_e_nb {b : Bool} {v : Option Value} {S : pm_S} {g : Bool} {z} (h : pm_e b v S = some (g, .inr (.inl z))) : False := by unfold pm_e at h; cases h
set_option maxHeartbeats 1000000 in
theorem pm_br (hx : p.tables.exec = Jvm.exec) (hb : c.code = (me mi).2.1) {q : pm_Q} (hq : pm_chk cl me mi q = true) {pl pl' : pm_L} {st st' : List Value} {S S' : pm_S} {o t e' : Nat} {x y : Int32}
    (h : pm_x Sg Rt (me mi).2.2.2.1 q pl st S = some (true, .inr (.inl (o, x, y, t, e', pl', st', S')))) {H : Heap} {locs : List Loc} {ls : Array Slot} {cells slots : Nat}
    (kk : W p l e R s m args below meth c H locs cells slots Q (F0 m (pm_pick o x y t e') ls (st'.map (pm_rl ρ fv)))) : pl' = pl ∧ S' = S ∧ W p l e R s m args below meth c H locs cells slots Q (F0 m q.1 ls (st.map (pm_rl ρ fv))) := by
  obtain ⟨pc, ins, nx, w, xs, ci, cj⟩ := q
  cases ins
  case ifCond cnd off =>
    simp only [pm_chk, Bool.and_eq_true] at hq
    obtain ⟨hd0, ht⟩ := hq
    obtain ⟨hd, rfl⟩ := pm_d_of hd0
    have ht := of_decide_eq_true ht
    cases cnd
    case eq =>
      simp only [pm_x] at h
      split at h
      · obtain ⟨rfl, rfl, rfl, rfl, rfl, rfl, rfl, rfl⟩ := pm_b_inj h
        exact ⟨rfl, rfl, lv_if_eq hx hb hd ht (fun hc => by simpa only [pm_pick, if_pos hc] using kk) (fun hc => by simpa only [pm_pick, if_neg hc] using kk)⟩
      · cases h
    case ne =>
      simp only [pm_x] at h
      split at h
      · obtain ⟨rfl, rfl, rfl, rfl, rfl, rfl, rfl, rfl⟩ := pm_b_inj h
        exact ⟨rfl, rfl, lv_if_ne hx hb hd ht (fun hc => by simpa only [pm_pick, if_neg hc] using kk) (fun hc => by simpa only [pm_pick, if_pos hc] using kk)⟩
      · cases h
    case lt =>
      simp only [pm_x] at h
      split at h
      · obtain ⟨rfl, rfl, rfl, rfl, rfl, rfl, rfl, rfl⟩ := pm_b_inj h
        exact ⟨rfl, rfl, lv_if_lt hx hb hd ht (fun hc => by simpa only [pm_pick, if_pos hc] using kk) (fun hc => by simpa only [pm_pick, if_neg hc] using kk)⟩
      · cases h
    case ge =>
      simp only [pm_x] at h
      split at h
      · obtain ⟨rfl, rfl, rfl, rfl, rfl, rfl, rfl, rfl⟩ := pm_b_inj h
        exact ⟨rfl, rfl, lv_if_ge hx hb hd ht (fun hc => by simpa only [pm_pick, if_neg (Int32.not_lt.mpr hc)] using kk) (fun hc => by simpa only [pm_pick, if_pos (Int32.not_le.mp hc)] using kk)⟩
      · cases h
    case gt =>
      simp only [pm_x] at h
      split at h
      · obtain ⟨rfl, rfl, rfl, rfl, rfl, rfl, rfl, rfl⟩ := pm_b_inj h
        exact ⟨rfl, rfl, lv_if_gt hx hb hd ht (fun hc => by simpa only [pm_pick, if_neg (Int32.not_le.mpr hc)] using kk) (fun hc => by simpa only [pm_pick, if_pos (Int32.not_lt.mp hc)] using kk)⟩
      · cases h
    case le =>
      simp only [pm_x] at h
      split at h
      · obtain ⟨rfl, rfl, rfl, rfl, rfl, rfl, rfl, rfl⟩ := pm_b_inj h
        exact ⟨rfl, rfl, lv_if_le hx hb hd ht (fun hc => by simpa only [pm_pick, if_pos hc] using kk) (fun hc => by simpa only [pm_pick, if_neg hc] using kk)⟩
      · cases h
  case if_icmp cnd off =>
    simp only [pm_chk, Bool.and_eq_true] at hq
    obtain ⟨hd0, ht⟩ := hq
    obtain ⟨hd, rfl⟩ := pm_d_of hd0
    have ht := of_decide_eq_true ht
    cases cnd
    case eq =>
      simp only [pm_x] at h
      split at h
      · obtain ⟨rfl, rfl, rfl, rfl, rfl, rfl, rfl, rfl⟩ := pm_b_inj h
        exact ⟨rfl, rfl, lv_icmp_eq hx hb hd ht (fun hc => by simpa only [pm_pick, if_pos hc] using kk) (fun hc => by simpa only [pm_pick, if_neg hc] using kk)⟩
      · cases h
    case ne =>
      simp only [pm_x] at h
      split at h
      · obtain ⟨rfl, rfl, rfl, rfl, rfl, rfl, rfl, rfl⟩ := pm_b_inj h
        exact ⟨rfl, rfl, lv_icmp_ne hx hb hd ht (fun hc => by simpa only [pm_pick, if_neg hc] using kk) (fun hc => by simpa only [pm_pick, if_pos hc] using kk)⟩
      · cases h
    case lt =>
      simp only [pm_x] at h
      split at h
      · obtain ⟨rfl, rfl, rfl, rfl, rfl, rfl, rfl, rfl⟩ := pm_b_inj h
        exact ⟨rfl, rfl, lv_icmp_lt hx hb hd ht (fun hc => by simpa only [pm_pick, if_pos hc] using kk) (fun hc => by simpa only [pm_pick, if_neg hc] using kk)⟩
      · cases h
    case ge =>
      simp only [pm_x] at h
      split at h
      · obtain ⟨rfl, rfl, rfl, rfl, rfl, rfl, rfl, rfl⟩ := pm_b_inj h
        exact ⟨rfl, rfl, lv_icmp_ge hx hb hd ht (fun hc => by simpa only [pm_pick, if_neg (Int32.not_lt.mpr hc)] using kk) (fun hc => by simpa only [pm_pick, if_pos (Int32.not_le.mp hc)] using kk)⟩
      · cases h
    case gt =>
      simp only [pm_x] at h
      split at h
      · obtain ⟨rfl, rfl, rfl, rfl, rfl, rfl, rfl, rfl⟩ := pm_b_inj h
        exact ⟨rfl, rfl, lv_icmp_gt hx hb hd ht (fun hc => by simpa only [pm_pick, if_neg (Int32.not_le.mpr hc)] using kk) (fun hc => by simpa only [pm_pick, if_pos (Int32.not_lt.mp hc)] using kk)⟩
      · cases h
    case le =>
      simp only [pm_x] at h
      split at h
      · obtain ⟨rfl, rfl, rfl, rfl, rfl, rfl, rfl, rfl⟩ := pm_b_inj h
        exact ⟨rfl, rfl, lv_icmp_le hx hb hd ht (fun hc => by simpa only [pm_pick, if_pos hc] using kk) (fun hc => by simpa only [pm_pick, if_neg hc] using kk)⟩
      · cases h
  case invokespecial idx =>
    simp only [pm_x] at h
    split at h
    · split at h
      · exact (pm_n_nb (pm_cond h).2).elim
      · cases h
    · unfold pm_callI at h
      split at h
      · exact (pm_j_nb (pm_cond h).2).elim
      · cases h
  case invokevirtual idx =>
    simp only [pm_x] at h
    unfold pm_callV at h
    split at h
    · exact (pm_j_nb (pm_cond h).2).elim
    · cases h
  case invokestatic idx =>
    simp only [pm_x] at h
    unfold pm_call at h
    split at h
    · exact (pm_j_nb (pm_cond h).2).elim
    · cases h
  all_goals simp only [pm_x, Bool.cond_eq_ite] at h
  all_goals (repeat' split at h)
  all_goals first
    | exact (pm_n_nb h).elim
    | exact (pm_w_nb h).elim
    | exact (pm_j_nb h).elim
    | exact (pm_e_nb h).elim
    | cases h
theorem pm_j_ns {mj : Nat} {as : List Value} {nx : Nat} {ls : pm_L} {st : List Value} {S : pm_S} {g : Bool} {z} (h : pm_j mj as nx ls st S = some (g, .inr (.inr (.inl z)))) : False := by unfold pm_j at h; cases h
theorem pm_e_ns {b : Bool} {v : Option Value} {S : pm_S} {g : Bool} {z} (h : pm_e b v S = some (g, .inr (.inr (.inl z)))) : False := by unfold pm_e at h; cases h
theorem pm_b_ns {o : Nat} {x y : Int32} {t e : Nat} {ls : pm_L} {st : List Value} {S : pm_S} {g : Bool} {z} (h : pm_b o x y t e ls st S = some (g, .inr (.inr z))) : False := by unfold pm_b at h; cases h
set_option maxHeartbeats 1000000 in
theorem pm_swc (hx : p.tables.exec = Jvm.exec) (hb : c.code = (me mi).2.1) {q : pm_Q} (hq : pm_chk cl me mi q = true) {pl pl' : pm_L} {st st' : List Value} {S S' : pm_S} {x : Int32} {d0 : Nat} {ts : List Nat}
    (h : pm_x Sg Rt (me mi).2.2.2.1 q pl st S = some (true, .inr (.inr (.inl (x, d0, ts, pl', st', S'))))) {H : Heap} {locs : List Loc} {ls : Array Slot} {cells slots : Nat}
    (kk : W p l e R s m args below meth c H locs cells slots Q (F0 m (pm_wh x d0 ts 0) ls (st'.map (pm_rl ρ fv)))) : pl' = pl ∧ S' = S ∧ W p l e R s m args below meth c H locs cells slots Q (F0 m q.1 ls (st.map (pm_rl ρ fv))) := by
  obtain ⟨pc, ins, nx, w, xs, ci, cj⟩ := q
  cases ins
  case ifCond cnd o => cases cnd <;> (simp only [pm_x] at h; split at h <;> first | exact (pm_b_ns h).elim | cases h)
  case if_icmp cnd o => cases cnd <;> (simp only [pm_x] at h; split at h <;> first | exact (pm_b_ns h).elim | cases h)
  case invokespecial idx =>
    simp only [pm_x] at h
    split at h
    · split at h
      · exact (pm_n_nb (pm_cond h).2).elim
      · cases h
    · unfold pm_callI at h
      split at h
      · exact (pm_j_ns (pm_cond h).2).elim
      · cases h
  case invokevirtual idx =>
    simp only [pm_x] at h
    unfold pm_callV at h
    split at h
    · exact (pm_j_ns (pm_cond h).2).elim
    · cases h
  case invokestatic idx =>
    simp only [pm_x] at h
    unfold pm_call at h
    split at h
    · exact (pm_j_ns (pm_cond h).2).elim
    · cases h
  case tableswitch d lo hi offs =>
    simp only [pm_chk, Bool.and_eq_true] at hq
    obtain ⟨hd0, q1, q2, q3, q4, q5⟩ := hq
    obtain ⟨hd, -⟩ := pm_d_of hd0
    have q1 := of_decide_eq_true q1
    have q2 := of_decide_eq_true q2
    have q3 := of_decide_eq_true q3
    have q4 := of_decide_eq_true q4
    obtain ⟨q6, q7⟩ := pm_swk_at _ _ q5
    subst q1
    have hsz : offs.toList.length = offs.size := Array.length_toList
    simp only [pm_x] at h
    split at h
    · rename_i x2 r
      unfold pm_w at h
      cases h
      refine ⟨rfl, rfl, ?_⟩
      by_cases hin : x.toInt < 0 ∨ hi < x.toInt
      · rw [pm_wh_out] at kk
        · exact lv_tableOut hx hb hd hin q4 kk
        · intro i hi2 e
          rw [Nat.zero_add] at e
          have hti : x.toInt = (i : Int) := by rw [e]; exact nI_toInt (by omega)
          omega
      · have h0 : ¬ x.toInt < 0 := fun z => hin (Or.inl z)
        have h1 : ¬ hi < x.toInt := fun z => hin (Or.inr z)
        obtain ⟨i, hi2⟩ : ∃ i : Nat, x.toInt = (i : Int) := ⟨x.toInt.toNat, by omega⟩
        have hil : i < offs.toList.length := by omega
        have hxi : x = nI (0 + i) := by
          rw [Nat.zero_add]
          apply Int32.toInt_inj.mp
          rw [hi2, nI_toInt (by omega)]
        obtain ⟨o, e1, e2⟩ := q7 i hil
        rw [hxi, pm_wh_in _ 0 i (by omega) (by omega)] at kk
        refine lv_tableIn (off := o) hx hb hd h0 h1 ?_ e2 kk
        rw [hi2, show ((i : Int) - 0).toNat = i by omega, ← Array.getElem?_toList]
        exact e1
    · cases h
  all_goals simp only [pm_x, Bool.cond_eq_ite] at h
  all_goals (repeat' split at h)
  all_goals first
    | exact (pm_n_nb h).elim
    | exact (pm_j_ns h).elim
    | exact (pm_e_ns h).elim
    | cases h
/-- a method's answer -/
def pm_rt (ret : Option FieldType) (v : Option Value) (i : Instr) : Prop := (i = .ireturn ∧ ∃ x ty, v = some (.int x) ∧ ret = some ty ∧ narrow ty (.int x) = .int x) ∨ (i = .lreturn ∧ ∃ x, v = some (.long x) ∧ ret = some .long) ∨ (i = .return_ ∧ v = none ∧ ret = none)
theorem pm_n_nr {g g' : Bool} {pc : Nat} {ls : pm_L} {st : List Value} {S : pm_S} {z} (h : pm_n g pc ls st S = some (g', .inr z)) : False := by unfold pm_n at h; cases h
theorem pm_w_nr {x : Int32} {d : Nat} {ts : List Nat} {ls : pm_L} {st : List Value} {S : pm_S} {g : Bool} {z} (h : pm_w x d ts ls st S = some (g, .inr (.inr (.inr z)))) : False := by unfold pm_w at h; cases h
theorem pm_j_nr {mj : Nat} {as : List Value} {nx : Nat} {ls : pm_L} {st : List Value} {S : pm_S} {g : Bool} {z} (h : pm_j mj as nx ls st S = some (g, .inr (.inr (.inr (.inr z))))) : False := by unfold pm_j at h; cases h
theorem pm_e_inj {b g : Bool} {v v' : Option Value} {S S' : pm_S} (h : pm_e b v S = some (g, .inr (.inr (.inr (.inr (v', S')))))) : b = g ∧ v = v' ∧ S = S' := by unfold pm_e at h; cases h; exact ⟨rfl, rfl, rfl⟩
set_option maxHeartbeats 1000000 in
theorem pm_ret {q : pm_Q} (hq : pm_chk cl me mi q = true) {pl : pm_L} {st : List Value} {S S' : pm_S} {v : Option Value}
    (h : pm_x Sg Rt (me mi).2.2.2.1 q pl st S = some (true, .inr (.inr (.inr (.inr (v, S')))))) : S' = S ∧ ∃ i, decode (me mi).2.1 q.1 = .ok (i, 1) ∧ pm_rt (me mi).2.2.2.1 v i ∧ st.map (pm_rl ρ fv) = (v.map (pm_rl ρ fv)).toList := by
  obtain ⟨pc, ins, nx, w, xs, ci, cj⟩ := q
  cases ins
  case ifCond cnd o => cases cnd <;> (simp only [pm_x] at h; split at h <;> first | exact (pm_b_ns h).elim | cases h)
  case if_icmp cnd o => cases cnd <;> (simp only [pm_x] at h; split at h <;> first | exact (pm_b_ns h).elim | cases h)
  case invokespecial idx =>
    simp only [pm_x] at h
    split at h
    · split at h
      · exact (pm_n_nb (pm_cond h).2).elim
      · cases h
    · unfold pm_callI at h
      split at h
      · exact (pm_j_nr (pm_cond h).2).elim
      · cases h
  case invokevirtual idx =>
    simp only [pm_x] at h
    unfold pm_callV at h
    split at h
    · exact (pm_j_nr (pm_cond h).2).elim
    · cases h
  case invokestatic idx =>
    simp only [pm_x] at h
    unfold pm_call at h
    split at h
    · exact (pm_j_nr (pm_cond h).2).elim
    · cases h
  case ireturn =>
    obtain ⟨hd, -⟩ := pm_d_of (show pm_d _ _ _ _ 1 = true from hq)
    simp only [pm_x] at h
    split at h
    · rename_i x
      split at h
      · rename_i hr
        obtain ⟨hg, rfl, rfl⟩ := pm_e_inj h
        exact ⟨rfl, _, hd, Or.inl ⟨rfl, x, _, rfl, hr, rfl⟩, rfl⟩
      · rename_i hr
        obtain ⟨hg, rfl, rfl⟩ := pm_e_inj h
        exact ⟨rfl, _, hd, Or.inl ⟨rfl, x, _, rfl, hr, pm_nz x (of_decide_eq_true hg)⟩, rfl⟩
      · rename_i hr
        obtain ⟨hg, rfl, rfl⟩ := pm_e_inj h
        exact ⟨rfl, _, hd, Or.inl ⟨rfl, x, _, rfl, hr, congrArg Value.int (of_decide_eq_true hg)⟩, rfl⟩
      · rename_i hr
        obtain ⟨hg, rfl, rfl⟩ := pm_e_inj h
        exact ⟨rfl, _, hd, Or.inl ⟨rfl, x, _, rfl, hr, by have := of_decide_eq_true hg; first | exact congrArg Value.int this | (simp [narrow, this])⟩, rfl⟩
      · cases h
    · cases h
  case lreturn =>
    obtain ⟨hd, -⟩ := pm_d_of (show pm_d _ _ _ _ 1 = true from hq)
    simp only [pm_x] at h
    split at h
    · rename_i x
      split at h
      · rename_i hr
        obtain ⟨hg, rfl, rfl⟩ := pm_e_inj h
        exact ⟨rfl, _, hd, Or.inr (Or.inl ⟨rfl, x, rfl, hr⟩), rfl⟩
      · cases h
    · cases h
  case return_ =>
    obtain ⟨hd, -⟩ := pm_d_of (show pm_d _ _ _ _ 1 = true from hq)
    simp only [pm_x] at h
    split at h
    · split at h
      · rename_i hr
        obtain ⟨hg, rfl, rfl⟩ := pm_e_inj h
        exact ⟨rfl, _, hd, Or.inr (Or.inr ⟨rfl, rfl, hr⟩), rfl⟩
      · cases h
    · cases h
  all_goals simp only [pm_x, Bool.cond_eq_ite] at h
  all_goals (repeat' split at h)
  all_goals first
    | exact (pm_n_nr h).elim
    | exact (pm_w_nr h).elim
    | exact (pm_j_nr h).elim
    | cases h
end
end
section
section
variable {p : Program} {l : Launch} {e : Env} {R : Room} {s : State} {m : MethodId} {args : Array Value} {below : List Frame} {meth : Method} {c : Code} {Q : State → Prop}
variable {me : Nat → pm_Me} {Sg : Nat → pm_K} {Rt : pm_T} {cl : List vw_C} {D : va_G} {cA : Nat → ClassId} {ρ : Nat → Nat} {fv : Value} {base : Nat} {tx : String} {mi c0 : Nat}
theorem pm_n_nc {g g' : Bool} {pc : Nat} {ls : pm_L} {st : List Value} {S : pm_S} {z} (h : pm_n g pc ls st S = some (g', .inr z)) : False := by unfold pm_n at h; cases h
theorem pm_w_nc {x : Int32} {d : Nat} {ts : List Nat} {ls : pm_L} {st : List Value} {S : pm_S} {g : Bool} {z} (h : pm_w x d ts ls st S = some (g, .inr (.inr (.inr z)))) : False := by unfold pm_w at h; cases h
theorem pm_e_nc {b : Bool} {v : Option Value} {S : pm_S} {g : Bool} {z} (h : pm_e b v S = some (g, .inr (.inr (.inr (.inl z))))) : False := by unfold pm_e at h; cases h
theorem pm_j_inj {mj mj' : Nat} {as as' : List Value} {nx nx' : Nat} {ls ls' : pm_L} {st st' : List Value} {S S' : pm_S} (h : pm_j mj as nx ls st S = some (true, .inr (.inr (.inr (.inl (mj', as', nx', ls', st', S')))))) : mj = mj' ∧ as = as' ∧ nx = nx' ∧ ls = ls' ∧ st = st' ∧ S = S' := by
  unfold pm_j at h
  cases h
  exact ⟨rfl, rfl, rfl, rfl, rfl, rfl⟩
theorem pm_goodL {ws : List Cond} (h : ∀ w ∈ ws, w ∈ pm_G) : GoodIn pm_G ws := fun w hw => ⟨h w hw, good_of_word (List.mem_filter.mp (h w hw)).2⟩
theorem pm_cc_of {mj n wi wc : Nat} (h : pm_cc me mi mj n wi wc = true) : Cond.initialized (me mj).1.cls ∈ pm_G ∧ Cond.code (me mj).1 (me mj).2.1 (me mj).2.2.1 (me mj).2.2.2.1 ∈ pm_G ∧ (me mj).1.cls ≠ "java/lang/invoke/MethodHandle" ∧ (me mj).1.cls ≠ "java/lang/invoke/VarHandle" ∧ (parseMethodDescriptor (me mj).1.desc).map (fun d => d.parameters.length) = some n ∧ (me mj).2.2.2.2.1 + 1 ≤ (me mi).2.2.2.2.1 ∧ 8 + ((me mj).2.2.1 + 11) + (me mj).2.2.2.2.2.1 ≤ (me mi).2.2.2.2.2.1 ∧ plainFor (me mj).1 = true := by
  simp only [pm_cc, Bool.and_eq_true] at h
  obtain ⟨h1, h2, h3, h4, h5, h6, h7, h8⟩ := h
  exact ⟨pm_wk_of h1, pm_wk_of h2, of_decide_eq_true h3, of_decide_eq_true h4, of_decide_eq_true h5, Nat.le_of_ble_eq_true h6, Nat.le_of_ble_eq_true h7, h8⟩
theorem pm_lst {st as rest : List Value} {n : Nat} (h : pm_pop n [] st = some (as, rest)) : st.map (pm_rl ρ fv) = (as.map (pm_rl ρ fv)).reverse ++ rest.map (pm_rl ρ fv) ∧ as.length = n := by
  obtain ⟨xs, h1, h2, h3⟩ := pm_pop_eq n h
  rw [h1, h2]
  simp [h3]
theorem pm_catL (hfv : fv = .null ∨ ∃ t, fv = .ref t) (rest : List Value) : ((rest.map (pm_rl ρ fv)).map fun v => v.category).sum = pm_wd rest := by
  rw [List.map_map, ← pm_wd_sum]
  exact congrArg List.sum (List.map_congr_left fun v _ => pm_rl_cat hfv v)
theorem pm_call_same {ret : Option FieldType} {q : pm_Q} {pl pl' : pm_L} {st st' as : List Value} {S S1 : pm_S} {mj nx : Nat} {g : Bool}
    (h : pm_x Sg Rt ret q pl st S = some (g, .inr (.inr (.inr (.inl (mj, as, nx, pl', st', S1)))))) : pl' = pl ∧ S1 = S := by
  obtain ⟨pc, ins, nx0, w, xs, ci, cj⟩ := q
  have hJ : ∀ {mj' nx' : Nat} {as' : List Value} {st2 : List Value}, pm_j mj' as' nx' pl st2 S = some (g, .inr (.inr (.inr (.inl (mj, as, nx, pl', st', S1))))) → pl' = pl ∧ S1 = S := fun h => by unfold pm_j at h; cases h; exact ⟨rfl, rfl⟩
  cases ins
  case ifCond cnd o => cases cnd <;> (simp only [pm_x] at h; split at h <;> first | exact (pm_b_ns h).elim | cases h)
  case if_icmp cnd o => cases cnd <;> (simp only [pm_x] at h; split at h <;> first | exact (pm_b_ns h).elim | cases h)
  case invokespecial idx =>
    simp only [pm_x] at h
    split at h
    · split at h
      · exact (pm_n_nc (pm_cond h).2).elim
      · cases h
    · unfold pm_callI at h
      split at h
      · exact hJ (pm_cond h).2
      · cases h
  case invokevirtual idx =>
    simp only [pm_x] at h
    unfold pm_callV at h
    split at h
    · exact hJ (pm_cond h).2
    · cases h
  case invokestatic idx =>
    simp only [pm_x] at h
    unfold pm_call at h
    split at h
    · exact hJ (pm_cond h).2
    · cases h
  all_goals simp only [pm_x, Bool.cond_eq_ite] at h
  all_goals (repeat' split at h)
  all_goals first
    | exact (pm_n_nc h).elim
    | exact (pm_w_nc h).elim
    | exact (pm_e_nc h).elim
    | cases h
set_option maxHeartbeats 2000000 in
theorem pm_cll (h1 : pm_E1 me Sg cl) (h2 : pm_E2 me mi p s m args meth c R D cl cA Rt ρ fv base tx c0) (h3 : pm_E3 Rt ρ fv base) {q : pm_Q} (hq : pm_chk cl me mi q = true) {pl pl' : pm_L} {st st' as : List Value} {S S1 S2 : pm_S} {mj nx : Nat} {v1 : Option Value}
    (h : pm_x Sg Rt (me mi).2.2.2.1 q pl st S = some (true, .inr (.inr (.inr (.inl (mj, as, nx, pl', st', S1)))))) {H : Heap} {locs : List Loc} {ls : Array Slot} (hc0 : c0 ≤ S.1) (hI : pm_I D cl ρ fv cA Sg base S s H locs) (hL : pm_LH ρ fv (me mi).2.2.1 ls pl)
    (hM : plainFor (me mj).1 = true → S.1 ≤ 200 → Met l (me mj).1 (pm_wo (me mj)) (pm_rm Sg (me mj) S S2) (pm_Pc D cl cA Sg Rt ρ fv base tx as S) (pm_Qc D cl cA Sg ρ fv base v1 S2) (S2.1 - S.1) (pm_ss Sg S2.1 - pm_ss Sg S.1) (fun q => base ≤ q)) (hle : S.1 ≤ S2.1) (hR1 : S2.1 - c0 ≤ R.cells) (hR2 : pm_ss Sg S2.1 - pm_ss Sg c0 ≤ R.slots)
    (kk : ∀ (H1 : Heap) (locs1 : List Loc), pm_I D cl ρ fv cA Sg base S2 s H1 locs1 → W p l e R s m args below meth c H1 locs1 (S2.1 - c0) (pm_ss Sg S2.1 - pm_ss Sg c0) Q (F0 m nx ls ((v1.toList ++ st').map (pm_rl ρ fv)))) :
    pl' = pl ∧ S1 = S ∧ W p l e R s m args below meth c H locs (S.1 - c0) (pm_ss Sg S.1 - pm_ss Sg c0) Q (F0 m q.1 ls (st.map (pm_rl ρ fv))) := by
  obtain ⟨hx, hb, hml, hown, hmn, hts, hfr, hlo, hK, hZ, hN, hsz⟩ := h2
  obtain ⟨hρ, hfv, hRt⟩ := h3
  obtain ⟨hP, hS, hn2⟩ := id hI
  have hm1 := pm_ss_mono Sg hc0
  have hm2 := pm_ss_mono Sg hle
  have ec : S.1 - c0 + (S2.1 - S.1) = S2.1 - c0 := by omega
  have es : pm_ss Sg S.1 - pm_ss Sg c0 + (pm_ss Sg S2.1 - pm_ss Sg S.1) = pm_ss Sg S2.1 - pm_ss Sg c0 := by omega
  have hf : S.1 - c0 + (S2.1 - S.1) ≤ R.cells ∧ pm_ss Sg S.1 - pm_ss Sg c0 + (pm_ss Sg S2.1 - pm_ss Sg S.1) ≤ R.slots := by rw [ec, es]; exact ⟨hR1, hR2⟩
  have hpc : H.size = base + S.1 → ∀ U : State, U.heap = H → s.WarmedH U.vm → pm_Pc D cl cA Sg Rt ρ fv base tx as S (as.map (pm_rl ρ fv)).toArray U := by
    intro hz U hU hW
    refine ⟨rfl, by rw [hU]; exact hz, by rw [hU]; exact hP, va_K.moved hW.alike hK, ?_, hN.warm hW, hn2⟩
    rw [hU]
    exact (hZ.kept hS.2.1).moved hW.alike
  have hst : ∀ (H1 : Heap) (locs1 : List Loc), pm_I D cl ρ fv cA Sg base S2 s H1 locs1 → W p l e R s m args below meth c H1 locs1 (S.1 - c0 + (S2.1 - S.1)) (pm_ss Sg S.1 - pm_ss Sg c0 + (pm_ss Sg S2.1 - pm_ss Sg S.1)) Q (F0 m nx ls ((v1.map (pm_rl ρ fv)).toList ++ st'.map (pm_rl ρ fv))) := by
    intro H1 locs1 hI1
    have := kk H1 locs1 hI1
    rw [List.map_append] at this
    rw [ec, es]
    cases v1 <;> exact this
  have hrl : ∀ r, r ≠ 204 → pm_rl ρ fv (.ref r) = .ref (ρ r) := fun r hr => by
    show (if r = 204 then fv else Value.ref (ρ r)) = _
    rw [if_neg hr]
  obtain ⟨pc, ins, nx0, w, xs, ci, cj⟩ := q
  cases ins
  case ifCond cnd o => cases cnd <;> (simp only [pm_x] at h; split at h <;> first | exact (pm_b_ns h).elim | cases h)
  case if_icmp cnd o => cases cnd <;> (simp only [pm_x] at h; split at h <;> first | exact (pm_b_ns h).elim | cases h)
  case invokestatic idx =>
    simp only [pm_chk, Bool.and_eq_true] at hq
    obtain ⟨hd0, q1, q2, q3⟩ := hq
    obtain ⟨hd, rfl⟩ := pm_d_of hd0
    simp only [pm_x] at h
    unfold pm_call at h
    split at h
    · rename_i as0 rest0 hpop
      replace h := pm_cond h
      obtain ⟨h8, h⟩ := h
      obtain ⟨rfl, rfl, rfl, rfl, rfl, rfl⟩ := pm_j_inj h
      refine ⟨rfl, rfl, ?_⟩
      obtain ⟨e1, e2⟩ := pm_lst (ρ := ρ) (fv := fv) hpop
      obtain ⟨c1, c2, c3, c4, c5, c6, c7, c8⟩ := pm_cc_of q3
      refine pm_siz hρ hsz hc0 hI fun hz => ?_
      have hM := hM c8 hn2
      have h8 := Nat.le_of_ble_eq_true h8
      have hmr : 2 * (F0 m pc ls (st.map (pm_rl ρ fv))).monitorRoom + ((rest0.map (pm_rl ρ fv)).map fun v => v.category).sum ≤ 8 := lv_room (by rw [pm_catL hfv]; exact h8)
      unfold pm_lnk at q1
      split at q1
      · refine pm_after (va_runS (As := as0.map (pm_rl ρ fv)) (rest := rest0.map (pm_rl ρ fv)) ⟨hx, hb, hml, hown, hts⟩ hM (va_cwS (xs.getD 1 0) hts (pm_goodL ?_) rfl rfl rfl ⟨c3, c4, c5⟩ ⟨Nat.le_trans c6 hfr, Nat.le_trans c7 hlo⟩) ⟨pm_blind, hpc hz⟩ rfl (by rw [List.length_map]; exact e2) hL.1 e1 hmr hd hf) hS hst
        intro w hw
        rcases List.mem_append.mp hw with h | h
        · rcases List.mem_cons.mp h with rfl | h
          · exact pm_wk_of q1
          · rcases List.mem_cons.mp h with rfl | h
            · exact pm_wk_of q2
            · rw [List.mem_singleton.mp h]; exact c1
        · rcases List.mem_cons.mp h with rfl | h
          · exact c2
          · exact h
      · exact pm_after (va_runSN (As := as0.map (pm_rl ρ fv)) (rest := rest0.map (pm_rl ρ fv)) ⟨hx, hb, hml, hown, hts⟩ hM ⟨va_cnB (xs.getD 1 0) hts (pm_good c2) rfl rfl rfl (hN.1 _ (pm_wn_of q1) rfl) (hts _ c1) ⟨c3, c4, c5⟩ ⟨Nat.le_trans c6 hfr, Nat.le_trans c7 hlo⟩, hts _ (pm_wk_of q2), trivial⟩ ⟨pm_blind, hpc hz⟩ rfl (by rw [List.length_map]; exact e2) hL.1 e1 hmr hd hf) hS hst
    · cases h
  case invokevirtual idx =>
    simp only [pm_chk, Bool.and_eq_true] at hq
    obtain ⟨hd0, q1, q2, q3, q4, q5⟩ := hq
    obtain ⟨hd, rfl⟩ := pm_d_of hd0
    simp only [pm_x] at h
    unfold pm_callV at h
    split at h
    · rename_i r as0 rest0 hpop
      replace h := pm_cond h
      obtain ⟨hg, h⟩ := h
      rw [Bool.and_eq_true] at hg
      obtain ⟨hrc, h8⟩ := hg
      obtain ⟨rfl, rfl, rfl, rfl, rfl, rfl⟩ := pm_j_inj h
      refine ⟨rfl, rfl, ?_⟩
      obtain ⟨e1, e2⟩ := pm_lst (ρ := ρ) (fv := fv) hpop
      obtain ⟨c1, c2, c3, c4, c5, c6, c7, c8⟩ := pm_cc_of q4
      refine pm_siz hρ hsz hc0 hI fun hz => ?_
      have hM := hM c8 hn2
      have h8 := Nat.le_of_ble_eq_true h8
      have hmr : 2 * (F0 m pc ls (st.map (pm_rl ρ fv))).monitorRoom + ((rest0.map (pm_rl ρ fv)).map fun v => v.category).sum ≤ 8 := lv_room (by rw [pm_catL hfv]; exact h8)
      have hrec : pm_rl ρ fv (.ref r) = .ref (ρ r) ∧ ∃ cellB : Cell, H[ρ r]? = some cellB ∧ cellB.vm.isStatics = false ∧ s.vm.findClass (me (xs.getD 0 0)).1.cls = some cellB.cls := by
        unfold pm_rc at hrc
        cases h99 : Nat.beq (xs.getD 3 0) 99 with
        | true =>
          rw [h99] at hrc q5
          have hr : r = 201 := Nat.eq_of_beq_eq_true hrc
          have hy : (me (xs.getD 0 0)).1.cls = "java/lang/String" := of_decide_eq_true q5
          subst hr
          refine ⟨hrl 201 (by decide), ?_⟩
          obtain ⟨cell, g1, g2, g3, -⟩ := hZ.2.2.2.2.2.1.kept hS.2.1
          exact ⟨cell, g1, g2, by rw [hy]; exact g3⟩
        | false =>
          rw [h99] at hrc q5
          simp only [cond_false, Bool.and_eq_true] at hrc
          have hr : r < S.1 := by simpa [Nat.blt_eq] using hrc.1
          refine ⟨hrl r (Nat.ne_of_lt (Nat.lt_of_lt_of_le hr (Nat.le_trans hn2 (by decide)))), ?_⟩
          have hrc2 := hrc.2
          split at hrc2
          · rename_i c' ks hs
            have hce := Nat.eq_of_beq_eq_true hrc2
            simp only [cond_false] at q5
            split at q5
            · rename_i C T N hcl
              have hy : (me (xs.getD 0 0)).1.cls = C := of_decide_eq_true q5
              have hat : (pm_ws ρ fv cA Sg S)[r]? = some (ρ r, .inr (c', ks.mapIdx (fun k kd => pm_val ρ fv S r k kd))) := by
                rw [pm_ws_at hr, hs]
                rfl
              rw [hce] at hat
              obtain ⟨cell, g1, g2, g3⟩ := va_recv hK hP hcl hat
              exact ⟨cell, g1, g2, by rw [hy]; exact g3⟩
            · cases q5
          · cases hrc2
      obtain ⟨hr1, hr2⟩ := hrec
      have hpc2 := hpc hz
      rw [List.map_cons, hr1] at hpc2 e1
      rw [List.reverse_cons, List.append_assoc] at e1
      have e3 : (as0.map (pm_rl ρ fv)).length = xs.getD 1 0 - 1 := by
        rw [List.length_map]
        exact Nat.eq_sub_of_add_eq e2
      unfold pm_lnk at q1
      split at q1
      · refine pm_after (a := (Value.ref (ρ r) :: as0.map (pm_rl ρ fv)).toArray) (va_runV (As := as0.map (pm_rl ρ fv)) (rest := rest0.map (pm_rl ρ fv)) ⟨hx, hb, hml, hown, hts⟩ hM (cwV (xs.getD 1 0 - 1) hts (pm_goodL ?_) rfl rfl rfl ⟨rfl, c3, c4, c5⟩ ⟨Nat.le_trans c6 hfr, Nat.le_trans c7 hlo⟩) ⟨pm_blind, hr2, hpc2⟩ rfl e3 hL.1 e1 hmr hd hf) hS hst
        intro w hw
        rcases List.mem_append.mp hw with h | h
        · rcases List.mem_cons.mp h with rfl | h
          · exact pm_wk_of q1
          · rcases List.mem_cons.mp h with rfl | h
            · exact pm_wk_of q2
            · rcases List.mem_cons.mp h with rfl | h
              · exact pm_wk_of q3
              · rw [List.mem_singleton.mp h]; exact c1
        · rcases List.mem_cons.mp h with rfl | h
          · exact c2
          · exact h
      · exact pm_after (a := (Value.ref (ρ r) :: as0.map (pm_rl ρ fv)).toArray) (va_runVN (As := as0.map (pm_rl ρ fv)) (rest := rest0.map (pm_rl ρ fv)) ⟨hx, hb, hml, hown, hts⟩ hM ⟨va_cnB (xs.getD 1 0 - 1) hts (pm_good c2) rfl rfl rfl (hN.1 _ (pm_wn_of q1) rfl) (hts _ c1) ⟨c3, c4, c5⟩ ⟨Nat.le_trans c6 hfr, Nat.le_trans c7 hlo⟩, hts _ (pm_wk_of q2), hts _ (pm_wk_of q3)⟩ ⟨pm_blind, hr2, hpc2⟩ rfl e3 hL.1 e1 hmr hd hf) hS hst
    · cases h
  case invokespecial idx =>
    simp only [pm_x] at h
    split at h
    · split at h
      · exact (pm_n_nc (pm_cond h).2).elim
      · cases h
    · rename_i hxs
      simp only [pm_chk, Bool.and_eq_true] at hq
      obtain ⟨hd0, hq⟩ := hq
      obtain ⟨hd, rfl⟩ := pm_d_of hd0
      have hq2 : (pm_lnk (me mi).1.cls idx w (xs.getD 2 0) (me (xs.getD 0 0)).1 && (pm_wk (xs.getD 3 0) (.instanceMethod (me (xs.getD 0 0)).1) && (decide ((me (xs.getD 0 0)).1.name = "<init>") && (decide ((me (xs.getD 0 0)).2.2.2.1 = none) && pm_cc me mi (xs.getD 0 0) (xs.getD 1 0 - 1) (xs.getD 4 0) (xs.getD 5 0))))) = true := by
        cases xs with
        | nil => exact (hxs rfl).elim
        | cons x0 x1 => simp only [Bool.and_eq_true]; exact hq
      simp only [Bool.and_eq_true] at hq2
      obtain ⟨q1, q2, q3, q4, q5⟩ := hq2
      have q3 := of_decide_eq_true q3
      have q4 := of_decide_eq_true q4
      unfold pm_callI at h
      split at h
      · rename_i r as0 rest0 hpop
        replace h := pm_cond h
        obtain ⟨hg, h⟩ := h
        rw [Bool.and_eq_true] at hg
        obtain ⟨hrc, h8⟩ := hg
        have hr : r < S.1 := by simpa [Nat.blt_eq] using hrc
        obtain ⟨rfl, rfl, rfl, rfl, rfl, rfl⟩ := pm_j_inj h
        refine ⟨rfl, rfl, ?_⟩
        obtain ⟨e1, e2⟩ := pm_lst (ρ := ρ) (fv := fv) hpop
        obtain ⟨c1, c2, c3, c4, c5, c6, c7, c8⟩ := pm_cc_of q5
        refine pm_siz hρ hsz hc0 hI fun hz => ?_
        have hM := hM c8 hn2
        have h8 := Nat.le_of_ble_eq_true h8
        have hmr : 2 * (F0 m pc ls (st.map (pm_rl ρ fv))).monitorRoom + ((rest0.map (pm_rl ρ fv)).map fun v => v.category).sum ≤ 8 := lv_room (by rw [pm_catL hfv]; exact h8)
        have hr1 := hrl r (Nat.ne_of_lt (Nat.lt_of_lt_of_le hr (Nat.le_trans hn2 (by decide))))
        have hpc2 := hpc hz
        rw [List.map_cons, hr1] at hpc2 e1
        rw [List.reverse_cons, List.append_assoc] at e1
        have e3 : (as0.map (pm_rl ρ fv)).length = xs.getD 1 0 - 1 := by
          rw [List.length_map]
          exact Nat.eq_sub_of_add_eq e2
        have hwo : pm_wo (me (xs.getD 0 0)) = Cond.code (me (xs.getD 0 0)).1 (me (xs.getD 0 0)).2.1 (me (xs.getD 0 0)).2.2.1 none :: pm_G := by
          unfold pm_wo
          rw [q4]
        unfold pm_lnk at q1
        split at q1
        · exact pm_after (a := (Value.ref (ρ r) :: as0.map (pm_rl ρ fv)).toArray) (va_runI (As := as0.map (pm_rl ρ fv)) (rest := rest0.map (pm_rl ρ fv)) ⟨hx, hb, hml, hown, hts⟩ hM (cwI (xs.getD 1 0 - 1) hts (pm_good c2) hwo rfl rfl (hts _ c1) (hts _ (pm_wk_of q1)) (hts _ (pm_wk_of q2)) q3 ⟨c3, c4, c5⟩ ⟨Nat.le_trans c6 hfr, Nat.le_trans c7 hlo⟩) ⟨pm_blind, hpc2⟩ rfl e3 hL.1 e1 hmr hd hf) hS hst
        · exact pm_after (a := (Value.ref (ρ r) :: as0.map (pm_rl ρ fv)).toArray) (va_runIN (As := as0.map (pm_rl ρ fv)) (rest := rest0.map (pm_rl ρ fv)) ⟨hx, hb, hml, hown, hts⟩ hM ⟨va_cnB (xs.getD 1 0 - 1) hts (pm_good c2) hwo rfl rfl (hN.1 _ (pm_wn_of q1) rfl) (hts _ c1) ⟨c3, c4, c5⟩ ⟨Nat.le_trans c6 hfr, Nat.le_trans c7 hlo⟩, q3, hts _ (pm_wk_of q2)⟩ ⟨pm_blind, hpc2⟩ rfl e3 hL.1 e1 hmr hd hf) hS hst
      · cases h
  all_goals simp only [pm_x, Bool.cond_eq_ite] at h
  all_goals (repeat' split at h)
  all_goals first
    | exact (pm_n_nc h).elim
    | exact (pm_w_nc h).elim
    | exact (pm_e_nc h).elim
    | cases h
end
set_option maxHeartbeats 1000000 in
/-- what the pure machine answers, the machine answers -/
theorem pm_W {me : Nat → pm_Me} {Sg : Nat → pm_K} {Rt : pm_T} {cl : List vw_C} {D : va_G} {cA : Nat → ClassId} {ρ : Nat → Nat} {fv : Value} {base : Nat} {tx : String} (h1 : pm_E1 me Sg cl) (h3 : pm_E3 Rt ρ fv base) : ∀ (n : Nat) {mi pc : Nat} {pl : pm_L} {st : List Value} {S S' : pm_S} {v : Option Value}, pm_run me Sg Rt n mi pc pl st S = some (v, S') →
    ∀ {p : Program} {l : Launch} {e : Env} {R : Room} {s : State} {m : MethodId} {args : Array Value} {below : List Frame} {meth : Method} {c : Code} {Q : State → Prop} {c0 : Nat}, pm_E2 me mi p s m args meth c R D cl cA Rt ρ fv base tx c0 → c0 ≤ S.1 → S'.1 - c0 ≤ R.cells → pm_ss Sg S'.1 - pm_ss Sg c0 ≤ R.slots →
    (∀ (H : Heap) (locs : List Loc) (ls : Array Slot) (pc : Nat) (i : Instr), decode (me mi).2.1 pc = .ok (i, 1) → pm_rt (me mi).2.2.2.1 v i → pm_I D cl ρ fv cA Sg base S' s H locs → W p l e R s m args below meth c H locs (S'.1 - c0) (pm_ss Sg S'.1 - pm_ss Sg c0) Q (F0 m pc ls (v.map (pm_rl ρ fv)).toList)) →
    ∀ {H : Heap} {locs : List Loc} {ls : Array Slot}, pm_I D cl ρ fv cA Sg base S s H locs → pm_LH ρ fv (me mi).2.2.1 ls pl → W p l e R s m args below meth c H locs (S.1 - c0) (pm_ss Sg S.1 - pm_ss Sg c0) Q (F0 m pc ls (st.map (pm_rl ρ fv))) := by
  intro n
  induction n with
  | zero => intro mi pc pl st S S' v h; cases h
  | succ n ih =>
    intro mi pc pl st S S' v h p l e R s m args below meth c Q c0 h2 hc0 hR1 hR2 hend H locs ls hI hL
    replace h : pm_body me Sg Rt (pm_run me Sg Rt n) mi pc pl st S = some (v, S') := h
    unfold pm_body at h
    split at h
    · rename_i q hqa
      obtain ⟨hqm, hqp⟩ := pm_at_mem hqa
      have hq := h1.1 mi q hqm
      subst hqp
      cases hz : pm_x Sg Rt (me mi).2.2.2.1 q pl st S with
      | none => rw [hz] at h; cases h
      | some gc =>
        obtain ⟨g, k⟩ := gc
        rw [hz] at h
        have hle := pm_x_cnt hz
        replace h := pm_cond (show (bif g then pm_dc me (pm_run me Sg Rt n) mi k else none) = some (v, S') from h)
        obtain ⟨rfl, h⟩ := h
        rcases k with ⟨pc', ls', st', S1⟩ | ⟨o, x, y, t, e', ls', st', S1⟩ | ⟨x, d, ts, ls', st', S1⟩ | ⟨mj, as, nx, ls', st', S1⟩ | ⟨v1, S1⟩
        · have hle2 := pm_cnt n h
          have hm2 := pm_ss_mono Sg hle2
          exact pm_next h1 h2 h3 hq hz hc0 hI hL (by have : S1.1 ≤ S'.1 := hle2; omega) (by omega) (fun H' locs' ls2 hI' hL' => ih h h2 (Nat.le_trans hc0 hle) hR1 hR2 hend hI' hL')
        · have hb2 : pm_run me Sg Rt n mi (pm_pick o x y t e') ls' st' S1 = some (v, S') := by
            rcases o with _ | _ | o
            · show pm_run me Sg Rt n mi (if x = y then t else e') ls' st' S1 = _
              have h : (if x = y then pm_run me Sg Rt n mi t ls' st' S1 else pm_run me Sg Rt n mi e' ls' st' S1) = some (v, S') := h
              by_cases c1 : x = y
              · rw [if_pos c1] at h ⊢; exact h
              · rw [if_neg c1] at h ⊢; exact h
            · show pm_run me Sg Rt n mi (if x < y then t else e') ls' st' S1 = _
              have h : (if x < y then pm_run me Sg Rt n mi t ls' st' S1 else pm_run me Sg Rt n mi e' ls' st' S1) = some (v, S') := h
              by_cases c1 : x < y
              · rw [if_pos c1] at h ⊢; exact h
              · rw [if_neg c1] at h ⊢; exact h
            · show pm_run me Sg Rt n mi (if x ≤ y then t else e') ls' st' S1 = _
              have h : (if x ≤ y then pm_run me Sg Rt n mi t ls' st' S1 else pm_run me Sg Rt n mi e' ls' st' S1) = some (v, S') := h
              by_cases c1 : x ≤ y
              · rw [if_pos c1] at h ⊢; exact h
              · rw [if_neg c1] at h ⊢; exact h
          have key : ls' = pl ∧ S1 = S := by
            obtain ⟨e1, e2, -⟩ := pm_br (p := p) (l := l) (e := e) (R := R) (s := s) (m := m) (args := args) (below := below) (meth := meth) (c := c) (Q := fun _ => True) (ρ := ρ) (fv := fv) (H := H) (locs := locs) (ls := ls) (cells := 0) (slots := 0) h2.1 h2.2.1 hq hz (fun T hT X => ⟨_, Steps.refl _, trivial⟩)
            exact ⟨e1, e2⟩
          obtain ⟨rfl, rfl⟩ := key
          exact (pm_br h2.1 h2.2.1 hq hz (ih hb2 h2 hc0 hR1 hR2 hend hI hL)).2.2
        · have hb2 : pm_run me Sg Rt n mi (pm_wh x d ts 0) ls' st' S1 = some (v, S') := (pm_sw_wh (k := fun t => pm_run me Sg Rt n mi t ls' st' S1) ts 0).symm.trans h
          have key : ls' = pl ∧ S1 = S := by
            obtain ⟨e1, e2, -⟩ := pm_swc (p := p) (l := l) (e := e) (R := R) (s := s) (m := m) (args := args) (below := below) (meth := meth) (c := c) (Q := fun _ => True) (ρ := ρ) (fv := fv) (H := H) (locs := locs) (ls := ls) (cells := 0) (slots := 0) h2.1 h2.2.1 hq hz (fun T hT X => ⟨_, Steps.refl _, trivial⟩)
            exact ⟨e1, e2⟩
          obtain ⟨rfl, rfl⟩ := key
          exact (pm_swc h2.1 h2.2.1 hq hz (ih hb2 h2 hc0 hR1 hR2 hend hI hL)).2.2
        · obtain ⟨v1, S2, g1, g2⟩ := pm_k_some h
          obtain ⟨g3, g4⟩ := pm_c_some g1
          have hle2 := pm_cnt n g4
          have hle3 := pm_cnt n g2
          obtain ⟨hls, hS1⟩ := pm_call_same hz
          subst hS1
          have hm2 := pm_ss_mono Sg hle3
          have hM : plainFor (me mj).1 = true → S1.1 ≤ 200 → Met l (me mj).1 (pm_wo (me mj)) (pm_rm Sg (me mj) S1 S2) (pm_Pc D cl cA Sg Rt ρ fv base tx as S1) (pm_Qc D cl cA Sg ρ fv base v1 S2) (S2.1 - S1.1) (pm_ss Sg S2.1 - pm_ss Sg S1.1) (fun q => base ≤ q) := by
            intro hpl h200
            refine va_MetF (cc := (me mj).2.1) (maxL := (me mj).2.2.1) (ret := (me mj).2.2.2.1) hpl rfl ?_
            intro p e s m args below meth c s₁ B hml hv
            obtain ⟨rfl, hsz, hP, hK, hZ, hN, hn2⟩ := hv
            have hts := atoms_spec (ws := pm_wo (me mj)) B.pre
            have hE2 : pm_E2 me mj p s m (as.map (pm_rl ρ fv)).toArray meth c (headSpec (pm_wo (me mj)) (pm_rm Sg (me mj) S1 S2)).room D cl cA Rt ρ fv base tx S1.1 := ⟨B.exec, B.bytes, hml, findClass_of_methodNamed B.named, fun hn => (name_of_methodNamed B.named B.method).1.trans hn, fun w hw => hts w (List.mem_cons_of_mem _ hw), Nat.le_refl _, Nat.le_refl _, hK, hZ, hN, hsz⟩
            rw [lg_entry_eq]
            have := ih (l := l) (e := e) (Q := MQ below (pm_Qc D cl cA Sg ρ fv base v1 S2) (as.map (pm_rl ρ fv)).toArray s (S2.1 - S1.1) (pm_ss Sg S2.1 - pm_ss Sg S1.1) (fun q => base ≤ q)) (below := below) g4 hE2 (Nat.le_refl _) (Nat.le_refl _) (Nat.le_refl _) (fun H1 locs1 ls1 pc1 i hdi hrt hI1 => ?_) ⟨hP, va_S.rf, hn2⟩ (pm_entry h3.2.1 (Nat.le_of_ble_eq_true g3))
            · rw [Nat.sub_self, Nat.sub_self] at this
              exact this
            · obtain ⟨hP1, hS1, hn1⟩ := hI1
              have hq1 : ∀ t : State, t.heap = H1 → s.WarmedH t.vm → pm_Qc D cl cA Sg ρ fv base v1 S2 (as.map (pm_rl ρ fv)).toArray s (.returned (v1.map (pm_rl ρ fv))) t := fun t ht _ => ⟨rfl, by rw [ht]; exact hP1, hS1.F ht, hn1⟩
              rcases hrt with ⟨rfl, x, ty, rfl, hret, hnar⟩ | ⟨rfl, x, rfl, hret⟩ | ⟨rfl, rfl, hret⟩
              · exact W.zret B.exec B.bytes (B.returns.trans hret) hnar hq1 hS1.2.2 hdi
              · exact W.lret B.exec B.bytes (B.returns.trans hret) hq1 hS1.2.2 hdi
              · exact W.vret B.exec B.bytes (B.returns.trans hret) hq1 hS1.2.2 hdi
          subst hls
          exact (pm_cll h1 h2 h3 hq hz hc0 hI hL hM hle2 (by omega) (by omega) (fun H1 locs1 hI1 => ih g2 h2 (Nat.le_trans hc0 hle2) hR1 hR2 hend hI1 hL)).2.2
        · cases h
          obtain ⟨rfl, i, hdi, hrt, hst⟩ := pm_ret (ρ := ρ) (fv := fv) hq hz
          rw [hst]
          exact hend H locs ls q.1 i hdi hrt hI
    · cases h
end
section
/-! ===== printed by gen/tables.py out of the claim's own texts: classes, methods, cells ===== -/
def pt_T0 : u_T := fun k => match k with
  | 0 => ("TurnCabinet", "tape", "LTurnCabinet$Tape;", true)
  | 1 => ("TurnCabinet", "house", "LTurnCabinet$House;", true)
  | 2 => ("TurnCabinet", "reader", "LTurnCabinet$Reader;", true)
  | 3 => ("TurnCabinet", "picks", "LTurnCabinet$Picks;", true)
  | 4 => ("TurnCabinet", "shares", "LTurnCabinet$Shares;", true)
  | 5 => ("TurnCabinet", "coalitions", "LTurnCabinet$Coalitions;", true)
  | 6 => ("TurnCabinet", "forming", "LTurnCabinet$Forming;", true)
  | _ => ("TurnCabinet", "cabinet", "LTurnCabinet$Cabinet;", true)
def pt_T1 : u_T := fun k => match k with
  | 0 => ("TurnCabinet$Tape", "bytes", "[B", true)
  | _ => ("TurnCabinet$Tape", "size", "I", false)
def pt_T2 : u_T := fun k => match k with
  | 0 => ("TurnCabinet$House", "parties", "I", false)
  | 1 => ("TurnCabinet$House", "offices", "I", false)
  | 2 => ("TurnCabinet$House", "first", "I", false)
  | 3 => ("TurnCabinet$House", "step", "I", false)
  | 4 => ("TurnCabinet$House", "needTold", "I", false)
  | 5 => ("TurnCabinet$House", "care", "I", false)
  | 6 => ("TurnCabinet$House", "tries", "I", false)
  | 7 => ("TurnCabinet$House", "tire", "I", false)
  | 8 => ("TurnCabinet$House", "edition", "I", false)
  | 9 => ("TurnCabinet$House", "version", "I", false)
  | 10 => ("TurnCabinet$House", "seats", "[I", true)
  | 11 => ("TurnCabinet$House", "places", "[I", true)
  | 12 => ("TurnCabinet$House", "walks", "[I", true)
  | 13 => ("TurnCabinet$House", "bars", "[I", true)
  | 14 => ("TurnCabinet$House", "worths", "[I", true)
  | _ => ("TurnCabinet$House", "stances", "[I", true)
def pt_T3 : u_T := fun k => match k with
  | 0 => ("TurnCabinet$Reader", "tape", "LTurnCabinet$Tape;", true)
  | 1 => ("TurnCabinet$Reader", "draft", "LTurnCabinet$House;", true)
  | 2 => ("TurnCabinet$Reader", "language", "[J", true)
  | 3 => ("TurnCabinet$Reader", "partyNames", "[J", true)
  | 4 => ("TurnCabinet$Reader", "officeNames", "[J", true)
  | 5 => ("TurnCabinet$Reader", "worthsTold", "[I", true)
  | 6 => ("TurnCabinet$Reader", "stancesTold", "[I", true)
  | 7 => ("TurnCabinet$Reader", "linesTold", "I", false)
  | 8 => ("TurnCabinet$Reader", "fault", "I", false)
  | 9 => ("TurnCabinet$Reader", "place", "I", false)
  | 10 => ("TurnCabinet$Reader", "at", "I", false)
  | 11 => ("TurnCabinet$Reader", "start", "I", false)
  | 12 => ("TurnCabinet$Reader", "kind", "I", false)
  | 13 => ("TurnCabinet$Reader", "value", "I", false)
  | 14 => ("TurnCabinet$Reader", "letters", "J", false)
  | _ => ("TurnCabinet$Reader", "word", "I", false)
def pt_T4 : u_T := fun k => match k with
  | 0 => ("TurnCabinet$Picks", "house", "LTurnCabinet$House;", true)
  | 1 => ("TurnCabinet$Picks", "choices", "[I", true)
  | 2 => ("TurnCabinet$Picks", "gains", "[J", true)
  | 3 => ("TurnCabinet$Picks", "lanes", "[I", true)
  | 4 => ("TurnCabinet$Picks", "laneBits", "I", false)
  | 5 => ("TurnCabinet$Picks", "knownTurns", "I", false)
  | _ => ("TurnCabinet$Picks", "knownEdition", "I", false)
def pt_T5 : u_T := fun k => match k with
  | 0 => ("TurnCabinet$Shares", "house", "LTurnCabinet$House;", true)
  | 1 => ("TurnCabinet$Shares", "best", "[I", true)
  | _ => ("TurnCabinet$Shares", "worthOfSet", "[I", true)
def pt_T6 : u_T := fun k => match k with
  | 0 => ("TurnCabinet$Coalitions", "house", "LTurnCabinet$House;", true)
  | 1 => ("TurnCabinet$Coalitions", "picks", "LTurnCabinet$Picks;", true)
  | 2 => ("TurnCabinet$Coalitions", "seatsIn", "[I", true)
  | 3 => ("TurnCabinet$Coalitions", "free", "[Z", true)
  | 4 => ("TurnCabinet$Coalitions", "learnt", "[Z", true)
  | 5 => ("TurnCabinet$Coalitions", "turns", "[I", true)
  | 6 => ("TurnCabinet$Coalitions", "foreseen", "[I", true)
  | 7 => ("TurnCabinet$Coalitions", "pays", "[I", true)
  | 8 => ("TurnCabinet$Coalitions", "griefs", "[I", true)
  | 9 => ("TurnCabinet$Coalitions", "rivals", "[I", true)
  | 10 => ("TurnCabinet$Coalitions", "standing", "[I", true)
  | 11 => ("TurnCabinet$Coalitions", "visited", "[Z", true)
  | 12 => ("TurnCabinet$Coalitions", "need", "I", false)
  | 13 => ("TurnCabinet$Coalitions", "knownEdition", "I", false)
  | _ => ("TurnCabinet$Coalitions", "knownVersion", "I", false)
def pt_T7 : u_T := fun k => match k with
  | 0 => ("TurnCabinet$Forming", "house", "LTurnCabinet$House;", true)
  | 1 => ("TurnCabinet$Forming", "coalitions", "LTurnCabinet$Coalitions;", true)
  | 2 => ("TurnCabinet$Forming", "tries", "[I", true)
  | 3 => ("TurnCabinet$Forming", "spent", "[Z", true)
  | 4 => ("TurnCabinet$Forming", "count", "I", false)
  | 5 => ("TurnCabinet$Forming", "rounds", "I", false)
  | 6 => ("TurnCabinet$Forming", "result", "I", false)
  | _ => ("TurnCabinet$Forming", "knownVersion", "I", false)
def pt_T8 : u_T := fun k => match k with
  | 0 => ("TurnCabinet$Cabinet", "house", "LTurnCabinet$House;", true)
  | 1 => ("TurnCabinet$Cabinet", "earlierCoalitions", "[I", true)
  | 2 => ("TurnCabinet$Cabinet", "earlierHolders", "[I", true)
  | 3 => ("TurnCabinet$Cabinet", "changedParties", "[I", true)
  | 4 => ("TurnCabinet$Cabinet", "earlierSeats", "[I", true)
  | 5 => ("TurnCabinet$Cabinet", "coalition", "I", false)
  | 6 => ("TurnCabinet$Cabinet", "holders", "I", false)
  | _ => ("TurnCabinet$Cabinet", "acts", "I", false)
def pt_T9 : u_T := fun k => match k with
  | 0 => ("TurnCabinetModel", "tape", "[I", true)
  | 1 => ("TurnCabinetModel", "taped", "I", false)
  | 2 => ("TurnCabinetModel", "bytes", "I", false)
  | 3 => ("TurnCabinetModel", "at", "I", false)
  | 4 => ("TurnCabinetModel", "place", "I", false)
  | 5 => ("TurnCabinetModel", "sort", "I", false)
  | 6 => ("TurnCabinetModel", "value", "I", false)
  | 7 => ("TurnCabinetModel", "letters", "I", false)
  | 8 => ("TurnCabinetModel", "fault", "I", false)
  | 9 => ("TurnCabinetModel", "faultPlace", "I", false)
  | 10 => ("TurnCabinetModel", "toldFault", "I", false)
  | 11 => ("TurnCabinetModel", "toldPlace", "I", false)
  | 12 => ("TurnCabinetModel", "word", "J", false)
  | 13 => ("TurnCabinetModel", "rParties", "I", false)
  | 14 => ("TurnCabinetModel", "rOffices", "I", false)
  | 15 => ("TurnCabinetModel", "rFirst", "I", false)
  | 16 => ("TurnCabinetModel", "rStep", "I", false)
  | 17 => ("TurnCabinetModel", "rNeed", "I", false)
  | 18 => ("TurnCabinetModel", "rCare", "I", false)
  | 19 => ("TurnCabinetModel", "rTries", "I", false)
  | 20 => ("TurnCabinetModel", "rTire", "I", false)
  | 21 => ("TurnCabinetModel", "rOnce", "I", false)
  | 22 => ("TurnCabinetModel", "rPartyName", "[J", true)
  | 23 => ("TurnCabinetModel", "rOfficeName", "[J", true)
  | 24 => ("TurnCabinetModel", "rSeats", "[I", true)
  | 25 => ("TurnCabinetModel", "rPlace", "[I", true)
  | 26 => ("TurnCabinetModel", "rWalk", "[I", true)
  | 27 => ("TurnCabinetModel", "rBars", "[I", true)
  | 28 => ("TurnCabinetModel", "rWorth", "[I", true)
  | 29 => ("TurnCabinetModel", "rStance", "[I", true)
  | 30 => ("TurnCabinetModel", "parties", "I", false)
  | 31 => ("TurnCabinetModel", "offices", "I", false)
  | 32 => ("TurnCabinetModel", "first", "I", false)
  | 33 => ("TurnCabinetModel", "step", "I", false)
  | 34 => ("TurnCabinetModel", "needTold", "I", false)
  | 35 => ("TurnCabinetModel", "care", "I", false)
  | 36 => ("TurnCabinetModel", "tries", "I", false)
  | 37 => ("TurnCabinetModel", "tire", "I", false)
  | 38 => ("TurnCabinetModel", "places", "[I", true)
  | 39 => ("TurnCabinetModel", "walk", "[I", true)
  | 40 => ("TurnCabinetModel", "bars", "[I", true)
  | 41 => ("TurnCabinetModel", "worth", "[I", true)
  | 42 => ("TurnCabinetModel", "stance", "[I", true)
  | 43 => ("TurnCabinetModel", "now", "[I", true)
  | 44 => ("TurnCabinetModel", "past", "[I", true)
  | 45 => ("TurnCabinetModel", "acts", "I", false)
  | 46 => ("TurnCabinetModel", "turn", "[I", true)
  | 47 => ("TurnCabinetModel", "had", "[I", true)
  | 48 => ("TurnCabinetModel", "got", "[I", true)
  | 49 => ("TurnCabinetModel", "choice", "[I", true)
  | 50 => ("TurnCabinetModel", "owner", "[I", true)
  | 51 => ("TurnCabinetModel", "swapped", "I", false)
  | 52 => ("TurnCabinetModel", "given", "[I", true)
  | 53 => ("TurnCabinetModel", "givenNext", "[I", true)
  | 54 => ("TurnCabinetModel", "pays", "[I", true)
  | 55 => ("TurnCabinetModel", "griefs", "[I", true)
  | 56 => ("TurnCabinetModel", "rivals", "[I", true)
  | 57 => ("TurnCabinetModel", "isLaid", "Z", false)
  | 58 => ("TurnCabinetModel", "was", "[Z", true)
  | 59 => ("TurnCabinetModel", "former", "[I", true)
  | 60 => ("TurnCabinetModel", "triedSet", "[I", true)
  | 61 => ("TurnCabinetModel", "walks", "[I", true)
  | 62 => ("TurnCabinetModel", "order", "[I", true)
  | 63 => ("TurnCabinetModel", "triedMany", "I", false)
  | 64 => ("TurnCabinetModel", "rounds", "I", false)
  | _ => ("TurnCabinetModel", "formedSet", "I", false)
def pt_cl : List vw_C := [("TurnCabinet", pt_T0, 8), ("TurnCabinet$Tape", pt_T1, 2), ("TurnCabinet$House", pt_T2, 16), ("TurnCabinet$Reader", pt_T3, 16), ("TurnCabinet$Picks", pt_T4, 7), ("TurnCabinet$Shares", pt_T5, 3), ("TurnCabinet$Coalitions", pt_T6, 15), ("TurnCabinet$Forming", pt_T7, 8), ("TurnCabinet$Cabinet", pt_T8, 8), ("TurnCabinetModel", pt_T9, 66)]
def pt_K0 : List Nat := [3, 3, 3, 3, 3, 3, 3, 3]
def pt_K1 : List Nat := [3, 0]
def pt_K2 : List Nat := [0, 0, 0, 0, 0, 0, 0, 0, 0, 0, 3, 3, 3, 3, 3, 3]
def pt_K3 : List Nat := [3, 3, 3, 3, 3, 3, 3, 0, 0, 0, 0, 0, 0, 0, 1, 0]
def pt_K4 : List Nat := [3, 3, 3, 3, 0, 0, 0]
def pt_K5 : List Nat := [3, 3, 3]
def pt_K6 : List Nat := [3, 3, 3, 3, 3, 3, 3, 3, 3, 3, 3, 3, 0, 0, 0]
def pt_K7 : List Nat := [3, 3, 3, 3, 0, 0, 0, 0]
def pt_K8 : List Nat := [3, 3, 3, 3, 3, 0, 0, 0]
def pt_K9 : List Nat := [3, 0, 0, 0, 0, 0, 0, 0, 0, 0, 0, 0, 1, 0, 0, 0, 0, 0, 0, 0, 0, 0, 3, 3, 3, 3, 3, 3, 3, 3, 0, 0, 0, 0, 0, 0, 0, 0, 3, 3, 3, 3, 3, 3, 3, 0, 3, 3, 3, 3, 3, 0, 3, 3, 3, 3, 3, 2, 3, 3, 3, 3, 3, 0, 0, 0]
-- TurnCabinet.<init>()V
def pt_q101_0 : List pm_Q := [(0, .aload_n 0, 1, 0, [0], 0, 0),
  (1, .invokespecial 1, 4, 147, [], 0, 0),
  (4, .aload_n 0, 5, 0, [0], 0, 0),
  (5, .new 7, 8, 150, [0, 1, 151, 126], 0, 0),
  (8, .dup, 9, 0, [], 0, 0),
  (9, .invokespecial 9, 12, 152, [1001, 1, 0, 153, 126, 154], 0, 0),
  (12, .putfield 10, 15, 536, [4, 0, 0], 0, 0),
  (15, .aload_n 0, 16, 0, [0], 0, 0),
  (16, .new 16, 19, 164, [0, 2, 165, 127], 0, 0),
  (19, .dup, 20, 0, [], 0, 0),
  (20, .invokespecial 18, 23, 166, [501, 1, 0, 167, 127, 168], 0, 0),
  (23, .putfield 19, 26, 537, [4, 0, 1], 0, 0),
  (26, .aload_n 0, 27, 0, [0], 0, 0),
  (27, .new 23, 30, 258, [0, 3, 259, 128], 0, 0),
  (30, .dup, 31, 0, [], 0, 0),
  (31, .aload_n 0, 32, 0, [0], 0, 0),
  (32, .getfield 10, 35, 536, [0, 0, 0], 0, 0),
  (35, .invokespecial 25, 38, 260, [701, 2, 0, 261, 128, 262], 0, 0),
  (38, .putfield 28, 41, 538, [4, 0, 2], 0, 0),
  (41, .aload_n 0, 42, 0, [0], 0, 0),
  (42, .new 32, 45, 372, [0, 4, 373, 133], 0, 0),
  (45, .dup, 46, 0, [], 0, 0),
  (46, .aload_n 0, 47, 0, [0], 0, 0),
  (47, .getfield 19, 50, 537, [0, 0, 1], 0, 0),
  (50, .invokespecial 34, 53, 374, [601, 2, 0, 375, 133, 376], 0, 0),
  (53, .putfield 37, 56, 539, [4, 0, 3], 0, 0),
  (56, .aload_n 0, 57, 0, [0], 0, 0),
  (57, .new 41, 60, 400, [0, 5, 401, 134], 0, 0),
  (60, .dup, 61, 0, [], 0, 0),
  (61, .aload_n 0, 62, 0, [0], 0, 0),
  (62, .getfield 19, 65, 537, [0, 0, 1], 0, 0),
  (65, .invokespecial 43, 68, 402, [801, 2, 0, 403, 134, 404], 0, 0),
  (68, .putfield 44, 71, 540, [4, 0, 4], 0, 0),
  (71, .aload_n 0, 72, 0, [0], 0, 0),
  (72, .new 48, 75, 416, [0, 6, 417, 135], 0, 0),
  (75, .dup, 76, 0, [], 0, 0),
  (76, .aload_n 0, 77, 0, [0], 0, 0),
  (77, .getfield 19, 80, 537, [0, 0, 1], 0, 0),
  (80, .aload_n 0, 81, 0, [0], 0, 0),
  (81, .getfield 37, 84, 539, [0, 0, 3], 0, 0),
  (84, .invokespecial 50, 87, 418, [301, 3, 0, 419, 135, 420], 0, 0),
  (87, .putfield 53, 90, 541, [4, 0, 5], 0, 0),
  (90, .aload_n 0, 91, 0, [0], 0, 0),
  (91, .new 57, 94, 469, [0, 7, 470, 136], 0, 0),
  (94, .dup, 95, 0, [], 0, 0),
  (95, .aload_n 0, 96, 0, [0], 0, 0),
  (96, .getfield 19, 99, 537, [0, 0, 1], 0, 0),
  (99, .aload_n 0, 100, 0, [0], 0, 0),
  (100, .getfield 53, 103, 541, [0, 0, 5], 0, 0),
  (103, .invokespecial 59, 106, 471, [401, 3, 0, 472, 136, 473], 0, 0),
  (106, .putfield 62, 109, 542, [4, 0, 6], 0, 0),
  (109, .aload_n 0, 110, 0, [0], 0, 0),
  (110, .new 66, 113, 503, [0, 8, 504, 137], 0, 0),
  (113, .dup, 114, 0, [], 0, 0),
  (114, .aload_n 0, 115, 0, [0], 0, 0),
  (115, .getfield 19, 118, 537, [0, 0, 1], 0, 0),
  (118, .invokespecial 68, 121, 505, [201, 2, 0, 506, 137, 507], 0, 0),
  (121, .putfield 69, 124, 543, [4, 0, 7], 0, 0),
  (124, .return_, 125, 0, [], 0, 0)]
def pt_m101 : pm_Me := (⟨"TurnCabinet", "<init>", "()V"⟩, prog_1_method_1_code, 1, none, 5, 109, pt_q101_0)
-- TurnCabinet$Tape.<init>()V
def pt_q1001_0 : List pm_Q := [(0, .aload_n 0, 1, 0, [0], 0, 0),
  (1, .invokespecial 3, 4, 155, [], 0, 0),
  (4, .aload_n 0, 5, 0, [0], 0, 0),
  (5, .sipush (900), 8, 0, [], 900, 0),
  (8, .newarray .byte, 10, 163, [2], 0, 0),
  (10, .putfield 9, 13, 156, [4, 1, 0], 0, 0),
  (13, .return_, 14, 0, [], 0, 0)]
def pt_m1001 : pm_Me := (⟨"TurnCabinet$Tape", "<init>", "()V"⟩, prog_10_method_1_code, 1, none, 1, 20, pt_q1001_0)
-- TurnCabinet$House.<init>()V
def pt_q501_0 : List pm_Q := [(0, .aload_n 0, 1, 0, [0], 0, 0),
  (1, .invokespecial 3, 4, 169, [], 0, 0),
  (4, .aload_n 0, 5, 0, [0], 0, 0),
  (5, .bipush (8), 7, 0, [], 8, 0),
  (7, .newarray .int, 9, 257, [0], 0, 0),
  (9, .putfield 9, 12, 212, [4, 2, 10], 0, 0),
  (12, .aload_n 0, 13, 0, [0], 0, 0),
  (13, .bipush (8), 15, 0, [], 8, 0),
  (15, .newarray .int, 17, 257, [0], 0, 0),
  (17, .putfield 15, 20, 214, [4, 2, 11], 0, 0),
  (20, .aload_n 0, 21, 0, [0], 0, 0),
  (21, .bipush (8), 23, 0, [], 8, 0),
  (23, .newarray .int, 25, 257, [0], 0, 0),
  (25, .putfield 18, 28, 216, [4, 2, 12], 0, 0),
  (28, .aload_n 0, 29, 0, [0], 0, 0),
  (29, .bipush (8), 31, 0, [], 8, 0),
  (31, .newarray .int, 33, 257, [0], 0, 0),
  (33, .putfield 21, 36, 218, [4, 2, 13], 0, 0),
  (36, .aload_n 0, 37, 0, [0], 0, 0),
  (37, .bipush (64), 39, 0, [], 64, 0),
  (39, .newarray .int, 41, 257, [0], 0, 0),
  (41, .putfield 24, 44, 220, [4, 2, 14], 0, 0),
  (44, .aload_n 0, 45, 0, [0], 0, 0),
  (45, .bipush (64), 47, 0, [], 64, 0),
  (47, .newarray .int, 49, 257, [0], 0, 0),
  (49, .putfield 27, 52, 222, [4, 2, 15], 0, 0),
  (52, .aload_n 0, 53, 0, [0], 0, 0),
  (53, .iconst (1), 54, 0, [], 1, 0),
  (54, .putfield 30, 57, 183, [0, 2, 2], 0, 0),
  (57, .aload_n 0, 58, 0, [0], 0, 0),
  (58, .iconst (1), 59, 0, [], 1, 0),
  (59, .putfield 34, 62, 188, [0, 2, 3], 0, 0),
  (62, .aload_n 0, 63, 0, [0], 0, 0),
  (63, .iconst (1), 64, 0, [], 1, 0),
  (64, .putfield 37, 67, 198, [0, 2, 6], 0, 0),
  (67, .return_, 68, 0, [], 0, 0)]
def pt_m501 : pm_Me := (⟨"TurnCabinet$House", "<init>", "()V"⟩, prog_5_method_1_code, 1, none, 1, 20, pt_q501_0)
-- TurnCabinet$Reader.<init>(LTurnCabinet$Tape;)V
def pt_q701_0 : List pm_Q := [(0, .aload_n 0, 1, 0, [0], 0, 0),
  (1, .invokespecial 3, 4, 263, [], 0, 0),
  (4, .aload_n 0, 5, 0, [0], 0, 0),
  (5, .new 9, 8, 264, [0, 2, 165, 127], 0, 0),
  (8, .dup, 9, 0, [], 0, 0),
  (9, .invokespecial 11, 12, 265, [501, 1, 0, 167, 127, 168], 0, 0),
  (12, .putfield 12, 15, 320, [4, 3, 1], 0, 0),
  (15, .aload_n 0, 16, 0, [0], 0, 0),
  (16, .bipush (13), 18, 0, [], 13, 0),
  (18, .newarray .long, 20, 371, [1], 0, 0),
  (20, .putfield 18, 23, 322, [4, 3, 2], 0, 0),
  (23, .aload_n 0, 24, 0, [0], 0, 0),
  (24, .bipush (8), 26, 0, [], 8, 0),
  (26, .newarray .long, 28, 371, [1], 0, 0),
  (28, .putfield 22, 31, 323, [4, 3, 3], 0, 0),
  (31, .aload_n 0, 32, 0, [0], 0, 0),
  (32, .bipush (8), 34, 0, [], 8, 0),
  (34, .newarray .long, 36, 371, [1], 0, 0),
  (36, .putfield 25, 39, 324, [4, 3, 4], 0, 0),
  (39, .aload_n 0, 40, 0, [0], 0, 0),
  (40, .bipush (8), 42, 0, [], 8, 0),
  (42, .newarray .int, 44, 257, [0], 0, 0),
  (44, .putfield 28, 47, 325, [4, 3, 5], 0, 0),
  (47, .aload_n 0, 48, 0, [0], 0, 0),
  (48, .bipush (8), 50, 0, [], 8, 0),
  (50, .newarray .int, 52, 257, [0], 0, 0),
  (52, .putfield 32, 55, 326, [4, 3, 6], 0, 0),
  (55, .aload_n 0, 56, 0, [0], 0, 0),
  (56, .iconst (-1), 57, 0, [], -1, 0),
  (57, .putfield 35, 60, 330, [0, 3, 9], 0, 0),
  (60, .aload_n 0, 61, 0, [0], 0, 0),
  (61, .iconst (-1), 62, 0, [], -1, 0),
  (62, .putfield 39, 65, 337, [0, 3, 15], 0, 0),
  (65, .aload_n 0, 66, 0, [0], 0, 0),
  (66, .aload_n 1, 67, 0, [1], 0, 0),
  (67, .putfield 42, 70, 319, [4, 3, 0], 0, 0),
  (70, .iconst (0), 71, 0, [], 0, 0),
  (71, .istore_n 2, 72, 0, [2], 0, 0),
  (72, .iconst (0), 73, 0, [], 0, 0),
  (73, .istore_n 3, 74, 0, [3], 0, 0),
  (74, .iload_n 3, 75, 0, [3], 0, 0),
  (75, .ldc 46, 77, 266, [201], 0, 0),
  (77, .invokevirtual 48, 80, 267, [1501, 1, 0, 99, 268, 269, 129, 270], 0, 0),
  (80, .if_icmp .ge (53), 83, 0, [133], 0, 0),
  (83, .iload_n 2, 84, 0, [2], 0, 0),
  (84, .bipush (13), 86, 0, [], 13, 0),
  (86, .if_icmp .ge (47), 89, 0, [133], 0, 0),
  (89, .ldc 46, 91, 266, [201], 0, 0),
  (91, .iload_n 3, 92, 0, [3], 0, 0),
  (92, .invokevirtual 54, 95, 277, [1503, 2, 0, 99, 278, 279, 129, 280], 0, 0),
  (95, .istore 4, 97, 0, [4], 0, 0),
  (97, .iload 4, 99, 0, [4], 0, 0),
  (99, .bipush (32), 101, 0, [], 32, 0),
  (101, .if_icmp .ne (9), 104, 0, [110], 0, 0),
  (104, .iinc 2 (1), 107, 0, [2], 1, 0),
  (107, .goto (20), 110, 0, [127], 0, 0),
  (110, .aload_n 0, 111, 0, [0], 0, 0),
  (111, .getfield 18, 114, 322, [0, 3, 2], 0, 0),
  (114, .iload_n 2, 115, 0, [2], 0, 0),
  (115, .aload_n 0, 116, 0, [0], 0, 0)]
def pt_q701_1 : List pm_Q := [(116, .getfield 18, 119, 322, [0, 3, 2], 0, 0),
  (119, .iload_n 2, 120, 0, [2], 0, 0),
  (120, .laload, 121, 0, [], 0, 0),
  (121, .iload 4, 123, 0, [4], 0, 0),
  (123, .invokestatic 58, 126, 315, [724, 2, 0, 316, 128, 317], 0, 0),
  (126, .lastore, 127, 0, [], 0, 0),
  (127, .iinc 3 (1), 130, 0, [3], 1, 0),
  (130, .goto (-56), 133, 0, [74, 4], 0, 0),
  (133, .return_, 134, 0, [], 0, 0)]
def pt_m701 : pm_Me := (⟨"TurnCabinet$Reader", "<init>", "(LTurnCabinet$Tape;)V"⟩, prog_7_method_1_code, 5, none, 4, 85, pt_q701_0 ++ pt_q701_1)
-- java/lang/String.length()I
def pt_q1501_0 : List pm_Q := [(0, .aload_n 0, 1, 0, [0], 0, 0),
  (1, .getfield 9, 4, 2123, [2, 0, 0], 0, 0),
  (4, .arraylength, 5, 0, [], 0, 0),
  (5, .aload_n 0, 6, 0, [0], 0, 0),
  (6, .invokevirtual 335, 9, 271, [1502, 1, 0, 99, 272, 273, 129, 274], 0, 0),
  (9, .ishr, 10, 0, [], 0, 0),
  (10, .ireturn, 11, 0, [], 0, 0)]
def pt_m1501 : pm_Me := (⟨"java/lang/String", "length", "()I"⟩, prog_15_method_54_code, 1, some .int, 1, 20, pt_q1501_0)
-- java/lang/String.coder()B
def pt_q1502_0 : List pm_Q := [(0, .getstatic 38, 3, 275, [1], 0, 0),
  (3, .ifCond .eq (10), 6, 0, [13], 0, 0),
  (6, .aload_n 0, 7, 0, [0], 0, 0),
  (7, .getfield 15, 10, 2124, [3, 0, 0], 0, 0),
  (10, .goto (4), 13, 0, [14], 0, 0),
  (13, .iconst (1), 14, 0, [], 1, 0),
  (14, .ireturn, 15, 0, [], 0, 0)]
def pt_m1502 : pm_Me := (⟨"java/lang/String", "coder", "()B"⟩, prog_15_method_152_code, 1, some .byte, 0, 0, pt_q1502_0)
-- java/lang/String.charAt(I)C
def pt_q1503_0 : List pm_Q := [(0, .aload_n 0, 1, 0, [0], 0, 0),
  (1, .invokevirtual 492, 4, 281, [1504, 1, 0, 99, 282, 283, 129, 284], 0, 0),
  (4, .ifCond .eq (12), 7, 0, [16], 0, 0),
  (7, .aload_n 0, 8, 0, [0], 0, 0),
  (8, .getfield 9, 11, 2123, [2, 0, 0], 0, 0),
  (11, .iload_n 1, 12, 0, [1], 0, 0),
  (12, .invokestatic 495, 15, 285, [1505, 2, 0, 286, 130, 287], 0, 0),
  (15, .ireturn, 16, 0, [], 0, 0),
  (16, .aload_n 0, 17, 0, [0], 0, 0),
  (17, .getfield 9, 20, 2123, [2, 0, 0], 0, 0),
  (20, .iload_n 1, 21, 0, [1], 0, 0)]
def pt_m1503 : pm_Me := (⟨"java/lang/String", "charAt", "(I)C"⟩, prog_15_method_56_code, 2, some .char, 3, 64, pt_q1503_0)
-- java/lang/String.isLatin1()Z
def pt_q1504_0 : List pm_Q := [(0, .getstatic 38, 3, 275, [1], 0, 0),
  (3, .ifCond .eq (14), 6, 0, [17], 0, 0),
  (6, .aload_n 0, 7, 0, [0], 0, 0),
  (7, .getfield 15, 10, 2124, [3, 0, 0], 0, 0),
  (10, .ifCond .ne (7), 13, 0, [17], 0, 0),
  (13, .iconst (1), 14, 0, [], 1, 0),
  (14, .goto (4), 17, 0, [18], 0, 0),
  (17, .iconst (0), 18, 0, [], 0, 0),
  (18, .ireturn, 19, 0, [], 0, 0)]
def pt_m1504 : pm_Me := (⟨"java/lang/String", "isLatin1", "()Z"⟩, prog_15_method_154_code, 1, some .boolean, 0, 0, pt_q1504_0)
-- java/lang/StringLatin1.charAt([BI)C
def pt_q1505_0 : List pm_Q := [(0, .iload_n 1, 1, 0, [1], 0, 0),
  (1, .aload_n 0, 2, 0, [0], 0, 0),
  (2, .arraylength, 3, 0, [], 0, 0),
  (3, .invokestatic 9, 6, 288, [1506, 2, 0, 289, 129, 290], 0, 0),
  (6, .aload_n 0, 7, 0, [0], 0, 0),
  (7, .iload_n 1, 8, 0, [1], 0, 0),
  (8, .baload, 9, 0, [], 0, 0),
  (9, .sipush (255), 12, 0, [], 255, 0),
  (12, .iand, 13, 0, [], 0, 0),
  (13, .i2c, 14, 0, [], 0, 0),
  (14, .ireturn, 15, 0, [], 0, 0)]
def pt_m1505 : pm_Me := (⟨"java/lang/StringLatin1", "charAt", "([BI)C"⟩, prog_16_method_2_code, 2, some .char, 2, 43, pt_q1505_0)
-- java/lang/String.checkIndex(II)V
def pt_q1506_0 : List pm_Q := [(0, .iload_n 0, 1, 0, [0], 0, 0),
  (1, .iload_n 1, 2, 0, [1], 0, 0),
  (2, .getstatic 1053, 5, 291, [2], 0, 0),
  (5, .invokestatic 1059, 8, 293, [1507, 3, 0, 294, 131, 295], 0, 0),
  (8, .pop, 9, 0, [], 0, 0),
  (9, .return_, 10, 0, [], 0, 0)]
def pt_m1506 : pm_Me := (⟨"java/lang/String", "checkIndex", "(II)V"⟩, prog_15_method_155_code, 2, none, 1, 22, pt_q1506_0)
-- jdk/internal/util/Preconditions.checkIndex(IILjava/util/function/BiFunction;)I
def pt_q1507_0 : List pm_Q := [(0, .iload_n 0, 1, 0, [0], 0, 0),
  (1, .ifCond .lt (8), 4, 0, [9], 0, 0),
  (4, .iload_n 0, 5, 0, [0], 0, 0),
  (5, .iload_n 1, 6, 0, [1], 0, 0),
  (6, .if_icmp .lt (10), 9, 0, [16], 0, 0),
  (9, .aload_n 2, 10, 0, [2], 0, 0),
  (10, .iload_n 0, 11, 0, [0], 0, 0),
  (11, .iload_n 1, 12, 0, [1], 0, 0),
  (16, .iload_n 0, 17, 0, [0], 0, 0),
  (17, .ireturn, 18, 0, [], 0, 0)]
def pt_m1507 : pm_Me := (⟨"jdk/internal/util/Preconditions", "checkIndex", "(IILjava/util/function/BiFunction;)I"⟩, prog_18_method_11_code, 3, some .int, 0, 0, pt_q1507_0)
-- TurnCabinet$Reader.withLetter(JI)J
def pt_q724_0 : List pm_Q := [(0, .ldc2_w 213, 3, 318, [], 0, 32),
  (3, .lload_n 0, 4, 0, [0], 0, 0),
  (4, .lmul, 5, 0, [], 0, 0),
  (5, .iload_n 2, 6, 0, [2], 0, 0),
  (6, .bipush (97), 8, 0, [], 97, 0),
  (8, .isub, 9, 0, [], 0, 0),
  (9, .iconst (1), 10, 0, [], 1, 0),
  (10, .iadd, 11, 0, [], 0, 0),
  (11, .i2l, 12, 0, [], 0, 0),
  (12, .ladd, 13, 0, [], 0, 0),
  (13, .lreturn, 14, 0, [], 0, 0)]
def pt_m724 : pm_Me := (⟨"TurnCabinet$Reader", "withLetter", "(JI)J"⟩, prog_7_method_24_code, 3, some .long, 0, 0, pt_q724_0)
-- TurnCabinet$Picks.<init>(LTurnCabinet$House;)V
def pt_q601_0 : List pm_Q := [(0, .aload_n 0, 1, 0, [0], 0, 0),
  (1, .invokespecial 3, 4, 377, [], 0, 0),
  (4, .aload_n 0, 5, 0, [0], 0, 0),
  (5, .sipush (256), 8, 0, [], 256, 0),
  (8, .newarray .int, 10, 257, [0], 0, 0),
  (10, .putfield 9, 13, 379, [4, 4, 1], 0, 0),
  (13, .aload_n 0, 14, 0, [0], 0, 0),
  (14, .sipush (256), 17, 0, [], 256, 0),
  (17, .newarray .long, 19, 371, [1], 0, 0),
  (19, .putfield 15, 22, 380, [4, 4, 2], 0, 0),
  (22, .aload_n 0, 23, 0, [0], 0, 0),
  (23, .bipush (8), 25, 0, [], 8, 0),
  (25, .newarray .int, 27, 257, [0], 0, 0),
  (27, .putfield 19, 30, 381, [4, 4, 3], 0, 0),
  (30, .aload_n 0, 31, 0, [0], 0, 0),
  (31, .iconst (-1), 32, 0, [], -1, 0),
  (32, .putfield 22, 35, 383, [0, 4, 5], 0, 0),
  (35, .aload_n 0, 36, 0, [0], 0, 0),
  (36, .aload_n 1, 37, 0, [1], 0, 0),
  (37, .putfield 26, 40, 378, [4, 4, 0], 0, 0),
  (40, .return_, 41, 0, [], 0, 0)]
def pt_m601 : pm_Me := (⟨"TurnCabinet$Picks", "<init>", "(LTurnCabinet$House;)V"⟩, prog_6_method_1_code, 2, none, 1, 20, pt_q601_0)
-- TurnCabinet$Shares.<init>(LTurnCabinet$House;)V
def pt_q801_0 : List pm_Q := [(0, .aload_n 0, 1, 0, [0], 0, 0),
  (1, .invokespecial 3, 4, 405, [], 0, 0),
  (4, .aload_n 0, 5, 0, [0], 0, 0),
  (5, .sipush (256), 8, 0, [], 256, 0),
  (8, .newarray .int, 10, 257, [0], 0, 0),
  (10, .putfield 9, 13, 407, [4, 5, 1], 0, 0),
  (13, .aload_n 0, 14, 0, [0], 0, 0),
  (14, .sipush (256), 17, 0, [], 256, 0),
  (17, .newarray .int, 19, 257, [0], 0, 0),
  (19, .putfield 15, 22, 408, [4, 5, 2], 0, 0),
  (22, .aload_n 0, 23, 0, [0], 0, 0),
  (23, .aload_n 1, 24, 0, [1], 0, 0),
  (24, .putfield 18, 27, 406, [4, 5, 0], 0, 0),
  (27, .return_, 28, 0, [], 0, 0)]
def pt_m801 : pm_Me := (⟨"TurnCabinet$Shares", "<init>", "(LTurnCabinet$House;)V"⟩, prog_8_method_1_code, 2, none, 1, 20, pt_q801_0)
-- TurnCabinet$Coalitions.<init>(LTurnCabinet$House;LTurnCabinet$Picks;)V
def pt_q301_0 : List pm_Q := [(0, .aload_n 0, 1, 0, [0], 0, 0),
  (1, .invokespecial 3, 4, 421, [], 0, 0),
  (4, .aload_n 0, 5, 0, [0], 0, 0),
  (5, .sipush (128), 8, 0, [], 128, 0),
  (8, .newarray .int, 10, 257, [0], 0, 0),
  (10, .putfield 9, 13, 424, [4, 6, 2], 0, 0),
  (13, .aload_n 0, 14, 0, [0], 0, 0),
  (14, .sipush (128), 17, 0, [], 128, 0),
  (17, .newarray .boolean, 19, 468, [3], 0, 0),
  (19, .putfield 15, 22, 425, [4, 6, 3], 0, 0),
  (22, .aload_n 0, 23, 0, [0], 0, 0),
  (23, .sipush (128), 26, 0, [], 128, 0),
  (26, .newarray .boolean, 28, 468, [3], 0, 0),
  (28, .putfield 19, 31, 426, [4, 6, 4], 0, 0),
  (31, .aload_n 0, 32, 0, [0], 0, 0),
  (32, .sipush (128), 35, 0, [], 128, 0),
  (35, .newarray .int, 37, 257, [0], 0, 0),
  (37, .putfield 22, 40, 427, [4, 6, 5], 0, 0),
  (40, .aload_n 0, 41, 0, [0], 0, 0),
  (41, .sipush (128), 44, 0, [], 128, 0),
  (44, .newarray .int, 46, 257, [0], 0, 0),
  (46, .putfield 25, 49, 428, [4, 6, 6], 0, 0),
  (49, .aload_n 0, 50, 0, [0], 0, 0),
  (50, .sipush (1024), 53, 0, [], 1024, 0),
  (53, .newarray .int, 55, 257, [0], 0, 0),
  (55, .putfield 28, 58, 429, [4, 6, 7], 0, 0),
  (58, .aload_n 0, 59, 0, [0], 0, 0),
  (59, .sipush (1024), 62, 0, [], 1024, 0),
  (62, .newarray .int, 64, 257, [0], 0, 0),
  (64, .putfield 31, 67, 430, [4, 6, 8], 0, 0),
  (67, .aload_n 0, 68, 0, [0], 0, 0),
  (68, .sipush (128), 71, 0, [], 128, 0),
  (71, .newarray .int, 73, 257, [0], 0, 0),
  (73, .putfield 34, 76, 431, [4, 6, 9], 0, 0),
  (76, .aload_n 0, 77, 0, [0], 0, 0),
  (77, .sipush (128), 80, 0, [], 128, 0),
  (80, .newarray .int, 82, 257, [0], 0, 0),
  (82, .putfield 37, 85, 432, [4, 6, 10], 0, 0),
  (85, .aload_n 0, 86, 0, [0], 0, 0),
  (86, .sipush (128), 89, 0, [], 128, 0),
  (89, .newarray .boolean, 91, 468, [3], 0, 0),
  (91, .putfield 40, 94, 433, [4, 6, 11], 0, 0),
  (94, .aload_n 0, 95, 0, [0], 0, 0),
  (95, .iconst (-1), 96, 0, [], -1, 0),
  (96, .putfield 43, 99, 435, [0, 6, 13], 0, 0),
  (99, .aload_n 0, 100, 0, [0], 0, 0),
  (100, .iconst (-1), 101, 0, [], -1, 0),
  (101, .putfield 47, 104, 436, [0, 6, 14], 0, 0),
  (104, .aload_n 0, 105, 0, [0], 0, 0),
  (105, .aload_n 1, 106, 0, [1], 0, 0),
  (106, .putfield 50, 109, 422, [4, 6, 0], 0, 0),
  (109, .aload_n 0, 110, 0, [0], 0, 0),
  (110, .aload_n 2, 111, 0, [2], 0, 0),
  (111, .putfield 54, 114, 423, [4, 6, 1], 0, 0),
  (114, .return_, 115, 0, [], 0, 0)]
def pt_m301 : pm_Me := (⟨"TurnCabinet$Coalitions", "<init>", "(LTurnCabinet$House;LTurnCabinet$Picks;)V"⟩, prog_3_method_1_code, 3, none, 1, 20, pt_q301_0)
-- TurnCabinet$Forming.<init>(LTurnCabinet$House;LTurnCabinet$Coalitions;)V
def pt_q401_0 : List pm_Q := [(0, .aload_n 0, 1, 0, [0], 0, 0),
  (1, .invokespecial 3, 4, 474, [], 0, 0),
  (4, .aload_n 0, 5, 0, [0], 0, 0),
  (5, .sipush (567), 8, 0, [], 567, 0),
  (8, .newarray .int, 10, 257, [0], 0, 0),
  (10, .putfield 9, 13, 477, [4, 7, 2], 0, 0),
  (13, .aload_n 0, 14, 0, [0], 0, 0),
  (14, .sipush (128), 17, 0, [], 128, 0),
  (17, .newarray .boolean, 19, 468, [3], 0, 0),
  (19, .putfield 15, 22, 478, [4, 7, 3], 0, 0),
  (22, .aload_n 0, 23, 0, [0], 0, 0),
  (23, .iconst (-1), 24, 0, [], -1, 0),
  (24, .putfield 19, 27, 485, [0, 7, 7], 0, 0),
  (27, .aload_n 0, 28, 0, [0], 0, 0),
  (28, .aload_n 1, 29, 0, [1], 0, 0),
  (29, .putfield 23, 32, 475, [4, 7, 0], 0, 0),
  (32, .aload_n 0, 33, 0, [0], 0, 0),
  (33, .aload_n 2, 34, 0, [2], 0, 0),
  (34, .putfield 27, 37, 476, [4, 7, 1], 0, 0),
  (37, .return_, 38, 0, [], 0, 0)]
def pt_m401 : pm_Me := (⟨"TurnCabinet$Forming", "<init>", "(LTurnCabinet$House;LTurnCabinet$Coalitions;)V"⟩, prog_4_method_1_code, 3, none, 1, 20, pt_q401_0)
-- TurnCabinet$Cabinet.<init>(LTurnCabinet$House;)V
def pt_q201_0 : List pm_Q := [(0, .aload_n 0, 1, 0, [0], 0, 0),
  (1, .invokespecial 3, 4, 508, [], 0, 0),
  (4, .aload_n 0, 5, 0, [0], 0, 0),
  (5, .bipush (12), 7, 0, [], 12, 0),
  (7, .newarray .int, 9, 257, [0], 0, 0),
  (9, .putfield 9, 12, 510, [4, 8, 1], 0, 0),
  (12, .aload_n 0, 13, 0, [0], 0, 0),
  (13, .bipush (12), 15, 0, [], 12, 0),
  (15, .newarray .int, 17, 257, [0], 0, 0),
  (17, .putfield 15, 20, 511, [4, 8, 2], 0, 0),
  (20, .aload_n 0, 21, 0, [0], 0, 0),
  (21, .bipush (12), 23, 0, [], 12, 0),
  (23, .newarray .int, 25, 257, [0], 0, 0),
  (25, .putfield 18, 28, 512, [4, 8, 3], 0, 0),
  (28, .aload_n 0, 29, 0, [0], 0, 0),
  (29, .bipush (12), 31, 0, [], 12, 0),
  (31, .newarray .int, 33, 257, [0], 0, 0),
  (33, .putfield 21, 36, 513, [4, 8, 4], 0, 0),
  (36, .aload_n 0, 37, 0, [0], 0, 0),
  (37, .aload_n 1, 38, 0, [1], 0, 0),
  (38, .putfield 24, 41, 509, [4, 8, 0], 0, 0),
  (41, .return_, 42, 0, [], 0, 0)]
def pt_m201 : pm_Me := (⟨"TurnCabinet$Cabinet", "<init>", "(LTurnCabinet$House;)V"⟩, prog_2_method_1_code, 2, none, 1, 20, pt_q201_0)
-- TurnCabinet.feed(IIIII)I
def pt_q102_0 : List pm_Q := [(0, .aload_n 0, 1, 0, [0], 0, 0),
  (1, .getfield 10, 4, 536, [0, 0, 0], 0, 0),
  (4, .invokevirtual 73, 7, 565, [1002, 1, 0, 1, 566, 567, 126, 568], 0, 0),
  (7, .bipush (20), 9, 0, [], 20, 0),
  (9, .iadd, 10, 0, [], 0, 0),
  (10, .sipush (900), 13, 0, [], 900, 0),
  (13, .if_icmp .le (5), 16, 0, [18], 0, 0),
  (16, .iconst (-1), 17, 0, [], -1, 0),
  (17, .ireturn, 18, 0, [], 0, 0),
  (18, .aload_n 0, 19, 0, [0], 0, 0),
  (19, .getfield 10, 22, 536, [0, 0, 0], 0, 0),
  (22, .iload_n 1, 23, 0, [1], 0, 0),
  (23, .invokevirtual 77, 26, 569, [1004, 2, 0, 1, 570, 571, 126, 572], 0, 0),
  (26, .aload_n 0, 27, 0, [0], 0, 0),
  (27, .getfield 10, 30, 536, [0, 0, 0], 0, 0),
  (30, .iload_n 2, 31, 0, [2], 0, 0),
  (31, .invokevirtual 77, 34, 569, [1004, 2, 0, 1, 570, 571, 126, 572], 0, 0),
  (34, .aload_n 0, 35, 0, [0], 0, 0),
  (35, .getfield 10, 38, 536, [0, 0, 0], 0, 0),
  (38, .iload_n 3, 39, 0, [3], 0, 0),
  (39, .invokevirtual 77, 42, 569, [1004, 2, 0, 1, 570, 571, 126, 572], 0, 0),
  (42, .aload_n 0, 43, 0, [0], 0, 0),
  (43, .getfield 10, 46, 536, [0, 0, 0], 0, 0),
  (46, .iload 4, 48, 0, [4], 0, 0),
  (48, .invokevirtual 77, 51, 569, [1004, 2, 0, 1, 570, 571, 126, 572], 0, 0),
  (51, .aload_n 0, 52, 0, [0], 0, 0),
  (52, .getfield 10, 55, 536, [0, 0, 0], 0, 0),
  (55, .iload 5, 57, 0, [5], 0, 0),
  (57, .invokevirtual 77, 60, 569, [1004, 2, 0, 1, 570, 571, 126, 572], 0, 0),
  (60, .aload_n 0, 61, 0, [0], 0, 0),
  (61, .getfield 10, 64, 536, [0, 0, 0], 0, 0),
  (64, .invokevirtual 73, 67, 565, [1002, 1, 0, 1, 566, 567, 126, 568], 0, 0),
  (67, .ireturn, 68, 0, [], 0, 0)]
def pt_m102 : pm_Me := (⟨"TurnCabinet", "feed", "(IIIII)I"⟩, prog_1_method_2_code, 6, some .int, 1, 22, pt_q102_0)
-- TurnCabinet$Tape.length()I
def pt_q1002_0 : List pm_Q := [(0, .aload_n 0, 1, 0, [0], 0, 0),
  (1, .getfield 15, 4, 157, [0, 1, 1], 0, 0),
  (4, .ireturn, 5, 0, [], 0, 0)]
def pt_m1002 : pm_Me := (⟨"TurnCabinet$Tape", "length", "()I"⟩, prog_10_method_2_code, 1, some .int, 0, 0, pt_q1002_0)
-- TurnCabinet$Tape.append(I)V
def pt_q1004_0 : List pm_Q := [(0, .bipush (24), 2, 0, [], 24, 0),
  (2, .istore_n 2, 3, 0, [2], 0, 0),
  (3, .iload_n 2, 4, 0, [2], 0, 0),
  (4, .ifCond .lt (49), 7, 0, [53], 0, 0),
  (7, .aload_n 0, 8, 0, [0], 0, 0),
  (8, .getfield 15, 11, 157, [0, 1, 1], 0, 0),
  (11, .ifCond .lt (36), 14, 0, [47], 0, 0),
  (14, .aload_n 0, 15, 0, [0], 0, 0),
  (15, .getfield 15, 18, 157, [0, 1, 1], 0, 0),
  (18, .sipush (900), 21, 0, [], 900, 0),
  (21, .if_icmp .ge (26), 24, 0, [47], 0, 0),
  (24, .aload_n 0, 25, 0, [0], 0, 0),
  (25, .getfield 9, 28, 156, [0, 1, 0], 0, 0),
  (28, .aload_n 0, 29, 0, [0], 0, 0),
  (29, .getfield 15, 32, 157, [0, 1, 1], 0, 0),
  (32, .iload_n 1, 33, 0, [1], 0, 0),
  (33, .iload_n 2, 34, 0, [2], 0, 0),
  (34, .iushr, 35, 0, [], 0, 0),
  (35, .i2b, 36, 0, [], 0, 0),
  (36, .bastore, 37, 0, [], 0, 0),
  (37, .aload_n 0, 38, 0, [0], 0, 0),
  (38, .dup, 39, 0, [], 0, 0),
  (39, .getfield 15, 42, 157, [0, 1, 1], 0, 0),
  (42, .iconst (1), 43, 0, [], 1, 0),
  (43, .iadd, 44, 0, [], 0, 0),
  (44, .putfield 15, 47, 157, [0, 1, 1], 0, 0),
  (47, .iinc 2 (-8), 50, 0, [2], -8, 0),
  (50, .goto (-47), 53, 0, [3], 0, 0),
  (53, .return_, 54, 0, [], 0, 0)]
def pt_m1004 : pm_Me := (⟨"TurnCabinet$Tape", "append", "(I)V"⟩, prog_10_method_4_code, 3, none, 0, 0, pt_q1004_0)
-- TurnCabinet.end(I)I
def pt_q103_0 : List pm_Q := [(0, .iload_n 1, 1, 0, [1], 0, 0),
  (1, .ifCond .lt (14), 4, 0, [15], 0, 0),
  (4, .iload_n 1, 5, 0, [1], 0, 0),
  (5, .aload_n 0, 6, 0, [0], 0, 0),
  (6, .getfield 10, 9, 536, [0, 0, 0], 0, 0),
  (9, .invokevirtual 73, 12, 565, [1002, 1, 0, 1, 566, 567, 126, 568], 0, 0),
  (12, .if_icmp .le (5), 15, 0, [17], 0, 0),
  (15, .iconst (-1), 16, 0, [], -1, 0),
  (16, .ireturn, 17, 0, [], 0, 0),
  (17, .aload_n 0, 18, 0, [0], 0, 0),
  (18, .getfield 10, 21, 536, [0, 0, 0], 0, 0),
  (21, .iload_n 1, 22, 0, [1], 0, 0),
  (22, .invokevirtual 81, 25, 577, [1005, 2, 0, 1, 578, 579, 126, 580], 0, 0),
  (25, .iload_n 1, 26, 0, [1], 0, 0),
  (26, .ireturn, 27, 0, [], 0, 0)]
def pt_m103 : pm_Me := (⟨"TurnCabinet", "end", "(I)I"⟩, prog_1_method_3_code, 2, some .int, 1, 21, pt_q103_0)
-- TurnCabinet$Tape.cutTo(I)V
def pt_q1005_0 : List pm_Q := [(0, .iload_n 1, 1, 0, [1], 0, 0),
  (1, .ifCond .lt (16), 4, 0, [17], 0, 0),
  (4, .iload_n 1, 5, 0, [1], 0, 0),
  (5, .aload_n 0, 6, 0, [0], 0, 0),
  (6, .getfield 15, 9, 157, [0, 1, 1], 0, 0),
  (9, .if_icmp .gt (8), 12, 0, [17], 0, 0),
  (12, .aload_n 0, 13, 0, [0], 0, 0),
  (13, .iload_n 1, 14, 0, [1], 0, 0),
  (14, .putfield 15, 17, 157, [0, 1, 1], 0, 0),
  (17, .return_, 18, 0, [], 0, 0)]
def pt_m1005 : pm_Me := (⟨"TurnCabinet$Tape", "cutTo", "(I)V"⟩, prog_10_method_5_code, 2, none, 0, 0, pt_q1005_0)
-- TurnCabinet.house()I
def pt_q104_0 : List pm_Q := [(0, .aload_n 0, 1, 0, [0], 0, 0),
  (1, .getfield 28, 4, 538, [0, 0, 2], 0, 0),
  (4, .invokevirtual 84, 7, 585, [702, 1, 0, 3, 586, 587, 128, 588], 0, 0),
  (7, .iconst (0), 8, 0, [], 0, 0),
  (8, .istore_n 1, 9, 0, [1], 0, 0),
  (9, .iload_n 1, 10, 0, [1], 0, 0),
  (10, .sipush (900), 13, 0, [], 900, 0),
  (13, .if_icmp .ge (26), 16, 0, [39], 0, 0),
  (16, .aload_n 0, 17, 0, [0], 0, 0),
  (17, .getfield 28, 20, 538, [0, 0, 2], 0, 0),
  (20, .invokevirtual 87, 23, 622, [703, 1, 0, 3, 623, 624, 128, 625], 0, 0),
  (23, .ifCond .eq (16), 26, 0, [39], 0, 0),
  (26, .aload_n 0, 27, 0, [0], 0, 0),
  (27, .getfield 28, 30, 538, [0, 0, 2], 0, 0),
  (30, .invokevirtual 91, 33, 626, [706, 1, 0, 3, 627, 628, 128, 629], 0, 0),
  (33, .iinc 1 (1), 36, 0, [1], 1, 0),
  (36, .goto (-27), 39, 0, [9], 0, 0),
  (39, .aload_n 0, 40, 0, [0], 0, 0),
  (40, .getfield 10, 43, 536, [0, 0, 0], 0, 0),
  (43, .iconst (0), 44, 0, [], 0, 0),
  (44, .invokevirtual 81, 47, 577, [1005, 2, 0, 1, 578, 579, 126, 580], 0, 0),
  (47, .aload_n 0, 48, 0, [0], 0, 0),
  (48, .getfield 28, 51, 538, [0, 0, 2], 0, 0),
  (51, .getfield 94, 54, 329, [1, 3, 8], 0, 0),
  (54, .ifCond .eq (5), 57, 0, [59], 0, 0),
  (57, .iconst (-1), 58, 0, [], -1, 0),
  (58, .ireturn, 59, 0, [], 0, 0),
  (59, .aload_n 0, 60, 0, [0], 0, 0),
  (60, .getfield 19, 63, 537, [0, 0, 1], 0, 0),
  (63, .aload_n 0, 64, 0, [0], 0, 0),
  (64, .getfield 28, 67, 538, [0, 0, 2], 0, 0),
  (67, .getfield 98, 70, 321, [1, 3, 1], 0, 0),
  (70, .invokevirtual 101, 73, 693, [503, 2, 0, 2, 694, 695, 127, 696], 0, 0),
  (73, .aload_n 0, 74, 0, [0], 0, 0),
  (74, .getfield 69, 77, 543, [0, 0, 7], 0, 0),
  (77, .invokevirtual 104, 80, 697, [202, 1, 0, 8, 698, 699, 137, 700], 0, 0),
  (80, .aload_n 0, 81, 0, [0], 0, 0),
  (81, .getfield 19, 84, 537, [0, 0, 1], 0, 0),
  (84, .getfield 107, 87, 173, [1, 2, 0], 0, 0),
  (87, .ireturn, 88, 0, [], 0, 0)]
def pt_m104 : pm_Me := (⟨"TurnCabinet", "house", "()I"⟩, prog_1_method_4_code, 2, some .int, 6, 133, pt_q104_0)
-- TurnCabinet$Reader.begin()V
def pt_q702_0 : List pm_Q := [(0, .aload_n 0, 1, 0, [0], 0, 0),
  (1, .getfield 12, 4, 320, [0, 3, 1], 0, 0),
  (4, .invokevirtual 62, 7, 589, [502, 1, 0, 2, 590, 591, 127, 592], 0, 0),
  (7, .iconst (0), 8, 0, [], 0, 0),
  (8, .istore_n 1, 9, 0, [1], 0, 0),
  (9, .iload_n 1, 10, 0, [1], 0, 0),
  (10, .bipush (8), 12, 0, [], 8, 0),
  (12, .if_icmp .ge (23), 15, 0, [35], 0, 0),
  (15, .aload_n 0, 16, 0, [0], 0, 0),
  (16, .getfield 28, 19, 325, [0, 3, 5], 0, 0),
  (19, .iload_n 1, 20, 0, [1], 0, 0),
  (20, .iconst (0), 21, 0, [], 0, 0),
  (21, .iastore, 22, 0, [], 0, 0),
  (22, .aload_n 0, 23, 0, [0], 0, 0),
  (23, .getfield 32, 26, 326, [0, 3, 6], 0, 0),
  (26, .iload_n 1, 27, 0, [1], 0, 0),
  (27, .iconst (0), 28, 0, [], 0, 0),
  (28, .iastore, 29, 0, [], 0, 0),
  (29, .iinc 1 (1), 32, 0, [1], 1, 0),
  (32, .goto (-23), 35, 0, [9], 0, 0),
  (35, .aload_n 0, 36, 0, [0], 0, 0),
  (36, .iconst (0), 37, 0, [], 0, 0),
  (37, .putfield 65, 40, 327, [0, 3, 7], 0, 0),
  (40, .aload_n 0, 41, 0, [0], 0, 0),
  (41, .iconst (0), 42, 0, [], 0, 0),
  (42, .putfield 68, 45, 328, [0, 3, 8], 0, 0),
  (45, .aload_n 0, 46, 0, [0], 0, 0),
  (46, .iconst (-1), 47, 0, [], -1, 0),
  (47, .putfield 35, 50, 330, [0, 3, 9], 0, 0),
  (50, .aload_n 0, 51, 0, [0], 0, 0),
  (51, .iconst (0), 52, 0, [], 0, 0),
  (52, .putfield 71, 55, 332, [0, 3, 10], 0, 0),
  (55, .aload_n 0, 56, 0, [0], 0, 0),
  (56, .invokevirtual 74, 59, 593, [721, 1, 0, 3, 595, 0, 128, 596], 0, 0),
  (59, .return_, 60, 0, [], 0, 0)]
def pt_m702 : pm_Me := (⟨"TurnCabinet$Reader", "begin", "()V"⟩, prog_7_method_2_code, 2, none, 3, 65, pt_q702_0)
-- TurnCabinet$House.clear()V
def pt_q502_0 : List pm_Q := [(0, .aload_n 0, 1, 0, [0], 0, 0),
  (1, .iconst (0), 2, 0, [], 0, 0),
  (2, .putfield 40, 5, 170, [0, 2, 0], 0, 0),
  (5, .aload_n 0, 6, 0, [0], 0, 0),
  (6, .iconst (0), 7, 0, [], 0, 0),
  (7, .putfield 43, 10, 178, [0, 2, 1], 0, 0),
  (10, .aload_n 0, 11, 0, [0], 0, 0),
  (11, .iconst (1), 12, 0, [], 1, 0),
  (12, .putfield 30, 15, 183, [0, 2, 2], 0, 0),
  (15, .aload_n 0, 16, 0, [0], 0, 0),
  (16, .iconst (1), 17, 0, [], 1, 0),
  (17, .putfield 34, 20, 188, [0, 2, 3], 0, 0),
  (20, .aload_n 0, 21, 0, [0], 0, 0),
  (21, .iconst (0), 22, 0, [], 0, 0),
  (22, .putfield 46, 25, 193, [0, 2, 4], 0, 0),
  (25, .aload_n 0, 26, 0, [0], 0, 0),
  (26, .iconst (0), 27, 0, [], 0, 0),
  (27, .putfield 49, 30, 195, [0, 2, 5], 0, 0),
  (30, .aload_n 0, 31, 0, [0], 0, 0),
  (31, .iconst (1), 32, 0, [], 1, 0),
  (32, .putfield 37, 35, 198, [0, 2, 6], 0, 0),
  (35, .aload_n 0, 36, 0, [0], 0, 0),
  (36, .iconst (0), 37, 0, [], 0, 0),
  (37, .putfield 52, 40, 202, [0, 2, 7], 0, 0),
  (40, .iconst (0), 41, 0, [], 0, 0),
  (41, .istore_n 1, 42, 0, [1], 0, 0),
  (42, .iload_n 1, 43, 0, [1], 0, 0),
  (43, .bipush (8), 45, 0, [], 8, 0),
  (45, .if_icmp .ge (16), 48, 0, [61], 0, 0),
  (48, .aload_n 0, 49, 0, [0], 0, 0),
  (49, .getfield 21, 52, 218, [0, 2, 13], 0, 0),
  (52, .iload_n 1, 53, 0, [1], 0, 0),
  (53, .iconst (0), 54, 0, [], 0, 0),
  (54, .iastore, 55, 0, [], 0, 0),
  (55, .iinc 1 (1), 58, 0, [1], 1, 0),
  (58, .goto (-16), 61, 0, [42], 0, 0),
  (61, .iconst (0), 62, 0, [], 0, 0),
  (62, .istore_n 1, 63, 0, [1], 0, 0),
  (63, .iload_n 1, 64, 0, [1], 0, 0),
  (64, .bipush (64), 66, 0, [], 64, 0),
  (66, .if_icmp .ge (23), 69, 0, [89], 0, 0),
  (69, .aload_n 0, 70, 0, [0], 0, 0),
  (70, .getfield 24, 73, 220, [0, 2, 14], 0, 0),
  (73, .iload_n 1, 74, 0, [1], 0, 0),
  (74, .iconst (0), 75, 0, [], 0, 0),
  (75, .iastore, 76, 0, [], 0, 0),
  (76, .aload_n 0, 77, 0, [0], 0, 0),
  (77, .getfield 27, 80, 222, [0, 2, 15], 0, 0),
  (80, .iload_n 1, 81, 0, [1], 0, 0),
  (81, .iconst (0), 82, 0, [], 0, 0),
  (82, .iastore, 83, 0, [], 0, 0),
  (83, .iinc 1 (1), 86, 0, [1], 1, 0),
  (86, .goto (-23), 89, 0, [63], 0, 0),
  (89, .return_, 90, 0, [], 0, 0)]
def pt_m502 : pm_Me := (⟨"TurnCabinet$House", "clear", "()V"⟩, prog_5_method_2_code, 2, none, 0, 0, pt_q502_0)
-- TurnCabinet$Reader.advance()V
def pt_q721_0 : List pm_Q := [(0, .aload_n 0, 1, 0, [0], 0, 0),
  (1, .getfield 68, 4, 328, [0, 3, 8], 0, 0),
  (4, .ifCond .eq (4), 7, 0, [8], 0, 0),
  (7, .return_, 8, 0, [], 0, 0),
  (8, .aload_n 0, 9, 0, [0], 0, 0),
  (9, .getfield 71, 12, 332, [0, 3, 10], 0, 0),
  (12, .aload_n 0, 13, 0, [0], 0, 0),
  (13, .getfield 42, 16, 319, [0, 3, 0], 0, 0),
  (16, .invokevirtual 190, 19, 597, [1002, 1, 0, 1, 566, 567, 126, 568], 0, 0),
  (19, .if_icmp .ge (33), 22, 0, [52], 0, 0),
  (22, .aload_n 0, 23, 0, [0], 0, 0),
  (23, .getfield 42, 26, 319, [0, 3, 0], 0, 0),
  (26, .aload_n 0, 27, 0, [0], 0, 0),
  (27, .getfield 71, 30, 332, [0, 3, 10], 0, 0),
  (30, .invokevirtual 193, 33, 598, [1003, 2, 0, 1, 599, 600, 126, 601], 0, 0),
  (33, .invokestatic 197, 36, 602, [725, 1, 0, 603, 128, 604], 0, 0),
  (36, .ifCond .eq (16), 39, 0, [52], 0, 0),
  (39, .aload_n 0, 40, 0, [0], 0, 0),
  (40, .dup, 41, 0, [], 0, 0),
  (41, .getfield 71, 44, 332, [0, 3, 10], 0, 0),
  (44, .iconst (1), 45, 0, [], 1, 0),
  (45, .iadd, 46, 0, [], 0, 0),
  (46, .putfield 71, 49, 332, [0, 3, 10], 0, 0),
  (49, .goto (-41), 52, 0, [8], 0, 0),
  (52, .aload_n 0, 53, 0, [0], 0, 0),
  (53, .aload_n 0, 54, 0, [0], 0, 0),
  (54, .getfield 71, 57, 332, [0, 3, 10], 0, 0),
  (57, .putfield 80, 60, 333, [0, 3, 11], 0, 0),
  (60, .aload_n 0, 61, 0, [0], 0, 0),
  (61, .iconst (-1), 62, 0, [], -1, 0),
  (62, .putfield 39, 65, 337, [0, 3, 15], 0, 0),
  (65, .aload_n 0, 66, 0, [0], 0, 0),
  (66, .getfield 42, 69, 319, [0, 3, 0], 0, 0),
  (69, .aload_n 0, 70, 0, [0], 0, 0),
  (70, .getfield 71, 73, 332, [0, 3, 10], 0, 0),
  (73, .invokevirtual 193, 76, 598, [1003, 2, 0, 1, 599, 600, 126, 601], 0, 0),
  (76, .istore_n 1, 77, 0, [1], 0, 0),
  (77, .iload_n 1, 78, 0, [1], 0, 0),
  (78, .iconst (-1), 79, 0, [], -1, 0),
  (79, .if_icmp .ne (11), 82, 0, [90], 0, 0),
  (82, .aload_n 0, 83, 0, [0], 0, 0),
  (83, .iconst (0), 84, 0, [], 0, 0),
  (84, .putfield 77, 87, 334, [0, 3, 12], 0, 0),
  (87, .goto (56), 90, 0, [143], 0, 0),
  (90, .iload_n 1, 91, 0, [1], 0, 0),
  (91, .invokestatic 201, 94, 605, [726, 1, 0, 606, 128, 607], 0, 0),
  (94, .ifCond .eq (10), 97, 0, [104], 0, 0),
  (97, .aload_n 0, 98, 0, [0], 0, 0),
  (98, .invokevirtual 204, 101, 608, [722, 1, 0, 3, 610, 1, 128, 611], 0, 0),
  (101, .goto (42), 104, 0, [143], 0, 0),
  (104, .iload_n 1, 105, 0, [1], 0, 0),
  (105, .invokestatic 207, 108, 615, [727, 1, 0, 616, 128, 617], 0, 0),
  (108, .ifCond .eq (10), 111, 0, [118], 0, 0),
  (111, .aload_n 0, 112, 0, [0], 0, 0),
  (112, .invokevirtual 210, 115, 618, [723, 1, 0, 3, 620, 2, 128, 621], 0, 0),
  (115, .goto (28), 118, 0, [143], 0, 0),
  (118, .aload_n 0, 119, 0, [0], 0, 0),
  (119, .iload_n 1, 120, 0, [1], 0, 0),
  (120, .bipush (59), 122, 0, [], 59, 0),
  (122, .if_icmp .ne (7), 125, 0, [129], 0, 0)]
def pt_q721_1 : List pm_Q := [(125, .iconst (3), 126, 0, [], 3, 0),
  (126, .goto (4), 129, 0, [130], 0, 0),
  (129, .iconst (4), 130, 0, [], 4, 0),
  (130, .putfield 77, 133, 334, [0, 3, 12], 0, 0),
  (133, .aload_n 0, 134, 0, [0], 0, 0),
  (134, .dup, 135, 0, [], 0, 0),
  (135, .getfield 71, 138, 332, [0, 3, 10], 0, 0),
  (138, .iconst (1), 139, 0, [], 1, 0),
  (139, .iadd, 140, 0, [], 0, 0),
  (140, .putfield 71, 143, 332, [0, 3, 10], 0, 0),
  (143, .return_, 144, 0, [], 0, 0)]
def pt_m721 : pm_Me := (⟨"TurnCabinet$Reader", "advance", "()V"⟩, prog_7_method_21_code, 2, none, 2, 44, pt_q721_0 ++ pt_q721_1)
-- TurnCabinet$Tape.byteAt(I)I
def pt_q1003_0 : List pm_Q := [(0, .iload_n 1, 1, 0, [1], 0, 0),
  (1, .ifCond .lt (31), 4, 0, [32], 0, 0),
  (4, .iload_n 1, 5, 0, [1], 0, 0),
  (5, .aload_n 0, 6, 0, [0], 0, 0),
  (6, .getfield 15, 9, 157, [0, 1, 1], 0, 0),
  (9, .if_icmp .ge (23), 12, 0, [32], 0, 0),
  (12, .iload_n 1, 13, 0, [1], 0, 0),
  (13, .sipush (900), 16, 0, [], 900, 0),
  (16, .if_icmp .ge (16), 19, 0, [32], 0, 0),
  (19, .aload_n 0, 20, 0, [0], 0, 0),
  (20, .getfield 9, 23, 156, [0, 1, 0], 0, 0),
  (23, .iload_n 1, 24, 0, [1], 0, 0),
  (24, .baload, 25, 0, [], 0, 0),
  (25, .sipush (255), 28, 0, [], 255, 0),
  (28, .iand, 29, 0, [], 0, 0),
  (29, .goto (4), 32, 0, [33], 0, 0),
  (32, .iconst (-1), 33, 0, [], -1, 0),
  (33, .ireturn, 34, 0, [], 0, 0)]
def pt_m1003 : pm_Me := (⟨"TurnCabinet$Tape", "byteAt", "(I)I"⟩, prog_10_method_3_code, 2, some .int, 0, 0, pt_q1003_0)
-- TurnCabinet$Reader.isBlank(I)Z
def pt_q725_0 : List pm_Q := [(0, .iload_n 0, 1, 0, [0], 0, 0),
  (1, .bipush (32), 3, 0, [], 32, 0),
  (3, .if_icmp .eq (9), 6, 0, [12], 0, 0),
  (6, .iload_n 0, 7, 0, [0], 0, 0),
  (7, .bipush (10), 9, 0, [], 10, 0),
  (9, .if_icmp .ne (7), 12, 0, [16], 0, 0),
  (12, .iconst (1), 13, 0, [], 1, 0),
  (13, .goto (4), 16, 0, [17], 0, 0),
  (16, .iconst (0), 17, 0, [], 0, 0),
  (17, .ireturn, 18, 0, [], 0, 0)]
def pt_m725 : pm_Me := (⟨"TurnCabinet$Reader", "isBlank", "(I)Z"⟩, prog_7_method_25_code, 1, some .boolean, 0, 0, pt_q725_0)
-- TurnCabinet$Reader.isLetter(I)Z
def pt_q726_0 : List pm_Q := [(0, .iload_n 0, 1, 0, [0], 0, 0),
  (1, .bipush (97), 3, 0, [], 97, 0),
  (3, .if_icmp .lt (13), 6, 0, [16], 0, 0),
  (6, .iload_n 0, 7, 0, [0], 0, 0),
  (7, .bipush (122), 9, 0, [], 122, 0),
  (9, .if_icmp .gt (7), 12, 0, [16], 0, 0),
  (12, .iconst (1), 13, 0, [], 1, 0),
  (13, .goto (4), 16, 0, [17], 0, 0),
  (16, .iconst (0), 17, 0, [], 0, 0),
  (17, .ireturn, 18, 0, [], 0, 0)]
def pt_m726 : pm_Me := (⟨"TurnCabinet$Reader", "isLetter", "(I)Z"⟩, prog_7_method_26_code, 1, some .boolean, 0, 0, pt_q726_0)
-- TurnCabinet$Reader.takeWord()V
def pt_q722_0 : List pm_Q := [(0, .aload_n 0, 1, 0, [0], 0, 0),
  (1, .lconst 0, 2, 0, [], 0, 0),
  (2, .putfield 186, 5, 336, [0, 3, 14], 0, 0),
  (5, .aload_n 0, 6, 0, [0], 0, 0),
  (6, .getfield 71, 9, 332, [0, 3, 10], 0, 0),
  (9, .aload_n 0, 10, 0, [0], 0, 0),
  (10, .getfield 42, 13, 319, [0, 3, 0], 0, 0),
  (13, .invokevirtual 190, 16, 597, [1002, 1, 0, 1, 566, 567, 126, 568], 0, 0),
  (16, .if_icmp .ge (55), 19, 0, [71], 0, 0),
  (19, .aload_n 0, 20, 0, [0], 0, 0),
  (20, .getfield 42, 23, 319, [0, 3, 0], 0, 0),
  (23, .aload_n 0, 24, 0, [0], 0, 0),
  (24, .getfield 71, 27, 332, [0, 3, 10], 0, 0),
  (27, .invokevirtual 193, 30, 598, [1003, 2, 0, 1, 599, 600, 126, 601], 0, 0),
  (30, .invokestatic 201, 33, 605, [726, 1, 0, 606, 128, 607], 0, 0),
  (33, .ifCond .eq (38), 36, 0, [71], 0, 0),
  (36, .aload_n 0, 37, 0, [0], 0, 0),
  (37, .aload_n 0, 38, 0, [0], 0, 0),
  (38, .getfield 186, 41, 336, [0, 3, 14], 0, 0),
  (41, .aload_n 0, 42, 0, [0], 0, 0),
  (42, .getfield 42, 45, 319, [0, 3, 0], 0, 0),
  (45, .aload_n 0, 46, 0, [0], 0, 0),
  (46, .getfield 71, 49, 332, [0, 3, 10], 0, 0),
  (49, .invokevirtual 193, 52, 598, [1003, 2, 0, 1, 599, 600, 126, 601], 0, 0),
  (52, .invokestatic 58, 55, 315, [724, 2, 0, 316, 128, 317], 0, 0),
  (55, .putfield 186, 58, 336, [0, 3, 14], 0, 0),
  (58, .aload_n 0, 59, 0, [0], 0, 0),
  (59, .dup, 60, 0, [], 0, 0),
  (60, .getfield 71, 63, 332, [0, 3, 10], 0, 0),
  (63, .iconst (1), 64, 0, [], 1, 0),
  (64, .iadd, 65, 0, [], 0, 0),
  (65, .putfield 71, 68, 332, [0, 3, 10], 0, 0),
  (68, .goto (-63), 71, 0, [5], 0, 0),
  (71, .aload_n 0, 72, 0, [0], 0, 0),
  (72, .aload_n 0, 73, 0, [0], 0, 0),
  (73, .getfield 71, 76, 332, [0, 3, 10], 0, 0),
  (76, .aload_n 0, 77, 0, [0], 0, 0),
  (77, .getfield 80, 80, 333, [0, 3, 11], 0, 0),
  (80, .isub, 81, 0, [], 0, 0),
  (81, .bipush (8), 83, 0, [], 8, 0),
  (83, .if_icmp .gt (7), 86, 0, [90], 0, 0),
  (86, .iconst (1), 87, 0, [], 1, 0),
  (87, .goto (4), 90, 0, [91], 0, 0),
  (90, .iconst (4), 91, 0, [], 4, 0),
  (91, .putfield 77, 94, 334, [0, 3, 12], 0, 0),
  (94, .aload_n 0, 95, 0, [0], 0, 0),
  (95, .getfield 77, 98, 334, [0, 3, 12], 0, 0),
  (98, .iconst (1), 99, 0, [], 1, 0),
  (99, .if_icmp .ne (23), 102, 0, [122], 0, 0),
  (102, .aload_n 0, 103, 0, [0], 0, 0),
  (103, .aload_n 0, 104, 0, [0], 0, 0),
  (104, .getfield 18, 107, 322, [0, 3, 2], 0, 0),
  (107, .aload_n 0, 108, 0, [0], 0, 0),
  (108, .getfield 18, 111, 322, [0, 3, 2], 0, 0),
  (111, .arraylength, 112, 0, [], 0, 0),
  (112, .aload_n 0, 113, 0, [0], 0, 0),
  (113, .getfield 186, 116, 336, [0, 3, 14], 0, 0),
  (116, .invokestatic 183, 119, 612, [720, 3, 0, 613, 128, 614], 0, 0),
  (119, .putfield 39, 122, 337, [0, 3, 15], 0, 0),
  (122, .return_, 123, 0, [], 0, 0)]
def pt_m722 : pm_Me := (⟨"TurnCabinet$Reader", "takeWord", "()V"⟩, prog_7_method_22_code, 1, none, 1, 24, pt_q722_0)
-- TurnCabinet$Reader.find([JIJ)I
def pt_q720_0 : List pm_Q := [(0, .iconst (0), 1, 0, [], 0, 0),
  (1, .istore 4, 3, 0, [4], 0, 0),
  (3, .iload 4, 5, 0, [4], 0, 0),
  (5, .iload_n 1, 6, 0, [1], 0, 0),
  (6, .if_icmp .ge (28), 9, 0, [34], 0, 0),
  (9, .iload 4, 11, 0, [4], 0, 0),
  (11, .aload_n 0, 12, 0, [0], 0, 0),
  (12, .arraylength, 13, 0, [], 0, 0),
  (13, .if_icmp .ge (21), 16, 0, [34], 0, 0),
  (16, .aload_n 0, 17, 0, [0], 0, 0),
  (17, .iload 4, 19, 0, [4], 0, 0),
  (19, .laload, 20, 0, [], 0, 0),
  (20, .lload_n 2, 21, 0, [2], 0, 0),
  (21, .lcmp, 22, 0, [], 0, 0),
  (22, .ifCond .ne (6), 25, 0, [28], 0, 0),
  (25, .iload 4, 27, 0, [4], 0, 0),
  (27, .ireturn, 28, 0, [], 0, 0),
  (28, .iinc 4 (1), 31, 0, [4], 1, 0),
  (31, .goto (-28), 34, 0, [3], 0, 0),
  (34, .iconst (-1), 35, 0, [], -1, 0),
  (35, .ireturn, 36, 0, [], 0, 0)]
def pt_m720 : pm_Me := (⟨"TurnCabinet$Reader", "find", "([JIJ)I"⟩, prog_7_method_20_code, 5, some .int, 0, 0, pt_q720_0)
-- TurnCabinet$Reader.isDigit(I)Z
def pt_q727_0 : List pm_Q := [(0, .iload_n 0, 1, 0, [0], 0, 0),
  (1, .bipush (48), 3, 0, [], 48, 0),
  (3, .if_icmp .lt (13), 6, 0, [16], 0, 0),
  (6, .iload_n 0, 7, 0, [0], 0, 0),
  (7, .bipush (57), 9, 0, [], 57, 0),
  (9, .if_icmp .gt (7), 12, 0, [16], 0, 0),
  (12, .iconst (1), 13, 0, [], 1, 0),
  (13, .goto (4), 16, 0, [17], 0, 0),
  (16, .iconst (0), 17, 0, [], 0, 0),
  (17, .ireturn, 18, 0, [], 0, 0)]
def pt_m727 : pm_Me := (⟨"TurnCabinet$Reader", "isDigit", "(I)Z"⟩, prog_7_method_27_code, 1, some .boolean, 0, 0, pt_q727_0)
-- TurnCabinet$Reader.takeNumber()V
def pt_q723_0 : List pm_Q := [(0, .aload_n 0, 1, 0, [0], 0, 0),
  (1, .iconst (0), 2, 0, [], 0, 0),
  (2, .putfield 180, 5, 335, [0, 3, 13], 0, 0),
  (5, .aload_n 0, 6, 0, [0], 0, 0),
  (6, .getfield 71, 9, 332, [0, 3, 10], 0, 0),
  (9, .aload_n 0, 10, 0, [0], 0, 0),
  (10, .getfield 42, 13, 319, [0, 3, 0], 0, 0),
  (13, .invokevirtual 190, 16, 597, [1002, 1, 0, 1, 566, 567, 126, 568], 0, 0),
  (16, .if_icmp .ge (59), 19, 0, [75], 0, 0),
  (19, .aload_n 0, 20, 0, [0], 0, 0),
  (20, .getfield 42, 23, 319, [0, 3, 0], 0, 0),
  (23, .aload_n 0, 24, 0, [0], 0, 0),
  (24, .getfield 71, 27, 332, [0, 3, 10], 0, 0),
  (27, .invokevirtual 193, 30, 598, [1003, 2, 0, 1, 599, 600, 126, 601], 0, 0),
  (30, .invokestatic 207, 33, 615, [727, 1, 0, 616, 128, 617], 0, 0),
  (33, .ifCond .eq (42), 36, 0, [75], 0, 0),
  (36, .aload_n 0, 37, 0, [0], 0, 0),
  (37, .aload_n 0, 38, 0, [0], 0, 0),
  (38, .getfield 180, 41, 335, [0, 3, 13], 0, 0),
  (41, .bipush (10), 43, 0, [], 10, 0),
  (43, .imul, 44, 0, [], 0, 0),
  (44, .aload_n 0, 45, 0, [0], 0, 0),
  (45, .getfield 42, 48, 319, [0, 3, 0], 0, 0),
  (48, .aload_n 0, 49, 0, [0], 0, 0),
  (49, .getfield 71, 52, 332, [0, 3, 10], 0, 0),
  (52, .invokevirtual 193, 55, 598, [1003, 2, 0, 1, 599, 600, 126, 601], 0, 0),
  (55, .bipush (48), 57, 0, [], 48, 0),
  (57, .isub, 58, 0, [], 0, 0),
  (58, .iadd, 59, 0, [], 0, 0),
  (59, .putfield 180, 62, 335, [0, 3, 13], 0, 0),
  (62, .aload_n 0, 63, 0, [0], 0, 0),
  (63, .dup, 64, 0, [], 0, 0),
  (64, .getfield 71, 67, 332, [0, 3, 10], 0, 0),
  (67, .iconst (1), 68, 0, [], 1, 0),
  (68, .iadd, 69, 0, [], 0, 0),
  (69, .putfield 71, 72, 332, [0, 3, 10], 0, 0),
  (72, .goto (-67), 75, 0, [5], 0, 0),
  (75, .aload_n 0, 76, 0, [0], 0, 0),
  (76, .aload_n 0, 77, 0, [0], 0, 0),
  (77, .getfield 71, 80, 332, [0, 3, 10], 0, 0),
  (80, .aload_n 0, 81, 0, [0], 0, 0),
  (81, .getfield 80, 84, 333, [0, 3, 11], 0, 0),
  (84, .isub, 85, 0, [], 0, 0),
  (85, .iconst (3), 86, 0, [], 3, 0),
  (86, .if_icmp .gt (24), 89, 0, [110], 0, 0),
  (89, .aload_n 0, 90, 0, [0], 0, 0),
  (90, .getfield 42, 93, 319, [0, 3, 0], 0, 0),
  (93, .aload_n 0, 94, 0, [0], 0, 0),
  (94, .getfield 71, 97, 332, [0, 3, 10], 0, 0),
  (97, .invokevirtual 193, 100, 598, [1003, 2, 0, 1, 599, 600, 126, 601], 0, 0),
  (100, .invokestatic 201, 103, 605, [726, 1, 0, 606, 128, 607], 0, 0),
  (103, .ifCond .ne (7), 106, 0, [110], 0, 0),
  (106, .iconst (2), 107, 0, [], 2, 0),
  (107, .goto (4), 110, 0, [111], 0, 0),
  (110, .iconst (4), 111, 0, [], 4, 0),
  (111, .putfield 77, 114, 334, [0, 3, 12], 0, 0),
  (114, .return_, 115, 0, [], 0, 0)]
def pt_m723 : pm_Me := (⟨"TurnCabinet$Reader", "takeNumber", "()V"⟩, prog_7_method_23_code, 1, none, 1, 21, pt_q723_0)
-- TurnCabinet$Reader.isOpen()Z
def pt_q703_0 : List pm_Q := [(0, .aload_n 0, 1, 0, [0], 0, 0),
  (1, .getfield 68, 4, 328, [0, 3, 8], 0, 0),
  (4, .ifCond .ne (14), 7, 0, [18], 0, 0),
  (7, .aload_n 0, 8, 0, [0], 0, 0),
  (8, .getfield 77, 11, 334, [0, 3, 12], 0, 0),
  (11, .ifCond .eq (7), 14, 0, [18], 0, 0),
  (14, .iconst (1), 15, 0, [], 1, 0),
  (15, .goto (4), 18, 0, [19], 0, 0),
  (18, .iconst (0), 19, 0, [], 0, 0),
  (19, .ireturn, 20, 0, [], 0, 0)]
def pt_m703 : pm_Me := (⟨"TurnCabinet$Reader", "isOpen", "()Z"⟩, prog_7_method_3_code, 1, some .boolean, 0, 0, pt_q703_0)
-- TurnCabinet$Reader.readLine()V
def pt_q706_0 : List pm_Q := [(0, .aload_n 0, 1, 0, [0], 0, 0),
  (1, .getfield 39, 4, 337, [0, 3, 15], 0, 0),
  (4, .tableswitch (205) (0) (12) #[68, 75, 93, 110, 127, 144, 151, 205, 205, 205, 158, 178, 198], 72, 0, [209, 72, 79, 97, 114, 131, 148, 155, 209, 209, 209, 162, 182, 202], 0, 0),
  (72, .aload_n 0, 73, 0, [0], 0, 0),
  (73, .invokevirtual 87, 76, 630, [709, 1, 0, 3, 632, 3, 128, 633], 0, 0),
  (76, .goto (137), 79, 0, [213], 0, 0),
  (79, .aload_n 0, 80, 0, [0], 0, 0),
  (80, .getfield 12, 83, 320, [0, 3, 1], 0, 0),
  (83, .aload_n 0, 84, 0, [0], 0, 0),
  (84, .iconst (1), 85, 0, [], 1, 0),
  (85, .sipush (999), 88, 0, [], 999, 0),
  (88, .invokevirtual 90, 91, 657, [708, 3, 0, 3, 659, 9, 128, 660], 0, 0),
  (91, .putfield 94, 94, 194, [1, 2, 4], 0, 0),
  (94, .goto (119), 97, 0, [213], 0, 0),
  (97, .aload_n 0, 98, 0, [0], 0, 0),
  (98, .getfield 12, 101, 320, [0, 3, 1], 0, 0),
  (101, .aload_n 0, 102, 0, [0], 0, 0),
  (102, .iconst (0), 103, 0, [], 0, 0),
  (103, .bipush (9), 105, 0, [], 9, 0),
  (105, .invokevirtual 90, 108, 657, [708, 3, 0, 3, 659, 9, 128, 660], 0, 0),
  (108, .putfield 97, 111, 196, [1, 2, 5], 0, 0),
  (111, .goto (102), 114, 0, [213], 0, 0),
  (114, .aload_n 0, 115, 0, [0], 0, 0),
  (115, .getfield 12, 118, 320, [0, 3, 1], 0, 0),
  (118, .aload_n 0, 119, 0, [0], 0, 0),
  (119, .iconst (1), 120, 0, [], 1, 0),
  (120, .bipush (9), 122, 0, [], 9, 0),
  (122, .invokevirtual 90, 125, 657, [708, 3, 0, 3, 659, 9, 128, 660], 0, 0),
  (125, .putfield 100, 128, 200, [1, 2, 6], 0, 0),
  (128, .goto (85), 131, 0, [213], 0, 0),
  (131, .aload_n 0, 132, 0, [0], 0, 0),
  (132, .getfield 12, 135, 320, [0, 3, 1], 0, 0),
  (135, .aload_n 0, 136, 0, [0], 0, 0),
  (136, .iconst (0), 137, 0, [], 0, 0),
  (137, .bipush (99), 139, 0, [], 99, 0),
  (139, .invokevirtual 90, 142, 657, [708, 3, 0, 3, 659, 9, 128, 660], 0, 0),
  (142, .putfield 103, 145, 204, [1, 2, 7], 0, 0),
  (145, .goto (68), 148, 0, [213], 0, 0),
  (148, .aload_n 0, 149, 0, [0], 0, 0),
  (149, .invokevirtual 106, 152, 661, [710, 1, 0, 3, 663, 10, 128, 664], 0, 0),
  (152, .goto (61), 155, 0, [213], 0, 0),
  (155, .aload_n 0, 156, 0, [0], 0, 0),
  (156, .invokevirtual 109, 159, 673, [711, 1, 0, 3, 675, 13, 128, 676], 0, 0),
  (159, .goto (54), 162, 0, [213], 0, 0),
  (162, .aload_n 0, 163, 0, [0], 0, 0),
  (163, .aload_n 0, 164, 0, [0], 0, 0),
  (164, .getfield 28, 167, 325, [0, 3, 5], 0, 0),
  (167, .aload_n 0, 168, 0, [0], 0, 0),
  (168, .getfield 12, 171, 320, [0, 3, 1], 0, 0),
  (171, .getfield 112, 174, 221, [1, 2, 14], 0, 0),
  (174, .bipush (99), 176, 0, [], 99, 0),
  (176, .invokevirtual 115, 179, 681, [712, 4, 0, 3, 683, 15, 128, 684], 0, 0),
  (179, .goto (34), 182, 0, [213], 0, 0),
  (182, .aload_n 0, 183, 0, [0], 0, 0),
  (183, .aload_n 0, 184, 0, [0], 0, 0),
  (184, .getfield 32, 187, 326, [0, 3, 6], 0, 0),
  (187, .aload_n 0, 188, 0, [0], 0, 0),
  (188, .getfield 12, 191, 320, [0, 3, 1], 0, 0),
  (191, .getfield 119, 194, 223, [1, 2, 15], 0, 0),
  (194, .bipush (9), 196, 0, [], 9, 0)]
def pt_q706_1 : List pm_Q := [(196, .invokevirtual 115, 199, 681, [712, 4, 0, 3, 683, 15, 128, 684], 0, 0),
  (199, .goto (14), 202, 0, [213], 0, 0),
  (202, .aload_n 0, 203, 0, [0], 0, 0),
  (203, .invokevirtual 122, 206, 689, [713, 1, 0, 3, 691, 17, 128, 692], 0, 0),
  (206, .goto (7), 209, 0, [213], 0, 0),
  (209, .aload_n 0, 210, 0, [0], 0, 0),
  (210, .invokevirtual 125, 213, 649, [705, 1, 0, 3, 651, 7, 128, 652], 0, 0),
  (213, .aload_n 0, 214, 0, [0], 0, 0),
  (214, .invokevirtual 74, 217, 593, [721, 1, 0, 3, 595, 0, 128, 596], 0, 0),
  (217, .return_, 218, 0, [], 0, 0)]
def pt_m706 : pm_Me := (⟨"TurnCabinet$Reader", "readLine", "()V"⟩, prog_7_method_6_code, 1, none, 5, 113, pt_q706_0 ++ pt_q706_1)
-- TurnCabinet$Reader.readDivisors()V
def pt_q709_0 : List pm_Q := [(0, .aload_n 0, 1, 0, [0], 0, 0),
  (1, .invokevirtual 132, 4, 634, [707, 1, 0, 3, 636, 4, 128, 637], 0, 0),
  (4, .aload_n 0, 5, 0, [0], 0, 0),
  (5, .getfield 12, 8, 320, [0, 3, 1], 0, 0),
  (8, .aload_n 0, 9, 0, [0], 0, 0),
  (9, .iconst (1), 10, 0, [], 1, 0),
  (10, .bipush (99), 12, 0, [], 99, 0),
  (12, .invokevirtual 135, 15, 645, [714, 3, 0, 3, 647, 6, 128, 648], 0, 0),
  (15, .putfield 141, 18, 186, [1, 2, 2], 0, 0),
  (18, .aload_n 0, 19, 0, [0], 0, 0),
  (19, .getfield 12, 22, 320, [0, 3, 1], 0, 0),
  (22, .aload_n 0, 23, 0, [0], 0, 0),
  (23, .iconst (1), 24, 0, [], 1, 0),
  (24, .bipush (99), 26, 0, [], 99, 0),
  (26, .invokevirtual 135, 29, 645, [714, 3, 0, 3, 647, 6, 128, 648], 0, 0),
  (29, .putfield 144, 32, 191, [1, 2, 3], 0, 0),
  (32, .aload_n 0, 33, 0, [0], 0, 0),
  (33, .invokevirtual 138, 36, 653, [715, 1, 0, 3, 655, 8, 128, 656], 0, 0),
  (36, .return_, 37, 0, [], 0, 0)]
def pt_m709 : pm_Me := (⟨"TurnCabinet$Reader", "readDivisors", "()V"⟩, prog_7_method_9_code, 1, none, 4, 87, pt_q709_0)
-- TurnCabinet$Reader.checkOnce()V
def pt_q707_0 : List pm_Q := [(0, .aload_n 0, 1, 0, [0], 0, 0),
  (1, .getfield 39, 4, 337, [0, 3, 15], 0, 0),
  (4, .aload_n 0, 5, 0, [0], 0, 0),
  (5, .getfield 65, 8, 327, [0, 3, 7], 0, 0),
  (8, .invokestatic 128, 11, 638, [151, 2, 1, 639, 125, 640], 0, 0),
  (11, .ifCond .eq (8), 14, 0, [19], 0, 0),
  (14, .aload_n 0, 15, 0, [0], 0, 0),
  (15, .iconst (2), 16, 0, [], 2, 0),
  (16, .invokevirtual 83, 19, 641, [704, 2, 0, 3, 643, 5, 128, 644], 0, 0),
  (19, .aload_n 0, 20, 0, [0], 0, 0),
  (20, .dup, 21, 0, [], 0, 0),
  (21, .getfield 65, 24, 327, [0, 3, 7], 0, 0),
  (24, .iconst (1), 25, 0, [], 1, 0),
  (25, .aload_n 0, 26, 0, [0], 0, 0),
  (26, .getfield 39, 29, 337, [0, 3, 15], 0, 0),
  (29, .ishl, 30, 0, [], 0, 0),
  (30, .ior, 31, 0, [], 0, 0),
  (31, .putfield 65, 34, 327, [0, 3, 7], 0, 0),
  (34, .return_, 35, 0, [], 0, 0)]
def pt_m707 : pm_Me := (⟨"TurnCabinet$Reader", "checkOnce", "()V"⟩, prog_7_method_7_code, 1, none, 1, 21, pt_q707_0)
-- TurnCabinet.isIn(II)Z
def pt_q151_0 : List pm_Q := [(0, .iload_n 1, 1, 0, [1], 0, 0),
  (1, .iload_n 0, 2, 0, [0], 0, 0),
  (2, .iushr, 3, 0, [], 0, 0),
  (3, .iconst (1), 4, 0, [], 1, 0),
  (4, .iand, 5, 0, [], 0, 0),
  (5, .iconst (1), 6, 0, [], 1, 0),
  (6, .if_icmp .ne (7), 9, 0, [13], 0, 0),
  (9, .iconst (1), 10, 0, [], 1, 0),
  (10, .goto (4), 13, 0, [14], 0, 0),
  (13, .iconst (0), 14, 0, [], 0, 0),
  (14, .ireturn, 15, 0, [], 0, 0)]
def pt_m151 : pm_Me := (⟨"TurnCabinet", "isIn", "(II)Z"⟩, prog_1_method_51_code, 2, some .boolean, 0, 0, pt_q151_0)
-- TurnCabinet$Reader.fail(I)V
def pt_q704_0 : List pm_Q := [(0, .aload_n 0, 1, 0, [0], 0, 0),
  (1, .getfield 68, 4, 328, [0, 3, 8], 0, 0),
  (4, .ifCond .eq (4), 7, 0, [8], 0, 0),
  (7, .return_, 8, 0, [], 0, 0),
  (8, .aload_n 0, 9, 0, [0], 0, 0),
  (9, .iload_n 1, 10, 0, [1], 0, 0),
  (10, .putfield 68, 13, 328, [0, 3, 8], 0, 0),
  (13, .aload_n 0, 14, 0, [0], 0, 0),
  (14, .aload_n 0, 15, 0, [0], 0, 0),
  (15, .getfield 80, 18, 333, [0, 3, 11], 0, 0),
  (18, .putfield 35, 21, 330, [0, 3, 9], 0, 0),
  (21, .return_, 22, 0, [], 0, 0)]
def pt_m704 : pm_Me := (⟨"TurnCabinet$Reader", "fail", "(I)V"⟩, prog_7_method_4_code, 2, none, 0, 0, pt_q704_0)
-- TurnCabinet$Reader.readNumber(II)I
def pt_q714_0 : List pm_Q := [(0, .aload_n 0, 1, 0, [0], 0, 0),
  (1, .invokevirtual 74, 4, 593, [721, 1, 0, 3, 595, 0, 128, 596], 0, 0),
  (4, .aload_n 0, 5, 0, [0], 0, 0),
  (5, .getfield 77, 8, 334, [0, 3, 12], 0, 0),
  (8, .iconst (2), 9, 0, [], 2, 0),
  (9, .if_icmp .eq (10), 12, 0, [19], 0, 0),
  (12, .aload_n 0, 13, 0, [0], 0, 0),
  (13, .invokevirtual 125, 16, 649, [705, 1, 0, 3, 651, 7, 128, 652], 0, 0),
  (16, .goto (24), 19, 0, [40], 0, 0),
  (19, .aload_n 0, 20, 0, [0], 0, 0),
  (20, .getfield 180, 23, 335, [0, 3, 13], 0, 0),
  (23, .iload_n 1, 24, 0, [1], 0, 0),
  (24, .if_icmp .lt (11), 27, 0, [35], 0, 0),
  (27, .aload_n 0, 28, 0, [0], 0, 0),
  (28, .getfield 180, 31, 335, [0, 3, 13], 0, 0),
  (31, .iload_n 2, 32, 0, [2], 0, 0),
  (32, .if_icmp .le (8), 35, 0, [40], 0, 0),
  (35, .aload_n 0, 36, 0, [0], 0, 0),
  (36, .iconst (4), 37, 0, [], 4, 0),
  (37, .invokevirtual 83, 40, 641, [704, 2, 0, 3, 643, 5, 128, 644], 0, 0),
  (40, .aload_n 0, 41, 0, [0], 0, 0),
  (41, .getfield 180, 44, 335, [0, 3, 13], 0, 0),
  (44, .ireturn, 45, 0, [], 0, 0)]
def pt_m714 : pm_Me := (⟨"TurnCabinet$Reader", "readNumber", "(II)I"⟩, prog_7_method_14_code, 3, some .int, 3, 65, pt_q714_0)
-- TurnCabinet$Reader.failToken()V
def pt_q705_0 : List pm_Q := [(0, .aload_n 0, 1, 0, [0], 0, 0),
  (1, .aload_n 0, 2, 0, [0], 0, 0),
  (2, .getfield 77, 5, 334, [0, 3, 12], 0, 0),
  (5, .iconst (4), 6, 0, [], 4, 0),
  (6, .if_icmp .ne (7), 9, 0, [13], 0, 0),
  (9, .iconst (1), 10, 0, [], 1, 0),
  (10, .goto (4), 13, 0, [14], 0, 0),
  (13, .iconst (2), 14, 0, [], 2, 0),
  (14, .invokevirtual 83, 17, 641, [704, 2, 0, 3, 643, 5, 128, 644], 0, 0),
  (17, .return_, 18, 0, [], 0, 0)]
def pt_m705 : pm_Me := (⟨"TurnCabinet$Reader", "failToken", "()V"⟩, prog_7_method_5_code, 1, none, 1, 21, pt_q705_0)
-- TurnCabinet$Reader.readSign()V
def pt_q715_0 : List pm_Q := [(0, .aload_n 0, 1, 0, [0], 0, 0),
  (1, .invokevirtual 74, 4, 593, [721, 1, 0, 3, 595, 0, 128, 596], 0, 0),
  (4, .aload_n 0, 5, 0, [0], 0, 0),
  (5, .getfield 77, 8, 334, [0, 3, 12], 0, 0),
  (8, .iconst (3), 9, 0, [], 3, 0),
  (9, .if_icmp .eq (7), 12, 0, [16], 0, 0),
  (12, .aload_n 0, 13, 0, [0], 0, 0),
  (13, .invokevirtual 125, 16, 649, [705, 1, 0, 3, 651, 7, 128, 652], 0, 0),
  (16, .return_, 17, 0, [], 0, 0)]
def pt_m715 : pm_Me := (⟨"TurnCabinet$Reader", "readSign", "()V"⟩, prog_7_method_15_code, 1, none, 3, 65, pt_q715_0)
-- TurnCabinet$Reader.readOnlyNumber(II)I
def pt_q708_0 : List pm_Q := [(0, .aload_n 0, 1, 0, [0], 0, 0),
  (1, .invokevirtual 132, 4, 634, [707, 1, 0, 3, 636, 4, 128, 637], 0, 0),
  (4, .aload_n 0, 5, 0, [0], 0, 0),
  (5, .iload_n 1, 6, 0, [1], 0, 0),
  (6, .iload_n 2, 7, 0, [2], 0, 0),
  (7, .invokevirtual 135, 10, 645, [714, 3, 0, 3, 647, 6, 128, 648], 0, 0),
  (10, .istore_n 3, 11, 0, [3], 0, 0),
  (11, .aload_n 0, 12, 0, [0], 0, 0),
  (12, .invokevirtual 138, 15, 653, [715, 1, 0, 3, 655, 8, 128, 656], 0, 0),
  (15, .iload_n 3, 16, 0, [3], 0, 0),
  (16, .ireturn, 17, 0, [], 0, 0)]
def pt_m708 : pm_Me := (⟨"TurnCabinet$Reader", "readOnlyNumber", "(II)I"⟩, prog_7_method_8_code, 4, some .int, 4, 87, pt_q708_0)
-- TurnCabinet$Reader.readOffice()V
def pt_q710_0 : List pm_Q := [(0, .aload_n 0, 1, 0, [0], 0, 0),
  (1, .getfield 12, 4, 320, [0, 3, 1], 0, 0),
  (4, .getfield 147, 7, 182, [1, 2, 1], 0, 0),
  (7, .bipush (8), 9, 0, [], 8, 0),
  (9, .if_icmp .lt (8), 12, 0, [17], 0, 0),
  (12, .aload_n 0, 13, 0, [0], 0, 0),
  (13, .iconst (5), 14, 0, [], 5, 0),
  (14, .invokevirtual 83, 17, 641, [704, 2, 0, 3, 643, 5, 128, 644], 0, 0),
  (17, .aload_n 0, 18, 0, [0], 0, 0),
  (18, .invokevirtual 150, 21, 665, [719, 1, 0, 3, 667, 11, 128, 668], 0, 0),
  (21, .lstore_n 1, 22, 0, [1], 0, 0),
  (22, .aload_n 0, 23, 0, [0], 0, 0),
  (23, .lload_n 1, 24, 0, [1], 0, 0),
  (24, .invokevirtual 154, 27, 669, [717, 2, 0, 3, 671, 12, 128, 672], 0, 0),
  (27, .aload_n 0, 28, 0, [0], 0, 0),
  (28, .invokevirtual 138, 31, 653, [715, 1, 0, 3, 655, 8, 128, 656], 0, 0),
  (31, .aload_n 0, 32, 0, [0], 0, 0),
  (32, .getfield 68, 35, 328, [0, 3, 8], 0, 0),
  (35, .ifCond .eq (4), 38, 0, [39], 0, 0),
  (38, .return_, 39, 0, [], 0, 0),
  (39, .aload_n 0, 40, 0, [0], 0, 0),
  (40, .getfield 25, 43, 324, [0, 3, 4], 0, 0),
  (43, .aload_n 0, 44, 0, [0], 0, 0),
  (44, .getfield 12, 47, 320, [0, 3, 1], 0, 0),
  (47, .getfield 147, 50, 182, [1, 2, 1], 0, 0),
  (50, .bipush (7), 52, 0, [], 7, 0),
  (52, .iand, 53, 0, [], 0, 0),
  (53, .lload_n 1, 54, 0, [1], 0, 0),
  (54, .lastore, 55, 0, [], 0, 0),
  (55, .aload_n 0, 56, 0, [0], 0, 0),
  (56, .getfield 12, 59, 320, [0, 3, 1], 0, 0),
  (59, .dup, 60, 0, [], 0, 0),
  (60, .getfield 147, 63, 182, [1, 2, 1], 0, 0),
  (63, .iconst (1), 64, 0, [], 1, 0),
  (64, .iadd, 65, 0, [], 0, 0),
  (65, .putfield 147, 68, 182, [1, 2, 1], 0, 0),
  (68, .return_, 69, 0, [], 0, 0)]
def pt_m710 : pm_Me := (⟨"TurnCabinet$Reader", "readOffice", "()V"⟩, prog_7_method_10_code, 3, none, 4, 85, pt_q710_0)
-- TurnCabinet$Reader.readName()J
def pt_q719_0 : List pm_Q := [(0, .aload_n 0, 1, 0, [0], 0, 0),
  (1, .invokevirtual 74, 4, 593, [721, 1, 0, 3, 595, 0, 128, 596], 0, 0),
  (4, .aload_n 0, 5, 0, [0], 0, 0),
  (5, .getfield 77, 8, 334, [0, 3, 12], 0, 0),
  (8, .iconst (1), 9, 0, [], 1, 0),
  (9, .if_icmp .ne (25), 12, 0, [34], 0, 0),
  (12, .aload_n 0, 13, 0, [0], 0, 0),
  (13, .getfield 39, 16, 337, [0, 3, 15], 0, 0),
  (16, .iconst (-1), 17, 0, [], -1, 0),
  (17, .if_icmp .ne (17), 20, 0, [34], 0, 0),
  (20, .aload_n 0, 21, 0, [0], 0, 0),
  (21, .getfield 71, 24, 332, [0, 3, 10], 0, 0),
  (24, .aload_n 0, 25, 0, [0], 0, 0),
  (25, .getfield 80, 28, 333, [0, 3, 11], 0, 0),
  (28, .isub, 29, 0, [], 0, 0),
  (29, .bipush (6), 31, 0, [], 6, 0),
  (31, .if_icmp .le (7), 34, 0, [38], 0, 0),
  (34, .aload_n 0, 35, 0, [0], 0, 0),
  (35, .invokevirtual 125, 38, 649, [705, 1, 0, 3, 651, 7, 128, 652], 0, 0),
  (38, .aload_n 0, 39, 0, [0], 0, 0),
  (39, .getfield 186, 42, 336, [0, 3, 14], 0, 0),
  (42, .lreturn, 43, 0, [], 0, 0)]
def pt_m719 : pm_Me := (⟨"TurnCabinet$Reader", "readName", "()J"⟩, prog_7_method_19_code, 1, some .long, 3, 65, pt_q719_0)
-- TurnCabinet$Reader.checkNew(J)V
def pt_q717_0 : List pm_Q := [(0, .aload_n 0, 1, 0, [0], 0, 0),
  (1, .getfield 22, 4, 323, [0, 3, 3], 0, 0),
  (4, .aload_n 0, 5, 0, [0], 0, 0),
  (5, .getfield 12, 8, 320, [0, 3, 1], 0, 0),
  (8, .getfield 158, 11, 176, [1, 2, 0], 0, 0),
  (11, .lload_n 1, 12, 0, [1], 0, 0),
  (12, .invokestatic 183, 15, 612, [720, 3, 0, 613, 128, 614], 0, 0),
  (15, .iconst (-1), 16, 0, [], -1, 0),
  (16, .if_icmp .eq (8), 19, 0, [24], 0, 0),
  (19, .aload_n 0, 20, 0, [0], 0, 0),
  (20, .iconst (3), 21, 0, [], 3, 0),
  (21, .invokevirtual 83, 24, 641, [704, 2, 0, 3, 643, 5, 128, 644], 0, 0),
  (24, .aload_n 0, 25, 0, [0], 0, 0),
  (25, .getfield 25, 28, 324, [0, 3, 4], 0, 0),
  (28, .aload_n 0, 29, 0, [0], 0, 0),
  (29, .getfield 12, 32, 320, [0, 3, 1], 0, 0),
  (32, .getfield 147, 35, 182, [1, 2, 1], 0, 0),
  (35, .lload_n 1, 36, 0, [1], 0, 0),
  (36, .invokestatic 183, 39, 612, [720, 3, 0, 613, 128, 614], 0, 0),
  (39, .iconst (-1), 40, 0, [], -1, 0),
  (40, .if_icmp .eq (8), 43, 0, [48], 0, 0),
  (43, .aload_n 0, 44, 0, [0], 0, 0),
  (44, .iconst (3), 45, 0, [], 3, 0),
  (45, .invokevirtual 83, 48, 641, [704, 2, 0, 3, 643, 5, 128, 644], 0, 0),
  (48, .return_, 49, 0, [], 0, 0)]
def pt_m717 : pm_Me := (⟨"TurnCabinet$Reader", "checkNew", "(J)V"⟩, prog_7_method_17_code, 3, none, 1, 24, pt_q717_0)
-- TurnCabinet$Reader.readParty()V
def pt_q711_0 : List pm_Q := [(0, .aload_n 0, 1, 0, [0], 0, 0),
  (1, .getfield 12, 4, 320, [0, 3, 1], 0, 0),
  (4, .getfield 158, 7, 176, [1, 2, 0], 0, 0),
  (7, .bipush (7), 9, 0, [], 7, 0),
  (9, .if_icmp .lt (8), 12, 0, [17], 0, 0),
  (12, .aload_n 0, 13, 0, [0], 0, 0),
  (13, .iconst (5), 14, 0, [], 5, 0),
  (14, .invokevirtual 83, 17, 641, [704, 2, 0, 3, 643, 5, 128, 644], 0, 0),
  (17, .aload_n 0, 18, 0, [0], 0, 0),
  (18, .invokevirtual 150, 21, 665, [719, 1, 0, 3, 667, 11, 128, 668], 0, 0),
  (21, .lstore_n 1, 22, 0, [1], 0, 0),
  (22, .aload_n 0, 23, 0, [0], 0, 0),
  (23, .lload_n 1, 24, 0, [1], 0, 0),
  (24, .invokevirtual 154, 27, 669, [717, 2, 0, 3, 671, 12, 128, 672], 0, 0),
  (27, .aload_n 0, 28, 0, [0], 0, 0),
  (28, .bipush (7), 30, 0, [], 7, 0),
  (30, .invokevirtual 161, 33, 677, [716, 2, 0, 3, 679, 14, 128, 680], 0, 0),
  (33, .aload_n 0, 34, 0, [0], 0, 0),
  (34, .iconst (1), 35, 0, [], 1, 0),
  (35, .sipush (999), 38, 0, [], 999, 0),
  (38, .invokevirtual 135, 41, 645, [714, 3, 0, 3, 647, 6, 128, 648], 0, 0),
  (41, .istore_n 3, 42, 0, [3], 0, 0),
  (42, .aload_n 0, 43, 0, [0], 0, 0),
  (43, .bipush (8), 45, 0, [], 8, 0),
  (45, .invokevirtual 161, 48, 677, [716, 2, 0, 3, 679, 14, 128, 680], 0, 0),
  (48, .aload_n 0, 49, 0, [0], 0, 0),
  (49, .iconst (0), 50, 0, [], 0, 0),
  (50, .bipush (99), 52, 0, [], 99, 0),
  (52, .invokevirtual 135, 55, 645, [714, 3, 0, 3, 647, 6, 128, 648], 0, 0),
  (55, .istore 4, 57, 0, [4], 0, 0),
  (57, .aload_n 0, 58, 0, [0], 0, 0),
  (58, .invokevirtual 74, 61, 593, [721, 1, 0, 3, 595, 0, 128, 596], 0, 0),
  (61, .iconst (0), 62, 0, [], 0, 0),
  (62, .istore 5, 64, 0, [5], 0, 0),
  (64, .aload_n 0, 65, 0, [0], 0, 0),
  (65, .getfield 39, 68, 337, [0, 3, 15], 0, 0),
  (68, .bipush (9), 70, 0, [], 9, 0),
  (70, .if_icmp .ne (17), 73, 0, [87], 0, 0),
  (73, .aload_n 0, 74, 0, [0], 0, 0),
  (74, .iconst (0), 75, 0, [], 0, 0),
  (75, .sipush (999), 78, 0, [], 999, 0),
  (78, .invokevirtual 135, 81, 645, [714, 3, 0, 3, 647, 6, 128, 648], 0, 0),
  (81, .istore 5, 83, 0, [5], 0, 0),
  (83, .aload_n 0, 84, 0, [0], 0, 0),
  (84, .invokevirtual 74, 87, 593, [721, 1, 0, 3, 595, 0, 128, 596], 0, 0),
  (87, .aload_n 0, 88, 0, [0], 0, 0),
  (88, .getfield 77, 91, 334, [0, 3, 12], 0, 0),
  (91, .iconst (3), 92, 0, [], 3, 0),
  (92, .if_icmp .eq (7), 95, 0, [99], 0, 0),
  (95, .aload_n 0, 96, 0, [0], 0, 0),
  (96, .invokevirtual 125, 99, 649, [705, 1, 0, 3, 651, 7, 128, 652], 0, 0),
  (99, .aload_n 0, 100, 0, [0], 0, 0),
  (100, .getfield 68, 103, 328, [0, 3, 8], 0, 0),
  (103, .ifCond .eq (4), 106, 0, [107], 0, 0),
  (106, .return_, 107, 0, [], 0, 0),
  (107, .aload_n 0, 108, 0, [0], 0, 0),
  (108, .getfield 12, 111, 320, [0, 3, 1], 0, 0),
  (111, .getfield 158, 114, 176, [1, 2, 0], 0, 0),
  (114, .bipush (7), 116, 0, [], 7, 0),
  (116, .iand, 117, 0, [], 0, 0)]
def pt_q711_1 : List pm_Q := [(117, .istore 6, 119, 0, [6], 0, 0),
  (119, .aload_n 0, 120, 0, [0], 0, 0),
  (120, .getfield 22, 123, 323, [0, 3, 3], 0, 0),
  (123, .iload 6, 125, 0, [6], 0, 0),
  (125, .lload_n 1, 126, 0, [1], 0, 0),
  (126, .lastore, 127, 0, [], 0, 0),
  (127, .aload_n 0, 128, 0, [0], 0, 0),
  (128, .getfield 12, 131, 320, [0, 3, 1], 0, 0),
  (131, .getfield 164, 134, 213, [1, 2, 10], 0, 0),
  (134, .iload 6, 136, 0, [6], 0, 0),
  (136, .iload_n 3, 137, 0, [3], 0, 0),
  (137, .iastore, 138, 0, [], 0, 0),
  (138, .aload_n 0, 139, 0, [0], 0, 0),
  (139, .getfield 12, 142, 320, [0, 3, 1], 0, 0),
  (142, .getfield 167, 145, 215, [1, 2, 11], 0, 0),
  (145, .iload 6, 147, 0, [6], 0, 0),
  (147, .iload 4, 149, 0, [4], 0, 0),
  (149, .iastore, 150, 0, [], 0, 0),
  (150, .aload_n 0, 151, 0, [0], 0, 0),
  (151, .getfield 12, 154, 320, [0, 3, 1], 0, 0),
  (154, .getfield 170, 157, 217, [1, 2, 12], 0, 0),
  (157, .iload 6, 159, 0, [6], 0, 0),
  (159, .iload 5, 161, 0, [5], 0, 0),
  (161, .iastore, 162, 0, [], 0, 0),
  (162, .aload_n 0, 163, 0, [0], 0, 0),
  (163, .getfield 12, 166, 320, [0, 3, 1], 0, 0),
  (166, .dup, 167, 0, [], 0, 0),
  (167, .getfield 158, 170, 176, [1, 2, 0], 0, 0),
  (170, .iconst (1), 171, 0, [], 1, 0),
  (171, .iadd, 172, 0, [], 0, 0),
  (172, .putfield 158, 175, 176, [1, 2, 0], 0, 0),
  (175, .return_, 176, 0, [], 0, 0)]
def pt_m711 : pm_Me := (⟨"TurnCabinet$Reader", "readParty", "()V"⟩, prog_7_method_11_code, 7, none, 4, 87, pt_q711_0 ++ pt_q711_1)
-- TurnCabinet$Reader.readWord(I)V
def pt_q716_0 : List pm_Q := [(0, .aload_n 0, 1, 0, [0], 0, 0),
  (1, .invokevirtual 74, 4, 593, [721, 1, 0, 3, 595, 0, 128, 596], 0, 0),
  (4, .aload_n 0, 5, 0, [0], 0, 0),
  (5, .getfield 39, 8, 337, [0, 3, 15], 0, 0),
  (8, .iload_n 1, 9, 0, [1], 0, 0),
  (9, .if_icmp .eq (7), 12, 0, [16], 0, 0),
  (12, .aload_n 0, 13, 0, [0], 0, 0),
  (13, .invokevirtual 125, 16, 649, [705, 1, 0, 3, 651, 7, 128, 652], 0, 0),
  (16, .return_, 17, 0, [], 0, 0)]
def pt_m716 : pm_Me := (⟨"TurnCabinet$Reader", "readWord", "(I)V"⟩, prog_7_method_16_code, 2, none, 3, 65, pt_q716_0)
-- TurnCabinet$Reader.readTable([I[II)V
def pt_q712_0 : List pm_Q := [(0, .aload_n 0, 1, 0, [0], 0, 0),
  (1, .aload_n 0, 2, 0, [0], 0, 0),
  (2, .getfield 22, 5, 323, [0, 3, 3], 0, 0),
  (5, .aload_n 0, 6, 0, [0], 0, 0),
  (6, .getfield 12, 9, 320, [0, 3, 1], 0, 0),
  (9, .getfield 158, 12, 176, [1, 2, 0], 0, 0),
  (12, .aload_n 0, 13, 0, [0], 0, 0),
  (13, .invokevirtual 150, 16, 665, [719, 1, 0, 3, 667, 11, 128, 668], 0, 0),
  (16, .invokevirtual 173, 19, 685, [718, 4, 0, 3, 687, 16, 128, 688], 0, 0),
  (19, .istore 4, 21, 0, [4], 0, 0),
  (21, .aload_n 0, 22, 0, [0], 0, 0),
  (22, .aload_n 0, 23, 0, [0], 0, 0),
  (23, .getfield 25, 26, 324, [0, 3, 4], 0, 0),
  (26, .aload_n 0, 27, 0, [0], 0, 0),
  (27, .getfield 12, 30, 320, [0, 3, 1], 0, 0),
  (30, .getfield 147, 33, 182, [1, 2, 1], 0, 0),
  (33, .aload_n 0, 34, 0, [0], 0, 0),
  (34, .invokevirtual 150, 37, 665, [719, 1, 0, 3, 667, 11, 128, 668], 0, 0),
  (37, .invokevirtual 173, 40, 685, [718, 4, 0, 3, 687, 16, 128, 688], 0, 0),
  (40, .istore 5, 42, 0, [5], 0, 0),
  (42, .iload 5, 44, 0, [5], 0, 0),
  (44, .aload_n 1, 45, 0, [1], 0, 0),
  (45, .iload 4, 47, 0, [4], 0, 0),
  (47, .iaload, 48, 0, [], 0, 0),
  (48, .invokestatic 128, 51, 638, [151, 2, 1, 639, 125, 640], 0, 0),
  (51, .ifCond .eq (8), 54, 0, [59], 0, 0),
  (54, .aload_n 0, 55, 0, [0], 0, 0),
  (55, .iconst (3), 56, 0, [], 3, 0),
  (56, .invokevirtual 83, 59, 641, [704, 2, 0, 3, 643, 5, 128, 644], 0, 0),
  (59, .aload_n 0, 60, 0, [0], 0, 0),
  (60, .iconst (0), 61, 0, [], 0, 0),
  (61, .iload_n 3, 62, 0, [3], 0, 0),
  (62, .invokevirtual 135, 65, 645, [714, 3, 0, 3, 647, 6, 128, 648], 0, 0),
  (65, .istore 6, 67, 0, [6], 0, 0),
  (67, .aload_n 0, 68, 0, [0], 0, 0),
  (68, .invokevirtual 138, 71, 653, [715, 1, 0, 3, 655, 8, 128, 656], 0, 0),
  (71, .aload_n 0, 72, 0, [0], 0, 0),
  (72, .getfield 68, 75, 328, [0, 3, 8], 0, 0),
  (75, .ifCond .eq (4), 78, 0, [79], 0, 0),
  (78, .return_, 79, 0, [], 0, 0),
  (79, .aload_n 1, 80, 0, [1], 0, 0),
  (80, .iload 4, 82, 0, [4], 0, 0),
  (82, .dup2, 83, 0, [], 0, 0),
  (83, .iaload, 84, 0, [], 0, 0),
  (84, .iconst (1), 85, 0, [], 1, 0),
  (85, .iload 5, 87, 0, [5], 0, 0),
  (87, .ishl, 88, 0, [], 0, 0),
  (88, .ior, 89, 0, [], 0, 0),
  (89, .iastore, 90, 0, [], 0, 0),
  (90, .aload_n 2, 91, 0, [2], 0, 0),
  (91, .bipush (8), 93, 0, [], 8, 0),
  (93, .iload 4, 95, 0, [4], 0, 0),
  (95, .imul, 96, 0, [], 0, 0),
  (96, .iload 5, 98, 0, [5], 0, 0),
  (98, .iadd, 99, 0, [], 0, 0),
  (99, .iload 6, 101, 0, [6], 0, 0),
  (101, .iastore, 102, 0, [], 0, 0),
  (102, .return_, 103, 0, [], 0, 0)]
def pt_m712 : pm_Me := (⟨"TurnCabinet$Reader", "readTable", "([I[II)V"⟩, prog_7_method_12_code, 7, none, 4, 87, pt_q712_0)
-- TurnCabinet$Reader.known([JIJ)I
def pt_q718_0 : List pm_Q := [(0, .aload_n 1, 1, 0, [1], 0, 0),
  (1, .iload_n 2, 2, 0, [2], 0, 0),
  (2, .lload_n 3, 3, 0, [3], 0, 0),
  (3, .invokestatic 183, 6, 612, [720, 3, 0, 613, 128, 614], 0, 0),
  (6, .istore 5, 8, 0, [5], 0, 0),
  (8, .iload 5, 10, 0, [5], 0, 0),
  (10, .iconst (-1), 11, 0, [], -1, 0),
  (11, .if_icmp .ne (8), 14, 0, [19], 0, 0),
  (14, .aload_n 0, 15, 0, [0], 0, 0),
  (15, .iconst (3), 16, 0, [], 3, 0),
  (16, .invokevirtual 83, 19, 641, [704, 2, 0, 3, 643, 5, 128, 644], 0, 0),
  (19, .iload 5, 21, 0, [5], 0, 0),
  (21, .bipush (7), 23, 0, [], 7, 0),
  (23, .iand, 24, 0, [], 0, 0),
  (24, .ireturn, 25, 0, [], 0, 0)]
def pt_m718 : pm_Me := (⟨"TurnCabinet$Reader", "known", "([JIJ)I"⟩, prog_7_method_18_code, 6, some .int, 1, 24, pt_q718_0)
-- TurnCabinet$Reader.readBar()V
def pt_q713_0 : List pm_Q := [(0, .aload_n 0, 1, 0, [0], 0, 0),
  (1, .aload_n 0, 2, 0, [0], 0, 0),
  (2, .getfield 22, 5, 323, [0, 3, 3], 0, 0),
  (5, .aload_n 0, 6, 0, [0], 0, 0),
  (6, .getfield 12, 9, 320, [0, 3, 1], 0, 0),
  (9, .getfield 158, 12, 176, [1, 2, 0], 0, 0),
  (12, .aload_n 0, 13, 0, [0], 0, 0),
  (13, .invokevirtual 150, 16, 665, [719, 1, 0, 3, 667, 11, 128, 668], 0, 0),
  (16, .invokevirtual 173, 19, 685, [718, 4, 0, 3, 687, 16, 128, 688], 0, 0),
  (19, .istore_n 1, 20, 0, [1], 0, 0),
  (20, .aload_n 0, 21, 0, [0], 0, 0),
  (21, .aload_n 0, 22, 0, [0], 0, 0),
  (22, .getfield 22, 25, 323, [0, 3, 3], 0, 0),
  (25, .aload_n 0, 26, 0, [0], 0, 0),
  (26, .getfield 12, 29, 320, [0, 3, 1], 0, 0),
  (29, .getfield 158, 32, 176, [1, 2, 0], 0, 0),
  (32, .aload_n 0, 33, 0, [0], 0, 0),
  (33, .invokevirtual 150, 36, 665, [719, 1, 0, 3, 667, 11, 128, 668], 0, 0),
  (36, .invokevirtual 173, 39, 685, [718, 4, 0, 3, 687, 16, 128, 688], 0, 0),
  (39, .istore_n 2, 40, 0, [2], 0, 0),
  (40, .iload_n 1, 41, 0, [1], 0, 0),
  (41, .iload_n 2, 42, 0, [2], 0, 0),
  (42, .if_icmp .ne (8), 45, 0, [50], 0, 0),
  (45, .aload_n 0, 46, 0, [0], 0, 0),
  (46, .iconst (3), 47, 0, [], 3, 0),
  (47, .invokevirtual 83, 50, 641, [704, 2, 0, 3, 643, 5, 128, 644], 0, 0),
  (50, .aload_n 0, 51, 0, [0], 0, 0),
  (51, .invokevirtual 138, 54, 653, [715, 1, 0, 3, 655, 8, 128, 656], 0, 0),
  (54, .aload_n 0, 55, 0, [0], 0, 0),
  (55, .getfield 68, 58, 328, [0, 3, 8], 0, 0),
  (58, .ifCond .eq (4), 61, 0, [62], 0, 0),
  (61, .return_, 62, 0, [], 0, 0),
  (62, .aload_n 0, 63, 0, [0], 0, 0),
  (63, .getfield 12, 66, 320, [0, 3, 1], 0, 0),
  (66, .getfield 177, 69, 219, [1, 2, 13], 0, 0),
  (69, .iload_n 1, 70, 0, [1], 0, 0),
  (70, .dup2, 71, 0, [], 0, 0),
  (71, .iaload, 72, 0, [], 0, 0),
  (72, .iconst (1), 73, 0, [], 1, 0),
  (73, .iload_n 2, 74, 0, [2], 0, 0),
  (74, .ishl, 75, 0, [], 0, 0),
  (75, .ior, 76, 0, [], 0, 0),
  (76, .iastore, 77, 0, [], 0, 0),
  (77, .aload_n 0, 78, 0, [0], 0, 0),
  (78, .getfield 12, 81, 320, [0, 3, 1], 0, 0),
  (81, .getfield 177, 84, 219, [1, 2, 13], 0, 0),
  (84, .iload_n 2, 85, 0, [2], 0, 0),
  (85, .dup2, 86, 0, [], 0, 0),
  (86, .iaload, 87, 0, [], 0, 0),
  (87, .iconst (1), 88, 0, [], 1, 0),
  (88, .iload_n 1, 89, 0, [1], 0, 0),
  (89, .ishl, 90, 0, [], 0, 0),
  (90, .ior, 91, 0, [], 0, 0),
  (91, .iastore, 92, 0, [], 0, 0),
  (92, .return_, 93, 0, [], 0, 0)]
def pt_m713 : pm_Me := (⟨"TurnCabinet$Reader", "readBar", "()V"⟩, prog_7_method_13_code, 3, none, 4, 85, pt_q713_0)
-- TurnCabinet$House.become(LTurnCabinet$House;)V
def pt_q503_0 : List pm_Q := [(0, .aload_n 0, 1, 0, [0], 0, 0),
  (1, .aload_n 1, 2, 0, [1], 0, 0),
  (2, .getfield 40, 5, 170, [0, 2, 0], 0, 0),
  (5, .putfield 40, 8, 170, [0, 2, 0], 0, 0),
  (8, .aload_n 0, 9, 0, [0], 0, 0),
  (9, .aload_n 1, 10, 0, [1], 0, 0),
  (10, .getfield 43, 13, 178, [0, 2, 1], 0, 0),
  (13, .putfield 43, 16, 178, [0, 2, 1], 0, 0),
  (16, .aload_n 0, 17, 0, [0], 0, 0),
  (17, .aload_n 1, 18, 0, [1], 0, 0),
  (18, .getfield 30, 21, 183, [0, 2, 2], 0, 0),
  (21, .putfield 30, 24, 183, [0, 2, 2], 0, 0),
  (24, .aload_n 0, 25, 0, [0], 0, 0),
  (25, .aload_n 1, 26, 0, [1], 0, 0),
  (26, .getfield 34, 29, 188, [0, 2, 3], 0, 0),
  (29, .putfield 34, 32, 188, [0, 2, 3], 0, 0),
  (32, .aload_n 0, 33, 0, [0], 0, 0),
  (33, .aload_n 1, 34, 0, [1], 0, 0),
  (34, .getfield 46, 37, 193, [0, 2, 4], 0, 0),
  (37, .putfield 46, 40, 193, [0, 2, 4], 0, 0),
  (40, .aload_n 0, 41, 0, [0], 0, 0),
  (41, .aload_n 1, 42, 0, [1], 0, 0),
  (42, .getfield 49, 45, 195, [0, 2, 5], 0, 0),
  (45, .putfield 49, 48, 195, [0, 2, 5], 0, 0),
  (48, .aload_n 0, 49, 0, [0], 0, 0),
  (49, .aload_n 1, 50, 0, [1], 0, 0),
  (50, .getfield 37, 53, 198, [0, 2, 6], 0, 0),
  (53, .putfield 37, 56, 198, [0, 2, 6], 0, 0),
  (56, .aload_n 0, 57, 0, [0], 0, 0),
  (57, .aload_n 1, 58, 0, [1], 0, 0),
  (58, .getfield 52, 61, 202, [0, 2, 7], 0, 0),
  (61, .putfield 52, 64, 202, [0, 2, 7], 0, 0),
  (64, .iconst (0), 65, 0, [], 0, 0),
  (65, .istore_n 2, 66, 0, [2], 0, 0),
  (66, .iload_n 2, 67, 0, [2], 0, 0),
  (67, .bipush (8), 69, 0, [], 8, 0),
  (69, .if_icmp .ge (57), 72, 0, [126], 0, 0),
  (72, .aload_n 0, 73, 0, [0], 0, 0),
  (73, .getfield 9, 76, 212, [0, 2, 10], 0, 0),
  (76, .iload_n 2, 77, 0, [2], 0, 0),
  (77, .aload_n 1, 78, 0, [1], 0, 0),
  (78, .getfield 9, 81, 212, [0, 2, 10], 0, 0),
  (81, .iload_n 2, 82, 0, [2], 0, 0),
  (82, .iaload, 83, 0, [], 0, 0),
  (83, .iastore, 84, 0, [], 0, 0),
  (84, .aload_n 0, 85, 0, [0], 0, 0),
  (85, .getfield 15, 88, 214, [0, 2, 11], 0, 0),
  (88, .iload_n 2, 89, 0, [2], 0, 0),
  (89, .aload_n 1, 90, 0, [1], 0, 0),
  (90, .getfield 15, 93, 214, [0, 2, 11], 0, 0),
  (93, .iload_n 2, 94, 0, [2], 0, 0),
  (94, .iaload, 95, 0, [], 0, 0),
  (95, .iastore, 96, 0, [], 0, 0),
  (96, .aload_n 0, 97, 0, [0], 0, 0),
  (97, .getfield 18, 100, 216, [0, 2, 12], 0, 0),
  (100, .iload_n 2, 101, 0, [2], 0, 0),
  (101, .aload_n 1, 102, 0, [1], 0, 0),
  (102, .getfield 18, 105, 216, [0, 2, 12], 0, 0),
  (105, .iload_n 2, 106, 0, [2], 0, 0),
  (106, .iaload, 107, 0, [], 0, 0)]
def pt_q503_1 : List pm_Q := [(107, .iastore, 108, 0, [], 0, 0),
  (108, .aload_n 0, 109, 0, [0], 0, 0),
  (109, .getfield 21, 112, 218, [0, 2, 13], 0, 0),
  (112, .iload_n 2, 113, 0, [2], 0, 0),
  (113, .aload_n 1, 114, 0, [1], 0, 0),
  (114, .getfield 21, 117, 218, [0, 2, 13], 0, 0),
  (117, .iload_n 2, 118, 0, [2], 0, 0),
  (118, .iaload, 119, 0, [], 0, 0),
  (119, .iastore, 120, 0, [], 0, 0),
  (120, .iinc 2 (1), 123, 0, [2], 1, 0),
  (123, .goto (-57), 126, 0, [66], 0, 0),
  (126, .iconst (0), 127, 0, [], 0, 0),
  (127, .istore_n 2, 128, 0, [2], 0, 0),
  (128, .iload_n 2, 129, 0, [2], 0, 0),
  (129, .bipush (64), 131, 0, [], 64, 0),
  (131, .if_icmp .ge (33), 134, 0, [164], 0, 0),
  (134, .aload_n 0, 135, 0, [0], 0, 0),
  (135, .getfield 24, 138, 220, [0, 2, 14], 0, 0),
  (138, .iload_n 2, 139, 0, [2], 0, 0),
  (139, .aload_n 1, 140, 0, [1], 0, 0),
  (140, .getfield 24, 143, 220, [0, 2, 14], 0, 0),
  (143, .iload_n 2, 144, 0, [2], 0, 0),
  (144, .iaload, 145, 0, [], 0, 0),
  (145, .iastore, 146, 0, [], 0, 0),
  (146, .aload_n 0, 147, 0, [0], 0, 0),
  (147, .getfield 27, 150, 222, [0, 2, 15], 0, 0),
  (150, .iload_n 2, 151, 0, [2], 0, 0),
  (151, .aload_n 1, 152, 0, [1], 0, 0),
  (152, .getfield 27, 155, 222, [0, 2, 15], 0, 0),
  (155, .iload_n 2, 156, 0, [2], 0, 0),
  (156, .iaload, 157, 0, [], 0, 0),
  (157, .iastore, 158, 0, [], 0, 0),
  (158, .iinc 2 (1), 161, 0, [2], 1, 0),
  (161, .goto (-33), 164, 0, [128], 0, 0),
  (164, .aload_n 0, 165, 0, [0], 0, 0),
  (165, .dup, 166, 0, [], 0, 0),
  (166, .getfield 55, 169, 207, [0, 2, 8], 0, 0),
  (169, .iconst (1), 170, 0, [], 1, 0),
  (170, .iadd, 171, 0, [], 0, 0),
  (171, .putfield 55, 174, 207, [0, 2, 8], 0, 0),
  (174, .aload_n 0, 175, 0, [0], 0, 0),
  (175, .dup, 176, 0, [], 0, 0),
  (176, .getfield 58, 179, 211, [0, 2, 9], 0, 0),
  (179, .iconst (1), 180, 0, [], 1, 0),
  (180, .iadd, 181, 0, [], 0, 0),
  (181, .putfield 58, 184, 211, [0, 2, 9], 0, 0),
  (184, .return_, 185, 0, [], 0, 0)]
def pt_m503 : pm_Me := (⟨"TurnCabinet$House", "become", "(LTurnCabinet$House;)V"⟩, prog_5_method_3_code, 3, none, 0, 0, pt_q503_0 ++ pt_q503_1)
-- TurnCabinet$Cabinet.reset()V
def pt_q202_0 : List pm_Q := [(0, .aload_n 0, 1, 0, [0], 0, 0),
  (1, .iconst (0), 2, 0, [], 0, 0),
  (2, .putfield 28, 5, 514, [0, 8, 5], 0, 0),
  (5, .aload_n 0, 6, 0, [0], 0, 0),
  (6, .iconst (0), 7, 0, [], 0, 0),
  (7, .putfield 32, 10, 516, [0, 8, 6], 0, 0),
  (10, .aload_n 0, 11, 0, [0], 0, 0),
  (11, .iconst (0), 12, 0, [], 0, 0),
  (12, .putfield 35, 15, 517, [0, 8, 7], 0, 0),
  (15, .return_, 16, 0, [], 0, 0)]
def pt_m202 : pm_Me := (⟨"TurnCabinet$Cabinet", "reset", "()V"⟩, prog_2_method_2_code, 1, none, 0, 0, pt_q202_0)
-- TurnCabinet.fault(I)I
def pt_q105_0 : List pm_Q := [(0, .iload_n 1, 1, 0, [1], 0, 0),
  (1, .ifCond .ne (11), 4, 0, [12], 0, 0),
  (4, .aload_n 0, 5, 0, [0], 0, 0),
  (5, .getfield 28, 8, 538, [0, 0, 2], 0, 0),
  (8, .getfield 94, 11, 329, [1, 3, 8], 0, 0),
  (11, .ireturn, 12, 0, [], 0, 0),
  (12, .iload_n 1, 13, 0, [1], 0, 0),
  (13, .iconst (1), 14, 0, [], 1, 0),
  (14, .if_icmp .ne (11), 17, 0, [25], 0, 0),
  (17, .aload_n 0, 18, 0, [0], 0, 0),
  (18, .getfield 28, 21, 538, [0, 0, 2], 0, 0),
  (21, .getfield 110, 24, 331, [1, 3, 9], 0, 0),
  (24, .ireturn, 25, 0, [], 0, 0),
  (25, .iconst (-1), 26, 0, [], -1, 0),
  (26, .ireturn, 27, 0, [], 0, 0)]
def pt_m105 : pm_Me := (⟨"TurnCabinet", "fault", "(I)I"⟩, prog_1_method_5_code, 2, some .int, 0, 0, pt_q105_0)
-- TurnCabinet.party(II)I
def pt_q106_0 : List pm_Q := [(0, .aload_n 0, 1, 0, [0], 0, 0),
  (1, .getfield 19, 4, 537, [0, 0, 1], 0, 0),
  (4, .iload_n 1, 5, 0, [1], 0, 0),
  (5, .invokevirtual 113, 8, 709, [504, 2, 0, 2, 710, 711, 127, 712], 0, 0),
  (8, .ifCond .ne (5), 11, 0, [13], 0, 0),
  (11, .iconst (-1), 12, 0, [], -1, 0),
  (12, .ireturn, 13, 0, [], 0, 0),
  (13, .iload_n 2, 14, 0, [2], 0, 0),
  (14, .tableswitch (79) (0) (4) #[34, 43, 52, 61, 70], 48, 0, [93, 48, 57, 66, 75, 84], 0, 0),
  (48, .aload_n 0, 49, 0, [0], 0, 0),
  (49, .getfield 19, 52, 537, [0, 0, 1], 0, 0),
  (52, .iload_n 1, 53, 0, [1], 0, 0),
  (53, .invokevirtual 117, 56, 713, [508, 2, 0, 2, 714, 715, 127, 716], 0, 0),
  (56, .ireturn, 57, 0, [], 0, 0),
  (57, .aload_n 0, 58, 0, [0], 0, 0),
  (58, .getfield 19, 61, 537, [0, 0, 1], 0, 0),
  (61, .iload_n 1, 62, 0, [1], 0, 0),
  (62, .invokevirtual 121, 65, 717, [509, 2, 0, 2, 718, 719, 127, 720], 0, 0),
  (65, .ireturn, 66, 0, [], 0, 0),
  (66, .aload_n 0, 67, 0, [0], 0, 0),
  (67, .getfield 19, 70, 537, [0, 0, 1], 0, 0),
  (70, .iload_n 1, 71, 0, [1], 0, 0),
  (71, .invokevirtual 124, 74, 721, [510, 2, 0, 2, 722, 723, 127, 724], 0, 0),
  (74, .ireturn, 75, 0, [], 0, 0),
  (75, .aload_n 0, 76, 0, [0], 0, 0),
  (76, .getfield 69, 79, 543, [0, 0, 7], 0, 0),
  (79, .iload_n 1, 80, 0, [1], 0, 0),
  (80, .invokevirtual 127, 83, 725, [205, 2, 0, 8, 726, 727, 137, 728], 0, 0),
  (83, .ireturn, 84, 0, [], 0, 0),
  (84, .aload_n 0, 85, 0, [0], 0, 0),
  (85, .getfield 19, 88, 537, [0, 0, 1], 0, 0),
  (88, .iload_n 1, 89, 0, [1], 0, 0),
  (89, .invokevirtual 130, 92, 745, [511, 2, 0, 2, 746, 747, 127, 748], 0, 0),
  (92, .ireturn, 93, 0, [], 0, 0),
  (93, .iconst (-1), 94, 0, [], -1, 0),
  (94, .ireturn, 95, 0, [], 0, 0)]
def pt_m106 : pm_Me := (⟨"TurnCabinet", "party", "(II)I"⟩, prog_1_method_6_code, 3, some .int, 4, 87, pt_q106_0)
-- TurnCabinet$House.hasParty(I)Z
def pt_q504_0 : List pm_Q := [(0, .iload_n 1, 1, 0, [1], 0, 0),
  (1, .ifCond .lt (15), 4, 0, [16], 0, 0),
  (4, .iload_n 1, 5, 0, [1], 0, 0),
  (5, .aload_n 0, 6, 0, [0], 0, 0),
  (6, .getfield 40, 9, 170, [0, 2, 0], 0, 0),
  (9, .if_icmp .ge (7), 12, 0, [16], 0, 0),
  (12, .iconst (1), 13, 0, [], 1, 0),
  (13, .goto (4), 16, 0, [17], 0, 0),
  (16, .iconst (0), 17, 0, [], 0, 0),
  (17, .ireturn, 18, 0, [], 0, 0)]
def pt_m504 : pm_Me := (⟨"TurnCabinet$House", "hasParty", "(I)Z"⟩, prog_5_method_4_code, 2, some .boolean, 0, 0, pt_q504_0)
-- TurnCabinet$House.seatsOf(I)I
def pt_q508_0 : List pm_Q := [(0, .aload_n 0, 1, 0, [0], 0, 0),
  (1, .getfield 9, 4, 212, [0, 2, 10], 0, 0),
  (4, .iload_n 1, 5, 0, [1], 0, 0),
  (5, .bipush (7), 7, 0, [], 7, 0),
  (7, .iand, 8, 0, [], 0, 0),
  (8, .iaload, 9, 0, [], 0, 0),
  (9, .ireturn, 10, 0, [], 0, 0)]
def pt_m508 : pm_Me := (⟨"TurnCabinet$House", "seatsOf", "(I)I"⟩, prog_5_method_8_code, 2, some .int, 0, 0, pt_q508_0)
-- TurnCabinet$House.placeOf(I)I
def pt_q509_0 : List pm_Q := [(0, .aload_n 0, 1, 0, [0], 0, 0),
  (1, .getfield 15, 4, 214, [0, 2, 11], 0, 0),
  (4, .iload_n 1, 5, 0, [1], 0, 0),
  (5, .bipush (7), 7, 0, [], 7, 0),
  (7, .iand, 8, 0, [], 0, 0),
  (8, .iaload, 9, 0, [], 0, 0),
  (9, .ireturn, 10, 0, [], 0, 0)]
def pt_m509 : pm_Me := (⟨"TurnCabinet$House", "placeOf", "(I)I"⟩, prog_5_method_9_code, 2, some .int, 0, 0, pt_q509_0)
-- TurnCabinet$House.walkOf(I)I
def pt_q510_0 : List pm_Q := [(0, .aload_n 0, 1, 0, [0], 0, 0),
  (1, .getfield 18, 4, 216, [0, 2, 12], 0, 0),
  (4, .iload_n 1, 5, 0, [1], 0, 0),
  (5, .bipush (7), 7, 0, [], 7, 0),
  (7, .iand, 8, 0, [], 0, 0),
  (8, .iaload, 9, 0, [], 0, 0),
  (9, .ireturn, 10, 0, [], 0, 0)]
def pt_m510 : pm_Me := (⟨"TurnCabinet$House", "walkOf", "(I)I"⟩, prog_5_method_10_code, 2, some .int, 0, 0, pt_q510_0)
-- TurnCabinet$Cabinet.officesOf(I)I
def pt_q205_0 : List pm_Q := [(0, .aload_n 0, 1, 0, [0], 0, 0),
  (1, .iload_n 1, 2, 0, [1], 0, 0),
  (2, .invokevirtual 57, 5, 729, [206, 2, 0, 8, 731, 18, 137, 732], 0, 0),
  (5, .invokestatic 61, 8, 739, [1508, 1, 0, 740, 140, 741], 0, 0),
  (8, .ireturn, 9, 0, [], 0, 0)]
def pt_m205 : pm_Me := (⟨"TurnCabinet$Cabinet", "officesOf", "(I)I"⟩, prog_2_method_5_code, 2, some .int, 3, 66, pt_q205_0)
-- TurnCabinet$Cabinet.heldBy(I)I
def pt_q206_0 : List pm_Q := [(0, .aload_n 0, 1, 0, [0], 0, 0),
  (1, .getfield 28, 4, 514, [0, 8, 5], 0, 0),
  (4, .ifCond .ne (7), 7, 0, [11], 0, 0),
  (7, .iconst (0), 8, 0, [], 0, 0),
  (8, .goto (18), 11, 0, [26], 0, 0),
  (11, .aload_n 0, 12, 0, [0], 0, 0),
  (12, .getfield 32, 15, 516, [0, 8, 6], 0, 0),
  (15, .aload_n 0, 16, 0, [0], 0, 0),
  (16, .getfield 24, 19, 509, [0, 8, 0], 0, 0),
  (19, .getfield 66, 22, 180, [1, 2, 1], 0, 0),
  (22, .iload_n 1, 23, 0, [1], 0, 0),
  (23, .invokestatic 69, 26, 733, [905, 3, 0, 734, 139, 735], 0, 0),
  (26, .ireturn, 27, 0, [], 0, 0)]
def pt_m206 : pm_Me := (⟨"TurnCabinet$Cabinet", "heldBy", "(I)I"⟩, prog_2_method_6_code, 2, some .int, 2, 45, pt_q206_0)
-- TurnCabinet$Slots.placesOf(III)I
def pt_q905_0 : List pm_Q := [(0, .iconst (0), 1, 0, [], 0, 0),
  (1, .istore_n 3, 2, 0, [3], 0, 0),
  (2, .iconst (0), 3, 0, [], 0, 0),
  (3, .istore 4, 5, 0, [4], 0, 0),
  (5, .iload 4, 7, 0, [4], 0, 0),
  (7, .iload_n 1, 8, 0, [1], 0, 0),
  (8, .if_icmp .ge (26), 11, 0, [34], 0, 0),
  (11, .iload_n 0, 12, 0, [0], 0, 0),
  (12, .iload 4, 14, 0, [4], 0, 0),
  (14, .invokestatic 7, 17, 736, [902, 2, 0, 737, 139, 738], 0, 0),
  (17, .iload_n 2, 18, 0, [2], 0, 0),
  (18, .if_icmp .ne (10), 21, 0, [28], 0, 0),
  (21, .iload_n 3, 22, 0, [3], 0, 0),
  (22, .iconst (1), 23, 0, [], 1, 0),
  (23, .iload 4, 25, 0, [4], 0, 0),
  (25, .ishl, 26, 0, [], 0, 0),
  (26, .ior, 27, 0, [], 0, 0),
  (27, .istore_n 3, 28, 0, [3], 0, 0),
  (28, .iinc 4 (1), 31, 0, [4], 1, 0),
  (31, .goto (-26), 34, 0, [5], 0, 0),
  (34, .iload_n 3, 35, 0, [3], 0, 0),
  (35, .ireturn, 36, 0, [], 0, 0)]
def pt_m905 : pm_Me := (⟨"TurnCabinet$Slots", "placesOf", "(III)I"⟩, prog_9_method_5_code, 5, some .int, 1, 21, pt_q905_0)
-- TurnCabinet$Slots.get(II)I
def pt_q902_0 : List pm_Q := [(0, .iload_n 0, 1, 0, [0], 0, 0),
  (1, .iconst (3), 2, 0, [], 3, 0),
  (2, .iload_n 1, 3, 0, [1], 0, 0),
  (3, .bipush (7), 5, 0, [], 7, 0),
  (5, .iand, 6, 0, [], 0, 0),
  (6, .imul, 7, 0, [], 0, 0),
  (7, .iushr, 8, 0, [], 0, 0),
  (8, .bipush (7), 10, 0, [], 7, 0),
  (10, .iand, 11, 0, [], 0, 0),
  (11, .ireturn, 12, 0, [], 0, 0)]
def pt_m902 : pm_Me := (⟨"TurnCabinet$Slots", "get", "(II)I"⟩, prog_9_method_2_code, 2, some .int, 0, 0, pt_q902_0)
-- java/lang/Integer.bitCount(I)I
def pt_q1508_0 : List pm_Q := [(0, .iload_n 0, 1, 0, [0], 0, 0),
  (1, .iload_n 0, 2, 0, [0], 0, 0),
  (2, .iconst (1), 3, 0, [], 1, 0),
  (3, .iushr, 4, 0, [], 0, 0),
  (4, .ldc_w 265, 7, 742, [], 1431655765, 0),
  (7, .iand, 8, 0, [], 0, 0),
  (8, .isub, 9, 0, [], 0, 0),
  (9, .istore_n 0, 10, 0, [0], 0, 0),
  (10, .iload_n 0, 11, 0, [0], 0, 0),
  (11, .ldc_w 266, 14, 743, [], 858993459, 0),
  (14, .iand, 15, 0, [], 0, 0),
  (15, .iload_n 0, 16, 0, [0], 0, 0),
  (16, .iconst (2), 17, 0, [], 2, 0),
  (17, .iushr, 18, 0, [], 0, 0),
  (18, .ldc_w 266, 21, 743, [], 858993459, 0),
  (21, .iand, 22, 0, [], 0, 0),
  (22, .iadd, 23, 0, [], 0, 0),
  (23, .istore_n 0, 24, 0, [0], 0, 0),
  (24, .iload_n 0, 25, 0, [0], 0, 0),
  (25, .iload_n 0, 26, 0, [0], 0, 0),
  (26, .iconst (4), 27, 0, [], 4, 0),
  (27, .iushr, 28, 0, [], 0, 0),
  (28, .iadd, 29, 0, [], 0, 0),
  (29, .ldc_w 267, 32, 744, [], 252645135, 0),
  (32, .iand, 33, 0, [], 0, 0),
  (33, .istore_n 0, 34, 0, [0], 0, 0),
  (34, .iload_n 0, 35, 0, [0], 0, 0),
  (35, .iload_n 0, 36, 0, [0], 0, 0),
  (36, .bipush (8), 38, 0, [], 8, 0),
  (38, .iushr, 39, 0, [], 0, 0),
  (39, .iadd, 40, 0, [], 0, 0),
  (40, .istore_n 0, 41, 0, [0], 0, 0),
  (41, .iload_n 0, 42, 0, [0], 0, 0),
  (42, .iload_n 0, 43, 0, [0], 0, 0),
  (43, .bipush (16), 45, 0, [], 16, 0),
  (45, .iushr, 46, 0, [], 0, 0),
  (46, .iadd, 47, 0, [], 0, 0),
  (47, .istore_n 0, 48, 0, [0], 0, 0),
  (48, .iload_n 0, 49, 0, [0], 0, 0),
  (49, .bipush (63), 51, 0, [], 63, 0),
  (51, .iand, 52, 0, [], 0, 0),
  (52, .ireturn, 53, 0, [], 0, 0)]
def pt_m1508 : pm_Me := (⟨"java/lang/Integer", "bitCount", "(I)I"⟩, prog_13_method_49_code, 1, some .int, 0, 0, pt_q1508_0)
-- TurnCabinet$House.barredFrom(I)I
def pt_q511_0 : List pm_Q := [(0, .aload_n 0, 1, 0, [0], 0, 0),
  (1, .getfield 21, 4, 218, [0, 2, 13], 0, 0),
  (4, .iload_n 1, 5, 0, [1], 0, 0),
  (5, .bipush (7), 7, 0, [], 7, 0),
  (7, .iand, 8, 0, [], 0, 0),
  (8, .iaload, 9, 0, [], 0, 0),
  (9, .ireturn, 10, 0, [], 0, 0)]
def pt_m511 : pm_Me := (⟨"TurnCabinet$House", "barredFrom", "(I)I"⟩, prog_5_method_11_code, 2, some .int, 0, 0, pt_q511_0)
-- TurnCabinet.worth(II)I
def pt_q107_0 : List pm_Q := [(0, .aload_n 0, 1, 0, [0], 0, 0),
  (1, .getfield 19, 4, 537, [0, 0, 1], 0, 0),
  (4, .iload_n 1, 5, 0, [1], 0, 0),
  (5, .invokevirtual 113, 8, 709, [504, 2, 0, 2, 710, 711, 127, 712], 0, 0),
  (8, .ifCond .eq (14), 11, 0, [22], 0, 0),
  (11, .aload_n 0, 12, 0, [0], 0, 0),
  (12, .getfield 19, 15, 537, [0, 0, 1], 0, 0),
  (15, .iload_n 2, 16, 0, [2], 0, 0),
  (16, .invokevirtual 133, 19, 753, [505, 2, 0, 2, 754, 755, 127, 756], 0, 0),
  (19, .ifCond .ne (5), 22, 0, [24], 0, 0),
  (22, .iconst (-1), 23, 0, [], -1, 0),
  (23, .ireturn, 24, 0, [], 0, 0),
  (24, .aload_n 0, 25, 0, [0], 0, 0),
  (25, .getfield 19, 28, 537, [0, 0, 1], 0, 0),
  (28, .iload_n 1, 29, 0, [1], 0, 0),
  (29, .iload_n 2, 30, 0, [2], 0, 0),
  (30, .invokevirtual 136, 33, 757, [512, 3, 0, 2, 758, 759, 127, 760], 0, 0),
  (33, .ireturn, 34, 0, [], 0, 0)]
def pt_m107 : pm_Me := (⟨"TurnCabinet", "worth", "(II)I"⟩, prog_1_method_7_code, 3, some .int, 1, 22, pt_q107_0)
-- TurnCabinet$House.hasOffice(I)Z
def pt_q505_0 : List pm_Q := [(0, .iload_n 1, 1, 0, [1], 0, 0),
  (1, .ifCond .lt (15), 4, 0, [16], 0, 0),
  (4, .iload_n 1, 5, 0, [1], 0, 0),
  (5, .aload_n 0, 6, 0, [0], 0, 0),
  (6, .getfield 43, 9, 178, [0, 2, 1], 0, 0),
  (9, .if_icmp .ge (7), 12, 0, [16], 0, 0),
  (12, .iconst (1), 13, 0, [], 1, 0),
  (13, .goto (4), 16, 0, [17], 0, 0),
  (16, .iconst (0), 17, 0, [], 0, 0),
  (17, .ireturn, 18, 0, [], 0, 0)]
def pt_m505 : pm_Me := (⟨"TurnCabinet$House", "hasOffice", "(I)Z"⟩, prog_5_method_5_code, 2, some .boolean, 0, 0, pt_q505_0)
-- TurnCabinet$House.worthTo(II)I
def pt_q512_0 : List pm_Q := [(0, .aload_n 0, 1, 0, [0], 0, 0),
  (1, .getfield 24, 4, 220, [0, 2, 14], 0, 0),
  (4, .bipush (8), 6, 0, [], 8, 0),
  (6, .iload_n 1, 7, 0, [1], 0, 0),
  (7, .bipush (7), 9, 0, [], 7, 0),
  (9, .iand, 10, 0, [], 0, 0),
  (10, .imul, 11, 0, [], 0, 0),
  (11, .iload_n 2, 12, 0, [2], 0, 0),
  (12, .bipush (7), 14, 0, [], 7, 0),
  (14, .iand, 15, 0, [], 0, 0),
  (15, .iadd, 16, 0, [], 0, 0),
  (16, .iaload, 17, 0, [], 0, 0),
  (17, .ireturn, 18, 0, [], 0, 0)]
def pt_m512 : pm_Me := (⟨"TurnCabinet$House", "worthTo", "(II)I"⟩, prog_5_method_12_code, 3, some .int, 0, 0, pt_q512_0)
-- TurnCabinet.about(I)I
def pt_q108_0 : List pm_Q := [(0, .iload_n 1, 1, 0, [1], 0, 0),
  (1, .tableswitch (154) (0) (10) #[59, 67, 75, 83, 91, 99, 107, 122, 130, 138, 146], 60, 0, [155, 60, 68, 76, 84, 92, 100, 108, 123, 131, 139, 147], 0, 0),
  (60, .aload_n 0, 61, 0, [0], 0, 0),
  (61, .getfield 19, 64, 537, [0, 0, 1], 0, 0),
  (64, .getfield 107, 67, 173, [1, 2, 0], 0, 0),
  (67, .ireturn, 68, 0, [], 0, 0),
  (68, .aload_n 0, 69, 0, [0], 0, 0),
  (69, .getfield 19, 72, 537, [0, 0, 1], 0, 0),
  (72, .getfield 140, 75, 181, [1, 2, 1], 0, 0),
  (75, .ireturn, 76, 0, [], 0, 0),
  (76, .aload_n 0, 77, 0, [0], 0, 0),
  (77, .getfield 19, 80, 537, [0, 0, 1], 0, 0),
  (80, .invokevirtual 143, 83, 765, [517, 1, 0, 2, 766, 767, 127, 768], 0, 0),
  (83, .ireturn, 84, 0, [], 0, 0),
  (84, .aload_n 0, 85, 0, [0], 0, 0),
  (85, .getfield 19, 88, 537, [0, 0, 1], 0, 0),
  (88, .getfield 146, 91, 197, [1, 2, 5], 0, 0),
  (91, .ireturn, 92, 0, [], 0, 0),
  (92, .aload_n 0, 93, 0, [0], 0, 0),
  (93, .getfield 19, 96, 537, [0, 0, 1], 0, 0),
  (96, .getfield 149, 99, 201, [1, 2, 6], 0, 0),
  (99, .ireturn, 100, 0, [], 0, 0),
  (100, .aload_n 0, 101, 0, [0], 0, 0),
  (101, .getfield 19, 104, 537, [0, 0, 1], 0, 0),
  (104, .getfield 152, 107, 205, [1, 2, 7], 0, 0),
  (107, .ireturn, 108, 0, [], 0, 0),
  (108, .aload_n 0, 109, 0, [0], 0, 0),
  (109, .getfield 19, 112, 537, [0, 0, 1], 0, 0),
  (112, .aload_n 0, 113, 0, [0], 0, 0),
  (113, .getfield 19, 116, 537, [0, 0, 1], 0, 0),
  (116, .invokevirtual 155, 119, 783, [507, 1, 0, 2, 770, 771, 127, 772], 0, 0),
  (119, .invokevirtual 158, 122, 784, [515, 2, 0, 2, 774, 775, 127, 776], 0, 0),
  (122, .ireturn, 123, 0, [], 0, 0),
  (123, .aload_n 0, 124, 0, [0], 0, 0),
  (124, .getfield 69, 127, 543, [0, 0, 7], 0, 0),
  (127, .getfield 161, 130, 518, [1, 8, 7], 0, 0),
  (130, .ireturn, 131, 0, [], 0, 0),
  (131, .aload_n 0, 132, 0, [0], 0, 0),
  (132, .getfield 10, 135, 536, [0, 0, 0], 0, 0),
  (135, .invokevirtual 73, 138, 565, [1002, 1, 0, 1, 566, 567, 126, 568], 0, 0),
  (138, .ireturn, 139, 0, [], 0, 0),
  (139, .aload_n 0, 140, 0, [0], 0, 0),
  (140, .getfield 19, 143, 537, [0, 0, 1], 0, 0),
  (143, .getfield 164, 146, 185, [1, 2, 2], 0, 0),
  (146, .ireturn, 147, 0, [], 0, 0),
  (147, .aload_n 0, 148, 0, [0], 0, 0),
  (148, .getfield 19, 151, 537, [0, 0, 1], 0, 0),
  (151, .getfield 167, 154, 190, [1, 2, 3], 0, 0),
  (154, .ireturn, 155, 0, [], 0, 0),
  (155, .iconst (-1), 156, 0, [], -1, 0),
  (156, .ireturn, 157, 0, [], 0, 0)]
def pt_m108 : pm_Me := (⟨"TurnCabinet", "about", "(I)I"⟩, prog_1_method_8_code, 2, some .int, 3, 64, pt_q108_0)
-- TurnCabinet$House.needNow()I
def pt_q517_0 : List pm_Q := [(0, .aload_n 0, 1, 0, [0], 0, 0),
  (1, .aload_n 0, 2, 0, [0], 0, 0),
  (2, .aload_n 0, 3, 0, [0], 0, 0),
  (3, .invokevirtual 61, 6, 769, [507, 1, 0, 2, 770, 771, 127, 772], 0, 0),
  (6, .invokevirtual 73, 9, 773, [515, 2, 0, 2, 774, 775, 127, 776], 0, 0),
  (9, .invokevirtual 76, 12, 779, [516, 2, 0, 2, 780, 781, 127, 782], 0, 0),
  (12, .ireturn, 13, 0, [], 0, 0)]
def pt_m517 : pm_Me := (⟨"TurnCabinet$House", "needNow", "()I"⟩, prog_5_method_17_code, 1, some .int, 2, 44, pt_q517_0)
-- TurnCabinet$House.everyone()I
def pt_q507_0 : List pm_Q := [(0, .iconst (1), 1, 0, [], 1, 0),
  (1, .aload_n 0, 2, 0, [0], 0, 0),
  (2, .getfield 40, 5, 170, [0, 2, 0], 0, 0),
  (5, .ishl, 6, 0, [], 0, 0),
  (6, .iconst (1), 7, 0, [], 1, 0),
  (7, .isub, 8, 0, [], 0, 0),
  (8, .ireturn, 9, 0, [], 0, 0)]
def pt_m507 : pm_Me := (⟨"TurnCabinet$House", "everyone", "()I"⟩, prog_5_method_7_code, 1, some .int, 0, 0, pt_q507_0)
-- TurnCabinet$House.seatsIn(I)I
def pt_q515_0 : List pm_Q := [(0, .iconst (0), 1, 0, [], 0, 0),
  (1, .istore_n 2, 2, 0, [2], 0, 0),
  (2, .iconst (0), 3, 0, [], 0, 0),
  (3, .istore_n 3, 4, 0, [3], 0, 0),
  (4, .iload_n 3, 5, 0, [3], 0, 0),
  (5, .aload_n 0, 6, 0, [0], 0, 0),
  (6, .getfield 40, 9, 170, [0, 2, 0], 0, 0),
  (9, .if_icmp .ge (25), 12, 0, [34], 0, 0),
  (12, .iload_n 3, 13, 0, [3], 0, 0),
  (13, .iload_n 1, 14, 0, [1], 0, 0),
  (14, .invokestatic 65, 17, 777, [151, 2, 1, 639, 125, 640], 0, 0),
  (17, .ifCond .eq (11), 20, 0, [28], 0, 0),
  (20, .iload_n 2, 21, 0, [2], 0, 0),
  (21, .aload_n 0, 22, 0, [0], 0, 0),
  (22, .iload_n 3, 23, 0, [3], 0, 0),
  (23, .invokevirtual 69, 26, 778, [508, 2, 0, 2, 714, 715, 127, 716], 0, 0),
  (26, .iadd, 27, 0, [], 0, 0),
  (27, .istore_n 2, 28, 0, [2], 0, 0),
  (28, .iinc 3 (1), 31, 0, [3], 1, 0),
  (31, .goto (-27), 34, 0, [4], 0, 0),
  (34, .iload_n 2, 35, 0, [2], 0, 0),
  (35, .ireturn, 36, 0, [], 0, 0)]
def pt_m515 : pm_Me := (⟨"TurnCabinet$House", "seatsIn", "(I)I"⟩, prog_5_method_15_code, 4, some .int, 1, 21, pt_q515_0)
-- TurnCabinet$House.needOf(I)I
def pt_q516_0 : List pm_Q := [(0, .aload_n 0, 1, 0, [0], 0, 0),
  (1, .getfield 46, 4, 193, [0, 2, 4], 0, 0),
  (4, .ifCond .le (10), 7, 0, [14], 0, 0),
  (7, .aload_n 0, 8, 0, [0], 0, 0),
  (8, .getfield 46, 11, 193, [0, 2, 4], 0, 0),
  (11, .goto (8), 14, 0, [19], 0, 0),
  (14, .iload_n 1, 15, 0, [1], 0, 0),
  (15, .iconst (2), 16, 0, [], 2, 0),
  (16, .idiv, 17, 0, [], 0, 0),
  (17, .iconst (1), 18, 0, [], 1, 0),
  (18, .iadd, 19, 0, [], 0, 0),
  (19, .ireturn, 20, 0, [], 0, 0)]
def pt_m516 : pm_Me := (⟨"TurnCabinet$House", "needOf", "(I)I"⟩, prog_5_method_16_code, 2, some .int, 0, 0, pt_q516_0)
-- TurnCabinet.turn(II)I
def pt_q109_0 : List pm_Q := [(0, .aload_n 0, 1, 0, [0], 0, 0),
  (1, .iload_n 1, 2, 0, [1], 0, 0),
  (2, .aload_n 0, 3, 0, [0], 0, 0),
  (3, .getfield 19, 6, 537, [0, 0, 1], 0, 0),
  (6, .getfield 164, 9, 185, [1, 2, 2], 0, 0),
  (9, .aload_n 0, 10, 0, [0], 0, 0),
  (10, .getfield 19, 13, 537, [0, 0, 1], 0, 0),
  (13, .getfield 167, 16, 190, [1, 2, 3], 0, 0),
  (16, .iload_n 2, 17, 0, [2], 0, 0),
  (17, .invokevirtual 170, 20, 789, [110, 5, 0, 0, 790, 791, 125, 792], 0, 0),
  (20, .ireturn, 21, 0, [], 0, 0)]
def pt_m109 : pm_Me := (⟨"TurnCabinet", "turn", "(II)I"⟩, prog_1_method_9_code, 3, some .int, 4, 103, pt_q109_0)
-- TurnCabinet.turnBy(IIII)I
def pt_q110_0 : List pm_Q := [(0, .aload_n 0, 1, 0, [0], 0, 0),
  (1, .getfield 19, 4, 537, [0, 0, 1], 0, 0),
  (4, .iload_n 1, 5, 0, [1], 0, 0),
  (5, .invokevirtual 174, 8, 793, [506, 2, 0, 2, 794, 795, 127, 796], 0, 0),
  (8, .ifCond .eq (20), 11, 0, [28], 0, 0),
  (11, .iload 4, 13, 0, [4], 0, 0),
  (13, .ifCond .lt (15), 16, 0, [28], 0, 0),
  (16, .iload 4, 18, 0, [4], 0, 0),
  (18, .aload_n 0, 19, 0, [0], 0, 0),
  (19, .getfield 19, 22, 537, [0, 0, 1], 0, 0),
  (22, .getfield 140, 25, 181, [1, 2, 1], 0, 0),
  (25, .if_icmp .lt (5), 28, 0, [30], 0, 0),
  (28, .iconst (-1), 29, 0, [], -1, 0),
  (29, .ireturn, 30, 0, [], 0, 0),
  (30, .iload_n 2, 31, 0, [2], 0, 0),
  (31, .invokestatic 177, 34, 797, [150, 1, 0, 798, 125, 799], 0, 0),
  (34, .ifCond .eq (10), 37, 0, [44], 0, 0),
  (37, .iload_n 3, 38, 0, [3], 0, 0),
  (38, .invokestatic 177, 41, 797, [150, 1, 0, 798, 125, 799], 0, 0),
  (41, .ifCond .ne (5), 44, 0, [46], 0, 0),
  (44, .iconst (-1), 45, 0, [], -1, 0),
  (45, .ireturn, 46, 0, [], 0, 0),
  (46, .aload_n 0, 47, 0, [0], 0, 0),
  (47, .getfield 37, 50, 539, [0, 0, 3], 0, 0),
  (50, .iload_n 1, 51, 0, [1], 0, 0),
  (51, .iload_n 2, 52, 0, [2], 0, 0),
  (52, .iload_n 3, 53, 0, [3], 0, 0),
  (53, .invokevirtual 180, 56, 800, [602, 4, 0, 4, 801, 802, 133, 803], 0, 0),
  (56, .iload 4, 58, 0, [4], 0, 0),
  (58, .invokestatic 184, 61, 817, [902, 2, 0, 737, 139, 738], 0, 0),
  (61, .ireturn, 62, 0, [], 0, 0)]
def pt_m110 : pm_Me := (⟨"TurnCabinet", "turnBy", "(IIII)I"⟩, prog_1_method_10_code, 5, some .int, 3, 79, pt_q110_0)
-- TurnCabinet$House.hasCoalition(I)Z
def pt_q506_0 : List pm_Q := [(0, .iload_n 1, 1, 0, [1], 0, 0),
  (1, .ifCond .le (15), 4, 0, [16], 0, 0),
  (4, .iload_n 1, 5, 0, [1], 0, 0),
  (5, .aload_n 0, 6, 0, [0], 0, 0),
  (6, .invokevirtual 61, 9, 769, [507, 1, 0, 2, 770, 771, 127, 772], 0, 0),
  (9, .if_icmp .gt (7), 12, 0, [16], 0, 0),
  (12, .iconst (1), 13, 0, [], 1, 0),
  (13, .goto (4), 16, 0, [17], 0, 0),
  (16, .iconst (0), 17, 0, [], 0, 0),
  (17, .ireturn, 18, 0, [], 0, 0)]
def pt_m506 : pm_Me := (⟨"TurnCabinet$House", "hasCoalition", "(I)Z"⟩, prog_5_method_6_code, 2, some .boolean, 1, 20, pt_q506_0)
-- TurnCabinet.isDivisor(I)Z
def pt_q150_0 : List pm_Q := [(0, .iload_n 0, 1, 0, [0], 0, 0),
  (1, .iconst (1), 2, 0, [], 1, 0),
  (2, .if_icmp .lt (13), 5, 0, [15], 0, 0),
  (5, .iload_n 0, 6, 0, [0], 0, 0),
  (6, .bipush (99), 8, 0, [], 99, 0),
  (8, .if_icmp .gt (7), 11, 0, [15], 0, 0),
  (11, .iconst (1), 12, 0, [], 1, 0),
  (12, .goto (4), 15, 0, [16], 0, 0),
  (15, .iconst (0), 16, 0, [], 0, 0),
  (16, .ireturn, 17, 0, [], 0, 0)]
def pt_m150 : pm_Me := (⟨"TurnCabinet", "isDivisor", "(I)Z"⟩, prog_1_method_50_code, 1, some .boolean, 0, 0, pt_q150_0)
-- TurnCabinet$Picks.turnsOf(III)I
def pt_q602_0 : List pm_Q := [(0, .iconst (0), 1, 0, [], 0, 0),
  (1, .istore 4, 3, 0, [4], 0, 0),
  (3, .iconst (0), 4, 0, [], 0, 0),
  (4, .istore 5, 6, 0, [5], 0, 0),
  (6, .iconst (0), 7, 0, [], 0, 0),
  (7, .istore 6, 9, 0, [6], 0, 0),
  (9, .iload 6, 11, 0, [6], 0, 0),
  (11, .aload_n 0, 12, 0, [0], 0, 0),
  (12, .getfield 26, 15, 378, [0, 4, 0], 0, 0),
  (15, .getfield 30, 18, 179, [1, 2, 1], 0, 0),
  (18, .if_icmp .ge (43), 21, 0, [61], 0, 0),
  (21, .aload_n 0, 22, 0, [0], 0, 0),
  (22, .getfield 26, 25, 378, [0, 4, 0], 0, 0),
  (25, .iload_n 1, 26, 0, [1], 0, 0),
  (26, .iload 5, 28, 0, [5], 0, 0),
  (28, .iload_n 2, 29, 0, [2], 0, 0),
  (29, .iload_n 3, 30, 0, [3], 0, 0),
  (30, .invokevirtual 35, 33, 804, [518, 5, 0, 2, 805, 806, 127, 807], 0, 0),
  (33, .istore 7, 35, 0, [7], 0, 0),
  (35, .iload 4, 37, 0, [4], 0, 0),
  (37, .iload 6, 39, 0, [6], 0, 0),
  (39, .iload 7, 41, 0, [7], 0, 0),
  (41, .invokestatic 39, 44, 811, [903, 3, 0, 812, 139, 813], 0, 0),
  (44, .istore 4, 46, 0, [4], 0, 0),
  (46, .iload 5, 48, 0, [5], 0, 0),
  (48, .iload 7, 50, 0, [7], 0, 0),
  (50, .invokestatic 45, 53, 814, [907, 2, 0, 815, 139, 816], 0, 0),
  (53, .istore 5, 55, 0, [5], 0, 0),
  (55, .iinc 6 (1), 58, 0, [6], 1, 0),
  (58, .goto (-49), 61, 0, [9, 7], 0, 0),
  (61, .iload 4, 63, 0, [4], 0, 0),
  (63, .ireturn, 64, 0, [], 0, 0)]
def pt_m602 : pm_Me := (⟨"TurnCabinet$Picks", "turnsOf", "(III)I"⟩, prog_6_method_2_code, 8, some .int, 2, 52, pt_q602_0)
-- TurnCabinet$House.nextBy(IIII)I
def pt_q518_0 : List pm_Q := [(0, .iconst (-1), 1, 0, [], -1, 0),
  (1, .istore 5, 3, 0, [5], 0, 0),
  (3, .iconst (0), 4, 0, [], 0, 0),
  (4, .istore 6, 6, 0, [6], 0, 0),
  (6, .iconst (1), 7, 0, [], 1, 0),
  (7, .istore 7, 9, 0, [7], 0, 0),
  (9, .iconst (0), 10, 0, [], 0, 0),
  (10, .istore 8, 12, 0, [8], 0, 0),
  (12, .iload 8, 14, 0, [8], 0, 0),
  (14, .aload_n 0, 15, 0, [0], 0, 0),
  (15, .getfield 40, 18, 170, [0, 2, 0], 0, 0),
  (18, .if_icmp .ge (84), 21, 0, [102], 0, 0),
  (21, .iload 8, 23, 0, [8], 0, 0),
  (23, .iload_n 1, 24, 0, [1], 0, 0),
  (24, .invokestatic 65, 27, 777, [151, 2, 1, 639, 125, 640], 0, 0),
  (27, .ifCond .ne (6), 30, 0, [33], 0, 0),
  (30, .goto (66), 33, 0, [96], 0, 0),
  (33, .aload_n 0, 34, 0, [0], 0, 0),
  (34, .iload 8, 36, 0, [8], 0, 0),
  (36, .invokevirtual 69, 39, 778, [508, 2, 0, 2, 714, 715, 127, 716], 0, 0),
  (39, .istore 9, 41, 0, [9], 0, 0),
  (41, .iload_n 3, 42, 0, [3], 0, 0),
  (42, .iload 4, 44, 0, [4], 0, 0),
  (44, .iload_n 2, 45, 0, [2], 0, 0),
  (45, .iload 8, 47, 0, [8], 0, 0),
  (47, .invokestatic 79, 50, 808, [906, 2, 0, 809, 139, 810], 0, 0),
  (50, .imul, 51, 0, [], 0, 0),
  (51, .iadd, 52, 0, [], 0, 0),
  (52, .istore 10, 54, 0, [10], 0, 0),
  (54, .iload 9, 56, 0, [9], 0, 0),
  (56, .iload 7, 58, 0, [7], 0, 0),
  (58, .imul, 59, 0, [], 0, 0),
  (59, .iload 6, 61, 0, [6], 0, 0),
  (61, .iload 10, 63, 0, [10], 0, 0),
  (63, .imul, 64, 0, [], 0, 0),
  (64, .isub, 65, 0, [], 0, 0),
  (65, .istore 11, 67, 0, [11], 0, 0),
  (67, .iload 11, 69, 0, [11], 0, 0),
  (69, .ifCond .gt (15), 72, 0, [84], 0, 0),
  (72, .iload 11, 74, 0, [11], 0, 0),
  (74, .ifCond .ne (22), 77, 0, [96], 0, 0),
  (77, .iload 9, 79, 0, [9], 0, 0),
  (79, .iload 6, 81, 0, [6], 0, 0),
  (81, .if_icmp .le (15), 84, 0, [96], 0, 0),
  (84, .iload 8, 86, 0, [8], 0, 0),
  (86, .istore 5, 88, 0, [5], 0, 0),
  (88, .iload 9, 90, 0, [9], 0, 0),
  (90, .istore 6, 92, 0, [6], 0, 0),
  (92, .iload 10, 94, 0, [10], 0, 0),
  (94, .istore 7, 96, 0, [7], 0, 0),
  (96, .iinc 8 (1), 99, 0, [8], 1, 0),
  (99, .goto (-87), 102, 0, [12, 9, 10, 11], 0, 0),
  (102, .iload 5, 104, 0, [5], 0, 0),
  (104, .ireturn, 105, 0, [], 0, 0)]
def pt_m518 : pm_Me := (⟨"TurnCabinet$House", "nextBy", "(IIII)I"⟩, prog_5_method_18_code, 12, some .int, 1, 21, pt_q518_0)
-- TurnCabinet$Slots.count(II)I
def pt_q906_0 : List pm_Q := [(0, .iload_n 0, 1, 0, [0], 0, 0),
  (1, .iconst (4), 2, 0, [], 4, 0),
  (2, .iload_n 1, 3, 0, [1], 0, 0),
  (3, .bipush (7), 5, 0, [], 7, 0),
  (5, .iand, 6, 0, [], 0, 0),
  (6, .imul, 7, 0, [], 0, 0),
  (7, .iushr, 8, 0, [], 0, 0),
  (8, .bipush (15), 10, 0, [], 15, 0),
  (10, .iand, 11, 0, [], 0, 0),
  (11, .ireturn, 12, 0, [], 0, 0)]
def pt_m906 : pm_Me := (⟨"TurnCabinet$Slots", "count", "(II)I"⟩, prog_9_method_6_code, 2, some .int, 0, 0, pt_q906_0)
-- TurnCabinet$Slots.with(III)I
def pt_q903_0 : List pm_Q := [(0, .iconst (3), 1, 0, [], 3, 0),
  (1, .iload_n 1, 2, 0, [1], 0, 0),
  (2, .bipush (7), 4, 0, [], 7, 0),
  (4, .iand, 5, 0, [], 0, 0),
  (5, .imul, 6, 0, [], 0, 0),
  (6, .istore_n 3, 7, 0, [3], 0, 0),
  (7, .iload_n 0, 8, 0, [0], 0, 0),
  (8, .bipush (7), 10, 0, [], 7, 0),
  (10, .iload_n 3, 11, 0, [3], 0, 0),
  (11, .ishl, 12, 0, [], 0, 0),
  (12, .iconst (-1), 13, 0, [], -1, 0),
  (13, .ixor, 14, 0, [], 0, 0),
  (14, .iand, 15, 0, [], 0, 0),
  (15, .iload_n 2, 16, 0, [2], 0, 0),
  (16, .bipush (7), 18, 0, [], 7, 0),
  (18, .iand, 19, 0, [], 0, 0),
  (19, .iload_n 3, 20, 0, [3], 0, 0),
  (20, .ishl, 21, 0, [], 0, 0),
  (21, .ior, 22, 0, [], 0, 0),
  (22, .ireturn, 23, 0, [], 0, 0)]
def pt_m903 : pm_Me := (⟨"TurnCabinet$Slots", "with", "(III)I"⟩, prog_9_method_3_code, 4, some .int, 0, 0, pt_q903_0)
-- TurnCabinet$Slots.oneMore(II)I
def pt_q907_0 : List pm_Q := [(0, .iload_n 0, 1, 0, [0], 0, 0),
  (1, .iconst (1), 2, 0, [], 1, 0),
  (2, .iconst (4), 3, 0, [], 4, 0),
  (3, .iload_n 1, 4, 0, [1], 0, 0),
  (4, .bipush (7), 6, 0, [], 7, 0),
  (6, .iand, 7, 0, [], 0, 0),
  (7, .imul, 8, 0, [], 0, 0),
  (8, .ishl, 9, 0, [], 0, 0),
  (9, .iadd, 10, 0, [], 0, 0),
  (10, .ireturn, 11, 0, [], 0, 0)]
def pt_m907 : pm_Me := (⟨"TurnCabinet$Slots", "oneMore", "(II)I"⟩, prog_9_method_7_code, 2, some .int, 0, 0, pt_q907_0)
-- TurnCabinet.gets(III)I
def pt_q111_0 : List pm_Q := [(0, .aload_n 0, 1, 0, [0], 0, 0),
  (1, .getfield 19, 4, 537, [0, 0, 1], 0, 0),
  (4, .iload_n 1, 5, 0, [1], 0, 0),
  (5, .invokevirtual 174, 8, 793, [506, 2, 0, 2, 794, 795, 127, 796], 0, 0),
  (8, .ifCond .eq (21), 11, 0, [29], 0, 0),
  (11, .iload_n 2, 12, 0, [2], 0, 0),
  (12, .invokestatic 189, 15, 823, [149, 1, 0, 824, 125, 825], 0, 0),
  (15, .ifCond .eq (14), 18, 0, [29], 0, 0),
  (18, .aload_n 0, 19, 0, [0], 0, 0),
  (19, .getfield 19, 22, 537, [0, 0, 1], 0, 0),
  (22, .iload_n 3, 23, 0, [3], 0, 0),
  (23, .invokevirtual 133, 26, 753, [505, 2, 0, 2, 754, 755, 127, 756], 0, 0),
  (26, .ifCond .ne (5), 29, 0, [31], 0, 0),
  (29, .iconst (-1), 30, 0, [], -1, 0),
  (30, .ireturn, 31, 0, [], 0, 0),
  (31, .aload_n 0, 32, 0, [0], 0, 0),
  (32, .getfield 53, 35, 541, [0, 0, 5], 0, 0),
  (35, .iload_n 1, 36, 0, [1], 0, 0),
  (36, .iload_n 2, 37, 0, [2], 0, 0),
  (37, .invokevirtual 192, 40, 826, [307, 3, 0, 6, 827, 828, 135, 829], 0, 0),
  (40, .iload_n 3, 41, 0, [3], 0, 0),
  (41, .invokestatic 184, 44, 817, [902, 2, 0, 737, 139, 738], 0, 0),
  (44, .ireturn, 45, 0, [], 0, 0)]
def pt_m111 : pm_Me := (⟨"TurnCabinet", "gets", "(III)I"⟩, prog_1_method_11_code, 4, some .int, 6, 151, pt_q111_0)
-- TurnCabinet.isWay(I)Z
def pt_q149_0 : List pm_Q := [(0, .iload_n 0, 1, 0, [0], 0, 0),
  (1, .ifCond .lt (12), 4, 0, [13], 0, 0),
  (4, .iload_n 0, 5, 0, [0], 0, 0),
  (5, .iconst (2), 6, 0, [], 2, 0),
  (6, .if_icmp .gt (7), 9, 0, [13], 0, 0),
  (9, .iconst (1), 10, 0, [], 1, 0),
  (10, .goto (4), 13, 0, [14], 0, 0),
  (13, .iconst (0), 14, 0, [], 0, 0),
  (14, .ireturn, 15, 0, [], 0, 0)]
def pt_m149 : pm_Me := (⟨"TurnCabinet", "isWay", "(I)Z"⟩, prog_1_method_49_code, 1, some .boolean, 0, 0, pt_q149_0)
-- TurnCabinet$Coalitions.picked(II)I
def pt_q307_0 : List pm_Q := [(0, .aload_n 0, 1, 0, [0], 0, 0),
  (1, .iload_n 1, 2, 0, [1], 0, 0),
  (2, .invokevirtual 98, 5, 830, [305, 2, 0, 6, 831, 832, 135, 833], 0, 0),
  (5, .iload_n 1, 6, 0, [1], 0, 0),
  (6, .bipush (127), 8, 0, [], 127, 0),
  (8, .iand, 9, 0, [], 0, 0),
  (9, .istore_n 3, 10, 0, [3], 0, 0),
  (10, .iload_n 2, 11, 0, [2], 0, 0),
  (11, .ifCond .ne (17), 14, 0, [28], 0, 0),
  (14, .aload_n 0, 15, 0, [0], 0, 0),
  (15, .getfield 54, 18, 423, [0, 6, 1], 0, 0),
  (18, .aload_n 0, 19, 0, [0], 0, 0),
  (19, .getfield 22, 22, 427, [0, 6, 5], 0, 0),
  (22, .iload_n 3, 23, 0, [3], 0, 0),
  (23, .iaload, 24, 0, [], 0, 0),
  (24, .invokevirtual 143, 27, 911, [603, 2, 0, 4, 912, 913, 133, 914], 0, 0),
  (27, .ireturn, 28, 0, [], 0, 0),
  (28, .iload_n 2, 29, 0, [2], 0, 0),
  (29, .iconst (1), 30, 0, [], 1, 0),
  (30, .if_icmp .ne (12), 33, 0, [42], 0, 0),
  (33, .aload_n 0, 34, 0, [0], 0, 0),
  (34, .getfield 25, 37, 428, [0, 6, 6], 0, 0),
  (37, .iload_n 3, 38, 0, [3], 0, 0),
  (38, .iaload, 39, 0, [], 0, 0),
  (39, .goto (16), 42, 0, [55], 0, 0),
  (42, .aload_n 0, 43, 0, [0], 0, 0),
  (43, .getfield 54, 46, 423, [0, 6, 1], 0, 0),
  (46, .aload_n 0, 47, 0, [0], 0, 0),
  (47, .getfield 25, 50, 428, [0, 6, 6], 0, 0),
  (50, .iload_n 3, 51, 0, [3], 0, 0),
  (51, .iaload, 52, 0, [], 0, 0),
  (52, .invokevirtual 146, 55, 919, [611, 2, 0, 4, 920, 921, 133, 922], 0, 0),
  (55, .ireturn, 56, 0, [], 0, 0)]
def pt_m307 : pm_Me := (⟨"TurnCabinet$Coalitions", "picked", "(II)I"⟩, prog_3_method_7_code, 4, some .int, 5, 128, pt_q307_0)
-- TurnCabinet$Coalitions.learn(I)V
def pt_q305_0 : List pm_Q := [(0, .aload_n 0, 1, 0, [0], 0, 0),
  (1, .invokevirtual 91, 4, 834, [302, 1, 0, 6, 835, 836, 135, 837], 0, 0),
  (4, .iload_n 1, 5, 0, [1], 0, 0),
  (5, .bipush (127), 7, 0, [], 127, 0),
  (7, .iand, 8, 0, [], 0, 0),
  (8, .istore_n 2, 9, 0, [2], 0, 0),
  (9, .aload_n 0, 10, 0, [0], 0, 0),
  (10, .getfield 19, 13, 426, [0, 6, 4], 0, 0),
  (13, .iload_n 2, 14, 0, [2], 0, 0),
  (14, .baload, 15, 0, [], 0, 0),
  (15, .ifCond .eq (4), 18, 0, [19], 0, 0),
  (18, .return_, 19, 0, [], 0, 0),
  (19, .aload_n 0, 20, 0, [0], 0, 0),
  (20, .getfield 19, 23, 426, [0, 6, 4], 0, 0),
  (23, .iload_n 2, 24, 0, [2], 0, 0),
  (24, .iconst (1), 25, 0, [], 1, 0),
  (25, .bastore, 26, 0, [], 0, 0),
  (26, .aload_n 0, 27, 0, [0], 0, 0),
  (27, .iload_n 2, 28, 0, [2], 0, 0),
  (28, .invokevirtual 102, 31, 850, [306, 2, 0, 6, 852, 20, 135, 853], 0, 0),
  (31, .aload_n 0, 32, 0, [0], 0, 0),
  (32, .getfield 50, 35, 422, [0, 6, 0], 0, 0),
  (35, .iload_n 2, 36, 0, [2], 0, 0),
  (36, .invokevirtual 105, 39, 884, [520, 2, 0, 2, 885, 886, 127, 887], 0, 0),
  (39, .istore_n 3, 40, 0, [3], 0, 0),
  (40, .iconst (0), 41, 0, [], 0, 0),
  (41, .istore 4, 43, 0, [4], 0, 0),
  (43, .iload 4, 45, 0, [4], 0, 0),
  (45, .aload_n 0, 46, 0, [0], 0, 0),
  (46, .getfield 50, 49, 422, [0, 6, 0], 0, 0),
  (49, .getfield 108, 52, 174, [1, 2, 0], 0, 0),
  (52, .if_icmp .ge (99), 55, 0, [151], 0, 0),
  (55, .iload 4, 57, 0, [4], 0, 0),
  (57, .bipush (8), 59, 0, [], 8, 0),
  (59, .if_icmp .ge (92), 62, 0, [151], 0, 0),
  (62, .iload 4, 64, 0, [4], 0, 0),
  (64, .iload_n 2, 65, 0, [2], 0, 0),
  (65, .invokestatic 111, 68, 889, [151, 2, 1, 639, 125, 640], 0, 0),
  (68, .ifCond .eq (23), 71, 0, [91], 0, 0),
  (71, .aload_n 0, 72, 0, [0], 0, 0),
  (72, .getfield 50, 75, 422, [0, 6, 0], 0, 0),
  (75, .iload 4, 77, 0, [4], 0, 0),
  (77, .aload_n 0, 78, 0, [0], 0, 0),
  (78, .getfield 25, 81, 428, [0, 6, 6], 0, 0),
  (81, .iload_n 2, 82, 0, [2], 0, 0),
  (82, .iaload, 83, 0, [], 0, 0),
  (83, .iload 4, 85, 0, [4], 0, 0),
  (85, .invokevirtual 115, 88, 890, [521, 4, 0, 2, 891, 892, 127, 893], 0, 0),
  (88, .goto (4), 91, 0, [92], 0, 0),
  (91, .iconst (0), 92, 0, [], 0, 0),
  (92, .istore 5, 94, 0, [5], 0, 0),
  (94, .aload_n 0, 95, 0, [0], 0, 0),
  (95, .getfield 28, 98, 429, [0, 6, 7], 0, 0),
  (98, .bipush (8), 100, 0, [], 8, 0),
  (100, .iload_n 2, 101, 0, [2], 0, 0),
  (101, .imul, 102, 0, [], 0, 0),
  (102, .iload 4, 104, 0, [4], 0, 0),
  (104, .iadd, 105, 0, [], 0, 0),
  (105, .aload_n 0, 106, 0, [0], 0, 0),
  (106, .getfield 50, 109, 422, [0, 6, 0], 0, 0)]
def pt_q305_1 : List pm_Q := [(109, .iload 5, 111, 0, [5], 0, 0),
  (111, .iload 4, 113, 0, [4], 0, 0),
  (113, .iload_n 3, 114, 0, [3], 0, 0),
  (114, .invokevirtual 119, 117, 896, [524, 4, 0, 2, 897, 898, 127, 899], 0, 0),
  (117, .iastore, 118, 0, [], 0, 0),
  (118, .aload_n 0, 119, 0, [0], 0, 0),
  (119, .getfield 31, 122, 430, [0, 6, 8], 0, 0),
  (122, .bipush (8), 124, 0, [], 8, 0),
  (124, .iload_n 2, 125, 0, [2], 0, 0),
  (125, .imul, 126, 0, [], 0, 0),
  (126, .iload 4, 128, 0, [4], 0, 0),
  (128, .iadd, 129, 0, [], 0, 0),
  (129, .aload_n 0, 130, 0, [0], 0, 0),
  (130, .getfield 50, 133, 422, [0, 6, 0], 0, 0),
  (133, .iload 4, 135, 0, [4], 0, 0),
  (135, .aload_n 0, 136, 0, [0], 0, 0),
  (136, .getfield 25, 139, 428, [0, 6, 6], 0, 0),
  (139, .iload_n 2, 140, 0, [2], 0, 0),
  (140, .iaload, 141, 0, [], 0, 0),
  (141, .invokevirtual 122, 144, 903, [525, 3, 0, 2, 904, 905, 127, 906], 0, 0),
  (144, .iastore, 145, 0, [], 0, 0),
  (145, .iinc 4 (1), 148, 0, [4], 1, 0),
  (148, .goto (-105), 151, 0, [43, 5], 0, 0),
  (151, .return_, 152, 0, [], 0, 0)]
def pt_m305 : pm_Me := (⟨"TurnCabinet$Coalitions", "learn", "(I)V"⟩, prog_3_method_5_code, 6, none, 4, 103, pt_q305_0 ++ pt_q305_1)
-- TurnCabinet$Coalitions.freshen()V
def pt_q302_0 : List pm_Q := [(0, .aload_n 0, 1, 0, [0], 0, 0),
  (1, .getfield 47, 4, 436, [0, 6, 14], 0, 0),
  (4, .aload_n 0, 5, 0, [0], 0, 0),
  (5, .getfield 50, 8, 422, [0, 6, 0], 0, 0),
  (8, .getfield 58, 11, 209, [1, 2, 9], 0, 0),
  (11, .if_icmp .ne (4), 14, 0, [15], 0, 0),
  (14, .return_, 15, 0, [], 0, 0),
  (15, .aload_n 0, 16, 0, [0], 0, 0),
  (16, .getfield 43, 19, 435, [0, 6, 13], 0, 0),
  (19, .aload_n 0, 20, 0, [0], 0, 0),
  (20, .getfield 50, 23, 422, [0, 6, 0], 0, 0),
  (23, .getfield 63, 26, 206, [1, 2, 8], 0, 0),
  (26, .if_icmp .eq (7), 29, 0, [33], 0, 0),
  (29, .aload_n 0, 30, 0, [0], 0, 0),
  (30, .invokevirtual 66, 33, 838, [303, 1, 0, 6, 840, 19, 135, 841], 0, 0),
  (33, .aload_n 0, 34, 0, [0], 0, 0),
  (34, .aload_n 0, 35, 0, [0], 0, 0),
  (35, .getfield 50, 38, 422, [0, 6, 0], 0, 0),
  (38, .getfield 58, 41, 209, [1, 2, 9], 0, 0),
  (41, .putfield 47, 44, 436, [0, 6, 14], 0, 0),
  (44, .aload_n 0, 45, 0, [0], 0, 0),
  (45, .aload_n 0, 46, 0, [0], 0, 0),
  (46, .getfield 50, 49, 422, [0, 6, 0], 0, 0),
  (49, .getfield 63, 52, 206, [1, 2, 8], 0, 0),
  (52, .putfield 43, 55, 435, [0, 6, 13], 0, 0),
  (55, .aload_n 0, 56, 0, [0], 0, 0),
  (56, .aload_n 0, 57, 0, [0], 0, 0),
  (57, .getfield 50, 60, 422, [0, 6, 0], 0, 0),
  (60, .invokevirtual 69, 63, 842, [517, 1, 0, 2, 766, 767, 127, 768], 0, 0),
  (63, .putfield 73, 66, 434, [0, 6, 12], 0, 0),
  (66, .aload_n 0, 67, 0, [0], 0, 0),
  (67, .getfield 15, 70, 425, [0, 6, 3], 0, 0),
  (70, .iconst (0), 71, 0, [], 0, 0),
  (71, .iconst (1), 72, 0, [], 1, 0),
  (72, .bastore, 73, 0, [], 0, 0),
  (73, .aload_n 0, 74, 0, [0], 0, 0),
  (74, .getfield 9, 77, 424, [0, 6, 2], 0, 0),
  (77, .iconst (0), 78, 0, [], 0, 0),
  (78, .iconst (0), 79, 0, [], 0, 0),
  (79, .iastore, 80, 0, [], 0, 0),
  (80, .iconst (1), 81, 0, [], 1, 0),
  (81, .istore_n 1, 82, 0, [1], 0, 0),
  (82, .iload_n 1, 83, 0, [1], 0, 0),
  (83, .aload_n 0, 84, 0, [0], 0, 0),
  (84, .getfield 50, 87, 422, [0, 6, 0], 0, 0),
  (87, .invokevirtual 76, 90, 843, [507, 1, 0, 2, 770, 771, 127, 772], 0, 0),
  (90, .if_icmp .gt (102), 93, 0, [192], 0, 0),
  (93, .iload_n 1, 94, 0, [1], 0, 0),
  (94, .sipush (128), 97, 0, [], 128, 0),
  (97, .if_icmp .ge (95), 100, 0, [192], 0, 0),
  (100, .iload_n 1, 101, 0, [1], 0, 0),
  (101, .iload_n 1, 102, 0, [1], 0, 0),
  (102, .iconst (1), 103, 0, [], 1, 0),
  (103, .isub, 104, 0, [], 0, 0),
  (104, .iand, 105, 0, [], 0, 0),
  (105, .istore_n 2, 106, 0, [2], 0, 0),
  (106, .iload_n 1, 107, 0, [1], 0, 0),
  (107, .invokestatic 79, 110, 844, [1509, 1, 0, 845, 140, 846], 0, 0),
  (110, .istore_n 3, 111, 0, [3], 0, 0),
  (111, .aload_n 0, 112, 0, [0], 0, 0)]
def pt_q302_1 : List pm_Q := [(112, .getfield 9, 115, 424, [0, 6, 2], 0, 0),
  (115, .iload_n 1, 116, 0, [1], 0, 0),
  (116, .aload_n 0, 117, 0, [0], 0, 0),
  (117, .getfield 9, 120, 424, [0, 6, 2], 0, 0),
  (120, .iload_n 2, 121, 0, [2], 0, 0),
  (121, .iaload, 122, 0, [], 0, 0),
  (122, .aload_n 0, 123, 0, [0], 0, 0),
  (123, .getfield 50, 126, 422, [0, 6, 0], 0, 0),
  (126, .iload_n 3, 127, 0, [3], 0, 0),
  (127, .invokevirtual 85, 130, 848, [508, 2, 0, 2, 714, 715, 127, 716], 0, 0),
  (130, .iadd, 131, 0, [], 0, 0),
  (131, .iastore, 132, 0, [], 0, 0),
  (132, .aload_n 0, 133, 0, [0], 0, 0),
  (133, .getfield 15, 136, 425, [0, 6, 3], 0, 0),
  (136, .iload_n 1, 137, 0, [1], 0, 0),
  (137, .aload_n 0, 138, 0, [0], 0, 0),
  (138, .getfield 15, 141, 425, [0, 6, 3], 0, 0),
  (141, .iload_n 2, 142, 0, [2], 0, 0),
  (142, .baload, 143, 0, [], 0, 0),
  (143, .ifCond .eq (20), 146, 0, [163], 0, 0),
  (146, .aload_n 0, 147, 0, [0], 0, 0),
  (147, .getfield 50, 150, 422, [0, 6, 0], 0, 0),
  (150, .iload_n 3, 151, 0, [3], 0, 0),
  (151, .invokevirtual 88, 154, 849, [511, 2, 0, 2, 746, 747, 127, 748], 0, 0),
  (154, .iload_n 1, 155, 0, [1], 0, 0),
  (155, .iand, 156, 0, [], 0, 0),
  (156, .ifCond .ne (7), 159, 0, [163], 0, 0),
  (159, .iconst (1), 160, 0, [], 1, 0),
  (160, .goto (4), 163, 0, [164], 0, 0),
  (163, .iconst (0), 164, 0, [], 0, 0),
  (164, .bastore, 165, 0, [], 0, 0),
  (165, .aload_n 0, 166, 0, [0], 0, 0),
  (166, .getfield 19, 169, 426, [0, 6, 4], 0, 0),
  (169, .iload_n 1, 170, 0, [1], 0, 0),
  (170, .iconst (0), 171, 0, [], 0, 0),
  (171, .bastore, 172, 0, [], 0, 0),
  (172, .aload_n 0, 173, 0, [0], 0, 0),
  (173, .getfield 34, 176, 431, [0, 6, 9], 0, 0),
  (176, .iload_n 1, 177, 0, [1], 0, 0),
  (177, .iconst (-1), 178, 0, [], -1, 0),
  (178, .iastore, 179, 0, [], 0, 0),
  (179, .aload_n 0, 180, 0, [0], 0, 0),
  (180, .getfield 37, 183, 432, [0, 6, 10], 0, 0),
  (183, .iload_n 1, 184, 0, [1], 0, 0),
  (184, .iconst (0), 185, 0, [], 0, 0),
  (185, .iastore, 186, 0, [], 0, 0),
  (186, .iinc 1 (1), 189, 0, [1], 1, 0),
  (189, .goto (-107), 192, 0, [82, 2, 3], 0, 0),
  (192, .return_, 193, 0, [], 0, 0)]
def pt_m302 : pm_Me := (⟨"TurnCabinet$Coalitions", "freshen", "()V"⟩, prog_3_method_2_code, 4, none, 3, 64, pt_q302_0 ++ pt_q302_1)
-- TurnCabinet$Coalitions.forgetPicks()V
def pt_q303_0 : List pm_Q := [(0, .iconst (0), 1, 0, [], 0, 0),
  (1, .istore_n 1, 2, 0, [1], 0, 0),
  (2, .iload_n 1, 3, 0, [1], 0, 0),
  (3, .sipush (128), 6, 0, [], 128, 0),
  (6, .if_icmp .ge (16), 9, 0, [22], 0, 0),
  (9, .aload_n 0, 10, 0, [0], 0, 0),
  (10, .getfield 22, 13, 427, [0, 6, 5], 0, 0),
  (13, .iload_n 1, 14, 0, [1], 0, 0),
  (14, .iconst (-1), 15, 0, [], -1, 0),
  (15, .iastore, 16, 0, [], 0, 0),
  (16, .iinc 1 (1), 19, 0, [1], 1, 0),
  (19, .goto (-17), 22, 0, [2], 0, 0),
  (22, .return_, 23, 0, [], 0, 0)]
def pt_m303 : pm_Me := (⟨"TurnCabinet$Coalitions", "forgetPicks", "()V"⟩, prog_3_method_3_code, 2, none, 0, 0, pt_q303_0)
-- java/lang/Integer.numberOfTrailingZeros(I)I
def pt_q1509_0 : List pm_Q := [(0, .iload_n 0, 1, 0, [0], 0, 0),
  (1, .iconst (-1), 2, 0, [], -1, 0),
  (2, .ixor, 3, 0, [], 0, 0),
  (3, .iload_n 0, 4, 0, [0], 0, 0),
  (4, .iconst (1), 5, 0, [], 1, 0),
  (5, .isub, 6, 0, [], 0, 0),
  (6, .iand, 7, 0, [], 0, 0),
  (7, .istore_n 0, 8, 0, [0], 0, 0),
  (8, .iload_n 0, 9, 0, [0], 0, 0),
  (9, .ifCond .gt (8), 12, 0, [17], 0, 0),
  (12, .iload_n 0, 13, 0, [0], 0, 0),
  (13, .bipush (32), 15, 0, [], 32, 0),
  (15, .iand, 16, 0, [], 0, 0),
  (16, .ireturn, 17, 0, [], 0, 0),
  (17, .iconst (1), 18, 0, [], 1, 0),
  (18, .istore_n 1, 19, 0, [1], 0, 0),
  (19, .iload_n 0, 20, 0, [0], 0, 0),
  (20, .ldc_w 264, 23, 847, [], 65536, 0),
  (23, .if_icmp .le (11), 26, 0, [34], 0, 0),
  (26, .iinc 1 (16), 29, 0, [1], 16, 0),
  (29, .iload_n 0, 30, 0, [0], 0, 0),
  (30, .bipush (16), 32, 0, [], 16, 0),
  (32, .iushr, 33, 0, [], 0, 0),
  (33, .istore_n 0, 34, 0, [0], 0, 0),
  (34, .iload_n 0, 35, 0, [0], 0, 0),
  (35, .sipush (256), 38, 0, [], 256, 0),
  (38, .if_icmp .le (11), 41, 0, [49], 0, 0),
  (41, .iinc 1 (8), 44, 0, [1], 8, 0),
  (44, .iload_n 0, 45, 0, [0], 0, 0),
  (45, .bipush (8), 47, 0, [], 8, 0),
  (47, .iushr, 48, 0, [], 0, 0),
  (48, .istore_n 0, 49, 0, [0], 0, 0),
  (49, .iload_n 0, 50, 0, [0], 0, 0),
  (50, .bipush (16), 52, 0, [], 16, 0),
  (52, .if_icmp .le (10), 55, 0, [62], 0, 0),
  (55, .iinc 1 (4), 58, 0, [1], 4, 0),
  (58, .iload_n 0, 59, 0, [0], 0, 0),
  (59, .iconst (4), 60, 0, [], 4, 0),
  (60, .iushr, 61, 0, [], 0, 0),
  (61, .istore_n 0, 62, 0, [0], 0, 0),
  (62, .iload_n 0, 63, 0, [0], 0, 0),
  (63, .iconst (4), 64, 0, [], 4, 0),
  (64, .if_icmp .le (10), 67, 0, [74], 0, 0),
  (67, .iinc 1 (2), 70, 0, [1], 2, 0),
  (70, .iload_n 0, 71, 0, [0], 0, 0),
  (71, .iconst (2), 72, 0, [], 2, 0),
  (72, .iushr, 73, 0, [], 0, 0),
  (73, .istore_n 0, 74, 0, [0], 0, 0),
  (74, .iload_n 1, 75, 0, [1], 0, 0),
  (75, .iload_n 0, 76, 0, [0], 0, 0),
  (76, .iconst (1), 77, 0, [], 1, 0),
  (77, .iushr, 78, 0, [], 0, 0),
  (78, .iadd, 79, 0, [], 0, 0),
  (79, .ireturn, 80, 0, [], 0, 0)]
def pt_m1509 : pm_Me := (⟨"java/lang/Integer", "numberOfTrailingZeros", "(I)I"⟩, prog_13_method_48_code, 2, some .int, 0, 0, pt_q1509_0)
-- TurnCabinet$Coalitions.foreseePicks(I)V
def pt_q306_0 : List pm_Q := [(0, .aload_n 0, 1, 0, [0], 0, 0),
  (1, .getfield 54, 4, 423, [0, 6, 1], 0, 0),
  (4, .iload_n 1, 5, 0, [1], 0, 0),
  (5, .aload_n 0, 6, 0, [0], 0, 0),
  (6, .getfield 50, 9, 422, [0, 6, 0], 0, 0),
  (9, .getfield 126, 12, 184, [1, 2, 2], 0, 0),
  (12, .aload_n 0, 13, 0, [0], 0, 0),
  (13, .getfield 50, 16, 422, [0, 6, 0], 0, 0),
  (16, .getfield 129, 19, 189, [1, 2, 3], 0, 0),
  (19, .invokevirtual 132, 22, 854, [602, 4, 0, 4, 801, 802, 133, 803], 0, 0),
  (22, .istore_n 2, 23, 0, [2], 0, 0),
  (23, .aload_n 0, 24, 0, [0], 0, 0),
  (24, .getfield 22, 27, 427, [0, 6, 5], 0, 0),
  (27, .iload_n 1, 28, 0, [1], 0, 0),
  (28, .bipush (127), 30, 0, [], 127, 0),
  (30, .iand, 31, 0, [], 0, 0),
  (31, .iaload, 32, 0, [], 0, 0),
  (32, .iload_n 2, 33, 0, [2], 0, 0),
  (33, .if_icmp .ne (4), 36, 0, [37], 0, 0),
  (36, .return_, 37, 0, [], 0, 0),
  (37, .iconst (-1), 38, 0, [], -1, 0),
  (38, .istore_n 3, 39, 0, [3], 0, 0),
  (39, .iconst (1), 40, 0, [], 1, 0),
  (40, .istore 4, 42, 0, [4], 0, 0),
  (42, .iload 4, 44, 0, [4], 0, 0),
  (44, .sipush (128), 47, 0, [], 128, 0),
  (47, .if_icmp .ge (28), 50, 0, [75], 0, 0),
  (50, .iload_n 3, 51, 0, [3], 0, 0),
  (51, .iconst (-1), 52, 0, [], -1, 0),
  (52, .if_icmp .ne (23), 55, 0, [75], 0, 0),
  (55, .aload_n 0, 56, 0, [0], 0, 0),
  (56, .getfield 22, 59, 427, [0, 6, 5], 0, 0),
  (59, .iload 4, 61, 0, [4], 0, 0),
  (61, .iaload, 62, 0, [], 0, 0),
  (62, .iload_n 2, 63, 0, [2], 0, 0),
  (63, .if_icmp .ne (6), 66, 0, [69], 0, 0),
  (66, .iload 4, 68, 0, [4], 0, 0),
  (68, .istore_n 3, 69, 0, [3], 0, 0),
  (69, .iinc 4 (1), 72, 0, [4], 1, 0),
  (72, .goto (-30), 75, 0, [42], 0, 0),
  (75, .aload_n 0, 76, 0, [0], 0, 0),
  (76, .getfield 22, 79, 427, [0, 6, 5], 0, 0),
  (79, .iload_n 1, 80, 0, [1], 0, 0),
  (80, .bipush (127), 82, 0, [], 127, 0),
  (82, .iand, 83, 0, [], 0, 0),
  (83, .iload_n 2, 84, 0, [2], 0, 0),
  (84, .iastore, 85, 0, [], 0, 0),
  (85, .iload_n 3, 86, 0, [3], 0, 0),
  (86, .iconst (-1), 87, 0, [], -1, 0),
  (87, .if_icmp .eq (22), 90, 0, [109], 0, 0),
  (90, .aload_n 0, 91, 0, [0], 0, 0),
  (91, .getfield 25, 94, 428, [0, 6, 6], 0, 0),
  (94, .iload_n 1, 95, 0, [1], 0, 0),
  (95, .bipush (127), 97, 0, [], 127, 0),
  (97, .iand, 98, 0, [], 0, 0),
  (98, .aload_n 0, 99, 0, [0], 0, 0),
  (99, .getfield 25, 102, 428, [0, 6, 6], 0, 0),
  (102, .iload_n 3, 103, 0, [3], 0, 0),
  (103, .bipush (127), 105, 0, [], 127, 0),
  (105, .iand, 106, 0, [], 0, 0)]
def pt_q306_1 : List pm_Q := [(106, .iaload, 107, 0, [], 0, 0),
  (107, .iastore, 108, 0, [], 0, 0),
  (108, .return_, 109, 0, [], 0, 0),
  (109, .aload_n 0, 110, 0, [0], 0, 0),
  (110, .getfield 54, 113, 423, [0, 6, 1], 0, 0),
  (113, .iload_n 2, 114, 0, [2], 0, 0),
  (114, .invokevirtual 137, 117, 855, [607, 2, 0, 4, 856, 857, 133, 858], 0, 0),
  (117, .aload_n 0, 118, 0, [0], 0, 0),
  (118, .getfield 25, 121, 428, [0, 6, 6], 0, 0),
  (121, .iload_n 1, 122, 0, [1], 0, 0),
  (122, .bipush (127), 124, 0, [], 127, 0),
  (124, .iand, 125, 0, [], 0, 0),
  (125, .aload_n 0, 126, 0, [0], 0, 0),
  (126, .getfield 54, 129, 423, [0, 6, 1], 0, 0),
  (129, .iload_n 2, 130, 0, [2], 0, 0),
  (130, .invokevirtual 140, 133, 880, [604, 2, 0, 4, 881, 882, 133, 883], 0, 0),
  (133, .iastore, 134, 0, [], 0, 0),
  (134, .return_, 135, 0, [], 0, 0)]
def pt_m306 : pm_Me := (⟨"TurnCabinet$Coalitions", "foreseePicks", "(I)V"⟩, prog_3_method_6_code, 5, none, 3, 79, pt_q306_0 ++ pt_q306_1)
-- TurnCabinet$Picks.lookAhead(I)V
def pt_q607_0 : List pm_Q := [(0, .aload_n 0, 1, 0, [0], 0, 0),
  (1, .getfield 22, 4, 383, [0, 4, 5], 0, 0),
  (4, .iload_n 1, 5, 0, [1], 0, 0),
  (5, .if_icmp .ne (18), 8, 0, [23], 0, 0),
  (8, .aload_n 0, 9, 0, [0], 0, 0),
  (9, .getfield 70, 12, 384, [0, 4, 6], 0, 0),
  (12, .aload_n 0, 13, 0, [0], 0, 0),
  (13, .getfield 26, 16, 378, [0, 4, 0], 0, 0),
  (16, .getfield 73, 19, 208, [1, 2, 8], 0, 0),
  (19, .if_icmp .ne (4), 22, 0, [23], 0, 0),
  (22, .return_, 23, 0, [], 0, 0),
  (23, .aload_n 0, 24, 0, [0], 0, 0),
  (24, .iload_n 1, 25, 0, [1], 0, 0),
  (25, .putfield 22, 28, 383, [0, 4, 5], 0, 0),
  (28, .aload_n 0, 29, 0, [0], 0, 0),
  (29, .aload_n 0, 30, 0, [0], 0, 0),
  (30, .getfield 26, 33, 378, [0, 4, 0], 0, 0),
  (33, .getfield 73, 36, 208, [1, 2, 8], 0, 0),
  (36, .putfield 70, 39, 384, [0, 4, 6], 0, 0),
  (39, .aload_n 0, 40, 0, [0], 0, 0),
  (40, .iload_n 1, 41, 0, [1], 0, 0),
  (41, .invokevirtual 76, 44, 859, [608, 2, 0, 4, 861, 21, 133, 862], 0, 0),
  (44, .aload_n 0, 45, 0, [0], 0, 0),
  (45, .getfield 15, 48, 380, [0, 4, 2], 0, 0),
  (48, .iconst (0), 49, 0, [], 0, 0),
  (49, .lconst 0, 50, 0, [], 0, 0),
  (50, .lastore, 51, 0, [], 0, 0),
  (51, .iconst (1), 52, 0, [], 1, 0),
  (52, .istore_n 2, 53, 0, [2], 0, 0),
  (53, .iload_n 2, 54, 0, [2], 0, 0),
  (54, .aload_n 0, 55, 0, [0], 0, 0),
  (55, .invokevirtual 49, 58, 866, [606, 1, 0, 4, 868, 22, 133, 869], 0, 0),
  (58, .if_icmp .gt (37), 61, 0, [95], 0, 0),
  (61, .iload_n 2, 62, 0, [2], 0, 0),
  (62, .sipush (256), 65, 0, [], 256, 0),
  (65, .if_icmp .ge (30), 68, 0, [95], 0, 0),
  (68, .aload_n 0, 69, 0, [0], 0, 0),
  (69, .iload_n 2, 70, 0, [2], 0, 0),
  (70, .iload_n 1, 71, 0, [1], 0, 0),
  (71, .aload_n 0, 72, 0, [0], 0, 0),
  (72, .getfield 26, 75, 378, [0, 4, 0], 0, 0),
  (75, .getfield 30, 78, 179, [1, 2, 1], 0, 0),
  (78, .iload_n 2, 79, 0, [2], 0, 0),
  (79, .invokestatic 80, 82, 865, [1508, 1, 0, 740, 140, 741], 0, 0),
  (82, .isub, 83, 0, [], 0, 0),
  (83, .invokestatic 53, 86, 863, [902, 2, 0, 737, 139, 738], 0, 0),
  (86, .invokevirtual 86, 89, 870, [610, 3, 0, 4, 872, 23, 133, 873], 0, 0),
  (89, .iinc 2 (1), 92, 0, [2], 1, 0),
  (92, .goto (-39), 95, 0, [53], 0, 0),
  (95, .return_, 96, 0, [], 0, 0)]
def pt_m607 : pm_Me := (⟨"TurnCabinet$Picks", "lookAhead", "(I)V"⟩, prog_6_method_7_code, 3, none, 2, 51, pt_q607_0)
-- TurnCabinet$Picks.layLanes(I)V
def pt_q608_0 : List pm_Q := [(0, .iconst (0), 1, 0, [], 0, 0),
  (1, .istore_n 2, 2, 0, [2], 0, 0),
  (2, .iconst (0), 3, 0, [], 0, 0),
  (3, .istore_n 3, 4, 0, [3], 0, 0),
  (4, .iload_n 3, 5, 0, [3], 0, 0),
  (5, .aload_n 0, 6, 0, [0], 0, 0),
  (6, .getfield 26, 9, 378, [0, 4, 0], 0, 0),
  (9, .getfield 30, 12, 179, [1, 2, 1], 0, 0),
  (12, .if_icmp .ge (43), 15, 0, [55], 0, 0),
  (15, .iload_n 1, 16, 0, [1], 0, 0),
  (16, .iload_n 3, 17, 0, [3], 0, 0),
  (17, .invokestatic 53, 20, 863, [902, 2, 0, 737, 139, 738], 0, 0),
  (20, .istore 4, 22, 0, [4], 0, 0),
  (22, .iload 4, 24, 0, [4], 0, 0),
  (24, .iload_n 2, 25, 0, [2], 0, 0),
  (25, .invokestatic 62, 28, 864, [151, 2, 1, 639, 125, 640], 0, 0),
  (28, .ifCond .ne (14), 31, 0, [42], 0, 0),
  (31, .aload_n 0, 32, 0, [0], 0, 0),
  (32, .getfield 19, 35, 381, [0, 4, 3], 0, 0),
  (35, .iload 4, 37, 0, [4], 0, 0),
  (37, .iload_n 2, 38, 0, [2], 0, 0),
  (38, .invokestatic 80, 41, 865, [1508, 1, 0, 740, 140, 741], 0, 0),
  (41, .iastore, 42, 0, [], 0, 0),
  (42, .iload_n 2, 43, 0, [2], 0, 0),
  (43, .iconst (1), 44, 0, [], 1, 0),
  (44, .iload 4, 46, 0, [4], 0, 0),
  (46, .ishl, 47, 0, [], 0, 0),
  (47, .ior, 48, 0, [], 0, 0),
  (48, .istore_n 2, 49, 0, [2], 0, 0),
  (49, .iinc 3 (1), 52, 0, [3], 1, 0),
  (52, .goto (-48), 55, 0, [4, 4], 0, 0),
  (55, .aload_n 0, 56, 0, [0], 0, 0),
  (56, .iload_n 2, 57, 0, [2], 0, 0),
  (57, .invokestatic 80, 60, 865, [1508, 1, 0, 740, 140, 741], 0, 0),
  (60, .bipush (7), 62, 0, [], 7, 0),
  (62, .if_icmp .ge (8), 65, 0, [70], 0, 0),
  (65, .bipush (10), 67, 0, [], 10, 0),
  (67, .goto (5), 70, 0, [72], 0, 0),
  (70, .bipush (9), 72, 0, [], 9, 0),
  (72, .putfield 90, 75, 382, [0, 4, 4], 0, 0),
  (75, .return_, 76, 0, [], 0, 0)]
def pt_m608 : pm_Me := (⟨"TurnCabinet$Picks", "layLanes", "(I)V"⟩, prog_6_method_8_code, 5, none, 1, 21, pt_q608_0)
-- TurnCabinet$Picks.allOffices()I
def pt_q606_0 : List pm_Q := [(0, .iconst (1), 1, 0, [], 1, 0),
  (1, .aload_n 0, 2, 0, [0], 0, 0),
  (2, .getfield 26, 5, 378, [0, 4, 0], 0, 0),
  (5, .getfield 30, 8, 179, [1, 2, 1], 0, 0),
  (8, .ishl, 9, 0, [], 0, 0),
  (9, .iconst (1), 10, 0, [], 1, 0),
  (10, .isub, 11, 0, [], 0, 0),
  (11, .ireturn, 12, 0, [], 0, 0)]
def pt_m606 : pm_Me := (⟨"TurnCabinet$Picks", "allOffices", "()I"⟩, prog_6_method_6_code, 1, some .int, 0, 0, pt_q606_0)
-- TurnCabinet$Picks.choose(II)V
def pt_q610_0 : List pm_Q := [(0, .iconst (0), 1, 0, [], 0, 0),
  (1, .istore_n 3, 2, 0, [3], 0, 0),
  (2, .ldc2_w 93, 5, 874, [], 0, -1),
  (5, .lstore 4, 7, 0, [4], 0, 0),
  (7, .iconst (0), 8, 0, [], 0, 0),
  (8, .istore 6, 10, 0, [6], 0, 0),
  (10, .iload 6, 12, 0, [6], 0, 0),
  (12, .aload_n 0, 13, 0, [0], 0, 0),
  (13, .getfield 26, 16, 378, [0, 4, 0], 0, 0),
  (16, .getfield 30, 19, 179, [1, 2, 1], 0, 0),
  (19, .if_icmp .ge (72), 22, 0, [91], 0, 0),
  (22, .iload 6, 24, 0, [6], 0, 0),
  (24, .iload_n 1, 25, 0, [1], 0, 0),
  (25, .invokestatic 62, 28, 864, [151, 2, 1, 639, 125, 640], 0, 0),
  (28, .ifCond .ne (6), 31, 0, [34], 0, 0),
  (31, .goto (54), 34, 0, [85], 0, 0),
  (34, .aload_n 0, 35, 0, [0], 0, 0),
  (35, .getfield 26, 38, 378, [0, 4, 0], 0, 0),
  (38, .iload_n 2, 39, 0, [2], 0, 0),
  (39, .iload 6, 41, 0, [6], 0, 0),
  (41, .invokevirtual 59, 44, 875, [512, 3, 0, 2, 758, 759, 127, 760], 0, 0),
  (44, .i2l, 45, 0, [], 0, 0),
  (45, .aload_n 0, 46, 0, [0], 0, 0),
  (46, .aload_n 0, 47, 0, [0], 0, 0),
  (47, .getfield 15, 50, 380, [0, 4, 2], 0, 0),
  (50, .iload_n 1, 51, 0, [1], 0, 0),
  (51, .iconst (1), 52, 0, [], 1, 0),
  (52, .iload 6, 54, 0, [6], 0, 0),
  (54, .ishl, 55, 0, [], 0, 0),
  (55, .iconst (-1), 56, 0, [], -1, 0),
  (56, .ixor, 57, 0, [], 0, 0),
  (57, .iand, 58, 0, [], 0, 0),
  (58, .sipush (255), 61, 0, [], 255, 0),
  (61, .iand, 62, 0, [], 0, 0),
  (62, .laload, 63, 0, [], 0, 0),
  (63, .iload_n 2, 64, 0, [2], 0, 0),
  (64, .invokevirtual 66, 67, 876, [609, 3, 0, 4, 878, 24, 133, 879], 0, 0),
  (67, .ladd, 68, 0, [], 0, 0),
  (68, .lstore 7, 70, 0, [7], 0, 0),
  (70, .lload 7, 72, 0, [7], 0, 0),
  (72, .lload 4, 74, 0, [4], 0, 0),
  (74, .lcmp, 75, 0, [], 0, 0),
  (75, .ifCond .le (10), 78, 0, [85], 0, 0),
  (78, .iload 6, 80, 0, [6], 0, 0),
  (80, .istore_n 3, 81, 0, [3], 0, 0),
  (81, .lload 7, 83, 0, [7], 0, 0),
  (83, .lstore 4, 85, 0, [4], 0, 0),
  (85, .iinc 6 (1), 88, 0, [6], 1, 0),
  (88, .goto (-78), 91, 0, [10, 7], 0, 0),
  (91, .aload_n 0, 92, 0, [0], 0, 0),
  (92, .getfield 26, 95, 378, [0, 4, 0], 0, 0),
  (95, .iload_n 2, 96, 0, [2], 0, 0),
  (96, .iload_n 3, 97, 0, [3], 0, 0),
  (97, .invokevirtual 59, 100, 875, [512, 3, 0, 2, 758, 759, 127, 760], 0, 0),
  (100, .i2l, 101, 0, [], 0, 0),
  (101, .lstore 6, 103, 0, [6], 0, 0),
  (103, .aload_n 0, 104, 0, [0], 0, 0),
  (104, .getfield 9, 107, 379, [0, 4, 1], 0, 0),
  (107, .iload_n 1, 108, 0, [1], 0, 0),
  (108, .sipush (255), 111, 0, [], 255, 0)]
def pt_q610_1 : List pm_Q := [(111, .iand, 112, 0, [], 0, 0),
  (112, .iload_n 3, 113, 0, [3], 0, 0),
  (113, .iastore, 114, 0, [], 0, 0),
  (114, .aload_n 0, 115, 0, [0], 0, 0),
  (115, .getfield 15, 118, 380, [0, 4, 2], 0, 0),
  (118, .iload_n 1, 119, 0, [1], 0, 0),
  (119, .sipush (255), 122, 0, [], 255, 0),
  (122, .iand, 123, 0, [], 0, 0),
  (123, .aload_n 0, 124, 0, [0], 0, 0),
  (124, .getfield 15, 127, 380, [0, 4, 2], 0, 0),
  (127, .iload_n 1, 128, 0, [1], 0, 0),
  (128, .iconst (1), 129, 0, [], 1, 0),
  (129, .iload_n 3, 130, 0, [3], 0, 0),
  (130, .ishl, 131, 0, [], 0, 0),
  (131, .iconst (-1), 132, 0, [], -1, 0),
  (132, .ixor, 133, 0, [], 0, 0),
  (133, .iand, 134, 0, [], 0, 0),
  (134, .sipush (255), 137, 0, [], 255, 0),
  (137, .iand, 138, 0, [], 0, 0),
  (138, .laload, 139, 0, [], 0, 0),
  (139, .lload 6, 141, 0, [6], 0, 0),
  (141, .aload_n 0, 142, 0, [0], 0, 0),
  (142, .getfield 90, 145, 382, [0, 4, 4], 0, 0),
  (145, .aload_n 0, 146, 0, [0], 0, 0),
  (146, .getfield 19, 149, 381, [0, 4, 3], 0, 0),
  (149, .iload_n 2, 150, 0, [2], 0, 0),
  (150, .bipush (7), 152, 0, [], 7, 0),
  (152, .iand, 153, 0, [], 0, 0),
  (153, .iaload, 154, 0, [], 0, 0),
  (154, .imul, 155, 0, [], 0, 0),
  (155, .lshl, 156, 0, [], 0, 0),
  (156, .ladd, 157, 0, [], 0, 0),
  (157, .lastore, 158, 0, [], 0, 0),
  (158, .return_, 159, 0, [], 0, 0)]
def pt_m610 : pm_Me := (⟨"TurnCabinet$Picks", "choose", "(II)V"⟩, prog_6_method_10_code, 9, none, 1, 23, pt_q610_0 ++ pt_q610_1)
-- TurnCabinet$Picks.laneOf(JI)J
def pt_q609_0 : List pm_Q := [(0, .lload_n 1, 1, 0, [1], 0, 0),
  (1, .aload_n 0, 2, 0, [0], 0, 0),
  (2, .getfield 90, 5, 382, [0, 4, 4], 0, 0),
  (5, .aload_n 0, 6, 0, [0], 0, 0),
  (6, .getfield 19, 9, 381, [0, 4, 3], 0, 0),
  (9, .iload_n 3, 10, 0, [3], 0, 0),
  (10, .bipush (7), 12, 0, [], 7, 0),
  (12, .iand, 13, 0, [], 0, 0),
  (13, .iaload, 14, 0, [], 0, 0),
  (14, .imul, 15, 0, [], 0, 0),
  (15, .lushr, 16, 0, [], 0, 0),
  (16, .iconst (1), 17, 0, [], 1, 0),
  (17, .aload_n 0, 18, 0, [0], 0, 0),
  (18, .getfield 90, 21, 382, [0, 4, 4], 0, 0),
  (21, .ishl, 22, 0, [], 0, 0),
  (22, .iconst (1), 23, 0, [], 1, 0),
  (23, .isub, 24, 0, [], 0, 0),
  (24, .i2l, 25, 0, [], 0, 0),
  (25, .land, 26, 0, [], 0, 0),
  (26, .lreturn, 27, 0, [], 0, 0)]
def pt_m609 : pm_Me := (⟨"TurnCabinet$Picks", "laneOf", "(JI)J"⟩, prog_6_method_9_code, 4, some .long, 0, 0, pt_q609_0)
-- TurnCabinet$Picks.pickForeseen(I)I
def pt_q604_0 : List pm_Q := [(0, .iconst (0), 1, 0, [], 0, 0),
  (1, .istore_n 2, 2, 0, [2], 0, 0),
  (2, .aload_n 0, 3, 0, [0], 0, 0),
  (3, .invokevirtual 49, 6, 866, [606, 1, 0, 4, 868, 22, 133, 869], 0, 0),
  (6, .istore_n 3, 7, 0, [3], 0, 0),
  (7, .iconst (0), 8, 0, [], 0, 0),
  (8, .istore 4, 10, 0, [4], 0, 0),
  (10, .iload 4, 12, 0, [4], 0, 0),
  (12, .aload_n 0, 13, 0, [0], 0, 0),
  (13, .getfield 26, 16, 378, [0, 4, 0], 0, 0),
  (16, .getfield 30, 19, 179, [1, 2, 1], 0, 0),
  (19, .if_icmp .ge (43), 22, 0, [62], 0, 0),
  (22, .aload_n 0, 23, 0, [0], 0, 0),
  (23, .getfield 9, 26, 379, [0, 4, 1], 0, 0),
  (26, .iload_n 3, 27, 0, [3], 0, 0),
  (27, .sipush (255), 30, 0, [], 255, 0),
  (30, .iand, 31, 0, [], 0, 0),
  (31, .iaload, 32, 0, [], 0, 0),
  (32, .istore 5, 34, 0, [5], 0, 0),
  (34, .iload_n 2, 35, 0, [2], 0, 0),
  (35, .iload 5, 37, 0, [5], 0, 0),
  (37, .iload_n 1, 38, 0, [1], 0, 0),
  (38, .iload 4, 40, 0, [4], 0, 0),
  (40, .invokestatic 53, 43, 863, [902, 2, 0, 737, 139, 738], 0, 0),
  (43, .invokestatic 39, 46, 811, [903, 3, 0, 812, 139, 813], 0, 0),
  (46, .istore_n 2, 47, 0, [2], 0, 0),
  (47, .iload_n 3, 48, 0, [3], 0, 0),
  (48, .iconst (1), 49, 0, [], 1, 0),
  (49, .iload 5, 51, 0, [5], 0, 0),
  (51, .ishl, 52, 0, [], 0, 0),
  (52, .iconst (-1), 53, 0, [], -1, 0),
  (53, .ixor, 54, 0, [], 0, 0),
  (54, .iand, 55, 0, [], 0, 0),
  (55, .istore_n 3, 56, 0, [3], 0, 0),
  (56, .iinc 4 (1), 59, 0, [4], 1, 0),
  (59, .goto (-49), 62, 0, [10, 5], 0, 0),
  (62, .iload_n 2, 63, 0, [2], 0, 0),
  (63, .ireturn, 64, 0, [], 0, 0)]
def pt_m604 : pm_Me := (⟨"TurnCabinet$Picks", "pickForeseen", "(I)I"⟩, prog_6_method_4_code, 6, some .int, 1, 23, pt_q604_0)
-- TurnCabinet$House.middleOf(I)I
def pt_q520_0 : List pm_Q := [(0, .iconst (0), 1, 0, [], 0, 0),
  (1, .istore_n 2, 2, 0, [2], 0, 0),
  (2, .iconst (0), 3, 0, [], 0, 0),
  (3, .istore_n 3, 4, 0, [3], 0, 0),
  (4, .iconst (0), 5, 0, [], 0, 0),
  (5, .istore 4, 7, 0, [4], 0, 0),
  (7, .iload 4, 9, 0, [4], 0, 0),
  (9, .aload_n 0, 10, 0, [0], 0, 0),
  (10, .getfield 40, 13, 170, [0, 2, 0], 0, 0),
  (13, .if_icmp .ge (46), 16, 0, [59], 0, 0),
  (16, .iload 4, 18, 0, [4], 0, 0),
  (18, .iload_n 1, 19, 0, [1], 0, 0),
  (19, .invokestatic 65, 22, 777, [151, 2, 1, 639, 125, 640], 0, 0),
  (22, .ifCond .ne (6), 25, 0, [28], 0, 0),
  (25, .goto (28), 28, 0, [53], 0, 0),
  (28, .iload_n 2, 29, 0, [2], 0, 0),
  (29, .aload_n 0, 30, 0, [0], 0, 0),
  (30, .iload 4, 32, 0, [4], 0, 0),
  (32, .invokevirtual 69, 35, 778, [508, 2, 0, 2, 714, 715, 127, 716], 0, 0),
  (35, .aload_n 0, 36, 0, [0], 0, 0),
  (36, .iload 4, 38, 0, [4], 0, 0),
  (38, .invokevirtual 88, 41, 888, [509, 2, 0, 2, 718, 719, 127, 720], 0, 0),
  (41, .imul, 42, 0, [], 0, 0),
  (42, .iadd, 43, 0, [], 0, 0),
  (43, .istore_n 2, 44, 0, [2], 0, 0),
  (44, .iload_n 3, 45, 0, [3], 0, 0),
  (45, .aload_n 0, 46, 0, [0], 0, 0),
  (46, .iload 4, 48, 0, [4], 0, 0),
  (48, .invokevirtual 69, 51, 778, [508, 2, 0, 2, 714, 715, 127, 716], 0, 0),
  (51, .iadd, 52, 0, [], 0, 0),
  (52, .istore_n 3, 53, 0, [3], 0, 0),
  (53, .iinc 4 (1), 56, 0, [4], 1, 0),
  (56, .goto (-49), 59, 0, [7], 0, 0),
  (59, .iload_n 3, 60, 0, [3], 0, 0),
  (60, .ifCond .le (9), 63, 0, [69], 0, 0),
  (63, .iload_n 2, 64, 0, [2], 0, 0),
  (64, .iload_n 3, 65, 0, [3], 0, 0),
  (65, .idiv, 66, 0, [], 0, 0),
  (66, .goto (4), 69, 0, [70], 0, 0),
  (69, .iconst (0), 70, 0, [], 0, 0),
  (70, .ireturn, 71, 0, [], 0, 0)]
def pt_m520 : pm_Me := (⟨"TurnCabinet$House", "middleOf", "(I)I"⟩, prog_5_method_20_code, 5, some .int, 1, 21, pt_q520_0)
-- TurnCabinet$House.worthOfHeld(III)I
def pt_q521_0 : List pm_Q := [(0, .iconst (0), 1, 0, [], 0, 0),
  (1, .istore 4, 3, 0, [4], 0, 0),
  (3, .iconst (0), 4, 0, [], 0, 0),
  (4, .istore 5, 6, 0, [5], 0, 0),
  (6, .iload 5, 8, 0, [5], 0, 0),
  (8, .aload_n 0, 9, 0, [0], 0, 0),
  (9, .getfield 43, 12, 178, [0, 2, 1], 0, 0),
  (12, .if_icmp .ge (31), 15, 0, [43], 0, 0),
  (15, .iload_n 2, 16, 0, [2], 0, 0),
  (16, .iload 5, 18, 0, [5], 0, 0),
  (18, .invokestatic 91, 21, 894, [902, 2, 0, 737, 139, 738], 0, 0),
  (21, .iload_n 1, 22, 0, [1], 0, 0),
  (22, .if_icmp .ne (15), 25, 0, [37], 0, 0),
  (25, .iload 4, 27, 0, [4], 0, 0),
  (27, .aload_n 0, 28, 0, [0], 0, 0),
  (28, .iload_n 3, 29, 0, [3], 0, 0),
  (29, .iload 5, 31, 0, [5], 0, 0),
  (31, .invokevirtual 85, 34, 895, [512, 3, 0, 2, 758, 759, 127, 760], 0, 0),
  (34, .iadd, 35, 0, [], 0, 0),
  (35, .istore 4, 37, 0, [4], 0, 0),
  (37, .iinc 5 (1), 40, 0, [5], 1, 0),
  (40, .goto (-34), 43, 0, [6], 0, 0),
  (43, .iload 4, 45, 0, [4], 0, 0),
  (45, .ireturn, 46, 0, [], 0, 0)]
def pt_m521 : pm_Me := (⟨"TurnCabinet$House", "worthOfHeld", "(III)I"⟩, prog_5_method_21_code, 6, some .int, 1, 22, pt_q521_0)
-- TurnCabinet$House.payBy(III)I
def pt_q524_0 : List pm_Q := [(0, .bipush (10), 2, 0, [], 10, 0),
  (2, .iload_n 1, 3, 0, [1], 0, 0),
  (3, .imul, 4, 0, [], 0, 0),
  (4, .aload_n 0, 5, 0, [0], 0, 0),
  (5, .getfield 49, 8, 195, [0, 2, 5], 0, 0),
  (8, .aload_n 0, 9, 0, [0], 0, 0),
  (9, .iload_n 2, 10, 0, [2], 0, 0),
  (10, .invokevirtual 88, 13, 888, [509, 2, 0, 2, 718, 719, 127, 720], 0, 0),
  (13, .iload_n 3, 14, 0, [3], 0, 0),
  (14, .isub, 15, 0, [], 0, 0),
  (15, .invokestatic 99, 18, 900, [1510, 1, 0, 901, 141, 902], 0, 0),
  (18, .imul, 19, 0, [], 0, 0),
  (19, .isub, 20, 0, [], 0, 0),
  (20, .ireturn, 21, 0, [], 0, 0)]
def pt_m524 : pm_Me := (⟨"TurnCabinet$House", "payBy", "(III)I"⟩, prog_5_method_24_code, 4, some .int, 1, 21, pt_q524_0)
-- java/lang/Math.abs(I)I
def pt_q1510_0 : List pm_Q := [(0, .iload_n 0, 1, 0, [0], 0, 0),
  (1, .ifCond .ge (8), 4, 0, [9], 0, 0),
  (4, .iload_n 0, 5, 0, [0], 0, 0),
  (5, .ineg, 6, 0, [], 0, 0),
  (6, .goto (4), 9, 0, [10], 0, 0),
  (9, .iload_n 0, 10, 0, [0], 0, 0),
  (10, .ireturn, 11, 0, [], 0, 0)]
def pt_m1510 : pm_Me := (⟨"java/lang/Math", "abs", "(I)I"⟩, prog_14_method_59_code, 1, some .int, 0, 0, pt_q1510_0)
-- TurnCabinet$House.griefBy(II)I
def pt_q525_0 : List pm_Q := [(0, .iconst (0), 1, 0, [], 0, 0),
  (1, .istore_n 3, 2, 0, [3], 0, 0),
  (2, .iconst (0), 3, 0, [], 0, 0),
  (3, .istore 4, 5, 0, [4], 0, 0),
  (5, .iload 4, 7, 0, [4], 0, 0),
  (7, .aload_n 0, 8, 0, [0], 0, 0),
  (8, .getfield 43, 11, 178, [0, 2, 1], 0, 0),
  (11, .if_icmp .ge (47), 14, 0, [58], 0, 0),
  (14, .aload_n 0, 15, 0, [0], 0, 0),
  (15, .iload_n 2, 16, 0, [2], 0, 0),
  (16, .iload 4, 18, 0, [4], 0, 0),
  (18, .invokestatic 91, 21, 894, [902, 2, 0, 737, 139, 738], 0, 0),
  (21, .iload 4, 23, 0, [4], 0, 0),
  (23, .invokevirtual 102, 26, 907, [513, 3, 0, 2, 908, 909, 127, 910], 0, 0),
  (26, .istore 5, 28, 0, [5], 0, 0),
  (28, .iload_n 3, 29, 0, [3], 0, 0),
  (29, .aload_n 0, 30, 0, [0], 0, 0),
  (30, .iload_n 1, 31, 0, [1], 0, 0),
  (31, .iload 4, 33, 0, [4], 0, 0),
  (33, .invokevirtual 102, 36, 907, [513, 3, 0, 2, 908, 909, 127, 910], 0, 0),
  (36, .iload 5, 38, 0, [5], 0, 0),
  (38, .isub, 39, 0, [], 0, 0),
  (39, .invokestatic 99, 42, 900, [1510, 1, 0, 901, 141, 902], 0, 0),
  (42, .aload_n 0, 43, 0, [0], 0, 0),
  (43, .iload_n 1, 44, 0, [1], 0, 0),
  (44, .iload 4, 46, 0, [4], 0, 0),
  (46, .invokevirtual 85, 49, 895, [512, 3, 0, 2, 758, 759, 127, 760], 0, 0),
  (49, .imul, 50, 0, [], 0, 0),
  (50, .iadd, 51, 0, [], 0, 0),
  (51, .istore_n 3, 52, 0, [3], 0, 0),
  (52, .iinc 4 (1), 55, 0, [4], 1, 0),
  (55, .goto (-50), 58, 0, [5, 5], 0, 0),
  (58, .iload_n 3, 59, 0, [3], 0, 0),
  (59, .ireturn, 60, 0, [], 0, 0)]
def pt_m525 : pm_Me := (⟨"TurnCabinet$House", "griefBy", "(II)I"⟩, prog_5_method_25_code, 6, some .int, 1, 22, pt_q525_0)
-- TurnCabinet$House.stanceOf(II)I
def pt_q513_0 : List pm_Q := [(0, .aload_n 0, 1, 0, [0], 0, 0),
  (1, .getfield 27, 4, 222, [0, 2, 15], 0, 0),
  (4, .bipush (8), 6, 0, [], 8, 0),
  (6, .iload_n 1, 7, 0, [1], 0, 0),
  (7, .bipush (7), 9, 0, [], 7, 0),
  (9, .iand, 10, 0, [], 0, 0),
  (10, .imul, 11, 0, [], 0, 0),
  (11, .iload_n 2, 12, 0, [2], 0, 0),
  (12, .bipush (7), 14, 0, [], 7, 0),
  (14, .iand, 15, 0, [], 0, 0),
  (15, .iadd, 16, 0, [], 0, 0),
  (16, .iaload, 17, 0, [], 0, 0),
  (17, .ireturn, 18, 0, [], 0, 0)]
def pt_m513 : pm_Me := (⟨"TurnCabinet$House", "stanceOf", "(II)I"⟩, prog_5_method_13_code, 3, some .int, 0, 0, pt_q513_0)
-- TurnCabinet$Picks.pickShort(I)I
def pt_q603_0 : List pm_Q := [(0, .iconst (0), 1, 0, [], 0, 0),
  (1, .istore_n 2, 2, 0, [2], 0, 0),
  (2, .aload_n 0, 3, 0, [0], 0, 0),
  (3, .invokevirtual 49, 6, 866, [606, 1, 0, 4, 868, 22, 133, 869], 0, 0),
  (6, .istore_n 3, 7, 0, [3], 0, 0),
  (7, .iconst (0), 8, 0, [], 0, 0),
  (8, .istore 4, 10, 0, [4], 0, 0),
  (10, .iload 4, 12, 0, [4], 0, 0),
  (12, .aload_n 0, 13, 0, [0], 0, 0),
  (13, .getfield 26, 16, 378, [0, 4, 0], 0, 0),
  (16, .getfield 30, 19, 179, [1, 2, 1], 0, 0),
  (19, .if_icmp .ge (47), 22, 0, [66], 0, 0),
  (22, .iload_n 1, 23, 0, [1], 0, 0),
  (23, .iload 4, 25, 0, [4], 0, 0),
  (25, .invokestatic 53, 28, 863, [902, 2, 0, 737, 139, 738], 0, 0),
  (28, .istore 5, 30, 0, [5], 0, 0),
  (30, .aload_n 0, 31, 0, [0], 0, 0),
  (31, .getfield 26, 34, 378, [0, 4, 0], 0, 0),
  (34, .iload 5, 36, 0, [5], 0, 0),
  (36, .iload_n 3, 37, 0, [3], 0, 0),
  (37, .invokevirtual 56, 40, 915, [519, 3, 0, 2, 916, 917, 127, 918], 0, 0),
  (40, .istore 6, 42, 0, [6], 0, 0),
  (42, .iload_n 2, 43, 0, [2], 0, 0),
  (43, .iload 6, 45, 0, [6], 0, 0),
  (45, .iload 5, 47, 0, [5], 0, 0),
  (47, .invokestatic 39, 50, 811, [903, 3, 0, 812, 139, 813], 0, 0),
  (50, .istore_n 2, 51, 0, [2], 0, 0),
  (51, .iload_n 3, 52, 0, [3], 0, 0),
  (52, .iconst (1), 53, 0, [], 1, 0),
  (53, .iload 6, 55, 0, [6], 0, 0),
  (55, .ishl, 56, 0, [], 0, 0),
  (56, .iconst (-1), 57, 0, [], -1, 0),
  (57, .ixor, 58, 0, [], 0, 0),
  (58, .iand, 59, 0, [], 0, 0),
  (59, .istore_n 3, 60, 0, [3], 0, 0),
  (60, .iinc 4 (1), 63, 0, [4], 1, 0),
  (63, .goto (-53), 66, 0, [10, 5, 6], 0, 0),
  (66, .iload_n 2, 67, 0, [2], 0, 0),
  (67, .ireturn, 68, 0, [], 0, 0)]
def pt_m603 : pm_Me := (⟨"TurnCabinet$Picks", "pickShort", "(I)I"⟩, prog_6_method_3_code, 7, some .int, 2, 47, pt_q603_0)
-- TurnCabinet$House.dearest(II)I
def pt_q519_0 : List pm_Q := [(0, .iconst (-1), 1, 0, [], -1, 0),
  (1, .istore_n 3, 2, 0, [3], 0, 0),
  (2, .iconst (-1), 3, 0, [], -1, 0),
  (3, .istore 4, 5, 0, [4], 0, 0),
  (5, .iconst (0), 6, 0, [], 0, 0),
  (6, .istore 5, 8, 0, [5], 0, 0),
  (8, .iload 5, 10, 0, [5], 0, 0),
  (10, .aload_n 0, 11, 0, [0], 0, 0),
  (11, .getfield 43, 14, 178, [0, 2, 1], 0, 0),
  (14, .if_icmp .ge (42), 17, 0, [56], 0, 0),
  (17, .iload 5, 19, 0, [5], 0, 0),
  (19, .iload_n 2, 20, 0, [2], 0, 0),
  (20, .invokestatic 65, 23, 777, [151, 2, 1, 639, 125, 640], 0, 0),
  (23, .ifCond .eq (27), 26, 0, [50], 0, 0),
  (26, .aload_n 0, 27, 0, [0], 0, 0),
  (27, .iload_n 1, 28, 0, [1], 0, 0),
  (28, .iload 5, 30, 0, [5], 0, 0),
  (30, .invokevirtual 85, 33, 895, [512, 3, 0, 2, 758, 759, 127, 760], 0, 0),
  (33, .iload 4, 35, 0, [4], 0, 0),
  (35, .if_icmp .le (15), 38, 0, [50], 0, 0),
  (38, .iload 5, 40, 0, [5], 0, 0),
  (40, .istore_n 3, 41, 0, [3], 0, 0),
  (41, .aload_n 0, 42, 0, [0], 0, 0),
  (42, .iload_n 1, 43, 0, [1], 0, 0),
  (43, .iload 5, 45, 0, [5], 0, 0),
  (45, .invokevirtual 85, 48, 895, [512, 3, 0, 2, 758, 759, 127, 760], 0, 0),
  (48, .istore 4, 50, 0, [4], 0, 0),
  (50, .iinc 5 (1), 53, 0, [5], 1, 0),
  (53, .goto (-45), 56, 0, [8], 0, 0),
  (56, .iload_n 3, 57, 0, [3], 0, 0),
  (57, .ireturn, 58, 0, [], 0, 0)]
def pt_m519 : pm_Me := (⟨"TurnCabinet$House", "dearest", "(II)I"⟩, prog_5_method_19_code, 6, some .int, 1, 22, pt_q519_0)
-- TurnCabinet$Picks.settle(I)I
def pt_q611_0 : List pm_Q := [(0, .iload_n 1, 1, 0, [1], 0, 0),
  (1, .istore_n 2, 2, 0, [2], 0, 0),
  (2, .iconst (0), 3, 0, [], 0, 0),
  (3, .istore_n 3, 4, 0, [3], 0, 0),
  (4, .iload_n 3, 5, 0, [3], 0, 0),
  (5, .sipush (400), 8, 0, [], 400, 0),
  (8, .if_icmp .ge (38), 11, 0, [46], 0, 0),
  (11, .aload_n 0, 12, 0, [0], 0, 0),
  (12, .iload_n 2, 13, 0, [2], 0, 0),
  (13, .invokevirtual 95, 16, 923, [614, 2, 0, 4, 925, 25, 133, 926], 0, 0),
  (16, .istore 4, 18, 0, [4], 0, 0),
  (18, .iload 4, 20, 0, [4], 0, 0),
  (20, .iconst (-1), 21, 0, [], -1, 0),
  (21, .if_icmp .ne (5), 24, 0, [26], 0, 0),
  (24, .iload_n 2, 25, 0, [2], 0, 0),
  (25, .ireturn, 26, 0, [], 0, 0),
  (26, .iload_n 2, 27, 0, [2], 0, 0),
  (27, .iload 4, 29, 0, [4], 0, 0),
  (29, .iconst (3), 30, 0, [], 3, 0),
  (30, .iushr, 31, 0, [], 0, 0),
  (31, .iload 4, 33, 0, [4], 0, 0),
  (33, .bipush (7), 35, 0, [], 7, 0),
  (35, .iand, 36, 0, [], 0, 0),
  (36, .invokestatic 98, 39, 931, [904, 3, 0, 932, 139, 933], 0, 0),
  (39, .istore_n 2, 40, 0, [2], 0, 0),
  (40, .iinc 3 (1), 43, 0, [3], 1, 0),
  (43, .goto (-39), 46, 0, [4, 4], 0, 0),
  (46, .iload_n 2, 47, 0, [2], 0, 0),
  (47, .ireturn, 48, 0, [], 0, 0)]
def pt_m611 : pm_Me := (⟨"TurnCabinet$Picks", "settle", "(I)I"⟩, prog_6_method_11_code, 5, some .int, 3, 70, pt_q611_0)
-- TurnCabinet$Picks.firstSwap(I)I
def pt_q614_0 : List pm_Q := [(0, .iconst (0), 1, 0, [], 0, 0),
  (1, .istore_n 2, 2, 0, [2], 0, 0),
  (2, .iload_n 2, 3, 0, [2], 0, 0),
  (3, .aload_n 0, 4, 0, [0], 0, 0),
  (4, .getfield 26, 7, 378, [0, 4, 0], 0, 0),
  (7, .getfield 30, 10, 179, [1, 2, 1], 0, 0),
  (10, .if_icmp .ge (47), 13, 0, [57], 0, 0),
  (13, .iload_n 2, 14, 0, [2], 0, 0),
  (14, .iconst (1), 15, 0, [], 1, 0),
  (15, .iadd, 16, 0, [], 0, 0),
  (16, .istore_n 3, 17, 0, [3], 0, 0),
  (17, .iload_n 3, 18, 0, [3], 0, 0),
  (18, .aload_n 0, 19, 0, [0], 0, 0),
  (19, .getfield 26, 22, 378, [0, 4, 0], 0, 0),
  (22, .getfield 30, 25, 179, [1, 2, 1], 0, 0),
  (25, .if_icmp .ge (26), 28, 0, [51], 0, 0),
  (28, .aload_n 0, 29, 0, [0], 0, 0),
  (29, .iload_n 1, 30, 0, [1], 0, 0),
  (30, .iload_n 2, 31, 0, [2], 0, 0),
  (31, .iload_n 3, 32, 0, [3], 0, 0),
  (32, .invokevirtual 101, 35, 927, [615, 4, 0, 4, 929, 26, 133, 930], 0, 0),
  (35, .ifCond .eq (10), 38, 0, [45], 0, 0),
  (38, .bipush (8), 40, 0, [], 8, 0),
  (40, .iload_n 2, 41, 0, [2], 0, 0),
  (41, .imul, 42, 0, [], 0, 0),
  (42, .iload_n 3, 43, 0, [3], 0, 0),
  (43, .iadd, 44, 0, [], 0, 0),
  (44, .ireturn, 45, 0, [], 0, 0),
  (45, .iinc 3 (1), 48, 0, [3], 1, 0),
  (48, .goto (-31), 51, 0, [17], 0, 0),
  (51, .iinc 2 (1), 54, 0, [2], 1, 0),
  (54, .goto (-52), 57, 0, [2, 3], 0, 0),
  (57, .iconst (-1), 58, 0, [], -1, 0),
  (58, .ireturn, 59, 0, [], 0, 0)]
def pt_m614 : pm_Me := (⟨"TurnCabinet$Picks", "firstSwap", "(I)I"⟩, prog_6_method_14_code, 4, some .int, 2, 47, pt_q614_0)
-- TurnCabinet$Picks.helpsBoth(III)Z
def pt_q615_0 : List pm_Q := [(0, .iload_n 1, 1, 0, [1], 0, 0),
  (1, .iload_n 2, 2, 0, [2], 0, 0),
  (2, .invokestatic 53, 5, 863, [902, 2, 0, 737, 139, 738], 0, 0),
  (5, .istore 4, 7, 0, [4], 0, 0),
  (7, .iload_n 1, 8, 0, [1], 0, 0),
  (8, .iload_n 3, 9, 0, [3], 0, 0),
  (9, .invokestatic 53, 12, 863, [902, 2, 0, 737, 139, 738], 0, 0),
  (12, .istore 5, 14, 0, [5], 0, 0),
  (14, .iload 4, 16, 0, [4], 0, 0),
  (16, .iload 5, 18, 0, [5], 0, 0),
  (18, .if_icmp .eq (53), 21, 0, [71], 0, 0),
  (21, .aload_n 0, 22, 0, [0], 0, 0),
  (22, .getfield 26, 25, 378, [0, 4, 0], 0, 0),
  (25, .iload 4, 27, 0, [4], 0, 0),
  (27, .iload_n 3, 28, 0, [3], 0, 0),
  (28, .invokevirtual 59, 31, 875, [512, 3, 0, 2, 758, 759, 127, 760], 0, 0),
  (31, .aload_n 0, 32, 0, [0], 0, 0),
  (32, .getfield 26, 35, 378, [0, 4, 0], 0, 0),
  (35, .iload 4, 37, 0, [4], 0, 0),
  (37, .iload_n 2, 38, 0, [2], 0, 0),
  (38, .invokevirtual 59, 41, 875, [512, 3, 0, 2, 758, 759, 127, 760], 0, 0),
  (41, .if_icmp .le (30), 44, 0, [71], 0, 0),
  (44, .aload_n 0, 45, 0, [0], 0, 0),
  (45, .getfield 26, 48, 378, [0, 4, 0], 0, 0),
  (48, .iload 5, 50, 0, [5], 0, 0),
  (50, .iload_n 2, 51, 0, [2], 0, 0),
  (51, .invokevirtual 59, 54, 875, [512, 3, 0, 2, 758, 759, 127, 760], 0, 0),
  (54, .aload_n 0, 55, 0, [0], 0, 0),
  (55, .getfield 26, 58, 378, [0, 4, 0], 0, 0),
  (58, .iload 5, 60, 0, [5], 0, 0),
  (60, .iload_n 3, 61, 0, [3], 0, 0),
  (61, .invokevirtual 59, 64, 875, [512, 3, 0, 2, 758, 759, 127, 760], 0, 0),
  (64, .if_icmp .le (7), 67, 0, [71], 0, 0),
  (67, .iconst (1), 68, 0, [], 1, 0),
  (68, .goto (4), 71, 0, [72], 0, 0),
  (71, .iconst (0), 72, 0, [], 0, 0),
  (72, .ireturn, 73, 0, [], 0, 0)]
def pt_m615 : pm_Me := (⟨"TurnCabinet$Picks", "helpsBoth", "(III)Z"⟩, prog_6_method_15_code, 6, some .boolean, 1, 22, pt_q615_0)
-- TurnCabinet$Slots.exchanged(III)I
def pt_q904_0 : List pm_Q := [(0, .iload_n 0, 1, 0, [0], 0, 0),
  (1, .iload_n 1, 2, 0, [1], 0, 0),
  (2, .iload_n 0, 3, 0, [0], 0, 0),
  (3, .iload_n 2, 4, 0, [2], 0, 0),
  (4, .invokestatic 7, 7, 736, [902, 2, 0, 737, 139, 738], 0, 0),
  (7, .invokestatic 13, 10, 934, [903, 3, 0, 812, 139, 813], 0, 0),
  (10, .iload_n 2, 11, 0, [2], 0, 0),
  (11, .iload_n 0, 12, 0, [0], 0, 0),
  (12, .iload_n 1, 13, 0, [1], 0, 0),
  (13, .invokestatic 7, 16, 736, [902, 2, 0, 737, 139, 738], 0, 0),
  (16, .invokestatic 13, 19, 934, [903, 3, 0, 812, 139, 813], 0, 0),
  (19, .ireturn, 20, 0, [], 0, 0)]
def pt_m904 : pm_Me := (⟨"TurnCabinet$Slots", "exchanged", "(III)I"⟩, prog_9_method_4_code, 3, some .int, 1, 23, pt_q904_0)
-- TurnCabinet.has(III)I
def pt_q112_0 : List pm_Q := [(0, .aload_n 0, 1, 0, [0], 0, 0),
  (1, .getfield 19, 4, 537, [0, 0, 1], 0, 0),
  (4, .iload_n 1, 5, 0, [1], 0, 0),
  (5, .invokevirtual 174, 8, 793, [506, 2, 0, 2, 794, 795, 127, 796], 0, 0),
  (8, .ifCond .eq (21), 11, 0, [29], 0, 0),
  (11, .iload_n 2, 12, 0, [2], 0, 0),
  (12, .invokestatic 189, 15, 823, [149, 1, 0, 824, 125, 825], 0, 0),
  (15, .ifCond .eq (14), 18, 0, [29], 0, 0),
  (18, .aload_n 0, 19, 0, [0], 0, 0),
  (19, .getfield 19, 22, 537, [0, 0, 1], 0, 0),
  (22, .iload_n 3, 23, 0, [3], 0, 0),
  (23, .invokevirtual 113, 26, 709, [504, 2, 0, 2, 710, 711, 127, 712], 0, 0),
  (26, .ifCond .ne (5), 29, 0, [31], 0, 0),
  (29, .iconst (-1), 30, 0, [], -1, 0),
  (30, .ireturn, 31, 0, [], 0, 0),
  (31, .iload_n 3, 32, 0, [3], 0, 0),
  (32, .iload_n 1, 33, 0, [1], 0, 0),
  (33, .invokestatic 195, 36, 939, [151, 2, 0, 639, 125, 640], 0, 0),
  (36, .ifCond .ne (5), 39, 0, [41], 0, 0),
  (39, .iconst (0), 40, 0, [], 0, 0),
  (40, .ireturn, 41, 0, [], 0, 0),
  (41, .aload_n 0, 42, 0, [0], 0, 0),
  (42, .getfield 19, 45, 537, [0, 0, 1], 0, 0),
  (45, .iload_n 3, 46, 0, [3], 0, 0),
  (46, .aload_n 0, 47, 0, [0], 0, 0),
  (47, .getfield 53, 50, 541, [0, 0, 5], 0, 0),
  (50, .iload_n 1, 51, 0, [1], 0, 0),
  (51, .iload_n 2, 52, 0, [2], 0, 0),
  (52, .invokevirtual 192, 55, 826, [307, 3, 0, 6, 827, 828, 135, 829], 0, 0),
  (55, .iload_n 3, 56, 0, [3], 0, 0),
  (56, .invokevirtual 199, 59, 940, [521, 4, 0, 2, 891, 892, 127, 893], 0, 0),
  (59, .ireturn, 60, 0, [], 0, 0)]
def pt_m112 : pm_Me := (⟨"TurnCabinet", "has", "(III)I"⟩, prog_1_method_12_code, 4, some .int, 6, 151, pt_q112_0)
-- TurnCabinet.swaps(I)I
def pt_q113_0 : List pm_Q := [(0, .aload_n 0, 1, 0, [0], 0, 0),
  (1, .getfield 19, 4, 537, [0, 0, 1], 0, 0),
  (4, .iload_n 1, 5, 0, [1], 0, 0),
  (5, .invokevirtual 174, 8, 793, [506, 2, 0, 2, 794, 795, 127, 796], 0, 0),
  (8, .ifCond .ne (5), 11, 0, [13], 0, 0),
  (11, .iconst (-1), 12, 0, [], -1, 0),
  (12, .ireturn, 13, 0, [], 0, 0),
  (13, .aload_n 0, 14, 0, [0], 0, 0),
  (14, .getfield 37, 17, 539, [0, 0, 3], 0, 0),
  (17, .aload_n 0, 18, 0, [0], 0, 0),
  (18, .getfield 53, 21, 541, [0, 0, 5], 0, 0),
  (21, .iload_n 1, 22, 0, [1], 0, 0),
  (22, .iconst (1), 23, 0, [], 1, 0),
  (23, .invokevirtual 192, 26, 826, [307, 3, 0, 6, 827, 828, 135, 829], 0, 0),
  (26, .invokevirtual 202, 29, 945, [612, 2, 0, 4, 946, 947, 133, 948], 0, 0),
  (29, .ireturn, 30, 0, [], 0, 0)]
def pt_m113 : pm_Me := (⟨"TurnCabinet", "swaps", "(I)I"⟩, prog_1_method_13_code, 2, some .int, 6, 151, pt_q113_0)
-- TurnCabinet$Picks.countSwaps(I)I
def pt_q612_0 : List pm_Q := [(0, .iload_n 1, 1, 0, [1], 0, 0),
  (1, .istore_n 2, 2, 0, [2], 0, 0),
  (2, .iconst (0), 3, 0, [], 0, 0),
  (3, .istore_n 3, 4, 0, [3], 0, 0),
  (4, .iload_n 3, 5, 0, [3], 0, 0),
  (5, .sipush (400), 8, 0, [], 400, 0),
  (8, .if_icmp .ge (38), 11, 0, [46], 0, 0),
  (11, .aload_n 0, 12, 0, [0], 0, 0),
  (12, .iload_n 2, 13, 0, [2], 0, 0),
  (13, .invokevirtual 95, 16, 923, [614, 2, 0, 4, 925, 25, 133, 926], 0, 0),
  (16, .istore 4, 18, 0, [4], 0, 0),
  (18, .iload 4, 20, 0, [4], 0, 0),
  (20, .iconst (-1), 21, 0, [], -1, 0),
  (21, .if_icmp .ne (5), 24, 0, [26], 0, 0),
  (24, .iload_n 3, 25, 0, [3], 0, 0),
  (25, .ireturn, 26, 0, [], 0, 0),
  (26, .iload_n 2, 27, 0, [2], 0, 0),
  (27, .iload 4, 29, 0, [4], 0, 0),
  (29, .iconst (3), 30, 0, [], 3, 0),
  (30, .iushr, 31, 0, [], 0, 0),
  (31, .iload 4, 33, 0, [4], 0, 0),
  (33, .bipush (7), 35, 0, [], 7, 0),
  (35, .iand, 36, 0, [], 0, 0),
  (36, .invokestatic 98, 39, 931, [904, 3, 0, 932, 139, 933], 0, 0),
  (39, .istore_n 2, 40, 0, [2], 0, 0),
  (40, .iinc 3 (1), 43, 0, [3], 1, 0),
  (43, .goto (-39), 46, 0, [4, 4], 0, 0),
  (46, .sipush (400), 49, 0, [], 400, 0),
  (49, .ireturn, 50, 0, [], 0, 0)]
def pt_m612 : pm_Me := (⟨"TurnCabinet$Picks", "countSwaps", "(I)I"⟩, prog_6_method_12_code, 5, some .int, 3, 70, pt_q612_0)
-- TurnCabinet.instead(III)I
def pt_q114_0 : List pm_Q := [(0, .aload_n 0, 1, 0, [0], 0, 0),
  (1, .getfield 19, 4, 537, [0, 0, 1], 0, 0),
  (4, .iload_n 1, 5, 0, [1], 0, 0),
  (5, .invokevirtual 174, 8, 793, [506, 2, 0, 2, 794, 795, 127, 796], 0, 0),
  (8, .ifCond .eq (18), 11, 0, [26], 0, 0),
  (11, .iload_n 2, 12, 0, [2], 0, 0),
  (12, .ifCond .lt (14), 15, 0, [26], 0, 0),
  (15, .iload_n 2, 16, 0, [2], 0, 0),
  (16, .aload_n 0, 17, 0, [0], 0, 0),
  (17, .getfield 19, 20, 537, [0, 0, 1], 0, 0),
  (20, .getfield 140, 23, 181, [1, 2, 1], 0, 0),
  (23, .if_icmp .lt (5), 26, 0, [28], 0, 0),
  (26, .iconst (-1), 27, 0, [], -1, 0),
  (27, .ireturn, 28, 0, [], 0, 0),
  (28, .aload_n 0, 29, 0, [0], 0, 0),
  (29, .getfield 19, 32, 537, [0, 0, 1], 0, 0),
  (32, .iload_n 3, 33, 0, [3], 0, 0),
  (33, .invokevirtual 133, 36, 753, [505, 2, 0, 2, 754, 755, 127, 756], 0, 0),
  (36, .ifCond .ne (5), 39, 0, [41], 0, 0),
  (39, .iconst (-1), 40, 0, [], -1, 0),
  (40, .ireturn, 41, 0, [], 0, 0),
  (41, .aload_n 0, 42, 0, [0], 0, 0),
  (42, .getfield 37, 45, 539, [0, 0, 3], 0, 0),
  (45, .iload_n 1, 46, 0, [1], 0, 0),
  (46, .aload_n 0, 47, 0, [0], 0, 0),
  (47, .getfield 19, 50, 537, [0, 0, 1], 0, 0),
  (50, .getfield 164, 53, 185, [1, 2, 2], 0, 0),
  (53, .aload_n 0, 54, 0, [0], 0, 0),
  (54, .getfield 19, 57, 537, [0, 0, 1], 0, 0),
  (57, .getfield 167, 60, 190, [1, 2, 3], 0, 0),
  (60, .invokevirtual 180, 63, 800, [602, 4, 0, 4, 801, 802, 133, 803], 0, 0),
  (63, .istore 4, 65, 0, [4], 0, 0),
  (65, .aload_n 0, 66, 0, [0], 0, 0),
  (66, .getfield 37, 69, 539, [0, 0, 3], 0, 0),
  (69, .iload 4, 71, 0, [4], 0, 0),
  (71, .invokevirtual 205, 74, 953, [607, 2, 0, 4, 856, 857, 133, 858], 0, 0),
  (74, .aload_n 0, 75, 0, [0], 0, 0),
  (75, .getfield 37, 78, 539, [0, 0, 3], 0, 0),
  (78, .iload 4, 80, 0, [4], 0, 0),
  (80, .iload_n 2, 81, 0, [2], 0, 0),
  (81, .iload_n 3, 82, 0, [3], 0, 0),
  (82, .invokevirtual 208, 85, 954, [605, 4, 0, 4, 955, 956, 133, 957], 0, 0),
  (85, .ireturn, 86, 0, [], 0, 0)]
def pt_m114 : pm_Me := (⟨"TurnCabinet", "instead", "(III)I"⟩, prog_1_method_14_code, 5, some .int, 3, 79, pt_q114_0)
-- TurnCabinet$Picks.ifPicked(III)I
def pt_q605_0 : List pm_Q := [(0, .iload_n 1, 1, 0, [1], 0, 0),
  (1, .iload_n 2, 2, 0, [2], 0, 0),
  (2, .invokestatic 53, 5, 863, [902, 2, 0, 737, 139, 738], 0, 0),
  (5, .istore 4, 7, 0, [4], 0, 0),
  (7, .iconst (0), 8, 0, [], 0, 0),
  (8, .istore 5, 10, 0, [5], 0, 0),
  (10, .aload_n 0, 11, 0, [0], 0, 0),
  (11, .invokevirtual 49, 14, 866, [606, 1, 0, 4, 868, 22, 133, 869], 0, 0),
  (14, .istore 6, 16, 0, [6], 0, 0),
  (16, .iconst (0), 17, 0, [], 0, 0),
  (17, .istore 7, 19, 0, [7], 0, 0),
  (19, .iload 7, 21, 0, [7], 0, 0),
  (21, .iload_n 2, 22, 0, [2], 0, 0),
  (22, .if_icmp .ge (67), 25, 0, [89], 0, 0),
  (25, .iload 7, 27, 0, [7], 0, 0),
  (27, .bipush (8), 29, 0, [], 8, 0),
  (29, .if_icmp .ge (60), 32, 0, [89], 0, 0),
  (32, .aload_n 0, 33, 0, [0], 0, 0),
  (33, .getfield 9, 36, 379, [0, 4, 1], 0, 0),
  (36, .iload 6, 38, 0, [6], 0, 0),
  (38, .sipush (255), 41, 0, [], 255, 0),
  (41, .iand, 42, 0, [], 0, 0),
  (42, .iaload, 43, 0, [], 0, 0),
  (43, .istore 8, 45, 0, [8], 0, 0),
  (45, .iload_n 1, 46, 0, [1], 0, 0),
  (46, .iload 7, 48, 0, [7], 0, 0),
  (48, .invokestatic 53, 51, 863, [902, 2, 0, 737, 139, 738], 0, 0),
  (51, .iload 4, 53, 0, [4], 0, 0),
  (53, .if_icmp .ne (19), 56, 0, [72], 0, 0),
  (56, .iload 5, 58, 0, [5], 0, 0),
  (58, .aload_n 0, 59, 0, [0], 0, 0),
  (59, .getfield 26, 62, 378, [0, 4, 0], 0, 0),
  (62, .iload 4, 64, 0, [4], 0, 0),
  (64, .iload 8, 66, 0, [8], 0, 0),
  (66, .invokevirtual 59, 69, 875, [512, 3, 0, 2, 758, 759, 127, 760], 0, 0),
  (69, .iadd, 70, 0, [], 0, 0),
  (70, .istore 5, 72, 0, [5], 0, 0),
  (72, .iload 6, 74, 0, [6], 0, 0),
  (74, .iconst (1), 75, 0, [], 1, 0),
  (75, .iload 8, 77, 0, [8], 0, 0),
  (77, .ishl, 78, 0, [], 0, 0),
  (78, .iconst (-1), 79, 0, [], -1, 0),
  (79, .ixor, 80, 0, [], 0, 0),
  (80, .iand, 81, 0, [], 0, 0),
  (81, .istore 6, 83, 0, [6], 0, 0),
  (83, .iinc 7 (1), 86, 0, [7], 1, 0),
  (86, .goto (-67), 89, 0, [19, 8], 0, 0),
  (89, .iload_n 3, 90, 0, [3], 0, 0),
  (90, .iload 6, 92, 0, [6], 0, 0),
  (92, .invokestatic 62, 95, 864, [151, 2, 1, 639, 125, 640], 0, 0),
  (95, .ifCond .ne (5), 98, 0, [100], 0, 0),
  (98, .iconst (-1), 99, 0, [], -1, 0),
  (99, .ireturn, 100, 0, [], 0, 0),
  (100, .aload_n 0, 101, 0, [0], 0, 0),
  (101, .aload_n 0, 102, 0, [0], 0, 0),
  (102, .getfield 15, 105, 380, [0, 4, 2], 0, 0),
  (105, .iload 6, 107, 0, [6], 0, 0),
  (107, .iconst (1), 108, 0, [], 1, 0),
  (108, .iload_n 3, 109, 0, [3], 0, 0),
  (109, .ishl, 110, 0, [], 0, 0)]
def pt_q605_1 : List pm_Q := [(110, .iconst (-1), 111, 0, [], -1, 0),
  (111, .ixor, 112, 0, [], 0, 0),
  (112, .iand, 113, 0, [], 0, 0),
  (113, .sipush (255), 116, 0, [], 255, 0),
  (116, .iand, 117, 0, [], 0, 0),
  (117, .laload, 118, 0, [], 0, 0),
  (118, .iload 4, 120, 0, [4], 0, 0),
  (120, .invokevirtual 66, 123, 876, [609, 3, 0, 4, 878, 24, 133, 879], 0, 0),
  (123, .l2i, 124, 0, [], 0, 0),
  (124, .istore 7, 126, 0, [7], 0, 0),
  (126, .iload 5, 128, 0, [5], 0, 0),
  (128, .aload_n 0, 129, 0, [0], 0, 0),
  (129, .getfield 26, 132, 378, [0, 4, 0], 0, 0),
  (132, .iload 4, 134, 0, [4], 0, 0),
  (134, .iload_n 3, 135, 0, [3], 0, 0),
  (135, .invokevirtual 59, 138, 875, [512, 3, 0, 2, 758, 759, 127, 760], 0, 0),
  (138, .iadd, 139, 0, [], 0, 0),
  (139, .iload 7, 141, 0, [7], 0, 0),
  (141, .iadd, 142, 0, [], 0, 0),
  (142, .ireturn, 143, 0, [], 0, 0)]
def pt_m605 : pm_Me := (⟨"TurnCabinet$Picks", "ifPicked", "(III)I"⟩, prog_6_method_5_code, 9, some .int, 1, 23, pt_q605_0 ++ pt_q605_1)
-- TurnCabinet.middle(I)I
def pt_q115_0 : List pm_Q := [(0, .aload_n 0, 1, 0, [0], 0, 0),
  (1, .getfield 19, 4, 537, [0, 0, 1], 0, 0),
  (4, .iload_n 1, 5, 0, [1], 0, 0),
  (5, .invokevirtual 174, 8, 793, [506, 2, 0, 2, 794, 795, 127, 796], 0, 0),
  (8, .ifCond .ne (5), 11, 0, [13], 0, 0),
  (11, .iconst (-1), 12, 0, [], -1, 0),
  (12, .ireturn, 13, 0, [], 0, 0),
  (13, .aload_n 0, 14, 0, [0], 0, 0),
  (14, .getfield 19, 17, 537, [0, 0, 1], 0, 0),
  (17, .iload_n 1, 18, 0, [1], 0, 0),
  (18, .invokevirtual 211, 21, 962, [520, 2, 0, 2, 885, 886, 127, 887], 0, 0),
  (21, .ireturn, 22, 0, [], 0, 0)]
def pt_m115 : pm_Me := (⟨"TurnCabinet", "middle", "(I)I"⟩, prog_1_method_15_code, 2, some .int, 2, 45, pt_q115_0)
-- TurnCabinet.pay(II)I
def pt_q116_0 : List pm_Q := [(0, .aload_n 0, 1, 0, [0], 0, 0),
  (1, .getfield 19, 4, 537, [0, 0, 1], 0, 0),
  (4, .iload_n 1, 5, 0, [1], 0, 0),
  (5, .invokevirtual 174, 8, 793, [506, 2, 0, 2, 794, 795, 127, 796], 0, 0),
  (8, .ifCond .eq (14), 11, 0, [22], 0, 0),
  (11, .aload_n 0, 12, 0, [0], 0, 0),
  (12, .getfield 19, 15, 537, [0, 0, 1], 0, 0),
  (15, .iload_n 2, 16, 0, [2], 0, 0),
  (16, .invokevirtual 113, 19, 709, [504, 2, 0, 2, 710, 711, 127, 712], 0, 0),
  (19, .ifCond .ne (6), 22, 0, [25], 0, 0),
  (22, .ldc 214, 24, 967, [], -1000000, 0),
  (24, .ireturn, 25, 0, [], 0, 0),
  (25, .aload_n 0, 26, 0, [0], 0, 0),
  (26, .getfield 53, 29, 541, [0, 0, 5], 0, 0),
  (29, .iload_n 1, 30, 0, [1], 0, 0),
  (30, .invokevirtual 215, 33, 968, [305, 2, 0, 6, 831, 832, 135, 833], 0, 0),
  (33, .aload_n 0, 34, 0, [0], 0, 0),
  (34, .getfield 53, 37, 541, [0, 0, 5], 0, 0),
  (37, .iload_n 1, 38, 0, [1], 0, 0),
  (38, .iload_n 2, 39, 0, [2], 0, 0),
  (39, .invokevirtual 218, 42, 969, [308, 3, 0, 6, 970, 971, 135, 972], 0, 0),
  (42, .ireturn, 43, 0, [], 0, 0)]
def pt_m116 : pm_Me := (⟨"TurnCabinet", "pay", "(II)I"⟩, prog_1_method_16_code, 3, some .int, 5, 128, pt_q116_0)
-- TurnCabinet$Coalitions.payOf(II)I
def pt_q308_0 : List pm_Q := [(0, .aload_n 0, 1, 0, [0], 0, 0),
  (1, .getfield 28, 4, 429, [0, 6, 7], 0, 0),
  (4, .bipush (8), 6, 0, [], 8, 0),
  (6, .iload_n 1, 7, 0, [1], 0, 0),
  (7, .bipush (127), 9, 0, [], 127, 0),
  (9, .iand, 10, 0, [], 0, 0),
  (10, .imul, 11, 0, [], 0, 0),
  (11, .iload_n 2, 12, 0, [2], 0, 0),
  (12, .bipush (7), 14, 0, [], 7, 0),
  (14, .iand, 15, 0, [], 0, 0),
  (15, .iadd, 16, 0, [], 0, 0),
  (16, .iaload, 17, 0, [], 0, 0),
  (17, .ireturn, 18, 0, [], 0, 0)]
def pt_m308 : pm_Me := (⟨"TurnCabinet$Coalitions", "payOf", "(II)I"⟩, prog_3_method_8_code, 3, some .int, 0, 0, pt_q308_0)
-- TurnCabinet.policy(III)I
def pt_q117_0 : List pm_Q := [(0, .aload_n 0, 1, 0, [0], 0, 0),
  (1, .getfield 19, 4, 537, [0, 0, 1], 0, 0),
  (4, .iload_n 1, 5, 0, [1], 0, 0),
  (5, .invokevirtual 174, 8, 793, [506, 2, 0, 2, 794, 795, 127, 796], 0, 0),
  (8, .ifCond .eq (21), 11, 0, [29], 0, 0),
  (11, .iload_n 2, 12, 0, [2], 0, 0),
  (12, .invokestatic 189, 15, 823, [149, 1, 0, 824, 125, 825], 0, 0),
  (15, .ifCond .eq (14), 18, 0, [29], 0, 0),
  (18, .aload_n 0, 19, 0, [0], 0, 0),
  (19, .getfield 19, 22, 537, [0, 0, 1], 0, 0),
  (22, .iload_n 3, 23, 0, [3], 0, 0),
  (23, .invokevirtual 133, 26, 753, [505, 2, 0, 2, 754, 755, 127, 756], 0, 0),
  (26, .ifCond .ne (5), 29, 0, [31], 0, 0),
  (29, .iconst (-1), 30, 0, [], -1, 0),
  (30, .ireturn, 31, 0, [], 0, 0),
  (31, .aload_n 0, 32, 0, [0], 0, 0),
  (32, .getfield 53, 35, 541, [0, 0, 5], 0, 0),
  (35, .iload_n 1, 36, 0, [1], 0, 0),
  (36, .iload_n 2, 37, 0, [2], 0, 0),
  (37, .invokevirtual 192, 40, 826, [307, 3, 0, 6, 827, 828, 135, 829], 0, 0),
  (40, .iload_n 3, 41, 0, [3], 0, 0),
  (41, .invokestatic 184, 44, 817, [902, 2, 0, 737, 139, 738], 0, 0),
  (44, .istore 4, 46, 0, [4], 0, 0),
  (46, .aload_n 0, 47, 0, [0], 0, 0),
  (47, .getfield 19, 50, 537, [0, 0, 1], 0, 0),
  (50, .iload 4, 52, 0, [4], 0, 0),
  (52, .iload_n 3, 53, 0, [3], 0, 0),
  (53, .invokevirtual 221, 56, 977, [513, 3, 0, 2, 908, 909, 127, 910], 0, 0),
  (56, .ireturn, 57, 0, [], 0, 0)]
def pt_m117 : pm_Me := (⟨"TurnCabinet", "policy", "(III)I"⟩, prog_1_method_17_code, 5, some .int, 6, 151, pt_q117_0)
-- TurnCabinet.grief(III)I
def pt_q118_0 : List pm_Q := [(0, .aload_n 0, 1, 0, [0], 0, 0),
  (1, .getfield 19, 4, 537, [0, 0, 1], 0, 0),
  (4, .iload_n 1, 5, 0, [1], 0, 0),
  (5, .invokevirtual 174, 8, 793, [506, 2, 0, 2, 794, 795, 127, 796], 0, 0),
  (8, .ifCond .eq (21), 11, 0, [29], 0, 0),
  (11, .iload_n 2, 12, 0, [2], 0, 0),
  (12, .invokestatic 189, 15, 823, [149, 1, 0, 824, 125, 825], 0, 0),
  (15, .ifCond .eq (14), 18, 0, [29], 0, 0),
  (18, .aload_n 0, 19, 0, [0], 0, 0),
  (19, .getfield 19, 22, 537, [0, 0, 1], 0, 0),
  (22, .iload_n 3, 23, 0, [3], 0, 0),
  (23, .invokevirtual 113, 26, 709, [504, 2, 0, 2, 710, 711, 127, 712], 0, 0),
  (26, .ifCond .ne (5), 29, 0, [31], 0, 0),
  (29, .iconst (-1), 30, 0, [], -1, 0),
  (30, .ireturn, 31, 0, [], 0, 0),
  (31, .aload_n 0, 32, 0, [0], 0, 0),
  (32, .getfield 19, 35, 537, [0, 0, 1], 0, 0),
  (35, .iload_n 3, 36, 0, [3], 0, 0),
  (36, .aload_n 0, 37, 0, [0], 0, 0),
  (37, .getfield 53, 40, 541, [0, 0, 5], 0, 0),
  (40, .iload_n 1, 41, 0, [1], 0, 0),
  (41, .iload_n 2, 42, 0, [2], 0, 0),
  (42, .invokevirtual 192, 45, 826, [307, 3, 0, 6, 827, 828, 135, 829], 0, 0),
  (45, .invokevirtual 224, 48, 982, [525, 3, 0, 2, 904, 905, 127, 906], 0, 0),
  (48, .ireturn, 49, 0, [], 0, 0)]
def pt_m118 : pm_Me := (⟨"TurnCabinet", "grief", "(III)I"⟩, prog_1_method_18_code, 4, some .int, 6, 151, pt_q118_0)
-- TurnCabinet.envy(II)I
def pt_q119_0 : List pm_Q := [(0, .aload_n 0, 1, 0, [0], 0, 0),
  (1, .getfield 19, 4, 537, [0, 0, 1], 0, 0),
  (4, .iload_n 1, 5, 0, [1], 0, 0),
  (5, .invokevirtual 174, 8, 793, [506, 2, 0, 2, 794, 795, 127, 796], 0, 0),
  (8, .ifCond .eq (10), 11, 0, [18], 0, 0),
  (11, .iload_n 2, 12, 0, [2], 0, 0),
  (12, .invokestatic 189, 15, 823, [149, 1, 0, 824, 125, 825], 0, 0),
  (15, .ifCond .ne (5), 18, 0, [20], 0, 0),
  (18, .iconst (-1), 19, 0, [], -1, 0),
  (19, .ireturn, 20, 0, [], 0, 0),
  (20, .aload_n 0, 21, 0, [0], 0, 0),
  (21, .getfield 19, 24, 537, [0, 0, 1], 0, 0),
  (24, .iload_n 1, 25, 0, [1], 0, 0),
  (25, .aload_n 0, 26, 0, [0], 0, 0),
  (26, .getfield 53, 29, 541, [0, 0, 5], 0, 0),
  (29, .iload_n 1, 30, 0, [1], 0, 0),
  (30, .iload_n 2, 31, 0, [2], 0, 0),
  (31, .invokevirtual 192, 34, 826, [307, 3, 0, 6, 827, 828, 135, 829], 0, 0),
  (34, .invokevirtual 227, 37, 987, [526, 3, 0, 2, 988, 989, 127, 990], 0, 0),
  (37, .ireturn, 38, 0, [], 0, 0)]
def pt_m119 : pm_Me := (⟨"TurnCabinet", "envy", "(II)I"⟩, prog_1_method_19_code, 3, some .int, 6, 151, pt_q119_0)
-- TurnCabinet$House.countEnvy(II)I
def pt_q526_0 : List pm_Q := [(0, .iconst (0), 1, 0, [], 0, 0),
  (1, .istore_n 3, 2, 0, [3], 0, 0),
  (2, .iconst (0), 3, 0, [], 0, 0),
  (3, .istore 4, 5, 0, [4], 0, 0),
  (5, .iload 4, 7, 0, [4], 0, 0),
  (7, .aload_n 0, 8, 0, [0], 0, 0),
  (8, .getfield 40, 11, 170, [0, 2, 0], 0, 0),
  (11, .if_icmp .ge (74), 14, 0, [85], 0, 0),
  (14, .iload 4, 16, 0, [4], 0, 0),
  (16, .iload_n 1, 17, 0, [1], 0, 0),
  (17, .invokestatic 65, 20, 777, [151, 2, 1, 639, 125, 640], 0, 0),
  (20, .ifCond .ne (6), 23, 0, [26], 0, 0),
  (23, .goto (56), 26, 0, [79], 0, 0),
  (26, .aload_n 0, 27, 0, [0], 0, 0),
  (27, .iload 4, 29, 0, [4], 0, 0),
  (29, .iload_n 2, 30, 0, [2], 0, 0),
  (30, .iload 4, 32, 0, [4], 0, 0),
  (32, .invokevirtual 105, 35, 991, [521, 4, 0, 2, 891, 892, 127, 893], 0, 0),
  (35, .istore 5, 37, 0, [5], 0, 0),
  (37, .iconst (0), 38, 0, [], 0, 0),
  (38, .istore 6, 40, 0, [6], 0, 0),
  (40, .iload 6, 42, 0, [6], 0, 0),
  (42, .aload_n 0, 43, 0, [0], 0, 0),
  (43, .getfield 40, 46, 170, [0, 2, 0], 0, 0),
  (46, .if_icmp .ge (33), 49, 0, [79], 0, 0),
  (49, .iload 6, 51, 0, [6], 0, 0),
  (51, .iload 4, 53, 0, [4], 0, 0),
  (53, .if_icmp .eq (20), 56, 0, [73], 0, 0),
  (56, .aload_n 0, 57, 0, [0], 0, 0),
  (57, .iload 6, 59, 0, [6], 0, 0),
  (59, .iload_n 2, 60, 0, [2], 0, 0),
  (60, .iload 4, 62, 0, [4], 0, 0),
  (62, .invokevirtual 105, 65, 991, [521, 4, 0, 2, 891, 892, 127, 893], 0, 0),
  (65, .iload 5, 67, 0, [5], 0, 0),
  (67, .if_icmp .le (6), 70, 0, [73], 0, 0),
  (70, .iinc 3 (1), 73, 0, [3], 1, 0),
  (73, .iinc 6 (1), 76, 0, [6], 1, 0),
  (76, .goto (-36), 79, 0, [40], 0, 0),
  (79, .iinc 4 (1), 82, 0, [4], 1, 0),
  (82, .goto (-77), 85, 0, [5, 5, 6], 0, 0),
  (85, .iload_n 3, 86, 0, [3], 0, 0),
  (86, .ireturn, 87, 0, [], 0, 0)]
def pt_m526 : pm_Me := (⟨"TurnCabinet$House", "countEnvy", "(II)I"⟩, prog_5_method_26_code, 7, some .int, 2, 47, pt_q526_0)
-- TurnCabinet.kept(II)I
def pt_q120_0 : List pm_Q := [(0, .aload_n 0, 1, 0, [0], 0, 0),
  (1, .getfield 19, 4, 537, [0, 0, 1], 0, 0),
  (4, .iload_n 1, 5, 0, [1], 0, 0),
  (5, .invokevirtual 174, 8, 793, [506, 2, 0, 2, 794, 795, 127, 796], 0, 0),
  (8, .ifCond .eq (12), 11, 0, [20], 0, 0),
  (11, .iload_n 2, 12, 0, [2], 0, 0),
  (12, .ifCond .lt (8), 15, 0, [20], 0, 0),
  (15, .iload_n 2, 16, 0, [2], 0, 0),
  (16, .iconst (1), 17, 0, [], 1, 0),
  (17, .if_icmp .le (5), 20, 0, [22], 0, 0),
  (20, .iconst (-1), 21, 0, [], -1, 0),
  (21, .ireturn, 22, 0, [], 0, 0),
  (22, .aload_n 0, 23, 0, [0], 0, 0),
  (23, .getfield 37, 26, 539, [0, 0, 3], 0, 0),
  (26, .iload_n 1, 27, 0, [1], 0, 0),
  (27, .aload_n 0, 28, 0, [0], 0, 0),
  (28, .getfield 19, 31, 537, [0, 0, 1], 0, 0),
  (31, .getfield 164, 34, 185, [1, 2, 2], 0, 0),
  (34, .aload_n 0, 35, 0, [0], 0, 0),
  (35, .getfield 19, 38, 537, [0, 0, 1], 0, 0),
  (38, .getfield 167, 41, 190, [1, 2, 3], 0, 0),
  (41, .invokevirtual 180, 44, 800, [602, 4, 0, 4, 801, 802, 133, 803], 0, 0),
  (44, .istore_n 3, 45, 0, [3], 0, 0),
  (45, .aload_n 0, 46, 0, [0], 0, 0),
  (46, .getfield 44, 49, 540, [0, 0, 4], 0, 0),
  (49, .iload_n 3, 50, 0, [3], 0, 0),
  (50, .aload_n 0, 51, 0, [0], 0, 0),
  (51, .getfield 19, 54, 537, [0, 0, 1], 0, 0),
  (54, .getfield 140, 57, 181, [1, 2, 1], 0, 0),
  (57, .invokestatic 230, 60, 996, [908, 2, 0, 997, 139, 998], 0, 0),
  (60, .iload_n 2, 61, 0, [2], 0, 0),
  (61, .iconst (1), 62, 0, [], 1, 0),
  (62, .if_icmp .ne (7), 65, 0, [69], 0, 0),
  (65, .iconst (1), 66, 0, [], 1, 0),
  (66, .goto (4), 69, 0, [70], 0, 0),
  (69, .iconst (0), 70, 0, [], 0, 0),
  (70, .invokevirtual 233, 73, 1000, [802, 3, 0, 5, 1001, 1002, 134, 1003], 0, 0),
  (73, .ireturn, 74, 0, [], 0, 0)]
def pt_m120 : pm_Me := (⟨"TurnCabinet", "kept", "(II)I"⟩, prog_1_method_20_code, 4, some .int, 3, 79, pt_q120_0)
-- TurnCabinet$Slots.countsOf(II)I
def pt_q908_0 : List pm_Q := [(0, .iconst (0), 1, 0, [], 0, 0),
  (1, .istore_n 2, 2, 0, [2], 0, 0),
  (2, .iconst (0), 3, 0, [], 0, 0),
  (3, .istore_n 3, 4, 0, [3], 0, 0),
  (4, .iload_n 3, 5, 0, [3], 0, 0),
  (5, .iload_n 1, 6, 0, [1], 0, 0),
  (6, .if_icmp .ge (19), 9, 0, [25], 0, 0),
  (9, .iload_n 2, 10, 0, [2], 0, 0),
  (10, .iload_n 0, 11, 0, [0], 0, 0),
  (11, .iload_n 3, 12, 0, [3], 0, 0),
  (12, .invokestatic 7, 15, 736, [902, 2, 0, 737, 139, 738], 0, 0),
  (15, .invokestatic 17, 18, 999, [907, 2, 0, 815, 139, 816], 0, 0),
  (18, .istore_n 2, 19, 0, [2], 0, 0),
  (19, .iinc 3 (1), 22, 0, [3], 1, 0),
  (22, .goto (-18), 25, 0, [4], 0, 0),
  (25, .iload_n 2, 26, 0, [2], 0, 0),
  (26, .ireturn, 27, 0, [], 0, 0)]
def pt_m908 : pm_Me := (⟨"TurnCabinet$Slots", "countsOf", "(II)I"⟩, prog_9_method_8_code, 4, some .int, 1, 21, pt_q908_0)
-- TurnCabinet$Shares.greatest(IZ)I
def pt_q802_0 : List pm_Q := [(0, .aload_n 0, 1, 0, [0], 0, 0),
  (1, .getfield 18, 4, 406, [0, 5, 0], 0, 0),
  (4, .getfield 22, 7, 177, [1, 2, 1], 0, 0),
  (7, .ifCond .ne (5), 10, 0, [12], 0, 0),
  (10, .iconst (0), 11, 0, [], 0, 0),
  (11, .ireturn, 12, 0, [], 0, 0),
  (12, .iconst (1), 13, 0, [], 1, 0),
  (13, .aload_n 0, 14, 0, [0], 0, 0),
  (14, .getfield 18, 17, 406, [0, 5, 0], 0, 0),
  (17, .getfield 22, 20, 177, [1, 2, 1], 0, 0),
  (20, .ishl, 21, 0, [], 0, 0),
  (21, .iconst (1), 22, 0, [], 1, 0),
  (22, .isub, 23, 0, [], 0, 0),
  (23, .istore_n 3, 24, 0, [3], 0, 0),
  (24, .iconst (0), 25, 0, [], 0, 0),
  (25, .istore 4, 27, 0, [4], 0, 0),
  (27, .aload_n 0, 28, 0, [0], 0, 0),
  (28, .getfield 9, 31, 407, [0, 5, 1], 0, 0),
  (31, .iconst (0), 32, 0, [], 0, 0),
  (32, .iload_n 2, 33, 0, [2], 0, 0),
  (33, .ifCond .eq (8), 36, 0, [41], 0, 0),
  (36, .ldc 28, 38, 1004, [], 1000000, 0),
  (38, .goto (4), 41, 0, [42], 0, 0),
  (41, .iconst (0), 42, 0, [], 0, 0),
  (42, .iastore, 43, 0, [], 0, 0),
  (43, .iconst (0), 44, 0, [], 0, 0),
  (44, .istore 5, 46, 0, [5], 0, 0),
  (46, .iload 5, 48, 0, [5], 0, 0),
  (48, .aload_n 0, 49, 0, [0], 0, 0),
  (49, .getfield 18, 52, 406, [0, 5, 0], 0, 0),
  (52, .getfield 29, 55, 171, [1, 2, 0], 0, 0),
  (55, .if_icmp .ge (88), 58, 0, [143], 0, 0),
  (58, .iload_n 1, 59, 0, [1], 0, 0),
  (59, .iload 5, 61, 0, [5], 0, 0),
  (61, .invokestatic 32, 64, 1005, [906, 2, 0, 809, 139, 810], 0, 0),
  (64, .istore 6, 66, 0, [6], 0, 0),
  (66, .iload 6, 68, 0, [6], 0, 0),
  (68, .ifCond .ne (6), 71, 0, [74], 0, 0),
  (71, .goto (66), 74, 0, [137], 0, 0),
  (74, .aload_n 0, 75, 0, [0], 0, 0),
  (75, .iload 5, 77, 0, [5], 0, 0),
  (77, .iload_n 3, 78, 0, [3], 0, 0),
  (78, .invokevirtual 38, 81, 1006, [803, 3, 0, 5, 1008, 27, 134, 1009], 0, 0),
  (81, .iload 4, 83, 0, [4], 0, 0),
  (83, .iload 6, 85, 0, [6], 0, 0),
  (85, .iadd, 86, 0, [], 0, 0),
  (86, .istore 4, 88, 0, [4], 0, 0),
  (88, .iconst (1), 89, 0, [], 1, 0),
  (89, .istore 7, 91, 0, [7], 0, 0),
  (91, .iload 7, 93, 0, [7], 0, 0),
  (93, .iload_n 3, 94, 0, [3], 0, 0),
  (94, .if_icmp .gt (43), 97, 0, [137], 0, 0),
  (97, .iload 7, 99, 0, [7], 0, 0),
  (99, .sipush (256), 102, 0, [], 256, 0),
  (102, .if_icmp .ge (35), 105, 0, [137], 0, 0),
  (105, .iload 7, 107, 0, [7], 0, 0),
  (107, .invokestatic 42, 110, 1012, [1508, 1, 0, 740, 140, 741], 0, 0),
  (110, .iload 4, 112, 0, [4], 0, 0),
  (112, .if_icmp .ne (19), 115, 0, [131], 0, 0),
  (115, .aload_n 0, 116, 0, [0], 0, 0)]
def pt_q802_1 : List pm_Q := [(116, .getfield 9, 119, 407, [0, 5, 1], 0, 0),
  (119, .iload 7, 121, 0, [7], 0, 0),
  (121, .aload_n 0, 122, 0, [0], 0, 0),
  (122, .iload 7, 124, 0, [7], 0, 0),
  (124, .iload 6, 126, 0, [6], 0, 0),
  (126, .iload_n 2, 127, 0, [2], 0, 0),
  (127, .invokevirtual 48, 130, 1013, [804, 4, 0, 5, 1015, 28, 134, 1016], 0, 0),
  (130, .iastore, 131, 0, [], 0, 0),
  (131, .iinc 7 (1), 134, 0, [7], 1, 0),
  (134, .goto (-43), 137, 0, [91], 0, 0),
  (137, .iinc 5 (1), 140, 0, [5], 1, 0),
  (140, .goto (-94), 143, 0, [46, 6, 7], 0, 0),
  (143, .aload_n 0, 144, 0, [0], 0, 0),
  (144, .getfield 9, 147, 407, [0, 5, 1], 0, 0),
  (147, .iload_n 3, 148, 0, [3], 0, 0),
  (148, .sipush (255), 151, 0, [], 255, 0),
  (151, .iand, 152, 0, [], 0, 0),
  (152, .iaload, 153, 0, [], 0, 0),
  (153, .ireturn, 154, 0, [], 0, 0)]
def pt_m802 : pm_Me := (⟨"TurnCabinet$Shares", "greatest", "(IZ)I"⟩, prog_8_method_2_code, 8, some .int, 2, 49, pt_q802_0 ++ pt_q802_1)
-- TurnCabinet$Shares.sumWorths(II)V
def pt_q803_0 : List pm_Q := [(0, .aload_n 0, 1, 0, [0], 0, 0),
  (1, .getfield 15, 4, 408, [0, 5, 2], 0, 0),
  (4, .iconst (0), 5, 0, [], 0, 0),
  (5, .iconst (0), 6, 0, [], 0, 0),
  (6, .iastore, 7, 0, [], 0, 0),
  (7, .iconst (1), 8, 0, [], 1, 0),
  (8, .istore_n 3, 9, 0, [3], 0, 0),
  (9, .iload_n 3, 10, 0, [3], 0, 0),
  (10, .iload_n 2, 11, 0, [2], 0, 0),
  (11, .if_icmp .gt (49), 14, 0, [60], 0, 0),
  (14, .iload_n 3, 15, 0, [3], 0, 0),
  (15, .sipush (256), 18, 0, [], 256, 0),
  (18, .if_icmp .ge (42), 21, 0, [60], 0, 0),
  (21, .iload_n 3, 22, 0, [3], 0, 0),
  (22, .invokestatic 52, 25, 1010, [1509, 1, 0, 845, 140, 846], 0, 0),
  (25, .istore 4, 27, 0, [4], 0, 0),
  (27, .aload_n 0, 28, 0, [0], 0, 0),
  (28, .getfield 15, 31, 408, [0, 5, 2], 0, 0),
  (31, .iload_n 3, 32, 0, [3], 0, 0),
  (32, .aload_n 0, 33, 0, [0], 0, 0),
  (33, .getfield 15, 36, 408, [0, 5, 2], 0, 0),
  (36, .iload_n 3, 37, 0, [3], 0, 0),
  (37, .iload_n 3, 38, 0, [3], 0, 0),
  (38, .iconst (1), 39, 0, [], 1, 0),
  (39, .isub, 40, 0, [], 0, 0),
  (40, .iand, 41, 0, [], 0, 0),
  (41, .iaload, 42, 0, [], 0, 0),
  (42, .aload_n 0, 43, 0, [0], 0, 0),
  (43, .getfield 18, 46, 406, [0, 5, 0], 0, 0),
  (46, .iload_n 1, 47, 0, [1], 0, 0),
  (47, .iload 4, 49, 0, [4], 0, 0),
  (49, .invokevirtual 55, 52, 1011, [512, 3, 0, 2, 758, 759, 127, 760], 0, 0),
  (52, .iadd, 53, 0, [], 0, 0),
  (53, .iastore, 54, 0, [], 0, 0),
  (54, .iinc 3 (1), 57, 0, [3], 1, 0),
  (57, .goto (-48), 60, 0, [9, 4], 0, 0),
  (60, .return_, 61, 0, [], 0, 0)]
def pt_m803 : pm_Me := (⟨"TurnCabinet$Shares", "sumWorths", "(II)V"⟩, prog_8_method_3_code, 5, none, 1, 22, pt_q803_0)
-- TurnCabinet$Shares.bestWith(IIZ)I
def pt_q804_0 : List pm_Q := [(0, .iconst (0), 1, 0, [], 0, 0),
  (1, .istore 4, 3, 0, [4], 0, 0),
  (3, .iload_n 1, 4, 0, [1], 0, 0),
  (4, .istore 5, 6, 0, [5], 0, 0),
  (6, .iconst (0), 7, 0, [], 0, 0),
  (7, .istore 6, 9, 0, [6], 0, 0),
  (9, .iload 6, 11, 0, [6], 0, 0),
  (11, .sipush (256), 14, 0, [], 256, 0),
  (14, .if_icmp .ge (87), 17, 0, [101], 0, 0),
  (17, .iload 5, 19, 0, [5], 0, 0),
  (19, .ifCond .le (82), 22, 0, [101], 0, 0),
  (22, .iload 5, 24, 0, [5], 0, 0),
  (24, .invokestatic 42, 27, 1012, [1508, 1, 0, 740, 140, 741], 0, 0),
  (27, .iload_n 2, 28, 0, [2], 0, 0),
  (28, .if_icmp .ne (59), 31, 0, [87], 0, 0),
  (31, .aload_n 0, 32, 0, [0], 0, 0),
  (32, .getfield 9, 35, 407, [0, 5, 1], 0, 0),
  (35, .iload_n 1, 36, 0, [1], 0, 0),
  (36, .iload 5, 38, 0, [5], 0, 0),
  (38, .iconst (-1), 39, 0, [], -1, 0),
  (39, .ixor, 40, 0, [], 0, 0),
  (40, .iand, 41, 0, [], 0, 0),
  (41, .sipush (255), 44, 0, [], 255, 0),
  (44, .iand, 45, 0, [], 0, 0),
  (45, .iaload, 46, 0, [], 0, 0),
  (46, .istore 7, 48, 0, [7], 0, 0),
  (48, .aload_n 0, 49, 0, [0], 0, 0),
  (49, .getfield 15, 52, 408, [0, 5, 2], 0, 0),
  (52, .iload 5, 54, 0, [5], 0, 0),
  (54, .sipush (255), 57, 0, [], 255, 0),
  (57, .iand, 58, 0, [], 0, 0),
  (58, .iaload, 59, 0, [], 0, 0),
  (59, .istore 8, 61, 0, [8], 0, 0),
  (61, .iload 4, 63, 0, [4], 0, 0),
  (63, .iload_n 3, 64, 0, [3], 0, 0),
  (64, .ifCond .eq (13), 67, 0, [77], 0, 0),
  (67, .iload 7, 69, 0, [7], 0, 0),
  (69, .iload 8, 71, 0, [8], 0, 0),
  (71, .invokestatic 58, 74, 1017, [1511, 2, 0, 1018, 141, 1019], 0, 0),
  (74, .goto (8), 77, 0, [82], 0, 0),
  (77, .iload 7, 79, 0, [7], 0, 0),
  (79, .iload 8, 81, 0, [8], 0, 0),
  (81, .iadd, 82, 0, [], 0, 0),
  (82, .invokestatic 63, 85, 1020, [1512, 2, 0, 1021, 141, 1022], 0, 0),
  (85, .istore 4, 87, 0, [4], 0, 0),
  (87, .iload 5, 89, 0, [5], 0, 0),
  (89, .iconst (1), 90, 0, [], 1, 0),
  (90, .isub, 91, 0, [], 0, 0),
  (91, .iload_n 1, 92, 0, [1], 0, 0),
  (92, .iand, 93, 0, [], 0, 0),
  (93, .istore 5, 95, 0, [5], 0, 0),
  (95, .iinc 6 (1), 98, 0, [6], 1, 0),
  (98, .goto (-89), 101, 0, [9, 7, 8], 0, 0),
  (101, .iload 4, 103, 0, [4], 0, 0),
  (103, .ireturn, 104, 0, [], 0, 0)]
def pt_m804 : pm_Me := (⟨"TurnCabinet$Shares", "bestWith", "(IIZ)I"⟩, prog_8_method_4_code, 9, some .int, 1, 21, pt_q804_0)
-- java/lang/Math.min(II)I
def pt_q1511_0 : List pm_Q := [(0, .iload_n 0, 1, 0, [0], 0, 0),
  (1, .iload_n 1, 2, 0, [1], 0, 0),
  (2, .if_icmp .gt (7), 5, 0, [9], 0, 0),
  (5, .iload_n 0, 6, 0, [0], 0, 0),
  (6, .goto (4), 9, 0, [10], 0, 0),
  (9, .iload_n 1, 10, 0, [1], 0, 0),
  (10, .ireturn, 11, 0, [], 0, 0)]
def pt_m1511 : pm_Me := (⟨"java/lang/Math", "min", "(II)I"⟩, prog_14_method_69_code, 2, some .int, 0, 0, pt_q1511_0)
-- java/lang/Math.max(II)I
def pt_q1512_0 : List pm_Q := [(0, .iload_n 0, 1, 0, [0], 0, 0),
  (1, .iload_n 1, 2, 0, [1], 0, 0),
  (2, .if_icmp .lt (7), 5, 0, [9], 0, 0),
  (5, .iload_n 0, 6, 0, [0], 0, 0),
  (6, .goto (4), 9, 0, [10], 0, 0),
  (9, .iload_n 1, 10, 0, [1], 0, 0),
  (10, .ireturn, 11, 0, [], 0, 0)]
def pt_m1512 : pm_Me := (⟨"java/lang/Math", "max", "(II)I"⟩, prog_14_method_65_code, 2, some .int, 0, 0, pt_q1512_0)
-- TurnCabinet.kind(I)I
def pt_q121_0 : List pm_Q := [(0, .aload_n 0, 1, 0, [0], 0, 0),
  (1, .getfield 19, 4, 537, [0, 0, 1], 0, 0),
  (4, .iload_n 1, 5, 0, [1], 0, 0),
  (5, .invokevirtual 174, 8, 793, [506, 2, 0, 2, 794, 795, 127, 796], 0, 0),
  (8, .ifCond .ne (5), 11, 0, [13], 0, 0),
  (11, .iconst (-1), 12, 0, [], -1, 0),
  (12, .ireturn, 13, 0, [], 0, 0),
  (13, .aload_n 0, 14, 0, [0], 0, 0),
  (14, .getfield 53, 17, 541, [0, 0, 5], 0, 0),
  (17, .invokevirtual 237, 20, 1027, [304, 1, 0, 6, 1028, 1029, 135, 1030], 0, 0),
  (20, .aload_n 0, 21, 0, [0], 0, 0),
  (21, .getfield 53, 24, 541, [0, 0, 5], 0, 0),
  (24, .iload_n 1, 25, 0, [1], 0, 0),
  (25, .invokevirtual 240, 28, 1039, [313, 2, 0, 6, 1040, 1041, 135, 1042], 0, 0),
  (28, .ireturn, 29, 0, [], 0, 0)]
def pt_m121 : pm_Me := (⟨"TurnCabinet", "kind", "(I)I"⟩, prog_1_method_21_code, 2, some .int, 6, 149, pt_q121_0)
-- TurnCabinet$Coalitions.learnThoseThatCan()V
def pt_q304_0 : List pm_Q := [(0, .aload_n 0, 1, 0, [0], 0, 0),
  (1, .invokevirtual 91, 4, 834, [302, 1, 0, 6, 835, 836, 135, 837], 0, 0),
  (4, .iconst (1), 5, 0, [], 1, 0),
  (5, .istore_n 1, 6, 0, [1], 0, 0),
  (6, .iload_n 1, 7, 0, [1], 0, 0),
  (7, .aload_n 0, 8, 0, [0], 0, 0),
  (8, .getfield 50, 11, 422, [0, 6, 0], 0, 0),
  (11, .invokevirtual 76, 14, 843, [507, 1, 0, 2, 770, 771, 127, 772], 0, 0),
  (14, .if_icmp .gt (22), 17, 0, [36], 0, 0),
  (17, .aload_n 0, 18, 0, [0], 0, 0),
  (18, .iload_n 1, 19, 0, [1], 0, 0),
  (19, .invokevirtual 94, 22, 1031, [310, 2, 0, 6, 1032, 1033, 135, 1034], 0, 0),
  (22, .ifCond .eq (8), 25, 0, [30], 0, 0),
  (25, .aload_n 0, 26, 0, [0], 0, 0),
  (26, .iload_n 1, 27, 0, [1], 0, 0),
  (27, .invokevirtual 98, 30, 830, [305, 2, 0, 6, 831, 832, 135, 833], 0, 0),
  (30, .iinc 1 (1), 33, 0, [1], 1, 0),
  (33, .goto (-27), 36, 0, [6], 0, 0),
  (36, .return_, 37, 0, [], 0, 0)]
def pt_m304 : pm_Me := (⟨"TurnCabinet$Coalitions", "learnThoseThatCan", "()V"⟩, prog_3_method_4_code, 2, none, 5, 128, pt_q304_0)
-- TurnCabinet$Coalitions.canBe(I)Z
def pt_q310_0 : List pm_Q := [(0, .aload_n 0, 1, 0, [0], 0, 0),
  (1, .iload_n 1, 2, 0, [1], 0, 0),
  (2, .invokevirtual 149, 5, 1035, [309, 2, 0, 6, 1037, 29, 135, 1038], 0, 0),
  (5, .ifCond .eq (19), 8, 0, [24], 0, 0),
  (8, .aload_n 0, 9, 0, [0], 0, 0),
  (9, .getfield 15, 12, 425, [0, 6, 3], 0, 0),
  (12, .iload_n 1, 13, 0, [1], 0, 0),
  (13, .bipush (127), 15, 0, [], 127, 0),
  (15, .iand, 16, 0, [], 0, 0),
  (16, .baload, 17, 0, [], 0, 0),
  (17, .ifCond .eq (7), 20, 0, [24], 0, 0),
  (20, .iconst (1), 21, 0, [], 1, 0),
  (21, .goto (4), 24, 0, [25], 0, 0),
  (24, .iconst (0), 25, 0, [], 0, 0),
  (25, .ireturn, 26, 0, [], 0, 0)]
def pt_m310 : pm_Me := (⟨"TurnCabinet$Coalitions", "canBe", "(I)Z"⟩, prog_3_method_10_code, 2, some .boolean, 1, 21, pt_q310_0)
-- TurnCabinet$Coalitions.leads(I)Z
def pt_q309_0 : List pm_Q := [(0, .aload_n 0, 1, 0, [0], 0, 0),
  (1, .getfield 9, 4, 424, [0, 6, 2], 0, 0),
  (4, .iload_n 1, 5, 0, [1], 0, 0),
  (5, .bipush (127), 7, 0, [], 127, 0),
  (7, .iand, 8, 0, [], 0, 0),
  (8, .iaload, 9, 0, [], 0, 0),
  (9, .aload_n 0, 10, 0, [0], 0, 0),
  (10, .getfield 73, 13, 434, [0, 6, 12], 0, 0),
  (13, .if_icmp .lt (7), 16, 0, [20], 0, 0),
  (16, .iconst (1), 17, 0, [], 1, 0),
  (17, .goto (4), 20, 0, [21], 0, 0),
  (20, .iconst (0), 21, 0, [], 0, 0),
  (21, .ireturn, 22, 0, [], 0, 0)]
def pt_m309 : pm_Me := (⟨"TurnCabinet$Coalitions", "leads", "(I)Z"⟩, prog_3_method_9_code, 2, some .boolean, 0, 0, pt_q309_0)
-- TurnCabinet$Coalitions.kindOf(I)I
def pt_q313_0 : List pm_Q := [(0, .iconst (0), 1, 0, [], 0, 0),
  (1, .istore_n 2, 2, 0, [2], 0, 0),
  (2, .aload_n 0, 3, 0, [0], 0, 0),
  (3, .iload_n 1, 4, 0, [1], 0, 0),
  (4, .invokevirtual 149, 7, 1035, [309, 2, 0, 6, 1037, 29, 135, 1038], 0, 0),
  (7, .ifCond .eq (7), 10, 0, [14], 0, 0),
  (10, .iload_n 2, 11, 0, [2], 0, 0),
  (11, .iconst (1), 12, 0, [], 1, 0),
  (12, .ior, 13, 0, [], 0, 0),
  (13, .istore_n 2, 14, 0, [2], 0, 0),
  (14, .aload_n 0, 15, 0, [0], 0, 0),
  (15, .getfield 15, 18, 425, [0, 6, 3], 0, 0),
  (18, .iload_n 1, 19, 0, [1], 0, 0),
  (19, .bipush (127), 21, 0, [], 127, 0),
  (21, .iand, 22, 0, [], 0, 0),
  (22, .baload, 23, 0, [], 0, 0),
  (23, .ifCond .eq (7), 26, 0, [30], 0, 0),
  (26, .iload_n 2, 27, 0, [2], 0, 0),
  (27, .iconst (2), 28, 0, [], 2, 0),
  (28, .ior, 29, 0, [], 0, 0),
  (29, .istore_n 2, 30, 0, [2], 0, 0),
  (30, .aload_n 0, 31, 0, [0], 0, 0),
  (31, .iload_n 1, 32, 0, [1], 0, 0),
  (32, .invokevirtual 155, 35, 1043, [312, 2, 0, 6, 1045, 30, 135, 1046], 0, 0),
  (35, .ifCond .eq (7), 38, 0, [42], 0, 0),
  (38, .iload_n 2, 39, 0, [2], 0, 0),
  (39, .iconst (4), 40, 0, [], 4, 0),
  (40, .ior, 41, 0, [], 0, 0),
  (41, .istore_n 2, 42, 0, [2], 0, 0),
  (42, .aload_n 0, 43, 0, [0], 0, 0),
  (43, .getfield 50, 46, 422, [0, 6, 0], 0, 0),
  (46, .iload_n 1, 47, 0, [1], 0, 0),
  (47, .invokevirtual 158, 50, 1051, [529, 2, 0, 2, 1052, 1053, 127, 1054], 0, 0),
  (50, .ifCond .eq (8), 53, 0, [58], 0, 0),
  (53, .iload_n 2, 54, 0, [2], 0, 0),
  (54, .bipush (8), 56, 0, [], 8, 0),
  (56, .ior, 57, 0, [], 0, 0),
  (57, .istore_n 2, 58, 0, [2], 0, 0),
  (58, .aload_n 0, 59, 0, [0], 0, 0),
  (59, .iload_n 1, 60, 0, [1], 0, 0),
  (60, .invokevirtual 94, 63, 1031, [310, 2, 0, 6, 1032, 1033, 135, 1034], 0, 0),
  (63, .ifCond .eq (16), 66, 0, [79], 0, 0),
  (66, .aload_n 0, 67, 0, [0], 0, 0),
  (67, .iload_n 1, 68, 0, [1], 0, 0),
  (68, .invokevirtual 161, 71, 1065, [316, 2, 0, 6, 1066, 1067, 135, 1068], 0, 0),
  (71, .ifCond .ne (8), 74, 0, [79], 0, 0),
  (74, .iload_n 2, 75, 0, [2], 0, 0),
  (75, .bipush (16), 77, 0, [], 16, 0),
  (77, .ior, 78, 0, [], 0, 0),
  (78, .istore_n 2, 79, 0, [2], 0, 0),
  (79, .iload_n 2, 80, 0, [2], 0, 0),
  (80, .ireturn, 81, 0, [], 0, 0)]
def pt_m313 : pm_Me := (⟨"TurnCabinet$Coalitions", "kindOf", "(I)I"⟩, prog_3_method_13_code, 3, some .int, 4, 89, pt_q313_0)
-- TurnCabinet$Coalitions.isMinimal(I)Z
def pt_q312_0 : List pm_Q := [(0, .aload_n 0, 1, 0, [0], 0, 0),
  (1, .iload_n 1, 2, 0, [1], 0, 0),
  (2, .invokevirtual 149, 5, 1035, [309, 2, 0, 6, 1037, 29, 135, 1038], 0, 0),
  (5, .ifCond .ne (5), 8, 0, [10], 0, 0),
  (8, .iconst (0), 9, 0, [], 0, 0),
  (9, .ireturn, 10, 0, [], 0, 0),
  (10, .iconst (0), 11, 0, [], 0, 0),
  (11, .istore_n 2, 12, 0, [2], 0, 0),
  (12, .iload_n 2, 13, 0, [2], 0, 0),
  (13, .aload_n 0, 14, 0, [0], 0, 0),
  (14, .getfield 50, 17, 422, [0, 6, 0], 0, 0),
  (17, .getfield 108, 20, 174, [1, 2, 0], 0, 0),
  (20, .if_icmp .ge (28), 23, 0, [48], 0, 0),
  (23, .iload_n 2, 24, 0, [2], 0, 0),
  (24, .iload_n 1, 25, 0, [1], 0, 0),
  (25, .invokestatic 111, 28, 889, [151, 2, 1, 639, 125, 640], 0, 0),
  (28, .ifCond .eq (14), 31, 0, [42], 0, 0),
  (31, .aload_n 0, 32, 0, [0], 0, 0),
  (32, .iload_n 1, 33, 0, [1], 0, 0),
  (33, .iload_n 2, 34, 0, [2], 0, 0),
  (34, .invokevirtual 152, 37, 1047, [311, 3, 0, 6, 1049, 31, 135, 1050], 0, 0),
  (37, .ifCond .eq (5), 40, 0, [42], 0, 0),
  (40, .iconst (0), 41, 0, [], 0, 0),
  (41, .ireturn, 42, 0, [], 0, 0),
  (42, .iinc 2 (1), 45, 0, [2], 1, 0),
  (45, .goto (-33), 48, 0, [12], 0, 0),
  (48, .iconst (1), 49, 0, [], 1, 0),
  (49, .ireturn, 50, 0, [], 0, 0)]
def pt_m312 : pm_Me := (⟨"TurnCabinet$Coalitions", "isMinimal", "(I)Z"⟩, prog_3_method_12_code, 3, some .boolean, 2, 43, pt_q312_0)
-- TurnCabinet$Coalitions.leadsWithout(II)Z
def pt_q311_0 : List pm_Q := [(0, .aload_n 0, 1, 0, [0], 0, 0),
  (1, .iload_n 1, 2, 0, [1], 0, 0),
  (2, .iconst (1), 3, 0, [], 1, 0),
  (3, .iload_n 2, 4, 0, [2], 0, 0),
  (4, .ishl, 5, 0, [], 0, 0),
  (5, .iconst (-1), 6, 0, [], -1, 0),
  (6, .ixor, 7, 0, [], 0, 0),
  (7, .iand, 8, 0, [], 0, 0),
  (8, .invokevirtual 149, 11, 1035, [309, 2, 0, 6, 1037, 29, 135, 1038], 0, 0),
  (11, .ireturn, 12, 0, [], 0, 0)]
def pt_m311 : pm_Me := (⟨"TurnCabinet$Coalitions", "leadsWithout", "(II)Z"⟩, prog_3_method_11_code, 3, some .boolean, 1, 21, pt_q311_0)
-- TurnCabinet$House.isConnected(I)Z
def pt_q529_0 : List pm_Q := [(0, .aload_n 0, 1, 0, [0], 0, 0),
  (1, .iload_n 1, 2, 0, [1], 0, 0),
  (2, .invokevirtual 112, 5, 1055, [527, 2, 0, 2, 1056, 1057, 127, 1058], 0, 0),
  (5, .istore_n 2, 6, 0, [2], 0, 0),
  (6, .aload_n 0, 7, 0, [0], 0, 0),
  (7, .iload_n 1, 8, 0, [1], 0, 0),
  (8, .invokevirtual 115, 11, 1060, [528, 2, 0, 2, 1061, 1062, 127, 1063], 0, 0),
  (11, .istore_n 3, 12, 0, [3], 0, 0),
  (12, .iconst (0), 13, 0, [], 0, 0),
  (13, .istore 4, 15, 0, [4], 0, 0),
  (15, .iload 4, 17, 0, [4], 0, 0),
  (17, .aload_n 0, 18, 0, [0], 0, 0),
  (18, .getfield 40, 21, 170, [0, 2, 0], 0, 0),
  (21, .if_icmp .ge (40), 24, 0, [61], 0, 0),
  (24, .iload 4, 26, 0, [4], 0, 0),
  (26, .iload_n 1, 27, 0, [1], 0, 0),
  (27, .invokestatic 65, 30, 777, [151, 2, 1, 639, 125, 640], 0, 0),
  (30, .ifCond .ne (25), 33, 0, [55], 0, 0),
  (33, .aload_n 0, 34, 0, [0], 0, 0),
  (34, .iload 4, 36, 0, [4], 0, 0),
  (36, .invokevirtual 88, 39, 888, [509, 2, 0, 2, 718, 719, 127, 720], 0, 0),
  (39, .iload_n 2, 40, 0, [2], 0, 0),
  (40, .if_icmp .le (15), 43, 0, [55], 0, 0),
  (43, .aload_n 0, 44, 0, [0], 0, 0),
  (44, .iload 4, 46, 0, [4], 0, 0),
  (46, .invokevirtual 88, 49, 888, [509, 2, 0, 2, 718, 719, 127, 720], 0, 0),
  (49, .iload_n 3, 50, 0, [3], 0, 0),
  (50, .if_icmp .ge (5), 53, 0, [55], 0, 0),
  (53, .iconst (0), 54, 0, [], 0, 0),
  (54, .ireturn, 55, 0, [], 0, 0),
  (55, .iinc 4 (1), 58, 0, [4], 1, 0),
  (58, .goto (-43), 61, 0, [15], 0, 0),
  (61, .iconst (1), 62, 0, [], 1, 0),
  (62, .ireturn, 63, 0, [], 0, 0)]
def pt_m529 : pm_Me := (⟨"TurnCabinet$House", "isConnected", "(I)Z"⟩, prog_5_method_29_code, 5, some .boolean, 2, 44, pt_q529_0)
-- TurnCabinet$House.leastPlace(I)I
def pt_q527_0 : List pm_Q := [(0, .sipush (999), 3, 0, [], 999, 0),
  (3, .istore_n 2, 4, 0, [2], 0, 0),
  (4, .iconst (0), 5, 0, [], 0, 0),
  (5, .istore_n 3, 6, 0, [3], 0, 0),
  (6, .iload_n 3, 7, 0, [3], 0, 0),
  (7, .aload_n 0, 8, 0, [0], 0, 0),
  (8, .getfield 40, 11, 170, [0, 2, 0], 0, 0),
  (11, .if_icmp .ge (27), 14, 0, [38], 0, 0),
  (14, .iload_n 3, 15, 0, [3], 0, 0),
  (15, .iload_n 1, 16, 0, [1], 0, 0),
  (16, .invokestatic 65, 19, 777, [151, 2, 1, 639, 125, 640], 0, 0),
  (19, .ifCond .eq (13), 22, 0, [32], 0, 0),
  (22, .iload_n 2, 23, 0, [2], 0, 0),
  (23, .aload_n 0, 24, 0, [0], 0, 0),
  (24, .iload_n 3, 25, 0, [3], 0, 0),
  (25, .invokevirtual 88, 28, 888, [509, 2, 0, 2, 718, 719, 127, 720], 0, 0),
  (28, .invokestatic 109, 31, 1059, [1511, 2, 0, 1018, 141, 1019], 0, 0),
  (31, .istore_n 2, 32, 0, [2], 0, 0),
  (32, .iinc 3 (1), 35, 0, [3], 1, 0),
  (35, .goto (-29), 38, 0, [6], 0, 0),
  (38, .iload_n 2, 39, 0, [2], 0, 0),
  (39, .ireturn, 40, 0, [], 0, 0)]
def pt_m527 : pm_Me := (⟨"TurnCabinet$House", "leastPlace", "(I)I"⟩, prog_5_method_27_code, 4, some .int, 1, 21, pt_q527_0)
-- TurnCabinet$House.greatestPlace(I)I
def pt_q528_0 : List pm_Q := [(0, .iconst (-1), 1, 0, [], -1, 0),
  (1, .istore_n 2, 2, 0, [2], 0, 0),
  (2, .iconst (0), 3, 0, [], 0, 0),
  (3, .istore_n 3, 4, 0, [3], 0, 0),
  (4, .iload_n 3, 5, 0, [3], 0, 0),
  (5, .aload_n 0, 6, 0, [0], 0, 0),
  (6, .getfield 40, 9, 170, [0, 2, 0], 0, 0),
  (9, .if_icmp .ge (27), 12, 0, [36], 0, 0),
  (12, .iload_n 3, 13, 0, [3], 0, 0),
  (13, .iload_n 1, 14, 0, [1], 0, 0),
  (14, .invokestatic 65, 17, 777, [151, 2, 1, 639, 125, 640], 0, 0),
  (17, .ifCond .eq (13), 20, 0, [30], 0, 0),
  (20, .iload_n 2, 21, 0, [2], 0, 0),
  (21, .aload_n 0, 22, 0, [0], 0, 0),
  (22, .iload_n 3, 23, 0, [3], 0, 0),
  (23, .invokevirtual 88, 26, 888, [509, 2, 0, 2, 718, 719, 127, 720], 0, 0),
  (26, .invokestatic 94, 29, 1064, [1512, 2, 0, 1021, 141, 1022], 0, 0),
  (29, .istore_n 2, 30, 0, [2], 0, 0),
  (30, .iinc 3 (1), 33, 0, [3], 1, 0),
  (33, .goto (-29), 36, 0, [4], 0, 0),
  (36, .iload_n 2, 37, 0, [2], 0, 0),
  (37, .ireturn, 38, 0, [], 0, 0)]
def pt_m528 : pm_Me := (⟨"TurnCabinet$House", "greatestPlace", "(I)I"⟩, prog_5_method_28_code, 4, some .int, 1, 21, pt_q528_0)
-- TurnCabinet$Coalitions.rivalOf(I)I
def pt_q316_0 : List pm_Q := [(0, .iload_n 1, 1, 0, [1], 0, 0),
  (1, .bipush (127), 3, 0, [], 127, 0),
  (3, .iand, 4, 0, [], 0, 0),
  (4, .istore_n 2, 5, 0, [2], 0, 0),
  (5, .aload_n 0, 6, 0, [0], 0, 0),
  (6, .getfield 34, 9, 431, [0, 6, 9], 0, 0),
  (9, .iload_n 2, 10, 0, [2], 0, 0),
  (10, .iaload, 11, 0, [], 0, 0),
  (11, .iconst (-1), 12, 0, [], -1, 0),
  (12, .if_icmp .ne (14), 15, 0, [26], 0, 0),
  (15, .aload_n 0, 16, 0, [0], 0, 0),
  (16, .getfield 34, 19, 431, [0, 6, 9], 0, 0),
  (19, .iload_n 2, 20, 0, [2], 0, 0),
  (20, .aload_n 0, 21, 0, [0], 0, 0),
  (21, .iload_n 2, 22, 0, [2], 0, 0),
  (22, .invokevirtual 167, 25, 1069, [317, 2, 0, 6, 1071, 32, 135, 1072], 0, 0),
  (25, .iastore, 26, 0, [], 0, 0),
  (26, .aload_n 0, 27, 0, [0], 0, 0),
  (27, .getfield 34, 30, 431, [0, 6, 9], 0, 0),
  (30, .iload_n 2, 31, 0, [2], 0, 0),
  (31, .iaload, 32, 0, [], 0, 0),
  (32, .ireturn, 33, 0, [], 0, 0)]
def pt_m316 : pm_Me := (⟨"TurnCabinet$Coalitions", "rivalOf", "(I)I"⟩, prog_3_method_16_code, 3, some .int, 3, 67, pt_q316_0)
-- TurnCabinet$Coalitions.firstRival(I)I
def pt_q317_0 : List pm_Q := [(0, .iconst (1), 1, 0, [], 1, 0),
  (1, .istore_n 2, 2, 0, [2], 0, 0),
  (2, .iload_n 2, 3, 0, [2], 0, 0),
  (3, .aload_n 0, 4, 0, [0], 0, 0),
  (4, .getfield 50, 7, 422, [0, 6, 0], 0, 0),
  (7, .invokevirtual 76, 10, 843, [507, 1, 0, 2, 770, 771, 127, 772], 0, 0),
  (10, .if_icmp .gt (33), 13, 0, [43], 0, 0),
  (13, .iload_n 2, 14, 0, [2], 0, 0),
  (14, .iload_n 1, 15, 0, [1], 0, 0),
  (15, .if_icmp .eq (22), 18, 0, [37], 0, 0),
  (18, .aload_n 0, 19, 0, [0], 0, 0),
  (19, .iload_n 2, 20, 0, [2], 0, 0),
  (20, .invokevirtual 94, 23, 1031, [310, 2, 0, 6, 1032, 1033, 135, 1034], 0, 0),
  (23, .ifCond .eq (14), 26, 0, [37], 0, 0),
  (26, .aload_n 0, 27, 0, [0], 0, 0),
  (27, .iload_n 2, 28, 0, [2], 0, 0),
  (28, .iload_n 1, 29, 0, [1], 0, 0),
  (29, .invokevirtual 170, 32, 1073, [318, 3, 0, 6, 1075, 33, 135, 1076], 0, 0),
  (32, .ifCond .eq (5), 35, 0, [37], 0, 0),
  (35, .iload_n 2, 36, 0, [2], 0, 0),
  (36, .ireturn, 37, 0, [], 0, 0),
  (37, .iinc 2 (1), 40, 0, [2], 1, 0),
  (40, .goto (-38), 43, 0, [2], 0, 0),
  (43, .iconst (0), 44, 0, [], 0, 0),
  (44, .ireturn, 45, 0, [], 0, 0)]
def pt_m317 : pm_Me := (⟨"TurnCabinet$Coalitions", "firstRival", "(I)I"⟩, prog_3_method_17_code, 3, some .int, 2, 45, pt_q317_0)
-- TurnCabinet$Coalitions.paysMore(II)Z
def pt_q318_0 : List pm_Q := [(0, .iconst (0), 1, 0, [], 0, 0),
  (1, .istore_n 3, 2, 0, [3], 0, 0),
  (2, .iload_n 3, 3, 0, [3], 0, 0),
  (3, .aload_n 0, 4, 0, [0], 0, 0),
  (4, .getfield 50, 7, 422, [0, 6, 0], 0, 0),
  (7, .getfield 108, 10, 174, [1, 2, 0], 0, 0),
  (10, .if_icmp .ge (34), 13, 0, [44], 0, 0),
  (13, .iload_n 3, 14, 0, [3], 0, 0),
  (14, .iload_n 1, 15, 0, [1], 0, 0),
  (15, .invokestatic 111, 18, 889, [151, 2, 1, 639, 125, 640], 0, 0),
  (18, .ifCond .eq (20), 21, 0, [38], 0, 0),
  (21, .aload_n 0, 22, 0, [0], 0, 0),
  (22, .iload_n 1, 23, 0, [1], 0, 0),
  (23, .iload_n 3, 24, 0, [3], 0, 0),
  (24, .invokevirtual 173, 27, 1077, [308, 3, 0, 6, 970, 971, 135, 972], 0, 0),
  (27, .aload_n 0, 28, 0, [0], 0, 0),
  (28, .iload_n 2, 29, 0, [2], 0, 0),
  (29, .iload_n 3, 30, 0, [3], 0, 0),
  (30, .invokevirtual 173, 33, 1077, [308, 3, 0, 6, 970, 971, 135, 972], 0, 0),
  (33, .if_icmp .gt (5), 36, 0, [38], 0, 0),
  (36, .iconst (0), 37, 0, [], 0, 0),
  (37, .ireturn, 38, 0, [], 0, 0),
  (38, .iinc 3 (1), 41, 0, [3], 1, 0),
  (41, .goto (-39), 44, 0, [2], 0, 0),
  (44, .iconst (1), 45, 0, [], 1, 0),
  (45, .ireturn, 46, 0, [], 0, 0)]
def pt_m318 : pm_Me := (⟨"TurnCabinet$Coalitions", "paysMore", "(II)Z"⟩, prog_3_method_18_code, 4, some .boolean, 1, 22, pt_q318_0)
-- TurnCabinet.many(I)I
def pt_q122_0 : List pm_Q := [(0, .iload_n 1, 1, 0, [1], 0, 0),
  (1, .ifCond .lt (9), 4, 0, [10], 0, 0),
  (4, .iload_n 1, 5, 0, [1], 0, 0),
  (5, .bipush (31), 7, 0, [], 31, 0),
  (7, .if_icmp .le (5), 10, 0, [12], 0, 0),
  (10, .iconst (-1), 11, 0, [], -1, 0),
  (11, .ireturn, 12, 0, [], 0, 0),
  (12, .aload_n 0, 13, 0, [0], 0, 0),
  (13, .getfield 53, 16, 541, [0, 0, 5], 0, 0),
  (16, .invokevirtual 237, 19, 1027, [304, 1, 0, 6, 1028, 1029, 135, 1030], 0, 0),
  (19, .aload_n 0, 20, 0, [0], 0, 0),
  (20, .getfield 53, 23, 541, [0, 0, 5], 0, 0),
  (23, .iload_n 1, 24, 0, [1], 0, 0),
  (24, .invokevirtual 243, 27, 1082, [314, 2, 0, 6, 1083, 1084, 135, 1085], 0, 0),
  (27, .ireturn, 28, 0, [], 0, 0)]
def pt_m122 : pm_Me := (⟨"TurnCabinet", "many", "(I)I"⟩, prog_1_method_22_code, 2, some .int, 6, 149, pt_q122_0)
-- TurnCabinet$Coalitions.countOf(I)I
def pt_q314_0 : List pm_Q := [(0, .iconst (0), 1, 0, [], 0, 0),
  (1, .istore_n 2, 2, 0, [2], 0, 0),
  (2, .iconst (1), 3, 0, [], 1, 0),
  (3, .istore_n 3, 4, 0, [3], 0, 0),
  (4, .iload_n 3, 5, 0, [3], 0, 0),
  (5, .aload_n 0, 6, 0, [0], 0, 0),
  (6, .getfield 50, 9, 422, [0, 6, 0], 0, 0),
  (9, .invokevirtual 76, 12, 843, [507, 1, 0, 2, 770, 771, 127, 772], 0, 0),
  (12, .if_icmp .gt (23), 15, 0, [35], 0, 0),
  (15, .aload_n 0, 16, 0, [0], 0, 0),
  (16, .iload_n 3, 17, 0, [3], 0, 0),
  (17, .invokevirtual 164, 20, 1086, [313, 2, 0, 6, 1040, 1041, 135, 1042], 0, 0),
  (20, .iload_n 1, 21, 0, [1], 0, 0),
  (21, .iand, 22, 0, [], 0, 0),
  (22, .iload_n 1, 23, 0, [1], 0, 0),
  (23, .if_icmp .ne (6), 26, 0, [29], 0, 0),
  (26, .iinc 2 (1), 29, 0, [2], 1, 0),
  (29, .iinc 3 (1), 32, 0, [3], 1, 0),
  (32, .goto (-28), 35, 0, [4], 0, 0),
  (35, .iload_n 2, 36, 0, [2], 0, 0),
  (36, .ireturn, 37, 0, [], 0, 0)]
def pt_m314 : pm_Me := (⟨"TurnCabinet$Coalitions", "countOf", "(I)I"⟩, prog_3_method_14_code, 4, some .int, 5, 111, pt_q314_0)
-- TurnCabinet.nth(II)I
def pt_q123_0 : List pm_Q := [(0, .iload_n 1, 1, 0, [1], 0, 0),
  (1, .ifCond .lt (13), 4, 0, [14], 0, 0),
  (4, .iload_n 1, 5, 0, [1], 0, 0),
  (5, .bipush (31), 7, 0, [], 31, 0),
  (7, .if_icmp .gt (7), 10, 0, [14], 0, 0),
  (10, .iload_n 2, 11, 0, [2], 0, 0),
  (11, .ifCond .ge (5), 14, 0, [16], 0, 0),
  (14, .iconst (-1), 15, 0, [], -1, 0),
  (15, .ireturn, 16, 0, [], 0, 0),
  (16, .aload_n 0, 17, 0, [0], 0, 0),
  (17, .getfield 53, 20, 541, [0, 0, 5], 0, 0),
  (20, .invokevirtual 237, 23, 1027, [304, 1, 0, 6, 1028, 1029, 135, 1030], 0, 0),
  (23, .aload_n 0, 24, 0, [0], 0, 0),
  (24, .getfield 53, 27, 541, [0, 0, 5], 0, 0),
  (27, .iload_n 1, 28, 0, [1], 0, 0),
  (28, .iload_n 2, 29, 0, [2], 0, 0),
  (29, .invokevirtual 246, 32, 1091, [315, 3, 0, 6, 1092, 1093, 135, 1094], 0, 0),
  (32, .ireturn, 33, 0, [], 0, 0)]
def pt_m123 : pm_Me := (⟨"TurnCabinet", "nth", "(II)I"⟩, prog_1_method_23_code, 3, some .int, 6, 149, pt_q123_0)
-- TurnCabinet$Coalitions.findOf(II)I
def pt_q315_0 : List pm_Q := [(0, .iconst (0), 1, 0, [], 0, 0),
  (1, .istore_n 3, 2, 0, [3], 0, 0),
  (2, .iconst (1), 3, 0, [], 1, 0),
  (3, .istore 4, 5, 0, [4], 0, 0),
  (5, .iload 4, 7, 0, [4], 0, 0),
  (7, .aload_n 0, 8, 0, [0], 0, 0),
  (8, .getfield 50, 11, 422, [0, 6, 0], 0, 0),
  (11, .invokevirtual 76, 14, 843, [507, 1, 0, 2, 770, 771, 127, 772], 0, 0),
  (14, .if_icmp .gt (35), 17, 0, [49], 0, 0),
  (17, .aload_n 0, 18, 0, [0], 0, 0),
  (18, .iload 4, 20, 0, [4], 0, 0),
  (20, .invokevirtual 164, 23, 1086, [313, 2, 0, 6, 1040, 1041, 135, 1042], 0, 0),
  (23, .iload_n 1, 24, 0, [1], 0, 0),
  (24, .iand, 25, 0, [], 0, 0),
  (25, .iload_n 1, 26, 0, [1], 0, 0),
  (26, .if_icmp .eq (6), 29, 0, [32], 0, 0),
  (29, .goto (14), 32, 0, [43], 0, 0),
  (32, .iload_n 3, 33, 0, [3], 0, 0),
  (33, .iload_n 2, 34, 0, [2], 0, 0),
  (34, .if_icmp .ne (6), 37, 0, [40], 0, 0),
  (37, .iload 4, 39, 0, [4], 0, 0),
  (39, .ireturn, 40, 0, [], 0, 0),
  (40, .iinc 3 (1), 43, 0, [3], 1, 0),
  (43, .iinc 4 (1), 46, 0, [4], 1, 0),
  (46, .goto (-41), 49, 0, [5], 0, 0),
  (49, .iconst (-1), 50, 0, [], -1, 0),
  (50, .ireturn, 51, 0, [], 0, 0)]
def pt_m315 : pm_Me := (⟨"TurnCabinet$Coalitions", "findOf", "(II)I"⟩, prog_3_method_15_code, 5, some .int, 5, 111, pt_q315_0)
-- TurnCabinet.rival(I)I
def pt_q124_0 : List pm_Q := [(0, .aload_n 0, 1, 0, [0], 0, 0),
  (1, .getfield 19, 4, 537, [0, 0, 1], 0, 0),
  (4, .iload_n 1, 5, 0, [1], 0, 0),
  (5, .invokevirtual 174, 8, 793, [506, 2, 0, 2, 794, 795, 127, 796], 0, 0),
  (8, .ifCond .ne (5), 11, 0, [13], 0, 0),
  (11, .iconst (-1), 12, 0, [], -1, 0),
  (12, .ireturn, 13, 0, [], 0, 0),
  (13, .aload_n 0, 14, 0, [0], 0, 0),
  (14, .getfield 53, 17, 541, [0, 0, 5], 0, 0),
  (17, .iload_n 1, 18, 0, [1], 0, 0),
  (18, .invokevirtual 215, 21, 968, [305, 2, 0, 6, 831, 832, 135, 833], 0, 0),
  (21, .aload_n 0, 22, 0, [0], 0, 0),
  (22, .getfield 53, 25, 541, [0, 0, 5], 0, 0),
  (25, .invokevirtual 237, 28, 1027, [304, 1, 0, 6, 1028, 1029, 135, 1030], 0, 0),
  (28, .aload_n 0, 29, 0, [0], 0, 0),
  (29, .getfield 53, 32, 541, [0, 0, 5], 0, 0),
  (32, .iload_n 1, 33, 0, [1], 0, 0),
  (33, .invokevirtual 249, 36, 1099, [316, 2, 0, 6, 1066, 1067, 135, 1068], 0, 0),
  (36, .ireturn, 37, 0, [], 0, 0)]
def pt_m124 : pm_Me := (⟨"TurnCabinet", "rival", "(I)I"⟩, prog_1_method_24_code, 2, some .int, 6, 149, pt_q124_0)
-- TurnCabinet.beats(II)I
def pt_q125_0 : List pm_Q := [(0, .aload_n 0, 1, 0, [0], 0, 0),
  (1, .getfield 19, 4, 537, [0, 0, 1], 0, 0),
  (4, .iload_n 1, 5, 0, [1], 0, 0),
  (5, .invokevirtual 174, 8, 793, [506, 2, 0, 2, 794, 795, 127, 796], 0, 0),
  (8, .ifCond .eq (14), 11, 0, [22], 0, 0),
  (11, .aload_n 0, 12, 0, [0], 0, 0),
  (12, .getfield 19, 15, 537, [0, 0, 1], 0, 0),
  (15, .iload_n 2, 16, 0, [2], 0, 0),
  (16, .invokevirtual 174, 19, 793, [506, 2, 0, 2, 794, 795, 127, 796], 0, 0),
  (19, .ifCond .ne (5), 22, 0, [24], 0, 0),
  (22, .iconst (-1), 23, 0, [], -1, 0),
  (23, .ireturn, 24, 0, [], 0, 0),
  (24, .aload_n 0, 25, 0, [0], 0, 0),
  (25, .getfield 53, 28, 541, [0, 0, 5], 0, 0),
  (28, .iload_n 1, 29, 0, [1], 0, 0),
  (29, .invokevirtual 215, 32, 968, [305, 2, 0, 6, 831, 832, 135, 833], 0, 0),
  (32, .aload_n 0, 33, 0, [0], 0, 0),
  (33, .getfield 53, 36, 541, [0, 0, 5], 0, 0),
  (36, .iload_n 2, 37, 0, [2], 0, 0),
  (37, .invokevirtual 215, 40, 968, [305, 2, 0, 6, 831, 832, 135, 833], 0, 0),
  (40, .aload_n 0, 41, 0, [0], 0, 0),
  (41, .getfield 53, 44, 541, [0, 0, 5], 0, 0),
  (44, .iload_n 1, 45, 0, [1], 0, 0),
  (45, .iload_n 2, 46, 0, [2], 0, 0),
  (46, .invokevirtual 252, 49, 1104, [321, 3, 0, 6, 1105, 1106, 135, 1107], 0, 0),
  (49, .ifCond .eq (7), 52, 0, [56], 0, 0),
  (52, .iconst (1), 53, 0, [], 1, 0),
  (53, .goto (4), 56, 0, [57], 0, 0),
  (56, .iconst (0), 57, 0, [], 0, 0),
  (57, .ireturn, 58, 0, [], 0, 0)]
def pt_m125 : pm_Me := (⟨"TurnCabinet", "beats", "(II)I"⟩, prog_1_method_25_code, 3, some .int, 5, 128, pt_q125_0)
-- TurnCabinet$Coalitions.isBetter(II)Z
def pt_q321_0 : List pm_Q := [(0, .iconst (0), 1, 0, [], 0, 0),
  (1, .istore_n 3, 2, 0, [3], 0, 0),
  (2, .iconst (0), 3, 0, [], 0, 0),
  (3, .istore 4, 5, 0, [4], 0, 0),
  (5, .iload 4, 7, 0, [4], 0, 0),
  (7, .aload_n 0, 8, 0, [0], 0, 0),
  (8, .getfield 50, 11, 422, [0, 6, 0], 0, 0),
  (11, .getfield 108, 14, 174, [1, 2, 0], 0, 0),
  (14, .if_icmp .ge (61), 17, 0, [75], 0, 0),
  (17, .iload 4, 19, 0, [4], 0, 0),
  (19, .bipush (8), 21, 0, [], 8, 0),
  (21, .if_icmp .ge (54), 24, 0, [75], 0, 0),
  (24, .aload_n 0, 25, 0, [0], 0, 0),
  (25, .getfield 31, 28, 430, [0, 6, 8], 0, 0),
  (28, .bipush (8), 30, 0, [], 8, 0),
  (30, .iload_n 1, 31, 0, [1], 0, 0),
  (31, .bipush (127), 33, 0, [], 127, 0),
  (33, .iand, 34, 0, [], 0, 0),
  (34, .imul, 35, 0, [], 0, 0),
  (35, .iload 4, 37, 0, [4], 0, 0),
  (37, .iadd, 38, 0, [], 0, 0),
  (38, .iaload, 39, 0, [], 0, 0),
  (39, .aload_n 0, 40, 0, [0], 0, 0),
  (40, .getfield 31, 43, 430, [0, 6, 8], 0, 0),
  (43, .bipush (8), 45, 0, [], 8, 0),
  (45, .iload_n 2, 46, 0, [2], 0, 0),
  (46, .bipush (127), 48, 0, [], 127, 0),
  (48, .iand, 49, 0, [], 0, 0),
  (49, .imul, 50, 0, [], 0, 0),
  (50, .iload 4, 52, 0, [4], 0, 0),
  (52, .iadd, 53, 0, [], 0, 0),
  (53, .iaload, 54, 0, [], 0, 0),
  (54, .if_icmp .ge (15), 57, 0, [69], 0, 0),
  (57, .iload_n 3, 58, 0, [3], 0, 0),
  (58, .aload_n 0, 59, 0, [0], 0, 0),
  (59, .getfield 50, 62, 422, [0, 6, 0], 0, 0),
  (62, .iload 4, 64, 0, [4], 0, 0),
  (64, .invokevirtual 85, 67, 848, [508, 2, 0, 2, 714, 715, 127, 716], 0, 0),
  (67, .iadd, 68, 0, [], 0, 0),
  (68, .istore_n 3, 69, 0, [3], 0, 0),
  (69, .iinc 4 (1), 72, 0, [4], 1, 0),
  (72, .goto (-67), 75, 0, [5], 0, 0),
  (75, .iload_n 3, 76, 0, [3], 0, 0),
  (76, .aload_n 0, 77, 0, [0], 0, 0),
  (77, .getfield 73, 80, 434, [0, 6, 12], 0, 0),
  (80, .if_icmp .lt (7), 83, 0, [87], 0, 0),
  (83, .iconst (1), 84, 0, [], 1, 0),
  (84, .goto (4), 87, 0, [88], 0, 0),
  (87, .iconst (0), 88, 0, [], 0, 0),
  (88, .ireturn, 89, 0, [], 0, 0)]
def pt_m321 : pm_Me := (⟨"TurnCabinet$Coalitions", "isBetter", "(II)Z"⟩, prog_3_method_21_code, 5, some .boolean, 1, 21, pt_q321_0)
-- TurnCabinet.unbeaten(I)I
def pt_q126_0 : List pm_Q := [(0, .iload_n 1, 1, 0, [1], 0, 0),
  (1, .iconst (-1), 2, 0, [], -1, 0),
  (2, .if_icmp .ge (5), 5, 0, [7], 0, 0),
  (5, .iconst (-1), 6, 0, [], -1, 0),
  (6, .ireturn, 7, 0, [], 0, 0),
  (7, .aload_n 0, 8, 0, [0], 0, 0),
  (8, .getfield 53, 11, 541, [0, 0, 5], 0, 0),
  (11, .invokevirtual 237, 14, 1027, [304, 1, 0, 6, 1028, 1029, 135, 1030], 0, 0),
  (14, .iload_n 1, 15, 0, [1], 0, 0),
  (15, .iconst (-1), 16, 0, [], -1, 0),
  (16, .if_icmp .ne (13), 19, 0, [29], 0, 0),
  (19, .aload_n 0, 20, 0, [0], 0, 0),
  (20, .getfield 53, 23, 541, [0, 0, 5], 0, 0),
  (23, .invokevirtual 255, 26, 1112, [324, 1, 0, 6, 1113, 1114, 135, 1115], 0, 0),
  (26, .goto (11), 29, 0, [37], 0, 0),
  (29, .aload_n 0, 30, 0, [0], 0, 0),
  (30, .getfield 53, 33, 541, [0, 0, 5], 0, 0),
  (33, .iload_n 1, 34, 0, [1], 0, 0),
  (34, .invokevirtual 258, 37, 1125, [325, 2, 0, 6, 1126, 1127, 135, 1128], 0, 0),
  (37, .ireturn, 38, 0, [], 0, 0)]
def pt_m126 : pm_Me := (⟨"TurnCabinet", "unbeaten", "(I)I"⟩, prog_1_method_26_code, 2, some .int, 6, 149, pt_q126_0)
-- TurnCabinet$Coalitions.countUnbeaten()I
def pt_q324_0 : List pm_Q := [(0, .iconst (0), 1, 0, [], 0, 0),
  (1, .istore_n 1, 2, 0, [1], 0, 0),
  (2, .iconst (1), 3, 0, [], 1, 0),
  (3, .istore_n 2, 4, 0, [2], 0, 0),
  (4, .iload_n 2, 5, 0, [2], 0, 0),
  (5, .aload_n 0, 6, 0, [0], 0, 0),
  (6, .getfield 50, 9, 422, [0, 6, 0], 0, 0),
  (9, .invokevirtual 76, 12, 843, [507, 1, 0, 2, 770, 771, 127, 772], 0, 0),
  (12, .if_icmp .gt (20), 15, 0, [32], 0, 0),
  (15, .aload_n 0, 16, 0, [0], 0, 0),
  (16, .iload_n 2, 17, 0, [2], 0, 0),
  (17, .invokevirtual 182, 20, 1116, [322, 2, 0, 6, 1118, 34, 135, 1119], 0, 0),
  (20, .ifCond .eq (6), 23, 0, [26], 0, 0),
  (23, .iinc 1 (1), 26, 0, [1], 1, 0),
  (26, .iinc 2 (1), 29, 0, [2], 1, 0),
  (29, .goto (-25), 32, 0, [4], 0, 0),
  (32, .iload_n 1, 33, 0, [1], 0, 0),
  (33, .ireturn, 34, 0, [], 0, 0)]
def pt_m324 : pm_Me := (⟨"TurnCabinet$Coalitions", "countUnbeaten", "()I"⟩, prog_3_method_24_code, 3, some .int, 4, 89, pt_q324_0)
-- TurnCabinet$Coalitions.isUnbeaten(I)Z
def pt_q322_0 : List pm_Q := [(0, .iload_n 1, 1, 0, [1], 0, 0),
  (1, .bipush (127), 3, 0, [], 127, 0),
  (3, .iand, 4, 0, [], 0, 0),
  (4, .istore_n 2, 5, 0, [2], 0, 0),
  (5, .aload_n 0, 6, 0, [0], 0, 0),
  (6, .getfield 37, 9, 432, [0, 6, 10], 0, 0),
  (9, .iload_n 2, 10, 0, [2], 0, 0),
  (10, .iaload, 11, 0, [], 0, 0),
  (11, .ifCond .ne (30), 14, 0, [41], 0, 0),
  (14, .aload_n 0, 15, 0, [0], 0, 0),
  (15, .getfield 37, 18, 432, [0, 6, 10], 0, 0),
  (18, .iload_n 2, 19, 0, [2], 0, 0),
  (19, .aload_n 0, 20, 0, [0], 0, 0),
  (20, .iload_n 2, 21, 0, [2], 0, 0),
  (21, .invokevirtual 94, 24, 1031, [310, 2, 0, 6, 1032, 1033, 135, 1034], 0, 0),
  (24, .ifCond .eq (15), 27, 0, [39], 0, 0),
  (27, .aload_n 0, 28, 0, [0], 0, 0),
  (28, .iload_n 2, 29, 0, [2], 0, 0),
  (29, .invokevirtual 176, 32, 1120, [323, 2, 0, 6, 1122, 35, 135, 1123], 0, 0),
  (32, .ifCond .ne (7), 35, 0, [39], 0, 0),
  (35, .iconst (2), 36, 0, [], 2, 0),
  (36, .goto (4), 39, 0, [40], 0, 0),
  (39, .iconst (1), 40, 0, [], 1, 0),
  (40, .iastore, 41, 0, [], 0, 0),
  (41, .aload_n 0, 42, 0, [0], 0, 0),
  (42, .getfield 37, 45, 432, [0, 6, 10], 0, 0),
  (45, .iload_n 2, 46, 0, [2], 0, 0),
  (46, .iaload, 47, 0, [], 0, 0),
  (47, .iconst (2), 48, 0, [], 2, 0),
  (48, .if_icmp .ne (7), 51, 0, [55], 0, 0),
  (51, .iconst (1), 52, 0, [], 1, 0),
  (52, .goto (4), 55, 0, [56], 0, 0),
  (55, .iconst (0), 56, 0, [], 0, 0),
  (56, .ireturn, 57, 0, [], 0, 0)]
def pt_m322 : pm_Me := (⟨"TurnCabinet$Coalitions", "isUnbeaten", "(I)Z"⟩, prog_3_method_22_code, 3, some .boolean, 3, 67, pt_q322_0)
-- TurnCabinet$Coalitions.isBeaten(I)Z
def pt_q323_0 : List pm_Q := [(0, .iconst (1), 1, 0, [], 1, 0),
  (1, .istore_n 2, 2, 0, [2], 0, 0),
  (2, .iload_n 2, 3, 0, [2], 0, 0),
  (3, .aload_n 0, 4, 0, [0], 0, 0),
  (4, .getfield 50, 7, 422, [0, 6, 0], 0, 0),
  (7, .invokevirtual 76, 10, 843, [507, 1, 0, 2, 770, 771, 127, 772], 0, 0),
  (10, .if_icmp .gt (28), 13, 0, [38], 0, 0),
  (13, .aload_n 0, 14, 0, [0], 0, 0),
  (14, .iload_n 2, 15, 0, [2], 0, 0),
  (15, .invokevirtual 94, 18, 1031, [310, 2, 0, 6, 1032, 1033, 135, 1034], 0, 0),
  (18, .ifCond .eq (14), 21, 0, [32], 0, 0),
  (21, .aload_n 0, 22, 0, [0], 0, 0),
  (22, .iload_n 2, 23, 0, [2], 0, 0),
  (23, .iload_n 1, 24, 0, [1], 0, 0),
  (24, .invokevirtual 179, 27, 1124, [321, 3, 0, 6, 1105, 1106, 135, 1107], 0, 0),
  (27, .ifCond .eq (5), 30, 0, [32], 0, 0),
  (30, .iconst (1), 31, 0, [], 1, 0),
  (31, .ireturn, 32, 0, [], 0, 0),
  (32, .iinc 2 (1), 35, 0, [2], 1, 0),
  (35, .goto (-33), 38, 0, [2], 0, 0),
  (38, .iconst (0), 39, 0, [], 0, 0),
  (39, .ireturn, 40, 0, [], 0, 0)]
def pt_m323 : pm_Me := (⟨"TurnCabinet$Coalitions", "isBeaten", "(I)Z"⟩, prog_3_method_23_code, 3, some .boolean, 2, 45, pt_q323_0)
-- TurnCabinet$Coalitions.findUnbeaten(I)I
def pt_q325_0 : List pm_Q := [(0, .iconst (0), 1, 0, [], 0, 0),
  (1, .istore_n 2, 2, 0, [2], 0, 0),
  (2, .iconst (1), 3, 0, [], 1, 0),
  (3, .istore_n 3, 4, 0, [3], 0, 0),
  (4, .iload_n 3, 5, 0, [3], 0, 0),
  (5, .aload_n 0, 6, 0, [0], 0, 0),
  (6, .getfield 50, 9, 422, [0, 6, 0], 0, 0),
  (9, .invokevirtual 76, 12, 843, [507, 1, 0, 2, 770, 771, 127, 772], 0, 0),
  (12, .if_icmp .gt (30), 15, 0, [42], 0, 0),
  (15, .aload_n 0, 16, 0, [0], 0, 0),
  (16, .iload_n 3, 17, 0, [3], 0, 0),
  (17, .invokevirtual 182, 20, 1116, [322, 2, 0, 6, 1118, 34, 135, 1119], 0, 0),
  (20, .ifCond .ne (6), 23, 0, [26], 0, 0),
  (23, .goto (13), 26, 0, [36], 0, 0),
  (26, .iload_n 2, 27, 0, [2], 0, 0),
  (27, .iload_n 1, 28, 0, [1], 0, 0),
  (28, .if_icmp .ne (5), 31, 0, [33], 0, 0),
  (31, .iload_n 3, 32, 0, [3], 0, 0),
  (32, .ireturn, 33, 0, [], 0, 0),
  (33, .iinc 2 (1), 36, 0, [2], 1, 0),
  (36, .iinc 3 (1), 39, 0, [3], 1, 0),
  (39, .goto (-35), 42, 0, [4], 0, 0),
  (42, .iconst (-1), 43, 0, [], -1, 0),
  (43, .ireturn, 44, 0, [], 0, 0)]
def pt_m325 : pm_Me := (⟨"TurnCabinet$Coalitions", "findUnbeaten", "(I)I"⟩, prog_3_method_25_code, 4, some .int, 4, 89, pt_q325_0)
-- TurnCabinet.enough(II)I
def pt_q127_0 : List pm_Q := [(0, .aload_n 0, 1, 0, [0], 0, 0),
  (1, .getfield 19, 4, 537, [0, 0, 1], 0, 0),
  (4, .iload_n 1, 5, 0, [1], 0, 0),
  (5, .invokevirtual 174, 8, 793, [506, 2, 0, 2, 794, 795, 127, 796], 0, 0),
  (8, .ifCond .eq (14), 11, 0, [22], 0, 0),
  (11, .aload_n 0, 12, 0, [0], 0, 0),
  (12, .getfield 19, 15, 537, [0, 0, 1], 0, 0),
  (15, .iload_n 2, 16, 0, [2], 0, 0),
  (16, .invokevirtual 113, 19, 709, [504, 2, 0, 2, 710, 711, 127, 712], 0, 0),
  (19, .ifCond .ne (5), 22, 0, [24], 0, 0),
  (22, .iconst (-1), 23, 0, [], -1, 0),
  (23, .ireturn, 24, 0, [], 0, 0),
  (24, .iload_n 2, 25, 0, [2], 0, 0),
  (25, .iload_n 1, 26, 0, [1], 0, 0),
  (26, .invokestatic 195, 29, 939, [151, 2, 0, 639, 125, 640], 0, 0),
  (29, .ifCond .eq (15), 32, 0, [44], 0, 0),
  (32, .aload_n 0, 33, 0, [0], 0, 0),
  (33, .getfield 19, 36, 537, [0, 0, 1], 0, 0),
  (36, .iload_n 1, 37, 0, [1], 0, 0),
  (37, .iload_n 2, 38, 0, [2], 0, 0),
  (38, .invokevirtual 261, 41, 1133, [530, 3, 0, 2, 1134, 1135, 127, 1136], 0, 0),
  (41, .goto (4), 44, 0, [45], 0, 0),
  (44, .iconst (-1), 45, 0, [], -1, 0),
  (45, .ireturn, 46, 0, [], 0, 0)]
def pt_m127 : pm_Me := (⟨"TurnCabinet", "enough", "(II)I"⟩, prog_1_method_27_code, 3, some .int, 3, 69, pt_q127_0)
-- TurnCabinet$House.seatsToLead(II)I
def pt_q530_0 : List pm_Q := [(0, .aload_n 0, 1, 0, [0], 0, 0),
  (1, .iload_n 1, 2, 0, [1], 0, 0),
  (2, .invokevirtual 73, 5, 773, [515, 2, 0, 2, 774, 775, 127, 776], 0, 0),
  (5, .aload_n 0, 6, 0, [0], 0, 0),
  (6, .iload_n 2, 7, 0, [2], 0, 0),
  (7, .invokevirtual 69, 10, 778, [508, 2, 0, 2, 714, 715, 127, 716], 0, 0),
  (10, .isub, 11, 0, [], 0, 0),
  (11, .istore_n 3, 12, 0, [3], 0, 0),
  (12, .aload_n 0, 13, 0, [0], 0, 0),
  (13, .aload_n 0, 14, 0, [0], 0, 0),
  (14, .invokevirtual 61, 17, 769, [507, 1, 0, 2, 770, 771, 127, 772], 0, 0),
  (17, .invokevirtual 73, 20, 773, [515, 2, 0, 2, 774, 775, 127, 776], 0, 0),
  (20, .aload_n 0, 21, 0, [0], 0, 0),
  (21, .iload_n 2, 22, 0, [2], 0, 0),
  (22, .invokevirtual 69, 25, 778, [508, 2, 0, 2, 714, 715, 127, 716], 0, 0),
  (25, .isub, 26, 0, [], 0, 0),
  (26, .istore 4, 28, 0, [4], 0, 0),
  (28, .iconst (1), 29, 0, [], 1, 0),
  (29, .istore 5, 31, 0, [5], 0, 0),
  (31, .iload 5, 33, 0, [5], 0, 0),
  (33, .sipush (999), 36, 0, [], 999, 0),
  (36, .if_icmp .gt (28), 39, 0, [64], 0, 0),
  (39, .iload_n 3, 40, 0, [3], 0, 0),
  (40, .iload 5, 42, 0, [5], 0, 0),
  (42, .iadd, 43, 0, [], 0, 0),
  (43, .aload_n 0, 44, 0, [0], 0, 0),
  (44, .iload 4, 46, 0, [4], 0, 0),
  (46, .iload 5, 48, 0, [5], 0, 0),
  (48, .iadd, 49, 0, [], 0, 0),
  (49, .invokevirtual 76, 52, 779, [516, 2, 0, 2, 780, 781, 127, 782], 0, 0),
  (52, .if_icmp .lt (6), 55, 0, [58], 0, 0),
  (55, .iload 5, 57, 0, [5], 0, 0),
  (57, .ireturn, 58, 0, [], 0, 0),
  (58, .iinc 5 (1), 61, 0, [5], 1, 0),
  (61, .goto (-30), 64, 0, [31], 0, 0),
  (64, .iconst (-1), 65, 0, [], -1, 0),
  (65, .ireturn, 66, 0, [], 0, 0)]
def pt_m530 : pm_Me := (⟨"TurnCabinet$House", "seatsToLead", "(II)I"⟩, prog_5_method_30_code, 6, some .int, 2, 44, pt_q530_0)
-- TurnCabinet.span(I)I
def pt_q128_0 : List pm_Q := [(0, .aload_n 0, 1, 0, [0], 0, 0),
  (1, .getfield 19, 4, 537, [0, 0, 1], 0, 0),
  (4, .iload_n 1, 5, 0, [1], 0, 0),
  (5, .invokevirtual 174, 8, 793, [506, 2, 0, 2, 794, 795, 127, 796], 0, 0),
  (8, .ifCond .ne (5), 11, 0, [13], 0, 0),
  (11, .iconst (-1), 12, 0, [], -1, 0),
  (12, .ireturn, 13, 0, [], 0, 0),
  (13, .aload_n 0, 14, 0, [0], 0, 0),
  (14, .getfield 19, 17, 537, [0, 0, 1], 0, 0),
  (17, .iload_n 1, 18, 0, [1], 0, 0),
  (18, .invokevirtual 264, 21, 1141, [528, 2, 0, 2, 1061, 1062, 127, 1063], 0, 0),
  (21, .aload_n 0, 22, 0, [0], 0, 0),
  (22, .getfield 19, 25, 537, [0, 0, 1], 0, 0),
  (25, .iload_n 1, 26, 0, [1], 0, 0),
  (26, .invokevirtual 267, 29, 1142, [527, 2, 0, 2, 1056, 1057, 127, 1058], 0, 0),
  (29, .isub, 30, 0, [], 0, 0),
  (30, .ireturn, 31, 0, [], 0, 0)]
def pt_m128 : pm_Me := (⟨"TurnCabinet", "span", "(I)I"⟩, prog_1_method_28_code, 2, some .int, 2, 44, pt_q128_0)
-- TurnCabinet.median()I
def pt_q129_0 : List pm_Q := [(0, .aload_n 0, 1, 0, [0], 0, 0),
  (1, .getfield 19, 4, 537, [0, 0, 1], 0, 0),
  (4, .invokevirtual 270, 7, 1147, [531, 1, 0, 2, 1148, 1149, 127, 1150], 0, 0),
  (7, .ireturn, 8, 0, [], 0, 0)]
def pt_m129 : pm_Me := (⟨"TurnCabinet", "median", "()I"⟩, prog_1_method_29_code, 1, some .int, 3, 69, pt_q129_0)
-- TurnCabinet$House.medianParty()I
def pt_q531_0 : List pm_Q := [(0, .aload_n 0, 1, 0, [0], 0, 0),
  (1, .aload_n 0, 2, 0, [0], 0, 0),
  (2, .invokevirtual 61, 5, 769, [507, 1, 0, 2, 770, 771, 127, 772], 0, 0),
  (5, .invokevirtual 73, 8, 773, [515, 2, 0, 2, 774, 775, 127, 776], 0, 0),
  (8, .istore_n 1, 9, 0, [1], 0, 0),
  (9, .iconst (0), 10, 0, [], 0, 0),
  (10, .istore_n 2, 11, 0, [2], 0, 0),
  (11, .iconst (0), 12, 0, [], 0, 0),
  (12, .istore_n 3, 13, 0, [3], 0, 0),
  (13, .iconst (0), 14, 0, [], 0, 0),
  (14, .istore 4, 16, 0, [4], 0, 0),
  (16, .iload 4, 18, 0, [4], 0, 0),
  (18, .aload_n 0, 19, 0, [0], 0, 0),
  (19, .getfield 40, 22, 170, [0, 2, 0], 0, 0),
  (22, .if_icmp .ge (42), 25, 0, [64], 0, 0),
  (25, .aload_n 0, 26, 0, [0], 0, 0),
  (26, .iload_n 3, 27, 0, [3], 0, 0),
  (27, .invokevirtual 118, 30, 1151, [532, 2, 0, 2, 1153, 36, 127, 1154], 0, 0),
  (30, .istore 5, 32, 0, [5], 0, 0),
  (32, .iload_n 3, 33, 0, [3], 0, 0),
  (33, .iconst (1), 34, 0, [], 1, 0),
  (34, .iload 5, 36, 0, [5], 0, 0),
  (36, .ishl, 37, 0, [], 0, 0),
  (37, .ior, 38, 0, [], 0, 0),
  (38, .istore_n 3, 39, 0, [3], 0, 0),
  (39, .iload_n 2, 40, 0, [2], 0, 0),
  (40, .aload_n 0, 41, 0, [0], 0, 0),
  (41, .iload 5, 43, 0, [5], 0, 0),
  (43, .invokevirtual 69, 46, 778, [508, 2, 0, 2, 714, 715, 127, 716], 0, 0),
  (46, .iadd, 47, 0, [], 0, 0),
  (47, .istore_n 2, 48, 0, [2], 0, 0),
  (48, .iconst (2), 49, 0, [], 2, 0),
  (49, .iload_n 2, 50, 0, [2], 0, 0),
  (50, .imul, 51, 0, [], 0, 0),
  (51, .iload_n 1, 52, 0, [1], 0, 0),
  (52, .if_icmp .lt (6), 55, 0, [58], 0, 0),
  (55, .iload 5, 57, 0, [5], 0, 0),
  (57, .ireturn, 58, 0, [], 0, 0),
  (58, .iinc 4 (1), 61, 0, [4], 1, 0),
  (61, .goto (-45), 64, 0, [16, 5], 0, 0),
  (64, .iconst (-1), 65, 0, [], -1, 0),
  (65, .ireturn, 66, 0, [], 0, 0)]
def pt_m531 : pm_Me := (⟨"TurnCabinet$House", "medianParty", "()I"⟩, prog_5_method_31_code, 6, some .int, 2, 44, pt_q531_0)
-- TurnCabinet$House.nextByPlace(I)I
def pt_q532_0 : List pm_Q := [(0, .iconst (-1), 1, 0, [], -1, 0),
  (1, .istore_n 2, 2, 0, [2], 0, 0),
  (2, .iconst (0), 3, 0, [], 0, 0),
  (3, .istore_n 3, 4, 0, [3], 0, 0),
  (4, .iload_n 3, 5, 0, [3], 0, 0),
  (5, .aload_n 0, 6, 0, [0], 0, 0),
  (6, .getfield 40, 9, 170, [0, 2, 0], 0, 0),
  (9, .if_icmp .ge (37), 12, 0, [46], 0, 0),
  (12, .iload_n 3, 13, 0, [3], 0, 0),
  (13, .iload_n 1, 14, 0, [1], 0, 0),
  (14, .invokestatic 65, 17, 777, [151, 2, 1, 639, 125, 640], 0, 0),
  (17, .ifCond .ne (23), 20, 0, [40], 0, 0),
  (20, .iload_n 2, 21, 0, [2], 0, 0),
  (21, .iconst (-1), 22, 0, [], -1, 0),
  (22, .if_icmp .eq (16), 25, 0, [38], 0, 0),
  (25, .aload_n 0, 26, 0, [0], 0, 0),
  (26, .iload_n 3, 27, 0, [3], 0, 0),
  (27, .invokevirtual 88, 30, 888, [509, 2, 0, 2, 718, 719, 127, 720], 0, 0),
  (30, .aload_n 0, 31, 0, [0], 0, 0),
  (31, .iload_n 2, 32, 0, [2], 0, 0),
  (32, .invokevirtual 88, 35, 888, [509, 2, 0, 2, 718, 719, 127, 720], 0, 0),
  (35, .if_icmp .ge (5), 38, 0, [40], 0, 0),
  (38, .iload_n 3, 39, 0, [3], 0, 0),
  (39, .istore_n 2, 40, 0, [2], 0, 0),
  (40, .iinc 3 (1), 43, 0, [3], 1, 0),
  (43, .goto (-39), 46, 0, [4], 0, 0),
  (46, .iload_n 2, 47, 0, [2], 0, 0),
  (47, .ireturn, 48, 0, [], 0, 0)]
def pt_m532 : pm_Me := (⟨"TurnCabinet$House", "nextByPlace", "(I)I"⟩, prog_5_method_32_code, 4, some .int, 1, 21, pt_q532_0)
-- TurnCabinet.needed(I)I
def pt_q130_0 : List pm_Q := [(0, .aload_n 0, 1, 0, [0], 0, 0),
  (1, .getfield 19, 4, 537, [0, 0, 1], 0, 0),
  (4, .iload_n 1, 5, 0, [1], 0, 0),
  (5, .invokevirtual 113, 8, 709, [504, 2, 0, 2, 710, 711, 127, 712], 0, 0),
  (8, .ifCond .ne (5), 11, 0, [13], 0, 0),
  (11, .iconst (-1), 12, 0, [], -1, 0),
  (12, .ireturn, 13, 0, [], 0, 0),
  (13, .aload_n 0, 14, 0, [0], 0, 0),
  (14, .getfield 53, 17, 541, [0, 0, 5], 0, 0),
  (17, .invokevirtual 273, 20, 1159, [302, 1, 0, 6, 835, 836, 135, 837], 0, 0),
  (20, .aload_n 0, 21, 0, [0], 0, 0),
  (21, .getfield 53, 24, 541, [0, 0, 5], 0, 0),
  (24, .iload_n 1, 25, 0, [1], 0, 0),
  (25, .invokevirtual 276, 28, 1160, [326, 2, 0, 6, 1161, 1162, 135, 1163], 0, 0),
  (28, .ireturn, 29, 0, [], 0, 0)]
def pt_m130 : pm_Me := (⟨"TurnCabinet", "needed", "(I)I"⟩, prog_1_method_30_code, 2, some .int, 4, 87, pt_q130_0)
-- TurnCabinet$Coalitions.countNeeding(I)I
def pt_q326_0 : List pm_Q := [(0, .iconst (0), 1, 0, [], 0, 0),
  (1, .istore_n 2, 2, 0, [2], 0, 0),
  (2, .iconst (1), 3, 0, [], 1, 0),
  (3, .istore_n 3, 4, 0, [3], 0, 0),
  (4, .iload_n 3, 5, 0, [3], 0, 0),
  (5, .aload_n 0, 6, 0, [0], 0, 0),
  (6, .getfield 50, 9, 422, [0, 6, 0], 0, 0),
  (9, .invokevirtual 76, 12, 843, [507, 1, 0, 2, 770, 771, 127, 772], 0, 0),
  (12, .if_icmp .gt (37), 15, 0, [49], 0, 0),
  (15, .iload_n 1, 16, 0, [1], 0, 0),
  (16, .iload_n 3, 17, 0, [3], 0, 0),
  (17, .invokestatic 111, 20, 889, [151, 2, 1, 639, 125, 640], 0, 0),
  (20, .ifCond .eq (23), 23, 0, [43], 0, 0),
  (23, .aload_n 0, 24, 0, [0], 0, 0),
  (24, .iload_n 3, 25, 0, [3], 0, 0),
  (25, .invokevirtual 149, 28, 1035, [309, 2, 0, 6, 1037, 29, 135, 1038], 0, 0),
  (28, .ifCond .eq (15), 31, 0, [43], 0, 0),
  (31, .aload_n 0, 32, 0, [0], 0, 0),
  (32, .iload_n 3, 33, 0, [3], 0, 0),
  (33, .iload_n 1, 34, 0, [1], 0, 0),
  (34, .invokevirtual 152, 37, 1047, [311, 3, 0, 6, 1049, 31, 135, 1050], 0, 0),
  (37, .ifCond .ne (6), 40, 0, [43], 0, 0),
  (40, .iinc 2 (1), 43, 0, [2], 1, 0),
  (43, .iinc 3 (1), 46, 0, [3], 1, 0),
  (46, .goto (-42), 49, 0, [4], 0, 0),
  (49, .iload_n 2, 50, 0, [2], 0, 0),
  (50, .ireturn, 51, 0, [], 0, 0)]
def pt_m326 : pm_Me := (⟨"TurnCabinet$Coalitions", "countNeeding", "(I)I"⟩, prog_3_method_26_code, 4, some .int, 2, 43, pt_q326_0)
-- TurnCabinet.pivot(I)I
def pt_q131_0 : List pm_Q := [(0, .aload_n 0, 1, 0, [0], 0, 0),
  (1, .getfield 19, 4, 537, [0, 0, 1], 0, 0),
  (4, .iload_n 1, 5, 0, [1], 0, 0),
  (5, .invokevirtual 113, 8, 709, [504, 2, 0, 2, 710, 711, 127, 712], 0, 0),
  (8, .ifCond .ne (5), 11, 0, [13], 0, 0),
  (11, .iconst (-1), 12, 0, [], -1, 0),
  (12, .ireturn, 13, 0, [], 0, 0),
  (13, .aload_n 0, 14, 0, [0], 0, 0),
  (14, .getfield 53, 17, 541, [0, 0, 5], 0, 0),
  (17, .invokevirtual 273, 20, 1159, [302, 1, 0, 6, 835, 836, 135, 837], 0, 0),
  (20, .aload_n 0, 21, 0, [0], 0, 0),
  (21, .getfield 53, 24, 541, [0, 0, 5], 0, 0),
  (24, .iload_n 1, 25, 0, [1], 0, 0),
  (25, .invokevirtual 279, 28, 1168, [327, 2, 0, 6, 1169, 1170, 135, 1171], 0, 0),
  (28, .ireturn, 29, 0, [], 0, 0)]
def pt_m131 : pm_Me := (⟨"TurnCabinet", "pivot", "(I)I"⟩, prog_1_method_31_code, 2, some .int, 4, 87, pt_q131_0)
-- TurnCabinet$Coalitions.countPivots(I)I
def pt_q327_0 : List pm_Q := [(0, .iconst (0), 1, 0, [], 0, 0),
  (1, .istore_n 2, 2, 0, [2], 0, 0),
  (2, .iconst (1), 3, 0, [], 1, 0),
  (3, .istore_n 3, 4, 0, [3], 0, 0),
  (4, .iload_n 3, 5, 0, [3], 0, 0),
  (5, .aload_n 0, 6, 0, [0], 0, 0),
  (6, .getfield 50, 9, 422, [0, 6, 0], 0, 0),
  (9, .invokevirtual 76, 12, 843, [507, 1, 0, 2, 770, 771, 127, 772], 0, 0),
  (12, .if_icmp .gt (81), 15, 0, [93], 0, 0),
  (15, .iload_n 1, 16, 0, [1], 0, 0),
  (16, .iload_n 3, 17, 0, [3], 0, 0),
  (17, .invokestatic 111, 20, 889, [151, 2, 1, 639, 125, 640], 0, 0),
  (20, .ifCond .eq (67), 23, 0, [87], 0, 0),
  (23, .aload_n 0, 24, 0, [0], 0, 0),
  (24, .iload_n 3, 25, 0, [3], 0, 0),
  (25, .invokevirtual 149, 28, 1035, [309, 2, 0, 6, 1037, 29, 135, 1038], 0, 0),
  (28, .ifCond .eq (59), 31, 0, [87], 0, 0),
  (31, .aload_n 0, 32, 0, [0], 0, 0),
  (32, .iload_n 3, 33, 0, [3], 0, 0),
  (33, .iload_n 1, 34, 0, [1], 0, 0),
  (34, .invokevirtual 152, 37, 1047, [311, 3, 0, 6, 1049, 31, 135, 1050], 0, 0),
  (37, .ifCond .eq (6), 40, 0, [43], 0, 0),
  (40, .goto (47), 43, 0, [87], 0, 0),
  (43, .iload_n 3, 44, 0, [3], 0, 0),
  (44, .invokestatic 185, 47, 1172, [1508, 1, 0, 740, 140, 741], 0, 0),
  (47, .iconst (1), 48, 0, [], 1, 0),
  (48, .isub, 49, 0, [], 0, 0),
  (49, .istore 4, 51, 0, [4], 0, 0),
  (51, .aload_n 0, 52, 0, [0], 0, 0),
  (52, .getfield 50, 55, 422, [0, 6, 0], 0, 0),
  (55, .getfield 108, 58, 174, [1, 2, 0], 0, 0),
  (58, .iconst (1), 59, 0, [], 1, 0),
  (59, .isub, 60, 0, [], 0, 0),
  (60, .iload 4, 62, 0, [4], 0, 0),
  (62, .isub, 63, 0, [], 0, 0),
  (63, .istore 5, 65, 0, [5], 0, 0),
  (65, .iload_n 2, 66, 0, [2], 0, 0),
  (66, .getstatic 188, 69, 1173, [0], 0, 0),
  (69, .iload 4, 71, 0, [4], 0, 0),
  (71, .bipush (7), 73, 0, [], 7, 0),
  (73, .iand, 74, 0, [], 0, 0),
  (74, .iaload, 75, 0, [], 0, 0),
  (75, .getstatic 188, 78, 1173, [0], 0, 0),
  (78, .iload 5, 80, 0, [5], 0, 0),
  (80, .bipush (7), 82, 0, [], 7, 0),
  (82, .iand, 83, 0, [], 0, 0),
  (83, .iaload, 84, 0, [], 0, 0),
  (84, .imul, 85, 0, [], 0, 0),
  (85, .iadd, 86, 0, [], 0, 0),
  (86, .istore_n 2, 87, 0, [2], 0, 0),
  (87, .iinc 3 (1), 90, 0, [3], 1, 0),
  (90, .goto (-86), 93, 0, [4, 4, 5], 0, 0),
  (93, .iload_n 2, 94, 0, [2], 0, 0),
  (94, .ireturn, 95, 0, [], 0, 0)]
def pt_m327 : pm_Me := (⟨"TurnCabinet$Coalitions", "countPivots", "(I)I"⟩, prog_3_method_27_code, 6, some .int, 2, 43, pt_q327_0)
-- TurnCabinet.joins(I)I
def pt_q132_0 : List pm_Q := [(0, .aload_n 0, 1, 0, [0], 0, 0),
  (1, .getfield 19, 4, 537, [0, 0, 1], 0, 0),
  (4, .iload_n 1, 5, 0, [1], 0, 0),
  (5, .invokevirtual 174, 8, 793, [506, 2, 0, 2, 794, 795, 127, 796], 0, 0),
  (8, .ifCond .ne (5), 11, 0, [13], 0, 0),
  (11, .iconst (-1), 12, 0, [], -1, 0),
  (12, .ireturn, 13, 0, [], 0, 0),
  (13, .aload_n 0, 14, 0, [0], 0, 0),
  (14, .getfield 53, 17, 541, [0, 0, 5], 0, 0),
  (17, .invokevirtual 273, 20, 1159, [302, 1, 0, 6, 835, 836, 135, 837], 0, 0),
  (20, .aload_n 0, 21, 0, [0], 0, 0),
  (21, .getfield 53, 24, 541, [0, 0, 5], 0, 0),
  (24, .iload_n 1, 25, 0, [1], 0, 0),
  (25, .invokevirtual 282, 28, 1179, [328, 2, 0, 6, 1180, 1181, 135, 1182], 0, 0),
  (28, .ireturn, 29, 0, [], 0, 0)]
def pt_m132 : pm_Me := (⟨"TurnCabinet", "joins", "(I)I"⟩, prog_1_method_32_code, 2, some .int, 4, 87, pt_q132_0)
-- TurnCabinet$Coalitions.fewestToJoin(I)I
def pt_q328_0 : List pm_Q := [(0, .aload_n 0, 1, 0, [0], 0, 0),
  (1, .iload_n 1, 2, 0, [1], 0, 0),
  (2, .invokevirtual 94, 5, 1031, [310, 2, 0, 6, 1032, 1033, 135, 1034], 0, 0),
  (5, .ifCond .eq (5), 8, 0, [10], 0, 0),
  (8, .iconst (0), 9, 0, [], 0, 0),
  (9, .ireturn, 10, 0, [], 0, 0),
  (10, .iconst (-1), 11, 0, [], -1, 0),
  (11, .istore_n 2, 12, 0, [2], 0, 0),
  (12, .iconst (1), 13, 0, [], 1, 0),
  (13, .istore_n 3, 14, 0, [3], 0, 0),
  (14, .iload_n 3, 15, 0, [3], 0, 0),
  (15, .aload_n 0, 16, 0, [0], 0, 0),
  (16, .getfield 50, 19, 422, [0, 6, 0], 0, 0),
  (19, .invokevirtual 76, 22, 843, [507, 1, 0, 2, 770, 771, 127, 772], 0, 0),
  (22, .if_icmp .gt (46), 25, 0, [68], 0, 0),
  (25, .iload_n 3, 26, 0, [3], 0, 0),
  (26, .iload_n 1, 27, 0, [1], 0, 0),
  (27, .iand, 28, 0, [], 0, 0),
  (28, .ifCond .ne (34), 31, 0, [62], 0, 0),
  (31, .aload_n 0, 32, 0, [0], 0, 0),
  (32, .iload_n 3, 33, 0, [3], 0, 0),
  (33, .iload_n 1, 34, 0, [1], 0, 0),
  (34, .ior, 35, 0, [], 0, 0),
  (35, .invokevirtual 94, 38, 1031, [310, 2, 0, 6, 1032, 1033, 135, 1034], 0, 0),
  (38, .ifCond .ne (6), 41, 0, [44], 0, 0),
  (41, .goto (21), 44, 0, [62], 0, 0),
  (44, .iload_n 2, 45, 0, [2], 0, 0),
  (45, .iconst (-1), 46, 0, [], -1, 0),
  (46, .if_icmp .eq (14), 49, 0, [60], 0, 0),
  (49, .iload_n 3, 50, 0, [3], 0, 0),
  (50, .invokestatic 185, 53, 1172, [1508, 1, 0, 740, 140, 741], 0, 0),
  (53, .iload_n 2, 54, 0, [2], 0, 0),
  (54, .invokestatic 185, 57, 1172, [1508, 1, 0, 740, 140, 741], 0, 0),
  (57, .if_icmp .ge (5), 60, 0, [62], 0, 0),
  (60, .iload_n 3, 61, 0, [3], 0, 0),
  (61, .istore_n 2, 62, 0, [2], 0, 0),
  (62, .iinc 3 (1), 65, 0, [3], 1, 0),
  (65, .goto (-51), 68, 0, [14], 0, 0),
  (68, .iload_n 2, 69, 0, [2], 0, 0),
  (69, .ireturn, 70, 0, [], 0, 0)]
def pt_m328 : pm_Me := (⟨"TurnCabinet$Coalitions", "fewestToJoin", "(I)I"⟩, prog_3_method_28_code, 4, some .int, 2, 42, pt_q328_0)
-- TurnCabinet.dream(I)I
def pt_q133_0 : List pm_Q := [(0, .aload_n 0, 1, 0, [0], 0, 0),
  (1, .getfield 19, 4, 537, [0, 0, 1], 0, 0),
  (4, .iload_n 1, 5, 0, [1], 0, 0),
  (5, .invokevirtual 113, 8, 709, [504, 2, 0, 2, 710, 711, 127, 712], 0, 0),
  (8, .ifCond .ne (5), 11, 0, [13], 0, 0),
  (11, .iconst (-1), 12, 0, [], -1, 0),
  (12, .ireturn, 13, 0, [], 0, 0),
  (13, .aload_n 0, 14, 0, [0], 0, 0),
  (14, .getfield 53, 17, 541, [0, 0, 5], 0, 0),
  (17, .invokevirtual 237, 20, 1027, [304, 1, 0, 6, 1028, 1029, 135, 1030], 0, 0),
  (20, .aload_n 0, 21, 0, [0], 0, 0),
  (21, .getfield 53, 24, 541, [0, 0, 5], 0, 0),
  (24, .iload_n 1, 25, 0, [1], 0, 0),
  (25, .invokevirtual 285, 28, 1187, [320, 2, 0, 6, 1188, 1189, 135, 1190], 0, 0),
  (28, .ireturn, 29, 0, [], 0, 0)]
def pt_m133 : pm_Me := (⟨"TurnCabinet", "dream", "(I)I"⟩, prog_1_method_33_code, 2, some .int, 6, 149, pt_q133_0)
-- TurnCabinet$Coalitions.bestPaying(I)I
def pt_q320_0 : List pm_Q := [(0, .iconst (0), 1, 0, [], 0, 0),
  (1, .istore_n 2, 2, 0, [2], 0, 0),
  (2, .iconst (1), 3, 0, [], 1, 0),
  (3, .istore_n 3, 4, 0, [3], 0, 0),
  (4, .iload_n 3, 5, 0, [3], 0, 0),
  (5, .aload_n 0, 6, 0, [0], 0, 0),
  (6, .getfield 50, 9, 422, [0, 6, 0], 0, 0),
  (9, .invokevirtual 76, 12, 843, [507, 1, 0, 2, 770, 771, 127, 772], 0, 0),
  (12, .if_icmp .gt (38), 15, 0, [50], 0, 0),
  (15, .aload_n 0, 16, 0, [0], 0, 0),
  (16, .iload_n 3, 17, 0, [3], 0, 0),
  (17, .invokevirtual 94, 20, 1031, [310, 2, 0, 6, 1032, 1033, 135, 1034], 0, 0),
  (20, .ifCond .eq (24), 23, 0, [44], 0, 0),
  (23, .iload_n 2, 24, 0, [2], 0, 0),
  (24, .ifCond .eq (18), 27, 0, [42], 0, 0),
  (27, .aload_n 0, 28, 0, [0], 0, 0),
  (28, .iload_n 3, 29, 0, [3], 0, 0),
  (29, .iload_n 1, 30, 0, [1], 0, 0),
  (30, .invokevirtual 173, 33, 1077, [308, 3, 0, 6, 970, 971, 135, 972], 0, 0),
  (33, .aload_n 0, 34, 0, [0], 0, 0),
  (34, .iload_n 2, 35, 0, [2], 0, 0),
  (35, .iload_n 1, 36, 0, [1], 0, 0),
  (36, .invokevirtual 173, 39, 1077, [308, 3, 0, 6, 970, 971, 135, 972], 0, 0),
  (39, .if_icmp .le (5), 42, 0, [44], 0, 0),
  (42, .iload_n 3, 43, 0, [3], 0, 0),
  (43, .istore_n 2, 44, 0, [2], 0, 0),
  (44, .iinc 3 (1), 47, 0, [3], 1, 0),
  (47, .goto (-43), 50, 0, [4], 0, 0),
  (50, .iload_n 2, 51, 0, [2], 0, 0),
  (51, .ireturn, 52, 0, [], 0, 0)]
def pt_m320 : pm_Me := (⟨"TurnCabinet$Coalitions", "bestPaying", "(I)I"⟩, prog_3_method_20_code, 4, some .int, 2, 42, pt_q320_0)
-- TurnCabinet.drift(II)I
def pt_q134_0 : List pm_Q := [(0, .aload_n 0, 1, 0, [0], 0, 0),
  (1, .getfield 19, 4, 537, [0, 0, 1], 0, 0),
  (4, .iload_n 1, 5, 0, [1], 0, 0),
  (5, .invokevirtual 174, 8, 793, [506, 2, 0, 2, 794, 795, 127, 796], 0, 0),
  (8, .ifCond .eq (12), 11, 0, [20], 0, 0),
  (11, .iload_n 2, 12, 0, [2], 0, 0),
  (12, .ifCond .lt (8), 15, 0, [20], 0, 0),
  (15, .iload_n 2, 16, 0, [2], 0, 0),
  (16, .iconst (1), 17, 0, [], 1, 0),
  (17, .if_icmp .le (5), 20, 0, [22], 0, 0),
  (20, .iconst (-1), 21, 0, [], -1, 0),
  (21, .ireturn, 22, 0, [], 0, 0),
  (22, .aload_n 0, 23, 0, [0], 0, 0),
  (23, .getfield 53, 26, 541, [0, 0, 5], 0, 0),
  (26, .iload_n 1, 27, 0, [1], 0, 0),
  (27, .invokevirtual 215, 30, 968, [305, 2, 0, 6, 831, 832, 135, 833], 0, 0),
  (30, .aload_n 0, 31, 0, [0], 0, 0),
  (31, .getfield 53, 34, 541, [0, 0, 5], 0, 0),
  (34, .invokevirtual 237, 37, 1027, [304, 1, 0, 6, 1028, 1029, 135, 1030], 0, 0),
  (37, .aload_n 0, 38, 0, [0], 0, 0),
  (38, .getfield 53, 41, 541, [0, 0, 5], 0, 0),
  (41, .iload_n 1, 42, 0, [1], 0, 0),
  (42, .iload_n 2, 43, 0, [2], 0, 0),
  (43, .iconst (1), 44, 0, [], 1, 0),
  (44, .if_icmp .ne (7), 47, 0, [51], 0, 0),
  (47, .iconst (1), 48, 0, [], 1, 0),
  (48, .goto (4), 51, 0, [52], 0, 0),
  (51, .iconst (0), 52, 0, [], 0, 0),
  (52, .invokevirtual 288, 55, 1195, [319, 3, 0, 6, 1196, 1197, 135, 1198], 0, 0),
  (55, .ireturn, 56, 0, [], 0, 0)]
def pt_m134 : pm_Me := (⟨"TurnCabinet", "drift", "(II)I"⟩, prog_1_method_34_code, 3, some .int, 6, 149, pt_q134_0)
-- TurnCabinet$Coalitions.driftFrom(IZ)I
def pt_q319_0 : List pm_Q := [(0, .iconst (0), 1, 0, [], 0, 0),
  (1, .istore_n 3, 2, 0, [3], 0, 0),
  (2, .iload_n 3, 3, 0, [3], 0, 0),
  (3, .sipush (128), 6, 0, [], 128, 0),
  (6, .if_icmp .ge (16), 9, 0, [22], 0, 0),
  (9, .aload_n 0, 10, 0, [0], 0, 0),
  (10, .getfield 40, 13, 433, [0, 6, 11], 0, 0),
  (13, .iload_n 3, 14, 0, [3], 0, 0),
  (14, .iconst (0), 15, 0, [], 0, 0),
  (15, .bastore, 16, 0, [], 0, 0),
  (16, .iinc 3 (1), 19, 0, [3], 1, 0),
  (19, .goto (-17), 22, 0, [2], 0, 0),
  (22, .iload_n 1, 23, 0, [1], 0, 0),
  (23, .bipush (127), 25, 0, [], 127, 0),
  (25, .iand, 26, 0, [], 0, 0),
  (26, .istore_n 3, 27, 0, [3], 0, 0),
  (27, .aload_n 0, 28, 0, [0], 0, 0),
  (28, .iload_n 3, 29, 0, [3], 0, 0),
  (29, .invokevirtual 161, 32, 1065, [316, 2, 0, 6, 1066, 1067, 135, 1068], 0, 0),
  (32, .istore 4, 34, 0, [4], 0, 0),
  (34, .iconst (0), 35, 0, [], 0, 0),
  (35, .istore 5, 37, 0, [5], 0, 0),
  (37, .aload_n 0, 38, 0, [0], 0, 0),
  (38, .getfield 40, 41, 433, [0, 6, 11], 0, 0),
  (41, .iload_n 3, 42, 0, [3], 0, 0),
  (42, .iconst (1), 43, 0, [], 1, 0),
  (43, .bastore, 44, 0, [], 0, 0),
  (44, .iload 4, 46, 0, [4], 0, 0),
  (46, .ifCond .eq (50), 49, 0, [96], 0, 0),
  (49, .aload_n 0, 50, 0, [0], 0, 0),
  (50, .getfield 40, 53, 433, [0, 6, 11], 0, 0),
  (53, .iload 4, 55, 0, [4], 0, 0),
  (55, .bipush (127), 57, 0, [], 127, 0),
  (57, .iand, 58, 0, [], 0, 0),
  (58, .baload, 59, 0, [], 0, 0),
  (59, .ifCond .ne (37), 62, 0, [96], 0, 0),
  (62, .iload 5, 64, 0, [5], 0, 0),
  (64, .sipush (128), 67, 0, [], 128, 0),
  (67, .if_icmp .ge (29), 70, 0, [96], 0, 0),
  (70, .iload 4, 72, 0, [4], 0, 0),
  (72, .bipush (127), 74, 0, [], 127, 0),
  (74, .iand, 75, 0, [], 0, 0),
  (75, .istore_n 3, 76, 0, [3], 0, 0),
  (76, .aload_n 0, 77, 0, [0], 0, 0),
  (77, .getfield 40, 80, 433, [0, 6, 11], 0, 0),
  (80, .iload_n 3, 81, 0, [3], 0, 0),
  (81, .iconst (1), 82, 0, [], 1, 0),
  (82, .bastore, 83, 0, [], 0, 0),
  (83, .aload_n 0, 84, 0, [0], 0, 0),
  (84, .iload_n 3, 85, 0, [3], 0, 0),
  (85, .invokevirtual 161, 88, 1065, [316, 2, 0, 6, 1066, 1067, 135, 1068], 0, 0),
  (88, .istore 4, 90, 0, [4], 0, 0),
  (90, .iinc 5 (1), 93, 0, [5], 1, 0),
  (93, .goto (-49), 96, 0, [44], 0, 0),
  (96, .iload_n 2, 97, 0, [2], 0, 0),
  (97, .ifCond .ne (6), 100, 0, [103], 0, 0),
  (100, .iload 5, 102, 0, [5], 0, 0),
  (102, .ireturn, 103, 0, [], 0, 0),
  (103, .iload 4, 105, 0, [4], 0, 0),
  (105, .ifCond .ne (7), 108, 0, [112], 0, 0)]
def pt_q319_1 : List pm_Q := [(108, .iload_n 3, 109, 0, [3], 0, 0),
  (109, .goto (4), 112, 0, [113], 0, 0),
  (112, .iconst (0), 113, 0, [], 0, 0),
  (113, .ireturn, 114, 0, [], 0, 0)]
def pt_m319 : pm_Me := (⟨"TurnCabinet$Coalitions", "driftFrom", "(IZ)I"⟩, prog_3_method_19_code, 6, some .int, 4, 89, pt_q319_0 ++ pt_q319_1)
-- TurnCabinet.formed(I)I
def pt_q135_0 : List pm_Q := [(0, .aload_n 0, 1, 0, [0], 0, 0),
  (1, .getfield 19, 4, 537, [0, 0, 1], 0, 0),
  (4, .getfield 107, 7, 173, [1, 2, 0], 0, 0),
  (7, .ifCond .ne (5), 10, 0, [12], 0, 0),
  (10, .iconst (-1), 11, 0, [], -1, 0),
  (11, .ireturn, 12, 0, [], 0, 0),
  (12, .aload_n 0, 13, 0, [0], 0, 0),
  (13, .getfield 53, 16, 541, [0, 0, 5], 0, 0),
  (16, .invokevirtual 237, 19, 1027, [304, 1, 0, 6, 1028, 1029, 135, 1030], 0, 0),
  (19, .aload_n 0, 20, 0, [0], 0, 0),
  (20, .getfield 62, 23, 542, [0, 0, 6], 0, 0),
  (23, .invokevirtual 291, 26, 1203, [402, 1, 0, 7, 1204, 1205, 136, 1206], 0, 0),
  (26, .iload_n 1, 27, 0, [1], 0, 0),
  (27, .tableswitch (70) (0) (3) #[29, 37, 45, 53], 56, 0, [97, 56, 64, 72, 80], 0, 0),
  (56, .aload_n 0, 57, 0, [0], 0, 0),
  (57, .getfield 62, 60, 542, [0, 0, 6], 0, 0),
  (60, .getfield 294, 63, 484, [1, 7, 6], 0, 0),
  (63, .ireturn, 64, 0, [], 0, 0),
  (64, .aload_n 0, 65, 0, [0], 0, 0),
  (65, .getfield 62, 68, 542, [0, 0, 6], 0, 0),
  (68, .getfield 297, 71, 480, [1, 7, 4], 0, 0),
  (71, .ireturn, 72, 0, [], 0, 0),
  (72, .aload_n 0, 73, 0, [0], 0, 0),
  (73, .getfield 62, 76, 542, [0, 0, 6], 0, 0),
  (76, .getfield 300, 79, 482, [1, 7, 5], 0, 0),
  (79, .ireturn, 80, 0, [], 0, 0),
  (80, .aload_n 0, 81, 0, [0], 0, 0),
  (81, .getfield 62, 84, 542, [0, 0, 6], 0, 0),
  (84, .aload_n 0, 85, 0, [0], 0, 0),
  (85, .getfield 62, 88, 542, [0, 0, 6], 0, 0),
  (88, .getfield 297, 91, 480, [1, 7, 4], 0, 0),
  (91, .iconst (1), 92, 0, [], 1, 0),
  (92, .isub, 93, 0, [], 0, 0),
  (93, .invokevirtual 303, 96, 1242, [411, 2, 0, 7, 1243, 1244, 136, 1245], 0, 0),
  (96, .ireturn, 97, 0, [], 0, 0),
  (97, .iconst (-1), 98, 0, [], -1, 0),
  (98, .ireturn, 99, 0, [], 0, 0)]
def pt_m135 : pm_Me := (⟨"TurnCabinet", "formed", "(I)I"⟩, prog_1_method_35_code, 2, some .int, 6, 149, pt_q135_0)
-- TurnCabinet$Forming.run()V
def pt_q402_0 : List pm_Q := [(0, .aload_n 0, 1, 0, [0], 0, 0),
  (1, .getfield 19, 4, 485, [0, 7, 7], 0, 0),
  (4, .aload_n 0, 5, 0, [0], 0, 0),
  (5, .getfield 23, 8, 475, [0, 7, 0], 0, 0),
  (8, .getfield 31, 11, 210, [1, 2, 9], 0, 0),
  (11, .if_icmp .ne (4), 14, 0, [15], 0, 0),
  (14, .return_, 15, 0, [], 0, 0),
  (15, .aload_n 0, 16, 0, [0], 0, 0),
  (16, .aload_n 0, 17, 0, [0], 0, 0),
  (17, .getfield 23, 20, 475, [0, 7, 0], 0, 0),
  (20, .getfield 31, 23, 210, [1, 2, 9], 0, 0),
  (23, .putfield 19, 26, 485, [0, 7, 7], 0, 0),
  (26, .aload_n 0, 27, 0, [0], 0, 0),
  (27, .iconst (0), 28, 0, [], 0, 0),
  (28, .putfield 36, 31, 479, [0, 7, 4], 0, 0),
  (31, .aload_n 0, 32, 0, [0], 0, 0),
  (32, .iconst (0), 33, 0, [], 0, 0),
  (33, .putfield 39, 36, 481, [0, 7, 5], 0, 0),
  (36, .aload_n 0, 37, 0, [0], 0, 0),
  (37, .iconst (0), 38, 0, [], 0, 0),
  (38, .putfield 42, 41, 483, [0, 7, 6], 0, 0),
  (41, .iconst (0), 42, 0, [], 0, 0),
  (42, .istore_n 1, 43, 0, [1], 0, 0),
  (43, .iload_n 1, 44, 0, [1], 0, 0),
  (44, .bipush (9), 46, 0, [], 9, 0),
  (46, .if_icmp .ge (31), 49, 0, [77], 0, 0),
  (49, .aload_n 0, 50, 0, [0], 0, 0),
  (50, .getfield 42, 53, 483, [0, 7, 6], 0, 0),
  (53, .ifCond .ne (24), 56, 0, [77], 0, 0),
  (56, .aload_n 0, 57, 0, [0], 0, 0),
  (57, .dup, 58, 0, [], 0, 0),
  (58, .getfield 39, 61, 481, [0, 7, 5], 0, 0),
  (61, .iconst (1), 62, 0, [], 1, 0),
  (62, .iadd, 63, 0, [], 0, 0),
  (63, .putfield 39, 66, 481, [0, 7, 5], 0, 0),
  (66, .aload_n 0, 67, 0, [0], 0, 0),
  (67, .iload_n 1, 68, 0, [1], 0, 0),
  (68, .invokevirtual 45, 71, 1207, [403, 2, 0, 7, 1209, 37, 136, 1210], 0, 0),
  (71, .iinc 1 (1), 74, 0, [1], 1, 0),
  (74, .goto (-31), 77, 0, [43], 0, 0),
  (77, .return_, 78, 0, [], 0, 0)]
def pt_m402 : pm_Me := (⟨"TurnCabinet$Forming", "run", "()V"⟩, prog_4_method_2_code, 2, none, 5, 118, pt_q402_0)
-- TurnCabinet$Forming.goRound(I)V
def pt_q403_0 : List pm_Q := [(0, .iconst (0), 1, 0, [], 0, 0),
  (1, .istore_n 2, 2, 0, [2], 0, 0),
  (2, .iload_n 2, 3, 0, [2], 0, 0),
  (3, .sipush (128), 6, 0, [], 128, 0),
  (6, .if_icmp .ge (16), 9, 0, [22], 0, 0),
  (9, .aload_n 0, 10, 0, [0], 0, 0),
  (10, .getfield 15, 13, 478, [0, 7, 3], 0, 0),
  (13, .iload_n 2, 14, 0, [2], 0, 0),
  (14, .iconst (0), 15, 0, [], 0, 0),
  (15, .bastore, 16, 0, [], 0, 0),
  (16, .iinc 2 (1), 19, 0, [2], 1, 0),
  (19, .goto (-17), 22, 0, [2], 0, 0),
  (22, .iconst (0), 23, 0, [], 0, 0),
  (23, .istore_n 2, 24, 0, [2], 0, 0),
  (24, .iconst (0), 25, 0, [], 0, 0),
  (25, .istore_n 3, 26, 0, [3], 0, 0),
  (26, .iload_n 3, 27, 0, [3], 0, 0),
  (27, .aload_n 0, 28, 0, [0], 0, 0),
  (28, .getfield 23, 31, 475, [0, 7, 0], 0, 0),
  (31, .getfield 49, 34, 172, [1, 2, 0], 0, 0),
  (34, .if_icmp .ge (37), 37, 0, [71], 0, 0),
  (37, .aload_n 0, 38, 0, [0], 0, 0),
  (38, .getfield 42, 41, 483, [0, 7, 6], 0, 0),
  (41, .ifCond .ne (30), 44, 0, [71], 0, 0),
  (44, .aload_n 0, 45, 0, [0], 0, 0),
  (45, .iload_n 2, 46, 0, [2], 0, 0),
  (46, .invokevirtual 52, 49, 1211, [404, 2, 0, 7, 1213, 38, 136, 1214], 0, 0),
  (49, .istore 4, 51, 0, [4], 0, 0),
  (51, .iload_n 2, 52, 0, [2], 0, 0),
  (52, .iconst (1), 53, 0, [], 1, 0),
  (53, .iload 4, 55, 0, [4], 0, 0),
  (55, .ishl, 56, 0, [], 0, 0),
  (56, .ior, 57, 0, [], 0, 0),
  (57, .istore_n 2, 58, 0, [2], 0, 0),
  (58, .aload_n 0, 59, 0, [0], 0, 0),
  (59, .iload 4, 61, 0, [4], 0, 0),
  (61, .iload_n 1, 62, 0, [1], 0, 0),
  (62, .invokevirtual 56, 65, 1217, [405, 3, 0, 7, 1219, 39, 136, 1220], 0, 0),
  (65, .iinc 3 (1), 68, 0, [3], 1, 0),
  (68, .goto (-42), 71, 0, [26, 4], 0, 0),
  (71, .return_, 72, 0, [], 0, 0)]
def pt_m403 : pm_Me := (⟨"TurnCabinet$Forming", "goRound", "(I)V"⟩, prog_4_method_3_code, 5, none, 4, 94, pt_q403_0)
-- TurnCabinet$Forming.nextFormer(I)I
def pt_q404_0 : List pm_Q := [(0, .iconst (-1), 1, 0, [], -1, 0),
  (1, .istore_n 2, 2, 0, [2], 0, 0),
  (2, .iconst (0), 3, 0, [], 0, 0),
  (3, .istore_n 3, 4, 0, [3], 0, 0),
  (4, .iload_n 3, 5, 0, [3], 0, 0),
  (5, .aload_n 0, 6, 0, [0], 0, 0),
  (6, .getfield 23, 9, 475, [0, 7, 0], 0, 0),
  (9, .getfield 49, 12, 172, [1, 2, 0], 0, 0),
  (12, .if_icmp .ge (43), 15, 0, [55], 0, 0),
  (15, .iload_n 3, 16, 0, [3], 0, 0),
  (16, .iload_n 1, 17, 0, [1], 0, 0),
  (17, .invokestatic 60, 20, 1215, [151, 2, 1, 639, 125, 640], 0, 0),
  (20, .ifCond .ne (29), 23, 0, [49], 0, 0),
  (23, .iload_n 2, 24, 0, [2], 0, 0),
  (24, .iconst (-1), 25, 0, [], -1, 0),
  (25, .if_icmp .eq (22), 28, 0, [47], 0, 0),
  (28, .aload_n 0, 29, 0, [0], 0, 0),
  (29, .getfield 23, 32, 475, [0, 7, 0], 0, 0),
  (32, .iload_n 3, 33, 0, [3], 0, 0),
  (33, .invokevirtual 64, 36, 1216, [508, 2, 0, 2, 714, 715, 127, 716], 0, 0),
  (36, .aload_n 0, 37, 0, [0], 0, 0),
  (37, .getfield 23, 40, 475, [0, 7, 0], 0, 0),
  (40, .iload_n 2, 41, 0, [2], 0, 0),
  (41, .invokevirtual 64, 44, 1216, [508, 2, 0, 2, 714, 715, 127, 716], 0, 0),
  (44, .if_icmp .le (5), 47, 0, [49], 0, 0),
  (47, .iload_n 3, 48, 0, [3], 0, 0),
  (48, .istore_n 2, 49, 0, [2], 0, 0),
  (49, .iinc 3 (1), 52, 0, [3], 1, 0),
  (52, .goto (-48), 55, 0, [4], 0, 0),
  (55, .iload_n 2, 56, 0, [2], 0, 0),
  (56, .ireturn, 57, 0, [], 0, 0)]
def pt_m404 : pm_Me := (⟨"TurnCabinet$Forming", "nextFormer", "(I)I"⟩, prog_4_method_4_code, 4, some .int, 1, 21, pt_q404_0)
-- TurnCabinet$Forming.letForm(II)V
def pt_q405_0 : List pm_Q := [(0, .iconst (0), 1, 0, [], 0, 0),
  (1, .istore_n 3, 2, 0, [3], 0, 0),
  (2, .iload_n 3, 3, 0, [3], 0, 0),
  (3, .aload_n 0, 4, 0, [0], 0, 0),
  (4, .getfield 23, 7, 475, [0, 7, 0], 0, 0),
  (7, .getfield 67, 10, 199, [1, 2, 6], 0, 0),
  (10, .if_icmp .ge (77), 13, 0, [87], 0, 0),
  (13, .aload_n 0, 14, 0, [0], 0, 0),
  (14, .getfield 42, 17, 483, [0, 7, 6], 0, 0),
  (17, .ifCond .ne (70), 20, 0, [87], 0, 0),
  (20, .aload_n 0, 21, 0, [0], 0, 0),
  (21, .iload_n 1, 22, 0, [1], 0, 0),
  (22, .invokevirtual 69, 25, 1221, [406, 2, 0, 7, 1223, 40, 136, 1224], 0, 0),
  (25, .istore 4, 27, 0, [4], 0, 0),
  (27, .iload 4, 29, 0, [4], 0, 0),
  (29, .ifCond .ne (4), 32, 0, [33], 0, 0),
  (32, .return_, 33, 0, [], 0, 0),
  (33, .aload_n 0, 34, 0, [0], 0, 0),
  (34, .iload 4, 36, 0, [4], 0, 0),
  (36, .aload_n 0, 37, 0, [0], 0, 0),
  (37, .getfield 23, 40, 475, [0, 7, 0], 0, 0),
  (40, .getfield 72, 43, 203, [1, 2, 7], 0, 0),
  (43, .iload_n 2, 44, 0, [2], 0, 0),
  (44, .imul, 45, 0, [], 0, 0),
  (45, .invokevirtual 75, 48, 1233, [408, 3, 0, 7, 1235, 42, 136, 1236], 0, 0),
  (48, .istore 5, 50, 0, [5], 0, 0),
  (50, .aload_n 0, 51, 0, [0], 0, 0),
  (51, .getfield 15, 54, 478, [0, 7, 3], 0, 0),
  (54, .iload 4, 56, 0, [4], 0, 0),
  (56, .bipush (127), 58, 0, [], 127, 0),
  (58, .iand, 59, 0, [], 0, 0),
  (59, .iconst (1), 60, 0, [], 1, 0),
  (60, .bastore, 61, 0, [], 0, 0),
  (61, .aload_n 0, 62, 0, [0], 0, 0),
  (62, .iload_n 1, 63, 0, [1], 0, 0),
  (63, .iload 4, 65, 0, [4], 0, 0),
  (65, .iload 5, 67, 0, [5], 0, 0),
  (67, .invokevirtual 79, 70, 1238, [409, 4, 0, 7, 1240, 43, 136, 1241], 0, 0),
  (70, .iload 5, 72, 0, [5], 0, 0),
  (72, .ifCond .ne (9), 75, 0, [81], 0, 0),
  (75, .aload_n 0, 76, 0, [0], 0, 0),
  (76, .iload 4, 78, 0, [4], 0, 0),
  (78, .putfield 42, 81, 483, [0, 7, 6], 0, 0),
  (81, .iinc 3 (1), 84, 0, [3], 1, 0),
  (84, .goto (-82), 87, 0, [2, 4, 5], 0, 0),
  (87, .return_, 88, 0, [], 0, 0)]
def pt_m405 : pm_Me := (⟨"TurnCabinet$Forming", "letForm", "(II)V"⟩, prog_4_method_5_code, 6, none, 3, 69, pt_q405_0)
-- TurnCabinet$Forming.choice(I)I
def pt_q406_0 : List pm_Q := [(0, .iconst (0), 1, 0, [], 0, 0),
  (1, .istore_n 2, 2, 0, [2], 0, 0),
  (2, .iconst (1), 3, 0, [], 1, 0),
  (3, .istore_n 3, 4, 0, [3], 0, 0),
  (4, .iload_n 3, 5, 0, [3], 0, 0),
  (5, .aload_n 0, 6, 0, [0], 0, 0),
  (6, .getfield 23, 9, 475, [0, 7, 0], 0, 0),
  (9, .invokevirtual 83, 12, 1225, [507, 1, 0, 2, 770, 771, 127, 772], 0, 0),
  (12, .if_icmp .gt (63), 15, 0, [75], 0, 0),
  (15, .iload_n 3, 16, 0, [3], 0, 0),
  (16, .sipush (128), 19, 0, [], 128, 0),
  (19, .if_icmp .ge (56), 22, 0, [75], 0, 0),
  (22, .iload_n 1, 23, 0, [1], 0, 0),
  (23, .iload_n 3, 24, 0, [3], 0, 0),
  (24, .invokestatic 60, 27, 1215, [151, 2, 1, 639, 125, 640], 0, 0),
  (27, .ifCond .eq (42), 30, 0, [69], 0, 0),
  (30, .aload_n 0, 31, 0, [0], 0, 0),
  (31, .getfield 15, 34, 478, [0, 7, 3], 0, 0),
  (34, .iload_n 3, 35, 0, [3], 0, 0),
  (35, .baload, 36, 0, [], 0, 0),
  (36, .ifCond .ne (33), 39, 0, [69], 0, 0),
  (39, .aload_n 0, 40, 0, [0], 0, 0),
  (40, .getfield 27, 43, 476, [0, 7, 1], 0, 0),
  (43, .iload_n 3, 44, 0, [3], 0, 0),
  (44, .invokevirtual 87, 47, 1226, [310, 2, 0, 6, 1032, 1033, 135, 1034], 0, 0),
  (47, .ifCond .ne (6), 50, 0, [53], 0, 0),
  (50, .goto (19), 53, 0, [69], 0, 0),
  (53, .iload_n 2, 54, 0, [2], 0, 0),
  (54, .ifCond .eq (13), 57, 0, [67], 0, 0),
  (57, .aload_n 0, 58, 0, [0], 0, 0),
  (58, .iload_n 1, 59, 0, [1], 0, 0),
  (59, .iload_n 3, 60, 0, [3], 0, 0),
  (60, .iload_n 2, 61, 0, [2], 0, 0),
  (61, .invokevirtual 93, 64, 1227, [407, 4, 0, 7, 1229, 41, 136, 1230], 0, 0),
  (64, .ifCond .eq (5), 67, 0, [69], 0, 0),
  (67, .iload_n 3, 68, 0, [3], 0, 0),
  (68, .istore_n 2, 69, 0, [2], 0, 0),
  (69, .iinc 3 (1), 72, 0, [3], 1, 0),
  (72, .goto (-68), 75, 0, [4], 0, 0),
  (75, .iload_n 2, 76, 0, [2], 0, 0),
  (76, .ireturn, 77, 0, [], 0, 0)]
def pt_m406 : pm_Me := (⟨"TurnCabinet$Forming", "choice", "(I)I"⟩, prog_4_method_6_code, 4, some .int, 2, 46, pt_q406_0)
-- TurnCabinet$Forming.isLiked(III)Z
def pt_q407_0 : List pm_Q := [(0, .aload_n 0, 1, 0, [0], 0, 0),
  (1, .getfield 27, 4, 476, [0, 7, 1], 0, 0),
  (4, .iload_n 2, 5, 0, [2], 0, 0),
  (5, .iload_n 1, 6, 0, [1], 0, 0),
  (6, .invokevirtual 97, 9, 1231, [308, 3, 0, 6, 970, 971, 135, 972], 0, 0),
  (9, .aload_n 0, 10, 0, [0], 0, 0),
  (10, .getfield 27, 13, 476, [0, 7, 1], 0, 0),
  (13, .iload_n 3, 14, 0, [3], 0, 0),
  (14, .iload_n 1, 15, 0, [1], 0, 0),
  (15, .invokevirtual 97, 18, 1231, [308, 3, 0, 6, 970, 971, 135, 972], 0, 0),
  (18, .isub, 19, 0, [], 0, 0),
  (19, .istore 4, 21, 0, [4], 0, 0),
  (21, .iload 4, 23, 0, [4], 0, 0),
  (23, .ifCond .gt (19), 26, 0, [42], 0, 0),
  (26, .iload 4, 28, 0, [4], 0, 0),
  (28, .ifCond .ne (18), 31, 0, [46], 0, 0),
  (31, .iload_n 2, 32, 0, [2], 0, 0),
  (32, .invokestatic 100, 35, 1232, [1508, 1, 0, 740, 140, 741], 0, 0),
  (35, .iload_n 3, 36, 0, [3], 0, 0),
  (36, .invokestatic 100, 39, 1232, [1508, 1, 0, 740, 140, 741], 0, 0),
  (39, .if_icmp .ge (7), 42, 0, [46], 0, 0),
  (42, .iconst (1), 43, 0, [], 1, 0),
  (43, .goto (4), 46, 0, [47], 0, 0),
  (46, .iconst (0), 47, 0, [], 0, 0),
  (47, .ireturn, 48, 0, [], 0, 0)]
def pt_m407 : pm_Me := (⟨"TurnCabinet$Forming", "isLiked", "(III)Z"⟩, prog_4_method_7_code, 5, some .boolean, 1, 22, pt_q407_0)
-- TurnCabinet$Forming.walkersFrom(II)I
def pt_q408_0 : List pm_Q := [(0, .iconst (0), 1, 0, [], 0, 0),
  (1, .istore_n 3, 2, 0, [3], 0, 0),
  (2, .iconst (0), 3, 0, [], 0, 0),
  (3, .istore 4, 5, 0, [4], 0, 0),
  (5, .iload 4, 7, 0, [4], 0, 0),
  (7, .aload_n 0, 8, 0, [0], 0, 0),
  (8, .getfield 23, 11, 475, [0, 7, 0], 0, 0),
  (11, .getfield 49, 14, 172, [1, 2, 0], 0, 0),
  (14, .if_icmp .ge (49), 17, 0, [63], 0, 0),
  (17, .iload 4, 19, 0, [4], 0, 0),
  (19, .iload_n 1, 20, 0, [1], 0, 0),
  (20, .invokestatic 60, 23, 1215, [151, 2, 1, 639, 125, 640], 0, 0),
  (23, .ifCond .eq (34), 26, 0, [57], 0, 0),
  (26, .aload_n 0, 27, 0, [0], 0, 0),
  (27, .getfield 27, 30, 476, [0, 7, 1], 0, 0),
  (30, .iload_n 1, 31, 0, [1], 0, 0),
  (31, .iload 4, 33, 0, [4], 0, 0),
  (33, .invokevirtual 97, 36, 1231, [308, 3, 0, 6, 970, 971, 135, 972], 0, 0),
  (36, .aload_n 0, 37, 0, [0], 0, 0),
  (37, .getfield 23, 40, 475, [0, 7, 0], 0, 0),
  (40, .iload 4, 42, 0, [4], 0, 0),
  (42, .invokevirtual 105, 45, 1237, [510, 2, 0, 2, 722, 723, 127, 724], 0, 0),
  (45, .iload_n 2, 46, 0, [2], 0, 0),
  (46, .isub, 47, 0, [], 0, 0),
  (47, .if_icmp .ge (10), 50, 0, [57], 0, 0),
  (50, .iload_n 3, 51, 0, [3], 0, 0),
  (51, .iconst (1), 52, 0, [], 1, 0),
  (52, .iload 4, 54, 0, [4], 0, 0),
  (54, .ishl, 55, 0, [], 0, 0),
  (55, .ior, 56, 0, [], 0, 0),
  (56, .istore_n 3, 57, 0, [3], 0, 0),
  (57, .iinc 4 (1), 60, 0, [4], 1, 0),
  (60, .goto (-55), 63, 0, [5], 0, 0),
  (63, .iload_n 3, 64, 0, [3], 0, 0),
  (64, .ireturn, 65, 0, [], 0, 0)]
def pt_m408 : pm_Me := (⟨"TurnCabinet$Forming", "walkersFrom", "(II)I"⟩, prog_4_method_8_code, 5, some .int, 1, 22, pt_q408_0)
-- TurnCabinet$Forming.keep(III)V
def pt_q409_0 : List pm_Q := [(0, .aload_n 0, 1, 0, [0], 0, 0),
  (1, .getfield 36, 4, 479, [0, 7, 4], 0, 0),
  (4, .ifCond .lt (13), 7, 0, [17], 0, 0),
  (7, .aload_n 0, 8, 0, [0], 0, 0),
  (8, .getfield 36, 11, 479, [0, 7, 4], 0, 0),
  (11, .sipush (567), 14, 0, [], 567, 0),
  (14, .if_icmp .lt (4), 17, 0, [18], 0, 0),
  (17, .return_, 18, 0, [], 0, 0),
  (18, .aload_n 0, 19, 0, [0], 0, 0),
  (19, .getfield 9, 22, 477, [0, 7, 2], 0, 0),
  (22, .aload_n 0, 23, 0, [0], 0, 0),
  (23, .getfield 36, 26, 479, [0, 7, 4], 0, 0),
  (26, .iload_n 1, 27, 0, [1], 0, 0),
  (27, .bipush (14), 29, 0, [], 14, 0),
  (29, .ishl, 30, 0, [], 0, 0),
  (30, .iload_n 3, 31, 0, [3], 0, 0),
  (31, .bipush (7), 33, 0, [], 7, 0),
  (33, .ishl, 34, 0, [], 0, 0),
  (34, .ior, 35, 0, [], 0, 0),
  (35, .iload_n 2, 36, 0, [2], 0, 0),
  (36, .ior, 37, 0, [], 0, 0),
  (37, .iastore, 38, 0, [], 0, 0),
  (38, .aload_n 0, 39, 0, [0], 0, 0),
  (39, .dup, 40, 0, [], 0, 0),
  (40, .getfield 36, 43, 479, [0, 7, 4], 0, 0),
  (43, .iconst (1), 44, 0, [], 1, 0),
  (44, .iadd, 45, 0, [], 0, 0),
  (45, .putfield 36, 48, 479, [0, 7, 4], 0, 0),
  (48, .return_, 49, 0, [], 0, 0)]
def pt_m409 : pm_Me := (⟨"TurnCabinet$Forming", "keep", "(III)V"⟩, prog_4_method_9_code, 4, none, 0, 0, pt_q409_0)
-- TurnCabinet$Forming.formerOf(I)I
def pt_q411_0 : List pm_Q := [(0, .aload_n 0, 1, 0, [0], 0, 0),
  (1, .iload_n 1, 2, 0, [1], 0, 0),
  (2, .invokevirtual 108, 5, 1246, [410, 2, 0, 7, 1248, 44, 136, 1249], 0, 0),
  (5, .ifCond .eq (15), 8, 0, [20], 0, 0),
  (8, .aload_n 0, 9, 0, [0], 0, 0),
  (9, .getfield 9, 12, 477, [0, 7, 2], 0, 0),
  (12, .iload_n 1, 13, 0, [1], 0, 0),
  (13, .iaload, 14, 0, [], 0, 0),
  (14, .bipush (14), 16, 0, [], 14, 0),
  (16, .iushr, 17, 0, [], 0, 0),
  (17, .goto (4), 20, 0, [21], 0, 0),
  (20, .iconst (-1), 21, 0, [], -1, 0),
  (21, .ireturn, 22, 0, [], 0, 0)]
def pt_m411 : pm_Me := (⟨"TurnCabinet$Forming", "formerOf", "(I)I"⟩, prog_4_method_11_code, 2, some .int, 1, 21, pt_q411_0)
-- TurnCabinet$Forming.wasMade(I)Z
def pt_q410_0 : List pm_Q := [(0, .iload_n 1, 1, 0, [1], 0, 0),
  (1, .ifCond .lt (22), 4, 0, [23], 0, 0),
  (4, .iload_n 1, 5, 0, [1], 0, 0),
  (5, .aload_n 0, 6, 0, [0], 0, 0),
  (6, .getfield 36, 9, 479, [0, 7, 4], 0, 0),
  (9, .if_icmp .ge (14), 12, 0, [23], 0, 0),
  (12, .iload_n 1, 13, 0, [1], 0, 0),
  (13, .sipush (567), 16, 0, [], 567, 0),
  (16, .if_icmp .ge (7), 19, 0, [23], 0, 0),
  (19, .iconst (1), 20, 0, [], 1, 0),
  (20, .goto (4), 23, 0, [24], 0, 0),
  (23, .iconst (0), 24, 0, [], 0, 0),
  (24, .ireturn, 25, 0, [], 0, 0)]
def pt_m410 : pm_Me := (⟨"TurnCabinet$Forming", "wasMade", "(I)Z"⟩, prog_4_method_10_code, 2, some .boolean, 0, 0, pt_q410_0)
-- TurnCabinet.tried(II)I
def pt_q136_0 : List pm_Q := [(0, .aload_n 0, 1, 0, [0], 0, 0),
  (1, .getfield 53, 4, 541, [0, 0, 5], 0, 0),
  (4, .invokevirtual 237, 7, 1027, [304, 1, 0, 6, 1028, 1029, 135, 1030], 0, 0),
  (7, .aload_n 0, 8, 0, [0], 0, 0),
  (8, .getfield 62, 11, 542, [0, 0, 6], 0, 0),
  (11, .invokevirtual 291, 14, 1203, [402, 1, 0, 7, 1204, 1205, 136, 1206], 0, 0),
  (14, .iload_n 2, 15, 0, [2], 0, 0),
  (15, .tableswitch (52) (0) (2) #[25, 34, 43], 40, 0, [67, 40, 49, 58], 0, 0),
  (40, .aload_n 0, 41, 0, [0], 0, 0),
  (41, .getfield 62, 44, 542, [0, 0, 6], 0, 0),
  (44, .iload_n 1, 45, 0, [1], 0, 0),
  (45, .invokevirtual 303, 48, 1242, [411, 2, 0, 7, 1243, 1244, 136, 1245], 0, 0),
  (48, .ireturn, 49, 0, [], 0, 0),
  (49, .aload_n 0, 50, 0, [0], 0, 0),
  (50, .getfield 62, 53, 542, [0, 0, 6], 0, 0),
  (53, .iload_n 1, 54, 0, [1], 0, 0),
  (54, .invokevirtual 306, 57, 1254, [412, 2, 0, 7, 1255, 1256, 136, 1257], 0, 0),
  (57, .ireturn, 58, 0, [], 0, 0),
  (58, .aload_n 0, 59, 0, [0], 0, 0),
  (59, .getfield 62, 62, 542, [0, 0, 6], 0, 0),
  (62, .iload_n 1, 63, 0, [1], 0, 0),
  (63, .invokevirtual 309, 66, 1258, [413, 2, 0, 7, 1259, 1260, 136, 1261], 0, 0),
  (66, .ireturn, 67, 0, [], 0, 0),
  (67, .iconst (-1), 68, 0, [], -1, 0),
  (68, .ireturn, 69, 0, [], 0, 0)]
def pt_m136 : pm_Me := (⟨"TurnCabinet", "tried", "(II)I"⟩, prog_1_method_36_code, 3, some .int, 6, 149, pt_q136_0)
-- TurnCabinet$Forming.coalitionOf(I)I
def pt_q412_0 : List pm_Q := [(0, .aload_n 0, 1, 0, [0], 0, 0),
  (1, .iload_n 1, 2, 0, [1], 0, 0),
  (2, .invokevirtual 108, 5, 1246, [410, 2, 0, 7, 1248, 44, 136, 1249], 0, 0),
  (5, .ifCond .eq (15), 8, 0, [20], 0, 0),
  (8, .aload_n 0, 9, 0, [0], 0, 0),
  (9, .getfield 9, 12, 477, [0, 7, 2], 0, 0),
  (12, .iload_n 1, 13, 0, [1], 0, 0),
  (13, .iaload, 14, 0, [], 0, 0),
  (14, .bipush (127), 16, 0, [], 127, 0),
  (16, .iand, 17, 0, [], 0, 0),
  (17, .goto (4), 20, 0, [21], 0, 0),
  (20, .iconst (-1), 21, 0, [], -1, 0),
  (21, .ireturn, 22, 0, [], 0, 0)]
def pt_m412 : pm_Me := (⟨"TurnCabinet$Forming", "coalitionOf", "(I)I"⟩, prog_4_method_12_code, 2, some .int, 1, 21, pt_q412_0)
-- TurnCabinet$Forming.walkersOf(I)I
def pt_q413_0 : List pm_Q := [(0, .aload_n 0, 1, 0, [0], 0, 0),
  (1, .iload_n 1, 2, 0, [1], 0, 0),
  (2, .invokevirtual 108, 5, 1246, [410, 2, 0, 7, 1248, 44, 136, 1249], 0, 0),
  (5, .ifCond .eq (18), 8, 0, [23], 0, 0),
  (8, .aload_n 0, 9, 0, [0], 0, 0),
  (9, .getfield 9, 12, 477, [0, 7, 2], 0, 0),
  (12, .iload_n 1, 13, 0, [1], 0, 0),
  (13, .iaload, 14, 0, [], 0, 0),
  (14, .bipush (7), 16, 0, [], 7, 0),
  (16, .iushr, 17, 0, [], 0, 0),
  (17, .bipush (127), 19, 0, [], 127, 0),
  (19, .iand, 20, 0, [], 0, 0),
  (20, .goto (4), 23, 0, [24], 0, 0),
  (23, .iconst (-1), 24, 0, [], -1, 0),
  (24, .ireturn, 25, 0, [], 0, 0)]
def pt_m413 : pm_Me := (⟨"TurnCabinet$Forming", "walkersOf", "(I)I"⟩, prog_4_method_13_code, 2, some .int, 1, 21, pt_q413_0)
-- TurnCabinet.hold(II)I
def pt_q137_0 : List pm_Q := [(0, .aload_n 0, 1, 0, [0], 0, 0),
  (1, .getfield 19, 4, 537, [0, 0, 1], 0, 0),
  (4, .iload_n 1, 5, 0, [1], 0, 0),
  (5, .invokevirtual 174, 8, 793, [506, 2, 0, 2, 794, 795, 127, 796], 0, 0),
  (8, .ifCond .eq (10), 11, 0, [18], 0, 0),
  (11, .iload_n 2, 12, 0, [2], 0, 0),
  (12, .invokestatic 189, 15, 823, [149, 1, 0, 824, 125, 825], 0, 0),
  (15, .ifCond .ne (5), 18, 0, [20], 0, 0),
  (18, .iconst (-1), 19, 0, [], -1, 0),
  (19, .ireturn, 20, 0, [], 0, 0),
  (20, .aload_n 0, 21, 0, [0], 0, 0),
  (21, .getfield 69, 24, 543, [0, 0, 7], 0, 0),
  (24, .iload_n 1, 25, 0, [1], 0, 0),
  (25, .aload_n 0, 26, 0, [0], 0, 0),
  (26, .getfield 53, 29, 541, [0, 0, 5], 0, 0),
  (29, .iload_n 1, 30, 0, [1], 0, 0),
  (30, .iload_n 2, 31, 0, [2], 0, 0),
  (31, .invokevirtual 192, 34, 826, [307, 3, 0, 6, 827, 828, 135, 829], 0, 0),
  (34, .invokevirtual 312, 37, 1266, [208, 3, 0, 8, 1267, 1268, 137, 1269], 0, 0),
  (37, .ireturn, 38, 0, [], 0, 0)]
def pt_m137 : pm_Me := (⟨"TurnCabinet", "hold", "(II)I"⟩, prog_1_method_37_code, 3, some .int, 6, 151, pt_q137_0)
-- TurnCabinet$Cabinet.install(II)I
def pt_q208_0 : List pm_Q := [(0, .aload_n 0, 1, 0, [0], 0, 0),
  (1, .iconst (-1), 2, 0, [], -1, 0),
  (2, .invokevirtual 82, 5, 1270, [214, 2, 0, 8, 1271, 1272, 137, 1273], 0, 0),
  (5, .aload_n 0, 6, 0, [0], 0, 0),
  (6, .iload_n 1, 7, 0, [1], 0, 0),
  (7, .putfield 28, 10, 514, [0, 8, 5], 0, 0),
  (10, .aload_n 0, 11, 0, [0], 0, 0),
  (11, .iload_n 2, 12, 0, [2], 0, 0),
  (12, .putfield 32, 15, 516, [0, 8, 6], 0, 0),
  (15, .iconst (0), 16, 0, [], 0, 0),
  (16, .istore_n 3, 17, 0, [3], 0, 0),
  (17, .iconst (0), 18, 0, [], 0, 0),
  (18, .istore 4, 20, 0, [4], 0, 0),
  (20, .iload 4, 22, 0, [4], 0, 0),
  (22, .aload_n 0, 23, 0, [0], 0, 0),
  (23, .getfield 24, 26, 509, [0, 8, 0], 0, 0),
  (26, .getfield 86, 29, 175, [1, 2, 0], 0, 0),
  (29, .if_icmp .ge (21), 32, 0, [50], 0, 0),
  (32, .aload_n 0, 33, 0, [0], 0, 0),
  (33, .iload 4, 35, 0, [4], 0, 0),
  (35, .invokevirtual 57, 38, 729, [206, 2, 0, 8, 731, 18, 137, 732], 0, 0),
  (38, .ifCond .eq (6), 41, 0, [44], 0, 0),
  (41, .iinc 3 (1), 44, 0, [3], 1, 0),
  (44, .iinc 4 (1), 47, 0, [4], 1, 0),
  (47, .goto (-27), 50, 0, [20], 0, 0),
  (50, .iload_n 3, 51, 0, [3], 0, 0),
  (51, .ireturn, 52, 0, [], 0, 0)]
def pt_m208 : pm_Me := (⟨"TurnCabinet$Cabinet", "install", "(II)I"⟩, prog_2_method_8_code, 5, some .int, 3, 66, pt_q208_0)
-- TurnCabinet$Cabinet.remember(I)V
def pt_q214_0 : List pm_Q := [(0, .aload_n 0, 1, 0, [0], 0, 0),
  (1, .getfield 35, 4, 517, [0, 8, 7], 0, 0),
  (4, .bipush (12), 6, 0, [], 12, 0),
  (6, .if_icmp .lt (7), 9, 0, [13], 0, 0),
  (9, .aload_n 0, 10, 0, [0], 0, 0),
  (10, .invokevirtual 130, 13, 1274, [215, 1, 0, 8, 1276, 45, 137, 1277], 0, 0),
  (13, .aload_n 0, 14, 0, [0], 0, 0),
  (14, .getfield 35, 17, 517, [0, 8, 7], 0, 0),
  (17, .istore_n 2, 18, 0, [2], 0, 0),
  (18, .iload_n 2, 19, 0, [2], 0, 0),
  (19, .ifCond .lt (9), 22, 0, [28], 0, 0),
  (22, .iload_n 2, 23, 0, [2], 0, 0),
  (23, .bipush (12), 25, 0, [], 12, 0),
  (25, .if_icmp .lt (4), 28, 0, [29], 0, 0),
  (28, .return_, 29, 0, [], 0, 0),
  (29, .aload_n 0, 30, 0, [0], 0, 0),
  (30, .getfield 9, 33, 510, [0, 8, 1], 0, 0),
  (33, .iload_n 2, 34, 0, [2], 0, 0),
  (34, .aload_n 0, 35, 0, [0], 0, 0),
  (35, .getfield 28, 38, 514, [0, 8, 5], 0, 0),
  (38, .iastore, 39, 0, [], 0, 0),
  (39, .aload_n 0, 40, 0, [0], 0, 0),
  (40, .getfield 15, 43, 511, [0, 8, 2], 0, 0),
  (43, .iload_n 2, 44, 0, [2], 0, 0),
  (44, .aload_n 0, 45, 0, [0], 0, 0),
  (45, .getfield 32, 48, 516, [0, 8, 6], 0, 0),
  (48, .iastore, 49, 0, [], 0, 0),
  (49, .aload_n 0, 50, 0, [0], 0, 0),
  (50, .getfield 18, 53, 512, [0, 8, 3], 0, 0),
  (53, .iload_n 2, 54, 0, [2], 0, 0),
  (54, .iload_n 1, 55, 0, [1], 0, 0),
  (55, .iastore, 56, 0, [], 0, 0),
  (56, .aload_n 0, 57, 0, [0], 0, 0),
  (57, .getfield 21, 60, 513, [0, 8, 4], 0, 0),
  (60, .iload_n 2, 61, 0, [2], 0, 0),
  (61, .iload_n 1, 62, 0, [1], 0, 0),
  (62, .iconst (-1), 63, 0, [], -1, 0),
  (63, .if_icmp .ne (7), 66, 0, [70], 0, 0),
  (66, .iconst (0), 67, 0, [], 0, 0),
  (67, .goto (11), 70, 0, [78], 0, 0),
  (70, .aload_n 0, 71, 0, [0], 0, 0),
  (71, .getfield 24, 74, 509, [0, 8, 0], 0, 0),
  (74, .iload_n 1, 75, 0, [1], 0, 0),
  (75, .invokevirtual 133, 78, 1278, [508, 2, 0, 2, 714, 715, 127, 716], 0, 0),
  (78, .iastore, 79, 0, [], 0, 0),
  (79, .aload_n 0, 80, 0, [0], 0, 0),
  (80, .dup, 81, 0, [], 0, 0),
  (81, .getfield 35, 84, 517, [0, 8, 7], 0, 0),
  (84, .iconst (1), 85, 0, [], 1, 0),
  (85, .iadd, 86, 0, [], 0, 0),
  (86, .putfield 35, 89, 517, [0, 8, 7], 0, 0),
  (89, .return_, 90, 0, [], 0, 0)]
def pt_m214 : pm_Me := (⟨"TurnCabinet$Cabinet", "remember", "(I)V"⟩, prog_2_method_14_code, 3, none, 1, 21, pt_q214_0)
-- TurnCabinet$Cabinet.dropOldest()V
def pt_q215_0 : List pm_Q := [(0, .iconst (1), 1, 0, [], 1, 0),
  (1, .istore_n 1, 2, 0, [1], 0, 0),
  (2, .iload_n 1, 3, 0, [1], 0, 0),
  (3, .bipush (12), 5, 0, [], 12, 0),
  (5, .if_icmp .ge (65), 8, 0, [70], 0, 0),
  (8, .aload_n 0, 9, 0, [0], 0, 0),
  (9, .getfield 9, 12, 510, [0, 8, 1], 0, 0),
  (12, .iload_n 1, 13, 0, [1], 0, 0),
  (13, .iconst (1), 14, 0, [], 1, 0),
  (14, .isub, 15, 0, [], 0, 0),
  (15, .aload_n 0, 16, 0, [0], 0, 0),
  (16, .getfield 9, 19, 510, [0, 8, 1], 0, 0),
  (19, .iload_n 1, 20, 0, [1], 0, 0),
  (20, .iaload, 21, 0, [], 0, 0),
  (21, .iastore, 22, 0, [], 0, 0),
  (22, .aload_n 0, 23, 0, [0], 0, 0),
  (23, .getfield 15, 26, 511, [0, 8, 2], 0, 0),
  (26, .iload_n 1, 27, 0, [1], 0, 0),
  (27, .iconst (1), 28, 0, [], 1, 0),
  (28, .isub, 29, 0, [], 0, 0),
  (29, .aload_n 0, 30, 0, [0], 0, 0),
  (30, .getfield 15, 33, 511, [0, 8, 2], 0, 0),
  (33, .iload_n 1, 34, 0, [1], 0, 0),
  (34, .iaload, 35, 0, [], 0, 0),
  (35, .iastore, 36, 0, [], 0, 0),
  (36, .aload_n 0, 37, 0, [0], 0, 0),
  (37, .getfield 18, 40, 512, [0, 8, 3], 0, 0),
  (40, .iload_n 1, 41, 0, [1], 0, 0),
  (41, .iconst (1), 42, 0, [], 1, 0),
  (42, .isub, 43, 0, [], 0, 0),
  (43, .aload_n 0, 44, 0, [0], 0, 0),
  (44, .getfield 18, 47, 512, [0, 8, 3], 0, 0),
  (47, .iload_n 1, 48, 0, [1], 0, 0),
  (48, .iaload, 49, 0, [], 0, 0),
  (49, .iastore, 50, 0, [], 0, 0),
  (50, .aload_n 0, 51, 0, [0], 0, 0),
  (51, .getfield 21, 54, 513, [0, 8, 4], 0, 0),
  (54, .iload_n 1, 55, 0, [1], 0, 0),
  (55, .iconst (1), 56, 0, [], 1, 0),
  (56, .isub, 57, 0, [], 0, 0),
  (57, .aload_n 0, 58, 0, [0], 0, 0),
  (58, .getfield 21, 61, 513, [0, 8, 4], 0, 0),
  (61, .iload_n 1, 62, 0, [1], 0, 0),
  (62, .iaload, 63, 0, [], 0, 0),
  (63, .iastore, 64, 0, [], 0, 0),
  (64, .iinc 1 (1), 67, 0, [1], 1, 0),
  (67, .goto (-65), 70, 0, [2], 0, 0),
  (70, .aload_n 0, 71, 0, [0], 0, 0),
  (71, .bipush (11), 73, 0, [], 11, 0),
  (73, .putfield 35, 76, 517, [0, 8, 7], 0, 0),
  (76, .return_, 77, 0, [], 0, 0)]
def pt_m215 : pm_Me := (⟨"TurnCabinet$Cabinet", "dropOldest", "()V"⟩, prog_2_method_15_code, 2, none, 0, 0, pt_q215_0)
-- TurnCabinet.now(I)I
def pt_q138_0 : List pm_Q := [(0, .iload_n 1, 1, 0, [1], 0, 0),
  (1, .iconst (-1), 2, 0, [], -1, 0),
  (2, .if_icmp .ne (13), 5, 0, [15], 0, 0),
  (5, .aload_n 0, 6, 0, [0], 0, 0),
  (6, .getfield 69, 9, 543, [0, 0, 7], 0, 0),
  (9, .getfield 315, 12, 515, [1, 8, 5], 0, 0),
  (12, .goto (11), 15, 0, [23], 0, 0),
  (15, .aload_n 0, 16, 0, [0], 0, 0),
  (16, .getfield 69, 19, 543, [0, 0, 7], 0, 0),
  (19, .iload_n 1, 20, 0, [1], 0, 0),
  (20, .invokevirtual 318, 23, 1283, [204, 2, 0, 8, 1284, 1285, 137, 1286], 0, 0),
  (23, .ireturn, 24, 0, [], 0, 0)]
def pt_m138 : pm_Me := (⟨"TurnCabinet", "now", "(I)I"⟩, prog_1_method_38_code, 2, some .int, 2, 42, pt_q138_0)
-- TurnCabinet$Cabinet.holderOf(I)I
def pt_q204_0 : List pm_Q := [(0, .aload_n 0, 1, 0, [0], 0, 0),
  (1, .getfield 28, 4, 514, [0, 8, 5], 0, 0),
  (4, .ifCond .eq (25), 7, 0, [29], 0, 0),
  (7, .aload_n 0, 8, 0, [0], 0, 0),
  (8, .getfield 24, 11, 509, [0, 8, 0], 0, 0),
  (11, .iload_n 1, 12, 0, [1], 0, 0),
  (12, .invokevirtual 48, 15, 1287, [505, 2, 0, 2, 754, 755, 127, 756], 0, 0),
  (15, .ifCond .eq (14), 18, 0, [29], 0, 0),
  (18, .aload_n 0, 19, 0, [0], 0, 0),
  (19, .getfield 32, 22, 516, [0, 8, 6], 0, 0),
  (22, .iload_n 1, 23, 0, [1], 0, 0),
  (23, .invokestatic 51, 26, 1288, [902, 2, 0, 737, 139, 738], 0, 0),
  (26, .goto (4), 29, 0, [30], 0, 0),
  (29, .iconst (-1), 30, 0, [], -1, 0),
  (30, .ireturn, 31, 0, [], 0, 0)]
def pt_m204 : pm_Me := (⟨"TurnCabinet$Cabinet", "holderOf", "(I)I"⟩, prog_2_method_4_code, 2, some .int, 1, 21, pt_q204_0)
-- TurnCabinet.leave(I)I
def pt_q139_0 : List pm_Q := [(0, .aload_n 0, 1, 0, [0], 0, 0),
  (1, .getfield 69, 4, 543, [0, 0, 7], 0, 0),
  (4, .iload_n 1, 5, 0, [1], 0, 0),
  (5, .invokevirtual 321, 8, 1293, [203, 2, 0, 8, 1294, 1295, 137, 1296], 0, 0),
  (8, .ifCond .ne (5), 11, 0, [13], 0, 0),
  (11, .iconst (-1), 12, 0, [], -1, 0),
  (12, .ireturn, 13, 0, [], 0, 0),
  (13, .aload_n 0, 14, 0, [0], 0, 0),
  (14, .getfield 69, 17, 543, [0, 0, 7], 0, 0),
  (17, .iconst (-1), 18, 0, [], -1, 0),
  (18, .invokevirtual 324, 21, 1299, [214, 2, 0, 8, 1271, 1272, 137, 1273], 0, 0),
  (21, .aload_n 0, 22, 0, [0], 0, 0),
  (22, .getfield 69, 25, 543, [0, 0, 7], 0, 0),
  (25, .iload_n 1, 26, 0, [1], 0, 0),
  (26, .invokevirtual 327, 29, 1300, [212, 2, 0, 8, 1301, 1302, 137, 1303], 0, 0),
  (29, .ireturn, 30, 0, [], 0, 0)]
def pt_m139 : pm_Me := (⟨"TurnCabinet", "leave", "(I)I"⟩, prog_1_method_39_code, 2, some .int, 4, 92, pt_q139_0)
-- TurnCabinet$Cabinet.includes(I)Z
def pt_q203_0 : List pm_Q := [(0, .aload_n 0, 1, 0, [0], 0, 0),
  (1, .getfield 24, 4, 509, [0, 8, 0], 0, 0),
  (4, .iload_n 1, 5, 0, [1], 0, 0),
  (5, .invokevirtual 38, 8, 1297, [504, 2, 0, 2, 710, 711, 127, 712], 0, 0),
  (8, .ifCond .eq (18), 11, 0, [26], 0, 0),
  (11, .iload_n 1, 12, 0, [1], 0, 0),
  (12, .aload_n 0, 13, 0, [0], 0, 0),
  (13, .getfield 28, 16, 514, [0, 8, 5], 0, 0),
  (16, .invokestatic 44, 19, 1298, [151, 2, 1, 639, 125, 640], 0, 0),
  (19, .ifCond .eq (7), 22, 0, [26], 0, 0),
  (22, .iconst (1), 23, 0, [], 1, 0),
  (23, .goto (4), 26, 0, [27], 0, 0),
  (26, .iconst (0), 27, 0, [], 0, 0),
  (27, .ireturn, 28, 0, [], 0, 0)]
def pt_m203 : pm_Me := (⟨"TurnCabinet$Cabinet", "includes", "(I)Z"⟩, prog_2_method_3_code, 2, some .boolean, 1, 21, pt_q203_0)
-- TurnCabinet$Cabinet.letGo(I)I
def pt_q212_0 : List pm_Q := [(0, .aload_n 0, 1, 0, [0], 0, 0),
  (1, .iload_n 1, 2, 0, [1], 0, 0),
  (2, .invokevirtual 57, 5, 729, [206, 2, 0, 8, 731, 18, 137, 732], 0, 0),
  (5, .istore_n 2, 6, 0, [2], 0, 0),
  (6, .iload_n 2, 7, 0, [2], 0, 0),
  (7, .invokestatic 61, 10, 739, [1508, 1, 0, 740, 140, 741], 0, 0),
  (10, .istore_n 3, 11, 0, [3], 0, 0),
  (11, .aload_n 0, 12, 0, [0], 0, 0),
  (12, .dup, 13, 0, [], 0, 0),
  (13, .getfield 28, 16, 514, [0, 8, 5], 0, 0),
  (16, .iconst (1), 17, 0, [], 1, 0),
  (17, .iload_n 1, 18, 0, [1], 0, 0),
  (18, .ishl, 19, 0, [], 0, 0),
  (19, .iconst (-1), 20, 0, [], -1, 0),
  (20, .ixor, 21, 0, [], 0, 0),
  (21, .iand, 22, 0, [], 0, 0),
  (22, .putfield 28, 25, 514, [0, 8, 5], 0, 0),
  (25, .iconst (0), 26, 0, [], 0, 0),
  (26, .istore 4, 28, 0, [4], 0, 0),
  (28, .iload 4, 30, 0, [4], 0, 0),
  (30, .iload_n 3, 31, 0, [3], 0, 0),
  (31, .if_icmp .ge (84), 34, 0, [115], 0, 0),
  (34, .aload_n 0, 35, 0, [0], 0, 0),
  (35, .getfield 28, 38, 514, [0, 8, 5], 0, 0),
  (38, .ifCond .eq (77), 41, 0, [115], 0, 0),
  (41, .aload_n 0, 42, 0, [0], 0, 0),
  (42, .getfield 24, 45, 509, [0, 8, 0], 0, 0),
  (45, .aload_n 0, 46, 0, [0], 0, 0),
  (46, .getfield 28, 49, 514, [0, 8, 5], 0, 0),
  (49, .aload_n 0, 50, 0, [0], 0, 0),
  (50, .iload_n 2, 51, 0, [2], 0, 0),
  (51, .invokevirtual 108, 54, 1304, [213, 2, 0, 8, 1306, 46, 137, 1307], 0, 0),
  (54, .aload_n 0, 55, 0, [0], 0, 0),
  (55, .getfield 24, 58, 509, [0, 8, 0], 0, 0),
  (58, .getfield 111, 61, 187, [1, 2, 2], 0, 0),
  (61, .aload_n 0, 62, 0, [0], 0, 0),
  (62, .getfield 24, 65, 509, [0, 8, 0], 0, 0),
  (65, .getfield 114, 68, 192, [1, 2, 3], 0, 0),
  (68, .invokevirtual 117, 71, 1309, [518, 5, 0, 2, 805, 806, 127, 807], 0, 0),
  (71, .istore 5, 73, 0, [5], 0, 0),
  (73, .aload_n 0, 74, 0, [0], 0, 0),
  (74, .getfield 24, 77, 509, [0, 8, 0], 0, 0),
  (77, .iload 5, 79, 0, [5], 0, 0),
  (79, .iload_n 2, 80, 0, [2], 0, 0),
  (80, .invokevirtual 121, 83, 1310, [519, 3, 0, 2, 916, 917, 127, 918], 0, 0),
  (83, .istore 6, 85, 0, [6], 0, 0),
  (85, .aload_n 0, 86, 0, [0], 0, 0),
  (86, .aload_n 0, 87, 0, [0], 0, 0),
  (87, .getfield 32, 90, 516, [0, 8, 6], 0, 0),
  (90, .iload 6, 92, 0, [6], 0, 0),
  (92, .iload 5, 94, 0, [5], 0, 0),
  (94, .invokestatic 124, 97, 1311, [903, 3, 0, 812, 139, 813], 0, 0),
  (97, .putfield 32, 100, 516, [0, 8, 6], 0, 0),
  (100, .iload_n 2, 101, 0, [2], 0, 0),
  (101, .iconst (1), 102, 0, [], 1, 0),
  (102, .iload 6, 104, 0, [6], 0, 0),
  (104, .ishl, 105, 0, [], 0, 0),
  (105, .iconst (-1), 106, 0, [], -1, 0),
  (106, .ixor, 107, 0, [], 0, 0),
  (107, .iand, 108, 0, [], 0, 0)]
def pt_q212_1 : List pm_Q := [(108, .istore_n 2, 109, 0, [2], 0, 0),
  (109, .iinc 4 (1), 112, 0, [4], 1, 0),
  (112, .goto (-84), 115, 0, [28, 5, 6], 0, 0),
  (115, .iload_n 3, 116, 0, [3], 0, 0),
  (116, .ireturn, 117, 0, [], 0, 0)]
def pt_m212 : pm_Me := (⟨"TurnCabinet$Cabinet", "letGo", "(I)I"⟩, prog_2_method_12_code, 7, some .int, 3, 66, pt_q212_0 ++ pt_q212_1)
-- TurnCabinet$Cabinet.countsHeld(I)I
def pt_q213_0 : List pm_Q := [(0, .iconst (0), 1, 0, [], 0, 0),
  (1, .istore_n 2, 2, 0, [2], 0, 0),
  (2, .iconst (0), 3, 0, [], 0, 0),
  (3, .istore_n 3, 4, 0, [3], 0, 0),
  (4, .iload_n 3, 5, 0, [3], 0, 0),
  (5, .aload_n 0, 6, 0, [0], 0, 0),
  (6, .getfield 24, 9, 509, [0, 8, 0], 0, 0),
  (9, .getfield 66, 12, 180, [1, 2, 1], 0, 0),
  (12, .if_icmp .ge (30), 15, 0, [42], 0, 0),
  (15, .iload_n 3, 16, 0, [3], 0, 0),
  (16, .iload_n 1, 17, 0, [1], 0, 0),
  (17, .invokestatic 44, 20, 1298, [151, 2, 1, 639, 125, 640], 0, 0),
  (20, .ifCond .ne (16), 23, 0, [36], 0, 0),
  (23, .iload_n 2, 24, 0, [2], 0, 0),
  (24, .aload_n 0, 25, 0, [0], 0, 0),
  (25, .getfield 32, 28, 516, [0, 8, 6], 0, 0),
  (28, .iload_n 3, 29, 0, [3], 0, 0),
  (29, .invokestatic 51, 32, 1288, [902, 2, 0, 737, 139, 738], 0, 0),
  (32, .invokestatic 127, 35, 1308, [907, 2, 0, 815, 139, 816], 0, 0),
  (35, .istore_n 2, 36, 0, [2], 0, 0),
  (36, .iinc 3 (1), 39, 0, [3], 1, 0),
  (39, .goto (-35), 42, 0, [4], 0, 0),
  (42, .iload_n 2, 43, 0, [2], 0, 0),
  (43, .ireturn, 44, 0, [], 0, 0)]
def pt_m213 : pm_Me := (⟨"TurnCabinet$Cabinet", "countsHeld", "(I)I"⟩, prog_2_method_13_code, 4, some .int, 1, 21, pt_q213_0)
-- TurnCabinet.payNow(I)I
def pt_q140_0 : List pm_Q := [(0, .aload_n 0, 1, 0, [0], 0, 0),
  (1, .getfield 19, 4, 537, [0, 0, 1], 0, 0),
  (4, .iload_n 1, 5, 0, [1], 0, 0),
  (5, .invokevirtual 113, 8, 709, [504, 2, 0, 2, 710, 711, 127, 712], 0, 0),
  (8, .ifCond .eq (13), 11, 0, [21], 0, 0),
  (11, .aload_n 0, 12, 0, [0], 0, 0),
  (12, .getfield 69, 15, 543, [0, 0, 7], 0, 0),
  (15, .getfield 315, 18, 515, [1, 8, 5], 0, 0),
  (18, .ifCond .ne (6), 21, 0, [24], 0, 0),
  (21, .ldc 214, 23, 967, [], -1000000, 0),
  (23, .ireturn, 24, 0, [], 0, 0),
  (24, .aload_n 0, 25, 0, [0], 0, 0),
  (25, .getfield 69, 28, 543, [0, 0, 7], 0, 0),
  (28, .iload_n 1, 29, 0, [1], 0, 0),
  (29, .invokevirtual 330, 32, 1316, [207, 2, 0, 8, 1317, 1318, 137, 1319], 0, 0),
  (32, .ireturn, 33, 0, [], 0, 0)]
def pt_m140 : pm_Me := (⟨"TurnCabinet", "payNow", "(I)I"⟩, prog_1_method_40_code, 2, some .int, 3, 69, pt_q140_0)
-- TurnCabinet$Cabinet.payOf(I)I
def pt_q207_0 : List pm_Q := [(0, .aload_n 0, 1, 0, [0], 0, 0),
  (1, .getfield 24, 4, 509, [0, 8, 0], 0, 0),
  (4, .iload_n 1, 5, 0, [1], 0, 0),
  (5, .aload_n 0, 6, 0, [0], 0, 0),
  (6, .getfield 32, 9, 516, [0, 8, 6], 0, 0),
  (9, .iload_n 1, 10, 0, [1], 0, 0),
  (10, .invokevirtual 73, 13, 1320, [521, 4, 0, 2, 891, 892, 127, 893], 0, 0),
  (13, .istore_n 2, 14, 0, [2], 0, 0),
  (14, .aload_n 0, 15, 0, [0], 0, 0),
  (15, .getfield 24, 18, 509, [0, 8, 0], 0, 0),
  (18, .iload_n 2, 19, 0, [2], 0, 0),
  (19, .iload_n 1, 20, 0, [1], 0, 0),
  (20, .aload_n 0, 21, 0, [0], 0, 0),
  (21, .getfield 24, 24, 509, [0, 8, 0], 0, 0),
  (24, .aload_n 0, 25, 0, [0], 0, 0),
  (25, .getfield 28, 28, 514, [0, 8, 5], 0, 0),
  (28, .invokevirtual 76, 31, 1321, [520, 2, 0, 2, 885, 886, 127, 887], 0, 0),
  (31, .invokevirtual 79, 34, 1322, [524, 4, 0, 2, 897, 898, 127, 899], 0, 0),
  (34, .ireturn, 35, 0, [], 0, 0)]
def pt_m207 : pm_Me := (⟨"TurnCabinet$Cabinet", "payOf", "(I)I"⟩, prog_2_method_7_code, 3, some .int, 2, 47, pt_q207_0)
-- TurnCabinet.crisis()I
def pt_q141_0 : List pm_Q := [(0, .aload_n 0, 1, 0, [0], 0, 0),
  (1, .getfield 69, 4, 543, [0, 0, 7], 0, 0),
  (4, .invokevirtual 332, 7, 1327, [210, 1, 0, 8, 1328, 1329, 137, 1330], 0, 0),
  (7, .ireturn, 8, 0, [], 0, 0)]
def pt_m141 : pm_Me := (⟨"TurnCabinet", "crisis", "()I"⟩, prog_1_method_41_code, 1, some .int, 5, 115, pt_q141_0)
-- TurnCabinet$Cabinet.letUnpaidGo()I
def pt_q210_0 : List pm_Q := [(0, .iconst (0), 1, 0, [], 0, 0),
  (1, .istore_n 1, 2, 0, [1], 0, 0),
  (2, .iconst (0), 3, 0, [], 0, 0),
  (3, .istore_n 2, 4, 0, [2], 0, 0),
  (4, .iload_n 2, 5, 0, [2], 0, 0),
  (5, .bipush (7), 7, 0, [], 7, 0),
  (7, .if_icmp .ge (39), 10, 0, [46], 0, 0),
  (10, .aload_n 0, 11, 0, [0], 0, 0),
  (11, .invokevirtual 95, 14, 1331, [211, 1, 0, 8, 1333, 47, 137, 1334], 0, 0),
  (14, .istore_n 3, 15, 0, [3], 0, 0),
  (15, .iload_n 3, 16, 0, [3], 0, 0),
  (16, .iconst (-1), 17, 0, [], -1, 0),
  (17, .if_icmp .ne (5), 20, 0, [22], 0, 0),
  (20, .iload_n 1, 21, 0, [1], 0, 0),
  (21, .ireturn, 22, 0, [], 0, 0),
  (22, .iload_n 1, 23, 0, [1], 0, 0),
  (23, .ifCond .ne (8), 26, 0, [31], 0, 0),
  (26, .aload_n 0, 27, 0, [0], 0, 0),
  (27, .iconst (-1), 28, 0, [], -1, 0),
  (28, .invokevirtual 82, 31, 1270, [214, 2, 0, 8, 1271, 1272, 137, 1273], 0, 0),
  (31, .aload_n 0, 32, 0, [0], 0, 0),
  (32, .iload_n 3, 33, 0, [3], 0, 0),
  (33, .invokevirtual 99, 36, 1337, [212, 2, 0, 8, 1301, 1302, 137, 1303], 0, 0),
  (36, .pop, 37, 0, [], 0, 0),
  (37, .iinc 1 (1), 40, 0, [1], 1, 0),
  (40, .iinc 2 (1), 43, 0, [2], 1, 0),
  (43, .goto (-39), 46, 0, [4, 3], 0, 0),
  (46, .iload_n 1, 47, 0, [1], 0, 0),
  (47, .ireturn, 48, 0, [], 0, 0)]
def pt_m210 : pm_Me := (⟨"TurnCabinet$Cabinet", "letUnpaidGo", "()I"⟩, prog_2_method_10_code, 4, some .int, 4, 92, pt_q210_0)
-- TurnCabinet$Cabinet.firstUnpaid()I
def pt_q211_0 : List pm_Q := [(0, .iconst (0), 1, 0, [], 0, 0),
  (1, .istore_n 1, 2, 0, [1], 0, 0),
  (2, .iload_n 1, 3, 0, [1], 0, 0),
  (3, .aload_n 0, 4, 0, [0], 0, 0),
  (4, .getfield 24, 7, 509, [0, 8, 0], 0, 0),
  (7, .getfield 86, 10, 175, [1, 2, 0], 0, 0),
  (10, .if_icmp .ge (38), 13, 0, [48], 0, 0),
  (13, .iload_n 1, 14, 0, [1], 0, 0),
  (14, .aload_n 0, 15, 0, [0], 0, 0),
  (15, .getfield 28, 18, 514, [0, 8, 5], 0, 0),
  (18, .invokestatic 44, 21, 1298, [151, 2, 1, 639, 125, 640], 0, 0),
  (21, .ifCond .eq (21), 24, 0, [42], 0, 0),
  (24, .aload_n 0, 25, 0, [0], 0, 0),
  (25, .iload_n 1, 26, 0, [1], 0, 0),
  (26, .invokevirtual 102, 29, 1335, [207, 2, 0, 8, 1317, 1318, 137, 1319], 0, 0),
  (29, .aload_n 0, 30, 0, [0], 0, 0),
  (30, .getfield 24, 33, 509, [0, 8, 0], 0, 0),
  (33, .iload_n 1, 34, 0, [1], 0, 0),
  (34, .invokevirtual 105, 37, 1336, [510, 2, 0, 2, 722, 723, 127, 724], 0, 0),
  (37, .if_icmp .ge (5), 40, 0, [42], 0, 0),
  (40, .iload_n 1, 41, 0, [1], 0, 0),
  (41, .ireturn, 42, 0, [], 0, 0),
  (42, .iinc 1 (1), 45, 0, [1], 1, 0),
  (45, .goto (-43), 48, 0, [2], 0, 0),
  (48, .iconst (-1), 49, 0, [], -1, 0),
  (49, .ireturn, 50, 0, [], 0, 0)]
def pt_m211 : pm_Me := (⟨"TurnCabinet$Cabinet", "firstUnpaid", "()I"⟩, prog_2_method_11_code, 2, some .int, 3, 69, pt_q211_0)
-- TurnCabinet.trade(II)I
def pt_q142_0 : List pm_Q := [(0, .aload_n 0, 1, 0, [0], 0, 0),
  (1, .getfield 69, 4, 543, [0, 0, 7], 0, 0),
  (4, .iload_n 1, 5, 0, [1], 0, 0),
  (5, .invokevirtual 318, 8, 1283, [204, 2, 0, 8, 1284, 1285, 137, 1286], 0, 0),
  (8, .istore_n 3, 9, 0, [3], 0, 0),
  (9, .aload_n 0, 10, 0, [0], 0, 0),
  (10, .getfield 69, 13, 543, [0, 0, 7], 0, 0),
  (13, .iload_n 2, 14, 0, [2], 0, 0),
  (14, .invokevirtual 318, 17, 1283, [204, 2, 0, 8, 1284, 1285, 137, 1286], 0, 0),
  (17, .istore 4, 19, 0, [4], 0, 0),
  (19, .iload_n 3, 20, 0, [3], 0, 0),
  (20, .iconst (-1), 21, 0, [], -1, 0),
  (21, .if_icmp .eq (15), 24, 0, [36], 0, 0),
  (24, .iload 4, 26, 0, [4], 0, 0),
  (26, .iconst (-1), 27, 0, [], -1, 0),
  (27, .if_icmp .eq (9), 30, 0, [36], 0, 0),
  (30, .iload_n 3, 31, 0, [3], 0, 0),
  (31, .iload 4, 33, 0, [4], 0, 0),
  (33, .if_icmp .ne (6), 36, 0, [39], 0, 0),
  (36, .ldc 214, 38, 967, [], -1000000, 0),
  (38, .ireturn, 39, 0, [], 0, 0),
  (39, .aload_n 0, 40, 0, [0], 0, 0),
  (40, .getfield 69, 43, 543, [0, 0, 7], 0, 0),
  (43, .iload_n 1, 44, 0, [1], 0, 0),
  (44, .iload_n 2, 45, 0, [2], 0, 0),
  (45, .invokevirtual 335, 48, 1342, [209, 3, 0, 8, 1343, 1344, 137, 1345], 0, 0),
  (48, .ireturn, 49, 0, [], 0, 0)]
def pt_m142 : pm_Me := (⟨"TurnCabinet", "trade", "(II)I"⟩, prog_1_method_42_code, 5, some .int, 3, 68, pt_q142_0)
-- TurnCabinet$Cabinet.exchange(II)I
def pt_q209_0 : List pm_Q := [(0, .aload_n 0, 1, 0, [0], 0, 0),
  (1, .getfield 24, 4, 509, [0, 8, 0], 0, 0),
  (4, .aload_n 0, 5, 0, [0], 0, 0),
  (5, .getfield 32, 8, 516, [0, 8, 6], 0, 0),
  (8, .invokevirtual 89, 11, 1346, [522, 2, 0, 2, 1347, 1348, 127, 1349], 0, 0),
  (11, .istore_n 3, 12, 0, [3], 0, 0),
  (12, .aload_n 0, 13, 0, [0], 0, 0),
  (13, .iconst (-1), 14, 0, [], -1, 0),
  (14, .invokevirtual 82, 17, 1270, [214, 2, 0, 8, 1271, 1272, 137, 1273], 0, 0),
  (17, .aload_n 0, 18, 0, [0], 0, 0),
  (18, .aload_n 0, 19, 0, [0], 0, 0),
  (19, .getfield 32, 22, 516, [0, 8, 6], 0, 0),
  (22, .iload_n 1, 23, 0, [1], 0, 0),
  (23, .iload_n 2, 24, 0, [2], 0, 0),
  (24, .invokestatic 92, 27, 1350, [904, 3, 0, 932, 139, 933], 0, 0),
  (27, .putfield 32, 30, 516, [0, 8, 6], 0, 0),
  (30, .aload_n 0, 31, 0, [0], 0, 0),
  (31, .getfield 24, 34, 509, [0, 8, 0], 0, 0),
  (34, .aload_n 0, 35, 0, [0], 0, 0),
  (35, .getfield 32, 38, 516, [0, 8, 6], 0, 0),
  (38, .invokevirtual 89, 41, 1346, [522, 2, 0, 2, 1347, 1348, 127, 1349], 0, 0),
  (41, .iload_n 3, 42, 0, [3], 0, 0),
  (42, .isub, 43, 0, [], 0, 0),
  (43, .ireturn, 44, 0, [], 0, 0)]
def pt_m209 : pm_Me := (⟨"TurnCabinet$Cabinet", "exchange", "(II)I"⟩, prog_2_method_9_code, 4, some .int, 2, 45, pt_q209_0)
-- TurnCabinet$House.worthOfAll(I)I
def pt_q522_0 : List pm_Q := [(0, .iconst (0), 1, 0, [], 0, 0),
  (1, .istore_n 2, 2, 0, [2], 0, 0),
  (2, .iconst (0), 3, 0, [], 0, 0),
  (3, .istore_n 3, 4, 0, [3], 0, 0),
  (4, .iload_n 3, 5, 0, [3], 0, 0),
  (5, .aload_n 0, 6, 0, [0], 0, 0),
  (6, .getfield 43, 9, 178, [0, 2, 1], 0, 0),
  (9, .if_icmp .ge (22), 12, 0, [31], 0, 0),
  (12, .iload_n 2, 13, 0, [2], 0, 0),
  (13, .aload_n 0, 14, 0, [0], 0, 0),
  (14, .iload_n 1, 15, 0, [1], 0, 0),
  (15, .iload_n 3, 16, 0, [3], 0, 0),
  (16, .invokestatic 91, 19, 894, [902, 2, 0, 737, 139, 738], 0, 0),
  (19, .iload_n 3, 20, 0, [3], 0, 0),
  (20, .invokevirtual 85, 23, 895, [512, 3, 0, 2, 758, 759, 127, 760], 0, 0),
  (23, .iadd, 24, 0, [], 0, 0),
  (24, .istore_n 2, 25, 0, [2], 0, 0),
  (25, .iinc 3 (1), 28, 0, [3], 1, 0),
  (28, .goto (-24), 31, 0, [4], 0, 0),
  (31, .iload_n 2, 32, 0, [2], 0, 0),
  (32, .ireturn, 33, 0, [], 0, 0)]
def pt_m522 : pm_Me := (⟨"TurnCabinet$House", "worthOfAll", "(I)I"⟩, prog_5_method_22_code, 4, some .int, 1, 22, pt_q522_0)
-- TurnCabinet.seats(II)I
def pt_q143_0 : List pm_Q := [(0, .aload_n 0, 1, 0, [0], 0, 0),
  (1, .getfield 19, 4, 537, [0, 0, 1], 0, 0),
  (4, .iload_n 1, 5, 0, [1], 0, 0),
  (5, .invokevirtual 113, 8, 709, [504, 2, 0, 2, 710, 711, 127, 712], 0, 0),
  (8, .ifCond .eq (15), 11, 0, [23], 0, 0),
  (11, .iload_n 2, 12, 0, [2], 0, 0),
  (12, .iconst (1), 13, 0, [], 1, 0),
  (13, .if_icmp .lt (10), 16, 0, [23], 0, 0),
  (16, .iload_n 2, 17, 0, [2], 0, 0),
  (17, .sipush (999), 20, 0, [], 999, 0),
  (20, .if_icmp .le (5), 23, 0, [25], 0, 0),
  (23, .iconst (-1), 24, 0, [], -1, 0),
  (24, .ireturn, 25, 0, [], 0, 0),
  (25, .aload_n 0, 26, 0, [0], 0, 0),
  (26, .getfield 19, 29, 537, [0, 0, 1], 0, 0),
  (29, .iload_n 1, 30, 0, [1], 0, 0),
  (30, .invokevirtual 117, 33, 713, [508, 2, 0, 2, 714, 715, 127, 716], 0, 0),
  (33, .istore_n 3, 34, 0, [3], 0, 0),
  (34, .iload_n 3, 35, 0, [3], 0, 0),
  (35, .iload_n 2, 36, 0, [2], 0, 0),
  (36, .if_icmp .ne (5), 39, 0, [41], 0, 0),
  (39, .iconst (-1), 40, 0, [], -1, 0),
  (40, .ireturn, 41, 0, [], 0, 0),
  (41, .aload_n 0, 42, 0, [0], 0, 0),
  (42, .getfield 69, 45, 543, [0, 0, 7], 0, 0),
  (45, .iload_n 1, 46, 0, [1], 0, 0),
  (46, .invokevirtual 324, 49, 1299, [214, 2, 0, 8, 1271, 1272, 137, 1273], 0, 0),
  (49, .aload_n 0, 50, 0, [0], 0, 0),
  (50, .getfield 19, 53, 537, [0, 0, 1], 0, 0),
  (53, .iload_n 1, 54, 0, [1], 0, 0),
  (54, .iload_n 2, 55, 0, [2], 0, 0),
  (55, .invokevirtual 338, 58, 1355, [514, 3, 0, 2, 1356, 1357, 127, 1358], 0, 0),
  (58, .iload_n 3, 59, 0, [3], 0, 0),
  (59, .ireturn, 60, 0, [], 0, 0)]
def pt_m143 : pm_Me := (⟨"TurnCabinet", "seats", "(II)I"⟩, prog_1_method_43_code, 4, some .int, 2, 43, pt_q143_0)
-- TurnCabinet$House.giveSeats(II)V
def pt_q514_0 : List pm_Q := [(0, .aload_n 0, 1, 0, [0], 0, 0),
  (1, .getfield 9, 4, 212, [0, 2, 10], 0, 0),
  (4, .iload_n 1, 5, 0, [1], 0, 0),
  (5, .bipush (7), 7, 0, [], 7, 0),
  (7, .iand, 8, 0, [], 0, 0),
  (8, .iload_n 2, 9, 0, [2], 0, 0),
  (9, .iastore, 10, 0, [], 0, 0),
  (10, .aload_n 0, 11, 0, [0], 0, 0),
  (11, .dup, 12, 0, [], 0, 0),
  (12, .getfield 58, 15, 211, [0, 2, 9], 0, 0),
  (15, .iconst (1), 16, 0, [], 1, 0),
  (16, .iadd, 17, 0, [], 0, 0),
  (17, .putfield 58, 20, 211, [0, 2, 9], 0, 0),
  (20, .return_, 21, 0, [], 0, 0)]
def pt_m514 : pm_Me := (⟨"TurnCabinet$House", "giveSeats", "(II)V"⟩, prog_5_method_14_code, 3, none, 0, 0, pt_q514_0)
-- TurnCabinet.above()I
def pt_q144_0 : List pm_Q := [(0, .aload_n 0, 1, 0, [0], 0, 0),
  (1, .getfield 69, 4, 543, [0, 0, 7], 0, 0),
  (4, .getfield 315, 7, 515, [1, 8, 5], 0, 0),
  (7, .ifCond .ne (6), 10, 0, [13], 0, 0),
  (10, .ldc 214, 12, 967, [], -1000000, 0),
  (12, .ireturn, 13, 0, [], 0, 0),
  (13, .aload_n 0, 14, 0, [0], 0, 0),
  (14, .getfield 19, 17, 537, [0, 0, 1], 0, 0),
  (17, .aload_n 0, 18, 0, [0], 0, 0),
  (18, .getfield 69, 21, 543, [0, 0, 7], 0, 0),
  (21, .getfield 315, 24, 515, [1, 8, 5], 0, 0),
  (24, .invokevirtual 158, 27, 784, [515, 2, 0, 2, 774, 775, 127, 776], 0, 0),
  (27, .aload_n 0, 28, 0, [0], 0, 0),
  (28, .getfield 19, 31, 537, [0, 0, 1], 0, 0),
  (31, .invokevirtual 143, 34, 765, [517, 1, 0, 2, 766, 767, 127, 768], 0, 0),
  (34, .isub, 35, 0, [], 0, 0),
  (35, .ireturn, 36, 0, [], 0, 0)]
def pt_m144 : pm_Me := (⟨"TurnCabinet", "above", "()I"⟩, prog_1_method_44_code, 1, some .int, 3, 64, pt_q144_0)
-- TurnCabinet.undo()I
def pt_q145_0 : List pm_Q := [(0, .aload_n 0, 1, 0, [0], 0, 0),
  (1, .getfield 69, 4, 543, [0, 0, 7], 0, 0),
  (4, .getfield 161, 7, 518, [1, 8, 7], 0, 0),
  (7, .ifCond .le (13), 10, 0, [20], 0, 0),
  (10, .aload_n 0, 11, 0, [0], 0, 0),
  (11, .getfield 69, 14, 543, [0, 0, 7], 0, 0),
  (14, .invokevirtual 342, 17, 1367, [216, 1, 0, 8, 1368, 1369, 137, 1370], 0, 0),
  (17, .goto (4), 20, 0, [21], 0, 0),
  (20, .iconst (-1), 21, 0, [], -1, 0),
  (21, .ireturn, 22, 0, [], 0, 0)]
def pt_m145 : pm_Me := (⟨"TurnCabinet", "undo", "()I"⟩, prog_1_method_45_code, 1, some .int, 2, 43, pt_q145_0)
-- TurnCabinet$Cabinet.takeBack()I
def pt_q216_0 : List pm_Q := [(0, .aload_n 0, 1, 0, [0], 0, 0),
  (1, .getfield 35, 4, 517, [0, 8, 7], 0, 0),
  (4, .iconst (1), 5, 0, [], 1, 0),
  (5, .isub, 6, 0, [], 0, 0),
  (6, .istore_n 1, 7, 0, [1], 0, 0),
  (7, .iload_n 1, 8, 0, [1], 0, 0),
  (8, .ifCond .lt (9), 11, 0, [17], 0, 0),
  (11, .iload_n 1, 12, 0, [1], 0, 0),
  (12, .bipush (12), 14, 0, [], 12, 0),
  (14, .if_icmp .lt (5), 17, 0, [19], 0, 0),
  (17, .iconst (-1), 18, 0, [], -1, 0),
  (18, .ireturn, 19, 0, [], 0, 0),
  (19, .aload_n 0, 20, 0, [0], 0, 0),
  (20, .iload_n 1, 21, 0, [1], 0, 0),
  (21, .putfield 35, 24, 517, [0, 8, 7], 0, 0),
  (24, .aload_n 0, 25, 0, [0], 0, 0),
  (25, .aload_n 0, 26, 0, [0], 0, 0),
  (26, .getfield 9, 29, 510, [0, 8, 1], 0, 0),
  (29, .iload_n 1, 30, 0, [1], 0, 0),
  (30, .iaload, 31, 0, [], 0, 0),
  (31, .putfield 28, 34, 514, [0, 8, 5], 0, 0),
  (34, .aload_n 0, 35, 0, [0], 0, 0),
  (35, .aload_n 0, 36, 0, [0], 0, 0),
  (36, .getfield 15, 39, 511, [0, 8, 2], 0, 0),
  (39, .iload_n 1, 40, 0, [1], 0, 0),
  (40, .iaload, 41, 0, [], 0, 0),
  (41, .putfield 32, 44, 516, [0, 8, 6], 0, 0),
  (44, .aload_n 0, 45, 0, [0], 0, 0),
  (45, .getfield 18, 48, 512, [0, 8, 3], 0, 0),
  (48, .iload_n 1, 49, 0, [1], 0, 0),
  (49, .iaload, 50, 0, [], 0, 0),
  (50, .iconst (-1), 51, 0, [], -1, 0),
  (51, .if_icmp .eq (22), 54, 0, [73], 0, 0),
  (54, .aload_n 0, 55, 0, [0], 0, 0),
  (55, .getfield 24, 58, 509, [0, 8, 0], 0, 0),
  (58, .aload_n 0, 59, 0, [0], 0, 0),
  (59, .getfield 18, 62, 512, [0, 8, 3], 0, 0),
  (62, .iload_n 1, 63, 0, [1], 0, 0),
  (63, .iaload, 64, 0, [], 0, 0),
  (64, .aload_n 0, 65, 0, [0], 0, 0),
  (65, .getfield 21, 68, 513, [0, 8, 4], 0, 0),
  (68, .iload_n 1, 69, 0, [1], 0, 0),
  (69, .iaload, 70, 0, [], 0, 0),
  (70, .invokevirtual 136, 73, 1371, [514, 3, 0, 2, 1356, 1357, 127, 1358], 0, 0),
  (73, .aload_n 0, 74, 0, [0], 0, 0),
  (74, .getfield 35, 77, 517, [0, 8, 7], 0, 0),
  (77, .ireturn, 78, 0, [], 0, 0)]
def pt_m216 : pm_Me := (⟨"TurnCabinet$Cabinet", "takeBack", "()I"⟩, prog_2_method_16_code, 2, some .int, 1, 22, pt_q216_0)
-- TurnCabinet.judge(II)I
def pt_q146_0 : List pm_Q := [(0, .aload_n 0, 1, 0, [0], 0, 0),
  (1, .getfield 19, 4, 537, [0, 0, 1], 0, 0),
  (4, .iload_n 1, 5, 0, [1], 0, 0),
  (5, .invokevirtual 174, 8, 793, [506, 2, 0, 2, 794, 795, 127, 796], 0, 0),
  (8, .ifCond .eq (12), 11, 0, [20], 0, 0),
  (11, .iload_n 2, 12, 0, [2], 0, 0),
  (12, .ifCond .lt (8), 15, 0, [20], 0, 0),
  (15, .iload_n 2, 16, 0, [2], 0, 0),
  (16, .iconst (3), 17, 0, [], 3, 0),
  (17, .if_icmp .le (5), 20, 0, [22], 0, 0),
  (20, .iconst (-1), 21, 0, [], -1, 0),
  (21, .ireturn, 22, 0, [], 0, 0),
  (22, .aload_n 0, 23, 0, [0], 0, 0),
  (23, .iload_n 1, 24, 0, [1], 0, 0),
  (24, .invokevirtual 345, 27, 1376, [147, 2, 0, 0, 1378, 48, 125, 1379], 0, 0),
  (27, .istore_n 3, 28, 0, [3], 0, 0),
  (28, .aload_n 0, 29, 0, [0], 0, 0),
  (29, .getfield 10, 32, 536, [0, 0, 0], 0, 0),
  (32, .iconst (0), 33, 0, [], 0, 0),
  (33, .invokevirtual 81, 36, 577, [1005, 2, 0, 1, 578, 579, 126, 580], 0, 0),
  (36, .iload_n 3, 37, 0, [3], 0, 0),
  (37, .iconst (-1), 38, 0, [], -1, 0),
  (38, .if_icmp .ne (6), 41, 0, [44], 0, 0),
  (41, .bipush (-2), 43, 0, [], -2, 0),
  (43, .ireturn, 44, 0, [], 0, 0),
  (44, .iload_n 2, 45, 0, [2], 0, 0),
  (45, .tableswitch (63) (0) (2) #[27, 36, 45], 72, 0, [108, 72, 81, 90], 0, 0),
  (72, .aload_n 0, 73, 0, [0], 0, 0),
  (73, .getfield 37, 76, 539, [0, 0, 3], 0, 0),
  (76, .iload_n 3, 77, 0, [3], 0, 0),
  (77, .invokevirtual 348, 80, 1382, [613, 2, 0, 4, 1383, 1384, 133, 1385], 0, 0),
  (80, .ireturn, 81, 0, [], 0, 0),
  (81, .aload_n 0, 82, 0, [0], 0, 0),
  (82, .getfield 19, 85, 537, [0, 0, 1], 0, 0),
  (85, .iload_n 3, 86, 0, [3], 0, 0),
  (86, .invokevirtual 351, 89, 1386, [522, 2, 0, 2, 1347, 1348, 127, 1349], 0, 0),
  (89, .ireturn, 90, 0, [], 0, 0),
  (90, .aload_n 0, 91, 0, [0], 0, 0),
  (91, .getfield 19, 94, 537, [0, 0, 1], 0, 0),
  (94, .iload_n 1, 95, 0, [1], 0, 0),
  (95, .invokevirtual 354, 98, 1387, [523, 2, 0, 2, 1388, 1389, 127, 1390], 0, 0),
  (98, .aload_n 0, 99, 0, [0], 0, 0),
  (99, .getfield 19, 102, 537, [0, 0, 1], 0, 0),
  (102, .iload_n 3, 103, 0, [3], 0, 0),
  (103, .invokevirtual 351, 106, 1386, [522, 2, 0, 2, 1347, 1348, 127, 1349], 0, 0),
  (106, .isub, 107, 0, [], 0, 0),
  (107, .ireturn, 108, 0, [], 0, 0),
  (108, .aload_n 0, 109, 0, [0], 0, 0),
  (109, .iload_n 1, 110, 0, [1], 0, 0),
  (110, .iload_n 3, 111, 0, [3], 0, 0),
  (111, .invokevirtual 357, 114, 1391, [148, 3, 0, 0, 1393, 49, 125, 1394], 0, 0),
  (114, .ireturn, 115, 0, [], 0, 0)]
def pt_m146 : pm_Me := (⟨"TurnCabinet", "judge", "(II)I"⟩, prog_1_method_46_code, 4, some .int, 4, 106, pt_q146_0)
-- TurnCabinet.toldCabinet(I)I
def pt_q147_0 : List pm_Q := [(0, .aload_n 0, 1, 0, [0], 0, 0),
  (1, .getfield 10, 4, 536, [0, 0, 0], 0, 0),
  (4, .invokevirtual 73, 7, 565, [1002, 1, 0, 1, 566, 567, 126, 568], 0, 0),
  (7, .aload_n 0, 8, 0, [0], 0, 0),
  (8, .getfield 19, 11, 537, [0, 0, 1], 0, 0),
  (11, .getfield 140, 14, 181, [1, 2, 1], 0, 0),
  (14, .if_icmp .eq (5), 17, 0, [19], 0, 0),
  (17, .iconst (-1), 18, 0, [], -1, 0),
  (18, .ireturn, 19, 0, [], 0, 0),
  (19, .iconst (0), 20, 0, [], 0, 0),
  (20, .istore_n 2, 21, 0, [2], 0, 0),
  (21, .iconst (0), 22, 0, [], 0, 0),
  (22, .istore_n 3, 23, 0, [3], 0, 0),
  (23, .iload_n 3, 24, 0, [3], 0, 0),
  (24, .aload_n 0, 25, 0, [0], 0, 0),
  (25, .getfield 19, 28, 537, [0, 0, 1], 0, 0),
  (28, .getfield 140, 31, 181, [1, 2, 1], 0, 0),
  (31, .if_icmp .ge (50), 34, 0, [81], 0, 0),
  (34, .aload_n 0, 35, 0, [0], 0, 0),
  (35, .getfield 10, 38, 536, [0, 0, 0], 0, 0),
  (38, .iload_n 3, 39, 0, [3], 0, 0),
  (39, .invokevirtual 360, 42, 1380, [1003, 2, 0, 1, 599, 600, 126, 601], 0, 0),
  (42, .istore 4, 44, 0, [4], 0, 0),
  (44, .aload_n 0, 45, 0, [0], 0, 0),
  (45, .getfield 19, 48, 537, [0, 0, 1], 0, 0),
  (48, .iload 4, 50, 0, [4], 0, 0),
  (50, .invokevirtual 113, 53, 709, [504, 2, 0, 2, 710, 711, 127, 712], 0, 0),
  (53, .ifCond .eq (12), 56, 0, [65], 0, 0),
  (56, .iload 4, 58, 0, [4], 0, 0),
  (58, .iload_n 1, 59, 0, [1], 0, 0),
  (59, .invokestatic 195, 62, 939, [151, 2, 0, 639, 125, 640], 0, 0),
  (62, .ifCond .ne (5), 65, 0, [67], 0, 0),
  (65, .iconst (-1), 66, 0, [], -1, 0),
  (66, .ireturn, 67, 0, [], 0, 0),
  (67, .iload_n 2, 68, 0, [2], 0, 0),
  (68, .iload_n 3, 69, 0, [3], 0, 0),
  (69, .iload 4, 71, 0, [4], 0, 0),
  (71, .invokestatic 363, 74, 1381, [903, 3, 0, 812, 139, 813], 0, 0),
  (74, .istore_n 2, 75, 0, [2], 0, 0),
  (75, .iinc 3 (1), 78, 0, [3], 1, 0),
  (78, .goto (-55), 81, 0, [23, 4], 0, 0),
  (81, .iload_n 2, 82, 0, [2], 0, 0),
  (82, .ireturn, 83, 0, [], 0, 0)]
def pt_m147 : pm_Me := (⟨"TurnCabinet", "toldCabinet", "(I)I"⟩, prog_1_method_47_code, 5, some .int, 1, 23, pt_q147_0)
-- TurnCabinet$Picks.countFirstSwaps(I)I
def pt_q613_0 : List pm_Q := [(0, .iconst (0), 1, 0, [], 0, 0),
  (1, .istore_n 2, 2, 0, [2], 0, 0),
  (2, .iconst (0), 3, 0, [], 0, 0),
  (3, .istore_n 3, 4, 0, [3], 0, 0),
  (4, .iload_n 3, 5, 0, [3], 0, 0),
  (5, .aload_n 0, 6, 0, [0], 0, 0),
  (6, .getfield 26, 9, 378, [0, 4, 0], 0, 0),
  (9, .getfield 30, 12, 179, [1, 2, 1], 0, 0),
  (12, .if_icmp .ge (46), 15, 0, [58], 0, 0),
  (15, .iload_n 3, 16, 0, [3], 0, 0),
  (16, .iconst (1), 17, 0, [], 1, 0),
  (17, .iadd, 18, 0, [], 0, 0),
  (18, .istore 4, 20, 0, [4], 0, 0),
  (20, .iload 4, 22, 0, [4], 0, 0),
  (22, .aload_n 0, 23, 0, [0], 0, 0),
  (23, .getfield 26, 26, 378, [0, 4, 0], 0, 0),
  (26, .getfield 30, 29, 179, [1, 2, 1], 0, 0),
  (29, .if_icmp .ge (23), 32, 0, [52], 0, 0),
  (32, .aload_n 0, 33, 0, [0], 0, 0),
  (33, .iload_n 1, 34, 0, [1], 0, 0),
  (34, .iload_n 3, 35, 0, [3], 0, 0),
  (35, .iload 4, 37, 0, [4], 0, 0),
  (37, .invokevirtual 101, 40, 927, [615, 4, 0, 4, 929, 26, 133, 930], 0, 0),
  (40, .ifCond .eq (6), 43, 0, [46], 0, 0),
  (43, .iinc 2 (1), 46, 0, [2], 1, 0),
  (46, .iinc 4 (1), 49, 0, [4], 1, 0),
  (49, .goto (-29), 52, 0, [20], 0, 0),
  (52, .iinc 3 (1), 55, 0, [3], 1, 0),
  (55, .goto (-51), 58, 0, [4, 4], 0, 0),
  (58, .iload_n 2, 59, 0, [2], 0, 0),
  (59, .ireturn, 60, 0, [], 0, 0)]
def pt_m613 : pm_Me := (⟨"TurnCabinet$Picks", "countFirstSwaps", "(I)I"⟩, prog_6_method_13_code, 5, some .int, 2, 47, pt_q613_0)
-- TurnCabinet$House.greatestWorth(I)I
def pt_q523_0 : List pm_Q := [(0, .iconst (0), 1, 0, [], 0, 0),
  (1, .istore_n 2, 2, 0, [2], 0, 0),
  (2, .iconst (0), 3, 0, [], 0, 0),
  (3, .istore_n 3, 4, 0, [3], 0, 0),
  (4, .iload_n 3, 5, 0, [3], 0, 0),
  (5, .aload_n 0, 6, 0, [0], 0, 0),
  (6, .getfield 43, 9, 178, [0, 2, 1], 0, 0),
  (9, .if_icmp .ge (58), 12, 0, [67], 0, 0),
  (12, .iconst (0), 13, 0, [], 0, 0),
  (13, .istore 4, 15, 0, [4], 0, 0),
  (15, .iconst (0), 16, 0, [], 0, 0),
  (16, .istore 5, 18, 0, [5], 0, 0),
  (18, .iload 5, 20, 0, [5], 0, 0),
  (20, .aload_n 0, 21, 0, [0], 0, 0),
  (21, .getfield 40, 24, 170, [0, 2, 0], 0, 0),
  (24, .if_icmp .ge (32), 27, 0, [56], 0, 0),
  (27, .iload 5, 29, 0, [5], 0, 0),
  (29, .iload_n 1, 30, 0, [1], 0, 0),
  (30, .invokestatic 65, 33, 777, [151, 2, 1, 639, 125, 640], 0, 0),
  (33, .ifCond .eq (17), 36, 0, [50], 0, 0),
  (36, .iload 4, 38, 0, [4], 0, 0),
  (38, .aload_n 0, 39, 0, [0], 0, 0),
  (39, .iload 5, 41, 0, [5], 0, 0),
  (41, .iload_n 3, 42, 0, [3], 0, 0),
  (42, .invokevirtual 85, 45, 895, [512, 3, 0, 2, 758, 759, 127, 760], 0, 0),
  (45, .invokestatic 94, 48, 1064, [1512, 2, 0, 1021, 141, 1022], 0, 0),
  (48, .istore 4, 50, 0, [4], 0, 0),
  (50, .iinc 5 (1), 53, 0, [5], 1, 0),
  (53, .goto (-35), 56, 0, [18], 0, 0),
  (56, .iload_n 2, 57, 0, [2], 0, 0),
  (57, .iload 4, 59, 0, [4], 0, 0),
  (59, .iadd, 60, 0, [], 0, 0),
  (60, .istore_n 2, 61, 0, [2], 0, 0),
  (61, .iinc 3 (1), 64, 0, [3], 1, 0),
  (64, .goto (-60), 67, 0, [4, 4, 5], 0, 0),
  (67, .iload_n 2, 68, 0, [2], 0, 0),
  (68, .ireturn, 69, 0, [], 0, 0)]
def pt_m523 : pm_Me := (⟨"TurnCabinet$House", "greatestWorth", "(I)I"⟩, prog_5_method_23_code, 6, some .int, 1, 22, pt_q523_0)
-- TurnCabinet.countUnkept(II)I
def pt_q148_0 : List pm_Q := [(0, .aload_n 0, 1, 0, [0], 0, 0),
  (1, .getfield 37, 4, 539, [0, 0, 3], 0, 0),
  (4, .iload_n 1, 5, 0, [1], 0, 0),
  (5, .aload_n 0, 6, 0, [0], 0, 0),
  (6, .getfield 19, 9, 537, [0, 0, 1], 0, 0),
  (9, .getfield 164, 12, 185, [1, 2, 2], 0, 0),
  (12, .aload_n 0, 13, 0, [0], 0, 0),
  (13, .getfield 19, 16, 537, [0, 0, 1], 0, 0),
  (16, .getfield 167, 19, 190, [1, 2, 3], 0, 0),
  (19, .invokevirtual 180, 22, 800, [602, 4, 0, 4, 801, 802, 133, 803], 0, 0),
  (22, .istore_n 3, 23, 0, [3], 0, 0),
  (23, .iload_n 3, 24, 0, [3], 0, 0),
  (24, .aload_n 0, 25, 0, [0], 0, 0),
  (25, .getfield 19, 28, 537, [0, 0, 1], 0, 0),
  (28, .getfield 140, 31, 181, [1, 2, 1], 0, 0),
  (31, .invokestatic 230, 34, 996, [908, 2, 0, 997, 139, 998], 0, 0),
  (34, .istore 4, 36, 0, [4], 0, 0),
  (36, .iload_n 2, 37, 0, [2], 0, 0),
  (37, .aload_n 0, 38, 0, [0], 0, 0),
  (38, .getfield 19, 41, 537, [0, 0, 1], 0, 0),
  (41, .getfield 140, 44, 181, [1, 2, 1], 0, 0),
  (44, .invokestatic 230, 47, 996, [908, 2, 0, 997, 139, 998], 0, 0),
  (47, .istore 5, 49, 0, [5], 0, 0),
  (49, .iconst (0), 50, 0, [], 0, 0),
  (50, .istore 6, 52, 0, [6], 0, 0),
  (52, .iconst (0), 53, 0, [], 0, 0),
  (53, .istore 7, 55, 0, [7], 0, 0),
  (55, .iload 7, 57, 0, [7], 0, 0),
  (57, .aload_n 0, 58, 0, [0], 0, 0),
  (58, .getfield 19, 61, 537, [0, 0, 1], 0, 0),
  (61, .getfield 107, 64, 173, [1, 2, 0], 0, 0),
  (64, .if_icmp .ge (29), 67, 0, [93], 0, 0),
  (67, .iload 4, 69, 0, [4], 0, 0),
  (69, .iload 7, 71, 0, [7], 0, 0),
  (71, .invokestatic 366, 74, 1395, [906, 2, 0, 809, 139, 810], 0, 0),
  (74, .iload 5, 76, 0, [5], 0, 0),
  (76, .iload 7, 78, 0, [7], 0, 0),
  (78, .invokestatic 366, 81, 1395, [906, 2, 0, 809, 139, 810], 0, 0),
  (81, .if_icmp .eq (6), 84, 0, [87], 0, 0),
  (84, .iinc 6 (1), 87, 0, [6], 1, 0),
  (87, .iinc 7 (1), 90, 0, [7], 1, 0),
  (90, .goto (-35), 93, 0, [55], 0, 0),
  (93, .iload 6, 95, 0, [6], 0, 0),
  (95, .ireturn, 96, 0, [], 0, 0)]
def pt_m148 : pm_Me := (⟨"TurnCabinet", "countUnkept", "(II)I"⟩, prog_1_method_48_code, 8, some .int, 3, 79, pt_q148_0)
-- TurnCabinetModel.<init>()V
def pt_q1201_0 : List pm_Q := [(0, .aload_n 0, 1, 0, [0], 0, 0),
  (1, .invokespecial 1, 4, 1401, [], 0, 0),
  (4, .aload_n 0, 5, 0, [0], 0, 0),
  (5, .sipush (900), 8, 0, [], 900, 0),
  (8, .newarray .int, 10, 257, [0], 0, 0),
  (10, .putfield 7, 13, 1413, [4, 9, 0], 0, 0),
  (13, .aload_n 0, 14, 0, [0], 0, 0),
  (14, .iconst (-1), 15, 0, [], -1, 0),
  (15, .putfield 13, 18, 1422, [0, 9, 9], 0, 0),
  (18, .aload_n 0, 19, 0, [0], 0, 0),
  (19, .iconst (-1), 20, 0, [], -1, 0),
  (20, .putfield 17, 23, 1424, [0, 9, 11], 0, 0),
  (23, .aload_n 0, 24, 0, [0], 0, 0),
  (24, .bipush (7), 26, 0, [], 7, 0),
  (26, .newarray .long, 28, 371, [1], 0, 0),
  (28, .putfield 20, 31, 1435, [4, 9, 22], 0, 0),
  (31, .aload_n 0, 32, 0, [0], 0, 0),
  (32, .bipush (8), 34, 0, [], 8, 0),
  (34, .newarray .long, 36, 371, [1], 0, 0),
  (36, .putfield 24, 39, 1436, [4, 9, 23], 0, 0),
  (39, .aload_n 0, 40, 0, [0], 0, 0),
  (40, .bipush (7), 42, 0, [], 7, 0),
  (42, .newarray .int, 44, 257, [0], 0, 0),
  (44, .putfield 27, 47, 1437, [4, 9, 24], 0, 0),
  (47, .aload_n 0, 48, 0, [0], 0, 0),
  (48, .bipush (7), 50, 0, [], 7, 0),
  (50, .newarray .int, 52, 257, [0], 0, 0),
  (52, .putfield 30, 55, 1438, [4, 9, 25], 0, 0),
  (55, .aload_n 0, 56, 0, [0], 0, 0),
  (56, .bipush (7), 58, 0, [], 7, 0),
  (58, .newarray .int, 60, 257, [0], 0, 0),
  (60, .putfield 33, 63, 1439, [4, 9, 26], 0, 0),
  (63, .aload_n 0, 64, 0, [0], 0, 0),
  (64, .bipush (7), 66, 0, [], 7, 0),
  (66, .newarray .int, 68, 257, [0], 0, 0),
  (68, .putfield 36, 71, 1440, [4, 9, 27], 0, 0),
  (71, .aload_n 0, 72, 0, [0], 0, 0),
  (72, .bipush (56), 74, 0, [], 56, 0),
  (74, .newarray .int, 76, 257, [0], 0, 0),
  (76, .putfield 39, 79, 1441, [4, 9, 28], 0, 0),
  (79, .aload_n 0, 80, 0, [0], 0, 0),
  (80, .bipush (56), 82, 0, [], 56, 0),
  (82, .newarray .int, 84, 257, [0], 0, 0),
  (84, .putfield 42, 87, 1442, [4, 9, 29], 0, 0),
  (87, .aload_n 0, 88, 0, [0], 0, 0),
  (88, .bipush (7), 90, 0, [], 7, 0),
  (90, .newarray .int, 92, 257, [0], 0, 0),
  (92, .putfield 45, 95, 1451, [4, 9, 38], 0, 0),
  (95, .aload_n 0, 96, 0, [0], 0, 0),
  (96, .bipush (7), 98, 0, [], 7, 0),
  (98, .newarray .int, 100, 257, [0], 0, 0),
  (100, .putfield 48, 103, 1452, [4, 9, 39], 0, 0),
  (103, .aload_n 0, 104, 0, [0], 0, 0),
  (104, .bipush (7), 106, 0, [], 7, 0),
  (106, .newarray .int, 108, 257, [0], 0, 0),
  (108, .putfield 51, 111, 1453, [4, 9, 40], 0, 0),
  (111, .aload_n 0, 112, 0, [0], 0, 0),
  (112, .bipush (56), 114, 0, [], 56, 0),
  (114, .newarray .int, 116, 257, [0], 0, 0),
  (116, .putfield 54, 119, 1454, [4, 9, 41], 0, 0)]
def pt_q1201_1 : List pm_Q := [(119, .aload_n 0, 120, 0, [0], 0, 0),
  (120, .bipush (56), 122, 0, [], 56, 0),
  (122, .newarray .int, 124, 257, [0], 0, 0),
  (124, .putfield 57, 127, 1455, [4, 9, 42], 0, 0),
  (127, .aload_n 0, 128, 0, [0], 0, 0),
  (128, .bipush (16), 130, 0, [], 16, 0),
  (130, .newarray .int, 132, 257, [0], 0, 0),
  (132, .putfield 60, 135, 1456, [4, 9, 43], 0, 0),
  (135, .aload_n 0, 136, 0, [0], 0, 0),
  (136, .sipush (192), 139, 0, [], 192, 0),
  (139, .newarray .int, 141, 257, [0], 0, 0),
  (141, .putfield 63, 144, 1457, [4, 9, 44], 0, 0),
  (144, .aload_n 0, 145, 0, [0], 0, 0),
  (145, .bipush (8), 147, 0, [], 8, 0),
  (147, .newarray .int, 149, 257, [0], 0, 0),
  (149, .putfield 66, 152, 1459, [4, 9, 46], 0, 0),
  (152, .aload_n 0, 153, 0, [0], 0, 0),
  (153, .bipush (7), 155, 0, [], 7, 0),
  (155, .newarray .int, 157, 257, [0], 0, 0),
  (157, .putfield 69, 160, 1460, [4, 9, 47], 0, 0),
  (160, .aload_n 0, 161, 0, [0], 0, 0),
  (161, .sipush (1792), 164, 0, [], 1792, 0),
  (164, .newarray .int, 166, 257, [0], 0, 0),
  (166, .putfield 72, 169, 1461, [4, 9, 48], 0, 0),
  (169, .aload_n 0, 170, 0, [0], 0, 0),
  (170, .sipush (256), 173, 0, [], 256, 0),
  (173, .newarray .int, 175, 257, [0], 0, 0),
  (175, .putfield 75, 178, 1462, [4, 9, 49], 0, 0),
  (178, .aload_n 0, 179, 0, [0], 0, 0),
  (179, .bipush (8), 181, 0, [], 8, 0),
  (181, .newarray .int, 183, 257, [0], 0, 0),
  (183, .putfield 78, 186, 1463, [4, 9, 50], 0, 0),
  (186, .aload_n 0, 187, 0, [0], 0, 0),
  (187, .sipush (256), 190, 0, [], 256, 0),
  (190, .newarray .int, 192, 257, [0], 0, 0),
  (192, .putfield 81, 195, 1465, [4, 9, 52], 0, 0),
  (195, .aload_n 0, 196, 0, [0], 0, 0),
  (196, .sipush (256), 199, 0, [], 256, 0),
  (199, .newarray .int, 201, 257, [0], 0, 0),
  (201, .putfield 84, 204, 1466, [4, 9, 53], 0, 0),
  (204, .aload_n 0, 205, 0, [0], 0, 0),
  (205, .sipush (896), 208, 0, [], 896, 0),
  (208, .newarray .int, 210, 257, [0], 0, 0),
  (210, .putfield 87, 213, 1467, [4, 9, 54], 0, 0),
  (213, .aload_n 0, 214, 0, [0], 0, 0),
  (214, .sipush (896), 217, 0, [], 896, 0),
  (217, .newarray .int, 219, 257, [0], 0, 0),
  (219, .putfield 90, 222, 1468, [4, 9, 55], 0, 0),
  (222, .aload_n 0, 223, 0, [0], 0, 0),
  (223, .sipush (128), 226, 0, [], 128, 0),
  (226, .newarray .int, 228, 257, [0], 0, 0),
  (228, .putfield 93, 231, 1469, [4, 9, 56], 0, 0),
  (231, .aload_n 0, 232, 0, [0], 0, 0),
  (232, .sipush (128), 235, 0, [], 128, 0),
  (235, .newarray .boolean, 237, 468, [3], 0, 0),
  (237, .putfield 96, 240, 1471, [4, 9, 58], 0, 0),
  (240, .aload_n 0, 241, 0, [0], 0, 0),
  (241, .sipush (567), 244, 0, [], 567, 0),
  (244, .newarray .int, 246, 257, [0], 0, 0),
  (246, .putfield 100, 249, 1472, [4, 9, 59], 0, 0)]
def pt_q1201_2 : List pm_Q := [(249, .aload_n 0, 250, 0, [0], 0, 0),
  (250, .sipush (567), 253, 0, [], 567, 0),
  (253, .newarray .int, 255, 257, [0], 0, 0),
  (255, .putfield 103, 258, 1473, [4, 9, 60], 0, 0),
  (258, .aload_n 0, 259, 0, [0], 0, 0),
  (259, .sipush (567), 262, 0, [], 567, 0),
  (262, .newarray .int, 264, 257, [0], 0, 0),
  (264, .putfield 106, 267, 1474, [4, 9, 61], 0, 0),
  (267, .aload_n 0, 268, 0, [0], 0, 0),
  (268, .bipush (7), 270, 0, [], 7, 0),
  (270, .newarray .int, 272, 257, [0], 0, 0),
  (272, .putfield 109, 275, 1475, [4, 9, 62], 0, 0),
  (275, .aload_n 0, 276, 0, [0], 0, 0),
  (276, .invokevirtual 112, 279, 1402, [1222, 1, 0, 9, 1404, 50, 138, 1405], 0, 0),
  (279, .aload_n 0, 280, 0, [0], 0, 0),
  (280, .invokevirtual 115, 283, 1406, [1238, 1, 0, 9, 1408, 51, 138, 1409], 0, 0),
  (283, .return_, 284, 0, [], 0, 0)]
def pt_m1201 : pm_Me := (⟨"TurnCabinetModel", "<init>", "()V"⟩, prog_12_method_1_code, 1, none, 2, 42, pt_q1201_0 ++ pt_q1201_1 ++ pt_q1201_2)
-- TurnCabinetModel.readsNothing()V
def pt_q1222_0 : List pm_Q := [(0, .aload_n 0, 1, 0, [0], 0, 0),
  (1, .iconst (0), 2, 0, [], 0, 0),
  (2, .putfield 208, 5, 1426, [0, 9, 13], 0, 0),
  (5, .aload_n 0, 6, 0, [0], 0, 0),
  (6, .iconst (0), 7, 0, [], 0, 0),
  (7, .putfield 211, 10, 1427, [0, 9, 14], 0, 0),
  (10, .aload_n 0, 11, 0, [0], 0, 0),
  (11, .iconst (1), 12, 0, [], 1, 0),
  (12, .putfield 214, 15, 1428, [0, 9, 15], 0, 0),
  (15, .aload_n 0, 16, 0, [0], 0, 0),
  (16, .iconst (1), 17, 0, [], 1, 0),
  (17, .putfield 217, 20, 1429, [0, 9, 16], 0, 0),
  (20, .aload_n 0, 21, 0, [0], 0, 0),
  (21, .iconst (-1), 22, 0, [], -1, 0),
  (22, .putfield 220, 25, 1430, [0, 9, 17], 0, 0),
  (25, .aload_n 0, 26, 0, [0], 0, 0),
  (26, .iconst (0), 27, 0, [], 0, 0),
  (27, .putfield 223, 30, 1431, [0, 9, 18], 0, 0),
  (30, .aload_n 0, 31, 0, [0], 0, 0),
  (31, .iconst (1), 32, 0, [], 1, 0),
  (32, .putfield 226, 35, 1432, [0, 9, 19], 0, 0),
  (35, .aload_n 0, 36, 0, [0], 0, 0),
  (36, .iconst (0), 37, 0, [], 0, 0),
  (37, .putfield 229, 40, 1433, [0, 9, 20], 0, 0),
  (40, .aload_n 0, 41, 0, [0], 0, 0),
  (41, .iconst (0), 42, 0, [], 0, 0),
  (42, .putfield 232, 45, 1434, [0, 9, 21], 0, 0),
  (45, .iconst (0), 46, 0, [], 0, 0),
  (46, .istore_n 1, 47, 0, [1], 0, 0),
  (47, .iload_n 1, 48, 0, [1], 0, 0),
  (48, .bipush (56), 50, 0, [], 56, 0),
  (50, .if_icmp .ge (23), 53, 0, [73], 0, 0),
  (53, .aload_n 0, 54, 0, [0], 0, 0),
  (54, .getfield 39, 57, 1441, [0, 9, 28], 0, 0),
  (57, .iload_n 1, 58, 0, [1], 0, 0),
  (58, .iconst (-1), 59, 0, [], -1, 0),
  (59, .iastore, 60, 0, [], 0, 0),
  (60, .aload_n 0, 61, 0, [0], 0, 0),
  (61, .getfield 42, 64, 1442, [0, 9, 29], 0, 0),
  (64, .iload_n 1, 65, 0, [1], 0, 0),
  (65, .iconst (-1), 66, 0, [], -1, 0),
  (66, .iastore, 67, 0, [], 0, 0),
  (67, .iinc 1 (1), 70, 0, [1], 1, 0),
  (70, .goto (-23), 73, 0, [47], 0, 0),
  (73, .iconst (0), 74, 0, [], 0, 0),
  (74, .istore_n 1, 75, 0, [1], 0, 0),
  (75, .iload_n 1, 76, 0, [1], 0, 0),
  (76, .bipush (7), 78, 0, [], 7, 0),
  (78, .if_icmp .ge (23), 81, 0, [101], 0, 0),
  (81, .aload_n 0, 82, 0, [0], 0, 0),
  (82, .getfield 27, 85, 1437, [0, 9, 24], 0, 0),
  (85, .iload_n 1, 86, 0, [1], 0, 0),
  (86, .iconst (0), 87, 0, [], 0, 0),
  (87, .iastore, 88, 0, [], 0, 0),
  (88, .aload_n 0, 89, 0, [0], 0, 0),
  (89, .getfield 36, 92, 1440, [0, 9, 27], 0, 0),
  (92, .iload_n 1, 93, 0, [1], 0, 0),
  (93, .iconst (0), 94, 0, [], 0, 0),
  (94, .iastore, 95, 0, [], 0, 0),
  (95, .iinc 1 (1), 98, 0, [1], 1, 0)]
def pt_q1222_1 : List pm_Q := [(98, .goto (-23), 101, 0, [75], 0, 0),
  (101, .return_, 102, 0, [], 0, 0)]
def pt_m1222 : pm_Me := (⟨"TurnCabinetModel", "readsNothing", "()V"⟩, prog_12_method_22_code, 2, none, 0, 0, pt_q1222_0 ++ pt_q1222_1)
-- TurnCabinetModel.takes()V
def pt_q1238_0 : List pm_Q := [(0, .aload_n 0, 1, 0, [0], 0, 0),
  (1, .aload_n 0, 2, 0, [0], 0, 0),
  (2, .getfield 208, 5, 1426, [0, 9, 13], 0, 0),
  (5, .putfield 301, 8, 1443, [0, 9, 30], 0, 0),
  (8, .aload_n 0, 9, 0, [0], 0, 0),
  (9, .aload_n 0, 10, 0, [0], 0, 0),
  (10, .getfield 211, 13, 1427, [0, 9, 14], 0, 0),
  (13, .putfield 304, 16, 1444, [0, 9, 31], 0, 0),
  (16, .aload_n 0, 17, 0, [0], 0, 0),
  (17, .aload_n 0, 18, 0, [0], 0, 0),
  (18, .getfield 214, 21, 1428, [0, 9, 15], 0, 0),
  (21, .putfield 307, 24, 1445, [0, 9, 32], 0, 0),
  (24, .aload_n 0, 25, 0, [0], 0, 0),
  (25, .aload_n 0, 26, 0, [0], 0, 0),
  (26, .getfield 217, 29, 1429, [0, 9, 16], 0, 0),
  (29, .putfield 310, 32, 1446, [0, 9, 33], 0, 0),
  (32, .aload_n 0, 33, 0, [0], 0, 0),
  (33, .aload_n 0, 34, 0, [0], 0, 0),
  (34, .getfield 220, 37, 1430, [0, 9, 17], 0, 0),
  (37, .putfield 313, 40, 1447, [0, 9, 34], 0, 0),
  (40, .aload_n 0, 41, 0, [0], 0, 0),
  (41, .aload_n 0, 42, 0, [0], 0, 0),
  (42, .getfield 223, 45, 1431, [0, 9, 18], 0, 0),
  (45, .putfield 316, 48, 1448, [0, 9, 35], 0, 0),
  (48, .aload_n 0, 49, 0, [0], 0, 0),
  (49, .aload_n 0, 50, 0, [0], 0, 0),
  (50, .getfield 226, 53, 1432, [0, 9, 19], 0, 0),
  (53, .putfield 319, 56, 1449, [0, 9, 36], 0, 0),
  (56, .aload_n 0, 57, 0, [0], 0, 0),
  (57, .aload_n 0, 58, 0, [0], 0, 0),
  (58, .getfield 229, 61, 1433, [0, 9, 20], 0, 0),
  (61, .putfield 322, 64, 1450, [0, 9, 37], 0, 0),
  (64, .iconst (0), 65, 0, [], 0, 0),
  (65, .istore_n 1, 66, 0, [1], 0, 0),
  (66, .iload_n 1, 67, 0, [1], 0, 0),
  (67, .bipush (7), 69, 0, [], 7, 0),
  (69, .if_icmp .ge (60), 72, 0, [129], 0, 0),
  (72, .aload_n 0, 73, 0, [0], 0, 0),
  (73, .getfield 45, 76, 1451, [0, 9, 38], 0, 0),
  (76, .iload_n 1, 77, 0, [1], 0, 0),
  (77, .aload_n 0, 78, 0, [0], 0, 0),
  (78, .getfield 30, 81, 1438, [0, 9, 25], 0, 0),
  (81, .iload_n 1, 82, 0, [1], 0, 0),
  (82, .iaload, 83, 0, [], 0, 0),
  (83, .iastore, 84, 0, [], 0, 0),
  (84, .aload_n 0, 85, 0, [0], 0, 0),
  (85, .getfield 48, 88, 1452, [0, 9, 39], 0, 0),
  (88, .iload_n 1, 89, 0, [1], 0, 0),
  (89, .aload_n 0, 90, 0, [0], 0, 0),
  (90, .getfield 33, 93, 1439, [0, 9, 26], 0, 0),
  (93, .iload_n 1, 94, 0, [1], 0, 0),
  (94, .iaload, 95, 0, [], 0, 0),
  (95, .iastore, 96, 0, [], 0, 0),
  (96, .aload_n 0, 97, 0, [0], 0, 0),
  (97, .getfield 51, 100, 1453, [0, 9, 40], 0, 0),
  (100, .iload_n 1, 101, 0, [1], 0, 0),
  (101, .aload_n 0, 102, 0, [0], 0, 0),
  (102, .getfield 36, 105, 1440, [0, 9, 27], 0, 0),
  (105, .iload_n 1, 106, 0, [1], 0, 0),
  (106, .iaload, 107, 0, [], 0, 0)]
def pt_q1238_1 : List pm_Q := [(107, .iastore, 108, 0, [], 0, 0),
  (108, .aload_n 0, 109, 0, [0], 0, 0),
  (109, .getfield 60, 112, 1456, [0, 9, 43], 0, 0),
  (112, .bipush (9), 114, 0, [], 9, 0),
  (114, .iload_n 1, 115, 0, [1], 0, 0),
  (115, .iadd, 116, 0, [], 0, 0),
  (116, .aload_n 0, 117, 0, [0], 0, 0),
  (117, .getfield 27, 120, 1437, [0, 9, 24], 0, 0),
  (120, .iload_n 1, 121, 0, [1], 0, 0),
  (121, .iaload, 122, 0, [], 0, 0),
  (122, .iastore, 123, 0, [], 0, 0),
  (123, .iinc 1 (1), 126, 0, [1], 1, 0),
  (126, .goto (-60), 129, 0, [66], 0, 0),
  (129, .iconst (0), 130, 0, [], 0, 0),
  (130, .istore_n 1, 131, 0, [1], 0, 0),
  (131, .iload_n 1, 132, 0, [1], 0, 0),
  (132, .bipush (56), 134, 0, [], 56, 0),
  (134, .if_icmp .ge (41), 137, 0, [175], 0, 0),
  (137, .aload_n 0, 138, 0, [0], 0, 0),
  (138, .getfield 54, 141, 1454, [0, 9, 41], 0, 0),
  (141, .iload_n 1, 142, 0, [1], 0, 0),
  (142, .iconst (0), 143, 0, [], 0, 0),
  (143, .aload_n 0, 144, 0, [0], 0, 0),
  (144, .getfield 39, 147, 1441, [0, 9, 28], 0, 0),
  (147, .iload_n 1, 148, 0, [1], 0, 0),
  (148, .iaload, 149, 0, [], 0, 0),
  (149, .invokestatic 325, 152, 1410, [1204, 2, 0, 1411, 138, 1412], 0, 0),
  (152, .iastore, 153, 0, [], 0, 0),
  (153, .aload_n 0, 154, 0, [0], 0, 0),
  (154, .getfield 57, 157, 1455, [0, 9, 42], 0, 0),
  (157, .iload_n 1, 158, 0, [1], 0, 0),
  (158, .iconst (0), 159, 0, [], 0, 0),
  (159, .aload_n 0, 160, 0, [0], 0, 0),
  (160, .getfield 42, 163, 1442, [0, 9, 29], 0, 0),
  (163, .iload_n 1, 164, 0, [1], 0, 0),
  (164, .iaload, 165, 0, [], 0, 0),
  (165, .invokestatic 325, 168, 1410, [1204, 2, 0, 1411, 138, 1412], 0, 0),
  (168, .iastore, 169, 0, [], 0, 0),
  (169, .iinc 1 (1), 172, 0, [1], 1, 0),
  (172, .goto (-41), 175, 0, [131], 0, 0),
  (175, .aload_n 0, 176, 0, [0], 0, 0),
  (176, .getfield 60, 179, 1456, [0, 9, 43], 0, 0),
  (179, .iconst (0), 180, 0, [], 0, 0),
  (180, .iconst (0), 181, 0, [], 0, 0),
  (181, .iastore, 182, 0, [], 0, 0),
  (182, .iconst (0), 183, 0, [], 0, 0),
  (183, .istore_n 1, 184, 0, [1], 0, 0),
  (184, .iload_n 1, 185, 0, [1], 0, 0),
  (185, .bipush (8), 187, 0, [], 8, 0),
  (187, .if_icmp .ge (18), 190, 0, [205], 0, 0),
  (190, .aload_n 0, 191, 0, [0], 0, 0),
  (191, .getfield 60, 194, 1456, [0, 9, 43], 0, 0),
  (194, .iconst (1), 195, 0, [], 1, 0),
  (195, .iload_n 1, 196, 0, [1], 0, 0),
  (196, .iadd, 197, 0, [], 0, 0),
  (197, .iconst (-1), 198, 0, [], -1, 0),
  (198, .iastore, 199, 0, [], 0, 0),
  (199, .iinc 1 (1), 202, 0, [1], 1, 0),
  (202, .goto (-18), 205, 0, [184], 0, 0),
  (205, .aload_n 0, 206, 0, [0], 0, 0)]
def pt_q1238_2 : List pm_Q := [(206, .iconst (0), 207, 0, [], 0, 0),
  (207, .putfield 328, 210, 1458, [0, 9, 45], 0, 0),
  (210, .aload_n 0, 211, 0, [0], 0, 0),
  (211, .iconst (0), 212, 0, [], 0, 0),
  (212, .putfield 331, 215, 1470, [0, 9, 57], 0, 0),
  (215, .return_, 216, 0, [], 0, 0)]
def pt_m1238 : pm_Me := (⟨"TurnCabinetModel", "takes", "()V"⟩, prog_12_method_38_code, 2, none, 1, 21, pt_q1238_0 ++ pt_q1238_1 ++ pt_q1238_2)
-- TurnCabinetModel.greater(II)I
def pt_q1204_0 : List pm_Q := [(0, .iload_n 0, 1, 0, [0], 0, 0),
  (1, .iload_n 1, 2, 0, [1], 0, 0),
  (2, .if_icmp .le (7), 5, 0, [9], 0, 0),
  (5, .iload_n 0, 6, 0, [0], 0, 0),
  (6, .goto (4), 9, 0, [10], 0, 0),
  (9, .iload_n 1, 10, 0, [1], 0, 0),
  (10, .ireturn, 11, 0, [], 0, 0)]
def pt_m1204 : pm_Me := (⟨"TurnCabinetModel", "greater", "(II)I"⟩, prog_12_method_4_code, 2, some .int, 0, 0, pt_q1204_0)
-- TurnCabinetModel.feed(IIIII)I
def pt_q1207_0 : List pm_Q := [(0, .aload_n 0, 1, 0, [0], 0, 0),
  (1, .getfield 118, 4, 1414, [0, 9, 1], 0, 0),
  (4, .bipush (20), 6, 0, [], 20, 0),
  (6, .iadd, 7, 0, [], 0, 0),
  (7, .sipush (900), 10, 0, [], 900, 0),
  (10, .if_icmp .le (5), 13, 0, [15], 0, 0),
  (13, .iconst (-1), 14, 0, [], -1, 0),
  (14, .ireturn, 15, 0, [], 0, 0),
  (15, .aload_n 0, 16, 0, [0], 0, 0),
  (16, .iload_n 1, 17, 0, [1], 0, 0),
  (17, .invokevirtual 121, 20, 1616, [1208, 2, 0, 9, 1618, 52, 138, 1619], 0, 0),
  (20, .aload_n 0, 21, 0, [0], 0, 0),
  (21, .iload_n 2, 22, 0, [2], 0, 0),
  (22, .invokevirtual 121, 25, 1616, [1208, 2, 0, 9, 1618, 52, 138, 1619], 0, 0),
  (25, .aload_n 0, 26, 0, [0], 0, 0),
  (26, .iload_n 3, 27, 0, [3], 0, 0),
  (27, .invokevirtual 121, 30, 1616, [1208, 2, 0, 9, 1618, 52, 138, 1619], 0, 0),
  (30, .aload_n 0, 31, 0, [0], 0, 0),
  (31, .iload 4, 33, 0, [4], 0, 0),
  (33, .invokevirtual 121, 36, 1616, [1208, 2, 0, 9, 1618, 52, 138, 1619], 0, 0),
  (36, .aload_n 0, 37, 0, [0], 0, 0),
  (37, .iload 5, 39, 0, [5], 0, 0),
  (39, .invokevirtual 121, 42, 1616, [1208, 2, 0, 9, 1618, 52, 138, 1619], 0, 0),
  (42, .aload_n 0, 43, 0, [0], 0, 0),
  (43, .getfield 118, 46, 1414, [0, 9, 1], 0, 0),
  (46, .ireturn, 47, 0, [], 0, 0)]
def pt_m1207 : pm_Me := (⟨"TurnCabinetModel", "feed", "(IIIII)I"⟩, prog_12_method_7_code, 6, some .int, 1, 22, pt_q1207_0)
-- TurnCabinetModel.four(I)V
def pt_q1208_0 : List pm_Q := [(0, .bipush (24), 2, 0, [], 24, 0),
  (2, .istore_n 2, 3, 0, [2], 0, 0),
  (3, .iload_n 2, 4, 0, [2], 0, 0),
  (4, .ifCond .lt (35), 7, 0, [39], 0, 0),
  (7, .aload_n 0, 8, 0, [0], 0, 0),
  (8, .getfield 7, 11, 1413, [0, 9, 0], 0, 0),
  (11, .aload_n 0, 12, 0, [0], 0, 0),
  (12, .getfield 118, 15, 1414, [0, 9, 1], 0, 0),
  (15, .iload_n 1, 16, 0, [1], 0, 0),
  (16, .iload_n 2, 17, 0, [2], 0, 0),
  (17, .ishr, 18, 0, [], 0, 0),
  (18, .sipush (255), 21, 0, [], 255, 0),
  (21, .iand, 22, 0, [], 0, 0),
  (22, .iastore, 23, 0, [], 0, 0),
  (23, .aload_n 0, 24, 0, [0], 0, 0),
  (24, .dup, 25, 0, [], 0, 0),
  (25, .getfield 118, 28, 1414, [0, 9, 1], 0, 0),
  (28, .iconst (1), 29, 0, [], 1, 0),
  (29, .iadd, 30, 0, [], 0, 0),
  (30, .putfield 118, 33, 1414, [0, 9, 1], 0, 0),
  (33, .iinc 2 (-8), 36, 0, [2], -8, 0),
  (36, .goto (-33), 39, 0, [3], 0, 0),
  (39, .return_, 40, 0, [], 0, 0)]
def pt_m1208 : pm_Me := (⟨"TurnCabinetModel", "four", "(I)V"⟩, prog_12_method_8_code, 3, none, 0, 0, pt_q1208_0)
-- TurnCabinetModel.end(I)I
def pt_q1209_0 : List pm_Q := [(0, .iload_n 1, 1, 0, [1], 0, 0),
  (1, .i2l, 2, 0, [], 0, 0),
  (2, .lconst 0, 3, 0, [], 0, 0),
  (3, .aload_n 0, 4, 0, [0], 0, 0),
  (4, .getfield 118, 7, 1414, [0, 9, 1], 0, 0),
  (7, .i2l, 8, 0, [], 0, 0),
  (8, .invokestatic 125, 11, 1624, [1202, 3, 0, 1625, 138, 1626], 0, 0),
  (11, .ifCond .ne (5), 14, 0, [16], 0, 0),
  (14, .iconst (-1), 15, 0, [], -1, 0),
  (15, .ireturn, 16, 0, [], 0, 0),
  (16, .aload_n 0, 17, 0, [0], 0, 0),
  (17, .iload_n 1, 18, 0, [1], 0, 0),
  (18, .putfield 118, 21, 1414, [0, 9, 1], 0, 0),
  (21, .iload_n 1, 22, 0, [1], 0, 0),
  (22, .ireturn, 23, 0, [], 0, 0)]
def pt_m1209 : pm_Me := (⟨"TurnCabinetModel", "end", "(I)I"⟩, prog_12_method_9_code, 2, some .int, 1, 25, pt_q1209_0)
-- TurnCabinetModel.isIn(JJJ)Z
def pt_q1202_0 : List pm_Q := [(0, .lload_n 0, 1, 0, [0], 0, 0),
  (1, .lload_n 2, 2, 0, [2], 0, 0),
  (2, .lcmp, 3, 0, [], 0, 0),
  (3, .ifCond .lt (14), 6, 0, [17], 0, 0),
  (6, .lload_n 0, 7, 0, [0], 0, 0),
  (7, .lload 4, 9, 0, [4], 0, 0),
  (9, .lcmp, 10, 0, [], 0, 0),
  (10, .ifCond .gt (7), 13, 0, [17], 0, 0),
  (13, .iconst (1), 14, 0, [], 1, 0),
  (14, .goto (4), 17, 0, [18], 0, 0),
  (17, .iconst (0), 18, 0, [], 0, 0),
  (18, .ireturn, 19, 0, [], 0, 0)]
def pt_m1202 : pm_Me := (⟨"TurnCabinetModel", "isIn", "(JJJ)Z"⟩, prog_12_method_2_code, 6, some .boolean, 0, 0, pt_q1202_0)
-- TurnCabinetModel.house()I
def pt_q1237_0 : List pm_Q := [(0, .aload_n 0, 1, 0, [0], 0, 0),
  (1, .invokevirtual 112, 4, 1402, [1222, 1, 0, 9, 1404, 50, 138, 1405], 0, 0),
  (4, .aload_n 0, 5, 0, [0], 0, 0),
  (5, .aload_n 0, 6, 0, [0], 0, 0),
  (6, .getfield 118, 9, 1414, [0, 9, 1], 0, 0),
  (9, .putfield 132, 12, 1415, [0, 9, 2], 0, 0),
  (12, .aload_n 0, 13, 0, [0], 0, 0),
  (13, .iconst (0), 14, 0, [], 0, 0),
  (14, .putfield 118, 17, 1414, [0, 9, 1], 0, 0),
  (17, .aload_n 0, 18, 0, [0], 0, 0),
  (18, .iconst (0), 19, 0, [], 0, 0),
  (19, .putfield 129, 22, 1416, [0, 9, 3], 0, 0),
  (22, .aload_n 0, 23, 0, [0], 0, 0),
  (23, .iconst (0), 24, 0, [], 0, 0),
  (24, .putfield 162, 27, 1421, [0, 9, 8], 0, 0),
  (27, .aload_n 0, 28, 0, [0], 0, 0),
  (28, .iconst (-1), 29, 0, [], -1, 0),
  (29, .putfield 13, 32, 1422, [0, 9, 9], 0, 0),
  (32, .aload_n 0, 33, 0, [0], 0, 0),
  (33, .invokevirtual 191, 36, 1631, [1213, 1, 0, 9, 1633, 53, 138, 1634], 0, 0),
  (36, .aload_n 0, 37, 0, [0], 0, 0),
  (37, .invokevirtual 197, 40, 1645, [1215, 1, 0, 9, 1647, 55, 138, 1648], 0, 0),
  (40, .ifCond .eq (17), 43, 0, [57], 0, 0),
  (43, .aload_n 0, 44, 0, [0], 0, 0),
  (44, .getfield 152, 47, 1418, [0, 9, 5], 0, 0),
  (47, .ifCond .eq (10), 50, 0, [57], 0, 0),
  (50, .aload_n 0, 51, 0, [0], 0, 0),
  (51, .invokevirtual 295, 54, 1649, [1236, 1, 0, 9, 1651, 56, 138, 1652], 0, 0),
  (54, .goto (-18), 57, 0, [36], 0, 0),
  (57, .aload_n 0, 58, 0, [0], 0, 0),
  (58, .aload_n 0, 59, 0, [0], 0, 0),
  (59, .getfield 162, 62, 1421, [0, 9, 8], 0, 0),
  (62, .putfield 298, 65, 1423, [0, 9, 10], 0, 0),
  (65, .aload_n 0, 66, 0, [0], 0, 0),
  (66, .aload_n 0, 67, 0, [0], 0, 0),
  (67, .getfield 13, 70, 1422, [0, 9, 9], 0, 0),
  (70, .putfield 17, 73, 1424, [0, 9, 11], 0, 0),
  (73, .aload_n 0, 74, 0, [0], 0, 0),
  (74, .getfield 162, 77, 1421, [0, 9, 8], 0, 0),
  (77, .ifCond .le (5), 80, 0, [82], 0, 0),
  (80, .iconst (-1), 81, 0, [], -1, 0),
  (81, .ireturn, 82, 0, [], 0, 0),
  (82, .aload_n 0, 83, 0, [0], 0, 0),
  (83, .invokevirtual 115, 86, 1406, [1238, 1, 0, 9, 1408, 51, 138, 1409], 0, 0),
  (86, .aload_n 0, 87, 0, [0], 0, 0),
  (87, .getfield 301, 90, 1443, [0, 9, 30], 0, 0),
  (90, .ireturn, 91, 0, [], 0, 0)]
def pt_m1237 : pm_Me := (⟨"TurnCabinetModel", "house", "()I"⟩, prog_12_method_37_code, 1, some .int, 5, 111, pt_q1237_0)
-- TurnCabinetModel.goOn()V
def pt_q1213_0 : List pm_Q := [(0, .aload_n 0, 1, 0, [0], 0, 0),
  (1, .iconst (0), 2, 0, [], 0, 0),
  (2, .invokevirtual 135, 5, 1635, [1210, 2, 0, 9, 1637, 54, 138, 1638], 0, 0),
  (5, .bipush (32), 7, 0, [], 32, 0),
  (7, .if_icmp .eq (13), 10, 0, [20], 0, 0),
  (10, .aload_n 0, 11, 0, [0], 0, 0),
  (11, .iconst (0), 12, 0, [], 0, 0),
  (12, .invokevirtual 135, 15, 1635, [1210, 2, 0, 9, 1637, 54, 138, 1638], 0, 0),
  (15, .bipush (10), 17, 0, [], 10, 0),
  (17, .if_icmp .ne (16), 20, 0, [33], 0, 0),
  (20, .aload_n 0, 21, 0, [0], 0, 0),
  (21, .dup, 22, 0, [], 0, 0),
  (22, .getfield 129, 25, 1416, [0, 9, 3], 0, 0),
  (25, .iconst (1), 26, 0, [], 1, 0),
  (26, .iadd, 27, 0, [], 0, 0),
  (27, .putfield 129, 30, 1416, [0, 9, 3], 0, 0),
  (30, .goto (-30), 33, 0, [0], 0, 0),
  (33, .aload_n 0, 34, 0, [0], 0, 0),
  (34, .aload_n 0, 35, 0, [0], 0, 0),
  (35, .getfield 129, 38, 1416, [0, 9, 3], 0, 0),
  (38, .putfield 139, 41, 1417, [0, 9, 4], 0, 0),
  (41, .aload_n 0, 42, 0, [0], 0, 0),
  (42, .lconst 0, 43, 0, [], 0, 0),
  (43, .putfield 142, 46, 1425, [0, 9, 12], 0, 0),
  (46, .aload_n 0, 47, 0, [0], 0, 0),
  (47, .iconst (0), 48, 0, [], 0, 0),
  (48, .putfield 146, 51, 1419, [0, 9, 6], 0, 0),
  (51, .aload_n 0, 52, 0, [0], 0, 0),
  (52, .iconst (0), 53, 0, [], 0, 0),
  (53, .putfield 149, 56, 1420, [0, 9, 7], 0, 0),
  (56, .aload_n 0, 57, 0, [0], 0, 0),
  (57, .iconst (0), 58, 0, [], 0, 0),
  (58, .invokevirtual 135, 61, 1635, [1210, 2, 0, 9, 1637, 54, 138, 1638], 0, 0),
  (61, .istore_n 1, 62, 0, [1], 0, 0),
  (62, .iconst (0), 63, 0, [], 0, 0),
  (63, .istore_n 2, 64, 0, [2], 0, 0),
  (64, .iload_n 1, 65, 0, [1], 0, 0),
  (65, .ifCond .ge (9), 68, 0, [74], 0, 0),
  (68, .aload_n 0, 69, 0, [0], 0, 0),
  (69, .iconst (0), 70, 0, [], 0, 0),
  (70, .putfield 152, 73, 1418, [0, 9, 5], 0, 0),
  (73, .return_, 74, 0, [], 0, 0),
  (74, .iload_n 1, 75, 0, [1], 0, 0),
  (75, .invokestatic 155, 78, 1639, [1211, 1, 0, 1640, 138, 1641], 0, 0),
  (78, .ifCond .eq (67), 81, 0, [145], 0, 0),
  (81, .aload_n 0, 82, 0, [0], 0, 0),
  (82, .iload_n 2, 83, 0, [2], 0, 0),
  (83, .invokevirtual 135, 86, 1635, [1210, 2, 0, 9, 1637, 54, 138, 1638], 0, 0),
  (86, .invokestatic 155, 89, 1639, [1211, 1, 0, 1640, 138, 1641], 0, 0),
  (89, .ifCond .eq (33), 92, 0, [122], 0, 0),
  (92, .iload_n 2, 93, 0, [2], 0, 0),
  (93, .bipush (8), 95, 0, [], 8, 0),
  (95, .if_icmp .ge (21), 98, 0, [116], 0, 0),
  (98, .aload_n 0, 99, 0, [0], 0, 0),
  (99, .aload_n 0, 100, 0, [0], 0, 0),
  (100, .getfield 142, 103, 1425, [0, 9, 12], 0, 0),
  (103, .bipush (8), 105, 0, [], 8, 0),
  (105, .lshl, 106, 0, [], 0, 0),
  (106, .aload_n 0, 107, 0, [0], 0, 0),
  (107, .iload_n 2, 108, 0, [2], 0, 0)]
def pt_q1213_1 : List pm_Q := [(108, .invokevirtual 135, 111, 1635, [1210, 2, 0, 9, 1637, 54, 138, 1638], 0, 0),
  (111, .i2l, 112, 0, [], 0, 0),
  (112, .lor, 113, 0, [], 0, 0),
  (113, .putfield 142, 116, 1425, [0, 9, 12], 0, 0),
  (116, .iinc 2 (1), 119, 0, [2], 1, 0),
  (119, .goto (-38), 122, 0, [81], 0, 0),
  (122, .aload_n 0, 123, 0, [0], 0, 0),
  (123, .iload_n 2, 124, 0, [2], 0, 0),
  (124, .putfield 149, 127, 1420, [0, 9, 7], 0, 0),
  (127, .aload_n 0, 128, 0, [0], 0, 0),
  (128, .iload_n 2, 129, 0, [2], 0, 0),
  (129, .bipush (8), 131, 0, [], 8, 0),
  (131, .if_icmp .le (7), 134, 0, [138], 0, 0),
  (134, .iconst (4), 135, 0, [], 4, 0),
  (135, .goto (4), 138, 0, [139], 0, 0),
  (138, .iconst (1), 139, 0, [], 1, 0),
  (139, .putfield 152, 142, 1418, [0, 9, 5], 0, 0),
  (142, .goto (97), 145, 0, [239], 0, 0),
  (145, .iload_n 1, 146, 0, [1], 0, 0),
  (146, .invokestatic 159, 149, 1642, [1212, 1, 0, 1643, 138, 1644], 0, 0),
  (149, .ifCond .eq (73), 152, 0, [222], 0, 0),
  (152, .aload_n 0, 153, 0, [0], 0, 0),
  (153, .iload_n 2, 154, 0, [2], 0, 0),
  (154, .invokevirtual 135, 157, 1635, [1210, 2, 0, 9, 1637, 54, 138, 1638], 0, 0),
  (157, .invokestatic 159, 160, 1642, [1212, 1, 0, 1643, 138, 1644], 0, 0),
  (160, .ifCond .eq (34), 163, 0, [194], 0, 0),
  (163, .iload_n 2, 164, 0, [2], 0, 0),
  (164, .iconst (3), 165, 0, [], 3, 0),
  (165, .if_icmp .ge (23), 168, 0, [188], 0, 0),
  (168, .aload_n 0, 169, 0, [0], 0, 0),
  (169, .bipush (10), 171, 0, [], 10, 0),
  (171, .aload_n 0, 172, 0, [0], 0, 0),
  (172, .getfield 146, 175, 1419, [0, 9, 6], 0, 0),
  (175, .imul, 176, 0, [], 0, 0),
  (176, .aload_n 0, 177, 0, [0], 0, 0),
  (177, .iload_n 2, 178, 0, [2], 0, 0),
  (178, .invokevirtual 135, 181, 1635, [1210, 2, 0, 9, 1637, 54, 138, 1638], 0, 0),
  (181, .iadd, 182, 0, [], 0, 0),
  (182, .bipush (48), 184, 0, [], 48, 0),
  (184, .isub, 185, 0, [], 0, 0),
  (185, .putfield 146, 188, 1419, [0, 9, 6], 0, 0),
  (188, .iinc 2 (1), 191, 0, [2], 1, 0),
  (191, .goto (-39), 194, 0, [152], 0, 0),
  (194, .aload_n 0, 195, 0, [0], 0, 0),
  (195, .iload_n 2, 196, 0, [2], 0, 0),
  (196, .iconst (3), 197, 0, [], 3, 0),
  (197, .if_icmp .gt (14), 200, 0, [211], 0, 0),
  (200, .aload_n 0, 201, 0, [0], 0, 0),
  (201, .iload_n 2, 202, 0, [2], 0, 0),
  (202, .invokevirtual 135, 205, 1635, [1210, 2, 0, 9, 1637, 54, 138, 1638], 0, 0),
  (205, .invokestatic 155, 208, 1639, [1211, 1, 0, 1640, 138, 1641], 0, 0),
  (208, .ifCond .eq (7), 211, 0, [215], 0, 0),
  (211, .iconst (4), 212, 0, [], 4, 0),
  (212, .goto (4), 215, 0, [216], 0, 0),
  (215, .iconst (2), 216, 0, [], 2, 0),
  (216, .putfield 152, 219, 1418, [0, 9, 5], 0, 0),
  (219, .goto (20), 222, 0, [239], 0, 0),
  (222, .aload_n 0, 223, 0, [0], 0, 0),
  (223, .iload_n 1, 224, 0, [1], 0, 0),
  (224, .bipush (59), 226, 0, [], 59, 0)]
def pt_q1213_2 : List pm_Q := [(226, .if_icmp .ne (7), 229, 0, [233], 0, 0),
  (229, .iconst (3), 230, 0, [], 3, 0),
  (230, .goto (4), 233, 0, [234], 0, 0),
  (233, .iconst (4), 234, 0, [], 4, 0),
  (234, .putfield 152, 237, 1418, [0, 9, 5], 0, 0),
  (237, .iconst (1), 238, 0, [], 1, 0),
  (238, .istore_n 2, 239, 0, [2], 0, 0),
  (239, .aload_n 0, 240, 0, [0], 0, 0),
  (240, .dup, 241, 0, [], 0, 0),
  (241, .getfield 129, 244, 1416, [0, 9, 3], 0, 0),
  (244, .iload_n 2, 245, 0, [2], 0, 0),
  (245, .iadd, 246, 0, [], 0, 0),
  (246, .putfield 129, 249, 1416, [0, 9, 3], 0, 0),
  (249, .return_, 250, 0, [], 0, 0)]
def pt_m1213 : pm_Me := (⟨"TurnCabinetModel", "goOn", "()V"⟩, prog_12_method_13_code, 3, none, 1, 21, pt_q1213_0 ++ pt_q1213_1 ++ pt_q1213_2)
-- TurnCabinetModel.here(I)I
def pt_q1210_0 : List pm_Q := [(0, .aload_n 0, 1, 0, [0], 0, 0),
  (1, .getfield 129, 4, 1416, [0, 9, 3], 0, 0),
  (4, .iload_n 1, 5, 0, [1], 0, 0),
  (5, .iadd, 6, 0, [], 0, 0),
  (6, .aload_n 0, 7, 0, [0], 0, 0),
  (7, .getfield 132, 10, 1415, [0, 9, 2], 0, 0),
  (10, .if_icmp .ge (17), 13, 0, [27], 0, 0),
  (13, .aload_n 0, 14, 0, [0], 0, 0),
  (14, .getfield 7, 17, 1413, [0, 9, 0], 0, 0),
  (17, .aload_n 0, 18, 0, [0], 0, 0),
  (18, .getfield 129, 21, 1416, [0, 9, 3], 0, 0),
  (21, .iload_n 1, 22, 0, [1], 0, 0),
  (22, .iadd, 23, 0, [], 0, 0),
  (23, .iaload, 24, 0, [], 0, 0),
  (24, .goto (4), 27, 0, [28], 0, 0),
  (27, .iconst (-1), 28, 0, [], -1, 0),
  (28, .ireturn, 29, 0, [], 0, 0)]
def pt_m1210 : pm_Me := (⟨"TurnCabinetModel", "here", "(I)I"⟩, prog_12_method_10_code, 2, some .int, 0, 0, pt_q1210_0)
-- TurnCabinetModel.isLetter(I)Z
def pt_q1211_0 : List pm_Q := [(0, .iload_n 0, 1, 0, [0], 0, 0),
  (1, .bipush (97), 3, 0, [], 97, 0),
  (3, .if_icmp .lt (13), 6, 0, [16], 0, 0),
  (6, .iload_n 0, 7, 0, [0], 0, 0),
  (7, .bipush (122), 9, 0, [], 122, 0),
  (9, .if_icmp .gt (7), 12, 0, [16], 0, 0),
  (12, .iconst (1), 13, 0, [], 1, 0),
  (13, .goto (4), 16, 0, [17], 0, 0),
  (16, .iconst (0), 17, 0, [], 0, 0),
  (17, .ireturn, 18, 0, [], 0, 0)]
def pt_m1211 : pm_Me := (⟨"TurnCabinetModel", "isLetter", "(I)Z"⟩, prog_12_method_11_code, 1, some .boolean, 0, 0, pt_q1211_0)
-- TurnCabinetModel.isDigit(I)Z
def pt_q1212_0 : List pm_Q := [(0, .iload_n 0, 1, 0, [0], 0, 0),
  (1, .bipush (48), 3, 0, [], 48, 0),
  (3, .if_icmp .lt (13), 6, 0, [16], 0, 0),
  (6, .iload_n 0, 7, 0, [0], 0, 0),
  (7, .bipush (57), 9, 0, [], 57, 0),
  (9, .if_icmp .gt (7), 12, 0, [16], 0, 0),
  (12, .iconst (1), 13, 0, [], 1, 0),
  (13, .goto (4), 16, 0, [17], 0, 0),
  (16, .iconst (0), 17, 0, [], 0, 0),
  (17, .ireturn, 18, 0, [], 0, 0)]
def pt_m1212 : pm_Me := (⟨"TurnCabinetModel", "isDigit", "(I)Z"⟩, prog_12_method_12_code, 1, some .boolean, 0, 0, pt_q1212_0)
-- TurnCabinetModel.isGood()Z
def pt_q1215_0 : List pm_Q := [(0, .aload_n 0, 1, 0, [0], 0, 0),
  (1, .getfield 162, 4, 1421, [0, 9, 8], 0, 0),
  (4, .ifCond .ne (7), 7, 0, [11], 0, 0),
  (7, .iconst (1), 8, 0, [], 1, 0),
  (8, .goto (4), 11, 0, [12], 0, 0),
  (11, .iconst (0), 12, 0, [], 0, 0),
  (12, .ireturn, 13, 0, [], 0, 0)]
def pt_m1215 : pm_Me := (⟨"TurnCabinetModel", "isGood", "()Z"⟩, prog_12_method_15_code, 1, some .boolean, 0, 0, pt_q1215_0)
-- TurnCabinetModel.line()V
def pt_q1236_0 : List pm_Q := [(0, .aload_n 0, 1, 0, [0], 0, 0),
  (1, .ldc2_w 165, 4, 1653, [], 0, 7235444471627739763),
  (4, .invokevirtual 201, 7, 1654, [1216, 2, 0, 9, 1656, 57, 138, 1657], 0, 0),
  (7, .ifCond .eq (10), 10, 0, [17], 0, 0),
  (10, .aload_n 0, 11, 0, [0], 0, 0),
  (11, .invokevirtual 264, 14, 1658, [1231, 1, 0, 9, 1660, 58, 138, 1661], 0, 0),
  (14, .goto (173), 17, 0, [187], 0, 0),
  (17, .aload_n 0, 18, 0, [0], 0, 0),
  (18, .ldc2_w 167, 21, 1677, [], 0, 1852138852),
  (21, .invokevirtual 201, 24, 1654, [1216, 2, 0, 9, 1656, 57, 138, 1657], 0, 0),
  (24, .ifCond .eq (10), 27, 0, [34], 0, 0),
  (27, .aload_n 0, 28, 0, [0], 0, 0),
  (28, .invokevirtual 267, 31, 1678, [1232, 1, 0, 9, 1680, 62, 138, 1681], 0, 0),
  (31, .goto (156), 34, 0, [187], 0, 0),
  (34, .aload_n 0, 35, 0, [0], 0, 0),
  (35, .ldc2_w 169, 38, 1682, [], 0, 1667330661),
  (38, .invokevirtual 201, 41, 1654, [1216, 2, 0, 9, 1656, 57, 138, 1657], 0, 0),
  (41, .ifCond .eq (10), 44, 0, [51], 0, 0),
  (44, .aload_n 0, 45, 0, [0], 0, 0),
  (45, .invokevirtual 270, 48, 1683, [1233, 1, 0, 9, 1685, 63, 138, 1686], 0, 0),
  (48, .goto (139), 51, 0, [187], 0, 0),
  (51, .aload_n 0, 52, 0, [0], 0, 0),
  (52, .ldc2_w 171, 55, 1687, [], 0, 500135716211),
  (55, .invokevirtual 201, 58, 1654, [1216, 2, 0, 9, 1656, 57, 138, 1657], 0, 0),
  (58, .ifCond .eq (10), 61, 0, [68], 0, 0),
  (61, .aload_n 0, 62, 0, [0], 0, 0),
  (62, .invokevirtual 273, 65, 1688, [1234, 1, 0, 9, 1690, 64, 138, 1691], 0, 0),
  (65, .goto (122), 68, 0, [187], 0, 0),
  (68, .aload_n 0, 69, 0, [0], 0, 0),
  (69, .ldc2_w 173, 72, 1692, [], 0, 1953067621),
  (72, .invokevirtual 201, 75, 1654, [1216, 2, 0, 9, 1656, 57, 138, 1657], 0, 0),
  (75, .ifCond .eq (10), 78, 0, [85], 0, 0),
  (78, .aload_n 0, 79, 0, [0], 0, 0),
  (79, .invokevirtual 276, 82, 1693, [1235, 1, 0, 9, 1695, 65, 138, 1696], 0, 0),
  (82, .goto (105), 85, 0, [187], 0, 0),
  (85, .aload_n 0, 86, 0, [0], 0, 0),
  (86, .ldc2_w 175, 89, 1697, [], 0, 122485595530085),
  (89, .invokevirtual 201, 92, 1654, [1216, 2, 0, 9, 1656, 57, 138, 1657], 0, 0),
  (92, .ifCond .eq (10), 95, 0, [102], 0, 0),
  (95, .aload_n 0, 96, 0, [0], 0, 0),
  (96, .invokevirtual 279, 99, 1698, [1227, 1, 0, 9, 1700, 66, 138, 1701], 0, 0),
  (99, .goto (88), 102, 0, [187], 0, 0),
  (102, .aload_n 0, 103, 0, [0], 0, 0),
  (103, .ldc2_w 177, 106, 1714, [], 0, 482671228025),
  (106, .invokevirtual 201, 109, 1654, [1216, 2, 0, 9, 1656, 57, 138, 1657], 0, 0),
  (109, .ifCond .eq (10), 112, 0, [119], 0, 0),
  (112, .aload_n 0, 113, 0, [0], 0, 0),
  (113, .invokevirtual 282, 116, 1724, [1228, 1, 0, 9, 1726, 70, 138, 1727], 0, 0),
  (116, .goto (71), 119, 0, [187], 0, 0),
  (119, .aload_n 0, 120, 0, [0], 0, 0),
  (120, .ldc2_w 185, 123, 1718, [], 0, 512970880104),
  (123, .invokevirtual 201, 126, 1654, [1216, 2, 0, 9, 1656, 57, 138, 1657], 0, 0),
  (126, .ifCond .eq (16), 129, 0, [142], 0, 0),
  (129, .aload_n 0, 130, 0, [0], 0, 0),
  (130, .aload_n 0, 131, 0, [0], 0, 0),
  (131, .getfield 39, 134, 1441, [0, 9, 28], 0, 0),
  (134, .bipush (99), 136, 0, [], 99, 0),
  (136, .invokevirtual 285, 139, 1732, [1229, 3, 0, 9, 1734, 72, 138, 1735], 0, 0),
  (139, .goto (48), 142, 0, [187], 0, 0),
  (142, .aload_n 0, 143, 0, [0], 0, 0)]
def pt_q1236_1 : List pm_Q := [(143, .ldc2_w 189, 146, 1720, [], 0, 126943688024933),
  (146, .invokevirtual 201, 149, 1654, [1216, 2, 0, 9, 1656, 57, 138, 1657], 0, 0),
  (149, .ifCond .eq (16), 152, 0, [165], 0, 0),
  (152, .aload_n 0, 153, 0, [0], 0, 0),
  (153, .aload_n 0, 154, 0, [0], 0, 0),
  (154, .getfield 42, 157, 1442, [0, 9, 29], 0, 0),
  (157, .bipush (9), 159, 0, [], 9, 0),
  (159, .invokevirtual 285, 162, 1732, [1229, 3, 0, 9, 1734, 72, 138, 1735], 0, 0),
  (162, .goto (25), 165, 0, [187], 0, 0),
  (165, .aload_n 0, 166, 0, [0], 0, 0),
  (166, .ldc2_w 187, 169, 1719, [], 0, 6447474),
  (169, .invokevirtual 201, 172, 1654, [1216, 2, 0, 9, 1656, 57, 138, 1657], 0, 0),
  (172, .ifCond .eq (10), 175, 0, [182], 0, 0),
  (175, .aload_n 0, 176, 0, [0], 0, 0),
  (176, .invokevirtual 289, 179, 1740, [1230, 1, 0, 9, 1742, 74, 138, 1743], 0, 0),
  (179, .goto (8), 182, 0, [187], 0, 0),
  (182, .aload_n 0, 183, 0, [0], 0, 0),
  (183, .iconst (2), 184, 0, [], 2, 0),
  (184, .invokevirtual 194, 187, 1669, [1214, 2, 0, 9, 1671, 60, 138, 1672], 0, 0),
  (187, .aload_n 0, 188, 0, [0], 0, 0),
  (188, .iconst (3), 189, 0, [], 3, 0),
  (189, .invokevirtual 292, 192, 1744, [1218, 2, 0, 9, 1746, 75, 138, 1747], 0, 0),
  (192, .return_, 193, 0, [], 0, 0)]
def pt_m1236 : pm_Me := (⟨"TurnCabinetModel", "line", "()V"⟩, prog_12_method_36_code, 1, none, 4, 91, pt_q1236_0 ++ pt_q1236_1)
-- TurnCabinetModel.isWord(J)Z
def pt_q1216_0 : List pm_Q := [(0, .aload_n 0, 1, 0, [0], 0, 0),
  (1, .getfield 162, 4, 1421, [0, 9, 8], 0, 0),
  (4, .ifCond .ne (24), 7, 0, [28], 0, 0),
  (7, .aload_n 0, 8, 0, [0], 0, 0),
  (8, .getfield 152, 11, 1418, [0, 9, 5], 0, 0),
  (11, .iconst (1), 12, 0, [], 1, 0),
  (12, .if_icmp .ne (16), 15, 0, [28], 0, 0),
  (15, .aload_n 0, 16, 0, [0], 0, 0),
  (16, .getfield 142, 19, 1425, [0, 9, 12], 0, 0),
  (19, .lload_n 1, 20, 0, [1], 0, 0),
  (20, .lcmp, 21, 0, [], 0, 0),
  (21, .ifCond .ne (7), 24, 0, [28], 0, 0),
  (24, .iconst (1), 25, 0, [], 1, 0),
  (25, .goto (4), 28, 0, [29], 0, 0),
  (28, .iconst (0), 29, 0, [], 0, 0),
  (29, .ireturn, 30, 0, [], 0, 0)]
def pt_m1216 : pm_Me := (⟨"TurnCabinetModel", "isWord", "(J)Z"⟩, prog_12_method_16_code, 3, some .boolean, 0, 0, pt_q1216_0)
-- TurnCabinetModel.divisorsLine()V
def pt_q1231_0 : List pm_Q := [(0, .aload_n 0, 1, 0, [0], 0, 0),
  (1, .iconst (0), 2, 0, [], 0, 0),
  (2, .invokevirtual 261, 5, 1662, [1226, 2, 0, 9, 1664, 59, 138, 1665], 0, 0),
  (5, .aload_n 0, 6, 0, [0], 0, 0),
  (6, .aload_n 0, 7, 0, [0], 0, 0),
  (7, .iconst (1), 8, 0, [], 1, 0),
  (8, .bipush (99), 10, 0, [], 99, 0),
  (10, .invokevirtual 253, 13, 1673, [1221, 3, 0, 9, 1675, 61, 138, 1676], 0, 0),
  (13, .putfield 214, 16, 1428, [0, 9, 15], 0, 0),
  (16, .aload_n 0, 17, 0, [0], 0, 0),
  (17, .aload_n 0, 18, 0, [0], 0, 0),
  (18, .iconst (1), 19, 0, [], 1, 0),
  (19, .bipush (99), 21, 0, [], 99, 0),
  (21, .invokevirtual 253, 24, 1673, [1221, 3, 0, 9, 1675, 61, 138, 1676], 0, 0),
  (24, .putfield 217, 27, 1429, [0, 9, 16], 0, 0),
  (27, .return_, 28, 0, [], 0, 0)]
def pt_m1231 : pm_Me := (⟨"TurnCabinetModel", "divisorsLine", "()V"⟩, prog_12_method_31_code, 1, none, 3, 66, pt_q1231_0)
-- TurnCabinetModel.once(I)V
def pt_q1226_0 : List pm_Q := [(0, .aload_n 0, 1, 0, [0], 0, 0),
  (1, .invokevirtual 197, 4, 1645, [1215, 1, 0, 9, 1647, 55, 138, 1648], 0, 0),
  (4, .ifCond .eq (19), 7, 0, [23], 0, 0),
  (7, .aload_n 0, 8, 0, [0], 0, 0),
  (8, .getfield 232, 11, 1434, [0, 9, 21], 0, 0),
  (11, .iload_n 1, 12, 0, [1], 0, 0),
  (12, .invokestatic 242, 15, 1666, [1205, 2, 0, 1667, 138, 1668], 0, 0),
  (15, .ifCond .eq (8), 18, 0, [23], 0, 0),
  (18, .aload_n 0, 19, 0, [0], 0, 0),
  (19, .iconst (2), 20, 0, [], 2, 0),
  (20, .invokevirtual 194, 23, 1669, [1214, 2, 0, 9, 1671, 60, 138, 1672], 0, 0),
  (23, .aload_n 0, 24, 0, [0], 0, 0),
  (24, .dup, 25, 0, [], 0, 0),
  (25, .getfield 232, 28, 1434, [0, 9, 21], 0, 0),
  (28, .iconst (1), 29, 0, [], 1, 0),
  (29, .iload_n 1, 30, 0, [1], 0, 0),
  (30, .ishl, 31, 0, [], 0, 0),
  (31, .ior, 32, 0, [], 0, 0),
  (32, .putfield 232, 35, 1434, [0, 9, 21], 0, 0),
  (35, .aload_n 0, 36, 0, [0], 0, 0),
  (36, .invokevirtual 197, 39, 1645, [1215, 1, 0, 9, 1647, 55, 138, 1648], 0, 0),
  (39, .ifCond .eq (7), 42, 0, [46], 0, 0),
  (42, .aload_n 0, 43, 0, [0], 0, 0),
  (43, .invokevirtual 191, 46, 1631, [1213, 1, 0, 9, 1633, 53, 138, 1634], 0, 0),
  (46, .return_, 47, 0, [], 0, 0)]
def pt_m1226 : pm_Me := (⟨"TurnCabinetModel", "once", "(I)V"⟩, prog_12_method_26_code, 2, none, 2, 43, pt_q1226_0)
-- TurnCabinetModel.holds(II)Z
def pt_q1205_0 : List pm_Q := [(0, .iload_n 0, 1, 0, [0], 0, 0),
  (1, .iload_n 1, 2, 0, [1], 0, 0),
  (2, .ishr, 3, 0, [], 0, 0),
  (3, .iconst (1), 4, 0, [], 1, 0),
  (4, .iand, 5, 0, [], 0, 0),
  (5, .iconst (1), 6, 0, [], 1, 0),
  (6, .if_icmp .ne (7), 9, 0, [13], 0, 0),
  (9, .iconst (1), 10, 0, [], 1, 0),
  (10, .goto (4), 13, 0, [14], 0, 0),
  (13, .iconst (0), 14, 0, [], 0, 0),
  (14, .ireturn, 15, 0, [], 0, 0)]
def pt_m1205 : pm_Me := (⟨"TurnCabinetModel", "holds", "(II)Z"⟩, prog_12_method_5_code, 2, some .boolean, 0, 0, pt_q1205_0)
-- TurnCabinetModel.wrong(I)V
def pt_q1214_0 : List pm_Q := [(0, .aload_n 0, 1, 0, [0], 0, 0),
  (1, .getfield 162, 4, 1421, [0, 9, 8], 0, 0),
  (4, .ifCond .le (4), 7, 0, [8], 0, 0),
  (7, .return_, 8, 0, [], 0, 0),
  (8, .aload_n 0, 9, 0, [0], 0, 0),
  (9, .aload_n 0, 10, 0, [0], 0, 0),
  (10, .getfield 152, 13, 1418, [0, 9, 5], 0, 0),
  (13, .iconst (4), 14, 0, [], 4, 0),
  (14, .if_icmp .ne (7), 17, 0, [21], 0, 0),
  (17, .iconst (1), 18, 0, [], 1, 0),
  (18, .goto (4), 21, 0, [22], 0, 0),
  (21, .iload_n 1, 22, 0, [1], 0, 0),
  (22, .putfield 162, 25, 1421, [0, 9, 8], 0, 0),
  (25, .aload_n 0, 26, 0, [0], 0, 0),
  (26, .aload_n 0, 27, 0, [0], 0, 0),
  (27, .getfield 139, 30, 1417, [0, 9, 4], 0, 0),
  (30, .putfield 13, 33, 1422, [0, 9, 9], 0, 0),
  (33, .return_, 34, 0, [], 0, 0)]
def pt_m1214 : pm_Me := (⟨"TurnCabinetModel", "wrong", "(I)V"⟩, prog_12_method_14_code, 2, none, 0, 0, pt_q1214_0)
-- TurnCabinetModel.number(II)I
def pt_q1221_0 : List pm_Q := [(0, .aload_n 0, 1, 0, [0], 0, 0),
  (1, .invokevirtual 197, 4, 1645, [1215, 1, 0, 9, 1647, 55, 138, 1648], 0, 0),
  (4, .ifCond .eq (16), 7, 0, [20], 0, 0),
  (7, .aload_n 0, 8, 0, [0], 0, 0),
  (8, .getfield 152, 11, 1418, [0, 9, 5], 0, 0),
  (11, .iconst (2), 12, 0, [], 2, 0),
  (12, .if_icmp .eq (8), 15, 0, [20], 0, 0),
  (15, .aload_n 0, 16, 0, [0], 0, 0),
  (16, .iconst (2), 17, 0, [], 2, 0),
  (17, .invokevirtual 194, 20, 1669, [1214, 2, 0, 9, 1671, 60, 138, 1672], 0, 0),
  (20, .aload_n 0, 21, 0, [0], 0, 0),
  (21, .getfield 146, 24, 1419, [0, 9, 6], 0, 0),
  (24, .istore_n 3, 25, 0, [3], 0, 0),
  (25, .aload_n 0, 26, 0, [0], 0, 0),
  (26, .invokevirtual 197, 29, 1645, [1215, 1, 0, 9, 1647, 55, 138, 1648], 0, 0),
  (29, .ifCond .eq (20), 32, 0, [49], 0, 0),
  (32, .iload_n 3, 33, 0, [3], 0, 0),
  (33, .i2l, 34, 0, [], 0, 0),
  (34, .iload_n 1, 35, 0, [1], 0, 0),
  (35, .i2l, 36, 0, [], 0, 0),
  (36, .iload_n 2, 37, 0, [2], 0, 0),
  (37, .i2l, 38, 0, [], 0, 0),
  (38, .invokestatic 125, 41, 1624, [1202, 3, 0, 1625, 138, 1626], 0, 0),
  (41, .ifCond .ne (8), 44, 0, [49], 0, 0),
  (44, .aload_n 0, 45, 0, [0], 0, 0),
  (45, .iconst (4), 46, 0, [], 4, 0),
  (46, .invokevirtual 194, 49, 1669, [1214, 2, 0, 9, 1671, 60, 138, 1672], 0, 0),
  (49, .aload_n 0, 50, 0, [0], 0, 0),
  (50, .invokevirtual 197, 53, 1645, [1215, 1, 0, 9, 1647, 55, 138, 1648], 0, 0),
  (53, .ifCond .eq (7), 56, 0, [60], 0, 0),
  (56, .aload_n 0, 57, 0, [0], 0, 0),
  (57, .invokevirtual 191, 60, 1631, [1213, 1, 0, 9, 1633, 53, 138, 1634], 0, 0),
  (60, .iload_n 3, 61, 0, [3], 0, 0),
  (61, .ireturn, 62, 0, [], 0, 0)]
def pt_m1221 : pm_Me := (⟨"TurnCabinetModel", "number", "(II)I"⟩, prog_12_method_21_code, 4, some .int, 2, 43, pt_q1221_0)
-- TurnCabinetModel.needLine()V
def pt_q1232_0 : List pm_Q := [(0, .aload_n 0, 1, 0, [0], 0, 0),
  (1, .iconst (1), 2, 0, [], 1, 0),
  (2, .invokevirtual 261, 5, 1662, [1226, 2, 0, 9, 1664, 59, 138, 1665], 0, 0),
  (5, .aload_n 0, 6, 0, [0], 0, 0),
  (6, .aload_n 0, 7, 0, [0], 0, 0),
  (7, .iconst (1), 8, 0, [], 1, 0),
  (8, .sipush (999), 11, 0, [], 999, 0),
  (11, .invokevirtual 253, 14, 1673, [1221, 3, 0, 9, 1675, 61, 138, 1676], 0, 0),
  (14, .putfield 220, 17, 1430, [0, 9, 17], 0, 0),
  (17, .return_, 18, 0, [], 0, 0)]
def pt_m1232 : pm_Me := (⟨"TurnCabinetModel", "needLine", "()V"⟩, prog_12_method_32_code, 1, none, 3, 66, pt_q1232_0)
-- TurnCabinetModel.careLine()V
def pt_q1233_0 : List pm_Q := [(0, .aload_n 0, 1, 0, [0], 0, 0),
  (1, .iconst (2), 2, 0, [], 2, 0),
  (2, .invokevirtual 261, 5, 1662, [1226, 2, 0, 9, 1664, 59, 138, 1665], 0, 0),
  (5, .aload_n 0, 6, 0, [0], 0, 0),
  (6, .aload_n 0, 7, 0, [0], 0, 0),
  (7, .iconst (0), 8, 0, [], 0, 0),
  (8, .bipush (9), 10, 0, [], 9, 0),
  (10, .invokevirtual 253, 13, 1673, [1221, 3, 0, 9, 1675, 61, 138, 1676], 0, 0),
  (13, .putfield 223, 16, 1431, [0, 9, 18], 0, 0),
  (16, .return_, 17, 0, [], 0, 0)]
def pt_m1233 : pm_Me := (⟨"TurnCabinetModel", "careLine", "()V"⟩, prog_12_method_33_code, 1, none, 3, 66, pt_q1233_0)
-- TurnCabinetModel.triesLine()V
def pt_q1234_0 : List pm_Q := [(0, .aload_n 0, 1, 0, [0], 0, 0),
  (1, .iconst (3), 2, 0, [], 3, 0),
  (2, .invokevirtual 261, 5, 1662, [1226, 2, 0, 9, 1664, 59, 138, 1665], 0, 0),
  (5, .aload_n 0, 6, 0, [0], 0, 0),
  (6, .aload_n 0, 7, 0, [0], 0, 0),
  (7, .iconst (1), 8, 0, [], 1, 0),
  (8, .bipush (9), 10, 0, [], 9, 0),
  (10, .invokevirtual 253, 13, 1673, [1221, 3, 0, 9, 1675, 61, 138, 1676], 0, 0),
  (13, .putfield 226, 16, 1432, [0, 9, 19], 0, 0),
  (16, .return_, 17, 0, [], 0, 0)]
def pt_m1234 : pm_Me := (⟨"TurnCabinetModel", "triesLine", "()V"⟩, prog_12_method_34_code, 1, none, 3, 66, pt_q1234_0)
-- TurnCabinetModel.tireLine()V
def pt_q1235_0 : List pm_Q := [(0, .aload_n 0, 1, 0, [0], 0, 0),
  (1, .iconst (4), 2, 0, [], 4, 0),
  (2, .invokevirtual 261, 5, 1662, [1226, 2, 0, 9, 1664, 59, 138, 1665], 0, 0),
  (5, .aload_n 0, 6, 0, [0], 0, 0),
  (6, .aload_n 0, 7, 0, [0], 0, 0),
  (7, .iconst (0), 8, 0, [], 0, 0),
  (8, .bipush (99), 10, 0, [], 99, 0),
  (10, .invokevirtual 253, 13, 1673, [1221, 3, 0, 9, 1675, 61, 138, 1676], 0, 0),
  (13, .putfield 229, 16, 1433, [0, 9, 20], 0, 0),
  (16, .return_, 17, 0, [], 0, 0)]
def pt_m1235 : pm_Me := (⟨"TurnCabinetModel", "tireLine", "()V"⟩, prog_12_method_35_code, 1, none, 3, 66, pt_q1235_0)
-- TurnCabinetModel.officeLine()V
def pt_q1227_0 : List pm_Q := [(0, .aload_n 0, 1, 0, [0], 0, 0),
  (1, .getfield 211, 4, 1427, [0, 9, 14], 0, 0),
  (4, .bipush (8), 6, 0, [], 8, 0),
  (6, .if_icmp .ne (8), 9, 0, [14], 0, 0),
  (9, .aload_n 0, 10, 0, [0], 0, 0),
  (10, .iconst (5), 11, 0, [], 5, 0),
  (11, .invokevirtual 194, 14, 1669, [1214, 2, 0, 9, 1671, 60, 138, 1672], 0, 0),
  (14, .aload_n 0, 15, 0, [0], 0, 0),
  (15, .invokevirtual 197, 18, 1645, [1215, 1, 0, 9, 1647, 55, 138, 1648], 0, 0),
  (18, .ifCond .eq (7), 21, 0, [25], 0, 0),
  (21, .aload_n 0, 22, 0, [0], 0, 0),
  (22, .invokevirtual 191, 25, 1631, [1213, 1, 0, 9, 1633, 53, 138, 1634], 0, 0),
  (25, .aload_n 0, 26, 0, [0], 0, 0),
  (26, .invokevirtual 246, 29, 1702, [1224, 1, 0, 9, 1704, 67, 138, 1705], 0, 0),
  (29, .aload_n 0, 30, 0, [0], 0, 0),
  (30, .getfield 162, 33, 1421, [0, 9, 8], 0, 0),
  (33, .ifCond .le (4), 36, 0, [37], 0, 0),
  (36, .return_, 37, 0, [], 0, 0),
  (37, .aload_n 0, 38, 0, [0], 0, 0),
  (38, .getfield 24, 41, 1436, [0, 9, 23], 0, 0),
  (41, .aload_n 0, 42, 0, [0], 0, 0),
  (42, .getfield 211, 45, 1427, [0, 9, 14], 0, 0),
  (45, .aload_n 0, 46, 0, [0], 0, 0),
  (46, .getfield 142, 49, 1425, [0, 9, 12], 0, 0),
  (49, .lastore, 50, 0, [], 0, 0),
  (50, .aload_n 0, 51, 0, [0], 0, 0),
  (51, .dup, 52, 0, [], 0, 0),
  (52, .getfield 211, 55, 1427, [0, 9, 14], 0, 0),
  (55, .iconst (1), 56, 0, [], 1, 0),
  (56, .iadd, 57, 0, [], 0, 0),
  (57, .putfield 211, 60, 1427, [0, 9, 14], 0, 0),
  (60, .aload_n 0, 61, 0, [0], 0, 0),
  (61, .invokevirtual 191, 64, 1631, [1213, 1, 0, 9, 1633, 53, 138, 1634], 0, 0),
  (64, .return_, 65, 0, [], 0, 0)]
def pt_m1227 : pm_Me := (⟨"TurnCabinetModel", "officeLine", "()V"⟩, prog_12_method_27_code, 1, none, 3, 61, pt_q1227_0)
-- TurnCabinetModel.freshName()V
def pt_q1224_0 : List pm_Q := [(0, .aload_n 0, 1, 0, [0], 0, 0),
  (1, .invokevirtual 235, 4, 1706, [1220, 1, 0, 9, 1708, 68, 138, 1709], 0, 0),
  (4, .aload_n 0, 5, 0, [0], 0, 0),
  (5, .invokevirtual 197, 8, 1645, [1215, 1, 0, 9, 1647, 55, 138, 1648], 0, 0),
  (8, .ifCond .eq (46), 11, 0, [54], 0, 0),
  (11, .aload_n 0, 12, 0, [0], 0, 0),
  (12, .getfield 20, 15, 1435, [0, 9, 22], 0, 0),
  (15, .aload_n 0, 16, 0, [0], 0, 0),
  (16, .getfield 208, 19, 1426, [0, 9, 13], 0, 0),
  (19, .aload_n 0, 20, 0, [0], 0, 0),
  (20, .getfield 142, 23, 1425, [0, 9, 12], 0, 0),
  (23, .invokestatic 238, 26, 1721, [1223, 3, 0, 1722, 138, 1723], 0, 0),
  (26, .iconst (-1), 27, 0, [], -1, 0),
  (27, .if_icmp .ne (22), 30, 0, [49], 0, 0),
  (30, .aload_n 0, 31, 0, [0], 0, 0),
  (31, .getfield 24, 34, 1436, [0, 9, 23], 0, 0),
  (34, .aload_n 0, 35, 0, [0], 0, 0),
  (35, .getfield 211, 38, 1427, [0, 9, 14], 0, 0),
  (38, .aload_n 0, 39, 0, [0], 0, 0),
  (39, .getfield 142, 42, 1425, [0, 9, 12], 0, 0),
  (42, .invokestatic 238, 45, 1721, [1223, 3, 0, 1722, 138, 1723], 0, 0),
  (45, .iconst (-1), 46, 0, [], -1, 0),
  (46, .if_icmp .eq (8), 49, 0, [54], 0, 0),
  (49, .aload_n 0, 50, 0, [0], 0, 0),
  (50, .iconst (3), 51, 0, [], 3, 0),
  (51, .invokevirtual 194, 54, 1669, [1214, 2, 0, 9, 1671, 60, 138, 1672], 0, 0),
  (54, .return_, 55, 0, [], 0, 0)]
def pt_m1224 : pm_Me := (⟨"TurnCabinetModel", "freshName", "()V"⟩, prog_12_method_24_code, 1, none, 2, 41, pt_q1224_0)
-- TurnCabinetModel.mustName()V
def pt_q1220_0 : List pm_Q := [(0, .aload_n 0, 1, 0, [0], 0, 0),
  (1, .invokevirtual 197, 4, 1645, [1215, 1, 0, 9, 1647, 55, 138, 1648], 0, 0),
  (4, .ifCond .eq (32), 7, 0, [36], 0, 0),
  (7, .aload_n 0, 8, 0, [0], 0, 0),
  (8, .getfield 152, 11, 1418, [0, 9, 5], 0, 0),
  (11, .iconst (1), 12, 0, [], 1, 0),
  (12, .if_icmp .ne (19), 15, 0, [31], 0, 0),
  (15, .aload_n 0, 16, 0, [0], 0, 0),
  (16, .getfield 149, 19, 1420, [0, 9, 7], 0, 0),
  (19, .bipush (6), 21, 0, [], 6, 0),
  (21, .if_icmp .gt (10), 24, 0, [31], 0, 0),
  (24, .aload_n 0, 25, 0, [0], 0, 0),
  (25, .invokevirtual 205, 28, 1710, [1217, 1, 0, 9, 1712, 69, 138, 1713], 0, 0),
  (28, .ifCond .eq (8), 31, 0, [36], 0, 0),
  (31, .aload_n 0, 32, 0, [0], 0, 0),
  (32, .iconst (2), 33, 0, [], 2, 0),
  (33, .invokevirtual 194, 36, 1669, [1214, 2, 0, 9, 1671, 60, 138, 1672], 0, 0),
  (36, .return_, 37, 0, [], 0, 0)]
def pt_m1220 : pm_Me := (⟨"TurnCabinetModel", "mustName", "()V"⟩, prog_12_method_20_code, 1, none, 1, 21, pt_q1220_0)
-- TurnCabinetModel.isKept()Z
def pt_q1217_0 : List pm_Q := [(0, .aload_n 0, 1, 0, [0], 0, 0),
  (1, .getfield 142, 4, 1425, [0, 9, 12], 0, 0),
  (4, .ldc2_w 165, 7, 1653, [], 0, 7235444471627739763),
  (7, .lcmp, 8, 0, [], 0, 0),
  (8, .ifCond .eq (135), 11, 0, [143], 0, 0),
  (11, .aload_n 0, 12, 0, [0], 0, 0),
  (12, .getfield 142, 15, 1425, [0, 9, 12], 0, 0),
  (15, .ldc2_w 167, 18, 1677, [], 0, 1852138852),
  (18, .lcmp, 19, 0, [], 0, 0),
  (19, .ifCond .eq (124), 22, 0, [143], 0, 0),
  (22, .aload_n 0, 23, 0, [0], 0, 0),
  (23, .getfield 142, 26, 1425, [0, 9, 12], 0, 0),
  (26, .ldc2_w 169, 29, 1682, [], 0, 1667330661),
  (29, .lcmp, 30, 0, [], 0, 0),
  (30, .ifCond .eq (113), 33, 0, [143], 0, 0),
  (33, .aload_n 0, 34, 0, [0], 0, 0),
  (34, .getfield 142, 37, 1425, [0, 9, 12], 0, 0),
  (37, .ldc2_w 171, 40, 1687, [], 0, 500135716211),
  (40, .lcmp, 41, 0, [], 0, 0),
  (41, .ifCond .eq (102), 44, 0, [143], 0, 0),
  (44, .aload_n 0, 45, 0, [0], 0, 0),
  (45, .getfield 142, 48, 1425, [0, 9, 12], 0, 0),
  (48, .ldc2_w 173, 51, 1692, [], 0, 1953067621),
  (51, .lcmp, 52, 0, [], 0, 0),
  (52, .ifCond .eq (91), 55, 0, [143], 0, 0),
  (55, .aload_n 0, 56, 0, [0], 0, 0),
  (56, .getfield 142, 59, 1425, [0, 9, 12], 0, 0),
  (59, .ldc2_w 175, 62, 1697, [], 0, 122485595530085),
  (62, .lcmp, 63, 0, [], 0, 0),
  (63, .ifCond .eq (80), 66, 0, [143], 0, 0),
  (66, .aload_n 0, 67, 0, [0], 0, 0),
  (67, .getfield 142, 70, 1425, [0, 9, 12], 0, 0),
  (70, .ldc2_w 177, 73, 1714, [], 0, 482671228025),
  (73, .lcmp, 74, 0, [], 0, 0),
  (74, .ifCond .eq (69), 77, 0, [143], 0, 0),
  (77, .aload_n 0, 78, 0, [0], 0, 0),
  (78, .getfield 142, 81, 1425, [0, 9, 12], 0, 0),
  (81, .ldc2_w 179, 84, 1715, [], 0, 495622124659),
  (84, .lcmp, 85, 0, [], 0, 0),
  (85, .ifCond .eq (58), 88, 0, [143], 0, 0),
  (88, .aload_n 0, 89, 0, [0], 0, 0),
  (89, .getfield 142, 92, 1425, [0, 9, 12], 0, 0),
  (92, .ldc2_w 181, 95, 1716, [], 0, 24948),
  (95, .lcmp, 96, 0, [], 0, 0),
  (96, .ifCond .eq (47), 99, 0, [143], 0, 0),
  (99, .aload_n 0, 100, 0, [0], 0, 0),
  (100, .getfield 142, 103, 1425, [0, 9, 12], 0, 0),
  (103, .ldc2_w 183, 106, 1717, [], 0, 2002873451),
  (106, .lcmp, 107, 0, [], 0, 0),
  (107, .ifCond .eq (36), 110, 0, [143], 0, 0),
  (110, .aload_n 0, 111, 0, [0], 0, 0),
  (111, .getfield 142, 114, 1425, [0, 9, 12], 0, 0),
  (114, .ldc2_w 185, 117, 1718, [], 0, 512970880104),
  (117, .lcmp, 118, 0, [], 0, 0),
  (118, .ifCond .eq (25), 121, 0, [143], 0, 0),
  (121, .aload_n 0, 122, 0, [0], 0, 0),
  (122, .getfield 142, 125, 1425, [0, 9, 12], 0, 0),
  (125, .ldc2_w 187, 128, 1719, [], 0, 6447474),
  (128, .lcmp, 129, 0, [], 0, 0),
  (129, .ifCond .eq (14), 132, 0, [143], 0, 0)]
def pt_q1217_1 : List pm_Q := [(132, .aload_n 0, 133, 0, [0], 0, 0),
  (133, .getfield 142, 136, 1425, [0, 9, 12], 0, 0),
  (136, .ldc2_w 189, 139, 1720, [], 0, 126943688024933),
  (139, .lcmp, 140, 0, [], 0, 0),
  (140, .ifCond .ne (7), 143, 0, [147], 0, 0),
  (143, .iconst (1), 144, 0, [], 1, 0),
  (144, .goto (4), 147, 0, [148], 0, 0),
  (147, .iconst (0), 148, 0, [], 0, 0),
  (148, .ireturn, 149, 0, [], 0, 0)]
def pt_m1217 : pm_Me := (⟨"TurnCabinetModel", "isKept", "()Z"⟩, prog_12_method_17_code, 1, some .boolean, 0, 0, pt_q1217_0 ++ pt_q1217_1)
-- TurnCabinetModel.indexIn([JIJ)I
def pt_q1223_0 : List pm_Q := [(0, .iconst (0), 1, 0, [], 0, 0),
  (1, .istore 4, 3, 0, [4], 0, 0),
  (3, .iload 4, 5, 0, [4], 0, 0),
  (5, .iload_n 1, 6, 0, [1], 0, 0),
  (6, .if_icmp .ge (21), 9, 0, [27], 0, 0),
  (9, .aload_n 0, 10, 0, [0], 0, 0),
  (10, .iload 4, 12, 0, [4], 0, 0),
  (12, .laload, 13, 0, [], 0, 0),
  (13, .lload_n 2, 14, 0, [2], 0, 0),
  (14, .lcmp, 15, 0, [], 0, 0),
  (15, .ifCond .ne (6), 18, 0, [21], 0, 0),
  (18, .iload 4, 20, 0, [4], 0, 0),
  (20, .ireturn, 21, 0, [], 0, 0),
  (21, .iinc 4 (1), 24, 0, [4], 1, 0),
  (24, .goto (-21), 27, 0, [3], 0, 0),
  (27, .iconst (-1), 28, 0, [], -1, 0),
  (28, .ireturn, 29, 0, [], 0, 0)]
def pt_m1223 : pm_Me := (⟨"TurnCabinetModel", "indexIn", "([JIJ)I"⟩, prog_12_method_23_code, 5, some .int, 0, 0, pt_q1223_0)
-- TurnCabinetModel.partyLine()V
def pt_q1228_0 : List pm_Q := [(0, .aload_n 0, 1, 0, [0], 0, 0),
  (1, .getfield 208, 4, 1426, [0, 9, 13], 0, 0),
  (4, .bipush (7), 6, 0, [], 7, 0),
  (6, .if_icmp .ne (8), 9, 0, [14], 0, 0),
  (9, .aload_n 0, 10, 0, [0], 0, 0),
  (10, .iconst (5), 11, 0, [], 5, 0),
  (11, .invokevirtual 194, 14, 1669, [1214, 2, 0, 9, 1671, 60, 138, 1672], 0, 0),
  (14, .aload_n 0, 15, 0, [0], 0, 0),
  (15, .invokevirtual 197, 18, 1645, [1215, 1, 0, 9, 1647, 55, 138, 1648], 0, 0),
  (18, .ifCond .eq (7), 21, 0, [25], 0, 0),
  (21, .aload_n 0, 22, 0, [0], 0, 0),
  (22, .invokevirtual 191, 25, 1631, [1213, 1, 0, 9, 1633, 53, 138, 1634], 0, 0),
  (25, .aload_n 0, 26, 0, [0], 0, 0),
  (26, .invokevirtual 246, 29, 1702, [1224, 1, 0, 9, 1704, 67, 138, 1705], 0, 0),
  (29, .aload_n 0, 30, 0, [0], 0, 0),
  (30, .getfield 162, 33, 1421, [0, 9, 8], 0, 0),
  (33, .ifCond .le (4), 36, 0, [37], 0, 0),
  (36, .return_, 37, 0, [], 0, 0),
  (37, .aload_n 0, 38, 0, [0], 0, 0),
  (38, .getfield 20, 41, 1435, [0, 9, 22], 0, 0),
  (41, .aload_n 0, 42, 0, [0], 0, 0),
  (42, .getfield 208, 45, 1426, [0, 9, 13], 0, 0),
  (45, .aload_n 0, 46, 0, [0], 0, 0),
  (46, .getfield 142, 49, 1425, [0, 9, 12], 0, 0),
  (49, .lastore, 50, 0, [], 0, 0),
  (50, .aload_n 0, 51, 0, [0], 0, 0),
  (51, .invokevirtual 191, 54, 1631, [1213, 1, 0, 9, 1633, 53, 138, 1634], 0, 0),
  (54, .aload_n 0, 55, 0, [0], 0, 0),
  (55, .ldc2_w 179, 58, 1715, [], 0, 495622124659),
  (58, .invokevirtual 249, 61, 1728, [1219, 2, 0, 9, 1730, 71, 138, 1731], 0, 0),
  (61, .aload_n 0, 62, 0, [0], 0, 0),
  (62, .getfield 27, 65, 1437, [0, 9, 24], 0, 0),
  (65, .aload_n 0, 66, 0, [0], 0, 0),
  (66, .getfield 208, 69, 1426, [0, 9, 13], 0, 0),
  (69, .aload_n 0, 70, 0, [0], 0, 0),
  (70, .iconst (1), 71, 0, [], 1, 0),
  (71, .sipush (999), 74, 0, [], 999, 0),
  (74, .invokevirtual 253, 77, 1673, [1221, 3, 0, 9, 1675, 61, 138, 1676], 0, 0),
  (77, .iastore, 78, 0, [], 0, 0),
  (78, .aload_n 0, 79, 0, [0], 0, 0),
  (79, .ldc2_w 181, 82, 1716, [], 0, 24948),
  (82, .invokevirtual 249, 85, 1728, [1219, 2, 0, 9, 1730, 71, 138, 1731], 0, 0),
  (85, .aload_n 0, 86, 0, [0], 0, 0),
  (86, .getfield 30, 89, 1438, [0, 9, 25], 0, 0),
  (89, .aload_n 0, 90, 0, [0], 0, 0),
  (90, .getfield 208, 93, 1426, [0, 9, 13], 0, 0),
  (93, .aload_n 0, 94, 0, [0], 0, 0),
  (94, .iconst (0), 95, 0, [], 0, 0),
  (95, .bipush (99), 97, 0, [], 99, 0),
  (97, .invokevirtual 253, 100, 1673, [1221, 3, 0, 9, 1675, 61, 138, 1676], 0, 0),
  (100, .iastore, 101, 0, [], 0, 0),
  (101, .aload_n 0, 102, 0, [0], 0, 0),
  (102, .getfield 33, 105, 1439, [0, 9, 26], 0, 0),
  (105, .aload_n 0, 106, 0, [0], 0, 0),
  (106, .getfield 208, 109, 1426, [0, 9, 13], 0, 0),
  (109, .iconst (0), 110, 0, [], 0, 0),
  (110, .iastore, 111, 0, [], 0, 0),
  (111, .aload_n 0, 112, 0, [0], 0, 0),
  (112, .ldc2_w 183, 115, 1717, [], 0, 2002873451),
  (115, .invokevirtual 201, 118, 1654, [1216, 2, 0, 9, 1656, 57, 138, 1657], 0, 0)]
def pt_q1228_1 : List pm_Q := [(118, .ifCond .eq (24), 121, 0, [142], 0, 0),
  (121, .aload_n 0, 122, 0, [0], 0, 0),
  (122, .invokevirtual 191, 125, 1631, [1213, 1, 0, 9, 1633, 53, 138, 1634], 0, 0),
  (125, .aload_n 0, 126, 0, [0], 0, 0),
  (126, .getfield 33, 129, 1439, [0, 9, 26], 0, 0),
  (129, .aload_n 0, 130, 0, [0], 0, 0),
  (130, .getfield 208, 133, 1426, [0, 9, 13], 0, 0),
  (133, .aload_n 0, 134, 0, [0], 0, 0),
  (134, .iconst (0), 135, 0, [], 0, 0),
  (135, .sipush (999), 138, 0, [], 999, 0),
  (138, .invokevirtual 253, 141, 1673, [1221, 3, 0, 9, 1675, 61, 138, 1676], 0, 0),
  (141, .iastore, 142, 0, [], 0, 0),
  (142, .aload_n 0, 143, 0, [0], 0, 0),
  (143, .invokevirtual 197, 146, 1645, [1215, 1, 0, 9, 1647, 55, 138, 1648], 0, 0),
  (146, .ifCond .eq (13), 149, 0, [159], 0, 0),
  (149, .aload_n 0, 150, 0, [0], 0, 0),
  (150, .dup, 151, 0, [], 0, 0),
  (151, .getfield 208, 154, 1426, [0, 9, 13], 0, 0),
  (154, .iconst (1), 155, 0, [], 1, 0),
  (155, .iadd, 156, 0, [], 0, 0),
  (156, .putfield 208, 159, 1426, [0, 9, 13], 0, 0),
  (159, .return_, 160, 0, [], 0, 0)]
def pt_m1228 : pm_Me := (⟨"TurnCabinetModel", "partyLine", "()V"⟩, prog_12_method_28_code, 1, none, 3, 66, pt_q1228_0 ++ pt_q1228_1)
-- TurnCabinetModel.mustWord(J)V
def pt_q1219_0 : List pm_Q := [(0, .aload_n 0, 1, 0, [0], 0, 0),
  (1, .invokevirtual 197, 4, 1645, [1215, 1, 0, 9, 1647, 55, 138, 1648], 0, 0),
  (4, .ifCond .eq (16), 7, 0, [20], 0, 0),
  (7, .aload_n 0, 8, 0, [0], 0, 0),
  (8, .lload_n 1, 9, 0, [1], 0, 0),
  (9, .invokevirtual 201, 12, 1654, [1216, 2, 0, 9, 1656, 57, 138, 1657], 0, 0),
  (12, .ifCond .ne (8), 15, 0, [20], 0, 0),
  (15, .aload_n 0, 16, 0, [0], 0, 0),
  (16, .iconst (2), 17, 0, [], 2, 0),
  (17, .invokevirtual 194, 20, 1669, [1214, 2, 0, 9, 1671, 60, 138, 1672], 0, 0),
  (20, .aload_n 0, 21, 0, [0], 0, 0),
  (21, .invokevirtual 197, 24, 1645, [1215, 1, 0, 9, 1647, 55, 138, 1648], 0, 0),
  (24, .ifCond .eq (7), 27, 0, [31], 0, 0),
  (27, .aload_n 0, 28, 0, [0], 0, 0),
  (28, .invokevirtual 191, 31, 1631, [1213, 1, 0, 9, 1633, 53, 138, 1634], 0, 0),
  (31, .return_, 32, 0, [], 0, 0)]
def pt_m1219 : pm_Me := (⟨"TurnCabinetModel", "mustWord", "(J)V"⟩, prog_12_method_19_code, 3, none, 2, 43, pt_q1219_0)
-- TurnCabinetModel.numberLine([II)V
def pt_q1229_0 : List pm_Q := [(0, .aload_n 0, 1, 0, [0], 0, 0),
  (1, .invokevirtual 191, 4, 1631, [1213, 1, 0, 9, 1633, 53, 138, 1634], 0, 0),
  (4, .aload_n 0, 5, 0, [0], 0, 0),
  (5, .invokevirtual 257, 8, 1736, [1225, 1, 0, 9, 1738, 73, 138, 1739], 0, 0),
  (8, .istore_n 3, 9, 0, [3], 0, 0),
  (9, .aload_n 0, 10, 0, [0], 0, 0),
  (10, .invokevirtual 197, 13, 1645, [1215, 1, 0, 9, 1647, 55, 138, 1648], 0, 0),
  (13, .ifCond .eq (7), 16, 0, [20], 0, 0),
  (16, .aload_n 0, 17, 0, [0], 0, 0),
  (17, .invokevirtual 191, 20, 1631, [1213, 1, 0, 9, 1633, 53, 138, 1634], 0, 0),
  (20, .aload_n 0, 21, 0, [0], 0, 0),
  (21, .invokevirtual 235, 24, 1706, [1220, 1, 0, 9, 1708, 68, 138, 1709], 0, 0),
  (24, .aload_n 0, 25, 0, [0], 0, 0),
  (25, .getfield 24, 28, 1436, [0, 9, 23], 0, 0),
  (28, .aload_n 0, 29, 0, [0], 0, 0),
  (29, .getfield 211, 32, 1427, [0, 9, 14], 0, 0),
  (32, .aload_n 0, 33, 0, [0], 0, 0),
  (33, .getfield 142, 36, 1425, [0, 9, 12], 0, 0),
  (36, .invokestatic 238, 39, 1721, [1223, 3, 0, 1722, 138, 1723], 0, 0),
  (39, .istore 4, 41, 0, [4], 0, 0),
  (41, .aload_n 0, 42, 0, [0], 0, 0),
  (42, .invokevirtual 197, 45, 1645, [1215, 1, 0, 9, 1647, 55, 138, 1648], 0, 0),
  (45, .ifCond .eq (27), 48, 0, [72], 0, 0),
  (48, .iload 4, 50, 0, [4], 0, 0),
  (50, .iconst (-1), 51, 0, [], -1, 0),
  (51, .if_icmp .eq (16), 54, 0, [67], 0, 0),
  (54, .aload_n 1, 55, 0, [1], 0, 0),
  (55, .bipush (8), 57, 0, [], 8, 0),
  (57, .iload_n 3, 58, 0, [3], 0, 0),
  (58, .imul, 59, 0, [], 0, 0),
  (59, .iload 4, 61, 0, [4], 0, 0),
  (61, .iadd, 62, 0, [], 0, 0),
  (62, .iaload, 63, 0, [], 0, 0),
  (63, .iconst (-1), 64, 0, [], -1, 0),
  (64, .if_icmp .eq (8), 67, 0, [72], 0, 0),
  (67, .aload_n 0, 68, 0, [0], 0, 0),
  (68, .iconst (3), 69, 0, [], 3, 0),
  (69, .invokevirtual 194, 72, 1669, [1214, 2, 0, 9, 1671, 60, 138, 1672], 0, 0),
  (72, .aload_n 0, 73, 0, [0], 0, 0),
  (73, .invokevirtual 197, 76, 1645, [1215, 1, 0, 9, 1647, 55, 138, 1648], 0, 0),
  (76, .ifCond .eq (7), 79, 0, [83], 0, 0),
  (79, .aload_n 0, 80, 0, [0], 0, 0),
  (80, .invokevirtual 191, 83, 1631, [1213, 1, 0, 9, 1633, 53, 138, 1634], 0, 0),
  (83, .aload_n 0, 84, 0, [0], 0, 0),
  (84, .iconst (0), 85, 0, [], 0, 0),
  (85, .iload_n 2, 86, 0, [2], 0, 0),
  (86, .invokevirtual 253, 89, 1673, [1221, 3, 0, 9, 1675, 61, 138, 1676], 0, 0),
  (89, .istore 5, 91, 0, [5], 0, 0),
  (91, .aload_n 0, 92, 0, [0], 0, 0),
  (92, .invokevirtual 197, 95, 1645, [1215, 1, 0, 9, 1647, 55, 138, 1648], 0, 0),
  (95, .ifCond .eq (14), 98, 0, [109], 0, 0),
  (98, .aload_n 1, 99, 0, [1], 0, 0),
  (99, .bipush (8), 101, 0, [], 8, 0),
  (101, .iload_n 3, 102, 0, [3], 0, 0),
  (102, .imul, 103, 0, [], 0, 0),
  (103, .iload 4, 105, 0, [4], 0, 0),
  (105, .iadd, 106, 0, [], 0, 0),
  (106, .iload 5, 108, 0, [5], 0, 0),
  (108, .iastore, 109, 0, [], 0, 0),
  (109, .return_, 110, 0, [], 0, 0)]
def pt_m1229 : pm_Me := (⟨"TurnCabinetModel", "numberLine", "([II)V"⟩, prog_12_method_29_code, 6, none, 3, 66, pt_q1229_0)
-- TurnCabinetModel.partyHere()I
def pt_q1225_0 : List pm_Q := [(0, .aload_n 0, 1, 0, [0], 0, 0),
  (1, .invokevirtual 235, 4, 1706, [1220, 1, 0, 9, 1708, 68, 138, 1709], 0, 0),
  (4, .aload_n 0, 5, 0, [0], 0, 0),
  (5, .getfield 20, 8, 1435, [0, 9, 22], 0, 0),
  (8, .aload_n 0, 9, 0, [0], 0, 0),
  (9, .getfield 208, 12, 1426, [0, 9, 13], 0, 0),
  (12, .aload_n 0, 13, 0, [0], 0, 0),
  (13, .getfield 142, 16, 1425, [0, 9, 12], 0, 0),
  (16, .invokestatic 238, 19, 1721, [1223, 3, 0, 1722, 138, 1723], 0, 0),
  (19, .istore_n 1, 20, 0, [1], 0, 0),
  (20, .aload_n 0, 21, 0, [0], 0, 0),
  (21, .invokevirtual 197, 24, 1645, [1215, 1, 0, 9, 1647, 55, 138, 1648], 0, 0),
  (24, .ifCond .eq (13), 27, 0, [37], 0, 0),
  (27, .iload_n 1, 28, 0, [1], 0, 0),
  (28, .iconst (-1), 29, 0, [], -1, 0),
  (29, .if_icmp .ne (8), 32, 0, [37], 0, 0),
  (32, .aload_n 0, 33, 0, [0], 0, 0),
  (33, .iconst (3), 34, 0, [], 3, 0),
  (34, .invokevirtual 194, 37, 1669, [1214, 2, 0, 9, 1671, 60, 138, 1672], 0, 0),
  (37, .iload_n 1, 38, 0, [1], 0, 0),
  (38, .ireturn, 39, 0, [], 0, 0)]
def pt_m1225 : pm_Me := (⟨"TurnCabinetModel", "partyHere", "()I"⟩, prog_12_method_25_code, 2, some .int, 2, 41, pt_q1225_0)
-- TurnCabinetModel.barLine()V
def pt_q1230_0 : List pm_Q := [(0, .aload_n 0, 1, 0, [0], 0, 0),
  (1, .invokevirtual 191, 4, 1631, [1213, 1, 0, 9, 1633, 53, 138, 1634], 0, 0),
  (4, .aload_n 0, 5, 0, [0], 0, 0),
  (5, .invokevirtual 257, 8, 1736, [1225, 1, 0, 9, 1738, 73, 138, 1739], 0, 0),
  (8, .istore_n 1, 9, 0, [1], 0, 0),
  (9, .aload_n 0, 10, 0, [0], 0, 0),
  (10, .invokevirtual 197, 13, 1645, [1215, 1, 0, 9, 1647, 55, 138, 1648], 0, 0),
  (13, .ifCond .eq (7), 16, 0, [20], 0, 0),
  (16, .aload_n 0, 17, 0, [0], 0, 0),
  (17, .invokevirtual 191, 20, 1631, [1213, 1, 0, 9, 1633, 53, 138, 1634], 0, 0),
  (20, .aload_n 0, 21, 0, [0], 0, 0),
  (21, .invokevirtual 257, 24, 1736, [1225, 1, 0, 9, 1738, 73, 138, 1739], 0, 0),
  (24, .istore_n 2, 25, 0, [2], 0, 0),
  (25, .aload_n 0, 26, 0, [0], 0, 0),
  (26, .invokevirtual 197, 29, 1645, [1215, 1, 0, 9, 1647, 55, 138, 1648], 0, 0),
  (29, .ifCond .eq (13), 32, 0, [42], 0, 0),
  (32, .iload_n 1, 33, 0, [1], 0, 0),
  (33, .iload_n 2, 34, 0, [2], 0, 0),
  (34, .if_icmp .ne (8), 37, 0, [42], 0, 0),
  (37, .aload_n 0, 38, 0, [0], 0, 0),
  (38, .iconst (3), 39, 0, [], 3, 0),
  (39, .invokevirtual 194, 42, 1669, [1214, 2, 0, 9, 1671, 60, 138, 1672], 0, 0),
  (42, .aload_n 0, 43, 0, [0], 0, 0),
  (43, .getfield 162, 46, 1421, [0, 9, 8], 0, 0),
  (46, .ifCond .le (4), 49, 0, [50], 0, 0),
  (49, .return_, 50, 0, [], 0, 0),
  (50, .aload_n 0, 51, 0, [0], 0, 0),
  (51, .invokevirtual 191, 54, 1631, [1213, 1, 0, 9, 1633, 53, 138, 1634], 0, 0),
  (54, .aload_n 0, 55, 0, [0], 0, 0),
  (55, .getfield 36, 58, 1440, [0, 9, 27], 0, 0),
  (58, .iload_n 1, 59, 0, [1], 0, 0),
  (59, .dup2, 60, 0, [], 0, 0),
  (60, .iaload, 61, 0, [], 0, 0),
  (61, .iconst (1), 62, 0, [], 1, 0),
  (62, .iload_n 2, 63, 0, [2], 0, 0),
  (63, .ishl, 64, 0, [], 0, 0),
  (64, .ior, 65, 0, [], 0, 0),
  (65, .iastore, 66, 0, [], 0, 0),
  (66, .aload_n 0, 67, 0, [0], 0, 0),
  (67, .getfield 36, 70, 1440, [0, 9, 27], 0, 0),
  (70, .iload_n 2, 71, 0, [2], 0, 0),
  (71, .dup2, 72, 0, [], 0, 0),
  (72, .iaload, 73, 0, [], 0, 0),
  (73, .iconst (1), 74, 0, [], 1, 0),
  (74, .iload_n 1, 75, 0, [1], 0, 0),
  (75, .ishl, 76, 0, [], 0, 0),
  (76, .ior, 77, 0, [], 0, 0),
  (77, .iastore, 78, 0, [], 0, 0),
  (78, .return_, 79, 0, [], 0, 0)]
def pt_m1230 : pm_Me := (⟨"TurnCabinetModel", "barLine", "()V"⟩, prog_12_method_30_code, 3, none, 3, 62, pt_q1230_0)
-- TurnCabinetModel.must(I)V
def pt_q1218_0 : List pm_Q := [(0, .aload_n 0, 1, 0, [0], 0, 0),
  (1, .getfield 162, 4, 1421, [0, 9, 8], 0, 0),
  (4, .ifCond .le (4), 7, 0, [8], 0, 0),
  (7, .return_, 8, 0, [], 0, 0),
  (8, .aload_n 0, 9, 0, [0], 0, 0),
  (9, .getfield 152, 12, 1418, [0, 9, 5], 0, 0),
  (12, .iload_n 1, 13, 0, [1], 0, 0),
  (13, .if_icmp .ne (10), 16, 0, [23], 0, 0),
  (16, .aload_n 0, 17, 0, [0], 0, 0),
  (17, .invokevirtual 191, 20, 1631, [1213, 1, 0, 9, 1633, 53, 138, 1634], 0, 0),
  (20, .goto (8), 23, 0, [28], 0, 0),
  (23, .aload_n 0, 24, 0, [0], 0, 0),
  (24, .iconst (2), 25, 0, [], 2, 0),
  (25, .invokevirtual 194, 28, 1669, [1214, 2, 0, 9, 1671, 60, 138, 1672], 0, 0),
  (28, .return_, 29, 0, [], 0, 0)]
def pt_m1218 : pm_Me := (⟨"TurnCabinetModel", "must", "(I)V"⟩, prog_12_method_18_code, 2, none, 2, 43, pt_q1218_0)
-- TurnCabinetModel.fault(I)I
def pt_q1239_0 : List pm_Q := [(0, .iload_n 1, 1, 0, [1], 0, 0),
  (1, .ifCond .ne (10), 4, 0, [11], 0, 0),
  (4, .aload_n 0, 5, 0, [0], 0, 0),
  (5, .getfield 298, 8, 1423, [0, 9, 10], 0, 0),
  (8, .goto (16), 11, 0, [24], 0, 0),
  (11, .iload_n 1, 12, 0, [1], 0, 0),
  (12, .iconst (1), 13, 0, [], 1, 0),
  (13, .if_icmp .ne (10), 16, 0, [23], 0, 0),
  (16, .aload_n 0, 17, 0, [0], 0, 0),
  (17, .getfield 17, 20, 1424, [0, 9, 11], 0, 0),
  (20, .goto (4), 23, 0, [24], 0, 0),
  (23, .iconst (-1), 24, 0, [], -1, 0),
  (24, .ireturn, 25, 0, [], 0, 0)]
def pt_m1239 : pm_Me := (⟨"TurnCabinetModel", "fault", "(I)I"⟩, prog_12_method_39_code, 2, some .int, 0, 0, pt_q1239_0)
-- TurnCabinetModel.undo()I
def pt_q1241_0 : List pm_Q := [(0, .aload_n 0, 1, 0, [0], 0, 0),
  (1, .getfield 328, 4, 1458, [0, 9, 45], 0, 0),
  (4, .ifCond .ne (5), 7, 0, [9], 0, 0),
  (7, .iconst (-1), 8, 0, [], -1, 0),
  (8, .ireturn, 9, 0, [], 0, 0),
  (9, .aload_n 0, 10, 0, [0], 0, 0),
  (10, .dup, 11, 0, [], 0, 0),
  (11, .getfield 328, 14, 1458, [0, 9, 45], 0, 0),
  (14, .iconst (1), 15, 0, [], 1, 0),
  (15, .isub, 16, 0, [], 0, 0),
  (16, .putfield 328, 19, 1458, [0, 9, 45], 0, 0),
  (19, .iconst (0), 20, 0, [], 0, 0),
  (20, .istore_n 1, 21, 0, [1], 0, 0),
  (21, .iload_n 1, 22, 0, [1], 0, 0),
  (22, .bipush (16), 24, 0, [], 16, 0),
  (24, .if_icmp .ge (29), 27, 0, [53], 0, 0),
  (27, .aload_n 0, 28, 0, [0], 0, 0),
  (28, .getfield 60, 31, 1456, [0, 9, 43], 0, 0),
  (31, .iload_n 1, 32, 0, [1], 0, 0),
  (32, .aload_n 0, 33, 0, [0], 0, 0),
  (33, .getfield 63, 36, 1457, [0, 9, 44], 0, 0),
  (36, .bipush (16), 38, 0, [], 16, 0),
  (38, .aload_n 0, 39, 0, [0], 0, 0),
  (39, .getfield 328, 42, 1458, [0, 9, 45], 0, 0),
  (42, .imul, 43, 0, [], 0, 0),
  (43, .iload_n 1, 44, 0, [1], 0, 0),
  (44, .iadd, 45, 0, [], 0, 0),
  (45, .iaload, 46, 0, [], 0, 0),
  (46, .iastore, 47, 0, [], 0, 0),
  (47, .iinc 1 (1), 50, 0, [1], 1, 0),
  (50, .goto (-29), 53, 0, [21], 0, 0),
  (53, .aload_n 0, 54, 0, [0], 0, 0),
  (54, .iconst (0), 55, 0, [], 0, 0),
  (55, .putfield 331, 58, 1470, [0, 9, 57], 0, 0),
  (58, .aload_n 0, 59, 0, [0], 0, 0),
  (59, .getfield 328, 62, 1458, [0, 9, 45], 0, 0),
  (62, .ireturn, 63, 0, [], 0, 0)]
def pt_m1241 : pm_Me := (⟨"TurnCabinetModel", "undo", "()I"⟩, prog_12_method_41_code, 2, some .int, 0, 0, pt_q1241_0)
-- TurnCabinetModel.party(II)I
def pt_q1251_0 : List pm_Q := [(0, .aload_n 0, 1, 0, [0], 0, 0),
  (1, .iload_n 1, 2, 0, [1], 0, 0),
  (2, .invokevirtual 348, 5, 1760, [1246, 2, 0, 9, 1762, 76, 138, 1763], 0, 0),
  (5, .ifCond .ne (5), 8, 0, [10], 0, 0),
  (8, .iconst (-1), 9, 0, [], -1, 0),
  (9, .ireturn, 10, 0, [], 0, 0),
  (10, .iload_n 2, 11, 0, [2], 0, 0),
  (11, .tableswitch (66) (0) (4) #[33, 39, 46, 53, 59], 44, 0, [77, 44, 50, 57, 64, 70], 0, 0),
  (44, .aload_n 0, 45, 0, [0], 0, 0),
  (45, .iload_n 1, 46, 0, [1], 0, 0),
  (46, .invokevirtual 335, 49, 1764, [1242, 2, 0, 9, 1766, 77, 138, 1767], 0, 0),
  (49, .ireturn, 50, 0, [], 0, 0),
  (50, .aload_n 0, 51, 0, [0], 0, 0),
  (51, .getfield 45, 54, 1451, [0, 9, 38], 0, 0),
  (54, .iload_n 1, 55, 0, [1], 0, 0),
  (55, .iaload, 56, 0, [], 0, 0),
  (56, .ireturn, 57, 0, [], 0, 0),
  (57, .aload_n 0, 58, 0, [0], 0, 0),
  (58, .getfield 48, 61, 1452, [0, 9, 39], 0, 0),
  (61, .iload_n 1, 62, 0, [1], 0, 0),
  (62, .iaload, 63, 0, [], 0, 0),
  (63, .ireturn, 64, 0, [], 0, 0),
  (64, .aload_n 0, 65, 0, [0], 0, 0),
  (65, .iload_n 1, 66, 0, [1], 0, 0),
  (66, .invokevirtual 351, 69, 1768, [1250, 2, 0, 9, 1770, 78, 138, 1771], 0, 0),
  (69, .ireturn, 70, 0, [], 0, 0),
  (70, .aload_n 0, 71, 0, [0], 0, 0),
  (71, .getfield 51, 74, 1453, [0, 9, 40], 0, 0),
  (74, .iload_n 1, 75, 0, [1], 0, 0),
  (75, .iaload, 76, 0, [], 0, 0),
  (76, .ireturn, 77, 0, [], 0, 0),
  (77, .iconst (-1), 78, 0, [], -1, 0),
  (78, .ireturn, 79, 0, [], 0, 0)]
def pt_m1251 : pm_Me := (⟨"TurnCabinetModel", "party", "(II)I"⟩, prog_12_method_51_code, 3, some .int, 2, 46, pt_q1251_0)
-- TurnCabinetModel.isParty(I)Z
def pt_q1246_0 : List pm_Q := [(0, .iload_n 1, 1, 0, [1], 0, 0),
  (1, .i2l, 2, 0, [], 0, 0),
  (2, .lconst 0, 3, 0, [], 0, 0),
  (3, .aload_n 0, 4, 0, [0], 0, 0),
  (4, .getfield 301, 7, 1443, [0, 9, 30], 0, 0),
  (7, .iconst (1), 8, 0, [], 1, 0),
  (8, .isub, 9, 0, [], 0, 0),
  (9, .i2l, 10, 0, [], 0, 0),
  (10, .invokestatic 125, 13, 1624, [1202, 3, 0, 1625, 138, 1626], 0, 0),
  (13, .ireturn, 14, 0, [], 0, 0)]
def pt_m1246 : pm_Me := (⟨"TurnCabinetModel", "isParty", "(I)Z"⟩, prog_12_method_46_code, 2, some .boolean, 1, 25, pt_q1246_0)
-- TurnCabinetModel.seatsOf(I)I
def pt_q1242_0 : List pm_Q := [(0, .aload_n 0, 1, 0, [0], 0, 0),
  (1, .getfield 60, 4, 1456, [0, 9, 43], 0, 0),
  (4, .bipush (9), 6, 0, [], 9, 0),
  (6, .iload_n 1, 7, 0, [1], 0, 0),
  (7, .iadd, 8, 0, [], 0, 0),
  (8, .iaload, 9, 0, [], 0, 0),
  (9, .ireturn, 10, 0, [], 0, 0)]
def pt_m1242 : pm_Me := (⟨"TurnCabinetModel", "seatsOf", "(I)I"⟩, prog_12_method_42_code, 2, some .int, 0, 0, pt_q1242_0)
-- TurnCabinetModel.held(I)I
def pt_q1250_0 : List pm_Q := [(0, .iconst (0), 1, 0, [], 0, 0),
  (1, .istore_n 2, 2, 0, [2], 0, 0),
  (2, .iconst (0), 3, 0, [], 0, 0),
  (3, .istore_n 3, 4, 0, [3], 0, 0),
  (4, .iload_n 3, 5, 0, [3], 0, 0),
  (5, .aload_n 0, 6, 0, [0], 0, 0),
  (6, .getfield 304, 9, 1444, [0, 9, 31], 0, 0),
  (9, .if_icmp .ge (32), 12, 0, [41], 0, 0),
  (12, .iload_n 2, 13, 0, [2], 0, 0),
  (13, .aload_n 0, 14, 0, [0], 0, 0),
  (14, .getfield 60, 17, 1456, [0, 9, 43], 0, 0),
  (17, .iconst (1), 18, 0, [], 1, 0),
  (18, .iload_n 3, 19, 0, [3], 0, 0),
  (19, .iadd, 20, 0, [], 0, 0),
  (20, .iaload, 21, 0, [], 0, 0),
  (21, .iload_n 1, 22, 0, [1], 0, 0),
  (22, .if_icmp .ne (7), 25, 0, [29], 0, 0),
  (25, .iconst (1), 26, 0, [], 1, 0),
  (26, .goto (4), 29, 0, [30], 0, 0),
  (29, .iconst (0), 30, 0, [], 0, 0),
  (30, .invokestatic 344, 33, 1772, [1203, 1, 0, 1773, 138, 1774], 0, 0),
  (33, .iadd, 34, 0, [], 0, 0),
  (34, .istore_n 2, 35, 0, [2], 0, 0),
  (35, .iinc 3 (1), 38, 0, [3], 1, 0),
  (38, .goto (-34), 41, 0, [4], 0, 0),
  (41, .iload_n 2, 42, 0, [2], 0, 0),
  (42, .ireturn, 43, 0, [], 0, 0)]
def pt_m1250 : pm_Me := (⟨"TurnCabinetModel", "held", "(I)I"⟩, prog_12_method_50_code, 4, some .int, 1, 20, pt_q1250_0)
-- TurnCabinetModel.truth(Z)I
def pt_q1203_0 : List pm_Q := [(0, .iload_n 0, 1, 0, [0], 0, 0),
  (1, .ifCond .eq (7), 4, 0, [8], 0, 0),
  (4, .iconst (1), 5, 0, [], 1, 0),
  (5, .goto (4), 8, 0, [9], 0, 0),
  (8, .iconst (0), 9, 0, [], 0, 0),
  (9, .ireturn, 10, 0, [], 0, 0)]
def pt_m1203 : pm_Me := (⟨"TurnCabinetModel", "truth", "(Z)I"⟩, prog_12_method_3_code, 1, some .int, 0, 0, pt_q1203_0)
-- TurnCabinetModel.worth(II)I
def pt_q1252_0 : List pm_Q := [(0, .aload_n 0, 1, 0, [0], 0, 0),
  (1, .iload_n 1, 2, 0, [1], 0, 0),
  (2, .invokevirtual 348, 5, 1760, [1246, 2, 0, 9, 1762, 76, 138, 1763], 0, 0),
  (5, .ifCond .eq (20), 8, 0, [25], 0, 0),
  (8, .aload_n 0, 9, 0, [0], 0, 0),
  (9, .iload_n 2, 10, 0, [2], 0, 0),
  (10, .invokevirtual 354, 13, 1779, [1247, 2, 0, 9, 1781, 79, 138, 1782], 0, 0),
  (13, .ifCond .eq (12), 16, 0, [25], 0, 0),
  (16, .aload_n 0, 17, 0, [0], 0, 0),
  (17, .iload_n 1, 18, 0, [1], 0, 0),
  (18, .iload_n 2, 19, 0, [2], 0, 0),
  (19, .invokevirtual 357, 22, 1783, [1249, 3, 0, 9, 1785, 80, 138, 1786], 0, 0),
  (22, .goto (4), 25, 0, [26], 0, 0),
  (25, .iconst (-1), 26, 0, [], -1, 0),
  (26, .ireturn, 27, 0, [], 0, 0)]
def pt_m1252 : pm_Me := (⟨"TurnCabinetModel", "worth", "(II)I"⟩, prog_12_method_52_code, 3, some .int, 2, 46, pt_q1252_0)
-- TurnCabinetModel.isOffice(I)Z
def pt_q1247_0 : List pm_Q := [(0, .iload_n 1, 1, 0, [1], 0, 0),
  (1, .i2l, 2, 0, [], 0, 0),
  (2, .lconst 0, 3, 0, [], 0, 0),
  (3, .aload_n 0, 4, 0, [0], 0, 0),
  (4, .getfield 304, 7, 1444, [0, 9, 31], 0, 0),
  (7, .iconst (1), 8, 0, [], 1, 0),
  (8, .isub, 9, 0, [], 0, 0),
  (9, .i2l, 10, 0, [], 0, 0),
  (10, .invokestatic 125, 13, 1624, [1202, 3, 0, 1625, 138, 1626], 0, 0),
  (13, .ireturn, 14, 0, [], 0, 0)]
def pt_m1247 : pm_Me := (⟨"TurnCabinetModel", "isOffice", "(I)Z"⟩, prog_12_method_47_code, 2, some .boolean, 1, 25, pt_q1247_0)
-- TurnCabinetModel.worthOf(II)I
def pt_q1249_0 : List pm_Q := [(0, .aload_n 0, 1, 0, [0], 0, 0),
  (1, .getfield 54, 4, 1454, [0, 9, 41], 0, 0),
  (4, .bipush (8), 6, 0, [], 8, 0),
  (6, .iload_n 1, 7, 0, [1], 0, 0),
  (7, .imul, 8, 0, [], 0, 0),
  (8, .iload_n 2, 9, 0, [2], 0, 0),
  (9, .iadd, 10, 0, [], 0, 0),
  (10, .iaload, 11, 0, [], 0, 0),
  (11, .ireturn, 12, 0, [], 0, 0)]
def pt_m1249 : pm_Me := (⟨"TurnCabinetModel", "worthOf", "(II)I"⟩, prog_12_method_49_code, 3, some .int, 0, 0, pt_q1249_0)
-- TurnCabinetModel.about(I)I
def pt_q1253_0 : List pm_Q := [(0, .iload_n 1, 1, 0, [1], 0, 0),
  (1, .tableswitch (118) (0) (10) #[59, 64, 69, 74, 79, 84, 89, 98, 103, 108, 113], 60, 0, [119, 60, 65, 70, 75, 80, 85, 90, 99, 104, 109, 114], 0, 0),
  (60, .aload_n 0, 61, 0, [0], 0, 0),
  (61, .getfield 301, 64, 1443, [0, 9, 30], 0, 0),
  (64, .ireturn, 65, 0, [], 0, 0),
  (65, .aload_n 0, 66, 0, [0], 0, 0),
  (66, .getfield 304, 69, 1444, [0, 9, 31], 0, 0),
  (69, .ireturn, 70, 0, [], 0, 0),
  (70, .aload_n 0, 71, 0, [0], 0, 0),
  (71, .invokevirtual 360, 74, 1791, [1245, 1, 0, 9, 1793, 81, 138, 1794], 0, 0),
  (74, .ireturn, 75, 0, [], 0, 0),
  (75, .aload_n 0, 76, 0, [0], 0, 0),
  (76, .getfield 316, 79, 1448, [0, 9, 35], 0, 0),
  (79, .ireturn, 80, 0, [], 0, 0),
  (80, .aload_n 0, 81, 0, [0], 0, 0),
  (81, .getfield 319, 84, 1449, [0, 9, 36], 0, 0),
  (84, .ireturn, 85, 0, [], 0, 0),
  (85, .aload_n 0, 86, 0, [0], 0, 0),
  (86, .getfield 322, 89, 1450, [0, 9, 37], 0, 0),
  (89, .ireturn, 90, 0, [], 0, 0),
  (90, .aload_n 0, 91, 0, [0], 0, 0),
  (91, .aload_n 0, 92, 0, [0], 0, 0),
  (92, .invokevirtual 338, 95, 1795, [1244, 1, 0, 9, 1797, 82, 138, 1798], 0, 0),
  (95, .invokevirtual 341, 98, 1799, [1243, 2, 0, 9, 1801, 83, 138, 1802], 0, 0),
  (98, .ireturn, 99, 0, [], 0, 0),
  (99, .aload_n 0, 100, 0, [0], 0, 0),
  (100, .getfield 328, 103, 1458, [0, 9, 45], 0, 0),
  (103, .ireturn, 104, 0, [], 0, 0),
  (104, .aload_n 0, 105, 0, [0], 0, 0),
  (105, .getfield 118, 108, 1414, [0, 9, 1], 0, 0),
  (108, .ireturn, 109, 0, [], 0, 0),
  (109, .aload_n 0, 110, 0, [0], 0, 0),
  (110, .getfield 307, 113, 1445, [0, 9, 32], 0, 0),
  (113, .ireturn, 114, 0, [], 0, 0),
  (114, .aload_n 0, 115, 0, [0], 0, 0),
  (115, .getfield 310, 118, 1446, [0, 9, 33], 0, 0),
  (118, .ireturn, 119, 0, [], 0, 0),
  (119, .iconst (-1), 120, 0, [], -1, 0),
  (120, .ireturn, 121, 0, [], 0, 0)]
def pt_m1253 : pm_Me := (⟨"TurnCabinetModel", "about", "(I)I"⟩, prog_12_method_53_code, 2, some .int, 3, 64, pt_q1253_0)
-- TurnCabinetModel.need()I
def pt_q1245_0 : List pm_Q := [(0, .aload_n 0, 1, 0, [0], 0, 0),
  (1, .getfield 313, 4, 1447, [0, 9, 34], 0, 0),
  (4, .iconst (-1), 5, 0, [], -1, 0),
  (5, .if_icmp .eq (10), 8, 0, [15], 0, 0),
  (8, .aload_n 0, 9, 0, [0], 0, 0),
  (9, .getfield 313, 12, 1447, [0, 9, 34], 0, 0),
  (12, .goto (15), 15, 0, [27], 0, 0),
  (15, .aload_n 0, 16, 0, [0], 0, 0),
  (16, .aload_n 0, 17, 0, [0], 0, 0),
  (17, .invokevirtual 338, 20, 1795, [1244, 1, 0, 9, 1797, 82, 138, 1798], 0, 0),
  (20, .invokevirtual 341, 23, 1799, [1243, 2, 0, 9, 1801, 83, 138, 1802], 0, 0),
  (23, .iconst (2), 24, 0, [], 2, 0),
  (24, .idiv, 25, 0, [], 0, 0),
  (25, .iconst (1), 26, 0, [], 1, 0),
  (26, .iadd, 27, 0, [], 0, 0),
  (27, .ireturn, 28, 0, [], 0, 0)]
def pt_m1245 : pm_Me := (⟨"TurnCabinetModel", "need", "()I"⟩, prog_12_method_45_code, 1, some .int, 2, 44, pt_q1245_0)
-- TurnCabinetModel.everyone()I
def pt_q1244_0 : List pm_Q := [(0, .iconst (1), 1, 0, [], 1, 0),
  (1, .aload_n 0, 2, 0, [0], 0, 0),
  (2, .getfield 301, 5, 1443, [0, 9, 30], 0, 0),
  (5, .ishl, 6, 0, [], 0, 0),
  (6, .iconst (1), 7, 0, [], 1, 0),
  (7, .isub, 8, 0, [], 0, 0),
  (8, .ireturn, 9, 0, [], 0, 0)]
def pt_m1244 : pm_Me := (⟨"TurnCabinetModel", "everyone", "()I"⟩, prog_12_method_44_code, 1, some .int, 0, 0, pt_q1244_0)
-- TurnCabinetModel.seatsIn(I)I
def pt_q1243_0 : List pm_Q := [(0, .iconst (0), 1, 0, [], 0, 0),
  (1, .istore_n 2, 2, 0, [2], 0, 0),
  (2, .iconst (0), 3, 0, [], 0, 0),
  (3, .istore_n 3, 4, 0, [3], 0, 0),
  (4, .iload_n 3, 5, 0, [3], 0, 0),
  (5, .aload_n 0, 6, 0, [0], 0, 0),
  (6, .getfield 301, 9, 1443, [0, 9, 30], 0, 0),
  (9, .if_icmp .ge (29), 12, 0, [38], 0, 0),
  (12, .iload_n 2, 13, 0, [2], 0, 0),
  (13, .iload_n 1, 14, 0, [1], 0, 0),
  (14, .iload_n 3, 15, 0, [3], 0, 0),
  (15, .invokestatic 242, 18, 1666, [1205, 2, 0, 1667, 138, 1668], 0, 0),
  (18, .ifCond .eq (11), 21, 0, [29], 0, 0),
  (21, .aload_n 0, 22, 0, [0], 0, 0),
  (22, .iload_n 3, 23, 0, [3], 0, 0),
  (23, .invokevirtual 335, 26, 1764, [1242, 2, 0, 9, 1766, 77, 138, 1767], 0, 0),
  (26, .goto (4), 29, 0, [30], 0, 0),
  (29, .iconst (0), 30, 0, [], 0, 0),
  (30, .iadd, 31, 0, [], 0, 0),
  (31, .istore_n 2, 32, 0, [2], 0, 0),
  (32, .iinc 3 (1), 35, 0, [3], 1, 0),
  (35, .goto (-31), 38, 0, [4], 0, 0),
  (38, .iload_n 2, 39, 0, [2], 0, 0),
  (39, .ireturn, 40, 0, [], 0, 0)]
def pt_m1243 : pm_Me := (⟨"TurnCabinetModel", "seatsIn", "(I)I"⟩, prog_12_method_43_code, 4, some .int, 1, 21, pt_q1243_0)
-- TurnCabinetModel.turn(II)I
def pt_q1257_0 : List pm_Q := [(0, .aload_n 0, 1, 0, [0], 0, 0),
  (1, .iload_n 1, 2, 0, [1], 0, 0),
  (2, .invokevirtual 369, 5, 1807, [1248, 2, 0, 9, 1809, 84, 138, 1810], 0, 0),
  (5, .ifCond .eq (19), 8, 0, [24], 0, 0),
  (8, .iload_n 2, 9, 0, [2], 0, 0),
  (9, .i2l, 10, 0, [], 0, 0),
  (10, .lconst 0, 11, 0, [], 0, 0),
  (11, .aload_n 0, 12, 0, [0], 0, 0),
  (12, .getfield 304, 15, 1444, [0, 9, 31], 0, 0),
  (15, .iconst (1), 16, 0, [], 1, 0),
  (16, .isub, 17, 0, [], 0, 0),
  (17, .i2l, 18, 0, [], 0, 0),
  (18, .invokestatic 125, 21, 1624, [1202, 3, 0, 1625, 138, 1626], 0, 0),
  (21, .ifCond .ne (5), 24, 0, [26], 0, 0),
  (24, .iconst (-1), 25, 0, [], -1, 0),
  (25, .ireturn, 26, 0, [], 0, 0),
  (26, .aload_n 0, 27, 0, [0], 0, 0),
  (27, .iload_n 1, 28, 0, [1], 0, 0),
  (28, .invokevirtual 372, 31, 1811, [1256, 2, 0, 9, 1813, 85, 138, 1814], 0, 0),
  (31, .aload_n 0, 32, 0, [0], 0, 0),
  (32, .getfield 66, 35, 1459, [0, 9, 46], 0, 0),
  (35, .iload_n 2, 36, 0, [2], 0, 0),
  (36, .iaload, 37, 0, [], 0, 0),
  (37, .ireturn, 38, 0, [], 0, 0)]
def pt_m1257 : pm_Me := (⟨"TurnCabinetModel", "turn", "(II)I"⟩, prog_12_method_57_code, 3, some .int, 4, 90, pt_q1257_0)
-- TurnCabinetModel.isCoalition(I)Z
def pt_q1248_0 : List pm_Q := [(0, .iload_n 1, 1, 0, [1], 0, 0),
  (1, .i2l, 2, 0, [], 0, 0),
  (2, .lconst 1, 3, 0, [], 0, 1),
  (3, .aload_n 0, 4, 0, [0], 0, 0),
  (4, .invokevirtual 338, 7, 1795, [1244, 1, 0, 9, 1797, 82, 138, 1798], 0, 0),
  (7, .i2l, 8, 0, [], 0, 0),
  (8, .invokestatic 125, 11, 1624, [1202, 3, 0, 1625, 138, 1626], 0, 0),
  (11, .ireturn, 12, 0, [], 0, 0)]
def pt_m1248 : pm_Me := (⟨"TurnCabinetModel", "isCoalition", "(I)Z"⟩, prog_12_method_48_code, 2, some .boolean, 1, 25, pt_q1248_0)
-- TurnCabinetModel.laysTurns(I)V
def pt_q1256_0 : List pm_Q := [(0, .iconst (0), 1, 0, [], 0, 0),
  (1, .istore_n 2, 2, 0, [2], 0, 0),
  (2, .iload_n 2, 3, 0, [2], 0, 0),
  (3, .bipush (7), 5, 0, [], 7, 0),
  (5, .if_icmp .ge (16), 8, 0, [21], 0, 0),
  (8, .aload_n 0, 9, 0, [0], 0, 0),
  (9, .getfield 69, 12, 1460, [0, 9, 47], 0, 0),
  (12, .iload_n 2, 13, 0, [2], 0, 0),
  (13, .iconst (0), 14, 0, [], 0, 0),
  (14, .iastore, 15, 0, [], 0, 0),
  (15, .iinc 2 (1), 18, 0, [2], 1, 0),
  (18, .goto (-16), 21, 0, [2], 0, 0),
  (21, .iconst (0), 22, 0, [], 0, 0),
  (22, .istore_n 2, 23, 0, [2], 0, 0),
  (23, .iload_n 2, 24, 0, [2], 0, 0),
  (24, .aload_n 0, 25, 0, [0], 0, 0),
  (25, .getfield 304, 28, 1444, [0, 9, 31], 0, 0),
  (28, .if_icmp .ge (35), 31, 0, [63], 0, 0),
  (31, .aload_n 0, 32, 0, [0], 0, 0),
  (32, .getfield 66, 35, 1459, [0, 9, 46], 0, 0),
  (35, .iload_n 2, 36, 0, [2], 0, 0),
  (36, .aload_n 0, 37, 0, [0], 0, 0),
  (37, .iload_n 1, 38, 0, [1], 0, 0),
  (38, .invokevirtual 366, 41, 1815, [1255, 2, 0, 9, 1817, 86, 138, 1818], 0, 0),
  (41, .iastore, 42, 0, [], 0, 0),
  (42, .aload_n 0, 43, 0, [0], 0, 0),
  (43, .getfield 69, 46, 1460, [0, 9, 47], 0, 0),
  (46, .aload_n 0, 47, 0, [0], 0, 0),
  (47, .getfield 66, 50, 1459, [0, 9, 46], 0, 0),
  (50, .iload_n 2, 51, 0, [2], 0, 0),
  (51, .iaload, 52, 0, [], 0, 0),
  (52, .dup2, 53, 0, [], 0, 0),
  (53, .iaload, 54, 0, [], 0, 0),
  (54, .iconst (1), 55, 0, [], 1, 0),
  (55, .iadd, 56, 0, [], 0, 0),
  (56, .iastore, 57, 0, [], 0, 0),
  (57, .iinc 2 (1), 60, 0, [2], 1, 0),
  (60, .goto (-37), 63, 0, [23], 0, 0),
  (63, .return_, 64, 0, [], 0, 0)]
def pt_m1256 : pm_Me := (⟨"TurnCabinetModel", "laysTurns", "(I)V"⟩, prog_12_method_56_code, 3, none, 3, 68, pt_q1256_0)
-- TurnCabinetModel.nextOf(I)I
def pt_q1255_0 : List pm_Q := [(0, .iconst (-1), 1, 0, [], -1, 0),
  (1, .istore_n 2, 2, 0, [2], 0, 0),
  (2, .iconst (0), 3, 0, [], 0, 0),
  (3, .istore_n 3, 4, 0, [3], 0, 0),
  (4, .iload_n 3, 5, 0, [3], 0, 0),
  (5, .aload_n 0, 6, 0, [0], 0, 0),
  (6, .getfield 301, 9, 1443, [0, 9, 30], 0, 0),
  (9, .if_icmp .ge (33), 12, 0, [42], 0, 0),
  (12, .iload_n 1, 13, 0, [1], 0, 0),
  (13, .iload_n 3, 14, 0, [3], 0, 0),
  (14, .invokestatic 242, 17, 1666, [1205, 2, 0, 1667, 138, 1668], 0, 0),
  (17, .ifCond .eq (19), 20, 0, [36], 0, 0),
  (20, .iload_n 2, 21, 0, [2], 0, 0),
  (21, .iconst (-1), 22, 0, [], -1, 0),
  (22, .if_icmp .eq (12), 25, 0, [34], 0, 0),
  (25, .aload_n 0, 26, 0, [0], 0, 0),
  (26, .iload_n 3, 27, 0, [3], 0, 0),
  (27, .iload_n 2, 28, 0, [2], 0, 0),
  (28, .invokevirtual 363, 31, 1819, [1254, 3, 0, 9, 1821, 87, 138, 1822], 0, 0),
  (31, .ifCond .eq (5), 34, 0, [36], 0, 0),
  (34, .iload_n 3, 35, 0, [3], 0, 0),
  (35, .istore_n 2, 36, 0, [2], 0, 0),
  (36, .iinc 3 (1), 39, 0, [3], 1, 0),
  (39, .goto (-35), 42, 0, [4], 0, 0),
  (42, .iload_n 2, 43, 0, [2], 0, 0),
  (43, .ireturn, 44, 0, [], 0, 0)]
def pt_m1255 : pm_Me := (⟨"TurnCabinetModel", "nextOf", "(I)I"⟩, prog_12_method_55_code, 4, some .int, 2, 45, pt_q1255_0)
-- TurnCabinetModel.isAhead(II)Z
def pt_q1254_0 : List pm_Q := [(0, .aload_n 0, 1, 0, [0], 0, 0),
  (1, .iload_n 1, 2, 0, [1], 0, 0),
  (2, .invokevirtual 335, 5, 1764, [1242, 2, 0, 9, 1766, 77, 138, 1767], 0, 0),
  (5, .aload_n 0, 6, 0, [0], 0, 0),
  (6, .getfield 307, 9, 1445, [0, 9, 32], 0, 0),
  (9, .aload_n 0, 10, 0, [0], 0, 0),
  (10, .getfield 310, 13, 1446, [0, 9, 33], 0, 0),
  (13, .aload_n 0, 14, 0, [0], 0, 0),
  (14, .getfield 69, 17, 1460, [0, 9, 47], 0, 0),
  (17, .iload_n 2, 18, 0, [2], 0, 0),
  (18, .iaload, 19, 0, [], 0, 0),
  (19, .imul, 20, 0, [], 0, 0),
  (20, .iadd, 21, 0, [], 0, 0),
  (21, .imul, 22, 0, [], 0, 0),
  (22, .istore_n 3, 23, 0, [3], 0, 0),
  (23, .aload_n 0, 24, 0, [0], 0, 0),
  (24, .iload_n 2, 25, 0, [2], 0, 0),
  (25, .invokevirtual 335, 28, 1764, [1242, 2, 0, 9, 1766, 77, 138, 1767], 0, 0),
  (28, .aload_n 0, 29, 0, [0], 0, 0),
  (29, .getfield 307, 32, 1445, [0, 9, 32], 0, 0),
  (32, .aload_n 0, 33, 0, [0], 0, 0),
  (33, .getfield 310, 36, 1446, [0, 9, 33], 0, 0),
  (36, .aload_n 0, 37, 0, [0], 0, 0),
  (37, .getfield 69, 40, 1460, [0, 9, 47], 0, 0),
  (40, .iload_n 1, 41, 0, [1], 0, 0),
  (41, .iaload, 42, 0, [], 0, 0),
  (42, .imul, 43, 0, [], 0, 0),
  (43, .iadd, 44, 0, [], 0, 0),
  (44, .imul, 45, 0, [], 0, 0),
  (45, .istore 4, 47, 0, [4], 0, 0),
  (47, .iload_n 3, 48, 0, [3], 0, 0),
  (48, .iload 4, 50, 0, [4], 0, 0),
  (50, .if_icmp .eq (17), 53, 0, [67], 0, 0),
  (53, .iload_n 3, 54, 0, [3], 0, 0),
  (54, .iload 4, 56, 0, [4], 0, 0),
  (56, .if_icmp .le (7), 59, 0, [63], 0, 0),
  (59, .iconst (1), 60, 0, [], 1, 0),
  (60, .goto (25), 63, 0, [85], 0, 0),
  (63, .iconst (0), 64, 0, [], 0, 0),
  (64, .goto (21), 67, 0, [85], 0, 0),
  (67, .aload_n 0, 68, 0, [0], 0, 0),
  (68, .iload_n 1, 69, 0, [1], 0, 0),
  (69, .invokevirtual 335, 72, 1764, [1242, 2, 0, 9, 1766, 77, 138, 1767], 0, 0),
  (72, .aload_n 0, 73, 0, [0], 0, 0),
  (73, .iload_n 2, 74, 0, [2], 0, 0),
  (74, .invokevirtual 335, 77, 1764, [1242, 2, 0, 9, 1766, 77, 138, 1767], 0, 0),
  (77, .if_icmp .le (7), 80, 0, [84], 0, 0),
  (80, .iconst (1), 81, 0, [], 1, 0),
  (81, .goto (4), 84, 0, [85], 0, 0),
  (84, .iconst (0), 85, 0, [], 0, 0),
  (85, .ireturn, 86, 0, [], 0, 0)]
def pt_m1254 : pm_Me := (⟨"TurnCabinetModel", "isAhead", "(II)Z"⟩, prog_12_method_54_code, 5, some .boolean, 1, 21, pt_q1254_0)
-- TurnCabinetModel.turnBy(IIII)I
def pt_q1258_0 : List pm_Q := [(0, .aload_n 0, 1, 0, [0], 0, 0),
  (1, .iload_n 1, 2, 0, [1], 0, 0),
  (2, .invokevirtual 369, 5, 1807, [1248, 2, 0, 9, 1809, 84, 138, 1810], 0, 0),
  (5, .ifCond .eq (44), 8, 0, [49], 0, 0),
  (8, .iload_n 2, 9, 0, [2], 0, 0),
  (9, .i2l, 10, 0, [], 0, 0),
  (10, .lconst 1, 11, 0, [], 0, 1),
  (11, .ldc2_w 375, 14, 1827, [], 0, 99),
  (14, .invokestatic 125, 17, 1624, [1202, 3, 0, 1625, 138, 1626], 0, 0),
  (17, .ifCond .eq (32), 20, 0, [49], 0, 0),
  (20, .iload_n 3, 21, 0, [3], 0, 0),
  (21, .i2l, 22, 0, [], 0, 0),
  (22, .lconst 1, 23, 0, [], 0, 1),
  (23, .ldc2_w 375, 26, 1827, [], 0, 99),
  (26, .invokestatic 125, 29, 1624, [1202, 3, 0, 1625, 138, 1626], 0, 0),
  (29, .ifCond .eq (20), 32, 0, [49], 0, 0),
  (32, .iload 4, 34, 0, [4], 0, 0),
  (34, .i2l, 35, 0, [], 0, 0),
  (35, .lconst 0, 36, 0, [], 0, 0),
  (36, .aload_n 0, 37, 0, [0], 0, 0),
  (37, .getfield 304, 40, 1444, [0, 9, 31], 0, 0),
  (40, .iconst (1), 41, 0, [], 1, 0),
  (41, .isub, 42, 0, [], 0, 0),
  (42, .i2l, 43, 0, [], 0, 0),
  (43, .invokestatic 125, 46, 1624, [1202, 3, 0, 1625, 138, 1626], 0, 0),
  (46, .ifCond .ne (5), 49, 0, [51], 0, 0),
  (49, .iconst (-1), 50, 0, [], -1, 0),
  (50, .ireturn, 51, 0, [], 0, 0),
  (51, .aload_n 0, 52, 0, [0], 0, 0),
  (52, .getfield 307, 55, 1445, [0, 9, 32], 0, 0),
  (55, .istore 5, 57, 0, [5], 0, 0),
  (57, .aload_n 0, 58, 0, [0], 0, 0),
  (58, .getfield 310, 61, 1446, [0, 9, 33], 0, 0),
  (61, .istore 6, 63, 0, [6], 0, 0),
  (63, .aload_n 0, 64, 0, [0], 0, 0),
  (64, .iload_n 2, 65, 0, [2], 0, 0),
  (65, .putfield 307, 68, 1445, [0, 9, 32], 0, 0),
  (68, .aload_n 0, 69, 0, [0], 0, 0),
  (69, .iload_n 3, 70, 0, [3], 0, 0),
  (70, .putfield 310, 73, 1446, [0, 9, 33], 0, 0),
  (73, .aload_n 0, 74, 0, [0], 0, 0),
  (74, .iload_n 1, 75, 0, [1], 0, 0),
  (75, .invokevirtual 372, 78, 1811, [1256, 2, 0, 9, 1813, 85, 138, 1814], 0, 0),
  (78, .aload_n 0, 79, 0, [0], 0, 0),
  (79, .iload 5, 81, 0, [5], 0, 0),
  (81, .putfield 307, 84, 1445, [0, 9, 32], 0, 0),
  (84, .aload_n 0, 85, 0, [0], 0, 0),
  (85, .iload 6, 87, 0, [6], 0, 0),
  (87, .putfield 310, 90, 1446, [0, 9, 33], 0, 0),
  (90, .aload_n 0, 91, 0, [0], 0, 0),
  (91, .getfield 66, 94, 1459, [0, 9, 46], 0, 0),
  (94, .iload 4, 96, 0, [4], 0, 0),
  (96, .iaload, 97, 0, [], 0, 0),
  (97, .ireturn, 98, 0, [], 0, 0)]
def pt_m1258 : pm_Me := (⟨"TurnCabinetModel", "turnBy", "(IIII)I"⟩, prog_12_method_58_code, 7, some .int, 4, 90, pt_q1258_0)
-- TurnCabinetModel.gets(III)I
def pt_q1268_0 : List pm_Q := [(0, .aload_n 0, 1, 0, [0], 0, 0),
  (1, .iload_n 1, 2, 0, [1], 0, 0),
  (2, .invokevirtual 369, 5, 1807, [1248, 2, 0, 9, 1809, 84, 138, 1810], 0, 0),
  (5, .ifCond .eq (23), 8, 0, [28], 0, 0),
  (8, .iload_n 2, 9, 0, [2], 0, 0),
  (9, .i2l, 10, 0, [], 0, 0),
  (10, .lconst 0, 11, 0, [], 0, 0),
  (11, .ldc2_w 405, 14, 1832, [], 0, 2),
  (14, .invokestatic 125, 17, 1624, [1202, 3, 0, 1625, 138, 1626], 0, 0),
  (17, .ifCond .eq (11), 20, 0, [28], 0, 0),
  (20, .aload_n 0, 21, 0, [0], 0, 0),
  (21, .iload_n 3, 22, 0, [3], 0, 0),
  (22, .invokevirtual 354, 25, 1779, [1247, 2, 0, 9, 1781, 79, 138, 1782], 0, 0),
  (25, .ifCond .ne (5), 28, 0, [30], 0, 0),
  (28, .iconst (-1), 29, 0, [], -1, 0),
  (29, .ireturn, 30, 0, [], 0, 0),
  (30, .aload_n 0, 31, 0, [0], 0, 0),
  (31, .iload_n 1, 32, 0, [1], 0, 0),
  (32, .iload_n 2, 33, 0, [2], 0, 0),
  (33, .invokevirtual 407, 36, 1833, [1266, 3, 0, 9, 1835, 88, 138, 1836], 0, 0),
  (36, .aload_n 0, 37, 0, [0], 0, 0),
  (37, .getfield 78, 40, 1463, [0, 9, 50], 0, 0),
  (40, .iload_n 3, 41, 0, [3], 0, 0),
  (41, .iaload, 42, 0, [], 0, 0),
  (42, .ireturn, 43, 0, [], 0, 0)]
def pt_m1268 : pm_Me := (⟨"TurnCabinetModel", "gets", "(III)I"⟩, prog_12_method_68_code, 4, some .int, 5, 115, pt_q1268_0)
-- TurnCabinetModel.picks(II)V
def pt_q1266_0 : List pm_Q := [(0, .aload_n 0, 1, 0, [0], 0, 0),
  (1, .iload_n 1, 2, 0, [1], 0, 0),
  (2, .invokevirtual 372, 5, 1811, [1256, 2, 0, 9, 1813, 85, 138, 1814], 0, 0),
  (5, .aload_n 0, 6, 0, [0], 0, 0),
  (6, .iconst (0), 7, 0, [], 0, 0),
  (7, .putfield 390, 10, 1464, [0, 9, 51], 0, 0),
  (10, .iload_n 2, 11, 0, [2], 0, 0),
  (11, .ifCond .le (7), 14, 0, [18], 0, 0),
  (14, .aload_n 0, 15, 0, [0], 0, 0),
  (15, .invokevirtual 393, 18, 1837, [1260, 1, 0, 9, 1839, 89, 138, 1840], 0, 0),
  (18, .aload_n 0, 19, 0, [0], 0, 0),
  (19, .invokevirtual 396, 22, 1848, [1261, 1, 0, 9, 1850, 91, 138, 1851], 0, 0),
  (22, .istore_n 3, 23, 0, [3], 0, 0),
  (23, .iconst (0), 24, 0, [], 0, 0),
  (24, .istore 4, 26, 0, [4], 0, 0),
  (26, .iload 4, 28, 0, [4], 0, 0),
  (28, .aload_n 0, 29, 0, [0], 0, 0),
  (29, .getfield 304, 32, 1444, [0, 9, 31], 0, 0),
  (32, .if_icmp .ge (59), 35, 0, [91], 0, 0),
  (35, .iload_n 2, 36, 0, [2], 0, 0),
  (36, .ifCond .le (12), 39, 0, [48], 0, 0),
  (39, .aload_n 0, 40, 0, [0], 0, 0),
  (40, .getfield 75, 43, 1462, [0, 9, 49], 0, 0),
  (43, .iload_n 3, 44, 0, [3], 0, 0),
  (44, .iaload, 45, 0, [], 0, 0),
  (45, .goto (15), 48, 0, [60], 0, 0),
  (48, .aload_n 0, 49, 0, [0], 0, 0),
  (49, .aload_n 0, 50, 0, [0], 0, 0),
  (50, .getfield 66, 53, 1459, [0, 9, 46], 0, 0),
  (53, .iload 4, 55, 0, [4], 0, 0),
  (55, .iaload, 56, 0, [], 0, 0),
  (56, .iload_n 3, 57, 0, [3], 0, 0),
  (57, .invokevirtual 399, 60, 1852, [1262, 3, 0, 9, 1854, 92, 138, 1855], 0, 0),
  (60, .istore 5, 62, 0, [5], 0, 0),
  (62, .aload_n 0, 63, 0, [0], 0, 0),
  (63, .getfield 78, 66, 1463, [0, 9, 50], 0, 0),
  (66, .iload 5, 68, 0, [5], 0, 0),
  (68, .aload_n 0, 69, 0, [0], 0, 0),
  (69, .getfield 66, 72, 1459, [0, 9, 46], 0, 0),
  (72, .iload 4, 74, 0, [4], 0, 0),
  (74, .iaload, 75, 0, [], 0, 0),
  (75, .iastore, 76, 0, [], 0, 0),
  (76, .iload_n 3, 77, 0, [3], 0, 0),
  (77, .iconst (1), 78, 0, [], 1, 0),
  (78, .iload 5, 80, 0, [5], 0, 0),
  (80, .ishl, 81, 0, [], 0, 0),
  (81, .iconst (-1), 82, 0, [], -1, 0),
  (82, .ixor, 83, 0, [], 0, 0),
  (83, .iand, 84, 0, [], 0, 0),
  (84, .istore_n 3, 85, 0, [3], 0, 0),
  (85, .iinc 4 (1), 88, 0, [4], 1, 0),
  (88, .goto (-62), 91, 0, [26, 5], 0, 0),
  (91, .iload_n 2, 92, 0, [2], 0, 0),
  (92, .iconst (2), 93, 0, [], 2, 0),
  (93, .if_icmp .ne (23), 96, 0, [116], 0, 0),
  (96, .aload_n 0, 97, 0, [0], 0, 0),
  (97, .invokevirtual 402, 100, 1856, [1265, 1, 0, 9, 1858, 93, 138, 1859], 0, 0),
  (100, .ifCond .eq (16), 103, 0, [116], 0, 0),
  (103, .aload_n 0, 104, 0, [0], 0, 0),
  (104, .dup, 105, 0, [], 0, 0)]
def pt_q1266_1 : List pm_Q := [(105, .getfield 390, 108, 1464, [0, 9, 51], 0, 0),
  (108, .iconst (1), 109, 0, [], 1, 0),
  (109, .iadd, 110, 0, [], 0, 0),
  (110, .putfield 390, 113, 1464, [0, 9, 51], 0, 0),
  (113, .goto (-22), 116, 0, [91], 0, 0),
  (116, .return_, 117, 0, [], 0, 0)]
def pt_m1266 : pm_Me := (⟨"TurnCabinetModel", "picks", "(II)V"⟩, prog_12_method_66_code, 6, none, 4, 90, pt_q1266_0 ++ pt_q1266_1)
-- TurnCabinetModel.foresees()V
def pt_q1260_0 : List pm_Q := [(0, .iconst (0), 1, 0, [], 0, 0),
  (1, .istore_n 1, 2, 0, [1], 0, 0),
  (2, .iload_n 1, 3, 0, [1], 0, 0),
  (3, .bipush (7), 5, 0, [], 7, 0),
  (5, .if_icmp .ge (16), 8, 0, [21], 0, 0),
  (8, .aload_n 0, 9, 0, [0], 0, 0),
  (9, .getfield 72, 12, 1461, [0, 9, 48], 0, 0),
  (12, .iload_n 1, 13, 0, [1], 0, 0),
  (13, .iconst (0), 14, 0, [], 0, 0),
  (14, .iastore, 15, 0, [], 0, 0),
  (15, .iinc 1 (1), 18, 0, [1], 1, 0),
  (18, .goto (-16), 21, 0, [2], 0, 0),
  (21, .iconst (1), 22, 0, [], 1, 0),
  (22, .istore_n 1, 23, 0, [1], 0, 0),
  (23, .iload_n 1, 24, 0, [1], 0, 0),
  (24, .iconst (1), 25, 0, [], 1, 0),
  (25, .aload_n 0, 26, 0, [0], 0, 0),
  (26, .getfield 304, 29, 1444, [0, 9, 31], 0, 0),
  (29, .ishl, 30, 0, [], 0, 0),
  (30, .if_icmp .ge (170), 33, 0, [200], 0, 0),
  (33, .aload_n 0, 34, 0, [0], 0, 0),
  (34, .iload_n 1, 35, 0, [1], 0, 0),
  (35, .invokevirtual 380, 38, 1841, [1259, 2, 0, 9, 1843, 90, 138, 1844], 0, 0),
  (38, .istore_n 2, 39, 0, [2], 0, 0),
  (39, .iconst (-1), 40, 0, [], -1, 0),
  (40, .istore_n 3, 41, 0, [3], 0, 0),
  (41, .iconst (0), 42, 0, [], 0, 0),
  (42, .istore 4, 44, 0, [4], 0, 0),
  (44, .iconst (0), 45, 0, [], 0, 0),
  (45, .istore 5, 47, 0, [5], 0, 0),
  (47, .iload 5, 49, 0, [5], 0, 0),
  (49, .aload_n 0, 50, 0, [0], 0, 0),
  (50, .getfield 304, 53, 1444, [0, 9, 31], 0, 0),
  (53, .if_icmp .ge (71), 56, 0, [124], 0, 0),
  (56, .iload_n 1, 57, 0, [1], 0, 0),
  (57, .iload 5, 59, 0, [5], 0, 0),
  (59, .invokestatic 242, 62, 1666, [1205, 2, 0, 1667, 138, 1668], 0, 0),
  (62, .ifCond .ne (6), 65, 0, [68], 0, 0),
  (65, .goto (53), 68, 0, [118], 0, 0),
  (68, .aload_n 0, 69, 0, [0], 0, 0),
  (69, .iload_n 2, 70, 0, [2], 0, 0),
  (70, .iload 5, 72, 0, [5], 0, 0),
  (72, .invokevirtual 357, 75, 1783, [1249, 3, 0, 9, 1785, 80, 138, 1786], 0, 0),
  (75, .aload_n 0, 76, 0, [0], 0, 0),
  (76, .getfield 72, 79, 1461, [0, 9, 48], 0, 0),
  (79, .bipush (7), 81, 0, [], 7, 0),
  (81, .iload_n 1, 82, 0, [1], 0, 0),
  (82, .iconst (1), 83, 0, [], 1, 0),
  (83, .iload 5, 85, 0, [5], 0, 0),
  (85, .ishl, 86, 0, [], 0, 0),
  (86, .iconst (-1), 87, 0, [], -1, 0),
  (87, .ixor, 88, 0, [], 0, 0),
  (88, .iand, 89, 0, [], 0, 0),
  (89, .imul, 90, 0, [], 0, 0),
  (90, .iload_n 2, 91, 0, [2], 0, 0),
  (91, .iadd, 92, 0, [], 0, 0),
  (92, .iaload, 93, 0, [], 0, 0),
  (93, .iadd, 94, 0, [], 0, 0),
  (94, .istore 6, 96, 0, [6], 0, 0),
  (96, .iload_n 3, 97, 0, [3], 0, 0)]
def pt_q1260_1 : List pm_Q := [(97, .iconst (-1), 98, 0, [], -1, 0),
  (98, .if_icmp .eq (13), 101, 0, [111], 0, 0),
  (101, .iload 6, 103, 0, [6], 0, 0),
  (103, .iload 4, 105, 0, [4], 0, 0),
  (105, .if_icmp .gt (6), 108, 0, [111], 0, 0),
  (108, .goto (10), 111, 0, [118, 6], 0, 0),
  (111, .iload 5, 113, 0, [5], 0, 0),
  (113, .istore_n 3, 114, 0, [3], 0, 0),
  (114, .iload 6, 116, 0, [6], 0, 0),
  (116, .istore 4, 118, 0, [4], 0, 0),
  (118, .iinc 5 (1), 121, 0, [5], 1, 0),
  (121, .goto (-74), 124, 0, [47, 6], 0, 0),
  (124, .aload_n 0, 125, 0, [0], 0, 0),
  (125, .getfield 75, 128, 1462, [0, 9, 49], 0, 0),
  (128, .iload_n 1, 129, 0, [1], 0, 0),
  (129, .iload_n 3, 130, 0, [3], 0, 0),
  (130, .iastore, 131, 0, [], 0, 0),
  (131, .iconst (0), 132, 0, [], 0, 0),
  (132, .istore 5, 134, 0, [5], 0, 0),
  (134, .iload 5, 136, 0, [5], 0, 0),
  (136, .bipush (7), 138, 0, [], 7, 0),
  (138, .if_icmp .ge (56), 141, 0, [194], 0, 0),
  (141, .aload_n 0, 142, 0, [0], 0, 0),
  (142, .getfield 72, 145, 1461, [0, 9, 48], 0, 0),
  (145, .bipush (7), 147, 0, [], 7, 0),
  (147, .iload_n 1, 148, 0, [1], 0, 0),
  (148, .imul, 149, 0, [], 0, 0),
  (149, .iload 5, 151, 0, [5], 0, 0),
  (151, .iadd, 152, 0, [], 0, 0),
  (152, .aload_n 0, 153, 0, [0], 0, 0),
  (153, .getfield 72, 156, 1461, [0, 9, 48], 0, 0),
  (156, .bipush (7), 158, 0, [], 7, 0),
  (158, .iload_n 1, 159, 0, [1], 0, 0),
  (159, .iconst (1), 160, 0, [], 1, 0),
  (160, .iload_n 3, 161, 0, [3], 0, 0),
  (161, .ishl, 162, 0, [], 0, 0),
  (162, .iconst (-1), 163, 0, [], -1, 0),
  (163, .ixor, 164, 0, [], 0, 0),
  (164, .iand, 165, 0, [], 0, 0),
  (165, .imul, 166, 0, [], 0, 0),
  (166, .iload 5, 168, 0, [5], 0, 0),
  (168, .iadd, 169, 0, [], 0, 0),
  (169, .iaload, 170, 0, [], 0, 0),
  (170, .iload 5, 172, 0, [5], 0, 0),
  (172, .iload_n 2, 173, 0, [2], 0, 0),
  (173, .if_icmp .ne (12), 176, 0, [185], 0, 0),
  (176, .aload_n 0, 177, 0, [0], 0, 0),
  (177, .iload_n 2, 178, 0, [2], 0, 0),
  (178, .iload_n 3, 179, 0, [3], 0, 0),
  (179, .invokevirtual 357, 182, 1783, [1249, 3, 0, 9, 1785, 80, 138, 1786], 0, 0),
  (182, .goto (4), 185, 0, [186], 0, 0),
  (185, .iconst (0), 186, 0, [], 0, 0),
  (186, .iadd, 187, 0, [], 0, 0),
  (187, .iastore, 188, 0, [], 0, 0),
  (188, .iinc 5 (1), 191, 0, [5], 1, 0),
  (191, .goto (-57), 194, 0, [134], 0, 0),
  (194, .iinc 1 (1), 197, 0, [1], 1, 0),
  (197, .goto (-174), 200, 0, [23, 2, 3, 4, 5], 0, 0),
  (200, .return_, 201, 0, [], 0, 0)]
def pt_m1260 : pm_Me := (⟨"TurnCabinetModel", "foresees", "()V"⟩, prog_12_method_60_code, 7, none, 2, 43, pt_q1260_0 ++ pt_q1260_1)
-- TurnCabinetModel.turnAt(I)I
def pt_q1259_0 : List pm_Q := [(0, .aload_n 0, 1, 0, [0], 0, 0),
  (1, .getfield 66, 4, 1459, [0, 9, 46], 0, 0),
  (4, .aload_n 0, 5, 0, [0], 0, 0),
  (5, .getfield 304, 8, 1444, [0, 9, 31], 0, 0),
  (8, .iload_n 1, 9, 0, [1], 0, 0),
  (9, .invokestatic 377, 12, 1845, [1206, 1, 0, 1846, 138, 1847], 0, 0),
  (12, .isub, 13, 0, [], 0, 0),
  (13, .iaload, 14, 0, [], 0, 0),
  (14, .ireturn, 15, 0, [], 0, 0)]
def pt_m1259 : pm_Me := (⟨"TurnCabinetModel", "turnAt", "(I)I"⟩, prog_12_method_59_code, 2, some .int, 1, 22, pt_q1259_0)
-- TurnCabinetModel.ones(I)I
def pt_q1206_0 : List pm_Q := [(0, .iconst (0), 1, 0, [], 0, 0),
  (1, .istore_n 1, 2, 0, [1], 0, 0),
  (2, .iconst (0), 3, 0, [], 0, 0),
  (3, .istore_n 2, 4, 0, [2], 0, 0),
  (4, .iload_n 2, 5, 0, [2], 0, 0),
  (5, .bipush (16), 7, 0, [], 16, 0),
  (7, .if_icmp .ge (17), 10, 0, [24], 0, 0),
  (10, .iload_n 1, 11, 0, [1], 0, 0),
  (11, .iload_n 0, 12, 0, [0], 0, 0),
  (12, .iload_n 2, 13, 0, [2], 0, 0),
  (13, .ishr, 14, 0, [], 0, 0),
  (14, .iconst (1), 15, 0, [], 1, 0),
  (15, .iand, 16, 0, [], 0, 0),
  (16, .iadd, 17, 0, [], 0, 0),
  (17, .istore_n 1, 18, 0, [1], 0, 0),
  (18, .iinc 2 (1), 21, 0, [2], 1, 0),
  (21, .goto (-17), 24, 0, [4], 0, 0),
  (24, .iload_n 1, 25, 0, [1], 0, 0),
  (25, .ireturn, 26, 0, [], 0, 0)]
def pt_m1206 : pm_Me := (⟨"TurnCabinetModel", "ones", "(I)I"⟩, prog_12_method_6_code, 3, some .int, 0, 0, pt_q1206_0)
-- TurnCabinetModel.all()I
def pt_q1261_0 : List pm_Q := [(0, .iconst (1), 1, 0, [], 1, 0),
  (1, .aload_n 0, 2, 0, [0], 0, 0),
  (2, .getfield 304, 5, 1444, [0, 9, 31], 0, 0),
  (5, .ishl, 6, 0, [], 0, 0),
  (6, .iconst (1), 7, 0, [], 1, 0),
  (7, .isub, 8, 0, [], 0, 0),
  (8, .ireturn, 9, 0, [], 0, 0)]
def pt_m1261 : pm_Me := (⟨"TurnCabinetModel", "all", "()I"⟩, prog_12_method_61_code, 1, some .int, 0, 0, pt_q1261_0)
-- TurnCabinetModel.bestLeft(II)I
def pt_q1262_0 : List pm_Q := [(0, .iconst (-1), 1, 0, [], -1, 0),
  (1, .istore_n 3, 2, 0, [3], 0, 0),
  (2, .iconst (0), 3, 0, [], 0, 0),
  (3, .istore 4, 5, 0, [4], 0, 0),
  (5, .iload 4, 7, 0, [4], 0, 0),
  (7, .aload_n 0, 8, 0, [0], 0, 0),
  (8, .getfield 304, 11, 1444, [0, 9, 31], 0, 0),
  (11, .if_icmp .ge (42), 14, 0, [53], 0, 0),
  (14, .iload_n 2, 15, 0, [2], 0, 0),
  (15, .iload 4, 17, 0, [4], 0, 0),
  (17, .invokestatic 242, 20, 1666, [1205, 2, 0, 1667, 138, 1668], 0, 0),
  (20, .ifCond .eq (27), 23, 0, [47], 0, 0),
  (23, .iload_n 3, 24, 0, [3], 0, 0),
  (24, .iconst (-1), 25, 0, [], -1, 0),
  (25, .if_icmp .eq (19), 28, 0, [44], 0, 0),
  (28, .aload_n 0, 29, 0, [0], 0, 0),
  (29, .iload_n 1, 30, 0, [1], 0, 0),
  (30, .iload 4, 32, 0, [4], 0, 0),
  (32, .invokevirtual 357, 35, 1783, [1249, 3, 0, 9, 1785, 80, 138, 1786], 0, 0),
  (35, .aload_n 0, 36, 0, [0], 0, 0),
  (36, .iload_n 1, 37, 0, [1], 0, 0),
  (37, .iload_n 3, 38, 0, [3], 0, 0),
  (38, .invokevirtual 357, 41, 1783, [1249, 3, 0, 9, 1785, 80, 138, 1786], 0, 0),
  (41, .if_icmp .le (6), 44, 0, [47], 0, 0),
  (44, .iload 4, 46, 0, [4], 0, 0),
  (46, .istore_n 3, 47, 0, [3], 0, 0),
  (47, .iinc 4 (1), 50, 0, [4], 1, 0),
  (50, .goto (-45), 53, 0, [5], 0, 0),
  (53, .iload_n 3, 54, 0, [3], 0, 0),
  (54, .ireturn, 55, 0, [], 0, 0)]
def pt_m1262 : pm_Me := (⟨"TurnCabinetModel", "bestLeft", "(II)I"⟩, prog_12_method_62_code, 5, some .int, 1, 22, pt_q1262_0)
-- TurnCabinetModel.swapsOne()Z
def pt_q1265_0 : List pm_Q := [(0, .iconst (0), 1, 0, [], 0, 0),
  (1, .istore_n 1, 2, 0, [1], 0, 0),
  (2, .iload_n 1, 3, 0, [1], 0, 0),
  (3, .aload_n 0, 4, 0, [0], 0, 0),
  (4, .getfield 304, 7, 1444, [0, 9, 31], 0, 0),
  (7, .if_icmp .ge (47), 10, 0, [54], 0, 0),
  (10, .iload_n 1, 11, 0, [1], 0, 0),
  (11, .iconst (1), 12, 0, [], 1, 0),
  (12, .iadd, 13, 0, [], 0, 0),
  (13, .istore_n 2, 14, 0, [2], 0, 0),
  (14, .iload_n 2, 15, 0, [2], 0, 0),
  (15, .aload_n 0, 16, 0, [0], 0, 0),
  (16, .getfield 304, 19, 1444, [0, 9, 31], 0, 0),
  (19, .if_icmp .ge (29), 22, 0, [48], 0, 0),
  (22, .aload_n 0, 23, 0, [0], 0, 0),
  (23, .iload_n 1, 24, 0, [1], 0, 0),
  (24, .iload_n 2, 25, 0, [2], 0, 0),
  (25, .invokevirtual 383, 28, 1860, [1263, 3, 0, 9, 1862, 94, 138, 1863], 0, 0),
  (28, .ifCond .ne (6), 31, 0, [34], 0, 0),
  (31, .goto (11), 34, 0, [42], 0, 0),
  (34, .aload_n 0, 35, 0, [0], 0, 0),
  (35, .iload_n 1, 36, 0, [1], 0, 0),
  (36, .iload_n 2, 37, 0, [2], 0, 0),
  (37, .invokevirtual 386, 40, 1864, [1264, 3, 0, 9, 1866, 95, 138, 1867], 0, 0),
  (40, .iconst (1), 41, 0, [], 1, 0),
  (41, .ireturn, 42, 0, [], 0, 0),
  (42, .iinc 2 (1), 45, 0, [2], 1, 0),
  (45, .goto (-31), 48, 0, [14], 0, 0),
  (48, .iinc 1 (1), 51, 0, [1], 1, 0),
  (51, .goto (-49), 54, 0, [2, 2], 0, 0),
  (54, .iconst (0), 55, 0, [], 0, 0),
  (55, .ireturn, 56, 0, [], 0, 0)]
def pt_m1265 : pm_Me := (⟨"TurnCabinetModel", "swapsOne", "()Z"⟩, prog_12_method_65_code, 3, some .boolean, 2, 46, pt_q1265_0)
-- TurnCabinetModel.wouldSwap(II)Z
def pt_q1263_0 : List pm_Q := [(0, .aload_n 0, 1, 0, [0], 0, 0),
  (1, .getfield 78, 4, 1463, [0, 9, 50], 0, 0),
  (4, .iload_n 1, 5, 0, [1], 0, 0),
  (5, .iaload, 6, 0, [], 0, 0),
  (6, .istore_n 3, 7, 0, [3], 0, 0),
  (7, .aload_n 0, 8, 0, [0], 0, 0),
  (8, .getfield 78, 11, 1463, [0, 9, 50], 0, 0),
  (11, .iload_n 2, 12, 0, [2], 0, 0),
  (12, .iaload, 13, 0, [], 0, 0),
  (13, .istore 4, 15, 0, [4], 0, 0),
  (15, .iload_n 3, 16, 0, [3], 0, 0),
  (16, .iload 4, 18, 0, [4], 0, 0),
  (18, .if_icmp .eq (39), 21, 0, [57], 0, 0),
  (21, .aload_n 0, 22, 0, [0], 0, 0),
  (22, .iload_n 3, 23, 0, [3], 0, 0),
  (23, .iload_n 2, 24, 0, [2], 0, 0),
  (24, .invokevirtual 357, 27, 1783, [1249, 3, 0, 9, 1785, 80, 138, 1786], 0, 0),
  (27, .aload_n 0, 28, 0, [0], 0, 0),
  (28, .iload_n 3, 29, 0, [3], 0, 0),
  (29, .iload_n 1, 30, 0, [1], 0, 0),
  (30, .invokevirtual 357, 33, 1783, [1249, 3, 0, 9, 1785, 80, 138, 1786], 0, 0),
  (33, .if_icmp .le (24), 36, 0, [57], 0, 0),
  (36, .aload_n 0, 37, 0, [0], 0, 0),
  (37, .iload 4, 39, 0, [4], 0, 0),
  (39, .iload_n 1, 40, 0, [1], 0, 0),
  (40, .invokevirtual 357, 43, 1783, [1249, 3, 0, 9, 1785, 80, 138, 1786], 0, 0),
  (43, .aload_n 0, 44, 0, [0], 0, 0),
  (44, .iload 4, 46, 0, [4], 0, 0),
  (46, .iload_n 2, 47, 0, [2], 0, 0),
  (47, .invokevirtual 357, 50, 1783, [1249, 3, 0, 9, 1785, 80, 138, 1786], 0, 0),
  (50, .if_icmp .le (7), 53, 0, [57], 0, 0),
  (53, .iconst (1), 54, 0, [], 1, 0),
  (54, .goto (4), 57, 0, [58], 0, 0),
  (57, .iconst (0), 58, 0, [], 0, 0),
  (58, .ireturn, 59, 0, [], 0, 0)]
def pt_m1263 : pm_Me := (⟨"TurnCabinetModel", "wouldSwap", "(II)Z"⟩, prog_12_method_63_code, 5, some .boolean, 1, 22, pt_q1263_0)
-- TurnCabinetModel.exchanges(II)V
def pt_q1264_0 : List pm_Q := [(0, .aload_n 0, 1, 0, [0], 0, 0),
  (1, .getfield 78, 4, 1463, [0, 9, 50], 0, 0),
  (4, .iload_n 1, 5, 0, [1], 0, 0),
  (5, .iaload, 6, 0, [], 0, 0),
  (6, .istore_n 3, 7, 0, [3], 0, 0),
  (7, .aload_n 0, 8, 0, [0], 0, 0),
  (8, .getfield 78, 11, 1463, [0, 9, 50], 0, 0),
  (11, .iload_n 1, 12, 0, [1], 0, 0),
  (12, .aload_n 0, 13, 0, [0], 0, 0),
  (13, .getfield 78, 16, 1463, [0, 9, 50], 0, 0),
  (16, .iload_n 2, 17, 0, [2], 0, 0),
  (17, .iaload, 18, 0, [], 0, 0),
  (18, .iastore, 19, 0, [], 0, 0),
  (19, .aload_n 0, 20, 0, [0], 0, 0),
  (20, .getfield 78, 23, 1463, [0, 9, 50], 0, 0),
  (23, .iload_n 2, 24, 0, [2], 0, 0),
  (24, .iload_n 3, 25, 0, [3], 0, 0),
  (25, .iastore, 26, 0, [], 0, 0),
  (26, .return_, 27, 0, [], 0, 0)]
def pt_m1264 : pm_Me := (⟨"TurnCabinetModel", "exchanges", "(II)V"⟩, prog_12_method_64_code, 4, none, 0, 0, pt_q1264_0)
-- TurnCabinetModel.has(III)I
def pt_q1269_0 : List pm_Q := [(0, .aload_n 0, 1, 0, [0], 0, 0),
  (1, .iload_n 1, 2, 0, [1], 0, 0),
  (2, .invokevirtual 369, 5, 1807, [1248, 2, 0, 9, 1809, 84, 138, 1810], 0, 0),
  (5, .ifCond .eq (23), 8, 0, [28], 0, 0),
  (8, .iload_n 2, 9, 0, [2], 0, 0),
  (9, .i2l, 10, 0, [], 0, 0),
  (10, .lconst 0, 11, 0, [], 0, 0),
  (11, .ldc2_w 405, 14, 1832, [], 0, 2),
  (14, .invokestatic 125, 17, 1624, [1202, 3, 0, 1625, 138, 1626], 0, 0),
  (17, .ifCond .eq (11), 20, 0, [28], 0, 0),
  (20, .aload_n 0, 21, 0, [0], 0, 0),
  (21, .iload_n 3, 22, 0, [3], 0, 0),
  (22, .invokevirtual 348, 25, 1760, [1246, 2, 0, 9, 1762, 76, 138, 1763], 0, 0),
  (25, .ifCond .ne (5), 28, 0, [30], 0, 0),
  (28, .iconst (-1), 29, 0, [], -1, 0),
  (29, .ireturn, 30, 0, [], 0, 0),
  (30, .aload_n 0, 31, 0, [0], 0, 0),
  (31, .iload_n 1, 32, 0, [1], 0, 0),
  (32, .iload_n 2, 33, 0, [2], 0, 0),
  (33, .invokevirtual 407, 36, 1833, [1266, 3, 0, 9, 1835, 88, 138, 1836], 0, 0),
  (36, .aload_n 0, 37, 0, [0], 0, 0),
  (37, .iload_n 3, 38, 0, [3], 0, 0),
  (38, .invokevirtual 410, 41, 1872, [1267, 2, 0, 9, 1874, 96, 138, 1875], 0, 0),
  (41, .ireturn, 42, 0, [], 0, 0)]
def pt_m1269 : pm_Me := (⟨"TurnCabinetModel", "has", "(III)I"⟩, prog_12_method_69_code, 4, some .int, 5, 115, pt_q1269_0)
-- TurnCabinetModel.ownedBy(I)I
def pt_q1267_0 : List pm_Q := [(0, .iconst (0), 1, 0, [], 0, 0),
  (1, .istore_n 2, 2, 0, [2], 0, 0),
  (2, .iconst (0), 3, 0, [], 0, 0),
  (3, .istore_n 3, 4, 0, [3], 0, 0),
  (4, .iload_n 3, 5, 0, [3], 0, 0),
  (5, .aload_n 0, 6, 0, [0], 0, 0),
  (6, .getfield 304, 9, 1444, [0, 9, 31], 0, 0),
  (9, .if_icmp .ge (32), 12, 0, [41], 0, 0),
  (12, .iload_n 2, 13, 0, [2], 0, 0),
  (13, .aload_n 0, 14, 0, [0], 0, 0),
  (14, .getfield 78, 17, 1463, [0, 9, 50], 0, 0),
  (17, .iload_n 3, 18, 0, [3], 0, 0),
  (18, .iaload, 19, 0, [], 0, 0),
  (19, .iload_n 1, 20, 0, [1], 0, 0),
  (20, .if_icmp .ne (12), 23, 0, [32], 0, 0),
  (23, .aload_n 0, 24, 0, [0], 0, 0),
  (24, .iload_n 1, 25, 0, [1], 0, 0),
  (25, .iload_n 3, 26, 0, [3], 0, 0),
  (26, .invokevirtual 357, 29, 1783, [1249, 3, 0, 9, 1785, 80, 138, 1786], 0, 0),
  (29, .goto (4), 32, 0, [33], 0, 0),
  (32, .iconst (0), 33, 0, [], 0, 0),
  (33, .iadd, 34, 0, [], 0, 0),
  (34, .istore_n 2, 35, 0, [2], 0, 0),
  (35, .iinc 3 (1), 38, 0, [3], 1, 0),
  (38, .goto (-34), 41, 0, [4], 0, 0),
  (41, .iload_n 2, 42, 0, [2], 0, 0),
  (42, .ireturn, 43, 0, [], 0, 0)]
def pt_m1267 : pm_Me := (⟨"TurnCabinetModel", "ownedBy", "(I)I"⟩, prog_12_method_67_code, 4, some .int, 1, 22, pt_q1267_0)
-- TurnCabinetModel.policy(III)I
def pt_q1270_0 : List pm_Q := [(0, .aload_n 0, 1, 0, [0], 0, 0),
  (1, .iload_n 1, 2, 0, [1], 0, 0),
  (2, .invokevirtual 369, 5, 1807, [1248, 2, 0, 9, 1809, 84, 138, 1810], 0, 0),
  (5, .ifCond .eq (23), 8, 0, [28], 0, 0),
  (8, .iload_n 2, 9, 0, [2], 0, 0),
  (9, .i2l, 10, 0, [], 0, 0),
  (10, .lconst 0, 11, 0, [], 0, 0),
  (11, .ldc2_w 405, 14, 1832, [], 0, 2),
  (14, .invokestatic 125, 17, 1624, [1202, 3, 0, 1625, 138, 1626], 0, 0),
  (17, .ifCond .eq (11), 20, 0, [28], 0, 0),
  (20, .aload_n 0, 21, 0, [0], 0, 0),
  (21, .iload_n 3, 22, 0, [3], 0, 0),
  (22, .invokevirtual 354, 25, 1779, [1247, 2, 0, 9, 1781, 79, 138, 1782], 0, 0),
  (25, .ifCond .ne (5), 28, 0, [30], 0, 0),
  (28, .iconst (-1), 29, 0, [], -1, 0),
  (29, .ireturn, 30, 0, [], 0, 0),
  (30, .aload_n 0, 31, 0, [0], 0, 0),
  (31, .iload_n 1, 32, 0, [1], 0, 0),
  (32, .iload_n 2, 33, 0, [2], 0, 0),
  (33, .invokevirtual 407, 36, 1833, [1266, 3, 0, 9, 1835, 88, 138, 1836], 0, 0),
  (36, .aload_n 0, 37, 0, [0], 0, 0),
  (37, .getfield 57, 40, 1455, [0, 9, 42], 0, 0),
  (40, .bipush (8), 42, 0, [], 8, 0),
  (42, .aload_n 0, 43, 0, [0], 0, 0),
  (43, .getfield 78, 46, 1463, [0, 9, 50], 0, 0),
  (46, .iload_n 3, 47, 0, [3], 0, 0),
  (47, .iaload, 48, 0, [], 0, 0),
  (48, .imul, 49, 0, [], 0, 0),
  (49, .iload_n 3, 50, 0, [3], 0, 0),
  (50, .iadd, 51, 0, [], 0, 0),
  (51, .iaload, 52, 0, [], 0, 0),
  (52, .ireturn, 53, 0, [], 0, 0)]
def pt_m1270 : pm_Me := (⟨"TurnCabinetModel", "policy", "(III)I"⟩, prog_12_method_70_code, 4, some .int, 5, 115, pt_q1270_0)
-- TurnCabinetModel.grief(III)I
def pt_q1272_0 : List pm_Q := [(0, .aload_n 0, 1, 0, [0], 0, 0),
  (1, .iload_n 1, 2, 0, [1], 0, 0),
  (2, .invokevirtual 369, 5, 1807, [1248, 2, 0, 9, 1809, 84, 138, 1810], 0, 0),
  (5, .ifCond .eq (23), 8, 0, [28], 0, 0),
  (8, .iload_n 2, 9, 0, [2], 0, 0),
  (9, .i2l, 10, 0, [], 0, 0),
  (10, .lconst 0, 11, 0, [], 0, 0),
  (11, .ldc2_w 405, 14, 1832, [], 0, 2),
  (14, .invokestatic 125, 17, 1624, [1202, 3, 0, 1625, 138, 1626], 0, 0),
  (17, .ifCond .eq (11), 20, 0, [28], 0, 0),
  (20, .aload_n 0, 21, 0, [0], 0, 0),
  (21, .iload_n 3, 22, 0, [3], 0, 0),
  (22, .invokevirtual 348, 25, 1760, [1246, 2, 0, 9, 1762, 76, 138, 1763], 0, 0),
  (25, .ifCond .ne (5), 28, 0, [30], 0, 0),
  (28, .iconst (-1), 29, 0, [], -1, 0),
  (29, .ireturn, 30, 0, [], 0, 0),
  (30, .aload_n 0, 31, 0, [0], 0, 0),
  (31, .iload_n 1, 32, 0, [1], 0, 0),
  (32, .iload_n 2, 33, 0, [2], 0, 0),
  (33, .invokevirtual 407, 36, 1833, [1266, 3, 0, 9, 1835, 88, 138, 1836], 0, 0),
  (36, .aload_n 0, 37, 0, [0], 0, 0),
  (37, .iload_n 3, 38, 0, [3], 0, 0),
  (38, .invokevirtual 413, 41, 1884, [1271, 2, 0, 9, 1886, 97, 138, 1887], 0, 0),
  (41, .ireturn, 42, 0, [], 0, 0)]
def pt_m1272 : pm_Me := (⟨"TurnCabinetModel", "grief", "(III)I"⟩, prog_12_method_72_code, 4, some .int, 5, 115, pt_q1272_0)
-- TurnCabinetModel.griefOf(I)I
def pt_q1271_0 : List pm_Q := [(0, .iconst (0), 1, 0, [], 0, 0),
  (1, .istore_n 2, 2, 0, [2], 0, 0),
  (2, .iconst (0), 3, 0, [], 0, 0),
  (3, .istore_n 3, 4, 0, [3], 0, 0),
  (4, .iload_n 3, 5, 0, [3], 0, 0),
  (5, .aload_n 0, 6, 0, [0], 0, 0),
  (6, .getfield 304, 9, 1444, [0, 9, 31], 0, 0),
  (9, .if_icmp .ge (62), 12, 0, [71], 0, 0),
  (12, .aload_n 0, 13, 0, [0], 0, 0),
  (13, .getfield 57, 16, 1455, [0, 9, 42], 0, 0),
  (16, .bipush (8), 18, 0, [], 8, 0),
  (18, .iload_n 1, 19, 0, [1], 0, 0),
  (19, .imul, 20, 0, [], 0, 0),
  (20, .iload_n 3, 21, 0, [3], 0, 0),
  (21, .iadd, 22, 0, [], 0, 0),
  (22, .iaload, 23, 0, [], 0, 0),
  (23, .aload_n 0, 24, 0, [0], 0, 0),
  (24, .getfield 57, 27, 1455, [0, 9, 42], 0, 0),
  (27, .bipush (8), 29, 0, [], 8, 0),
  (29, .aload_n 0, 30, 0, [0], 0, 0),
  (30, .getfield 78, 33, 1463, [0, 9, 50], 0, 0),
  (33, .iload_n 3, 34, 0, [3], 0, 0),
  (34, .iaload, 35, 0, [], 0, 0),
  (35, .imul, 36, 0, [], 0, 0),
  (36, .iload_n 3, 37, 0, [3], 0, 0),
  (37, .iadd, 38, 0, [], 0, 0),
  (38, .iaload, 39, 0, [], 0, 0),
  (39, .isub, 40, 0, [], 0, 0),
  (40, .istore 4, 42, 0, [4], 0, 0),
  (42, .iload_n 2, 43, 0, [2], 0, 0),
  (43, .iload 4, 45, 0, [4], 0, 0),
  (45, .ifCond .ge (9), 48, 0, [54], 0, 0),
  (48, .iload 4, 50, 0, [4], 0, 0),
  (50, .ineg, 51, 0, [], 0, 0),
  (51, .goto (5), 54, 0, [56], 0, 0),
  (54, .iload 4, 56, 0, [4], 0, 0),
  (56, .aload_n 0, 57, 0, [0], 0, 0),
  (57, .iload_n 1, 58, 0, [1], 0, 0),
  (58, .iload_n 3, 59, 0, [3], 0, 0),
  (59, .invokevirtual 357, 62, 1783, [1249, 3, 0, 9, 1785, 80, 138, 1786], 0, 0),
  (62, .imul, 63, 0, [], 0, 0),
  (63, .iadd, 64, 0, [], 0, 0),
  (64, .istore_n 2, 65, 0, [2], 0, 0),
  (65, .iinc 3 (1), 68, 0, [3], 1, 0),
  (68, .goto (-64), 71, 0, [4, 4], 0, 0),
  (71, .iload_n 2, 72, 0, [2], 0, 0),
  (72, .ireturn, 73, 0, [], 0, 0)]
def pt_m1271 : pm_Me := (⟨"TurnCabinetModel", "griefOf", "(I)I"⟩, prog_12_method_71_code, 5, some .int, 1, 22, pt_q1271_0)
-- TurnCabinetModel.envy(II)I
def pt_q1274_0 : List pm_Q := [(0, .aload_n 0, 1, 0, [0], 0, 0),
  (1, .iload_n 1, 2, 0, [1], 0, 0),
  (2, .invokevirtual 369, 5, 1807, [1248, 2, 0, 9, 1809, 84, 138, 1810], 0, 0),
  (5, .ifCond .eq (15), 8, 0, [20], 0, 0),
  (8, .iload_n 2, 9, 0, [2], 0, 0),
  (9, .i2l, 10, 0, [], 0, 0),
  (10, .lconst 0, 11, 0, [], 0, 0),
  (11, .ldc2_w 405, 14, 1832, [], 0, 2),
  (14, .invokestatic 125, 17, 1624, [1202, 3, 0, 1625, 138, 1626], 0, 0),
  (17, .ifCond .ne (5), 20, 0, [22], 0, 0),
  (20, .iconst (-1), 21, 0, [], -1, 0),
  (21, .ireturn, 22, 0, [], 0, 0),
  (22, .aload_n 0, 23, 0, [0], 0, 0),
  (23, .iload_n 1, 24, 0, [1], 0, 0),
  (24, .iload_n 2, 25, 0, [2], 0, 0),
  (25, .invokevirtual 407, 28, 1833, [1266, 3, 0, 9, 1835, 88, 138, 1836], 0, 0),
  (28, .iconst (0), 29, 0, [], 0, 0),
  (29, .istore_n 3, 30, 0, [3], 0, 0),
  (30, .iconst (0), 31, 0, [], 0, 0),
  (31, .istore 4, 33, 0, [4], 0, 0),
  (33, .iload 4, 35, 0, [4], 0, 0),
  (35, .aload_n 0, 36, 0, [0], 0, 0),
  (36, .getfield 301, 39, 1443, [0, 9, 30], 0, 0),
  (39, .if_icmp .ge (82), 42, 0, [121], 0, 0),
  (42, .iconst (0), 43, 0, [], 0, 0),
  (43, .istore 5, 45, 0, [5], 0, 0),
  (45, .iload 5, 47, 0, [5], 0, 0),
  (47, .aload_n 0, 48, 0, [0], 0, 0),
  (48, .getfield 301, 51, 1443, [0, 9, 30], 0, 0),
  (51, .if_icmp .ge (64), 54, 0, [115], 0, 0),
  (54, .iload_n 3, 55, 0, [3], 0, 0),
  (55, .iload 4, 57, 0, [4], 0, 0),
  (57, .iload 5, 59, 0, [5], 0, 0),
  (59, .if_icmp .eq (44), 62, 0, [103], 0, 0),
  (62, .iload_n 1, 63, 0, [1], 0, 0),
  (63, .iload 4, 65, 0, [4], 0, 0),
  (65, .invokestatic 242, 68, 1666, [1205, 2, 0, 1667, 138, 1668], 0, 0),
  (68, .ifCond .eq (35), 71, 0, [103], 0, 0),
  (71, .iload_n 1, 72, 0, [1], 0, 0),
  (72, .iload 5, 74, 0, [5], 0, 0),
  (74, .invokestatic 242, 77, 1666, [1205, 2, 0, 1667, 138, 1668], 0, 0),
  (77, .ifCond .eq (26), 80, 0, [103], 0, 0),
  (80, .aload_n 0, 81, 0, [0], 0, 0),
  (81, .iload 4, 83, 0, [4], 0, 0),
  (83, .iload 5, 85, 0, [5], 0, 0),
  (85, .invokevirtual 416, 88, 1892, [1273, 3, 0, 9, 1894, 98, 138, 1895], 0, 0),
  (88, .aload_n 0, 89, 0, [0], 0, 0),
  (89, .iload 4, 91, 0, [4], 0, 0),
  (91, .iload 4, 93, 0, [4], 0, 0),
  (93, .invokevirtual 416, 96, 1892, [1273, 3, 0, 9, 1894, 98, 138, 1895], 0, 0),
  (96, .if_icmp .le (7), 99, 0, [103], 0, 0),
  (99, .iconst (1), 100, 0, [], 1, 0),
  (100, .goto (4), 103, 0, [104], 0, 0),
  (103, .iconst (0), 104, 0, [], 0, 0),
  (104, .invokestatic 344, 107, 1772, [1203, 1, 0, 1773, 138, 1774], 0, 0),
  (107, .iadd, 108, 0, [], 0, 0),
  (108, .istore_n 3, 109, 0, [3], 0, 0),
  (109, .iinc 5 (1), 112, 0, [5], 1, 0),
  (112, .goto (-67), 115, 0, [45], 0, 0),
  (115, .iinc 4 (1), 118, 0, [4], 1, 0)]
def pt_q1274_1 : List pm_Q := [(118, .goto (-85), 121, 0, [33, 5], 0, 0),
  (121, .iload_n 3, 122, 0, [3], 0, 0),
  (122, .ireturn, 123, 0, [], 0, 0)]
def pt_m1274 : pm_Me := (⟨"TurnCabinetModel", "envy", "(II)I"⟩, prog_12_method_74_code, 6, some .int, 5, 115, pt_q1274_0 ++ pt_q1274_1)
-- TurnCabinetModel.worthTo(II)I
def pt_q1273_0 : List pm_Q := [(0, .iconst (0), 1, 0, [], 0, 0),
  (1, .istore_n 3, 2, 0, [3], 0, 0),
  (2, .iconst (0), 3, 0, [], 0, 0),
  (3, .istore 4, 5, 0, [4], 0, 0),
  (5, .iload 4, 7, 0, [4], 0, 0),
  (7, .aload_n 0, 8, 0, [0], 0, 0),
  (8, .getfield 304, 11, 1444, [0, 9, 31], 0, 0),
  (11, .if_icmp .ge (34), 14, 0, [45], 0, 0),
  (14, .iload_n 3, 15, 0, [3], 0, 0),
  (15, .aload_n 0, 16, 0, [0], 0, 0),
  (16, .getfield 78, 19, 1463, [0, 9, 50], 0, 0),
  (19, .iload 4, 21, 0, [4], 0, 0),
  (21, .iaload, 22, 0, [], 0, 0),
  (22, .iload_n 2, 23, 0, [2], 0, 0),
  (23, .if_icmp .ne (13), 26, 0, [36], 0, 0),
  (26, .aload_n 0, 27, 0, [0], 0, 0),
  (27, .iload_n 1, 28, 0, [1], 0, 0),
  (28, .iload 4, 30, 0, [4], 0, 0),
  (30, .invokevirtual 357, 33, 1783, [1249, 3, 0, 9, 1785, 80, 138, 1786], 0, 0),
  (33, .goto (4), 36, 0, [37], 0, 0),
  (36, .iconst (0), 37, 0, [], 0, 0),
  (37, .iadd, 38, 0, [], 0, 0),
  (38, .istore_n 3, 39, 0, [3], 0, 0),
  (39, .iinc 4 (1), 42, 0, [4], 1, 0),
  (42, .goto (-37), 45, 0, [5], 0, 0),
  (45, .iload_n 3, 46, 0, [3], 0, 0),
  (46, .ireturn, 47, 0, [], 0, 0)]
def pt_m1273 : pm_Me := (⟨"TurnCabinetModel", "worthTo", "(II)I"⟩, prog_12_method_73_code, 5, some .int, 1, 22, pt_q1273_0)
-- TurnCabinetModel.kept(II)I
def pt_q1277_0 : List pm_Q := [(0, .aload_n 0, 1, 0, [0], 0, 0),
  (1, .iload_n 1, 2, 0, [1], 0, 0),
  (2, .invokevirtual 369, 5, 1807, [1248, 2, 0, 9, 1809, 84, 138, 1810], 0, 0),
  (5, .ifCond .eq (13), 8, 0, [18], 0, 0),
  (8, .iload_n 2, 9, 0, [2], 0, 0),
  (9, .i2l, 10, 0, [], 0, 0),
  (10, .lconst 0, 11, 0, [], 0, 0),
  (11, .lconst 1, 12, 0, [], 0, 1),
  (12, .invokestatic 125, 15, 1624, [1202, 3, 0, 1625, 138, 1626], 0, 0),
  (15, .ifCond .ne (5), 18, 0, [20], 0, 0),
  (18, .iconst (-1), 19, 0, [], -1, 0),
  (19, .ireturn, 20, 0, [], 0, 0),
  (20, .aload_n 0, 21, 0, [0], 0, 0),
  (21, .getfield 304, 24, 1444, [0, 9, 31], 0, 0),
  (24, .ifCond .ne (5), 27, 0, [29], 0, 0),
  (27, .iconst (0), 28, 0, [], 0, 0),
  (28, .ireturn, 29, 0, [], 0, 0),
  (29, .aload_n 0, 30, 0, [0], 0, 0),
  (30, .iload_n 1, 31, 0, [1], 0, 0),
  (31, .invokevirtual 372, 34, 1811, [1256, 2, 0, 9, 1813, 85, 138, 1814], 0, 0),
  (34, .iconst (0), 35, 0, [], 0, 0),
  (35, .istore_n 3, 36, 0, [3], 0, 0),
  (36, .iload_n 3, 37, 0, [3], 0, 0),
  (37, .iconst (1), 38, 0, [], 1, 0),
  (38, .aload_n 0, 39, 0, [0], 0, 0),
  (39, .getfield 304, 42, 1444, [0, 9, 31], 0, 0),
  (42, .ishl, 43, 0, [], 0, 0),
  (43, .if_icmp .ge (16), 46, 0, [59], 0, 0),
  (46, .aload_n 0, 47, 0, [0], 0, 0),
  (47, .getfield 81, 50, 1465, [0, 9, 52], 0, 0),
  (50, .iload_n 3, 51, 0, [3], 0, 0),
  (51, .iconst (-1), 52, 0, [], -1, 0),
  (52, .iastore, 53, 0, [], 0, 0),
  (53, .iinc 3 (1), 56, 0, [3], 1, 0),
  (56, .goto (-20), 59, 0, [36], 0, 0),
  (59, .aload_n 0, 60, 0, [0], 0, 0),
  (60, .getfield 81, 63, 1465, [0, 9, 52], 0, 0),
  (63, .iconst (0), 64, 0, [], 0, 0),
  (64, .iload_n 2, 65, 0, [2], 0, 0),
  (65, .ifCond .ne (7), 68, 0, [72], 0, 0),
  (68, .iconst (0), 69, 0, [], 0, 0),
  (69, .goto (6), 72, 0, [75], 0, 0),
  (72, .sipush (999), 75, 0, [], 999, 0),
  (75, .iastore, 76, 0, [], 0, 0),
  (76, .iconst (0), 77, 0, [], 0, 0),
  (77, .istore_n 3, 78, 0, [3], 0, 0),
  (78, .iload_n 3, 79, 0, [3], 0, 0),
  (79, .aload_n 0, 80, 0, [0], 0, 0),
  (80, .getfield 301, 83, 1443, [0, 9, 30], 0, 0),
  (83, .if_icmp .ge (33), 86, 0, [116], 0, 0),
  (86, .aload_n 0, 87, 0, [0], 0, 0),
  (87, .getfield 69, 90, 1460, [0, 9, 47], 0, 0),
  (90, .iload_n 3, 91, 0, [3], 0, 0),
  (91, .iaload, 92, 0, [], 0, 0),
  (92, .ifCond .le (18), 95, 0, [110], 0, 0),
  (95, .aload_n 0, 96, 0, [0], 0, 0),
  (96, .iload_n 3, 97, 0, [3], 0, 0),
  (97, .iload_n 2, 98, 0, [2], 0, 0),
  (98, .iconst (1), 99, 0, [], 1, 0),
  (99, .if_icmp .ne (7), 102, 0, [106], 0, 0)]
def pt_q1277_1 : List pm_Q := [(102, .iconst (1), 103, 0, [], 1, 0),
  (103, .goto (4), 106, 0, [107], 0, 0),
  (106, .iconst (0), 107, 0, [], 0, 0),
  (107, .invokevirtual 422, 110, 1900, [1276, 3, 0, 9, 1902, 99, 138, 1903], 0, 0),
  (110, .iinc 3 (1), 113, 0, [3], 1, 0),
  (113, .goto (-35), 116, 0, [78], 0, 0),
  (116, .aload_n 0, 117, 0, [0], 0, 0),
  (117, .getfield 81, 120, 1465, [0, 9, 52], 0, 0),
  (120, .aload_n 0, 121, 0, [0], 0, 0),
  (121, .invokevirtual 396, 124, 1848, [1261, 1, 0, 9, 1850, 91, 138, 1851], 0, 0),
  (124, .iaload, 125, 0, [], 0, 0),
  (125, .ireturn, 126, 0, [], 0, 0)]
def pt_m1277 : pm_Me := (⟨"TurnCabinetModel", "kept", "(II)I"⟩, prog_12_method_77_code, 4, some .int, 4, 90, pt_q1277_0 ++ pt_q1277_1)
-- TurnCabinetModel.gives(IZ)V
def pt_q1276_0 : List pm_Q := [(0, .iconst (0), 1, 0, [], 0, 0),
  (1, .istore_n 3, 2, 0, [3], 0, 0),
  (2, .iload_n 3, 3, 0, [3], 0, 0),
  (3, .iconst (1), 4, 0, [], 1, 0),
  (4, .aload_n 0, 5, 0, [0], 0, 0),
  (5, .getfield 304, 8, 1444, [0, 9, 31], 0, 0),
  (8, .ishl, 9, 0, [], 0, 0),
  (9, .if_icmp .ge (16), 12, 0, [25], 0, 0),
  (12, .aload_n 0, 13, 0, [0], 0, 0),
  (13, .getfield 84, 16, 1466, [0, 9, 53], 0, 0),
  (16, .iload_n 3, 17, 0, [3], 0, 0),
  (17, .iconst (-1), 18, 0, [], -1, 0),
  (18, .iastore, 19, 0, [], 0, 0),
  (19, .iinc 3 (1), 22, 0, [3], 1, 0),
  (22, .goto (-20), 25, 0, [2], 0, 0),
  (25, .iconst (0), 26, 0, [], 0, 0),
  (26, .istore_n 3, 27, 0, [3], 0, 0),
  (27, .iload_n 3, 28, 0, [3], 0, 0),
  (28, .iconst (1), 29, 0, [], 1, 0),
  (29, .aload_n 0, 30, 0, [0], 0, 0),
  (30, .getfield 304, 33, 1444, [0, 9, 31], 0, 0),
  (33, .ishl, 34, 0, [], 0, 0),
  (34, .if_icmp .ge (138), 37, 0, [172], 0, 0),
  (37, .aload_n 0, 38, 0, [0], 0, 0),
  (38, .getfield 81, 41, 1465, [0, 9, 52], 0, 0),
  (41, .iload_n 3, 42, 0, [3], 0, 0),
  (42, .iaload, 43, 0, [], 0, 0),
  (43, .iconst (-1), 44, 0, [], -1, 0),
  (44, .if_icmp .ne (6), 47, 0, [50], 0, 0),
  (47, .goto (119), 50, 0, [166], 0, 0),
  (50, .iconst (0), 51, 0, [], 0, 0),
  (51, .istore 4, 53, 0, [4], 0, 0),
  (53, .iload 4, 55, 0, [4], 0, 0),
  (55, .iconst (1), 56, 0, [], 1, 0),
  (56, .aload_n 0, 57, 0, [0], 0, 0),
  (57, .getfield 304, 60, 1444, [0, 9, 31], 0, 0),
  (60, .ishl, 61, 0, [], 0, 0),
  (61, .if_icmp .ge (105), 64, 0, [166], 0, 0),
  (64, .iload 4, 66, 0, [4], 0, 0),
  (66, .iload_n 3, 67, 0, [3], 0, 0),
  (67, .iand, 68, 0, [], 0, 0),
  (68, .ifCond .ne (92), 71, 0, [160], 0, 0),
  (71, .iload 4, 73, 0, [4], 0, 0),
  (73, .invokestatic 377, 76, 1845, [1206, 1, 0, 1846, 138, 1847], 0, 0),
  (76, .aload_n 0, 77, 0, [0], 0, 0),
  (77, .getfield 69, 80, 1460, [0, 9, 47], 0, 0),
  (80, .iload_n 1, 81, 0, [1], 0, 0),
  (81, .iaload, 82, 0, [], 0, 0),
  (82, .if_icmp .eq (6), 85, 0, [88], 0, 0),
  (85, .goto (75), 88, 0, [160], 0, 0),
  (88, .aload_n 0, 89, 0, [0], 0, 0),
  (89, .iload_n 1, 90, 0, [1], 0, 0),
  (90, .iload 4, 92, 0, [4], 0, 0),
  (92, .invokevirtual 419, 95, 1904, [1275, 3, 0, 9, 1906, 100, 138, 1907], 0, 0),
  (95, .istore 5, 97, 0, [5], 0, 0),
  (97, .iload_n 2, 98, 0, [2], 0, 0),
  (98, .ifCond .eq (28), 101, 0, [126], 0, 0),
  (101, .iload 5, 103, 0, [5], 0, 0),
  (103, .aload_n 0, 104, 0, [0], 0, 0),
  (104, .getfield 81, 107, 1465, [0, 9, 52], 0, 0)]
def pt_q1276_1 : List pm_Q := [(107, .iload_n 3, 108, 0, [3], 0, 0),
  (108, .iaload, 109, 0, [], 0, 0),
  (109, .if_icmp .ge (8), 112, 0, [117], 0, 0),
  (112, .iload 5, 114, 0, [5], 0, 0),
  (114, .goto (21), 117, 0, [135], 0, 0),
  (117, .aload_n 0, 118, 0, [0], 0, 0),
  (118, .getfield 81, 121, 1465, [0, 9, 52], 0, 0),
  (121, .iload_n 3, 122, 0, [3], 0, 0),
  (122, .iaload, 123, 0, [], 0, 0),
  (123, .goto (12), 126, 0, [135], 0, 0),
  (126, .aload_n 0, 127, 0, [0], 0, 0),
  (127, .getfield 81, 130, 1465, [0, 9, 52], 0, 0),
  (130, .iload_n 3, 131, 0, [3], 0, 0),
  (131, .iaload, 132, 0, [], 0, 0),
  (132, .iload 5, 134, 0, [5], 0, 0),
  (134, .iadd, 135, 0, [], 0, 0),
  (135, .istore 6, 137, 0, [6], 0, 0),
  (137, .aload_n 0, 138, 0, [0], 0, 0),
  (138, .getfield 84, 141, 1466, [0, 9, 53], 0, 0),
  (141, .iload_n 3, 142, 0, [3], 0, 0),
  (142, .iload 4, 144, 0, [4], 0, 0),
  (144, .ior, 145, 0, [], 0, 0),
  (145, .aload_n 0, 146, 0, [0], 0, 0),
  (146, .getfield 84, 149, 1466, [0, 9, 53], 0, 0),
  (149, .iload_n 3, 150, 0, [3], 0, 0),
  (150, .iload 4, 152, 0, [4], 0, 0),
  (152, .ior, 153, 0, [], 0, 0),
  (153, .iaload, 154, 0, [], 0, 0),
  (154, .iload 6, 156, 0, [6], 0, 0),
  (156, .invokestatic 325, 159, 1410, [1204, 2, 0, 1411, 138, 1412], 0, 0),
  (159, .iastore, 160, 0, [], 0, 0),
  (160, .iinc 4 (1), 163, 0, [4], 1, 0),
  (163, .goto (-110), 166, 0, [53, 5, 6], 0, 0),
  (166, .iinc 3 (1), 169, 0, [3], 1, 0),
  (169, .goto (-142), 172, 0, [27, 4], 0, 0),
  (172, .iconst (0), 173, 0, [], 0, 0),
  (173, .istore_n 3, 174, 0, [3], 0, 0),
  (174, .iload_n 3, 175, 0, [3], 0, 0),
  (175, .iconst (1), 176, 0, [], 1, 0),
  (176, .aload_n 0, 177, 0, [0], 0, 0),
  (177, .getfield 304, 180, 1444, [0, 9, 31], 0, 0),
  (180, .ishl, 181, 0, [], 0, 0),
  (181, .if_icmp .ge (21), 184, 0, [202], 0, 0),
  (184, .aload_n 0, 185, 0, [0], 0, 0),
  (185, .getfield 81, 188, 1465, [0, 9, 52], 0, 0),
  (188, .iload_n 3, 189, 0, [3], 0, 0),
  (189, .aload_n 0, 190, 0, [0], 0, 0),
  (190, .getfield 84, 193, 1466, [0, 9, 53], 0, 0),
  (193, .iload_n 3, 194, 0, [3], 0, 0),
  (194, .iaload, 195, 0, [], 0, 0),
  (195, .iastore, 196, 0, [], 0, 0),
  (196, .iinc 3 (1), 199, 0, [3], 1, 0),
  (199, .goto (-25), 202, 0, [174], 0, 0),
  (202, .return_, 203, 0, [], 0, 0)]
def pt_m1276 : pm_Me := (⟨"TurnCabinetModel", "gives", "(IZ)V"⟩, prog_12_method_76_code, 7, none, 2, 46, pt_q1276_0 ++ pt_q1276_1)
-- TurnCabinetModel.worthAll(II)I
def pt_q1275_0 : List pm_Q := [(0, .iconst (0), 1, 0, [], 0, 0),
  (1, .istore_n 3, 2, 0, [3], 0, 0),
  (2, .iconst (0), 3, 0, [], 0, 0),
  (3, .istore 4, 5, 0, [4], 0, 0),
  (5, .iload 4, 7, 0, [4], 0, 0),
  (7, .aload_n 0, 8, 0, [0], 0, 0),
  (8, .getfield 304, 11, 1444, [0, 9, 31], 0, 0),
  (11, .if_icmp .ge (32), 14, 0, [43], 0, 0),
  (14, .iload_n 3, 15, 0, [3], 0, 0),
  (15, .iload_n 2, 16, 0, [2], 0, 0),
  (16, .iload 4, 18, 0, [4], 0, 0),
  (18, .invokestatic 242, 21, 1666, [1205, 2, 0, 1667, 138, 1668], 0, 0),
  (21, .ifCond .eq (13), 24, 0, [34], 0, 0),
  (24, .aload_n 0, 25, 0, [0], 0, 0),
  (25, .iload_n 1, 26, 0, [1], 0, 0),
  (26, .iload 4, 28, 0, [4], 0, 0),
  (28, .invokevirtual 357, 31, 1783, [1249, 3, 0, 9, 1785, 80, 138, 1786], 0, 0),
  (31, .goto (4), 34, 0, [35], 0, 0),
  (34, .iconst (0), 35, 0, [], 0, 0),
  (35, .iadd, 36, 0, [], 0, 0),
  (36, .istore_n 3, 37, 0, [3], 0, 0),
  (37, .iinc 4 (1), 40, 0, [4], 1, 0),
  (40, .goto (-35), 43, 0, [5], 0, 0),
  (43, .iload_n 3, 44, 0, [3], 0, 0),
  (44, .ireturn, 45, 0, [], 0, 0)]
def pt_m1275 : pm_Me := (⟨"TurnCabinetModel", "worthAll", "(II)I"⟩, prog_12_method_75_code, 5, some .int, 1, 22, pt_q1275_0)
-- TurnCabinetModel.swaps(I)I
def pt_q1278_0 : List pm_Q := [(0, .aload_n 0, 1, 0, [0], 0, 0),
  (1, .iload_n 1, 2, 0, [1], 0, 0),
  (2, .invokevirtual 369, 5, 1807, [1248, 2, 0, 9, 1809, 84, 138, 1810], 0, 0),
  (5, .ifCond .ne (5), 8, 0, [10], 0, 0),
  (8, .iconst (-1), 9, 0, [], -1, 0),
  (9, .ireturn, 10, 0, [], 0, 0),
  (10, .aload_n 0, 11, 0, [0], 0, 0),
  (11, .iload_n 1, 12, 0, [1], 0, 0),
  (12, .iconst (2), 13, 0, [], 2, 0),
  (13, .invokevirtual 407, 16, 1833, [1266, 3, 0, 9, 1835, 88, 138, 1836], 0, 0),
  (16, .aload_n 0, 17, 0, [0], 0, 0),
  (17, .getfield 390, 20, 1464, [0, 9, 51], 0, 0),
  (20, .ireturn, 21, 0, [], 0, 0)]
def pt_m1278 : pm_Me := (⟨"TurnCabinetModel", "swaps", "(I)I"⟩, prog_12_method_78_code, 2, some .int, 5, 115, pt_q1278_0)
-- TurnCabinetModel.instead(III)I
def pt_q1279_0 : List pm_Q := [(0, .aload_n 0, 1, 0, [0], 0, 0),
  (1, .iload_n 1, 2, 0, [1], 0, 0),
  (2, .invokevirtual 369, 5, 1807, [1248, 2, 0, 9, 1809, 84, 138, 1810], 0, 0),
  (5, .ifCond .eq (27), 8, 0, [32], 0, 0),
  (8, .iload_n 2, 9, 0, [2], 0, 0),
  (9, .i2l, 10, 0, [], 0, 0),
  (10, .lconst 0, 11, 0, [], 0, 0),
  (11, .aload_n 0, 12, 0, [0], 0, 0),
  (12, .getfield 304, 15, 1444, [0, 9, 31], 0, 0),
  (15, .iconst (1), 16, 0, [], 1, 0),
  (16, .isub, 17, 0, [], 0, 0),
  (17, .i2l, 18, 0, [], 0, 0),
  (18, .invokestatic 125, 21, 1624, [1202, 3, 0, 1625, 138, 1626], 0, 0),
  (21, .ifCond .eq (11), 24, 0, [32], 0, 0),
  (24, .aload_n 0, 25, 0, [0], 0, 0),
  (25, .iload_n 3, 26, 0, [3], 0, 0),
  (26, .invokevirtual 354, 29, 1779, [1247, 2, 0, 9, 1781, 79, 138, 1782], 0, 0),
  (29, .ifCond .ne (5), 32, 0, [34], 0, 0),
  (32, .iconst (-1), 33, 0, [], -1, 0),
  (33, .ireturn, 34, 0, [], 0, 0),
  (34, .aload_n 0, 35, 0, [0], 0, 0),
  (35, .iload_n 1, 36, 0, [1], 0, 0),
  (36, .invokevirtual 372, 39, 1811, [1256, 2, 0, 9, 1813, 85, 138, 1814], 0, 0),
  (39, .aload_n 0, 40, 0, [0], 0, 0),
  (40, .invokevirtual 393, 43, 1837, [1260, 1, 0, 9, 1839, 89, 138, 1840], 0, 0),
  (43, .aload_n 0, 44, 0, [0], 0, 0),
  (44, .invokevirtual 396, 47, 1848, [1261, 1, 0, 9, 1850, 91, 138, 1851], 0, 0),
  (47, .istore 4, 49, 0, [4], 0, 0),
  (49, .iconst (0), 50, 0, [], 0, 0),
  (50, .istore 5, 52, 0, [5], 0, 0),
  (52, .iconst (0), 53, 0, [], 0, 0),
  (53, .istore 6, 55, 0, [6], 0, 0),
  (55, .iload 6, 57, 0, [6], 0, 0),
  (57, .iload_n 2, 58, 0, [2], 0, 0),
  (58, .if_icmp .ge (64), 61, 0, [122], 0, 0),
  (61, .aload_n 0, 62, 0, [0], 0, 0),
  (62, .getfield 66, 65, 1459, [0, 9, 46], 0, 0),
  (65, .iload 6, 67, 0, [6], 0, 0),
  (67, .iaload, 68, 0, [], 0, 0),
  (68, .aload_n 0, 69, 0, [0], 0, 0),
  (69, .getfield 66, 72, 1459, [0, 9, 46], 0, 0),
  (72, .iload_n 2, 73, 0, [2], 0, 0),
  (73, .iaload, 74, 0, [], 0, 0),
  (74, .if_icmp .ne (26), 77, 0, [100], 0, 0),
  (77, .iload 5, 79, 0, [5], 0, 0),
  (79, .aload_n 0, 80, 0, [0], 0, 0),
  (80, .aload_n 0, 81, 0, [0], 0, 0),
  (81, .getfield 66, 84, 1459, [0, 9, 46], 0, 0),
  (84, .iload 6, 86, 0, [6], 0, 0),
  (86, .iaload, 87, 0, [], 0, 0),
  (87, .aload_n 0, 88, 0, [0], 0, 0),
  (88, .getfield 75, 91, 1462, [0, 9, 49], 0, 0),
  (91, .iload 4, 93, 0, [4], 0, 0),
  (93, .iaload, 94, 0, [], 0, 0),
  (94, .invokevirtual 357, 97, 1783, [1249, 3, 0, 9, 1785, 80, 138, 1786], 0, 0),
  (97, .iadd, 98, 0, [], 0, 0),
  (98, .istore 5, 100, 0, [5], 0, 0),
  (100, .iload 4, 102, 0, [4], 0, 0),
  (102, .iconst (1), 103, 0, [], 1, 0),
  (103, .aload_n 0, 104, 0, [0], 0, 0)]
def pt_q1279_1 : List pm_Q := [(104, .getfield 75, 107, 1462, [0, 9, 49], 0, 0),
  (107, .iload 4, 109, 0, [4], 0, 0),
  (109, .iaload, 110, 0, [], 0, 0),
  (110, .ishl, 111, 0, [], 0, 0),
  (111, .iconst (-1), 112, 0, [], -1, 0),
  (112, .ixor, 113, 0, [], 0, 0),
  (113, .iand, 114, 0, [], 0, 0),
  (114, .istore 4, 116, 0, [4], 0, 0),
  (116, .iinc 6 (1), 119, 0, [6], 1, 0),
  (119, .goto (-64), 122, 0, [55], 0, 0),
  (122, .iload 4, 124, 0, [4], 0, 0),
  (124, .iload_n 3, 125, 0, [3], 0, 0),
  (125, .invokestatic 242, 128, 1666, [1205, 2, 0, 1667, 138, 1668], 0, 0),
  (128, .ifCond .eq (44), 131, 0, [172], 0, 0),
  (131, .iload 5, 133, 0, [5], 0, 0),
  (133, .aload_n 0, 134, 0, [0], 0, 0),
  (134, .aload_n 0, 135, 0, [0], 0, 0),
  (135, .getfield 66, 138, 1459, [0, 9, 46], 0, 0),
  (138, .iload_n 2, 139, 0, [2], 0, 0),
  (139, .iaload, 140, 0, [], 0, 0),
  (140, .iload_n 3, 141, 0, [3], 0, 0),
  (141, .invokevirtual 357, 144, 1783, [1249, 3, 0, 9, 1785, 80, 138, 1786], 0, 0),
  (144, .iadd, 145, 0, [], 0, 0),
  (145, .aload_n 0, 146, 0, [0], 0, 0),
  (146, .getfield 72, 149, 1461, [0, 9, 48], 0, 0),
  (149, .bipush (7), 151, 0, [], 7, 0),
  (151, .iload 4, 153, 0, [4], 0, 0),
  (153, .iconst (1), 154, 0, [], 1, 0),
  (154, .iload_n 3, 155, 0, [3], 0, 0),
  (155, .ishl, 156, 0, [], 0, 0),
  (156, .iconst (-1), 157, 0, [], -1, 0),
  (157, .ixor, 158, 0, [], 0, 0),
  (158, .iand, 159, 0, [], 0, 0),
  (159, .imul, 160, 0, [], 0, 0),
  (160, .aload_n 0, 161, 0, [0], 0, 0),
  (161, .getfield 66, 164, 1459, [0, 9, 46], 0, 0),
  (164, .iload_n 2, 165, 0, [2], 0, 0),
  (165, .iaload, 166, 0, [], 0, 0),
  (166, .iadd, 167, 0, [], 0, 0),
  (167, .iaload, 168, 0, [], 0, 0),
  (168, .iadd, 169, 0, [], 0, 0),
  (169, .goto (4), 172, 0, [173], 0, 0),
  (172, .iconst (-1), 173, 0, [], -1, 0),
  (173, .ireturn, 174, 0, [], 0, 0)]
def pt_m1279 : pm_Me := (⟨"TurnCabinetModel", "instead", "(III)I"⟩, prog_12_method_79_code, 7, some .int, 4, 90, pt_q1279_0 ++ pt_q1279_1)
-- TurnCabinetModel.middle(I)I
def pt_q1281_0 : List pm_Q := [(0, .aload_n 0, 1, 0, [0], 0, 0),
  (1, .iload_n 1, 2, 0, [1], 0, 0),
  (2, .invokevirtual 369, 5, 1807, [1248, 2, 0, 9, 1809, 84, 138, 1810], 0, 0),
  (5, .ifCond .eq (11), 8, 0, [16], 0, 0),
  (8, .aload_n 0, 9, 0, [0], 0, 0),
  (9, .iload_n 1, 10, 0, [1], 0, 0),
  (10, .invokevirtual 426, 13, 1920, [1280, 2, 0, 9, 1922, 101, 138, 1923], 0, 0),
  (13, .goto (4), 16, 0, [17], 0, 0),
  (16, .iconst (-1), 17, 0, [], -1, 0),
  (17, .ireturn, 18, 0, [], 0, 0)]
def pt_m1281 : pm_Me := (⟨"TurnCabinetModel", "middle", "(I)I"⟩, prog_12_method_81_code, 2, some .int, 3, 67, pt_q1281_0)
-- TurnCabinetModel.middleOf(I)I
def pt_q1280_0 : List pm_Q := [(0, .iconst (0), 1, 0, [], 0, 0),
  (1, .istore_n 2, 2, 0, [2], 0, 0),
  (2, .iconst (0), 3, 0, [], 0, 0),
  (3, .istore_n 3, 4, 0, [3], 0, 0),
  (4, .iload_n 3, 5, 0, [3], 0, 0),
  (5, .aload_n 0, 6, 0, [0], 0, 0),
  (6, .getfield 301, 9, 1443, [0, 9, 30], 0, 0),
  (9, .if_icmp .ge (36), 12, 0, [45], 0, 0),
  (12, .iload_n 2, 13, 0, [2], 0, 0),
  (13, .iload_n 1, 14, 0, [1], 0, 0),
  (14, .iload_n 3, 15, 0, [3], 0, 0),
  (15, .invokestatic 242, 18, 1666, [1205, 2, 0, 1667, 138, 1668], 0, 0),
  (18, .ifCond .eq (18), 21, 0, [36], 0, 0),
  (21, .aload_n 0, 22, 0, [0], 0, 0),
  (22, .iload_n 3, 23, 0, [3], 0, 0),
  (23, .invokevirtual 335, 26, 1764, [1242, 2, 0, 9, 1766, 77, 138, 1767], 0, 0),
  (26, .aload_n 0, 27, 0, [0], 0, 0),
  (27, .getfield 45, 30, 1451, [0, 9, 38], 0, 0),
  (30, .iload_n 3, 31, 0, [3], 0, 0),
  (31, .iaload, 32, 0, [], 0, 0),
  (32, .imul, 33, 0, [], 0, 0),
  (33, .goto (4), 36, 0, [37], 0, 0),
  (36, .iconst (0), 37, 0, [], 0, 0),
  (37, .iadd, 38, 0, [], 0, 0),
  (38, .istore_n 2, 39, 0, [2], 0, 0),
  (39, .iinc 3 (1), 42, 0, [3], 1, 0),
  (42, .goto (-38), 45, 0, [4], 0, 0),
  (45, .iload_n 2, 46, 0, [2], 0, 0),
  (46, .aload_n 0, 47, 0, [0], 0, 0),
  (47, .iload_n 1, 48, 0, [1], 0, 0),
  (48, .invokevirtual 341, 51, 1799, [1243, 2, 0, 9, 1801, 83, 138, 1802], 0, 0),
  (51, .idiv, 52, 0, [], 0, 0),
  (52, .ireturn, 53, 0, [], 0, 0)]
def pt_m1280 : pm_Me := (⟨"TurnCabinetModel", "middleOf", "(I)I"⟩, prog_12_method_80_code, 4, some .int, 2, 44, pt_q1280_0)
-- TurnCabinetModel.pay(II)I
def pt_q1292_0 : List pm_Q := [(0, .aload_n 0, 1, 0, [0], 0, 0),
  (1, .iload_n 1, 2, 0, [1], 0, 0),
  (2, .invokevirtual 369, 5, 1807, [1248, 2, 0, 9, 1809, 84, 138, 1810], 0, 0),
  (5, .ifCond .eq (11), 8, 0, [16], 0, 0),
  (8, .aload_n 0, 9, 0, [0], 0, 0),
  (9, .iload_n 2, 10, 0, [2], 0, 0),
  (10, .invokevirtual 348, 13, 1760, [1246, 2, 0, 9, 1762, 76, 138, 1763], 0, 0),
  (13, .ifCond .ne (7), 16, 0, [20], 0, 0),
  (16, .ldc_w 453, 19, 1928, [], -1000000, 0),
  (19, .ireturn, 20, 0, [], 0, 0),
  (20, .aload_n 0, 21, 0, [0], 0, 0),
  (21, .invokevirtual 454, 24, 1929, [1283, 1, 0, 9, 1931, 102, 138, 1932], 0, 0),
  (24, .aload_n 0, 25, 0, [0], 0, 0),
  (25, .getfield 87, 28, 1467, [0, 9, 54], 0, 0),
  (28, .bipush (7), 30, 0, [], 7, 0),
  (30, .iload_n 1, 31, 0, [1], 0, 0),
  (31, .imul, 32, 0, [], 0, 0),
  (32, .iload_n 2, 33, 0, [2], 0, 0),
  (33, .iadd, 34, 0, [], 0, 0),
  (34, .iaload, 35, 0, [], 0, 0),
  (35, .ireturn, 36, 0, [], 0, 0)]
def pt_m1292 : pm_Me := (⟨"TurnCabinetModel", "pay", "(II)I"⟩, prog_12_method_92_code, 3, some .int, 8, 174, pt_q1292_0)
-- TurnCabinetModel.laysAll()V
def pt_q1283_0 : List pm_Q := [(0, .aload_n 0, 1, 0, [0], 0, 0),
  (1, .getfield 331, 4, 1470, [0, 9, 57], 0, 0),
  (4, .ifCond .eq (4), 7, 0, [8], 0, 0),
  (7, .return_, 8, 0, [], 0, 0),
  (8, .aload_n 0, 9, 0, [0], 0, 0),
  (9, .iconst (1), 10, 0, [], 1, 0),
  (10, .putfield 331, 13, 1470, [0, 9, 57], 0, 0),
  (13, .iconst (1), 14, 0, [], 1, 0),
  (14, .istore_n 1, 15, 0, [1], 0, 0),
  (15, .iload_n 1, 16, 0, [1], 0, 0),
  (16, .aload_n 0, 17, 0, [0], 0, 0),
  (17, .invokevirtual 338, 20, 1795, [1244, 1, 0, 9, 1797, 82, 138, 1798], 0, 0),
  (20, .if_icmp .gt (96), 23, 0, [116], 0, 0),
  (23, .aload_n 0, 24, 0, [0], 0, 0),
  (24, .iload_n 1, 25, 0, [1], 0, 0),
  (25, .iconst (1), 26, 0, [], 1, 0),
  (26, .invokevirtual 407, 29, 1833, [1266, 3, 0, 9, 1835, 88, 138, 1836], 0, 0),
  (29, .aload_n 0, 30, 0, [0], 0, 0),
  (30, .iload_n 1, 31, 0, [1], 0, 0),
  (31, .invokevirtual 426, 34, 1920, [1280, 2, 0, 9, 1922, 101, 138, 1923], 0, 0),
  (34, .istore_n 2, 35, 0, [2], 0, 0),
  (35, .iconst (0), 36, 0, [], 0, 0),
  (36, .istore_n 3, 37, 0, [3], 0, 0),
  (37, .iload_n 3, 38, 0, [3], 0, 0),
  (38, .aload_n 0, 39, 0, [0], 0, 0),
  (39, .getfield 301, 42, 1443, [0, 9, 30], 0, 0),
  (42, .if_icmp .ge (68), 45, 0, [110], 0, 0),
  (45, .aload_n 0, 46, 0, [0], 0, 0),
  (46, .getfield 87, 49, 1467, [0, 9, 54], 0, 0),
  (49, .bipush (7), 51, 0, [], 7, 0),
  (51, .iload_n 1, 52, 0, [1], 0, 0),
  (52, .imul, 53, 0, [], 0, 0),
  (53, .iload_n 3, 54, 0, [3], 0, 0),
  (54, .iadd, 55, 0, [], 0, 0),
  (55, .iload_n 1, 56, 0, [1], 0, 0),
  (56, .iload_n 3, 57, 0, [3], 0, 0),
  (57, .invokestatic 242, 60, 1666, [1205, 2, 0, 1667, 138, 1668], 0, 0),
  (60, .ifCond .eq (14), 63, 0, [74], 0, 0),
  (63, .bipush (10), 65, 0, [], 10, 0),
  (65, .aload_n 0, 66, 0, [0], 0, 0),
  (66, .iload_n 3, 67, 0, [3], 0, 0),
  (67, .invokevirtual 410, 70, 1872, [1267, 2, 0, 9, 1874, 96, 138, 1875], 0, 0),
  (70, .imul, 71, 0, [], 0, 0),
  (71, .goto (4), 74, 0, [75], 0, 0),
  (74, .iconst (0), 75, 0, [], 0, 0),
  (75, .aload_n 0, 76, 0, [0], 0, 0),
  (76, .getfield 316, 79, 1448, [0, 9, 35], 0, 0),
  (79, .aload_n 0, 80, 0, [0], 0, 0),
  (80, .iload_n 3, 81, 0, [3], 0, 0),
  (81, .iload_n 2, 82, 0, [2], 0, 0),
  (82, .invokevirtual 429, 85, 1933, [1282, 3, 0, 9, 1935, 103, 138, 1936], 0, 0),
  (85, .imul, 86, 0, [], 0, 0),
  (86, .isub, 87, 0, [], 0, 0),
  (87, .iastore, 88, 0, [], 0, 0),
  (88, .aload_n 0, 89, 0, [0], 0, 0),
  (89, .getfield 90, 92, 1468, [0, 9, 55], 0, 0),
  (92, .bipush (7), 94, 0, [], 7, 0),
  (94, .iload_n 1, 95, 0, [1], 0, 0),
  (95, .imul, 96, 0, [], 0, 0),
  (96, .iload_n 3, 97, 0, [3], 0, 0)]
def pt_q1283_1 : List pm_Q := [(97, .iadd, 98, 0, [], 0, 0),
  (98, .aload_n 0, 99, 0, [0], 0, 0),
  (99, .iload_n 3, 100, 0, [3], 0, 0),
  (100, .invokevirtual 413, 103, 1884, [1271, 2, 0, 9, 1886, 97, 138, 1887], 0, 0),
  (103, .iastore, 104, 0, [], 0, 0),
  (104, .iinc 3 (1), 107, 0, [3], 1, 0),
  (107, .goto (-70), 110, 0, [37], 0, 0),
  (110, .iinc 1 (1), 113, 0, [1], 1, 0),
  (113, .goto (-98), 116, 0, [15, 2, 3], 0, 0),
  (116, .iconst (1), 117, 0, [], 1, 0),
  (117, .istore_n 1, 118, 0, [1], 0, 0),
  (118, .iload_n 1, 119, 0, [1], 0, 0),
  (119, .aload_n 0, 120, 0, [0], 0, 0),
  (120, .invokevirtual 338, 123, 1795, [1244, 1, 0, 9, 1797, 82, 138, 1798], 0, 0),
  (123, .if_icmp .gt (20), 126, 0, [143], 0, 0),
  (126, .aload_n 0, 127, 0, [0], 0, 0),
  (127, .getfield 93, 130, 1469, [0, 9, 56], 0, 0),
  (130, .iload_n 1, 131, 0, [1], 0, 0),
  (131, .aload_n 0, 132, 0, [0], 0, 0),
  (132, .iload_n 1, 133, 0, [1], 0, 0),
  (133, .invokevirtual 432, 136, 1937, [1288, 2, 0, 9, 1939, 104, 138, 1940], 0, 0),
  (136, .iastore, 137, 0, [], 0, 0),
  (137, .iinc 1 (1), 140, 0, [1], 1, 0),
  (140, .goto (-22), 143, 0, [118], 0, 0),
  (143, .return_, 144, 0, [], 0, 0)]
def pt_m1283 : pm_Me := (⟨"TurnCabinetModel", "laysAll", "()V"⟩, prog_12_method_83_code, 4, none, 7, 151, pt_q1283_0 ++ pt_q1283_1)
-- TurnCabinetModel.far(II)I
def pt_q1282_0 : List pm_Q := [(0, .aload_n 0, 1, 0, [0], 0, 0),
  (1, .getfield 45, 4, 1451, [0, 9, 38], 0, 0),
  (4, .iload_n 1, 5, 0, [1], 0, 0),
  (5, .iaload, 6, 0, [], 0, 0),
  (6, .iload_n 2, 7, 0, [2], 0, 0),
  (7, .if_icmp .le (14), 10, 0, [21], 0, 0),
  (10, .aload_n 0, 11, 0, [0], 0, 0),
  (11, .getfield 45, 14, 1451, [0, 9, 38], 0, 0),
  (14, .iload_n 1, 15, 0, [1], 0, 0),
  (15, .iaload, 16, 0, [], 0, 0),
  (16, .iload_n 2, 17, 0, [2], 0, 0),
  (17, .isub, 18, 0, [], 0, 0),
  (18, .goto (11), 21, 0, [29], 0, 0),
  (21, .iload_n 2, 22, 0, [2], 0, 0),
  (22, .aload_n 0, 23, 0, [0], 0, 0),
  (23, .getfield 45, 26, 1451, [0, 9, 38], 0, 0),
  (26, .iload_n 1, 27, 0, [1], 0, 0),
  (27, .iaload, 28, 0, [], 0, 0),
  (28, .isub, 29, 0, [], 0, 0),
  (29, .ireturn, 30, 0, [], 0, 0)]
def pt_m1282 : pm_Me := (⟨"TurnCabinetModel", "far", "(II)I"⟩, prog_12_method_82_code, 3, some .int, 0, 0, pt_q1282_0)
-- TurnCabinetModel.rivalOf(I)I
def pt_q1288_0 : List pm_Q := [(0, .iconst (1), 1, 0, [], 1, 0),
  (1, .istore_n 2, 2, 0, [2], 0, 0),
  (2, .iload_n 2, 3, 0, [2], 0, 0),
  (3, .aload_n 0, 4, 0, [0], 0, 0),
  (4, .invokevirtual 338, 7, 1795, [1244, 1, 0, 9, 1797, 82, 138, 1798], 0, 0),
  (7, .if_icmp .gt (20), 10, 0, [27], 0, 0),
  (10, .aload_n 0, 11, 0, [0], 0, 0),
  (11, .iload_n 2, 12, 0, [2], 0, 0),
  (12, .iload_n 1, 13, 0, [1], 0, 0),
  (13, .invokevirtual 444, 16, 1941, [1287, 3, 0, 9, 1943, 105, 138, 1944], 0, 0),
  (16, .ifCond .eq (5), 19, 0, [21], 0, 0),
  (19, .iload_n 2, 20, 0, [2], 0, 0),
  (20, .ireturn, 21, 0, [], 0, 0),
  (21, .iinc 2 (1), 24, 0, [2], 1, 0),
  (24, .goto (-22), 27, 0, [2], 0, 0),
  (27, .iconst (0), 28, 0, [], 0, 0),
  (28, .ireturn, 29, 0, [], 0, 0)]
def pt_m1288 : pm_Me := (⟨"TurnCabinetModel", "rivalOf", "(I)I"⟩, prog_12_method_88_code, 3, some .int, 6, 129, pt_q1288_0)
-- TurnCabinetModel.isRival(II)Z
def pt_q1287_0 : List pm_Q := [(0, .iload_n 1, 1, 0, [1], 0, 0),
  (1, .iload_n 2, 2, 0, [2], 0, 0),
  (2, .if_icmp .eq (11), 5, 0, [13], 0, 0),
  (5, .aload_n 0, 6, 0, [0], 0, 0),
  (6, .iload_n 1, 7, 0, [1], 0, 0),
  (7, .invokevirtual 441, 10, 1945, [1286, 2, 0, 9, 1947, 106, 138, 1948], 0, 0),
  (10, .ifCond .ne (5), 13, 0, [15], 0, 0),
  (13, .iconst (0), 14, 0, [], 0, 0),
  (14, .ireturn, 15, 0, [], 0, 0),
  (15, .iconst (0), 16, 0, [], 0, 0),
  (16, .istore_n 3, 17, 0, [3], 0, 0),
  (17, .iload_n 3, 18, 0, [3], 0, 0),
  (18, .aload_n 0, 19, 0, [0], 0, 0),
  (19, .getfield 301, 22, 1443, [0, 9, 30], 0, 0),
  (22, .if_icmp .ge (44), 25, 0, [66], 0, 0),
  (25, .iload_n 1, 26, 0, [1], 0, 0),
  (26, .iload_n 3, 27, 0, [3], 0, 0),
  (27, .invokestatic 242, 30, 1666, [1205, 2, 0, 1667, 138, 1668], 0, 0),
  (30, .ifCond .eq (30), 33, 0, [60], 0, 0),
  (33, .aload_n 0, 34, 0, [0], 0, 0),
  (34, .getfield 87, 37, 1467, [0, 9, 54], 0, 0),
  (37, .bipush (7), 39, 0, [], 7, 0),
  (39, .iload_n 1, 40, 0, [1], 0, 0),
  (40, .imul, 41, 0, [], 0, 0),
  (41, .iload_n 3, 42, 0, [3], 0, 0),
  (42, .iadd, 43, 0, [], 0, 0),
  (43, .iaload, 44, 0, [], 0, 0),
  (44, .aload_n 0, 45, 0, [0], 0, 0),
  (45, .getfield 87, 48, 1467, [0, 9, 54], 0, 0),
  (48, .bipush (7), 50, 0, [], 7, 0),
  (50, .iload_n 2, 51, 0, [2], 0, 0),
  (51, .imul, 52, 0, [], 0, 0),
  (52, .iload_n 3, 53, 0, [3], 0, 0),
  (53, .iadd, 54, 0, [], 0, 0),
  (54, .iaload, 55, 0, [], 0, 0),
  (55, .if_icmp .gt (5), 58, 0, [60], 0, 0),
  (58, .iconst (0), 59, 0, [], 0, 0),
  (59, .ireturn, 60, 0, [], 0, 0),
  (60, .iinc 3 (1), 63, 0, [3], 1, 0),
  (63, .goto (-46), 66, 0, [17], 0, 0),
  (66, .iconst (1), 67, 0, [], 1, 0),
  (67, .ireturn, 68, 0, [], 0, 0)]
def pt_m1287 : pm_Me := (⟨"TurnCabinetModel", "isRival", "(II)Z"⟩, prog_12_method_87_code, 4, some .boolean, 5, 106, pt_q1287_0)
-- TurnCabinetModel.can(I)Z
def pt_q1286_0 : List pm_Q := [(0, .iload_n 1, 1, 0, [1], 0, 0),
  (1, .ifCond .le (23), 4, 0, [24], 0, 0),
  (4, .aload_n 0, 5, 0, [0], 0, 0),
  (5, .iload_n 1, 6, 0, [1], 0, 0),
  (6, .invokevirtual 435, 9, 1949, [1284, 2, 0, 9, 1951, 107, 138, 1952], 0, 0),
  (9, .ifCond .eq (15), 12, 0, [24], 0, 0),
  (12, .aload_n 0, 13, 0, [0], 0, 0),
  (13, .iload_n 1, 14, 0, [1], 0, 0),
  (14, .invokevirtual 438, 17, 1953, [1285, 2, 0, 9, 1955, 108, 138, 1956], 0, 0),
  (17, .ifCond .eq (7), 20, 0, [24], 0, 0),
  (20, .iconst (1), 21, 0, [], 1, 0),
  (21, .goto (4), 24, 0, [25], 0, 0),
  (24, .iconst (0), 25, 0, [], 0, 0),
  (25, .ireturn, 26, 0, [], 0, 0)]
def pt_m1286 : pm_Me := (⟨"TurnCabinetModel", "can", "(I)Z"⟩, prog_12_method_86_code, 2, some .boolean, 4, 85, pt_q1286_0)
-- TurnCabinetModel.isMajority(I)Z
def pt_q1284_0 : List pm_Q := [(0, .aload_n 0, 1, 0, [0], 0, 0),
  (1, .iload_n 1, 2, 0, [1], 0, 0),
  (2, .invokevirtual 341, 5, 1799, [1243, 2, 0, 9, 1801, 83, 138, 1802], 0, 0),
  (5, .aload_n 0, 6, 0, [0], 0, 0),
  (6, .invokevirtual 360, 9, 1791, [1245, 1, 0, 9, 1793, 81, 138, 1794], 0, 0),
  (9, .if_icmp .lt (7), 12, 0, [16], 0, 0),
  (12, .iconst (1), 13, 0, [], 1, 0),
  (13, .goto (4), 16, 0, [17], 0, 0),
  (16, .iconst (0), 17, 0, [], 0, 0),
  (17, .ireturn, 18, 0, [], 0, 0)]
def pt_m1284 : pm_Me := (⟨"TurnCabinetModel", "isMajority", "(I)Z"⟩, prog_12_method_84_code, 2, some .boolean, 3, 64, pt_q1284_0)
-- TurnCabinetModel.isFree(I)Z
def pt_q1285_0 : List pm_Q := [(0, .iconst (0), 1, 0, [], 0, 0),
  (1, .istore_n 2, 2, 0, [2], 0, 0),
  (2, .iload_n 2, 3, 0, [2], 0, 0),
  (3, .aload_n 0, 4, 0, [0], 0, 0),
  (4, .getfield 301, 7, 1443, [0, 9, 30], 0, 0),
  (7, .if_icmp .ge (30), 10, 0, [37], 0, 0),
  (10, .iload_n 1, 11, 0, [1], 0, 0),
  (11, .iload_n 2, 12, 0, [2], 0, 0),
  (12, .invokestatic 242, 15, 1666, [1205, 2, 0, 1667, 138, 1668], 0, 0),
  (15, .ifCond .eq (16), 18, 0, [31], 0, 0),
  (18, .aload_n 0, 19, 0, [0], 0, 0),
  (19, .getfield 51, 22, 1453, [0, 9, 40], 0, 0),
  (22, .iload_n 2, 23, 0, [2], 0, 0),
  (23, .iaload, 24, 0, [], 0, 0),
  (24, .iload_n 1, 25, 0, [1], 0, 0),
  (25, .iand, 26, 0, [], 0, 0),
  (26, .ifCond .eq (5), 29, 0, [31], 0, 0),
  (29, .iconst (0), 30, 0, [], 0, 0),
  (30, .ireturn, 31, 0, [], 0, 0),
  (31, .iinc 2 (1), 34, 0, [2], 1, 0),
  (34, .goto (-32), 37, 0, [2], 0, 0),
  (37, .iconst (1), 38, 0, [], 1, 0),
  (38, .ireturn, 39, 0, [], 0, 0)]
def pt_m1285 : pm_Me := (⟨"TurnCabinetModel", "isFree", "(I)Z"⟩, prog_12_method_85_code, 3, some .boolean, 1, 21, pt_q1285_0)
-- TurnCabinetModel.kind(I)I
def pt_q1293_0 : List pm_Q := [(0, .aload_n 0, 1, 0, [0], 0, 0),
  (1, .iload_n 1, 2, 0, [1], 0, 0),
  (2, .invokevirtual 369, 5, 1807, [1248, 2, 0, 9, 1809, 84, 138, 1810], 0, 0),
  (5, .ifCond .ne (5), 8, 0, [10], 0, 0),
  (8, .iconst (-1), 9, 0, [], -1, 0),
  (9, .ireturn, 10, 0, [], 0, 0),
  (10, .aload_n 0, 11, 0, [0], 0, 0),
  (11, .invokevirtual 454, 14, 1929, [1283, 1, 0, 9, 1931, 102, 138, 1932], 0, 0),
  (14, .aload_n 0, 15, 0, [0], 0, 0),
  (15, .iload_n 1, 16, 0, [1], 0, 0),
  (16, .invokevirtual 457, 19, 1961, [1291, 2, 0, 9, 1963, 109, 138, 1964], 0, 0),
  (19, .ireturn, 20, 0, [], 0, 0)]
def pt_m1293 : pm_Me := (⟨"TurnCabinetModel", "kind", "(I)I"⟩, prog_12_method_93_code, 2, some .int, 8, 174, pt_q1293_0)
-- TurnCabinetModel.kindOf(I)I
def pt_q1291_0 : List pm_Q := [(0, .iconst (1), 1, 0, [], 1, 0),
  (1, .aload_n 0, 2, 0, [0], 0, 0),
  (2, .iload_n 1, 3, 0, [1], 0, 0),
  (3, .invokevirtual 435, 6, 1949, [1284, 2, 0, 9, 1951, 107, 138, 1952], 0, 0),
  (6, .invokestatic 344, 9, 1772, [1203, 1, 0, 1773, 138, 1774], 0, 0),
  (9, .imul, 10, 0, [], 0, 0),
  (10, .iconst (2), 11, 0, [], 2, 0),
  (11, .aload_n 0, 12, 0, [0], 0, 0),
  (12, .iload_n 1, 13, 0, [1], 0, 0),
  (13, .invokevirtual 438, 16, 1953, [1285, 2, 0, 9, 1955, 108, 138, 1956], 0, 0),
  (16, .invokestatic 344, 19, 1772, [1203, 1, 0, 1773, 138, 1774], 0, 0),
  (19, .imul, 20, 0, [], 0, 0),
  (20, .iadd, 21, 0, [], 0, 0),
  (21, .iconst (4), 22, 0, [], 4, 0),
  (22, .aload_n 0, 23, 0, [0], 0, 0),
  (23, .iload_n 1, 24, 0, [1], 0, 0),
  (24, .invokevirtual 447, 27, 1965, [1289, 2, 0, 9, 1967, 110, 138, 1968], 0, 0),
  (27, .invokestatic 344, 30, 1772, [1203, 1, 0, 1773, 138, 1774], 0, 0),
  (30, .imul, 31, 0, [], 0, 0),
  (31, .iadd, 32, 0, [], 0, 0),
  (32, .bipush (8), 34, 0, [], 8, 0),
  (34, .aload_n 0, 35, 0, [0], 0, 0),
  (35, .iload_n 1, 36, 0, [1], 0, 0),
  (36, .invokevirtual 450, 39, 1969, [1290, 2, 0, 9, 1971, 111, 138, 1972], 0, 0),
  (39, .invokestatic 344, 42, 1772, [1203, 1, 0, 1773, 138, 1774], 0, 0),
  (42, .imul, 43, 0, [], 0, 0),
  (43, .iadd, 44, 0, [], 0, 0),
  (44, .bipush (16), 46, 0, [], 16, 0),
  (46, .aload_n 0, 47, 0, [0], 0, 0),
  (47, .iload_n 1, 48, 0, [1], 0, 0),
  (48, .invokevirtual 441, 51, 1945, [1286, 2, 0, 9, 1947, 106, 138, 1948], 0, 0),
  (51, .ifCond .eq (16), 54, 0, [67], 0, 0),
  (54, .aload_n 0, 55, 0, [0], 0, 0),
  (55, .getfield 93, 58, 1469, [0, 9, 56], 0, 0),
  (58, .iload_n 1, 59, 0, [1], 0, 0),
  (59, .iaload, 60, 0, [], 0, 0),
  (60, .ifCond .ne (7), 63, 0, [67], 0, 0),
  (63, .iconst (1), 64, 0, [], 1, 0),
  (64, .goto (4), 67, 0, [68], 0, 0),
  (67, .iconst (0), 68, 0, [], 0, 0),
  (68, .invokestatic 344, 71, 1772, [1203, 1, 0, 1773, 138, 1774], 0, 0),
  (71, .imul, 72, 0, [], 0, 0),
  (72, .iadd, 73, 0, [], 0, 0),
  (73, .ireturn, 74, 0, [], 0, 0)]
def pt_m1291 : pm_Me := (⟨"TurnCabinetModel", "kindOf", "(I)I"⟩, prog_12_method_91_code, 2, some .int, 5, 107, pt_q1291_0)
-- TurnCabinetModel.isMinimal(I)Z
def pt_q1289_0 : List pm_Q := [(0, .aload_n 0, 1, 0, [0], 0, 0),
  (1, .iload_n 1, 2, 0, [1], 0, 0),
  (2, .invokevirtual 435, 5, 1949, [1284, 2, 0, 9, 1951, 107, 138, 1952], 0, 0),
  (5, .ifCond .ne (5), 8, 0, [10], 0, 0),
  (8, .iconst (0), 9, 0, [], 0, 0),
  (9, .ireturn, 10, 0, [], 0, 0),
  (10, .iconst (0), 11, 0, [], 0, 0),
  (11, .istore_n 2, 12, 0, [2], 0, 0),
  (12, .iload_n 2, 13, 0, [2], 0, 0),
  (13, .aload_n 0, 14, 0, [0], 0, 0),
  (14, .getfield 301, 17, 1443, [0, 9, 30], 0, 0),
  (17, .if_icmp .ge (33), 20, 0, [50], 0, 0),
  (20, .iload_n 1, 21, 0, [1], 0, 0),
  (21, .iload_n 2, 22, 0, [2], 0, 0),
  (22, .invokestatic 242, 25, 1666, [1205, 2, 0, 1667, 138, 1668], 0, 0),
  (25, .ifCond .eq (19), 28, 0, [44], 0, 0),
  (28, .aload_n 0, 29, 0, [0], 0, 0),
  (29, .iload_n 1, 30, 0, [1], 0, 0),
  (30, .iconst (1), 31, 0, [], 1, 0),
  (31, .iload_n 2, 32, 0, [2], 0, 0),
  (32, .ishl, 33, 0, [], 0, 0),
  (33, .iconst (-1), 34, 0, [], -1, 0),
  (34, .ixor, 35, 0, [], 0, 0),
  (35, .iand, 36, 0, [], 0, 0),
  (36, .invokevirtual 435, 39, 1949, [1284, 2, 0, 9, 1951, 107, 138, 1952], 0, 0),
  (39, .ifCond .eq (5), 42, 0, [44], 0, 0),
  (42, .iconst (0), 43, 0, [], 0, 0),
  (43, .ireturn, 44, 0, [], 0, 0),
  (44, .iinc 2 (1), 47, 0, [2], 1, 0),
  (47, .goto (-35), 50, 0, [12], 0, 0),
  (50, .iconst (1), 51, 0, [], 1, 0),
  (51, .ireturn, 52, 0, [], 0, 0)]
def pt_m1289 : pm_Me := (⟨"TurnCabinetModel", "isMinimal", "(I)Z"⟩, prog_12_method_89_code, 3, some .boolean, 4, 85, pt_q1289_0)
-- TurnCabinetModel.isConnected(I)Z
def pt_q1290_0 : List pm_Q := [(0, .bipush (100), 2, 0, [], 100, 0),
  (2, .istore_n 2, 3, 0, [2], 0, 0),
  (3, .iconst (-1), 4, 0, [], -1, 0),
  (4, .istore_n 3, 5, 0, [3], 0, 0),
  (5, .iconst (0), 6, 0, [], 0, 0),
  (6, .istore 4, 8, 0, [4], 0, 0),
  (8, .iload 4, 10, 0, [4], 0, 0),
  (10, .aload_n 0, 11, 0, [0], 0, 0),
  (11, .getfield 301, 14, 1443, [0, 9, 30], 0, 0),
  (14, .if_icmp .ge (56), 17, 0, [70], 0, 0),
  (17, .iload_n 1, 18, 0, [1], 0, 0),
  (18, .iload 4, 20, 0, [4], 0, 0),
  (20, .invokestatic 242, 23, 1666, [1205, 2, 0, 1667, 138, 1668], 0, 0),
  (23, .ifCond .ne (6), 26, 0, [29], 0, 0),
  (26, .goto (38), 29, 0, [64], 0, 0),
  (29, .aload_n 0, 30, 0, [0], 0, 0),
  (30, .getfield 45, 33, 1451, [0, 9, 38], 0, 0),
  (33, .iload 4, 35, 0, [4], 0, 0),
  (35, .iaload, 36, 0, [], 0, 0),
  (36, .iload_n 2, 37, 0, [2], 0, 0),
  (37, .if_icmp .ge (13), 40, 0, [50], 0, 0),
  (40, .aload_n 0, 41, 0, [0], 0, 0),
  (41, .getfield 45, 44, 1451, [0, 9, 38], 0, 0),
  (44, .iload 4, 46, 0, [4], 0, 0),
  (46, .iaload, 47, 0, [], 0, 0),
  (47, .goto (4), 50, 0, [51], 0, 0),
  (50, .iload_n 2, 51, 0, [2], 0, 0),
  (51, .istore_n 2, 52, 0, [2], 0, 0),
  (52, .iload_n 3, 53, 0, [3], 0, 0),
  (53, .aload_n 0, 54, 0, [0], 0, 0),
  (54, .getfield 45, 57, 1451, [0, 9, 38], 0, 0),
  (57, .iload 4, 59, 0, [4], 0, 0),
  (59, .iaload, 60, 0, [], 0, 0),
  (60, .invokestatic 325, 63, 1410, [1204, 2, 0, 1411, 138, 1412], 0, 0),
  (63, .istore_n 3, 64, 0, [3], 0, 0),
  (64, .iinc 4 (1), 67, 0, [4], 1, 0),
  (67, .goto (-59), 70, 0, [8], 0, 0),
  (70, .iconst (0), 71, 0, [], 0, 0),
  (71, .istore 4, 73, 0, [4], 0, 0),
  (73, .iload 4, 75, 0, [4], 0, 0),
  (75, .aload_n 0, 76, 0, [0], 0, 0),
  (76, .getfield 301, 79, 1443, [0, 9, 30], 0, 0),
  (79, .if_icmp .ge (42), 82, 0, [121], 0, 0),
  (82, .iload_n 1, 83, 0, [1], 0, 0),
  (83, .iload 4, 85, 0, [4], 0, 0),
  (85, .invokestatic 242, 88, 1666, [1205, 2, 0, 1667, 138, 1668], 0, 0),
  (88, .ifCond .ne (27), 91, 0, [115], 0, 0),
  (91, .aload_n 0, 92, 0, [0], 0, 0),
  (92, .getfield 45, 95, 1451, [0, 9, 38], 0, 0),
  (95, .iload 4, 97, 0, [4], 0, 0),
  (97, .iaload, 98, 0, [], 0, 0),
  (98, .iload_n 2, 99, 0, [2], 0, 0),
  (99, .if_icmp .le (16), 102, 0, [115], 0, 0),
  (102, .aload_n 0, 103, 0, [0], 0, 0),
  (103, .getfield 45, 106, 1451, [0, 9, 38], 0, 0),
  (106, .iload 4, 108, 0, [4], 0, 0),
  (108, .iaload, 109, 0, [], 0, 0),
  (109, .iload_n 3, 110, 0, [3], 0, 0),
  (110, .if_icmp .ge (5), 113, 0, [115], 0, 0),
  (113, .iconst (0), 114, 0, [], 0, 0)]
def pt_q1290_1 : List pm_Q := [(114, .ireturn, 115, 0, [], 0, 0),
  (115, .iinc 4 (1), 118, 0, [4], 1, 0),
  (118, .goto (-45), 121, 0, [73], 0, 0),
  (121, .iconst (1), 122, 0, [], 1, 0),
  (122, .ireturn, 123, 0, [], 0, 0)]
def pt_m1290 : pm_Me := (⟨"TurnCabinetModel", "isConnected", "(I)Z"⟩, prog_12_method_90_code, 5, some .boolean, 1, 21, pt_q1290_0 ++ pt_q1290_1)
-- TurnCabinetModel.many(I)I
def pt_q1294_0 : List pm_Q := [(0, .iload_n 1, 1, 0, [1], 0, 0),
  (1, .i2l, 2, 0, [], 0, 0),
  (2, .lconst 0, 3, 0, [], 0, 0),
  (3, .ldc2_w 460, 6, 1977, [], 0, 31),
  (6, .invokestatic 125, 9, 1624, [1202, 3, 0, 1625, 138, 1626], 0, 0),
  (9, .ifCond .ne (5), 12, 0, [14], 0, 0),
  (12, .iconst (-1), 13, 0, [], -1, 0),
  (13, .ireturn, 14, 0, [], 0, 0),
  (14, .aload_n 0, 15, 0, [0], 0, 0),
  (15, .invokevirtual 454, 18, 1929, [1283, 1, 0, 9, 1931, 102, 138, 1932], 0, 0),
  (18, .iconst (0), 19, 0, [], 0, 0),
  (19, .istore_n 2, 20, 0, [2], 0, 0),
  (20, .iconst (1), 21, 0, [], 1, 0),
  (21, .istore_n 3, 22, 0, [3], 0, 0),
  (22, .iload_n 3, 23, 0, [3], 0, 0),
  (23, .aload_n 0, 24, 0, [0], 0, 0),
  (24, .invokevirtual 338, 27, 1795, [1244, 1, 0, 9, 1797, 82, 138, 1798], 0, 0),
  (27, .if_icmp .gt (31), 30, 0, [58], 0, 0),
  (30, .iload_n 2, 31, 0, [2], 0, 0),
  (31, .aload_n 0, 32, 0, [0], 0, 0),
  (32, .iload_n 3, 33, 0, [3], 0, 0),
  (33, .invokevirtual 457, 36, 1961, [1291, 2, 0, 9, 1963, 109, 138, 1964], 0, 0),
  (36, .iload_n 1, 37, 0, [1], 0, 0),
  (37, .iand, 38, 0, [], 0, 0),
  (38, .iload_n 1, 39, 0, [1], 0, 0),
  (39, .if_icmp .ne (7), 42, 0, [46], 0, 0),
  (42, .iconst (1), 43, 0, [], 1, 0),
  (43, .goto (4), 46, 0, [47], 0, 0),
  (46, .iconst (0), 47, 0, [], 0, 0),
  (47, .invokestatic 344, 50, 1772, [1203, 1, 0, 1773, 138, 1774], 0, 0),
  (50, .iadd, 51, 0, [], 0, 0),
  (51, .istore_n 2, 52, 0, [2], 0, 0),
  (52, .iinc 3 (1), 55, 0, [3], 1, 0),
  (55, .goto (-33), 58, 0, [22], 0, 0),
  (58, .iload_n 2, 59, 0, [2], 0, 0),
  (59, .ireturn, 60, 0, [], 0, 0)]
def pt_m1294 : pm_Me := (⟨"TurnCabinetModel", "many", "(I)I"⟩, prog_12_method_94_code, 4, some .int, 8, 174, pt_q1294_0)
-- TurnCabinetModel.nth(II)I
def pt_q1295_0 : List pm_Q := [(0, .iload_n 1, 1, 0, [1], 0, 0),
  (1, .i2l, 2, 0, [], 0, 0),
  (2, .lconst 0, 3, 0, [], 0, 0),
  (3, .ldc2_w 460, 6, 1977, [], 0, 31),
  (6, .invokestatic 125, 9, 1624, [1202, 3, 0, 1625, 138, 1626], 0, 0),
  (9, .ifCond .eq (7), 12, 0, [16], 0, 0),
  (12, .iload_n 2, 13, 0, [2], 0, 0),
  (13, .ifCond .ge (5), 16, 0, [18], 0, 0),
  (16, .iconst (-1), 17, 0, [], -1, 0),
  (17, .ireturn, 18, 0, [], 0, 0),
  (18, .aload_n 0, 19, 0, [0], 0, 0),
  (19, .invokevirtual 454, 22, 1929, [1283, 1, 0, 9, 1931, 102, 138, 1932], 0, 0),
  (22, .iload_n 2, 23, 0, [2], 0, 0),
  (23, .istore_n 3, 24, 0, [3], 0, 0),
  (24, .iconst (1), 25, 0, [], 1, 0),
  (25, .istore 4, 27, 0, [4], 0, 0),
  (27, .iload 4, 29, 0, [4], 0, 0),
  (29, .aload_n 0, 30, 0, [0], 0, 0),
  (30, .invokevirtual 338, 33, 1795, [1244, 1, 0, 9, 1797, 82, 138, 1798], 0, 0),
  (33, .if_icmp .gt (34), 36, 0, [67], 0, 0),
  (36, .aload_n 0, 37, 0, [0], 0, 0),
  (37, .iload 4, 39, 0, [4], 0, 0),
  (39, .invokevirtual 457, 42, 1961, [1291, 2, 0, 9, 1963, 109, 138, 1964], 0, 0),
  (42, .iload_n 1, 43, 0, [1], 0, 0),
  (43, .iand, 44, 0, [], 0, 0),
  (44, .iload_n 1, 45, 0, [1], 0, 0),
  (45, .if_icmp .eq (6), 48, 0, [51], 0, 0),
  (48, .goto (13), 51, 0, [61], 0, 0),
  (51, .iload_n 3, 52, 0, [3], 0, 0),
  (52, .ifCond .ne (6), 55, 0, [58], 0, 0),
  (55, .iload 4, 57, 0, [4], 0, 0),
  (57, .ireturn, 58, 0, [], 0, 0),
  (58, .iinc 3 (-1), 61, 0, [3], -1, 0),
  (61, .iinc 4 (1), 64, 0, [4], 1, 0),
  (64, .goto (-37), 67, 0, [27], 0, 0),
  (67, .iconst (-1), 68, 0, [], -1, 0),
  (68, .ireturn, 69, 0, [], 0, 0)]
def pt_m1295 : pm_Me := (⟨"TurnCabinetModel", "nth", "(II)I"⟩, prog_12_method_95_code, 5, some .int, 8, 174, pt_q1295_0)
-- TurnCabinetModel.rival(I)I
def pt_q1296_0 : List pm_Q := [(0, .aload_n 0, 1, 0, [0], 0, 0),
  (1, .iload_n 1, 2, 0, [1], 0, 0),
  (2, .invokevirtual 369, 5, 1807, [1248, 2, 0, 9, 1809, 84, 138, 1810], 0, 0),
  (5, .ifCond .ne (5), 8, 0, [10], 0, 0),
  (8, .iconst (-1), 9, 0, [], -1, 0),
  (9, .ireturn, 10, 0, [], 0, 0),
  (10, .aload_n 0, 11, 0, [0], 0, 0),
  (11, .invokevirtual 454, 14, 1929, [1283, 1, 0, 9, 1931, 102, 138, 1932], 0, 0),
  (14, .aload_n 0, 15, 0, [0], 0, 0),
  (15, .getfield 93, 18, 1469, [0, 9, 56], 0, 0),
  (18, .iload_n 1, 19, 0, [1], 0, 0),
  (19, .iaload, 20, 0, [], 0, 0),
  (20, .ireturn, 21, 0, [], 0, 0)]
def pt_m1296 : pm_Me := (⟨"TurnCabinetModel", "rival", "(I)I"⟩, prog_12_method_96_code, 2, some .int, 8, 174, pt_q1296_0)
-- TurnCabinetModel.beats(II)I
def pt_q1298_0 : List pm_Q := [(0, .aload_n 0, 1, 0, [0], 0, 0),
  (1, .iload_n 1, 2, 0, [1], 0, 0),
  (2, .invokevirtual 369, 5, 1807, [1248, 2, 0, 9, 1809, 84, 138, 1810], 0, 0),
  (5, .ifCond .eq (11), 8, 0, [16], 0, 0),
  (8, .aload_n 0, 9, 0, [0], 0, 0),
  (9, .iload_n 2, 10, 0, [2], 0, 0),
  (10, .invokevirtual 369, 13, 1807, [1248, 2, 0, 9, 1809, 84, 138, 1810], 0, 0),
  (13, .ifCond .ne (5), 16, 0, [18], 0, 0),
  (16, .iconst (-1), 17, 0, [], -1, 0),
  (17, .ireturn, 18, 0, [], 0, 0),
  (18, .aload_n 0, 19, 0, [0], 0, 0),
  (19, .invokevirtual 454, 22, 1929, [1283, 1, 0, 9, 1931, 102, 138, 1932], 0, 0),
  (22, .aload_n 0, 23, 0, [0], 0, 0),
  (23, .iload_n 1, 24, 0, [1], 0, 0),
  (24, .iload_n 2, 25, 0, [2], 0, 0),
  (25, .invokevirtual 462, 28, 1990, [1297, 3, 0, 9, 1992, 112, 138, 1993], 0, 0),
  (28, .invokestatic 344, 31, 1772, [1203, 1, 0, 1773, 138, 1774], 0, 0),
  (31, .ireturn, 32, 0, [], 0, 0)]
def pt_m1298 : pm_Me := (⟨"TurnCabinetModel", "beats", "(II)I"⟩, prog_12_method_98_code, 3, some .int, 8, 174, pt_q1298_0)
-- TurnCabinetModel.beatsIt(II)Z
def pt_q1297_0 : List pm_Q := [(0, .iconst (0), 1, 0, [], 0, 0),
  (1, .istore_n 3, 2, 0, [3], 0, 0),
  (2, .iconst (0), 3, 0, [], 0, 0),
  (3, .istore 4, 5, 0, [4], 0, 0),
  (5, .iload 4, 7, 0, [4], 0, 0),
  (7, .aload_n 0, 8, 0, [0], 0, 0),
  (8, .getfield 301, 11, 1443, [0, 9, 30], 0, 0),
  (11, .if_icmp .ge (49), 14, 0, [60], 0, 0),
  (14, .iload_n 3, 15, 0, [3], 0, 0),
  (15, .aload_n 0, 16, 0, [0], 0, 0),
  (16, .getfield 90, 19, 1468, [0, 9, 55], 0, 0),
  (19, .bipush (7), 21, 0, [], 7, 0),
  (21, .iload_n 1, 22, 0, [1], 0, 0),
  (22, .imul, 23, 0, [], 0, 0),
  (23, .iload 4, 25, 0, [4], 0, 0),
  (25, .iadd, 26, 0, [], 0, 0),
  (26, .iaload, 27, 0, [], 0, 0),
  (27, .aload_n 0, 28, 0, [0], 0, 0),
  (28, .getfield 90, 31, 1468, [0, 9, 55], 0, 0),
  (31, .bipush (7), 33, 0, [], 7, 0),
  (33, .iload_n 2, 34, 0, [2], 0, 0),
  (34, .imul, 35, 0, [], 0, 0),
  (35, .iload 4, 37, 0, [4], 0, 0),
  (37, .iadd, 38, 0, [], 0, 0),
  (38, .iaload, 39, 0, [], 0, 0),
  (39, .if_icmp .ge (12), 42, 0, [51], 0, 0),
  (42, .aload_n 0, 43, 0, [0], 0, 0),
  (43, .iload 4, 45, 0, [4], 0, 0),
  (45, .invokevirtual 335, 48, 1764, [1242, 2, 0, 9, 1766, 77, 138, 1767], 0, 0),
  (48, .goto (4), 51, 0, [52], 0, 0),
  (51, .iconst (0), 52, 0, [], 0, 0),
  (52, .iadd, 53, 0, [], 0, 0),
  (53, .istore_n 3, 54, 0, [3], 0, 0),
  (54, .iinc 4 (1), 57, 0, [4], 1, 0),
  (57, .goto (-52), 60, 0, [5], 0, 0),
  (60, .iload_n 3, 61, 0, [3], 0, 0),
  (61, .aload_n 0, 62, 0, [0], 0, 0),
  (62, .invokevirtual 360, 65, 1791, [1245, 1, 0, 9, 1793, 81, 138, 1794], 0, 0),
  (65, .if_icmp .lt (7), 68, 0, [72], 0, 0),
  (68, .iconst (1), 69, 0, [], 1, 0),
  (69, .goto (4), 72, 0, [73], 0, 0),
  (72, .iconst (0), 73, 0, [], 0, 0),
  (73, .ireturn, 74, 0, [], 0, 0)]
def pt_m1297 : pm_Me := (⟨"TurnCabinetModel", "beatsIt", "(II)Z"⟩, prog_12_method_97_code, 5, some .boolean, 3, 64, pt_q1297_0)
-- TurnCabinetModel.unbeaten(I)I
def pt_q1300_0 : List pm_Q := [(0, .aload_n 0, 1, 0, [0], 0, 0),
  (1, .invokevirtual 454, 4, 1929, [1283, 1, 0, 9, 1931, 102, 138, 1932], 0, 0),
  (4, .iconst (0), 5, 0, [], 0, 0),
  (5, .istore_n 2, 6, 0, [2], 0, 0),
  (6, .iconst (1), 7, 0, [], 1, 0),
  (7, .istore_n 3, 8, 0, [3], 0, 0),
  (8, .iload_n 3, 9, 0, [3], 0, 0),
  (9, .aload_n 0, 10, 0, [0], 0, 0),
  (10, .invokevirtual 338, 13, 1795, [1244, 1, 0, 9, 1797, 82, 138, 1798], 0, 0),
  (13, .if_icmp .gt (30), 16, 0, [43], 0, 0),
  (16, .aload_n 0, 17, 0, [0], 0, 0),
  (17, .iload_n 3, 18, 0, [3], 0, 0),
  (18, .invokevirtual 465, 21, 1998, [1299, 2, 0, 9, 2000, 113, 138, 2001], 0, 0),
  (21, .ifCond .ne (6), 24, 0, [27], 0, 0),
  (24, .goto (13), 27, 0, [37], 0, 0),
  (27, .iload_n 2, 28, 0, [2], 0, 0),
  (28, .iload_n 1, 29, 0, [1], 0, 0),
  (29, .if_icmp .ne (5), 32, 0, [34], 0, 0),
  (32, .iload_n 3, 33, 0, [3], 0, 0),
  (33, .ireturn, 34, 0, [], 0, 0),
  (34, .iinc 2 (1), 37, 0, [2], 1, 0),
  (37, .iinc 3 (1), 40, 0, [3], 1, 0),
  (40, .goto (-32), 43, 0, [8], 0, 0),
  (43, .iload_n 1, 44, 0, [1], 0, 0),
  (44, .iconst (-1), 45, 0, [], -1, 0),
  (45, .if_icmp .ne (7), 48, 0, [52], 0, 0),
  (48, .iload_n 2, 49, 0, [2], 0, 0),
  (49, .goto (4), 52, 0, [53], 0, 0),
  (52, .iconst (-1), 53, 0, [], -1, 0),
  (53, .ireturn, 54, 0, [], 0, 0)]
def pt_m1300 : pm_Me := (⟨"TurnCabinetModel", "unbeaten", "(I)I"⟩, prog_12_method_100_code, 4, some .int, 8, 174, pt_q1300_0)
-- TurnCabinetModel.isUnbeaten(I)Z
def pt_q1299_0 : List pm_Q := [(0, .aload_n 0, 1, 0, [0], 0, 0),
  (1, .iload_n 1, 2, 0, [1], 0, 0),
  (2, .invokevirtual 441, 5, 1945, [1286, 2, 0, 9, 1947, 106, 138, 1948], 0, 0),
  (5, .ifCond .ne (5), 8, 0, [10], 0, 0),
  (8, .iconst (0), 9, 0, [], 0, 0),
  (9, .ireturn, 10, 0, [], 0, 0),
  (10, .iconst (1), 11, 0, [], 1, 0),
  (11, .istore_n 2, 12, 0, [2], 0, 0),
  (12, .iload_n 2, 13, 0, [2], 0, 0),
  (13, .aload_n 0, 14, 0, [0], 0, 0),
  (14, .invokevirtual 338, 17, 1795, [1244, 1, 0, 9, 1797, 82, 138, 1798], 0, 0),
  (17, .if_icmp .gt (28), 20, 0, [45], 0, 0),
  (20, .aload_n 0, 21, 0, [0], 0, 0),
  (21, .iload_n 2, 22, 0, [2], 0, 0),
  (22, .invokevirtual 441, 25, 1945, [1286, 2, 0, 9, 1947, 106, 138, 1948], 0, 0),
  (25, .ifCond .eq (14), 28, 0, [39], 0, 0),
  (28, .aload_n 0, 29, 0, [0], 0, 0),
  (29, .iload_n 2, 30, 0, [2], 0, 0),
  (30, .iload_n 1, 31, 0, [1], 0, 0),
  (31, .invokevirtual 462, 34, 1990, [1297, 3, 0, 9, 1992, 112, 138, 1993], 0, 0),
  (34, .ifCond .eq (5), 37, 0, [39], 0, 0),
  (37, .iconst (0), 38, 0, [], 0, 0),
  (38, .ireturn, 39, 0, [], 0, 0),
  (39, .iinc 2 (1), 42, 0, [2], 1, 0),
  (42, .goto (-30), 45, 0, [12], 0, 0),
  (45, .iconst (1), 46, 0, [], 1, 0),
  (46, .ireturn, 47, 0, [], 0, 0)]
def pt_m1299 : pm_Me := (⟨"TurnCabinetModel", "isUnbeaten", "(I)Z"⟩, prog_12_method_99_code, 3, some .boolean, 5, 106, pt_q1299_0)
-- TurnCabinetModel.enough(II)I
def pt_q1301_0 : List pm_Q := [(0, .aload_n 0, 1, 0, [0], 0, 0),
  (1, .iload_n 1, 2, 0, [1], 0, 0),
  (2, .invokevirtual 369, 5, 1807, [1248, 2, 0, 9, 1809, 84, 138, 1810], 0, 0),
  (5, .ifCond .eq (19), 8, 0, [24], 0, 0),
  (8, .aload_n 0, 9, 0, [0], 0, 0),
  (9, .iload_n 2, 10, 0, [2], 0, 0),
  (10, .invokevirtual 348, 13, 1760, [1246, 2, 0, 9, 1762, 76, 138, 1763], 0, 0),
  (13, .ifCond .eq (11), 16, 0, [24], 0, 0),
  (16, .iload_n 1, 17, 0, [1], 0, 0),
  (17, .iload_n 2, 18, 0, [2], 0, 0),
  (18, .invokestatic 242, 21, 1666, [1205, 2, 0, 1667, 138, 1668], 0, 0),
  (21, .ifCond .ne (5), 24, 0, [26], 0, 0),
  (24, .iconst (-1), 25, 0, [], -1, 0),
  (25, .ireturn, 26, 0, [], 0, 0),
  (26, .aload_n 0, 27, 0, [0], 0, 0),
  (27, .iload_n 1, 28, 0, [1], 0, 0),
  (28, .invokevirtual 341, 31, 1799, [1243, 2, 0, 9, 1801, 83, 138, 1802], 0, 0),
  (31, .aload_n 0, 32, 0, [0], 0, 0),
  (32, .iload_n 2, 33, 0, [2], 0, 0),
  (33, .invokevirtual 335, 36, 1764, [1242, 2, 0, 9, 1766, 77, 138, 1767], 0, 0),
  (36, .isub, 37, 0, [], 0, 0),
  (37, .istore_n 3, 38, 0, [3], 0, 0),
  (38, .aload_n 0, 39, 0, [0], 0, 0),
  (39, .aload_n 0, 40, 0, [0], 0, 0),
  (40, .invokevirtual 338, 43, 1795, [1244, 1, 0, 9, 1797, 82, 138, 1798], 0, 0),
  (43, .invokevirtual 341, 46, 1799, [1243, 2, 0, 9, 1801, 83, 138, 1802], 0, 0),
  (46, .aload_n 0, 47, 0, [0], 0, 0),
  (47, .iload_n 2, 48, 0, [2], 0, 0),
  (48, .invokevirtual 335, 51, 1764, [1242, 2, 0, 9, 1766, 77, 138, 1767], 0, 0),
  (51, .isub, 52, 0, [], 0, 0),
  (52, .istore 4, 54, 0, [4], 0, 0),
  (54, .iconst (1), 55, 0, [], 1, 0),
  (55, .istore 5, 57, 0, [5], 0, 0),
  (57, .iload 5, 59, 0, [5], 0, 0),
  (59, .sipush (999), 62, 0, [], 999, 0),
  (62, .if_icmp .gt (43), 65, 0, [105], 0, 0),
  (65, .iload_n 3, 66, 0, [3], 0, 0),
  (66, .iload 5, 68, 0, [5], 0, 0),
  (68, .iadd, 69, 0, [], 0, 0),
  (69, .aload_n 0, 70, 0, [0], 0, 0),
  (70, .getfield 313, 73, 1447, [0, 9, 34], 0, 0),
  (73, .iconst (-1), 74, 0, [], -1, 0),
  (74, .if_icmp .eq (10), 77, 0, [84], 0, 0),
  (77, .aload_n 0, 78, 0, [0], 0, 0),
  (78, .getfield 313, 81, 1447, [0, 9, 34], 0, 0),
  (81, .goto (12), 84, 0, [93], 0, 0),
  (84, .iload 4, 86, 0, [4], 0, 0),
  (86, .iload 5, 88, 0, [5], 0, 0),
  (88, .iadd, 89, 0, [], 0, 0),
  (89, .iconst (2), 90, 0, [], 2, 0),
  (90, .idiv, 91, 0, [], 0, 0),
  (91, .iconst (1), 92, 0, [], 1, 0),
  (92, .iadd, 93, 0, [], 0, 0),
  (93, .if_icmp .lt (6), 96, 0, [99], 0, 0),
  (96, .iload 5, 98, 0, [5], 0, 0),
  (98, .ireturn, 99, 0, [], 0, 0),
  (99, .iinc 5 (1), 102, 0, [5], 1, 0),
  (102, .goto (-45), 105, 0, [57], 0, 0),
  (105, .iconst (-1), 106, 0, [], -1, 0),
  (106, .ireturn, 107, 0, [], 0, 0)]
def pt_m1301 : pm_Me := (⟨"TurnCabinetModel", "enough", "(II)I"⟩, prog_12_method_101_code, 6, some .int, 2, 46, pt_q1301_0)
-- TurnCabinetModel.span(I)I
def pt_q1302_0 : List pm_Q := [(0, .aload_n 0, 1, 0, [0], 0, 0),
  (1, .iload_n 1, 2, 0, [1], 0, 0),
  (2, .invokevirtual 369, 5, 1807, [1248, 2, 0, 9, 1809, 84, 138, 1810], 0, 0),
  (5, .ifCond .ne (5), 8, 0, [10], 0, 0),
  (8, .iconst (-1), 9, 0, [], -1, 0),
  (9, .ireturn, 10, 0, [], 0, 0),
  (10, .bipush (99), 12, 0, [], 99, 0),
  (12, .istore_n 2, 13, 0, [2], 0, 0),
  (13, .iconst (0), 14, 0, [], 0, 0),
  (14, .istore_n 3, 15, 0, [3], 0, 0),
  (15, .iconst (0), 16, 0, [], 0, 0),
  (16, .istore 4, 18, 0, [4], 0, 0),
  (18, .iload 4, 20, 0, [4], 0, 0),
  (20, .aload_n 0, 21, 0, [0], 0, 0),
  (21, .getfield 301, 24, 1443, [0, 9, 30], 0, 0),
  (24, .if_icmp .ge (56), 27, 0, [80], 0, 0),
  (27, .iload_n 1, 28, 0, [1], 0, 0),
  (28, .iload 4, 30, 0, [4], 0, 0),
  (30, .invokestatic 242, 33, 1666, [1205, 2, 0, 1667, 138, 1668], 0, 0),
  (33, .ifCond .ne (6), 36, 0, [39], 0, 0),
  (36, .goto (38), 39, 0, [74], 0, 0),
  (39, .aload_n 0, 40, 0, [0], 0, 0),
  (40, .getfield 45, 43, 1451, [0, 9, 38], 0, 0),
  (43, .iload 4, 45, 0, [4], 0, 0),
  (45, .iaload, 46, 0, [], 0, 0),
  (46, .iload_n 2, 47, 0, [2], 0, 0),
  (47, .if_icmp .ge (13), 50, 0, [60], 0, 0),
  (50, .aload_n 0, 51, 0, [0], 0, 0),
  (51, .getfield 45, 54, 1451, [0, 9, 38], 0, 0),
  (54, .iload 4, 56, 0, [4], 0, 0),
  (56, .iaload, 57, 0, [], 0, 0),
  (57, .goto (4), 60, 0, [61], 0, 0),
  (60, .iload_n 2, 61, 0, [2], 0, 0),
  (61, .istore_n 2, 62, 0, [2], 0, 0),
  (62, .iload_n 3, 63, 0, [3], 0, 0),
  (63, .aload_n 0, 64, 0, [0], 0, 0),
  (64, .getfield 45, 67, 1451, [0, 9, 38], 0, 0),
  (67, .iload 4, 69, 0, [4], 0, 0),
  (69, .iaload, 70, 0, [], 0, 0),
  (70, .invokestatic 325, 73, 1410, [1204, 2, 0, 1411, 138, 1412], 0, 0),
  (73, .istore_n 3, 74, 0, [3], 0, 0),
  (74, .iinc 4 (1), 77, 0, [4], 1, 0),
  (77, .goto (-59), 80, 0, [18], 0, 0),
  (80, .iload_n 3, 81, 0, [3], 0, 0),
  (81, .iload_n 2, 82, 0, [2], 0, 0),
  (82, .isub, 83, 0, [], 0, 0),
  (83, .ireturn, 84, 0, [], 0, 0)]
def pt_m1302 : pm_Me := (⟨"TurnCabinetModel", "span", "(I)I"⟩, prog_12_method_102_code, 5, some .int, 2, 46, pt_q1302_0)
-- TurnCabinetModel.median()I
def pt_q1303_0 : List pm_Q := [(0, .iconst (0), 1, 0, [], 0, 0),
  (1, .istore_n 1, 2, 0, [1], 0, 0),
  (2, .aload_n 0, 3, 0, [0], 0, 0),
  (3, .aload_n 0, 4, 0, [0], 0, 0),
  (4, .invokevirtual 338, 7, 1795, [1244, 1, 0, 9, 1797, 82, 138, 1798], 0, 0),
  (7, .invokevirtual 341, 10, 1799, [1243, 2, 0, 9, 1801, 83, 138, 1802], 0, 0),
  (10, .istore_n 2, 11, 0, [2], 0, 0),
  (11, .iconst (0), 12, 0, [], 0, 0),
  (12, .istore_n 3, 13, 0, [3], 0, 0),
  (13, .iload_n 3, 14, 0, [3], 0, 0),
  (14, .bipush (99), 16, 0, [], 99, 0),
  (16, .if_icmp .gt (60), 19, 0, [76], 0, 0),
  (19, .iconst (0), 20, 0, [], 0, 0),
  (20, .istore 4, 22, 0, [4], 0, 0),
  (22, .iload 4, 24, 0, [4], 0, 0),
  (24, .aload_n 0, 25, 0, [0], 0, 0),
  (25, .getfield 301, 28, 1443, [0, 9, 30], 0, 0),
  (28, .if_icmp .ge (42), 31, 0, [70], 0, 0),
  (31, .aload_n 0, 32, 0, [0], 0, 0),
  (32, .getfield 45, 35, 1451, [0, 9, 38], 0, 0),
  (35, .iload 4, 37, 0, [4], 0, 0),
  (37, .iaload, 38, 0, [], 0, 0),
  (38, .iload_n 3, 39, 0, [3], 0, 0),
  (39, .if_icmp .eq (6), 42, 0, [45], 0, 0),
  (42, .goto (22), 45, 0, [64], 0, 0),
  (45, .iload_n 1, 46, 0, [1], 0, 0),
  (46, .aload_n 0, 47, 0, [0], 0, 0),
  (47, .iload 4, 49, 0, [4], 0, 0),
  (49, .invokevirtual 335, 52, 1764, [1242, 2, 0, 9, 1766, 77, 138, 1767], 0, 0),
  (52, .iadd, 53, 0, [], 0, 0),
  (53, .istore_n 1, 54, 0, [1], 0, 0),
  (54, .iconst (2), 55, 0, [], 2, 0),
  (55, .iload_n 1, 56, 0, [1], 0, 0),
  (56, .imul, 57, 0, [], 0, 0),
  (57, .iload_n 2, 58, 0, [2], 0, 0),
  (58, .if_icmp .lt (6), 61, 0, [64], 0, 0),
  (61, .iload 4, 63, 0, [4], 0, 0),
  (63, .ireturn, 64, 0, [], 0, 0),
  (64, .iinc 4 (1), 67, 0, [4], 1, 0),
  (67, .goto (-45), 70, 0, [22], 0, 0),
  (70, .iinc 3 (1), 73, 0, [3], 1, 0),
  (73, .goto (-60), 76, 0, [13, 4], 0, 0),
  (76, .iconst (-1), 77, 0, [], -1, 0),
  (77, .ireturn, 78, 0, [], 0, 0)]
def pt_m1303 : pm_Me := (⟨"TurnCabinetModel", "median", "()I"⟩, prog_12_method_103_code, 5, some .int, 2, 44, pt_q1303_0)
-- TurnCabinetModel.needed(I)I
def pt_q1304_0 : List pm_Q := [(0, .aload_n 0, 1, 0, [0], 0, 0),
  (1, .iload_n 1, 2, 0, [1], 0, 0),
  (2, .invokevirtual 348, 5, 1760, [1246, 2, 0, 9, 1762, 76, 138, 1763], 0, 0),
  (5, .ifCond .ne (5), 8, 0, [10], 0, 0),
  (8, .iconst (-1), 9, 0, [], -1, 0),
  (9, .ireturn, 10, 0, [], 0, 0),
  (10, .iconst (0), 11, 0, [], 0, 0),
  (11, .istore_n 2, 12, 0, [2], 0, 0),
  (12, .iconst (1), 13, 0, [], 1, 0),
  (13, .istore_n 3, 14, 0, [3], 0, 0),
  (14, .iload_n 3, 15, 0, [3], 0, 0),
  (15, .aload_n 0, 16, 0, [0], 0, 0),
  (16, .invokevirtual 338, 19, 1795, [1244, 1, 0, 9, 1797, 82, 138, 1798], 0, 0),
  (19, .if_icmp .gt (50), 22, 0, [69], 0, 0),
  (22, .iload_n 2, 23, 0, [2], 0, 0),
  (23, .iload_n 3, 24, 0, [3], 0, 0),
  (24, .iload_n 1, 25, 0, [1], 0, 0),
  (25, .invokestatic 242, 28, 1666, [1205, 2, 0, 1667, 138, 1668], 0, 0),
  (28, .ifCond .eq (29), 31, 0, [57], 0, 0),
  (31, .aload_n 0, 32, 0, [0], 0, 0),
  (32, .iload_n 3, 33, 0, [3], 0, 0),
  (33, .invokevirtual 435, 36, 1949, [1284, 2, 0, 9, 1951, 107, 138, 1952], 0, 0),
  (36, .ifCond .eq (21), 39, 0, [57], 0, 0),
  (39, .aload_n 0, 40, 0, [0], 0, 0),
  (40, .iload_n 3, 41, 0, [3], 0, 0),
  (41, .iconst (1), 42, 0, [], 1, 0),
  (42, .iload_n 1, 43, 0, [1], 0, 0),
  (43, .ishl, 44, 0, [], 0, 0),
  (44, .iconst (-1), 45, 0, [], -1, 0),
  (45, .ixor, 46, 0, [], 0, 0),
  (46, .iand, 47, 0, [], 0, 0),
  (47, .invokevirtual 435, 50, 1949, [1284, 2, 0, 9, 1951, 107, 138, 1952], 0, 0),
  (50, .ifCond .ne (7), 53, 0, [57], 0, 0),
  (53, .iconst (1), 54, 0, [], 1, 0),
  (54, .goto (4), 57, 0, [58], 0, 0),
  (57, .iconst (0), 58, 0, [], 0, 0),
  (58, .invokestatic 344, 61, 1772, [1203, 1, 0, 1773, 138, 1774], 0, 0),
  (61, .iadd, 62, 0, [], 0, 0),
  (62, .istore_n 2, 63, 0, [2], 0, 0),
  (63, .iinc 3 (1), 66, 0, [3], 1, 0),
  (66, .goto (-52), 69, 0, [14], 0, 0),
  (69, .iload_n 2, 70, 0, [2], 0, 0),
  (70, .ireturn, 71, 0, [], 0, 0)]
def pt_m1304 : pm_Me := (⟨"TurnCabinetModel", "needed", "(I)I"⟩, prog_12_method_104_code, 4, some .int, 4, 85, pt_q1304_0)
-- TurnCabinetModel.pivot(I)I
def pt_q1306_0 : List pm_Q := [(0, .aload_n 0, 1, 0, [0], 0, 0),
  (1, .iload_n 1, 2, 0, [1], 0, 0),
  (2, .invokevirtual 348, 5, 1760, [1246, 2, 0, 9, 1762, 76, 138, 1763], 0, 0),
  (5, .ifCond .ne (5), 8, 0, [10], 0, 0),
  (8, .iconst (-1), 9, 0, [], -1, 0),
  (9, .ireturn, 10, 0, [], 0, 0),
  (10, .iconst (0), 11, 0, [], 0, 0),
  (11, .istore_n 2, 12, 0, [2], 0, 0),
  (12, .iconst (0), 13, 0, [], 0, 0),
  (13, .istore_n 3, 14, 0, [3], 0, 0),
  (14, .iload_n 3, 15, 0, [3], 0, 0),
  (15, .aload_n 0, 16, 0, [0], 0, 0),
  (16, .invokevirtual 338, 19, 1795, [1244, 1, 0, 9, 1797, 82, 138, 1798], 0, 0),
  (19, .if_icmp .gt (62), 22, 0, [81], 0, 0),
  (22, .iload_n 3, 23, 0, [3], 0, 0),
  (23, .iload_n 1, 24, 0, [1], 0, 0),
  (24, .invokestatic 242, 27, 1666, [1205, 2, 0, 1667, 138, 1668], 0, 0),
  (27, .ifCond .ne (48), 30, 0, [75], 0, 0),
  (30, .aload_n 0, 31, 0, [0], 0, 0),
  (31, .iload_n 3, 32, 0, [3], 0, 0),
  (32, .invokevirtual 435, 35, 1949, [1284, 2, 0, 9, 1951, 107, 138, 1952], 0, 0),
  (35, .ifCond .ne (40), 38, 0, [75], 0, 0),
  (38, .aload_n 0, 39, 0, [0], 0, 0),
  (39, .iload_n 3, 40, 0, [3], 0, 0),
  (40, .iconst (1), 41, 0, [], 1, 0),
  (41, .iload_n 1, 42, 0, [1], 0, 0),
  (42, .ishl, 43, 0, [], 0, 0),
  (43, .ior, 44, 0, [], 0, 0),
  (44, .invokevirtual 435, 47, 1949, [1284, 2, 0, 9, 1951, 107, 138, 1952], 0, 0),
  (47, .ifCond .eq (28), 50, 0, [75], 0, 0),
  (50, .iload_n 2, 51, 0, [2], 0, 0),
  (51, .iload_n 3, 52, 0, [3], 0, 0),
  (52, .invokestatic 377, 55, 1845, [1206, 1, 0, 1846, 138, 1847], 0, 0),
  (55, .invokestatic 468, 58, 2022, [1305, 1, 0, 2023, 138, 2024], 0, 0),
  (58, .aload_n 0, 59, 0, [0], 0, 0),
  (59, .getfield 301, 62, 1443, [0, 9, 30], 0, 0),
  (62, .iconst (1), 63, 0, [], 1, 0),
  (63, .isub, 64, 0, [], 0, 0),
  (64, .iload_n 3, 65, 0, [3], 0, 0),
  (65, .invokestatic 377, 68, 1845, [1206, 1, 0, 1846, 138, 1847], 0, 0),
  (68, .isub, 69, 0, [], 0, 0),
  (69, .invokestatic 468, 72, 2022, [1305, 1, 0, 2023, 138, 2024], 0, 0),
  (72, .imul, 73, 0, [], 0, 0),
  (73, .iadd, 74, 0, [], 0, 0),
  (74, .istore_n 2, 75, 0, [2], 0, 0),
  (75, .iinc 3 (1), 78, 0, [3], 1, 0),
  (78, .goto (-64), 81, 0, [14], 0, 0),
  (81, .iload_n 2, 82, 0, [2], 0, 0),
  (82, .ireturn, 83, 0, [], 0, 0)]
def pt_m1306 : pm_Me := (⟨"TurnCabinetModel", "pivot", "(I)I"⟩, prog_12_method_106_code, 4, some .int, 4, 85, pt_q1306_0)
-- TurnCabinetModel.orders(I)I
def pt_q1305_0 : List pm_Q := [(0, .iconst (1), 1, 0, [], 1, 0),
  (1, .istore_n 1, 2, 0, [1], 0, 0),
  (2, .iconst (2), 3, 0, [], 2, 0),
  (3, .istore_n 2, 4, 0, [2], 0, 0),
  (4, .iload_n 2, 5, 0, [2], 0, 0),
  (5, .iload_n 0, 6, 0, [0], 0, 0),
  (6, .if_icmp .gt (13), 9, 0, [19], 0, 0),
  (9, .iload_n 1, 10, 0, [1], 0, 0),
  (10, .iload_n 2, 11, 0, [2], 0, 0),
  (11, .imul, 12, 0, [], 0, 0),
  (12, .istore_n 1, 13, 0, [1], 0, 0),
  (13, .iinc 2 (1), 16, 0, [2], 1, 0),
  (16, .goto (-12), 19, 0, [4], 0, 0),
  (19, .iload_n 1, 20, 0, [1], 0, 0),
  (20, .ireturn, 21, 0, [], 0, 0)]
def pt_m1305 : pm_Me := (⟨"TurnCabinetModel", "orders", "(I)I"⟩, prog_12_method_105_code, 3, some .int, 0, 0, pt_q1305_0)
-- TurnCabinetModel.joins(I)I
def pt_q1307_0 : List pm_Q := [(0, .aload_n 0, 1, 0, [0], 0, 0),
  (1, .iload_n 1, 2, 0, [1], 0, 0),
  (2, .invokevirtual 369, 5, 1807, [1248, 2, 0, 9, 1809, 84, 138, 1810], 0, 0),
  (5, .ifCond .ne (5), 8, 0, [10], 0, 0),
  (8, .iconst (-1), 9, 0, [], -1, 0),
  (9, .ireturn, 10, 0, [], 0, 0),
  (10, .iconst (-1), 11, 0, [], -1, 0),
  (11, .istore_n 2, 12, 0, [2], 0, 0),
  (12, .iconst (0), 13, 0, [], 0, 0),
  (13, .istore_n 3, 14, 0, [3], 0, 0),
  (14, .iload_n 3, 15, 0, [3], 0, 0),
  (15, .aload_n 0, 16, 0, [0], 0, 0),
  (16, .invokevirtual 338, 19, 1795, [1244, 1, 0, 9, 1797, 82, 138, 1798], 0, 0),
  (19, .if_icmp .gt (43), 22, 0, [62], 0, 0),
  (22, .iload_n 3, 23, 0, [3], 0, 0),
  (23, .iload_n 1, 24, 0, [1], 0, 0),
  (24, .iand, 25, 0, [], 0, 0),
  (25, .ifCond .ne (31), 28, 0, [56], 0, 0),
  (28, .aload_n 0, 29, 0, [0], 0, 0),
  (29, .iload_n 1, 30, 0, [1], 0, 0),
  (30, .iload_n 3, 31, 0, [3], 0, 0),
  (31, .ior, 32, 0, [], 0, 0),
  (32, .invokevirtual 441, 35, 1945, [1286, 2, 0, 9, 1947, 106, 138, 1948], 0, 0),
  (35, .ifCond .eq (21), 38, 0, [56], 0, 0),
  (38, .iload_n 2, 39, 0, [2], 0, 0),
  (39, .iconst (-1), 40, 0, [], -1, 0),
  (40, .if_icmp .eq (14), 43, 0, [54], 0, 0),
  (43, .iload_n 3, 44, 0, [3], 0, 0),
  (44, .invokestatic 377, 47, 1845, [1206, 1, 0, 1846, 138, 1847], 0, 0),
  (47, .iload_n 2, 48, 0, [2], 0, 0),
  (48, .invokestatic 377, 51, 1845, [1206, 1, 0, 1846, 138, 1847], 0, 0),
  (51, .if_icmp .ge (5), 54, 0, [56], 0, 0),
  (54, .iload_n 3, 55, 0, [3], 0, 0),
  (55, .istore_n 2, 56, 0, [2], 0, 0),
  (56, .iinc 3 (1), 59, 0, [3], 1, 0),
  (59, .goto (-45), 62, 0, [14], 0, 0),
  (62, .iload_n 2, 63, 0, [2], 0, 0),
  (63, .ireturn, 64, 0, [], 0, 0)]
def pt_m1307 : pm_Me := (⟨"TurnCabinetModel", "joins", "(I)I"⟩, prog_12_method_107_code, 4, some .int, 5, 106, pt_q1307_0)
-- TurnCabinetModel.dream(I)I
def pt_q1308_0 : List pm_Q := [(0, .aload_n 0, 1, 0, [0], 0, 0),
  (1, .iload_n 1, 2, 0, [1], 0, 0),
  (2, .invokevirtual 348, 5, 1760, [1246, 2, 0, 9, 1762, 76, 138, 1763], 0, 0),
  (5, .ifCond .ne (5), 8, 0, [10], 0, 0),
  (8, .iconst (-1), 9, 0, [], -1, 0),
  (9, .ireturn, 10, 0, [], 0, 0),
  (10, .aload_n 0, 11, 0, [0], 0, 0),
  (11, .invokevirtual 454, 14, 1929, [1283, 1, 0, 9, 1931, 102, 138, 1932], 0, 0),
  (14, .iconst (0), 15, 0, [], 0, 0),
  (15, .istore_n 2, 16, 0, [2], 0, 0),
  (16, .iconst (1), 17, 0, [], 1, 0),
  (17, .istore_n 3, 18, 0, [3], 0, 0),
  (18, .iload_n 3, 19, 0, [3], 0, 0),
  (19, .aload_n 0, 20, 0, [0], 0, 0),
  (20, .invokevirtual 338, 23, 1795, [1244, 1, 0, 9, 1797, 82, 138, 1798], 0, 0),
  (23, .if_icmp .gt (48), 26, 0, [71], 0, 0),
  (26, .aload_n 0, 27, 0, [0], 0, 0),
  (27, .iload_n 3, 28, 0, [3], 0, 0),
  (28, .invokevirtual 441, 31, 1945, [1286, 2, 0, 9, 1947, 106, 138, 1948], 0, 0),
  (31, .ifCond .eq (34), 34, 0, [65], 0, 0),
  (34, .iload_n 2, 35, 0, [2], 0, 0),
  (35, .ifCond .eq (28), 38, 0, [63], 0, 0),
  (38, .aload_n 0, 39, 0, [0], 0, 0),
  (39, .getfield 87, 42, 1467, [0, 9, 54], 0, 0),
  (42, .bipush (7), 44, 0, [], 7, 0),
  (44, .iload_n 3, 45, 0, [3], 0, 0),
  (45, .imul, 46, 0, [], 0, 0),
  (46, .iload_n 1, 47, 0, [1], 0, 0),
  (47, .iadd, 48, 0, [], 0, 0),
  (48, .iaload, 49, 0, [], 0, 0),
  (49, .aload_n 0, 50, 0, [0], 0, 0),
  (50, .getfield 87, 53, 1467, [0, 9, 54], 0, 0),
  (53, .bipush (7), 55, 0, [], 7, 0),
  (55, .iload_n 2, 56, 0, [2], 0, 0),
  (56, .imul, 57, 0, [], 0, 0),
  (57, .iload_n 1, 58, 0, [1], 0, 0),
  (58, .iadd, 59, 0, [], 0, 0),
  (59, .iaload, 60, 0, [], 0, 0),
  (60, .if_icmp .le (5), 63, 0, [65], 0, 0),
  (63, .iload_n 3, 64, 0, [3], 0, 0),
  (64, .istore_n 2, 65, 0, [2], 0, 0),
  (65, .iinc 3 (1), 68, 0, [3], 1, 0),
  (68, .goto (-50), 71, 0, [18], 0, 0),
  (71, .iload_n 2, 72, 0, [2], 0, 0),
  (72, .ireturn, 73, 0, [], 0, 0)]
def pt_m1308 : pm_Me := (⟨"TurnCabinetModel", "dream", "(I)I"⟩, prog_12_method_108_code, 4, some .int, 8, 174, pt_q1308_0)
-- TurnCabinetModel.drift(II)I
def pt_q1309_0 : List pm_Q := [(0, .aload_n 0, 1, 0, [0], 0, 0),
  (1, .iload_n 1, 2, 0, [1], 0, 0),
  (2, .invokevirtual 369, 5, 1807, [1248, 2, 0, 9, 1809, 84, 138, 1810], 0, 0),
  (5, .ifCond .eq (13), 8, 0, [18], 0, 0),
  (8, .iload_n 2, 9, 0, [2], 0, 0),
  (9, .i2l, 10, 0, [], 0, 0),
  (10, .lconst 0, 11, 0, [], 0, 0),
  (11, .lconst 1, 12, 0, [], 0, 1),
  (12, .invokestatic 125, 15, 1624, [1202, 3, 0, 1625, 138, 1626], 0, 0),
  (15, .ifCond .ne (5), 18, 0, [20], 0, 0),
  (18, .iconst (-1), 19, 0, [], -1, 0),
  (19, .ireturn, 20, 0, [], 0, 0),
  (20, .aload_n 0, 21, 0, [0], 0, 0),
  (21, .invokevirtual 454, 24, 1929, [1283, 1, 0, 9, 1931, 102, 138, 1932], 0, 0),
  (24, .iconst (0), 25, 0, [], 0, 0),
  (25, .istore_n 3, 26, 0, [3], 0, 0),
  (26, .iload_n 3, 27, 0, [3], 0, 0),
  (27, .sipush (128), 30, 0, [], 128, 0),
  (30, .if_icmp .ge (16), 33, 0, [46], 0, 0),
  (33, .aload_n 0, 34, 0, [0], 0, 0),
  (34, .getfield 96, 37, 1471, [0, 9, 58], 0, 0),
  (37, .iload_n 3, 38, 0, [3], 0, 0),
  (38, .iconst (0), 39, 0, [], 0, 0),
  (39, .bastore, 40, 0, [], 0, 0),
  (40, .iinc 3 (1), 43, 0, [3], 1, 0),
  (43, .goto (-17), 46, 0, [26], 0, 0),
  (46, .iload_n 1, 47, 0, [1], 0, 0),
  (47, .istore_n 3, 48, 0, [3], 0, 0),
  (48, .iconst (0), 49, 0, [], 0, 0),
  (49, .istore 4, 51, 0, [4], 0, 0),
  (51, .aload_n 0, 52, 0, [0], 0, 0),
  (52, .getfield 96, 55, 1471, [0, 9, 58], 0, 0),
  (55, .iload_n 1, 56, 0, [1], 0, 0),
  (56, .iconst (1), 57, 0, [], 1, 0),
  (57, .bastore, 58, 0, [], 0, 0),
  (58, .aload_n 0, 59, 0, [0], 0, 0),
  (59, .getfield 93, 62, 1469, [0, 9, 56], 0, 0),
  (62, .iload_n 3, 63, 0, [3], 0, 0),
  (63, .iaload, 64, 0, [], 0, 0),
  (64, .ifCond .le (37), 67, 0, [101], 0, 0),
  (67, .aload_n 0, 68, 0, [0], 0, 0),
  (68, .getfield 96, 71, 1471, [0, 9, 58], 0, 0),
  (71, .aload_n 0, 72, 0, [0], 0, 0),
  (72, .getfield 93, 75, 1469, [0, 9, 56], 0, 0),
  (75, .iload_n 3, 76, 0, [3], 0, 0),
  (76, .iaload, 77, 0, [], 0, 0),
  (77, .baload, 78, 0, [], 0, 0),
  (78, .ifCond .ne (23), 81, 0, [101], 0, 0),
  (81, .aload_n 0, 82, 0, [0], 0, 0),
  (82, .getfield 93, 85, 1469, [0, 9, 56], 0, 0),
  (85, .iload_n 3, 86, 0, [3], 0, 0),
  (86, .iaload, 87, 0, [], 0, 0),
  (87, .istore_n 3, 88, 0, [3], 0, 0),
  (88, .aload_n 0, 89, 0, [0], 0, 0),
  (89, .getfield 96, 92, 1471, [0, 9, 58], 0, 0),
  (92, .iload_n 3, 93, 0, [3], 0, 0),
  (93, .iconst (1), 94, 0, [], 1, 0),
  (94, .bastore, 95, 0, [], 0, 0),
  (95, .iinc 4 (1), 98, 0, [4], 1, 0),
  (98, .goto (-40), 101, 0, [58], 0, 0)]
def pt_q1309_1 : List pm_Q := [(101, .iload_n 2, 102, 0, [2], 0, 0),
  (102, .ifCond .ne (8), 105, 0, [110], 0, 0),
  (105, .iload 4, 107, 0, [4], 0, 0),
  (107, .goto (17), 110, 0, [124], 0, 0),
  (110, .aload_n 0, 111, 0, [0], 0, 0),
  (111, .getfield 93, 114, 1469, [0, 9, 56], 0, 0),
  (114, .iload_n 3, 115, 0, [3], 0, 0),
  (115, .iaload, 116, 0, [], 0, 0),
  (116, .ifCond .ne (7), 119, 0, [123], 0, 0),
  (119, .iload_n 3, 120, 0, [3], 0, 0),
  (120, .goto (4), 123, 0, [124], 0, 0),
  (123, .iconst (0), 124, 0, [], 0, 0),
  (124, .ireturn, 125, 0, [], 0, 0)]
def pt_m1309 : pm_Me := (⟨"TurnCabinetModel", "drift", "(II)I"⟩, prog_12_method_109_code, 5, some .int, 8, 174, pt_q1309_0 ++ pt_q1309_1)
-- TurnCabinetModel.formed(I)I
def pt_q1316_0 : List pm_Q := [(0, .aload_n 0, 1, 0, [0], 0, 0),
  (1, .getfield 301, 4, 1443, [0, 9, 30], 0, 0),
  (4, .ifCond .eq (15), 7, 0, [19], 0, 0),
  (7, .iload_n 1, 8, 0, [1], 0, 0),
  (8, .i2l, 9, 0, [], 0, 0),
  (9, .lconst 0, 10, 0, [], 0, 0),
  (10, .ldc2_w 495, 13, 2041, [], 0, 3),
  (13, .invokestatic 125, 16, 1624, [1202, 3, 0, 1625, 138, 1626], 0, 0),
  (16, .ifCond .ne (5), 19, 0, [21], 0, 0),
  (19, .iconst (-1), 20, 0, [], -1, 0),
  (20, .ireturn, 21, 0, [], 0, 0),
  (21, .aload_n 0, 22, 0, [0], 0, 0),
  (22, .invokevirtual 497, 25, 2042, [1315, 1, 0, 9, 2044, 114, 138, 2045], 0, 0),
  (25, .iload_n 1, 26, 0, [1], 0, 0),
  (26, .tableswitch (41) (0) (2) #[26, 31, 36], 52, 0, [67, 52, 57, 62], 0, 0),
  (52, .aload_n 0, 53, 0, [0], 0, 0),
  (53, .getfield 480, 56, 1478, [0, 9, 65], 0, 0),
  (56, .ireturn, 57, 0, [], 0, 0),
  (57, .aload_n 0, 58, 0, [0], 0, 0),
  (58, .getfield 471, 61, 1476, [0, 9, 63], 0, 0),
  (61, .ireturn, 62, 0, [], 0, 0),
  (62, .aload_n 0, 63, 0, [0], 0, 0),
  (63, .getfield 474, 66, 1477, [0, 9, 64], 0, 0),
  (66, .ireturn, 67, 0, [], 0, 0),
  (67, .aload_n 0, 68, 0, [0], 0, 0),
  (68, .getfield 471, 71, 1476, [0, 9, 63], 0, 0),
  (71, .ifCond .ne (7), 74, 0, [78], 0, 0),
  (74, .iconst (-1), 75, 0, [], -1, 0),
  (75, .goto (14), 78, 0, [89], 0, 0),
  (78, .aload_n 0, 79, 0, [0], 0, 0),
  (79, .getfield 100, 82, 1472, [0, 9, 59], 0, 0),
  (82, .aload_n 0, 83, 0, [0], 0, 0),
  (83, .getfield 471, 86, 1476, [0, 9, 63], 0, 0),
  (86, .iconst (1), 87, 0, [], 1, 0),
  (87, .isub, 88, 0, [], 0, 0),
  (88, .iaload, 89, 0, [], 0, 0),
  (89, .ireturn, 90, 0, [], 0, 0)]
def pt_m1316 : pm_Me := (⟨"TurnCabinetModel", "formed", "(I)I"⟩, prog_12_method_116_code, 2, some .int, 9, 194, pt_q1316_0)
-- TurnCabinetModel.forms()V
def pt_q1315_0 : List pm_Q := [(0, .aload_n 0, 1, 0, [0], 0, 0),
  (1, .invokevirtual 454, 4, 1929, [1283, 1, 0, 9, 1931, 102, 138, 1932], 0, 0),
  (4, .aload_n 0, 5, 0, [0], 0, 0),
  (5, .invokevirtual 489, 8, 2046, [1310, 1, 0, 9, 2048, 115, 138, 2049], 0, 0),
  (8, .aload_n 0, 9, 0, [0], 0, 0),
  (9, .iconst (0), 10, 0, [], 0, 0),
  (10, .putfield 471, 13, 1476, [0, 9, 63], 0, 0),
  (13, .aload_n 0, 14, 0, [0], 0, 0),
  (14, .iconst (0), 15, 0, [], 0, 0),
  (15, .putfield 474, 18, 1477, [0, 9, 64], 0, 0),
  (18, .aload_n 0, 19, 0, [0], 0, 0),
  (19, .iconst (0), 20, 0, [], 0, 0),
  (20, .putfield 480, 23, 1478, [0, 9, 65], 0, 0),
  (23, .aload_n 0, 24, 0, [0], 0, 0),
  (24, .getfield 474, 27, 1477, [0, 9, 64], 0, 0),
  (27, .bipush (9), 29, 0, [], 9, 0),
  (29, .if_icmp .ge (17), 32, 0, [46], 0, 0),
  (32, .aload_n 0, 33, 0, [0], 0, 0),
  (33, .getfield 480, 36, 1478, [0, 9, 65], 0, 0),
  (36, .ifCond .ne (10), 39, 0, [46], 0, 0),
  (39, .aload_n 0, 40, 0, [0], 0, 0),
  (40, .invokevirtual 492, 43, 2050, [1314, 1, 0, 9, 2052, 116, 138, 2053], 0, 0),
  (43, .goto (-20), 46, 0, [23], 0, 0),
  (46, .return_, 47, 0, [], 0, 0)]
def pt_m1315 : pm_Me := (⟨"TurnCabinetModel", "forms", "()V"⟩, prog_12_method_115_code, 1, none, 8, 174, pt_q1315_0)
-- TurnCabinetModel.ordersFormers()V
def pt_q1310_0 : List pm_Q := [(0, .iconst (0), 1, 0, [], 0, 0),
  (1, .istore_n 1, 2, 0, [1], 0, 0),
  (2, .iload_n 1, 3, 0, [1], 0, 0),
  (3, .aload_n 0, 4, 0, [0], 0, 0),
  (4, .getfield 301, 7, 1443, [0, 9, 30], 0, 0),
  (7, .if_icmp .ge (62), 10, 0, [69], 0, 0),
  (10, .iload_n 1, 11, 0, [1], 0, 0),
  (11, .istore_n 2, 12, 0, [2], 0, 0),
  (12, .iload_n 2, 13, 0, [2], 0, 0),
  (13, .ifCond .le (43), 16, 0, [56], 0, 0),
  (16, .aload_n 0, 17, 0, [0], 0, 0),
  (17, .aload_n 0, 18, 0, [0], 0, 0),
  (18, .getfield 109, 21, 1475, [0, 9, 62], 0, 0),
  (21, .iload_n 2, 22, 0, [2], 0, 0),
  (22, .iconst (1), 23, 0, [], 1, 0),
  (23, .isub, 24, 0, [], 0, 0),
  (24, .iaload, 25, 0, [], 0, 0),
  (25, .invokevirtual 335, 28, 1764, [1242, 2, 0, 9, 1766, 77, 138, 1767], 0, 0),
  (28, .aload_n 0, 29, 0, [0], 0, 0),
  (29, .iload_n 1, 30, 0, [1], 0, 0),
  (30, .invokevirtual 335, 33, 1764, [1242, 2, 0, 9, 1766, 77, 138, 1767], 0, 0),
  (33, .if_icmp .ge (23), 36, 0, [56], 0, 0),
  (36, .aload_n 0, 37, 0, [0], 0, 0),
  (37, .getfield 109, 40, 1475, [0, 9, 62], 0, 0),
  (40, .iload_n 2, 41, 0, [2], 0, 0),
  (41, .aload_n 0, 42, 0, [0], 0, 0),
  (42, .getfield 109, 45, 1475, [0, 9, 62], 0, 0),
  (45, .iload_n 2, 46, 0, [2], 0, 0),
  (46, .iconst (1), 47, 0, [], 1, 0),
  (47, .isub, 48, 0, [], 0, 0),
  (48, .iaload, 49, 0, [], 0, 0),
  (49, .iastore, 50, 0, [], 0, 0),
  (50, .iinc 2 (-1), 53, 0, [2], -1, 0),
  (53, .goto (-41), 56, 0, [12], 0, 0),
  (56, .aload_n 0, 57, 0, [0], 0, 0),
  (57, .getfield 109, 60, 1475, [0, 9, 62], 0, 0),
  (60, .iload_n 2, 61, 0, [2], 0, 0),
  (61, .iload_n 1, 62, 0, [1], 0, 0),
  (62, .iastore, 63, 0, [], 0, 0),
  (63, .iinc 1 (1), 66, 0, [1], 1, 0),
  (66, .goto (-64), 69, 0, [2, 2], 0, 0),
  (69, .return_, 70, 0, [], 0, 0)]
def pt_m1310 : pm_Me := (⟨"TurnCabinetModel", "ordersFormers", "()V"⟩, prog_12_method_110_code, 3, none, 1, 21, pt_q1310_0)
-- TurnCabinetModel.round()V
def pt_q1314_0 : List pm_Q := [(0, .aload_n 0, 1, 0, [0], 0, 0),
  (1, .dup, 2, 0, [], 0, 0),
  (2, .getfield 474, 5, 1477, [0, 9, 64], 0, 0),
  (5, .iconst (1), 6, 0, [], 1, 0),
  (6, .iadd, 7, 0, [], 0, 0),
  (7, .putfield 474, 10, 1477, [0, 9, 64], 0, 0),
  (10, .iconst (0), 11, 0, [], 0, 0),
  (11, .istore_n 1, 12, 0, [1], 0, 0),
  (12, .iload_n 1, 13, 0, [1], 0, 0),
  (13, .sipush (128), 16, 0, [], 128, 0),
  (16, .if_icmp .ge (16), 19, 0, [32], 0, 0),
  (19, .aload_n 0, 20, 0, [0], 0, 0),
  (20, .getfield 96, 23, 1471, [0, 9, 58], 0, 0),
  (23, .iload_n 1, 24, 0, [1], 0, 0),
  (24, .iconst (0), 25, 0, [], 0, 0),
  (25, .bastore, 26, 0, [], 0, 0),
  (26, .iinc 1 (1), 29, 0, [1], 1, 0),
  (29, .goto (-17), 32, 0, [12], 0, 0),
  (32, .iconst (0), 33, 0, [], 0, 0),
  (33, .istore_n 1, 34, 0, [1], 0, 0),
  (34, .iload_n 1, 35, 0, [1], 0, 0),
  (35, .aload_n 0, 36, 0, [0], 0, 0),
  (36, .getfield 301, 39, 1443, [0, 9, 30], 0, 0),
  (39, .if_icmp .ge (55), 42, 0, [94], 0, 0),
  (42, .iconst (0), 43, 0, [], 0, 0),
  (43, .istore_n 2, 44, 0, [2], 0, 0),
  (44, .iload_n 2, 45, 0, [2], 0, 0),
  (45, .aload_n 0, 46, 0, [0], 0, 0),
  (46, .getfield 319, 49, 1449, [0, 9, 36], 0, 0),
  (49, .if_icmp .ge (39), 52, 0, [88], 0, 0),
  (52, .aload_n 0, 53, 0, [0], 0, 0),
  (53, .aload_n 0, 54, 0, [0], 0, 0),
  (54, .getfield 109, 57, 1475, [0, 9, 62], 0, 0),
  (57, .iload_n 1, 58, 0, [1], 0, 0),
  (58, .iaload, 59, 0, [], 0, 0),
  (59, .invokevirtual 483, 62, 2054, [1311, 2, 0, 9, 2056, 117, 138, 2057], 0, 0),
  (62, .istore_n 3, 63, 0, [3], 0, 0),
  (63, .iload_n 3, 64, 0, [3], 0, 0),
  (64, .ifCond .le (18), 67, 0, [82], 0, 0),
  (67, .aload_n 0, 68, 0, [0], 0, 0),
  (68, .aload_n 0, 69, 0, [0], 0, 0),
  (69, .getfield 109, 72, 1475, [0, 9, 62], 0, 0),
  (72, .iload_n 1, 73, 0, [1], 0, 0),
  (73, .iaload, 74, 0, [], 0, 0),
  (74, .iload_n 3, 75, 0, [3], 0, 0),
  (75, .invokevirtual 486, 78, 2058, [1313, 3, 0, 9, 2060, 118, 138, 2061], 0, 0),
  (78, .ifCond .eq (4), 81, 0, [82], 0, 0),
  (81, .return_, 82, 0, [], 0, 0),
  (82, .iinc 2 (1), 85, 0, [2], 1, 0),
  (85, .goto (-41), 88, 0, [44, 3], 0, 0),
  (88, .iinc 1 (1), 91, 0, [1], 1, 0),
  (91, .goto (-57), 94, 0, [34, 2], 0, 0),
  (94, .return_, 95, 0, [], 0, 0)]
def pt_m1314 : pm_Me := (⟨"TurnCabinetModel", "round", "()V"⟩, prog_12_method_114_code, 4, none, 6, 130, pt_q1314_0)
-- TurnCabinetModel.bestFor(I)I
def pt_q1311_0 : List pm_Q := [(0, .iconst (0), 1, 0, [], 0, 0),
  (1, .istore_n 2, 2, 0, [2], 0, 0),
  (2, .iconst (1), 3, 0, [], 1, 0),
  (3, .istore_n 3, 4, 0, [3], 0, 0),
  (4, .iload_n 3, 5, 0, [3], 0, 0),
  (5, .aload_n 0, 6, 0, [0], 0, 0),
  (6, .invokevirtual 338, 9, 1795, [1244, 1, 0, 9, 1797, 82, 138, 1798], 0, 0),
  (9, .if_icmp .gt (93), 12, 0, [102], 0, 0),
  (12, .iload_n 3, 13, 0, [3], 0, 0),
  (13, .iload_n 1, 14, 0, [1], 0, 0),
  (14, .invokestatic 242, 17, 1666, [1205, 2, 0, 1667, 138, 1668], 0, 0),
  (17, .ifCond .eq (79), 20, 0, [96], 0, 0),
  (20, .aload_n 0, 21, 0, [0], 0, 0),
  (21, .getfield 96, 24, 1471, [0, 9, 58], 0, 0),
  (24, .iload_n 3, 25, 0, [3], 0, 0),
  (25, .baload, 26, 0, [], 0, 0),
  (26, .ifCond .ne (70), 29, 0, [96], 0, 0),
  (29, .aload_n 0, 30, 0, [0], 0, 0),
  (30, .iload_n 3, 31, 0, [3], 0, 0),
  (31, .invokevirtual 441, 34, 1945, [1286, 2, 0, 9, 1947, 106, 138, 1948], 0, 0),
  (34, .ifCond .ne (6), 37, 0, [40], 0, 0),
  (37, .goto (59), 40, 0, [96], 0, 0),
  (40, .iload_n 2, 41, 0, [2], 0, 0),
  (41, .ifCond .ne (7), 44, 0, [48], 0, 0),
  (44, .iconst (1), 45, 0, [], 1, 0),
  (45, .goto (26), 48, 0, [71], 0, 0),
  (48, .aload_n 0, 49, 0, [0], 0, 0),
  (49, .getfield 87, 52, 1467, [0, 9, 54], 0, 0),
  (52, .bipush (7), 54, 0, [], 7, 0),
  (54, .iload_n 3, 55, 0, [3], 0, 0),
  (55, .imul, 56, 0, [], 0, 0),
  (56, .iload_n 1, 57, 0, [1], 0, 0),
  (57, .iadd, 58, 0, [], 0, 0),
  (58, .iaload, 59, 0, [], 0, 0),
  (59, .aload_n 0, 60, 0, [0], 0, 0),
  (60, .getfield 87, 63, 1467, [0, 9, 54], 0, 0),
  (63, .bipush (7), 65, 0, [], 7, 0),
  (65, .iload_n 2, 66, 0, [2], 0, 0),
  (66, .imul, 67, 0, [], 0, 0),
  (67, .iload_n 1, 68, 0, [1], 0, 0),
  (68, .iadd, 69, 0, [], 0, 0),
  (69, .iaload, 70, 0, [], 0, 0),
  (70, .isub, 71, 0, [], 0, 0),
  (71, .istore 4, 73, 0, [4], 0, 0),
  (73, .iload 4, 75, 0, [4], 0, 0),
  (75, .ifCond .gt (19), 78, 0, [94], 0, 0),
  (78, .iload 4, 80, 0, [4], 0, 0),
  (80, .ifCond .ne (16), 83, 0, [96], 0, 0),
  (83, .iload_n 3, 84, 0, [3], 0, 0),
  (84, .invokestatic 377, 87, 1845, [1206, 1, 0, 1846, 138, 1847], 0, 0),
  (87, .iload_n 2, 88, 0, [2], 0, 0),
  (88, .invokestatic 377, 91, 1845, [1206, 1, 0, 1846, 138, 1847], 0, 0),
  (91, .if_icmp .ge (5), 94, 0, [96], 0, 0),
  (94, .iload_n 3, 95, 0, [3], 0, 0),
  (95, .istore_n 2, 96, 0, [2], 0, 0),
  (96, .iinc 3 (1), 99, 0, [3], 1, 0),
  (99, .goto (-95), 102, 0, [4, 4], 0, 0),
  (102, .iload_n 2, 103, 0, [2], 0, 0),
  (103, .ireturn, 104, 0, [], 0, 0)]
def pt_m1311 : pm_Me := (⟨"TurnCabinetModel", "bestFor", "(I)I"⟩, prog_12_method_111_code, 5, some .int, 5, 106, pt_q1311_0)
-- TurnCabinetModel.goesBy(II)Z
def pt_q1313_0 : List pm_Q := [(0, .aload_n 0, 1, 0, [0], 0, 0),
  (1, .getfield 100, 4, 1472, [0, 9, 59], 0, 0),
  (4, .aload_n 0, 5, 0, [0], 0, 0),
  (5, .getfield 471, 8, 1476, [0, 9, 63], 0, 0),
  (8, .iload_n 1, 9, 0, [1], 0, 0),
  (9, .iastore, 10, 0, [], 0, 0),
  (10, .aload_n 0, 11, 0, [0], 0, 0),
  (11, .getfield 103, 14, 1473, [0, 9, 60], 0, 0),
  (14, .aload_n 0, 15, 0, [0], 0, 0),
  (15, .getfield 471, 18, 1476, [0, 9, 63], 0, 0),
  (18, .iload_n 2, 19, 0, [2], 0, 0),
  (19, .iastore, 20, 0, [], 0, 0),
  (20, .aload_n 0, 21, 0, [0], 0, 0),
  (21, .getfield 106, 24, 1474, [0, 9, 61], 0, 0),
  (24, .aload_n 0, 25, 0, [0], 0, 0),
  (25, .getfield 471, 28, 1476, [0, 9, 63], 0, 0),
  (28, .aload_n 0, 29, 0, [0], 0, 0),
  (29, .iload_n 2, 30, 0, [2], 0, 0),
  (30, .aload_n 0, 31, 0, [0], 0, 0),
  (31, .getfield 474, 34, 1477, [0, 9, 64], 0, 0),
  (34, .iconst (1), 35, 0, [], 1, 0),
  (35, .isub, 36, 0, [], 0, 0),
  (36, .invokevirtual 477, 39, 2062, [1312, 3, 0, 9, 2064, 119, 138, 2065], 0, 0),
  (39, .iastore, 40, 0, [], 0, 0),
  (40, .aload_n 0, 41, 0, [0], 0, 0),
  (41, .getfield 96, 44, 1471, [0, 9, 58], 0, 0),
  (44, .iload_n 2, 45, 0, [2], 0, 0),
  (45, .iconst (1), 46, 0, [], 1, 0),
  (46, .bastore, 47, 0, [], 0, 0),
  (47, .aload_n 0, 48, 0, [0], 0, 0),
  (48, .dup, 49, 0, [], 0, 0),
  (49, .getfield 471, 52, 1476, [0, 9, 63], 0, 0),
  (52, .iconst (1), 53, 0, [], 1, 0),
  (53, .iadd, 54, 0, [], 0, 0),
  (54, .putfield 471, 57, 1476, [0, 9, 63], 0, 0),
  (57, .aload_n 0, 58, 0, [0], 0, 0),
  (58, .getfield 106, 61, 1474, [0, 9, 61], 0, 0),
  (61, .aload_n 0, 62, 0, [0], 0, 0),
  (62, .getfield 471, 65, 1476, [0, 9, 63], 0, 0),
  (65, .iconst (1), 66, 0, [], 1, 0),
  (66, .isub, 67, 0, [], 0, 0),
  (67, .iaload, 68, 0, [], 0, 0),
  (68, .ifCond .ne (8), 71, 0, [76], 0, 0),
  (71, .aload_n 0, 72, 0, [0], 0, 0),
  (72, .iload_n 2, 73, 0, [2], 0, 0),
  (73, .putfield 480, 76, 1478, [0, 9, 65], 0, 0),
  (76, .aload_n 0, 77, 0, [0], 0, 0),
  (77, .getfield 480, 80, 1478, [0, 9, 65], 0, 0),
  (80, .ifCond .le (7), 83, 0, [87], 0, 0),
  (83, .iconst (1), 84, 0, [], 1, 0),
  (84, .goto (4), 87, 0, [88], 0, 0),
  (87, .iconst (0), 88, 0, [], 0, 0),
  (88, .ireturn, 89, 0, [], 0, 0)]
def pt_m1313 : pm_Me := (⟨"TurnCabinetModel", "goesBy", "(II)Z"⟩, prog_12_method_113_code, 3, some .boolean, 2, 45, pt_q1313_0)
-- TurnCabinetModel.walkOut(II)I
def pt_q1312_0 : List pm_Q := [(0, .iconst (0), 1, 0, [], 0, 0),
  (1, .istore_n 3, 2, 0, [3], 0, 0),
  (2, .iconst (0), 3, 0, [], 0, 0),
  (3, .istore 4, 5, 0, [4], 0, 0),
  (5, .iload 4, 7, 0, [4], 0, 0),
  (7, .aload_n 0, 8, 0, [0], 0, 0),
  (8, .getfield 301, 11, 1443, [0, 9, 30], 0, 0),
  (11, .if_icmp .ge (54), 14, 0, [65], 0, 0),
  (14, .iload_n 1, 15, 0, [1], 0, 0),
  (15, .iload 4, 17, 0, [4], 0, 0),
  (17, .invokestatic 242, 20, 1666, [1205, 2, 0, 1667, 138, 1668], 0, 0),
  (20, .ifCond .eq (39), 23, 0, [59], 0, 0),
  (23, .aload_n 0, 24, 0, [0], 0, 0),
  (24, .getfield 87, 27, 1467, [0, 9, 54], 0, 0),
  (27, .bipush (7), 29, 0, [], 7, 0),
  (29, .iload_n 1, 30, 0, [1], 0, 0),
  (30, .imul, 31, 0, [], 0, 0),
  (31, .iload 4, 33, 0, [4], 0, 0),
  (33, .iadd, 34, 0, [], 0, 0),
  (34, .iaload, 35, 0, [], 0, 0),
  (35, .aload_n 0, 36, 0, [0], 0, 0),
  (36, .getfield 48, 39, 1452, [0, 9, 39], 0, 0),
  (39, .iload 4, 41, 0, [4], 0, 0),
  (41, .iaload, 42, 0, [], 0, 0),
  (42, .aload_n 0, 43, 0, [0], 0, 0),
  (43, .getfield 322, 46, 1450, [0, 9, 37], 0, 0),
  (46, .iload_n 2, 47, 0, [2], 0, 0),
  (47, .imul, 48, 0, [], 0, 0),
  (48, .isub, 49, 0, [], 0, 0),
  (49, .if_icmp .ge (10), 52, 0, [59], 0, 0),
  (52, .iload_n 3, 53, 0, [3], 0, 0),
  (53, .iconst (1), 54, 0, [], 1, 0),
  (54, .iload 4, 56, 0, [4], 0, 0),
  (56, .ishl, 57, 0, [], 0, 0),
  (57, .ior, 58, 0, [], 0, 0),
  (58, .istore_n 3, 59, 0, [3], 0, 0),
  (59, .iinc 4 (1), 62, 0, [4], 1, 0),
  (62, .goto (-57), 65, 0, [5], 0, 0),
  (65, .iload_n 3, 66, 0, [3], 0, 0),
  (66, .ireturn, 67, 0, [], 0, 0)]
def pt_m1312 : pm_Me := (⟨"TurnCabinetModel", "walkOut", "(II)I"⟩, prog_12_method_112_code, 5, some .int, 1, 21, pt_q1312_0)
-- TurnCabinetModel.tried(II)I
def pt_q1317_0 : List pm_Q := [(0, .aload_n 0, 1, 0, [0], 0, 0),
  (1, .getfield 301, 4, 1443, [0, 9, 30], 0, 0),
  (4, .ifCond .eq (15), 7, 0, [19], 0, 0),
  (7, .iload_n 2, 8, 0, [2], 0, 0),
  (8, .i2l, 9, 0, [], 0, 0),
  (9, .lconst 0, 10, 0, [], 0, 0),
  (10, .ldc2_w 405, 13, 1832, [], 0, 2),
  (13, .invokestatic 125, 16, 1624, [1202, 3, 0, 1625, 138, 1626], 0, 0),
  (16, .ifCond .ne (5), 19, 0, [21], 0, 0),
  (19, .iconst (-1), 20, 0, [], -1, 0),
  (20, .ireturn, 21, 0, [], 0, 0),
  (21, .aload_n 0, 22, 0, [0], 0, 0),
  (22, .invokevirtual 497, 25, 2042, [1315, 1, 0, 9, 2044, 114, 138, 2045], 0, 0),
  (25, .iload_n 1, 26, 0, [1], 0, 0),
  (26, .i2l, 27, 0, [], 0, 0),
  (27, .lconst 0, 28, 0, [], 0, 0),
  (28, .aload_n 0, 29, 0, [0], 0, 0),
  (29, .getfield 471, 32, 1476, [0, 9, 63], 0, 0),
  (32, .iconst (1), 33, 0, [], 1, 0),
  (33, .isub, 34, 0, [], 0, 0),
  (34, .i2l, 35, 0, [], 0, 0),
  (35, .invokestatic 125, 38, 1624, [1202, 3, 0, 1625, 138, 1626], 0, 0),
  (38, .ifCond .ne (5), 41, 0, [43], 0, 0),
  (41, .iconst (-1), 42, 0, [], -1, 0),
  (42, .ireturn, 43, 0, [], 0, 0),
  (43, .iload_n 2, 44, 0, [2], 0, 0),
  (44, .ifCond .ne (12), 47, 0, [56], 0, 0),
  (47, .aload_n 0, 48, 0, [0], 0, 0),
  (48, .getfield 100, 51, 1472, [0, 9, 59], 0, 0),
  (51, .iload_n 1, 52, 0, [1], 0, 0),
  (52, .iaload, 53, 0, [], 0, 0),
  (53, .goto (23), 56, 0, [76], 0, 0),
  (56, .iload_n 2, 57, 0, [2], 0, 0),
  (57, .iconst (1), 58, 0, [], 1, 0),
  (58, .if_icmp .ne (12), 61, 0, [70], 0, 0),
  (61, .aload_n 0, 62, 0, [0], 0, 0),
  (62, .getfield 103, 65, 1473, [0, 9, 60], 0, 0),
  (65, .iload_n 1, 66, 0, [1], 0, 0),
  (66, .iaload, 67, 0, [], 0, 0),
  (67, .goto (9), 70, 0, [76], 0, 0),
  (70, .aload_n 0, 71, 0, [0], 0, 0),
  (71, .getfield 106, 74, 1474, [0, 9, 61], 0, 0),
  (74, .iload_n 1, 75, 0, [1], 0, 0),
  (75, .iaload, 76, 0, [], 0, 0),
  (76, .ireturn, 77, 0, [], 0, 0)]
def pt_m1317 : pm_Me := (⟨"TurnCabinetModel", "tried", "(II)I"⟩, prog_12_method_117_code, 3, some .int, 9, 194, pt_q1317_0)
-- TurnCabinetModel.hold(II)I
def pt_q1318_0 : List pm_Q := [(0, .aload_n 0, 1, 0, [0], 0, 0),
  (1, .iload_n 1, 2, 0, [1], 0, 0),
  (2, .invokevirtual 369, 5, 1807, [1248, 2, 0, 9, 1809, 84, 138, 1810], 0, 0),
  (5, .ifCond .eq (15), 8, 0, [20], 0, 0),
  (8, .iload_n 2, 9, 0, [2], 0, 0),
  (9, .i2l, 10, 0, [], 0, 0),
  (10, .lconst 0, 11, 0, [], 0, 0),
  (11, .ldc2_w 405, 14, 1832, [], 0, 2),
  (14, .invokestatic 125, 17, 1624, [1202, 3, 0, 1625, 138, 1626], 0, 0),
  (17, .ifCond .ne (5), 20, 0, [22], 0, 0),
  (20, .iconst (-1), 21, 0, [], -1, 0),
  (21, .ireturn, 22, 0, [], 0, 0),
  (22, .aload_n 0, 23, 0, [0], 0, 0),
  (23, .invokevirtual 500, 26, 2074, [1240, 1, 0, 9, 2076, 120, 138, 2077], 0, 0),
  (26, .aload_n 0, 27, 0, [0], 0, 0),
  (27, .iload_n 1, 28, 0, [1], 0, 0),
  (28, .iload_n 2, 29, 0, [2], 0, 0),
  (29, .invokevirtual 407, 32, 1833, [1266, 3, 0, 9, 1835, 88, 138, 1836], 0, 0),
  (32, .aload_n 0, 33, 0, [0], 0, 0),
  (33, .getfield 60, 36, 1456, [0, 9, 43], 0, 0),
  (36, .iconst (0), 37, 0, [], 0, 0),
  (37, .iload_n 1, 38, 0, [1], 0, 0),
  (38, .iastore, 39, 0, [], 0, 0),
  (39, .iconst (0), 40, 0, [], 0, 0),
  (40, .istore_n 3, 41, 0, [3], 0, 0),
  (41, .iconst (0), 42, 0, [], 0, 0),
  (42, .istore 4, 44, 0, [4], 0, 0),
  (44, .iload 4, 46, 0, [4], 0, 0),
  (46, .aload_n 0, 47, 0, [0], 0, 0),
  (47, .getfield 304, 50, 1444, [0, 9, 31], 0, 0),
  (50, .if_icmp .ge (37), 53, 0, [87], 0, 0),
  (53, .aload_n 0, 54, 0, [0], 0, 0),
  (54, .getfield 60, 57, 1456, [0, 9, 43], 0, 0),
  (57, .iconst (1), 58, 0, [], 1, 0),
  (58, .iload 4, 60, 0, [4], 0, 0),
  (60, .iadd, 61, 0, [], 0, 0),
  (61, .aload_n 0, 62, 0, [0], 0, 0),
  (62, .getfield 78, 65, 1463, [0, 9, 50], 0, 0),
  (65, .iload 4, 67, 0, [4], 0, 0),
  (67, .iaload, 68, 0, [], 0, 0),
  (68, .iastore, 69, 0, [], 0, 0),
  (69, .iload_n 3, 70, 0, [3], 0, 0),
  (70, .iconst (1), 71, 0, [], 1, 0),
  (71, .aload_n 0, 72, 0, [0], 0, 0),
  (72, .getfield 78, 75, 1463, [0, 9, 50], 0, 0),
  (75, .iload 4, 77, 0, [4], 0, 0),
  (77, .iaload, 78, 0, [], 0, 0),
  (78, .ishl, 79, 0, [], 0, 0),
  (79, .ior, 80, 0, [], 0, 0),
  (80, .istore_n 3, 81, 0, [3], 0, 0),
  (81, .iinc 4 (1), 84, 0, [4], 1, 0),
  (84, .goto (-40), 87, 0, [44], 0, 0),
  (87, .iload_n 3, 88, 0, [3], 0, 0),
  (88, .invokestatic 377, 91, 1845, [1206, 1, 0, 1846, 138, 1847], 0, 0),
  (91, .ireturn, 92, 0, [], 0, 0)]
def pt_m1318 : pm_Me := (⟨"TurnCabinetModel", "hold", "(II)I"⟩, prog_12_method_118_code, 5, some .int, 5, 115, pt_q1318_0)
-- TurnCabinetModel.act()V
def pt_q1240_0 : List pm_Q := [(0, .aload_n 0, 1, 0, [0], 0, 0),
  (1, .getfield 328, 4, 1458, [0, 9, 45], 0, 0),
  (4, .bipush (12), 6, 0, [], 12, 0),
  (6, .if_icmp .ne (44), 9, 0, [50], 0, 0),
  (9, .bipush (16), 11, 0, [], 16, 0),
  (11, .istore_n 1, 12, 0, [1], 0, 0),
  (12, .iload_n 1, 13, 0, [1], 0, 0),
  (13, .sipush (192), 16, 0, [], 192, 0),
  (16, .if_icmp .ge (24), 19, 0, [40], 0, 0),
  (19, .aload_n 0, 20, 0, [0], 0, 0),
  (20, .getfield 63, 23, 1457, [0, 9, 44], 0, 0),
  (23, .iload_n 1, 24, 0, [1], 0, 0),
  (24, .bipush (16), 26, 0, [], 16, 0),
  (26, .isub, 27, 0, [], 0, 0),
  (27, .aload_n 0, 28, 0, [0], 0, 0),
  (28, .getfield 63, 31, 1457, [0, 9, 44], 0, 0),
  (31, .iload_n 1, 32, 0, [1], 0, 0),
  (32, .iaload, 33, 0, [], 0, 0),
  (33, .iastore, 34, 0, [], 0, 0),
  (34, .iinc 1 (1), 37, 0, [1], 1, 0),
  (37, .goto (-25), 40, 0, [12], 0, 0),
  (40, .aload_n 0, 41, 0, [0], 0, 0),
  (41, .dup, 42, 0, [], 0, 0),
  (42, .getfield 328, 45, 1458, [0, 9, 45], 0, 0),
  (45, .iconst (1), 46, 0, [], 1, 0),
  (46, .isub, 47, 0, [], 0, 0),
  (47, .putfield 328, 50, 1458, [0, 9, 45], 0, 0),
  (50, .iconst (0), 51, 0, [], 0, 0),
  (51, .istore_n 1, 52, 0, [1], 0, 0),
  (52, .iload_n 1, 53, 0, [1], 0, 0),
  (53, .bipush (16), 55, 0, [], 16, 0),
  (55, .if_icmp .ge (29), 58, 0, [84], 0, 0),
  (58, .aload_n 0, 59, 0, [0], 0, 0),
  (59, .getfield 63, 62, 1457, [0, 9, 44], 0, 0),
  (62, .bipush (16), 64, 0, [], 16, 0),
  (64, .aload_n 0, 65, 0, [0], 0, 0),
  (65, .getfield 328, 68, 1458, [0, 9, 45], 0, 0),
  (68, .imul, 69, 0, [], 0, 0),
  (69, .iload_n 1, 70, 0, [1], 0, 0),
  (70, .iadd, 71, 0, [], 0, 0),
  (71, .aload_n 0, 72, 0, [0], 0, 0),
  (72, .getfield 60, 75, 1456, [0, 9, 43], 0, 0),
  (75, .iload_n 1, 76, 0, [1], 0, 0),
  (76, .iaload, 77, 0, [], 0, 0),
  (77, .iastore, 78, 0, [], 0, 0),
  (78, .iinc 1 (1), 81, 0, [1], 1, 0),
  (81, .goto (-29), 84, 0, [52], 0, 0),
  (84, .aload_n 0, 85, 0, [0], 0, 0),
  (85, .dup, 86, 0, [], 0, 0),
  (86, .getfield 328, 89, 1458, [0, 9, 45], 0, 0),
  (89, .iconst (1), 90, 0, [], 1, 0),
  (90, .iadd, 91, 0, [], 0, 0),
  (91, .putfield 328, 94, 1458, [0, 9, 45], 0, 0),
  (94, .return_, 95, 0, [], 0, 0)]
def pt_m1240 : pm_Me := (⟨"TurnCabinetModel", "act", "()V"⟩, prog_12_method_40_code, 2, none, 0, 0, pt_q1240_0)
-- TurnCabinetModel.now(I)I
def pt_q1319_0 : List pm_Q := [(0, .iload_n 1, 1, 0, [1], 0, 0),
  (1, .iconst (-1), 2, 0, [], -1, 0),
  (2, .if_icmp .ne (12), 5, 0, [14], 0, 0),
  (5, .aload_n 0, 6, 0, [0], 0, 0),
  (6, .getfield 60, 9, 1456, [0, 9, 43], 0, 0),
  (9, .iconst (0), 10, 0, [], 0, 0),
  (10, .iaload, 11, 0, [], 0, 0),
  (11, .goto (23), 14, 0, [34], 0, 0),
  (14, .aload_n 0, 15, 0, [0], 0, 0),
  (15, .iload_n 1, 16, 0, [1], 0, 0),
  (16, .invokevirtual 354, 19, 1779, [1247, 2, 0, 9, 1781, 79, 138, 1782], 0, 0),
  (19, .ifCond .eq (14), 22, 0, [33], 0, 0),
  (22, .aload_n 0, 23, 0, [0], 0, 0),
  (23, .getfield 60, 26, 1456, [0, 9, 43], 0, 0),
  (26, .iconst (1), 27, 0, [], 1, 0),
  (27, .iload_n 1, 28, 0, [1], 0, 0),
  (28, .iadd, 29, 0, [], 0, 0),
  (29, .iaload, 30, 0, [], 0, 0),
  (30, .goto (4), 33, 0, [34], 0, 0),
  (33, .iconst (-1), 34, 0, [], -1, 0),
  (34, .ireturn, 35, 0, [], 0, 0)]
def pt_m1319 : pm_Me := (⟨"TurnCabinetModel", "now", "(I)I"⟩, prog_12_method_119_code, 2, some .int, 2, 46, pt_q1319_0)
-- TurnCabinetModel.leave(I)I
def pt_q1321_0 : List pm_Q := [(0, .aload_n 0, 1, 0, [0], 0, 0),
  (1, .iload_n 1, 2, 0, [1], 0, 0),
  (2, .invokevirtual 348, 5, 1760, [1246, 2, 0, 9, 1762, 76, 138, 1763], 0, 0),
  (5, .ifCond .eq (16), 8, 0, [21], 0, 0),
  (8, .aload_n 0, 9, 0, [0], 0, 0),
  (9, .getfield 60, 12, 1456, [0, 9, 43], 0, 0),
  (12, .iconst (0), 13, 0, [], 0, 0),
  (13, .iaload, 14, 0, [], 0, 0),
  (14, .iload_n 1, 15, 0, [1], 0, 0),
  (15, .invokestatic 242, 18, 1666, [1205, 2, 0, 1667, 138, 1668], 0, 0),
  (18, .ifCond .ne (5), 21, 0, [23], 0, 0),
  (21, .iconst (-1), 22, 0, [], -1, 0),
  (22, .ireturn, 23, 0, [], 0, 0),
  (23, .aload_n 0, 24, 0, [0], 0, 0),
  (24, .invokevirtual 500, 27, 2074, [1240, 1, 0, 9, 2076, 120, 138, 2077], 0, 0),
  (27, .aload_n 0, 28, 0, [0], 0, 0),
  (28, .iload_n 1, 29, 0, [1], 0, 0),
  (29, .invokevirtual 503, 32, 2086, [1320, 2, 0, 9, 2088, 121, 138, 2089], 0, 0),
  (32, .ireturn, 33, 0, [], 0, 0)]
def pt_m1321 : pm_Me := (⟨"TurnCabinetModel", "leave", "(I)I"⟩, prog_12_method_121_code, 2, some .int, 4, 93, pt_q1321_0)
-- TurnCabinetModel.goesOut(I)I
def pt_q1320_0 : List pm_Q := [(0, .aload_n 0, 1, 0, [0], 0, 0),
  (1, .getfield 60, 4, 1456, [0, 9, 43], 0, 0),
  (4, .iconst (0), 5, 0, [], 0, 0),
  (5, .dup2, 6, 0, [], 0, 0),
  (6, .iaload, 7, 0, [], 0, 0),
  (7, .iconst (1), 8, 0, [], 1, 0),
  (8, .iload_n 1, 9, 0, [1], 0, 0),
  (9, .ishl, 10, 0, [], 0, 0),
  (10, .iconst (-1), 11, 0, [], -1, 0),
  (11, .ixor, 12, 0, [], 0, 0),
  (12, .iand, 13, 0, [], 0, 0),
  (13, .iastore, 14, 0, [], 0, 0),
  (14, .iconst (0), 15, 0, [], 0, 0),
  (15, .istore_n 2, 16, 0, [2], 0, 0),
  (16, .iconst (0), 17, 0, [], 0, 0),
  (17, .istore_n 3, 18, 0, [3], 0, 0),
  (18, .iload_n 3, 19, 0, [3], 0, 0),
  (19, .aload_n 0, 20, 0, [0], 0, 0),
  (20, .getfield 304, 23, 1444, [0, 9, 31], 0, 0),
  (23, .if_icmp .ge (39), 26, 0, [62], 0, 0),
  (26, .aload_n 0, 27, 0, [0], 0, 0),
  (27, .getfield 60, 30, 1456, [0, 9, 43], 0, 0),
  (30, .iconst (1), 31, 0, [], 1, 0),
  (31, .iload_n 3, 32, 0, [3], 0, 0),
  (32, .iadd, 33, 0, [], 0, 0),
  (33, .iaload, 34, 0, [], 0, 0),
  (34, .iload_n 1, 35, 0, [1], 0, 0),
  (35, .if_icmp .eq (6), 38, 0, [41], 0, 0),
  (38, .goto (18), 41, 0, [56], 0, 0),
  (41, .iload_n 2, 42, 0, [2], 0, 0),
  (42, .iconst (1), 43, 0, [], 1, 0),
  (43, .iload_n 3, 44, 0, [3], 0, 0),
  (44, .ishl, 45, 0, [], 0, 0),
  (45, .ior, 46, 0, [], 0, 0),
  (46, .istore_n 2, 47, 0, [2], 0, 0),
  (47, .aload_n 0, 48, 0, [0], 0, 0),
  (48, .getfield 60, 51, 1456, [0, 9, 43], 0, 0),
  (51, .iconst (1), 52, 0, [], 1, 0),
  (52, .iload_n 3, 53, 0, [3], 0, 0),
  (53, .iadd, 54, 0, [], 0, 0),
  (54, .iconst (-1), 55, 0, [], -1, 0),
  (55, .iastore, 56, 0, [], 0, 0),
  (56, .iinc 3 (1), 59, 0, [3], 1, 0),
  (59, .goto (-41), 62, 0, [18], 0, 0),
  (62, .iload_n 2, 63, 0, [2], 0, 0),
  (63, .invokestatic 377, 66, 1845, [1206, 1, 0, 1846, 138, 1847], 0, 0),
  (66, .istore_n 3, 67, 0, [3], 0, 0),
  (67, .iload_n 2, 68, 0, [2], 0, 0),
  (68, .ifCond .le (87), 71, 0, [155], 0, 0),
  (71, .aload_n 0, 72, 0, [0], 0, 0),
  (72, .getfield 60, 75, 1456, [0, 9, 43], 0, 0),
  (75, .iconst (0), 76, 0, [], 0, 0),
  (76, .iaload, 77, 0, [], 0, 0),
  (77, .ifCond .le (78), 80, 0, [155], 0, 0),
  (80, .iconst (0), 81, 0, [], 0, 0),
  (81, .istore 4, 83, 0, [4], 0, 0),
  (83, .iload 4, 85, 0, [4], 0, 0),
  (85, .aload_n 0, 86, 0, [0], 0, 0),
  (86, .getfield 301, 89, 1443, [0, 9, 30], 0, 0),
  (89, .if_icmp .ge (22), 92, 0, [111], 0, 0)]
def pt_q1320_1 : List pm_Q := [(92, .aload_n 0, 93, 0, [0], 0, 0),
  (93, .getfield 69, 96, 1460, [0, 9, 47], 0, 0),
  (96, .iload 4, 98, 0, [4], 0, 0),
  (98, .aload_n 0, 99, 0, [0], 0, 0),
  (99, .iload 4, 101, 0, [4], 0, 0),
  (101, .invokevirtual 351, 104, 1768, [1250, 2, 0, 9, 1770, 78, 138, 1771], 0, 0),
  (104, .iastore, 105, 0, [], 0, 0),
  (105, .iinc 4 (1), 108, 0, [4], 1, 0),
  (108, .goto (-25), 111, 0, [83], 0, 0),
  (111, .aload_n 0, 112, 0, [0], 0, 0),
  (112, .aload_n 0, 113, 0, [0], 0, 0),
  (113, .getfield 60, 116, 1456, [0, 9, 43], 0, 0),
  (116, .iconst (0), 117, 0, [], 0, 0),
  (117, .iaload, 118, 0, [], 0, 0),
  (118, .invokevirtual 366, 121, 1815, [1255, 2, 0, 9, 1817, 86, 138, 1818], 0, 0),
  (121, .istore 4, 123, 0, [4], 0, 0),
  (123, .aload_n 0, 124, 0, [0], 0, 0),
  (124, .iload 4, 126, 0, [4], 0, 0),
  (126, .iload_n 2, 127, 0, [2], 0, 0),
  (127, .invokevirtual 399, 130, 1852, [1262, 3, 0, 9, 1854, 92, 138, 1855], 0, 0),
  (130, .istore 5, 132, 0, [5], 0, 0),
  (132, .aload_n 0, 133, 0, [0], 0, 0),
  (133, .getfield 60, 136, 1456, [0, 9, 43], 0, 0),
  (136, .iconst (1), 137, 0, [], 1, 0),
  (137, .iload 5, 139, 0, [5], 0, 0),
  (139, .iadd, 140, 0, [], 0, 0),
  (140, .iload 4, 142, 0, [4], 0, 0),
  (142, .iastore, 143, 0, [], 0, 0),
  (143, .iload_n 2, 144, 0, [2], 0, 0),
  (144, .iconst (1), 145, 0, [], 1, 0),
  (145, .iload 5, 147, 0, [5], 0, 0),
  (147, .ishl, 148, 0, [], 0, 0),
  (148, .iconst (-1), 149, 0, [], -1, 0),
  (149, .ixor, 150, 0, [], 0, 0),
  (150, .iand, 151, 0, [], 0, 0),
  (151, .istore_n 2, 152, 0, [2], 0, 0),
  (152, .goto (-85), 155, 0, [67, 4, 5], 0, 0),
  (155, .iload_n 3, 156, 0, [3], 0, 0),
  (156, .ireturn, 157, 0, [], 0, 0)]
def pt_m1320 : pm_Me := (⟨"TurnCabinetModel", "goesOut", "(I)I"⟩, prog_12_method_120_code, 6, some .int, 3, 68, pt_q1320_0 ++ pt_q1320_1)
-- TurnCabinetModel.payNow(I)I
def pt_q1323_0 : List pm_Q := [(0, .aload_n 0, 1, 0, [0], 0, 0),
  (1, .iload_n 1, 2, 0, [1], 0, 0),
  (2, .invokevirtual 348, 5, 1760, [1246, 2, 0, 9, 1762, 76, 138, 1763], 0, 0),
  (5, .ifCond .eq (20), 8, 0, [25], 0, 0),
  (8, .aload_n 0, 9, 0, [0], 0, 0),
  (9, .getfield 60, 12, 1456, [0, 9, 43], 0, 0),
  (12, .iconst (0), 13, 0, [], 0, 0),
  (13, .iaload, 14, 0, [], 0, 0),
  (14, .ifCond .le (11), 17, 0, [25], 0, 0),
  (17, .aload_n 0, 18, 0, [0], 0, 0),
  (18, .iload_n 1, 19, 0, [1], 0, 0),
  (19, .invokevirtual 506, 22, 2094, [1322, 2, 0, 9, 2096, 122, 138, 2097], 0, 0),
  (22, .goto (6), 25, 0, [28], 0, 0),
  (25, .ldc_w 453, 28, 1928, [], -1000000, 0),
  (28, .ireturn, 29, 0, [], 0, 0)]
def pt_m1323 : pm_Me := (⟨"TurnCabinetModel", "payNow", "(I)I"⟩, prog_12_method_123_code, 2, some .int, 4, 90, pt_q1323_0)
-- TurnCabinetModel.paysNow(I)I
def pt_q1322_0 : List pm_Q := [(0, .iconst (0), 1, 0, [], 0, 0),
  (1, .istore_n 2, 2, 0, [2], 0, 0),
  (2, .iconst (0), 3, 0, [], 0, 0),
  (3, .istore_n 3, 4, 0, [3], 0, 0),
  (4, .iload_n 3, 5, 0, [3], 0, 0),
  (5, .aload_n 0, 6, 0, [0], 0, 0),
  (6, .getfield 304, 9, 1444, [0, 9, 31], 0, 0),
  (9, .if_icmp .ge (34), 12, 0, [43], 0, 0),
  (12, .iload_n 2, 13, 0, [2], 0, 0),
  (13, .aload_n 0, 14, 0, [0], 0, 0),
  (14, .getfield 60, 17, 1456, [0, 9, 43], 0, 0),
  (17, .iconst (1), 18, 0, [], 1, 0),
  (18, .iload_n 3, 19, 0, [3], 0, 0),
  (19, .iadd, 20, 0, [], 0, 0),
  (20, .iaload, 21, 0, [], 0, 0),
  (21, .iload_n 1, 22, 0, [1], 0, 0),
  (22, .if_icmp .ne (12), 25, 0, [34], 0, 0),
  (25, .aload_n 0, 26, 0, [0], 0, 0),
  (26, .iload_n 1, 27, 0, [1], 0, 0),
  (27, .iload_n 3, 28, 0, [3], 0, 0),
  (28, .invokevirtual 357, 31, 1783, [1249, 3, 0, 9, 1785, 80, 138, 1786], 0, 0),
  (31, .goto (4), 34, 0, [35], 0, 0),
  (34, .iconst (0), 35, 0, [], 0, 0),
  (35, .iadd, 36, 0, [], 0, 0),
  (36, .istore_n 2, 37, 0, [2], 0, 0),
  (37, .iinc 3 (1), 40, 0, [3], 1, 0),
  (40, .goto (-36), 43, 0, [4], 0, 0),
  (43, .bipush (10), 45, 0, [], 10, 0),
  (45, .iload_n 2, 46, 0, [2], 0, 0),
  (46, .imul, 47, 0, [], 0, 0),
  (47, .aload_n 0, 48, 0, [0], 0, 0),
  (48, .getfield 316, 51, 1448, [0, 9, 35], 0, 0),
  (51, .aload_n 0, 52, 0, [0], 0, 0),
  (52, .iload_n 1, 53, 0, [1], 0, 0),
  (53, .aload_n 0, 54, 0, [0], 0, 0),
  (54, .aload_n 0, 55, 0, [0], 0, 0),
  (55, .getfield 60, 58, 1456, [0, 9, 43], 0, 0),
  (58, .iconst (0), 59, 0, [], 0, 0),
  (59, .iaload, 60, 0, [], 0, 0),
  (60, .invokevirtual 426, 63, 1920, [1280, 2, 0, 9, 1922, 101, 138, 1923], 0, 0),
  (63, .invokevirtual 429, 66, 1933, [1282, 3, 0, 9, 1935, 103, 138, 1936], 0, 0),
  (66, .imul, 67, 0, [], 0, 0),
  (67, .isub, 68, 0, [], 0, 0),
  (68, .ireturn, 69, 0, [], 0, 0)]
def pt_m1322 : pm_Me := (⟨"TurnCabinetModel", "paysNow", "(I)I"⟩, prog_12_method_122_code, 4, some .int, 3, 67, pt_q1322_0)
-- TurnCabinetModel.crisis()I
def pt_q1325_0 : List pm_Q := [(0, .iconst (0), 1, 0, [], 0, 0),
  (1, .istore_n 1, 2, 0, [1], 0, 0),
  (2, .aload_n 0, 3, 0, [0], 0, 0),
  (3, .invokevirtual 509, 6, 2102, [1324, 1, 0, 9, 2104, 123, 138, 2105], 0, 0),
  (6, .istore_n 2, 7, 0, [2], 0, 0),
  (7, .iload_n 2, 8, 0, [2], 0, 0),
  (8, .iconst (-1), 9, 0, [], -1, 0),
  (9, .if_icmp .eq (28), 12, 0, [37], 0, 0),
  (12, .iload_n 1, 13, 0, [1], 0, 0),
  (13, .ifCond .ne (7), 16, 0, [20], 0, 0),
  (16, .aload_n 0, 17, 0, [0], 0, 0),
  (17, .invokevirtual 500, 20, 2074, [1240, 1, 0, 9, 2076, 120, 138, 2077], 0, 0),
  (20, .aload_n 0, 21, 0, [0], 0, 0),
  (21, .iload_n 2, 22, 0, [2], 0, 0),
  (22, .invokevirtual 503, 25, 2086, [1320, 2, 0, 9, 2088, 121, 138, 2089], 0, 0),
  (25, .pop, 26, 0, [], 0, 0),
  (26, .iinc 1 (1), 29, 0, [1], 1, 0),
  (29, .aload_n 0, 30, 0, [0], 0, 0),
  (30, .invokevirtual 509, 33, 2102, [1324, 1, 0, 9, 2104, 123, 138, 2105], 0, 0),
  (33, .istore_n 2, 34, 0, [2], 0, 0),
  (34, .goto (-27), 37, 0, [7], 0, 0),
  (37, .iload_n 1, 38, 0, [1], 0, 0),
  (38, .ireturn, 39, 0, [], 0, 0)]
def pt_m1325 : pm_Me := (⟨"TurnCabinetModel", "crisis", "()I"⟩, prog_12_method_125_code, 3, some .int, 5, 111, pt_q1325_0)
-- TurnCabinetModel.goer()I
def pt_q1324_0 : List pm_Q := [(0, .iconst (0), 1, 0, [], 0, 0),
  (1, .istore_n 1, 2, 0, [1], 0, 0),
  (2, .iload_n 1, 3, 0, [1], 0, 0),
  (3, .aload_n 0, 4, 0, [0], 0, 0),
  (4, .getfield 301, 7, 1443, [0, 9, 30], 0, 0),
  (7, .if_icmp .ge (38), 10, 0, [45], 0, 0),
  (10, .aload_n 0, 11, 0, [0], 0, 0),
  (11, .getfield 60, 14, 1456, [0, 9, 43], 0, 0),
  (14, .iconst (0), 15, 0, [], 0, 0),
  (15, .iaload, 16, 0, [], 0, 0),
  (16, .iload_n 1, 17, 0, [1], 0, 0),
  (17, .invokestatic 242, 20, 1666, [1205, 2, 0, 1667, 138, 1668], 0, 0),
  (20, .ifCond .eq (19), 23, 0, [39], 0, 0),
  (23, .aload_n 0, 24, 0, [0], 0, 0),
  (24, .iload_n 1, 25, 0, [1], 0, 0),
  (25, .invokevirtual 506, 28, 2094, [1322, 2, 0, 9, 2096, 122, 138, 2097], 0, 0),
  (28, .aload_n 0, 29, 0, [0], 0, 0),
  (29, .getfield 48, 32, 1452, [0, 9, 39], 0, 0),
  (32, .iload_n 1, 33, 0, [1], 0, 0),
  (33, .iaload, 34, 0, [], 0, 0),
  (34, .if_icmp .ge (5), 37, 0, [39], 0, 0),
  (37, .iload_n 1, 38, 0, [1], 0, 0),
  (38, .ireturn, 39, 0, [], 0, 0),
  (39, .iinc 1 (1), 42, 0, [1], 1, 0),
  (42, .goto (-40), 45, 0, [2], 0, 0),
  (45, .iconst (-1), 46, 0, [], -1, 0),
  (46, .ireturn, 47, 0, [], 0, 0)]
def pt_m1324 : pm_Me := (⟨"TurnCabinetModel", "goer", "()I"⟩, prog_12_method_124_code, 2, some .int, 4, 90, pt_q1324_0)
-- TurnCabinetModel.trade(II)I
def pt_q1326_0 : List pm_Q := [(0, .aload_n 0, 1, 0, [0], 0, 0),
  (1, .iload_n 1, 2, 0, [1], 0, 0),
  (2, .invokevirtual 354, 5, 1779, [1247, 2, 0, 9, 1781, 79, 138, 1782], 0, 0),
  (5, .ifCond .eq (54), 8, 0, [59], 0, 0),
  (8, .aload_n 0, 9, 0, [0], 0, 0),
  (9, .iload_n 2, 10, 0, [2], 0, 0),
  (10, .invokevirtual 354, 13, 1779, [1247, 2, 0, 9, 1781, 79, 138, 1782], 0, 0),
  (13, .ifCond .eq (46), 16, 0, [59], 0, 0),
  (16, .aload_n 0, 17, 0, [0], 0, 0),
  (17, .getfield 60, 20, 1456, [0, 9, 43], 0, 0),
  (20, .iconst (1), 21, 0, [], 1, 0),
  (21, .iload_n 1, 22, 0, [1], 0, 0),
  (22, .iadd, 23, 0, [], 0, 0),
  (23, .iaload, 24, 0, [], 0, 0),
  (24, .iconst (-1), 25, 0, [], -1, 0),
  (25, .if_icmp .eq (34), 28, 0, [59], 0, 0),
  (28, .aload_n 0, 29, 0, [0], 0, 0),
  (29, .getfield 60, 32, 1456, [0, 9, 43], 0, 0),
  (32, .iconst (1), 33, 0, [], 1, 0),
  (33, .iload_n 2, 34, 0, [2], 0, 0),
  (34, .iadd, 35, 0, [], 0, 0),
  (35, .iaload, 36, 0, [], 0, 0),
  (36, .iconst (-1), 37, 0, [], -1, 0),
  (37, .if_icmp .eq (22), 40, 0, [59], 0, 0),
  (40, .aload_n 0, 41, 0, [0], 0, 0),
  (41, .getfield 60, 44, 1456, [0, 9, 43], 0, 0),
  (44, .iconst (1), 45, 0, [], 1, 0),
  (45, .iload_n 1, 46, 0, [1], 0, 0),
  (46, .iadd, 47, 0, [], 0, 0),
  (47, .iaload, 48, 0, [], 0, 0),
  (48, .aload_n 0, 49, 0, [0], 0, 0),
  (49, .getfield 60, 52, 1456, [0, 9, 43], 0, 0),
  (52, .iconst (1), 53, 0, [], 1, 0),
  (53, .iload_n 2, 54, 0, [2], 0, 0),
  (54, .iadd, 55, 0, [], 0, 0),
  (55, .iaload, 56, 0, [], 0, 0),
  (56, .if_icmp .ne (7), 59, 0, [63], 0, 0),
  (59, .ldc_w 453, 62, 1928, [], -1000000, 0),
  (62, .ireturn, 63, 0, [], 0, 0),
  (63, .aload_n 0, 64, 0, [0], 0, 0),
  (64, .getfield 60, 67, 1456, [0, 9, 43], 0, 0),
  (67, .iconst (1), 68, 0, [], 1, 0),
  (68, .iload_n 1, 69, 0, [1], 0, 0),
  (69, .iadd, 70, 0, [], 0, 0),
  (70, .iaload, 71, 0, [], 0, 0),
  (71, .istore_n 3, 72, 0, [3], 0, 0),
  (72, .aload_n 0, 73, 0, [0], 0, 0),
  (73, .getfield 60, 76, 1456, [0, 9, 43], 0, 0),
  (76, .iconst (1), 77, 0, [], 1, 0),
  (77, .iload_n 2, 78, 0, [2], 0, 0),
  (78, .iadd, 79, 0, [], 0, 0),
  (79, .iaload, 80, 0, [], 0, 0),
  (80, .istore 4, 82, 0, [4], 0, 0),
  (82, .aload_n 0, 83, 0, [0], 0, 0),
  (83, .invokevirtual 500, 86, 2074, [1240, 1, 0, 9, 2076, 120, 138, 2077], 0, 0),
  (86, .aload_n 0, 87, 0, [0], 0, 0),
  (87, .getfield 60, 90, 1456, [0, 9, 43], 0, 0),
  (90, .iconst (1), 91, 0, [], 1, 0),
  (91, .iload_n 1, 92, 0, [1], 0, 0),
  (92, .iadd, 93, 0, [], 0, 0)]
def pt_q1326_1 : List pm_Q := [(93, .iload 4, 95, 0, [4], 0, 0),
  (95, .iastore, 96, 0, [], 0, 0),
  (96, .aload_n 0, 97, 0, [0], 0, 0),
  (97, .getfield 60, 100, 1456, [0, 9, 43], 0, 0),
  (100, .iconst (1), 101, 0, [], 1, 0),
  (101, .iload_n 2, 102, 0, [2], 0, 0),
  (102, .iadd, 103, 0, [], 0, 0),
  (103, .iload_n 3, 104, 0, [3], 0, 0),
  (104, .iastore, 105, 0, [], 0, 0),
  (105, .aload_n 0, 106, 0, [0], 0, 0),
  (106, .iload_n 3, 107, 0, [3], 0, 0),
  (107, .iload_n 2, 108, 0, [2], 0, 0),
  (108, .invokevirtual 357, 111, 1783, [1249, 3, 0, 9, 1785, 80, 138, 1786], 0, 0),
  (111, .aload_n 0, 112, 0, [0], 0, 0),
  (112, .iload 4, 114, 0, [4], 0, 0),
  (114, .iload_n 1, 115, 0, [1], 0, 0),
  (115, .invokevirtual 357, 118, 1783, [1249, 3, 0, 9, 1785, 80, 138, 1786], 0, 0),
  (118, .iadd, 119, 0, [], 0, 0),
  (119, .aload_n 0, 120, 0, [0], 0, 0),
  (120, .iload_n 3, 121, 0, [3], 0, 0),
  (121, .iload_n 1, 122, 0, [1], 0, 0),
  (122, .invokevirtual 357, 125, 1783, [1249, 3, 0, 9, 1785, 80, 138, 1786], 0, 0),
  (125, .isub, 126, 0, [], 0, 0),
  (126, .aload_n 0, 127, 0, [0], 0, 0),
  (127, .iload 4, 129, 0, [4], 0, 0),
  (129, .iload_n 2, 130, 0, [2], 0, 0),
  (130, .invokevirtual 357, 133, 1783, [1249, 3, 0, 9, 1785, 80, 138, 1786], 0, 0),
  (133, .isub, 134, 0, [], 0, 0),
  (134, .ireturn, 135, 0, [], 0, 0)]
def pt_m1326 : pm_Me := (⟨"TurnCabinetModel", "trade", "(II)I"⟩, prog_12_method_126_code, 5, some .int, 2, 46, pt_q1326_0 ++ pt_q1326_1)
-- TurnCabinetModel.seats(II)I
def pt_q1327_0 : List pm_Q := [(0, .aload_n 0, 1, 0, [0], 0, 0),
  (1, .iload_n 1, 2, 0, [1], 0, 0),
  (2, .invokevirtual 348, 5, 1760, [1246, 2, 0, 9, 1762, 76, 138, 1763], 0, 0),
  (5, .ifCond .eq (24), 8, 0, [29], 0, 0),
  (8, .iload_n 2, 9, 0, [2], 0, 0),
  (9, .i2l, 10, 0, [], 0, 0),
  (10, .lconst 1, 11, 0, [], 0, 1),
  (11, .ldc2_w 512, 14, 2114, [], 0, 999),
  (14, .invokestatic 125, 17, 1624, [1202, 3, 0, 1625, 138, 1626], 0, 0),
  (17, .ifCond .eq (12), 20, 0, [29], 0, 0),
  (20, .aload_n 0, 21, 0, [0], 0, 0),
  (21, .iload_n 1, 22, 0, [1], 0, 0),
  (22, .invokevirtual 335, 25, 1764, [1242, 2, 0, 9, 1766, 77, 138, 1767], 0, 0),
  (25, .iload_n 2, 26, 0, [2], 0, 0),
  (26, .if_icmp .ne (5), 29, 0, [31], 0, 0),
  (29, .iconst (-1), 30, 0, [], -1, 0),
  (30, .ireturn, 31, 0, [], 0, 0),
  (31, .aload_n 0, 32, 0, [0], 0, 0),
  (32, .iload_n 1, 33, 0, [1], 0, 0),
  (33, .invokevirtual 335, 36, 1764, [1242, 2, 0, 9, 1766, 77, 138, 1767], 0, 0),
  (36, .istore_n 3, 37, 0, [3], 0, 0),
  (37, .aload_n 0, 38, 0, [0], 0, 0),
  (38, .invokevirtual 500, 41, 2074, [1240, 1, 0, 9, 2076, 120, 138, 2077], 0, 0),
  (41, .aload_n 0, 42, 0, [0], 0, 0),
  (42, .getfield 60, 45, 1456, [0, 9, 43], 0, 0),
  (45, .bipush (9), 47, 0, [], 9, 0),
  (47, .iload_n 1, 48, 0, [1], 0, 0),
  (48, .iadd, 49, 0, [], 0, 0),
  (49, .iload_n 2, 50, 0, [2], 0, 0),
  (50, .iastore, 51, 0, [], 0, 0),
  (51, .aload_n 0, 52, 0, [0], 0, 0),
  (52, .iconst (0), 53, 0, [], 0, 0),
  (53, .putfield 331, 56, 1470, [0, 9, 57], 0, 0),
  (56, .iload_n 3, 57, 0, [3], 0, 0),
  (57, .ireturn, 58, 0, [], 0, 0)]
def pt_m1327 : pm_Me := (⟨"TurnCabinetModel", "seats", "(II)I"⟩, prog_12_method_127_code, 4, some .int, 2, 46, pt_q1327_0)
-- TurnCabinetModel.above()I
def pt_q1328_0 : List pm_Q := [(0, .aload_n 0, 1, 0, [0], 0, 0),
  (1, .getfield 60, 4, 1456, [0, 9, 43], 0, 0),
  (4, .iconst (0), 5, 0, [], 0, 0),
  (5, .iaload, 6, 0, [], 0, 0),
  (6, .ifCond .ne (9), 9, 0, [15], 0, 0),
  (9, .ldc_w 453, 12, 1928, [], -1000000, 0),
  (12, .goto (18), 15, 0, [30], 0, 0),
  (15, .aload_n 0, 16, 0, [0], 0, 0),
  (16, .aload_n 0, 17, 0, [0], 0, 0),
  (17, .getfield 60, 20, 1456, [0, 9, 43], 0, 0),
  (20, .iconst (0), 21, 0, [], 0, 0),
  (21, .iaload, 22, 0, [], 0, 0),
  (22, .invokevirtual 341, 25, 1799, [1243, 2, 0, 9, 1801, 83, 138, 1802], 0, 0),
  (25, .aload_n 0, 26, 0, [0], 0, 0),
  (26, .invokevirtual 360, 29, 1791, [1245, 1, 0, 9, 1793, 81, 138, 1794], 0, 0),
  (29, .isub, 30, 0, [], 0, 0),
  (30, .ireturn, 31, 0, [], 0, 0)]
def pt_m1328 : pm_Me := (⟨"TurnCabinetModel", "above", "()I"⟩, prog_12_method_128_code, 1, some .int, 3, 64, pt_q1328_0)
-- TurnCabinetModel.judge(II)I
def pt_q1329_0 : List pm_Q := [(0, .aload_n 0, 1, 0, [0], 0, 0),
  (1, .iload_n 1, 2, 0, [1], 0, 0),
  (2, .invokevirtual 369, 5, 1807, [1248, 2, 0, 9, 1809, 84, 138, 1810], 0, 0),
  (5, .ifCond .eq (15), 8, 0, [20], 0, 0),
  (8, .iload_n 2, 9, 0, [2], 0, 0),
  (9, .i2l, 10, 0, [], 0, 0),
  (10, .lconst 0, 11, 0, [], 0, 0),
  (11, .ldc2_w 495, 14, 2041, [], 0, 3),
  (14, .invokestatic 125, 17, 1624, [1202, 3, 0, 1625, 138, 1626], 0, 0),
  (17, .ifCond .ne (5), 20, 0, [22], 0, 0),
  (20, .iconst (-1), 21, 0, [], -1, 0),
  (21, .ireturn, 22, 0, [], 0, 0),
  (22, .aload_n 0, 23, 0, [0], 0, 0),
  (23, .getfield 118, 26, 1414, [0, 9, 1], 0, 0),
  (26, .istore_n 3, 27, 0, [3], 0, 0),
  (27, .aload_n 0, 28, 0, [0], 0, 0),
  (28, .iconst (0), 29, 0, [], 0, 0),
  (29, .putfield 118, 32, 1414, [0, 9, 1], 0, 0),
  (32, .iload_n 3, 33, 0, [3], 0, 0),
  (33, .aload_n 0, 34, 0, [0], 0, 0),
  (34, .getfield 304, 37, 1444, [0, 9, 31], 0, 0),
  (37, .if_icmp .eq (6), 40, 0, [43], 0, 0),
  (40, .bipush (-2), 42, 0, [], -2, 0),
  (42, .ireturn, 43, 0, [], 0, 0),
  (43, .iconst (0), 44, 0, [], 0, 0),
  (44, .istore 4, 46, 0, [4], 0, 0),
  (46, .iload 4, 48, 0, [4], 0, 0),
  (48, .aload_n 0, 49, 0, [0], 0, 0),
  (49, .getfield 304, 52, 1444, [0, 9, 31], 0, 0),
  (52, .if_icmp .ge (54), 55, 0, [106], 0, 0),
  (55, .aload_n 0, 56, 0, [0], 0, 0),
  (56, .getfield 7, 59, 1413, [0, 9, 0], 0, 0),
  (59, .iload 4, 61, 0, [4], 0, 0),
  (61, .iaload, 62, 0, [], 0, 0),
  (62, .aload_n 0, 63, 0, [0], 0, 0),
  (63, .getfield 301, 66, 1443, [0, 9, 30], 0, 0),
  (66, .if_icmp .ge (17), 69, 0, [83], 0, 0),
  (69, .iload_n 1, 70, 0, [1], 0, 0),
  (70, .aload_n 0, 71, 0, [0], 0, 0),
  (71, .getfield 7, 74, 1413, [0, 9, 0], 0, 0),
  (74, .iload 4, 76, 0, [4], 0, 0),
  (76, .iaload, 77, 0, [], 0, 0),
  (77, .invokestatic 242, 80, 1666, [1205, 2, 0, 1667, 138, 1668], 0, 0),
  (80, .ifCond .ne (6), 83, 0, [86], 0, 0),
  (83, .bipush (-2), 85, 0, [], -2, 0),
  (85, .ireturn, 86, 0, [], 0, 0),
  (86, .aload_n 0, 87, 0, [0], 0, 0),
  (87, .getfield 78, 90, 1463, [0, 9, 50], 0, 0),
  (90, .iload 4, 92, 0, [4], 0, 0),
  (92, .aload_n 0, 93, 0, [0], 0, 0),
  (93, .getfield 7, 96, 1413, [0, 9, 0], 0, 0),
  (96, .iload 4, 98, 0, [4], 0, 0),
  (98, .iaload, 99, 0, [], 0, 0),
  (99, .iastore, 100, 0, [], 0, 0),
  (100, .iinc 4 (1), 103, 0, [4], 1, 0),
  (103, .goto (-57), 106, 0, [46], 0, 0),
  (106, .iconst (0), 107, 0, [], 0, 0),
  (107, .istore 4, 109, 0, [4], 0, 0),
  (109, .iconst (0), 110, 0, [], 0, 0),
  (110, .istore 5, 112, 0, [5], 0, 0)]
def pt_q1329_1 : List pm_Q := [(112, .iconst (0), 113, 0, [], 0, 0),
  (113, .istore 6, 115, 0, [6], 0, 0),
  (115, .iconst (0), 116, 0, [], 0, 0),
  (116, .istore 7, 118, 0, [7], 0, 0),
  (118, .iload 7, 120, 0, [7], 0, 0),
  (120, .aload_n 0, 121, 0, [0], 0, 0),
  (121, .getfield 304, 124, 1444, [0, 9, 31], 0, 0),
  (124, .if_icmp .ge (116), 127, 0, [240], 0, 0),
  (127, .iload 4, 129, 0, [4], 0, 0),
  (129, .aload_n 0, 130, 0, [0], 0, 0),
  (130, .aload_n 0, 131, 0, [0], 0, 0),
  (131, .getfield 78, 134, 1463, [0, 9, 50], 0, 0),
  (134, .iload 7, 136, 0, [7], 0, 0),
  (136, .iaload, 137, 0, [], 0, 0),
  (137, .iload 7, 139, 0, [7], 0, 0),
  (139, .invokevirtual 357, 142, 1783, [1249, 3, 0, 9, 1785, 80, 138, 1786], 0, 0),
  (142, .iadd, 143, 0, [], 0, 0),
  (143, .istore 4, 145, 0, [4], 0, 0),
  (145, .iconst (0), 146, 0, [], 0, 0),
  (146, .istore 8, 148, 0, [8], 0, 0),
  (148, .iconst (0), 149, 0, [], 0, 0),
  (149, .istore 9, 151, 0, [9], 0, 0),
  (151, .iload 9, 153, 0, [9], 0, 0),
  (153, .aload_n 0, 154, 0, [0], 0, 0),
  (154, .getfield 301, 157, 1443, [0, 9, 30], 0, 0),
  (157, .if_icmp .ge (33), 160, 0, [190], 0, 0),
  (160, .iload_n 1, 161, 0, [1], 0, 0),
  (161, .iload 9, 163, 0, [9], 0, 0),
  (163, .invokestatic 242, 166, 1666, [1205, 2, 0, 1667, 138, 1668], 0, 0),
  (166, .ifCond .eq (18), 169, 0, [184], 0, 0),
  (169, .iload 8, 171, 0, [8], 0, 0),
  (171, .aload_n 0, 172, 0, [0], 0, 0),
  (172, .iload 9, 174, 0, [9], 0, 0),
  (174, .iload 7, 176, 0, [7], 0, 0),
  (176, .invokevirtual 357, 179, 1783, [1249, 3, 0, 9, 1785, 80, 138, 1786], 0, 0),
  (179, .invokestatic 325, 182, 1410, [1204, 2, 0, 1411, 138, 1412], 0, 0),
  (182, .istore 8, 184, 0, [8], 0, 0),
  (184, .iinc 9 (1), 187, 0, [9], 1, 0),
  (187, .goto (-36), 190, 0, [151], 0, 0),
  (190, .iload 5, 192, 0, [5], 0, 0),
  (192, .iload 8, 194, 0, [8], 0, 0),
  (194, .iadd, 195, 0, [], 0, 0),
  (195, .istore 5, 197, 0, [5], 0, 0),
  (197, .iload 7, 199, 0, [7], 0, 0),
  (199, .iconst (1), 200, 0, [], 1, 0),
  (200, .iadd, 201, 0, [], 0, 0),
  (201, .istore 9, 203, 0, [9], 0, 0),
  (203, .iload 9, 205, 0, [9], 0, 0),
  (205, .aload_n 0, 206, 0, [0], 0, 0),
  (206, .getfield 304, 209, 1444, [0, 9, 31], 0, 0),
  (209, .if_icmp .ge (25), 212, 0, [234], 0, 0),
  (212, .iload 6, 214, 0, [6], 0, 0),
  (214, .aload_n 0, 215, 0, [0], 0, 0),
  (215, .iload 7, 217, 0, [7], 0, 0),
  (217, .iload 9, 219, 0, [9], 0, 0),
  (219, .invokevirtual 383, 222, 1860, [1263, 3, 0, 9, 1862, 94, 138, 1863], 0, 0),
  (222, .invokestatic 344, 225, 1772, [1203, 1, 0, 1773, 138, 1774], 0, 0),
  (225, .iadd, 226, 0, [], 0, 0),
  (226, .istore 6, 228, 0, [6], 0, 0),
  (228, .iinc 9 (1), 231, 0, [9], 1, 0)]
def pt_q1329_2 : List pm_Q := [(231, .goto (-28), 234, 0, [203], 0, 0),
  (234, .iinc 7 (1), 237, 0, [7], 1, 0),
  (237, .goto (-119), 240, 0, [118, 8, 9], 0, 0),
  (240, .iload_n 2, 241, 0, [2], 0, 0),
  (241, .iconst (3), 242, 0, [], 3, 0),
  (242, .if_icmp .ge (28), 245, 0, [270], 0, 0),
  (245, .iload_n 2, 246, 0, [2], 0, 0),
  (246, .ifCond .ne (8), 249, 0, [254], 0, 0),
  (249, .iload 6, 251, 0, [6], 0, 0),
  (251, .goto (18), 254, 0, [269], 0, 0),
  (254, .iload_n 2, 255, 0, [2], 0, 0),
  (255, .iconst (1), 256, 0, [], 1, 0),
  (256, .if_icmp .ne (8), 259, 0, [264], 0, 0),
  (259, .iload 4, 261, 0, [4], 0, 0),
  (261, .goto (8), 264, 0, [269], 0, 0),
  (264, .iload 5, 266, 0, [5], 0, 0),
  (266, .iload 4, 268, 0, [4], 0, 0),
  (268, .isub, 269, 0, [], 0, 0),
  (269, .ireturn, 270, 0, [], 0, 0),
  (270, .aload_n 0, 271, 0, [0], 0, 0),
  (271, .iload_n 1, 272, 0, [1], 0, 0),
  (272, .invokevirtual 372, 275, 1811, [1256, 2, 0, 9, 1813, 85, 138, 1814], 0, 0),
  (275, .iconst (0), 276, 0, [], 0, 0),
  (276, .istore 7, 278, 0, [7], 0, 0),
  (278, .iconst (0), 279, 0, [], 0, 0),
  (279, .istore 8, 281, 0, [8], 0, 0),
  (281, .iload 8, 283, 0, [8], 0, 0),
  (283, .aload_n 0, 284, 0, [0], 0, 0),
  (284, .getfield 301, 287, 1443, [0, 9, 30], 0, 0),
  (287, .if_icmp .ge (89), 290, 0, [376], 0, 0),
  (290, .iconst (0), 291, 0, [], 0, 0),
  (291, .istore 9, 293, 0, [9], 0, 0),
  (293, .iconst (0), 294, 0, [], 0, 0),
  (294, .istore 10, 296, 0, [10], 0, 0),
  (296, .iload 10, 298, 0, [10], 0, 0),
  (298, .aload_n 0, 299, 0, [0], 0, 0),
  (299, .getfield 304, 302, 1444, [0, 9, 31], 0, 0),
  (302, .if_icmp .ge (34), 305, 0, [336], 0, 0),
  (305, .iload 9, 307, 0, [9], 0, 0),
  (307, .aload_n 0, 308, 0, [0], 0, 0),
  (308, .getfield 78, 311, 1463, [0, 9, 50], 0, 0),
  (311, .iload 10, 313, 0, [10], 0, 0),
  (313, .iaload, 314, 0, [], 0, 0),
  (314, .iload 8, 316, 0, [8], 0, 0),
  (316, .if_icmp .ne (7), 319, 0, [323], 0, 0),
  (319, .iconst (1), 320, 0, [], 1, 0),
  (320, .goto (4), 323, 0, [324], 0, 0),
  (323, .iconst (0), 324, 0, [], 0, 0),
  (324, .invokestatic 344, 327, 1772, [1203, 1, 0, 1773, 138, 1774], 0, 0),
  (327, .iadd, 328, 0, [], 0, 0),
  (328, .istore 9, 330, 0, [9], 0, 0),
  (330, .iinc 10 (1), 333, 0, [10], 1, 0),
  (333, .goto (-37), 336, 0, [296], 0, 0),
  (336, .iload 7, 338, 0, [7], 0, 0),
  (338, .iload_n 1, 339, 0, [1], 0, 0),
  (339, .iload 8, 341, 0, [8], 0, 0),
  (341, .invokestatic 242, 344, 1666, [1205, 2, 0, 1667, 138, 1668], 0, 0),
  (344, .ifCond .eq (19), 347, 0, [363], 0, 0),
  (347, .iload 9, 349, 0, [9], 0, 0),
  (349, .aload_n 0, 350, 0, [0], 0, 0)]
def pt_q1329_3 : List pm_Q := [(350, .getfield 69, 353, 1460, [0, 9, 47], 0, 0),
  (353, .iload 8, 355, 0, [8], 0, 0),
  (355, .iaload, 356, 0, [], 0, 0),
  (356, .if_icmp .eq (7), 359, 0, [363], 0, 0),
  (359, .iconst (1), 360, 0, [], 1, 0),
  (360, .goto (4), 363, 0, [364], 0, 0),
  (363, .iconst (0), 364, 0, [], 0, 0),
  (364, .invokestatic 344, 367, 1772, [1203, 1, 0, 1773, 138, 1774], 0, 0),
  (367, .iadd, 368, 0, [], 0, 0),
  (368, .istore 7, 370, 0, [7], 0, 0),
  (370, .iinc 8 (1), 373, 0, [8], 1, 0),
  (373, .goto (-92), 376, 0, [281, 9, 10], 0, 0),
  (376, .iload 7, 378, 0, [7], 0, 0),
  (378, .ireturn, 379, 0, [], 0, 0)]
def pt_m1329 : pm_Me := (⟨"TurnCabinetModel", "judge", "(II)I"⟩, prog_12_method_129_code, 11, some .int, 4, 90, pt_q1329_0 ++ pt_q1329_1 ++ pt_q1329_2 ++ pt_q1329_3)
-- TurnCabinetLaw.law([I)Z
def pt_q1_0 : List pm_Q := [(0, .new 7, 3, 142, [0, 0, 143, 125], 0, 0),
  (3, .dup, 4, 0, [], 0, 0),
  (4, .invokespecial 9, 7, 144, [101, 1, 0, 145, 125, 146], 0, 0),
  (7, .astore_n 1, 8, 0, [1], 0, 0),
  (8, .new 10, 11, 1396, [0, 9, 1397, 138], 0, 0),
  (11, .dup, 12, 0, [], 0, 0),
  (12, .invokespecial 12, 15, 1398, [1201, 1, 0, 1399, 138, 1400], 0, 0),
  (15, .astore_n 2, 16, 0, [2], 0, 0),
  (16, .iconst (0), 17, 0, [], 0, 0),
  (17, .istore_n 3, 18, 0, [3], 0, 0),
  (18, .iload_n 3, 19, 0, [3], 0, 0),
  (19, .aload_n 0, 20, 0, [0], 0, 0),
  (20, .arraylength, 21, 0, [], 0, 0),
  (21, .bipush (6), 23, 0, [], 6, 0),
  (23, .isub, 24, 0, [], 0, 0),
  (24, .if_icmp .gt (1515), 27, 0, [1539], 0, 0),
  (27, .aload_n 0, 28, 0, [0], 0, 0),
  (28, .iload_n 3, 29, 0, [3], 0, 0),
  (29, .iaload, 30, 0, [], 0, 0),
  (30, .bipush (63), 32, 0, [], 63, 0),
  (32, .iand, 33, 0, [], 0, 0),
  (33, .tableswitch (1500) (0) (44) #[195, 258, 281, 294, 317, 350, 383, 406, 439, 492, 535, 578, 601, 644, 667, 700, 743, 786, 819, 852, 875, 898, 931, 954, 987, 1010, 1043, 1066, 1079, 1102, 1125, 1148, 1171, 1204, 1227, 1260, 1293, 1316, 1339, 1362, 1375, 1408, 1441, 1454, 1467], 228, 0, [1533, 228, 291, 314, 327, 350, 383, 416, 439, 472, 525, 568, 611, 634, 677, 700, 733, 776, 819, 852, 885, 908, 931, 964, 987, 1020, 1043, 1076, 1099, 1112, 1135, 1158, 1181, 1204, 1237, 1260, 1293, 1326, 1349, 1372, 1395, 1408, 1441, 1474, 1487, 1500], 0, 0),
  (228, .aload_n 1, 229, 0, [1], 0, 0),
  (229, .aload_n 0, 230, 0, [0], 0, 0),
  (230, .iload_n 3, 231, 0, [3], 0, 0),
  (231, .iconst (1), 232, 0, [], 1, 0),
  (232, .iadd, 233, 0, [], 0, 0),
  (233, .iaload, 234, 0, [], 0, 0),
  (234, .aload_n 0, 235, 0, [0], 0, 0),
  (235, .iload_n 3, 236, 0, [3], 0, 0),
  (236, .iconst (2), 237, 0, [], 2, 0),
  (237, .iadd, 238, 0, [], 0, 0),
  (238, .iaload, 239, 0, [], 0, 0),
  (239, .aload_n 0, 240, 0, [0], 0, 0),
  (240, .iload_n 3, 241, 0, [3], 0, 0),
  (241, .iconst (3), 242, 0, [], 3, 0),
  (242, .iadd, 243, 0, [], 0, 0),
  (243, .iaload, 244, 0, [], 0, 0),
  (244, .aload_n 0, 245, 0, [0], 0, 0),
  (245, .iload_n 3, 246, 0, [3], 0, 0),
  (246, .iconst (4), 247, 0, [], 4, 0),
  (247, .iadd, 248, 0, [], 0, 0),
  (248, .iaload, 249, 0, [], 0, 0),
  (249, .aload_n 0, 250, 0, [0], 0, 0),
  (250, .iload_n 3, 251, 0, [3], 0, 0),
  (251, .iconst (5), 252, 0, [], 5, 0),
  (252, .iadd, 253, 0, [], 0, 0),
  (253, .iaload, 254, 0, [], 0, 0),
  (254, .invokevirtual 13, 257, 561, [102, 6, 0, 0, 562, 563, 125, 564], 0, 0),
  (257, .aload_n 2, 258, 0, [2], 0, 0),
  (258, .aload_n 0, 259, 0, [0], 0, 0),
  (259, .iload_n 3, 260, 0, [3], 0, 0),
  (260, .iconst (1), 261, 0, [], 1, 0),
  (261, .iadd, 262, 0, [], 0, 0),
  (262, .iaload, 263, 0, [], 0, 0),
  (263, .aload_n 0, 264, 0, [0], 0, 0),
  (264, .iload_n 3, 265, 0, [3], 0, 0),
  (265, .iconst (2), 266, 0, [], 2, 0),
  (266, .iadd, 267, 0, [], 0, 0),
  (267, .iaload, 268, 0, [], 0, 0)]
def pt_q1_1 : List pm_Q := [(268, .aload_n 0, 269, 0, [0], 0, 0),
  (269, .iload_n 3, 270, 0, [3], 0, 0),
  (270, .iconst (3), 271, 0, [], 3, 0),
  (271, .iadd, 272, 0, [], 0, 0),
  (272, .iaload, 273, 0, [], 0, 0),
  (273, .aload_n 0, 274, 0, [0], 0, 0),
  (274, .iload_n 3, 275, 0, [3], 0, 0),
  (275, .iconst (4), 276, 0, [], 4, 0),
  (276, .iadd, 277, 0, [], 0, 0),
  (277, .iaload, 278, 0, [], 0, 0),
  (278, .aload_n 0, 279, 0, [0], 0, 0),
  (279, .iload_n 3, 280, 0, [3], 0, 0),
  (280, .iconst (5), 281, 0, [], 5, 0),
  (281, .iadd, 282, 0, [], 0, 0),
  (282, .iaload, 283, 0, [], 0, 0),
  (283, .invokevirtual 17, 286, 1612, [1207, 6, 0, 9, 1613, 1614, 138, 1615], 0, 0),
  (286, .if_icmp .eq (1247), 289, 0, [1533], 0, 0),
  (289, .iconst (0), 290, 0, [], 0, 0),
  (290, .ireturn, 291, 0, [], 0, 0),
  (291, .aload_n 1, 292, 0, [1], 0, 0),
  (292, .aload_n 0, 293, 0, [0], 0, 0),
  (293, .iload_n 3, 294, 0, [3], 0, 0),
  (294, .iconst (1), 295, 0, [], 1, 0),
  (295, .iadd, 296, 0, [], 0, 0),
  (296, .iaload, 297, 0, [], 0, 0),
  (297, .invokevirtual 18, 300, 573, [103, 2, 0, 0, 574, 575, 125, 576], 0, 0),
  (300, .aload_n 2, 301, 0, [2], 0, 0),
  (301, .aload_n 0, 302, 0, [0], 0, 0),
  (302, .iload_n 3, 303, 0, [3], 0, 0),
  (303, .iconst (1), 304, 0, [], 1, 0),
  (304, .iadd, 305, 0, [], 0, 0),
  (305, .iaload, 306, 0, [], 0, 0),
  (306, .invokevirtual 22, 309, 1620, [1209, 2, 0, 9, 1621, 1622, 138, 1623], 0, 0),
  (309, .if_icmp .eq (1224), 312, 0, [1533], 0, 0),
  (312, .iconst (0), 313, 0, [], 0, 0),
  (313, .ireturn, 314, 0, [], 0, 0),
  (314, .aload_n 1, 315, 0, [1], 0, 0),
  (315, .invokevirtual 23, 318, 581, [104, 1, 0, 0, 582, 583, 125, 584], 0, 0),
  (318, .aload_n 2, 319, 0, [2], 0, 0),
  (319, .invokevirtual 27, 322, 1627, [1237, 1, 0, 9, 1628, 1629, 138, 1630], 0, 0),
  (322, .if_icmp .eq (1211), 325, 0, [1533], 0, 0),
  (325, .iconst (0), 326, 0, [], 0, 0),
  (326, .ireturn, 327, 0, [], 0, 0),
  (327, .aload_n 1, 328, 0, [1], 0, 0),
  (328, .aload_n 0, 329, 0, [0], 0, 0),
  (329, .iload_n 3, 330, 0, [3], 0, 0),
  (330, .iconst (1), 331, 0, [], 1, 0),
  (331, .iadd, 332, 0, [], 0, 0),
  (332, .iaload, 333, 0, [], 0, 0),
  (333, .invokevirtual 28, 336, 701, [105, 2, 0, 0, 702, 703, 125, 704], 0, 0),
  (336, .aload_n 2, 337, 0, [2], 0, 0),
  (337, .aload_n 0, 338, 0, [0], 0, 0),
  (338, .iload_n 3, 339, 0, [3], 0, 0),
  (339, .iconst (1), 340, 0, [], 1, 0),
  (340, .iadd, 341, 0, [], 0, 0),
  (341, .iaload, 342, 0, [], 0, 0),
  (342, .invokevirtual 31, 345, 1748, [1239, 2, 0, 9, 1749, 1750, 138, 1751], 0, 0),
  (345, .if_icmp .eq (1188), 348, 0, [1533], 0, 0),
  (348, .iconst (0), 349, 0, [], 0, 0),
  (349, .ireturn, 350, 0, [], 0, 0)]
def pt_q1_2 : List pm_Q := [(350, .aload_n 1, 351, 0, [1], 0, 0),
  (351, .aload_n 0, 352, 0, [0], 0, 0),
  (352, .iload_n 3, 353, 0, [3], 0, 0),
  (353, .iconst (1), 354, 0, [], 1, 0),
  (354, .iadd, 355, 0, [], 0, 0),
  (355, .iaload, 356, 0, [], 0, 0),
  (356, .aload_n 0, 357, 0, [0], 0, 0),
  (357, .iload_n 3, 358, 0, [3], 0, 0),
  (358, .iconst (2), 359, 0, [], 2, 0),
  (359, .iadd, 360, 0, [], 0, 0),
  (360, .iaload, 361, 0, [], 0, 0),
  (361, .invokevirtual 32, 364, 705, [106, 3, 0, 0, 706, 707, 125, 708], 0, 0),
  (364, .aload_n 2, 365, 0, [2], 0, 0),
  (365, .aload_n 0, 366, 0, [0], 0, 0),
  (366, .iload_n 3, 367, 0, [3], 0, 0),
  (367, .iconst (1), 368, 0, [], 1, 0),
  (368, .iadd, 369, 0, [], 0, 0),
  (369, .iaload, 370, 0, [], 0, 0),
  (370, .aload_n 0, 371, 0, [0], 0, 0),
  (371, .iload_n 3, 372, 0, [3], 0, 0),
  (372, .iconst (2), 373, 0, [], 2, 0),
  (373, .iadd, 374, 0, [], 0, 0),
  (374, .iaload, 375, 0, [], 0, 0),
  (375, .invokevirtual 36, 378, 1756, [1251, 3, 0, 9, 1757, 1758, 138, 1759], 0, 0),
  (378, .if_icmp .eq (1155), 381, 0, [1533], 0, 0),
  (381, .iconst (0), 382, 0, [], 0, 0),
  (382, .ireturn, 383, 0, [], 0, 0),
  (383, .aload_n 1, 384, 0, [1], 0, 0),
  (384, .aload_n 0, 385, 0, [0], 0, 0),
  (385, .iload_n 3, 386, 0, [3], 0, 0),
  (386, .iconst (1), 387, 0, [], 1, 0),
  (387, .iadd, 388, 0, [], 0, 0),
  (388, .iaload, 389, 0, [], 0, 0),
  (389, .aload_n 0, 390, 0, [0], 0, 0),
  (390, .iload_n 3, 391, 0, [3], 0, 0),
  (391, .iconst (2), 392, 0, [], 2, 0),
  (392, .iadd, 393, 0, [], 0, 0),
  (393, .iaload, 394, 0, [], 0, 0),
  (394, .invokevirtual 37, 397, 749, [107, 3, 0, 0, 750, 751, 125, 752], 0, 0),
  (397, .aload_n 2, 398, 0, [2], 0, 0),
  (398, .aload_n 0, 399, 0, [0], 0, 0),
  (399, .iload_n 3, 400, 0, [3], 0, 0),
  (400, .iconst (1), 401, 0, [], 1, 0),
  (401, .iadd, 402, 0, [], 0, 0),
  (402, .iaload, 403, 0, [], 0, 0),
  (403, .aload_n 0, 404, 0, [0], 0, 0),
  (404, .iload_n 3, 405, 0, [3], 0, 0),
  (405, .iconst (2), 406, 0, [], 2, 0),
  (406, .iadd, 407, 0, [], 0, 0),
  (407, .iaload, 408, 0, [], 0, 0),
  (408, .invokevirtual 40, 411, 1775, [1252, 3, 0, 9, 1776, 1777, 138, 1778], 0, 0),
  (411, .if_icmp .eq (1122), 414, 0, [1533], 0, 0),
  (414, .iconst (0), 415, 0, [], 0, 0),
  (415, .ireturn, 416, 0, [], 0, 0),
  (416, .aload_n 1, 417, 0, [1], 0, 0),
  (417, .aload_n 0, 418, 0, [0], 0, 0),
  (418, .iload_n 3, 419, 0, [3], 0, 0),
  (419, .iconst (1), 420, 0, [], 1, 0),
  (420, .iadd, 421, 0, [], 0, 0),
  (421, .iaload, 422, 0, [], 0, 0)]
def pt_q1_3 : List pm_Q := [(422, .invokevirtual 41, 425, 761, [108, 2, 0, 0, 762, 763, 125, 764], 0, 0),
  (425, .aload_n 2, 426, 0, [2], 0, 0),
  (426, .aload_n 0, 427, 0, [0], 0, 0),
  (427, .iload_n 3, 428, 0, [3], 0, 0),
  (428, .iconst (1), 429, 0, [], 1, 0),
  (429, .iadd, 430, 0, [], 0, 0),
  (430, .iaload, 431, 0, [], 0, 0),
  (431, .invokevirtual 44, 434, 1787, [1253, 2, 0, 9, 1788, 1789, 138, 1790], 0, 0),
  (434, .if_icmp .eq (1099), 437, 0, [1533], 0, 0),
  (437, .iconst (0), 438, 0, [], 0, 0),
  (438, .ireturn, 439, 0, [], 0, 0),
  (439, .aload_n 1, 440, 0, [1], 0, 0),
  (440, .aload_n 0, 441, 0, [0], 0, 0),
  (441, .iload_n 3, 442, 0, [3], 0, 0),
  (442, .iconst (1), 443, 0, [], 1, 0),
  (443, .iadd, 444, 0, [], 0, 0),
  (444, .iaload, 445, 0, [], 0, 0),
  (445, .aload_n 0, 446, 0, [0], 0, 0),
  (446, .iload_n 3, 447, 0, [3], 0, 0),
  (447, .iconst (2), 448, 0, [], 2, 0),
  (448, .iadd, 449, 0, [], 0, 0),
  (449, .iaload, 450, 0, [], 0, 0),
  (450, .invokevirtual 45, 453, 785, [109, 3, 0, 0, 786, 787, 125, 788], 0, 0),
  (453, .aload_n 2, 454, 0, [2], 0, 0),
  (454, .aload_n 0, 455, 0, [0], 0, 0),
  (455, .iload_n 3, 456, 0, [3], 0, 0),
  (456, .iconst (1), 457, 0, [], 1, 0),
  (457, .iadd, 458, 0, [], 0, 0),
  (458, .iaload, 459, 0, [], 0, 0),
  (459, .aload_n 0, 460, 0, [0], 0, 0),
  (460, .iload_n 3, 461, 0, [3], 0, 0),
  (461, .iconst (2), 462, 0, [], 2, 0),
  (462, .iadd, 463, 0, [], 0, 0),
  (463, .iaload, 464, 0, [], 0, 0),
  (464, .invokevirtual 48, 467, 1803, [1257, 3, 0, 9, 1804, 1805, 138, 1806], 0, 0),
  (467, .if_icmp .eq (1066), 470, 0, [1533], 0, 0),
  (470, .iconst (0), 471, 0, [], 0, 0),
  (471, .ireturn, 472, 0, [], 0, 0),
  (472, .aload_n 1, 473, 0, [1], 0, 0),
  (473, .aload_n 0, 474, 0, [0], 0, 0),
  (474, .iload_n 3, 475, 0, [3], 0, 0),
  (475, .iconst (1), 476, 0, [], 1, 0),
  (476, .iadd, 477, 0, [], 0, 0),
  (477, .iaload, 478, 0, [], 0, 0),
  (478, .aload_n 0, 479, 0, [0], 0, 0),
  (479, .iload_n 3, 480, 0, [3], 0, 0),
  (480, .iconst (2), 481, 0, [], 2, 0),
  (481, .iadd, 482, 0, [], 0, 0),
  (482, .iaload, 483, 0, [], 0, 0),
  (483, .aload_n 0, 484, 0, [0], 0, 0),
  (484, .iload_n 3, 485, 0, [3], 0, 0),
  (485, .iconst (3), 486, 0, [], 3, 0),
  (486, .iadd, 487, 0, [], 0, 0),
  (487, .iaload, 488, 0, [], 0, 0),
  (488, .aload_n 0, 489, 0, [0], 0, 0),
  (489, .iload_n 3, 490, 0, [3], 0, 0),
  (490, .iconst (4), 491, 0, [], 4, 0),
  (491, .iadd, 492, 0, [], 0, 0),
  (492, .iaload, 493, 0, [], 0, 0),
  (493, .invokevirtual 49, 496, 818, [110, 5, 0, 0, 790, 791, 125, 792], 0, 0)]
def pt_q1_4 : List pm_Q := [(496, .aload_n 2, 497, 0, [2], 0, 0),
  (497, .aload_n 0, 498, 0, [0], 0, 0),
  (498, .iload_n 3, 499, 0, [3], 0, 0),
  (499, .iconst (1), 500, 0, [], 1, 0),
  (500, .iadd, 501, 0, [], 0, 0),
  (501, .iaload, 502, 0, [], 0, 0),
  (502, .aload_n 0, 503, 0, [0], 0, 0),
  (503, .iload_n 3, 504, 0, [3], 0, 0),
  (504, .iconst (2), 505, 0, [], 2, 0),
  (505, .iadd, 506, 0, [], 0, 0),
  (506, .iaload, 507, 0, [], 0, 0),
  (507, .aload_n 0, 508, 0, [0], 0, 0),
  (508, .iload_n 3, 509, 0, [3], 0, 0),
  (509, .iconst (3), 510, 0, [], 3, 0),
  (510, .iadd, 511, 0, [], 0, 0),
  (511, .iaload, 512, 0, [], 0, 0),
  (512, .aload_n 0, 513, 0, [0], 0, 0),
  (513, .iload_n 3, 514, 0, [3], 0, 0),
  (514, .iconst (4), 515, 0, [], 4, 0),
  (515, .iadd, 516, 0, [], 0, 0),
  (516, .iaload, 517, 0, [], 0, 0),
  (517, .invokevirtual 53, 520, 1823, [1258, 5, 0, 9, 1824, 1825, 138, 1826], 0, 0),
  (520, .if_icmp .eq (1013), 523, 0, [1533], 0, 0),
  (523, .iconst (0), 524, 0, [], 0, 0),
  (524, .ireturn, 525, 0, [], 0, 0),
  (525, .aload_n 1, 526, 0, [1], 0, 0),
  (526, .aload_n 0, 527, 0, [0], 0, 0),
  (527, .iload_n 3, 528, 0, [3], 0, 0),
  (528, .iconst (1), 529, 0, [], 1, 0),
  (529, .iadd, 530, 0, [], 0, 0),
  (530, .iaload, 531, 0, [], 0, 0),
  (531, .aload_n 0, 532, 0, [0], 0, 0),
  (532, .iload_n 3, 533, 0, [3], 0, 0),
  (533, .iconst (2), 534, 0, [], 2, 0),
  (534, .iadd, 535, 0, [], 0, 0),
  (535, .iaload, 536, 0, [], 0, 0),
  (536, .aload_n 0, 537, 0, [0], 0, 0),
  (537, .iload_n 3, 538, 0, [3], 0, 0),
  (538, .iconst (3), 539, 0, [], 3, 0),
  (539, .iadd, 540, 0, [], 0, 0),
  (540, .iaload, 541, 0, [], 0, 0),
  (541, .invokevirtual 54, 544, 819, [111, 4, 0, 0, 820, 821, 125, 822], 0, 0),
  (544, .aload_n 2, 545, 0, [2], 0, 0),
  (545, .aload_n 0, 546, 0, [0], 0, 0),
  (546, .iload_n 3, 547, 0, [3], 0, 0),
  (547, .iconst (1), 548, 0, [], 1, 0),
  (548, .iadd, 549, 0, [], 0, 0),
  (549, .iaload, 550, 0, [], 0, 0),
  (550, .aload_n 0, 551, 0, [0], 0, 0),
  (551, .iload_n 3, 552, 0, [3], 0, 0),
  (552, .iconst (2), 553, 0, [], 2, 0),
  (553, .iadd, 554, 0, [], 0, 0),
  (554, .iaload, 555, 0, [], 0, 0),
  (555, .aload_n 0, 556, 0, [0], 0, 0),
  (556, .iload_n 3, 557, 0, [3], 0, 0),
  (557, .iconst (3), 558, 0, [], 3, 0),
  (558, .iadd, 559, 0, [], 0, 0),
  (559, .iaload, 560, 0, [], 0, 0),
  (560, .invokevirtual 58, 563, 1828, [1268, 4, 0, 9, 1829, 1830, 138, 1831], 0, 0),
  (563, .if_icmp .eq (970), 566, 0, [1533], 0, 0)]
def pt_q1_5 : List pm_Q := [(566, .iconst (0), 567, 0, [], 0, 0),
  (567, .ireturn, 568, 0, [], 0, 0),
  (568, .aload_n 1, 569, 0, [1], 0, 0),
  (569, .aload_n 0, 570, 0, [0], 0, 0),
  (570, .iload_n 3, 571, 0, [3], 0, 0),
  (571, .iconst (1), 572, 0, [], 1, 0),
  (572, .iadd, 573, 0, [], 0, 0),
  (573, .iaload, 574, 0, [], 0, 0),
  (574, .aload_n 0, 575, 0, [0], 0, 0),
  (575, .iload_n 3, 576, 0, [3], 0, 0),
  (576, .iconst (2), 577, 0, [], 2, 0),
  (577, .iadd, 578, 0, [], 0, 0),
  (578, .iaload, 579, 0, [], 0, 0),
  (579, .aload_n 0, 580, 0, [0], 0, 0),
  (580, .iload_n 3, 581, 0, [3], 0, 0),
  (581, .iconst (3), 582, 0, [], 3, 0),
  (582, .iadd, 583, 0, [], 0, 0),
  (583, .iaload, 584, 0, [], 0, 0),
  (584, .invokevirtual 59, 587, 935, [112, 4, 0, 0, 936, 937, 125, 938], 0, 0),
  (587, .aload_n 2, 588, 0, [2], 0, 0),
  (588, .aload_n 0, 589, 0, [0], 0, 0),
  (589, .iload_n 3, 590, 0, [3], 0, 0),
  (590, .iconst (1), 591, 0, [], 1, 0),
  (591, .iadd, 592, 0, [], 0, 0),
  (592, .iaload, 593, 0, [], 0, 0),
  (593, .aload_n 0, 594, 0, [0], 0, 0),
  (594, .iload_n 3, 595, 0, [3], 0, 0),
  (595, .iconst (2), 596, 0, [], 2, 0),
  (596, .iadd, 597, 0, [], 0, 0),
  (597, .iaload, 598, 0, [], 0, 0),
  (598, .aload_n 0, 599, 0, [0], 0, 0),
  (599, .iload_n 3, 600, 0, [3], 0, 0),
  (600, .iconst (3), 601, 0, [], 3, 0),
  (601, .iadd, 602, 0, [], 0, 0),
  (602, .iaload, 603, 0, [], 0, 0),
  (603, .invokevirtual 62, 606, 1868, [1269, 4, 0, 9, 1869, 1870, 138, 1871], 0, 0),
  (606, .if_icmp .eq (927), 609, 0, [1533], 0, 0),
  (609, .iconst (0), 610, 0, [], 0, 0),
  (610, .ireturn, 611, 0, [], 0, 0),
  (611, .aload_n 1, 612, 0, [1], 0, 0),
  (612, .aload_n 0, 613, 0, [0], 0, 0),
  (613, .iload_n 3, 614, 0, [3], 0, 0),
  (614, .iconst (1), 615, 0, [], 1, 0),
  (615, .iadd, 616, 0, [], 0, 0),
  (616, .iaload, 617, 0, [], 0, 0),
  (617, .invokevirtual 63, 620, 941, [113, 2, 0, 0, 942, 943, 125, 944], 0, 0),
  (620, .aload_n 2, 621, 0, [2], 0, 0),
  (621, .aload_n 0, 622, 0, [0], 0, 0),
  (622, .iload_n 3, 623, 0, [3], 0, 0),
  (623, .iconst (1), 624, 0, [], 1, 0),
  (624, .iadd, 625, 0, [], 0, 0),
  (625, .iaload, 626, 0, [], 0, 0),
  (626, .invokevirtual 66, 629, 1908, [1278, 2, 0, 9, 1909, 1910, 138, 1911], 0, 0),
  (629, .if_icmp .eq (904), 632, 0, [1533], 0, 0),
  (632, .iconst (0), 633, 0, [], 0, 0),
  (633, .ireturn, 634, 0, [], 0, 0),
  (634, .aload_n 1, 635, 0, [1], 0, 0),
  (635, .aload_n 0, 636, 0, [0], 0, 0),
  (636, .iload_n 3, 637, 0, [3], 0, 0),
  (637, .iconst (1), 638, 0, [], 1, 0)]
def pt_q1_6 : List pm_Q := [(638, .iadd, 639, 0, [], 0, 0),
  (639, .iaload, 640, 0, [], 0, 0),
  (640, .aload_n 0, 641, 0, [0], 0, 0),
  (641, .iload_n 3, 642, 0, [3], 0, 0),
  (642, .iconst (2), 643, 0, [], 2, 0),
  (643, .iadd, 644, 0, [], 0, 0),
  (644, .iaload, 645, 0, [], 0, 0),
  (645, .aload_n 0, 646, 0, [0], 0, 0),
  (646, .iload_n 3, 647, 0, [3], 0, 0),
  (647, .iconst (3), 648, 0, [], 3, 0),
  (648, .iadd, 649, 0, [], 0, 0),
  (649, .iaload, 650, 0, [], 0, 0),
  (650, .invokevirtual 67, 653, 949, [114, 4, 0, 0, 950, 951, 125, 952], 0, 0),
  (653, .aload_n 2, 654, 0, [2], 0, 0),
  (654, .aload_n 0, 655, 0, [0], 0, 0),
  (655, .iload_n 3, 656, 0, [3], 0, 0),
  (656, .iconst (1), 657, 0, [], 1, 0),
  (657, .iadd, 658, 0, [], 0, 0),
  (658, .iaload, 659, 0, [], 0, 0),
  (659, .aload_n 0, 660, 0, [0], 0, 0),
  (660, .iload_n 3, 661, 0, [3], 0, 0),
  (661, .iconst (2), 662, 0, [], 2, 0),
  (662, .iadd, 663, 0, [], 0, 0),
  (663, .iaload, 664, 0, [], 0, 0),
  (664, .aload_n 0, 665, 0, [0], 0, 0),
  (665, .iload_n 3, 666, 0, [3], 0, 0),
  (666, .iconst (3), 667, 0, [], 3, 0),
  (667, .iadd, 668, 0, [], 0, 0),
  (668, .iaload, 669, 0, [], 0, 0),
  (669, .invokevirtual 70, 672, 1912, [1279, 4, 0, 9, 1913, 1914, 138, 1915], 0, 0),
  (672, .if_icmp .eq (861), 675, 0, [1533], 0, 0),
  (675, .iconst (0), 676, 0, [], 0, 0),
  (676, .ireturn, 677, 0, [], 0, 0),
  (677, .aload_n 1, 678, 0, [1], 0, 0),
  (678, .aload_n 0, 679, 0, [0], 0, 0),
  (679, .iload_n 3, 680, 0, [3], 0, 0),
  (680, .iconst (1), 681, 0, [], 1, 0),
  (681, .iadd, 682, 0, [], 0, 0),
  (682, .iaload, 683, 0, [], 0, 0),
  (683, .invokevirtual 71, 686, 958, [115, 2, 0, 0, 959, 960, 125, 961], 0, 0),
  (686, .aload_n 2, 687, 0, [2], 0, 0),
  (687, .aload_n 0, 688, 0, [0], 0, 0),
  (688, .iload_n 3, 689, 0, [3], 0, 0),
  (689, .iconst (1), 690, 0, [], 1, 0),
  (690, .iadd, 691, 0, [], 0, 0),
  (691, .iaload, 692, 0, [], 0, 0),
  (692, .invokevirtual 74, 695, 1916, [1281, 2, 0, 9, 1917, 1918, 138, 1919], 0, 0),
  (695, .if_icmp .eq (838), 698, 0, [1533], 0, 0),
  (698, .iconst (0), 699, 0, [], 0, 0),
  (699, .ireturn, 700, 0, [], 0, 0),
  (700, .aload_n 1, 701, 0, [1], 0, 0),
  (701, .aload_n 0, 702, 0, [0], 0, 0),
  (702, .iload_n 3, 703, 0, [3], 0, 0),
  (703, .iconst (1), 704, 0, [], 1, 0),
  (704, .iadd, 705, 0, [], 0, 0),
  (705, .iaload, 706, 0, [], 0, 0),
  (706, .aload_n 0, 707, 0, [0], 0, 0),
  (707, .iload_n 3, 708, 0, [3], 0, 0),
  (708, .iconst (2), 709, 0, [], 2, 0),
  (709, .iadd, 710, 0, [], 0, 0)]
def pt_q1_7 : List pm_Q := [(710, .iaload, 711, 0, [], 0, 0),
  (711, .invokevirtual 75, 714, 963, [116, 3, 0, 0, 964, 965, 125, 966], 0, 0),
  (714, .aload_n 2, 715, 0, [2], 0, 0),
  (715, .aload_n 0, 716, 0, [0], 0, 0),
  (716, .iload_n 3, 717, 0, [3], 0, 0),
  (717, .iconst (1), 718, 0, [], 1, 0),
  (718, .iadd, 719, 0, [], 0, 0),
  (719, .iaload, 720, 0, [], 0, 0),
  (720, .aload_n 0, 721, 0, [0], 0, 0),
  (721, .iload_n 3, 722, 0, [3], 0, 0),
  (722, .iconst (2), 723, 0, [], 2, 0),
  (723, .iadd, 724, 0, [], 0, 0),
  (724, .iaload, 725, 0, [], 0, 0),
  (725, .invokevirtual 78, 728, 1924, [1292, 3, 0, 9, 1925, 1926, 138, 1927], 0, 0),
  (728, .if_icmp .eq (805), 731, 0, [1533], 0, 0),
  (731, .iconst (0), 732, 0, [], 0, 0),
  (732, .ireturn, 733, 0, [], 0, 0),
  (733, .aload_n 1, 734, 0, [1], 0, 0),
  (734, .aload_n 0, 735, 0, [0], 0, 0),
  (735, .iload_n 3, 736, 0, [3], 0, 0),
  (736, .iconst (1), 737, 0, [], 1, 0),
  (737, .iadd, 738, 0, [], 0, 0),
  (738, .iaload, 739, 0, [], 0, 0),
  (739, .aload_n 0, 740, 0, [0], 0, 0),
  (740, .iload_n 3, 741, 0, [3], 0, 0),
  (741, .iconst (2), 742, 0, [], 2, 0),
  (742, .iadd, 743, 0, [], 0, 0),
  (743, .iaload, 744, 0, [], 0, 0),
  (744, .aload_n 0, 745, 0, [0], 0, 0),
  (745, .iload_n 3, 746, 0, [3], 0, 0),
  (746, .iconst (3), 747, 0, [], 3, 0),
  (747, .iadd, 748, 0, [], 0, 0),
  (748, .iaload, 749, 0, [], 0, 0),
  (749, .invokevirtual 79, 752, 973, [117, 4, 0, 0, 974, 975, 125, 976], 0, 0),
  (752, .aload_n 2, 753, 0, [2], 0, 0),
  (753, .aload_n 0, 754, 0, [0], 0, 0),
  (754, .iload_n 3, 755, 0, [3], 0, 0),
  (755, .iconst (1), 756, 0, [], 1, 0),
  (756, .iadd, 757, 0, [], 0, 0),
  (757, .iaload, 758, 0, [], 0, 0),
  (758, .aload_n 0, 759, 0, [0], 0, 0),
  (759, .iload_n 3, 760, 0, [3], 0, 0),
  (760, .iconst (2), 761, 0, [], 2, 0),
  (761, .iadd, 762, 0, [], 0, 0),
  (762, .iaload, 763, 0, [], 0, 0),
  (763, .aload_n 0, 764, 0, [0], 0, 0),
  (764, .iload_n 3, 765, 0, [3], 0, 0),
  (765, .iconst (3), 766, 0, [], 3, 0),
  (766, .iadd, 767, 0, [], 0, 0),
  (767, .iaload, 768, 0, [], 0, 0),
  (768, .invokevirtual 82, 771, 1876, [1270, 4, 0, 9, 1877, 1878, 138, 1879], 0, 0),
  (771, .if_icmp .eq (762), 774, 0, [1533], 0, 0),
  (774, .iconst (0), 775, 0, [], 0, 0),
  (775, .ireturn, 776, 0, [], 0, 0),
  (776, .aload_n 1, 777, 0, [1], 0, 0),
  (777, .aload_n 0, 778, 0, [0], 0, 0),
  (778, .iload_n 3, 779, 0, [3], 0, 0),
  (779, .iconst (1), 780, 0, [], 1, 0),
  (780, .iadd, 781, 0, [], 0, 0),
  (781, .iaload, 782, 0, [], 0, 0)]
def pt_q1_8 : List pm_Q := [(782, .aload_n 0, 783, 0, [0], 0, 0),
  (783, .iload_n 3, 784, 0, [3], 0, 0),
  (784, .iconst (2), 785, 0, [], 2, 0),
  (785, .iadd, 786, 0, [], 0, 0),
  (786, .iaload, 787, 0, [], 0, 0),
  (787, .aload_n 0, 788, 0, [0], 0, 0),
  (788, .iload_n 3, 789, 0, [3], 0, 0),
  (789, .iconst (3), 790, 0, [], 3, 0),
  (790, .iadd, 791, 0, [], 0, 0),
  (791, .iaload, 792, 0, [], 0, 0),
  (792, .invokevirtual 83, 795, 978, [118, 4, 0, 0, 979, 980, 125, 981], 0, 0),
  (795, .aload_n 2, 796, 0, [2], 0, 0),
  (796, .aload_n 0, 797, 0, [0], 0, 0),
  (797, .iload_n 3, 798, 0, [3], 0, 0),
  (798, .iconst (1), 799, 0, [], 1, 0),
  (799, .iadd, 800, 0, [], 0, 0),
  (800, .iaload, 801, 0, [], 0, 0),
  (801, .aload_n 0, 802, 0, [0], 0, 0),
  (802, .iload_n 3, 803, 0, [3], 0, 0),
  (803, .iconst (2), 804, 0, [], 2, 0),
  (804, .iadd, 805, 0, [], 0, 0),
  (805, .iaload, 806, 0, [], 0, 0),
  (806, .aload_n 0, 807, 0, [0], 0, 0),
  (807, .iload_n 3, 808, 0, [3], 0, 0),
  (808, .iconst (3), 809, 0, [], 3, 0),
  (809, .iadd, 810, 0, [], 0, 0),
  (810, .iaload, 811, 0, [], 0, 0),
  (811, .invokevirtual 86, 814, 1880, [1272, 4, 0, 9, 1881, 1882, 138, 1883], 0, 0),
  (814, .if_icmp .eq (719), 817, 0, [1533], 0, 0),
  (817, .iconst (0), 818, 0, [], 0, 0),
  (818, .ireturn, 819, 0, [], 0, 0),
  (819, .aload_n 1, 820, 0, [1], 0, 0),
  (820, .aload_n 0, 821, 0, [0], 0, 0),
  (821, .iload_n 3, 822, 0, [3], 0, 0),
  (822, .iconst (1), 823, 0, [], 1, 0),
  (823, .iadd, 824, 0, [], 0, 0),
  (824, .iaload, 825, 0, [], 0, 0),
  (825, .aload_n 0, 826, 0, [0], 0, 0),
  (826, .iload_n 3, 827, 0, [3], 0, 0),
  (827, .iconst (2), 828, 0, [], 2, 0),
  (828, .iadd, 829, 0, [], 0, 0),
  (829, .iaload, 830, 0, [], 0, 0),
  (830, .invokevirtual 87, 833, 983, [119, 3, 0, 0, 984, 985, 125, 986], 0, 0),
  (833, .aload_n 2, 834, 0, [2], 0, 0),
  (834, .aload_n 0, 835, 0, [0], 0, 0),
  (835, .iload_n 3, 836, 0, [3], 0, 0),
  (836, .iconst (1), 837, 0, [], 1, 0),
  (837, .iadd, 838, 0, [], 0, 0),
  (838, .iaload, 839, 0, [], 0, 0),
  (839, .aload_n 0, 840, 0, [0], 0, 0),
  (840, .iload_n 3, 841, 0, [3], 0, 0),
  (841, .iconst (2), 842, 0, [], 2, 0),
  (842, .iadd, 843, 0, [], 0, 0),
  (843, .iaload, 844, 0, [], 0, 0),
  (844, .invokevirtual 90, 847, 1888, [1274, 3, 0, 9, 1889, 1890, 138, 1891], 0, 0),
  (847, .if_icmp .eq (686), 850, 0, [1533], 0, 0),
  (850, .iconst (0), 851, 0, [], 0, 0),
  (851, .ireturn, 852, 0, [], 0, 0),
  (852, .aload_n 1, 853, 0, [1], 0, 0),
  (853, .aload_n 0, 854, 0, [0], 0, 0)]
def pt_q1_9 : List pm_Q := [(854, .iload_n 3, 855, 0, [3], 0, 0),
  (855, .iconst (1), 856, 0, [], 1, 0),
  (856, .iadd, 857, 0, [], 0, 0),
  (857, .iaload, 858, 0, [], 0, 0),
  (858, .aload_n 0, 859, 0, [0], 0, 0),
  (859, .iload_n 3, 860, 0, [3], 0, 0),
  (860, .iconst (2), 861, 0, [], 2, 0),
  (861, .iadd, 862, 0, [], 0, 0),
  (862, .iaload, 863, 0, [], 0, 0),
  (863, .invokevirtual 91, 866, 992, [120, 3, 0, 0, 993, 994, 125, 995], 0, 0),
  (866, .aload_n 2, 867, 0, [2], 0, 0),
  (867, .aload_n 0, 868, 0, [0], 0, 0),
  (868, .iload_n 3, 869, 0, [3], 0, 0),
  (869, .iconst (1), 870, 0, [], 1, 0),
  (870, .iadd, 871, 0, [], 0, 0),
  (871, .iaload, 872, 0, [], 0, 0),
  (872, .aload_n 0, 873, 0, [0], 0, 0),
  (873, .iload_n 3, 874, 0, [3], 0, 0),
  (874, .iconst (2), 875, 0, [], 2, 0),
  (875, .iadd, 876, 0, [], 0, 0),
  (876, .iaload, 877, 0, [], 0, 0),
  (877, .invokevirtual 94, 880, 1896, [1277, 3, 0, 9, 1897, 1898, 138, 1899], 0, 0),
  (880, .if_icmp .eq (653), 883, 0, [1533], 0, 0),
  (883, .iconst (0), 884, 0, [], 0, 0),
  (884, .ireturn, 885, 0, [], 0, 0),
  (885, .aload_n 1, 886, 0, [1], 0, 0),
  (886, .aload_n 0, 887, 0, [0], 0, 0),
  (887, .iload_n 3, 888, 0, [3], 0, 0),
  (888, .iconst (1), 889, 0, [], 1, 0),
  (889, .iadd, 890, 0, [], 0, 0),
  (890, .iaload, 891, 0, [], 0, 0),
  (891, .invokevirtual 95, 894, 1023, [121, 2, 0, 0, 1024, 1025, 125, 1026], 0, 0),
  (894, .aload_n 2, 895, 0, [2], 0, 0),
  (895, .aload_n 0, 896, 0, [0], 0, 0),
  (896, .iload_n 3, 897, 0, [3], 0, 0),
  (897, .iconst (1), 898, 0, [], 1, 0),
  (898, .iadd, 899, 0, [], 0, 0),
  (899, .iaload, 900, 0, [], 0, 0),
  (900, .invokevirtual 98, 903, 1957, [1293, 2, 0, 9, 1958, 1959, 138, 1960], 0, 0),
  (903, .if_icmp .eq (630), 906, 0, [1533], 0, 0),
  (906, .iconst (0), 907, 0, [], 0, 0),
  (907, .ireturn, 908, 0, [], 0, 0),
  (908, .aload_n 1, 909, 0, [1], 0, 0),
  (909, .aload_n 0, 910, 0, [0], 0, 0),
  (910, .iload_n 3, 911, 0, [3], 0, 0),
  (911, .iconst (1), 912, 0, [], 1, 0),
  (912, .iadd, 913, 0, [], 0, 0),
  (913, .iaload, 914, 0, [], 0, 0),
  (914, .invokevirtual 99, 917, 1078, [122, 2, 0, 0, 1079, 1080, 125, 1081], 0, 0),
  (917, .aload_n 2, 918, 0, [2], 0, 0),
  (918, .aload_n 0, 919, 0, [0], 0, 0),
  (919, .iload_n 3, 920, 0, [3], 0, 0),
  (920, .iconst (1), 921, 0, [], 1, 0),
  (921, .iadd, 922, 0, [], 0, 0),
  (922, .iaload, 923, 0, [], 0, 0),
  (923, .invokevirtual 102, 926, 1973, [1294, 2, 0, 9, 1974, 1975, 138, 1976], 0, 0),
  (926, .if_icmp .eq (607), 929, 0, [1533], 0, 0),
  (929, .iconst (0), 930, 0, [], 0, 0),
  (930, .ireturn, 931, 0, [], 0, 0),
  (931, .aload_n 1, 932, 0, [1], 0, 0)]
def pt_q1_10 : List pm_Q := [(932, .aload_n 0, 933, 0, [0], 0, 0),
  (933, .iload_n 3, 934, 0, [3], 0, 0),
  (934, .iconst (1), 935, 0, [], 1, 0),
  (935, .iadd, 936, 0, [], 0, 0),
  (936, .iaload, 937, 0, [], 0, 0),
  (937, .aload_n 0, 938, 0, [0], 0, 0),
  (938, .iload_n 3, 939, 0, [3], 0, 0),
  (939, .iconst (2), 940, 0, [], 2, 0),
  (940, .iadd, 941, 0, [], 0, 0),
  (941, .iaload, 942, 0, [], 0, 0),
  (942, .invokevirtual 103, 945, 1087, [123, 3, 0, 0, 1088, 1089, 125, 1090], 0, 0),
  (945, .aload_n 2, 946, 0, [2], 0, 0),
  (946, .aload_n 0, 947, 0, [0], 0, 0),
  (947, .iload_n 3, 948, 0, [3], 0, 0),
  (948, .iconst (1), 949, 0, [], 1, 0),
  (949, .iadd, 950, 0, [], 0, 0),
  (950, .iaload, 951, 0, [], 0, 0),
  (951, .aload_n 0, 952, 0, [0], 0, 0),
  (952, .iload_n 3, 953, 0, [3], 0, 0),
  (953, .iconst (2), 954, 0, [], 2, 0),
  (954, .iadd, 955, 0, [], 0, 0),
  (955, .iaload, 956, 0, [], 0, 0),
  (956, .invokevirtual 106, 959, 1978, [1295, 3, 0, 9, 1979, 1980, 138, 1981], 0, 0),
  (959, .if_icmp .eq (574), 962, 0, [1533], 0, 0),
  (962, .iconst (0), 963, 0, [], 0, 0),
  (963, .ireturn, 964, 0, [], 0, 0),
  (964, .aload_n 1, 965, 0, [1], 0, 0),
  (965, .aload_n 0, 966, 0, [0], 0, 0),
  (966, .iload_n 3, 967, 0, [3], 0, 0),
  (967, .iconst (1), 968, 0, [], 1, 0),
  (968, .iadd, 969, 0, [], 0, 0),
  (969, .iaload, 970, 0, [], 0, 0),
  (970, .invokevirtual 107, 973, 1095, [124, 2, 0, 0, 1096, 1097, 125, 1098], 0, 0),
  (973, .aload_n 2, 974, 0, [2], 0, 0),
  (974, .aload_n 0, 975, 0, [0], 0, 0),
  (975, .iload_n 3, 976, 0, [3], 0, 0),
  (976, .iconst (1), 977, 0, [], 1, 0),
  (977, .iadd, 978, 0, [], 0, 0),
  (978, .iaload, 979, 0, [], 0, 0),
  (979, .invokevirtual 110, 982, 1982, [1296, 2, 0, 9, 1983, 1984, 138, 1985], 0, 0),
  (982, .if_icmp .eq (551), 985, 0, [1533], 0, 0),
  (985, .iconst (0), 986, 0, [], 0, 0),
  (986, .ireturn, 987, 0, [], 0, 0),
  (987, .aload_n 1, 988, 0, [1], 0, 0),
  (988, .aload_n 0, 989, 0, [0], 0, 0),
  (989, .iload_n 3, 990, 0, [3], 0, 0),
  (990, .iconst (1), 991, 0, [], 1, 0),
  (991, .iadd, 992, 0, [], 0, 0),
  (992, .iaload, 993, 0, [], 0, 0),
  (993, .aload_n 0, 994, 0, [0], 0, 0),
  (994, .iload_n 3, 995, 0, [3], 0, 0),
  (995, .iconst (2), 996, 0, [], 2, 0),
  (996, .iadd, 997, 0, [], 0, 0),
  (997, .iaload, 998, 0, [], 0, 0),
  (998, .invokevirtual 111, 1001, 1100, [125, 3, 0, 0, 1101, 1102, 125, 1103], 0, 0),
  (1001, .aload_n 2, 1002, 0, [2], 0, 0),
  (1002, .aload_n 0, 1003, 0, [0], 0, 0),
  (1003, .iload_n 3, 1004, 0, [3], 0, 0),
  (1004, .iconst (1), 1005, 0, [], 1, 0),
  (1005, .iadd, 1006, 0, [], 0, 0)]
def pt_q1_11 : List pm_Q := [(1006, .iaload, 1007, 0, [], 0, 0),
  (1007, .aload_n 0, 1008, 0, [0], 0, 0),
  (1008, .iload_n 3, 1009, 0, [3], 0, 0),
  (1009, .iconst (2), 1010, 0, [], 2, 0),
  (1010, .iadd, 1011, 0, [], 0, 0),
  (1011, .iaload, 1012, 0, [], 0, 0),
  (1012, .invokevirtual 114, 1015, 1986, [1298, 3, 0, 9, 1987, 1988, 138, 1989], 0, 0),
  (1015, .if_icmp .eq (518), 1018, 0, [1533], 0, 0),
  (1018, .iconst (0), 1019, 0, [], 0, 0),
  (1019, .ireturn, 1020, 0, [], 0, 0),
  (1020, .aload_n 1, 1021, 0, [1], 0, 0),
  (1021, .aload_n 0, 1022, 0, [0], 0, 0),
  (1022, .iload_n 3, 1023, 0, [3], 0, 0),
  (1023, .iconst (1), 1024, 0, [], 1, 0),
  (1024, .iadd, 1025, 0, [], 0, 0),
  (1025, .iaload, 1026, 0, [], 0, 0),
  (1026, .invokevirtual 115, 1029, 1108, [126, 2, 0, 0, 1109, 1110, 125, 1111], 0, 0),
  (1029, .aload_n 2, 1030, 0, [2], 0, 0),
  (1030, .aload_n 0, 1031, 0, [0], 0, 0),
  (1031, .iload_n 3, 1032, 0, [3], 0, 0),
  (1032, .iconst (1), 1033, 0, [], 1, 0),
  (1033, .iadd, 1034, 0, [], 0, 0),
  (1034, .iaload, 1035, 0, [], 0, 0),
  (1035, .invokevirtual 118, 1038, 1994, [1300, 2, 0, 9, 1995, 1996, 138, 1997], 0, 0),
  (1038, .if_icmp .eq (495), 1041, 0, [1533], 0, 0),
  (1041, .iconst (0), 1042, 0, [], 0, 0),
  (1042, .ireturn, 1043, 0, [], 0, 0),
  (1043, .aload_n 1, 1044, 0, [1], 0, 0),
  (1044, .aload_n 0, 1045, 0, [0], 0, 0),
  (1045, .iload_n 3, 1046, 0, [3], 0, 0),
  (1046, .iconst (1), 1047, 0, [], 1, 0),
  (1047, .iadd, 1048, 0, [], 0, 0),
  (1048, .iaload, 1049, 0, [], 0, 0),
  (1049, .aload_n 0, 1050, 0, [0], 0, 0),
  (1050, .iload_n 3, 1051, 0, [3], 0, 0),
  (1051, .iconst (2), 1052, 0, [], 2, 0),
  (1052, .iadd, 1053, 0, [], 0, 0),
  (1053, .iaload, 1054, 0, [], 0, 0),
  (1054, .invokevirtual 119, 1057, 1129, [127, 3, 0, 0, 1130, 1131, 125, 1132], 0, 0),
  (1057, .aload_n 2, 1058, 0, [2], 0, 0),
  (1058, .aload_n 0, 1059, 0, [0], 0, 0),
  (1059, .iload_n 3, 1060, 0, [3], 0, 0),
  (1060, .iconst (1), 1061, 0, [], 1, 0),
  (1061, .iadd, 1062, 0, [], 0, 0),
  (1062, .iaload, 1063, 0, [], 0, 0),
  (1063, .aload_n 0, 1064, 0, [0], 0, 0),
  (1064, .iload_n 3, 1065, 0, [3], 0, 0),
  (1065, .iconst (2), 1066, 0, [], 2, 0),
  (1066, .iadd, 1067, 0, [], 0, 0),
  (1067, .iaload, 1068, 0, [], 0, 0),
  (1068, .invokevirtual 122, 1071, 2002, [1301, 3, 0, 9, 2003, 2004, 138, 2005], 0, 0),
  (1071, .if_icmp .eq (462), 1074, 0, [1533], 0, 0),
  (1074, .iconst (0), 1075, 0, [], 0, 0),
  (1075, .ireturn, 1076, 0, [], 0, 0),
  (1076, .aload_n 1, 1077, 0, [1], 0, 0),
  (1077, .aload_n 0, 1078, 0, [0], 0, 0),
  (1078, .iload_n 3, 1079, 0, [3], 0, 0),
  (1079, .iconst (1), 1080, 0, [], 1, 0),
  (1080, .iadd, 1081, 0, [], 0, 0),
  (1081, .iaload, 1082, 0, [], 0, 0)]
def pt_q1_12 : List pm_Q := [(1082, .invokevirtual 123, 1085, 1137, [128, 2, 0, 0, 1138, 1139, 125, 1140], 0, 0),
  (1085, .aload_n 2, 1086, 0, [2], 0, 0),
  (1086, .aload_n 0, 1087, 0, [0], 0, 0),
  (1087, .iload_n 3, 1088, 0, [3], 0, 0),
  (1088, .iconst (1), 1089, 0, [], 1, 0),
  (1089, .iadd, 1090, 0, [], 0, 0),
  (1090, .iaload, 1091, 0, [], 0, 0),
  (1091, .invokevirtual 126, 1094, 2006, [1302, 2, 0, 9, 2007, 2008, 138, 2009], 0, 0),
  (1094, .if_icmp .eq (439), 1097, 0, [1533], 0, 0),
  (1097, .iconst (0), 1098, 0, [], 0, 0),
  (1098, .ireturn, 1099, 0, [], 0, 0),
  (1099, .aload_n 1, 1100, 0, [1], 0, 0),
  (1100, .invokevirtual 127, 1103, 1143, [129, 1, 0, 0, 1144, 1145, 125, 1146], 0, 0),
  (1103, .aload_n 2, 1104, 0, [2], 0, 0),
  (1104, .invokevirtual 130, 1107, 2010, [1303, 1, 0, 9, 2011, 2012, 138, 2013], 0, 0),
  (1107, .if_icmp .eq (426), 1110, 0, [1533], 0, 0),
  (1110, .iconst (0), 1111, 0, [], 0, 0),
  (1111, .ireturn, 1112, 0, [], 0, 0),
  (1112, .aload_n 1, 1113, 0, [1], 0, 0),
  (1113, .aload_n 0, 1114, 0, [0], 0, 0),
  (1114, .iload_n 3, 1115, 0, [3], 0, 0),
  (1115, .iconst (1), 1116, 0, [], 1, 0),
  (1116, .iadd, 1117, 0, [], 0, 0),
  (1117, .iaload, 1118, 0, [], 0, 0),
  (1118, .invokevirtual 131, 1121, 1155, [130, 2, 0, 0, 1156, 1157, 125, 1158], 0, 0),
  (1121, .aload_n 2, 1122, 0, [2], 0, 0),
  (1122, .aload_n 0, 1123, 0, [0], 0, 0),
  (1123, .iload_n 3, 1124, 0, [3], 0, 0),
  (1124, .iconst (1), 1125, 0, [], 1, 0),
  (1125, .iadd, 1126, 0, [], 0, 0),
  (1126, .iaload, 1127, 0, [], 0, 0),
  (1127, .invokevirtual 134, 1130, 2014, [1304, 2, 0, 9, 2015, 2016, 138, 2017], 0, 0),
  (1130, .if_icmp .eq (403), 1133, 0, [1533], 0, 0),
  (1133, .iconst (0), 1134, 0, [], 0, 0),
  (1134, .ireturn, 1135, 0, [], 0, 0),
  (1135, .aload_n 1, 1136, 0, [1], 0, 0),
  (1136, .aload_n 0, 1137, 0, [0], 0, 0),
  (1137, .iload_n 3, 1138, 0, [3], 0, 0),
  (1138, .iconst (1), 1139, 0, [], 1, 0),
  (1139, .iadd, 1140, 0, [], 0, 0),
  (1140, .iaload, 1141, 0, [], 0, 0),
  (1141, .invokevirtual 135, 1144, 1164, [131, 2, 0, 0, 1165, 1166, 125, 1167], 0, 0),
  (1144, .aload_n 2, 1145, 0, [2], 0, 0),
  (1145, .aload_n 0, 1146, 0, [0], 0, 0),
  (1146, .iload_n 3, 1147, 0, [3], 0, 0),
  (1147, .iconst (1), 1148, 0, [], 1, 0),
  (1148, .iadd, 1149, 0, [], 0, 0),
  (1149, .iaload, 1150, 0, [], 0, 0),
  (1150, .invokevirtual 138, 1153, 2018, [1306, 2, 0, 9, 2019, 2020, 138, 2021], 0, 0),
  (1153, .if_icmp .eq (380), 1156, 0, [1533], 0, 0),
  (1156, .iconst (0), 1157, 0, [], 0, 0),
  (1157, .ireturn, 1158, 0, [], 0, 0),
  (1158, .aload_n 1, 1159, 0, [1], 0, 0),
  (1159, .aload_n 0, 1160, 0, [0], 0, 0),
  (1160, .iload_n 3, 1161, 0, [3], 0, 0),
  (1161, .iconst (1), 1162, 0, [], 1, 0),
  (1162, .iadd, 1163, 0, [], 0, 0),
  (1163, .iaload, 1164, 0, [], 0, 0),
  (1164, .invokevirtual 139, 1167, 1175, [132, 2, 0, 0, 1176, 1177, 125, 1178], 0, 0),
  (1167, .aload_n 2, 1168, 0, [2], 0, 0)]
def pt_q1_13 : List pm_Q := [(1168, .aload_n 0, 1169, 0, [0], 0, 0),
  (1169, .iload_n 3, 1170, 0, [3], 0, 0),
  (1170, .iconst (1), 1171, 0, [], 1, 0),
  (1171, .iadd, 1172, 0, [], 0, 0),
  (1172, .iaload, 1173, 0, [], 0, 0),
  (1173, .invokevirtual 142, 1176, 2025, [1307, 2, 0, 9, 2026, 2027, 138, 2028], 0, 0),
  (1176, .if_icmp .eq (357), 1179, 0, [1533], 0, 0),
  (1179, .iconst (0), 1180, 0, [], 0, 0),
  (1180, .ireturn, 1181, 0, [], 0, 0),
  (1181, .aload_n 1, 1182, 0, [1], 0, 0),
  (1182, .aload_n 0, 1183, 0, [0], 0, 0),
  (1183, .iload_n 3, 1184, 0, [3], 0, 0),
  (1184, .iconst (1), 1185, 0, [], 1, 0),
  (1185, .iadd, 1186, 0, [], 0, 0),
  (1186, .iaload, 1187, 0, [], 0, 0),
  (1187, .invokevirtual 143, 1190, 1183, [133, 2, 0, 0, 1184, 1185, 125, 1186], 0, 0),
  (1190, .aload_n 2, 1191, 0, [2], 0, 0),
  (1191, .aload_n 0, 1192, 0, [0], 0, 0),
  (1192, .iload_n 3, 1193, 0, [3], 0, 0),
  (1193, .iconst (1), 1194, 0, [], 1, 0),
  (1194, .iadd, 1195, 0, [], 0, 0),
  (1195, .iaload, 1196, 0, [], 0, 0),
  (1196, .invokevirtual 146, 1199, 2029, [1308, 2, 0, 9, 2030, 2031, 138, 2032], 0, 0),
  (1199, .if_icmp .eq (334), 1202, 0, [1533], 0, 0),
  (1202, .iconst (0), 1203, 0, [], 0, 0),
  (1203, .ireturn, 1204, 0, [], 0, 0),
  (1204, .aload_n 1, 1205, 0, [1], 0, 0),
  (1205, .aload_n 0, 1206, 0, [0], 0, 0),
  (1206, .iload_n 3, 1207, 0, [3], 0, 0),
  (1207, .iconst (1), 1208, 0, [], 1, 0),
  (1208, .iadd, 1209, 0, [], 0, 0),
  (1209, .iaload, 1210, 0, [], 0, 0),
  (1210, .aload_n 0, 1211, 0, [0], 0, 0),
  (1211, .iload_n 3, 1212, 0, [3], 0, 0),
  (1212, .iconst (2), 1213, 0, [], 2, 0),
  (1213, .iadd, 1214, 0, [], 0, 0),
  (1214, .iaload, 1215, 0, [], 0, 0),
  (1215, .invokevirtual 147, 1218, 1191, [134, 3, 0, 0, 1192, 1193, 125, 1194], 0, 0),
  (1218, .aload_n 2, 1219, 0, [2], 0, 0),
  (1219, .aload_n 0, 1220, 0, [0], 0, 0),
  (1220, .iload_n 3, 1221, 0, [3], 0, 0),
  (1221, .iconst (1), 1222, 0, [], 1, 0),
  (1222, .iadd, 1223, 0, [], 0, 0),
  (1223, .iaload, 1224, 0, [], 0, 0),
  (1224, .aload_n 0, 1225, 0, [0], 0, 0),
  (1225, .iload_n 3, 1226, 0, [3], 0, 0),
  (1226, .iconst (2), 1227, 0, [], 2, 0),
  (1227, .iadd, 1228, 0, [], 0, 0),
  (1228, .iaload, 1229, 0, [], 0, 0),
  (1229, .invokevirtual 150, 1232, 2033, [1309, 3, 0, 9, 2034, 2035, 138, 2036], 0, 0),
  (1232, .if_icmp .eq (301), 1235, 0, [1533], 0, 0),
  (1235, .iconst (0), 1236, 0, [], 0, 0),
  (1236, .ireturn, 1237, 0, [], 0, 0),
  (1237, .aload_n 1, 1238, 0, [1], 0, 0),
  (1238, .aload_n 0, 1239, 0, [0], 0, 0),
  (1239, .iload_n 3, 1240, 0, [3], 0, 0),
  (1240, .iconst (1), 1241, 0, [], 1, 0),
  (1241, .iadd, 1242, 0, [], 0, 0),
  (1242, .iaload, 1243, 0, [], 0, 0),
  (1243, .invokevirtual 151, 1246, 1199, [135, 2, 0, 0, 1200, 1201, 125, 1202], 0, 0)]
def pt_q1_14 : List pm_Q := [(1246, .aload_n 2, 1247, 0, [2], 0, 0),
  (1247, .aload_n 0, 1248, 0, [0], 0, 0),
  (1248, .iload_n 3, 1249, 0, [3], 0, 0),
  (1249, .iconst (1), 1250, 0, [], 1, 0),
  (1250, .iadd, 1251, 0, [], 0, 0),
  (1251, .iaload, 1252, 0, [], 0, 0),
  (1252, .invokevirtual 154, 1255, 2037, [1316, 2, 0, 9, 2038, 2039, 138, 2040], 0, 0),
  (1255, .if_icmp .eq (278), 1258, 0, [1533], 0, 0),
  (1258, .iconst (0), 1259, 0, [], 0, 0),
  (1259, .ireturn, 1260, 0, [], 0, 0),
  (1260, .aload_n 1, 1261, 0, [1], 0, 0),
  (1261, .aload_n 0, 1262, 0, [0], 0, 0),
  (1262, .iload_n 3, 1263, 0, [3], 0, 0),
  (1263, .iconst (1), 1264, 0, [], 1, 0),
  (1264, .iadd, 1265, 0, [], 0, 0),
  (1265, .iaload, 1266, 0, [], 0, 0),
  (1266, .aload_n 0, 1267, 0, [0], 0, 0),
  (1267, .iload_n 3, 1268, 0, [3], 0, 0),
  (1268, .iconst (2), 1269, 0, [], 2, 0),
  (1269, .iadd, 1270, 0, [], 0, 0),
  (1270, .iaload, 1271, 0, [], 0, 0),
  (1271, .invokevirtual 155, 1274, 1250, [136, 3, 0, 0, 1251, 1252, 125, 1253], 0, 0),
  (1274, .aload_n 2, 1275, 0, [2], 0, 0),
  (1275, .aload_n 0, 1276, 0, [0], 0, 0),
  (1276, .iload_n 3, 1277, 0, [3], 0, 0),
  (1277, .iconst (1), 1278, 0, [], 1, 0),
  (1278, .iadd, 1279, 0, [], 0, 0),
  (1279, .iaload, 1280, 0, [], 0, 0),
  (1280, .aload_n 0, 1281, 0, [0], 0, 0),
  (1281, .iload_n 3, 1282, 0, [3], 0, 0),
  (1282, .iconst (2), 1283, 0, [], 2, 0),
  (1283, .iadd, 1284, 0, [], 0, 0),
  (1284, .iaload, 1285, 0, [], 0, 0),
  (1285, .invokevirtual 158, 1288, 2066, [1317, 3, 0, 9, 2067, 2068, 138, 2069], 0, 0),
  (1288, .if_icmp .eq (245), 1291, 0, [1533], 0, 0),
  (1291, .iconst (0), 1292, 0, [], 0, 0),
  (1292, .ireturn, 1293, 0, [], 0, 0),
  (1293, .aload_n 1, 1294, 0, [1], 0, 0),
  (1294, .aload_n 0, 1295, 0, [0], 0, 0),
  (1295, .iload_n 3, 1296, 0, [3], 0, 0),
  (1296, .iconst (1), 1297, 0, [], 1, 0),
  (1297, .iadd, 1298, 0, [], 0, 0),
  (1298, .iaload, 1299, 0, [], 0, 0),
  (1299, .aload_n 0, 1300, 0, [0], 0, 0),
  (1300, .iload_n 3, 1301, 0, [3], 0, 0),
  (1301, .iconst (2), 1302, 0, [], 2, 0),
  (1302, .iadd, 1303, 0, [], 0, 0),
  (1303, .iaload, 1304, 0, [], 0, 0),
  (1304, .invokevirtual 159, 1307, 1262, [137, 3, 0, 0, 1263, 1264, 125, 1265], 0, 0),
  (1307, .aload_n 2, 1308, 0, [2], 0, 0),
  (1308, .aload_n 0, 1309, 0, [0], 0, 0),
  (1309, .iload_n 3, 1310, 0, [3], 0, 0),
  (1310, .iconst (1), 1311, 0, [], 1, 0),
  (1311, .iadd, 1312, 0, [], 0, 0),
  (1312, .iaload, 1313, 0, [], 0, 0),
  (1313, .aload_n 0, 1314, 0, [0], 0, 0),
  (1314, .iload_n 3, 1315, 0, [3], 0, 0),
  (1315, .iconst (2), 1316, 0, [], 2, 0),
  (1316, .iadd, 1317, 0, [], 0, 0),
  (1317, .iaload, 1318, 0, [], 0, 0)]
def pt_q1_15 : List pm_Q := [(1318, .invokevirtual 162, 1321, 2070, [1318, 3, 0, 9, 2071, 2072, 138, 2073], 0, 0),
  (1321, .if_icmp .eq (212), 1324, 0, [1533], 0, 0),
  (1324, .iconst (0), 1325, 0, [], 0, 0),
  (1325, .ireturn, 1326, 0, [], 0, 0),
  (1326, .aload_n 1, 1327, 0, [1], 0, 0),
  (1327, .aload_n 0, 1328, 0, [0], 0, 0),
  (1328, .iload_n 3, 1329, 0, [3], 0, 0),
  (1329, .iconst (1), 1330, 0, [], 1, 0),
  (1330, .iadd, 1331, 0, [], 0, 0),
  (1331, .iaload, 1332, 0, [], 0, 0),
  (1332, .invokevirtual 163, 1335, 1279, [138, 2, 0, 0, 1280, 1281, 125, 1282], 0, 0),
  (1335, .aload_n 2, 1336, 0, [2], 0, 0),
  (1336, .aload_n 0, 1337, 0, [0], 0, 0),
  (1337, .iload_n 3, 1338, 0, [3], 0, 0),
  (1338, .iconst (1), 1339, 0, [], 1, 0),
  (1339, .iadd, 1340, 0, [], 0, 0),
  (1340, .iaload, 1341, 0, [], 0, 0),
  (1341, .invokevirtual 166, 1344, 2078, [1319, 2, 0, 9, 2079, 2080, 138, 2081], 0, 0),
  (1344, .if_icmp .eq (189), 1347, 0, [1533], 0, 0),
  (1347, .iconst (0), 1348, 0, [], 0, 0),
  (1348, .ireturn, 1349, 0, [], 0, 0),
  (1349, .aload_n 1, 1350, 0, [1], 0, 0),
  (1350, .aload_n 0, 1351, 0, [0], 0, 0),
  (1351, .iload_n 3, 1352, 0, [3], 0, 0),
  (1352, .iconst (1), 1353, 0, [], 1, 0),
  (1353, .iadd, 1354, 0, [], 0, 0),
  (1354, .iaload, 1355, 0, [], 0, 0),
  (1355, .invokevirtual 167, 1358, 1289, [139, 2, 0, 0, 1290, 1291, 125, 1292], 0, 0),
  (1358, .aload_n 2, 1359, 0, [2], 0, 0),
  (1359, .aload_n 0, 1360, 0, [0], 0, 0),
  (1360, .iload_n 3, 1361, 0, [3], 0, 0),
  (1361, .iconst (1), 1362, 0, [], 1, 0),
  (1362, .iadd, 1363, 0, [], 0, 0),
  (1363, .iaload, 1364, 0, [], 0, 0),
  (1364, .invokevirtual 170, 1367, 2082, [1321, 2, 0, 9, 2083, 2084, 138, 2085], 0, 0),
  (1367, .if_icmp .eq (166), 1370, 0, [1533], 0, 0),
  (1370, .iconst (0), 1371, 0, [], 0, 0),
  (1371, .ireturn, 1372, 0, [], 0, 0),
  (1372, .aload_n 1, 1373, 0, [1], 0, 0),
  (1373, .aload_n 0, 1374, 0, [0], 0, 0),
  (1374, .iload_n 3, 1375, 0, [3], 0, 0),
  (1375, .iconst (1), 1376, 0, [], 1, 0),
  (1376, .iadd, 1377, 0, [], 0, 0),
  (1377, .iaload, 1378, 0, [], 0, 0),
  (1378, .invokevirtual 171, 1381, 1312, [140, 2, 0, 0, 1313, 1314, 125, 1315], 0, 0),
  (1381, .aload_n 2, 1382, 0, [2], 0, 0),
  (1382, .aload_n 0, 1383, 0, [0], 0, 0),
  (1383, .iload_n 3, 1384, 0, [3], 0, 0),
  (1384, .iconst (1), 1385, 0, [], 1, 0),
  (1385, .iadd, 1386, 0, [], 0, 0),
  (1386, .iaload, 1387, 0, [], 0, 0),
  (1387, .invokevirtual 174, 1390, 2090, [1323, 2, 0, 9, 2091, 2092, 138, 2093], 0, 0),
  (1390, .if_icmp .eq (143), 1393, 0, [1533], 0, 0),
  (1393, .iconst (0), 1394, 0, [], 0, 0),
  (1394, .ireturn, 1395, 0, [], 0, 0),
  (1395, .aload_n 1, 1396, 0, [1], 0, 0),
  (1396, .invokevirtual 175, 1399, 1323, [141, 1, 0, 0, 1324, 1325, 125, 1326], 0, 0),
  (1399, .aload_n 2, 1400, 0, [2], 0, 0),
  (1400, .invokevirtual 178, 1403, 2098, [1325, 1, 0, 9, 2099, 2100, 138, 2101], 0, 0),
  (1403, .if_icmp .eq (130), 1406, 0, [1533], 0, 0)]
def pt_q1_16 : List pm_Q := [(1406, .iconst (0), 1407, 0, [], 0, 0),
  (1407, .ireturn, 1408, 0, [], 0, 0),
  (1408, .aload_n 1, 1409, 0, [1], 0, 0),
  (1409, .aload_n 0, 1410, 0, [0], 0, 0),
  (1410, .iload_n 3, 1411, 0, [3], 0, 0),
  (1411, .iconst (1), 1412, 0, [], 1, 0),
  (1412, .iadd, 1413, 0, [], 0, 0),
  (1413, .iaload, 1414, 0, [], 0, 0),
  (1414, .aload_n 0, 1415, 0, [0], 0, 0),
  (1415, .iload_n 3, 1416, 0, [3], 0, 0),
  (1416, .iconst (2), 1417, 0, [], 2, 0),
  (1417, .iadd, 1418, 0, [], 0, 0),
  (1418, .iaload, 1419, 0, [], 0, 0),
  (1419, .invokevirtual 179, 1422, 1338, [142, 3, 0, 0, 1339, 1340, 125, 1341], 0, 0),
  (1422, .aload_n 2, 1423, 0, [2], 0, 0),
  (1423, .aload_n 0, 1424, 0, [0], 0, 0),
  (1424, .iload_n 3, 1425, 0, [3], 0, 0),
  (1425, .iconst (1), 1426, 0, [], 1, 0),
  (1426, .iadd, 1427, 0, [], 0, 0),
  (1427, .iaload, 1428, 0, [], 0, 0),
  (1428, .aload_n 0, 1429, 0, [0], 0, 0),
  (1429, .iload_n 3, 1430, 0, [3], 0, 0),
  (1430, .iconst (2), 1431, 0, [], 2, 0),
  (1431, .iadd, 1432, 0, [], 0, 0),
  (1432, .iaload, 1433, 0, [], 0, 0),
  (1433, .invokevirtual 182, 1436, 2106, [1326, 3, 0, 9, 2107, 2108, 138, 2109], 0, 0),
  (1436, .if_icmp .eq (97), 1439, 0, [1533], 0, 0),
  (1439, .iconst (0), 1440, 0, [], 0, 0),
  (1440, .ireturn, 1441, 0, [], 0, 0),
  (1441, .aload_n 1, 1442, 0, [1], 0, 0),
  (1442, .aload_n 0, 1443, 0, [0], 0, 0),
  (1443, .iload_n 3, 1444, 0, [3], 0, 0),
  (1444, .iconst (1), 1445, 0, [], 1, 0),
  (1445, .iadd, 1446, 0, [], 0, 0),
  (1446, .iaload, 1447, 0, [], 0, 0),
  (1447, .aload_n 0, 1448, 0, [0], 0, 0),
  (1448, .iload_n 3, 1449, 0, [3], 0, 0),
  (1449, .iconst (2), 1450, 0, [], 2, 0),
  (1450, .iadd, 1451, 0, [], 0, 0),
  (1451, .iaload, 1452, 0, [], 0, 0),
  (1452, .invokevirtual 183, 1455, 1351, [143, 3, 0, 0, 1352, 1353, 125, 1354], 0, 0),
  (1455, .aload_n 2, 1456, 0, [2], 0, 0),
  (1456, .aload_n 0, 1457, 0, [0], 0, 0),
  (1457, .iload_n 3, 1458, 0, [3], 0, 0),
  (1458, .iconst (1), 1459, 0, [], 1, 0),
  (1459, .iadd, 1460, 0, [], 0, 0),
  (1460, .iaload, 1461, 0, [], 0, 0),
  (1461, .aload_n 0, 1462, 0, [0], 0, 0),
  (1462, .iload_n 3, 1463, 0, [3], 0, 0),
  (1463, .iconst (2), 1464, 0, [], 2, 0),
  (1464, .iadd, 1465, 0, [], 0, 0),
  (1465, .iaload, 1466, 0, [], 0, 0),
  (1466, .invokevirtual 186, 1469, 2110, [1327, 3, 0, 9, 2111, 2112, 138, 2113], 0, 0),
  (1469, .if_icmp .eq (64), 1472, 0, [1533], 0, 0),
  (1472, .iconst (0), 1473, 0, [], 0, 0),
  (1473, .ireturn, 1474, 0, [], 0, 0),
  (1474, .aload_n 1, 1475, 0, [1], 0, 0),
  (1475, .invokevirtual 187, 1478, 1359, [144, 1, 0, 0, 1360, 1361, 125, 1362], 0, 0),
  (1478, .aload_n 2, 1479, 0, [2], 0, 0),
  (1479, .invokevirtual 190, 1482, 2115, [1328, 1, 0, 9, 2116, 2117, 138, 2118], 0, 0)]
def pt_q1_17 : List pm_Q := [(1482, .if_icmp .eq (51), 1485, 0, [1533], 0, 0),
  (1485, .iconst (0), 1486, 0, [], 0, 0),
  (1486, .ireturn, 1487, 0, [], 0, 0),
  (1487, .aload_n 1, 1488, 0, [1], 0, 0),
  (1488, .invokevirtual 191, 1491, 1363, [145, 1, 0, 0, 1364, 1365, 125, 1366], 0, 0),
  (1491, .aload_n 2, 1492, 0, [2], 0, 0),
  (1492, .invokevirtual 194, 1495, 1752, [1241, 1, 0, 9, 1753, 1754, 138, 1755], 0, 0),
  (1495, .if_icmp .eq (38), 1498, 0, [1533], 0, 0),
  (1498, .iconst (0), 1499, 0, [], 0, 0),
  (1499, .ireturn, 1500, 0, [], 0, 0),
  (1500, .aload_n 1, 1501, 0, [1], 0, 0),
  (1501, .aload_n 0, 1502, 0, [0], 0, 0),
  (1502, .iload_n 3, 1503, 0, [3], 0, 0),
  (1503, .iconst (1), 1504, 0, [], 1, 0),
  (1504, .iadd, 1505, 0, [], 0, 0),
  (1505, .iaload, 1506, 0, [], 0, 0),
  (1506, .aload_n 0, 1507, 0, [0], 0, 0),
  (1507, .iload_n 3, 1508, 0, [3], 0, 0),
  (1508, .iconst (2), 1509, 0, [], 2, 0),
  (1509, .iadd, 1510, 0, [], 0, 0),
  (1510, .iaload, 1511, 0, [], 0, 0),
  (1511, .invokevirtual 195, 1514, 1372, [146, 3, 0, 0, 1373, 1374, 125, 1375], 0, 0),
  (1514, .aload_n 2, 1515, 0, [2], 0, 0),
  (1515, .aload_n 0, 1516, 0, [0], 0, 0),
  (1516, .iload_n 3, 1517, 0, [3], 0, 0),
  (1517, .iconst (1), 1518, 0, [], 1, 0),
  (1518, .iadd, 1519, 0, [], 0, 0),
  (1519, .iaload, 1520, 0, [], 0, 0),
  (1520, .aload_n 0, 1521, 0, [0], 0, 0),
  (1521, .iload_n 3, 1522, 0, [3], 0, 0),
  (1522, .iconst (2), 1523, 0, [], 2, 0),
  (1523, .iadd, 1524, 0, [], 0, 0),
  (1524, .iaload, 1525, 0, [], 0, 0),
  (1525, .invokevirtual 198, 1528, 2119, [1329, 3, 0, 9, 2120, 2121, 138, 2122], 0, 0),
  (1528, .if_icmp .eq (5), 1531, 0, [1533], 0, 0),
  (1531, .iconst (0), 1532, 0, [], 0, 0),
  (1532, .ireturn, 1533, 0, [], 0, 0),
  (1533, .iinc 3 (6), 1536, 0, [3], 6, 0),
  (1536, .goto (-1518), 1539, 0, [18], 0, 0),
  (1539, .iconst (1), 1540, 0, [], 1, 0),
  (1540, .ireturn, 1541, 0, [], 0, 0)]
def pt_m1 : pm_Me := (⟨"TurnCabinetLaw", "law", "([I)Z"⟩, code, 4, some .boolean, 10, 216, pt_q1_0 ++ pt_q1_1 ++ pt_q1_2 ++ pt_q1_3 ++ pt_q1_4 ++ pt_q1_5 ++ pt_q1_6 ++ pt_q1_7 ++ pt_q1_8 ++ pt_q1_9 ++ pt_q1_10 ++ pt_q1_11 ++ pt_q1_12 ++ pt_q1_13 ++ pt_q1_14 ++ pt_q1_15 ++ pt_q1_16 ++ pt_q1_17)
def pt_m0 : pm_Me := (⟨"", "", ""⟩, ⟨#[]⟩, 0, none, 0, 0, [])
def pt_p0 : List pm_Me := [pt_m0, pt_m1]
def pt_p1 : List pm_Me := [pt_m0, pt_m101, pt_m102, pt_m103, pt_m104, pt_m105, pt_m106, pt_m107, pt_m108, pt_m109, pt_m110, pt_m111, pt_m112, pt_m113, pt_m114, pt_m115, pt_m116, pt_m117, pt_m118, pt_m119, pt_m120, pt_m121, pt_m122, pt_m123, pt_m124, pt_m125, pt_m126, pt_m127, pt_m128, pt_m129, pt_m130, pt_m131, pt_m132, pt_m133, pt_m134, pt_m135, pt_m136, pt_m137, pt_m138, pt_m139, pt_m140, pt_m141, pt_m142, pt_m143, pt_m144, pt_m145, pt_m146, pt_m147, pt_m148, pt_m149, pt_m150, pt_m151]
def pt_p2 : List pm_Me := [pt_m0, pt_m201, pt_m202, pt_m203, pt_m204, pt_m205, pt_m206, pt_m207, pt_m208, pt_m209, pt_m210, pt_m211, pt_m212, pt_m213, pt_m214, pt_m215, pt_m216]
def pt_p3 : List pm_Me := [pt_m0, pt_m301, pt_m302, pt_m303, pt_m304, pt_m305, pt_m306, pt_m307, pt_m308, pt_m309, pt_m310, pt_m311, pt_m312, pt_m313, pt_m314, pt_m315, pt_m316, pt_m317, pt_m318, pt_m319, pt_m320, pt_m321, pt_m322, pt_m323, pt_m324, pt_m325, pt_m326, pt_m327, pt_m328]
def pt_p4 : List pm_Me := [pt_m0, pt_m401, pt_m402, pt_m403, pt_m404, pt_m405, pt_m406, pt_m407, pt_m408, pt_m409, pt_m410, pt_m411, pt_m412, pt_m413]
def pt_p5 : List pm_Me := [pt_m0, pt_m501, pt_m502, pt_m503, pt_m504, pt_m505, pt_m506, pt_m507, pt_m508, pt_m509, pt_m510, pt_m511, pt_m512, pt_m513, pt_m514, pt_m515, pt_m516, pt_m517, pt_m518, pt_m519, pt_m520, pt_m521, pt_m522, pt_m523, pt_m524, pt_m525, pt_m526, pt_m527, pt_m528, pt_m529, pt_m530, pt_m531, pt_m532]
def pt_p6 : List pm_Me := [pt_m0, pt_m601, pt_m602, pt_m603, pt_m604, pt_m605, pt_m606, pt_m607, pt_m608, pt_m609, pt_m610, pt_m611, pt_m612, pt_m613, pt_m614, pt_m615]
def pt_p7 : List pm_Me := [pt_m0, pt_m701, pt_m702, pt_m703, pt_m704, pt_m705, pt_m706, pt_m707, pt_m708, pt_m709, pt_m710, pt_m711, pt_m712, pt_m713, pt_m714, pt_m715, pt_m716, pt_m717, pt_m718, pt_m719, pt_m720, pt_m721, pt_m722, pt_m723, pt_m724, pt_m725, pt_m726, pt_m727]
def pt_p8 : List pm_Me := [pt_m0, pt_m801, pt_m802, pt_m803, pt_m804]
def pt_p9 : List pm_Me := [pt_m0, pt_m0, pt_m902, pt_m903, pt_m904, pt_m905, pt_m906, pt_m907, pt_m908]
def pt_p10 : List pm_Me := [pt_m0, pt_m1001, pt_m1002, pt_m1003, pt_m1004, pt_m1005]
def pt_p11 : List pm_Me := []
def pt_p12 : List pm_Me := [pt_m0, pt_m1201, pt_m1202, pt_m1203, pt_m1204, pt_m1205, pt_m1206, pt_m1207, pt_m1208, pt_m1209, pt_m1210, pt_m1211, pt_m1212, pt_m1213, pt_m1214, pt_m1215, pt_m1216, pt_m1217, pt_m1218, pt_m1219, pt_m1220, pt_m1221, pt_m1222, pt_m1223, pt_m1224, pt_m1225, pt_m1226, pt_m1227, pt_m1228, pt_m1229, pt_m1230, pt_m1231, pt_m1232, pt_m1233, pt_m1234, pt_m1235, pt_m1236, pt_m1237, pt_m1238, pt_m1239, pt_m1240, pt_m1241, pt_m1242, pt_m1243, pt_m1244, pt_m1245, pt_m1246, pt_m1247, pt_m1248, pt_m1249, pt_m1250, pt_m1251, pt_m1252, pt_m1253, pt_m1254, pt_m1255, pt_m1256, pt_m1257, pt_m1258, pt_m1259, pt_m1260, pt_m1261, pt_m1262, pt_m1263, pt_m1264, pt_m1265, pt_m1266, pt_m1267, pt_m1268, pt_m1269, pt_m1270, pt_m1271, pt_m1272, pt_m1273, pt_m1274, pt_m1275, pt_m1276, pt_m1277, pt_m1278, pt_m1279, pt_m1280, pt_m1281, pt_m1282, pt_m1283, pt_m1284, pt_m1285, pt_m1286, pt_m1287, pt_m1288, pt_m1289, pt_m1290, pt_m1291, pt_m1292, pt_m1293, pt_m1294, pt_m1295, pt_m1296, pt_m1297, pt_m1298, pt_m1299]
def pt_p13 : List pm_Me := [pt_m1300, pt_m1301, pt_m1302, pt_m1303, pt_m1304, pt_m1305, pt_m1306, pt_m1307, pt_m1308, pt_m1309, pt_m1310, pt_m1311, pt_m1312, pt_m1313, pt_m1314, pt_m1315, pt_m1316, pt_m1317, pt_m1318, pt_m1319, pt_m1320, pt_m1321, pt_m1322, pt_m1323, pt_m1324, pt_m1325, pt_m1326, pt_m1327, pt_m1328, pt_m1329]
def pt_p14 : List pm_Me := []
def pt_p15 : List pm_Me := [pt_m0, pt_m1501, pt_m1502, pt_m1503, pt_m1504, pt_m1505, pt_m1506, pt_m1507, pt_m1508, pt_m1509, pt_m1510, pt_m1511, pt_m1512]
def pt_ml : List (List pm_Me) := [pt_p0, pt_p1, pt_p2, pt_p3, pt_p4, pt_p5, pt_p6, pt_p7, pt_p8, pt_p9, pt_p10, pt_p11, pt_p12, pt_p13, pt_p14, pt_p15]
def pt_me : Nat → pm_Me := fun k => (pt_ml.getD (k / 100) []).getD (k % 100) pt_m0
/-
0 x TurnCabinet
1 x.tape TurnCabinet$Tape
2 x.tape.bytes byte[900]
3 x.house TurnCabinet$House
4 x.house.seats int[8]
5 x.house.places int[8]
6 x.house.walks int[8]
7 x.house.bars int[8]
8 x.house.worths int[64]
9 x.house.stances int[64]
10 x.reader TurnCabinet$Reader
11 x.reader.draft TurnCabinet$House
12 x.reader.draft.seats int[8]
13 x.reader.draft.places int[8]
14 x.reader.draft.walks int[8]
15 x.reader.draft.bars int[8]
16 x.reader.draft.worths int[64]
17 x.reader.draft.stances int[64]
18 x.reader.language long[13]
19 x.reader.partyNames long[8]
20 x.reader.officeNames long[8]
21 x.reader.worthsTold int[8]
22 x.reader.stancesTold int[8]
23 x.picks TurnCabinet$Picks
24 x.picks.choices int[256]
25 x.picks.gains long[256]
26 x.picks.lanes int[8]
27 x.shares TurnCabinet$Shares
28 x.shares.best int[256]
29 x.shares.worthOfSet int[256]
30 x.coalitions TurnCabinet$Coalitions
31 x.coalitions.seatsIn int[128]
32 x.coalitions.free boolean[128]
33 x.coalitions.learnt boolean[128]
34 x.coalitions.turns int[128]
35 x.coalitions.foreseen int[128]
36 x.coalitions.pays int[1024]
37 x.coalitions.griefs int[1024]
38 x.coalitions.rivals int[128]
39 x.coalitions.standing int[128]
40 x.coalitions.visited boolean[128]
41 x.forming TurnCabinet$Forming
42 x.forming.tries int[567]
43 x.forming.spent boolean[128]
44 x.cabinet TurnCabinet$Cabinet
45 x.cabinet.earlierCoalitions int[12]
46 x.cabinet.earlierHolders int[12]
47 x.cabinet.changedParties int[12]
48 x.cabinet.earlierSeats int[12]
49 m TurnCabinetModel
50 m.tape int[900]
51 m.rPartyName long[7]
52 m.rOfficeName long[8]
53 m.rSeats int[7]
54 m.rPlace int[7]
55 m.rWalk int[7]
56 m.rBars int[7]
57 m.rWorth int[56]
58 m.rStance int[56]
59 m.places int[7]
60 m.walk int[7]
61 m.bars int[7]
62 m.worth int[56]
63 m.stance int[56]
64 m.now int[16]
65 m.past int[192]
66 m.turn int[8]
67 m.had int[7]
68 m.got int[1792]
69 m.choice int[256]
70 m.owner int[8]
71 m.given int[256]
72 m.givenNext int[256]
73 m.pays int[896]
74 m.griefs int[896]
75 m.rivals int[128]
76 m.was boolean[128]
77 m.former int[567]
78 m.triedSet int[567]
79 m.walks int[567]
80 m.order int[7]
-/
def pt_s0 : List pm_K := [.inr (0, pt_K0), .inr (1, pt_K1), .inl (2, 900), .inr (2, pt_K2), .inl (0, 8), .inl (0, 8), .inl (0, 8), .inl (0, 8), .inl (0, 64), .inl (0, 64)]
def pt_s1 : List pm_K := [.inr (3, pt_K3), .inr (2, pt_K2), .inl (0, 8), .inl (0, 8), .inl (0, 8), .inl (0, 8), .inl (0, 64), .inl (0, 64), .inl (1, 13), .inl (1, 8)]
def pt_s2 : List pm_K := [.inl (1, 8), .inl (0, 8), .inl (0, 8), .inr (4, pt_K4), .inl (0, 256), .inl (1, 256), .inl (0, 8), .inr (5, pt_K5), .inl (0, 256), .inl (0, 256)]
def pt_s3 : List pm_K := [.inr (6, pt_K6), .inl (0, 128), .inl (3, 128), .inl (3, 128), .inl (0, 128), .inl (0, 128), .inl (0, 1024), .inl (0, 1024), .inl (0, 128), .inl (0, 128)]
def pt_s4 : List pm_K := [.inl (3, 128), .inr (7, pt_K7), .inl (0, 567), .inl (3, 128), .inr (8, pt_K8), .inl (0, 12), .inl (0, 12), .inl (0, 12), .inl (0, 12), .inr (9, pt_K9)]
def pt_s5 : List pm_K := [.inl (0, 900), .inl (1, 7), .inl (1, 8), .inl (0, 7), .inl (0, 7), .inl (0, 7), .inl (0, 7), .inl (0, 56), .inl (0, 56), .inl (0, 7)]
def pt_s6 : List pm_K := [.inl (0, 7), .inl (0, 7), .inl (0, 56), .inl (0, 56), .inl (0, 16), .inl (0, 192), .inl (0, 8), .inl (0, 7), .inl (0, 1792), .inl (0, 256)]
def pt_s7 : List pm_K := [.inl (0, 8), .inl (0, 256), .inl (0, 256), .inl (0, 896), .inl (0, 896), .inl (0, 128), .inl (3, 128), .inl (0, 567), .inl (0, 567), .inl (0, 567)]
def pt_s8 : List pm_K := [.inl (0, 7)]
def pt_sl : List (List pm_K) := [pt_s0, pt_s1, pt_s2, pt_s3, pt_s4, pt_s5, pt_s6, pt_s7, pt_s8]
def pt_Sg : Nat → pm_K := fun r => (pt_sl.getD (r / 10) []).getD (r % 10) (.inl (9, 0))
def pt_n : Nat := 81
def pt_g0 : List (List Nat) := [[2, 4, 11, 24, 28, 31, 42, 45], [3, 0], [], [0, 0, 0, 0, 0, 0, 0, 0, 0, 0, 5, 6, 7, 8, 9, 10], [], [], [], [], [], []]
def pt_g1 : List (List Nat) := [[2, 12, 19, 20, 21, 22, 23, 0, 0, 0, 0, 0, 0, 0, 0, 0], [0, 0, 0, 0, 0, 0, 0, 0, 0, 0, 13, 14, 15, 16, 17, 18], [], [], [], [], [], [], [], []]
def pt_g2 : List (List Nat) := [[], [], [], [4, 25, 26, 27, 0, 0, 0], [], [], [], [4, 29, 30], [], []]
def pt_g3 : List (List Nat) := [[4, 24, 32, 33, 34, 35, 36, 37, 38, 39, 40, 41, 0, 0, 0], [], [], [], [], [], [], [], [], []]
def pt_g4 : List (List Nat) := [[], [4, 31, 43, 44, 0, 0, 0, 0], [], [], [4, 46, 47, 48, 49, 0, 0, 0], [], [], [], [], [51, 0, 0, 0, 0, 0, 0, 0, 0, 0, 0, 0, 0, 0, 0, 0, 0, 0, 0, 0, 0, 0, 52, 53, 54, 55, 56, 57, 58, 59, 0, 0, 0, 0, 0, 0, 0, 0, 60, 61, 62, 63, 64, 65, 66, 0, 67, 68, 69, 70, 71, 0, 72, 73, 74, 75, 76, 0, 77, 78, 79, 80, 81, 0, 0, 0]]
def pt_g5 : List (List Nat) := [[], [], [], [], [], [], [], [], [], []]
def pt_g6 : List (List Nat) := [[], [], [], [], [], [], [], [], [], []]
def pt_g7 : List (List Nat) := [[], [], [], [], [], [], [], [], [], []]
def pt_g8 : List (List Nat) := [[]]
def pt_gl : List (List (List Nat)) := [pt_g0, pt_g1, pt_g2, pt_g3, pt_g4, pt_g5, pt_g6, pt_g7, pt_g8]
def pt_ord : Nat → Int32 := fun j => ([1, 1, 2, 6, 24, 120, 720, 5040] : List Int32).getD j 0
def pt_txl : List Int32 := [100, 105, 118, 105, 115, 111, 114, 115, 32, 110, 101, 101, 100, 32, 99, 97, 114, 101, 32, 116, 114, 105, 101, 115, 32, 116, 105, 114, 101, 32, 111, 102, 102, 105, 99, 101, 32, 112, 97, 114, 116, 121, 32, 115, 101, 97, 116, 115, 32, 97, 116, 32, 119, 97, 108, 107, 32, 119, 111, 114, 116, 104, 32, 115, 116, 97, 110, 99, 101, 32, 98, 97, 114, 32]
def pt_txt : Nat → Int32 := fun j => pt_txl.getD j 0
def pt_scr (xs : List Int32) : Nat → Int32 := fun j => xs.getD j 0
def pt_Rt (xs : List Int32) : pm_T := fun r => match r with
  | 200 => some (0, 8, pt_ord)
  | 202 => some (2, 74, pt_txt)
  | 203 => some (0, xs.length, pt_scr xs)
  | _ => none
def pt_KS : Nat → List Nat := fun c => match c with
  | 0 => pt_K0
  | 1 => pt_K1
  | 2 => pt_K2
  | 3 => pt_K3
  | 4 => pt_K4
  | 5 => pt_K5
  | 6 => pt_K6
  | 7 => pt_K7
  | 8 => pt_K8
  | 9 => pt_K9
  | _ => []
def pt_tl0 : List FieldType := [.object "TurnCabinet$Tape", .object "TurnCabinet$House", .object "TurnCabinet$Reader", .object "TurnCabinet$Picks", .object "TurnCabinet$Shares", .object "TurnCabinet$Coalitions", .object "TurnCabinet$Forming", .object "TurnCabinet$Cabinet"]
def pt_il0 : List Nat := [544, 546, 548, 550, 552, 554, 556, 558]
def pt_tl1 : List FieldType := [.array .byte, .int]
def pt_il1 : List Nat := [158, 160]
def pt_tl2 : List FieldType := [.int, .int, .int, .int, .int, .int, .int, .int, .int, .int, .array .int, .array .int, .array .int, .array .int, .array .int, .array .int]
def pt_il2 : List Nat := [224, 226, 228, 230, 232, 234, 236, 238, 240, 242, 244, 246, 248, 250, 252, 254]
def pt_tl3 : List FieldType := [.object "TurnCabinet$Tape", .object "TurnCabinet$House", .array .long, .array .long, .array .long, .array .int, .array .int, .int, .int, .int, .int, .int, .int, .int, .long, .int]
def pt_il3 : List Nat := [338, 340, 342, 344, 346, 348, 350, 352, 354, 356, 358, 360, 362, 364, 366, 368]
def pt_tl4 : List FieldType := [.object "TurnCabinet$House", .array .int, .array .long, .array .int, .int, .int, .int]
def pt_il4 : List Nat := [385, 387, 389, 391, 393, 395, 397]
def pt_tl5 : List FieldType := [.object "TurnCabinet$House", .array .int, .array .int]
def pt_il5 : List Nat := [409, 411, 413]
def pt_tl6 : List FieldType := [.object "TurnCabinet$House", .object "TurnCabinet$Picks", .array .int, .array .boolean, .array .boolean, .array .int, .array .int, .array .int, .array .int, .array .int, .array .int, .array .boolean, .int, .int, .int]
def pt_il6 : List Nat := [437, 439, 441, 443, 445, 447, 449, 451, 453, 455, 457, 459, 461, 463, 465]
def pt_tl7 : List FieldType := [.object "TurnCabinet$House", .object "TurnCabinet$Coalitions", .array .int, .array .boolean, .int, .int, .int, .int]
def pt_il7 : List Nat := [486, 488, 490, 492, 494, 496, 498, 500]
def pt_tl8 : List FieldType := [.object "TurnCabinet$House", .array .int, .array .int, .array .int, .array .int, .int, .int, .int]
def pt_il8 : List Nat := [519, 521, 523, 525, 527, 529, 531, 533]
def pt_tl9 : List FieldType := [.array .int, .int, .int, .int, .int, .int, .int, .int, .int, .int, .int, .int, .long, .int, .int, .int, .int, .int, .int, .int, .int, .int, .array .long, .array .long, .array .int, .array .int, .array .int, .array .int, .array .int, .array .int, .int, .int, .int, .int, .int, .int, .int, .int, .array .int, .array .int, .array .int, .array .int, .array .int, .array .int, .array .int, .int, .array .int, .array .int, .array .int, .array .int, .array .int, .int, .array .int, .array .int, .array .int, .array .int, .array .int, .boolean, .array .boolean, .array .int, .array .int, .array .int, .array .int, .int, .int, .int]
def pt_il9 : List Nat := [1479, 1481, 1483, 1485, 1487, 1489, 1491, 1493, 1495, 1497, 1499, 1501, 1503, 1505, 1507, 1509, 1511, 1513, 1515, 1517, 1519, 1521, 1523, 1525, 1527, 1529, 1531, 1533, 1535, 1537, 1539, 1541, 1543, 1545, 1547, 1549, 1551, 1553, 1555, 1557, 1559, 1561, 1563, 1565, 1567, 1569, 1571, 1573, 1575, 1577, 1579, 1581, 1583, 1585, 1587, 1589, 1591, 1593, 1595, 1597, 1599, 1601, 1603, 1605, 1607, 1609]
/-- the references in fields, once all is made -/
def pt_G : Nat → Nat → Nat := fun r k => ((pt_gl.getD (r / 10) []).getD (r % 10) []).getD k 0
end
section
/-! ===== the tables say what the bytes and the words say ===== -/
set_option maxRecDepth 100000 in
theorem pt_ok101_0 : pt_q101_0.all (pm_chk pt_cl pt_me 101) = true := by decide +kernel
set_option maxRecDepth 100000 in
theorem pt_ok1001_0 : pt_q1001_0.all (pm_chk pt_cl pt_me 1001) = true := by decide +kernel
set_option maxRecDepth 100000 in
theorem pt_ok501_0 : pt_q501_0.all (pm_chk pt_cl pt_me 501) = true := by decide +kernel
set_option maxRecDepth 100000 in
theorem pt_ok701_0 : pt_q701_0.all (pm_chk pt_cl pt_me 701) = true := by decide +kernel
set_option maxRecDepth 100000 in
theorem pt_ok701_1 : pt_q701_1.all (pm_chk pt_cl pt_me 701) = true := by decide +kernel
set_option maxRecDepth 100000 in
theorem pt_ok1501_0 : pt_q1501_0.all (pm_chk pt_cl pt_me 1501) = true := by decide +kernel
set_option maxRecDepth 100000 in
theorem pt_ok1502_0 : pt_q1502_0.all (pm_chk pt_cl pt_me 1502) = true := by decide +kernel
set_option maxRecDepth 100000 in
theorem pt_ok1503_0 : pt_q1503_0.all (pm_chk pt_cl pt_me 1503) = true := by decide +kernel
set_option maxRecDepth 100000 in
theorem pt_ok1504_0 : pt_q1504_0.all (pm_chk pt_cl pt_me 1504) = true := by decide +kernel
set_option maxRecDepth 100000 in
theorem pt_ok1505_0 : pt_q1505_0.all (pm_chk pt_cl pt_me 1505) = true := by decide +kernel
set_option maxRecDepth 100000 in
theorem pt_ok1506_0 : pt_q1506_0.all (pm_chk pt_cl pt_me 1506) = true := by decide +kernel
set_option maxRecDepth 100000 in
theorem pt_ok1507_0 : pt_q1507_0.all (pm_chk pt_cl pt_me 1507) = true := by decide +kernel
set_option maxRecDepth 100000 in
theorem pt_ok724_0 : pt_q724_0.all (pm_chk pt_cl pt_me 724) = true := by decide +kernel
set_option maxRecDepth 100000 in
theorem pt_ok601_0 : pt_q601_0.all (pm_chk pt_cl pt_me 601) = true := by decide +kernel
set_option maxRecDepth 100000 in
theorem pt_ok801_0 : pt_q801_0.all (pm_chk pt_cl pt_me 801) = true := by decide +kernel
set_option maxRecDepth 100000 in
theorem pt_ok301_0 : pt_q301_0.all (pm_chk pt_cl pt_me 301) = true := by decide +kernel
set_option maxRecDepth 100000 in
theorem pt_ok401_0 : pt_q401_0.all (pm_chk pt_cl pt_me 401) = true := by decide +kernel
set_option maxRecDepth 100000 in
theorem pt_ok201_0 : pt_q201_0.all (pm_chk pt_cl pt_me 201) = true := by decide +kernel
set_option maxRecDepth 100000 in
theorem pt_ok102_0 : pt_q102_0.all (pm_chk pt_cl pt_me 102) = true := by decide +kernel
set_option maxRecDepth 100000 in
theorem pt_ok1002_0 : pt_q1002_0.all (pm_chk pt_cl pt_me 1002) = true := by decide +kernel
set_option maxRecDepth 100000 in
theorem pt_ok1004_0 : pt_q1004_0.all (pm_chk pt_cl pt_me 1004) = true := by decide +kernel
set_option maxRecDepth 100000 in
theorem pt_ok103_0 : pt_q103_0.all (pm_chk pt_cl pt_me 103) = true := by decide +kernel
set_option maxRecDepth 100000 in
theorem pt_ok1005_0 : pt_q1005_0.all (pm_chk pt_cl pt_me 1005) = true := by decide +kernel
set_option maxRecDepth 100000 in
theorem pt_ok104_0 : pt_q104_0.all (pm_chk pt_cl pt_me 104) = true := by decide +kernel
set_option maxRecDepth 100000 in
theorem pt_ok702_0 : pt_q702_0.all (pm_chk pt_cl pt_me 702) = true := by decide +kernel
set_option maxRecDepth 100000 in
theorem pt_ok502_0 : pt_q502_0.all (pm_chk pt_cl pt_me 502) = true := by decide +kernel
set_option maxRecDepth 100000 in
theorem pt_ok721_0 : pt_q721_0.all (pm_chk pt_cl pt_me 721) = true := by decide +kernel
set_option maxRecDepth 100000 in
theorem pt_ok721_1 : pt_q721_1.all (pm_chk pt_cl pt_me 721) = true := by decide +kernel
set_option maxRecDepth 100000 in
theorem pt_ok1003_0 : pt_q1003_0.all (pm_chk pt_cl pt_me 1003) = true := by decide +kernel
set_option maxRecDepth 100000 in
theorem pt_ok725_0 : pt_q725_0.all (pm_chk pt_cl pt_me 725) = true := by decide +kernel
set_option maxRecDepth 100000 in
theorem pt_ok726_0 : pt_q726_0.all (pm_chk pt_cl pt_me 726) = true := by decide +kernel
set_option maxRecDepth 100000 in
theorem pt_ok722_0 : pt_q722_0.all (pm_chk pt_cl pt_me 722) = true := by decide +kernel
set_option maxRecDepth 100000 in
theorem pt_ok720_0 : pt_q720_0.all (pm_chk pt_cl pt_me 720) = true := by decide +kernel
set_option maxRecDepth 100000 in
theorem pt_ok727_0 : pt_q727_0.all (pm_chk pt_cl pt_me 727) = true := by decide +kernel
set_option maxRecDepth 100000 in
theorem pt_ok723_0 : pt_q723_0.all (pm_chk pt_cl pt_me 723) = true := by decide +kernel
set_option maxRecDepth 100000 in
theorem pt_ok703_0 : pt_q703_0.all (pm_chk pt_cl pt_me 703) = true := by decide +kernel
set_option maxRecDepth 100000 in
theorem pt_ok706_0 : pt_q706_0.all (pm_chk pt_cl pt_me 706) = true := by decide +kernel
set_option maxRecDepth 100000 in
theorem pt_ok706_1 : pt_q706_1.all (pm_chk pt_cl pt_me 706) = true := by decide +kernel
set_option maxRecDepth 100000 in
theorem pt_ok709_0 : pt_q709_0.all (pm_chk pt_cl pt_me 709) = true := by decide +kernel
set_option maxRecDepth 100000 in
theorem pt_ok707_0 : pt_q707_0.all (pm_chk pt_cl pt_me 707) = true := by decide +kernel
set_option maxRecDepth 100000 in
theorem pt_ok151_0 : pt_q151_0.all (pm_chk pt_cl pt_me 151) = true := by decide +kernel
set_option maxRecDepth 100000 in
theorem pt_ok704_0 : pt_q704_0.all (pm_chk pt_cl pt_me 704) = true := by decide +kernel
set_option maxRecDepth 100000 in
theorem pt_ok714_0 : pt_q714_0.all (pm_chk pt_cl pt_me 714) = true := by decide +kernel
set_option maxRecDepth 100000 in
theorem pt_ok705_0 : pt_q705_0.all (pm_chk pt_cl pt_me 705) = true := by decide +kernel
set_option maxRecDepth 100000 in
theorem pt_ok715_0 : pt_q715_0.all (pm_chk pt_cl pt_me 715) = true := by decide +kernel
set_option maxRecDepth 100000 in
theorem pt_ok708_0 : pt_q708_0.all (pm_chk pt_cl pt_me 708) = true := by decide +kernel
set_option maxRecDepth 100000 in
theorem pt_ok710_0 : pt_q710_0.all (pm_chk pt_cl pt_me 710) = true := by decide +kernel
set_option maxRecDepth 100000 in
theorem pt_ok719_0 : pt_q719_0.all (pm_chk pt_cl pt_me 719) = true := by decide +kernel
set_option maxRecDepth 100000 in
theorem pt_ok717_0 : pt_q717_0.all (pm_chk pt_cl pt_me 717) = true := by decide +kernel
set_option maxRecDepth 100000 in
theorem pt_ok711_0 : pt_q711_0.all (pm_chk pt_cl pt_me 711) = true := by decide +kernel
set_option maxRecDepth 100000 in
theorem pt_ok711_1 : pt_q711_1.all (pm_chk pt_cl pt_me 711) = true := by decide +kernel
set_option maxRecDepth 100000 in
theorem pt_ok716_0 : pt_q716_0.all (pm_chk pt_cl pt_me 716) = true := by decide +kernel
set_option maxRecDepth 100000 in
theorem pt_ok712_0 : pt_q712_0.all (pm_chk pt_cl pt_me 712) = true := by decide +kernel
set_option maxRecDepth 100000 in
theorem pt_ok718_0 : pt_q718_0.all (pm_chk pt_cl pt_me 718) = true := by decide +kernel
set_option maxRecDepth 100000 in
theorem pt_ok713_0 : pt_q713_0.all (pm_chk pt_cl pt_me 713) = true := by decide +kernel
set_option maxRecDepth 100000 in
theorem pt_ok503_0 : pt_q503_0.all (pm_chk pt_cl pt_me 503) = true := by decide +kernel
set_option maxRecDepth 100000 in
theorem pt_ok503_1 : pt_q503_1.all (pm_chk pt_cl pt_me 503) = true := by decide +kernel
set_option maxRecDepth 100000 in
theorem pt_ok202_0 : pt_q202_0.all (pm_chk pt_cl pt_me 202) = true := by decide +kernel
set_option maxRecDepth 100000 in
theorem pt_ok105_0 : pt_q105_0.all (pm_chk pt_cl pt_me 105) = true := by decide +kernel
set_option maxRecDepth 100000 in
theorem pt_ok106_0 : pt_q106_0.all (pm_chk pt_cl pt_me 106) = true := by decide +kernel
set_option maxRecDepth 100000 in
theorem pt_ok504_0 : pt_q504_0.all (pm_chk pt_cl pt_me 504) = true := by decide +kernel
set_option maxRecDepth 100000 in
theorem pt_ok508_0 : pt_q508_0.all (pm_chk pt_cl pt_me 508) = true := by decide +kernel
set_option maxRecDepth 100000 in
theorem pt_ok509_0 : pt_q509_0.all (pm_chk pt_cl pt_me 509) = true := by decide +kernel
set_option maxRecDepth 100000 in
theorem pt_ok510_0 : pt_q510_0.all (pm_chk pt_cl pt_me 510) = true := by decide +kernel
set_option maxRecDepth 100000 in
theorem pt_ok205_0 : pt_q205_0.all (pm_chk pt_cl pt_me 205) = true := by decide +kernel
set_option maxRecDepth 100000 in
theorem pt_ok206_0 : pt_q206_0.all (pm_chk pt_cl pt_me 206) = true := by decide +kernel
set_option maxRecDepth 100000 in
theorem pt_ok905_0 : pt_q905_0.all (pm_chk pt_cl pt_me 905) = true := by decide +kernel
set_option maxRecDepth 100000 in
theorem pt_ok902_0 : pt_q902_0.all (pm_chk pt_cl pt_me 902) = true := by decide +kernel
set_option maxRecDepth 100000 in
theorem pt_ok1508_0 : pt_q1508_0.all (pm_chk pt_cl pt_me 1508) = true := by decide +kernel
set_option maxRecDepth 100000 in
theorem pt_ok511_0 : pt_q511_0.all (pm_chk pt_cl pt_me 511) = true := by decide +kernel
set_option maxRecDepth 100000 in
theorem pt_ok107_0 : pt_q107_0.all (pm_chk pt_cl pt_me 107) = true := by decide +kernel
set_option maxRecDepth 100000 in
theorem pt_ok505_0 : pt_q505_0.all (pm_chk pt_cl pt_me 505) = true := by decide +kernel
set_option maxRecDepth 100000 in
theorem pt_ok512_0 : pt_q512_0.all (pm_chk pt_cl pt_me 512) = true := by decide +kernel
set_option maxRecDepth 100000 in
theorem pt_ok108_0 : pt_q108_0.all (pm_chk pt_cl pt_me 108) = true := by decide +kernel
set_option maxRecDepth 100000 in
theorem pt_ok517_0 : pt_q517_0.all (pm_chk pt_cl pt_me 517) = true := by decide +kernel
set_option maxRecDepth 100000 in
theorem pt_ok507_0 : pt_q507_0.all (pm_chk pt_cl pt_me 507) = true := by decide +kernel
set_option maxRecDepth 100000 in
theorem pt_ok515_0 : pt_q515_0.all (pm_chk pt_cl pt_me 515) = true := by decide +kernel
set_option maxRecDepth 100000 in
theorem pt_ok516_0 : pt_q516_0.all (pm_chk pt_cl pt_me 516) = true := by decide +kernel
set_option maxRecDepth 100000 in
theorem pt_ok109_0 : pt_q109_0.all (pm_chk pt_cl pt_me 109) = true := by decide +kernel
set_option maxRecDepth 100000 in
theorem pt_ok110_0 : pt_q110_0.all (pm_chk pt_cl pt_me 110) = true := by decide +kernel
set_option maxRecDepth 100000 in
theorem pt_ok506_0 : pt_q506_0.all (pm_chk pt_cl pt_me 506) = true := by decide +kernel
set_option maxRecDepth 100000 in
theorem pt_ok150_0 : pt_q150_0.all (pm_chk pt_cl pt_me 150) = true := by decide +kernel
set_option maxRecDepth 100000 in
theorem pt_ok602_0 : pt_q602_0.all (pm_chk pt_cl pt_me 602) = true := by decide +kernel
set_option maxRecDepth 100000 in
theorem pt_ok518_0 : pt_q518_0.all (pm_chk pt_cl pt_me 518) = true := by decide +kernel
set_option maxRecDepth 100000 in
theorem pt_ok906_0 : pt_q906_0.all (pm_chk pt_cl pt_me 906) = true := by decide +kernel
set_option maxRecDepth 100000 in
theorem pt_ok903_0 : pt_q903_0.all (pm_chk pt_cl pt_me 903) = true := by decide +kernel
set_option maxRecDepth 100000 in
theorem pt_ok907_0 : pt_q907_0.all (pm_chk pt_cl pt_me 907) = true := by decide +kernel
set_option maxRecDepth 100000 in
theorem pt_ok111_0 : pt_q111_0.all (pm_chk pt_cl pt_me 111) = true := by decide +kernel
set_option maxRecDepth 100000 in
theorem pt_ok149_0 : pt_q149_0.all (pm_chk pt_cl pt_me 149) = true := by decide +kernel
set_option maxRecDepth 100000 in
theorem pt_ok307_0 : pt_q307_0.all (pm_chk pt_cl pt_me 307) = true := by decide +kernel
set_option maxRecDepth 100000 in
theorem pt_ok305_0 : pt_q305_0.all (pm_chk pt_cl pt_me 305) = true := by decide +kernel
set_option maxRecDepth 100000 in
theorem pt_ok305_1 : pt_q305_1.all (pm_chk pt_cl pt_me 305) = true := by decide +kernel
set_option maxRecDepth 100000 in
theorem pt_ok302_0 : pt_q302_0.all (pm_chk pt_cl pt_me 302) = true := by decide +kernel
set_option maxRecDepth 100000 in
theorem pt_ok302_1 : pt_q302_1.all (pm_chk pt_cl pt_me 302) = true := by decide +kernel
set_option maxRecDepth 100000 in
theorem pt_ok303_0 : pt_q303_0.all (pm_chk pt_cl pt_me 303) = true := by decide +kernel
set_option maxRecDepth 100000 in
theorem pt_ok1509_0 : pt_q1509_0.all (pm_chk pt_cl pt_me 1509) = true := by decide +kernel
set_option maxRecDepth 100000 in
theorem pt_ok306_0 : pt_q306_0.all (pm_chk pt_cl pt_me 306) = true := by decide +kernel
set_option maxRecDepth 100000 in
theorem pt_ok306_1 : pt_q306_1.all (pm_chk pt_cl pt_me 306) = true := by decide +kernel
set_option maxRecDepth 100000 in
theorem pt_ok607_0 : pt_q607_0.all (pm_chk pt_cl pt_me 607) = true := by decide +kernel
set_option maxRecDepth 100000 in
theorem pt_ok608_0 : pt_q608_0.all (pm_chk pt_cl pt_me 608) = true := by decide +kernel
set_option maxRecDepth 100000 in
theorem pt_ok606_0 : pt_q606_0.all (pm_chk pt_cl pt_me 606) = true := by decide +kernel
set_option maxRecDepth 100000 in
theorem pt_ok610_0 : pt_q610_0.all (pm_chk pt_cl pt_me 610) = true := by decide +kernel
set_option maxRecDepth 100000 in
theorem pt_ok610_1 : pt_q610_1.all (pm_chk pt_cl pt_me 610) = true := by decide +kernel
set_option maxRecDepth 100000 in
theorem pt_ok609_0 : pt_q609_0.all (pm_chk pt_cl pt_me 609) = true := by decide +kernel
set_option maxRecDepth 100000 in
theorem pt_ok604_0 : pt_q604_0.all (pm_chk pt_cl pt_me 604) = true := by decide +kernel
set_option maxRecDepth 100000 in
theorem pt_ok520_0 : pt_q520_0.all (pm_chk pt_cl pt_me 520) = true := by decide +kernel
set_option maxRecDepth 100000 in
theorem pt_ok521_0 : pt_q521_0.all (pm_chk pt_cl pt_me 521) = true := by decide +kernel
set_option maxRecDepth 100000 in
theorem pt_ok524_0 : pt_q524_0.all (pm_chk pt_cl pt_me 524) = true := by decide +kernel
set_option maxRecDepth 100000 in
theorem pt_ok1510_0 : pt_q1510_0.all (pm_chk pt_cl pt_me 1510) = true := by decide +kernel
set_option maxRecDepth 100000 in
theorem pt_ok525_0 : pt_q525_0.all (pm_chk pt_cl pt_me 525) = true := by decide +kernel
set_option maxRecDepth 100000 in
theorem pt_ok513_0 : pt_q513_0.all (pm_chk pt_cl pt_me 513) = true := by decide +kernel
set_option maxRecDepth 100000 in
theorem pt_ok603_0 : pt_q603_0.all (pm_chk pt_cl pt_me 603) = true := by decide +kernel
set_option maxRecDepth 100000 in
theorem pt_ok519_0 : pt_q519_0.all (pm_chk pt_cl pt_me 519) = true := by decide +kernel
set_option maxRecDepth 100000 in
theorem pt_ok611_0 : pt_q611_0.all (pm_chk pt_cl pt_me 611) = true := by decide +kernel
set_option maxRecDepth 100000 in
theorem pt_ok614_0 : pt_q614_0.all (pm_chk pt_cl pt_me 614) = true := by decide +kernel
set_option maxRecDepth 100000 in
theorem pt_ok615_0 : pt_q615_0.all (pm_chk pt_cl pt_me 615) = true := by decide +kernel
end
section
/-! ===== the tables say what the bytes and the words say ===== -/
set_option maxRecDepth 100000 in
theorem pt_ok904_0 : pt_q904_0.all (pm_chk pt_cl pt_me 904) = true := by decide +kernel
set_option maxRecDepth 100000 in
theorem pt_ok112_0 : pt_q112_0.all (pm_chk pt_cl pt_me 112) = true := by decide +kernel
set_option maxRecDepth 100000 in
theorem pt_ok113_0 : pt_q113_0.all (pm_chk pt_cl pt_me 113) = true := by decide +kernel
set_option maxRecDepth 100000 in
theorem pt_ok612_0 : pt_q612_0.all (pm_chk pt_cl pt_me 612) = true := by decide +kernel
set_option maxRecDepth 100000 in
theorem pt_ok114_0 : pt_q114_0.all (pm_chk pt_cl pt_me 114) = true := by decide +kernel
set_option maxRecDepth 100000 in
theorem pt_ok605_0 : pt_q605_0.all (pm_chk pt_cl pt_me 605) = true := by decide +kernel
set_option maxRecDepth 100000 in
theorem pt_ok605_1 : pt_q605_1.all (pm_chk pt_cl pt_me 605) = true := by decide +kernel
set_option maxRecDepth 100000 in
theorem pt_ok115_0 : pt_q115_0.all (pm_chk pt_cl pt_me 115) = true := by decide +kernel
set_option maxRecDepth 100000 in
theorem pt_ok116_0 : pt_q116_0.all (pm_chk pt_cl pt_me 116) = true := by decide +kernel
set_option maxRecDepth 100000 in
theorem pt_ok308_0 : pt_q308_0.all (pm_chk pt_cl pt_me 308) = true := by decide +kernel
set_option maxRecDepth 100000 in
theorem pt_ok117_0 : pt_q117_0.all (pm_chk pt_cl pt_me 117) = true := by decide +kernel
set_option maxRecDepth 100000 in
theorem pt_ok118_0 : pt_q118_0.all (pm_chk pt_cl pt_me 118) = true := by decide +kernel
set_option maxRecDepth 100000 in
theorem pt_ok119_0 : pt_q119_0.all (pm_chk pt_cl pt_me 119) = true := by decide +kernel
set_option maxRecDepth 100000 in
theorem pt_ok526_0 : pt_q526_0.all (pm_chk pt_cl pt_me 526) = true := by decide +kernel
set_option maxRecDepth 100000 in
theorem pt_ok120_0 : pt_q120_0.all (pm_chk pt_cl pt_me 120) = true := by decide +kernel
set_option maxRecDepth 100000 in
theorem pt_ok908_0 : pt_q908_0.all (pm_chk pt_cl pt_me 908) = true := by decide +kernel
set_option maxRecDepth 100000 in
theorem pt_ok802_0 : pt_q802_0.all (pm_chk pt_cl pt_me 802) = true := by decide +kernel
set_option maxRecDepth 100000 in
theorem pt_ok802_1 : pt_q802_1.all (pm_chk pt_cl pt_me 802) = true := by decide +kernel
set_option maxRecDepth 100000 in
theorem pt_ok803_0 : pt_q803_0.all (pm_chk pt_cl pt_me 803) = true := by decide +kernel
set_option maxRecDepth 100000 in
theorem pt_ok804_0 : pt_q804_0.all (pm_chk pt_cl pt_me 804) = true := by decide +kernel
set_option maxRecDepth 100000 in
theorem pt_ok1511_0 : pt_q1511_0.all (pm_chk pt_cl pt_me 1511) = true := by decide +kernel
set_option maxRecDepth 100000 in
theorem pt_ok1512_0 : pt_q1512_0.all (pm_chk pt_cl pt_me 1512) = true := by decide +kernel
set_option maxRecDepth 100000 in
theorem pt_ok121_0 : pt_q121_0.all (pm_chk pt_cl pt_me 121) = true := by decide +kernel
set_option maxRecDepth 100000 in
theorem pt_ok304_0 : pt_q304_0.all (pm_chk pt_cl pt_me 304) = true := by decide +kernel
set_option maxRecDepth 100000 in
theorem pt_ok310_0 : pt_q310_0.all (pm_chk pt_cl pt_me 310) = true := by decide +kernel
set_option maxRecDepth 100000 in
theorem pt_ok309_0 : pt_q309_0.all (pm_chk pt_cl pt_me 309) = true := by decide +kernel
set_option maxRecDepth 100000 in
theorem pt_ok313_0 : pt_q313_0.all (pm_chk pt_cl pt_me 313) = true := by decide +kernel
set_option maxRecDepth 100000 in
theorem pt_ok312_0 : pt_q312_0.all (pm_chk pt_cl pt_me 312) = true := by decide +kernel
set_option maxRecDepth 100000 in
theorem pt_ok311_0 : pt_q311_0.all (pm_chk pt_cl pt_me 311) = true := by decide +kernel
set_option maxRecDepth 100000 in
theorem pt_ok529_0 : pt_q529_0.all (pm_chk pt_cl pt_me 529) = true := by decide +kernel
set_option maxRecDepth 100000 in
theorem pt_ok527_0 : pt_q527_0.all (pm_chk pt_cl pt_me 527) = true := by decide +kernel
set_option maxRecDepth 100000 in
theorem pt_ok528_0 : pt_q528_0.all (pm_chk pt_cl pt_me 528) = true := by decide +kernel
set_option maxRecDepth 100000 in
theorem pt_ok316_0 : pt_q316_0.all (pm_chk pt_cl pt_me 316) = true := by decide +kernel
set_option maxRecDepth 100000 in
theorem pt_ok317_0 : pt_q317_0.all (pm_chk pt_cl pt_me 317) = true := by decide +kernel
set_option maxRecDepth 100000 in
theorem pt_ok318_0 : pt_q318_0.all (pm_chk pt_cl pt_me 318) = true := by decide +kernel
set_option maxRecDepth 100000 in
theorem pt_ok122_0 : pt_q122_0.all (pm_chk pt_cl pt_me 122) = true := by decide +kernel
set_option maxRecDepth 100000 in
theorem pt_ok314_0 : pt_q314_0.all (pm_chk pt_cl pt_me 314) = true := by decide +kernel
set_option maxRecDepth 100000 in
theorem pt_ok123_0 : pt_q123_0.all (pm_chk pt_cl pt_me 123) = true := by decide +kernel
set_option maxRecDepth 100000 in
theorem pt_ok315_0 : pt_q315_0.all (pm_chk pt_cl pt_me 315) = true := by decide +kernel
set_option maxRecDepth 100000 in
theorem pt_ok124_0 : pt_q124_0.all (pm_chk pt_cl pt_me 124) = true := by decide +kernel
set_option maxRecDepth 100000 in
theorem pt_ok125_0 : pt_q125_0.all (pm_chk pt_cl pt_me 125) = true := by decide +kernel
set_option maxRecDepth 100000 in
theorem pt_ok321_0 : pt_q321_0.all (pm_chk pt_cl pt_me 321) = true := by decide +kernel
set_option maxRecDepth 100000 in
theorem pt_ok126_0 : pt_q126_0.all (pm_chk pt_cl pt_me 126) = true := by decide +kernel
set_option maxRecDepth 100000 in
theorem pt_ok324_0 : pt_q324_0.all (pm_chk pt_cl pt_me 324) = true := by decide +kernel
set_option maxRecDepth 100000 in
theorem pt_ok322_0 : pt_q322_0.all (pm_chk pt_cl pt_me 322) = true := by decide +kernel
set_option maxRecDepth 100000 in
theorem pt_ok323_0 : pt_q323_0.all (pm_chk pt_cl pt_me 323) = true := by decide +kernel
set_option maxRecDepth 100000 in
theorem pt_ok325_0 : pt_q325_0.all (pm_chk pt_cl pt_me 325) = true := by decide +kernel
set_option maxRecDepth 100000 in
theorem pt_ok127_0 : pt_q127_0.all (pm_chk pt_cl pt_me 127) = true := by decide +kernel
set_option maxRecDepth 100000 in
theorem pt_ok530_0 : pt_q530_0.all (pm_chk pt_cl pt_me 530) = true := by decide +kernel
set_option maxRecDepth 100000 in
theorem pt_ok128_0 : pt_q128_0.all (pm_chk pt_cl pt_me 128) = true := by decide +kernel
set_option maxRecDepth 100000 in
theorem pt_ok129_0 : pt_q129_0.all (pm_chk pt_cl pt_me 129) = true := by decide +kernel
set_option maxRecDepth 100000 in
theorem pt_ok531_0 : pt_q531_0.all (pm_chk pt_cl pt_me 531) = true := by decide +kernel
set_option maxRecDepth 100000 in
theorem pt_ok532_0 : pt_q532_0.all (pm_chk pt_cl pt_me 532) = true := by decide +kernel
set_option maxRecDepth 100000 in
theorem pt_ok130_0 : pt_q130_0.all (pm_chk pt_cl pt_me 130) = true := by decide +kernel
set_option maxRecDepth 100000 in
theorem pt_ok326_0 : pt_q326_0.all (pm_chk pt_cl pt_me 326) = true := by decide +kernel
set_option maxRecDepth 100000 in
theorem pt_ok131_0 : pt_q131_0.all (pm_chk pt_cl pt_me 131) = true := by decide +kernel
set_option maxRecDepth 100000 in
theorem pt_ok327_0 : pt_q327_0.all (pm_chk pt_cl pt_me 327) = true := by decide +kernel
set_option maxRecDepth 100000 in
theorem pt_ok132_0 : pt_q132_0.all (pm_chk pt_cl pt_me 132) = true := by decide +kernel
set_option maxRecDepth 100000 in
theorem pt_ok328_0 : pt_q328_0.all (pm_chk pt_cl pt_me 328) = true := by decide +kernel
set_option maxRecDepth 100000 in
theorem pt_ok133_0 : pt_q133_0.all (pm_chk pt_cl pt_me 133) = true := by decide +kernel
set_option maxRecDepth 100000 in
theorem pt_ok320_0 : pt_q320_0.all (pm_chk pt_cl pt_me 320) = true := by decide +kernel
set_option maxRecDepth 100000 in
theorem pt_ok134_0 : pt_q134_0.all (pm_chk pt_cl pt_me 134) = true := by decide +kernel
set_option maxRecDepth 100000 in
theorem pt_ok319_0 : pt_q319_0.all (pm_chk pt_cl pt_me 319) = true := by decide +kernel
set_option maxRecDepth 100000 in
theorem pt_ok319_1 : pt_q319_1.all (pm_chk pt_cl pt_me 319) = true := by decide +kernel
set_option maxRecDepth 100000 in
theorem pt_ok135_0 : pt_q135_0.all (pm_chk pt_cl pt_me 135) = true := by decide +kernel
set_option maxRecDepth 100000 in
theorem pt_ok402_0 : pt_q402_0.all (pm_chk pt_cl pt_me 402) = true := by decide +kernel
set_option maxRecDepth 100000 in
theorem pt_ok403_0 : pt_q403_0.all (pm_chk pt_cl pt_me 403) = true := by decide +kernel
set_option maxRecDepth 100000 in
theorem pt_ok404_0 : pt_q404_0.all (pm_chk pt_cl pt_me 404) = true := by decide +kernel
set_option maxRecDepth 100000 in
theorem pt_ok405_0 : pt_q405_0.all (pm_chk pt_cl pt_me 405) = true := by decide +kernel
set_option maxRecDepth 100000 in
theorem pt_ok406_0 : pt_q406_0.all (pm_chk pt_cl pt_me 406) = true := by decide +kernel
set_option maxRecDepth 100000 in
theorem pt_ok407_0 : pt_q407_0.all (pm_chk pt_cl pt_me 407) = true := by decide +kernel
set_option maxRecDepth 100000 in
theorem pt_ok408_0 : pt_q408_0.all (pm_chk pt_cl pt_me 408) = true := by decide +kernel
set_option maxRecDepth 100000 in
theorem pt_ok409_0 : pt_q409_0.all (pm_chk pt_cl pt_me 409) = true := by decide +kernel
set_option maxRecDepth 100000 in
theorem pt_ok411_0 : pt_q411_0.all (pm_chk pt_cl pt_me 411) = true := by decide +kernel
set_option maxRecDepth 100000 in
theorem pt_ok410_0 : pt_q410_0.all (pm_chk pt_cl pt_me 410) = true := by decide +kernel
set_option maxRecDepth 100000 in
theorem pt_ok136_0 : pt_q136_0.all (pm_chk pt_cl pt_me 136) = true := by decide +kernel
set_option maxRecDepth 100000 in
theorem pt_ok412_0 : pt_q412_0.all (pm_chk pt_cl pt_me 412) = true := by decide +kernel
set_option maxRecDepth 100000 in
theorem pt_ok413_0 : pt_q413_0.all (pm_chk pt_cl pt_me 413) = true := by decide +kernel
set_option maxRecDepth 100000 in
theorem pt_ok137_0 : pt_q137_0.all (pm_chk pt_cl pt_me 137) = true := by decide +kernel
set_option maxRecDepth 100000 in
theorem pt_ok208_0 : pt_q208_0.all (pm_chk pt_cl pt_me 208) = true := by decide +kernel
set_option maxRecDepth 100000 in
theorem pt_ok214_0 : pt_q214_0.all (pm_chk pt_cl pt_me 214) = true := by decide +kernel
set_option maxRecDepth 100000 in
theorem pt_ok215_0 : pt_q215_0.all (pm_chk pt_cl pt_me 215) = true := by decide +kernel
set_option maxRecDepth 100000 in
theorem pt_ok138_0 : pt_q138_0.all (pm_chk pt_cl pt_me 138) = true := by decide +kernel
set_option maxRecDepth 100000 in
theorem pt_ok204_0 : pt_q204_0.all (pm_chk pt_cl pt_me 204) = true := by decide +kernel
set_option maxRecDepth 100000 in
theorem pt_ok139_0 : pt_q139_0.all (pm_chk pt_cl pt_me 139) = true := by decide +kernel
set_option maxRecDepth 100000 in
theorem pt_ok203_0 : pt_q203_0.all (pm_chk pt_cl pt_me 203) = true := by decide +kernel
set_option maxRecDepth 100000 in
theorem pt_ok212_0 : pt_q212_0.all (pm_chk pt_cl pt_me 212) = true := by decide +kernel
set_option maxRecDepth 100000 in
theorem pt_ok212_1 : pt_q212_1.all (pm_chk pt_cl pt_me 212) = true := by decide +kernel
set_option maxRecDepth 100000 in
theorem pt_ok213_0 : pt_q213_0.all (pm_chk pt_cl pt_me 213) = true := by decide +kernel
set_option maxRecDepth 100000 in
theorem pt_ok140_0 : pt_q140_0.all (pm_chk pt_cl pt_me 140) = true := by decide +kernel
set_option maxRecDepth 100000 in
theorem pt_ok207_0 : pt_q207_0.all (pm_chk pt_cl pt_me 207) = true := by decide +kernel
set_option maxRecDepth 100000 in
theorem pt_ok141_0 : pt_q141_0.all (pm_chk pt_cl pt_me 141) = true := by decide +kernel
set_option maxRecDepth 100000 in
theorem pt_ok210_0 : pt_q210_0.all (pm_chk pt_cl pt_me 210) = true := by decide +kernel
set_option maxRecDepth 100000 in
theorem pt_ok211_0 : pt_q211_0.all (pm_chk pt_cl pt_me 211) = true := by decide +kernel
set_option maxRecDepth 100000 in
theorem pt_ok142_0 : pt_q142_0.all (pm_chk pt_cl pt_me 142) = true := by decide +kernel
set_option maxRecDepth 100000 in
theorem pt_ok209_0 : pt_q209_0.all (pm_chk pt_cl pt_me 209) = true := by decide +kernel
set_option maxRecDepth 100000 in
theorem pt_ok522_0 : pt_q522_0.all (pm_chk pt_cl pt_me 522) = true := by decide +kernel
set_option maxRecDepth 100000 in
theorem pt_ok143_0 : pt_q143_0.all (pm_chk pt_cl pt_me 143) = true := by decide +kernel
set_option maxRecDepth 100000 in
theorem pt_ok514_0 : pt_q514_0.all (pm_chk pt_cl pt_me 514) = true := by decide +kernel
set_option maxRecDepth 100000 in
theorem pt_ok144_0 : pt_q144_0.all (pm_chk pt_cl pt_me 144) = true := by decide +kernel
set_option maxRecDepth 100000 in
theorem pt_ok145_0 : pt_q145_0.all (pm_chk pt_cl pt_me 145) = true := by decide +kernel
set_option maxRecDepth 100000 in
theorem pt_ok216_0 : pt_q216_0.all (pm_chk pt_cl pt_me 216) = true := by decide +kernel
set_option maxRecDepth 100000 in
theorem pt_ok146_0 : pt_q146_0.all (pm_chk pt_cl pt_me 146) = true := by decide +kernel
set_option maxRecDepth 100000 in
theorem pt_ok147_0 : pt_q147_0.all (pm_chk pt_cl pt_me 147) = true := by decide +kernel
set_option maxRecDepth 100000 in
theorem pt_ok613_0 : pt_q613_0.all (pm_chk pt_cl pt_me 613) = true := by decide +kernel
set_option maxRecDepth 100000 in
theorem pt_ok523_0 : pt_q523_0.all (pm_chk pt_cl pt_me 523) = true := by decide +kernel
set_option maxRecDepth 100000 in
theorem pt_ok148_0 : pt_q148_0.all (pm_chk pt_cl pt_me 148) = true := by decide +kernel
set_option maxRecDepth 100000 in
theorem pt_ok1201_0 : pt_q1201_0.all (pm_chk pt_cl pt_me 1201) = true := by decide +kernel
set_option maxRecDepth 100000 in
theorem pt_ok1201_1 : pt_q1201_1.all (pm_chk pt_cl pt_me 1201) = true := by decide +kernel
set_option maxRecDepth 100000 in
theorem pt_ok1201_2 : pt_q1201_2.all (pm_chk pt_cl pt_me 1201) = true := by decide +kernel
end
section
/-! ===== the tables say what the bytes and the words say ===== -/
set_option maxRecDepth 100000 in
theorem pt_ok1222_0 : pt_q1222_0.all (pm_chk pt_cl pt_me 1222) = true := by decide +kernel
set_option maxRecDepth 100000 in
theorem pt_ok1222_1 : pt_q1222_1.all (pm_chk pt_cl pt_me 1222) = true := by decide +kernel
set_option maxRecDepth 100000 in
theorem pt_ok1238_0 : pt_q1238_0.all (pm_chk pt_cl pt_me 1238) = true := by decide +kernel
set_option maxRecDepth 100000 in
theorem pt_ok1238_1 : pt_q1238_1.all (pm_chk pt_cl pt_me 1238) = true := by decide +kernel
set_option maxRecDepth 100000 in
theorem pt_ok1238_2 : pt_q1238_2.all (pm_chk pt_cl pt_me 1238) = true := by decide +kernel
set_option maxRecDepth 100000 in
theorem pt_ok1204_0 : pt_q1204_0.all (pm_chk pt_cl pt_me 1204) = true := by decide +kernel
set_option maxRecDepth 100000 in
theorem pt_ok1207_0 : pt_q1207_0.all (pm_chk pt_cl pt_me 1207) = true := by decide +kernel
set_option maxRecDepth 100000 in
theorem pt_ok1208_0 : pt_q1208_0.all (pm_chk pt_cl pt_me 1208) = true := by decide +kernel
set_option maxRecDepth 100000 in
theorem pt_ok1209_0 : pt_q1209_0.all (pm_chk pt_cl pt_me 1209) = true := by decide +kernel
set_option maxRecDepth 100000 in
theorem pt_ok1202_0 : pt_q1202_0.all (pm_chk pt_cl pt_me 1202) = true := by decide +kernel
set_option maxRecDepth 100000 in
theorem pt_ok1237_0 : pt_q1237_0.all (pm_chk pt_cl pt_me 1237) = true := by decide +kernel
set_option maxRecDepth 100000 in
theorem pt_ok1213_0 : pt_q1213_0.all (pm_chk pt_cl pt_me 1213) = true := by decide +kernel
set_option maxRecDepth 100000 in
theorem pt_ok1213_1 : pt_q1213_1.all (pm_chk pt_cl pt_me 1213) = true := by decide +kernel
set_option maxRecDepth 100000 in
theorem pt_ok1213_2 : pt_q1213_2.all (pm_chk pt_cl pt_me 1213) = true := by decide +kernel
set_option maxRecDepth 100000 in
theorem pt_ok1210_0 : pt_q1210_0.all (pm_chk pt_cl pt_me 1210) = true := by decide +kernel
set_option maxRecDepth 100000 in
theorem pt_ok1211_0 : pt_q1211_0.all (pm_chk pt_cl pt_me 1211) = true := by decide +kernel
set_option maxRecDepth 100000 in
theorem pt_ok1212_0 : pt_q1212_0.all (pm_chk pt_cl pt_me 1212) = true := by decide +kernel
set_option maxRecDepth 100000 in
theorem pt_ok1215_0 : pt_q1215_0.all (pm_chk pt_cl pt_me 1215) = true := by decide +kernel
set_option maxRecDepth 100000 in
theorem pt_ok1236_0 : pt_q1236_0.all (pm_chk pt_cl pt_me 1236) = true := by decide +kernel
set_option maxRecDepth 100000 in
theorem pt_ok1236_1 : pt_q1236_1.all (pm_chk pt_cl pt_me 1236) = true := by decide +kernel
set_option maxRecDepth 100000 in
theorem pt_ok1216_0 : pt_q1216_0.all (pm_chk pt_cl pt_me 1216) = true := by decide +kernel
set_option maxRecDepth 100000 in
theorem pt_ok1231_0 : pt_q1231_0.all (pm_chk pt_cl pt_me 1231) = true := by decide +kernel
set_option maxRecDepth 100000 in
theorem pt_ok1226_0 : pt_q1226_0.all (pm_chk pt_cl pt_me 1226) = true := by decide +kernel
set_option maxRecDepth 100000 in
theorem pt_ok1205_0 : pt_q1205_0.all (pm_chk pt_cl pt_me 1205) = true := by decide +kernel
set_option maxRecDepth 100000 in
theorem pt_ok1214_0 : pt_q1214_0.all (pm_chk pt_cl pt_me 1214) = true := by decide +kernel
set_option maxRecDepth 100000 in
theorem pt_ok1221_0 : pt_q1221_0.all (pm_chk pt_cl pt_me 1221) = true := by decide +kernel
set_option maxRecDepth 100000 in
theorem pt_ok1232_0 : pt_q1232_0.all (pm_chk pt_cl pt_me 1232) = true := by decide +kernel
set_option maxRecDepth 100000 in
theorem pt_ok1233_0 : pt_q1233_0.all (pm_chk pt_cl pt_me 1233) = true := by decide +kernel
set_option maxRecDepth 100000 in
theorem pt_ok1234_0 : pt_q1234_0.all (pm_chk pt_cl pt_me 1234) = true := by decide +kernel
set_option maxRecDepth 100000 in
theorem pt_ok1235_0 : pt_q1235_0.all (pm_chk pt_cl pt_me 1235) = true := by decide +kernel
set_option maxRecDepth 100000 in
theorem pt_ok1227_0 : pt_q1227_0.all (pm_chk pt_cl pt_me 1227) = true := by decide +kernel
set_option maxRecDepth 100000 in
theorem pt_ok1224_0 : pt_q1224_0.all (pm_chk pt_cl pt_me 1224) = true := by decide +kernel
set_option maxRecDepth 100000 in
theorem pt_ok1220_0 : pt_q1220_0.all (pm_chk pt_cl pt_me 1220) = true := by decide +kernel
set_option maxRecDepth 100000 in
theorem pt_ok1217_0 : pt_q1217_0.all (pm_chk pt_cl pt_me 1217) = true := by decide +kernel
set_option maxRecDepth 100000 in
theorem pt_ok1217_1 : pt_q1217_1.all (pm_chk pt_cl pt_me 1217) = true := by decide +kernel
set_option maxRecDepth 100000 in
theorem pt_ok1223_0 : pt_q1223_0.all (pm_chk pt_cl pt_me 1223) = true := by decide +kernel
set_option maxRecDepth 100000 in
theorem pt_ok1228_0 : pt_q1228_0.all (pm_chk pt_cl pt_me 1228) = true := by decide +kernel
set_option maxRecDepth 100000 in
theorem pt_ok1228_1 : pt_q1228_1.all (pm_chk pt_cl pt_me 1228) = true := by decide +kernel
set_option maxRecDepth 100000 in
theorem pt_ok1219_0 : pt_q1219_0.all (pm_chk pt_cl pt_me 1219) = true := by decide +kernel
set_option maxRecDepth 100000 in
theorem pt_ok1229_0 : pt_q1229_0.all (pm_chk pt_cl pt_me 1229) = true := by decide +kernel
set_option maxRecDepth 100000 in
theorem pt_ok1225_0 : pt_q1225_0.all (pm_chk pt_cl pt_me 1225) = true := by decide +kernel
set_option maxRecDepth 100000 in
theorem pt_ok1230_0 : pt_q1230_0.all (pm_chk pt_cl pt_me 1230) = true := by decide +kernel
set_option maxRecDepth 100000 in
theorem pt_ok1218_0 : pt_q1218_0.all (pm_chk pt_cl pt_me 1218) = true := by decide +kernel
set_option maxRecDepth 100000 in
theorem pt_ok1239_0 : pt_q1239_0.all (pm_chk pt_cl pt_me 1239) = true := by decide +kernel
set_option maxRecDepth 100000 in
theorem pt_ok1241_0 : pt_q1241_0.all (pm_chk pt_cl pt_me 1241) = true := by decide +kernel
set_option maxRecDepth 100000 in
theorem pt_ok1251_0 : pt_q1251_0.all (pm_chk pt_cl pt_me 1251) = true := by decide +kernel
set_option maxRecDepth 100000 in
theorem pt_ok1246_0 : pt_q1246_0.all (pm_chk pt_cl pt_me 1246) = true := by decide +kernel
set_option maxRecDepth 100000 in
theorem pt_ok1242_0 : pt_q1242_0.all (pm_chk pt_cl pt_me 1242) = true := by decide +kernel
set_option maxRecDepth 100000 in
theorem pt_ok1250_0 : pt_q1250_0.all (pm_chk pt_cl pt_me 1250) = true := by decide +kernel
set_option maxRecDepth 100000 in
theorem pt_ok1203_0 : pt_q1203_0.all (pm_chk pt_cl pt_me 1203) = true := by decide +kernel
set_option maxRecDepth 100000 in
theorem pt_ok1252_0 : pt_q1252_0.all (pm_chk pt_cl pt_me 1252) = true := by decide +kernel
set_option maxRecDepth 100000 in
theorem pt_ok1247_0 : pt_q1247_0.all (pm_chk pt_cl pt_me 1247) = true := by decide +kernel
set_option maxRecDepth 100000 in
theorem pt_ok1249_0 : pt_q1249_0.all (pm_chk pt_cl pt_me 1249) = true := by decide +kernel
set_option maxRecDepth 100000 in
theorem pt_ok1253_0 : pt_q1253_0.all (pm_chk pt_cl pt_me 1253) = true := by decide +kernel
set_option maxRecDepth 100000 in
theorem pt_ok1245_0 : pt_q1245_0.all (pm_chk pt_cl pt_me 1245) = true := by decide +kernel
set_option maxRecDepth 100000 in
theorem pt_ok1244_0 : pt_q1244_0.all (pm_chk pt_cl pt_me 1244) = true := by decide +kernel
set_option maxRecDepth 100000 in
theorem pt_ok1243_0 : pt_q1243_0.all (pm_chk pt_cl pt_me 1243) = true := by decide +kernel
set_option maxRecDepth 100000 in
theorem pt_ok1257_0 : pt_q1257_0.all (pm_chk pt_cl pt_me 1257) = true := by decide +kernel
set_option maxRecDepth 100000 in
theorem pt_ok1248_0 : pt_q1248_0.all (pm_chk pt_cl pt_me 1248) = true := by decide +kernel
set_option maxRecDepth 100000 in
theorem pt_ok1256_0 : pt_q1256_0.all (pm_chk pt_cl pt_me 1256) = true := by decide +kernel
set_option maxRecDepth 100000 in
theorem pt_ok1255_0 : pt_q1255_0.all (pm_chk pt_cl pt_me 1255) = true := by decide +kernel
set_option maxRecDepth 100000 in
theorem pt_ok1254_0 : pt_q1254_0.all (pm_chk pt_cl pt_me 1254) = true := by decide +kernel
set_option maxRecDepth 100000 in
theorem pt_ok1258_0 : pt_q1258_0.all (pm_chk pt_cl pt_me 1258) = true := by decide +kernel
set_option maxRecDepth 100000 in
theorem pt_ok1268_0 : pt_q1268_0.all (pm_chk pt_cl pt_me 1268) = true := by decide +kernel
set_option maxRecDepth 100000 in
theorem pt_ok1266_0 : pt_q1266_0.all (pm_chk pt_cl pt_me 1266) = true := by decide +kernel
set_option maxRecDepth 100000 in
theorem pt_ok1266_1 : pt_q1266_1.all (pm_chk pt_cl pt_me 1266) = true := by decide +kernel
set_option maxRecDepth 100000 in
theorem pt_ok1260_0 : pt_q1260_0.all (pm_chk pt_cl pt_me 1260) = true := by decide +kernel
set_option maxRecDepth 100000 in
theorem pt_ok1260_1 : pt_q1260_1.all (pm_chk pt_cl pt_me 1260) = true := by decide +kernel
set_option maxRecDepth 100000 in
theorem pt_ok1259_0 : pt_q1259_0.all (pm_chk pt_cl pt_me 1259) = true := by decide +kernel
set_option maxRecDepth 100000 in
theorem pt_ok1206_0 : pt_q1206_0.all (pm_chk pt_cl pt_me 1206) = true := by decide +kernel
set_option maxRecDepth 100000 in
theorem pt_ok1261_0 : pt_q1261_0.all (pm_chk pt_cl pt_me 1261) = true := by decide +kernel
set_option maxRecDepth 100000 in
theorem pt_ok1262_0 : pt_q1262_0.all (pm_chk pt_cl pt_me 1262) = true := by decide +kernel
set_option maxRecDepth 100000 in
theorem pt_ok1265_0 : pt_q1265_0.all (pm_chk pt_cl pt_me 1265) = true := by decide +kernel
set_option maxRecDepth 100000 in
theorem pt_ok1263_0 : pt_q1263_0.all (pm_chk pt_cl pt_me 1263) = true := by decide +kernel
set_option maxRecDepth 100000 in
theorem pt_ok1264_0 : pt_q1264_0.all (pm_chk pt_cl pt_me 1264) = true := by decide +kernel
set_option maxRecDepth 100000 in
theorem pt_ok1269_0 : pt_q1269_0.all (pm_chk pt_cl pt_me 1269) = true := by decide +kernel
set_option maxRecDepth 100000 in
theorem pt_ok1267_0 : pt_q1267_0.all (pm_chk pt_cl pt_me 1267) = true := by decide +kernel
set_option maxRecDepth 100000 in
theorem pt_ok1270_0 : pt_q1270_0.all (pm_chk pt_cl pt_me 1270) = true := by decide +kernel
set_option maxRecDepth 100000 in
theorem pt_ok1272_0 : pt_q1272_0.all (pm_chk pt_cl pt_me 1272) = true := by decide +kernel
set_option maxRecDepth 100000 in
theorem pt_ok1271_0 : pt_q1271_0.all (pm_chk pt_cl pt_me 1271) = true := by decide +kernel
set_option maxRecDepth 100000 in
theorem pt_ok1274_0 : pt_q1274_0.all (pm_chk pt_cl pt_me 1274) = true := by decide +kernel
set_option maxRecDepth 100000 in
theorem pt_ok1274_1 : pt_q1274_1.all (pm_chk pt_cl pt_me 1274) = true := by decide +kernel
set_option maxRecDepth 100000 in
theorem pt_ok1273_0 : pt_q1273_0.all (pm_chk pt_cl pt_me 1273) = true := by decide +kernel
set_option maxRecDepth 100000 in
theorem pt_ok1277_0 : pt_q1277_0.all (pm_chk pt_cl pt_me 1277) = true := by decide +kernel
set_option maxRecDepth 100000 in
theorem pt_ok1277_1 : pt_q1277_1.all (pm_chk pt_cl pt_me 1277) = true := by decide +kernel
set_option maxRecDepth 100000 in
theorem pt_ok1276_0 : pt_q1276_0.all (pm_chk pt_cl pt_me 1276) = true := by decide +kernel
set_option maxRecDepth 100000 in
theorem pt_ok1276_1 : pt_q1276_1.all (pm_chk pt_cl pt_me 1276) = true := by decide +kernel
set_option maxRecDepth 100000 in
theorem pt_ok1275_0 : pt_q1275_0.all (pm_chk pt_cl pt_me 1275) = true := by decide +kernel
set_option maxRecDepth 100000 in
theorem pt_ok1278_0 : pt_q1278_0.all (pm_chk pt_cl pt_me 1278) = true := by decide +kernel
set_option maxRecDepth 100000 in
theorem pt_ok1279_0 : pt_q1279_0.all (pm_chk pt_cl pt_me 1279) = true := by decide +kernel
set_option maxRecDepth 100000 in
theorem pt_ok1279_1 : pt_q1279_1.all (pm_chk pt_cl pt_me 1279) = true := by decide +kernel
set_option maxRecDepth 100000 in
theorem pt_ok1281_0 : pt_q1281_0.all (pm_chk pt_cl pt_me 1281) = true := by decide +kernel
set_option maxRecDepth 100000 in
theorem pt_ok1280_0 : pt_q1280_0.all (pm_chk pt_cl pt_me 1280) = true := by decide +kernel
set_option maxRecDepth 100000 in
theorem pt_ok1292_0 : pt_q1292_0.all (pm_chk pt_cl pt_me 1292) = true := by decide +kernel
set_option maxRecDepth 100000 in
theorem pt_ok1283_0 : pt_q1283_0.all (pm_chk pt_cl pt_me 1283) = true := by decide +kernel
set_option maxRecDepth 100000 in
theorem pt_ok1283_1 : pt_q1283_1.all (pm_chk pt_cl pt_me 1283) = true := by decide +kernel
set_option maxRecDepth 100000 in
theorem pt_ok1282_0 : pt_q1282_0.all (pm_chk pt_cl pt_me 1282) = true := by decide +kernel
set_option maxRecDepth 100000 in
theorem pt_ok1288_0 : pt_q1288_0.all (pm_chk pt_cl pt_me 1288) = true := by decide +kernel
set_option maxRecDepth 100000 in
theorem pt_ok1287_0 : pt_q1287_0.all (pm_chk pt_cl pt_me 1287) = true := by decide +kernel
set_option maxRecDepth 100000 in
theorem pt_ok1286_0 : pt_q1286_0.all (pm_chk pt_cl pt_me 1286) = true := by decide +kernel
set_option maxRecDepth 100000 in
theorem pt_ok1284_0 : pt_q1284_0.all (pm_chk pt_cl pt_me 1284) = true := by decide +kernel
end
section
/-! ===== the tables say what the bytes and the words say ===== -/
set_option maxRecDepth 100000 in
theorem pt_ok1285_0 : pt_q1285_0.all (pm_chk pt_cl pt_me 1285) = true := by decide +kernel
set_option maxRecDepth 100000 in
theorem pt_ok1293_0 : pt_q1293_0.all (pm_chk pt_cl pt_me 1293) = true := by decide +kernel
set_option maxRecDepth 100000 in
theorem pt_ok1291_0 : pt_q1291_0.all (pm_chk pt_cl pt_me 1291) = true := by decide +kernel
set_option maxRecDepth 100000 in
theorem pt_ok1289_0 : pt_q1289_0.all (pm_chk pt_cl pt_me 1289) = true := by decide +kernel
set_option maxRecDepth 100000 in
theorem pt_ok1290_0 : pt_q1290_0.all (pm_chk pt_cl pt_me 1290) = true := by decide +kernel
set_option maxRecDepth 100000 in
theorem pt_ok1290_1 : pt_q1290_1.all (pm_chk pt_cl pt_me 1290) = true := by decide +kernel
set_option maxRecDepth 100000 in
theorem pt_ok1294_0 : pt_q1294_0.all (pm_chk pt_cl pt_me 1294) = true := by decide +kernel
set_option maxRecDepth 100000 in
theorem pt_ok1295_0 : pt_q1295_0.all (pm_chk pt_cl pt_me 1295) = true := by decide +kernel
set_option maxRecDepth 100000 in
theorem pt_ok1296_0 : pt_q1296_0.all (pm_chk pt_cl pt_me 1296) = true := by decide +kernel
set_option maxRecDepth 100000 in
theorem pt_ok1298_0 : pt_q1298_0.all (pm_chk pt_cl pt_me 1298) = true := by decide +kernel
set_option maxRecDepth 100000 in
theorem pt_ok1297_0 : pt_q1297_0.all (pm_chk pt_cl pt_me 1297) = true := by decide +kernel
set_option maxRecDepth 100000 in
theorem pt_ok1300_0 : pt_q1300_0.all (pm_chk pt_cl pt_me 1300) = true := by decide +kernel
set_option maxRecDepth 100000 in
theorem pt_ok1299_0 : pt_q1299_0.all (pm_chk pt_cl pt_me 1299) = true := by decide +kernel
set_option maxRecDepth 100000 in
theorem pt_ok1301_0 : pt_q1301_0.all (pm_chk pt_cl pt_me 1301) = true := by decide +kernel
set_option maxRecDepth 100000 in
theorem pt_ok1302_0 : pt_q1302_0.all (pm_chk pt_cl pt_me 1302) = true := by decide +kernel
set_option maxRecDepth 100000 in
theorem pt_ok1303_0 : pt_q1303_0.all (pm_chk pt_cl pt_me 1303) = true := by decide +kernel
set_option maxRecDepth 100000 in
theorem pt_ok1304_0 : pt_q1304_0.all (pm_chk pt_cl pt_me 1304) = true := by decide +kernel
set_option maxRecDepth 100000 in
theorem pt_ok1306_0 : pt_q1306_0.all (pm_chk pt_cl pt_me 1306) = true := by decide +kernel
set_option maxRecDepth 100000 in
theorem pt_ok1305_0 : pt_q1305_0.all (pm_chk pt_cl pt_me 1305) = true := by decide +kernel
set_option maxRecDepth 100000 in
theorem pt_ok1307_0 : pt_q1307_0.all (pm_chk pt_cl pt_me 1307) = true := by decide +kernel
set_option maxRecDepth 100000 in
theorem pt_ok1308_0 : pt_q1308_0.all (pm_chk pt_cl pt_me 1308) = true := by decide +kernel
set_option maxRecDepth 100000 in
theorem pt_ok1309_0 : pt_q1309_0.all (pm_chk pt_cl pt_me 1309) = true := by decide +kernel
set_option maxRecDepth 100000 in
theorem pt_ok1309_1 : pt_q1309_1.all (pm_chk pt_cl pt_me 1309) = true := by decide +kernel
set_option maxRecDepth 100000 in
theorem pt_ok1316_0 : pt_q1316_0.all (pm_chk pt_cl pt_me 1316) = true := by decide +kernel
set_option maxRecDepth 100000 in
theorem pt_ok1315_0 : pt_q1315_0.all (pm_chk pt_cl pt_me 1315) = true := by decide +kernel
set_option maxRecDepth 100000 in
theorem pt_ok1310_0 : pt_q1310_0.all (pm_chk pt_cl pt_me 1310) = true := by decide +kernel
set_option maxRecDepth 100000 in
theorem pt_ok1314_0 : pt_q1314_0.all (pm_chk pt_cl pt_me 1314) = true := by decide +kernel
set_option maxRecDepth 100000 in
theorem pt_ok1311_0 : pt_q1311_0.all (pm_chk pt_cl pt_me 1311) = true := by decide +kernel
set_option maxRecDepth 100000 in
theorem pt_ok1313_0 : pt_q1313_0.all (pm_chk pt_cl pt_me 1313) = true := by decide +kernel
set_option maxRecDepth 100000 in
theorem pt_ok1312_0 : pt_q1312_0.all (pm_chk pt_cl pt_me 1312) = true := by decide +kernel
set_option maxRecDepth 100000 in
theorem pt_ok1317_0 : pt_q1317_0.all (pm_chk pt_cl pt_me 1317) = true := by decide +kernel
set_option maxRecDepth 100000 in
theorem pt_ok1318_0 : pt_q1318_0.all (pm_chk pt_cl pt_me 1318) = true := by decide +kernel
set_option maxRecDepth 100000 in
theorem pt_ok1240_0 : pt_q1240_0.all (pm_chk pt_cl pt_me 1240) = true := by decide +kernel
set_option maxRecDepth 100000 in
theorem pt_ok1319_0 : pt_q1319_0.all (pm_chk pt_cl pt_me 1319) = true := by decide +kernel
set_option maxRecDepth 100000 in
theorem pt_ok1321_0 : pt_q1321_0.all (pm_chk pt_cl pt_me 1321) = true := by decide +kernel
set_option maxRecDepth 100000 in
theorem pt_ok1320_0 : pt_q1320_0.all (pm_chk pt_cl pt_me 1320) = true := by decide +kernel
set_option maxRecDepth 100000 in
theorem pt_ok1320_1 : pt_q1320_1.all (pm_chk pt_cl pt_me 1320) = true := by decide +kernel
set_option maxRecDepth 100000 in
theorem pt_ok1323_0 : pt_q1323_0.all (pm_chk pt_cl pt_me 1323) = true := by decide +kernel
set_option maxRecDepth 100000 in
theorem pt_ok1322_0 : pt_q1322_0.all (pm_chk pt_cl pt_me 1322) = true := by decide +kernel
set_option maxRecDepth 100000 in
theorem pt_ok1325_0 : pt_q1325_0.all (pm_chk pt_cl pt_me 1325) = true := by decide +kernel
set_option maxRecDepth 100000 in
theorem pt_ok1324_0 : pt_q1324_0.all (pm_chk pt_cl pt_me 1324) = true := by decide +kernel
set_option maxRecDepth 100000 in
theorem pt_ok1326_0 : pt_q1326_0.all (pm_chk pt_cl pt_me 1326) = true := by decide +kernel
set_option maxRecDepth 100000 in
theorem pt_ok1326_1 : pt_q1326_1.all (pm_chk pt_cl pt_me 1326) = true := by decide +kernel
set_option maxRecDepth 100000 in
theorem pt_ok1327_0 : pt_q1327_0.all (pm_chk pt_cl pt_me 1327) = true := by decide +kernel
set_option maxRecDepth 100000 in
theorem pt_ok1328_0 : pt_q1328_0.all (pm_chk pt_cl pt_me 1328) = true := by decide +kernel
set_option maxRecDepth 100000 in
theorem pt_ok1329_0 : pt_q1329_0.all (pm_chk pt_cl pt_me 1329) = true := by decide +kernel
set_option maxRecDepth 100000 in
theorem pt_ok1329_1 : pt_q1329_1.all (pm_chk pt_cl pt_me 1329) = true := by decide +kernel
set_option maxRecDepth 100000 in
theorem pt_ok1329_2 : pt_q1329_2.all (pm_chk pt_cl pt_me 1329) = true := by decide +kernel
set_option maxRecDepth 100000 in
theorem pt_ok1329_3 : pt_q1329_3.all (pm_chk pt_cl pt_me 1329) = true := by decide +kernel
set_option maxRecDepth 100000 in
theorem pt_ok1_0 : pt_q1_0.all (pm_chk pt_cl pt_me 1) = true := by decide +kernel
set_option maxRecDepth 100000 in
theorem pt_ok1_1 : pt_q1_1.all (pm_chk pt_cl pt_me 1) = true := by decide +kernel
set_option maxRecDepth 100000 in
theorem pt_ok1_2 : pt_q1_2.all (pm_chk pt_cl pt_me 1) = true := by decide +kernel
set_option maxRecDepth 100000 in
theorem pt_ok1_3 : pt_q1_3.all (pm_chk pt_cl pt_me 1) = true := by decide +kernel
set_option maxRecDepth 100000 in
theorem pt_ok1_4 : pt_q1_4.all (pm_chk pt_cl pt_me 1) = true := by decide +kernel
set_option maxRecDepth 100000 in
theorem pt_ok1_5 : pt_q1_5.all (pm_chk pt_cl pt_me 1) = true := by decide +kernel
set_option maxRecDepth 100000 in
theorem pt_ok1_6 : pt_q1_6.all (pm_chk pt_cl pt_me 1) = true := by decide +kernel
set_option maxRecDepth 100000 in
theorem pt_ok1_7 : pt_q1_7.all (pm_chk pt_cl pt_me 1) = true := by decide +kernel
set_option maxRecDepth 100000 in
theorem pt_ok1_8 : pt_q1_8.all (pm_chk pt_cl pt_me 1) = true := by decide +kernel
set_option maxRecDepth 100000 in
theorem pt_ok1_9 : pt_q1_9.all (pm_chk pt_cl pt_me 1) = true := by decide +kernel
set_option maxRecDepth 100000 in
theorem pt_ok1_10 : pt_q1_10.all (pm_chk pt_cl pt_me 1) = true := by decide +kernel
set_option maxRecDepth 100000 in
theorem pt_ok1_11 : pt_q1_11.all (pm_chk pt_cl pt_me 1) = true := by decide +kernel
set_option maxRecDepth 100000 in
theorem pt_ok1_12 : pt_q1_12.all (pm_chk pt_cl pt_me 1) = true := by decide +kernel
set_option maxRecDepth 100000 in
theorem pt_ok1_13 : pt_q1_13.all (pm_chk pt_cl pt_me 1) = true := by decide +kernel
set_option maxRecDepth 100000 in
theorem pt_ok1_14 : pt_q1_14.all (pm_chk pt_cl pt_me 1) = true := by decide +kernel
set_option maxRecDepth 100000 in
theorem pt_ok1_15 : pt_q1_15.all (pm_chk pt_cl pt_me 1) = true := by decide +kernel
set_option maxRecDepth 100000 in
theorem pt_ok1_16 : pt_q1_16.all (pm_chk pt_cl pt_me 1) = true := by decide +kernel
set_option maxRecDepth 100000 in
theorem pt_ok1_17 : pt_q1_17.all (pm_chk pt_cl pt_me 1) = true := by decide +kernel
end
section
/-! ===== the tables are right, all together ===== -/
theorem pt_c101 : pt_m101.2.2.2.2.2.2.all (pm_chk pt_cl pt_me 101) = true := by
  exact pt_ok101_0
theorem pt_c1001 : pt_m1001.2.2.2.2.2.2.all (pm_chk pt_cl pt_me 1001) = true := by
  exact pt_ok1001_0
theorem pt_c501 : pt_m501.2.2.2.2.2.2.all (pm_chk pt_cl pt_me 501) = true := by
  exact pt_ok501_0
theorem pt_c701 : pt_m701.2.2.2.2.2.2.all (pm_chk pt_cl pt_me 701) = true := by
  show (pt_q701_0 ++ pt_q701_1).all _ = true
  rw [List.all_append, pt_ok701_0, pt_ok701_1]
  rfl
theorem pt_c1501 : pt_m1501.2.2.2.2.2.2.all (pm_chk pt_cl pt_me 1501) = true := by
  exact pt_ok1501_0
theorem pt_c1502 : pt_m1502.2.2.2.2.2.2.all (pm_chk pt_cl pt_me 1502) = true := by
  exact pt_ok1502_0
theorem pt_c1503 : pt_m1503.2.2.2.2.2.2.all (pm_chk pt_cl pt_me 1503) = true := by
  exact pt_ok1503_0
theorem pt_c1504 : pt_m1504.2.2.2.2.2.2.all (pm_chk pt_cl pt_me 1504) = true := by
  exact pt_ok1504_0
theorem pt_c1505 : pt_m1505.2.2.2.2.2.2.all (pm_chk pt_cl pt_me 1505) = true := by
  exact pt_ok1505_0
theorem pt_c1506 : pt_m1506.2.2.2.2.2.2.all (pm_chk pt_cl pt_me 1506) = true := by
  exact pt_ok1506_0
theorem pt_c1507 : pt_m1507.2.2.2.2.2.2.all (pm_chk pt_cl pt_me 1507) = true := by
  exact pt_ok1507_0
theorem pt_c724 : pt_m724.2.2.2.2.2.2.all (pm_chk pt_cl pt_me 724) = true := by
  exact pt_ok724_0
theorem pt_c601 : pt_m601.2.2.2.2.2.2.all (pm_chk pt_cl pt_me 601) = true := by
  exact pt_ok601_0
theorem pt_c801 : pt_m801.2.2.2.2.2.2.all (pm_chk pt_cl pt_me 801) = true := by
  exact pt_ok801_0
theorem pt_c301 : pt_m301.2.2.2.2.2.2.all (pm_chk pt_cl pt_me 301) = true := by
  exact pt_ok301_0
theorem pt_c401 : pt_m401.2.2.2.2.2.2.all (pm_chk pt_cl pt_me 401) = true := by
  exact pt_ok401_0
theorem pt_c201 : pt_m201.2.2.2.2.2.2.all (pm_chk pt_cl pt_me 201) = true := by
  exact pt_ok201_0
theorem pt_c102 : pt_m102.2.2.2.2.2.2.all (pm_chk pt_cl pt_me 102) = true := by
  exact pt_ok102_0
theorem pt_c1002 : pt_m1002.2.2.2.2.2.2.all (pm_chk pt_cl pt_me 1002) = true := by
  exact pt_ok1002_0
theorem pt_c1004 : pt_m1004.2.2.2.2.2.2.all (pm_chk pt_cl pt_me 1004) = true := by
  exact pt_ok1004_0
theorem pt_c103 : pt_m103.2.2.2.2.2.2.all (pm_chk pt_cl pt_me 103) = true := by
  exact pt_ok103_0
theorem pt_c1005 : pt_m1005.2.2.2.2.2.2.all (pm_chk pt_cl pt_me 1005) = true := by
  exact pt_ok1005_0
theorem pt_c104 : pt_m104.2.2.2.2.2.2.all (pm_chk pt_cl pt_me 104) = true := by
  exact pt_ok104_0
theorem pt_c702 : pt_m702.2.2.2.2.2.2.all (pm_chk pt_cl pt_me 702) = true := by
  exact pt_ok702_0
theorem pt_c502 : pt_m502.2.2.2.2.2.2.all (pm_chk pt_cl pt_me 502) = true := by
  exact pt_ok502_0
theorem pt_c721 : pt_m721.2.2.2.2.2.2.all (pm_chk pt_cl pt_me 721) = true := by
  show (pt_q721_0 ++ pt_q721_1).all _ = true
  rw [List.all_append, pt_ok721_0, pt_ok721_1]
  rfl
theorem pt_c1003 : pt_m1003.2.2.2.2.2.2.all (pm_chk pt_cl pt_me 1003) = true := by
  exact pt_ok1003_0
theorem pt_c725 : pt_m725.2.2.2.2.2.2.all (pm_chk pt_cl pt_me 725) = true := by
  exact pt_ok725_0
theorem pt_c726 : pt_m726.2.2.2.2.2.2.all (pm_chk pt_cl pt_me 726) = true := by
  exact pt_ok726_0
theorem pt_c722 : pt_m722.2.2.2.2.2.2.all (pm_chk pt_cl pt_me 722) = true := by
  exact pt_ok722_0
theorem pt_c720 : pt_m720.2.2.2.2.2.2.all (pm_chk pt_cl pt_me 720) = true := by
  exact pt_ok720_0
theorem pt_c727 : pt_m727.2.2.2.2.2.2.all (pm_chk pt_cl pt_me 727) = true := by
  exact pt_ok727_0
theorem pt_c723 : pt_m723.2.2.2.2.2.2.all (pm_chk pt_cl pt_me 723) = true := by
  exact pt_ok723_0
theorem pt_c703 : pt_m703.2.2.2.2.2.2.all (pm_chk pt_cl pt_me 703) = true := by
  exact pt_ok703_0
theorem pt_c706 : pt_m706.2.2.2.2.2.2.all (pm_chk pt_cl pt_me 706) = true := by
  show (pt_q706_0 ++ pt_q706_1).all _ = true
  rw [List.all_append, pt_ok706_0, pt_ok706_1]
  rfl
theorem pt_c709 : pt_m709.2.2.2.2.2.2.all (pm_chk pt_cl pt_me 709) = true := by
  exact pt_ok709_0
theorem pt_c707 : pt_m707.2.2.2.2.2.2.all (pm_chk pt_cl pt_me 707) = true := by
  exact pt_ok707_0
theorem pt_c151 : pt_m151.2.2.2.2.2.2.all (pm_chk pt_cl pt_me 151) = true := by
  exact pt_ok151_0
theorem pt_c704 : pt_m704.2.2.2.2.2.2.all (pm_chk pt_cl pt_me 704) = true := by
  exact pt_ok704_0
theorem pt_c714 : pt_m714.2.2.2.2.2.2.all (pm_chk pt_cl pt_me 714) = true := by
  exact pt_ok714_0
theorem pt_c705 : pt_m705.2.2.2.2.2.2.all (pm_chk pt_cl pt_me 705) = true := by
  exact pt_ok705_0
theorem pt_c715 : pt_m715.2.2.2.2.2.2.all (pm_chk pt_cl pt_me 715) = true := by
  exact pt_ok715_0
theorem pt_c708 : pt_m708.2.2.2.2.2.2.all (pm_chk pt_cl pt_me 708) = true := by
  exact pt_ok708_0
theorem pt_c710 : pt_m710.2.2.2.2.2.2.all (pm_chk pt_cl pt_me 710) = true := by
  exact pt_ok710_0
theorem pt_c719 : pt_m719.2.2.2.2.2.2.all (pm_chk pt_cl pt_me 719) = true := by
  exact pt_ok719_0
theorem pt_c717 : pt_m717.2.2.2.2.2.2.all (pm_chk pt_cl pt_me 717) = true := by
  exact pt_ok717_0
theorem pt_c711 : pt_m711.2.2.2.2.2.2.all (pm_chk pt_cl pt_me 711) = true := by
  show (pt_q711_0 ++ pt_q711_1).all _ = true
  rw [List.all_append, pt_ok711_0, pt_ok711_1]
  rfl
theorem pt_c716 : pt_m716.2.2.2.2.2.2.all (pm_chk pt_cl pt_me 716) = true := by
  exact pt_ok716_0
theorem pt_c712 : pt_m712.2.2.2.2.2.2.all (pm_chk pt_cl pt_me 712) = true := by
  exact pt_ok712_0
theorem pt_c718 : pt_m718.2.2.2.2.2.2.all (pm_chk pt_cl pt_me 718) = true := by
  exact pt_ok718_0
theorem pt_c713 : pt_m713.2.2.2.2.2.2.all (pm_chk pt_cl pt_me 713) = true := by
  exact pt_ok713_0
theorem pt_c503 : pt_m503.2.2.2.2.2.2.all (pm_chk pt_cl pt_me 503) = true := by
  show (pt_q503_0 ++ pt_q503_1).all _ = true
  rw [List.all_append, pt_ok503_0, pt_ok503_1]
  rfl
theorem pt_c202 : pt_m202.2.2.2.2.2.2.all (pm_chk pt_cl pt_me 202) = true := by
  exact pt_ok202_0
theorem pt_c105 : pt_m105.2.2.2.2.2.2.all (pm_chk pt_cl pt_me 105) = true := by
  exact pt_ok105_0
theorem pt_c106 : pt_m106.2.2.2.2.2.2.all (pm_chk pt_cl pt_me 106) = true := by
  exact pt_ok106_0
theorem pt_c504 : pt_m504.2.2.2.2.2.2.all (pm_chk pt_cl pt_me 504) = true := by
  exact pt_ok504_0
theorem pt_c508 : pt_m508.2.2.2.2.2.2.all (pm_chk pt_cl pt_me 508) = true := by
  exact pt_ok508_0
theorem pt_c509 : pt_m509.2.2.2.2.2.2.all (pm_chk pt_cl pt_me 509) = true := by
  exact pt_ok509_0
theorem pt_c510 : pt_m510.2.2.2.2.2.2.all (pm_chk pt_cl pt_me 510) = true := by
  exact pt_ok510_0
theorem pt_c205 : pt_m205.2.2.2.2.2.2.all (pm_chk pt_cl pt_me 205) = true := by
  exact pt_ok205_0
theorem pt_c206 : pt_m206.2.2.2.2.2.2.all (pm_chk pt_cl pt_me 206) = true := by
  exact pt_ok206_0
theorem pt_c905 : pt_m905.2.2.2.2.2.2.all (pm_chk pt_cl pt_me 905) = true := by
  exact pt_ok905_0
theorem pt_c902 : pt_m902.2.2.2.2.2.2.all (pm_chk pt_cl pt_me 902) = true := by
  exact pt_ok902_0
theorem pt_c1508 : pt_m1508.2.2.2.2.2.2.all (pm_chk pt_cl pt_me 1508) = true := by
  exact pt_ok1508_0
theorem pt_c511 : pt_m511.2.2.2.2.2.2.all (pm_chk pt_cl pt_me 511) = true := by
  exact pt_ok511_0
theorem pt_c107 : pt_m107.2.2.2.2.2.2.all (pm_chk pt_cl pt_me 107) = true := by
  exact pt_ok107_0
theorem pt_c505 : pt_m505.2.2.2.2.2.2.all (pm_chk pt_cl pt_me 505) = true := by
  exact pt_ok505_0
theorem pt_c512 : pt_m512.2.2.2.2.2.2.all (pm_chk pt_cl pt_me 512) = true := by
  exact pt_ok512_0
theorem pt_c108 : pt_m108.2.2.2.2.2.2.all (pm_chk pt_cl pt_me 108) = true := by
  exact pt_ok108_0
theorem pt_c517 : pt_m517.2.2.2.2.2.2.all (pm_chk pt_cl pt_me 517) = true := by
  exact pt_ok517_0
theorem pt_c507 : pt_m507.2.2.2.2.2.2.all (pm_chk pt_cl pt_me 507) = true := by
  exact pt_ok507_0
theorem pt_c515 : pt_m515.2.2.2.2.2.2.all (pm_chk pt_cl pt_me 515) = true := by
  exact pt_ok515_0
theorem pt_c516 : pt_m516.2.2.2.2.2.2.all (pm_chk pt_cl pt_me 516) = true := by
  exact pt_ok516_0
theorem pt_c109 : pt_m109.2.2.2.2.2.2.all (pm_chk pt_cl pt_me 109) = true := by
  exact pt_ok109_0
theorem pt_c110 : pt_m110.2.2.2.2.2.2.all (pm_chk pt_cl pt_me 110) = true := by
  exact pt_ok110_0
theorem pt_c506 : pt_m506.2.2.2.2.2.2.all (pm_chk pt_cl pt_me 506) = true := by
  exact pt_ok506_0
theorem pt_c150 : pt_m150.2.2.2.2.2.2.all (pm_chk pt_cl pt_me 150) = true := by
  exact pt_ok150_0
theorem pt_c602 : pt_m602.2.2.2.2.2.2.all (pm_chk pt_cl pt_me 602) = true := by
  exact pt_ok602_0
theorem pt_c518 : pt_m518.2.2.2.2.2.2.all (pm_chk pt_cl pt_me 518) = true := by
  exact pt_ok518_0
theorem pt_c906 : pt_m906.2.2.2.2.2.2.all (pm_chk pt_cl pt_me 906) = true := by
  exact pt_ok906_0
theorem pt_c903 : pt_m903.2.2.2.2.2.2.all (pm_chk pt_cl pt_me 903) = true := by
  exact pt_ok903_0
theorem pt_c907 : pt_m907.2.2.2.2.2.2.all (pm_chk pt_cl pt_me 907) = true := by
  exact pt_ok907_0
theorem pt_c111 : pt_m111.2.2.2.2.2.2.all (pm_chk pt_cl pt_me 111) = true := by
  exact pt_ok111_0
theorem pt_c149 : pt_m149.2.2.2.2.2.2.all (pm_chk pt_cl pt_me 149) = true := by
  exact pt_ok149_0
theorem pt_c307 : pt_m307.2.2.2.2.2.2.all (pm_chk pt_cl pt_me 307) = true := by
  exact pt_ok307_0
theorem pt_c305 : pt_m305.2.2.2.2.2.2.all (pm_chk pt_cl pt_me 305) = true := by
  show (pt_q305_0 ++ pt_q305_1).all _ = true
  rw [List.all_append, pt_ok305_0, pt_ok305_1]
  rfl
theorem pt_c302 : pt_m302.2.2.2.2.2.2.all (pm_chk pt_cl pt_me 302) = true := by
  show (pt_q302_0 ++ pt_q302_1).all _ = true
  rw [List.all_append, pt_ok302_0, pt_ok302_1]
  rfl
theorem pt_c303 : pt_m303.2.2.2.2.2.2.all (pm_chk pt_cl pt_me 303) = true := by
  exact pt_ok303_0
theorem pt_c1509 : pt_m1509.2.2.2.2.2.2.all (pm_chk pt_cl pt_me 1509) = true := by
  exact pt_ok1509_0
theorem pt_c306 : pt_m306.2.2.2.2.2.2.all (pm_chk pt_cl pt_me 306) = true := by
  show (pt_q306_0 ++ pt_q306_1).all _ = true
  rw [List.all_append, pt_ok306_0, pt_ok306_1]
  rfl
theorem pt_c607 : pt_m607.2.2.2.2.2.2.all (pm_chk pt_cl pt_me 607) = true := by
  exact pt_ok607_0
theorem pt_c608 : pt_m608.2.2.2.2.2.2.all (pm_chk pt_cl pt_me 608) = true := by
  exact pt_ok608_0
theorem pt_c606 : pt_m606.2.2.2.2.2.2.all (pm_chk pt_cl pt_me 606) = true := by
  exact pt_ok606_0
theorem pt_c610 : pt_m610.2.2.2.2.2.2.all (pm_chk pt_cl pt_me 610) = true := by
  show (pt_q610_0 ++ pt_q610_1).all _ = true
  rw [List.all_append, pt_ok610_0, pt_ok610_1]
  rfl
theorem pt_c609 : pt_m609.2.2.2.2.2.2.all (pm_chk pt_cl pt_me 609) = true := by
  exact pt_ok609_0
theorem pt_c604 : pt_m604.2.2.2.2.2.2.all (pm_chk pt_cl pt_me 604) = true := by
  exact pt_ok604_0
theorem pt_c520 : pt_m520.2.2.2.2.2.2.all (pm_chk pt_cl pt_me 520) = true := by
  exact pt_ok520_0
theorem pt_c521 : pt_m521.2.2.2.2.2.2.all (pm_chk pt_cl pt_me 521) = true := by
  exact pt_ok521_0
theorem pt_c524 : pt_m524.2.2.2.2.2.2.all (pm_chk pt_cl pt_me 524) = true := by
  exact pt_ok524_0
theorem pt_c1510 : pt_m1510.2.2.2.2.2.2.all (pm_chk pt_cl pt_me 1510) = true := by
  exact pt_ok1510_0
theorem pt_c525 : pt_m525.2.2.2.2.2.2.all (pm_chk pt_cl pt_me 525) = true := by
  exact pt_ok525_0
theorem pt_c513 : pt_m513.2.2.2.2.2.2.all (pm_chk pt_cl pt_me 513) = true := by
  exact pt_ok513_0
theorem pt_c603 : pt_m603.2.2.2.2.2.2.all (pm_chk pt_cl pt_me 603) = true := by
  exact pt_ok603_0
theorem pt_c519 : pt_m519.2.2.2.2.2.2.all (pm_chk pt_cl pt_me 519) = true := by
  exact pt_ok519_0
theorem pt_c611 : pt_m611.2.2.2.2.2.2.all (pm_chk pt_cl pt_me 611) = true := by
  exact pt_ok611_0
theorem pt_c614 : pt_m614.2.2.2.2.2.2.all (pm_chk pt_cl pt_me 614) = true := by
  exact pt_ok614_0
theorem pt_c615 : pt_m615.2.2.2.2.2.2.all (pm_chk pt_cl pt_me 615) = true := by
  exact pt_ok615_0
theorem pt_c904 : pt_m904.2.2.2.2.2.2.all (pm_chk pt_cl pt_me 904) = true := by
  exact pt_ok904_0
theorem pt_c112 : pt_m112.2.2.2.2.2.2.all (pm_chk pt_cl pt_me 112) = true := by
  exact pt_ok112_0
theorem pt_c113 : pt_m113.2.2.2.2.2.2.all (pm_chk pt_cl pt_me 113) = true := by
  exact pt_ok113_0
theorem pt_c612 : pt_m612.2.2.2.2.2.2.all (pm_chk pt_cl pt_me 612) = true := by
  exact pt_ok612_0
theorem pt_c114 : pt_m114.2.2.2.2.2.2.all (pm_chk pt_cl pt_me 114) = true := by
  exact pt_ok114_0
theorem pt_c605 : pt_m605.2.2.2.2.2.2.all (pm_chk pt_cl pt_me 605) = true := by
  show (pt_q605_0 ++ pt_q605_1).all _ = true
  rw [List.all_append, pt_ok605_0, pt_ok605_1]
  rfl
theorem pt_c115 : pt_m115.2.2.2.2.2.2.all (pm_chk pt_cl pt_me 115) = true := by
  exact pt_ok115_0
theorem pt_c116 : pt_m116.2.2.2.2.2.2.all (pm_chk pt_cl pt_me 116) = true := by
  exact pt_ok116_0
theorem pt_c308 : pt_m308.2.2.2.2.2.2.all (pm_chk pt_cl pt_me 308) = true := by
  exact pt_ok308_0
theorem pt_c117 : pt_m117.2.2.2.2.2.2.all (pm_chk pt_cl pt_me 117) = true := by
  exact pt_ok117_0
theorem pt_c118 : pt_m118.2.2.2.2.2.2.all (pm_chk pt_cl pt_me 118) = true := by
  exact pt_ok118_0
theorem pt_c119 : pt_m119.2.2.2.2.2.2.all (pm_chk pt_cl pt_me 119) = true := by
  exact pt_ok119_0
theorem pt_c526 : pt_m526.2.2.2.2.2.2.all (pm_chk pt_cl pt_me 526) = true := by
  exact pt_ok526_0
theorem pt_c120 : pt_m120.2.2.2.2.2.2.all (pm_chk pt_cl pt_me 120) = true := by
  exact pt_ok120_0
theorem pt_c908 : pt_m908.2.2.2.2.2.2.all (pm_chk pt_cl pt_me 908) = true := by
  exact pt_ok908_0
theorem pt_c802 : pt_m802.2.2.2.2.2.2.all (pm_chk pt_cl pt_me 802) = true := by
  show (pt_q802_0 ++ pt_q802_1).all _ = true
  rw [List.all_append, pt_ok802_0, pt_ok802_1]
  rfl
theorem pt_c803 : pt_m803.2.2.2.2.2.2.all (pm_chk pt_cl pt_me 803) = true := by
  exact pt_ok803_0
theorem pt_c804 : pt_m804.2.2.2.2.2.2.all (pm_chk pt_cl pt_me 804) = true := by
  exact pt_ok804_0
theorem pt_c1511 : pt_m1511.2.2.2.2.2.2.all (pm_chk pt_cl pt_me 1511) = true := by
  exact pt_ok1511_0
theorem pt_c1512 : pt_m1512.2.2.2.2.2.2.all (pm_chk pt_cl pt_me 1512) = true := by
  exact pt_ok1512_0
theorem pt_c121 : pt_m121.2.2.2.2.2.2.all (pm_chk pt_cl pt_me 121) = true := by
  exact pt_ok121_0
theorem pt_c304 : pt_m304.2.2.2.2.2.2.all (pm_chk pt_cl pt_me 304) = true := by
  exact pt_ok304_0
theorem pt_c310 : pt_m310.2.2.2.2.2.2.all (pm_chk pt_cl pt_me 310) = true := by
  exact pt_ok310_0
theorem pt_c309 : pt_m309.2.2.2.2.2.2.all (pm_chk pt_cl pt_me 309) = true := by
  exact pt_ok309_0
theorem pt_c313 : pt_m313.2.2.2.2.2.2.all (pm_chk pt_cl pt_me 313) = true := by
  exact pt_ok313_0
theorem pt_c312 : pt_m312.2.2.2.2.2.2.all (pm_chk pt_cl pt_me 312) = true := by
  exact pt_ok312_0
theorem pt_c311 : pt_m311.2.2.2.2.2.2.all (pm_chk pt_cl pt_me 311) = true := by
  exact pt_ok311_0
theorem pt_c529 : pt_m529.2.2.2.2.2.2.all (pm_chk pt_cl pt_me 529) = true := by
  exact pt_ok529_0
theorem pt_c527 : pt_m527.2.2.2.2.2.2.all (pm_chk pt_cl pt_me 527) = true := by
  exact pt_ok527_0
theorem pt_c528 : pt_m528.2.2.2.2.2.2.all (pm_chk pt_cl pt_me 528) = true := by
  exact pt_ok528_0
theorem pt_c316 : pt_m316.2.2.2.2.2.2.all (pm_chk pt_cl pt_me 316) = true := by
  exact pt_ok316_0
theorem pt_c317 : pt_m317.2.2.2.2.2.2.all (pm_chk pt_cl pt_me 317) = true := by
  exact pt_ok317_0
theorem pt_c318 : pt_m318.2.2.2.2.2.2.all (pm_chk pt_cl pt_me 318) = true := by
  exact pt_ok318_0
theorem pt_c122 : pt_m122.2.2.2.2.2.2.all (pm_chk pt_cl pt_me 122) = true := by
  exact pt_ok122_0
theorem pt_c314 : pt_m314.2.2.2.2.2.2.all (pm_chk pt_cl pt_me 314) = true := by
  exact pt_ok314_0
theorem pt_c123 : pt_m123.2.2.2.2.2.2.all (pm_chk pt_cl pt_me 123) = true := by
  exact pt_ok123_0
theorem pt_c315 : pt_m315.2.2.2.2.2.2.all (pm_chk pt_cl pt_me 315) = true := by
  exact pt_ok315_0
theorem pt_c124 : pt_m124.2.2.2.2.2.2.all (pm_chk pt_cl pt_me 124) = true := by
  exact pt_ok124_0
theorem pt_c125 : pt_m125.2.2.2.2.2.2.all (pm_chk pt_cl pt_me 125) = true := by
  exact pt_ok125_0
theorem pt_c321 : pt_m321.2.2.2.2.2.2.all (pm_chk pt_cl pt_me 321) = true := by
  exact pt_ok321_0
theorem pt_c126 : pt_m126.2.2.2.2.2.2.all (pm_chk pt_cl pt_me 126) = true := by
  exact pt_ok126_0
theorem pt_c324 : pt_m324.2.2.2.2.2.2.all (pm_chk pt_cl pt_me 324) = true := by
  exact pt_ok324_0
theorem pt_c322 : pt_m322.2.2.2.2.2.2.all (pm_chk pt_cl pt_me 322) = true := by
  exact pt_ok322_0
theorem pt_c323 : pt_m323.2.2.2.2.2.2.all (pm_chk pt_cl pt_me 323) = true := by
  exact pt_ok323_0
theorem pt_c325 : pt_m325.2.2.2.2.2.2.all (pm_chk pt_cl pt_me 325) = true := by
  exact pt_ok325_0
theorem pt_c127 : pt_m127.2.2.2.2.2.2.all (pm_chk pt_cl pt_me 127) = true := by
  exact pt_ok127_0
theorem pt_c530 : pt_m530.2.2.2.2.2.2.all (pm_chk pt_cl pt_me 530) = true := by
  exact pt_ok530_0
theorem pt_c128 : pt_m128.2.2.2.2.2.2.all (pm_chk pt_cl pt_me 128) = true := by
  exact pt_ok128_0
theorem pt_c129 : pt_m129.2.2.2.2.2.2.all (pm_chk pt_cl pt_me 129) = true := by
  exact pt_ok129_0
theorem pt_c531 : pt_m531.2.2.2.2.2.2.all (pm_chk pt_cl pt_me 531) = true := by
  exact pt_ok531_0
theorem pt_c532 : pt_m532.2.2.2.2.2.2.all (pm_chk pt_cl pt_me 532) = true := by
  exact pt_ok532_0
theorem pt_c130 : pt_m130.2.2.2.2.2.2.all (pm_chk pt_cl pt_me 130) = true := by
  exact pt_ok130_0
theorem pt_c326 : pt_m326.2.2.2.2.2.2.all (pm_chk pt_cl pt_me 326) = true := by
  exact pt_ok326_0
theorem pt_c131 : pt_m131.2.2.2.2.2.2.all (pm_chk pt_cl pt_me 131) = true := by
  exact pt_ok131_0
theorem pt_c327 : pt_m327.2.2.2.2.2.2.all (pm_chk pt_cl pt_me 327) = true := by
  exact pt_ok327_0
theorem pt_c132 : pt_m132.2.2.2.2.2.2.all (pm_chk pt_cl pt_me 132) = true := by
  exact pt_ok132_0
theorem pt_c328 : pt_m328.2.2.2.2.2.2.all (pm_chk pt_cl pt_me 328) = true := by
  exact pt_ok328_0
theorem pt_c133 : pt_m133.2.2.2.2.2.2.all (pm_chk pt_cl pt_me 133) = true := by
  exact pt_ok133_0
theorem pt_c320 : pt_m320.2.2.2.2.2.2.all (pm_chk pt_cl pt_me 320) = true := by
  exact pt_ok320_0
theorem pt_c134 : pt_m134.2.2.2.2.2.2.all (pm_chk pt_cl pt_me 134) = true := by
  exact pt_ok134_0
theorem pt_c319 : pt_m319.2.2.2.2.2.2.all (pm_chk pt_cl pt_me 319) = true := by
  show (pt_q319_0 ++ pt_q319_1).all _ = true
  rw [List.all_append, pt_ok319_0, pt_ok319_1]
  rfl
theorem pt_c135 : pt_m135.2.2.2.2.2.2.all (pm_chk pt_cl pt_me 135) = true := by
  exact pt_ok135_0
theorem pt_c402 : pt_m402.2.2.2.2.2.2.all (pm_chk pt_cl pt_me 402) = true := by
  exact pt_ok402_0
theorem pt_c403 : pt_m403.2.2.2.2.2.2.all (pm_chk pt_cl pt_me 403) = true := by
  exact pt_ok403_0
theorem pt_c404 : pt_m404.2.2.2.2.2.2.all (pm_chk pt_cl pt_me 404) = true := by
  exact pt_ok404_0
theorem pt_c405 : pt_m405.2.2.2.2.2.2.all (pm_chk pt_cl pt_me 405) = true := by
  exact pt_ok405_0
theorem pt_c406 : pt_m406.2.2.2.2.2.2.all (pm_chk pt_cl pt_me 406) = true := by
  exact pt_ok406_0
theorem pt_c407 : pt_m407.2.2.2.2.2.2.all (pm_chk pt_cl pt_me 407) = true := by
  exact pt_ok407_0
theorem pt_c408 : pt_m408.2.2.2.2.2.2.all (pm_chk pt_cl pt_me 408) = true := by
  exact pt_ok408_0
theorem pt_c409 : pt_m409.2.2.2.2.2.2.all (pm_chk pt_cl pt_me 409) = true := by
  exact pt_ok409_0
theorem pt_c411 : pt_m411.2.2.2.2.2.2.all (pm_chk pt_cl pt_me 411) = true := by
  exact pt_ok411_0
theorem pt_c410 : pt_m410.2.2.2.2.2.2.all (pm_chk pt_cl pt_me 410) = true := by
  exact pt_ok410_0
theorem pt_c136 : pt_m136.2.2.2.2.2.2.all (pm_chk pt_cl pt_me 136) = true := by
  exact pt_ok136_0
theorem pt_c412 : pt_m412.2.2.2.2.2.2.all (pm_chk pt_cl pt_me 412) = true := by
  exact pt_ok412_0
theorem pt_c413 : pt_m413.2.2.2.2.2.2.all (pm_chk pt_cl pt_me 413) = true := by
  exact pt_ok413_0
theorem pt_c137 : pt_m137.2.2.2.2.2.2.all (pm_chk pt_cl pt_me 137) = true := by
  exact pt_ok137_0
theorem pt_c208 : pt_m208.2.2.2.2.2.2.all (pm_chk pt_cl pt_me 208) = true := by
  exact pt_ok208_0
theorem pt_c214 : pt_m214.2.2.2.2.2.2.all (pm_chk pt_cl pt_me 214) = true := by
  exact pt_ok214_0
theorem pt_c215 : pt_m215.2.2.2.2.2.2.all (pm_chk pt_cl pt_me 215) = true := by
  exact pt_ok215_0
theorem pt_c138 : pt_m138.2.2.2.2.2.2.all (pm_chk pt_cl pt_me 138) = true := by
  exact pt_ok138_0
theorem pt_c204 : pt_m204.2.2.2.2.2.2.all (pm_chk pt_cl pt_me 204) = true := by
  exact pt_ok204_0
theorem pt_c139 : pt_m139.2.2.2.2.2.2.all (pm_chk pt_cl pt_me 139) = true := by
  exact pt_ok139_0
theorem pt_c203 : pt_m203.2.2.2.2.2.2.all (pm_chk pt_cl pt_me 203) = true := by
  exact pt_ok203_0
theorem pt_c212 : pt_m212.2.2.2.2.2.2.all (pm_chk pt_cl pt_me 212) = true := by
  show (pt_q212_0 ++ pt_q212_1).all _ = true
  rw [List.all_append, pt_ok212_0, pt_ok212_1]
  rfl
theorem pt_c213 : pt_m213.2.2.2.2.2.2.all (pm_chk pt_cl pt_me 213) = true := by
  exact pt_ok213_0
theorem pt_c140 : pt_m140.2.2.2.2.2.2.all (pm_chk pt_cl pt_me 140) = true := by
  exact pt_ok140_0
theorem pt_c207 : pt_m207.2.2.2.2.2.2.all (pm_chk pt_cl pt_me 207) = true := by
  exact pt_ok207_0
theorem pt_c141 : pt_m141.2.2.2.2.2.2.all (pm_chk pt_cl pt_me 141) = true := by
  exact pt_ok141_0
theorem pt_c210 : pt_m210.2.2.2.2.2.2.all (pm_chk pt_cl pt_me 210) = true := by
  exact pt_ok210_0
theorem pt_c211 : pt_m211.2.2.2.2.2.2.all (pm_chk pt_cl pt_me 211) = true := by
  exact pt_ok211_0
theorem pt_c142 : pt_m142.2.2.2.2.2.2.all (pm_chk pt_cl pt_me 142) = true := by
  exact pt_ok142_0
theorem pt_c209 : pt_m209.2.2.2.2.2.2.all (pm_chk pt_cl pt_me 209) = true := by
  exact pt_ok209_0
theorem pt_c522 : pt_m522.2.2.2.2.2.2.all (pm_chk pt_cl pt_me 522) = true := by
  exact pt_ok522_0
theorem pt_c143 : pt_m143.2.2.2.2.2.2.all (pm_chk pt_cl pt_me 143) = true := by
  exact pt_ok143_0
theorem pt_c514 : pt_m514.2.2.2.2.2.2.all (pm_chk pt_cl pt_me 514) = true := by
  exact pt_ok514_0
theorem pt_c144 : pt_m144.2.2.2.2.2.2.all (pm_chk pt_cl pt_me 144) = true := by
  exact pt_ok144_0
theorem pt_c145 : pt_m145.2.2.2.2.2.2.all (pm_chk pt_cl pt_me 145) = true := by
  exact pt_ok145_0
theorem pt_c216 : pt_m216.2.2.2.2.2.2.all (pm_chk pt_cl pt_me 216) = true := by
  exact pt_ok216_0
theorem pt_c146 : pt_m146.2.2.2.2.2.2.all (pm_chk pt_cl pt_me 146) = true := by
  exact pt_ok146_0
theorem pt_c147 : pt_m147.2.2.2.2.2.2.all (pm_chk pt_cl pt_me 147) = true := by
  exact pt_ok147_0
theorem pt_c613 : pt_m613.2.2.2.2.2.2.all (pm_chk pt_cl pt_me 613) = true := by
  exact pt_ok613_0
theorem pt_c523 : pt_m523.2.2.2.2.2.2.all (pm_chk pt_cl pt_me 523) = true := by
  exact pt_ok523_0
theorem pt_c148 : pt_m148.2.2.2.2.2.2.all (pm_chk pt_cl pt_me 148) = true := by
  exact pt_ok148_0
theorem pt_c1201 : pt_m1201.2.2.2.2.2.2.all (pm_chk pt_cl pt_me 1201) = true := by
  show (pt_q1201_0 ++ pt_q1201_1 ++ pt_q1201_2).all _ = true
  rw [List.all_append, List.all_append, pt_ok1201_0, pt_ok1201_1, pt_ok1201_2]
  rfl
theorem pt_c1222 : pt_m1222.2.2.2.2.2.2.all (pm_chk pt_cl pt_me 1222) = true := by
  show (pt_q1222_0 ++ pt_q1222_1).all _ = true
  rw [List.all_append, pt_ok1222_0, pt_ok1222_1]
  rfl
theorem pt_c1238 : pt_m1238.2.2.2.2.2.2.all (pm_chk pt_cl pt_me 1238) = true := by
  show (pt_q1238_0 ++ pt_q1238_1 ++ pt_q1238_2).all _ = true
  rw [List.all_append, List.all_append, pt_ok1238_0, pt_ok1238_1, pt_ok1238_2]
  rfl
theorem pt_c1204 : pt_m1204.2.2.2.2.2.2.all (pm_chk pt_cl pt_me 1204) = true := by
  exact pt_ok1204_0
theorem pt_c1207 : pt_m1207.2.2.2.2.2.2.all (pm_chk pt_cl pt_me 1207) = true := by
  exact pt_ok1207_0
theorem pt_c1208 : pt_m1208.2.2.2.2.2.2.all (pm_chk pt_cl pt_me 1208) = true := by
  exact pt_ok1208_0
theorem pt_c1209 : pt_m1209.2.2.2.2.2.2.all (pm_chk pt_cl pt_me 1209) = true := by
  exact pt_ok1209_0
theorem pt_c1202 : pt_m1202.2.2.2.2.2.2.all (pm_chk pt_cl pt_me 1202) = true := by
  exact pt_ok1202_0
theorem pt_c1237 : pt_m1237.2.2.2.2.2.2.all (pm_chk pt_cl pt_me 1237) = true := by
  exact pt_ok1237_0
theorem pt_c1213 : pt_m1213.2.2.2.2.2.2.all (pm_chk pt_cl pt_me 1213) = true := by
  show (pt_q1213_0 ++ pt_q1213_1 ++ pt_q1213_2).all _ = true
  rw [List.all_append, List.all_append, pt_ok1213_0, pt_ok1213_1, pt_ok1213_2]
  rfl
theorem pt_c1210 : pt_m1210.2.2.2.2.2.2.all (pm_chk pt_cl pt_me 1210) = true := by
  exact pt_ok1210_0
theorem pt_c1211 : pt_m1211.2.2.2.2.2.2.all (pm_chk pt_cl pt_me 1211) = true := by
  exact pt_ok1211_0
theorem pt_c1212 : pt_m1212.2.2.2.2.2.2.all (pm_chk pt_cl pt_me 1212) = true := by
  exact pt_ok1212_0
theorem pt_c1215 : pt_m1215.2.2.2.2.2.2.all (pm_chk pt_cl pt_me 1215) = true := by
  exact pt_ok1215_0
theorem pt_c1236 : pt_m1236.2.2.2.2.2.2.all (pm_chk pt_cl pt_me 1236) = true := by
  show (pt_q1236_0 ++ pt_q1236_1).all _ = true
  rw [List.all_append, pt_ok1236_0, pt_ok1236_1]
  rfl
theorem pt_c1216 : pt_m1216.2.2.2.2.2.2.all (pm_chk pt_cl pt_me 1216) = true := by
  exact pt_ok1216_0
theorem pt_c1231 : pt_m1231.2.2.2.2.2.2.all (pm_chk pt_cl pt_me 1231) = true := by
  exact pt_ok1231_0
theorem pt_c1226 : pt_m1226.2.2.2.2.2.2.all (pm_chk pt_cl pt_me 1226) = true := by
  exact pt_ok1226_0
theorem pt_c1205 : pt_m1205.2.2.2.2.2.2.all (pm_chk pt_cl pt_me 1205) = true := by
  exact pt_ok1205_0
theorem pt_c1214 : pt_m1214.2.2.2.2.2.2.all (pm_chk pt_cl pt_me 1214) = true := by
  exact pt_ok1214_0
theorem pt_c1221 : pt_m1221.2.2.2.2.2.2.all (pm_chk pt_cl pt_me 1221) = true := by
  exact pt_ok1221_0
theorem pt_c1232 : pt_m1232.2.2.2.2.2.2.all (pm_chk pt_cl pt_me 1232) = true := by
  exact pt_ok1232_0
theorem pt_c1233 : pt_m1233.2.2.2.2.2.2.all (pm_chk pt_cl pt_me 1233) = true := by
  exact pt_ok1233_0
theorem pt_c1234 : pt_m1234.2.2.2.2.2.2.all (pm_chk pt_cl pt_me 1234) = true := by
  exact pt_ok1234_0
theorem pt_c1235 : pt_m1235.2.2.2.2.2.2.all (pm_chk pt_cl pt_me 1235) = true := by
  exact pt_ok1235_0
theorem pt_c1227 : pt_m1227.2.2.2.2.2.2.all (pm_chk pt_cl pt_me 1227) = true := by
  exact pt_ok1227_0
theorem pt_c1224 : pt_m1224.2.2.2.2.2.2.all (pm_chk pt_cl pt_me 1224) = true := by
  exact pt_ok1224_0
theorem pt_c1220 : pt_m1220.2.2.2.2.2.2.all (pm_chk pt_cl pt_me 1220) = true := by
  exact pt_ok1220_0
theorem pt_c1217 : pt_m1217.2.2.2.2.2.2.all (pm_chk pt_cl pt_me 1217) = true := by
  show (pt_q1217_0 ++ pt_q1217_1).all _ = true
  rw [List.all_append, pt_ok1217_0, pt_ok1217_1]
  rfl
theorem pt_c1223 : pt_m1223.2.2.2.2.2.2.all (pm_chk pt_cl pt_me 1223) = true := by
  exact pt_ok1223_0
theorem pt_c1228 : pt_m1228.2.2.2.2.2.2.all (pm_chk pt_cl pt_me 1228) = true := by
  show (pt_q1228_0 ++ pt_q1228_1).all _ = true
  rw [List.all_append, pt_ok1228_0, pt_ok1228_1]
  rfl
theorem pt_c1219 : pt_m1219.2.2.2.2.2.2.all (pm_chk pt_cl pt_me 1219) = true := by
  exact pt_ok1219_0
theorem pt_c1229 : pt_m1229.2.2.2.2.2.2.all (pm_chk pt_cl pt_me 1229) = true := by
  exact pt_ok1229_0
theorem pt_c1225 : pt_m1225.2.2.2.2.2.2.all (pm_chk pt_cl pt_me 1225) = true := by
  exact pt_ok1225_0
theorem pt_c1230 : pt_m1230.2.2.2.2.2.2.all (pm_chk pt_cl pt_me 1230) = true := by
  exact pt_ok1230_0
theorem pt_c1218 : pt_m1218.2.2.2.2.2.2.all (pm_chk pt_cl pt_me 1218) = true := by
  exact pt_ok1218_0
theorem pt_c1239 : pt_m1239.2.2.2.2.2.2.all (pm_chk pt_cl pt_me 1239) = true := by
  exact pt_ok1239_0
theorem pt_c1241 : pt_m1241.2.2.2.2.2.2.all (pm_chk pt_cl pt_me 1241) = true := by
  exact pt_ok1241_0
theorem pt_c1251 : pt_m1251.2.2.2.2.2.2.all (pm_chk pt_cl pt_me 1251) = true := by
  exact pt_ok1251_0
theorem pt_c1246 : pt_m1246.2.2.2.2.2.2.all (pm_chk pt_cl pt_me 1246) = true := by
  exact pt_ok1246_0
theorem pt_c1242 : pt_m1242.2.2.2.2.2.2.all (pm_chk pt_cl pt_me 1242) = true := by
  exact pt_ok1242_0
theorem pt_c1250 : pt_m1250.2.2.2.2.2.2.all (pm_chk pt_cl pt_me 1250) = true := by
  exact pt_ok1250_0
theorem pt_c1203 : pt_m1203.2.2.2.2.2.2.all (pm_chk pt_cl pt_me 1203) = true := by
  exact pt_ok1203_0
theorem pt_c1252 : pt_m1252.2.2.2.2.2.2.all (pm_chk pt_cl pt_me 1252) = true := by
  exact pt_ok1252_0
theorem pt_c1247 : pt_m1247.2.2.2.2.2.2.all (pm_chk pt_cl pt_me 1247) = true := by
  exact pt_ok1247_0
theorem pt_c1249 : pt_m1249.2.2.2.2.2.2.all (pm_chk pt_cl pt_me 1249) = true := by
  exact pt_ok1249_0
theorem pt_c1253 : pt_m1253.2.2.2.2.2.2.all (pm_chk pt_cl pt_me 1253) = true := by
  exact pt_ok1253_0
theorem pt_c1245 : pt_m1245.2.2.2.2.2.2.all (pm_chk pt_cl pt_me 1245) = true := by
  exact pt_ok1245_0
theorem pt_c1244 : pt_m1244.2.2.2.2.2.2.all (pm_chk pt_cl pt_me 1244) = true := by
  exact pt_ok1244_0
theorem pt_c1243 : pt_m1243.2.2.2.2.2.2.all (pm_chk pt_cl pt_me 1243) = true := by
  exact pt_ok1243_0
theorem pt_c1257 : pt_m1257.2.2.2.2.2.2.all (pm_chk pt_cl pt_me 1257) = true := by
  exact pt_ok1257_0
theorem pt_c1248 : pt_m1248.2.2.2.2.2.2.all (pm_chk pt_cl pt_me 1248) = true := by
  exact pt_ok1248_0
theorem pt_c1256 : pt_m1256.2.2.2.2.2.2.all (pm_chk pt_cl pt_me 1256) = true := by
  exact pt_ok1256_0
theorem pt_c1255 : pt_m1255.2.2.2.2.2.2.all (pm_chk pt_cl pt_me 1255) = true := by
  exact pt_ok1255_0
theorem pt_c1254 : pt_m1254.2.2.2.2.2.2.all (pm_chk pt_cl pt_me 1254) = true := by
  exact pt_ok1254_0
theorem pt_c1258 : pt_m1258.2.2.2.2.2.2.all (pm_chk pt_cl pt_me 1258) = true := by
  exact pt_ok1258_0
theorem pt_c1268 : pt_m1268.2.2.2.2.2.2.all (pm_chk pt_cl pt_me 1268) = true := by
  exact pt_ok1268_0
theorem pt_c1266 : pt_m1266.2.2.2.2.2.2.all (pm_chk pt_cl pt_me 1266) = true := by
  show (pt_q1266_0 ++ pt_q1266_1).all _ = true
  rw [List.all_append, pt_ok1266_0, pt_ok1266_1]
  rfl
theorem pt_c1260 : pt_m1260.2.2.2.2.2.2.all (pm_chk pt_cl pt_me 1260) = true := by
  show (pt_q1260_0 ++ pt_q1260_1).all _ = true
  rw [List.all_append, pt_ok1260_0, pt_ok1260_1]
  rfl
theorem pt_c1259 : pt_m1259.2.2.2.2.2.2.all (pm_chk pt_cl pt_me 1259) = true := by
  exact pt_ok1259_0
theorem pt_c1206 : pt_m1206.2.2.2.2.2.2.all (pm_chk pt_cl pt_me 1206) = true := by
  exact pt_ok1206_0
theorem pt_c1261 : pt_m1261.2.2.2.2.2.2.all (pm_chk pt_cl pt_me 1261) = true := by
  exact pt_ok1261_0
theorem pt_c1262 : pt_m1262.2.2.2.2.2.2.all (pm_chk pt_cl pt_me 1262) = true := by
  exact pt_ok1262_0
theorem pt_c1265 : pt_m1265.2.2.2.2.2.2.all (pm_chk pt_cl pt_me 1265) = true := by
  exact pt_ok1265_0
theorem pt_c1263 : pt_m1263.2.2.2.2.2.2.all (pm_chk pt_cl pt_me 1263) = true := by
  exact pt_ok1263_0
theorem pt_c1264 : pt_m1264.2.2.2.2.2.2.all (pm_chk pt_cl pt_me 1264) = true := by
  exact pt_ok1264_0
theorem pt_c1269 : pt_m1269.2.2.2.2.2.2.all (pm_chk pt_cl pt_me 1269) = true := by
  exact pt_ok1269_0
theorem pt_c1267 : pt_m1267.2.2.2.2.2.2.all (pm_chk pt_cl pt_me 1267) = true := by
  exact pt_ok1267_0
theorem pt_c1270 : pt_m1270.2.2.2.2.2.2.all (pm_chk pt_cl pt_me 1270) = true := by
  exact pt_ok1270_0
theorem pt_c1272 : pt_m1272.2.2.2.2.2.2.all (pm_chk pt_cl pt_me 1272) = true := by
  exact pt_ok1272_0
theorem pt_c1271 : pt_m1271.2.2.2.2.2.2.all (pm_chk pt_cl pt_me 1271) = true := by
  exact pt_ok1271_0
theorem pt_c1274 : pt_m1274.2.2.2.2.2.2.all (pm_chk pt_cl pt_me 1274) = true := by
  show (pt_q1274_0 ++ pt_q1274_1).all _ = true
  rw [List.all_append, pt_ok1274_0, pt_ok1274_1]
  rfl
theorem pt_c1273 : pt_m1273.2.2.2.2.2.2.all (pm_chk pt_cl pt_me 1273) = true := by
  exact pt_ok1273_0
theorem pt_c1277 : pt_m1277.2.2.2.2.2.2.all (pm_chk pt_cl pt_me 1277) = true := by
  show (pt_q1277_0 ++ pt_q1277_1).all _ = true
  rw [List.all_append, pt_ok1277_0, pt_ok1277_1]
  rfl
theorem pt_c1276 : pt_m1276.2.2.2.2.2.2.all (pm_chk pt_cl pt_me 1276) = true := by
  show (pt_q1276_0 ++ pt_q1276_1).all _ = true
  rw [List.all_append, pt_ok1276_0, pt_ok1276_1]
  rfl
theorem pt_c1275 : pt_m1275.2.2.2.2.2.2.all (pm_chk pt_cl pt_me 1275) = true := by
  exact pt_ok1275_0
theorem pt_c1278 : pt_m1278.2.2.2.2.2.2.all (pm_chk pt_cl pt_me 1278) = true := by
  exact pt_ok1278_0
theorem pt_c1279 : pt_m1279.2.2.2.2.2.2.all (pm_chk pt_cl pt_me 1279) = true := by
  show (pt_q1279_0 ++ pt_q1279_1).all _ = true
  rw [List.all_append, pt_ok1279_0, pt_ok1279_1]
  rfl
theorem pt_c1281 : pt_m1281.2.2.2.2.2.2.all (pm_chk pt_cl pt_me 1281) = true := by
  exact pt_ok1281_0
theorem pt_c1280 : pt_m1280.2.2.2.2.2.2.all (pm_chk pt_cl pt_me 1280) = true := by
  exact pt_ok1280_0
theorem pt_c1292 : pt_m1292.2.2.2.2.2.2.all (pm_chk pt_cl pt_me 1292) = true := by
  exact pt_ok1292_0
theorem pt_c1283 : pt_m1283.2.2.2.2.2.2.all (pm_chk pt_cl pt_me 1283) = true := by
  show (pt_q1283_0 ++ pt_q1283_1).all _ = true
  rw [List.all_append, pt_ok1283_0, pt_ok1283_1]
  rfl
theorem pt_c1282 : pt_m1282.2.2.2.2.2.2.all (pm_chk pt_cl pt_me 1282) = true := by
  exact pt_ok1282_0
theorem pt_c1288 : pt_m1288.2.2.2.2.2.2.all (pm_chk pt_cl pt_me 1288) = true := by
  exact pt_ok1288_0
theorem pt_c1287 : pt_m1287.2.2.2.2.2.2.all (pm_chk pt_cl pt_me 1287) = true := by
  exact pt_ok1287_0
theorem pt_c1286 : pt_m1286.2.2.2.2.2.2.all (pm_chk pt_cl pt_me 1286) = true := by
  exact pt_ok1286_0
theorem pt_c1284 : pt_m1284.2.2.2.2.2.2.all (pm_chk pt_cl pt_me 1284) = true := by
  exact pt_ok1284_0
theorem pt_c1285 : pt_m1285.2.2.2.2.2.2.all (pm_chk pt_cl pt_me 1285) = true := by
  exact pt_ok1285_0
theorem pt_c1293 : pt_m1293.2.2.2.2.2.2.all (pm_chk pt_cl pt_me 1293) = true := by
  exact pt_ok1293_0
theorem pt_c1291 : pt_m1291.2.2.2.2.2.2.all (pm_chk pt_cl pt_me 1291) = true := by
  exact pt_ok1291_0
theorem pt_c1289 : pt_m1289.2.2.2.2.2.2.all (pm_chk pt_cl pt_me 1289) = true := by
  exact pt_ok1289_0
theorem pt_c1290 : pt_m1290.2.2.2.2.2.2.all (pm_chk pt_cl pt_me 1290) = true := by
  show (pt_q1290_0 ++ pt_q1290_1).all _ = true
  rw [List.all_append, pt_ok1290_0, pt_ok1290_1]
  rfl
theorem pt_c1294 : pt_m1294.2.2.2.2.2.2.all (pm_chk pt_cl pt_me 1294) = true := by
  exact pt_ok1294_0
theorem pt_c1295 : pt_m1295.2.2.2.2.2.2.all (pm_chk pt_cl pt_me 1295) = true := by
  exact pt_ok1295_0
theorem pt_c1296 : pt_m1296.2.2.2.2.2.2.all (pm_chk pt_cl pt_me 1296) = true := by
  exact pt_ok1296_0
theorem pt_c1298 : pt_m1298.2.2.2.2.2.2.all (pm_chk pt_cl pt_me 1298) = true := by
  exact pt_ok1298_0
theorem pt_c1297 : pt_m1297.2.2.2.2.2.2.all (pm_chk pt_cl pt_me 1297) = true := by
  exact pt_ok1297_0
theorem pt_c1300 : pt_m1300.2.2.2.2.2.2.all (pm_chk pt_cl pt_me 1300) = true := by
  exact pt_ok1300_0
theorem pt_c1299 : pt_m1299.2.2.2.2.2.2.all (pm_chk pt_cl pt_me 1299) = true := by
  exact pt_ok1299_0
theorem pt_c1301 : pt_m1301.2.2.2.2.2.2.all (pm_chk pt_cl pt_me 1301) = true := by
  exact pt_ok1301_0
theorem pt_c1302 : pt_m1302.2.2.2.2.2.2.all (pm_chk pt_cl pt_me 1302) = true := by
  exact pt_ok1302_0
theorem pt_c1303 : pt_m1303.2.2.2.2.2.2.all (pm_chk pt_cl pt_me 1303) = true := by
  exact pt_ok1303_0
theorem pt_c1304 : pt_m1304.2.2.2.2.2.2.all (pm_chk pt_cl pt_me 1304) = true := by
  exact pt_ok1304_0
theorem pt_c1306 : pt_m1306.2.2.2.2.2.2.all (pm_chk pt_cl pt_me 1306) = true := by
  exact pt_ok1306_0
theorem pt_c1305 : pt_m1305.2.2.2.2.2.2.all (pm_chk pt_cl pt_me 1305) = true := by
  exact pt_ok1305_0
theorem pt_c1307 : pt_m1307.2.2.2.2.2.2.all (pm_chk pt_cl pt_me 1307) = true := by
  exact pt_ok1307_0
theorem pt_c1308 : pt_m1308.2.2.2.2.2.2.all (pm_chk pt_cl pt_me 1308) = true := by
  exact pt_ok1308_0
theorem pt_c1309 : pt_m1309.2.2.2.2.2.2.all (pm_chk pt_cl pt_me 1309) = true := by
  show (pt_q1309_0 ++ pt_q1309_1).all _ = true
  rw [List.all_append, pt_ok1309_0, pt_ok1309_1]
  rfl
theorem pt_c1316 : pt_m1316.2.2.2.2.2.2.all (pm_chk pt_cl pt_me 1316) = true := by
  exact pt_ok1316_0
theorem pt_c1315 : pt_m1315.2.2.2.2.2.2.all (pm_chk pt_cl pt_me 1315) = true := by
  exact pt_ok1315_0
theorem pt_c1310 : pt_m1310.2.2.2.2.2.2.all (pm_chk pt_cl pt_me 1310) = true := by
  exact pt_ok1310_0
theorem pt_c1314 : pt_m1314.2.2.2.2.2.2.all (pm_chk pt_cl pt_me 1314) = true := by
  exact pt_ok1314_0
theorem pt_c1311 : pt_m1311.2.2.2.2.2.2.all (pm_chk pt_cl pt_me 1311) = true := by
  exact pt_ok1311_0
theorem pt_c1313 : pt_m1313.2.2.2.2.2.2.all (pm_chk pt_cl pt_me 1313) = true := by
  exact pt_ok1313_0
theorem pt_c1312 : pt_m1312.2.2.2.2.2.2.all (pm_chk pt_cl pt_me 1312) = true := by
  exact pt_ok1312_0
theorem pt_c1317 : pt_m1317.2.2.2.2.2.2.all (pm_chk pt_cl pt_me 1317) = true := by
  exact pt_ok1317_0
theorem pt_c1318 : pt_m1318.2.2.2.2.2.2.all (pm_chk pt_cl pt_me 1318) = true := by
  exact pt_ok1318_0
theorem pt_c1240 : pt_m1240.2.2.2.2.2.2.all (pm_chk pt_cl pt_me 1240) = true := by
  exact pt_ok1240_0
theorem pt_c1319 : pt_m1319.2.2.2.2.2.2.all (pm_chk pt_cl pt_me 1319) = true := by
  exact pt_ok1319_0
theorem pt_c1321 : pt_m1321.2.2.2.2.2.2.all (pm_chk pt_cl pt_me 1321) = true := by
  exact pt_ok1321_0
theorem pt_c1320 : pt_m1320.2.2.2.2.2.2.all (pm_chk pt_cl pt_me 1320) = true := by
  show (pt_q1320_0 ++ pt_q1320_1).all _ = true
  rw [List.all_append, pt_ok1320_0, pt_ok1320_1]
  rfl
theorem pt_c1323 : pt_m1323.2.2.2.2.2.2.all (pm_chk pt_cl pt_me 1323) = true := by
  exact pt_ok1323_0
theorem pt_c1322 : pt_m1322.2.2.2.2.2.2.all (pm_chk pt_cl pt_me 1322) = true := by
  exact pt_ok1322_0
theorem pt_c1325 : pt_m1325.2.2.2.2.2.2.all (pm_chk pt_cl pt_me 1325) = true := by
  exact pt_ok1325_0
theorem pt_c1324 : pt_m1324.2.2.2.2.2.2.all (pm_chk pt_cl pt_me 1324) = true := by
  exact pt_ok1324_0
theorem pt_c1326 : pt_m1326.2.2.2.2.2.2.all (pm_chk pt_cl pt_me 1326) = true := by
  show (pt_q1326_0 ++ pt_q1326_1).all _ = true
  rw [List.all_append, pt_ok1326_0, pt_ok1326_1]
  rfl
theorem pt_c1327 : pt_m1327.2.2.2.2.2.2.all (pm_chk pt_cl pt_me 1327) = true := by
  exact pt_ok1327_0
theorem pt_c1328 : pt_m1328.2.2.2.2.2.2.all (pm_chk pt_cl pt_me 1328) = true := by
  exact pt_ok1328_0
theorem pt_c1329 : pt_m1329.2.2.2.2.2.2.all (pm_chk pt_cl pt_me 1329) = true := by
  show (pt_q1329_0 ++ pt_q1329_1 ++ pt_q1329_2 ++ pt_q1329_3).all _ = true
  rw [List.all_append, List.all_append, List.all_append, pt_ok1329_0, pt_ok1329_1, pt_ok1329_2, pt_ok1329_3]
  rfl
theorem pt_c1 : pt_m1.2.2.2.2.2.2.all (pm_chk pt_cl pt_me 1) = true := by
  show (pt_q1_0 ++ pt_q1_1 ++ pt_q1_2 ++ pt_q1_3 ++ pt_q1_4 ++ pt_q1_5 ++ pt_q1_6 ++ pt_q1_7 ++ pt_q1_8 ++ pt_q1_9 ++ pt_q1_10 ++ pt_q1_11 ++ pt_q1_12 ++ pt_q1_13 ++ pt_q1_14 ++ pt_q1_15 ++ pt_q1_16 ++ pt_q1_17).all _ = true
  rw [List.all_append, List.all_append, List.all_append, List.all_append, List.all_append, List.all_append, List.all_append, List.all_append, List.all_append, List.all_append, List.all_append, List.all_append, List.all_append, List.all_append, List.all_append, List.all_append, List.all_append, pt_ok1_0, pt_ok1_1, pt_ok1_2, pt_ok1_3, pt_ok1_4, pt_ok1_5, pt_ok1_6, pt_ok1_7, pt_ok1_8, pt_ok1_9, pt_ok1_10, pt_ok1_11, pt_ok1_12, pt_ok1_13, pt_ok1_14, pt_ok1_15, pt_ok1_16, pt_ok1_17]
  rfl
theorem pt_pg0 : ∀ b, (pt_p0.getD b pt_m0).2.2.2.2.2.2.all (pm_chk pt_cl pt_me (0 + b)) = true := fun b => match b with
  | 0 => rfl
  | 1 => pt_c1
  | _ + 2 => rfl
theorem pt_pg1 : ∀ b, (pt_p1.getD b pt_m0).2.2.2.2.2.2.all (pm_chk pt_cl pt_me (100 + b)) = true := fun b => match b with
  | 0 => rfl
  | 1 => pt_c101
  | 2 => pt_c102
  | 3 => pt_c103
  | 4 => pt_c104
  | 5 => pt_c105
  | 6 => pt_c106
  | 7 => pt_c107
  | 8 => pt_c108
  | 9 => pt_c109
  | 10 => pt_c110
  | 11 => pt_c111
  | 12 => pt_c112
  | 13 => pt_c113
  | 14 => pt_c114
  | 15 => pt_c115
  | 16 => pt_c116
  | 17 => pt_c117
  | 18 => pt_c118
  | 19 => pt_c119
  | 20 => pt_c120
  | 21 => pt_c121
  | 22 => pt_c122
  | 23 => pt_c123
  | 24 => pt_c124
  | 25 => pt_c125
  | 26 => pt_c126
  | 27 => pt_c127
  | 28 => pt_c128
  | 29 => pt_c129
  | 30 => pt_c130
  | 31 => pt_c131
  | 32 => pt_c132
  | 33 => pt_c133
  | 34 => pt_c134
  | 35 => pt_c135
  | 36 => pt_c136
  | 37 => pt_c137
  | 38 => pt_c138
  | 39 => pt_c139
  | 40 => pt_c140
  | 41 => pt_c141
  | 42 => pt_c142
  | 43 => pt_c143
  | 44 => pt_c144
  | 45 => pt_c145
  | 46 => pt_c146
  | 47 => pt_c147
  | 48 => pt_c148
  | 49 => pt_c149
  | 50 => pt_c150
  | 51 => pt_c151
  | _ + 52 => rfl
theorem pt_pg2 : ∀ b, (pt_p2.getD b pt_m0).2.2.2.2.2.2.all (pm_chk pt_cl pt_me (200 + b)) = true := fun b => match b with
  | 0 => rfl
  | 1 => pt_c201
  | 2 => pt_c202
  | 3 => pt_c203
  | 4 => pt_c204
  | 5 => pt_c205
  | 6 => pt_c206
  | 7 => pt_c207
  | 8 => pt_c208
  | 9 => pt_c209
  | 10 => pt_c210
  | 11 => pt_c211
  | 12 => pt_c212
  | 13 => pt_c213
  | 14 => pt_c214
  | 15 => pt_c215
  | 16 => pt_c216
  | _ + 17 => rfl
theorem pt_pg3 : ∀ b, (pt_p3.getD b pt_m0).2.2.2.2.2.2.all (pm_chk pt_cl pt_me (300 + b)) = true := fun b => match b with
  | 0 => rfl
  | 1 => pt_c301
  | 2 => pt_c302
  | 3 => pt_c303
  | 4 => pt_c304
  | 5 => pt_c305
  | 6 => pt_c306
  | 7 => pt_c307
  | 8 => pt_c308
  | 9 => pt_c309
  | 10 => pt_c310
  | 11 => pt_c311
  | 12 => pt_c312
  | 13 => pt_c313
  | 14 => pt_c314
  | 15 => pt_c315
  | 16 => pt_c316
  | 17 => pt_c317
  | 18 => pt_c318
  | 19 => pt_c319
  | 20 => pt_c320
  | 21 => pt_c321
  | 22 => pt_c322
  | 23 => pt_c323
  | 24 => pt_c324
  | 25 => pt_c325
  | 26 => pt_c326
  | 27 => pt_c327
  | 28 => pt_c328
  | _ + 29 => rfl
theorem pt_pg4 : ∀ b, (pt_p4.getD b pt_m0).2.2.2.2.2.2.all (pm_chk pt_cl pt_me (400 + b)) = true := fun b => match b with
  | 0 => rfl
  | 1 => pt_c401
  | 2 => pt_c402
  | 3 => pt_c403
  | 4 => pt_c404
  | 5 => pt_c405
  | 6 => pt_c406
  | 7 => pt_c407
  | 8 => pt_c408
  | 9 => pt_c409
  | 10 => pt_c410
  | 11 => pt_c411
  | 12 => pt_c412
  | 13 => pt_c413
  | _ + 14 => rfl
theorem pt_pg5 : ∀ b, (pt_p5.getD b pt_m0).2.2.2.2.2.2.all (pm_chk pt_cl pt_me (500 + b)) = true := fun b => match b with
  | 0 => rfl
  | 1 => pt_c501
  | 2 => pt_c502
  | 3 => pt_c503
  | 4 => pt_c504
  | 5 => pt_c505
  | 6 => pt_c506
  | 7 => pt_c507
  | 8 => pt_c508
  | 9 => pt_c509
  | 10 => pt_c510
  | 11 => pt_c511
  | 12 => pt_c512
  | 13 => pt_c513
  | 14 => pt_c514
  | 15 => pt_c515
  | 16 => pt_c516
  | 17 => pt_c517
  | 18 => pt_c518
  | 19 => pt_c519
  | 20 => pt_c520
  | 21 => pt_c521
  | 22 => pt_c522
  | 23 => pt_c523
  | 24 => pt_c524
  | 25 => pt_c525
  | 26 => pt_c526
  | 27 => pt_c527
  | 28 => pt_c528
  | 29 => pt_c529
  | 30 => pt_c530
  | 31 => pt_c531
  | 32 => pt_c532
  | _ + 33 => rfl
theorem pt_pg6 : ∀ b, (pt_p6.getD b pt_m0).2.2.2.2.2.2.all (pm_chk pt_cl pt_me (600 + b)) = true := fun b => match b with
  | 0 => rfl
  | 1 => pt_c601
  | 2 => pt_c602
  | 3 => pt_c603
  | 4 => pt_c604
  | 5 => pt_c605
  | 6 => pt_c606
  | 7 => pt_c607
  | 8 => pt_c608
  | 9 => pt_c609
  | 10 => pt_c610
  | 11 => pt_c611
  | 12 => pt_c612
  | 13 => pt_c613
  | 14 => pt_c614
  | 15 => pt_c615
  | _ + 16 => rfl
theorem pt_pg7 : ∀ b, (pt_p7.getD b pt_m0).2.2.2.2.2.2.all (pm_chk pt_cl pt_me (700 + b)) = true := fun b => match b with
  | 0 => rfl
  | 1 => pt_c701
  | 2 => pt_c702
  | 3 => pt_c703
  | 4 => pt_c704
  | 5 => pt_c705
  | 6 => pt_c706
  | 7 => pt_c707
  | 8 => pt_c708
  | 9 => pt_c709
  | 10 => pt_c710
  | 11 => pt_c711
  | 12 => pt_c712
  | 13 => pt_c713
  | 14 => pt_c714
  | 15 => pt_c715
  | 16 => pt_c716
  | 17 => pt_c717
  | 18 => pt_c718
  | 19 => pt_c719
  | 20 => pt_c720
  | 21 => pt_c721
  | 22 => pt_c722
  | 23 => pt_c723
  | 24 => pt_c724
  | 25 => pt_c725
  | 26 => pt_c726
  | 27 => pt_c727
  | _ + 28 => rfl
theorem pt_pg8 : ∀ b, (pt_p8.getD b pt_m0).2.2.2.2.2.2.all (pm_chk pt_cl pt_me (800 + b)) = true := fun b => match b with
  | 0 => rfl
  | 1 => pt_c801
  | 2 => pt_c802
  | 3 => pt_c803
  | 4 => pt_c804
  | _ + 5 => rfl
theorem pt_pg9 : ∀ b, (pt_p9.getD b pt_m0).2.2.2.2.2.2.all (pm_chk pt_cl pt_me (900 + b)) = true := fun b => match b with
  | 0 => rfl
  | 1 => rfl
  | 2 => pt_c902
  | 3 => pt_c903
  | 4 => pt_c904
  | 5 => pt_c905
  | 6 => pt_c906
  | 7 => pt_c907
  | 8 => pt_c908
  | _ + 9 => rfl
theorem pt_pg10 : ∀ b, (pt_p10.getD b pt_m0).2.2.2.2.2.2.all (pm_chk pt_cl pt_me (1000 + b)) = true := fun b => match b with
  | 0 => rfl
  | 1 => pt_c1001
  | 2 => pt_c1002
  | 3 => pt_c1003
  | 4 => pt_c1004
  | 5 => pt_c1005
  | _ + 6 => rfl
theorem pt_pg12 : ∀ b, (pt_p12.getD b pt_m0).2.2.2.2.2.2.all (pm_chk pt_cl pt_me (1200 + b)) = true := fun b => match b with
  | 0 => rfl
  | 1 => pt_c1201
  | 2 => pt_c1202
  | 3 => pt_c1203
  | 4 => pt_c1204
  | 5 => pt_c1205
  | 6 => pt_c1206
  | 7 => pt_c1207
  | 8 => pt_c1208
  | 9 => pt_c1209
  | 10 => pt_c1210
  | 11 => pt_c1211
  | 12 => pt_c1212
  | 13 => pt_c1213
  | 14 => pt_c1214
  | 15 => pt_c1215
  | 16 => pt_c1216
  | 17 => pt_c1217
  | 18 => pt_c1218
  | 19 => pt_c1219
  | 20 => pt_c1220
  | 21 => pt_c1221
  | 22 => pt_c1222
  | 23 => pt_c1223
  | 24 => pt_c1224
  | 25 => pt_c1225
  | 26 => pt_c1226
  | 27 => pt_c1227
  | 28 => pt_c1228
  | 29 => pt_c1229
  | 30 => pt_c1230
  | 31 => pt_c1231
  | 32 => pt_c1232
  | 33 => pt_c1233
  | 34 => pt_c1234
  | 35 => pt_c1235
  | 36 => pt_c1236
  | 37 => pt_c1237
  | 38 => pt_c1238
  | 39 => pt_c1239
  | 40 => pt_c1240
  | 41 => pt_c1241
  | 42 => pt_c1242
  | 43 => pt_c1243
  | 44 => pt_c1244
  | 45 => pt_c1245
  | 46 => pt_c1246
  | 47 => pt_c1247
  | 48 => pt_c1248
  | 49 => pt_c1249
  | 50 => pt_c1250
  | 51 => pt_c1251
  | 52 => pt_c1252
  | 53 => pt_c1253
  | 54 => pt_c1254
  | 55 => pt_c1255
  | 56 => pt_c1256
  | 57 => pt_c1257
  | 58 => pt_c1258
  | 59 => pt_c1259
  | 60 => pt_c1260
  | 61 => pt_c1261
  | 62 => pt_c1262
  | 63 => pt_c1263
  | 64 => pt_c1264
  | 65 => pt_c1265
  | 66 => pt_c1266
  | 67 => pt_c1267
  | 68 => pt_c1268
  | 69 => pt_c1269
  | 70 => pt_c1270
  | 71 => pt_c1271
  | 72 => pt_c1272
  | 73 => pt_c1273
  | 74 => pt_c1274
  | 75 => pt_c1275
  | 76 => pt_c1276
  | 77 => pt_c1277
  | 78 => pt_c1278
  | 79 => pt_c1279
  | 80 => pt_c1280
  | 81 => pt_c1281
  | 82 => pt_c1282
  | 83 => pt_c1283
  | 84 => pt_c1284
  | 85 => pt_c1285
  | 86 => pt_c1286
  | 87 => pt_c1287
  | 88 => pt_c1288
  | 89 => pt_c1289
  | 90 => pt_c1290
  | 91 => pt_c1291
  | 92 => pt_c1292
  | 93 => pt_c1293
  | 94 => pt_c1294
  | 95 => pt_c1295
  | 96 => pt_c1296
  | 97 => pt_c1297
  | 98 => pt_c1298
  | 99 => pt_c1299
  | _ + 100 => rfl
theorem pt_pg13 : ∀ b, (pt_p13.getD b pt_m0).2.2.2.2.2.2.all (pm_chk pt_cl pt_me (1300 + b)) = true := fun b => match b with
  | 0 => pt_c1300
  | 1 => pt_c1301
  | 2 => pt_c1302
  | 3 => pt_c1303
  | 4 => pt_c1304
  | 5 => pt_c1305
  | 6 => pt_c1306
  | 7 => pt_c1307
  | 8 => pt_c1308
  | 9 => pt_c1309
  | 10 => pt_c1310
  | 11 => pt_c1311
  | 12 => pt_c1312
  | 13 => pt_c1313
  | 14 => pt_c1314
  | 15 => pt_c1315
  | 16 => pt_c1316
  | 17 => pt_c1317
  | 18 => pt_c1318
  | 19 => pt_c1319
  | 20 => pt_c1320
  | 21 => pt_c1321
  | 22 => pt_c1322
  | 23 => pt_c1323
  | 24 => pt_c1324
  | 25 => pt_c1325
  | 26 => pt_c1326
  | 27 => pt_c1327
  | 28 => pt_c1328
  | 29 => pt_c1329
  | _ + 30 => rfl
theorem pt_pg15 : ∀ b, (pt_p15.getD b pt_m0).2.2.2.2.2.2.all (pm_chk pt_cl pt_me (1500 + b)) = true := fun b => match b with
  | 0 => rfl
  | 1 => pt_c1501
  | 2 => pt_c1502
  | 3 => pt_c1503
  | 4 => pt_c1504
  | 5 => pt_c1505
  | 6 => pt_c1506
  | 7 => pt_c1507
  | 8 => pt_c1508
  | 9 => pt_c1509
  | 10 => pt_c1510
  | 11 => pt_c1511
  | 12 => pt_c1512
  | _ + 13 => rfl
theorem pt_pages : ∀ (a b : Nat), ((pt_ml.getD a []).getD b pt_m0).2.2.2.2.2.2.all (pm_chk pt_cl pt_me (100 * a + b)) = true := fun a => match a with
  | 0 => pt_pg0
  | 1 => pt_pg1
  | 2 => pt_pg2
  | 3 => pt_pg3
  | 4 => pt_pg4
  | 5 => pt_pg5
  | 6 => pt_pg6
  | 7 => pt_pg7
  | 8 => pt_pg8
  | 9 => pt_pg9
  | 10 => pt_pg10
  | 11 => fun _ => rfl
  | 12 => pt_pg12
  | 13 => pt_pg13
  | 14 => fun _ => rfl
  | 15 => pt_pg15
  | _ + 16 => fun _ => rfl
theorem pt_all (mi : Nat) (q : pm_Q) (h : q ∈ (pt_me mi).2.2.2.2.2.2) : pm_chk pt_cl pt_me mi q = true := by
  have h1 := pt_pages (mi / 100) (mi % 100)
  rw [show 100 * (mi / 100) + mi % 100 = mi by omega] at h1
  exact List.all_eq_true.mp h1 q h
def pm_ktb (kd : Nat) (ty : FieldType) : Bool := match kd with
  | 0 => decide (ty = .int)
  | 1 => decide (ty = .long)
  | 2 => decide (ty = .boolean)
  | 3 => match ty with
    | .object _ => true
    | .array _ => true
    | _ => false
  | _ => false
theorem pm_ktb_of {kd : Nat} {ty : FieldType} (h : pm_ktb kd ty = true) : pm_kt kd ty := by
  unfold pm_ktb at h
  split at h
  · show ty = .int; exact of_decide_eq_true h
  · show ty = .long; exact of_decide_eq_true h
  · show ty = .boolean; exact of_decide_eq_true h
  · split at h
    · exact Or.inl ⟨_, rfl⟩
    · exact Or.inr ⟨_, rfl⟩
    · cases h
  · cases h
theorem pt_sg1 : (List.range 100).all (fun r => match pt_Sg r with | .inr (c, ks) => decide (ks = pt_KS c) | .inl (_, n) => decide (n < 100000)) = true := by decide +kernel
theorem pt_sg2 (r : Nat) (h : 100 ≤ r) : pt_Sg r = .inl (9, 0) := by
  have h1 : pt_sl.length = 9 := rfl
  unfold pt_Sg
  rw [List.getD_eq_getElem?_getD, List.getD_eq_getElem?_getD, List.getElem?_eq_none (by omega : pt_sl.length ≤ r / 10)]
  rfl
theorem pt_sgo (r c : Nat) (ks : List Nat) (h : pt_Sg r = .inr (c, ks)) : ks = pt_KS c := by
  by_cases hr : r < 100
  · have := List.all_eq_true.mp pt_sg1 r (List.mem_range.mpr hr)
    rw [h] at this
    exact of_decide_eq_true this
  · rw [pt_sg2 r (by omega)] at h
    cases h
theorem pt_sga (r t n : Nat) (h : pt_Sg r = .inl (t, n)) : n < 100000 := by
  by_cases hr : r < 100
  · have := List.all_eq_true.mp pt_sg1 r (List.mem_range.mpr hr)
    rw [h] at this
    exact of_decide_eq_true this
  · rw [pt_sg2 r (by omega)] at h
    cases h
    decide
theorem pt_cw0 : (List.range 8).all (fun k => pm_wk (pt_il0.getD k 0) (u_lay "TurnCabinet" pt_T0 k)) = true := by decide +kernel
theorem pt_cn0 : ∀ a, a < 8 → ∀ b, b < 8 → a ≠ b → (pt_T0 a).2.1 ≠ (pt_T0 b).2.1 := by decide +kernel
theorem pt_ct0 : ∀ k, k < 8 → parseFieldDescriptor (pt_T0 k).2.2.1 = some (pt_tl0.getD k .int) := by decide +kernel
theorem pt_ck0 : ∀ k, k < 8 → pm_ktb ((pt_KS 0).getD k 9) (pt_tl0.getD k .int) = true := by decide +kernel
theorem pt_cw1 : (List.range 2).all (fun k => pm_wk (pt_il1.getD k 0) (u_lay "TurnCabinet$Tape" pt_T1 k)) = true := by decide +kernel
theorem pt_cn1 : ∀ a, a < 2 → ∀ b, b < 2 → a ≠ b → (pt_T1 a).2.1 ≠ (pt_T1 b).2.1 := by decide +kernel
theorem pt_ct1 : ∀ k, k < 2 → parseFieldDescriptor (pt_T1 k).2.2.1 = some (pt_tl1.getD k .int) := by decide +kernel
theorem pt_ck1 : ∀ k, k < 2 → pm_ktb ((pt_KS 1).getD k 9) (pt_tl1.getD k .int) = true := by decide +kernel
theorem pt_cw2 : (List.range 16).all (fun k => pm_wk (pt_il2.getD k 0) (u_lay "TurnCabinet$House" pt_T2 k)) = true := by decide +kernel
theorem pt_cn2 : ∀ a, a < 16 → ∀ b, b < 16 → a ≠ b → (pt_T2 a).2.1 ≠ (pt_T2 b).2.1 := by decide +kernel
theorem pt_ct2 : ∀ k, k < 16 → parseFieldDescriptor (pt_T2 k).2.2.1 = some (pt_tl2.getD k .int) := by decide +kernel
theorem pt_ck2 : ∀ k, k < 16 → pm_ktb ((pt_KS 2).getD k 9) (pt_tl2.getD k .int) = true := by decide +kernel
theorem pt_cw3 : (List.range 16).all (fun k => pm_wk (pt_il3.getD k 0) (u_lay "TurnCabinet$Reader" pt_T3 k)) = true := by decide +kernel
theorem pt_cn3 : ∀ a, a < 16 → ∀ b, b < 16 → a ≠ b → (pt_T3 a).2.1 ≠ (pt_T3 b).2.1 := by decide +kernel
theorem pt_ct3 : ∀ k, k < 16 → parseFieldDescriptor (pt_T3 k).2.2.1 = some (pt_tl3.getD k .int) := by decide +kernel
theorem pt_ck3 : ∀ k, k < 16 → pm_ktb ((pt_KS 3).getD k 9) (pt_tl3.getD k .int) = true := by decide +kernel
theorem pt_cw4 : (List.range 7).all (fun k => pm_wk (pt_il4.getD k 0) (u_lay "TurnCabinet$Picks" pt_T4 k)) = true := by decide +kernel
theorem pt_cn4 : ∀ a, a < 7 → ∀ b, b < 7 → a ≠ b → (pt_T4 a).2.1 ≠ (pt_T4 b).2.1 := by decide +kernel
theorem pt_ct4 : ∀ k, k < 7 → parseFieldDescriptor (pt_T4 k).2.2.1 = some (pt_tl4.getD k .int) := by decide +kernel
theorem pt_ck4 : ∀ k, k < 7 → pm_ktb ((pt_KS 4).getD k 9) (pt_tl4.getD k .int) = true := by decide +kernel
theorem pt_cw5 : (List.range 3).all (fun k => pm_wk (pt_il5.getD k 0) (u_lay "TurnCabinet$Shares" pt_T5 k)) = true := by decide +kernel
theorem pt_cn5 : ∀ a, a < 3 → ∀ b, b < 3 → a ≠ b → (pt_T5 a).2.1 ≠ (pt_T5 b).2.1 := by decide +kernel
theorem pt_ct5 : ∀ k, k < 3 → parseFieldDescriptor (pt_T5 k).2.2.1 = some (pt_tl5.getD k .int) := by decide +kernel
theorem pt_ck5 : ∀ k, k < 3 → pm_ktb ((pt_KS 5).getD k 9) (pt_tl5.getD k .int) = true := by decide +kernel
theorem pt_cw6 : (List.range 15).all (fun k => pm_wk (pt_il6.getD k 0) (u_lay "TurnCabinet$Coalitions" pt_T6 k)) = true := by decide +kernel
theorem pt_cn6 : ∀ a, a < 15 → ∀ b, b < 15 → a ≠ b → (pt_T6 a).2.1 ≠ (pt_T6 b).2.1 := by decide +kernel
theorem pt_ct6 : ∀ k, k < 15 → parseFieldDescriptor (pt_T6 k).2.2.1 = some (pt_tl6.getD k .int) := by decide +kernel
theorem pt_ck6 : ∀ k, k < 15 → pm_ktb ((pt_KS 6).getD k 9) (pt_tl6.getD k .int) = true := by decide +kernel
theorem pt_cw7 : (List.range 8).all (fun k => pm_wk (pt_il7.getD k 0) (u_lay "TurnCabinet$Forming" pt_T7 k)) = true := by decide +kernel
theorem pt_cn7 : ∀ a, a < 8 → ∀ b, b < 8 → a ≠ b → (pt_T7 a).2.1 ≠ (pt_T7 b).2.1 := by decide +kernel
theorem pt_ct7 : ∀ k, k < 8 → parseFieldDescriptor (pt_T7 k).2.2.1 = some (pt_tl7.getD k .int) := by decide +kernel
theorem pt_ck7 : ∀ k, k < 8 → pm_ktb ((pt_KS 7).getD k 9) (pt_tl7.getD k .int) = true := by decide +kernel
theorem pt_cw8 : (List.range 8).all (fun k => pm_wk (pt_il8.getD k 0) (u_lay "TurnCabinet$Cabinet" pt_T8 k)) = true := by decide +kernel
theorem pt_cn8 : ∀ a, a < 8 → ∀ b, b < 8 → a ≠ b → (pt_T8 a).2.1 ≠ (pt_T8 b).2.1 := by decide +kernel
theorem pt_ct8 : ∀ k, k < 8 → parseFieldDescriptor (pt_T8 k).2.2.1 = some (pt_tl8.getD k .int) := by decide +kernel
theorem pt_ck8 : ∀ k, k < 8 → pm_ktb ((pt_KS 8).getD k 9) (pt_tl8.getD k .int) = true := by decide +kernel
theorem pt_cw9 : (List.range 66).all (fun k => pm_wk (pt_il9.getD k 0) (u_lay "TurnCabinetModel" pt_T9 k)) = true := by decide +kernel
theorem pt_cn9 : ∀ a, a < 66 → ∀ b, b < 66 → a ≠ b → (pt_T9 a).2.1 ≠ (pt_T9 b).2.1 := by decide +kernel
theorem pt_ct9 : ∀ k, k < 66 → parseFieldDescriptor (pt_T9 k).2.2.1 = some (pt_tl9.getD k .int) := by decide +kernel
theorem pt_ck9 : ∀ k, k < 66 → pm_ktb ((pt_KS 9).getD k 9) (pt_tl9.getD k .int) = true := by decide +kernel
theorem pt_lay {C : String} {T : u_T} {N : Nat} {il : List Nat} (h : (List.range N).all (fun k => pm_wk (il.getD k 0) (u_lay C T k)) = true) : ∀ w ∈ u_ws C T N, w ∈ pm_G := by
  intro w hw
  obtain ⟨k, h1, rfl⟩ := List.mem_map.mp hw
  exact pm_wk_of (List.all_eq_true.mp h k h1)
theorem pt_E1 : pm_E1 pt_me pt_Sg pt_cl := by
  refine ⟨pt_all, ?_, fun r t n h _ => pt_sga r t n h⟩
  intro c C T N h
  match c, h with
  | 0, h => cases h; exact ⟨fun k => pt_tl0.getD k .int, pt_lay pt_cw0, pt_cn0, pt_ct0, fun r ks hr => by rw [pt_sgo r _ ks hr]; exact ⟨rfl, fun k hk => pm_ktb_of (pt_ck0 k hk)⟩⟩
  | 1, h => cases h; exact ⟨fun k => pt_tl1.getD k .int, pt_lay pt_cw1, pt_cn1, pt_ct1, fun r ks hr => by rw [pt_sgo r _ ks hr]; exact ⟨rfl, fun k hk => pm_ktb_of (pt_ck1 k hk)⟩⟩
  | 2, h => cases h; exact ⟨fun k => pt_tl2.getD k .int, pt_lay pt_cw2, pt_cn2, pt_ct2, fun r ks hr => by rw [pt_sgo r _ ks hr]; exact ⟨rfl, fun k hk => pm_ktb_of (pt_ck2 k hk)⟩⟩
  | 3, h => cases h; exact ⟨fun k => pt_tl3.getD k .int, pt_lay pt_cw3, pt_cn3, pt_ct3, fun r ks hr => by rw [pt_sgo r _ ks hr]; exact ⟨rfl, fun k hk => pm_ktb_of (pt_ck3 k hk)⟩⟩
  | 4, h => cases h; exact ⟨fun k => pt_tl4.getD k .int, pt_lay pt_cw4, pt_cn4, pt_ct4, fun r ks hr => by rw [pt_sgo r _ ks hr]; exact ⟨rfl, fun k hk => pm_ktb_of (pt_ck4 k hk)⟩⟩
  | 5, h => cases h; exact ⟨fun k => pt_tl5.getD k .int, pt_lay pt_cw5, pt_cn5, pt_ct5, fun r ks hr => by rw [pt_sgo r _ ks hr]; exact ⟨rfl, fun k hk => pm_ktb_of (pt_ck5 k hk)⟩⟩
  | 6, h => cases h; exact ⟨fun k => pt_tl6.getD k .int, pt_lay pt_cw6, pt_cn6, pt_ct6, fun r ks hr => by rw [pt_sgo r _ ks hr]; exact ⟨rfl, fun k hk => pm_ktb_of (pt_ck6 k hk)⟩⟩
  | 7, h => cases h; exact ⟨fun k => pt_tl7.getD k .int, pt_lay pt_cw7, pt_cn7, pt_ct7, fun r ks hr => by rw [pt_sgo r _ ks hr]; exact ⟨rfl, fun k hk => pm_ktb_of (pt_ck7 k hk)⟩⟩
  | 8, h => cases h; exact ⟨fun k => pt_tl8.getD k .int, pt_lay pt_cw8, pt_cn8, pt_ct8, fun r ks hr => by rw [pt_sgo r _ ks hr]; exact ⟨rfl, fun k hk => pm_ktb_of (pt_ck8 k hk)⟩⟩
  | 9, h => cases h; exact ⟨fun k => pt_tl9.getD k .int, pt_lay pt_cw9, pt_cn9, pt_ct9, fun r ks hr => by rw [pt_sgo r _ ks hr]; exact ⟨rfl, fun k hk => pm_ktb_of (pt_ck9 k hk)⟩⟩
  | n + 10, h => cases h
end
section
/-! ===== the law's start ===== -/
def pt_R (L : Nat) (xs : Nat → Int32) : pm_T := fun r => match r with
  | 200 => some (0, 8, pt_ord)
  | 202 => some (2, 74, pt_txt)
  | 203 => some (0, L, xs)
  | _ => none
def pt_S0 : pm_S := (0, fun _ _ => 0, fun _ _ => 0, fun _ _ => 0)
def pt_ad (base tO aK aV b : Nat) : Nat → Nat := fun a => if a < 200 then base + a else if a = 200 then tO else if a = 201 then aK else if a = 202 then aV else b
def pt_tm : Term := .string "TurnCabinet$Reader" 46
def pt_tx : String := "divisors need care tries tire office party seats at walk worth stance bar "
def pt_fl : List Cond := flatC (Jvm.Cond.and given_1 narrow_1)
theorem pt_f1 : Cond.eq (.static "java/lang/String" "COMPACT_STRINGS" "Z") (.int 1) ∈ pt_fl := by decide +kernel
theorem pt_f2 : Cond.isRef (.static "jdk/internal/util/Preconditions" "SIOOBE_FORMATTER" "Ljava/util/function/BiFunction;") ∈ pt_fl := by decide +kernel
theorem pt_f3 : Cond.arrayOf (.static "TurnCabinet$Coalitions" "ORDERS" "[I") .int ∈ pt_fl := by decide +kernel
theorem pt_f4 : Cond.eq (.length (.static "TurnCabinet$Coalitions" "ORDERS" "[I")) (.int (Int32.ofNat 8)) ∈ pt_fl := by decide +kernel
theorem pt_f5 : ∀ j, j < 8 → Cond.eq (.elem (.static "TurnCabinet$Coalitions" "ORDERS" "[I") (.int (Int32.ofNat j))) (.int (pt_ord j)) ∈ pt_fl := by decide +kernel
theorem pt_f6 : Cond.exactly pt_tm "java/lang/String" ∈ pt_fl := by decide +kernel
theorem pt_f7 : Cond.eq (.field pt_tm "java/lang/String" "coder" "B") (.int 0) ∈ pt_fl := by decide +kernel
theorem pt_f8 : Cond.arrayOf (.field pt_tm "java/lang/String" "value" "[B") .byte ∈ pt_fl := by decide +kernel
theorem pt_f9 : Cond.eq (.length (.field pt_tm "java/lang/String" "value" "[B")) (.int (Int32.ofNat 74)) ∈ pt_fl := by decide +kernel
set_option maxRecDepth 100000 in
theorem pt_f10 : ∀ j, j < 74 → Cond.eq (.elem (.field pt_tm "java/lang/String" "value" "[B") (.int (Int32.ofNat j))) (.int (([pt_txl].getD 0 []).getD j 0)) ∈ pt_fl := by decide +kernel
theorem pt_ssn : pm_ss pt_Sg 81 = 14012 := by decide +kernel
theorem pt_arr {args : Array Value} {s : State} {ty : FieldType} (h : (Cond.arrayClass ty).before args s = true) : ∃ cA, ArrOfT s cA ty ∧ s.vm.findClass ("[" ++ ty.toString) = some cA := by
  obtain ⟨cA, kA, comp, h1, h2, h3⟩ := Cond.arrayClass_spec h
  exact ⟨cA, fun n z => ⟨fun k h => (by cases h), kA, h2, comp, h3⟩, h1⟩
theorem pt_known {args : Array Value} {s : State} (hts : ∀ w ∈ lw_tbl, w.before args s = true) : ∃ D : va_G, ∀ (c : Nat) (q : vw_C), pt_cl[c]? = some q → u_Kn s q.1 q.2.1 q.2.2 (D.1 c) (D.2 c) := by
  have key : ∀ c : Nat, ∃ (cC : ClassId) (iS : Nat → Nat), ∀ q : vw_C, pt_cl[c]? = some q → u_Kn s q.1 q.2.1 q.2.2 cC iS := by
    intro c
    cases hq : pt_cl[c]? with
    | none => exact ⟨0, fun _ => 0, fun q h => by cases h⟩
    | some q =>
      obtain ⟨C, T, N⟩ := q
      obtain ⟨ty, hin, -⟩ := pt_E1.2.1 c C T N hq
      have hi : ∃ n, Cond.instantiable C n ∈ lw_tbl := by
        match c, hq with
        | 0, h => cases h; exact ⟨8, pm_wn_of (w := 143) (by decide +kernel)⟩
        | 1, h => cases h; exact ⟨2, pm_wn_of (w := 151) (by decide +kernel)⟩
        | 2, h => cases h; exact ⟨16, pm_wn_of (w := 165) (by decide +kernel)⟩
        | 3, h => cases h; exact ⟨16, pm_wn_of (w := 259) (by decide +kernel)⟩
        | 4, h => cases h; exact ⟨7, pm_wn_of (w := 373) (by decide +kernel)⟩
        | 5, h => cases h; exact ⟨3, pm_wn_of (w := 401) (by decide +kernel)⟩
        | 6, h => cases h; exact ⟨15, pm_wn_of (w := 417) (by decide +kernel)⟩
        | 7, h => cases h; exact ⟨8, pm_wn_of (w := 470) (by decide +kernel)⟩
        | 8, h => cases h; exact ⟨8, pm_wn_of (w := 504) (by decide +kernel)⟩
        | 9, h => cases h; exact ⟨66, pm_wn_of (w := 1397) (by decide +kernel)⟩
        | n + 10, h => cases h
      obtain ⟨n, hi⟩ := hi
      obtain ⟨cC, iS, hK⟩ := u_known hts (fun w hw => (List.mem_filter.mp (hin w hw)).1) (hts _ hi)
      exact ⟨cC, iS, fun q h => by cases h; exact hK⟩
  exact ⟨(fun c => Classical.choose (key c), fun c => Classical.choose (Classical.choose_spec (key c))), fun c q h => Classical.choose_spec (Classical.choose_spec (key c)) q h⟩
end
section
/-! THE CLAIM OUT OF ONE WALK OF THE LAW'S BODY. Your part is whole_start (and what it stands on); all else here is the same for every law, but numbers. -/
def R_law : String := "TurnCabinetLaw"
def lw_P (b : Addr) (xs : List Int32) (args : Array Value) (s : State) : Prop := args = #[.ref b] ∧ s.IntsAt b xs ∧ xs.length ≤ 3072 ∧ (Jvm.Cond.and given_1 narrow_1).before args s = true
def lw_Q (_ : Array Value) (s : State) (o : Outcome) (t : State) : Prop := o = .returned (some (.int 1)) ∧ Framed s o t [] 81 14012
def lw_Z (below : List Frame) (a : Array Value) (s : State) : State → Prop := fun t => ∃ o, t.status = .running ∧ Ended t below o ∧ lw_Q a s o t
/-- the law's own end, with 1 on the stack, nothing written that was there before, its room as the claim has it -/
theorem lw_ret {p : Program} {l : Launch} {e : Env} {s : State} {m : MethodId} {below : List Frame} {meth : Method} {c : Code} {b : Nat} (hx : p.tables.exec = Jvm.exec) (hb : c.code = code) (hr : meth.sig.returnType = ret) (hlocks : meth.locks = false) {pc : Nat} {H : Heap} {ls : Array Slot} (hdg : decode code pc = .ok (.ireturn, 1)) : W p l e room_1 s m #[Value.ref b] below meth c H [] 81 14012 (lw_Z below #[Value.ref b] s) (F0 m pc ls [.int 1]) := by
  intro T hT X
  obtain ⟨fs, hret, hrun, hended, hW, hframe⟩ := X.leave (v := some (.int 1)) (hlocks := hlocks) (fun h => by rw [hr] at h; cases h)
  have hmeth' : T.vm.method? m = some meth := X.method'
  refine ⟨T.setFrames fs, ?_, .returned (some (.int 1)), hrun, hended, rfl, ⟨_, rfl⟩, hW, hframe⟩
  jvm_step X.here [X.here.top, hx, hb, hdg, hmeth', hr, ret, narrow_b1]
  (try refine ⟨rfl, ?_⟩); (try refine ⟨rfl, ?_⟩)
  first | (intro acts; rw [hret _ acts rfl rfl rfl]) | rw [hret _ _ rfl rfl rfl]
  exact Steps.refl _
/-- what holds at the law's entry: the machine, the code, the tables' words (any of lw_tbl by 'hts w (by decide +kernel)'), the script of L ints xs at the cell b, what the Statement gives of the start (any of its parts by flat_of_before) -/
def lw_At (p : Program) (s : State) (m : MethodId) (meth : Method) (c : Code) (b L : Nat) (xs : Nat → Int32) : Prop :=
  p.tables.exec = Jvm.exec ∧ c.code = code ∧ meth.sig.returnType = ret ∧ c.maxLocals = 4 ∧ s.vm.findClass R_law = some m.cls ∧ (∀ w ∈ lw_tbl, w.before #[Value.ref b] s = true) ∧ va_X b L xs s s.heap ∧ b < s.heap.size ∧ meth.locks = false ∧ (Jvm.Cond.and given_1 narrow_1).before #[Value.ref b] s = true
-- ===== YOUR PART BEGINS =====
/-- what is left: the pure machine runs the law's own bytecode to 1, with 81 cells made -/
def lw_pure (L : Nat) (xs : Nat → Int32) : Prop := ∃ S' : pm_S, pm_sem pt_me pt_Sg (pt_R L xs) 1 0 [some (.ref 203), none, none, none] [] pt_S0 = some (some (.int 1), S') ∧ S'.1 = 81
theorem whole_of {p : Program} {e : Env} {s : State} {m : MethodId} {below : List Frame} {meth : Method} {c : Code} (l : Launch) {b L : Nat} {xs : Nat → Int32} (hpu : lw_pure L xs) (C0 : lw_At p s m meth c b L xs) : W p l e room_1 s m #[Value.ref b] below meth c s.heap [] 0 0 (lw_Z below #[Value.ref b] s) (entryFrame m ([Value.ref b] : List Value).toArray 4) := by
  obtain ⟨hx, hb, hr, hml, hown, hts, hX, hbl, hlocks, hgv⟩ := id C0
  have hs : ∀ w ∈ pt_fl, w.before #[Value.ref b] s = true := flat_of_before _ hgv
  obtain ⟨S', hrun, h81⟩ := hpu
  obtain ⟨n, hrun⟩ := pm_sem_iff.mp hrun
  have hA : ∀ a : Nat, a < s.heap.size → ¬ (s.heap.size ≤ a) := fun a h => by omega
  obtain ⟨D, hKn⟩ := pt_known hts
  obtain ⟨c0, a0, f0⟩ := pt_arr (hts (.arrayClass .int) (pm_wn_of (w := 257) (by decide +kernel)))
  obtain ⟨c1, a1, f1⟩ := pt_arr (hts (.arrayClass .long) (pm_wn_of (w := 371) (by decide +kernel)))
  obtain ⟨c2, a2, f2⟩ := pt_arr (hts (.arrayClass .byte) (pm_wn_of (w := 163) (by decide +kernel)))
  obtain ⟨c3, a3, f3⟩ := pt_arr (hts (.arrayClass .boolean) (pm_wn_of (w := 468) (by decide +kernel)))
  obtain ⟨tO, hO1, hO2⟩ := va_Tof (f := fun j => .int (pt_ord j)) (A := fun q => s.heap.size ≤ q) (by decide) (hs _ pt_f3) (va_eqt (hs _ pt_f4)) (fun j hj => va_eqt (hs _ (pt_f5 j hj))) hA
  obtain ⟨adK, adV, hSt, hStE⟩ := vk_Sof (N := 1) (tm := fun _ => pt_tm) (len := [74]) (byt := [pt_txl]) (A := fun q => s.heap.size ≤ q) (fun i hi => by
    have h0 : i = 0 := Nat.lt_one_iff.mp hi
    rw [h0]
    decide) (fun i hi => hs _ pt_f6) (fun i hi => hs _ pt_f7) (fun i hi => hs _ pt_f8)
    (fun i hi => by have : i = 0 := by omega
                    subst this; exact hs _ pt_f9) (fun i hi j hj => by have : i = 0 := by omega
                                                                       subst this; exact hs _ (pt_f10 j hj)) (fun i j hi hj hij => by omega) hA
  obtain ⟨s1, s2, s3, s4⟩ := hSt.1 0 (by decide)
  have hF := va_Zqof (A := fun q => s.heap.size ≤ q) (hts (.laysStatic "jdk/internal/util/Preconditions" "SIOOBE_FORMATTER" "Ljava/util/function/BiFunction;") (pm_wn_of (w := 292) (by decide +kernel))) (hts (.initialized "jdk/internal/util/Preconditions") (pm_wn_of (w := 131) (by decide +kernel))) (hs _ pt_f2) hA
  obtain ⟨fv, hfv, hF2⟩ : ∃ fv : Value, (fv = .null ∨ ∃ t, fv = .ref t) ∧ va_Z "jdk/internal/util/Preconditions" "SIOOBE_FORMATTER" "Ljava/util/function/BiFunction;" fv (fun q => s.heap.size ≤ q) s s.heap := by
    rcases hF with h | ⟨t, h⟩
    · exact ⟨.null, Or.inl rfl, h⟩
    · exact ⟨.ref t, Or.inr ⟨t, rfl⟩, h⟩
  have hZ0 := va_Zref (A := fun q => s.heap.size ≤ q) (hts (.laysStatic "TurnCabinet$Coalitions" "ORDERS" "[I") (pm_wn_of (w := 1174) (by decide +kernel))) (hts (.initialized "TurnCabinet$Coalitions") (pm_wn_of (w := 135) (by decide +kernel))) hO1 hA
  have hZ1 := va_Zof (A := fun q => s.heap.size ≤ q) (hts (.laysStatic "java/lang/String" "COMPACT_STRINGS" "Z") (pm_wn_of (w := 276) (by decide +kernel))) (hts (.initialized "java/lang/String") (pm_wn_of (w := 129) (by decide +kernel))) (va_eqi (hs _ pt_f1)) hA
  have hscr : va_T .int b L (fun j => .int (xs j)) (fun q => s.heap.size ≤ q) s s.heap := by
    obtain ⟨scr, g1, g2, g3, g4, g5⟩ := hX
    exact ⟨scr, g1, g2, g3, by rw [g4]; exact Nat.le_refl _, by rw [g4], g5, hA b hbl⟩
  have hE3 : pm_E3 (pt_R L xs) (pt_ad s.heap.size tO (adK 0) (adV 0) b) fv s.heap.size := by
    refine ⟨fun a h => if_pos h, hfv, fun r x h => ?_⟩
    unfold pt_R at h
    split at h
    · cases h; exact ⟨by decide, by decide, by decide⟩
    · cases h; exact ⟨by decide, by decide, by decide⟩
    · cases h; exact ⟨by decide, by decide, Nat.zero_le _⟩
    · cases h
  have hK : va_K D pt_cl (pm_tys (fun t => match t with | 0 => c0 | 1 => c1 | 2 => c2 | _ => c3)) s := by
    refine ⟨hKn, fun k q hq => ?_⟩
    match k, hq with
    | 0, h => cases h; exact ⟨a0, f0⟩
    | 1, h => cases h; exact ⟨a1, f1⟩
    | 2, h => cases h; exact ⟨a2, f2⟩
    | 3, h => cases h; exact ⟨a3, f3⟩
  have hZf : pm_Zf (pt_R L xs) (pt_ad s.heap.size tO (adK 0) (adV 0) b) fv (fun q => s.heap.size ≤ q) s s.heap := by
    refine ⟨hZ0, hZ1, hF2, s2, s3, s1, fun r t n f h => ?_⟩
    unfold pt_R at h
    split at h
    · cases h; exact hO2
    · cases h; exact s4
    · cases h; exact hscr
    · cases h
  have hNf : pm_Nf pt_tx (pt_ad s.heap.size tO (adK 0) (adV 0) b) s := by
    refine ⟨fun w hw hn => ?_, vk_R.of (hts _ (pm_wn_of (w := 266) (by decide +kernel))) (hStE 0 (by decide))⟩
    have h1 := hts w hw
    cases w <;> first | (cases hn; done) | exact va_Nw.of rfl h1
  have hE2 : pm_E2 pt_me 1 p s m #[Value.ref b] meth c room_1 D pt_cl (fun t => match t with | 0 => c0 | 1 => c1 | 2 => c2 | _ => c3) (pt_R L xs) (pt_ad s.heap.size tO (adK 0) (adV 0) b) fv s.heap.size pt_tx 0 := ⟨hx, hb, hml, hown, (fun h => absurd h (by decide +kernel)), (fun w hw => hts w (List.mem_filter.mp hw).1), by decide +kernel, by decide +kernel, hK, hZf, hNf, rfl⟩
  have key := pm_W (l := l) (e := e) (below := below) (Q := lw_Z below #[Value.ref b] s) pt_E1 hE3 n hrun hE2 (Nat.zero_le _) (by rw [h81]; decide) (by rw [h81, pt_ssn]; decide) (fun H locs ls pc i hdi hrt hI => ?_) (H := s.heap) (locs := []) ⟨(fun k q h => by cases h), va_S.rf, by decide⟩ (pm_entry (as := [.ref 203]) (n := 4) hfv (by decide))
  · rw [lg_entry_eq]
    exact key
  · obtain ⟨hP, hS, -⟩ := hI
    refine va_forget hS.2.2 ?_
    rw [h81, pt_ssn]
    rcases hrt with ⟨rfl, x, ty, hv, -⟩ | ⟨-, x, hv, -⟩ | ⟨-, hv, -⟩
    · cases hv
      exact lw_ret hx hb hr hlocks hdi
    · cases hv
    · cases hv

theorem lw_pure_all {L : Nat} (hL : L ≤ 3072) (xs : Nat → Int32) : lw_pure L xs := sorry
theorem whole_start {p : Program} {e : Env} {s : State} {m : MethodId} {below : List Frame} {meth : Method} {c : Code} (l : Launch) (hflags : l.flags = flags0) {b L : Nat} {xs : Nat → Int32} (hL : L ≤ 3072) (C0 : lw_At p s m meth c b L xs) : W p l e room_1 s m #[Value.ref b] below meth c s.heap [] 0 0 (lw_Z below #[Value.ref b] s) (entryFrame m ([Value.ref b] : List Value).toArray 4) := whole_of l (lw_pure_all hL xs) C0
-- ===== YOUR PART ENDS =====
set_option maxHeartbeats 4000000 in
theorem lw_walk (l : Launch) (hflags : l.flags = flags0) (b : Addr) (xs : List Int32) : MetFree l x (headSpec (Jvm.Cond.code x code maxLocals ret :: tables_1) room_1) (lw_P b xs) (fun _ _ _ _ _ => True) lw_Q := by
  refine MetFree.of_bodyS (code := code) (maxLocals := maxLocals) (ret := ret) (by decide) ?_ ?_
  · intro args s m h hn
    obtain ⟨meth, c, h1, h2, h3, h4, h5, h6, -, -⟩ := Cond.code_spec hn (atoms_spec (ws := Jvm.Cond.code x code maxLocals ret :: tables_1) h _ List.mem_cons_self)
    exact ⟨meth, c, h1, h2, h3, h4, h5, h6⟩
  · intro p e s m args below meth c s₁ B hml0 hP _
    obtain ⟨rfl, hx, hbd, hgv⟩ := hP
    obtain ⟨scr, harrAt, hlist, hof, hsmall⟩ := hx
    obtain ⟨hcb, hkn, -, -⟩ := State.arrayAt?_spec harrAt
    have hown : s.vm.findClass R_law = some m.cls := findClass_of_methodNamed B.named
    have hts0 : ∀ c ∈ (Jvm.Cond.code x code maxLocals ret :: tables_1), c.before #[Value.ref b] s = true := atoms_spec (ws := Jvm.Cond.code x code maxLocals ret :: tables_1) B.pre
    have hts : ∀ w ∈ lw_tbl, w.before #[Value.ref b] s = true := k2_hts_sels lw_privs (fun w hw => hts0 w (List.mem_cons_of_mem _ hw)) lw_privs_ok
    have hml : c.maxLocals = 4 := B.maxLocals_eq (hts0 _ List.mem_cons_self)
    have X₀ : Stand p l e room_1 s m #[Value.ref b] below meth c s₁ [] 0 0 := Stand.of_body B
    have hh0 : s₁.heap = s.heap := by rw [B.state]; rfl
    have hsz : scr.slots.size = xs.length := by rw [← Array.length_toList, hlist, List.length_map]
    have hval : ∀ j : Nat, j < xs.length → scr.slots[j]? = some (.int (xs.getD j 0)) := fun j hj => by
      rw [← Array.getElem?_toList, hlist]
      simp [hj]
    have hbl : b < s.heap.size := (Array.getElem?_eq_some_iff.mp hcb).1
    have hX : va_X b xs.length (fun j => xs.getD j 0) s s.heap := ⟨scr, hcb, hof, hkn, hsz, hval⟩
    have K : W p l e room_1 s m #[Value.ref b] below meth c s₁.heap [] 0 0 (lw_Z below #[Value.ref b] s) (entryFrame m ([Value.ref b] : List Value).toArray 4) := by
      rw [hh0]
      exact whole_start l hflags hbd ⟨B.exec, B.bytes, B.returns, hml, hown, hts, hX, hbl, B.notSynchronized, hgv⟩
    obtain ⟨t, a1, o, b1, b2, b3⟩ := K s₁ rfl X₀
    exact ⟨t, o, a1, b1, b2, b3⟩
theorem lw_pre_spec {args : Array Value} {s : State} (h : (Jvm.Cond.and given_1 narrow_1).before args s = true) (hr : rest_1_c.before args s = true) : ∃ (b : Addr) (xs : List Int32), lw_P b xs args s := by
  have hs := flat_of_before _ h
  have hq := flat_of_before _ hr
  have hc : (Cond.count 1).before args s = true := hs _ (by decide +kernel)
  have harr : (Cond.arrayOf (.arg 0) .int).before args s = true := hs _ (by decide +kernel)
  have hle : (Cond.le (.length (.arg 0)) (.int 3072)).before args s = true := hs _ (by decide +kernel)
  have hlen : (Cond.isInt (.length (.arg 0))).before args s = true := hq _ (by decide +kernel)
  have hall : (Cond.all (.arg 0) (.isInt (.elem (.arg 0) (.index 0)))).before args s = true := hq _ (by decide +kernel)
  obtain ⟨b, xs, hb, hx⟩ := State.ints_of_pre rfl harr hlen hall
  have hsm : xs.length < 2 ^ 31 := hx.choose_spec.2.2.2
  have hev : (Term.length (.arg 0)).eval args s none [] s = some (.int xs.length.toInt32) := hx.length_eval hb
  have hv := Cond.le_ints hev (show (Term.int 3072).eval args s none [] s = some (.int 3072) from rfl)
  have hd : xs.length.toInt32 ≤ 3072 := by
    simpa [Cond.before, Cond.holds, hv] using hle
  have hN : xs.length ≤ 3072 := (Int32.ofNat_le_ofNat hsm (by decide)).mp (show Int32.ofNat xs.length ≤ Int32.ofNat 3072 from hd)
  exact ⟨b, xs, Cond.one_arg hc (show args[0]? = some (.ref b) from hb), hx, hN, h⟩
theorem lw_comes (l : Launch) (hflags : l.flags = flags0) : Comes l x (Jvm.Cond.code x code maxLocals ret :: tables_1) room_1 (fun tb e args s => Calls_1 tb e args s ∧ rest_1 tb e args s ∧ Pre_1 tb e args s)
    (fun _ _ args s o t => lw_Q args s o t) := by
  intro p e ha hc hk s m args below hf hfit hheap happ hpre
  obtain ⟨b, xs, hP⟩ := lw_pre_spec hpre.2.2 hpre.2.1
  obtain ⟨k, o, h1, h2, h3, hQ⟩ := lw_walk l hflags b xs p e ha hc hk s m args below hf ((Spec.applies_iff_loose hf).mp happ).1 hP trivial
  exact ⟨k, o, h1, h2, h3, hQ⟩
theorem lw_frame {s t : State} {o : Outcome} {args : Array Value} (h : Framed s o t [] 81 14012) :
    Framed s o t (fieldLocs frame_1_writes args s ++ arrayLocs frame_1_arrays args s ++ staticLocs frame_1_statics s) 81 14012 := h
theorem lw_limb (L : Cond) (hL : ∀ (args : Array Value) (s t : State), L.after args s (.returned (some (.int 1))) t = true) :
    ArmFor flags0 classFile x code maxLocals ret World_1 tables_1 room_1 Calls_1 rest_1 Pre_1
      (fun tb e a s o t => postC L tb e a s o t ∧ Framed s o t (fieldLocs frame_1_writes a s ++ arrayLocs frame_1_arrays a s ++ staticLocs frame_1_statics s) 81 14012) := by
  intro l hflags _ _ p e ha hc hk s m args below hf hfit hheap happ hpre
  obtain ⟨k, o, h1, h2, h3, rfl, hF⟩ := lw_comes l hflags p e ha hc hk s m args below hf hfit hheap happ hpre
  exact ⟨k, _, h1, h2, h3, hL args s _, lw_frame hF⟩
theorem i_vc : Claimed_1_1 ∧ Claimed_1_2 := ⟨lw_limb limb_1_1 (fun args s t => by simp [limb_1_1, Cond.after, Cond.holds, Cond.value]), lw_limb limb_1_2 (fun args s t => Cond.after_iff.mpr (by
  first | (rw [show limb_1_2 = Cond.eq .result (.int 1) from rfl, Cond.eq_ints (x := 1) (y := 1) rfl rfl]; simp; done) | (simp [limb_1_2, Cond.value, Term.eval]; done)))⟩
end
