section
-- ===== PART A: goes FIRST, ahead of the names: the tables' words, and 'selects' of the private methods out of them =====
/-- a private method of a class that the tables say can be made, by its rows of tables_1 -/
def lw_okq (q : MethodName × Nat) : Prop := (q.1.cls ≠ "java/lang/invoke/MethodHandle" ∧ q.1.cls ≠ "java/lang/invoke/VarHandle") ∧ Cond.instantiable q.1.cls q.2 ∈ tables_1 ∧ Cond.privateMethod q.1 ∈ tables_1 ∧ Cond.instanceMethod q.1 ∈ tables_1
theorem lw_p0 : lw_okq (⟨"TurnCabinet$Reader", "advance", "()V"⟩, 16) := ⟨⟨by decide +kernel, by decide +kernel⟩, List.mem_of_getElem? (i := 135) (by decide +kernel), List.mem_of_getElem? (i := 470) (by decide +kernel), List.mem_of_getElem? (i := 471) (by decide +kernel)⟩
theorem lw_p1 : lw_okq (⟨"TurnCabinet$Reader", "takeWord", "()V"⟩, 16) := ⟨⟨by decide +kernel, by decide +kernel⟩, List.mem_of_getElem? (i := 135) (by decide +kernel), List.mem_of_getElem? (i := 485) (by decide +kernel), List.mem_of_getElem? (i := 486) (by decide +kernel)⟩
theorem lw_p2 : lw_okq (⟨"TurnCabinet$Reader", "takeNumber", "()V"⟩, 16) := ⟨⟨by decide +kernel, by decide +kernel⟩, List.mem_of_getElem? (i := 135) (by decide +kernel), List.mem_of_getElem? (i := 495) (by decide +kernel), List.mem_of_getElem? (i := 496) (by decide +kernel)⟩
theorem lw_p3 : lw_okq (⟨"TurnCabinet$Reader", "readDivisors", "()V"⟩, 16) := ⟨⟨by decide +kernel, by decide +kernel⟩, List.mem_of_getElem? (i := 135) (by decide +kernel), List.mem_of_getElem? (i := 507) (by decide +kernel), List.mem_of_getElem? (i := 508) (by decide +kernel)⟩
theorem lw_p4 : lw_okq (⟨"TurnCabinet$Reader", "checkOnce", "()V"⟩, 16) := ⟨⟨by decide +kernel, by decide +kernel⟩, List.mem_of_getElem? (i := 135) (by decide +kernel), List.mem_of_getElem? (i := 511) (by decide +kernel), List.mem_of_getElem? (i := 512) (by decide +kernel)⟩
theorem lw_p5 : lw_okq (⟨"TurnCabinet$Reader", "fail", "(I)V"⟩, 16) := ⟨⟨by decide +kernel, by decide +kernel⟩, List.mem_of_getElem? (i := 135) (by decide +kernel), List.mem_of_getElem? (i := 518) (by decide +kernel), List.mem_of_getElem? (i := 519) (by decide +kernel)⟩
theorem lw_p6 : lw_okq (⟨"TurnCabinet$Reader", "readNumber", "(II)I"⟩, 16) := ⟨⟨by decide +kernel, by decide +kernel⟩, List.mem_of_getElem? (i := 135) (by decide +kernel), List.mem_of_getElem? (i := 522) (by decide +kernel), List.mem_of_getElem? (i := 523) (by decide +kernel)⟩
theorem lw_p7 : lw_okq (⟨"TurnCabinet$Reader", "failToken", "()V"⟩, 16) := ⟨⟨by decide +kernel, by decide +kernel⟩, List.mem_of_getElem? (i := 135) (by decide +kernel), List.mem_of_getElem? (i := 526) (by decide +kernel), List.mem_of_getElem? (i := 527) (by decide +kernel)⟩
theorem lw_p8 : lw_okq (⟨"TurnCabinet$Reader", "readSign", "()V"⟩, 16) := ⟨⟨by decide +kernel, by decide +kernel⟩, List.mem_of_getElem? (i := 135) (by decide +kernel), List.mem_of_getElem? (i := 530) (by decide +kernel), List.mem_of_getElem? (i := 531) (by decide +kernel)⟩
theorem lw_p9 : lw_okq (⟨"TurnCabinet$Reader", "readOnlyNumber", "(II)I"⟩, 16) := ⟨⟨by decide +kernel, by decide +kernel⟩, List.mem_of_getElem? (i := 135) (by decide +kernel), List.mem_of_getElem? (i := 534) (by decide +kernel), List.mem_of_getElem? (i := 535) (by decide +kernel)⟩
theorem lw_p10 : lw_okq (⟨"TurnCabinet$Reader", "readOffice", "()V"⟩, 16) := ⟨⟨by decide +kernel, by decide +kernel⟩, List.mem_of_getElem? (i := 135) (by decide +kernel), List.mem_of_getElem? (i := 538) (by decide +kernel), List.mem_of_getElem? (i := 539) (by decide +kernel)⟩
theorem lw_p11 : lw_okq (⟨"TurnCabinet$Reader", "readName", "()J"⟩, 16) := ⟨⟨by decide +kernel, by decide +kernel⟩, List.mem_of_getElem? (i := 135) (by decide +kernel), List.mem_of_getElem? (i := 542) (by decide +kernel), List.mem_of_getElem? (i := 543) (by decide +kernel)⟩
theorem lw_p12 : lw_okq (⟨"TurnCabinet$Reader", "checkNew", "(J)V"⟩, 16) := ⟨⟨by decide +kernel, by decide +kernel⟩, List.mem_of_getElem? (i := 135) (by decide +kernel), List.mem_of_getElem? (i := 546) (by decide +kernel), List.mem_of_getElem? (i := 547) (by decide +kernel)⟩
theorem lw_p13 : lw_okq (⟨"TurnCabinet$Reader", "readParty", "()V"⟩, 16) := ⟨⟨by decide +kernel, by decide +kernel⟩, List.mem_of_getElem? (i := 135) (by decide +kernel), List.mem_of_getElem? (i := 550) (by decide +kernel), List.mem_of_getElem? (i := 551) (by decide +kernel)⟩
theorem lw_p14 : lw_okq (⟨"TurnCabinet$Reader", "readWord", "(I)V"⟩, 16) := ⟨⟨by decide +kernel, by decide +kernel⟩, List.mem_of_getElem? (i := 135) (by decide +kernel), List.mem_of_getElem? (i := 554) (by decide +kernel), List.mem_of_getElem? (i := 555) (by decide +kernel)⟩
theorem lw_p15 : lw_okq (⟨"TurnCabinet$Reader", "readTable", "([I[II)V"⟩, 16) := ⟨⟨by decide +kernel, by decide +kernel⟩, List.mem_of_getElem? (i := 135) (by decide +kernel), List.mem_of_getElem? (i := 558) (by decide +kernel), List.mem_of_getElem? (i := 559) (by decide +kernel)⟩
def lw_privs_1 : List (MethodName × Nat) := [(⟨"TurnCabinet$Reader", "advance", "()V"⟩, 16), (⟨"TurnCabinet$Reader", "takeWord", "()V"⟩, 16), (⟨"TurnCabinet$Reader", "takeNumber", "()V"⟩, 16), (⟨"TurnCabinet$Reader", "readDivisors", "()V"⟩, 16), (⟨"TurnCabinet$Reader", "checkOnce", "()V"⟩, 16), (⟨"TurnCabinet$Reader", "fail", "(I)V"⟩, 16), (⟨"TurnCabinet$Reader", "readNumber", "(II)I"⟩, 16), (⟨"TurnCabinet$Reader", "failToken", "()V"⟩, 16), (⟨"TurnCabinet$Reader", "readSign", "()V"⟩, 16), (⟨"TurnCabinet$Reader", "readOnlyNumber", "(II)I"⟩, 16), (⟨"TurnCabinet$Reader", "readOffice", "()V"⟩, 16), (⟨"TurnCabinet$Reader", "readName", "()J"⟩, 16), (⟨"TurnCabinet$Reader", "checkNew", "(J)V"⟩, 16), (⟨"TurnCabinet$Reader", "readParty", "()V"⟩, 16), (⟨"TurnCabinet$Reader", "readWord", "(I)V"⟩, 16), (⟨"TurnCabinet$Reader", "readTable", "([I[II)V"⟩, 16)]
theorem lw_r1 : ∀ q ∈ lw_privs_1, lw_okq q := List.forall_mem_cons.mpr ⟨lw_p0, List.forall_mem_cons.mpr ⟨lw_p1, List.forall_mem_cons.mpr ⟨lw_p2, List.forall_mem_cons.mpr ⟨lw_p3, List.forall_mem_cons.mpr ⟨lw_p4, List.forall_mem_cons.mpr ⟨lw_p5, List.forall_mem_cons.mpr ⟨lw_p6, List.forall_mem_cons.mpr ⟨lw_p7, List.forall_mem_cons.mpr ⟨lw_p8, List.forall_mem_cons.mpr ⟨lw_p9, List.forall_mem_cons.mpr ⟨lw_p10, List.forall_mem_cons.mpr ⟨lw_p11, List.forall_mem_cons.mpr ⟨lw_p12, List.forall_mem_cons.mpr ⟨lw_p13, List.forall_mem_cons.mpr ⟨lw_p14, List.forall_mem_cons.mpr ⟨lw_p15, fun _ h => absurd h List.not_mem_nil⟩⟩⟩⟩⟩⟩⟩⟩⟩⟩⟩⟩⟩⟩⟩⟩
theorem lw_p16 : lw_okq (⟨"TurnCabinet$Reader", "known", "([JIJ)I"⟩, 16) := ⟨⟨by decide +kernel, by decide +kernel⟩, List.mem_of_getElem? (i := 135) (by decide +kernel), List.mem_of_getElem? (i := 562) (by decide +kernel), List.mem_of_getElem? (i := 563) (by decide +kernel)⟩
theorem lw_p17 : lw_okq (⟨"TurnCabinet$Reader", "readBar", "()V"⟩, 16) := ⟨⟨by decide +kernel, by decide +kernel⟩, List.mem_of_getElem? (i := 135) (by decide +kernel), List.mem_of_getElem? (i := 566) (by decide +kernel), List.mem_of_getElem? (i := 567) (by decide +kernel)⟩
theorem lw_p18 : lw_okq (⟨"TurnCabinet$Cabinet", "heldBy", "(I)I"⟩, 8) := ⟨⟨by decide +kernel, by decide +kernel⟩, List.mem_of_getElem? (i := 380) (by decide +kernel), List.mem_of_getElem? (i := 606) (by decide +kernel), List.mem_of_getElem? (i := 607) (by decide +kernel)⟩
theorem lw_p19 : lw_okq (⟨"TurnCabinet$Coalitions", "forgetPicks", "()V"⟩, 15) := ⟨⟨by decide +kernel, by decide +kernel⟩, List.mem_of_getElem? (i := 293) (by decide +kernel), List.mem_of_getElem? (i := 715) (by decide +kernel), List.mem_of_getElem? (i := 716) (by decide +kernel)⟩
theorem lw_p20 : lw_okq (⟨"TurnCabinet$Coalitions", "foreseePicks", "(I)V"⟩, 15) := ⟨⟨by decide +kernel, by decide +kernel⟩, List.mem_of_getElem? (i := 293) (by decide +kernel), List.mem_of_getElem? (i := 727) (by decide +kernel), List.mem_of_getElem? (i := 728) (by decide +kernel)⟩
theorem lw_p21 : lw_okq (⟨"TurnCabinet$Picks", "layLanes", "(I)V"⟩, 7) := ⟨⟨by decide +kernel, by decide +kernel⟩, List.mem_of_getElem? (i := 249) (by decide +kernel), List.mem_of_getElem? (i := 736) (by decide +kernel), List.mem_of_getElem? (i := 737) (by decide +kernel)⟩
theorem lw_p22 : lw_okq (⟨"TurnCabinet$Picks", "allOffices", "()I"⟩, 7) := ⟨⟨by decide +kernel, by decide +kernel⟩, List.mem_of_getElem? (i := 249) (by decide +kernel), List.mem_of_getElem? (i := 743) (by decide +kernel), List.mem_of_getElem? (i := 744) (by decide +kernel)⟩
theorem lw_p23 : lw_okq (⟨"TurnCabinet$Picks", "choose", "(II)V"⟩, 7) := ⟨⟨by decide +kernel, by decide +kernel⟩, List.mem_of_getElem? (i := 249) (by decide +kernel), List.mem_of_getElem? (i := 747) (by decide +kernel), List.mem_of_getElem? (i := 748) (by decide +kernel)⟩
theorem lw_p24 : lw_okq (⟨"TurnCabinet$Picks", "laneOf", "(JI)J"⟩, 7) := ⟨⟨by decide +kernel, by decide +kernel⟩, List.mem_of_getElem? (i := 249) (by decide +kernel), List.mem_of_getElem? (i := 753) (by decide +kernel), List.mem_of_getElem? (i := 754) (by decide +kernel)⟩
theorem lw_p25 : lw_okq (⟨"TurnCabinet$Picks", "firstSwap", "(I)I"⟩, 7) := ⟨⟨by decide +kernel, by decide +kernel⟩, List.mem_of_getElem? (i := 249) (by decide +kernel), List.mem_of_getElem? (i := 800) (by decide +kernel), List.mem_of_getElem? (i := 801) (by decide +kernel)⟩
theorem lw_p26 : lw_okq (⟨"TurnCabinet$Picks", "helpsBoth", "(III)Z"⟩, 7) := ⟨⟨by decide +kernel, by decide +kernel⟩, List.mem_of_getElem? (i := 249) (by decide +kernel), List.mem_of_getElem? (i := 804) (by decide +kernel), List.mem_of_getElem? (i := 805) (by decide +kernel)⟩
theorem lw_p27 : lw_okq (⟨"TurnCabinet$Shares", "sumWorths", "(II)V"⟩, 3) := ⟨⟨by decide +kernel, by decide +kernel⟩, List.mem_of_getElem? (i := 277) (by decide +kernel), List.mem_of_getElem? (i := 883) (by decide +kernel), List.mem_of_getElem? (i := 884) (by decide +kernel)⟩
theorem lw_p28 : lw_okq (⟨"TurnCabinet$Shares", "bestWith", "(IIZ)I"⟩, 3) := ⟨⟨by decide +kernel, by decide +kernel⟩, List.mem_of_getElem? (i := 277) (by decide +kernel), List.mem_of_getElem? (i := 890) (by decide +kernel), List.mem_of_getElem? (i := 891) (by decide +kernel)⟩
theorem lw_p29 : lw_okq (⟨"TurnCabinet$Coalitions", "leads", "(I)Z"⟩, 15) := ⟨⟨by decide +kernel, by decide +kernel⟩, List.mem_of_getElem? (i := 293) (by decide +kernel), List.mem_of_getElem? (i := 912) (by decide +kernel), List.mem_of_getElem? (i := 913) (by decide +kernel)⟩
theorem lw_p30 : lw_okq (⟨"TurnCabinet$Coalitions", "isMinimal", "(I)Z"⟩, 15) := ⟨⟨by decide +kernel, by decide +kernel⟩, List.mem_of_getElem? (i := 293) (by decide +kernel), List.mem_of_getElem? (i := 920) (by decide +kernel), List.mem_of_getElem? (i := 921) (by decide +kernel)⟩
theorem lw_p31 : lw_okq (⟨"TurnCabinet$Coalitions", "leadsWithout", "(II)Z"⟩, 15) := ⟨⟨by decide +kernel, by decide +kernel⟩, List.mem_of_getElem? (i := 293) (by decide +kernel), List.mem_of_getElem? (i := 924) (by decide +kernel), List.mem_of_getElem? (i := 925) (by decide +kernel)⟩
def lw_privs_2 : List (MethodName × Nat) := [(⟨"TurnCabinet$Reader", "known", "([JIJ)I"⟩, 16), (⟨"TurnCabinet$Reader", "readBar", "()V"⟩, 16), (⟨"TurnCabinet$Cabinet", "heldBy", "(I)I"⟩, 8), (⟨"TurnCabinet$Coalitions", "forgetPicks", "()V"⟩, 15), (⟨"TurnCabinet$Coalitions", "foreseePicks", "(I)V"⟩, 15), (⟨"TurnCabinet$Picks", "layLanes", "(I)V"⟩, 7), (⟨"TurnCabinet$Picks", "allOffices", "()I"⟩, 7), (⟨"TurnCabinet$Picks", "choose", "(II)V"⟩, 7), (⟨"TurnCabinet$Picks", "laneOf", "(JI)J"⟩, 7), (⟨"TurnCabinet$Picks", "firstSwap", "(I)I"⟩, 7), (⟨"TurnCabinet$Picks", "helpsBoth", "(III)Z"⟩, 7), (⟨"TurnCabinet$Shares", "sumWorths", "(II)V"⟩, 3), (⟨"TurnCabinet$Shares", "bestWith", "(IIZ)I"⟩, 3), (⟨"TurnCabinet$Coalitions", "leads", "(I)Z"⟩, 15), (⟨"TurnCabinet$Coalitions", "isMinimal", "(I)Z"⟩, 15), (⟨"TurnCabinet$Coalitions", "leadsWithout", "(II)Z"⟩, 15)]
theorem lw_r2 : ∀ q ∈ lw_privs_2, lw_okq q := List.forall_mem_cons.mpr ⟨lw_p16, List.forall_mem_cons.mpr ⟨lw_p17, List.forall_mem_cons.mpr ⟨lw_p18, List.forall_mem_cons.mpr ⟨lw_p19, List.forall_mem_cons.mpr ⟨lw_p20, List.forall_mem_cons.mpr ⟨lw_p21, List.forall_mem_cons.mpr ⟨lw_p22, List.forall_mem_cons.mpr ⟨lw_p23, List.forall_mem_cons.mpr ⟨lw_p24, List.forall_mem_cons.mpr ⟨lw_p25, List.forall_mem_cons.mpr ⟨lw_p26, List.forall_mem_cons.mpr ⟨lw_p27, List.forall_mem_cons.mpr ⟨lw_p28, List.forall_mem_cons.mpr ⟨lw_p29, List.forall_mem_cons.mpr ⟨lw_p30, List.forall_mem_cons.mpr ⟨lw_p31, fun _ h => absurd h List.not_mem_nil⟩⟩⟩⟩⟩⟩⟩⟩⟩⟩⟩⟩⟩⟩⟩⟩
theorem lw_p32 : lw_okq (⟨"TurnCabinet$Coalitions", "firstRival", "(I)I"⟩, 15) := ⟨⟨by decide +kernel, by decide +kernel⟩, List.mem_of_getElem? (i := 293) (by decide +kernel), List.mem_of_getElem? (i := 946) (by decide +kernel), List.mem_of_getElem? (i := 947) (by decide +kernel)⟩
theorem lw_p33 : lw_okq (⟨"TurnCabinet$Coalitions", "paysMore", "(II)Z"⟩, 15) := ⟨⟨by decide +kernel, by decide +kernel⟩, List.mem_of_getElem? (i := 293) (by decide +kernel), List.mem_of_getElem? (i := 950) (by decide +kernel), List.mem_of_getElem? (i := 951) (by decide +kernel)⟩
theorem lw_p34 : lw_okq (⟨"TurnCabinet$Coalitions", "isUnbeaten", "(I)Z"⟩, 15) := ⟨⟨by decide +kernel, by decide +kernel⟩, List.mem_of_getElem? (i := 293) (by decide +kernel), List.mem_of_getElem? (i := 993) (by decide +kernel), List.mem_of_getElem? (i := 994) (by decide +kernel)⟩
theorem lw_p35 : lw_okq (⟨"TurnCabinet$Coalitions", "isBeaten", "(I)Z"⟩, 15) := ⟨⟨by decide +kernel, by decide +kernel⟩, List.mem_of_getElem? (i := 293) (by decide +kernel), List.mem_of_getElem? (i := 997) (by decide +kernel), List.mem_of_getElem? (i := 998) (by decide +kernel)⟩
theorem lw_p36 : lw_okq (⟨"TurnCabinet$House", "nextByPlace", "(I)I"⟩, 16) := ⟨⟨by decide +kernel, by decide +kernel⟩, List.mem_of_getElem? (i := 41) (by decide +kernel), List.mem_of_getElem? (i := 1028) (by decide +kernel), List.mem_of_getElem? (i := 1029) (by decide +kernel)⟩
theorem lw_p37 : lw_okq (⟨"TurnCabinet$Forming", "goRound", "(I)V"⟩, 8) := ⟨⟨by decide +kernel, by decide +kernel⟩, List.mem_of_getElem? (i := 346) (by decide +kernel), List.mem_of_getElem? (i := 1084) (by decide +kernel), List.mem_of_getElem? (i := 1085) (by decide +kernel)⟩
theorem lw_p38 : lw_okq (⟨"TurnCabinet$Forming", "nextFormer", "(I)I"⟩, 8) := ⟨⟨by decide +kernel, by decide +kernel⟩, List.mem_of_getElem? (i := 346) (by decide +kernel), List.mem_of_getElem? (i := 1088) (by decide +kernel), List.mem_of_getElem? (i := 1089) (by decide +kernel)⟩
theorem lw_p39 : lw_okq (⟨"TurnCabinet$Forming", "letForm", "(II)V"⟩, 8) := ⟨⟨by decide +kernel, by decide +kernel⟩, List.mem_of_getElem? (i := 346) (by decide +kernel), List.mem_of_getElem? (i := 1094) (by decide +kernel), List.mem_of_getElem? (i := 1095) (by decide +kernel)⟩
theorem lw_p40 : lw_okq (⟨"TurnCabinet$Forming", "choice", "(I)I"⟩, 8) := ⟨⟨by decide +kernel, by decide +kernel⟩, List.mem_of_getElem? (i := 346) (by decide +kernel), List.mem_of_getElem? (i := 1098) (by decide +kernel), List.mem_of_getElem? (i := 1099) (by decide +kernel)⟩
theorem lw_p41 : lw_okq (⟨"TurnCabinet$Forming", "isLiked", "(III)Z"⟩, 8) := ⟨⟨by decide +kernel, by decide +kernel⟩, List.mem_of_getElem? (i := 346) (by decide +kernel), List.mem_of_getElem? (i := 1104) (by decide +kernel), List.mem_of_getElem? (i := 1105) (by decide +kernel)⟩
theorem lw_p42 : lw_okq (⟨"TurnCabinet$Forming", "walkersFrom", "(II)I"⟩, 8) := ⟨⟨by decide +kernel, by decide +kernel⟩, List.mem_of_getElem? (i := 346) (by decide +kernel), List.mem_of_getElem? (i := 1110) (by decide +kernel), List.mem_of_getElem? (i := 1111) (by decide +kernel)⟩
theorem lw_p43 : lw_okq (⟨"TurnCabinet$Forming", "keep", "(III)V"⟩, 8) := ⟨⟨by decide +kernel, by decide +kernel⟩, List.mem_of_getElem? (i := 346) (by decide +kernel), List.mem_of_getElem? (i := 1115) (by decide +kernel), List.mem_of_getElem? (i := 1116) (by decide +kernel)⟩
theorem lw_p44 : lw_okq (⟨"TurnCabinet$Forming", "wasMade", "(I)Z"⟩, 8) := ⟨⟨by decide +kernel, by decide +kernel⟩, List.mem_of_getElem? (i := 346) (by decide +kernel), List.mem_of_getElem? (i := 1123) (by decide +kernel), List.mem_of_getElem? (i := 1124) (by decide +kernel)⟩
theorem lw_p45 : lw_okq (⟨"TurnCabinet$Cabinet", "dropOldest", "()V"⟩, 8) := ⟨⟨by decide +kernel, by decide +kernel⟩, List.mem_of_getElem? (i := 380) (by decide +kernel), List.mem_of_getElem? (i := 1151) (by decide +kernel), List.mem_of_getElem? (i := 1152) (by decide +kernel)⟩
theorem lw_p46 : lw_okq (⟨"TurnCabinet$Cabinet", "countsHeld", "(I)I"⟩, 8) := ⟨⟨by decide +kernel, by decide +kernel⟩, List.mem_of_getElem? (i := 380) (by decide +kernel), List.mem_of_getElem? (i := 1181) (by decide +kernel), List.mem_of_getElem? (i := 1182) (by decide +kernel)⟩
theorem lw_p47 : lw_okq (⟨"TurnCabinet$Cabinet", "firstUnpaid", "()I"⟩, 8) := ⟨⟨by decide +kernel, by decide +kernel⟩, List.mem_of_getElem? (i := 380) (by decide +kernel), List.mem_of_getElem? (i := 1208) (by decide +kernel), List.mem_of_getElem? (i := 1209) (by decide +kernel)⟩
def lw_privs_3 : List (MethodName × Nat) := [(⟨"TurnCabinet$Coalitions", "firstRival", "(I)I"⟩, 15), (⟨"TurnCabinet$Coalitions", "paysMore", "(II)Z"⟩, 15), (⟨"TurnCabinet$Coalitions", "isUnbeaten", "(I)Z"⟩, 15), (⟨"TurnCabinet$Coalitions", "isBeaten", "(I)Z"⟩, 15), (⟨"TurnCabinet$House", "nextByPlace", "(I)I"⟩, 16), (⟨"TurnCabinet$Forming", "goRound", "(I)V"⟩, 8), (⟨"TurnCabinet$Forming", "nextFormer", "(I)I"⟩, 8), (⟨"TurnCabinet$Forming", "letForm", "(II)V"⟩, 8), (⟨"TurnCabinet$Forming", "choice", "(I)I"⟩, 8), (⟨"TurnCabinet$Forming", "isLiked", "(III)Z"⟩, 8), (⟨"TurnCabinet$Forming", "walkersFrom", "(II)I"⟩, 8), (⟨"TurnCabinet$Forming", "keep", "(III)V"⟩, 8), (⟨"TurnCabinet$Forming", "wasMade", "(I)Z"⟩, 8), (⟨"TurnCabinet$Cabinet", "dropOldest", "()V"⟩, 8), (⟨"TurnCabinet$Cabinet", "countsHeld", "(I)I"⟩, 8), (⟨"TurnCabinet$Cabinet", "firstUnpaid", "()I"⟩, 8)]
theorem lw_r3 : ∀ q ∈ lw_privs_3, lw_okq q := List.forall_mem_cons.mpr ⟨lw_p32, List.forall_mem_cons.mpr ⟨lw_p33, List.forall_mem_cons.mpr ⟨lw_p34, List.forall_mem_cons.mpr ⟨lw_p35, List.forall_mem_cons.mpr ⟨lw_p36, List.forall_mem_cons.mpr ⟨lw_p37, List.forall_mem_cons.mpr ⟨lw_p38, List.forall_mem_cons.mpr ⟨lw_p39, List.forall_mem_cons.mpr ⟨lw_p40, List.forall_mem_cons.mpr ⟨lw_p41, List.forall_mem_cons.mpr ⟨lw_p42, List.forall_mem_cons.mpr ⟨lw_p43, List.forall_mem_cons.mpr ⟨lw_p44, List.forall_mem_cons.mpr ⟨lw_p45, List.forall_mem_cons.mpr ⟨lw_p46, List.forall_mem_cons.mpr ⟨lw_p47, fun _ h => absurd h List.not_mem_nil⟩⟩⟩⟩⟩⟩⟩⟩⟩⟩⟩⟩⟩⟩⟩⟩
theorem lw_p48 : lw_okq (⟨"TurnCabinet", "toldCabinet", "(I)I"⟩, 8) := ⟨⟨by decide +kernel, by decide +kernel⟩, List.mem_of_getElem? (i := 19) (by decide +kernel), List.mem_of_getElem? (i := 1253) (by decide +kernel), List.mem_of_getElem? (i := 1254) (by decide +kernel)⟩
theorem lw_p49 : lw_okq (⟨"TurnCabinet", "countUnkept", "(II)I"⟩, 8) := ⟨⟨by decide +kernel, by decide +kernel⟩, List.mem_of_getElem? (i := 19) (by decide +kernel), List.mem_of_getElem? (i := 1268) (by decide +kernel), List.mem_of_getElem? (i := 1269) (by decide +kernel)⟩
theorem lw_p50 : lw_okq (⟨"TurnCabinetModel", "readsNothing", "()V"⟩, 66) := ⟨⟨by decide +kernel, by decide +kernel⟩, List.mem_of_getElem? (i := 1273) (by decide +kernel), List.mem_of_getElem? (i := 1279) (by decide +kernel), List.mem_of_getElem? (i := 1280) (by decide +kernel)⟩
theorem lw_p51 : lw_okq (⟨"TurnCabinetModel", "takes", "()V"⟩, 66) := ⟨⟨by decide +kernel, by decide +kernel⟩, List.mem_of_getElem? (i := 1273) (by decide +kernel), List.mem_of_getElem? (i := 1283) (by decide +kernel), List.mem_of_getElem? (i := 1284) (by decide +kernel)⟩
theorem lw_p52 : lw_okq (⟨"TurnCabinetModel", "four", "(I)V"⟩, 66) := ⟨⟨by decide +kernel, by decide +kernel⟩, List.mem_of_getElem? (i := 1273) (by decide +kernel), List.mem_of_getElem? (i := 1493) (by decide +kernel), List.mem_of_getElem? (i := 1494) (by decide +kernel)⟩
theorem lw_p53 : lw_okq (⟨"TurnCabinetModel", "goOn", "()V"⟩, 66) := ⟨⟨by decide +kernel, by decide +kernel⟩, List.mem_of_getElem? (i := 1273) (by decide +kernel), List.mem_of_getElem? (i := 1508) (by decide +kernel), List.mem_of_getElem? (i := 1509) (by decide +kernel)⟩
theorem lw_p54 : lw_okq (⟨"TurnCabinetModel", "here", "(I)I"⟩, 66) := ⟨⟨by decide +kernel, by decide +kernel⟩, List.mem_of_getElem? (i := 1273) (by decide +kernel), List.mem_of_getElem? (i := 1512) (by decide +kernel), List.mem_of_getElem? (i := 1513) (by decide +kernel)⟩
theorem lw_p55 : lw_okq (⟨"TurnCabinetModel", "isGood", "()Z"⟩, 66) := ⟨⟨by decide +kernel, by decide +kernel⟩, List.mem_of_getElem? (i := 1273) (by decide +kernel), List.mem_of_getElem? (i := 1522) (by decide +kernel), List.mem_of_getElem? (i := 1523) (by decide +kernel)⟩
theorem lw_p56 : lw_okq (⟨"TurnCabinetModel", "line", "()V"⟩, 66) := ⟨⟨by decide +kernel, by decide +kernel⟩, List.mem_of_getElem? (i := 1273) (by decide +kernel), List.mem_of_getElem? (i := 1526) (by decide +kernel), List.mem_of_getElem? (i := 1527) (by decide +kernel)⟩
theorem lw_p57 : lw_okq (⟨"TurnCabinetModel", "isWord", "(J)Z"⟩, 66) := ⟨⟨by decide +kernel, by decide +kernel⟩, List.mem_of_getElem? (i := 1273) (by decide +kernel), List.mem_of_getElem? (i := 1531) (by decide +kernel), List.mem_of_getElem? (i := 1532) (by decide +kernel)⟩
theorem lw_p58 : lw_okq (⟨"TurnCabinetModel", "divisorsLine", "()V"⟩, 66) := ⟨⟨by decide +kernel, by decide +kernel⟩, List.mem_of_getElem? (i := 1273) (by decide +kernel), List.mem_of_getElem? (i := 1535) (by decide +kernel), List.mem_of_getElem? (i := 1536) (by decide +kernel)⟩
theorem lw_p59 : lw_okq (⟨"TurnCabinetModel", "once", "(I)V"⟩, 66) := ⟨⟨by decide +kernel, by decide +kernel⟩, List.mem_of_getElem? (i := 1273) (by decide +kernel), List.mem_of_getElem? (i := 1539) (by decide +kernel), List.mem_of_getElem? (i := 1540) (by decide +kernel)⟩
theorem lw_p60 : lw_okq (⟨"TurnCabinetModel", "wrong", "(I)V"⟩, 66) := ⟨⟨by decide +kernel, by decide +kernel⟩, List.mem_of_getElem? (i := 1273) (by decide +kernel), List.mem_of_getElem? (i := 1546) (by decide +kernel), List.mem_of_getElem? (i := 1547) (by decide +kernel)⟩
theorem lw_p61 : lw_okq (⟨"TurnCabinetModel", "number", "(II)I"⟩, 66) := ⟨⟨by decide +kernel, by decide +kernel⟩, List.mem_of_getElem? (i := 1273) (by decide +kernel), List.mem_of_getElem? (i := 1550) (by decide +kernel), List.mem_of_getElem? (i := 1551) (by decide +kernel)⟩
theorem lw_p62 : lw_okq (⟨"TurnCabinetModel", "needLine", "()V"⟩, 66) := ⟨⟨by decide +kernel, by decide +kernel⟩, List.mem_of_getElem? (i := 1273) (by decide +kernel), List.mem_of_getElem? (i := 1555) (by decide +kernel), List.mem_of_getElem? (i := 1556) (by decide +kernel)⟩
theorem lw_p63 : lw_okq (⟨"TurnCabinetModel", "careLine", "()V"⟩, 66) := ⟨⟨by decide +kernel, by decide +kernel⟩, List.mem_of_getElem? (i := 1273) (by decide +kernel), List.mem_of_getElem? (i := 1560) (by decide +kernel), List.mem_of_getElem? (i := 1561) (by decide +kernel)⟩
def lw_privs_4 : List (MethodName × Nat) := [(⟨"TurnCabinet", "toldCabinet", "(I)I"⟩, 8), (⟨"TurnCabinet", "countUnkept", "(II)I"⟩, 8), (⟨"TurnCabinetModel", "readsNothing", "()V"⟩, 66), (⟨"TurnCabinetModel", "takes", "()V"⟩, 66), (⟨"TurnCabinetModel", "four", "(I)V"⟩, 66), (⟨"TurnCabinetModel", "goOn", "()V"⟩, 66), (⟨"TurnCabinetModel", "here", "(I)I"⟩, 66), (⟨"TurnCabinetModel", "isGood", "()Z"⟩, 66), (⟨"TurnCabinetModel", "line", "()V"⟩, 66), (⟨"TurnCabinetModel", "isWord", "(J)Z"⟩, 66), (⟨"TurnCabinetModel", "divisorsLine", "()V"⟩, 66), (⟨"TurnCabinetModel", "once", "(I)V"⟩, 66), (⟨"TurnCabinetModel", "wrong", "(I)V"⟩, 66), (⟨"TurnCabinetModel", "number", "(II)I"⟩, 66), (⟨"TurnCabinetModel", "needLine", "()V"⟩, 66), (⟨"TurnCabinetModel", "careLine", "()V"⟩, 66)]
theorem lw_r4 : ∀ q ∈ lw_privs_4, lw_okq q := List.forall_mem_cons.mpr ⟨lw_p48, List.forall_mem_cons.mpr ⟨lw_p49, List.forall_mem_cons.mpr ⟨lw_p50, List.forall_mem_cons.mpr ⟨lw_p51, List.forall_mem_cons.mpr ⟨lw_p52, List.forall_mem_cons.mpr ⟨lw_p53, List.forall_mem_cons.mpr ⟨lw_p54, List.forall_mem_cons.mpr ⟨lw_p55, List.forall_mem_cons.mpr ⟨lw_p56, List.forall_mem_cons.mpr ⟨lw_p57, List.forall_mem_cons.mpr ⟨lw_p58, List.forall_mem_cons.mpr ⟨lw_p59, List.forall_mem_cons.mpr ⟨lw_p60, List.forall_mem_cons.mpr ⟨lw_p61, List.forall_mem_cons.mpr ⟨lw_p62, List.forall_mem_cons.mpr ⟨lw_p63, fun _ h => absurd h List.not_mem_nil⟩⟩⟩⟩⟩⟩⟩⟩⟩⟩⟩⟩⟩⟩⟩⟩
theorem lw_p64 : lw_okq (⟨"TurnCabinetModel", "triesLine", "()V"⟩, 66) := ⟨⟨by decide +kernel, by decide +kernel⟩, List.mem_of_getElem? (i := 1273) (by decide +kernel), List.mem_of_getElem? (i := 1565) (by decide +kernel), List.mem_of_getElem? (i := 1566) (by decide +kernel)⟩
theorem lw_p65 : lw_okq (⟨"TurnCabinetModel", "tireLine", "()V"⟩, 66) := ⟨⟨by decide +kernel, by decide +kernel⟩, List.mem_of_getElem? (i := 1273) (by decide +kernel), List.mem_of_getElem? (i := 1570) (by decide +kernel), List.mem_of_getElem? (i := 1571) (by decide +kernel)⟩
theorem lw_p66 : lw_okq (⟨"TurnCabinetModel", "officeLine", "()V"⟩, 66) := ⟨⟨by decide +kernel, by decide +kernel⟩, List.mem_of_getElem? (i := 1273) (by decide +kernel), List.mem_of_getElem? (i := 1575) (by decide +kernel), List.mem_of_getElem? (i := 1576) (by decide +kernel)⟩
theorem lw_p67 : lw_okq (⟨"TurnCabinetModel", "freshName", "()V"⟩, 66) := ⟨⟨by decide +kernel, by decide +kernel⟩, List.mem_of_getElem? (i := 1273) (by decide +kernel), List.mem_of_getElem? (i := 1579) (by decide +kernel), List.mem_of_getElem? (i := 1580) (by decide +kernel)⟩
theorem lw_p68 : lw_okq (⟨"TurnCabinetModel", "mustName", "()V"⟩, 66) := ⟨⟨by decide +kernel, by decide +kernel⟩, List.mem_of_getElem? (i := 1273) (by decide +kernel), List.mem_of_getElem? (i := 1583) (by decide +kernel), List.mem_of_getElem? (i := 1584) (by decide +kernel)⟩
theorem lw_p69 : lw_okq (⟨"TurnCabinetModel", "isKept", "()Z"⟩, 66) := ⟨⟨by decide +kernel, by decide +kernel⟩, List.mem_of_getElem? (i := 1273) (by decide +kernel), List.mem_of_getElem? (i := 1587) (by decide +kernel), List.mem_of_getElem? (i := 1588) (by decide +kernel)⟩
theorem lw_p70 : lw_okq (⟨"TurnCabinetModel", "partyLine", "()V"⟩, 66) := ⟨⟨by decide +kernel, by decide +kernel⟩, List.mem_of_getElem? (i := 1273) (by decide +kernel), List.mem_of_getElem? (i := 1601) (by decide +kernel), List.mem_of_getElem? (i := 1602) (by decide +kernel)⟩
theorem lw_p71 : lw_okq (⟨"TurnCabinetModel", "mustWord", "(J)V"⟩, 66) := ⟨⟨by decide +kernel, by decide +kernel⟩, List.mem_of_getElem? (i := 1273) (by decide +kernel), List.mem_of_getElem? (i := 1605) (by decide +kernel), List.mem_of_getElem? (i := 1606) (by decide +kernel)⟩
theorem lw_p72 : lw_okq (⟨"TurnCabinetModel", "numberLine", "([II)V"⟩, 66) := ⟨⟨by decide +kernel, by decide +kernel⟩, List.mem_of_getElem? (i := 1273) (by decide +kernel), List.mem_of_getElem? (i := 1609) (by decide +kernel), List.mem_of_getElem? (i := 1610) (by decide +kernel)⟩
theorem lw_p73 : lw_okq (⟨"TurnCabinetModel", "partyHere", "()I"⟩, 66) := ⟨⟨by decide +kernel, by decide +kernel⟩, List.mem_of_getElem? (i := 1273) (by decide +kernel), List.mem_of_getElem? (i := 1613) (by decide +kernel), List.mem_of_getElem? (i := 1614) (by decide +kernel)⟩
theorem lw_p74 : lw_okq (⟨"TurnCabinetModel", "barLine", "()V"⟩, 66) := ⟨⟨by decide +kernel, by decide +kernel⟩, List.mem_of_getElem? (i := 1273) (by decide +kernel), List.mem_of_getElem? (i := 1617) (by decide +kernel), List.mem_of_getElem? (i := 1618) (by decide +kernel)⟩
theorem lw_p75 : lw_okq (⟨"TurnCabinetModel", "must", "(I)V"⟩, 66) := ⟨⟨by decide +kernel, by decide +kernel⟩, List.mem_of_getElem? (i := 1273) (by decide +kernel), List.mem_of_getElem? (i := 1621) (by decide +kernel), List.mem_of_getElem? (i := 1622) (by decide +kernel)⟩
theorem lw_p76 : lw_okq (⟨"TurnCabinetModel", "isParty", "(I)Z"⟩, 66) := ⟨⟨by decide +kernel, by decide +kernel⟩, List.mem_of_getElem? (i := 1273) (by decide +kernel), List.mem_of_getElem? (i := 1637) (by decide +kernel), List.mem_of_getElem? (i := 1638) (by decide +kernel)⟩
theorem lw_p77 : lw_okq (⟨"TurnCabinetModel", "seatsOf", "(I)I"⟩, 66) := ⟨⟨by decide +kernel, by decide +kernel⟩, List.mem_of_getElem? (i := 1273) (by decide +kernel), List.mem_of_getElem? (i := 1641) (by decide +kernel), List.mem_of_getElem? (i := 1642) (by decide +kernel)⟩
theorem lw_p78 : lw_okq (⟨"TurnCabinetModel", "held", "(I)I"⟩, 66) := ⟨⟨by decide +kernel, by decide +kernel⟩, List.mem_of_getElem? (i := 1273) (by decide +kernel), List.mem_of_getElem? (i := 1645) (by decide +kernel), List.mem_of_getElem? (i := 1646) (by decide +kernel)⟩
theorem lw_p79 : lw_okq (⟨"TurnCabinetModel", "isOffice", "(I)Z"⟩, 66) := ⟨⟨by decide +kernel, by decide +kernel⟩, List.mem_of_getElem? (i := 1273) (by decide +kernel), List.mem_of_getElem? (i := 1656) (by decide +kernel), List.mem_of_getElem? (i := 1657) (by decide +kernel)⟩
def lw_privs_5 : List (MethodName × Nat) := [(⟨"TurnCabinetModel", "triesLine", "()V"⟩, 66), (⟨"TurnCabinetModel", "tireLine", "()V"⟩, 66), (⟨"TurnCabinetModel", "officeLine", "()V"⟩, 66), (⟨"TurnCabinetModel", "freshName", "()V"⟩, 66), (⟨"TurnCabinetModel", "mustName", "()V"⟩, 66), (⟨"TurnCabinetModel", "isKept", "()Z"⟩, 66), (⟨"TurnCabinetModel", "partyLine", "()V"⟩, 66), (⟨"TurnCabinetModel", "mustWord", "(J)V"⟩, 66), (⟨"TurnCabinetModel", "numberLine", "([II)V"⟩, 66), (⟨"TurnCabinetModel", "partyHere", "()I"⟩, 66), (⟨"TurnCabinetModel", "barLine", "()V"⟩, 66), (⟨"TurnCabinetModel", "must", "(I)V"⟩, 66), (⟨"TurnCabinetModel", "isParty", "(I)Z"⟩, 66), (⟨"TurnCabinetModel", "seatsOf", "(I)I"⟩, 66), (⟨"TurnCabinetModel", "held", "(I)I"⟩, 66), (⟨"TurnCabinetModel", "isOffice", "(I)Z"⟩, 66)]
theorem lw_r5 : ∀ q ∈ lw_privs_5, lw_okq q := List.forall_mem_cons.mpr ⟨lw_p64, List.forall_mem_cons.mpr ⟨lw_p65, List.forall_mem_cons.mpr ⟨lw_p66, List.forall_mem_cons.mpr ⟨lw_p67, List.forall_mem_cons.mpr ⟨lw_p68, List.forall_mem_cons.mpr ⟨lw_p69, List.forall_mem_cons.mpr ⟨lw_p70, List.forall_mem_cons.mpr ⟨lw_p71, List.forall_mem_cons.mpr ⟨lw_p72, List.forall_mem_cons.mpr ⟨lw_p73, List.forall_mem_cons.mpr ⟨lw_p74, List.forall_mem_cons.mpr ⟨lw_p75, List.forall_mem_cons.mpr ⟨lw_p76, List.forall_mem_cons.mpr ⟨lw_p77, List.forall_mem_cons.mpr ⟨lw_p78, List.forall_mem_cons.mpr ⟨lw_p79, fun _ h => absurd h List.not_mem_nil⟩⟩⟩⟩⟩⟩⟩⟩⟩⟩⟩⟩⟩⟩⟩⟩
theorem lw_p80 : lw_okq (⟨"TurnCabinetModel", "worthOf", "(II)I"⟩, 66) := ⟨⟨by decide +kernel, by decide +kernel⟩, List.mem_of_getElem? (i := 1273) (by decide +kernel), List.mem_of_getElem? (i := 1660) (by decide +kernel), List.mem_of_getElem? (i := 1661) (by decide +kernel)⟩
theorem lw_p81 : lw_okq (⟨"TurnCabinetModel", "need", "()I"⟩, 66) := ⟨⟨by decide +kernel, by decide +kernel⟩, List.mem_of_getElem? (i := 1273) (by decide +kernel), List.mem_of_getElem? (i := 1668) (by decide +kernel), List.mem_of_getElem? (i := 1669) (by decide +kernel)⟩
theorem lw_p82 : lw_okq (⟨"TurnCabinetModel", "everyone", "()I"⟩, 66) := ⟨⟨by decide +kernel, by decide +kernel⟩, List.mem_of_getElem? (i := 1273) (by decide +kernel), List.mem_of_getElem? (i := 1672) (by decide +kernel), List.mem_of_getElem? (i := 1673) (by decide +kernel)⟩
theorem lw_p83 : lw_okq (⟨"TurnCabinetModel", "seatsIn", "(I)I"⟩, 66) := ⟨⟨by decide +kernel, by decide +kernel⟩, List.mem_of_getElem? (i := 1273) (by decide +kernel), List.mem_of_getElem? (i := 1676) (by decide +kernel), List.mem_of_getElem? (i := 1677) (by decide +kernel)⟩
theorem lw_p84 : lw_okq (⟨"TurnCabinetModel", "isCoalition", "(I)Z"⟩, 66) := ⟨⟨by decide +kernel, by decide +kernel⟩, List.mem_of_getElem? (i := 1273) (by decide +kernel), List.mem_of_getElem? (i := 1684) (by decide +kernel), List.mem_of_getElem? (i := 1685) (by decide +kernel)⟩
theorem lw_p85 : lw_okq (⟨"TurnCabinetModel", "laysTurns", "(I)V"⟩, 66) := ⟨⟨by decide +kernel, by decide +kernel⟩, List.mem_of_getElem? (i := 1273) (by decide +kernel), List.mem_of_getElem? (i := 1688) (by decide +kernel), List.mem_of_getElem? (i := 1689) (by decide +kernel)⟩
theorem lw_p86 : lw_okq (⟨"TurnCabinetModel", "nextOf", "(I)I"⟩, 66) := ⟨⟨by decide +kernel, by decide +kernel⟩, List.mem_of_getElem? (i := 1273) (by decide +kernel), List.mem_of_getElem? (i := 1692) (by decide +kernel), List.mem_of_getElem? (i := 1693) (by decide +kernel)⟩
theorem lw_p87 : lw_okq (⟨"TurnCabinetModel", "isAhead", "(II)Z"⟩, 66) := ⟨⟨by decide +kernel, by decide +kernel⟩, List.mem_of_getElem? (i := 1273) (by decide +kernel), List.mem_of_getElem? (i := 1696) (by decide +kernel), List.mem_of_getElem? (i := 1697) (by decide +kernel)⟩
theorem lw_p88 : lw_okq (⟨"TurnCabinetModel", "picks", "(II)V"⟩, 66) := ⟨⟨by decide +kernel, by decide +kernel⟩, List.mem_of_getElem? (i := 1273) (by decide +kernel), List.mem_of_getElem? (i := 1710) (by decide +kernel), List.mem_of_getElem? (i := 1711) (by decide +kernel)⟩
theorem lw_p89 : lw_okq (⟨"TurnCabinetModel", "foresees", "()V"⟩, 66) := ⟨⟨by decide +kernel, by decide +kernel⟩, List.mem_of_getElem? (i := 1273) (by decide +kernel), List.mem_of_getElem? (i := 1714) (by decide +kernel), List.mem_of_getElem? (i := 1715) (by decide +kernel)⟩
theorem lw_p90 : lw_okq (⟨"TurnCabinetModel", "turnAt", "(I)I"⟩, 66) := ⟨⟨by decide +kernel, by decide +kernel⟩, List.mem_of_getElem? (i := 1273) (by decide +kernel), List.mem_of_getElem? (i := 1718) (by decide +kernel), List.mem_of_getElem? (i := 1719) (by decide +kernel)⟩
theorem lw_p91 : lw_okq (⟨"TurnCabinetModel", "all", "()I"⟩, 66) := ⟨⟨by decide +kernel, by decide +kernel⟩, List.mem_of_getElem? (i := 1273) (by decide +kernel), List.mem_of_getElem? (i := 1725) (by decide +kernel), List.mem_of_getElem? (i := 1726) (by decide +kernel)⟩
theorem lw_p92 : lw_okq (⟨"TurnCabinetModel", "bestLeft", "(II)I"⟩, 66) := ⟨⟨by decide +kernel, by decide +kernel⟩, List.mem_of_getElem? (i := 1273) (by decide +kernel), List.mem_of_getElem? (i := 1729) (by decide +kernel), List.mem_of_getElem? (i := 1730) (by decide +kernel)⟩
theorem lw_p93 : lw_okq (⟨"TurnCabinetModel", "swapsOne", "()Z"⟩, 66) := ⟨⟨by decide +kernel, by decide +kernel⟩, List.mem_of_getElem? (i := 1273) (by decide +kernel), List.mem_of_getElem? (i := 1733) (by decide +kernel), List.mem_of_getElem? (i := 1734) (by decide +kernel)⟩
theorem lw_p94 : lw_okq (⟨"TurnCabinetModel", "wouldSwap", "(II)Z"⟩, 66) := ⟨⟨by decide +kernel, by decide +kernel⟩, List.mem_of_getElem? (i := 1273) (by decide +kernel), List.mem_of_getElem? (i := 1737) (by decide +kernel), List.mem_of_getElem? (i := 1738) (by decide +kernel)⟩
theorem lw_p95 : lw_okq (⟨"TurnCabinetModel", "exchanges", "(II)V"⟩, 66) := ⟨⟨by decide +kernel, by decide +kernel⟩, List.mem_of_getElem? (i := 1273) (by decide +kernel), List.mem_of_getElem? (i := 1741) (by decide +kernel), List.mem_of_getElem? (i := 1742) (by decide +kernel)⟩
def lw_privs_6 : List (MethodName × Nat) := [(⟨"TurnCabinetModel", "worthOf", "(II)I"⟩, 66), (⟨"TurnCabinetModel", "need", "()I"⟩, 66), (⟨"TurnCabinetModel", "everyone", "()I"⟩, 66), (⟨"TurnCabinetModel", "seatsIn", "(I)I"⟩, 66), (⟨"TurnCabinetModel", "isCoalition", "(I)Z"⟩, 66), (⟨"TurnCabinetModel", "laysTurns", "(I)V"⟩, 66), (⟨"TurnCabinetModel", "nextOf", "(I)I"⟩, 66), (⟨"TurnCabinetModel", "isAhead", "(II)Z"⟩, 66), (⟨"TurnCabinetModel", "picks", "(II)V"⟩, 66), (⟨"TurnCabinetModel", "foresees", "()V"⟩, 66), (⟨"TurnCabinetModel", "turnAt", "(I)I"⟩, 66), (⟨"TurnCabinetModel", "all", "()I"⟩, 66), (⟨"TurnCabinetModel", "bestLeft", "(II)I"⟩, 66), (⟨"TurnCabinetModel", "swapsOne", "()Z"⟩, 66), (⟨"TurnCabinetModel", "wouldSwap", "(II)Z"⟩, 66), (⟨"TurnCabinetModel", "exchanges", "(II)V"⟩, 66)]
theorem lw_r6 : ∀ q ∈ lw_privs_6, lw_okq q := List.forall_mem_cons.mpr ⟨lw_p80, List.forall_mem_cons.mpr ⟨lw_p81, List.forall_mem_cons.mpr ⟨lw_p82, List.forall_mem_cons.mpr ⟨lw_p83, List.forall_mem_cons.mpr ⟨lw_p84, List.forall_mem_cons.mpr ⟨lw_p85, List.forall_mem_cons.mpr ⟨lw_p86, List.forall_mem_cons.mpr ⟨lw_p87, List.forall_mem_cons.mpr ⟨lw_p88, List.forall_mem_cons.mpr ⟨lw_p89, List.forall_mem_cons.mpr ⟨lw_p90, List.forall_mem_cons.mpr ⟨lw_p91, List.forall_mem_cons.mpr ⟨lw_p92, List.forall_mem_cons.mpr ⟨lw_p93, List.forall_mem_cons.mpr ⟨lw_p94, List.forall_mem_cons.mpr ⟨lw_p95, fun _ h => absurd h List.not_mem_nil⟩⟩⟩⟩⟩⟩⟩⟩⟩⟩⟩⟩⟩⟩⟩⟩
theorem lw_p96 : lw_okq (⟨"TurnCabinetModel", "ownedBy", "(I)I"⟩, 66) := ⟨⟨by decide +kernel, by decide +kernel⟩, List.mem_of_getElem? (i := 1273) (by decide +kernel), List.mem_of_getElem? (i := 1749) (by decide +kernel), List.mem_of_getElem? (i := 1750) (by decide +kernel)⟩
theorem lw_p97 : lw_okq (⟨"TurnCabinetModel", "griefOf", "(I)I"⟩, 66) := ⟨⟨by decide +kernel, by decide +kernel⟩, List.mem_of_getElem? (i := 1273) (by decide +kernel), List.mem_of_getElem? (i := 1761) (by decide +kernel), List.mem_of_getElem? (i := 1762) (by decide +kernel)⟩
theorem lw_p98 : lw_okq (⟨"TurnCabinetModel", "worthTo", "(II)I"⟩, 66) := ⟨⟨by decide +kernel, by decide +kernel⟩, List.mem_of_getElem? (i := 1273) (by decide +kernel), List.mem_of_getElem? (i := 1769) (by decide +kernel), List.mem_of_getElem? (i := 1770) (by decide +kernel)⟩
theorem lw_p99 : lw_okq (⟨"TurnCabinetModel", "gives", "(IZ)V"⟩, 66) := ⟨⟨by decide +kernel, by decide +kernel⟩, List.mem_of_getElem? (i := 1273) (by decide +kernel), List.mem_of_getElem? (i := 1777) (by decide +kernel), List.mem_of_getElem? (i := 1778) (by decide +kernel)⟩
theorem lw_p100 : lw_okq (⟨"TurnCabinetModel", "worthAll", "(II)I"⟩, 66) := ⟨⟨by decide +kernel, by decide +kernel⟩, List.mem_of_getElem? (i := 1273) (by decide +kernel), List.mem_of_getElem? (i := 1781) (by decide +kernel), List.mem_of_getElem? (i := 1782) (by decide +kernel)⟩
theorem lw_p101 : lw_okq (⟨"TurnCabinetModel", "middleOf", "(I)I"⟩, 66) := ⟨⟨by decide +kernel, by decide +kernel⟩, List.mem_of_getElem? (i := 1273) (by decide +kernel), List.mem_of_getElem? (i := 1797) (by decide +kernel), List.mem_of_getElem? (i := 1798) (by decide +kernel)⟩
theorem lw_p102 : lw_okq (⟨"TurnCabinetModel", "laysAll", "()V"⟩, 66) := ⟨⟨by decide +kernel, by decide +kernel⟩, List.mem_of_getElem? (i := 1273) (by decide +kernel), List.mem_of_getElem? (i := 1806) (by decide +kernel), List.mem_of_getElem? (i := 1807) (by decide +kernel)⟩
theorem lw_p103 : lw_okq (⟨"TurnCabinetModel", "far", "(II)I"⟩, 66) := ⟨⟨by decide +kernel, by decide +kernel⟩, List.mem_of_getElem? (i := 1273) (by decide +kernel), List.mem_of_getElem? (i := 1810) (by decide +kernel), List.mem_of_getElem? (i := 1811) (by decide +kernel)⟩
theorem lw_p104 : lw_okq (⟨"TurnCabinetModel", "rivalOf", "(I)I"⟩, 66) := ⟨⟨by decide +kernel, by decide +kernel⟩, List.mem_of_getElem? (i := 1273) (by decide +kernel), List.mem_of_getElem? (i := 1814) (by decide +kernel), List.mem_of_getElem? (i := 1815) (by decide +kernel)⟩
theorem lw_p105 : lw_okq (⟨"TurnCabinetModel", "isRival", "(II)Z"⟩, 66) := ⟨⟨by decide +kernel, by decide +kernel⟩, List.mem_of_getElem? (i := 1273) (by decide +kernel), List.mem_of_getElem? (i := 1818) (by decide +kernel), List.mem_of_getElem? (i := 1819) (by decide +kernel)⟩
theorem lw_p106 : lw_okq (⟨"TurnCabinetModel", "can", "(I)Z"⟩, 66) := ⟨⟨by decide +kernel, by decide +kernel⟩, List.mem_of_getElem? (i := 1273) (by decide +kernel), List.mem_of_getElem? (i := 1822) (by decide +kernel), List.mem_of_getElem? (i := 1823) (by decide +kernel)⟩
theorem lw_p107 : lw_okq (⟨"TurnCabinetModel", "isMajority", "(I)Z"⟩, 66) := ⟨⟨by decide +kernel, by decide +kernel⟩, List.mem_of_getElem? (i := 1273) (by decide +kernel), List.mem_of_getElem? (i := 1826) (by decide +kernel), List.mem_of_getElem? (i := 1827) (by decide +kernel)⟩
theorem lw_p108 : lw_okq (⟨"TurnCabinetModel", "isFree", "(I)Z"⟩, 66) := ⟨⟨by decide +kernel, by decide +kernel⟩, List.mem_of_getElem? (i := 1273) (by decide +kernel), List.mem_of_getElem? (i := 1830) (by decide +kernel), List.mem_of_getElem? (i := 1831) (by decide +kernel)⟩
theorem lw_p109 : lw_okq (⟨"TurnCabinetModel", "kindOf", "(I)I"⟩, 66) := ⟨⟨by decide +kernel, by decide +kernel⟩, List.mem_of_getElem? (i := 1273) (by decide +kernel), List.mem_of_getElem? (i := 1838) (by decide +kernel), List.mem_of_getElem? (i := 1839) (by decide +kernel)⟩
theorem lw_p110 : lw_okq (⟨"TurnCabinetModel", "isMinimal", "(I)Z"⟩, 66) := ⟨⟨by decide +kernel, by decide +kernel⟩, List.mem_of_getElem? (i := 1273) (by decide +kernel), List.mem_of_getElem? (i := 1842) (by decide +kernel), List.mem_of_getElem? (i := 1843) (by decide +kernel)⟩
theorem lw_p111 : lw_okq (⟨"TurnCabinetModel", "isConnected", "(I)Z"⟩, 66) := ⟨⟨by decide +kernel, by decide +kernel⟩, List.mem_of_getElem? (i := 1273) (by decide +kernel), List.mem_of_getElem? (i := 1846) (by decide +kernel), List.mem_of_getElem? (i := 1847) (by decide +kernel)⟩
def lw_privs_7 : List (MethodName × Nat) := [(⟨"TurnCabinetModel", "ownedBy", "(I)I"⟩, 66), (⟨"TurnCabinetModel", "griefOf", "(I)I"⟩, 66), (⟨"TurnCabinetModel", "worthTo", "(II)I"⟩, 66), (⟨"TurnCabinetModel", "gives", "(IZ)V"⟩, 66), (⟨"TurnCabinetModel", "worthAll", "(II)I"⟩, 66), (⟨"TurnCabinetModel", "middleOf", "(I)I"⟩, 66), (⟨"TurnCabinetModel", "laysAll", "()V"⟩, 66), (⟨"TurnCabinetModel", "far", "(II)I"⟩, 66), (⟨"TurnCabinetModel", "rivalOf", "(I)I"⟩, 66), (⟨"TurnCabinetModel", "isRival", "(II)Z"⟩, 66), (⟨"TurnCabinetModel", "can", "(I)Z"⟩, 66), (⟨"TurnCabinetModel", "isMajority", "(I)Z"⟩, 66), (⟨"TurnCabinetModel", "isFree", "(I)Z"⟩, 66), (⟨"TurnCabinetModel", "kindOf", "(I)I"⟩, 66), (⟨"TurnCabinetModel", "isMinimal", "(I)Z"⟩, 66), (⟨"TurnCabinetModel", "isConnected", "(I)Z"⟩, 66)]
theorem lw_r7 : ∀ q ∈ lw_privs_7, lw_okq q := List.forall_mem_cons.mpr ⟨lw_p96, List.forall_mem_cons.mpr ⟨lw_p97, List.forall_mem_cons.mpr ⟨lw_p98, List.forall_mem_cons.mpr ⟨lw_p99, List.forall_mem_cons.mpr ⟨lw_p100, List.forall_mem_cons.mpr ⟨lw_p101, List.forall_mem_cons.mpr ⟨lw_p102, List.forall_mem_cons.mpr ⟨lw_p103, List.forall_mem_cons.mpr ⟨lw_p104, List.forall_mem_cons.mpr ⟨lw_p105, List.forall_mem_cons.mpr ⟨lw_p106, List.forall_mem_cons.mpr ⟨lw_p107, List.forall_mem_cons.mpr ⟨lw_p108, List.forall_mem_cons.mpr ⟨lw_p109, List.forall_mem_cons.mpr ⟨lw_p110, List.forall_mem_cons.mpr ⟨lw_p111, fun _ h => absurd h List.not_mem_nil⟩⟩⟩⟩⟩⟩⟩⟩⟩⟩⟩⟩⟩⟩⟩⟩
theorem lw_p112 : lw_okq (⟨"TurnCabinetModel", "beatsIt", "(II)Z"⟩, 66) := ⟨⟨by decide +kernel, by decide +kernel⟩, List.mem_of_getElem? (i := 1273) (by decide +kernel), List.mem_of_getElem? (i := 1867) (by decide +kernel), List.mem_of_getElem? (i := 1868) (by decide +kernel)⟩
theorem lw_p113 : lw_okq (⟨"TurnCabinetModel", "isUnbeaten", "(I)Z"⟩, 66) := ⟨⟨by decide +kernel, by decide +kernel⟩, List.mem_of_getElem? (i := 1273) (by decide +kernel), List.mem_of_getElem? (i := 1875) (by decide +kernel), List.mem_of_getElem? (i := 1876) (by decide +kernel)⟩
theorem lw_p114 : lw_okq (⟨"TurnCabinetModel", "forms", "()V"⟩, 66) := ⟨⟨by decide +kernel, by decide +kernel⟩, List.mem_of_getElem? (i := 1273) (by decide +kernel), List.mem_of_getElem? (i := 1919) (by decide +kernel), List.mem_of_getElem? (i := 1920) (by decide +kernel)⟩
theorem lw_p115 : lw_okq (⟨"TurnCabinetModel", "ordersFormers", "()V"⟩, 66) := ⟨⟨by decide +kernel, by decide +kernel⟩, List.mem_of_getElem? (i := 1273) (by decide +kernel), List.mem_of_getElem? (i := 1923) (by decide +kernel), List.mem_of_getElem? (i := 1924) (by decide +kernel)⟩
theorem lw_p116 : lw_okq (⟨"TurnCabinetModel", "round", "()V"⟩, 66) := ⟨⟨by decide +kernel, by decide +kernel⟩, List.mem_of_getElem? (i := 1273) (by decide +kernel), List.mem_of_getElem? (i := 1927) (by decide +kernel), List.mem_of_getElem? (i := 1928) (by decide +kernel)⟩
theorem lw_p117 : lw_okq (⟨"TurnCabinetModel", "bestFor", "(I)I"⟩, 66) := ⟨⟨by decide +kernel, by decide +kernel⟩, List.mem_of_getElem? (i := 1273) (by decide +kernel), List.mem_of_getElem? (i := 1931) (by decide +kernel), List.mem_of_getElem? (i := 1932) (by decide +kernel)⟩
theorem lw_p118 : lw_okq (⟨"TurnCabinetModel", "goesBy", "(II)Z"⟩, 66) := ⟨⟨by decide +kernel, by decide +kernel⟩, List.mem_of_getElem? (i := 1273) (by decide +kernel), List.mem_of_getElem? (i := 1935) (by decide +kernel), List.mem_of_getElem? (i := 1936) (by decide +kernel)⟩
theorem lw_p119 : lw_okq (⟨"TurnCabinetModel", "walkOut", "(II)I"⟩, 66) := ⟨⟨by decide +kernel, by decide +kernel⟩, List.mem_of_getElem? (i := 1273) (by decide +kernel), List.mem_of_getElem? (i := 1939) (by decide +kernel), List.mem_of_getElem? (i := 1940) (by decide +kernel)⟩
theorem lw_p120 : lw_okq (⟨"TurnCabinetModel", "act", "()V"⟩, 66) := ⟨⟨by decide +kernel, by decide +kernel⟩, List.mem_of_getElem? (i := 1273) (by decide +kernel), List.mem_of_getElem? (i := 1951) (by decide +kernel), List.mem_of_getElem? (i := 1952) (by decide +kernel)⟩
theorem lw_p121 : lw_okq (⟨"TurnCabinetModel", "goesOut", "(I)I"⟩, 66) := ⟨⟨by decide +kernel, by decide +kernel⟩, List.mem_of_getElem? (i := 1273) (by decide +kernel), List.mem_of_getElem? (i := 1963) (by decide +kernel), List.mem_of_getElem? (i := 1964) (by decide +kernel)⟩
theorem lw_p122 : lw_okq (⟨"TurnCabinetModel", "paysNow", "(I)I"⟩, 66) := ⟨⟨by decide +kernel, by decide +kernel⟩, List.mem_of_getElem? (i := 1273) (by decide +kernel), List.mem_of_getElem? (i := 1971) (by decide +kernel), List.mem_of_getElem? (i := 1972) (by decide +kernel)⟩
theorem lw_p123 : lw_okq (⟨"TurnCabinetModel", "goer", "()I"⟩, 66) := ⟨⟨by decide +kernel, by decide +kernel⟩, List.mem_of_getElem? (i := 1273) (by decide +kernel), List.mem_of_getElem? (i := 1979) (by decide +kernel), List.mem_of_getElem? (i := 1980) (by decide +kernel)⟩
def lw_privs_8 : List (MethodName × Nat) := [(⟨"TurnCabinetModel", "beatsIt", "(II)Z"⟩, 66), (⟨"TurnCabinetModel", "isUnbeaten", "(I)Z"⟩, 66), (⟨"TurnCabinetModel", "forms", "()V"⟩, 66), (⟨"TurnCabinetModel", "ordersFormers", "()V"⟩, 66), (⟨"TurnCabinetModel", "round", "()V"⟩, 66), (⟨"TurnCabinetModel", "bestFor", "(I)I"⟩, 66), (⟨"TurnCabinetModel", "goesBy", "(II)Z"⟩, 66), (⟨"TurnCabinetModel", "walkOut", "(II)I"⟩, 66), (⟨"TurnCabinetModel", "act", "()V"⟩, 66), (⟨"TurnCabinetModel", "goesOut", "(I)I"⟩, 66), (⟨"TurnCabinetModel", "paysNow", "(I)I"⟩, 66), (⟨"TurnCabinetModel", "goer", "()I"⟩, 66)]
theorem lw_r8 : ∀ q ∈ lw_privs_8, lw_okq q := List.forall_mem_cons.mpr ⟨lw_p112, List.forall_mem_cons.mpr ⟨lw_p113, List.forall_mem_cons.mpr ⟨lw_p114, List.forall_mem_cons.mpr ⟨lw_p115, List.forall_mem_cons.mpr ⟨lw_p116, List.forall_mem_cons.mpr ⟨lw_p117, List.forall_mem_cons.mpr ⟨lw_p118, List.forall_mem_cons.mpr ⟨lw_p119, List.forall_mem_cons.mpr ⟨lw_p120, List.forall_mem_cons.mpr ⟨lw_p121, List.forall_mem_cons.mpr ⟨lw_p122, List.forall_mem_cons.mpr ⟨lw_p123, fun _ h => absurd h List.not_mem_nil⟩⟩⟩⟩⟩⟩⟩⟩⟩⟩⟩⟩
def lw_privs : List (MethodName × Nat) := lw_privs_1 ++ (lw_privs_2 ++ (lw_privs_3 ++ (lw_privs_4 ++ (lw_privs_5 ++ (lw_privs_6 ++ (lw_privs_7 ++ (lw_privs_8)))))))
def lw_tbl : List Cond := k2_sels lw_privs ++ tables_1
theorem lw_privs_ok : ∀ q ∈ lw_privs, lw_okq q := by
  show ∀ q ∈ lw_privs_1 ++ (lw_privs_2 ++ (lw_privs_3 ++ (lw_privs_4 ++ (lw_privs_5 ++ (lw_privs_6 ++ (lw_privs_7 ++ (lw_privs_8))))))), lw_okq q
  exact List.forall_mem_append.mpr ⟨lw_r1, List.forall_mem_append.mpr ⟨lw_r2, List.forall_mem_append.mpr ⟨lw_r3, List.forall_mem_append.mpr ⟨lw_r4, List.forall_mem_append.mpr ⟨lw_r5, List.forall_mem_append.mpr ⟨lw_r6, List.forall_mem_append.mpr ⟨lw_r7, lw_r8⟩⟩⟩⟩⟩⟩⟩
-- ===== end of PART A; then your names; then what follows =====
end
section
/-! ===== the pure machine: the same bytecode over cells that have numbers of their own; no heap, no frames below ===== -/
abbrev pm_L : Type := List (Option Value)
/-- how many cells there are; references in fields (0: null, else the cell and 1); ints; longs -/
abbrev pm_S : Type := Nat × (Nat → Nat → Nat) × (Nat → Nat → Int32) × (Nat → Nat → Int64)
abbrev pm_R : Type := Option (Option Value × pm_S)
abbrev pm_F : Type := Nat → Nat → pm_L → List Value → pm_S → pm_R
/-- an instruction: its place, itself, the next one's place, its word's place, what it is tied to, its constants -/
abbrev pm_Q : Type := Nat × Instr × Nat × Nat × List Nat × Int32 × Int64
/-- a method: its name, code, locals, answer; frames and locals' words below it; its instructions -/
abbrev pm_Me : Type := MethodName × ByteArray × Nat × Option FieldType × Nat × Nat × List pm_Q
/-- a cell's kind: an array (its type's place, its length), an object (its class' place, its fields' kinds: 0 int, 1 long, 2 boolean, 3 a reference) -/
abbrev pm_K : Type := (Nat × Nat) ⊕ (Nat × List Nat)
/-- tables that nobody writes: type's place, length, contents -/
abbrev pm_T : Type := Nat → Option (Nat × Nat × (Nat → Int32))
def pm_ui (f : Nat → Nat → Int32) (r k : Nat) (v : Int32) : Nat → Nat → Int32 := fun a b => bif Nat.beq a r && Nat.beq b k then v else f a b
def pm_ul (f : Nat → Nat → Int64) (r k : Nat) (v : Int64) : Nat → Nat → Int64 := fun a b => bif Nat.beq a r && Nat.beq b k then v else f a b
def pm_ug (f : Nat → Nat → Nat) (r k : Nat) (v : Nat) : Nat → Nat → Nat := fun a b => bif Nat.beq a r && Nat.beq b k then v else f a b
def pm_ci (f : Nat → Nat → Int32) (r : Nat) : Nat → Nat → Int32 := fun a b => bif Nat.beq a r then 0 else f a b
def pm_cl (f : Nat → Nat → Int64) (r : Nat) : Nat → Nat → Int64 := fun a b => bif Nat.beq a r then 0 else f a b
def pm_cg (f : Nat → Nat → Nat) (r : Nat) : Nat → Nat → Nat := fun a b => bif Nat.beq a r then 0 else f a b
def pm_at : List pm_Q → Nat → Option pm_Q
  | [], _ => none
  | q :: t, pc => bif Nat.beq q.1 pc then some q else pm_at t pc
def pm_pop : Nat → List Value → List Value → Option (List Value × List Value)
  | 0, acc, st => some (acc, st)
  | _ + 1, _, [] => none
  | n + 1, acc, v :: st => pm_pop n (v :: acc) st
/-- a method's locals at its entry -/
def pm_en : Nat → List Value → pm_L
  | n, [] => List.replicate n none
  | n, v :: vs => bif Nat.beq v.category 2 then some v :: none :: pm_en (n - 2) vs else some v :: pm_en (n - 1) vs
def pm_wd : List Value → Nat
  | [] => 0
  | v :: vs => v.category + pm_wd vs
def pm_st1 (ls : pm_L) (i : Nat) (v : Value) : Option pm_L := bif Nat.blt i ls.length then some (ls.set i (some v)) else none
def pm_st2 (ls : pm_L) (i : Nat) (v : Value) : Option pm_L := bif Nat.blt (i + 1) ls.length then some ((ls.set i (some v)).set (i + 1) none) else none
/-- an index within -/
def pm_ib (i : Int32) (n : Nat) : Bool := !(decide (i < 0)) && Nat.blt i.toNatClampNeg n
def pm_sw (k : Nat → pm_R) (x : Int32) (d : Nat) : List Nat → Nat → pm_R
  | [], _ => k d
  | t :: ts, j => if x = nI j then k t else pm_sw k x d ts (j + 1)
/-- what an instruction does: on to a place; by a comparison; by a switch; a call; an answer -/
abbrev pm_C : Type := (Nat × pm_L × List Value × pm_S) ⊕ (Nat × Int32 × Int32 × Nat × Nat × pm_L × List Value × pm_S) ⊕ (Int32 × Nat × List Nat × pm_L × List Value × pm_S) ⊕ (Nat × List Value × Nat × pm_L × List Value × pm_S) ⊕ (Option Value × pm_S)
/-- if it can be done at all: under which condition, and what -/
abbrev pm_Z : Type := Option (Bool × pm_C)
def pm_n (g : Bool) (pc : Nat) (ls : pm_L) (st : List Value) (S : pm_S) : pm_Z := some (g, .inl (pc, ls, st, S))
def pm_b (o : Nat) (x y : Int32) (t e : Nat) (ls : pm_L) (st : List Value) (S : pm_S) : pm_Z := some (true, .inr (.inl (o, x, y, t, e, ls, st, S)))
def pm_w (x : Int32) (d : Nat) (ts : List Nat) (ls : pm_L) (st : List Value) (S : pm_S) : pm_Z := some (true, .inr (.inr (.inl (x, d, ts, ls, st, S))))
def pm_j (mj : Nat) (as : List Value) (nx : Nat) (ls : pm_L) (st : List Value) (S : pm_S) : pm_Z := some (true, .inr (.inr (.inr (.inl (mj, as, nx, ls, st, S)))))
def pm_e (g : Bool) (v : Option Value) (S : pm_S) : pm_Z := some (g, .inr (.inr (.inr (.inr (v, S)))))
def pm_call (nx : Nat) (xs : List Nat) (ls : pm_L) (st : List Value) (S : pm_S) : pm_Z := match pm_pop (xs.getD 1 0) [] st with
  | some (as, rest) => bif Nat.ble (pm_wd rest) 8 then pm_j (xs.getD 0 0) as nx ls rest S else none
  | none => none
/-- an object's field -/
def pm_fv (S : pm_S) (r k : Nat) (kd : Nat) : Option Value := match kd with
  | 0 => some (.int (S.2.2.1 r k))
  | 1 => some (.long (S.2.2.2 r k))
  | 2 => some (.int (S.2.2.1 r k))
  | 3 => match S.2.1 r k with
    | 0 => none
    | j + 1 => some (.ref j)
  | _ => none
def pm_us (x y : Int32) : Int32 := (x.toUInt32 >>> (y.toUInt32 &&& Int32.toUInt32 31)).toInt32
def pm_uls (x : Int64) (y : Int32) : Int64 := (x.toUInt64 >>> (y.toInt64.toUInt64 &&& Int64.toUInt64 63)).toInt64
def pm_rc (Sg : Nat → pm_K) (S : pm_S) (r c : Nat) : Bool := bif Nat.beq c 99 then Nat.beq r 201 else Nat.blt r S.1 && (match Sg r with
  | .inr (c', _) => Nat.beq c' c
  | .inl _ => false)
def pm_callV (Sg : Nat → pm_K) (nx : Nat) (xs : List Nat) (ls : pm_L) (st : List Value) (S : pm_S) : pm_Z := match pm_pop (xs.getD 1 0) [] st with
  | some (.ref r :: as, rest) => bif pm_rc Sg S r (xs.getD 3 0) && Nat.ble (pm_wd rest) 8 then pm_j (xs.getD 0 0) (.ref r :: as) nx ls rest S else none
  | _ => none
def pm_callI (nx : Nat) (xs : List Nat) (ls : pm_L) (st : List Value) (S : pm_S) : pm_Z := match pm_pop (xs.getD 1 0) [] st with
  | some (.ref r :: as, rest) => bif Nat.blt r S.1 && Nat.ble (pm_wd rest) 8 then pm_j (xs.getD 0 0) (.ref r :: as) nx ls rest S else none
  | _ => none
def pm_x (Sg : Nat → pm_K) (Rt : pm_T) (ret : Option FieldType) (q : pm_Q) (ls : pm_L) (st : List Value) (S : pm_S)   : pm_Z := match q with
  | (_, ins, nx, _, xs, ci, cl) => match ins with
    | .iload_n _ | .iload _ => match ls.getD (xs.getD 0 0) none with
      | some (.int x) => pm_n true nx ls (.int x :: st) S
      | _ => none
    | .lload_n _ | .lload _ => match ls.getD (xs.getD 0 0) none with
      | some (.long x) => match ls.getD (xs.getD 0 0 + 1) (some .null) with
        | none => pm_n true nx ls (.long x :: st) S
        | some _ => none
      | _ => none
    | .aload_n _ | .aload _ => match ls.getD (xs.getD 0 0) none with
      | some (.ref x) => bif Nat.beq x 204 then none else pm_n true nx ls (.ref x :: st) S
      | _ => none
    | .istore_n _ | .istore _ => match st with
      | .int x :: r => match pm_st1 ls (xs.getD 0 0) (.int x) with
        | some ls' => pm_n true nx ls' r S
        | none => none
      | _ => none
    | .astore_n _ | .astore _ => match st with
      | .ref x :: r => bif Nat.beq x 204 then none else (match pm_st1 ls (xs.getD 0 0) (.ref x) with
        | some ls' => pm_n true nx ls' r S
        | none => none)
      | _ => none
    | .lstore_n _ | .lstore _ => match st with
      | .long x :: r => match pm_st2 ls (xs.getD 0 0) (.long x) with
        | some ls' => pm_n true nx ls' r S
        | none => none
      | _ => none
    | .iinc _ _ => match ls.getD (xs.getD 0 0) none with
      | some (.int x) => match pm_st1 ls (xs.getD 0 0) (.int (x + ci)) with
        | some ls' => pm_n true nx ls' st S
        | none => none
      | _ => none
    | .iconst _ | .bipush _ | .sipush _ | .ldc_w _ => pm_n true nx ls (.int ci :: st) S
    | .ldc _ => match xs with
      | [] => pm_n true nx ls (.int ci :: st) S
      | r :: _ => pm_n true nx ls (.ref r :: st) S
    | .lconst _ | .ldc2_w _ => pm_n true nx ls (.long cl :: st) S
    | .iadd => match st with
      | .int y :: .int x :: r => pm_n true nx ls (.int (x + y) :: r) S
      | _ => none
    | .isub => match st with
      | .int y :: .int x :: r => pm_n true nx ls (.int (x - y) :: r) S
      | _ => none
    | .imul => match st with
      | .int y :: .int x :: r => pm_n true nx ls (.int (x * y) :: r) S
      | _ => none
    | .idiv => match st with
      | .int y :: .int x :: r => pm_n (!(decide (y = 0))) nx ls (.int (x / y) :: r) S
      | _ => none
    | .iand => match st with
      | .int y :: .int x :: r => pm_n true nx ls (.int (x &&& y) :: r) S
      | _ => none
    | .ior => match st with
      | .int y :: .int x :: r => pm_n true nx ls (.int (x ||| y) :: r) S
      | _ => none
    | .ixor => match st with
      | .int y :: .int x :: r => pm_n true nx ls (.int (x ^^^ y) :: r) S
      | _ => none
    | .ishl => match st with
      | .int y :: .int x :: r => pm_n true nx ls (.int (x <<< (y &&& 31)) :: r) S
      | _ => none
    | .ishr => match st with
      | .int y :: .int x :: r => pm_n true nx ls (.int (x >>> (y &&& 31)) :: r) S
      | _ => none
    | .iushr => match st with
      | .int y :: .int x :: r => pm_n true nx ls (.int (pm_us x y) :: r) S
      | _ => none
    | .ineg => match st with
      | .int x :: r => pm_n true nx ls (.int (-x) :: r) S
      | _ => none
    | .ladd => match st with
      | .long y :: .long x :: r => pm_n true nx ls (.long (x + y) :: r) S
      | _ => none
    | .lmul => match st with
      | .long y :: .long x :: r => pm_n true nx ls (.long (x * y) :: r) S
      | _ => none
    | .land => match st with
      | .long y :: .long x :: r => pm_n true nx ls (.long (x &&& y) :: r) S
      | _ => none
    | .lor => match st with
      | .long y :: .long x :: r => pm_n true nx ls (.long (x ||| y) :: r) S
      | _ => none
    | .lcmp => match st with
      | .long y :: .long x :: r => pm_n true nx ls (.int (lg_cmp x y) :: r) S
      | _ => none
    | .lshl => match st with
      | .int y :: .long x :: r => pm_n true nx ls (.long (x <<< (y.toInt64 &&& 63)) :: r) S
      | _ => none
    | .lushr => match st with
      | .int y :: .long x :: r => pm_n true nx ls (.long (pm_uls x y) :: r) S
      | _ => none
    | .i2l => match st with
      | .int x :: r => pm_n true nx ls (.long x.toInt64 :: r) S
      | _ => none
    | .l2i => match st with
      | .long x :: r => pm_n true nx ls (.int x.toInt32 :: r) S
      | _ => none
    | .i2b => match st with
      | .int x :: r => pm_n true nx ls (.int x.toInt8.toInt32 :: r) S
      | _ => none
    | .i2c => match st with
      | .int x :: r => pm_n true nx ls (.int (x.toUInt32 % 65536).toInt32 :: r) S
      | _ => none
    | .dup => match st with
      | .int x :: r => pm_n true nx ls (.int x :: .int x :: r) S
      | .ref x :: r => pm_n true nx ls (.ref x :: .ref x :: r) S
      | _ => none
    | .dup2 => match st with
      | .int y :: .ref x :: r => pm_n true nx ls (.int y :: .ref x :: .int y :: .ref x :: r) S
      | _ => none
    | .pop => match st with
      | .int _ :: r => pm_n true nx ls r S
      | _ => none
    | .ifCond .eq _ => match st with
      | .int x :: r => pm_b 0 x 0 (xs.getD 0 0) nx ls r S
      | _ => none
    | .ifCond .ne _ => match st with
      | .int x :: r => pm_b 0 x 0 nx (xs.getD 0 0) ls r S
      | _ => none
    | .ifCond .lt _ => match st with
      | .int x :: r => pm_b 1 x 0 (xs.getD 0 0) nx ls r S
      | _ => none
    | .ifCond .ge _ => match st with
      | .int x :: r => pm_b 1 x 0 nx (xs.getD 0 0) ls r S
      | _ => none
    | .ifCond .gt _ => match st with
      | .int x :: r => pm_b 2 x 0 nx (xs.getD 0 0) ls r S
      | _ => none
    | .ifCond .le _ => match st with
      | .int x :: r => pm_b 2 x 0 (xs.getD 0 0) nx ls r S
      | _ => none
    | .if_icmp .eq _ => match st with
      | .int y :: .int x :: r => pm_b 0 x y (xs.getD 0 0) nx ls r S
      | _ => none
    | .if_icmp .ne _ => match st with
      | .int y :: .int x :: r => pm_b 0 x y nx (xs.getD 0 0) ls r S
      | _ => none
    | .if_icmp .lt _ => match st with
      | .int y :: .int x :: r => pm_b 1 x y (xs.getD 0 0) nx ls r S
      | _ => none
    | .if_icmp .ge _ => match st with
      | .int y :: .int x :: r => pm_b 1 x y nx (xs.getD 0 0) ls r S
      | _ => none
    | .if_icmp .gt _ => match st with
      | .int y :: .int x :: r => pm_b 2 x y nx (xs.getD 0 0) ls r S
      | _ => none
    | .if_icmp .le _ => match st with
      | .int y :: .int x :: r => pm_b 2 x y (xs.getD 0 0) nx ls r S
      | _ => none
    | .goto _ => pm_n true (xs.getD 0 0) ls st S
    | .tableswitch _ _ _ _ => match st with
      | .int x :: r => pm_w x (xs.getD 0 0) (xs.drop 1) ls r S
      | _ => none
    | .getfield _ => match st with
      | .ref r :: rest => bif Nat.ble (xs.getD 0 9) 1 then (bif Nat.blt r S.1 then (match Sg r with
          | .inr (c, ks) => bif Nat.beq c (xs.getD 1 0) then (match pm_fv S r (xs.getD 2 0) (ks.getD (xs.getD 2 0) 9) with
              | some v => pm_n true nx ls (v :: rest) S
              | none => none) else none
          | .inl _ => none) else none)
        else (bif Nat.beq r 201 then (match xs.getD 0 9 with
          | 2 => pm_n true nx ls (.ref 202 :: rest) S
          | 3 => pm_n true nx ls (.int 0 :: rest) S
          | _ => none) else none)
      | _ => none
    | .putfield _ => match st with
      | .int x :: .ref r :: rest => bif Nat.blt r S.1 && Nat.ble (xs.getD 0 9) 1 then (match Sg r with
          | .inr (c, ks) => bif Nat.beq c (xs.getD 1 0) then (match ks.getD (xs.getD 2 0) 9 with
              | 0 => pm_n true nx ls rest (S.1, S.2.1, pm_ui S.2.2.1 r (xs.getD 2 0) x, S.2.2.2)
              | 2 => pm_n (decide (x &&& 1 = x)) nx ls rest (S.1, S.2.1, pm_ui S.2.2.1 r (xs.getD 2 0) x, S.2.2.2)
              | _ => none) else none
          | .inl _ => none) else none
      | .long x :: .ref r :: rest => bif Nat.blt r S.1 && Nat.ble (xs.getD 0 9) 1 then (match Sg r with
          | .inr (c, ks) => bif Nat.beq c (xs.getD 1 0) && Nat.beq (ks.getD (xs.getD 2 0) 9) 1 then pm_n true nx ls rest (S.1, S.2.1, S.2.2.1, pm_ul S.2.2.2 r (xs.getD 2 0) x) else none
          | .inl _ => none) else none
      | .ref z :: .ref r :: rest => bif Nat.blt r S.1 && (Nat.blt z S.1 && Nat.beq (xs.getD 0 9) 4) then (match Sg r with
          | .inr (c, ks) => bif Nat.beq c (xs.getD 1 0) && Nat.beq (ks.getD (xs.getD 2 0) 9) 3 then pm_n true nx ls rest (S.1, pm_ug S.2.1 r (xs.getD 2 0) (z + 1), S.2.2.1, S.2.2.2) else none
          | .inl _ => none) else none
      | _ => none
    | .getstatic _ => match xs.getD 0 0 with
      | 0 => pm_n true nx ls (.ref 200 :: st) S
      | 1 => pm_n true nx ls (.int 1 :: st) S
      | 2 => pm_n true nx ls (.ref 204 :: st) S
      | _ => none
    | .iaload => match st with
      | .int i :: .ref r :: rest => bif Nat.blt r S.1 then (match Sg r with
          | .inl (0, n) => pm_n (pm_ib i n) nx ls (.int (S.2.2.1 r i.toNatClampNeg) :: rest) S
          | _ => none)
        else (match Rt r with
          | some (0, n, f) => pm_n (pm_ib i n) nx ls (.int (f i.toNatClampNeg) :: rest) S
          | _ => none)
      | _ => none
    | .baload => match st with
      | .int i :: .ref r :: rest => bif Nat.blt r S.1 then (match Sg r with
          | .inl (2, n) => pm_n (pm_ib i n) nx ls (.int (S.2.2.1 r i.toNatClampNeg) :: rest) S
          | .inl (3, n) => pm_n (pm_ib i n) nx ls (.int (S.2.2.1 r i.toNatClampNeg) :: rest) S
          | _ => none)
        else (match Rt r with
          | some (2, n, f) => pm_n (pm_ib i n) nx ls (.int (f i.toNatClampNeg) :: rest) S
          | _ => none)
      | _ => none
    | .laload => match st with
      | .int i :: .ref r :: rest => bif Nat.blt r S.1 then (match Sg r with
          | .inl (1, n) => pm_n (pm_ib i n) nx ls (.long (S.2.2.2 r i.toNatClampNeg) :: rest) S
          | _ => none) else none
      | _ => none
    | .iastore => match st with
      | .int x :: .int i :: .ref r :: rest => bif Nat.blt r S.1 then (match Sg r with
          | .inl (0, n) => pm_n (pm_ib i n) nx ls rest (S.1, S.2.1, pm_ui S.2.2.1 r i.toNatClampNeg x, S.2.2.2)
          | _ => none) else none
      | _ => none
    | .bastore => match st with
      | .int x :: .int i :: .ref r :: rest => bif Nat.blt r S.1 then (match Sg r with
          | .inl (2, n) => pm_n (pm_ib i n) nx ls rest (S.1, S.2.1, pm_ui S.2.2.1 r i.toNatClampNeg (vp_nar .byte x), S.2.2.2)
          | .inl (3, n) => pm_n (pm_ib i n) nx ls rest (S.1, S.2.1, pm_ui S.2.2.1 r i.toNatClampNeg (vp_nar .boolean x), S.2.2.2)
          | _ => none) else none
      | _ => none
    | .lastore => match st with
      | .long x :: .int i :: .ref r :: rest => bif Nat.blt r S.1 then (match Sg r with
          | .inl (1, n) => pm_n (pm_ib i n) nx ls rest (S.1, S.2.1, S.2.2.1, pm_ul S.2.2.2 r i.toNatClampNeg x)
          | _ => none) else none
      | _ => none
    | .arraylength => match st with
      | .ref r :: rest => bif Nat.blt r S.1 then (match Sg r with
          | .inl (t, n) => bif Nat.ble t 3 then pm_n true nx ls (.int (nI n) :: rest) S else none
          | _ => none)
        else (match Rt r with
          | some (_, n, _) => pm_n true nx ls (.int (nI n) :: rest) S
          | _ => none)
      | _ => none
    | .newarray _ => match st with
      | .int n :: rest => match Sg S.1 with
        | .inl (t, w) => bif Nat.beq t (xs.getD 0 9) && Nat.blt S.1 200 then (pm_n (decide (n = nI w)) nx ls (.ref S.1 :: rest) (S.1 + 1, pm_cg S.2.1 S.1, pm_ci S.2.2.1 S.1, pm_cl S.2.2.2 S.1)) else none
        | _ => none
      | _ => none
    | .new _ => match Sg S.1 with
      | .inr (c, _) => bif Nat.beq c (xs.getD 1 0) && Nat.blt S.1 200 then pm_n true nx ls (.ref S.1 :: st) (S.1 + 1, pm_cg S.2.1 S.1, pm_ci S.2.2.1 S.1, pm_cl S.2.2.2 S.1) else none
      | _ => none
    | .invokespecial _ => match xs with
      | [] => match st with
        | .ref r :: rest => bif Nat.blt r S.1 && Nat.ble (pm_wd rest) 8 then pm_n true nx ls rest S else none
        | _ => none
      | xs => pm_callI nx xs ls st S
    | .invokevirtual _ => pm_callV Sg nx xs ls st S
    | .invokestatic _ => pm_call nx xs ls st S
    | .ireturn => match st with
      | [.int x] => match ret with
        | some .int => pm_e true (some (.int x)) S
        | some .boolean => pm_e (decide (x &&& 1 = x)) (some (.int x)) S
        | some .byte => pm_e (decide (x.toInt8.toInt32 = x)) (some (.int x)) S
        | some .char => pm_e (decide ((x.toUInt32 % 65536).toInt32 = x)) (some (.int x)) S
        | _ => none
      | _ => none
    | .lreturn => match st with
      | [.long x] => match ret with
        | some .long => pm_e true (some (.long x)) S
        | _ => none
      | _ => none
    | .return_ => match st with
      | [] => match ret with
        | none => pm_e true none S
        | _ => none
      | _ => none
    | _ => none
/-- behind a call -/
def pm_k (r : pm_R) (k : Option Value → pm_S → pm_R) : pm_R := match r with
  | some (v, S) => k v S
  | none => none
def pm_c (me : Nat → pm_Me) (F : pm_F) (mj : Nat) (as : List Value) (S : pm_S) : pm_R := bif Nat.ble (pm_wd as) (me mj).2.2.1 then F mj 0 (pm_en (me mj).2.2.1 as) [] S else none
def pm_dc (me : Nat → pm_Me) (F : pm_F) (mi : Nat) : pm_C → pm_R
  | .inl (pc, ls, st, S) => F mi pc ls st S
  | .inr (.inl (o, x, y, t, e, ls, st, S)) => match o with
    | 0 => if x = y then F mi t ls st S else F mi e ls st S
    | 1 => if x < y then F mi t ls st S else F mi e ls st S
    | _ => if x ≤ y then F mi t ls st S else F mi e ls st S
  | .inr (.inr (.inl (x, d, ts, ls, st, S))) => pm_sw (fun t => F mi t ls st S) x d ts 0
  | .inr (.inr (.inr (.inl (mj, as, nx, ls, st, S)))) => pm_k (pm_c me F mj as S) (fun v S' => F mi nx ls (v.toList ++ st) S')
  | .inr (.inr (.inr (.inr (v, S)))) => some (v, S)
def pm_do (me : Nat → pm_Me) (F : pm_F) (mi : Nat) : pm_Z → pm_R
  | none => none
  | some (g, c) => bif g then pm_dc me F mi c else none
def pm_body (me : Nat → pm_Me) (Sg : Nat → pm_K) (Rt : pm_T) (F : pm_F) : pm_F := fun mi pc ls st S => match pm_at (me mi).2.2.2.2.2.2 pc with
  | some q => pm_do me F mi (pm_x Sg Rt (me mi).2.2.2.1 q ls st S)
  | none => none
/-- so many instructions deep at most -/
def pm_run (me : Nat → pm_Me) (Sg : Nat → pm_K) (Rt : pm_T) : Nat → pm_F
  | 0 => fun _ _ _ _ _ => none
  | n + 1 => pm_body me Sg Rt (pm_run me Sg Rt n)
/-- a block: till a place where it stops; at most k instructions -/
def pm_blk (me : Nat → pm_Me) (Sg : Nat → pm_K) (Rt : pm_T) (F : pm_F) (stop : Nat → Nat → Bool) : Nat → pm_F
  | 0 => F
  | k + 1 => fun mi pc ls st S => pm_body me Sg Rt (fun mi pc ls st S => bif stop mi pc then F mi pc ls st S else pm_blk me Sg Rt F stop k mi pc ls st S) mi pc ls st S
def pm_fix (me : Nat → pm_Me) (Sg : Nat → pm_K) (Rt : pm_T) (F : pm_F) : Prop := ∀ mi pc ls st S, F mi pc ls st S = pm_body me Sg Rt F mi pc ls st S
theorem pm_blk_eq {me : Nat → pm_Me} {Sg : Nat → pm_K} {Rt : pm_T} {F : pm_F} (h : pm_fix me Sg Rt F) (stop : Nat → Nat → Bool) : ∀ (k : Nat), pm_blk me Sg Rt F stop k = F := by
  intro k
  induction k with
  | zero => rfl
  | succ k ih =>
    funext mi pc ls st S
    rw [h mi pc ls st S]
    show pm_body me Sg Rt (fun mi pc ls st S => bif stop mi pc then F mi pc ls st S else pm_blk me Sg Rt F stop k mi pc ls st S) mi pc ls st S = _
    rw [ih]
    congr 1
    funext mi pc ls st S
    cases stop mi pc <;> rfl
theorem pm_blk_to {me : Nat → pm_Me} {Sg : Nat → pm_K} {Rt : pm_T} {F : pm_F} (h : pm_fix me Sg Rt F) (stop : Nat → Nat → Bool) (k : Nat) {mi pc : Nat} {ls : pm_L} {st : List Value} {S : pm_S} {r : pm_R} (hr : pm_blk me Sg Rt F stop k mi pc ls st S = r) : F mi pc ls st S = r := by
  rw [← hr, pm_blk_eq h]
/-! the least machine: what some depth answers -/
def pm_le (F F' : pm_F) : Prop := ∀ mi pc ls st S r, F mi pc ls st S = some r → F' mi pc ls st S = some r
theorem pm_k_some {r : pm_R} {k : Option Value → pm_S → pm_R} {z : Option Value × pm_S} (h : pm_k r k = some z) : ∃ v S, r = some (v, S) ∧ k v S = some z := by
  cases r with
  | none => cases h
  | some a => exact ⟨a.1, a.2, rfl, h⟩
theorem pm_c_some {me : Nat → pm_Me} {F : pm_F} {mj : Nat} {as : List Value} {S : pm_S} {z : Option Value × pm_S} (h : pm_c me F mj as S = some z) : Nat.ble (pm_wd as) (me mj).2.2.1 = true ∧ F mj 0 (pm_en (me mj).2.2.1 as) [] S = some z := by
  unfold pm_c at h
  cases hb : Nat.ble (pm_wd as) (me mj).2.2.1 with
  | true => rw [hb] at h; exact ⟨rfl, h⟩
  | false => rw [hb] at h; cases h
theorem pm_sw_some {k k' : Nat → pm_R} {x : Int32} {d : Nat} {z : Option Value × pm_S} (hk : ∀ t, k t = some z → k' t = some z) : ∀ (ts : List Nat) (j : Nat), pm_sw k x d ts j = some z → pm_sw k' x d ts j = some z := by
  intro ts
  induction ts with
  | nil => intro j h; exact hk _ h
  | cons t ts ih =>
    intro j h
    unfold pm_sw at h ⊢
    by_cases c : x = nI j
    · rw [if_pos c] at h ⊢; exact hk _ h
    · rw [if_neg c] at h ⊢; exact ih _ h
theorem pm_sw_which {k : Nat → pm_R} {x : Int32} {d : Nat} : ∀ (ts : List Nat) (j : Nat), ∃ t, pm_sw k x d ts j = k t ∧ ∀ k', pm_sw k' x d ts j = k' t := by
  intro ts
  induction ts with
  | nil => intro j; exact ⟨d, rfl, fun _ => rfl⟩
  | cons t ts ih =>
    intro j
    by_cases c : x = nI j
    · exact ⟨t, by unfold pm_sw; rw [if_pos c], fun k' => by unfold pm_sw; rw [if_pos c]⟩
    · obtain ⟨u, h1, h2⟩ := ih (j + 1)
      exact ⟨u, by unfold pm_sw; rw [if_neg c]; exact h1, fun k' => by unfold pm_sw; rw [if_neg c]; exact h2 k'⟩
theorem pm_body_mono {me : Nat → pm_Me} {Sg : Nat → pm_K} {Rt : pm_T} {F F' : pm_F} (h : pm_le F F') : pm_le (pm_body me Sg Rt F) (pm_body me Sg Rt F') := by
  intro mi pc ls st S r hr
  unfold pm_body at hr ⊢
  cases hq : pm_at (me mi).2.2.2.2.2.2 pc with
  | none => rw [hq] at hr; cases hr
  | some q =>
    rw [hq] at hr
    dsimp only at hr ⊢
    cases hz : pm_x Sg Rt (me mi).2.2.2.1 q ls st S with
    | none => rw [hz] at hr; cases hr
    | some gc =>
      obtain ⟨g, c⟩ := gc
      rw [hz] at hr
      cases g with
      | false => cases hr
      | true =>
        show pm_dc me F' mi c = some r
        have hr : pm_dc me F mi c = some r := hr
        rcases c with ⟨pc', ls', st', S'⟩ | ⟨o, x, y, t, e, ls', st', S'⟩ | ⟨x, d, ts, ls', st', S'⟩ | ⟨mj, as, nx, ls', st', S'⟩ | ⟨v, S'⟩
        · exact h _ _ _ _ _ _ hr
        · unfold pm_dc at hr ⊢
          dsimp only at hr ⊢
          split at hr <;> split at hr <;> rename_i c1 <;> first | (rw [if_pos c1]; exact h _ _ _ _ _ _ hr) | (rw [if_neg c1]; exact h _ _ _ _ _ _ hr)
        · exact pm_sw_some (fun t ht => h _ _ _ _ _ _ ht) ts 0 hr
        · obtain ⟨v, S2, h1, h2⟩ := pm_k_some hr
          obtain ⟨h3, h4⟩ := pm_c_some h1
          show pm_k (pm_c me F' mj as S') _ = _
          have : pm_c me F' mj as S' = some (v, S2) := by unfold pm_c; rw [h3]; exact h _ _ _ _ _ _ h4
          rw [this]
          exact h _ _ _ _ _ _ h2
        · exact hr
theorem pm_run_le {me : Nat → pm_Me} {Sg : Nat → pm_K} {Rt : pm_T} : ∀ (n : Nat), pm_le (pm_run me Sg Rt n) (pm_run me Sg Rt (n + 1)) := by
  intro n
  induction n with
  | zero => intro mi pc ls st S r h; cases h
  | succ n ih => exact pm_body_mono ih
theorem pm_run_mono {me : Nat → pm_Me} {Sg : Nat → pm_K} {Rt : pm_T} {n m : Nat} (h : n ≤ m) : pm_le (pm_run me Sg Rt n) (pm_run me Sg Rt m) := by
  induction h with
  | refl => exact fun _ _ _ _ _ _ h => h
  | step _ ih => exact fun mi pc ls st S r hr => pm_run_le _ _ _ _ _ _ _ (ih _ _ _ _ _ _ hr)
noncomputable def pm_sem (me : Nat → pm_Me) (Sg : Nat → pm_K) (Rt : pm_T) : pm_F := fun mi pc ls st S => by
  classical
  exact if h : ∃ n r, pm_run me Sg Rt n mi pc ls st S = some r then some (Classical.choose (Classical.choose_spec h)) else none
theorem pm_sem_iff {me : Nat → pm_Me} {Sg : Nat → pm_K} {Rt : pm_T} {mi pc : Nat} {ls : pm_L} {st : List Value} {S : pm_S} {r : Option Value × pm_S} : pm_sem me Sg Rt mi pc ls st S = some r ↔ ∃ n, pm_run me Sg Rt n mi pc ls st S = some r := by
  unfold pm_sem
  constructor
  · intro h
    by_cases c : ∃ n r, pm_run me Sg Rt n mi pc ls st S = some r
    · rw [dif_pos c] at h
      cases h
      exact ⟨_, Classical.choose_spec (Classical.choose_spec c)⟩
    · rw [dif_neg c] at h; cases h
  · rintro ⟨n, hn⟩
    have c : ∃ n r, pm_run me Sg Rt n mi pc ls st S = some r := ⟨n, r, hn⟩
    rw [dif_pos c]
    have h2 := Classical.choose_spec (Classical.choose_spec c)
    have h3 := pm_run_mono (Nat.le_max_left (Classical.choose c) n) _ _ _ _ _ _ h2
    have h4 := pm_run_mono (Nat.le_max_right (Classical.choose c) n) _ _ _ _ _ _ hn
    rw [h3] at h4
    exact h4
theorem pm_sem_cont {me : Nat → pm_Me} {Sg : Nat → pm_K} {Rt : pm_T} {mi pc : Nat} {ls : pm_L} {st : List Value} {S : pm_S} {r : Option Value × pm_S} (hr : pm_body me Sg Rt (pm_sem me Sg Rt) mi pc ls st S = some r) : ∃ n, pm_body me Sg Rt (pm_run me Sg Rt n) mi pc ls st S = some r := by
  unfold pm_body at hr ⊢
  cases hq : pm_at (me mi).2.2.2.2.2.2 pc with
  | none => rw [hq] at hr; cases hr
  | some q =>
    rw [hq] at hr
    dsimp only at hr ⊢
    cases hz : pm_x Sg Rt (me mi).2.2.2.1 q ls st S with
    | none => rw [hz] at hr; cases hr
    | some gc =>
      obtain ⟨g, c⟩ := gc
      rw [hz] at hr
      cases g with
      | false => cases hr
      | true =>
        show ∃ n, pm_dc me (pm_run me Sg Rt n) mi c = some r
        have hr : pm_dc me (pm_sem me Sg Rt) mi c = some r := hr
        rcases c with ⟨pc', ls', st', S'⟩ | ⟨o, x, y, t, e, ls', st', S'⟩ | ⟨x, d, ts, ls', st', S'⟩ | ⟨mj, as, nx, ls', st', S'⟩ | ⟨v, S'⟩
        · exact pm_sem_iff.mp hr
        · unfold pm_dc at hr ⊢
          dsimp only at hr ⊢
          split at hr <;> split at hr <;> rename_i c1 <;> (obtain ⟨n, hn⟩ := pm_sem_iff.mp hr; refine ⟨n, ?_⟩) <;> first | (rw [if_pos c1]; exact hn) | (rw [if_neg c1]; exact hn)
        · obtain ⟨t, h1, h2⟩ := pm_sw_which (k := fun t => pm_sem me Sg Rt mi t ls' st' S') (x := x) (d := d) ts 0
          obtain ⟨n, hn⟩ := pm_sem_iff.mp (h1.symm.trans hr)
          exact ⟨n, (h2 _).trans hn⟩
        · obtain ⟨v, S2, h1, h2⟩ := pm_k_some hr
          obtain ⟨h3, h4⟩ := pm_c_some h1
          obtain ⟨n1, h5⟩ := pm_sem_iff.mp h4
          obtain ⟨n2, h6⟩ := pm_sem_iff.mp h2
          refine ⟨max n1 n2, ?_⟩
          show pm_k (pm_c me _ mj as S') _ = _
          have : pm_c me (pm_run me Sg Rt (max n1 n2)) mj as S' = some (v, S2) := by unfold pm_c; rw [h3]; exact pm_run_mono (Nat.le_max_left _ _) _ _ _ _ _ _ h5
          rw [this]
          exact pm_run_mono (Nat.le_max_right _ _) _ _ _ _ _ _ h6
        · exact ⟨0, hr⟩
theorem pm_sem_fix (me : Nat → pm_Me) (Sg : Nat → pm_K) (Rt : pm_T) : pm_fix me Sg Rt (pm_sem me Sg Rt) := by
  intro mi pc ls st S
  apply Option.ext
  intro r
  constructor
  · intro h
    obtain ⟨n, hn⟩ := pm_sem_iff.mp h
    cases n with
    | zero => cases hn
    | succ n => exact pm_body_mono (fun _ _ _ _ _ _ h => pm_sem_iff.mpr ⟨n, h⟩) _ _ _ _ _ _ hn
  · intro h
    obtain ⟨n, hn⟩ := pm_sem_cont h
    exact pm_sem_iff.mpr ⟨n + 1, hn⟩
/-- a block of a method stops at its cuts, and at every other method -/
def pm_el (b : Nat) : List Nat → Bool
  | [] => false
  | a :: l => Nat.beq a b || pm_el b l
def pm_stp (mi : Nat) (C : List Nat) (a b : Nat) : Bool := !(Nat.beq a mi) || pm_el b C
theorem pm_k_i {v : Option Value} {S : pm_S} {k : Option Value → pm_S → pm_R} : pm_k (some (v, S)) k = k v S := rfl
end
section
/-! ===== what the tables must say of an instruction ===== -/
def pm_G : List Cond := lw_tbl.filter goodWord
def pm_ty : Nat → FieldType
  | 0 => .int
  | 1 => .long
  | 2 => .byte
  | _ => .boolean
def pm_d (b : ByteArray) (pc : Nat) (ins : Instr) (nx n : Nat) : Bool := decide (decode b pc = .ok (ins, n)) && Nat.beq nx (pc + n)
def pm_wn (w : Nat) (x : Cond) : Bool := decide (lw_tbl[w]? = some x)
def pm_wk (w : Nat) (x : Cond) : Bool := pm_wn w x && goodWord x
def pm_fk (cl : List vw_C) (c k : Nat) : Option (String × String × String × Bool) := match cl[c]? with
  | some (C, T, N) => bif Nat.blt k N && decide ((T k).1 = C) then some (T k) else none
  | none => none
def pm_cc (me : Nat → pm_Me) (mi mj n wi wc : Nat) : Bool := pm_wk wi (.initialized (me mj).1.cls) && (pm_wk wc (.code (me mj).1 (me mj).2.1 (me mj).2.2.1 (me mj).2.2.2.1) && (decide ((me mj).1.cls ≠ "java/lang/invoke/MethodHandle") && (decide ((me mj).1.cls ≠ "java/lang/invoke/VarHandle") && (decide ((parseMethodDescriptor (me mj).1.desc).map (fun d => d.parameters.length) = some n) && (Nat.ble ((me mj).2.2.2.2.1 + 1) (me mi).2.2.2.2.1 && (Nat.ble (8 + ((me mj).2.2.1 + 11) + (me mj).2.2.2.2.2.1) (me mi).2.2.2.2.2.1 && plainFor (me mj).1))))))
def pm_lnk (own : String) (idx w tag : Nat) (y : MethodName) : Bool := match tag with
  | 0 => pm_wk w (.methodLink own idx y)
  | _ => pm_wn w (.methodLinkNest own idx y "TurnCabinet")
def pm_flk (own : String) (idx w tag : Nat) (t : String × String × String × Bool) : Bool := match tag with
  | 1 => pm_wn w (.fieldLinkNest own idx t.1 t.2.1 t.2.2.1 "TurnCabinet")
  | _ => pm_wk w (.fieldLink own idx t.1 t.2.1 t.2.2.1)
def pm_swk (pc : Nat) : List Int → List Nat → Bool
  | [], [] => true
  | o :: os, t :: ts => decide ((pc : Int) + o = (t : Int)) && pm_swk pc os ts
  | _, _ => false
def pm_chk (cl : List vw_C) (me : Nat → pm_Me) (mi : Nat) (q : pm_Q) : Bool := match q with
  | (pc, ins, nx, w, xs, ci, cj) => match ins with
    | .iload_n n | .lload_n n | .aload_n n | .istore_n n | .lstore_n n | .astore_n n => pm_d (me mi).2.1 pc ins nx 1 && Nat.beq n.val (xs.getD 0 0)
    | .iload i | .lload i | .aload i | .istore i | .lstore i | .astore i => pm_d (me mi).2.1 pc ins nx 2 && Nat.beq i (xs.getD 0 0)
    | .iinc i n => pm_d (me mi).2.1 pc ins nx 3 && (Nat.beq i (xs.getD 0 0) && decide (Int32.ofInt n = ci))
    | .iconst n => pm_d (me mi).2.1 pc ins nx 1 && decide (Int32.ofInt n = ci)
    | .bipush n => pm_d (me mi).2.1 pc ins nx 2 && decide ((Int8.ofInt n).toInt32 = ci)
    | .sipush n => pm_d (me mi).2.1 pc ins nx 3 && decide ((Int16.ofInt n).toInt32 = ci)
    | .ldc idx => pm_d (me mi).2.1 pc ins nx 2 && (match xs with
      | [] => pm_wk w (.constant (me mi).1.cls idx ci)
      | r :: _ => Nat.beq r 201 && (decide ((me mi).1.cls = "TurnCabinet$Reader") && Nat.beq idx 46))
    | .ldc_w idx => pm_d (me mi).2.1 pc ins nx 3 && pm_wk w (.constant (me mi).1.cls idx ci)
    | .lconst n => pm_d (me mi).2.1 pc ins nx 1 && decide (Int64.ofNat (n : Nat) = cj)
    | .ldc2_w idx => pm_d (me mi).2.1 pc ins nx 3 && pm_wk w (.constantLong (me mi).1.cls idx cj)
    | .ifCond _ o | .if_icmp _ o | .goto o => pm_d (me mi).2.1 pc ins nx 3 && decide ((pc : Int) + o = (xs.getD 0 0 : Int))
    | .tableswitch d lo hi offs => pm_d (me mi).2.1 pc ins nx (nx - pc) && (decide (lo = 0) && (decide (hi + 1 = (offs.size : Int)) && (decide (offs.size < 1000) && (decide ((pc : Int) + d = (xs.getD 0 0 : Int)) && pm_swk pc offs.toList (xs.drop 1)))))
    | .getfield idx => pm_d (me mi).2.1 pc ins nx 3 && (match xs.getD 0 9 with
      | 2 => pm_wk w (.fieldLink (me mi).1.cls idx "java/lang/String" "value" "[B")
      | 3 => pm_wk w (.fieldLink (me mi).1.cls idx "java/lang/String" "coder" "B")
      | tag => match pm_fk cl (xs.getD 1 0) (xs.getD 2 0) with
        | some t => pm_flk (me mi).1.cls idx w tag t
        | none => false)
    | .putfield idx => pm_d (me mi).2.1 pc ins nx 3 && (match pm_fk cl (xs.getD 1 0) (xs.getD 2 0) with
        | some t => pm_flk (me mi).1.cls idx w (xs.getD 0 9) t && (bif Nat.beq (xs.getD 0 9) 4 then t.2.2.2 && (decide ((me mi).1.name = "<init>") && decide (t.1 = (me mi).1.cls)) else !t.2.2.2)
        | none => false)
    | .getstatic idx => pm_d (me mi).2.1 pc ins nx 3 && (match xs.getD 0 0 with
      | 0 => pm_wk w (.fieldLink (me mi).1.cls idx "TurnCabinet$Coalitions" "ORDERS" "[I")
      | 1 => pm_wk w (.fieldLink (me mi).1.cls idx "java/lang/String" "COMPACT_STRINGS" "Z")
      | 2 => pm_wk w (.fieldLink (me mi).1.cls idx "jdk/internal/util/Preconditions" "SIOOBE_FORMATTER" "Ljava/util/function/BiFunction;")
      | _ => false)
    | .newarray a => pm_d (me mi).2.1 pc ins nx 2 && (pm_wk w (.arrayClass (newarray.typeOf a)) && (decide (newarray.typeOf a = pm_ty (xs.getD 0 9)) && Nat.ble (xs.getD 0 9) 3))
    | .new idx => pm_d (me mi).2.1 pc ins nx 3 && (match cl[xs.getD 1 0]? with
      | some (C, _, N) => pm_wk w (.classLink (me mi).1.cls idx C) && (pm_wk (xs.getD 2 0) (.instantiable C N) && pm_wk (xs.getD 3 0) (.initialized C))
      | none => false)
    | .invokespecial idx => pm_d (me mi).2.1 pc ins nx 3 && (match xs with
      | [] => pm_wk w (.methodLink (me mi).1.cls idx objectInit) && (pm_G.contains (.instanceMethod objectInit) && (pm_G.contains (.code objectInit ⟨#[0xb1]⟩ 1 none) && (Nat.ble 1 (me mi).2.2.2.2.1 && Nat.ble 20 (me mi).2.2.2.2.2.1)))
      | _ => pm_lnk (me mi).1.cls idx w (xs.getD 2 0) (me (xs.getD 0 0)).1 && (pm_wk (xs.getD 3 0) (.instanceMethod (me (xs.getD 0 0)).1) && (decide ((me (xs.getD 0 0)).1.name = "<init>") && (decide ((me (xs.getD 0 0)).2.2.2.1 = none) && pm_cc me mi (xs.getD 0 0) (xs.getD 1 0 - 1) (xs.getD 4 0) (xs.getD 5 0)))))
    | .invokevirtual idx => pm_d (me mi).2.1 pc ins nx 3 && (pm_lnk (me mi).1.cls idx w (xs.getD 2 0) (me (xs.getD 0 0)).1 && (pm_wk (xs.getD 4 0) (.instanceMethod (me (xs.getD 0 0)).1) && (pm_wk (xs.getD 5 0) (.selects (me (xs.getD 0 0)).1.cls (me (xs.getD 0 0)).1 (me (xs.getD 0 0)).1) && (pm_cc me mi (xs.getD 0 0) (xs.getD 1 0 - 1) (xs.getD 6 0) (xs.getD 7 0) && (bif Nat.beq (xs.getD 3 0) 99 then decide ((me (xs.getD 0 0)).1.cls = "java/lang/String") else (match cl[xs.getD 3 0]? with
      | some (C, _, _) => decide ((me (xs.getD 0 0)).1.cls = C)
      | none => false))))))
    | .invokestatic idx => pm_d (me mi).2.1 pc ins nx 3 && (pm_lnk (me mi).1.cls idx w (xs.getD 2 0) (me (xs.getD 0 0)).1 && (pm_wk (xs.getD 3 0) (.static (me (xs.getD 0 0)).1) && pm_cc me mi (xs.getD 0 0) (xs.getD 1 0) (xs.getD 4 0) (xs.getD 5 0)))
    | _ => pm_d (me mi).2.1 pc ins nx 1
/-! ===== the worlds ===== -/
def pm_rl (ρ : Nat → Nat) (fv : Value) : Value → Value
  | .ref a => if a = 204 then fv else .ref (ρ a)
  | v => v
def pm_val (ρ : Nat → Nat) (fv : Value) (S : pm_S) (r k : Nat) : Nat → Value
  | 0 => .int (S.2.2.1 r k)
  | 1 => .long (S.2.2.2 r k)
  | 2 => .int (S.2.2.1 r k)
  | _ => match S.2.1 r k with
    | 0 => .null
    | j + 1 => pm_rl ρ fv (.ref j)
def pm_con (S : pm_S) (r : Nat) : Nat → ((Nat → Int32) ⊕ (Nat → Int64) ⊕ (Nat → UInt32) ⊕ (Nat → UInt64) ⊕ (Nat → Option Nat))
  | 1 => .inr (.inl (S.2.2.2 r))
  | _ => .inl (S.2.2.1 r)
def pm_cell (ρ : Nat → Nat) (fv : Value) (cA : Nat → ClassId) (K : pm_K) (S : pm_S) (r : Nat) : va_E := match K with
  | .inl (t, n) => .inl (cA t, n, pm_con S r t)
  | .inr (c, ks) => .inr (c, ks.mapIdx (fun k kd => pm_val ρ fv S r k kd))
def pm_ws (ρ : Nat → Nat) (fv : Value) (cA : Nat → ClassId) (Sg : Nat → pm_K) (S : pm_S) : va_W := (List.range S.1).map (fun r => (ρ r, pm_cell ρ fv cA (Sg r) S r))
def pm_tys (cA : Nat → ClassId) : List (ClassId × FieldType) := [(cA 0, .int), (cA 1, .long), (cA 2, .byte), (cA 3, .boolean)]
def pm_sz (K : pm_K) : Nat := match K with
  | .inl (_, n) => n
  | .inr (_, ks) => ks.length
/-- the slots of the first so many cells -/
def pm_ss (Sg : Nat → pm_K) : Nat → Nat
  | 0 => 0
  | n + 1 => pm_ss Sg n + pm_sz (Sg n)
def pm_isN : Cond → Bool
  | .fieldLinkNest _ _ _ _ _ _ | .methodLinkNest _ _ _ _ => true
  | _ => false
/-- what is there from the start, and nobody writes -/
def pm_Zf (Rt : pm_T) (ρ : Nat → Nat) (fv : Value) (A : Nat → Prop) (U : State) (H : Heap) : Prop :=
  va_Z "TurnCabinet$Coalitions" "ORDERS" "[I" (.ref (ρ 200)) A U H ∧ va_Z "java/lang/String" "COMPACT_STRINGS" "Z" (.int 1) A U H ∧ va_Z "jdk/internal/util/Preconditions" "SIOOBE_FORMATTER" "Ljava/util/function/BiFunction;" fv A U H ∧
  va_OF "java/lang/String" "coder" "B" (.int 0) (ρ 201) A U H ∧ va_OF "java/lang/String" "value" "[B" (.ref (ρ 202)) (ρ 201) A U H ∧ va_O "java/lang/String" (ρ 201) A U H ∧
  ∀ (r t n : Nat) (f : Nat → Int32), Rt r = some (t, n, f) → va_T (pm_ty t) (ρ r) n (fun j => .int (f j)) A U H
/-- what the tables say, of the state alone -/
def pm_Nf (tx : String) (ρ : Nat → Nat) (U : State) : Prop := (∀ w ∈ lw_tbl, pm_isN w = true → va_Nw w U) ∧ vk_R "TurnCabinet$Reader" 46 tx (ρ 201) U
theorem pm_Zf.moved {Rt : pm_T} {ρ : Nat → Nat} {fv : Value} {A : Nat → Prop} {u U : State} {H : Heap} (hvm : u.vm.Alike U.vm) (h : pm_Zf Rt ρ fv A u H) : pm_Zf Rt ρ fv A U H := by
  obtain ⟨h1, h2, h3, h4, h5, h6, h7⟩ := h
  exact ⟨h1.moved hvm, h2.moved hvm, h3.moved hvm, h4.moved hvm, h5.moved hvm, h6.moved hvm, fun r t n f h => (h7 r t n f h).moved hvm⟩
theorem pm_Zf.kept {Rt : pm_T} {ρ : Nat → Nat} {fv : Value} {A : Nat → Prop} {U : State} {H H1 : Heap} (h : pm_Zf Rt ρ fv A U H) (hq : ∀ a : Nat, a < H.size → ¬ A a → H1[a]? = H[a]?) : pm_Zf Rt ρ fv A U H1 := by
  obtain ⟨h1, h2, h3, h4, h5, h6, h7⟩ := h
  exact ⟨h1.kept hq, h2.kept hq, h3.kept hq, h4.kept hq, h5.kept hq, h6.kept hq, fun r t n f h => (h7 r t n f h).kept hq⟩
theorem pm_Nf.warm {tx : String} {ρ : Nat → Nat} {s U : State} (hW : s.WarmedH U.vm) (h : pm_Nf tx ρ s) : pm_Nf tx ρ U := by
  refine ⟨fun w hw hn => ?_, h.2.warm hW⟩
  have h1 := h.1 w hw hn
  cases w <;> first | exact va_Nw.warmF hW h1 | exact va_Nw.warmM hW h1 | cases hn
theorem pm_Nf.same {tx : String} {ρ : Nat → Nat} {u U : State} (hv : U.vm = u.vm) (h : pm_Nf tx ρ u) : pm_Nf tx ρ U := by
  refine ⟨fun w hw hn => ?_, h.2.same hv⟩
  have h1 := h.1 w hw hn
  cases w <;> first | (cases hn; done) | exact va_Nw.same rfl hv.symm h1
theorem pm_ws_at {ρ : Nat → Nat} {fv : Value} {cA : Nat → ClassId} {Sg : Nat → pm_K} {S : pm_S} {r : Nat} (h : r < S.1) : (pm_ws ρ fv cA Sg S)[r]? = some (ρ r, pm_cell ρ fv cA (Sg r) S r) := by
  simp [pm_ws, List.getElem?_map, List.getElem?_range h]
theorem pm_ws_mem {ρ : Nat → Nat} {fv : Value} {cA : Nat → ClassId} {Sg : Nat → pm_K} {S : pm_S} {k : Nat} {q : Nat × va_E} (h : (pm_ws ρ fv cA Sg S)[k]? = some q) : k < S.1 ∧ q = (ρ k, pm_cell ρ fv cA (Sg k) S k) := by
  have hk : k < S.1 := by
    have := (List.getElem?_eq_some_iff.mp h).1
    simpa [pm_ws] using this
  rw [pm_ws_at hk] at h
  exact ⟨hk, (Option.some.inj h).symm⟩
theorem pm_ws_set {ρ : Nat → Nat} {fv : Value} {cA : Nat → ClassId} {Sg : Nat → pm_K} {S S' : pm_S} {r : Nat} (hn : S'.1 = S.1) (hr : r < S.1) (h : ∀ k, k < S.1 → k ≠ r → pm_cell ρ fv cA (Sg k) S' k = pm_cell ρ fv cA (Sg k) S k) :
    (pm_ws ρ fv cA Sg S).set r (ρ r, pm_cell ρ fv cA (Sg r) S' r) = pm_ws ρ fv cA Sg S' := by
  apply List.ext_getElem?
  intro k
  by_cases hk : k < S.1
  · rw [pm_ws_at (by omega)]
    by_cases e : k = r
    · subst e
      rw [List.getElem?_set_self (by simpa [pm_ws] using hk)]
    · rw [List.getElem?_set_ne (Ne.symm e), pm_ws_at hk, h k hk e]
  · rw [List.getElem?_eq_none (by simp [pm_ws]; omega), List.getElem?_eq_none (by simp [pm_ws]; omega)]
theorem pm_ws_D {ρ : Nat → Nat} {fv : Value} {cA : Nat → ClassId} {Sg : Nat → pm_K} {S : pm_S} {base : Nat} (hρ : ∀ a, a < 200 → ρ a = base + a) (h : S.1 ≤ 200) : va_D (fun q : Nat => base ≤ q) (pm_ws ρ fv cA Sg S) := by
  refine ⟨fun i j x y hi hj hxy => ?_, fun k q hk => ?_⟩
  · obtain ⟨h1, rfl⟩ := pm_ws_mem hi
    obtain ⟨h2, rfl⟩ := pm_ws_mem hj
    have h3 : ρ i = ρ j := hxy
    rw [hρ i (by omega), hρ j (by omega)] at h3
    omega
  · obtain ⟨h1, rfl⟩ := pm_ws_mem hk
    show base ≤ ρ k
    rw [hρ k (by omega)]
    omega
/-! locals -/
def pm_LH (ρ : Nat → Nat) (fv : Value) (nL : Nat) (ls : Array Slot) (pl : pm_L) : Prop := ls.size = nL ∧ pl.length = nL ∧ lv_wf ls ∧ ∀ (i : Nat) (v : Value), pl[i]? = some (some v) → (v.category = 2 → pl[i + 1]? = some none) → ls[i]? = some (.val (pm_rl ρ fv v))
def pm_vs (pl : pm_L) (i : Nat) : Option Value := match pl[i]? with
  | some (some v) => if v.category = 2 → pl[i + 1]? = some none then some v else none
  | _ => none
def pm_pr (ρ : Nat → Nat) (fv : Value) (pl : pm_L) : List (Nat × Value) := (List.range pl.length).filterMap (fun i => (pm_vs pl i).map (fun v => (i, pm_rl ρ fv v)))
theorem pm_pr_mem {ρ : Nat → Nat} {fv : Value} {pl : pm_L} {i : Nat} {v : Value} (h : pl[i]? = some (some v)) (h2 : v.category = 2 → pl[i + 1]? = some none) : (i, pm_rl ρ fv v) ∈ pm_pr ρ fv pl := by
  refine List.mem_filterMap.mpr ⟨i, List.mem_range.mpr (List.getElem?_eq_some_iff.mp h).1, ?_⟩
  have : pm_vs pl i = some v := by
    unfold pm_vs
    rw [h]
    exact if_pos h2
  rw [this]
  rfl
theorem pm_LH.has {ρ : Nat → Nat} {fv : Value} {nL : Nat} {ls : Array Slot} {pl : pm_L} (h : pm_LH ρ fv nL ls pl) : lv_has ls nL (pm_pr ρ fv pl) := by
  refine ⟨h.1, h.2.2.1, fun q hq => ?_⟩
  obtain ⟨i, h1, h2⟩ := List.mem_filterMap.mp hq
  cases hv : pm_vs pl i with
  | none => rw [hv] at h2; cases h2
  | some v =>
    rw [hv] at h2
    cases h2
    unfold pm_vs at hv
    split at hv
    · rename_i w hw
      split at hv
      · rename_i hc
        cases hv
        exact h.2.2.2 i v hw hc
      · cases hv
    · cases hv
theorem pm_gd {pl : pm_L} {i : Nat} {v : Value} (hv : pl.getD i none = some v) : pl[i]? = some (some v) := by
  rw [List.getD_eq_getElem?_getD] at hv
  cases hp : pl[i]? with
  | none => rw [hp] at hv; cases hv
  | some o => rw [hp] at hv; exact congrArg some hv
theorem pm_gn {pl : pm_L} {i : Nat} (hv : pl.getD i (some .null) = none) : pl[i]? = some none := by
  rw [List.getD_eq_getElem?_getD] at hv
  cases hp : pl[i]? with
  | none => rw [hp] at hv; cases hv
  | some o => rw [hp] at hv; exact congrArg some hv
theorem pm_LH.get {ρ : Nat → Nat} {fv : Value} {nL : Nat} {ls : Array Slot} {pl : pm_L} {i : Nat} {v : Value} (h : pm_LH ρ fv nL ls pl) (hv : pl.getD i none = some v) (h2 : v.category = 2 → pl[i + 1]? = some none) : ls[i]? = some (.val (pm_rl ρ fv v)) := h.2.2.2 i v (pm_gd hv) h2
theorem pm_rl_cat {ρ : Nat → Nat} {fv : Value} (hfv : fv = .null ∨ ∃ t, fv = .ref t) (v : Value) : (pm_rl ρ fv v).category = v.category := by
  cases v <;> try rfl
  rename_i a
  show (if a = 204 then fv else Value.ref (ρ a)).category = 1
  by_cases e : a = 204
  · rw [if_pos e]
    rcases hfv with h | ⟨t, h⟩ <;> rw [h] <;> rfl
  · rw [if_neg e]; rfl
theorem pm_LH.st1 {ρ : Nat → Nat} {fv : Value} (hfv : fv = .null ∨ ∃ t, fv = .ref t) {nL : Nat} {ls ls' : Array Slot} {pl pl' : pm_L} {i : Nat} {v : Value} (h : pm_LH ρ fv nL ls pl) (hs : pm_st1 pl i v = some pl')
    (hl : lv_has ls' nL ((i, pm_rl ρ fv v) :: (pm_pr ρ fv pl).filter (fun q => !(q.1 == i) && !(q.1 + 1 == i && q.2.category == 2)))) : i < nL ∧ pm_LH ρ fv nL ls' pl' := by
  unfold pm_st1 at hs
  cases hb : Nat.blt i pl.length with
  | false => rw [hb] at hs; cases hs
  | true =>
    rw [hb] at hs
    cases hs
    have hi : i < pl.length := by simpa [Nat.blt_eq] using hb
    refine ⟨by rw [← h.2.1]; exact hi, hl.1, by rw [List.length_set]; exact h.2.1, hl.2.1, fun j w hj hc => ?_⟩
    refine hl.2.2 (j, pm_rl ρ fv w) ?_
    by_cases e : j = i
    · subst e
      rw [List.getElem?_set_self hi] at hj
      cases hj
      exact List.mem_cons_self
    · rw [List.getElem?_set_ne (Ne.symm e)] at hj
      have hne : w.category = 2 → j + 1 ≠ i := by
        intro h2 e2
        have := hc h2
        rw [e2, List.getElem?_set_self hi] at this
        cases this
      refine List.mem_cons_of_mem _ (List.mem_filter.mpr ⟨pm_pr_mem hj (fun h2 => ?_), ?_⟩)
      · have := hc h2
        rw [List.getElem?_set_ne (Ne.symm (hne h2))] at this
        exact this
      · simp only [Bool.and_eq_true, Bool.not_eq_true', beq_eq_false_iff_ne, ne_eq, Bool.and_eq_false_iff]
        refine ⟨e, ?_⟩
        by_cases e2 : w.category = 2
        · exact Or.inl (hne e2)
        · exact Or.inr (by rw [pm_rl_cat hfv]; exact e2)
theorem pm_LH.st2 {ρ : Nat → Nat} {fv : Value} (hfv : fv = .null ∨ ∃ t, fv = .ref t) {nL : Nat} {ls ls' : Array Slot} {pl pl' : pm_L} {i : Nat} {v : Value} (h : pm_LH ρ fv nL ls pl) (hs : pm_st2 pl i v = some pl')
    (hl : lv_has ls' nL ((i, pm_rl ρ fv v) :: (pm_pr ρ fv pl).filter (fun q => !(q.1 == i) && (!(q.1 == i + 1) && !(q.1 + 1 == i && q.2.category == 2))))) : i + 1 < nL ∧ pm_LH ρ fv nL ls' pl' := by
  unfold pm_st2 at hs
  cases hb : Nat.blt (i + 1) pl.length with
  | false => rw [hb] at hs; cases hs
  | true =>
    rw [hb] at hs
    cases hs
    have hi : i + 1 < pl.length := by simpa [Nat.blt_eq] using hb
    refine ⟨by rw [← h.2.1]; exact hi, hl.1, by rw [List.length_set, List.length_set]; exact h.2.1, hl.2.1, fun j w hj hc => ?_⟩
    refine hl.2.2 (j, pm_rl ρ fv w) ?_
    by_cases e1 : j = i + 1
    · subst e1
      rw [List.getElem?_set_self (by rw [List.length_set]; exact hi)] at hj
      cases hj
    · rw [List.getElem?_set_ne (Ne.symm e1)] at hj
      by_cases e : j = i
      · subst e
        rw [List.getElem?_set_self (by omega)] at hj
        cases hj
        exact List.mem_cons_self
      · rw [List.getElem?_set_ne (Ne.symm e)] at hj
        have hne : w.category = 2 → j + 1 ≠ i := by
          intro h2 e2
          have := hc h2
          rw [e2, List.getElem?_set_ne (by omega), List.getElem?_set_self (by omega)] at this
          cases this
        refine List.mem_cons_of_mem _ (List.mem_filter.mpr ⟨pm_pr_mem hj (fun h2 => ?_), ?_⟩)
        · have := hc h2
          rw [List.getElem?_set_ne (by omega), List.getElem?_set_ne (Ne.symm (hne h2))] at this
          exact this
        · simp only [Bool.and_eq_true, Bool.not_eq_true', beq_eq_false_iff_ne, ne_eq, Bool.and_eq_false_iff]
          refine ⟨e, e1, ?_⟩
          by_cases e2 : w.category = 2
          · exact Or.inl (hne e2)
          · exact Or.inr (by rw [pm_rl_cat hfv]; exact e2)
end
section
/-! ===== one instruction of the pure machine is one of the machine's ===== -/
def pm_kt (kd : Nat) (ty : FieldType) : Prop := match kd with
  | 0 => ty = .int
  | 1 => ty = .long
  | 2 => ty = .boolean
  | 3 => (∃ n, ty = .object n) ∨ ∃ t, ty = .array t
  | _ => False
/-- the tables are right -/
def pm_E1 (me : Nat → pm_Me) (Sg : Nat → pm_K) (cl : List vw_C) : Prop := (∀ mi q, q ∈ (me mi).2.2.2.2.2.2 → pm_chk cl me mi q = true) ∧ (∀ c C T N, cl[c]? = some (C, T, N) → ∃ ty : Nat → FieldType, (∀ w ∈ u_ws C T N, w ∈ pm_G) ∧ (∀ a, a < N → ∀ b, b < N → a ≠ b → (T a).2.1 ≠ (T b).2.1) ∧ (∀ k, k < N → parseFieldDescriptor (T k).2.2.1 = some (ty k)) ∧ ∀ r ks, Sg r = .inr (c, ks) → ks.length = N ∧ ∀ k, k < N → pm_kt (ks.getD k 9) (ty k)) ∧ (∀ r t n, Sg r = .inl (t, n) → t ≤ 3 → n < 100000)
/-- where a method stands -/
def pm_E2 (me : Nat → pm_Me) (mi : Nat) (p : Program) (s : State) (m : MethodId) (args : Array Value) (meth : Method) (c : Code) (R : Room) (D : va_G) (cl : List vw_C) (cA : Nat → ClassId) (Rt : pm_T) (ρ : Nat → Nat) (fv : Value) (base : Nat) (tx : String) (c0 : Nat) : Prop :=
  p.tables.exec = Jvm.exec ∧ c.code = (me mi).2.1 ∧ c.maxLocals = (me mi).2.2.1 ∧ s.vm.findClass (me mi).1.cls = some m.cls ∧ ((me mi).1.name = "<init>" → meth.name = "<init>") ∧ (∀ w ∈ pm_G, w.before args s = true) ∧ (me mi).2.2.2.2.1 ≤ R.frames ∧ (me mi).2.2.2.2.2.1 ≤ R.locals ∧ va_K D cl (pm_tys cA) s ∧ pm_Zf Rt ρ fv (fun q => base ≤ q) s s.heap ∧ pm_Nf tx ρ s ∧ s.heap.size = base + c0
def pm_E3 (Rt : pm_T) (ρ : Nat → Nat) (fv : Value) (base : Nat) : Prop := (∀ a, a < 200 → ρ a = base + a) ∧ (fv = .null ∨ ∃ t, fv = .ref t) ∧ ∀ r x, Rt r = some x → 200 ≤ r ∧ r ≠ 204 ∧ x.1 ≤ 3
def pm_I (D : va_G) (cl : List vw_C) (ρ : Nat → Nat) (fv : Value) (cA : Nat → ClassId) (Sg : Nat → pm_K) (base : Nat) (S : pm_S) (s : State) (H : Heap) (locs : List Loc) : Prop :=
  va_P D cl (pm_ws ρ fv cA Sg S) H ∧ va_S (fun q : Nat => base ≤ q) s.heap H locs ∧ S.1 ≤ 200
theorem pm_d_of {b : ByteArray} {pc nx n : Nat} {ins : Instr} (h : pm_d b pc ins nx n = true) : decode b pc = .ok (ins, n) ∧ nx = pc + n := by
  unfold pm_d at h
  rw [Bool.and_eq_true] at h
  exact ⟨of_decide_eq_true h.1, Nat.eq_of_beq_eq_true h.2⟩
theorem pm_n_inj {g : Bool} {pc pc' : Nat} {ls ls' : pm_L} {st st' : List Value} {S S' : pm_S} (h : pm_n g pc ls st S = some (true, .inl (pc', ls', st', S'))) : g = true ∧ pc = pc' ∧ ls = ls' ∧ st = st' ∧ S = S' := by
  unfold pm_n at h
  cases h
  exact ⟨rfl, rfl, rfl, rfl, rfl⟩
theorem pm_wn_of {w : Nat} {x : Cond} (h : pm_wn w x = true) : x ∈ lw_tbl := List.mem_of_getElem? (of_decide_eq_true h)
theorem pm_wk_of {w : Nat} {x : Cond} (h : pm_wk w x = true) : x ∈ pm_G := by
  unfold pm_wk at h
  rw [Bool.and_eq_true] at h
  exact List.mem_filter.mpr ⟨pm_wn_of h.1, h.2⟩
theorem pm_ib_of {i : Int32} {n : Nat} (h : pm_ib i n = true) : vp_in i n := by
  unfold pm_ib at h
  rw [Bool.and_eq_true] at h
  have h1 := of_decide_eq_false (Bool.not_eq_true' _ ▸ h.1)
  have h2 : i.toNatClampNeg < n := by simpa [Nat.blt_eq] using h.2
  rintro (q | q)
  · exact h1 q
  · omega
theorem pm_bf {a b : Nat} (h : a ≠ b) : Nat.beq a b = false := by
  cases hb : Nat.beq a b with
  | false => rfl
  | true => exact absurd (Nat.eq_of_beq_eq_true hb) h
theorem pm_bt (a : Nat) : Nat.beq a a = true := Nat.beq_refl a
theorem pm_tys_at {cA : Nat → ClassId} {t : Nat} (h : t ≤ 3) : (pm_tys cA)[t]? = some (cA t, pm_ty t) := by
  match t, h with
  | 0, _ => rfl
  | 1, _ => rfl
  | 2, _ => rfl
  | 3, _ => rfl
theorem pm_ss_mono (Sg : Nat → pm_K) : ∀ {a b : Nat}, a ≤ b → pm_ss Sg a ≤ pm_ss Sg b := by
  intro a b h
  induction h with
  | refl => exact Nat.le_refl _
  | step _ ih => exact Nat.le_trans ih (Nat.le_add_right _ _)
theorem pm_ci_off {f : Nat → Nat → Int32} {r j : Nat} (h : j ≠ r) : pm_ci f r j = f j := by
  funext b
  have : Nat.beq j r = false := by
    cases hb : Nat.beq j r with
    | false => rfl
    | true => exact absurd (Nat.eq_of_beq_eq_true hb) h
  simp [pm_ci, this]
theorem pm_cl_off {f : Nat → Nat → Int64} {r j : Nat} (h : j ≠ r) : pm_cl f r j = f j := by
  funext b
  have : Nat.beq j r = false := by
    cases hb : Nat.beq j r with
    | false => rfl
    | true => exact absurd (Nat.eq_of_beq_eq_true hb) h
  simp [pm_cl, this]
theorem pm_cg_off {f : Nat → Nat → Nat} {r j : Nat} (h : j ≠ r) : pm_cg f r j = f j := by
  funext b
  have : Nat.beq j r = false := by
    cases hb : Nat.beq j r with
    | false => rfl
    | true => exact absurd (Nat.eq_of_beq_eq_true hb) h
  simp [pm_cg, this]
theorem pm_ci_row {f : Nat → Nat → Int32} {r b : Nat} : pm_ci f r r b = 0 := by simp [pm_ci]
theorem pm_cl_row {f : Nat → Nat → Int64} {r b : Nat} : pm_cl f r r b = 0 := by simp [pm_cl]
theorem pm_cg_row {f : Nat → Nat → Nat} {r b : Nat} : pm_cg f r r b = 0 := by simp [pm_cg]
theorem pm_wd_sum (l : List Value) : (l.map (fun v => v.category)).sum = pm_wd l := by
  induction l with
  | nil => rfl
  | cons v vs ih => simp [pm_wd, ih]
theorem pm_getD_lt {α : Type} {l : List α} {k : Nat} {d : α} (h : k < l.length) : l.getD k d = l[k] := by
  rw [List.getD_eq_getElem?_getD, List.getElem?_eq_getElem h]
  rfl
theorem pm_ui_off {f : Nat → Nat → Int32} {r k j : Nat} {v : Int32} (h : j ≠ r) : pm_ui f r k v j = f j := by
  funext b
  simp [pm_ui, pm_bf h]
theorem pm_ui_row {f : Nat → Nat → Int32} {r k : Nat} {v : Int32} : pm_ui f r k v r = upd (f r) k v := by
  funext b
  by_cases h : b = k
  · subst h; simp [pm_ui, upd, pm_bt]
  · simp [pm_ui, upd, h, pm_bf h]
theorem pm_ul_off {f : Nat → Nat → Int64} {r k j : Nat} {v : Int64} (h : j ≠ r) : pm_ul f r k v j = f j := by
  funext b
  simp [pm_ul, pm_bf h]
theorem pm_ul_row {f : Nat → Nat → Int64} {r k : Nat} {v : Int64} : pm_ul f r k v r = vp_updL (f r) k v := by
  funext b
  by_cases h : b = k
  · subst h; simp [pm_ul, vp_updL, pm_bt]
  · simp [pm_ul, vp_updL, h, pm_bf h]
theorem pm_ug_off {f : Nat → Nat → Nat} {r k j : Nat} {v : Nat} (h : j ≠ r) : pm_ug f r k v j = f j := by
  funext b
  simp [pm_ug, pm_bf h]
theorem pm_b_ne {o : Nat} {x y : Int32} {t e : Nat} {ls : pm_L} {st : List Value} {S : pm_S} {g : Bool} {z} (h : pm_b o x y t e ls st S = some (g, .inl z)) : False := by unfold pm_b at h; cases h
theorem pm_w_ne {x : Int32} {d : Nat} {ts : List Nat} {ls : pm_L} {st : List Value} {S : pm_S} {g : Bool} {z} (h : pm_w x d ts ls st S = some (g, .inl z)) : False := by unfold pm_w at h; cases h
theorem pm_j_ne {mj : Nat} {as : List Value} {nx : Nat} {ls : pm_L} {st : List Value} {S : pm_S} {g : Bool} {z} (h : pm_j mj as nx ls st S = some (g, .inl z)) : False := by unfold pm_j at h; cases h
theorem pm_e_ne {b : Bool} {v : Option Value} {S : pm_S} {g : Bool} {z} (h : pm_e b v S = some (g, .inl z)) : False := by unfold pm_e at h; cases h
theorem pm_cond {b : Bool} {α : Type} {x : Option α} {z : α} (h : (bif b then x else none) = some z) : b = true ∧ x = some z := by
  cases b with
  | true => exact ⟨rfl, h⟩
  | false => cases h
theorem pm_fk_of {cl : List vw_C} {c k : Nat} {t : String × String × String × Bool} (h : pm_fk cl c k = some t) : ∃ C T N, cl[c]? = some (C, T, N) ∧ k < N ∧ (T k).1 = C ∧ t = T k := by
  unfold pm_fk at h
  split at h
  · rename_i C T N hc
    obtain ⟨h1, h2⟩ := pm_cond h
    rw [Bool.and_eq_true] at h1
    exact ⟨C, T, N, hc, by simpa [Nat.blt_eq] using h1.1, of_decide_eq_true h1.2, (Option.some.inj h2).symm⟩
  · cases h
theorem pm_fv_val {ρ : Nat → Nat} {fv : Value} {S : pm_S} {r k kd : Nat} {v : Value} (h : pm_fv S r k kd = some v) : pm_val ρ fv S r k kd = pm_rl ρ fv v ∧ kd < 4 := by
  unfold pm_fv at h
  split at h
  · cases h; exact ⟨rfl, by decide⟩
  · cases h; exact ⟨rfl, by decide⟩
  · cases h; exact ⟨rfl, by decide⟩
  · split at h
    · cases h
    · rename_i j hj
      cases h
      refine ⟨?_, by decide⟩
      show (match S.2.1 r k with | 0 => Value.null | j + 1 => pm_rl ρ fv (.ref j)) = _
      rw [hj]
  · cases h
theorem pm_cell_eq {ρ : Nat → Nat} {fv : Value} {cA : Nat → ClassId} {K : pm_K} {S S' : pm_S} {r : Nat} (h1 : S'.2.1 r = S.2.1 r) (h2 : S'.2.2.1 r = S.2.2.1 r) (h3 : S'.2.2.2 r = S.2.2.2 r) : pm_cell ρ fv cA K S' r = pm_cell ρ fv cA K S r := by
  have hv : ∀ k kd, pm_val ρ fv S' r k kd = pm_val ρ fv S r k kd := by
    intro k kd
    unfold pm_val
    rw [h1, h2, h3]
  have hc : ∀ t, pm_con S' r t = pm_con S r t := by
    intro t
    unfold pm_con
    rw [h2, h3]
  unfold pm_cell
  cases K with
  | inl q =>
    obtain ⟨t, n⟩ := q
    show Sum.inl (cA t, n, pm_con S' r t) = _
    rw [hc]
  | inr q => simp only [hv]
theorem pm_fields {ρ : Nat → Nat} {fv : Value} {S S' : pm_S} {r k : Nat} {ks : List Nat} {v : Value} (hk : k < ks.length) (hv : pm_val ρ fv S' r k (ks.getD k 9) = v) (ho : ∀ j kd, j ≠ k → pm_val ρ fv S' r j kd = pm_val ρ fv S r j kd) :
    (ks.mapIdx (fun k kd => pm_val ρ fv S r k kd)).set k v = ks.mapIdx (fun k kd => pm_val ρ fv S' r k kd) := by
  apply List.ext_getElem?
  intro j
  by_cases e : j = k
  · subst e
    rw [List.getElem?_set_self (by rw [List.length_mapIdx]; exact hk), List.getElem?_mapIdx, ← hv]
    simp [List.getElem?_eq_getElem hk, List.getD]
  · rw [List.getElem?_set_ne (Ne.symm e), List.getElem?_mapIdx, List.getElem?_mapIdx]
    cases ks[j]? with
    | none => rfl
    | some kd => simp only [Option.map_some, ho j kd e]
theorem pm_P_push {D : va_G} {cl : List vw_C} {ρ : Nat → Nat} {fv : Value} {cA : Nat → ClassId} {Sg : Nat → pm_K} {S S' : pm_S} {H H1 : Heap} (hP : va_P D cl (pm_ws ρ fv cA Sg S) H) (ho : ∀ q, q < H.size → H1[q]? = H[q]?) (hn : S'.1 = S.1 + 1) (hrow : ∀ k, k < S.1 → pm_cell ρ fv cA (Sg k) S' k = pm_cell ρ fv cA (Sg k) S k) (hnew : va_at D cl (ρ S.1, pm_cell ρ fv cA (Sg S.1) S' S.1) H1) : va_P D cl (pm_ws ρ fv cA Sg S') H1 := by
  intro k q hk
  obtain ⟨h1, rfl⟩ := pm_ws_mem hk
  by_cases e : k = S.1
  · subst e; exact hnew
  · have hk' : k < S.1 := by omega
    rw [hrow k hk']
    have h2 := hP k _ (pm_ws_at hk')
    exact h2.kept (ho _ h2.lt)
theorem pm_val_new_0 {ρ : Nat → Nat} {fv : Value} {S : pm_S} {r k : Nat} {x : Int32} : pm_val ρ fv (S.1, S.2.1, pm_ui S.2.2.1 r k x, S.2.2.2) r k 0 = .int x := by
  show Value.int (pm_ui S.2.2.1 r k x r k) = _
  simp [pm_ui]
theorem pm_val_new_2 {ρ : Nat → Nat} {fv : Value} {S : pm_S} {r k : Nat} {x : Int32} : pm_val ρ fv (S.1, S.2.1, pm_ui S.2.2.1 r k x, S.2.2.2) r k 2 = .int x := by
  show Value.int (pm_ui S.2.2.1 r k x r k) = _
  simp [pm_ui]
theorem pm_val_new_1 {ρ : Nat → Nat} {fv : Value} {S : pm_S} {r k : Nat} {x : Int64} : pm_val ρ fv (S.1, S.2.1, S.2.2.1, pm_ul S.2.2.2 r k x) r k 1 = .long x := by
  show Value.long (pm_ul S.2.2.2 r k x r k) = _
  simp [pm_ul]
theorem pm_val_new_3 {ρ : Nat → Nat} {fv : Value} {S : pm_S} {r k z : Nat} : pm_val ρ fv (S.1, pm_ug S.2.1 r k (z + 1), S.2.2.1, S.2.2.2) r k 3 = pm_rl ρ fv (.ref z) := by
  show (match pm_ug S.2.1 r k (z + 1) r k with | 0 => Value.null | j + 1 => pm_rl ρ fv (.ref j)) = _
  simp [pm_ug]
theorem pm_val_off_i {ρ : Nat → Nat} {fv : Value} {S : pm_S} {r k j kd : Nat} {x : Int32} (h : j ≠ k) : pm_val ρ fv (S.1, S.2.1, pm_ui S.2.2.1 r k x, S.2.2.2) r j kd = pm_val ρ fv S r j kd := by
  have e : pm_ui S.2.2.1 r k x r j = S.2.2.1 r j := by simp [pm_ui, pm_bf h]
  unfold pm_val
  dsimp only
  rw [e]
theorem pm_val_off_l {ρ : Nat → Nat} {fv : Value} {S : pm_S} {r k j kd : Nat} {x : Int64} (h : j ≠ k) : pm_val ρ fv (S.1, S.2.1, S.2.2.1, pm_ul S.2.2.2 r k x) r j kd = pm_val ρ fv S r j kd := by
  have e : pm_ul S.2.2.2 r k x r j = S.2.2.2 r j := by simp [pm_ul, pm_bf h]
  unfold pm_val
  dsimp only
  rw [e]
theorem pm_val_off_g {ρ : Nat → Nat} {fv : Value} {S : pm_S} {r k j kd z : Nat} (h : j ≠ k) : pm_val ρ fv (S.1, pm_ug S.2.1 r k z, S.2.2.1, S.2.2.2) r j kd = pm_val ρ fv S r j kd := by
  have e : pm_ug S.2.1 r k z r j = S.2.1 r j := by simp [pm_ug, pm_bf h]
  unfold pm_val
  dsimp only
  rw [e]
theorem pm_nz (x : Int32) (h : x &&& 1 = x) : narrow .boolean (.int x) = .int x := by
  show Value.int _ = _
  first | exact congrArg Value.int h | (simp [narrow, h])
theorem pm_fz (x : Int32) (h : x &&& 1 = x) : fits .boolean (.int x) = true := by
  have h1 : x.toBitVec.toNat &&& 1 = x.toBitVec.toNat := by
    have := congrArg (fun y : Int32 => y.toBitVec.toNat) h
    simpa using this
  have h2 : x.toBitVec.toNat < 2 := by
    rw [← h1]
    exact Nat.lt_of_le_of_lt Nat.and_le_right (by decide)
  have : x = 0 ∨ x = 1 := by
    rcases (show x.toBitVec.toNat = 0 ∨ x.toBitVec.toNat = 1 by omega) with h3 | h3
    · exact Or.inl (Int32.toBitVec_inj.mp (BitVec.eq_of_toNat_eq h3))
    · exact Or.inr (Int32.toBitVec_inj.mp (BitVec.eq_of_toNat_eq h3))
  rcases this with h | h <;> rw [h] <;> rfl
section
variable {p : Program} {l : Launch} {e : Env} {R : Room} {s : State} {m : MethodId} {args : Array Value} {below : List Frame} {meth : Method} {c : Code} {Q : State → Prop}
variable {me : Nat → pm_Me} {Sg : Nat → pm_K} {Rt : pm_T} {cl : List vw_C} {D : va_G} {cA : Nat → ClassId} {ρ : Nat → Nat} {fv : Value} {base : Nat} {tx : String} {mi c0 : Nat}
/-- how large the heap is -/
theorem pm_siz {S : pm_S} {H : Heap} {locs : List Loc} {sl : Nat} {g : JFrame} (hρ : ∀ a, a < 200 → ρ a = base + a) (hs : s.heap.size = base + c0) (hc0 : c0 ≤ S.1) (hI : pm_I D cl ρ fv cA Sg base S s H locs)
    (k : H.size = base + S.1 → W p l e R s m args below meth c H locs (S.1 - c0) sl Q g) : W p l e R s m args below meth c H locs (S.1 - c0) sl Q g := by
  intro T hT X
  refine k ?_ T hT X
  obtain ⟨-, h1, h2, -⟩ := X.same
  have h3 : (T.setVm s.vm).heap = H := hT
  rw [h3] at h1 h2
  obtain ⟨hP, hS, hn⟩ := hI
  by_cases e : S.1 = 0
  · omega
  · have h4 := (hP _ _ (pm_ws_at (r := S.1 - 1) (by omega))).lt
    have h5 : ρ (S.1 - 1) < H.size := h4
    rw [hρ _ (by omega)] at h5
    omega
set_option maxHeartbeats 4000000 in
theorem pm_next (h1 : pm_E1 me Sg cl) (h2 : pm_E2 me mi p s m args meth c R D cl cA Rt ρ fv base tx c0) (h3 : pm_E3 Rt ρ fv base) {q : pm_Q} (hq : pm_chk cl me mi q = true) {pl pl' : pm_L} {st st' : List Value} {S S' : pm_S} {pc' : Nat}
    (h : pm_x Sg Rt (me mi).2.2.2.1 q pl st S = some (true, .inl (pc', pl', st', S'))) {H : Heap} {locs : List Loc} {ls : Array Slot} (hc0 : c0 ≤ S.1) (hI : pm_I D cl ρ fv cA Sg base S s H locs) (hL : pm_LH ρ fv (me mi).2.2.1 ls pl) (hR1 : S'.1 - c0 ≤ R.cells) (hR2 : pm_ss Sg S'.1 - pm_ss Sg c0 ≤ R.slots)
    (kk : ∀ (H' : Heap) (locs' : List Loc) (ls' : Array Slot), pm_I D cl ρ fv cA Sg base S' s H' locs' → pm_LH ρ fv (me mi).2.2.1 ls' pl' → W p l e R s m args below meth c H' locs' (S'.1 - c0) (pm_ss Sg S'.1 - pm_ss Sg c0) Q (F0 m pc' ls' (st'.map (pm_rl ρ fv)))) :
    W p l e R s m args below meth c H locs (S.1 - c0) (pm_ss Sg S.1 - pm_ss Sg c0) Q (F0 m q.1 ls (st.map (pm_rl ρ fv))) := by
  obtain ⟨hx, hb, hml, hown, hmn, hts, hfr, hlo, hK, hZ, hN, hsz⟩ := h2
  obtain ⟨hρ, hfv, hRt⟩ := h3
  obtain ⟨pc, ins, nx, w, xs, ci, cj⟩ := q
  show W p l e R s m args below meth c H locs (S.1 - c0) (pm_ss Sg S.1 - pm_ss Sg c0) Q (F0 m pc ls (st.map (pm_rl ρ fv)))
  obtain ⟨hP, hS, hn2⟩ := id hI
  have hD := pm_ws_D (fv := fv) (cA := cA) (Sg := Sg) hρ hn2
  have hrl : ∀ r, r < S.1 → pm_rl ρ fv (.ref r) = .ref (ρ r) := fun r hr => by
    show (if r = 204 then fv else Value.ref (ρ r)) = _
    rw [if_neg (by omega)]
  cases ins
  case iload_n n =>
    simp only [pm_chk, Bool.and_eq_true] at hq
    obtain ⟨hd0, hi⟩ := hq
    obtain ⟨hd, rfl⟩ := pm_d_of hd0
    simp only [pm_x] at h
    split at h
    · rename_i x hx'
      obtain ⟨-, rfl, rfl, rfl, rfl⟩ := pm_n_inj h
      exact lv_iload_n hx hb hd (Nat.eq_of_beq_eq_true hi) (hL.get hx' (fun h => by cases h)) (kk H locs ls hI hL)
    · cases h
  case lload_n n =>
    simp only [pm_chk, Bool.and_eq_true] at hq
    obtain ⟨hd0, hi⟩ := hq
    obtain ⟨hd, rfl⟩ := pm_d_of hd0
    simp only [pm_x] at h
    split at h
    · rename_i x hx'
      split at h
      · rename_i hx2
        obtain ⟨-, rfl, rfl, rfl, rfl⟩ := pm_n_inj h
        exact lv_lload_n hx hb hd (Nat.eq_of_beq_eq_true hi) (hL.get hx' (fun _ => pm_gn hx2)) (kk H locs ls hI hL)
      · cases h
    · cases h
  case aload_n n =>
    simp only [pm_chk, Bool.and_eq_true] at hq
    obtain ⟨hd0, hi⟩ := hq
    obtain ⟨hd, rfl⟩ := pm_d_of hd0
    simp only [pm_x] at h
    split at h
    · rename_i x hx'
      cases h204 : Nat.beq x 204 with
      | true => rw [h204] at h; cases h
      | false =>
        rw [h204] at h
        obtain ⟨-, rfl, rfl, rfl, rfl⟩ := pm_n_inj h
        have hne : pm_rl ρ fv (.ref x) = .ref (ρ x) := by
          show (if x = 204 then fv else Value.ref (ρ x)) = _
          rw [if_neg (Nat.ne_of_beq_eq_false h204)]
        have g1 := hL.get hx' (fun h => by cases h)
        rw [hne] at g1
        have g2 := kk H locs ls hI hL
        rw [List.map_cons, hne] at g2
        exact lv_aload_n hx hb hd (Nat.eq_of_beq_eq_true hi) g1 g2
    · cases h
  case lload n =>
    simp only [pm_chk, Bool.and_eq_true] at hq
    obtain ⟨hd0, hi⟩ := hq
    obtain ⟨hd, rfl⟩ := pm_d_of hd0
    have hi := Nat.eq_of_beq_eq_true hi
    subst hi
    simp only [pm_x] at h
    split at h
    · rename_i x hx'
      split at h
      · rename_i hx2
        obtain ⟨-, rfl, rfl, rfl, rfl⟩ := pm_n_inj h
        exact lv_lload hx hb hd (hL.get hx' (fun _ => pm_gn hx2)) (kk H locs ls hI hL)
      · cases h
    · cases h
  case iload n =>
    simp only [pm_chk, Bool.and_eq_true] at hq
    obtain ⟨hd0, hi⟩ := hq
    obtain ⟨hd, rfl⟩ := pm_d_of hd0
    have hi := Nat.eq_of_beq_eq_true hi
    subst hi
    simp only [pm_x] at h
    split at h
    · rename_i x hx'
      obtain ⟨-, rfl, rfl, rfl, rfl⟩ := pm_n_inj h
      exact lv_iload hx hb hd (hL.get hx' (fun h => by cases h)) (kk H locs ls hI hL)
    · cases h
  case aload n =>
    simp only [pm_chk, Bool.and_eq_true] at hq
    obtain ⟨hd0, hi⟩ := hq
    obtain ⟨hd, rfl⟩ := pm_d_of hd0
    have hi := Nat.eq_of_beq_eq_true hi
    subst hi
    simp only [pm_x] at h
    split at h
    · rename_i x hx'
      cases h204 : Nat.beq x 204 with
      | true => rw [h204] at h; cases h
      | false =>
        rw [h204] at h
        obtain ⟨-, rfl, rfl, rfl, rfl⟩ := pm_n_inj h
        have hne : pm_rl ρ fv (.ref x) = .ref (ρ x) := by
          show (if x = 204 then fv else Value.ref (ρ x)) = _
          rw [if_neg (Nat.ne_of_beq_eq_false h204)]
        have g1 := hL.get hx' (fun h => by cases h)
        rw [hne] at g1
        have g2 := kk H locs ls hI hL
        rw [List.map_cons, hne] at g2
        exact lv_aload hx hb hd g1 g2
    · cases h
  case istore_n n =>
    simp only [pm_chk, Bool.and_eq_true] at hq
    obtain ⟨hd0, hi⟩ := hq
    obtain ⟨hd, rfl⟩ := pm_d_of hd0
    simp only [pm_x] at h
    split at h
    · rename_i x r
      split at h
      · rename_i ls2 hs
        obtain ⟨-, rfl, rfl, rfl, rfl⟩ := pm_n_inj h
        have hlt : xs.getD 0 0 < (me mi).2.2.1 := by
          unfold pm_st1 at hs
          rw [← hL.2.1]
          cases hb2 : Nat.blt (xs.getD 0 0) pl.length with
          | true => simpa [Nat.blt_eq] using hb2
          | false => rw [hb2] at hs; cases hs
        exact lv_istore_n hx hb hd (Nat.eq_of_beq_eq_true hi) hL.has hlt rfl (fun ls' hl => kk H locs ls' hI (hL.st1 hfv hs hl).2)
      · cases h
    · cases h
  case lstore_n n =>
    simp only [pm_chk, Bool.and_eq_true] at hq
    obtain ⟨hd0, hi⟩ := hq
    obtain ⟨hd, rfl⟩ := pm_d_of hd0
    simp only [pm_x] at h
    split at h
    · rename_i x r
      split at h
      · rename_i ls2 hs
        obtain ⟨-, rfl, rfl, rfl, rfl⟩ := pm_n_inj h
        have hlt : xs.getD 0 0 + 1 < (me mi).2.2.1 := by
          unfold pm_st2 at hs
          rw [← hL.2.1]
          cases hb2 : Nat.blt (xs.getD 0 0 + 1) pl.length with
          | true => simpa [Nat.blt_eq] using hb2
          | false => rw [hb2] at hs; cases hs
        exact lv_lstore_n hx hb hd (Nat.eq_of_beq_eq_true hi) hL.has hlt rfl (fun ls' hl => kk H locs ls' hI (hL.st2 hfv hs hl).2)
      · cases h
    · cases h
  case istore n =>
    simp only [pm_chk, Bool.and_eq_true] at hq
    obtain ⟨hd0, hi⟩ := hq
    obtain ⟨hd, rfl⟩ := pm_d_of hd0
    have hi := Nat.eq_of_beq_eq_true hi
    subst hi
    simp only [pm_x] at h
    split at h
    · rename_i x r
      split at h
      · rename_i ls2 hs
        obtain ⟨-, rfl, rfl, rfl, rfl⟩ := pm_n_inj h
        have hlt : xs.getD 0 0 < (me mi).2.2.1 := by
          unfold pm_st1 at hs
          rw [← hL.2.1]
          cases hb2 : Nat.blt (xs.getD 0 0) pl.length with
          | true => simpa [Nat.blt_eq] using hb2
          | false => rw [hb2] at hs; cases hs
        exact lv_istore hx hb hd  hL.has hlt rfl (fun ls' hl => kk H locs ls' hI (hL.st1 hfv hs hl).2)
      · cases h
    · cases h
  case lstore n =>
    simp only [pm_chk, Bool.and_eq_true] at hq
    obtain ⟨hd0, hi⟩ := hq
    obtain ⟨hd, rfl⟩ := pm_d_of hd0
    have hi := Nat.eq_of_beq_eq_true hi
    subst hi
    simp only [pm_x] at h
    split at h
    · rename_i x r
      split at h
      · rename_i ls2 hs
        obtain ⟨-, rfl, rfl, rfl, rfl⟩ := pm_n_inj h
        have hlt : xs.getD 0 0 + 1 < (me mi).2.2.1 := by
          unfold pm_st2 at hs
          rw [← hL.2.1]
          cases hb2 : Nat.blt (xs.getD 0 0 + 1) pl.length with
          | true => simpa [Nat.blt_eq] using hb2
          | false => rw [hb2] at hs; cases hs
        exact lv_lstore hx hb hd  hL.has hlt rfl (fun ls' hl => kk H locs ls' hI (hL.st2 hfv hs hl).2)
      · cases h
    · cases h
  case astore_n n =>
    simp only [pm_chk, Bool.and_eq_true] at hq
    obtain ⟨hd0, hi⟩ := hq
    obtain ⟨hd, rfl⟩ := pm_d_of hd0
    simp only [pm_x] at h
    split at h
    · rename_i x r
      cases h204 : Nat.beq x 204 with
      | true => rw [h204] at h; cases h
      | false =>
        rw [h204] at h
        simp only [cond_false] at h
        split at h
        · rename_i ls2 hs
          obtain ⟨-, rfl, rfl, rfl, rfl⟩ := pm_n_inj h
          have hne : pm_rl ρ fv (.ref x) = .ref (ρ x) := by
            show (if x = 204 then fv else Value.ref (ρ x)) = _
            rw [if_neg (Nat.ne_of_beq_eq_false h204)]
          have hlt : xs.getD 0 0 < (me mi).2.2.1 := by
            unfold pm_st1 at hs
            rw [← hL.2.1]
            cases hb2 : Nat.blt (xs.getD 0 0) pl.length with
            | true => simpa [Nat.blt_eq] using hb2
            | false => rw [hb2] at hs; cases hs
          rw [List.map_cons, hne]
          exact lv_astore_n hx hb hd (Nat.eq_of_beq_eq_true hi) hL.has hlt rfl (fun ls' hl => kk H locs ls' hI (hL.st1 hfv hs (by rw [hne]; exact hl)).2)
        · cases h
    · cases h
  case astore n =>
    simp only [pm_chk, Bool.and_eq_true] at hq
    obtain ⟨hd0, hi⟩ := hq
    obtain ⟨hd, rfl⟩ := pm_d_of hd0
    have hi := Nat.eq_of_beq_eq_true hi
    subst hi
    simp only [pm_x] at h
    split at h
    · rename_i x r
      cases h204 : Nat.beq x 204 with
      | true => rw [h204] at h; cases h
      | false =>
        rw [h204] at h
        simp only [cond_false] at h
        split at h
        · rename_i ls2 hs
          obtain ⟨-, rfl, rfl, rfl, rfl⟩ := pm_n_inj h
          have hne : pm_rl ρ fv (.ref x) = .ref (ρ x) := by
            show (if x = 204 then fv else Value.ref (ρ x)) = _
            rw [if_neg (Nat.ne_of_beq_eq_false h204)]
          have hlt : xs.getD 0 0 < (me mi).2.2.1 := by
            unfold pm_st1 at hs
            rw [← hL.2.1]
            cases hb2 : Nat.blt (xs.getD 0 0) pl.length with
            | true => simpa [Nat.blt_eq] using hb2
            | false => rw [hb2] at hs; cases hs
          rw [List.map_cons, hne]
          exact lv_astore hx hb hd  hL.has hlt rfl (fun ls' hl => kk H locs ls' hI (hL.st1 hfv hs (by rw [hne]; exact hl)).2)
        · cases h
    · cases h
  case iinc i n =>
    simp only [pm_chk, Bool.and_eq_true] at hq
    obtain ⟨hd0, hi, hcv⟩ := hq
    obtain ⟨hd, rfl⟩ := pm_d_of hd0
    have hi := Nat.eq_of_beq_eq_true hi
    subst hi
    have hcv := of_decide_eq_true hcv
    subst hcv
    simp only [pm_x] at h
    split at h
    · rename_i x hx'
      split at h
      · rename_i ls2 hs
        obtain ⟨-, rfl, rfl, rfl, rfl⟩ := pm_n_inj h
        have hlt : xs.getD 0 0 < (me mi).2.2.1 := by
          unfold pm_st1 at hs
          rw [← hL.2.1]
          cases hb2 : Nat.blt (xs.getD 0 0) pl.length with
          | true => simpa [Nat.blt_eq] using hb2
          | false => rw [hb2] at hs; cases hs
        have hmem : (xs.getD 0 0, Value.int x) ∈ pm_pr ρ fv pl := by
          exact pm_pr_mem (v := .int x) (pm_gd hx') (fun h => by cases h)
        obtain ⟨k, hk⟩ := List.getElem?_of_mem hmem
        exact lv_iinc hx hb hd hL.has hk rfl hlt rfl (fun ls' hl => kk H locs ls' hI (hL.st1 hfv hs hl).2)
      · cases h
    · cases h
  case iconst n =>
    simp only [pm_chk, Bool.and_eq_true] at hq
    obtain ⟨hd0, hcv⟩ := hq
    obtain ⟨hd, rfl⟩ := pm_d_of hd0
    have hcv := of_decide_eq_true hcv
    simp only [pm_x] at h
    obtain ⟨-, rfl, rfl, rfl, rfl⟩ := pm_n_inj h
    exact lv_iconst hx hb hd hcv (kk H locs ls hI hL)
  case bipush n =>
    simp only [pm_chk, Bool.and_eq_true] at hq
    obtain ⟨hd0, hcv⟩ := hq
    obtain ⟨hd, rfl⟩ := pm_d_of hd0
    have hcv := of_decide_eq_true hcv
    simp only [pm_x] at h
    obtain ⟨-, rfl, rfl, rfl, rfl⟩ := pm_n_inj h
    exact lv_bipush hx hb hd hcv (kk H locs ls hI hL)
  case sipush n =>
    simp only [pm_chk, Bool.and_eq_true] at hq
    obtain ⟨hd0, hcv⟩ := hq
    obtain ⟨hd, rfl⟩ := pm_d_of hd0
    have hcv := of_decide_eq_true hcv
    simp only [pm_x] at h
    obtain ⟨-, rfl, rfl, rfl, rfl⟩ := pm_n_inj h
    exact lv_sipush hx hb hd hcv (kk H locs ls hI hL)
  case ldc_w idx =>
    simp only [pm_chk, Bool.and_eq_true] at hq
    obtain ⟨hd0, hcv⟩ := hq
    obtain ⟨hd, rfl⟩ := pm_d_of hd0
    simp only [pm_x] at h
    obtain ⟨-, rfl, rfl, rfl, rfl⟩ := pm_n_inj h
    exact lv_ldcw hx hb hown (hts _ (pm_wk_of hcv)) hd (kk H locs ls hI hL)
  case ldc idx =>
    simp only [pm_chk, Bool.and_eq_true] at hq
    obtain ⟨hd0, hcv⟩ := hq
    obtain ⟨hd, rfl⟩ := pm_d_of hd0
    simp only [pm_x] at h
    split at h
    · obtain ⟨-, rfl, rfl, rfl, rfl⟩ := pm_n_inj h
      exact lv_ldc hx hb hown (hts _ (pm_wk_of hcv)) hd (kk H locs ls hI hL)
    · rename_i r t
      obtain ⟨-, rfl, rfl, rfl, rfl⟩ := pm_n_inj h
      simp only [Bool.and_eq_true] at hcv
      obtain ⟨g1, g2, g3⟩ := hcv
      have g1 := Nat.eq_of_beq_eq_true g1
      have g3 := Nat.eq_of_beq_eq_true g3
      subst g1
      subst g3
      exact va_ldcS hx hb (of_decide_eq_true g2 ▸ hown) hN.2 hd (kk H locs ls hI hL)
  case lconst n =>
    simp only [pm_chk, Bool.and_eq_true] at hq
    obtain ⟨hd0, hcv⟩ := hq
    obtain ⟨hd, rfl⟩ := pm_d_of hd0
    simp only [pm_x] at h
    obtain ⟨-, rfl, rfl, rfl, rfl⟩ := pm_n_inj h
    exact lv_lconst hx hb hd (of_decide_eq_true hcv) (kk H locs ls hI hL)
  case ldc2_w idx =>
    simp only [pm_chk, Bool.and_eq_true] at hq
    obtain ⟨hd0, hcv⟩ := hq
    obtain ⟨hd, rfl⟩ := pm_d_of hd0
    simp only [pm_x] at h
    obtain ⟨-, rfl, rfl, rfl, rfl⟩ := pm_n_inj h
    exact lv_ldc2 hx hb hown (hts _ (pm_wk_of hcv)) hd (kk H locs ls hI hL)
  case iadd =>
    obtain ⟨hd, rfl⟩ := pm_d_of (show pm_d _ _ _ _ 1 = true from hq)
    simp only [pm_x] at h
    split at h
    · obtain ⟨hg, rfl, rfl, rfl, rfl⟩ := pm_n_inj h
      exact lv_iadd hx hb hd (kk H locs ls hI hL)
    · cases h
  case isub =>
    obtain ⟨hd, rfl⟩ := pm_d_of (show pm_d _ _ _ _ 1 = true from hq)
    simp only [pm_x] at h
    split at h
    · obtain ⟨hg, rfl, rfl, rfl, rfl⟩ := pm_n_inj h
      exact lv_isub hx hb hd (kk H locs ls hI hL)
    · cases h
  case imul =>
    obtain ⟨hd, rfl⟩ := pm_d_of (show pm_d _ _ _ _ 1 = true from hq)
    simp only [pm_x] at h
    split at h
    · obtain ⟨hg, rfl, rfl, rfl, rfl⟩ := pm_n_inj h
      exact lv_imul hx hb hd (kk H locs ls hI hL)
    · cases h
  case iand =>
    obtain ⟨hd, rfl⟩ := pm_d_of (show pm_d _ _ _ _ 1 = true from hq)
    simp only [pm_x] at h
    split at h
    · obtain ⟨hg, rfl, rfl, rfl, rfl⟩ := pm_n_inj h
      exact lv_iand hx hb hd (kk H locs ls hI hL)
    · cases h
  case ior =>
    obtain ⟨hd, rfl⟩ := pm_d_of (show pm_d _ _ _ _ 1 = true from hq)
    simp only [pm_x] at h
    split at h
    · obtain ⟨hg, rfl, rfl, rfl, rfl⟩ := pm_n_inj h
      exact lv_ior hx hb hd (kk H locs ls hI hL)
    · cases h
  case ixor =>
    obtain ⟨hd, rfl⟩ := pm_d_of (show pm_d _ _ _ _ 1 = true from hq)
    simp only [pm_x] at h
    split at h
    · obtain ⟨hg, rfl, rfl, rfl, rfl⟩ := pm_n_inj h
      exact lv_ixor hx hb hd (kk H locs ls hI hL)
    · cases h
  case ishl =>
    obtain ⟨hd, rfl⟩ := pm_d_of (show pm_d _ _ _ _ 1 = true from hq)
    simp only [pm_x] at h
    split at h
    · obtain ⟨hg, rfl, rfl, rfl, rfl⟩ := pm_n_inj h
      exact lv_ishl hx hb hd (kk H locs ls hI hL)
    · cases h
  case ishr =>
    obtain ⟨hd, rfl⟩ := pm_d_of (show pm_d _ _ _ _ 1 = true from hq)
    simp only [pm_x] at h
    split at h
    · obtain ⟨hg, rfl, rfl, rfl, rfl⟩ := pm_n_inj h
      exact lv_ishr hx hb hd (kk H locs ls hI hL)
    · cases h
  case ineg =>
    obtain ⟨hd, rfl⟩ := pm_d_of (show pm_d _ _ _ _ 1 = true from hq)
    simp only [pm_x] at h
    split at h
    · obtain ⟨hg, rfl, rfl, rfl, rfl⟩ := pm_n_inj h
      exact lv_ineg hx hb hd (kk H locs ls hI hL)
    · cases h
  case ladd =>
    obtain ⟨hd, rfl⟩ := pm_d_of (show pm_d _ _ _ _ 1 = true from hq)
    simp only [pm_x] at h
    split at h
    · obtain ⟨hg, rfl, rfl, rfl, rfl⟩ := pm_n_inj h
      exact lv_ladd hx hb hd (kk H locs ls hI hL)
    · cases h
  case lmul =>
    obtain ⟨hd, rfl⟩ := pm_d_of (show pm_d _ _ _ _ 1 = true from hq)
    simp only [pm_x] at h
    split at h
    · obtain ⟨hg, rfl, rfl, rfl, rfl⟩ := pm_n_inj h
      exact lv_lmul hx hb hd (kk H locs ls hI hL)
    · cases h
  case land =>
    obtain ⟨hd, rfl⟩ := pm_d_of (show pm_d _ _ _ _ 1 = true from hq)
    simp only [pm_x] at h
    split at h
    · obtain ⟨hg, rfl, rfl, rfl, rfl⟩ := pm_n_inj h
      exact lv_land hx hb hd (kk H locs ls hI hL)
    · cases h
  case lor =>
    obtain ⟨hd, rfl⟩ := pm_d_of (show pm_d _ _ _ _ 1 = true from hq)
    simp only [pm_x] at h
    split at h
    · obtain ⟨hg, rfl, rfl, rfl, rfl⟩ := pm_n_inj h
      exact lv_lor hx hb hd (kk H locs ls hI hL)
    · cases h
  case lcmp =>
    obtain ⟨hd, rfl⟩ := pm_d_of (show pm_d _ _ _ _ 1 = true from hq)
    simp only [pm_x] at h
    split at h
    · obtain ⟨hg, rfl, rfl, rfl, rfl⟩ := pm_n_inj h
      exact W.lcmp hx hb hd (kk H locs ls hI hL)
    · cases h
  case idiv =>
    obtain ⟨hd, rfl⟩ := pm_d_of (show pm_d _ _ _ _ 1 = true from hq)
    simp only [pm_x] at h
    split at h
    · obtain ⟨hg, rfl, rfl, rfl, rfl⟩ := pm_n_inj h
      exact lv_idiv hx hb hd (by simpa using hg) (kk H locs ls hI hL)
    · cases h
  case iushr =>
    obtain ⟨hd, rfl⟩ := pm_d_of (show pm_d _ _ _ _ 1 = true from hq)
    simp only [pm_x] at h
    split at h
    · obtain ⟨hg, rfl, rfl, rfl, rfl⟩ := pm_n_inj h
      exact lv_iushr hx hb hd rfl (kk H locs ls hI hL)
    · cases h
  case lshl =>
    obtain ⟨hd, rfl⟩ := pm_d_of (show pm_d _ _ _ _ 1 = true from hq)
    simp only [pm_x] at h
    split at h
    · obtain ⟨hg, rfl, rfl, rfl, rfl⟩ := pm_n_inj h
      exact lv_lshl hx hb hd rfl (kk H locs ls hI hL)
    · cases h
  case lushr =>
    obtain ⟨hd, rfl⟩ := pm_d_of (show pm_d _ _ _ _ 1 = true from hq)
    simp only [pm_x] at h
    split at h
    · obtain ⟨hg, rfl, rfl, rfl, rfl⟩ := pm_n_inj h
      exact lv_lushr hx hb hd rfl (kk H locs ls hI hL)
    · cases h
  case i2l =>
    obtain ⟨hd, rfl⟩ := pm_d_of (show pm_d _ _ _ _ 1 = true from hq)
    simp only [pm_x] at h
    split at h
    · obtain ⟨hg, rfl, rfl, rfl, rfl⟩ := pm_n_inj h
      exact lv_i2l hx hb hd rfl (kk H locs ls hI hL)
    · cases h
  case l2i =>
    obtain ⟨hd, rfl⟩ := pm_d_of (show pm_d _ _ _ _ 1 = true from hq)
    simp only [pm_x] at h
    split at h
    · obtain ⟨hg, rfl, rfl, rfl, rfl⟩ := pm_n_inj h
      exact lv_l2i hx hb hd rfl (kk H locs ls hI hL)
    · cases h
  case i2b =>
    obtain ⟨hd, rfl⟩ := pm_d_of (show pm_d _ _ _ _ 1 = true from hq)
    simp only [pm_x] at h
    split at h
    · obtain ⟨hg, rfl, rfl, rfl, rfl⟩ := pm_n_inj h
      exact lv_i2b hx hb hd rfl (kk H locs ls hI hL)
    · cases h
  case i2c =>
    obtain ⟨hd, rfl⟩ := pm_d_of (show pm_d _ _ _ _ 1 = true from hq)
    simp only [pm_x] at h
    split at h
    · obtain ⟨hg, rfl, rfl, rfl, rfl⟩ := pm_n_inj h
      exact lv_i2c hx hb hd rfl (kk H locs ls hI hL)
    · cases h
  case pop =>
    obtain ⟨hd, rfl⟩ := pm_d_of (show pm_d _ _ _ _ 1 = true from hq)
    simp only [pm_x] at h
    split at h
    · obtain ⟨hg, rfl, rfl, rfl, rfl⟩ := pm_n_inj h
      exact lv_pop hx hb hd rfl (kk H locs ls hI hL)
    · cases h
  case dup2 =>
    obtain ⟨hd, rfl⟩ := pm_d_of (show pm_d _ _ _ _ 1 = true from hq)
    simp only [pm_x] at h
    split at h
    · obtain ⟨hg, rfl, rfl, rfl, rfl⟩ := pm_n_inj h
      exact lv_dup2_11 hx hb hd rfl (pm_rl_cat hfv (.ref _)) (kk H locs ls hI hL)
    · cases h
  case dup =>
    obtain ⟨hd, rfl⟩ := pm_d_of (show pm_d _ _ _ _ 1 = true from hq)
    simp only [pm_x] at h
    split at h
    · obtain ⟨hg, rfl, rfl, rfl, rfl⟩ := pm_n_inj h
      exact lv_dup hx hb hd rfl (kk H locs ls hI hL)
    · obtain ⟨hg, rfl, rfl, rfl, rfl⟩ := pm_n_inj h
      exact lv_dup hx hb hd (pm_rl_cat hfv (.ref _)) (kk H locs ls hI hL)
    · cases h
  case goto o =>
    simp only [pm_chk, Bool.and_eq_true] at hq
    obtain ⟨hd0, ht⟩ := hq
    obtain ⟨hd, rfl⟩ := pm_d_of hd0
    simp only [pm_x] at h
    obtain ⟨hg, rfl, rfl, rfl, rfl⟩ := pm_n_inj h
    exact lv_goto hx hb hd (of_decide_eq_true ht) (kk H locs ls hI hL)
  case getstatic idx =>
    simp only [pm_chk, Bool.and_eq_true] at hq
    obtain ⟨hd0, ht⟩ := hq
    obtain ⟨hd, rfl⟩ := pm_d_of hd0
    simp only [pm_x] at h
    split at h
    · rename_i hk
      obtain ⟨hg, rfl, rfl, rfl, rfl⟩ := pm_n_inj h
      rw [hk] at ht
      exact va_gets hx hb hZ.1 hS hown (hts _ (pm_wk_of ht)) (fun _ h => h) hd (kk H locs ls hI hL)
    · rename_i hk
      obtain ⟨hg, rfl, rfl, rfl, rfl⟩ := pm_n_inj h
      rw [hk] at ht
      exact va_gets hx hb hZ.2.1 hS hown (hts _ (pm_wk_of ht)) (fun _ h => h) hd (kk H locs ls hI hL)
    · rename_i hk
      obtain ⟨hg, rfl, rfl, rfl, rfl⟩ := pm_n_inj h
      rw [hk] at ht
      exact va_gets hx hb hZ.2.2.1 hS hown (hts _ (pm_wk_of ht)) (fun _ h => h) hd (kk H locs ls hI hL)
    · cases h
  case iaload =>
    obtain ⟨hd, rfl⟩ := pm_d_of (show pm_d _ _ _ _ 1 = true from hq)
    simp only [pm_x] at h
    split at h
    · rename_i i r rest
      cases hbl : Nat.blt r S.1 with
      | true =>
        rw [hbl] at h
        simp only [cond_true] at h
        have hr : r < S.1 := by simpa [Nat.blt_eq] using hbl
        split at h
        · rename_i n hs
          obtain ⟨hg, rfl, rfl, rfl, rfl⟩ := pm_n_inj h
          rw [List.map_cons, List.map_cons, hrl r hr]
          have hc2 : pm_cell ρ fv cA (Sg r) S r = .inl (cA 0, n, .inl (S.2.2.1 r)) := by rw [hs]; rfl
          exact va_iald hx hb hK hP r 0 (by rw [pm_ws_at hr, hc2]) rfl (pm_ib_of hg) hd (kk H locs ls hI hL)
        · cases h
      | false =>
        rw [hbl] at h
        simp only [cond_false] at h
        split at h
        · rename_i n f hs
          obtain ⟨hg, rfl, rfl, rfl, rfl⟩ := pm_n_inj h
          have hr : pm_rl ρ fv (.ref r) = .ref (ρ r) := by
            show (if r = 204 then fv else Value.ref (ρ r)) = _
            rw [if_neg (hRt _ _ hs).2.1]
          rw [List.map_cons, List.map_cons, hr]
          exact va_ti hx hb (hZ.2.2.2.2.2.2 _ _ _ _ hs) hS (pm_ib_of hg) rfl hd (kk H locs ls hI hL)
        · cases h
    · cases h
  case baload =>
    obtain ⟨hd, rfl⟩ := pm_d_of (show pm_d _ _ _ _ 1 = true from hq)
    simp only [pm_x] at h
    split at h
    · rename_i i r rest
      cases hbl : Nat.blt r S.1 with
      | true =>
        rw [hbl] at h
        simp only [cond_true] at h
        have hr : r < S.1 := by simpa [Nat.blt_eq] using hbl
        split at h
        · rename_i n hs
          obtain ⟨hg, rfl, rfl, rfl, rfl⟩ := pm_n_inj h
          rw [List.map_cons, List.map_cons, hrl r hr]
          have hc2 : pm_cell ρ fv cA (Sg r) S r = .inl (cA 2, n, .inl (S.2.2.1 r)) := by rw [hs]; rfl
          exact va_bald hx hb hK hP r 2 (by rw [pm_ws_at hr, hc2]) rfl (pm_ib_of hg) hd (kk H locs ls hI hL)
        · rename_i n hs
          obtain ⟨hg, rfl, rfl, rfl, rfl⟩ := pm_n_inj h
          rw [List.map_cons, List.map_cons, hrl r hr]
          have hc2 : pm_cell ρ fv cA (Sg r) S r = .inl (cA 3, n, .inl (S.2.2.1 r)) := by rw [hs]; rfl
          exact va_zald hx hb hK hP r 3 (by rw [pm_ws_at hr, hc2]) rfl (pm_ib_of hg) hd (kk H locs ls hI hL)
        · cases h
      | false =>
        rw [hbl] at h
        simp only [cond_false] at h
        split at h
        · rename_i n f hs
          obtain ⟨hg, rfl, rfl, rfl, rfl⟩ := pm_n_inj h
          have hr : pm_rl ρ fv (.ref r) = .ref (ρ r) := by
            show (if r = 204 then fv else Value.ref (ρ r)) = _
            rw [if_neg (hRt _ _ hs).2.1]
          rw [List.map_cons, List.map_cons, hr]
          exact va_tb hx hb (hZ.2.2.2.2.2.2 _ _ _ _ hs) hS (pm_ib_of hg) rfl hd (kk H locs ls hI hL)
        · cases h
    · cases h
  case laload =>
    obtain ⟨hd, rfl⟩ := pm_d_of (show pm_d _ _ _ _ 1 = true from hq)
    simp only [pm_x] at h
    split at h
    · rename_i i r rest
      cases hbl : Nat.blt r S.1 with
      | true =>
        rw [hbl] at h
        simp only [cond_true] at h
        have hr : r < S.1 := by simpa [Nat.blt_eq] using hbl
        split at h
        · rename_i n hs
          obtain ⟨hg, rfl, rfl, rfl, rfl⟩ := pm_n_inj h
          rw [List.map_cons, List.map_cons, hrl r hr]
          have hc2 : pm_cell ρ fv cA (Sg r) S r = .inl (cA 1, n, .inr (.inl (S.2.2.2 r))) := by rw [hs]; rfl
          exact va_lald hx hb hK hP r 1 (by rw [pm_ws_at hr, hc2]) rfl (pm_ib_of hg) hd (kk H locs ls hI hL)
        · cases h
      | false => rw [hbl] at h; cases h
    · cases h
  case iastore =>
    obtain ⟨hd, rfl⟩ := pm_d_of (show pm_d _ _ _ _ 1 = true from hq)
    simp only [pm_x] at h
    split at h
    · rename_i x i r rest
      replace h := pm_cond h
      obtain ⟨hbl, h⟩ := h
      have hr : r < S.1 := by simpa [Nat.blt_eq] using hbl
      split at h
      · rename_i n hs
        obtain ⟨hg, rfl, rfl, rfl, rfl⟩ := pm_n_inj h
        rw [List.map_cons, List.map_cons, List.map_cons, hrl r hr]
        have hc2 : pm_cell ρ fv cA (Sg r) S r = .inl (cA 0, n, .inl (S.2.2.1 r)) := by rw [hs]; rfl
        refine va_iast hx hb hK hP hD hS r 0 (by rw [pm_ws_at hr, hc2]) rfl (pm_ib_of hg) hd (fun H1 locs1 hP1 hD1 hS1 => ?_)
        refine kk H1 locs1 ls ⟨?_, hS1, hn2⟩ hL
        have e := pm_ws_set (ρ := ρ) (fv := fv) (cA := cA) (Sg := Sg) (S := S) (S' := (S.1, S.2.1, pm_ui S.2.2.1 r i.toNatClampNeg x, S.2.2.2)) rfl hr (fun k hk hne => pm_cell_eq rfl (pm_ui_off hne) rfl)
        have e2 : pm_cell ρ fv cA (Sg r) (S.1, S.2.1, pm_ui S.2.2.1 r i.toNatClampNeg x, S.2.2.2) r = .inl (cA 0, n, .inl (upd (S.2.2.1 r) i.toNatClampNeg x)) := by
          rw [hs]
          show Sum.inl (cA 0, n, Sum.inl (pm_ui S.2.2.1 r i.toNatClampNeg x r)) = _
          rw [pm_ui_row]
        rw [e2] at e
        rw [← e]
        exact hP1
      · cases h
    · cases h
  case bastore =>
    obtain ⟨hd, rfl⟩ := pm_d_of (show pm_d _ _ _ _ 1 = true from hq)
    simp only [pm_x] at h
    split at h
    · rename_i x i r rest
      replace h := pm_cond h
      obtain ⟨hbl, h⟩ := h
      have hr : r < S.1 := by simpa [Nat.blt_eq] using hbl
      split at h
      · rename_i n hs
        obtain ⟨hg, rfl, rfl, rfl, rfl⟩ := pm_n_inj h
        rw [List.map_cons, List.map_cons, List.map_cons, hrl r hr]
        have hc2 : pm_cell ρ fv cA (Sg r) S r = .inl (cA 2, n, .inl (S.2.2.1 r)) := by rw [hs]; rfl
        refine va_bast hx hb hK hP hD hS r 2 (by rw [pm_ws_at hr, hc2]) rfl (pm_ib_of hg) hd (fun H1 locs1 hP1 hD1 hS1 => ?_)
        refine kk H1 locs1 ls ⟨?_, hS1, hn2⟩ hL
        have e := pm_ws_set (ρ := ρ) (fv := fv) (cA := cA) (Sg := Sg) (S := S) (S' := (S.1, S.2.1, pm_ui S.2.2.1 r i.toNatClampNeg (vp_nar .byte x), S.2.2.2)) rfl hr (fun k hk hne => pm_cell_eq rfl (pm_ui_off hne) rfl)
        have e2 : pm_cell ρ fv cA (Sg r) (S.1, S.2.1, pm_ui S.2.2.1 r i.toNatClampNeg (vp_nar .byte x), S.2.2.2) r = .inl (cA 2, n, .inl (upd (S.2.2.1 r) i.toNatClampNeg (vp_nar .byte x))) := by
          rw [hs]
          show Sum.inl (cA 2, n, Sum.inl (pm_ui S.2.2.1 r i.toNatClampNeg (vp_nar .byte x) r)) = _
          rw [pm_ui_row]
        rw [e2] at e
        rw [← e]
        exact hP1
      · rename_i n hs
        obtain ⟨hg, rfl, rfl, rfl, rfl⟩ := pm_n_inj h
        rw [List.map_cons, List.map_cons, List.map_cons, hrl r hr]
        have hc2 : pm_cell ρ fv cA (Sg r) S r = .inl (cA 3, n, .inl (S.2.2.1 r)) := by rw [hs]; rfl
        refine va_zast hx hb hK hP hD hS r 3 (by rw [pm_ws_at hr, hc2]) rfl (pm_ib_of hg) hd (fun H1 locs1 hP1 hD1 hS1 => ?_)
        refine kk H1 locs1 ls ⟨?_, hS1, hn2⟩ hL
        have e := pm_ws_set (ρ := ρ) (fv := fv) (cA := cA) (Sg := Sg) (S := S) (S' := (S.1, S.2.1, pm_ui S.2.2.1 r i.toNatClampNeg (vp_nar .boolean x), S.2.2.2)) rfl hr (fun k hk hne => pm_cell_eq rfl (pm_ui_off hne) rfl)
        have e2 : pm_cell ρ fv cA (Sg r) (S.1, S.2.1, pm_ui S.2.2.1 r i.toNatClampNeg (vp_nar .boolean x), S.2.2.2) r = .inl (cA 3, n, .inl (upd (S.2.2.1 r) i.toNatClampNeg (vp_nar .boolean x))) := by
          rw [hs]
          show Sum.inl (cA 3, n, Sum.inl (pm_ui S.2.2.1 r i.toNatClampNeg (vp_nar .boolean x) r)) = _
          rw [pm_ui_row]
        rw [e2] at e
        rw [← e]
        exact hP1
      · cases h
    · cases h
  case lastore =>
    obtain ⟨hd, rfl⟩ := pm_d_of (show pm_d _ _ _ _ 1 = true from hq)
    simp only [pm_x] at h
    split at h
    · rename_i x i r rest
      replace h := pm_cond h
      obtain ⟨hbl, h⟩ := h
      have hr : r < S.1 := by simpa [Nat.blt_eq] using hbl
      split at h
      · rename_i n hs
        obtain ⟨hg, rfl, rfl, rfl, rfl⟩ := pm_n_inj h
        rw [List.map_cons, List.map_cons, List.map_cons, hrl r hr]
        have hc2 : pm_cell ρ fv cA (Sg r) S r = .inl (cA 1, n, .inr (.inl (S.2.2.2 r))) := by rw [hs]; rfl
        refine va_last hx hb hK hP hD hS r 1 (by rw [pm_ws_at hr, hc2]) rfl (pm_ib_of hg) hd (fun H1 locs1 hP1 hD1 hS1 => ?_)
        refine kk H1 locs1 ls ⟨?_, hS1, hn2⟩ hL
        have e := pm_ws_set (ρ := ρ) (fv := fv) (cA := cA) (Sg := Sg) (S := S) (S' := (S.1, S.2.1, S.2.2.1, pm_ul S.2.2.2 r i.toNatClampNeg x)) rfl hr (fun k hk hne => pm_cell_eq rfl rfl (pm_ul_off hne))
        have e2 : pm_cell ρ fv cA (Sg r) (S.1, S.2.1, S.2.2.1, pm_ul S.2.2.2 r i.toNatClampNeg x) r = .inl (cA 1, n, .inr (.inl (vp_updL (S.2.2.2 r) i.toNatClampNeg x))) := by
          rw [hs]
          show Sum.inl (cA 1, n, Sum.inr (Sum.inl (pm_ul S.2.2.2 r i.toNatClampNeg x r))) = _
          rw [pm_ul_row]
        rw [e2] at e
        rw [← e]
        exact hP1
      · cases h
    · cases h
  case arraylength =>
    obtain ⟨hd, rfl⟩ := pm_d_of (show pm_d _ _ _ _ 1 = true from hq)
    simp only [pm_x] at h
    split at h
    · rename_i r rest
      cases hbl : Nat.blt r S.1 with
      | true =>
        rw [hbl] at h
        simp only [cond_true] at h
        have hr : r < S.1 := by simpa [Nat.blt_eq] using hbl
        split at h
        · rename_i t n hs
          replace h := pm_cond h
          obtain ⟨ht3, h⟩ := h
          obtain ⟨hg, rfl, rfl, rfl, rfl⟩ := pm_n_inj h
          rw [List.map_cons, hrl r hr]
          have hc2 : pm_cell ρ fv cA (Sg r) S r = .inl (cA t, n, pm_con S r t) := by rw [hs]; rfl
          exact va_alen (x := (n, pm_con S r t)) hx hb hK hP r t (by rw [pm_ws_at hr, hc2]) (pm_tys_at (Nat.le_of_ble_eq_true ht3)) rfl hd (kk H locs ls hI hL)
        · cases h
      | false =>
        rw [hbl] at h
        simp only [cond_false] at h
        split at h
        · rename_i t n f hs
          obtain ⟨hg, rfl, rfl, rfl, rfl⟩ := pm_n_inj h
          have hr : pm_rl ρ fv (.ref r) = .ref (ρ r) := by
            show (if r = 204 then fv else Value.ref (ρ r)) = _
            rw [if_neg (hRt _ _ hs).2.1]
          rw [List.map_cons, hr]
          exact va_tlen hx hb (hZ.2.2.2.2.2.2 _ _ _ _ hs) hS rfl hd (kk H locs ls hI hL)
        · cases h
    · cases h
  case getfield idx =>
    simp only [pm_chk, Bool.and_eq_true] at hq
    obtain ⟨hd0, hcv⟩ := hq
    obtain ⟨hd, rfl⟩ := pm_d_of hd0
    simp only [pm_x] at h
    split at h
    · rename_i r rest
      cases htg : Nat.ble (xs.getD 0 9) 1 with
      | true =>
        rw [htg] at h
        simp only [cond_true] at h
        replace h := pm_cond h
        obtain ⟨hbl, h⟩ := h
        have hr : r < S.1 := by simpa [Nat.blt_eq] using hbl
        split at h
        · rename_i c2 ks hs
          replace h := pm_cond h
          obtain ⟨hce, h⟩ := h
          have hce := Nat.eq_of_beq_eq_true hce
          subst hce
          split at h
          · rename_i v hv
            obtain ⟨-, rfl, rfl, rfl, rfl⟩ := pm_n_inj h
            obtain ⟨hval, hkd⟩ := pm_fv_val (ρ := ρ) (fv := fv) hv
            have hkl : xs.getD 2 0 < ks.length := by
              apply Decidable.byContradiction
              intro hn
              rw [List.getD_eq_getElem?_getD, List.getElem?_eq_none (by omega)] at hkd
              exact absurd hkd (by decide)
            have hf2 : (ks.mapIdx (fun k kd => pm_val ρ fv S r k kd))[xs.getD 2 0]? = some (pm_rl ρ fv v) := by
              rw [List.getElem?_mapIdx, ← hval, pm_getD_lt hkl, List.getElem?_eq_getElem hkl]
              rfl
            have hat : (pm_ws ρ fv cA Sg S)[r]? = some (ρ r, .inr (xs.getD 1 0, ks.mapIdx (fun k kd => pm_val ρ fv S r k kd))) := by
              rw [pm_ws_at hr, hs]
              rfl
            rw [List.map_cons, hrl r hr]
            have htag : xs.getD 0 9 = 0 ∨ xs.getD 0 9 = 1 := by
              have := Nat.le_of_ble_eq_true htg
              omega
            rcases htag with ht | ht
            · rw [ht] at hcv
              simp only at hcv
              split at hcv
              · rename_i t hfk
                obtain ⟨C, T, N, hcl, hkN, hT1, rfl⟩ := pm_fk_of hfk
                obtain ⟨ty, hin, hnm, hty, -⟩ := h1.2.1 _ _ _ _ hcl
                simp only [pm_flk] at hcv
                exact va_get hx hb hts hin hown hK hP r hat hcl (xs.getD 2 0) hkN (hts _ (pm_wk_of hcv)) (fun _ h => h) hf2 hd (kk H locs ls hI hL)
              · cases hcv
            · rw [ht] at hcv
              simp only at hcv
              split at hcv
              · rename_i t hfk
                obtain ⟨C, T, N, hcl, hkN, hT1, rfl⟩ := pm_fk_of hfk
                obtain ⟨ty, hin, hnm, hty, -⟩ := h1.2.1 _ _ _ _ hcl
                simp only [pm_flk] at hcv
                exact va_getN hx hb hts hin hown hK hP r hat hcl (xs.getD 2 0) hkN (va_Nw.use rfl (hN.1 _ (pm_wn_of hcv) rfl)) (fun _ h => h) hf2 hd (kk H locs ls hI hL)
              · cases hcv
          · cases h
        · cases h
      | false =>
        rw [htg] at h
        simp only [cond_false] at h
        replace h := pm_cond h
        obtain ⟨hre, h⟩ := h
        have hre := Nat.eq_of_beq_eq_true hre
        subst hre
        have hr : pm_rl ρ fv (.ref 201) = .ref (ρ 201) := rfl
        split at h
        · rename_i ht
          rw [ht] at hcv
          obtain ⟨-, rfl, rfl, rfl, rfl⟩ := pm_n_inj h
          exact vk_getf hx hb hZ.2.2.2.2.1 hS hown (hts _ (pm_wk_of hcv)) (fun _ h => h) hd (kk H locs ls hI hL)
        · rename_i ht
          rw [ht] at hcv
          obtain ⟨-, rfl, rfl, rfl, rfl⟩ := pm_n_inj h
          exact vk_getf hx hb hZ.2.2.2.1 hS hown (hts _ (pm_wk_of hcv)) (fun _ h => h) hd (kk H locs ls hI hL)
        · cases h
    · cases h
  case newarray a =>
    simp only [pm_chk, Bool.and_eq_true] at hq
    obtain ⟨hd0, hw, hty0, ht3⟩ := hq
    obtain ⟨hd, rfl⟩ := pm_d_of hd0
    have hty0 := of_decide_eq_true hty0
    have ht3 := Nat.le_of_ble_eq_true ht3
    simp only [pm_x] at h
    split at h
    · rename_i n rest
      split at h
      · rename_i t w2 hs
        replace h := pm_cond h
        obtain ⟨hg1, h⟩ := h
        rw [Bool.and_eq_true] at hg1
        have ht := Nat.eq_of_beq_eq_true hg1.1
        have h200 : S.1 < 200 := by simpa [Nat.blt_eq] using hg1.2
        obtain ⟨hg, rfl, rfl, rfl, rfl⟩ := pm_n_inj h
        have hn := of_decide_eq_true hg
        rw [← ht] at hty0 ht3
        have hwl : w2 < 100000 := h1.2.2 _ _ _ hs ht3
        refine pm_siz hρ hsz hc0 hI fun hz => ?_
        have hss : pm_ss Sg (S.1 + 1) = pm_ss Sg S.1 + w2 := by
          show pm_ss Sg S.1 + pm_sz (Sg S.1) = _
          rw [hs]
          rfl
        have hmono := pm_ss_mono Sg hc0
        dsimp only at hR1 hR2
        rw [hss] at hR2
        refine va_newaK (N := w2) hx hb (hts _ (pm_wk_of hw)) rfl hd rfl (by rw [hn]; exact nI_pos (by omega)) (by rw [hn]; exact nI_clamp (by omega)) (by rw [hty0]; have : componentBytes (pm_ty t) ≤ 8 := (by match t, ht3 with | 0, _ => decide | 1, _ => decide | 2, _ => decide | 3, _ => decide); calc w2 * componentBytes (pm_ty t) ≤ 100000 * 8 := Nat.mul_le_mul (by omega) this
            _ ≤ _ := by decide) (by omega) (by omega) hz (fun H1 cA2 e1 z1 o1 hAr hnm => ?_)
        have hcA : cA2 = cA t := by
          have g2 := (hK.2 t _ (pm_tys_at ht3)).2
          rw [hty0] at hnm
          have g3 : s.vm.findClass ("[" ++ (pm_ty t).toString) = some (cA t) := by
            match t, ht3, g2 with
            | 0, _, g2 => exact g2
            | 1, _, g2 => exact g2
            | 2, _, g2 => exact g2
            | 3, _, g2 => exact g2
          exact Option.some.inj (hnm.symm.trans g3)
        subst hcA
        have hk := kk H1 locs ls ⟨pm_P_push hP (fun q hq => o1 q (by omega)) rfl (fun k hk => pm_cell_eq (pm_cg_off (by omega)) (pm_ci_off (by omega)) (pm_cl_off (by omega))) ?_, ⟨Nat.le_trans hS.1 (by omega), fun x g1 g2 => (o1 x (by have := hS.1; omega)).trans (hS.2.1 x g1 g2), hS.2.2⟩, by show S.1 + 1 ≤ 200; omega⟩ hL
        · have er : pm_rl ρ fv (.ref S.1) = .ref (base + S.1) := by
            show (if S.1 = 204 then fv else Value.ref (ρ S.1)) = _
            rw [if_neg (by omega), hρ _ h200]
          rw [List.map_cons, er] at hk
          dsimp only at hk
          rw [hss] at hk
          rw [show S.1 - c0 + 1 = S.1 + 1 - c0 by omega, show pm_ss Sg S.1 - pm_ss Sg c0 + w2 = pm_ss Sg S.1 + w2 - pm_ss Sg c0 by omega]
          exact hk
        · rw [hs, hρ _ h200]
          show H1[base + S.1]? = some (vp_cell (cA t) (w2, _))
          rw [e1, hty0]
          match t, ht3 with
          | 0, _ =>
            show some (arrV (cA 0) w2 (fun _ => Value.int 0)) = some (arrV (cA 0) w2 (fun j => Value.int (pm_ci S.2.2.1 S.1 S.1 j)))
            simp only [pm_ci_row]
          | 1, _ =>
            show some (arrV (cA 1) w2 (fun _ => Value.long 0)) = some (arrV (cA 1) w2 (fun j => Value.long (pm_cl S.2.2.2 S.1 S.1 j)))
            simp only [pm_cl_row]
          | 2, _ =>
            show some (arrV (cA 2) w2 (fun _ => Value.int 0)) = some (arrV (cA 2) w2 (fun j => Value.int (pm_ci S.2.2.1 S.1 S.1 j)))
            simp only [pm_ci_row]
          | 3, _ =>
            show some (arrV (cA 3) w2 (fun _ => Value.int 0)) = some (arrV (cA 3) w2 (fun j => Value.int (pm_ci S.2.2.1 S.1 S.1 j)))
            simp only [pm_ci_row]
      · cases h
    · cases h
  case new idx =>
    simp only [pm_chk, Bool.and_eq_true] at hq
    obtain ⟨hd0, hq⟩ := hq
    obtain ⟨hd, rfl⟩ := pm_d_of hd0
    simp only [pm_x] at h
    split at h
    · rename_i c2 ks hs
      replace h := pm_cond h
      obtain ⟨hg1, h⟩ := h
      rw [Bool.and_eq_true] at hg1
      have hc2 := Nat.eq_of_beq_eq_true hg1.1
      have h200 : S.1 < 200 := by simpa [Nat.blt_eq] using hg1.2
      obtain ⟨hg, rfl, rfl, rfl, rfl⟩ := pm_n_inj h
      subst hc2
      split at hq
      · rename_i C T N hcl
        simp only [Bool.and_eq_true] at hq
        obtain ⟨q1, q2, q3⟩ := hq
        obtain ⟨ty, hin, hnm, hty, hkt⟩ := h1.2.1 _ _ _ _ hcl
        obtain ⟨hlen, hkt⟩ := hkt _ _ hs
        refine pm_siz hρ hsz hc0 hI fun hz => ?_
        have hss : pm_ss Sg (S.1 + 1) = pm_ss Sg S.1 + N := by
          show pm_ss Sg S.1 + pm_sz (Sg S.1) = _
          rw [hs, ← hlen]
          rfl
        have hmono := pm_ss_mono Sg hc0
        dsimp only at hR1 hR2
        rw [hss] at hR2
        have hKn := hK.1 _ _ hcl
        refine W.newcK hx hb hown (hts _ (pm_wk_of q1)) (hts _ (pm_wk_of q2)) (hts _ (pm_wk_of q3)) rfl hd (by omega) (by omega) hKn.2.1 hz (fun H1 kC hkC e1 z1 o1 => ?_)
        have hk := kk H1 locs ls ⟨pm_P_push hP (fun q hq => o1 q (by omega)) rfl (fun k hk => pm_cell_eq (pm_cg_off (by omega)) (pm_ci_off (by omega)) (pm_cl_off (by omega))) ?_, ⟨Nat.le_trans hS.1 (by omega), fun x g1 g2 => (o1 x (by have := hS.1; omega)).trans (hS.2.1 x g1 g2), hS.2.2⟩, by show S.1 + 1 ≤ 200; omega⟩ hL
        · have er : pm_rl ρ fv (.ref S.1) = .ref (base + S.1) := by
            show (if S.1 = 204 then fv else Value.ref (ρ S.1)) = _
            rw [if_neg (by omega), hρ _ h200]
          rw [List.map_cons, er] at hk
          dsimp only at hk
          rw [hss] at hk
          rw [show S.1 - c0 + 1 = S.1 + 1 - c0 by omega, show pm_ss Sg S.1 - pm_ss Sg c0 + N = pm_ss Sg S.1 + N - pm_ss Sg c0 by omega]
          exact hk
        · rw [hs, hρ _ h200]
          refine ⟨_, hcl, (u_born ty hts hin hKn hkC e1 hty).to fun j hj => ?_⟩
          have hjk : j < ks.length := by omega
          show _ = List.getD (List.mapIdx _ ks) j Value.null
          rw [List.getD_eq_getElem?_getD, List.getElem?_mapIdx, List.getElem?_eq_getElem hjk]
          have g := hkt j hj
          rw [List.getD_eq_getElem?_getD, List.getElem?_eq_getElem hjk] at g
          simp only [Option.getD_some, Option.map_some] at g ⊢
          match hkd : ks[j], g with
          | 0, g => rw [show ty j = .int from g]; exact congrArg Value.int pm_ci_row.symm
          | 1, g => rw [show ty j = .long from g]; exact congrArg Value.long pm_cl_row.symm
          | 2, g => rw [show ty j = .boolean from g]; exact congrArg Value.int pm_ci_row.symm
          | 3, g =>
            have e0 : pm_val ρ fv (S.1 + 1, pm_cg S.2.1 S.1, pm_ci S.2.2.1 S.1, pm_cl S.2.2.2 S.1) S.1 j 3 = .null := by
              show (match pm_cg S.2.1 S.1 S.1 j with | 0 => Value.null | j + 1 => pm_rl ρ fv (.ref j)) = _
              rw [pm_cg_row]
            rw [e0]
            rcases (show (∃ n, ty j = .object n) ∨ ∃ t, ty j = .array t from g) with ⟨n, hn⟩ | ⟨n, hn⟩ <;> rw [hn] <;> rfl
          | (n + 4), g => exact absurd g (by intro h; exact h)
      · cases hq
    · cases h
  case invokespecial idx =>
    simp only [pm_chk, Bool.and_eq_true] at hq
    obtain ⟨hd0, hq⟩ := hq
    obtain ⟨hd, rfl⟩ := pm_d_of hd0
    simp only [pm_x] at h
    split at h
    · split at h
      · rename_i r rest
        replace h := pm_cond h
        obtain ⟨hg1, h⟩ := h
        rw [Bool.and_eq_true] at hg1
        have hr : r < S.1 := by simpa [Nat.blt_eq] using hg1.1
        obtain ⟨hg, rfl, rfl, rfl, rfl⟩ := pm_n_inj h
        simp only [Bool.and_eq_true] at hq
        obtain ⟨q1, q2, q3, q4, q5⟩ := hq
        rw [List.map_cons, hrl r hr]
        have hsize : ls.size = c.maxLocals := hL.1.trans hml.symm
        have hwd : (rest.map (pm_rl ρ fv)).map (fun v => v.category) = rest.map (fun v => v.category) := by
          rw [List.map_map]
          exact List.map_congr_left fun v _ => pm_rl_cat hfv v
        have hwd2 := pm_wd_sum rest
        have h8 := Nat.le_of_ble_eq_true hg1.2
        have q4 := Nat.le_of_ble_eq_true q4
        have q5 := Nat.le_of_ble_eq_true q5
        have hmr : 2 * (F0 m pc ls (Value.ref (ρ r) :: rest.map (pm_rl ρ fv))).monitorRoom + ((rest.map (pm_rl ρ fv)).map fun v => v.category).sum ≤ 8 := lv_room (by rw [hwd, hwd2]; exact h8)
        exact W.objInit hx hb hown (hts _ (pm_wk_of q1)) (hts _ (List.contains_iff_mem.mp q2)) (hts _ (List.contains_iff_mem.mp q3)) rfl hsize rfl hd (Nat.le_trans q4 hfr) (by omega) (kk H locs ls hI hL)
      · cases h
    · unfold pm_callI at h
      split at h
      · replace h := pm_cond h
        obtain ⟨-, h⟩ := h
        exact (pm_j_ne h).elim
      · cases h
  case invokevirtual idx =>
    simp only [pm_x] at h
    unfold pm_callV at h
    split at h
    · replace h := pm_cond h
      obtain ⟨-, h⟩ := h
      exact (pm_j_ne h).elim
    · cases h
  case invokestatic idx =>
    simp only [pm_x] at h
    unfold pm_call at h
    split at h
    · replace h := pm_cond h
      obtain ⟨-, h⟩ := h
      exact (pm_j_ne h).elim
    · cases h
  case tableswitch d lo hi offs =>
    simp only [pm_x] at h
    split at h
    · exact (pm_w_ne h).elim
    · cases h
  case ifCond cnd o => cases cnd <;> (simp only [pm_x] at h; split at h <;> first | exact (pm_b_ne h).elim | cases h)
  case if_icmp cnd o => cases cnd <;> (simp only [pm_x] at h; split at h <;> first | exact (pm_b_ne h).elim | cases h)
  case ireturn =>
    simp only [pm_x] at h
    split at h
    · split at h <;> first | exact (pm_e_ne h).elim | cases h
    · cases h
  case lreturn =>
    simp only [pm_x] at h
    split at h
    · split at h <;> first | exact (pm_e_ne h).elim | cases h
    · cases h
  case return_ =>
    simp only [pm_x] at h
    split at h
    · split at h <;> first | exact (pm_e_ne h).elim | cases h
    · cases h
  case putfield idx =>
    simp only [pm_chk, Bool.and_eq_true] at hq
    obtain ⟨hd0, hq⟩ := hq
    obtain ⟨hd, rfl⟩ := pm_d_of hd0
    split at hq
    · rename_i t hfk
      obtain ⟨C, T, N, hcl, hkN, hT1, rfl⟩ := pm_fk_of hfk
      obtain ⟨ty, hin, hnm, hty, hkt⟩ := h1.2.1 _ _ _ _ hcl
      rw [Bool.and_eq_true] at hq
      obtain ⟨hlk, hfl⟩ := hq
      simp only [pm_x] at h
      split at h
      · rename_i x r rest
        replace h := pm_cond h
        obtain ⟨hg1, h⟩ := h
        rw [Bool.and_eq_true] at hg1
        have hr : r < S.1 := by simpa [Nat.blt_eq] using hg1.1
        have htag : xs.getD 0 9 = 0 ∨ xs.getD 0 9 = 1 := by
          have := Nat.le_of_ble_eq_true hg1.2
          omega
        have hb4 : Nat.beq (xs.getD 0 9) 4 = false := by rcases htag with h | h <;> rw [h] <;> rfl
        split at h
        · rename_i c2 ks hs
          replace h := pm_cond h
          obtain ⟨hce, h⟩ := h
          have hce := Nat.eq_of_beq_eq_true hce
          subst hce
          obtain ⟨hlen, hkt⟩ := hkt _ _ hs
          split at h
          · rename_i hkd
            obtain ⟨hg, rfl, rfl, rfl, rfl⟩ := pm_n_inj h
            have hkl : xs.getD 2 0 < ks.length := by rw [hlen]; exact hkN
            have hk0 := hkt _ hkN
            rw [hkd] at hk0
            have hk0 : ty (xs.getD 2 0) = .int := hk0
            have hat : (pm_ws ρ fv cA Sg S)[r]? = some (ρ r, .inr (xs.getD 1 0, ks.mapIdx (fun k kd => pm_val ρ fv S r k kd))) := by
              rw [pm_ws_at hr, hs]
              rfl
            have hfin : (T (xs.getD 2 0)).2.2.2 = false := by
              rw [hb4] at hfl
              simpa using hfl
            have e := pm_ws_set (ρ := ρ) (fv := fv) (cA := cA) (Sg := Sg) (S := S) (S' := (S.1, S.2.1, pm_ui S.2.2.1 r (xs.getD 2 0) x, S.2.2.2)) rfl hr (fun k hk hne => pm_cell_eq rfl (pm_ui_off hne) rfl)
            have e2 : pm_cell ρ fv cA (Sg r) (S.1, S.2.1, pm_ui S.2.2.1 r (xs.getD 2 0) x, S.2.2.2) r = .inr (xs.getD 1 0, (ks.mapIdx (fun k kd => pm_val ρ fv S r k kd)).set (xs.getD 2 0) (.int x)) := by
              rw [hs]
              show Sum.inr (xs.getD 1 0, ks.mapIdx (fun k kd => pm_val ρ fv (S.1, S.2.1, pm_ui S.2.2.1 r (xs.getD 2 0) x, S.2.2.2) r k kd)) = _
              refine congrArg (fun z => Sum.inr (xs.getD 1 0, z)) (pm_fields hkl (by rw [hkd]; exact pm_val_new_0) (fun j kd hj => pm_val_off_i hj)).symm
            rw [e2] at e
            have kk2 := fun (H1 : Heap) (locs1 : List Loc) (hP1 : va_P D cl ((pm_ws ρ fv cA Sg S).set r (ρ r, .inr (xs.getD 1 0, (ks.mapIdx (fun k kd => pm_val ρ fv S r k kd)).set (xs.getD 2 0) (.int x)))) H1) (_ : va_D (fun q : Nat => base ≤ q) ((pm_ws ρ fv cA Sg S).set r (ρ r, .inr (xs.getD 1 0, (ks.mapIdx (fun k kd => pm_val ρ fv S r k kd)).set (xs.getD 2 0) (.int x))))) (hS1 : va_S (fun q : Nat => base ≤ q) s.heap H1 locs1) => kk H1 locs1 ls ⟨e ▸ hP1, hS1, hn2⟩ hL
            rw [List.map_cons, List.map_cons, hrl r hr]
            rcases htag with ht | ht
            · rw [ht] at hlk
              exact va_put hx hb hts hin ty hty hnm hown hK hP hD hS r hat hcl (xs.getD 2 0) hkN (hts _ (pm_wk_of hlk)) (fun _ h => h) hfin (hty _ hkN) (by rw [hk0]; exact rfl) (by rw [hk0]; exact rfl) (by rw [List.length_mapIdx]; exact hkl) hd kk2
            · rw [ht] at hlk
              exact va_putN hx hb hts hin ty hty hnm hown hK hP hD hS r hat hcl (xs.getD 2 0) hkN (va_Nw.use rfl (hN.1 _ (pm_wn_of hlk) rfl)) (fun _ h => h) hfin (hty _ hkN) (by rw [hk0]; exact rfl) (by rw [hk0]; exact rfl) (by rw [List.length_mapIdx]; exact hkl) hd kk2
          · rename_i hkd
            obtain ⟨hg, rfl, rfl, rfl, rfl⟩ := pm_n_inj h
            have hkl : xs.getD 2 0 < ks.length := by rw [hlen]; exact hkN
            have hk0 := hkt _ hkN
            rw [hkd] at hk0
            have hk0 : ty (xs.getD 2 0) = .boolean := hk0
            have hat : (pm_ws ρ fv cA Sg S)[r]? = some (ρ r, .inr (xs.getD 1 0, ks.mapIdx (fun k kd => pm_val ρ fv S r k kd))) := by
              rw [pm_ws_at hr, hs]
              rfl
            have hfin : (T (xs.getD 2 0)).2.2.2 = false := by
              rw [hb4] at hfl
              simpa using hfl
            have e := pm_ws_set (ρ := ρ) (fv := fv) (cA := cA) (Sg := Sg) (S := S) (S' := (S.1, S.2.1, pm_ui S.2.2.1 r (xs.getD 2 0) x, S.2.2.2)) rfl hr (fun k hk hne => pm_cell_eq rfl (pm_ui_off hne) rfl)
            have e2 : pm_cell ρ fv cA (Sg r) (S.1, S.2.1, pm_ui S.2.2.1 r (xs.getD 2 0) x, S.2.2.2) r = .inr (xs.getD 1 0, (ks.mapIdx (fun k kd => pm_val ρ fv S r k kd)).set (xs.getD 2 0) (.int x)) := by
              rw [hs]
              show Sum.inr (xs.getD 1 0, ks.mapIdx (fun k kd => pm_val ρ fv (S.1, S.2.1, pm_ui S.2.2.1 r (xs.getD 2 0) x, S.2.2.2) r k kd)) = _
              refine congrArg (fun z => Sum.inr (xs.getD 1 0, z)) (pm_fields hkl (by rw [hkd]; exact pm_val_new_2) (fun j kd hj => pm_val_off_i hj)).symm
            rw [e2] at e
            have kk2 := fun (H1 : Heap) (locs1 : List Loc) (hP1 : va_P D cl ((pm_ws ρ fv cA Sg S).set r (ρ r, .inr (xs.getD 1 0, (ks.mapIdx (fun k kd => pm_val ρ fv S r k kd)).set (xs.getD 2 0) (.int x)))) H1) (_ : va_D (fun q : Nat => base ≤ q) ((pm_ws ρ fv cA Sg S).set r (ρ r, .inr (xs.getD 1 0, (ks.mapIdx (fun k kd => pm_val ρ fv S r k kd)).set (xs.getD 2 0) (.int x))))) (hS1 : va_S (fun q : Nat => base ≤ q) s.heap H1 locs1) => kk H1 locs1 ls ⟨e ▸ hP1, hS1, hn2⟩ hL
            rw [List.map_cons, List.map_cons, hrl r hr]
            rcases htag with ht | ht
            · rw [ht] at hlk
              exact va_put hx hb hts hin ty hty hnm hown hK hP hD hS r hat hcl (xs.getD 2 0) hkN (hts _ (pm_wk_of hlk)) (fun _ h => h) hfin (hty _ hkN) (by rw [hk0]; exact pm_nz x (of_decide_eq_true hg)) (by rw [hk0]; exact pm_fz x (of_decide_eq_true hg)) (by rw [List.length_mapIdx]; exact hkl) hd kk2
            · rw [ht] at hlk
              exact va_putN hx hb hts hin ty hty hnm hown hK hP hD hS r hat hcl (xs.getD 2 0) hkN (va_Nw.use rfl (hN.1 _ (pm_wn_of hlk) rfl)) (fun _ h => h) hfin (hty _ hkN) (by rw [hk0]; exact pm_nz x (of_decide_eq_true hg)) (by rw [hk0]; exact pm_fz x (of_decide_eq_true hg)) (by rw [List.length_mapIdx]; exact hkl) hd kk2
          · cases h
        · cases h
      · rename_i x r rest
        replace h := pm_cond h
        obtain ⟨hg1, h⟩ := h
        rw [Bool.and_eq_true] at hg1
        have hr : r < S.1 := by simpa [Nat.blt_eq] using hg1.1
        have htag : xs.getD 0 9 = 0 ∨ xs.getD 0 9 = 1 := by
          have := Nat.le_of_ble_eq_true hg1.2
          omega
        have hb4 : Nat.beq (xs.getD 0 9) 4 = false := by rcases htag with h | h <;> rw [h] <;> rfl
        split at h
        · rename_i c2 ks hs
          replace h := pm_cond h
          obtain ⟨hce, h⟩ := h
          rw [Bool.and_eq_true] at hce
          have hkd := Nat.eq_of_beq_eq_true hce.2
          have hce := Nat.eq_of_beq_eq_true hce.1
          subst hce
          obtain ⟨hlen, hkt⟩ := hkt _ _ hs
          obtain ⟨hg, rfl, rfl, rfl, rfl⟩ := pm_n_inj h
          have hkl : xs.getD 2 0 < ks.length := by rw [hlen]; exact hkN
          have hk0 := hkt _ hkN
          rw [hkd] at hk0
          have hk0 : ty (xs.getD 2 0) = .long := hk0
          have hat : (pm_ws ρ fv cA Sg S)[r]? = some (ρ r, .inr (xs.getD 1 0, ks.mapIdx (fun k kd => pm_val ρ fv S r k kd))) := by
            rw [pm_ws_at hr, hs]
            rfl
          have hfin : (T (xs.getD 2 0)).2.2.2 = false := by
            rw [hb4] at hfl
            simpa using hfl
          have e := pm_ws_set (ρ := ρ) (fv := fv) (cA := cA) (Sg := Sg) (S := S) (S' := (S.1, S.2.1, S.2.2.1, pm_ul S.2.2.2 r (xs.getD 2 0) x)) rfl hr (fun k hk hne => pm_cell_eq rfl rfl (pm_ul_off hne))
          have e2 : pm_cell ρ fv cA (Sg r) (S.1, S.2.1, S.2.2.1, pm_ul S.2.2.2 r (xs.getD 2 0) x) r = .inr (xs.getD 1 0, (ks.mapIdx (fun k kd => pm_val ρ fv S r k kd)).set (xs.getD 2 0) (.long x)) := by
            rw [hs]
            show Sum.inr (xs.getD 1 0, ks.mapIdx (fun k kd => pm_val ρ fv (S.1, S.2.1, S.2.2.1, pm_ul S.2.2.2 r (xs.getD 2 0) x) r k kd)) = _
            refine congrArg (fun z => Sum.inr (xs.getD 1 0, z)) (pm_fields hkl (by rw [hkd]; exact pm_val_new_1) (fun j kd hj => pm_val_off_l hj)).symm
          rw [e2] at e
          have kk2 := fun (H1 : Heap) (locs1 : List Loc) (hP1 : va_P D cl ((pm_ws ρ fv cA Sg S).set r (ρ r, .inr (xs.getD 1 0, (ks.mapIdx (fun k kd => pm_val ρ fv S r k kd)).set (xs.getD 2 0) (.long x)))) H1) (_ : va_D (fun q : Nat => base ≤ q) ((pm_ws ρ fv cA Sg S).set r (ρ r, .inr (xs.getD 1 0, (ks.mapIdx (fun k kd => pm_val ρ fv S r k kd)).set (xs.getD 2 0) (.long x))))) (hS1 : va_S (fun q : Nat => base ≤ q) s.heap H1 locs1) => kk H1 locs1 ls ⟨e ▸ hP1, hS1, hn2⟩ hL
          rw [List.map_cons, List.map_cons, hrl r hr]
          rcases htag with ht | ht
          · rw [ht] at hlk
            exact va_put hx hb hts hin ty hty hnm hown hK hP hD hS r hat hcl (xs.getD 2 0) hkN (hts _ (pm_wk_of hlk)) (fun _ h => h) hfin (hty _ hkN) (by rw [hk0]; exact rfl) (by rw [hk0]; exact rfl) (by rw [List.length_mapIdx]; exact hkl) hd kk2
          · rw [ht] at hlk
            exact va_putN hx hb hts hin ty hty hnm hown hK hP hD hS r hat hcl (xs.getD 2 0) hkN (va_Nw.use rfl (hN.1 _ (pm_wn_of hlk) rfl)) (fun _ h => h) hfin (hty _ hkN) (by rw [hk0]; exact rfl) (by rw [hk0]; exact rfl) (by rw [List.length_mapIdx]; exact hkl) hd kk2
        · cases h
      · rename_i z r rest
        replace h := pm_cond h
        obtain ⟨hg1, h⟩ := h
        rw [Bool.and_eq_true, Bool.and_eq_true] at hg1
        have hr : r < S.1 := by simpa [Nat.blt_eq] using hg1.1
        have hz : z < S.1 := by simpa [Nat.blt_eq] using hg1.2.1
        have hb4 := hg1.2.2
        have ht4 := Nat.eq_of_beq_eq_true hb4
        split at h
        · rename_i c2 ks hs
          replace h := pm_cond h
          obtain ⟨hce, h⟩ := h
          rw [Bool.and_eq_true] at hce
          have hkd := Nat.eq_of_beq_eq_true hce.2
          have hce := Nat.eq_of_beq_eq_true hce.1
          subst hce
          obtain ⟨hlen, hkt⟩ := hkt _ _ hs
          obtain ⟨hg, rfl, rfl, rfl, rfl⟩ := pm_n_inj h
          have hkl : xs.getD 2 0 < ks.length := by rw [hlen]; exact hkN
          have hk0 := hkt _ hkN
          rw [hkd] at hk0
          have hk0 : (∃ n, ty (xs.getD 2 0) = .object n) ∨ ∃ t, ty (xs.getD 2 0) = .array t := hk0
          have hat : (pm_ws ρ fv cA Sg S)[r]? = some (ρ r, .inr (xs.getD 1 0, ks.mapIdx (fun k kd => pm_val ρ fv S r k kd))) := by
            rw [pm_ws_at hr, hs]
            rfl
          rw [hb4] at hfl
          simp only [cond_true, Bool.and_eq_true] at hfl
          obtain ⟨hfin, hname, hdecl⟩ := hfl
          have hname := of_decide_eq_true hname
          have hdecl := of_decide_eq_true hdecl
          have e := pm_ws_set (ρ := ρ) (fv := fv) (cA := cA) (Sg := Sg) (S := S) (S' := (S.1, pm_ug S.2.1 r (xs.getD 2 0) (z + 1), S.2.2.1, S.2.2.2)) rfl hr (fun k hk hne => pm_cell_eq (pm_ug_off hne) rfl rfl)
          have e2 : pm_cell ρ fv cA (Sg r) (S.1, pm_ug S.2.1 r (xs.getD 2 0) (z + 1), S.2.2.1, S.2.2.2) r = .inr (xs.getD 1 0, (ks.mapIdx (fun k kd => pm_val ρ fv S r k kd)).set (xs.getD 2 0) (.ref (ρ z))) := by
            rw [hs]
            show Sum.inr (xs.getD 1 0, ks.mapIdx (fun k kd => pm_val ρ fv (S.1, pm_ug S.2.1 r (xs.getD 2 0) (z + 1), S.2.2.1, S.2.2.2) r k kd)) = _
            refine congrArg (fun z => Sum.inr (xs.getD 1 0, z)) (pm_fields hkl (by rw [hkd, ← hrl z hz]; exact pm_val_new_3) (fun j kd hj => pm_val_off_g hj)).symm
          rw [e2] at e
          have kk2 := fun (H1 : Heap) (locs1 : List Loc) (hP1 : va_P D cl ((pm_ws ρ fv cA Sg S).set r (ρ r, .inr (xs.getD 1 0, (ks.mapIdx (fun k kd => pm_val ρ fv S r k kd)).set (xs.getD 2 0) (.ref (ρ z))))) H1) (_ : va_D (fun q : Nat => base ≤ q) ((pm_ws ρ fv cA Sg S).set r (ρ r, .inr (xs.getD 1 0, (ks.mapIdx (fun k kd => pm_val ρ fv S r k kd)).set (xs.getD 2 0) (.ref (ρ z)))))) (hS1 : va_S (fun q : Nat => base ≤ q) s.heap H1 locs1) => kk H1 locs1 ls ⟨e ▸ hP1, hS1, hn2⟩ hL
          rw [List.map_cons, List.map_cons, hrl r hr, hrl z hz]
          rw [ht4] at hlk
          refine va_putF hx hb hts hin ty hty hnm hown hK hP hD hS r hat hcl (xs.getD 2 0) hkN (hts _ (pm_wk_of hlk)) (fun _ h => h) hfin (hmn hname) hdecl (hty _ hkN) ?_ ?_ (by rw [List.length_mapIdx]; exact hkl) hd kk2
          · rcases hk0 with ⟨n, hn⟩ | ⟨n, hn⟩ <;> rw [hn] <;> rfl
          · rcases hk0 with ⟨n, hn⟩ | ⟨n, hn⟩ <;> rw [hn] <;> rfl
        · cases h
      · cases h
    · cases hq
  all_goals (simp only [pm_x] at h; cases h)
end
end
section
/-! ===== the pure machine's runs are the machine's ===== -/
theorem pm_x_cnt {Sg : Nat → pm_K} {Rt : pm_T} {ret : Option FieldType} {q : pm_Q} {pl : pm_L} {st : List Value} {S : pm_S} {g : Bool} : ∀ {z : pm_C}, pm_x Sg Rt ret q pl st S = some (g, z) → S.1 ≤ (match z with
    | .inl (_, _, _, S') => S'
    | .inr (.inl (_, _, _, _, _, _, _, S')) => S'
    | .inr (.inr (.inl (_, _, _, _, _, S'))) => S'
    | .inr (.inr (.inr (.inl (_, _, _, _, _, S')))) => S'
    | .inr (.inr (.inr (.inr (_, S')))) => S').1 := by
  intro z h
  obtain ⟨pc, ins, nx, w, xs, ci, cj⟩ := q
  have hN : ∀ {g1 : Bool} {pc' : Nat} {ls' : pm_L} {st' : List Value} {S1 : pm_S}, S.1 ≤ S1.1 → pm_n g1 pc' ls' st' S1 = some (g, z) → S.1 ≤ (match z with
    | .inl (_, _, _, S') => S'
    | .inr (.inl (_, _, _, _, _, _, _, S')) => S'
    | .inr (.inr (.inl (_, _, _, _, _, S'))) => S'
    | .inr (.inr (.inr (.inl (_, _, _, _, _, S')))) => S'
    | .inr (.inr (.inr (.inr (_, S')))) => S').1 := fun hle h => by unfold pm_n at h; cases h; exact hle
  have hB : ∀ {o : Nat} {x y : Int32} {t e : Nat} {ls' : pm_L} {st' : List Value}, pm_b o x y t e ls' st' S = some (g, z) → S.1 ≤ (match z with
    | .inl (_, _, _, S') => S'
    | .inr (.inl (_, _, _, _, _, _, _, S')) => S'
    | .inr (.inr (.inl (_, _, _, _, _, S'))) => S'
    | .inr (.inr (.inr (.inl (_, _, _, _, _, S')))) => S'
    | .inr (.inr (.inr (.inr (_, S')))) => S').1 := fun h => by unfold pm_b at h; cases h; exact Nat.le_refl _
  have hW : ∀ {x : Int32} {d : Nat} {ts : List Nat} {ls' : pm_L} {st' : List Value}, pm_w x d ts ls' st' S = some (g, z) → S.1 ≤ (match z with
    | .inl (_, _, _, S') => S'
    | .inr (.inl (_, _, _, _, _, _, _, S')) => S'
    | .inr (.inr (.inl (_, _, _, _, _, S'))) => S'
    | .inr (.inr (.inr (.inl (_, _, _, _, _, S')))) => S'
    | .inr (.inr (.inr (.inr (_, S')))) => S').1 := fun h => by unfold pm_w at h; cases h; exact Nat.le_refl _
  have hJ : ∀ {mj nx : Nat} {as : List Value} {ls' : pm_L} {st' : List Value}, pm_j mj as nx ls' st' S = some (g, z) → S.1 ≤ (match z with
    | .inl (_, _, _, S') => S'
    | .inr (.inl (_, _, _, _, _, _, _, S')) => S'
    | .inr (.inr (.inl (_, _, _, _, _, S'))) => S'
    | .inr (.inr (.inr (.inl (_, _, _, _, _, S')))) => S'
    | .inr (.inr (.inr (.inr (_, S')))) => S').1 := fun h => by unfold pm_j at h; cases h; exact Nat.le_refl _
  have hE : ∀ {b : Bool} {v : Option Value}, pm_e b v S = some (g, z) → S.1 ≤ (match z with
    | .inl (_, _, _, S') => S'
    | .inr (.inl (_, _, _, _, _, _, _, S')) => S'
    | .inr (.inr (.inl (_, _, _, _, _, S'))) => S'
    | .inr (.inr (.inr (.inl (_, _, _, _, _, S')))) => S'
    | .inr (.inr (.inr (.inr (_, S')))) => S').1 := fun h => by unfold pm_e at h; cases h; exact Nat.le_refl _
  cases ins
  case ifCond cnd o => cases cnd <;> (simp only [pm_x] at h; split at h <;> first | exact hB h | cases h)
  case if_icmp cnd o => cases cnd <;> (simp only [pm_x] at h; split at h <;> first | exact hB h | cases h)
  case invokespecial idx =>
    simp only [pm_x] at h
    split at h
    · split at h
      · replace h := pm_cond h
        exact hN (Nat.le_refl _) h.2
      · cases h
    · unfold pm_callI at h
      split at h
      · exact hJ (pm_cond h).2
      · cases h
  case invokevirtual idx =>
    simp only [pm_x] at h
    unfold pm_callV at h
    split at h
    · exact hJ (pm_cond h).2
    · cases h
  case invokestatic idx =>
    simp only [pm_x] at h
    unfold pm_call at h
    split at h
    · exact hJ (pm_cond h).2
    · cases h
  all_goals simp only [pm_x, Bool.cond_eq_ite] at h
  all_goals (repeat' split at h)
  all_goals first
    | exact hN (by first | exact Nat.le_refl _ | exact Nat.le_succ _) h
    | exact hE h
    | exact hW h
    | cases h
theorem pm_cnt {me : Nat → pm_Me} {Sg : Nat → pm_K} {Rt : pm_T} : ∀ (n : Nat) {mi pc : Nat} {pl : pm_L} {st : List Value} {S S' : pm_S} {v : Option Value}, pm_run me Sg Rt n mi pc pl st S = some (v, S') → S.1 ≤ S'.1 := by
  intro n
  induction n with
  | zero => intro mi pc pl st S S' v h; cases h
  | succ n ih =>
    intro mi pc pl st S S' v h
    have h : pm_body me Sg Rt (pm_run me Sg Rt n) mi pc pl st S = some (v, S') := h
    unfold pm_body at h
    split at h
    · rename_i q hq
      cases hz : pm_x Sg Rt (me mi).2.2.2.1 q pl st S with
      | none => rw [hz] at h; cases h
      | some gc =>
        obtain ⟨g, c⟩ := gc
        rw [hz] at h
        have hle := pm_x_cnt hz
        replace h := pm_cond (show (bif g then pm_dc me (pm_run me Sg Rt n) mi c else none) = some (v, S') from h)
        obtain ⟨-, h⟩ := h
        rcases c with ⟨pc', ls', st', S1⟩ | ⟨o, x, y, t, e, ls', st', S1⟩ | ⟨x, d, ts, ls', st', S1⟩ | ⟨mj, as, nx, ls', st', S1⟩ | ⟨v1, S1⟩
        · exact Nat.le_trans hle (ih h)
        · unfold pm_dc at h
          dsimp only at h
          split at h <;> split at h <;> exact Nat.le_trans hle (ih h)
        · obtain ⟨t, h1, -⟩ := pm_sw_which (k := fun t => pm_run me Sg Rt n mi t ls' st' S1) (x := x) (d := d) ts 0
          exact Nat.le_trans hle (ih (h1.symm.trans h))
        · obtain ⟨v1, S2, h1, h2⟩ := pm_k_some h
          obtain ⟨-, h3⟩ := pm_c_some h1
          exact Nat.le_trans hle (Nat.le_trans (ih h3) (ih h2))
        · cases h
          exact hle
    · cases h
theorem pm_at_mem : ∀ {l : List pm_Q} {pc : Nat} {q : pm_Q}, pm_at l pc = some q → q ∈ l ∧ q.1 = pc := by
  intro l
  induction l with
  | nil => intro pc q h; cases h
  | cons a t ih =>
    intro pc q h
    unfold pm_at at h
    cases hb : Nat.beq a.1 pc with
    | true =>
      rw [hb] at h
      cases h
      exact ⟨List.mem_cons_self, Nat.eq_of_beq_eq_true hb⟩
    | false =>
      rw [hb] at h
      obtain ⟨h1, h2⟩ := ih h
      exact ⟨List.mem_cons_of_mem _ h1, h2⟩
theorem pm_pop_eq : ∀ (n : Nat) {acc st as rest : List Value}, pm_pop n acc st = some (as, rest) → ∃ xs, as = xs.reverse ++ acc ∧ st = xs ++ rest ∧ xs.length = n := by
  intro n
  induction n with
  | zero => intro acc st as rest h; cases h; exact ⟨[], rfl, rfl, rfl⟩
  | succ n ih =>
    intro acc st as rest h
    cases st with
    | nil => cases h
    | cons v st =>
      obtain ⟨xs, h1, h2, h3⟩ := ih h
      exact ⟨v :: xs, by rw [h1]; simp, by rw [h2]; rfl, by simp [h3]⟩
theorem pm_en_len : ∀ (as : List Value) (n : Nat), pm_wd as ≤ n → (pm_en n as).length = n := by
  intro as
  induction as with
  | nil => intro n h; simp [pm_en]
  | cons v vs ih =>
    intro n h
    have hc : pm_wd (v :: vs) = v.category + pm_wd vs := rfl
    unfold pm_en
    rcases lv_cat v with e | e
    · rw [e]
      show (some v :: pm_en (n - 1) vs).length = n
      rw [List.length_cons, ih _ (by omega)]
      omega
    · rw [e]
      show (some v :: none :: pm_en (n - 2) vs).length = n
      rw [List.length_cons, List.length_cons, ih _ (by omega)]
      omega
theorem pm_en_at {ρ : Nat → Nat} {fv : Value} (hfv : fv = .null ∨ ∃ t, fv = .ref t) : ∀ (as : List Value) (n : Nat) (b : Nat) (i : Nat) (v : Value), (pm_en n as)[i]? = some (some v) → (b + i, pm_rl ρ fv v) ∈ lv_args b (as.map (pm_rl ρ fv)) := by
  intro as
  induction as with
  | nil =>
    intro n b i v h
    unfold pm_en at h
    have := List.eq_of_mem_replicate (List.mem_of_getElem? h)
    cases this
  | cons w ws ih =>
    intro n b i v h
    unfold pm_en at h
    show _ ∈ (b, pm_rl ρ fv w) :: lv_args (if (pm_rl ρ fv w).category = 2 then b + 2 else b + 1) (ws.map (pm_rl ρ fv))
    rw [pm_rl_cat hfv]
    rcases lv_cat w with e | e
    · rw [e] at h ⊢
      have h : (some w :: pm_en (n - 1) ws)[i]? = some (some v) := h
      rw [if_neg (by decide)]
      cases i with
      | zero => cases h; exact List.mem_cons_self
      | succ i =>
        have := ih _ (b + 1) i v h
        rw [show b + 1 + i = b + (i + 1) by omega] at this
        exact List.mem_cons_of_mem _ this
    · rw [e] at h ⊢
      have h : (some w :: none :: pm_en (n - 2) ws)[i]? = some (some v) := h
      rw [if_pos rfl]
      cases i with
      | zero => cases h; exact List.mem_cons_self
      | succ i =>
        cases i with
        | zero => cases h
        | succ i =>
          have := ih _ (b + 2) i v h
          rw [show b + 2 + i = b + (i + 1 + 1) by omega] at this
          exact List.mem_cons_of_mem _ this
theorem pm_sl_len {ρ : Nat → Nat} {fv : Value} (hfv : fv = .null ∨ ∃ t, fv = .ref t) (as : List Value) : (lg_sl (as.map (pm_rl ρ fv))).length = pm_wd as := by
  induction as with
  | nil => rfl
  | cons v vs ih =>
    have e1 : lg_sl ((v :: vs).map (pm_rl ρ fv)) = (if (pm_rl ρ fv v).category = 2 then [Slot.val (pm_rl ρ fv v), .second] else [.val (pm_rl ρ fv v)]) ++ lg_sl (vs.map (pm_rl ρ fv)) := by
      simp [lg_sl]
    rw [e1, List.length_append, ih, pm_rl_cat hfv]
    show _ = v.category + pm_wd vs
    rcases lv_cat v with e | e <;> rw [e] <;> rfl
/-- a method's locals at its entry -/
theorem pm_entry {ρ : Nat → Nat} {fv : Value} (hfv : fv = .null ∨ ∃ t, fv = .ref t) {as : List Value} {n : Nat} (h : pm_wd as ≤ n) : pm_LH ρ fv n ((lg_sl (as.map (pm_rl ρ fv)) ++ List.replicate (n - (lg_sl (as.map (pm_rl ρ fv))).length) Slot.unset).toArray) (pm_en n as) := by
  have hl := lv_entry (as.map (pm_rl ρ fv)) (n := n) (by rw [pm_sl_len hfv]; exact h)
  refine ⟨hl.1, pm_en_len as n h, hl.2.1, fun i v hv _ => ?_⟩
  have := hl.2.2 _ (pm_en_at hfv as n 0 i v hv)
  rw [Nat.zero_add] at this
  exact this
def pm_Qc (D : va_G) (cl : List vw_C) (cA : Nat → ClassId) (Sg : Nat → pm_K) (ρ : Nat → Nat) (fv : Value) (base : Nat) (v : Option Value) (S' : pm_S) : Array Value → State → Outcome → State → Prop := fun _ st oc t =>
  oc = .returned (v.map (pm_rl ρ fv)) ∧ va_P D cl (pm_ws ρ fv cA Sg S') t.heap ∧ va_F (fun q : Nat => base ≤ q) st t ∧ S'.1 ≤ 200
def pm_Pc (D : va_G) (cl : List vw_C) (cA : Nat → ClassId) (Sg : Nat → pm_K) (Rt : pm_T) (ρ : Nat → Nat) (fv : Value) (base : Nat) (tx : String) (as : List Value) (S : pm_S) : Array Value → State → Prop := va_Pc (as.map (pm_rl ρ fv)) (fun U => U.heap.size = base + S.1 ∧ va_P D cl (pm_ws ρ fv cA Sg S) U.heap ∧ va_K D cl (pm_tys cA) U ∧ pm_Zf Rt ρ fv (fun q => base ≤ q) U U.heap ∧ pm_Nf tx ρ U ∧ S.1 ≤ 200)
theorem pm_blind {D : va_G} {cl : List vw_C} {cA : Nat → ClassId} {Sg : Nat → pm_K} {Rt : pm_T} {ρ : Nat → Nat} {fv : Value} {base : Nat} {tx : String} {as : List Value} {S : pm_S} : FrameBlind (pm_Pc D cl cA Sg Rt ρ fv base tx as S) := by
  intro a U g mk h
  obtain ⟨h0, h1, h2, h3, h4, h5, h6⟩ := h
  exact ⟨h0, h1, h2, va_K.moved (u := U) (U := U.calling g mk a) (Vm.Alike.refl U.vm) h3, pm_Zf.moved (u := U) (U := U.calling g mk a) (Vm.Alike.refl U.vm) h4, pm_Nf.same (u := U) (U := U.calling g mk a) rfl h5, h6⟩
/-- a method's words: its own code, and all that stay -/
def pm_wo (M : pm_Me) : List Cond := .code M.1 M.2.1 M.2.2.1 M.2.2.2.1 :: pm_G
def pm_rm (Sg : Nat → pm_K) (M : pm_Me) (S S' : pm_S) : Room := { frames := M.2.2.2.2.1, cells := S'.1 - S.1, slots := pm_ss Sg S'.1 - pm_ss Sg S.1, locals := M.2.2.2.2.2.1 }
theorem pm_good {y : Cond} (h : y ∈ pm_G) : GoodIn pm_G (y :: pm_G) := by
  intro w hw
  have hw2 : w ∈ pm_G := by
    rcases List.mem_cons.mp hw with e | h2
    · exact e ▸ h
    · exact h2
  exact ⟨hw2, good_of_word (List.mem_filter.mp hw2).2⟩
section
variable {p : Program} {l : Launch} {e : Env} {R : Room} {s : State} {m : MethodId} {args : Array Value} {below : List Frame} {meth : Method} {c : Code} {Q : State → Prop}
variable {me : Nat → pm_Me} {Sg : Nat → pm_K} {Rt : pm_T} {cl : List vw_C} {D : va_G} {cA : Nat → ClassId} {ρ : Nat → Nat} {fv : Value} {base : Nat} {tx : String} {mi c0 : Nat}
/-- behind a call -/
theorem pm_after {H : Heap} {locs : List Loc} {cells slots mc ms pc : Nat} {ls : Array Slot} {st0 rest : List Value} {a : Array Value} {v : Option Value} {S' : pm_S}
    (hr : va_Run p l e R s m args below meth c H locs cells slots mc ms (F0 m pc ls st0) rest (pm_Qc D cl cA Sg ρ fv base v S' a) (fun q => base ≤ q)) (hS : va_S (fun q : Nat => base ≤ q) s.heap H locs)
    (kk : ∀ (H1 : Heap) (locs1 : List Loc), pm_I D cl ρ fv cA Sg base S' s H1 locs1 → W p l e R s m args below meth c H1 locs1 (cells + mc) (slots + ms) Q (F0 m (pc + 3) ls ((v.map (pm_rl ρ fv)).toList ++ rest))) : W p l e R s m args below meth c H locs cells slots Q (F0 m pc ls st0) := by
  intro T hT X
  obtain ⟨v1, st₀, t, T', L, h0, X', hL, e1, e2, ⟨hv, hP, ⟨hz, hk⟩, hn⟩, st⟩ := hr T hT X
  cases hv
  rw [h0] at hz hk
  obtain ⟨t2, a1, b1⟩ := kk T'.heap (locs ++ L) ⟨by rw [e1]; exact hP, ⟨Nat.le_trans hS.1 (by rw [e1]; exact hz), fun q h1 h2 => by rw [e1, hk q (Nat.lt_of_lt_of_le h1 hS.1) h2]; exact hS.2.1 q h1 h2, fun q hq => by
      rcases List.mem_append.mp hq with h | h
      · exact hS.2.2 q h
      · exact hL q h⟩, hn⟩ T' rfl X'
  exact ⟨t2, st t2 a1, b1⟩
end
end
section
def pm_pick (o : Nat) (x y : Int32) (t e : Nat) : Nat := match o with
  | 0 => if x = y then t else e
  | 1 => if x < y then t else e
  | _ => if x ≤ y then t else e
def pm_wh (x : Int32) (d : Nat) : List Nat → Nat → Nat
  | [], _ => d
  | t :: ts, j => if x = nI j then t else pm_wh x d ts (j + 1)
theorem pm_sw_wh {k : Nat → pm_R} {x : Int32} {d : Nat} : ∀ (ts : List Nat) (j : Nat), pm_sw k x d ts j = k (pm_wh x d ts j) := by
  intro ts
  induction ts with
  | nil => intro j; rfl
  | cons t ts ih =>
    intro j
    unfold pm_sw pm_wh
    by_cases c : x = nI j
    · rw [if_pos c, if_pos c]
    · rw [if_neg c, if_neg c, ih]
theorem pm_wh_in {d : Nat} : ∀ (ts : List Nat) (j i : Nat), i < ts.length → j + ts.length < 2 ^ 31 → pm_wh (nI (j + i)) d ts j = ts.getD i 0 := by
  intro ts
  induction ts with
  | nil => intro j i h; cases h
  | cons t ts ih =>
    intro j i h hb
    rw [List.length_cons] at h hb
    unfold pm_wh
    cases i with
    | zero => rw [Nat.add_zero, if_pos rfl]; rfl
    | succ i =>
      rw [if_neg (fun e => by have := (nI_eq (by omega) (by omega)).mp e; omega), show j + (i + 1) = j + 1 + i by omega, ih (j + 1) i (by omega) (by omega)]
      rfl
theorem pm_wh_out {x : Int32} {d : Nat} : ∀ (ts : List Nat) (j : Nat), (∀ i, i < ts.length → x ≠ nI (j + i)) → pm_wh x d ts j = d := by
  intro ts
  induction ts with
  | nil => intro j h; rfl
  | cons t ts ih =>
    intro j h
    unfold pm_wh
    have h0 := h 0 (by simp)
    rw [Nat.add_zero] at h0
    rw [if_neg h0, ih (j + 1) (fun i hi => by rw [show j + 1 + i = j + (i + 1) by omega]; exact h (i + 1) (by simpa using hi))]
theorem pm_swk_at {pc : Nat} : ∀ (os : List Int) (ts : List Nat), pm_swk pc os ts = true → os.length = ts.length ∧ ∀ i, i < os.length → ∃ o, os[i]? = some o ∧ (pc : Int) + o = (ts.getD i 0 : Int) := by
  intro os
  induction os with
  | nil =>
    intro ts h
    cases ts with
    | nil => exact ⟨rfl, fun i hi => by cases hi⟩
    | cons t ts => cases h
  | cons o os ih =>
    intro ts h
    cases ts with
    | nil => cases h
    | cons t ts =>
      unfold pm_swk at h
      rw [Bool.and_eq_true] at h
      obtain ⟨h1, h2⟩ := ih ts h.2
      refine ⟨by simp [h1], fun i hi => ?_⟩
      cases i with
      | zero => exact ⟨o, rfl, of_decide_eq_true h.1⟩
      | succ i =>
        obtain ⟨o', e1, e2⟩ := h2 i (by simpa using hi)
        exact ⟨o', by simpa using e1, by simpa using e2⟩
section
variable {p : Program} {l : Launch} {e : Env} {R : Room} {s : State} {m : MethodId} {args : Array Value} {below : List Frame} {meth : Method} {c : Code} {Q : State → Prop}
variable {me : Nat → pm_Me} {Sg : Nat → pm_K} {Rt : pm_T} {cl : List vw_C} {D : va_G} {cA : Nat → ClassId} {ρ : Nat → Nat} {fv : Value} {base : Nat} {tx : String} {mi c0 : Nat}
theorem pm_b_inj {o o' : Nat} {x y x' y' : Int32} {t e t' e' : Nat} {ls ls' : pm_L} {st st' : List Value} {S S' : pm_S} (h : pm_b o x y t e ls st S = some (true, .inr (.inl (o', x', y', t', e', ls', st', S')))) : o = o' ∧ x = x' ∧ y = y' ∧ t = t' ∧ e = e' ∧ ls = ls' ∧ st = st' ∧ S = S' := by
  unfold pm_b at h
  cases h
  exact ⟨rfl, rfl, rfl, rfl, rfl, rfl, rfl, rfl⟩
theorem pm_n_nb {g g' : Bool} {pc : Nat} {ls : pm_L} {st : List Value} {S : pm_S} {z} (h : pm_n g pc ls st S = some (g', .inr z)) : False := by unfold pm_n at h; cases h
theorem pm_w_nb {x : Int32} {d : Nat} {ts : List Nat} {ls : pm_L} {st : List Value} {S : pm_S} {g : Bool} {z} (h : pm_w x d ts ls st S = some (g, .inr (.inl z))) : False := by unfold pm_w at h; cases h
theorem pm_j_nb {mj : Nat} {as : List Value} {nx : Nat} {ls : pm_L} {st : List Value} {S : pm_S} {g : Bool} {z} (h : pm_j mj as nx ls st S = some (g, .inr (.inl z))) : False := by unfold pm_j at h; cases h
theorem pm_e_nb {b : Bool} {v : Option Value} {S : pm_S} {g : Bool} {z} (h : pm_e b v S = some (g, .inr (.inl z))) : False := by unfold pm_e at h; cases h
set_option maxHeartbeats 1000000 in
theorem pm_br (hx : p.tables.exec = Jvm.exec) (hb : c.code = (me mi).2.1) {q : pm_Q} (hq : pm_chk cl me mi q = true) {pl pl' : pm_L} {st st' : List Value} {S S' : pm_S} {o t e' : Nat} {x y : Int32}
    (h : pm_x Sg Rt (me mi).2.2.2.1 q pl st S = some (true, .inr (.inl (o, x, y, t, e', pl', st', S')))) {H : Heap} {locs : List Loc} {ls : Array Slot} {cells slots : Nat}
    (kk : W p l e R s m args below meth c H locs cells slots Q (F0 m (pm_pick o x y t e') ls (st'.map (pm_rl ρ fv)))) : pl' = pl ∧ S' = S ∧ W p l e R s m args below meth c H locs cells slots Q (F0 m q.1 ls (st.map (pm_rl ρ fv))) := by
  obtain ⟨pc, ins, nx, w, xs, ci, cj⟩ := q
  cases ins
  case ifCond cnd off =>
    simp only [pm_chk, Bool.and_eq_true] at hq
    obtain ⟨hd0, ht⟩ := hq
    obtain ⟨hd, rfl⟩ := pm_d_of hd0
    have ht := of_decide_eq_true ht
    cases cnd
    case eq =>
      simp only [pm_x] at h
      split at h
      · obtain ⟨rfl, rfl, rfl, rfl, rfl, rfl, rfl, rfl⟩ := pm_b_inj h
        exact ⟨rfl, rfl, lv_if_eq hx hb hd ht (fun hc => by simpa only [pm_pick, if_pos hc] using kk) (fun hc => by simpa only [pm_pick, if_neg hc] using kk)⟩
      · cases h
    case ne =>
      simp only [pm_x] at h
      split at h
      · obtain ⟨rfl, rfl, rfl, rfl, rfl, rfl, rfl, rfl⟩ := pm_b_inj h
        exact ⟨rfl, rfl, lv_if_ne hx hb hd ht (fun hc => by simpa only [pm_pick, if_neg hc] using kk) (fun hc => by simpa only [pm_pick, if_pos hc] using kk)⟩
      · cases h
    case lt =>
      simp only [pm_x] at h
      split at h
      · obtain ⟨rfl, rfl, rfl, rfl, rfl, rfl, rfl, rfl⟩ := pm_b_inj h
        exact ⟨rfl, rfl, lv_if_lt hx hb hd ht (fun hc => by simpa only [pm_pick, if_pos hc] using kk) (fun hc => by simpa only [pm_pick, if_neg hc] using kk)⟩
      · cases h
    case ge =>
      simp only [pm_x] at h
      split at h
      · obtain ⟨rfl, rfl, rfl, rfl, rfl, rfl, rfl, rfl⟩ := pm_b_inj h
        exact ⟨rfl, rfl, lv_if_ge hx hb hd ht (fun hc => by simpa only [pm_pick, if_neg (Int32.not_lt.mpr hc)] using kk) (fun hc => by simpa only [pm_pick, if_pos (Int32.not_le.mp hc)] using kk)⟩
      · cases h
    case gt =>
      simp only [pm_x] at h
      split at h
      · obtain ⟨rfl, rfl, rfl, rfl, rfl, rfl, rfl, rfl⟩ := pm_b_inj h
        exact ⟨rfl, rfl, lv_if_gt hx hb hd ht (fun hc => by simpa only [pm_pick, if_neg (Int32.not_le.mpr hc)] using kk) (fun hc => by simpa only [pm_pick, if_pos (Int32.not_lt.mp hc)] using kk)⟩
      · cases h
    case le =>
      simp only [pm_x] at h
      split at h
      · obtain ⟨rfl, rfl, rfl, rfl, rfl, rfl, rfl, rfl⟩ := pm_b_inj h
        exact ⟨rfl, rfl, lv_if_le hx hb hd ht (fun hc => by simpa only [pm_pick, if_pos hc] using kk) (fun hc => by simpa only [pm_pick, if_neg hc] using kk)⟩
      · cases h
  case if_icmp cnd off =>
    simp only [pm_chk, Bool.and_eq_true] at hq
    obtain ⟨hd0, ht⟩ := hq
    obtain ⟨hd, rfl⟩ := pm_d_of hd0
    have ht := of_decide_eq_true ht
    cases cnd
    case eq =>
      simp only [pm_x] at h
      split at h
      · obtain ⟨rfl, rfl, rfl, rfl, rfl, rfl, rfl, rfl⟩ := pm_b_inj h
        exact ⟨rfl, rfl, lv_icmp_eq hx hb hd ht (fun hc => by simpa only [pm_pick, if_pos hc] using kk) (fun hc => by simpa only [pm_pick, if_neg hc] using kk)⟩
      · cases h
    case ne =>
      simp only [pm_x] at h
      split at h
      · obtain ⟨rfl, rfl, rfl, rfl, rfl, rfl, rfl, rfl⟩ := pm_b_inj h
        exact ⟨rfl, rfl, lv_icmp_ne hx hb hd ht (fun hc => by simpa only [pm_pick, if_neg hc] using kk) (fun hc => by simpa only [pm_pick, if_pos hc] using kk)⟩
      · cases h
    case lt =>
      simp only [pm_x] at h
      split at h
      · obtain ⟨rfl, rfl, rfl, rfl, rfl, rfl, rfl, rfl⟩ := pm_b_inj h
        exact ⟨rfl, rfl, lv_icmp_lt hx hb hd ht (fun hc => by simpa only [pm_pick, if_pos hc] using kk) (fun hc => by simpa only [pm_pick, if_neg hc] using kk)⟩
      · cases h
    case ge =>
      simp only [pm_x] at h
      split at h
      · obtain ⟨rfl, rfl, rfl, rfl, rfl, rfl, rfl, rfl⟩ := pm_b_inj h
        exact ⟨rfl, rfl, lv_icmp_ge hx hb hd ht (fun hc => by simpa only [pm_pick, if_neg (Int32.not_lt.mpr hc)] using kk) (fun hc => by simpa only [pm_pick, if_pos (Int32.not_le.mp hc)] using kk)⟩
      · cases h
    case gt =>
      simp only [pm_x] at h
      split at h
      · obtain ⟨rfl, rfl, rfl, rfl, rfl, rfl, rfl, rfl⟩ := pm_b_inj h
        exact ⟨rfl, rfl, lv_icmp_gt hx hb hd ht (fun hc => by simpa only [pm_pick, if_neg (Int32.not_le.mpr hc)] using kk) (fun hc => by simpa only [pm_pick, if_pos (Int32.not_lt.mp hc)] using kk)⟩
      · cases h
    case le =>
      simp only [pm_x] at h
      split at h
      · obtain ⟨rfl, rfl, rfl, rfl, rfl, rfl, rfl, rfl⟩ := pm_b_inj h
        exact ⟨rfl, rfl, lv_icmp_le hx hb hd ht (fun hc => by simpa only [pm_pick, if_pos hc] using kk) (fun hc => by simpa only [pm_pick, if_neg hc] using kk)⟩
      · cases h
  case invokespecial idx =>
    simp only [pm_x] at h
    split at h
    · split at h
      · exact (pm_n_nb (pm_cond h).2).elim
      · cases h
    · unfold pm_callI at h
      split at h
      · exact (pm_j_nb (pm_cond h).2).elim
      · cases h
  case invokevirtual idx =>
    simp only [pm_x] at h
    unfold pm_callV at h
    split at h
    · exact (pm_j_nb (pm_cond h).2).elim
    · cases h
  case invokestatic idx =>
    simp only [pm_x] at h
    unfold pm_call at h
    split at h
    · exact (pm_j_nb (pm_cond h).2).elim
    · cases h
  all_goals simp only [pm_x, Bool.cond_eq_ite] at h
  all_goals (repeat' split at h)
  all_goals first
    | exact (pm_n_nb h).elim
    | exact (pm_w_nb h).elim
    | exact (pm_j_nb h).elim
    | exact (pm_e_nb h).elim
    | cases h
theorem pm_j_ns {mj : Nat} {as : List Value} {nx : Nat} {ls : pm_L} {st : List Value} {S : pm_S} {g : Bool} {z} (h : pm_j mj as nx ls st S = some (g, .inr (.inr (.inl z)))) : False := by unfold pm_j at h; cases h
theorem pm_e_ns {b : Bool} {v : Option Value} {S : pm_S} {g : Bool} {z} (h : pm_e b v S = some (g, .inr (.inr (.inl z)))) : False := by unfold pm_e at h; cases h
theorem pm_b_ns {o : Nat} {x y : Int32} {t e : Nat} {ls : pm_L} {st : List Value} {S : pm_S} {g : Bool} {z} (h : pm_b o x y t e ls st S = some (g, .inr (.inr z))) : False := by unfold pm_b at h; cases h
set_option maxHeartbeats 1000000 in
theorem pm_swc (hx : p.tables.exec = Jvm.exec) (hb : c.code = (me mi).2.1) {q : pm_Q} (hq : pm_chk cl me mi q = true) {pl pl' : pm_L} {st st' : List Value} {S S' : pm_S} {x : Int32} {d0 : Nat} {ts : List Nat}
    (h : pm_x Sg Rt (me mi).2.2.2.1 q pl st S = some (true, .inr (.inr (.inl (x, d0, ts, pl', st', S'))))) {H : Heap} {locs : List Loc} {ls : Array Slot} {cells slots : Nat}
    (kk : W p l e R s m args below meth c H locs cells slots Q (F0 m (pm_wh x d0 ts 0) ls (st'.map (pm_rl ρ fv)))) : pl' = pl ∧ S' = S ∧ W p l e R s m args below meth c H locs cells slots Q (F0 m q.1 ls (st.map (pm_rl ρ fv))) := by
  obtain ⟨pc, ins, nx, w, xs, ci, cj⟩ := q
  cases ins
  case ifCond cnd o => cases cnd <;> (simp only [pm_x] at h; split at h <;> first | exact (pm_b_ns h).elim | cases h)
  case if_icmp cnd o => cases cnd <;> (simp only [pm_x] at h; split at h <;> first | exact (pm_b_ns h).elim | cases h)
  case invokespecial idx =>
    simp only [pm_x] at h
    split at h
    · split at h
      · exact (pm_n_nb (pm_cond h).2).elim
      · cases h
    · unfold pm_callI at h
      split at h
      · exact (pm_j_ns (pm_cond h).2).elim
      · cases h
  case invokevirtual idx =>
    simp only [pm_x] at h
    unfold pm_callV at h
    split at h
    · exact (pm_j_ns (pm_cond h).2).elim
    · cases h
  case invokestatic idx =>
    simp only [pm_x] at h
    unfold pm_call at h
    split at h
    · exact (pm_j_ns (pm_cond h).2).elim
    · cases h
  case tableswitch d lo hi offs =>
    simp only [pm_chk, Bool.and_eq_true] at hq
    obtain ⟨hd0, q1, q2, q3, q4, q5⟩ := hq
    obtain ⟨hd, -⟩ := pm_d_of hd0
    have q1 := of_decide_eq_true q1
    have q2 := of_decide_eq_true q2
    have q3 := of_decide_eq_true q3
    have q4 := of_decide_eq_true q4
    obtain ⟨q6, q7⟩ := pm_swk_at _ _ q5
    subst q1
    have hsz : offs.toList.length = offs.size := Array.length_toList
    simp only [pm_x] at h
    split at h
    · rename_i x2 r
      unfold pm_w at h
      cases h
      refine ⟨rfl, rfl, ?_⟩
      by_cases hin : x.toInt < 0 ∨ hi < x.toInt
      · rw [pm_wh_out] at kk
        · exact lv_tableOut hx hb hd hin q4 kk
        · intro i hi2 e
          rw [Nat.zero_add] at e
          have hti : x.toInt = (i : Int) := by rw [e]; exact nI_toInt (by omega)
          omega
      · have h0 : ¬ x.toInt < 0 := fun z => hin (Or.inl z)
        have h1 : ¬ hi < x.toInt := fun z => hin (Or.inr z)
        obtain ⟨i, hi2⟩ : ∃ i : Nat, x.toInt = (i : Int) := ⟨x.toInt.toNat, by omega⟩
        have hil : i < offs.toList.length := by omega
        have hxi : x = nI (0 + i) := by
          rw [Nat.zero_add]
          apply Int32.toInt_inj.mp
          rw [hi2, nI_toInt (by omega)]
        obtain ⟨o, e1, e2⟩ := q7 i hil
        rw [hxi, pm_wh_in _ 0 i (by omega) (by omega)] at kk
        refine lv_tableIn (off := o) hx hb hd h0 h1 ?_ e2 kk
        rw [hi2, show ((i : Int) - 0).toNat = i by omega, ← Array.getElem?_toList]
        exact e1
    · cases h
  all_goals simp only [pm_x, Bool.cond_eq_ite] at h
  all_goals (repeat' split at h)
  all_goals first
    | exact (pm_n_nb h).elim
    | exact (pm_j_ns h).elim
    | exact (pm_e_ns h).elim
    | cases h
/-- a method's answer -/
def pm_rt (ret : Option FieldType) (v : Option Value) (i : Instr) : Prop := (i = .ireturn ∧ ∃ x ty, v = some (.int x) ∧ ret = some ty ∧ narrow ty (.int x) = .int x) ∨ (i = .lreturn ∧ ∃ x, v = some (.long x) ∧ ret = some .long) ∨ (i = .return_ ∧ v = none ∧ ret = none)
theorem pm_n_nr {g g' : Bool} {pc : Nat} {ls : pm_L} {st : List Value} {S : pm_S} {z} (h : pm_n g pc ls st S = some (g', .inr z)) : False := by unfold pm_n at h; cases h
theorem pm_w_nr {x : Int32} {d : Nat} {ts : List Nat} {ls : pm_L} {st : List Value} {S : pm_S} {g : Bool} {z} (h : pm_w x d ts ls st S = some (g, .inr (.inr (.inr z)))) : False := by unfold pm_w at h; cases h
theorem pm_j_nr {mj : Nat} {as : List Value} {nx : Nat} {ls : pm_L} {st : List Value} {S : pm_S} {g : Bool} {z} (h : pm_j mj as nx ls st S = some (g, .inr (.inr (.inr (.inr z))))) : False := by unfold pm_j at h; cases h
theorem pm_e_inj {b g : Bool} {v v' : Option Value} {S S' : pm_S} (h : pm_e b v S = some (g, .inr (.inr (.inr (.inr (v', S')))))) : b = g ∧ v = v' ∧ S = S' := by unfold pm_e at h; cases h; exact ⟨rfl, rfl, rfl⟩
set_option maxHeartbeats 1000000 in
theorem pm_ret {q : pm_Q} (hq : pm_chk cl me mi q = true) {pl : pm_L} {st : List Value} {S S' : pm_S} {v : Option Value}
    (h : pm_x Sg Rt (me mi).2.2.2.1 q pl st S = some (true, .inr (.inr (.inr (.inr (v, S')))))) : S' = S ∧ ∃ i, decode (me mi).2.1 q.1 = .ok (i, 1) ∧ pm_rt (me mi).2.2.2.1 v i ∧ st.map (pm_rl ρ fv) = (v.map (pm_rl ρ fv)).toList := by
  obtain ⟨pc, ins, nx, w, xs, ci, cj⟩ := q
  cases ins
  case ifCond cnd o => cases cnd <;> (simp only [pm_x] at h; split at h <;> first | exact (pm_b_ns h).elim | cases h)
  case if_icmp cnd o => cases cnd <;> (simp only [pm_x] at h; split at h <;> first | exact (pm_b_ns h).elim | cases h)
  case invokespecial idx =>
    simp only [pm_x] at h
    split at h
    · split at h
      · exact (pm_n_nb (pm_cond h).2).elim
      · cases h
    · unfold pm_callI at h
      split at h
      · exact (pm_j_nr (pm_cond h).2).elim
      · cases h
  case invokevirtual idx =>
    simp only [pm_x] at h
    unfold pm_callV at h
    split at h
    · exact (pm_j_nr (pm_cond h).2).elim
    · cases h
  case invokestatic idx =>
    simp only [pm_x] at h
    unfold pm_call at h
    split at h
    · exact (pm_j_nr (pm_cond h).2).elim
    · cases h
  case ireturn =>
    obtain ⟨hd, -⟩ := pm_d_of (show pm_d _ _ _ _ 1 = true from hq)
    simp only [pm_x] at h
    split at h
    · rename_i x
      split at h
      · rename_i hr
        obtain ⟨hg, rfl, rfl⟩ := pm_e_inj h
        exact ⟨rfl, _, hd, Or.inl ⟨rfl, x, _, rfl, hr, rfl⟩, rfl⟩
      · rename_i hr
        obtain ⟨hg, rfl, rfl⟩ := pm_e_inj h
        exact ⟨rfl, _, hd, Or.inl ⟨rfl, x, _, rfl, hr, pm_nz x (of_decide_eq_true hg)⟩, rfl⟩
      · rename_i hr
        obtain ⟨hg, rfl, rfl⟩ := pm_e_inj h
        exact ⟨rfl, _, hd, Or.inl ⟨rfl, x, _, rfl, hr, congrArg Value.int (of_decide_eq_true hg)⟩, rfl⟩
      · rename_i hr
        obtain ⟨hg, rfl, rfl⟩ := pm_e_inj h
        exact ⟨rfl, _, hd, Or.inl ⟨rfl, x, _, rfl, hr, by have := of_decide_eq_true hg; first | exact congrArg Value.int this | (simp [narrow, this])⟩, rfl⟩
      · cases h
    · cases h
  case lreturn =>
    obtain ⟨hd, -⟩ := pm_d_of (show pm_d _ _ _ _ 1 = true from hq)
    simp only [pm_x] at h
    split at h
    · rename_i x
      split at h
      · rename_i hr
        obtain ⟨hg, rfl, rfl⟩ := pm_e_inj h
        exact ⟨rfl, _, hd, Or.inr (Or.inl ⟨rfl, x, rfl, hr⟩), rfl⟩
      · cases h
    · cases h
  case return_ =>
    obtain ⟨hd, -⟩ := pm_d_of (show pm_d _ _ _ _ 1 = true from hq)
    simp only [pm_x] at h
    split at h
    · split at h
      · rename_i hr
        obtain ⟨hg, rfl, rfl⟩ := pm_e_inj h
        exact ⟨rfl, _, hd, Or.inr (Or.inr ⟨rfl, rfl, hr⟩), rfl⟩
      · cases h
    · cases h
  all_goals simp only [pm_x, Bool.cond_eq_ite] at h
  all_goals (repeat' split at h)
  all_goals first
    | exact (pm_n_nr h).elim
    | exact (pm_w_nr h).elim
    | exact (pm_j_nr h).elim
    | cases h
end
end
section
section
variable {p : Program} {l : Launch} {e : Env} {R : Room} {s : State} {m : MethodId} {args : Array Value} {below : List Frame} {meth : Method} {c : Code} {Q : State → Prop}
variable {me : Nat → pm_Me} {Sg : Nat → pm_K} {Rt : pm_T} {cl : List vw_C} {D : va_G} {cA : Nat → ClassId} {ρ : Nat → Nat} {fv : Value} {base : Nat} {tx : String} {mi c0 : Nat}
theorem pm_n_nc {g g' : Bool} {pc : Nat} {ls : pm_L} {st : List Value} {S : pm_S} {z} (h : pm_n g pc ls st S = some (g', .inr z)) : False := by unfold pm_n at h; cases h
theorem pm_w_nc {x : Int32} {d : Nat} {ts : List Nat} {ls : pm_L} {st : List Value} {S : pm_S} {g : Bool} {z} (h : pm_w x d ts ls st S = some (g, .inr (.inr (.inr z)))) : False := by unfold pm_w at h; cases h
theorem pm_e_nc {b : Bool} {v : Option Value} {S : pm_S} {g : Bool} {z} (h : pm_e b v S = some (g, .inr (.inr (.inr (.inl z))))) : False := by unfold pm_e at h; cases h
theorem pm_j_inj {mj mj' : Nat} {as as' : List Value} {nx nx' : Nat} {ls ls' : pm_L} {st st' : List Value} {S S' : pm_S} (h : pm_j mj as nx ls st S = some (true, .inr (.inr (.inr (.inl (mj', as', nx', ls', st', S')))))) : mj = mj' ∧ as = as' ∧ nx = nx' ∧ ls = ls' ∧ st = st' ∧ S = S' := by
  unfold pm_j at h
  cases h
  exact ⟨rfl, rfl, rfl, rfl, rfl, rfl⟩
theorem pm_goodL {ws : List Cond} (h : ∀ w ∈ ws, w ∈ pm_G) : GoodIn pm_G ws := fun w hw => ⟨h w hw, good_of_word (List.mem_filter.mp (h w hw)).2⟩
theorem pm_cc_of {mj n wi wc : Nat} (h : pm_cc me mi mj n wi wc = true) : Cond.initialized (me mj).1.cls ∈ pm_G ∧ Cond.code (me mj).1 (me mj).2.1 (me mj).2.2.1 (me mj).2.2.2.1 ∈ pm_G ∧ (me mj).1.cls ≠ "java/lang/invoke/MethodHandle" ∧ (me mj).1.cls ≠ "java/lang/invoke/VarHandle" ∧ (parseMethodDescriptor (me mj).1.desc).map (fun d => d.parameters.length) = some n ∧ (me mj).2.2.2.2.1 + 1 ≤ (me mi).2.2.2.2.1 ∧ 8 + ((me mj).2.2.1 + 11) + (me mj).2.2.2.2.2.1 ≤ (me mi).2.2.2.2.2.1 ∧ plainFor (me mj).1 = true := by
  simp only [pm_cc, Bool.and_eq_true] at h
  obtain ⟨h1, h2, h3, h4, h5, h6, h7, h8⟩ := h
  exact ⟨pm_wk_of h1, pm_wk_of h2, of_decide_eq_true h3, of_decide_eq_true h4, of_decide_eq_true h5, Nat.le_of_ble_eq_true h6, Nat.le_of_ble_eq_true h7, h8⟩
theorem pm_lst {st as rest : List Value} {n : Nat} (h : pm_pop n [] st = some (as, rest)) : st.map (pm_rl ρ fv) = (as.map (pm_rl ρ fv)).reverse ++ rest.map (pm_rl ρ fv) ∧ as.length = n := by
  obtain ⟨xs, h1, h2, h3⟩ := pm_pop_eq n h
  rw [h1, h2]
  simp [h3]
theorem pm_catL (hfv : fv = .null ∨ ∃ t, fv = .ref t) (rest : List Value) : ((rest.map (pm_rl ρ fv)).map fun v => v.category).sum = pm_wd rest := by
  rw [List.map_map, ← pm_wd_sum]
  exact congrArg List.sum (List.map_congr_left fun v _ => pm_rl_cat hfv v)
theorem pm_call_same {ret : Option FieldType} {q : pm_Q} {pl pl' : pm_L} {st st' as : List Value} {S S1 : pm_S} {mj nx : Nat} {g : Bool}
    (h : pm_x Sg Rt ret q pl st S = some (g, .inr (.inr (.inr (.inl (mj, as, nx, pl', st', S1)))))) : pl' = pl ∧ S1 = S := by
  obtain ⟨pc, ins, nx0, w, xs, ci, cj⟩ := q
  have hJ : ∀ {mj' nx' : Nat} {as' : List Value} {st2 : List Value}, pm_j mj' as' nx' pl st2 S = some (g, .inr (.inr (.inr (.inl (mj, as, nx, pl', st', S1))))) → pl' = pl ∧ S1 = S := fun h => by unfold pm_j at h; cases h; exact ⟨rfl, rfl⟩
  cases ins
  case ifCond cnd o => cases cnd <;> (simp only [pm_x] at h; split at h <;> first | exact (pm_b_ns h).elim | cases h)
  case if_icmp cnd o => cases cnd <;> (simp only [pm_x] at h; split at h <;> first | exact (pm_b_ns h).elim | cases h)
  case invokespecial idx =>
    simp only [pm_x] at h
    split at h
    · split at h
      · exact (pm_n_nc (pm_cond h).2).elim
      · cases h
    · unfold pm_callI at h
      split at h
      · exact hJ (pm_cond h).2
      · cases h
  case invokevirtual idx =>
    simp only [pm_x] at h
    unfold pm_callV at h
    split at h
    · exact hJ (pm_cond h).2
    · cases h
  case invokestatic idx =>
    simp only [pm_x] at h
    unfold pm_call at h
    split at h
    · exact hJ (pm_cond h).2
    · cases h
  all_goals simp only [pm_x, Bool.cond_eq_ite] at h
  all_goals (repeat' split at h)
  all_goals first
    | exact (pm_n_nc h).elim
    | exact (pm_w_nc h).elim
    | exact (pm_e_nc h).elim
    | cases h
set_option maxHeartbeats 2000000 in
theorem pm_cll (h1 : pm_E1 me Sg cl) (h2 : pm_E2 me mi p s m args meth c R D cl cA Rt ρ fv base tx c0) (h3 : pm_E3 Rt ρ fv base) {q : pm_Q} (hq : pm_chk cl me mi q = true) {pl pl' : pm_L} {st st' as : List Value} {S S1 S2 : pm_S} {mj nx : Nat} {v1 : Option Value}
    (h : pm_x Sg Rt (me mi).2.2.2.1 q pl st S = some (true, .inr (.inr (.inr (.inl (mj, as, nx, pl', st', S1)))))) {H : Heap} {locs : List Loc} {ls : Array Slot} (hc0 : c0 ≤ S.1) (hI : pm_I D cl ρ fv cA Sg base S s H locs) (hL : pm_LH ρ fv (me mi).2.2.1 ls pl)
    (hM : plainFor (me mj).1 = true → S.1 ≤ 200 → Met l (me mj).1 (pm_wo (me mj)) (pm_rm Sg (me mj) S S2) (pm_Pc D cl cA Sg Rt ρ fv base tx as S) (pm_Qc D cl cA Sg ρ fv base v1 S2) (S2.1 - S.1) (pm_ss Sg S2.1 - pm_ss Sg S.1) (fun q => base ≤ q)) (hle : S.1 ≤ S2.1) (hR1 : S2.1 - c0 ≤ R.cells) (hR2 : pm_ss Sg S2.1 - pm_ss Sg c0 ≤ R.slots)
    (kk : ∀ (H1 : Heap) (locs1 : List Loc), pm_I D cl ρ fv cA Sg base S2 s H1 locs1 → W p l e R s m args below meth c H1 locs1 (S2.1 - c0) (pm_ss Sg S2.1 - pm_ss Sg c0) Q (F0 m nx ls ((v1.toList ++ st').map (pm_rl ρ fv)))) :
    pl' = pl ∧ S1 = S ∧ W p l e R s m args below meth c H locs (S.1 - c0) (pm_ss Sg S.1 - pm_ss Sg c0) Q (F0 m q.1 ls (st.map (pm_rl ρ fv))) := by
  obtain ⟨hx, hb, hml, hown, hmn, hts, hfr, hlo, hK, hZ, hN, hsz⟩ := h2
  obtain ⟨hρ, hfv, hRt⟩ := h3
  obtain ⟨hP, hS, hn2⟩ := id hI
  have hm1 := pm_ss_mono Sg hc0
  have hm2 := pm_ss_mono Sg hle
  have ec : S.1 - c0 + (S2.1 - S.1) = S2.1 - c0 := by omega
  have es : pm_ss Sg S.1 - pm_ss Sg c0 + (pm_ss Sg S2.1 - pm_ss Sg S.1) = pm_ss Sg S2.1 - pm_ss Sg c0 := by omega
  have hf : S.1 - c0 + (S2.1 - S.1) ≤ R.cells ∧ pm_ss Sg S.1 - pm_ss Sg c0 + (pm_ss Sg S2.1 - pm_ss Sg S.1) ≤ R.slots := by rw [ec, es]; exact ⟨hR1, hR2⟩
  have hpc : H.size = base + S.1 → ∀ U : State, U.heap = H → s.WarmedH U.vm → pm_Pc D cl cA Sg Rt ρ fv base tx as S (as.map (pm_rl ρ fv)).toArray U := by
    intro hz U hU hW
    refine ⟨rfl, by rw [hU]; exact hz, by rw [hU]; exact hP, va_K.moved hW.alike hK, ?_, hN.warm hW, hn2⟩
    rw [hU]
    exact (hZ.kept hS.2.1).moved hW.alike
  have hst : ∀ (H1 : Heap) (locs1 : List Loc), pm_I D cl ρ fv cA Sg base S2 s H1 locs1 → W p l e R s m args below meth c H1 locs1 (S.1 - c0 + (S2.1 - S.1)) (pm_ss Sg S.1 - pm_ss Sg c0 + (pm_ss Sg S2.1 - pm_ss Sg S.1)) Q (F0 m nx ls ((v1.map (pm_rl ρ fv)).toList ++ st'.map (pm_rl ρ fv))) := by
    intro H1 locs1 hI1
    have := kk H1 locs1 hI1
    rw [List.map_append] at this
    rw [ec, es]
    cases v1 <;> exact this
  have hrl : ∀ r, r ≠ 204 → pm_rl ρ fv (.ref r) = .ref (ρ r) := fun r hr => by
    show (if r = 204 then fv else Value.ref (ρ r)) = _
    rw [if_neg hr]
  obtain ⟨pc, ins, nx0, w, xs, ci, cj⟩ := q
  cases ins
  case ifCond cnd o => cases cnd <;> (simp only [pm_x] at h; split at h <;> first | exact (pm_b_ns h).elim | cases h)
  case if_icmp cnd o => cases cnd <;> (simp only [pm_x] at h; split at h <;> first | exact (pm_b_ns h).elim | cases h)
  case invokestatic idx =>
    simp only [pm_chk, Bool.and_eq_true] at hq
    obtain ⟨hd0, q1, q2, q3⟩ := hq
    obtain ⟨hd, rfl⟩ := pm_d_of hd0
    simp only [pm_x] at h
    unfold pm_call at h
    split at h
    · rename_i as0 rest0 hpop
      replace h := pm_cond h
      obtain ⟨h8, h⟩ := h
      obtain ⟨rfl, rfl, rfl, rfl, rfl, rfl⟩ := pm_j_inj h
      refine ⟨rfl, rfl, ?_⟩
      obtain ⟨e1, e2⟩ := pm_lst (ρ := ρ) (fv := fv) hpop
      obtain ⟨c1, c2, c3, c4, c5, c6, c7, c8⟩ := pm_cc_of q3
      refine pm_siz hρ hsz hc0 hI fun hz => ?_
      have hM := hM c8 hn2
      have h8 := Nat.le_of_ble_eq_true h8
      have hmr : 2 * (F0 m pc ls (st.map (pm_rl ρ fv))).monitorRoom + ((rest0.map (pm_rl ρ fv)).map fun v => v.category).sum ≤ 8 := lv_room (by rw [pm_catL hfv]; exact h8)
      unfold pm_lnk at q1
      split at q1
      · refine pm_after (va_runS (As := as0.map (pm_rl ρ fv)) (rest := rest0.map (pm_rl ρ fv)) ⟨hx, hb, hml, hown, hts⟩ hM (va_cwS (xs.getD 1 0) hts (pm_goodL ?_) rfl rfl rfl ⟨c3, c4, c5⟩ ⟨Nat.le_trans c6 hfr, Nat.le_trans c7 hlo⟩) ⟨pm_blind, hpc hz⟩ rfl (by rw [List.length_map]; exact e2) hL.1 e1 hmr hd hf) hS hst
        intro w hw
        rcases List.mem_append.mp hw with h | h
        · rcases List.mem_cons.mp h with rfl | h
          · exact pm_wk_of q1
          · rcases List.mem_cons.mp h with rfl | h
            · exact pm_wk_of q2
            · rw [List.mem_singleton.mp h]; exact c1
        · rcases List.mem_cons.mp h with rfl | h
          · exact c2
          · exact h
      · exact pm_after (va_runSN (As := as0.map (pm_rl ρ fv)) (rest := rest0.map (pm_rl ρ fv)) ⟨hx, hb, hml, hown, hts⟩ hM ⟨va_cnB (xs.getD 1 0) hts (pm_good c2) rfl rfl rfl (hN.1 _ (pm_wn_of q1) rfl) (hts _ c1) ⟨c3, c4, c5⟩ ⟨Nat.le_trans c6 hfr, Nat.le_trans c7 hlo⟩, hts _ (pm_wk_of q2), trivial⟩ ⟨pm_blind, hpc hz⟩ rfl (by rw [List.length_map]; exact e2) hL.1 e1 hmr hd hf) hS hst
    · cases h
  case invokevirtual idx =>
    simp only [pm_chk, Bool.and_eq_true] at hq
    obtain ⟨hd0, q1, q2, q3, q4, q5⟩ := hq
    obtain ⟨hd, rfl⟩ := pm_d_of hd0
    simp only [pm_x] at h
    unfold pm_callV at h
    split at h
    · rename_i r as0 rest0 hpop
      replace h := pm_cond h
      obtain ⟨hg, h⟩ := h
      rw [Bool.and_eq_true] at hg
      obtain ⟨hrc, h8⟩ := hg
      obtain ⟨rfl, rfl, rfl, rfl, rfl, rfl⟩ := pm_j_inj h
      refine ⟨rfl, rfl, ?_⟩
      obtain ⟨e1, e2⟩ := pm_lst (ρ := ρ) (fv := fv) hpop
      obtain ⟨c1, c2, c3, c4, c5, c6, c7, c8⟩ := pm_cc_of q4
      refine pm_siz hρ hsz hc0 hI fun hz => ?_
      have hM := hM c8 hn2
      have h8 := Nat.le_of_ble_eq_true h8
      have hmr : 2 * (F0 m pc ls (st.map (pm_rl ρ fv))).monitorRoom + ((rest0.map (pm_rl ρ fv)).map fun v => v.category).sum ≤ 8 := lv_room (by rw [pm_catL hfv]; exact h8)
      have hrec : pm_rl ρ fv (.ref r) = .ref (ρ r) ∧ ∃ cellB : Cell, H[ρ r]? = some cellB ∧ cellB.vm.isStatics = false ∧ s.vm.findClass (me (xs.getD 0 0)).1.cls = some cellB.cls := by
        unfold pm_rc at hrc
        cases h99 : Nat.beq (xs.getD 3 0) 99 with
        | true =>
          rw [h99] at hrc q5
          have hr : r = 201 := Nat.eq_of_beq_eq_true hrc
          have hy : (me (xs.getD 0 0)).1.cls = "java/lang/String" := of_decide_eq_true q5
          subst hr
          refine ⟨hrl 201 (by decide), ?_⟩
          obtain ⟨cell, g1, g2, g3, -⟩ := hZ.2.2.2.2.2.1.kept hS.2.1
          exact ⟨cell, g1, g2, by rw [hy]; exact g3⟩
        | false =>
          rw [h99] at hrc q5
          simp only [cond_false, Bool.and_eq_true] at hrc
          have hr : r < S.1 := by simpa [Nat.blt_eq] using hrc.1
          refine ⟨hrl r (Nat.ne_of_lt (Nat.lt_of_lt_of_le hr (Nat.le_trans hn2 (by decide)))), ?_⟩
          have hrc2 := hrc.2
          split at hrc2
          · rename_i c' ks hs
            have hce := Nat.eq_of_beq_eq_true hrc2
            simp only [cond_false] at q5
            split at q5
            · rename_i C T N hcl
              have hy : (me (xs.getD 0 0)).1.cls = C := of_decide_eq_true q5
              have hat : (pm_ws ρ fv cA Sg S)[r]? = some (ρ r, .inr (c', ks.mapIdx (fun k kd => pm_val ρ fv S r k kd))) := by
                rw [pm_ws_at hr, hs]
                rfl
              rw [hce] at hat
              obtain ⟨cell, g1, g2, g3⟩ := va_recv hK hP hcl hat
              exact ⟨cell, g1, g2, by rw [hy]; exact g3⟩
            · cases q5
          · cases hrc2
      obtain ⟨hr1, hr2⟩ := hrec
      have hpc2 := hpc hz
      rw [List.map_cons, hr1] at hpc2 e1
      rw [List.reverse_cons, List.append_assoc] at e1
      have e3 : (as0.map (pm_rl ρ fv)).length = xs.getD 1 0 - 1 := by
        rw [List.length_map]
        exact Nat.eq_sub_of_add_eq e2
      unfold pm_lnk at q1
      split at q1
      · refine pm_after (a := (Value.ref (ρ r) :: as0.map (pm_rl ρ fv)).toArray) (va_runV (As := as0.map (pm_rl ρ fv)) (rest := rest0.map (pm_rl ρ fv)) ⟨hx, hb, hml, hown, hts⟩ hM (cwV (xs.getD 1 0 - 1) hts (pm_goodL ?_) rfl rfl rfl ⟨rfl, c3, c4, c5⟩ ⟨Nat.le_trans c6 hfr, Nat.le_trans c7 hlo⟩) ⟨pm_blind, hr2, hpc2⟩ rfl e3 hL.1 e1 hmr hd hf) hS hst
        intro w hw
        rcases List.mem_append.mp hw with h | h
        · rcases List.mem_cons.mp h with rfl | h
          · exact pm_wk_of q1
          · rcases List.mem_cons.mp h with rfl | h
            · exact pm_wk_of q2
            · rcases List.mem_cons.mp h with rfl | h
              · exact pm_wk_of q3
              · rw [List.mem_singleton.mp h]; exact c1
        · rcases List.mem_cons.mp h with rfl | h
          · exact c2
          · exact h
      · exact pm_after (a := (Value.ref (ρ r) :: as0.map (pm_rl ρ fv)).toArray) (va_runVN (As := as0.map (pm_rl ρ fv)) (rest := rest0.map (pm_rl ρ fv)) ⟨hx, hb, hml, hown, hts⟩ hM ⟨va_cnB (xs.getD 1 0 - 1) hts (pm_good c2) rfl rfl rfl (hN.1 _ (pm_wn_of q1) rfl) (hts _ c1) ⟨c3, c4, c5⟩ ⟨Nat.le_trans c6 hfr, Nat.le_trans c7 hlo⟩, hts _ (pm_wk_of q2), hts _ (pm_wk_of q3)⟩ ⟨pm_blind, hr2, hpc2⟩ rfl e3 hL.1 e1 hmr hd hf) hS hst
    · cases h
  case invokespecial idx =>
    simp only [pm_x] at h
    split at h
    · split at h
      · exact (pm_n_nc (pm_cond h).2).elim
      · cases h
    · rename_i hxs
      simp only [pm_chk, Bool.and_eq_true] at hq
      obtain ⟨hd0, hq⟩ := hq
      obtain ⟨hd, rfl⟩ := pm_d_of hd0
      have hq2 : (pm_lnk (me mi).1.cls idx w (xs.getD 2 0) (me (xs.getD 0 0)).1 && (pm_wk (xs.getD 3 0) (.instanceMethod (me (xs.getD 0 0)).1) && (decide ((me (xs.getD 0 0)).1.name = "<init>") && (decide ((me (xs.getD 0 0)).2.2.2.1 = none) && pm_cc me mi (xs.getD 0 0) (xs.getD 1 0 - 1) (xs.getD 4 0) (xs.getD 5 0))))) = true := by
        cases xs with
        | nil => exact (hxs rfl).elim
        | cons x0 x1 => simp only [Bool.and_eq_true]; exact hq
      simp only [Bool.and_eq_true] at hq2
      obtain ⟨q1, q2, q3, q4, q5⟩ := hq2
      have q3 := of_decide_eq_true q3
      have q4 := of_decide_eq_true q4
      unfold pm_callI at h
      split at h
      · rename_i r as0 rest0 hpop
        replace h := pm_cond h
        obtain ⟨hg, h⟩ := h
        rw [Bool.and_eq_true] at hg
        obtain ⟨hrc, h8⟩ := hg
        have hr : r < S.1 := by simpa [Nat.blt_eq] using hrc
        obtain ⟨rfl, rfl, rfl, rfl, rfl, rfl⟩ := pm_j_inj h
        refine ⟨rfl, rfl, ?_⟩
        obtain ⟨e1, e2⟩ := pm_lst (ρ := ρ) (fv := fv) hpop
        obtain ⟨c1, c2, c3, c4, c5, c6, c7, c8⟩ := pm_cc_of q5
        refine pm_siz hρ hsz hc0 hI fun hz => ?_
        have hM := hM c8 hn2
        have h8 := Nat.le_of_ble_eq_true h8
        have hmr : 2 * (F0 m pc ls (st.map (pm_rl ρ fv))).monitorRoom + ((rest0.map (pm_rl ρ fv)).map fun v => v.category).sum ≤ 8 := lv_room (by rw [pm_catL hfv]; exact h8)
        have hr1 := hrl r (Nat.ne_of_lt (Nat.lt_of_lt_of_le hr (Nat.le_trans hn2 (by decide))))
        have hpc2 := hpc hz
        rw [List.map_cons, hr1] at hpc2 e1
        rw [List.reverse_cons, List.append_assoc] at e1
        have e3 : (as0.map (pm_rl ρ fv)).length = xs.getD 1 0 - 1 := by
          rw [List.length_map]
          exact Nat.eq_sub_of_add_eq e2
        have hwo : pm_wo (me (xs.getD 0 0)) = Cond.code (me (xs.getD 0 0)).1 (me (xs.getD 0 0)).2.1 (me (xs.getD 0 0)).2.2.1 none :: pm_G := by
          unfold pm_wo
          rw [q4]
        unfold pm_lnk at q1
        split at q1
        · exact pm_after (a := (Value.ref (ρ r) :: as0.map (pm_rl ρ fv)).toArray) (va_runI (As := as0.map (pm_rl ρ fv)) (rest := rest0.map (pm_rl ρ fv)) ⟨hx, hb, hml, hown, hts⟩ hM (cwI (xs.getD 1 0 - 1) hts (pm_good c2) hwo rfl rfl (hts _ c1) (hts _ (pm_wk_of q1)) (hts _ (pm_wk_of q2)) q3 ⟨c3, c4, c5⟩ ⟨Nat.le_trans c6 hfr, Nat.le_trans c7 hlo⟩) ⟨pm_blind, hpc2⟩ rfl e3 hL.1 e1 hmr hd hf) hS hst
        · exact pm_after (a := (Value.ref (ρ r) :: as0.map (pm_rl ρ fv)).toArray) (va_runIN (As := as0.map (pm_rl ρ fv)) (rest := rest0.map (pm_rl ρ fv)) ⟨hx, hb, hml, hown, hts⟩ hM ⟨va_cnB (xs.getD 1 0 - 1) hts (pm_good c2) hwo rfl rfl (hN.1 _ (pm_wn_of q1) rfl) (hts _ c1) ⟨c3, c4, c5⟩ ⟨Nat.le_trans c6 hfr, Nat.le_trans c7 hlo⟩, q3, hts _ (pm_wk_of q2)⟩ ⟨pm_blind, hpc2⟩ rfl e3 hL.1 e1 hmr hd hf) hS hst
      · cases h
  all_goals simp only [pm_x, Bool.cond_eq_ite] at h
  all_goals (repeat' split at h)
  all_goals first
    | exact (pm_n_nc h).elim
    | exact (pm_w_nc h).elim
    | exact (pm_e_nc h).elim
    | cases h
end
set_option maxHeartbeats 1000000 in
/-- what the pure machine answers, the machine answers -/
theorem pm_W {me : Nat → pm_Me} {Sg : Nat → pm_K} {Rt : pm_T} {cl : List vw_C} {D : va_G} {cA : Nat → ClassId} {ρ : Nat → Nat} {fv : Value} {base : Nat} {tx : String} (h1 : pm_E1 me Sg cl) (h3 : pm_E3 Rt ρ fv base) : ∀ (n : Nat) {mi pc : Nat} {pl : pm_L} {st : List Value} {S S' : pm_S} {v : Option Value}, pm_run me Sg Rt n mi pc pl st S = some (v, S') →
    ∀ {p : Program} {l : Launch} {e : Env} {R : Room} {s : State} {m : MethodId} {args : Array Value} {below : List Frame} {meth : Method} {c : Code} {Q : State → Prop} {c0 : Nat}, pm_E2 me mi p s m args meth c R D cl cA Rt ρ fv base tx c0 → c0 ≤ S.1 → S'.1 - c0 ≤ R.cells → pm_ss Sg S'.1 - pm_ss Sg c0 ≤ R.slots →
    (∀ (H : Heap) (locs : List Loc) (ls : Array Slot) (pc : Nat) (i : Instr), decode (me mi).2.1 pc = .ok (i, 1) → pm_rt (me mi).2.2.2.1 v i → pm_I D cl ρ fv cA Sg base S' s H locs → W p l e R s m args below meth c H locs (S'.1 - c0) (pm_ss Sg S'.1 - pm_ss Sg c0) Q (F0 m pc ls (v.map (pm_rl ρ fv)).toList)) →
    ∀ {H : Heap} {locs : List Loc} {ls : Array Slot}, pm_I D cl ρ fv cA Sg base S s H locs → pm_LH ρ fv (me mi).2.2.1 ls pl → W p l e R s m args below meth c H locs (S.1 - c0) (pm_ss Sg S.1 - pm_ss Sg c0) Q (F0 m pc ls (st.map (pm_rl ρ fv))) := by
  intro n
  induction n with
  | zero => intro mi pc pl st S S' v h; cases h
  | succ n ih =>
    intro mi pc pl st S S' v h p l e R s m args below meth c Q c0 h2 hc0 hR1 hR2 hend H locs ls hI hL
    replace h : pm_body me Sg Rt (pm_run me Sg Rt n) mi pc pl st S = some (v, S') := h
    unfold pm_body at h
    split at h
    · rename_i q hqa
      obtain ⟨hqm, hqp⟩ := pm_at_mem hqa
      have hq := h1.1 mi q hqm
      subst hqp
      cases hz : pm_x Sg Rt (me mi).2.2.2.1 q pl st S with
      | none => rw [hz] at h; cases h
      | some gc =>
        obtain ⟨g, k⟩ := gc
        rw [hz] at h
        have hle := pm_x_cnt hz
        replace h := pm_cond (show (bif g then pm_dc me (pm_run me Sg Rt n) mi k else none) = some (v, S') from h)
        obtain ⟨rfl, h⟩ := h
        rcases k with ⟨pc', ls', st', S1⟩ | ⟨o, x, y, t, e', ls', st', S1⟩ | ⟨x, d, ts, ls', st', S1⟩ | ⟨mj, as, nx, ls', st', S1⟩ | ⟨v1, S1⟩
        · have hle2 := pm_cnt n h
          have hm2 := pm_ss_mono Sg hle2
          exact pm_next h1 h2 h3 hq hz hc0 hI hL (by have : S1.1 ≤ S'.1 := hle2; omega) (by omega) (fun H' locs' ls2 hI' hL' => ih h h2 (Nat.le_trans hc0 hle) hR1 hR2 hend hI' hL')
        · have hb2 : pm_run me Sg Rt n mi (pm_pick o x y t e') ls' st' S1 = some (v, S') := by
            rcases o with _ | _ | o
            · show pm_run me Sg Rt n mi (if x = y then t else e') ls' st' S1 = _
              have h : (if x = y then pm_run me Sg Rt n mi t ls' st' S1 else pm_run me Sg Rt n mi e' ls' st' S1) = some (v, S') := h
              by_cases c1 : x = y
              · rw [if_pos c1] at h ⊢; exact h
              · rw [if_neg c1] at h ⊢; exact h
            · show pm_run me Sg Rt n mi (if x < y then t else e') ls' st' S1 = _
              have h : (if x < y then pm_run me Sg Rt n mi t ls' st' S1 else pm_run me Sg Rt n mi e' ls' st' S1) = some (v, S') := h
              by_cases c1 : x < y
              · rw [if_pos c1] at h ⊢; exact h
              · rw [if_neg c1] at h ⊢; exact h
            · show pm_run me Sg Rt n mi (if x ≤ y then t else e') ls' st' S1 = _
              have h : (if x ≤ y then pm_run me Sg Rt n mi t ls' st' S1 else pm_run me Sg Rt n mi e' ls' st' S1) = some (v, S') := h
              by_cases c1 : x ≤ y
              · rw [if_pos c1] at h ⊢; exact h
              · rw [if_neg c1] at h ⊢; exact h
          have key : ls' = pl ∧ S1 = S := by
            obtain ⟨e1, e2, -⟩ := pm_br (p := p) (l := l) (e := e) (R := R) (s := s) (m := m) (args := args) (below := below) (meth := meth) (c := c) (Q := fun _ => True) (ρ := ρ) (fv := fv) (H := H) (locs := locs) (ls := ls) (cells := 0) (slots := 0) h2.1 h2.2.1 hq hz (fun T hT X => ⟨_, Steps.refl _, trivial⟩)
            exact ⟨e1, e2⟩
          obtain ⟨rfl, rfl⟩ := key
          exact (pm_br h2.1 h2.2.1 hq hz (ih hb2 h2 hc0 hR1 hR2 hend hI hL)).2.2
        · have hb2 : pm_run me Sg Rt n mi (pm_wh x d ts 0) ls' st' S1 = some (v, S') := (pm_sw_wh (k := fun t => pm_run me Sg Rt n mi t ls' st' S1) ts 0).symm.trans h
          have key : ls' = pl ∧ S1 = S := by
            obtain ⟨e1, e2, -⟩ := pm_swc (p := p) (l := l) (e := e) (R := R) (s := s) (m := m) (args := args) (below := below) (meth := meth) (c := c) (Q := fun _ => True) (ρ := ρ) (fv := fv) (H := H) (locs := locs) (ls := ls) (cells := 0) (slots := 0) h2.1 h2.2.1 hq hz (fun T hT X => ⟨_, Steps.refl _, trivial⟩)
            exact ⟨e1, e2⟩
          obtain ⟨rfl, rfl⟩ := key
          exact (pm_swc h2.1 h2.2.1 hq hz (ih hb2 h2 hc0 hR1 hR2 hend hI hL)).2.2
        · obtain ⟨v1, S2, g1, g2⟩ := pm_k_some h
          obtain ⟨g3, g4⟩ := pm_c_some g1
          have hle2 := pm_cnt n g4
          have hle3 := pm_cnt n g2
          obtain ⟨hls, hS1⟩ := pm_call_same hz
          subst hS1
          have hm2 := pm_ss_mono Sg hle3
          have hM : plainFor (me mj).1 = true → S1.1 ≤ 200 → Met l (me mj).1 (pm_wo (me mj)) (pm_rm Sg (me mj) S1 S2) (pm_Pc D cl cA Sg Rt ρ fv base tx as S1) (pm_Qc D cl cA Sg ρ fv base v1 S2) (S2.1 - S1.1) (pm_ss Sg S2.1 - pm_ss Sg S1.1) (fun q => base ≤ q) := by
            intro hpl h200
            refine va_MetF (cc := (me mj).2.1) (maxL := (me mj).2.2.1) (ret := (me mj).2.2.2.1) hpl rfl ?_
            intro p e s m args below meth c s₁ B hml hv
            obtain ⟨rfl, hsz, hP, hK, hZ, hN, hn2⟩ := hv
            have hts := atoms_spec (ws := pm_wo (me mj)) B.pre
            have hE2 : pm_E2 me mj p s m (as.map (pm_rl ρ fv)).toArray meth c (headSpec (pm_wo (me mj)) (pm_rm Sg (me mj) S1 S2)).room D cl cA Rt ρ fv base tx S1.1 := ⟨B.exec, B.bytes, hml, findClass_of_methodNamed B.named, fun hn => (name_of_methodNamed B.named B.method).1.trans hn, fun w hw => hts w (List.mem_cons_of_mem _ hw), Nat.le_refl _, Nat.le_refl _, hK, hZ, hN, hsz⟩
            rw [lg_entry_eq]
            have := ih (l := l) (e := e) (Q := MQ below (pm_Qc D cl cA Sg ρ fv base v1 S2) (as.map (pm_rl ρ fv)).toArray s (S2.1 - S1.1) (pm_ss Sg S2.1 - pm_ss Sg S1.1) (fun q => base ≤ q)) (below := below) g4 hE2 (Nat.le_refl _) (Nat.le_refl _) (Nat.le_refl _) (fun H1 locs1 ls1 pc1 i hdi hrt hI1 => ?_) ⟨hP, va_S.rf, hn2⟩ (pm_entry h3.2.1 (Nat.le_of_ble_eq_true g3))
            · rw [Nat.sub_self, Nat.sub_self] at this
              exact this
            · obtain ⟨hP1, hS1, hn1⟩ := hI1
              have hq1 : ∀ t : State, t.heap = H1 → s.WarmedH t.vm → pm_Qc D cl cA Sg ρ fv base v1 S2 (as.map (pm_rl ρ fv)).toArray s (.returned (v1.map (pm_rl ρ fv))) t := fun t ht _ => ⟨rfl, by rw [ht]; exact hP1, hS1.F ht, hn1⟩
              rcases hrt with ⟨rfl, x, ty, rfl, hret, hnar⟩ | ⟨rfl, x, rfl, hret⟩ | ⟨rfl, rfl, hret⟩
              · exact W.zret B.exec B.bytes (B.returns.trans hret) hnar hq1 hS1.2.2 hdi
              · exact W.lret B.exec B.bytes (B.returns.trans hret) hq1 hS1.2.2 hdi
              · exact W.vret B.exec B.bytes (B.returns.trans hret) hq1 hS1.2.2 hdi
          subst hls
          exact (pm_cll h1 h2 h3 hq hz hc0 hI hL hM hle2 (by omega) (by omega) (fun H1 locs1 hI1 => ih g2 h2 (Nat.le_trans hc0 hle2) hR1 hR2 hend hI1 hL)).2.2
        · cases h
          obtain ⟨rfl, i, hdi, hrt, hst⟩ := pm_ret (ρ := ρ) (fv := fv) hq hz
          rw [hst]
          exact hend H locs ls q.1 i hdi hrt hI
    · cases h
end
