-- ===== PART A: goes FIRST, ahead of the names: the tables' words, and 'selects' of the private methods out of them =====
/-- a private method of a class that the tables say can be made, by its rows of tables_1 -/
def lw_okq (q : MethodName × Nat) : Prop := (q.1.cls ≠ "java/lang/invoke/MethodHandle" ∧ q.1.cls ≠ "java/lang/invoke/VarHandle") ∧ Cond.instantiable q.1.cls q.2 ∈ tables_1 ∧ Cond.privateMethod q.1 ∈ tables_1 ∧ Cond.instanceMethod q.1 ∈ tables_1
theorem lw_p0 : lw_okq (⟨"RightsWeb$Rules", "survey", "()V"⟩, 6) := ⟨⟨by decide +kernel, by decide +kernel⟩, List.mem_of_getElem? (i := 43) (by decide +kernel), List.mem_of_getElem? (i := 52) (by decide +kernel), List.mem_of_getElem? (i := 53) (by decide +kernel)⟩
theorem lw_p1 : lw_okq (⟨"RightsWeb$Rules", "surveyJoin", "(III)V"⟩, 6) := ⟨⟨by decide +kernel, by decide +kernel⟩, List.mem_of_getElem? (i := 43) (by decide +kernel), List.mem_of_getElem? (i := 59) (by decide +kernel), List.mem_of_getElem? (i := 60) (by decide +kernel)⟩
theorem lw_p2 : lw_okq (⟨"RightsWeb", "refuse", "(I)I"⟩, 14) := ⟨⟨by decide +kernel, by decide +kernel⟩, List.mem_of_getElem? (i := 17) (by decide +kernel), List.mem_of_getElem? (i := 442) (by decide +kernel), List.mem_of_getElem? (i := 443) (by decide +kernel)⟩
theorem lw_p3 : lw_okq (⟨"RightsWeb$Leads", "findClubs", "()V"⟩, 8) := ⟨⟨by decide +kernel, by decide +kernel⟩, List.mem_of_getElem? (i := 228) (by decide +kernel), List.mem_of_getElem? (i := 469) (by decide +kernel), List.mem_of_getElem? (i := 470) (by decide +kernel)⟩
theorem lw_p4 : lw_okq (⟨"RightsWeb$Leads", "findLeads", "(I)V"⟩, 8) := ⟨⟨by decide +kernel, by decide +kernel⟩, List.mem_of_getElem? (i := 228) (by decide +kernel), List.mem_of_getElem? (i := 480) (by decide +kernel), List.mem_of_getElem? (i := 481) (by decide +kernel)⟩
theorem lw_p5 : lw_okq (⟨"RightsWeb$Leads", "asked", "(II)J"⟩, 8) := ⟨⟨by decide +kernel, by decide +kernel⟩, List.mem_of_getElem? (i := 228) (by decide +kernel), List.mem_of_getElem? (i := 487) (by decide +kernel), List.mem_of_getElem? (i := 488) (by decide +kernel)⟩
theorem lw_p6 : lw_okq (⟨"RightsWeb$Leads", "raiseLevels", "()Z"⟩, 8) := ⟨⟨by decide +kernel, by decide +kernel⟩, List.mem_of_getElem? (i := 228) (by decide +kernel), List.mem_of_getElem? (i := 494) (by decide +kernel), List.mem_of_getElem? (i := 495) (by decide +kernel)⟩
theorem lw_p7 : lw_okq (⟨"RightsWeb$Leads", "highest", "(J)I"⟩, 8) := ⟨⟨by decide +kernel, by decide +kernel⟩, List.mem_of_getElem? (i := 228) (by decide +kernel), List.mem_of_getElem? (i := 498) (by decide +kernel), List.mem_of_getElem? (i := 499) (by decide +kernel)⟩
theorem lw_p8 : lw_okq (⟨"RightsWeb", "isSpot", "(II)Z"⟩, 14) := ⟨⟨by decide +kernel, by decide +kernel⟩, List.mem_of_getElem? (i := 17) (by decide +kernel), List.mem_of_getElem? (i := 534) (by decide +kernel), List.mem_of_getElem? (i := 535) (by decide +kernel)⟩
theorem lw_p9 : lw_okq (⟨"RightsWeb", "attempt", "()I"⟩, 14) := ⟨⟨by decide +kernel, by decide +kernel⟩, List.mem_of_getElem? (i := 17) (by decide +kernel), List.mem_of_getElem? (i := 584) (by decide +kernel), List.mem_of_getElem? (i := 585) (by decide +kernel)⟩
theorem lw_p10 : lw_okq (⟨"RightsWeb$Draft", "performAct", "(LRightsWeb$Ledger;I)Z"⟩, 10) := ⟨⟨by decide +kernel, by decide +kernel⟩, List.mem_of_getElem? (i := 188) (by decide +kernel), List.mem_of_getElem? (i := 604) (by decide +kernel), List.mem_of_getElem? (i := 605) (by decide +kernel)⟩
theorem lw_p11 : lw_okq (⟨"RightsWeb$Ledger", "note", "(I)V"⟩, 14) := ⟨⟨by decide +kernel, by decide +kernel⟩, List.mem_of_getElem? (i := 107) (by decide +kernel), List.mem_of_getElem? (i := 613) (by decide +kernel), List.mem_of_getElem? (i := 614) (by decide +kernel)⟩
theorem lw_p12 : lw_okq (⟨"RightsWeb", "isTurn", "(I)Z"⟩, 14) := ⟨⟨by decide +kernel, by decide +kernel⟩, List.mem_of_getElem? (i := 17) (by decide +kernel), List.mem_of_getElem? (i := 662) (by decide +kernel), List.mem_of_getElem? (i := 663) (by decide +kernel)⟩
theorem lw_p13 : lw_okq (⟨"RightsWeb$Scene", "sift", "(III)V"⟩, 8) := ⟨⟨by decide +kernel, by decide +kernel⟩, List.mem_of_getElem? (i := 261) (by decide +kernel), List.mem_of_getElem? (i := 686) (by decide +kernel), List.mem_of_getElem? (i := 687) (by decide +kernel)⟩
theorem lw_p14 : lw_okq (⟨"RightsWeb$Scene", "fill", "(I)V"⟩, 8) := ⟨⟨by decide +kernel, by decide +kernel⟩, List.mem_of_getElem? (i := 261) (by decide +kernel), List.mem_of_getElem? (i := 698) (by decide +kernel), List.mem_of_getElem? (i := 699) (by decide +kernel)⟩
theorem lw_p15 : lw_okq (⟨"RightsWeb$Scene", "grow", "(I)Z"⟩, 8) := ⟨⟨by decide +kernel, by decide +kernel⟩, List.mem_of_getElem? (i := 261) (by decide +kernel), List.mem_of_getElem? (i := 702) (by decide +kernel), List.mem_of_getElem? (i := 703) (by decide +kernel)⟩
def lw_privs_1 : List (MethodName × Nat) := [(⟨"RightsWeb$Rules", "survey", "()V"⟩, 6), (⟨"RightsWeb$Rules", "surveyJoin", "(III)V"⟩, 6), (⟨"RightsWeb", "refuse", "(I)I"⟩, 14), (⟨"RightsWeb$Leads", "findClubs", "()V"⟩, 8), (⟨"RightsWeb$Leads", "findLeads", "(I)V"⟩, 8), (⟨"RightsWeb$Leads", "asked", "(II)J"⟩, 8), (⟨"RightsWeb$Leads", "raiseLevels", "()Z"⟩, 8), (⟨"RightsWeb$Leads", "highest", "(J)I"⟩, 8), (⟨"RightsWeb", "isSpot", "(II)Z"⟩, 14), (⟨"RightsWeb", "attempt", "()I"⟩, 14), (⟨"RightsWeb$Draft", "performAct", "(LRightsWeb$Ledger;I)Z"⟩, 10), (⟨"RightsWeb$Ledger", "note", "(I)V"⟩, 14), (⟨"RightsWeb", "isTurn", "(I)Z"⟩, 14), (⟨"RightsWeb$Scene", "sift", "(III)V"⟩, 8), (⟨"RightsWeb$Scene", "fill", "(I)V"⟩, 8), (⟨"RightsWeb$Scene", "grow", "(I)Z"⟩, 8)]
theorem lw_r1 : ∀ q ∈ lw_privs_1, lw_okq q := List.forall_mem_cons.mpr ⟨lw_p0, List.forall_mem_cons.mpr ⟨lw_p1, List.forall_mem_cons.mpr ⟨lw_p2, List.forall_mem_cons.mpr ⟨lw_p3, List.forall_mem_cons.mpr ⟨lw_p4, List.forall_mem_cons.mpr ⟨lw_p5, List.forall_mem_cons.mpr ⟨lw_p6, List.forall_mem_cons.mpr ⟨lw_p7, List.forall_mem_cons.mpr ⟨lw_p8, List.forall_mem_cons.mpr ⟨lw_p9, List.forall_mem_cons.mpr ⟨lw_p10, List.forall_mem_cons.mpr ⟨lw_p11, List.forall_mem_cons.mpr ⟨lw_p12, List.forall_mem_cons.mpr ⟨lw_p13, List.forall_mem_cons.mpr ⟨lw_p14, List.forall_mem_cons.mpr ⟨lw_p15, fun _ h => absurd h List.not_mem_nil⟩⟩⟩⟩⟩⟩⟩⟩⟩⟩⟩⟩⟩⟩⟩⟩
theorem lw_p16 : lw_okq (⟨"RightsWeb$Scene", "tellPlace", "(II)J"⟩, 8) := ⟨⟨by decide +kernel, by decide +kernel⟩, List.mem_of_getElem? (i := 261) (by decide +kernel), List.mem_of_getElem? (i := 717) (by decide +kernel), List.mem_of_getElem? (i := 718) (by decide +kernel)⟩
theorem lw_p17 : lw_okq (⟨"RightsWeb$Scene", "members", "(IZ)J"⟩, 8) := ⟨⟨by decide +kernel, by decide +kernel⟩, List.mem_of_getElem? (i := 261) (by decide +kernel), List.mem_of_getElem? (i := 721) (by decide +kernel), List.mem_of_getElem? (i := 722) (by decide +kernel)⟩
theorem lw_p18 : lw_okq (⟨"RightsWeb$Scene", "behindThings", "(II)J"⟩, 8) := ⟨⟨by decide +kernel, by decide +kernel⟩, List.mem_of_getElem? (i := 261) (by decide +kernel), List.mem_of_getElem? (i := 725) (by decide +kernel), List.mem_of_getElem? (i := 726) (by decide +kernel)⟩
theorem lw_p19 : lw_okq (⟨"RightsWeb", "isSearch", "(IIII)Z"⟩, 14) := ⟨⟨by decide +kernel, by decide +kernel⟩, List.mem_of_getElem? (i := 17) (by decide +kernel), List.mem_of_getElem? (i := 743) (by decide +kernel), List.mem_of_getElem? (i := 744) (by decide +kernel)⟩
theorem lw_p20 : lw_okq (⟨"RightsWeb$Costs", "lowerCosts", "()Z"⟩, 6) := ⟨⟨by decide +kernel, by decide +kernel⟩, List.mem_of_getElem? (i := 296) (by decide +kernel), List.mem_of_getElem? (i := 762) (by decide +kernel), List.mem_of_getElem? (i := 763) (by decide +kernel)⟩
theorem lw_p21 : lw_okq (⟨"RightsWeb$Costs", "priceOf", "(II)I"⟩, 6) := ⟨⟨by decide +kernel, by decide +kernel⟩, List.mem_of_getElem? (i := 296) (by decide +kernel), List.mem_of_getElem? (i := 774) (by decide +kernel), List.mem_of_getElem? (i := 775) (by decide +kernel)⟩
theorem lw_p22 : lw_okq (⟨"RightsWeb$Costs", "behind", "(II)I"⟩, 6) := ⟨⟨by decide +kernel, by decide +kernel⟩, List.mem_of_getElem? (i := 296) (by decide +kernel), List.mem_of_getElem? (i := 783) (by decide +kernel), List.mem_of_getElem? (i := 784) (by decide +kernel)⟩
theorem lw_p23 : lw_okq (⟨"RightsWeb$Reason", "enter", "(I)V"⟩, 14) := ⟨⟨by decide +kernel, by decide +kernel⟩, List.mem_of_getElem? (i := 323) (by decide +kernel), List.mem_of_getElem? (i := 795) (by decide +kernel), List.mem_of_getElem? (i := 796) (by decide +kernel)⟩
theorem lw_p24 : lw_okq (⟨"RightsWeb$Reason", "follow", "()V"⟩, 14) := ⟨⟨by decide +kernel, by decide +kernel⟩, List.mem_of_getElem? (i := 323) (by decide +kernel), List.mem_of_getElem? (i := 800) (by decide +kernel), List.mem_of_getElem? (i := 801) (by decide +kernel)⟩
theorem lw_p25 : lw_okq (⟨"RightsWeb$Reason", "descend", "()V"⟩, 14) := ⟨⟨by decide +kernel, by decide +kernel⟩, List.mem_of_getElem? (i := 323) (by decide +kernel), List.mem_of_getElem? (i := 805) (by decide +kernel), List.mem_of_getElem? (i := 806) (by decide +kernel)⟩
theorem lw_p26 : lw_okq (⟨"RightsWeb$Reason", "hold", "(I)V"⟩, 14) := ⟨⟨by decide +kernel, by decide +kernel⟩, List.mem_of_getElem? (i := 323) (by decide +kernel), List.mem_of_getElem? (i := 810) (by decide +kernel), List.mem_of_getElem? (i := 811) (by decide +kernel)⟩
theorem lw_p27 : lw_okq (⟨"RightsWeb$Reason", "resume", "()V"⟩, 14) := ⟨⟨by decide +kernel, by decide +kernel⟩, List.mem_of_getElem? (i := 323) (by decide +kernel), List.mem_of_getElem? (i := 819) (by decide +kernel), List.mem_of_getElem? (i := 820) (by decide +kernel)⟩
theorem lw_p28 : lw_okq (⟨"RightsWebModel", "no", "(I)I"⟩, 65) := ⟨⟨by decide +kernel, by decide +kernel⟩, List.mem_of_getElem? (i := 881) (by decide +kernel), List.mem_of_getElem? (i := 1091) (by decide +kernel), List.mem_of_getElem? (i := 1092) (by decide +kernel)⟩
theorem lw_p29 : lw_okq (⟨"RightsWebModel", "isLower", "(II)Z"⟩, 65) := ⟨⟨by decide +kernel, by decide +kernel⟩, List.mem_of_getElem? (i := 881) (by decide +kernel), List.mem_of_getElem? (i := 1106) (by decide +kernel), List.mem_of_getElem? (i := 1107) (by decide +kernel)⟩
theorem lw_p30 : lw_okq (⟨"RightsWebModel", "isRing", "()Z"⟩, 65) := ⟨⟨by decide +kernel, by decide +kernel⟩, List.mem_of_getElem? (i := 881) (by decide +kernel), List.mem_of_getElem? (i := 1110) (by decide +kernel), List.mem_of_getElem? (i := 1111) (by decide +kernel)⟩
theorem lw_p31 : lw_okq (⟨"RightsWebModel", "findEdges", "()V"⟩, 65) := ⟨⟨by decide +kernel, by decide +kernel⟩, List.mem_of_getElem? (i := 881) (by decide +kernel), List.mem_of_getElem? (i := 1114) (by decide +kernel), List.mem_of_getElem? (i := 1115) (by decide +kernel)⟩
def lw_privs_2 : List (MethodName × Nat) := [(⟨"RightsWeb$Scene", "tellPlace", "(II)J"⟩, 8), (⟨"RightsWeb$Scene", "members", "(IZ)J"⟩, 8), (⟨"RightsWeb$Scene", "behindThings", "(II)J"⟩, 8), (⟨"RightsWeb", "isSearch", "(IIII)Z"⟩, 14), (⟨"RightsWeb$Costs", "lowerCosts", "()Z"⟩, 6), (⟨"RightsWeb$Costs", "priceOf", "(II)I"⟩, 6), (⟨"RightsWeb$Costs", "behind", "(II)I"⟩, 6), (⟨"RightsWeb$Reason", "enter", "(I)V"⟩, 14), (⟨"RightsWeb$Reason", "follow", "()V"⟩, 14), (⟨"RightsWeb$Reason", "descend", "()V"⟩, 14), (⟨"RightsWeb$Reason", "hold", "(I)V"⟩, 14), (⟨"RightsWeb$Reason", "resume", "()V"⟩, 14), (⟨"RightsWebModel", "no", "(I)I"⟩, 65), (⟨"RightsWebModel", "isLower", "(II)Z"⟩, 65), (⟨"RightsWebModel", "isRing", "()Z"⟩, 65), (⟨"RightsWebModel", "findEdges", "()V"⟩, 65)]
theorem lw_r2 : ∀ q ∈ lw_privs_2, lw_okq q := List.forall_mem_cons.mpr ⟨lw_p16, List.forall_mem_cons.mpr ⟨lw_p17, List.forall_mem_cons.mpr ⟨lw_p18, List.forall_mem_cons.mpr ⟨lw_p19, List.forall_mem_cons.mpr ⟨lw_p20, List.forall_mem_cons.mpr ⟨lw_p21, List.forall_mem_cons.mpr ⟨lw_p22, List.forall_mem_cons.mpr ⟨lw_p23, List.forall_mem_cons.mpr ⟨lw_p24, List.forall_mem_cons.mpr ⟨lw_p25, List.forall_mem_cons.mpr ⟨lw_p26, List.forall_mem_cons.mpr ⟨lw_p27, List.forall_mem_cons.mpr ⟨lw_p28, List.forall_mem_cons.mpr ⟨lw_p29, List.forall_mem_cons.mpr ⟨lw_p30, List.forall_mem_cons.mpr ⟨lw_p31, fun _ h => absurd h List.not_mem_nil⟩⟩⟩⟩⟩⟩⟩⟩⟩⟩⟩⟩⟩⟩⟩⟩
theorem lw_p32 : lw_okq (⟨"RightsWebModel", "edgesOf", "(I)V"⟩, 65) := ⟨⟨by decide +kernel, by decide +kernel⟩, List.mem_of_getElem? (i := 881) (by decide +kernel), List.mem_of_getElem? (i := 1118) (by decide +kernel), List.mem_of_getElem? (i := 1119) (by decide +kernel)⟩
theorem lw_p33 : lw_okq (⟨"RightsWebModel", "want", "(I)V"⟩, 65) := ⟨⟨by decide +kernel, by decide +kernel⟩, List.mem_of_getElem? (i := 881) (by decide +kernel), List.mem_of_getElem? (i := 1122) (by decide +kernel), List.mem_of_getElem? (i := 1123) (by decide +kernel)⟩
theorem lw_p34 : lw_okq (⟨"RightsWebModel", "edge", "(IIZ)V"⟩, 65) := ⟨⟨by decide +kernel, by decide +kernel⟩, List.mem_of_getElem? (i := 881) (by decide +kernel), List.mem_of_getElem? (i := 1126) (by decide +kernel), List.mem_of_getElem? (i := 1127) (by decide +kernel)⟩
theorem lw_p35 : lw_okq (⟨"RightsWebModel", "clubEdges", "(IZ)V"⟩, 65) := ⟨⟨by decide +kernel, by decide +kernel⟩, List.mem_of_getElem? (i := 881) (by decide +kernel), List.mem_of_getElem? (i := 1130) (by decide +kernel), List.mem_of_getElem? (i := 1131) (by decide +kernel)⟩
theorem lw_p36 : lw_okq (⟨"RightsWebModel", "clubEdge", "(IIIIZ)V"⟩, 65) := ⟨⟨by decide +kernel, by decide +kernel⟩, List.mem_of_getElem? (i := 881) (by decide +kernel), List.mem_of_getElem? (i := 1134) (by decide +kernel), List.mem_of_getElem? (i := 1135) (by decide +kernel)⟩
theorem lw_p37 : lw_okq (⟨"RightsWebModel", "findComes", "()V"⟩, 65) := ⟨⟨by decide +kernel, by decide +kernel⟩, List.mem_of_getElem? (i := 881) (by decide +kernel), List.mem_of_getElem? (i := 1144) (by decide +kernel), List.mem_of_getElem? (i := 1145) (by decide +kernel)⟩
theorem lw_p38 : lw_okq (⟨"RightsWebModel", "isPair", "(III)Z"⟩, 65) := ⟨⟨by decide +kernel, by decide +kernel⟩, List.mem_of_getElem? (i := 881) (by decide +kernel), List.mem_of_getElem? (i := 1176) (by decide +kernel), List.mem_of_getElem? (i := 1177) (by decide +kernel)⟩
theorem lw_p39 : lw_okq (⟨"RightsWebModel", "isThing", "(I)Z"⟩, 65) := ⟨⟨by decide +kernel, by decide +kernel⟩, List.mem_of_getElem? (i := 881) (by decide +kernel), List.mem_of_getElem? (i := 1180) (by decide +kernel), List.mem_of_getElem? (i := 1181) (by decide +kernel)⟩
theorem lw_p40 : lw_okq (⟨"RightsWebModel", "isUser", "(I)Z"⟩, 65) := ⟨⟨by decide +kernel, by decide +kernel⟩, List.mem_of_getElem? (i := 881) (by decide +kernel), List.mem_of_getElem? (i := 1184) (by decide +kernel), List.mem_of_getElem? (i := 1185) (by decide +kernel)⟩
theorem lw_p41 : lw_okq (⟨"RightsWebModel", "act", "(ZIIII)I"⟩, 65) := ⟨⟨by decide +kernel, by decide +kernel⟩, List.mem_of_getElem? (i := 881) (by decide +kernel), List.mem_of_getElem? (i := 1192) (by decide +kernel), List.mem_of_getElem? (i := 1193) (by decide +kernel)⟩
theorem lw_p42 : lw_okq (⟨"RightsWebModel", "makes", "()I"⟩, 65) := ⟨⟨by decide +kernel, by decide +kernel⟩, List.mem_of_getElem? (i := 881) (by decide +kernel), List.mem_of_getElem? (i := 1212) (by decide +kernel), List.mem_of_getElem? (i := 1213) (by decide +kernel)⟩
theorem lw_p43 : lw_okq (⟨"RightsWebModel", "find", "(IIII)I"⟩, 65) := ⟨⟨by decide +kernel, by decide +kernel⟩, List.mem_of_getElem? (i := 881) (by decide +kernel), List.mem_of_getElem? (i := 1216) (by decide +kernel), List.mem_of_getElem? (i := 1217) (by decide +kernel)⟩
theorem lw_p44 : lw_okq (⟨"RightsWebModel", "isInForce", "(II)Z"⟩, 65) := ⟨⟨by decide +kernel, by decide +kernel⟩, List.mem_of_getElem? (i := 881) (by decide +kernel), List.mem_of_getElem? (i := 1220) (by decide +kernel), List.mem_of_getElem? (i := 1221) (by decide +kernel)⟩
theorem lw_p45 : lw_okq (⟨"RightsWebModel", "does", "(I)V"⟩, 65) := ⟨⟨by decide +kernel, by decide +kernel⟩, List.mem_of_getElem? (i := 881) (by decide +kernel), List.mem_of_getElem? (i := 1224) (by decide +kernel), List.mem_of_getElem? (i := 1225) (by decide +kernel)⟩
theorem lw_p46 : lw_okq (⟨"RightsWebModel", "takesBack", "()V"⟩, 65) := ⟨⟨by decide +kernel, by decide +kernel⟩, List.mem_of_getElem? (i := 881) (by decide +kernel), List.mem_of_getElem? (i := 1228) (by decide +kernel), List.mem_of_getElem? (i := 1229) (by decide +kernel)⟩
theorem lw_p47 : lw_okq (⟨"RightsWebModel", "isTurn", "(I)Z"⟩, 65) := ⟨⟨by decide +kernel, by decide +kernel⟩, List.mem_of_getElem? (i := 881) (by decide +kernel), List.mem_of_getElem? (i := 1253) (by decide +kernel), List.mem_of_getElem? (i := 1254) (by decide +kernel)⟩
def lw_privs_3 : List (MethodName × Nat) := [(⟨"RightsWebModel", "edgesOf", "(I)V"⟩, 65), (⟨"RightsWebModel", "want", "(I)V"⟩, 65), (⟨"RightsWebModel", "edge", "(IIZ)V"⟩, 65), (⟨"RightsWebModel", "clubEdges", "(IZ)V"⟩, 65), (⟨"RightsWebModel", "clubEdge", "(IIIIZ)V"⟩, 65), (⟨"RightsWebModel", "findComes", "()V"⟩, 65), (⟨"RightsWebModel", "isPair", "(III)Z"⟩, 65), (⟨"RightsWebModel", "isThing", "(I)Z"⟩, 65), (⟨"RightsWebModel", "isUser", "(I)Z"⟩, 65), (⟨"RightsWebModel", "act", "(ZIIII)I"⟩, 65), (⟨"RightsWebModel", "makes", "()I"⟩, 65), (⟨"RightsWebModel", "find", "(IIII)I"⟩, 65), (⟨"RightsWebModel", "isInForce", "(II)Z"⟩, 65), (⟨"RightsWebModel", "does", "(I)V"⟩, 65), (⟨"RightsWebModel", "takesBack", "()V"⟩, 65), (⟨"RightsWebModel", "isTurn", "(I)Z"⟩, 65)]
theorem lw_r3 : ∀ q ∈ lw_privs_3, lw_okq q := List.forall_mem_cons.mpr ⟨lw_p32, List.forall_mem_cons.mpr ⟨lw_p33, List.forall_mem_cons.mpr ⟨lw_p34, List.forall_mem_cons.mpr ⟨lw_p35, List.forall_mem_cons.mpr ⟨lw_p36, List.forall_mem_cons.mpr ⟨lw_p37, List.forall_mem_cons.mpr ⟨lw_p38, List.forall_mem_cons.mpr ⟨lw_p39, List.forall_mem_cons.mpr ⟨lw_p40, List.forall_mem_cons.mpr ⟨lw_p41, List.forall_mem_cons.mpr ⟨lw_p42, List.forall_mem_cons.mpr ⟨lw_p43, List.forall_mem_cons.mpr ⟨lw_p44, List.forall_mem_cons.mpr ⟨lw_p45, List.forall_mem_cons.mpr ⟨lw_p46, List.forall_mem_cons.mpr ⟨lw_p47, fun _ h => absurd h List.not_mem_nil⟩⟩⟩⟩⟩⟩⟩⟩⟩⟩⟩⟩⟩⟩⟩⟩
theorem lw_p48 : lw_okq (⟨"RightsWebModel", "isCell", "(II)Z"⟩, 65) := ⟨⟨by decide +kernel, by decide +kernel⟩, List.mem_of_getElem? (i := 881) (by decide +kernel), List.mem_of_getElem? (i := 1269) (by decide +kernel), List.mem_of_getElem? (i := 1270) (by decide +kernel)⟩
theorem lw_p49 : lw_okq (⟨"RightsWebModel", "look", "(I)V"⟩, 65) := ⟨⟨by decide +kernel, by decide +kernel⟩, List.mem_of_getElem? (i := 881) (by decide +kernel), List.mem_of_getElem? (i := 1273) (by decide +kernel), List.mem_of_getElem? (i := 1274) (by decide +kernel)⟩
theorem lw_p50 : lw_okq (⟨"RightsWebModel", "findSets", "(I)V"⟩, 65) := ⟨⟨by decide +kernel, by decide +kernel⟩, List.mem_of_getElem? (i := 881) (by decide +kernel), List.mem_of_getElem? (i := 1277) (by decide +kernel), List.mem_of_getElem? (i := 1278) (by decide +kernel)⟩
theorem lw_p51 : lw_okq (⟨"RightsWebModel", "findLayers", "()V"⟩, 65) := ⟨⟨by decide +kernel, by decide +kernel⟩, List.mem_of_getElem? (i := 881) (by decide +kernel), List.mem_of_getElem? (i := 1281) (by decide +kernel), List.mem_of_getElem? (i := 1282) (by decide +kernel)⟩
theorem lw_p52 : lw_okq (⟨"RightsWebModel", "chain", "(I)V"⟩, 65) := ⟨⟨by decide +kernel, by decide +kernel⟩, List.mem_of_getElem? (i := 881) (by decide +kernel), List.mem_of_getElem? (i := 1285) (by decide +kernel), List.mem_of_getElem? (i := 1286) (by decide +kernel)⟩
theorem lw_p53 : lw_okq (⟨"RightsWebModel", "tells", "(II)Z"⟩, 65) := ⟨⟨by decide +kernel, by decide +kernel⟩, List.mem_of_getElem? (i := 881) (by decide +kernel), List.mem_of_getElem? (i := 1289) (by decide +kernel), List.mem_of_getElem? (i := 1290) (by decide +kernel)⟩
theorem lw_p54 : lw_okq (⟨"RightsWebModel", "nodeOf", "(I)I"⟩, 65) := ⟨⟨by decide +kernel, by decide +kernel⟩, List.mem_of_getElem? (i := 881) (by decide +kernel), List.mem_of_getElem? (i := 1293) (by decide +kernel), List.mem_of_getElem? (i := 1294) (by decide +kernel)⟩
theorem lw_p55 : lw_okq (⟨"RightsWebModel", "asked", "(I)J"⟩, 65) := ⟨⟨by decide +kernel, by decide +kernel⟩, List.mem_of_getElem? (i := 881) (by decide +kernel), List.mem_of_getElem? (i := 1297) (by decide +kernel), List.mem_of_getElem? (i := 1298) (by decide +kernel)⟩
theorem lw_p56 : lw_okq (⟨"RightsWebModel", "ruled", "(II)J"⟩, 65) := ⟨⟨by decide +kernel, by decide +kernel⟩, List.mem_of_getElem? (i := 881) (by decide +kernel), List.mem_of_getElem? (i := 1301) (by decide +kernel), List.mem_of_getElem? (i := 1302) (by decide +kernel)⟩
theorem lw_p57 : lw_okq (⟨"RightsWebModel", "told", "(II)J"⟩, 65) := ⟨⟨by decide +kernel, by decide +kernel⟩, List.mem_of_getElem? (i := 881) (by decide +kernel), List.mem_of_getElem? (i := 1305) (by decide +kernel), List.mem_of_getElem? (i := 1306) (by decide +kernel)⟩
theorem lw_p58 : lw_okq (⟨"RightsWebModel", "isOf", "(II)Z"⟩, 65) := ⟨⟨by decide +kernel, by decide +kernel⟩, List.mem_of_getElem? (i := 881) (by decide +kernel), List.mem_of_getElem? (i := 1309) (by decide +kernel), List.mem_of_getElem? (i := 1310) (by decide +kernel)⟩
theorem lw_p59 : lw_okq (⟨"RightsWebModel", "through", "(II)J"⟩, 65) := ⟨⟨by decide +kernel, by decide +kernel⟩, List.mem_of_getElem? (i := 881) (by decide +kernel), List.mem_of_getElem? (i := 1313) (by decide +kernel), List.mem_of_getElem? (i := 1314) (by decide +kernel)⟩
theorem lw_p60 : lw_okq (⟨"RightsWebModel", "isAsked", "(IIII)Z"⟩, 65) := ⟨⟨by decide +kernel, by decide +kernel⟩, List.mem_of_getElem? (i := 881) (by decide +kernel), List.mem_of_getElem? (i := 1326) (by decide +kernel), List.mem_of_getElem? (i := 1327) (by decide +kernel)⟩
theorem lw_p61 : lw_okq (⟨"RightsWebModel", "findCosts", "(I)V"⟩, 65) := ⟨⟨by decide +kernel, by decide +kernel⟩, List.mem_of_getElem? (i := 881) (by decide +kernel), List.mem_of_getElem? (i := 1334) (by decide +kernel), List.mem_of_getElem? (i := 1335) (by decide +kernel)⟩
theorem lw_p62 : lw_okq (⟨"RightsWebModel", "costAt", "(II)I"⟩, 65) := ⟨⟨by decide +kernel, by decide +kernel⟩, List.mem_of_getElem? (i := 881) (by decide +kernel), List.mem_of_getElem? (i := 1338) (by decide +kernel), List.mem_of_getElem? (i := 1339) (by decide +kernel)⟩
theorem lw_p63 : lw_okq (⟨"RightsWebModel", "costOf", "(III)I"⟩, 65) := ⟨⟨by decide +kernel, by decide +kernel⟩, List.mem_of_getElem? (i := 881) (by decide +kernel), List.mem_of_getElem? (i := 1342) (by decide +kernel), List.mem_of_getElem? (i := 1343) (by decide +kernel)⟩
def lw_privs_4 : List (MethodName × Nat) := [(⟨"RightsWebModel", "isCell", "(II)Z"⟩, 65), (⟨"RightsWebModel", "look", "(I)V"⟩, 65), (⟨"RightsWebModel", "findSets", "(I)V"⟩, 65), (⟨"RightsWebModel", "findLayers", "()V"⟩, 65), (⟨"RightsWebModel", "chain", "(I)V"⟩, 65), (⟨"RightsWebModel", "tells", "(II)Z"⟩, 65), (⟨"RightsWebModel", "nodeOf", "(I)I"⟩, 65), (⟨"RightsWebModel", "asked", "(I)J"⟩, 65), (⟨"RightsWebModel", "ruled", "(II)J"⟩, 65), (⟨"RightsWebModel", "told", "(II)J"⟩, 65), (⟨"RightsWebModel", "isOf", "(II)Z"⟩, 65), (⟨"RightsWebModel", "through", "(II)J"⟩, 65), (⟨"RightsWebModel", "isAsked", "(IIII)Z"⟩, 65), (⟨"RightsWebModel", "findCosts", "(I)V"⟩, 65), (⟨"RightsWebModel", "costAt", "(II)I"⟩, 65), (⟨"RightsWebModel", "costOf", "(III)I"⟩, 65)]
theorem lw_r4 : ∀ q ∈ lw_privs_4, lw_okq q := List.forall_mem_cons.mpr ⟨lw_p48, List.forall_mem_cons.mpr ⟨lw_p49, List.forall_mem_cons.mpr ⟨lw_p50, List.forall_mem_cons.mpr ⟨lw_p51, List.forall_mem_cons.mpr ⟨lw_p52, List.forall_mem_cons.mpr ⟨lw_p53, List.forall_mem_cons.mpr ⟨lw_p54, List.forall_mem_cons.mpr ⟨lw_p55, List.forall_mem_cons.mpr ⟨lw_p56, List.forall_mem_cons.mpr ⟨lw_p57, List.forall_mem_cons.mpr ⟨lw_p58, List.forall_mem_cons.mpr ⟨lw_p59, List.forall_mem_cons.mpr ⟨lw_p60, List.forall_mem_cons.mpr ⟨lw_p61, List.forall_mem_cons.mpr ⟨lw_p62, List.forall_mem_cons.mpr ⟨lw_p63, fun _ h => absurd h List.not_mem_nil⟩⟩⟩⟩⟩⟩⟩⟩⟩⟩⟩⟩⟩⟩⟩⟩
theorem lw_p64 : lw_okq (⟨"RightsWebModel", "costTold", "(III)I"⟩, 65) := ⟨⟨by decide +kernel, by decide +kernel⟩, List.mem_of_getElem? (i := 881) (by decide +kernel), List.mem_of_getElem? (i := 1346) (by decide +kernel), List.mem_of_getElem? (i := 1347) (by decide +kernel)⟩
theorem lw_p65 : lw_okq (⟨"RightsWebModel", "costBy", "(II)I"⟩, 65) := ⟨⟨by decide +kernel, by decide +kernel⟩, List.mem_of_getElem? (i := 881) (by decide +kernel), List.mem_of_getElem? (i := 1350) (by decide +kernel), List.mem_of_getElem? (i := 1351) (by decide +kernel)⟩
theorem lw_p66 : lw_okq (⟨"RightsWebModel", "costThrough", "(II)I"⟩, 65) := ⟨⟨by decide +kernel, by decide +kernel⟩, List.mem_of_getElem? (i := 881) (by decide +kernel), List.mem_of_getElem? (i := 1354) (by decide +kernel), List.mem_of_getElem? (i := 1355) (by decide +kernel)⟩
theorem lw_p67 : lw_okq (⟨"RightsWebModel", "opens", "(II)V"⟩, 65) := ⟨⟨by decide +kernel, by decide +kernel⟩, List.mem_of_getElem? (i := 881) (by decide +kernel), List.mem_of_getElem? (i := 1358) (by decide +kernel), List.mem_of_getElem? (i := 1359) (by decide +kernel)⟩
theorem lw_p68 : lw_okq (⟨"RightsWebModel", "goesOn", "(I)V"⟩, 65) := ⟨⟨by decide +kernel, by decide +kernel⟩, List.mem_of_getElem? (i := 881) (by decide +kernel), List.mem_of_getElem? (i := 1362) (by decide +kernel), List.mem_of_getElem? (i := 1363) (by decide +kernel)⟩
theorem lw_p69 : lw_okq (⟨"RightsWebModel", "tellPair", "(IIII)V"⟩, 65) := ⟨⟨by decide +kernel, by decide +kernel⟩, List.mem_of_getElem? (i := 881) (by decide +kernel), List.mem_of_getElem? (i := 1366) (by decide +kernel), List.mem_of_getElem? (i := 1367) (by decide +kernel)⟩
theorem lw_p70 : lw_okq (⟨"RightsWebModel", "tell", "(I)V"⟩, 65) := ⟨⟨by decide +kernel, by decide +kernel⟩, List.mem_of_getElem? (i := 881) (by decide +kernel), List.mem_of_getElem? (i := 1370) (by decide +kernel), List.mem_of_getElem? (i := 1371) (by decide +kernel)⟩
def lw_privs_5 : List (MethodName × Nat) := [(⟨"RightsWebModel", "costTold", "(III)I"⟩, 65), (⟨"RightsWebModel", "costBy", "(II)I"⟩, 65), (⟨"RightsWebModel", "costThrough", "(II)I"⟩, 65), (⟨"RightsWebModel", "opens", "(II)V"⟩, 65), (⟨"RightsWebModel", "goesOn", "(I)V"⟩, 65), (⟨"RightsWebModel", "tellPair", "(IIII)V"⟩, 65), (⟨"RightsWebModel", "tell", "(I)V"⟩, 65)]
theorem lw_r5 : ∀ q ∈ lw_privs_5, lw_okq q := List.forall_mem_cons.mpr ⟨lw_p64, List.forall_mem_cons.mpr ⟨lw_p65, List.forall_mem_cons.mpr ⟨lw_p66, List.forall_mem_cons.mpr ⟨lw_p67, List.forall_mem_cons.mpr ⟨lw_p68, List.forall_mem_cons.mpr ⟨lw_p69, List.forall_mem_cons.mpr ⟨lw_p70, fun _ h => absurd h List.not_mem_nil⟩⟩⟩⟩⟩⟩⟩
def lw_privs : List (MethodName × Nat) := lw_privs_1 ++ (lw_privs_2 ++ (lw_privs_3 ++ (lw_privs_4 ++ (lw_privs_5))))
def lw_tbl : List Cond := k2_sels lw_privs ++ tables_1
theorem lw_privs_ok : ∀ q ∈ lw_privs, lw_okq q := by
  show ∀ q ∈ lw_privs_1 ++ (lw_privs_2 ++ (lw_privs_3 ++ (lw_privs_4 ++ (lw_privs_5)))), lw_okq q
  exact List.forall_mem_append.mpr ⟨lw_r1, List.forall_mem_append.mpr ⟨lw_r2, List.forall_mem_append.mpr ⟨lw_r3, List.forall_mem_append.mpr ⟨lw_r4, lw_r5⟩⟩⟩⟩
-- ===== end of PART A =====
def RX0 : String := "RightsWeb$Costs"
def TX0 : u_T := fun k => match k with
  | 0 => ("RightsWeb$Costs", "rules", "LRightsWeb$Rules;", true)
  | 1 => ("RightsWeb$Costs", "ledger", "LRightsWeb$Ledger;", true)
  | 2 => ("RightsWeb$Costs", "scene", "LRightsWeb$Scene;", true)
  | 3 => ("RightsWeb$Costs", "cost", "[I", true)
  | 4 => ("RightsWeb$Costs", "price", "[I", true)
  | _ => ("RightsWeb$Costs", "person", "I", false)
def tyX0 : Nat → FieldType := fun k => match k with
  | 0 => .object "RightsWeb$Rules"
  | 1 => .object "RightsWeb$Ledger"
  | 2 => .object "RightsWeb$Scene"
  | 3 => .array .int
  | 4 => .array .int
  | _ => .int
theorem nmX0 : ∀ a, a < 6 → ∀ b, b < 6 → a ≠ b → (TX0 a).2.1 ≠ (TX0 b).2.1 := by decide +kernel
theorem tyX0_ok : ∀ k, k < 6 → parseFieldDescriptor (TX0 k).2.2.1 = some (tyX0 k) := by decide +kernel
def RX1 : String := "RightsWeb$Draft"
def TX1 : u_T := fun k => match k with
  | 0 => ("RightsWeb$Draft", "thing", "[I", true)
  | 1 => ("RightsWeb$Draft", "relation", "[I", true)
  | 2 => ("RightsWeb$Draft", "user", "[I", true)
  | 3 => ("RightsWeb$Draft", "end", "[I", true)
  | 4 => ("RightsWeb$Draft", "acts", "I", false)
  | 5 => ("RightsWeb$Draft", "whenThing", "[I", true)
  | 6 => ("RightsWeb$Draft", "whenRelation", "[I", true)
  | 7 => ("RightsWeb$Draft", "whenUser", "[I", true)
  | 8 => ("RightsWeb$Draft", "whenThere", "[Z", true)
  | _ => ("RightsWeb$Draft", "conditions", "I", false)
def tyX1 : Nat → FieldType := fun k => match k with
  | 0 => .array .int
  | 1 => .array .int
  | 2 => .array .int
  | 3 => .array .int
  | 4 => .int
  | 5 => .array .int
  | 6 => .array .int
  | 7 => .array .int
  | 8 => .array .boolean
  | _ => .int
theorem nmX1 : ∀ a, a < 10 → ∀ b, b < 10 → a ≠ b → (TX1 a).2.1 ≠ (TX1 b).2.1 := by decide +kernel
theorem tyX1_ok : ∀ k, k < 10 → parseFieldDescriptor (TX1 k).2.2.1 = some (tyX1 k) := by decide +kernel
def RX2 : String := "RightsWeb$Leads"
def TX2 : u_T := fun k => match k with
  | 0 => ("RightsWeb$Leads", "things", "LRightsWeb$Things;", true)
  | 1 => ("RightsWeb$Leads", "rules", "LRightsWeb$Rules;", true)
  | 2 => ("RightsWeb$Leads", "ledger", "LRightsWeb$Ledger;", true)
  | 3 => ("RightsWeb$Leads", "clubs", "[J", true)
  | 4 => ("RightsWeb$Leads", "joined", "[J", true)
  | 5 => ("RightsWeb$Leads", "taken", "[J", true)
  | 6 => ("RightsWeb$Leads", "level", "[I", true)
  | _ => ("RightsWeb$Leads", "topLevel", "I", false)
def tyX2 : Nat → FieldType := fun k => match k with
  | 0 => .object "RightsWeb$Things"
  | 1 => .object "RightsWeb$Rules"
  | 2 => .object "RightsWeb$Ledger"
  | 3 => .array .long
  | 4 => .array .long
  | 5 => .array .long
  | 6 => .array .int
  | _ => .int
theorem nmX2 : ∀ a, a < 8 → ∀ b, b < 8 → a ≠ b → (TX2 a).2.1 ≠ (TX2 b).2.1 := by decide +kernel
theorem tyX2_ok : ∀ k, k < 8 → parseFieldDescriptor (TX2 k).2.2.1 = some (tyX2 k) := by decide +kernel
def RX3 : String := "RightsWeb$Ledger"
def TX3 : u_T := fun k => match k with
  | 0 => ("RightsWeb$Ledger", "thing", "[I", true)
  | 1 => ("RightsWeb$Ledger", "relation", "[I", true)
  | 2 => ("RightsWeb$Ledger", "user", "[I", true)
  | 3 => ("RightsWeb$Ledger", "end", "[I", true)
  | 4 => ("RightsWeb$Ledger", "wrote", "[I", true)
  | 5 => ("RightsWeb$Ledger", "struck", "[I", true)
  | 6 => ("RightsWeb$Ledger", "spot", "[I", true)
  | 7 => ("RightsWeb$Ledger", "clubSpot", "[I", true)
  | 8 => ("RightsWeb$Ledger", "thingTold", "[I", true)
  | 9 => ("RightsWeb$Ledger", "many", "I", false)
  | 10 => ("RightsWeb$Ledger", "change", "[I", true)
  | 11 => ("RightsWeb$Ledger", "changes", "I", false)
  | 12 => ("RightsWeb$Ledger", "changesUpTo", "[I", true)
  | _ => ("RightsWeb$Ledger", "latest", "I", false)
def tyX3 : Nat → FieldType := fun k => match k with
  | 0 => .array .int
  | 1 => .array .int
  | 2 => .array .int
  | 3 => .array .int
  | 4 => .array .int
  | 5 => .array .int
  | 6 => .array .int
  | 7 => .array .int
  | 8 => .array .int
  | 9 => .int
  | 10 => .array .int
  | 11 => .int
  | 12 => .array .int
  | _ => .int
theorem nmX3 : ∀ a, a < 14 → ∀ b, b < 14 → a ≠ b → (TX3 a).2.1 ≠ (TX3 b).2.1 := by decide +kernel
theorem tyX3_ok : ∀ k, k < 14 → parseFieldDescriptor (TX3 k).2.2.1 = some (tyX3 k) := by decide +kernel
def RX4 : String := "RightsWeb$Reason"
def TX4 : u_T := fun k => match k with
  | 0 => ("RightsWeb$Reason", "rules", "LRightsWeb$Rules;", true)
  | 1 => ("RightsWeb$Reason", "ledger", "LRightsWeb$Ledger;", true)
  | 2 => ("RightsWeb$Reason", "scene", "LRightsWeb$Scene;", true)
  | 3 => ("RightsWeb$Reason", "costs", "LRightsWeb$Costs;", true)
  | 4 => ("RightsWeb$Reason", "pairs", "[I", true)
  | 5 => ("RightsWeb$Reason", "told", "I", false)
  | 6 => ("RightsWeb$Reason", "spot", "I", false)
  | 7 => ("RightsWeb$Reason", "person", "I", false)
  | 8 => ("RightsWeb$Reason", "turn", "I", false)
  | 9 => ("RightsWeb$Reason", "waitingSpot", "[I", true)
  | 10 => ("RightsWeb$Reason", "waitingPlace", "[I", true)
  | 11 => ("RightsWeb$Reason", "waiting", "I", false)
  | 12 => ("RightsWeb$Reason", "atSpot", "I", false)
  | _ => ("RightsWeb$Reason", "atPlace", "I", false)
def tyX4 : Nat → FieldType := fun k => match k with
  | 0 => .object "RightsWeb$Rules"
  | 1 => .object "RightsWeb$Ledger"
  | 2 => .object "RightsWeb$Scene"
  | 3 => .object "RightsWeb$Costs"
  | 4 => .array .int
  | 5 => .int
  | 6 => .int
  | 7 => .int
  | 8 => .int
  | 9 => .array .int
  | 10 => .array .int
  | 11 => .int
  | 12 => .int
  | _ => .int
theorem nmX4 : ∀ a, a < 14 → ∀ b, b < 14 → a ≠ b → (TX4 a).2.1 ≠ (TX4 b).2.1 := by decide +kernel
theorem tyX4_ok : ∀ k, k < 14 → parseFieldDescriptor (TX4 k).2.2.1 = some (tyX4 k) := by decide +kernel
def RX5 : String := "RightsWeb$Row"
def TX5 : u_T := fun k => match k with
  | 0 => ("RightsWeb$Row", "numbers", "[I", true)
  | _ => ("RightsWeb$Row", "many", "I", false)
def tyX5 : Nat → FieldType := fun k => match k with
  | 0 => .array .int
  | _ => .int
theorem nmX5 : ∀ a, a < 2 → ∀ b, b < 2 → a ≠ b → (TX5 a).2.1 ≠ (TX5 b).2.1 := by decide +kernel
theorem tyX5_ok : ∀ k, k < 2 → parseFieldDescriptor (TX5 k).2.2.1 = some (tyX5 k) := by decide +kernel
def RX6 : String := "RightsWeb$Rules"
def TX6 : u_T := fun k => match k with
  | 0 => ("RightsWeb$Rules", "sort", "[I", true)
  | 1 => ("RightsWeb$Rules", "x", "[I", true)
  | 2 => ("RightsWeb$Rules", "y", "[I", true)
  | 3 => ("RightsWeb$Rules", "placeOf", "[I", true)
  | 4 => ("RightsWeb$Rules", "joined", "[J", true)
  | _ => ("RightsWeb$Rules", "taken", "[J", true)
def tyX6 : Nat → FieldType := fun k => match k with
  | 0 => .array .int
  | 1 => .array .int
  | 2 => .array .int
  | 3 => .array .int
  | 4 => .array .long
  | _ => .array .long
theorem nmX6 : ∀ a, a < 6 → ∀ b, b < 6 → a ≠ b → (TX6 a).2.1 ≠ (TX6 b).2.1 := by decide +kernel
theorem tyX6_ok : ∀ k, k < 6 → parseFieldDescriptor (TX6 k).2.2.1 = some (tyX6 k) := by decide +kernel
def RX7 : String := "RightsWeb$Scene"
def TX7 : u_T := fun k => match k with
  | 0 => ("RightsWeb$Scene", "things", "LRightsWeb$Things;", true)
  | 1 => ("RightsWeb$Scene", "rules", "LRightsWeb$Rules;", true)
  | 2 => ("RightsWeb$Scene", "ledger", "LRightsWeb$Ledger;", true)
  | 3 => ("RightsWeb$Scene", "leads", "LRightsWeb$Leads;", true)
  | 4 => ("RightsWeb$Scene", "counting", "[I", true)
  | 5 => ("RightsWeb$Scene", "first", "[I", true)
  | 6 => ("RightsWeb$Scene", "in", "[J", true)
  | _ => ("RightsWeb$Scene", "told", "[J", true)
def tyX7 : Nat → FieldType := fun k => match k with
  | 0 => .object "RightsWeb$Things"
  | 1 => .object "RightsWeb$Rules"
  | 2 => .object "RightsWeb$Ledger"
  | 3 => .object "RightsWeb$Leads"
  | 4 => .array .int
  | 5 => .array .int
  | 6 => .array .long
  | _ => .array .long
theorem nmX7 : ∀ a, a < 8 → ∀ b, b < 8 → a ≠ b → (TX7 a).2.1 ≠ (TX7 b).2.1 := by decide +kernel
theorem tyX7_ok : ∀ k, k < 8 → parseFieldDescriptor (TX7 k).2.2.1 = some (tyX7 k) := by decide +kernel
def RX8 : String := "RightsWeb$Things"
def TX8 : u_T := fun k => match k with
  | 0 => ("RightsWeb$Things", "kind", "[I", true)
  | _ => ("RightsWeb$Things", "many", "I", false)
def tyX8 : Nat → FieldType := fun k => match k with
  | 0 => .array .int
  | _ => .int
theorem nmX8 : ∀ a, a < 2 → ∀ b, b < 2 → a ≠ b → (TX8 a).2.1 ≠ (TX8 b).2.1 := by decide +kernel
theorem tyX8_ok : ∀ k, k < 2 → parseFieldDescriptor (TX8 k).2.2.1 = some (tyX8 k) := by decide +kernel
def RX9 : String := "RightsWeb"
def TX9 : u_T := fun k => match k with
  | 0 => ("RightsWeb", "things", "LRightsWeb$Things;", true)
  | 1 => ("RightsWeb", "rules", "LRightsWeb$Rules;", true)
  | 2 => ("RightsWeb", "ledger", "LRightsWeb$Ledger;", true)
  | 3 => ("RightsWeb", "draft", "LRightsWeb$Draft;", true)
  | 4 => ("RightsWeb", "leads", "LRightsWeb$Leads;", true)
  | 5 => ("RightsWeb", "scene", "LRightsWeb$Scene;", true)
  | 6 => ("RightsWeb", "costs", "LRightsWeb$Costs;", true)
  | 7 => ("RightsWeb", "latestReason", "LRightsWeb$Reason;", true)
  | 8 => ("RightsWeb", "theRow", "LRightsWeb$Row;", true)
  | 9 => ("RightsWeb", "otherTurn", "[J", true)
  | 10 => ("RightsWeb", "refusals", "[I", true)
  | 11 => ("RightsWeb", "theTick", "I", false)
  | 12 => ("RightsWeb", "failing", "I", false)
  | _ => ("RightsWeb", "failedLast", "I", false)
def tyX9 : Nat → FieldType := fun k => match k with
  | 0 => .object "RightsWeb$Things"
  | 1 => .object "RightsWeb$Rules"
  | 2 => .object "RightsWeb$Ledger"
  | 3 => .object "RightsWeb$Draft"
  | 4 => .object "RightsWeb$Leads"
  | 5 => .object "RightsWeb$Scene"
  | 6 => .object "RightsWeb$Costs"
  | 7 => .object "RightsWeb$Reason"
  | 8 => .object "RightsWeb$Row"
  | 9 => .array .long
  | 10 => .array .int
  | 11 => .int
  | 12 => .int
  | _ => .int
theorem nmX9 : ∀ a, a < 14 → ∀ b, b < 14 → a ≠ b → (TX9 a).2.1 ≠ (TX9 b).2.1 := by decide +kernel
theorem tyX9_ok : ∀ k, k < 14 → parseFieldDescriptor (TX9 k).2.2.1 = some (tyX9 k) := by decide +kernel
def RX10 : String := "RightsWebModel"
def TX10 : u_T := fun k => match k with
  | 0 => ("RightsWebModel", "kindOf", "[I", true)
  | 1 => ("RightsWebModel", "things", "I", false)
  | 2 => ("RightsWebModel", "sort", "[I", true)
  | 3 => ("RightsWebModel", "ruleX", "[I", true)
  | 4 => ("RightsWebModel", "ruleY", "[I", true)
  | 5 => ("RightsWebModel", "nameOf", "[I", true)
  | 6 => ("RightsWebModel", "placeOf", "[I", true)
  | 7 => ("RightsWebModel", "pThing", "[I", true)
  | 8 => ("RightsWebModel", "pRelation", "[I", true)
  | 9 => ("RightsWebModel", "pUser", "[I", true)
  | 10 => ("RightsWebModel", "pEnd", "[I", true)
  | 11 => ("RightsWebModel", "pFrom", "[I", true)
  | 12 => ("RightsWebModel", "pTo", "[I", true)
  | 13 => ("RightsWebModel", "pairs", "I", false)
  | 14 => ("RightsWebModel", "actTurn", "[I", true)
  | 15 => ("RightsWebModel", "actPair", "[I", true)
  | 16 => ("RightsWebModel", "actStruck", "[Z", true)
  | 17 => ("RightsWebModel", "allActs", "I", false)
  | 18 => ("RightsWebModel", "latest", "I", false)
  | 19 => ("RightsWebModel", "now", "I", false)
  | 20 => ("RightsWebModel", "writes", "[Z", true)
  | 21 => ("RightsWebModel", "isThere", "[Z", true)
  | 22 => ("RightsWebModel", "aThing", "[I", true)
  | 23 => ("RightsWebModel", "aRelation", "[I", true)
  | 24 => ("RightsWebModel", "aUser", "[I", true)
  | 25 => ("RightsWebModel", "aEnd", "[I", true)
  | 26 => ("RightsWebModel", "cThing", "[I", true)
  | 27 => ("RightsWebModel", "cRelation", "[I", true)
  | 28 => ("RightsWebModel", "cUser", "[I", true)
  | 29 => ("RightsWebModel", "acts", "I", false)
  | 30 => ("RightsWebModel", "conditions", "I", false)
  | 31 => ("RightsWebModel", "failed", "I", false)
  | 32 => ("RightsWebModel", "refused", "[I", true)
  | 33 => ("RightsWebModel", "leads", "[Z", true)
  | 34 => ("RightsWebModel", "over", "[Z", true)
  | 35 => ("RightsWebModel", "wanted", "[Z", true)
  | 36 => ("RightsWebModel", "second", "[Z", true)
  | 37 => ("RightsWebModel", "withActs", "Z", false)
  | 38 => ("RightsWebModel", "comes", "[Z", true)
  | 39 => ("RightsWebModel", "failing", "I", false)
  | 40 => ("RightsWebModel", "version", "I", false)
  | 41 => ("RightsWebModel", "setsVersion", "I", false)
  | 42 => ("RightsWebModel", "setsTurn", "I", false)
  | 43 => ("RightsWebModel", "without", "I", false)
  | 44 => ("RightsWebModel", "sets", "[J", true)
  | 45 => ("RightsWebModel", "other", "[J", true)
  | 46 => ("RightsWebModel", "values", "[J", true)
  | 47 => ("RightsWebModel", "layer", "[I", true)
  | 48 => ("RightsWebModel", "firstPair", "[I", true)
  | 49 => ("RightsWebModel", "nextPair", "[I", true)
  | 50 => ("RightsWebModel", "costs", "[I", true)
  | 51 => ("RightsWebModel", "cost", "[I", true)
  | 52 => ("RightsWebModel", "openCell", "[I", true)
  | 53 => ("RightsWebModel", "openPlace", "[I", true)
  | 54 => ("RightsWebModel", "open", "I", false)
  | 55 => ("RightsWebModel", "reason", "[I", true)
  | 56 => ("RightsWebModel", "reasonSize", "I", false)
  | 57 => ("RightsWebModel", "rThing", "I", false)
  | 58 => ("RightsWebModel", "rRelation", "I", false)
  | 59 => ("RightsWebModel", "rPerson", "I", false)
  | 60 => ("RightsWebModel", "rTurn", "I", false)
  | 61 => ("RightsWebModel", "hasReason", "Z", false)
  | 62 => ("RightsWebModel", "row", "[I", true)
  | 63 => ("RightsWebModel", "moved", "[I", true)
  | _ => ("RightsWebModel", "rowSize", "I", false)
def tyX10 : Nat → FieldType := fun k => match k with
  | 0 => .array .int
  | 1 => .int
  | 2 => .array .int
  | 3 => .array .int
  | 4 => .array .int
  | 5 => .array .int
  | 6 => .array .int
  | 7 => .array .int
  | 8 => .array .int
  | 9 => .array .int
  | 10 => .array .int
  | 11 => .array .int
  | 12 => .array .int
  | 13 => .int
  | 14 => .array .int
  | 15 => .array .int
  | 16 => .array .boolean
  | 17 => .int
  | 18 => .int
  | 19 => .int
  | 20 => .array .boolean
  | 21 => .array .boolean
  | 22 => .array .int
  | 23 => .array .int
  | 24 => .array .int
  | 25 => .array .int
  | 26 => .array .int
  | 27 => .array .int
  | 28 => .array .int
  | 29 => .int
  | 30 => .int
  | 31 => .int
  | 32 => .array .int
  | 33 => .array .boolean
  | 34 => .array .boolean
  | 35 => .array .boolean
  | 36 => .array .boolean
  | 37 => .boolean
  | 38 => .array .boolean
  | 39 => .int
  | 40 => .int
  | 41 => .int
  | 42 => .int
  | 43 => .int
  | 44 => .array .long
  | 45 => .array .long
  | 46 => .array .long
  | 47 => .array .int
  | 48 => .array .int
  | 49 => .array .int
  | 50 => .array .int
  | 51 => .array .int
  | 52 => .array .int
  | 53 => .array .int
  | 54 => .int
  | 55 => .array .int
  | 56 => .int
  | 57 => .int
  | 58 => .int
  | 59 => .int
  | 60 => .int
  | 61 => .boolean
  | 62 => .array .int
  | 63 => .array .int
  | _ => .int
theorem nmX10 : ∀ a, a < 65 → ∀ b, b < 65 → a ≠ b → (TX10 a).2.1 ≠ (TX10 b).2.1 := by decide +kernel
theorem tyX10_ok : ∀ k, k < 65 → parseFieldDescriptor (TX10 k).2.2.1 = some (tyX10 k) := by decide +kernel
def RJ13 : String := "java/lang/Long"
def RJ9 : String := "java/lang/Math"
def RJ10 : String := "java/lang/System"
def RJ7 : String := "java/util/Arrays"
def RL : String := "RightsWebLaw"
abbrev vwCl : List vw_C := [(RX0, TX0, 6), (RX1, TX1, 10), (RX2, TX2, 8), (RX3, TX3, 14), (RX4, TX4, 14), (RX5, TX5, 2), (RX6, TX6, 6), (RX7, TX7, 8), (RX8, TX8, 2), (RX9, TX9, 14), (RX10, TX10, 65)]
