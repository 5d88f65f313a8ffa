section
-- ===== PART A: goes FIRST, ahead of the names: the tables' words, and 'selects' of the private methods out of them =====
/-- a private method of a class that the tables say can be made, by its rows of tables_1 -/
def lw_okq (q : MethodName × Nat) : Prop := (q.1.cls ≠ "java/lang/invoke/MethodHandle" ∧ q.1.cls ≠ "java/lang/invoke/VarHandle") ∧ Cond.instantiable q.1.cls q.2 ∈ tables_1 ∧ Cond.privateMethod q.1 ∈ tables_1 ∧ Cond.instanceMethod q.1 ∈ tables_1
theorem lw_p0 : lw_okq (⟨"LooseWater$Ship", "fillBetween", "(I)V"⟩, 16) := ⟨⟨by decide +kernel, by decide +kernel⟩, List.mem_of_getElem? (i := 31) (by decide +kernel), List.mem_of_getElem? (i := 544) (by decide +kernel), List.mem_of_getElem? (i := 545) (by decide +kernel)⟩
theorem lw_p1 : lw_okq (⟨"LooseWater", "hasPlace", "(I)Z"⟩, 12) := ⟨⟨by decide +kernel, by decide +kernel⟩, List.mem_of_getElem? (i := 23) (by decide +kernel), List.mem_of_getElem? (i := 580) (by decide +kernel), List.mem_of_getElem? (i := 581) (by decide +kernel)⟩
theorem lw_p2 : lw_okq (⟨"LooseWater", "opened", "(LLooseWater$Openings;IIII)I"⟩, 12) := ⟨⟨by decide +kernel, by decide +kernel⟩, List.mem_of_getElem? (i := 23) (by decide +kernel), List.mem_of_getElem? (i := 605) (by decide +kernel), List.mem_of_getElem? (i := 606) (by decide +kernel)⟩
theorem lw_p3 : lw_okq (⟨"LooseWater", "append", "(I)V"⟩, 12) := ⟨⟨by decide +kernel, by decide +kernel⟩, List.mem_of_getElem? (i := 23) (by decide +kernel), List.mem_of_getElem? (i := 627) (by decide +kernel), List.mem_of_getElem? (i := 628) (by decide +kernel)⟩
theorem lw_p4 : lw_okq (⟨"LooseWater$Reader", "scan", "([II)V"⟩, 8) := ⟨⟨by decide +kernel, by decide +kernel⟩, List.mem_of_getElem? (i := 337) (by decide +kernel), List.mem_of_getElem? (i := 643) (by decide +kernel), List.mem_of_getElem? (i := 644) (by decide +kernel)⟩
theorem lw_p5 : lw_okq (⟨"LooseWater$Reader", "put", "(III)V"⟩, 8) := ⟨⟨by decide +kernel, by decide +kernel⟩, List.mem_of_getElem? (i := 337) (by decide +kernel), List.mem_of_getElem? (i := 654) (by decide +kernel), List.mem_of_getElem? (i := 655) (by decide +kernel)⟩
theorem lw_p6 : lw_okq (⟨"LooseWater$Reader", "clause", "(I)Z"⟩, 8) := ⟨⟨by decide +kernel, by decide +kernel⟩, List.mem_of_getElem? (i := 337) (by decide +kernel), List.mem_of_getElem? (i := 708) (by decide +kernel), List.mem_of_getElem? (i := 709) (by decide +kernel)⟩
theorem lw_p7 : lw_okq (⟨"LooseWater$Reader", "token", "()I"⟩, 8) := ⟨⟨by decide +kernel, by decide +kernel⟩, List.mem_of_getElem? (i := 337) (by decide +kernel), List.mem_of_getElem? (i := 712) (by decide +kernel), List.mem_of_getElem? (i := 713) (by decide +kernel)⟩
theorem lw_p8 : lw_okq (⟨"LooseWater$Reader", "fail", "(I)Z"⟩, 8) := ⟨⟨by decide +kernel, by decide +kernel⟩, List.mem_of_getElem? (i := 337) (by decide +kernel), List.mem_of_getElem? (i := 716) (by decide +kernel), List.mem_of_getElem? (i := 717) (by decide +kernel)⟩
theorem lw_p9 : lw_okq (⟨"LooseWater$Reader", "sum", "()Z"⟩, 8) := ⟨⟨by decide +kernel, by decide +kernel⟩, List.mem_of_getElem? (i := 337) (by decide +kernel), List.mem_of_getElem? (i := 720) (by decide +kernel), List.mem_of_getElem? (i := 721) (by decide +kernel)⟩
theorem lw_p10 : lw_okq (⟨"LooseWater$Reader", "value", "()Z"⟩, 8) := ⟨⟨by decide +kernel, by decide +kernel⟩, List.mem_of_getElem? (i := 337) (by decide +kernel), List.mem_of_getElem? (i := 724) (by decide +kernel), List.mem_of_getElem? (i := 725) (by decide +kernel)⟩
theorem lw_p11 : lw_okq (⟨"LooseWater$Reader", "emit", "(I)V"⟩, 8) := ⟨⟨by decide +kernel, by decide +kernel⟩, List.mem_of_getElem? (i := 337) (by decide +kernel), List.mem_of_getElem? (i := 728) (by decide +kernel), List.mem_of_getElem? (i := 729) (by decide +kernel)⟩
theorem lw_p12 : lw_okq (⟨"LooseWater$Reader", "figure", "(II)Z"⟩, 8) := ⟨⟨by decide +kernel, by decide +kernel⟩, List.mem_of_getElem? (i := 337) (by decide +kernel), List.mem_of_getElem? (i := 732) (by decide +kernel), List.mem_of_getElem? (i := 733) (by decide +kernel)⟩
theorem lw_p13 : lw_okq (⟨"LooseWater$Reader", "placeName", "([II)Z"⟩, 8) := ⟨⟨by decide +kernel, by decide +kernel⟩, List.mem_of_getElem? (i := 337) (by decide +kernel), List.mem_of_getElem? (i := 736) (by decide +kernel), List.mem_of_getElem? (i := 737) (by decide +kernel)⟩
theorem lw_p14 : lw_okq (⟨"LooseWater$Reader", "test", "(I)Z"⟩, 8) := ⟨⟨by decide +kernel, by decide +kernel⟩, List.mem_of_getElem? (i := 337) (by decide +kernel), List.mem_of_getElem? (i := 740) (by decide +kernel), List.mem_of_getElem? (i := 741) (by decide +kernel)⟩
theorem lw_p15 : lw_okq (⟨"LooseWater$Reader", "fact", "(I)Z"⟩, 8) := ⟨⟨by decide +kernel, by decide +kernel⟩, List.mem_of_getElem? (i := 337) (by decide +kernel), List.mem_of_getElem? (i := 744) (by decide +kernel), List.mem_of_getElem? (i := 745) (by decide +kernel)⟩
def lw_privs_1 : List (MethodName × Nat) := [(⟨"LooseWater$Ship", "fillBetween", "(I)V"⟩, 16), (⟨"LooseWater", "hasPlace", "(I)Z"⟩, 12), (⟨"LooseWater", "opened", "(LLooseWater$Openings;IIII)I"⟩, 12), (⟨"LooseWater", "append", "(I)V"⟩, 12), (⟨"LooseWater$Reader", "scan", "([II)V"⟩, 8), (⟨"LooseWater$Reader", "put", "(III)V"⟩, 8), (⟨"LooseWater$Reader", "clause", "(I)Z"⟩, 8), (⟨"LooseWater$Reader", "token", "()I"⟩, 8), (⟨"LooseWater$Reader", "fail", "(I)Z"⟩, 8), (⟨"LooseWater$Reader", "sum", "()Z"⟩, 8), (⟨"LooseWater$Reader", "value", "()Z"⟩, 8), (⟨"LooseWater$Reader", "emit", "(I)V"⟩, 8), (⟨"LooseWater$Reader", "figure", "(II)Z"⟩, 8), (⟨"LooseWater$Reader", "placeName", "([II)Z"⟩, 8), (⟨"LooseWater$Reader", "test", "(I)Z"⟩, 8), (⟨"LooseWater$Reader", "fact", "(I)Z"⟩, 8)]
theorem lw_r1 : ∀ q ∈ lw_privs_1, lw_okq q := List.forall_mem_cons.mpr ⟨lw_p0, List.forall_mem_cons.mpr ⟨lw_p1, List.forall_mem_cons.mpr ⟨lw_p2, List.forall_mem_cons.mpr ⟨lw_p3, List.forall_mem_cons.mpr ⟨lw_p4, List.forall_mem_cons.mpr ⟨lw_p5, List.forall_mem_cons.mpr ⟨lw_p6, List.forall_mem_cons.mpr ⟨lw_p7, List.forall_mem_cons.mpr ⟨lw_p8, List.forall_mem_cons.mpr ⟨lw_p9, List.forall_mem_cons.mpr ⟨lw_p10, List.forall_mem_cons.mpr ⟨lw_p11, List.forall_mem_cons.mpr ⟨lw_p12, List.forall_mem_cons.mpr ⟨lw_p13, List.forall_mem_cons.mpr ⟨lw_p14, List.forall_mem_cons.mpr ⟨lw_p15, fun _ h => absurd h List.not_mem_nil⟩⟩⟩⟩⟩⟩⟩⟩⟩⟩⟩⟩⟩⟩⟩⟩
theorem lw_p16 : lw_okq (⟨"LooseWater$Reader", "comparison", "()Z"⟩, 8) := ⟨⟨by decide +kernel, by decide +kernel⟩, List.mem_of_getElem? (i := 337) (by decide +kernel), List.mem_of_getElem? (i := 748) (by decide +kernel), List.mem_of_getElem? (i := 749) (by decide +kernel)⟩
theorem lw_p17 : lw_okq (⟨"LooseWater", "hasPlan", "(I)Z"⟩, 12) := ⟨⟨by decide +kernel, by decide +kernel⟩, List.mem_of_getElem? (i := 23) (by decide +kernel), List.mem_of_getElem? (i := 764) (by decide +kernel), List.mem_of_getElem? (i := 765) (by decide +kernel)⟩
theorem lw_p18 : lw_okq (⟨"LooseWater", "goBy", "(LLooseWater$Ship;II)V"⟩, 12) := ⟨⟨by decide +kernel, by decide +kernel⟩, List.mem_of_getElem? (i := 23) (by decide +kernel), List.mem_of_getElem? (i := 768) (by decide +kernel), List.mem_of_getElem? (i := 769) (by decide +kernel)⟩
theorem lw_p19 : lw_okq (⟨"LooseWater$Rounds", "applies", "(LLooseWater$Ship;LLooseWater$Plan;I)Z"⟩, 2) := ⟨⟨by decide +kernel, by decide +kernel⟩, List.mem_of_getElem? (i := 405) (by decide +kernel), List.mem_of_getElem? (i := 783) (by decide +kernel), List.mem_of_getElem? (i := 784) (by decide +kernel)⟩
theorem lw_p20 : lw_okq (⟨"LooseWater$Rounds", "compute", "(LLooseWater$Ship;[III)J"⟩, 2) := ⟨⟨by decide +kernel, by decide +kernel⟩, List.mem_of_getElem? (i := 405) (by decide +kernel), List.mem_of_getElem? (i := 787) (by decide +kernel), List.mem_of_getElem? (i := 788) (by decide +kernel)⟩
theorem lw_p21 : lw_okq (⟨"LooseWater$Balance", "upsetting", "(I)J"⟩, 8) := ⟨⟨by decide +kernel, by decide +kernel⟩, List.mem_of_getElem? (i := 371) (by decide +kernel), List.mem_of_getElem? (i := 803) (by decide +kernel), List.mem_of_getElem? (i := 804) (by decide +kernel)⟩
theorem lw_p22 : lw_okq (⟨"LooseWater$Rounds", "act", "(LLooseWater$Ship;LLooseWater$Plan;I)V"⟩, 2) := ⟨⟨by decide +kernel, by decide +kernel⟩, List.mem_of_getElem? (i := 405) (by decide +kernel), List.mem_of_getElem? (i := 822) (by decide +kernel), List.mem_of_getElem? (i := 823) (by decide +kernel)⟩
theorem lw_p23 : lw_okq (⟨"LooseWater$OrderSearch", "extend", "(LLooseWater$Ship;III)Z"⟩, 6) := ⟨⟨by decide +kernel, by decide +kernel⟩, List.mem_of_getElem? (i := 420) (by decide +kernel), List.mem_of_getElem? (i := 996) (by decide +kernel), List.mem_of_getElem? (i := 997) (by decide +kernel)⟩
theorem lw_p24 : lw_okq (⟨"LooseWater$OrderSearch", "fillUp", "(LLooseWater$Ship;II)I"⟩, 6) := ⟨⟨by decide +kernel, by decide +kernel⟩, List.mem_of_getElem? (i := 420) (by decide +kernel), List.mem_of_getElem? (i := 1001) (by decide +kernel), List.mem_of_getElem? (i := 1002) (by decide +kernel)⟩
theorem lw_p25 : lw_okq (⟨"LooseWater", "hasImage", "(I)Z"⟩, 12) := ⟨⟨by decide +kernel, by decide +kernel⟩, List.mem_of_getElem? (i := 23) (by decide +kernel), List.mem_of_getElem? (i := 1029) (by decide +kernel), List.mem_of_getElem? (i := 1030) (by decide +kernel)⟩
theorem lw_p26 : lw_okq (⟨"LooseWater", "finishable", "(II)J"⟩, 12) := ⟨⟨by decide +kernel, by decide +kernel⟩, List.mem_of_getElem? (i := 23) (by decide +kernel), List.mem_of_getElem? (i := 1058) (by decide +kernel), List.mem_of_getElem? (i := 1059) (by decide +kernel)⟩
theorem lw_p27 : lw_okq (⟨"LooseWater", "stiffWith", "(I)J"⟩, 12) := ⟨⟨by decide +kernel, by decide +kernel⟩, List.mem_of_getElem? (i := 23) (by decide +kernel), List.mem_of_getElem? (i := 1062) (by decide +kernel), List.mem_of_getElem? (i := 1063) (by decide +kernel)⟩
theorem lw_p28 : lw_okq (⟨"LooseWater", "missed", "(III)I"⟩, 12) := ⟨⟨by decide +kernel, by decide +kernel⟩, List.mem_of_getElem? (i := 23) (by decide +kernel), List.mem_of_getElem? (i := 1071) (by decide +kernel), List.mem_of_getElem? (i := 1072) (by decide +kernel)⟩
theorem lw_p29 : lw_okq (⟨"LooseWater$BestSearch", "extend", "(LLooseWater$Ship;[LLooseWater$Plan;II)V"⟩, 8) := ⟨⟨by decide +kernel, by decide +kernel⟩, List.mem_of_getElem? (i := 448) (by decide +kernel), List.mem_of_getElem? (i := 1085) (by decide +kernel), List.mem_of_getElem? (i := 1086) (by decide +kernel)⟩
theorem lw_p30 : lw_okq (⟨"LooseWater", "drain", "(I)V"⟩, 12) := ⟨⟨by decide +kernel, by decide +kernel⟩, List.mem_of_getElem? (i := 23) (by decide +kernel), List.mem_of_getElem? (i := 1117) (by decide +kernel), List.mem_of_getElem? (i := 1118) (by decide +kernel)⟩
theorem lw_p31 : lw_okq (⟨"LooseWaterModel", "isShip", "()Z"⟩, 56) := ⟨⟨by decide +kernel, by decide +kernel⟩, List.mem_of_getElem? (i := 1158) (by decide +kernel), List.mem_of_getElem? (i := 1349) (by decide +kernel), List.mem_of_getElem? (i := 1350) (by decide +kernel)⟩
def lw_privs_2 : List (MethodName × Nat) := [(⟨"LooseWater$Reader", "comparison", "()Z"⟩, 8), (⟨"LooseWater", "hasPlan", "(I)Z"⟩, 12), (⟨"LooseWater", "goBy", "(LLooseWater$Ship;II)V"⟩, 12), (⟨"LooseWater$Rounds", "applies", "(LLooseWater$Ship;LLooseWater$Plan;I)Z"⟩, 2), (⟨"LooseWater$Rounds", "compute", "(LLooseWater$Ship;[III)J"⟩, 2), (⟨"LooseWater$Balance", "upsetting", "(I)J"⟩, 8), (⟨"LooseWater$Rounds", "act", "(LLooseWater$Ship;LLooseWater$Plan;I)V"⟩, 2), (⟨"LooseWater$OrderSearch", "extend", "(LLooseWater$Ship;III)Z"⟩, 6), (⟨"LooseWater$OrderSearch", "fillUp", "(LLooseWater$Ship;II)I"⟩, 6), (⟨"LooseWater", "hasImage", "(I)Z"⟩, 12), (⟨"LooseWater", "finishable", "(II)J"⟩, 12), (⟨"LooseWater", "stiffWith", "(I)J"⟩, 12), (⟨"LooseWater", "missed", "(III)I"⟩, 12), (⟨"LooseWater$BestSearch", "extend", "(LLooseWater$Ship;[LLooseWater$Plan;II)V"⟩, 8), (⟨"LooseWater", "drain", "(I)V"⟩, 12), (⟨"LooseWaterModel", "isShip", "()Z"⟩, 56)]
theorem lw_r2 : ∀ q ∈ lw_privs_2, lw_okq q := List.forall_mem_cons.mpr ⟨lw_p16, List.forall_mem_cons.mpr ⟨lw_p17, List.forall_mem_cons.mpr ⟨lw_p18, List.forall_mem_cons.mpr ⟨lw_p19, List.forall_mem_cons.mpr ⟨lw_p20, List.forall_mem_cons.mpr ⟨lw_p21, List.forall_mem_cons.mpr ⟨lw_p22, List.forall_mem_cons.mpr ⟨lw_p23, List.forall_mem_cons.mpr ⟨lw_p24, List.forall_mem_cons.mpr ⟨lw_p25, List.forall_mem_cons.mpr ⟨lw_p26, List.forall_mem_cons.mpr ⟨lw_p27, List.forall_mem_cons.mpr ⟨lw_p28, List.forall_mem_cons.mpr ⟨lw_p29, List.forall_mem_cons.mpr ⟨lw_p30, List.forall_mem_cons.mpr ⟨lw_p31, fun _ h => absurd h List.not_mem_nil⟩⟩⟩⟩⟩⟩⟩⟩⟩⟩⟩⟩⟩⟩⟩⟩
theorem lw_p32 : lw_okq (⟨"LooseWaterModel", "isPlace", "(I)Z"⟩, 56) := ⟨⟨by decide +kernel, by decide +kernel⟩, List.mem_of_getElem? (i := 1158) (by decide +kernel), List.mem_of_getElem? (i := 1366) (by decide +kernel), List.mem_of_getElem? (i := 1367) (by decide +kernel)⟩
theorem lw_p33 : lw_okq (⟨"LooseWaterModel", "cap", "(I)I"⟩, 56) := ⟨⟨by decide +kernel, by decide +kernel⟩, List.mem_of_getElem? (i := 1158) (by decide +kernel), List.mem_of_getElem? (i := 1370) (by decide +kernel), List.mem_of_getElem? (i := 1371) (by decide +kernel)⟩
theorem lw_p34 : lw_okq (⟨"LooseWaterModel", "isHole", "(IIII)Z"⟩, 56) := ⟨⟨by decide +kernel, by decide +kernel⟩, List.mem_of_getElem? (i := 1158) (by decide +kernel), List.mem_of_getElem? (i := 1388) (by decide +kernel), List.mem_of_getElem? (i := 1389) (by decide +kernel)⟩
theorem lw_p35 : lw_okq (⟨"LooseWaterModel", "total", "()I"⟩, 56) := ⟨⟨by decide +kernel, by decide +kernel⟩, List.mem_of_getElem? (i := 1158) (by decide +kernel), List.mem_of_getElem? (i := 1410) (by decide +kernel), List.mem_of_getElem? (i := 1411) (by decide +kernel)⟩
theorem lw_p36 : lw_okq (⟨"LooseWaterModel", "draft", "()I"⟩, 56) := ⟨⟨by decide +kernel, by decide +kernel⟩, List.mem_of_getElem? (i := 1158) (by decide +kernel), List.mem_of_getElem? (i := 1414) (by decide +kernel), List.mem_of_getElem? (i := 1415) (by decide +kernel)⟩
theorem lw_p37 : lw_okq (⟨"LooseWaterModel", "stiff", "()I"⟩, 56) := ⟨⟨by decide +kernel, by decide +kernel⟩, List.mem_of_getElem? (i := 1158) (by decide +kernel), List.mem_of_getElem? (i := 1418) (by decide +kernel), List.mem_of_getElem? (i := 1419) (by decide +kernel)⟩
theorem lw_p38 : lw_okq (⟨"LooseWaterModel", "upward", "()J"⟩, 56) := ⟨⟨by decide +kernel, by decide +kernel⟩, List.mem_of_getElem? (i := 1158) (by decide +kernel), List.mem_of_getElem? (i := 1422) (by decide +kernel), List.mem_of_getElem? (i := 1423) (by decide +kernel)⟩
theorem lw_p39 : lw_okq (⟨"LooseWaterModel", "level", "(I)I"⟩, 56) := ⟨⟨by decide +kernel, by decide +kernel⟩, List.mem_of_getElem? (i := 1158) (by decide +kernel), List.mem_of_getElem? (i := 1426) (by decide +kernel), List.mem_of_getElem? (i := 1427) (by decide +kernel)⟩
theorem lw_p40 : lw_okq (⟨"LooseWaterModel", "allRuns", "(I)J"⟩, 56) := ⟨⟨by decide +kernel, by decide +kernel⟩, List.mem_of_getElem? (i := 1158) (by decide +kernel), List.mem_of_getElem? (i := 1436) (by decide +kernel), List.mem_of_getElem? (i := 1437) (by decide +kernel)⟩
theorem lw_p41 : lw_okq (⟨"LooseWaterModel", "runs", "(II)J"⟩, 56) := ⟨⟨by decide +kernel, by decide +kernel⟩, List.mem_of_getElem? (i := 1158) (by decide +kernel), List.mem_of_getElem? (i := 1440) (by decide +kernel), List.mem_of_getElem? (i := 1441) (by decide +kernel)⟩
theorem lw_p42 : lw_okq (⟨"LooseWaterModel", "beat", "()I"⟩, 56) := ⟨⟨by decide +kernel, by decide +kernel⟩, List.mem_of_getElem? (i := 1158) (by decide +kernel), List.mem_of_getElem? (i := 1449) (by decide +kernel), List.mem_of_getElem? (i := 1450) (by decide +kernel)⟩
theorem lw_p43 : lw_okq (⟨"LooseWaterModel", "loll", "()I"⟩, 56) := ⟨⟨by decide +kernel, by decide +kernel⟩, List.mem_of_getElem? (i := 1158) (by decide +kernel), List.mem_of_getElem? (i := 1454) (by decide +kernel), List.mem_of_getElem? (i := 1455) (by decide +kernel)⟩
theorem lw_p44 : lw_okq (⟨"LooseWaterModel", "restBy", "(JI)I"⟩, 56) := ⟨⟨by decide +kernel, by decide +kernel⟩, List.mem_of_getElem? (i := 1158) (by decide +kernel), List.mem_of_getElem? (i := 1458) (by decide +kernel), List.mem_of_getElem? (i := 1459) (by decide +kernel)⟩
theorem lw_p45 : lw_okq (⟨"LooseWaterModel", "turnBy", "(JI)J"⟩, 56) := ⟨⟨by decide +kernel, by decide +kernel⟩, List.mem_of_getElem? (i := 1158) (by decide +kernel), List.mem_of_getElem? (i := 1462) (by decide +kernel), List.mem_of_getElem? (i := 1463) (by decide +kernel)⟩
theorem lw_p46 : lw_okq (⟨"LooseWaterModel", "leverAt", "(I)I"⟩, 56) := ⟨⟨by decide +kernel, by decide +kernel⟩, List.mem_of_getElem? (i := 1158) (by decide +kernel), List.mem_of_getElem? (i := 1469) (by decide +kernel), List.mem_of_getElem? (i := 1470) (by decide +kernel)⟩
theorem lw_p47 : lw_okq (⟨"LooseWaterModel", "range", "()I"⟩, 56) := ⟨⟨by decide +kernel, by decide +kernel⟩, List.mem_of_getElem? (i := 1158) (by decide +kernel), List.mem_of_getElem? (i := 1473) (by decide +kernel), List.mem_of_getElem? (i := 1474) (by decide +kernel)⟩
def lw_privs_3 : List (MethodName × Nat) := [(⟨"LooseWaterModel", "isPlace", "(I)Z"⟩, 56), (⟨"LooseWaterModel", "cap", "(I)I"⟩, 56), (⟨"LooseWaterModel", "isHole", "(IIII)Z"⟩, 56), (⟨"LooseWaterModel", "total", "()I"⟩, 56), (⟨"LooseWaterModel", "draft", "()I"⟩, 56), (⟨"LooseWaterModel", "stiff", "()I"⟩, 56), (⟨"LooseWaterModel", "upward", "()J"⟩, 56), (⟨"LooseWaterModel", "level", "(I)I"⟩, 56), (⟨"LooseWaterModel", "allRuns", "(I)J"⟩, 56), (⟨"LooseWaterModel", "runs", "(II)J"⟩, 56), (⟨"LooseWaterModel", "beat", "()I"⟩, 56), (⟨"LooseWaterModel", "loll", "()I"⟩, 56), (⟨"LooseWaterModel", "restBy", "(JI)I"⟩, 56), (⟨"LooseWaterModel", "turnBy", "(JI)J"⟩, 56), (⟨"LooseWaterModel", "leverAt", "(I)I"⟩, 56), (⟨"LooseWaterModel", "range", "()I"⟩, 56)]
theorem lw_r3 : ∀ q ∈ lw_privs_3, lw_okq q := List.forall_mem_cons.mpr ⟨lw_p32, List.forall_mem_cons.mpr ⟨lw_p33, List.forall_mem_cons.mpr ⟨lw_p34, List.forall_mem_cons.mpr ⟨lw_p35, List.forall_mem_cons.mpr ⟨lw_p36, List.forall_mem_cons.mpr ⟨lw_p37, List.forall_mem_cons.mpr ⟨lw_p38, List.forall_mem_cons.mpr ⟨lw_p39, List.forall_mem_cons.mpr ⟨lw_p40, List.forall_mem_cons.mpr ⟨lw_p41, List.forall_mem_cons.mpr ⟨lw_p42, List.forall_mem_cons.mpr ⟨lw_p43, List.forall_mem_cons.mpr ⟨lw_p44, List.forall_mem_cons.mpr ⟨lw_p45, List.forall_mem_cons.mpr ⟨lw_p46, List.forall_mem_cons.mpr ⟨lw_p47, fun _ h => absurd h List.not_mem_nil⟩⟩⟩⟩⟩⟩⟩⟩⟩⟩⟩⟩⟩⟩⟩⟩
theorem lw_p48 : lw_okq (⟨"LooseWaterModel", "restFrom", "(I)I"⟩, 56) := ⟨⟨by decide +kernel, by decide +kernel⟩, List.mem_of_getElem? (i := 1158) (by decide +kernel), List.mem_of_getElem? (i := 1477) (by decide +kernel), List.mem_of_getElem? (i := 1478) (by decide +kernel)⟩
theorem lw_p49 : lw_okq (⟨"LooseWaterModel", "asideNow", "()J"⟩, 56) := ⟨⟨by decide +kernel, by decide +kernel⟩, List.mem_of_getElem? (i := 1158) (by decide +kernel), List.mem_of_getElem? (i := 1481) (by decide +kernel), List.mem_of_getElem? (i := 1482) (by decide +kernel)⟩
theorem lw_p50 : lw_okq (⟨"LooseWaterModel", "isOver", "()Z"⟩, 56) := ⟨⟨by decide +kernel, by decide +kernel⟩, List.mem_of_getElem? (i := 1158) (by decide +kernel), List.mem_of_getElem? (i := 1485) (by decide +kernel), List.mem_of_getElem? (i := 1486) (by decide +kernel)⟩
theorem lw_p51 : lw_okq (⟨"LooseWaterModel", "insideAt", "(II)I"⟩, 56) := ⟨⟨by decide +kernel, by decide +kernel⟩, List.mem_of_getElem? (i := 1158) (by decide +kernel), List.mem_of_getElem? (i := 1517) (by decide +kernel), List.mem_of_getElem? (i := 1518) (by decide +kernel)⟩
theorem lw_p52 : lw_okq (⟨"LooseWaterModel", "outsideAt", "(I)I"⟩, 56) := ⟨⟨by decide +kernel, by decide +kernel⟩, List.mem_of_getElem? (i := 1158) (by decide +kernel), List.mem_of_getElem? (i := 1528) (by decide +kernel), List.mem_of_getElem? (i := 1529) (by decide +kernel)⟩
theorem lw_p53 : lw_okq (⟨"LooseWaterModel", "isCargo", "(I)Z"⟩, 56) := ⟨⟨by decide +kernel, by decide +kernel⟩, List.mem_of_getElem? (i := 1158) (by decide +kernel), List.mem_of_getElem? (i := 1536) (by decide +kernel), List.mem_of_getElem? (i := 1537) (by decide +kernel)⟩
theorem lw_p54 : lw_okq (⟨"LooseWaterModel", "put", "(I)V"⟩, 56) := ⟨⟨by decide +kernel, by decide +kernel⟩, List.mem_of_getElem? (i := 1158) (by decide +kernel), List.mem_of_getElem? (i := 1544) (by decide +kernel), List.mem_of_getElem? (i := 1545) (by decide +kernel)⟩
theorem lw_p55 : lw_okq (⟨"LooseWaterModel", "clause", "(I)V"⟩, 56) := ⟨⟨by decide +kernel, by decide +kernel⟩, List.mem_of_getElem? (i := 1158) (by decide +kernel), List.mem_of_getElem? (i := 1556) (by decide +kernel), List.mem_of_getElem? (i := 1557) (by decide +kernel)⟩
theorem lw_p56 : lw_okq (⟨"LooseWaterModel", "blanks", "()V"⟩, 56) := ⟨⟨by decide +kernel, by decide +kernel⟩, List.mem_of_getElem? (i := 1158) (by decide +kernel), List.mem_of_getElem? (i := 1560) (by decide +kernel), List.mem_of_getElem? (i := 1561) (by decide +kernel)⟩
theorem lw_p57 : lw_okq (⟨"LooseWaterModel", "sign", "()I"⟩, 56) := ⟨⟨by decide +kernel, by decide +kernel⟩, List.mem_of_getElem? (i := 1158) (by decide +kernel), List.mem_of_getElem? (i := 1564) (by decide +kernel), List.mem_of_getElem? (i := 1565) (by decide +kernel)⟩
theorem lw_p58 : lw_okq (⟨"LooseWaterModel", "stands", "(Ljava/lang/String;)Z"⟩, 56) := ⟨⟨by decide +kernel, by decide +kernel⟩, List.mem_of_getElem? (i := 1158) (by decide +kernel), List.mem_of_getElem? (i := 1576) (by decide +kernel), List.mem_of_getElem? (i := 1577) (by decide +kernel)⟩
theorem lw_p59 : lw_okq (⟨"LooseWaterModel", "fails", "(II)V"⟩, 56) := ⟨⟨by decide +kernel, by decide +kernel⟩, List.mem_of_getElem? (i := 1158) (by decide +kernel), List.mem_of_getElem? (i := 1589) (by decide +kernel), List.mem_of_getElem? (i := 1590) (by decide +kernel)⟩
theorem lw_p60 : lw_okq (⟨"LooseWaterModel", "letter", "()I"⟩, 56) := ⟨⟨by decide +kernel, by decide +kernel⟩, List.mem_of_getElem? (i := 1158) (by decide +kernel), List.mem_of_getElem? (i := 1593) (by decide +kernel), List.mem_of_getElem? (i := 1594) (by decide +kernel)⟩
theorem lw_p61 : lw_okq (⟨"LooseWaterModel", "sum", "()V"⟩, 56) := ⟨⟨by decide +kernel, by decide +kernel⟩, List.mem_of_getElem? (i := 1158) (by decide +kernel), List.mem_of_getElem? (i := 1618) (by decide +kernel), List.mem_of_getElem? (i := 1619) (by decide +kernel)⟩
theorem lw_p62 : lw_okq (⟨"LooseWaterModel", "term", "()V"⟩, 56) := ⟨⟨by decide +kernel, by decide +kernel⟩, List.mem_of_getElem? (i := 1158) (by decide +kernel), List.mem_of_getElem? (i := 1622) (by decide +kernel), List.mem_of_getElem? (i := 1623) (by decide +kernel)⟩
theorem lw_p63 : lw_okq (⟨"LooseWaterModel", "value", "()V"⟩, 56) := ⟨⟨by decide +kernel, by decide +kernel⟩, List.mem_of_getElem? (i := 1158) (by decide +kernel), List.mem_of_getElem? (i := 1626) (by decide +kernel), List.mem_of_getElem? (i := 1627) (by decide +kernel)⟩
def lw_privs_4 : List (MethodName × Nat) := [(⟨"LooseWaterModel", "restFrom", "(I)I"⟩, 56), (⟨"LooseWaterModel", "asideNow", "()J"⟩, 56), (⟨"LooseWaterModel", "isOver", "()Z"⟩, 56), (⟨"LooseWaterModel", "insideAt", "(II)I"⟩, 56), (⟨"LooseWaterModel", "outsideAt", "(I)I"⟩, 56), (⟨"LooseWaterModel", "isCargo", "(I)Z"⟩, 56), (⟨"LooseWaterModel", "put", "(I)V"⟩, 56), (⟨"LooseWaterModel", "clause", "(I)V"⟩, 56), (⟨"LooseWaterModel", "blanks", "()V"⟩, 56), (⟨"LooseWaterModel", "sign", "()I"⟩, 56), (⟨"LooseWaterModel", "stands", "(Ljava/lang/String;)Z"⟩, 56), (⟨"LooseWaterModel", "fails", "(II)V"⟩, 56), (⟨"LooseWaterModel", "letter", "()I"⟩, 56), (⟨"LooseWaterModel", "sum", "()V"⟩, 56), (⟨"LooseWaterModel", "term", "()V"⟩, 56), (⟨"LooseWaterModel", "value", "()V"⟩, 56)]
theorem lw_r4 : ∀ q ∈ lw_privs_4, lw_okq q := List.forall_mem_cons.mpr ⟨lw_p48, List.forall_mem_cons.mpr ⟨lw_p49, List.forall_mem_cons.mpr ⟨lw_p50, List.forall_mem_cons.mpr ⟨lw_p51, List.forall_mem_cons.mpr ⟨lw_p52, List.forall_mem_cons.mpr ⟨lw_p53, List.forall_mem_cons.mpr ⟨lw_p54, List.forall_mem_cons.mpr ⟨lw_p55, List.forall_mem_cons.mpr ⟨lw_p56, List.forall_mem_cons.mpr ⟨lw_p57, List.forall_mem_cons.mpr ⟨lw_p58, List.forall_mem_cons.mpr ⟨lw_p59, List.forall_mem_cons.mpr ⟨lw_p60, List.forall_mem_cons.mpr ⟨lw_p61, List.forall_mem_cons.mpr ⟨lw_p62, List.forall_mem_cons.mpr ⟨lw_p63, fun _ h => absurd h List.not_mem_nil⟩⟩⟩⟩⟩⟩⟩⟩⟩⟩⟩⟩⟩⟩⟩⟩
theorem lw_p64 : lw_okq (⟨"LooseWaterModel", "isDigit", "()Z"⟩, 56) := ⟨⟨by decide +kernel, by decide +kernel⟩, List.mem_of_getElem? (i := 1158) (by decide +kernel), List.mem_of_getElem? (i := 1630) (by decide +kernel), List.mem_of_getElem? (i := 1631) (by decide +kernel)⟩
theorem lw_p65 : lw_okq (⟨"LooseWaterModel", "digits", "(I)I"⟩, 56) := ⟨⟨by decide +kernel, by decide +kernel⟩, List.mem_of_getElem? (i := 1158) (by decide +kernel), List.mem_of_getElem? (i := 1637) (by decide +kernel), List.mem_of_getElem? (i := 1638) (by decide +kernel)⟩
theorem lw_p66 : lw_okq (⟨"LooseWaterModel", "isCounted", "(I)V"⟩, 56) := ⟨⟨by decide +kernel, by decide +kernel⟩, List.mem_of_getElem? (i := 1158) (by decide +kernel), List.mem_of_getElem? (i := 1641) (by decide +kernel), List.mem_of_getElem? (i := 1642) (by decide +kernel)⟩
theorem lw_p67 : lw_okq (⟨"LooseWaterModel", "entry", "(II)V"⟩, 56) := ⟨⟨by decide +kernel, by decide +kernel⟩, List.mem_of_getElem? (i := 1158) (by decide +kernel), List.mem_of_getElem? (i := 1645) (by decide +kernel), List.mem_of_getElem? (i := 1646) (by decide +kernel)⟩
theorem lw_p68 : lw_okq (⟨"LooseWaterModel", "amount", "(I)I"⟩, 56) := ⟨⟨by decide +kernel, by decide +kernel⟩, List.mem_of_getElem? (i := 1158) (by decide +kernel), List.mem_of_getElem? (i := 1649) (by decide +kernel), List.mem_of_getElem? (i := 1650) (by decide +kernel)⟩
theorem lw_p69 : lw_okq (⟨"LooseWaterModel", "takes", "(Ljava/lang/String;)Z"⟩, 56) := ⟨⟨by decide +kernel, by decide +kernel⟩, List.mem_of_getElem? (i := 1158) (by decide +kernel), List.mem_of_getElem? (i := 1654) (by decide +kernel), List.mem_of_getElem? (i := 1655) (by decide +kernel)⟩
theorem lw_p70 : lw_okq (⟨"LooseWaterModel", "test", "()V"⟩, 56) := ⟨⟨by decide +kernel, by decide +kernel⟩, List.mem_of_getElem? (i := 1158) (by decide +kernel), List.mem_of_getElem? (i := 1658) (by decide +kernel), List.mem_of_getElem? (i := 1659) (by decide +kernel)⟩
theorem lw_p71 : lw_okq (⟨"LooseWaterModel", "fact", "()Z"⟩, 56) := ⟨⟨by decide +kernel, by decide +kernel⟩, List.mem_of_getElem? (i := 1158) (by decide +kernel), List.mem_of_getElem? (i := 1662) (by decide +kernel), List.mem_of_getElem? (i := 1663) (by decide +kernel)⟩
theorem lw_p72 : lw_okq (⟨"LooseWaterModel", "opens", "(I)V"⟩, 56) := ⟨⟨by decide +kernel, by decide +kernel⟩, List.mem_of_getElem? (i := 1158) (by decide +kernel), List.mem_of_getElem? (i := 1667) (by decide +kernel), List.mem_of_getElem? (i := 1668) (by decide +kernel)⟩
theorem lw_p73 : lw_okq (⟨"LooseWaterModel", "compared", "()V"⟩, 56) := ⟨⟨by decide +kernel, by decide +kernel⟩, List.mem_of_getElem? (i := 1158) (by decide +kernel), List.mem_of_getElem? (i := 1671) (by decide +kernel), List.mem_of_getElem? (i := 1672) (by decide +kernel)⟩
theorem lw_p74 : lw_okq (⟨"LooseWaterModel", "answers", "(I)V"⟩, 56) := ⟨⟨by decide +kernel, by decide +kernel⟩, List.mem_of_getElem? (i := 1158) (by decide +kernel), List.mem_of_getElem? (i := 1675) (by decide +kernel), List.mem_of_getElem? (i := 1676) (by decide +kernel)⟩
theorem lw_p75 : lw_okq (⟨"LooseWaterModel", "top", "()I"⟩, 56) := ⟨⟨by decide +kernel, by decide +kernel⟩, List.mem_of_getElem? (i := 1158) (by decide +kernel), List.mem_of_getElem? (i := 1679) (by decide +kernel), List.mem_of_getElem? (i := 1680) (by decide +kernel)⟩
theorem lw_p76 : lw_okq (⟨"LooseWaterModel", "isPlan", "(I)Z"⟩, 56) := ⟨⟨by decide +kernel, by decide +kernel⟩, List.mem_of_getElem? (i := 1158) (by decide +kernel), List.mem_of_getElem? (i := 1689) (by decide +kernel), List.mem_of_getElem? (i := 1690) (by decide +kernel)⟩
theorem lw_p77 : lw_okq (⟨"LooseWaterModel", "goesOn", "(II)V"⟩, 56) := ⟨⟨by decide +kernel, by decide +kernel⟩, List.mem_of_getElem? (i := 1158) (by decide +kernel), List.mem_of_getElem? (i := 1693) (by decide +kernel), List.mem_of_getElem? (i := 1694) (by decide +kernel)⟩
theorem lw_p78 : lw_okq (⟨"LooseWaterModel", "goesBy", "(I)V"⟩, 56) := ⟨⟨by decide +kernel, by decide +kernel⟩, List.mem_of_getElem? (i := 1158) (by decide +kernel), List.mem_of_getElem? (i := 1697) (by decide +kernel), List.mem_of_getElem? (i := 1698) (by decide +kernel)⟩
theorem lw_p79 : lw_okq (⟨"LooseWaterModel", "does", "(II)V"⟩, 56) := ⟨⟨by decide +kernel, by decide +kernel⟩, List.mem_of_getElem? (i := 1158) (by decide +kernel), List.mem_of_getElem? (i := 1701) (by decide +kernel), List.mem_of_getElem? (i := 1702) (by decide +kernel)⟩
def lw_privs_5 : List (MethodName × Nat) := [(⟨"LooseWaterModel", "isDigit", "()Z"⟩, 56), (⟨"LooseWaterModel", "digits", "(I)I"⟩, 56), (⟨"LooseWaterModel", "isCounted", "(I)V"⟩, 56), (⟨"LooseWaterModel", "entry", "(II)V"⟩, 56), (⟨"LooseWaterModel", "amount", "(I)I"⟩, 56), (⟨"LooseWaterModel", "takes", "(Ljava/lang/String;)Z"⟩, 56), (⟨"LooseWaterModel", "test", "()V"⟩, 56), (⟨"LooseWaterModel", "fact", "()Z"⟩, 56), (⟨"LooseWaterModel", "opens", "(I)V"⟩, 56), (⟨"LooseWaterModel", "compared", "()V"⟩, 56), (⟨"LooseWaterModel", "answers", "(I)V"⟩, 56), (⟨"LooseWaterModel", "top", "()I"⟩, 56), (⟨"LooseWaterModel", "isPlan", "(I)Z"⟩, 56), (⟨"LooseWaterModel", "goesOn", "(II)V"⟩, 56), (⟨"LooseWaterModel", "goesBy", "(I)V"⟩, 56), (⟨"LooseWaterModel", "does", "(II)V"⟩, 56)]
theorem lw_r5 : ∀ q ∈ lw_privs_5, lw_okq q := List.forall_mem_cons.mpr ⟨lw_p64, List.forall_mem_cons.mpr ⟨lw_p65, List.forall_mem_cons.mpr ⟨lw_p66, List.forall_mem_cons.mpr ⟨lw_p67, List.forall_mem_cons.mpr ⟨lw_p68, List.forall_mem_cons.mpr ⟨lw_p69, List.forall_mem_cons.mpr ⟨lw_p70, List.forall_mem_cons.mpr ⟨lw_p71, List.forall_mem_cons.mpr ⟨lw_p72, List.forall_mem_cons.mpr ⟨lw_p73, List.forall_mem_cons.mpr ⟨lw_p74, List.forall_mem_cons.mpr ⟨lw_p75, List.forall_mem_cons.mpr ⟨lw_p76, List.forall_mem_cons.mpr ⟨lw_p77, List.forall_mem_cons.mpr ⟨lw_p78, List.forall_mem_cons.mpr ⟨lw_p79, fun _ h => absurd h List.not_mem_nil⟩⟩⟩⟩⟩⟩⟩⟩⟩⟩⟩⟩⟩⟩⟩⟩
theorem lw_p80 : lw_okq (⟨"LooseWaterModel", "asks", "()V"⟩, 56) := ⟨⟨by decide +kernel, by decide +kernel⟩, List.mem_of_getElem? (i := 1158) (by decide +kernel), List.mem_of_getElem? (i := 1705) (by decide +kernel), List.mem_of_getElem? (i := 1706) (by decide +kernel)⟩
theorem lw_p81 : lw_okq (⟨"LooseWaterModel", "answer", "(III)J"⟩, 56) := ⟨⟨by decide +kernel, by decide +kernel⟩, List.mem_of_getElem? (i := 1158) (by decide +kernel), List.mem_of_getElem? (i := 1709) (by decide +kernel), List.mem_of_getElem? (i := 1710) (by decide +kernel)⟩
theorem lw_p82 : lw_okq (⟨"LooseWaterModel", "pours", "(II)V"⟩, 56) := ⟨⟨by decide +kernel, by decide +kernel⟩, List.mem_of_getElem? (i := 1158) (by decide +kernel), List.mem_of_getElem? (i := 1719) (by decide +kernel), List.mem_of_getElem? (i := 1720) (by decide +kernel)⟩
theorem lw_p83 : lw_okq (⟨"LooseWaterModel", "crosses", "(III)V"⟩, 56) := ⟨⟨by decide +kernel, by decide +kernel⟩, List.mem_of_getElem? (i := 1158) (by decide +kernel), List.mem_of_getElem? (i := 1723) (by decide +kernel), List.mem_of_getElem? (i := 1724) (by decide +kernel)⟩
theorem lw_p84 : lw_okq (⟨"LooseWaterModel", "doorsGo", "()V"⟩, 56) := ⟨⟨by decide +kernel, by decide +kernel⟩, List.mem_of_getElem? (i := 1158) (by decide +kernel), List.mem_of_getElem? (i := 1727) (by decide +kernel), List.mem_of_getElem? (i := 1728) (by decide +kernel)⟩
theorem lw_p85 : lw_okq (⟨"LooseWaterModel", "portGoes", "(I)V"⟩, 56) := ⟨⟨by decide +kernel, by decide +kernel⟩, List.mem_of_getElem? (i := 1158) (by decide +kernel), List.mem_of_getElem? (i := 1731) (by decide +kernel), List.mem_of_getElem? (i := 1732) (by decide +kernel)⟩
theorem lw_p86 : lw_okq (⟨"LooseWaterModel", "carriesAll", "(IZ)V"⟩, 56) := ⟨⟨by decide +kernel, by decide +kernel⟩, List.mem_of_getElem? (i := 1158) (by decide +kernel), List.mem_of_getElem? (i := 1741) (by decide +kernel), List.mem_of_getElem? (i := 1742) (by decide +kernel)⟩
theorem lw_p87 : lw_okq (⟨"LooseWaterModel", "carry", "([I)V"⟩, 56) := ⟨⟨by decide +kernel, by decide +kernel⟩, List.mem_of_getElem? (i := 1158) (by decide +kernel), List.mem_of_getElem? (i := 1745) (by decide +kernel), List.mem_of_getElem? (i := 1746) (by decide +kernel)⟩
theorem lw_p88 : lw_okq (⟨"LooseWaterModel", "isFilled", "(II)Z"⟩, 56) := ⟨⟨by decide +kernel, by decide +kernel⟩, List.mem_of_getElem? (i := 1158) (by decide +kernel), List.mem_of_getElem? (i := 1771) (by decide +kernel), List.mem_of_getElem? (i := 1772) (by decide +kernel)⟩
theorem lw_p89 : lw_okq (⟨"LooseWaterModel", "isNext", "(I)Z"⟩, 56) := ⟨⟨by decide +kernel, by decide +kernel⟩, List.mem_of_getElem? (i := 1158) (by decide +kernel), List.mem_of_getElem? (i := 1775) (by decide +kernel), List.mem_of_getElem? (i := 1776) (by decide +kernel)⟩
theorem lw_p90 : lw_okq (⟨"LooseWaterModel", "swaps", "(II)V"⟩, 56) := ⟨⟨by decide +kernel, by decide +kernel⟩, List.mem_of_getElem? (i := 1158) (by decide +kernel), List.mem_of_getElem? (i := 1779) (by decide +kernel), List.mem_of_getElem? (i := 1780) (by decide +kernel)⟩
theorem lw_p91 : lw_okq (⟨"LooseWaterModel", "allWater", "()I"⟩, 56) := ⟨⟨by decide +kernel, by decide +kernel⟩, List.mem_of_getElem? (i := 1158) (by decide +kernel), List.mem_of_getElem? (i := 1787) (by decide +kernel), List.mem_of_getElem? (i := 1788) (by decide +kernel)⟩
theorem lw_p92 : lw_okq (⟨"LooseWaterModel", "isBorne", "(II)Z"⟩, 56) := ⟨⟨by decide +kernel, by decide +kernel⟩, List.mem_of_getElem? (i := 1158) (by decide +kernel), List.mem_of_getElem? (i := 1813) (by decide +kernel), List.mem_of_getElem? (i := 1814) (by decide +kernel)⟩
theorem lw_p93 : lw_okq (⟨"LooseWaterModel", "worst", "(IIII)I"⟩, 56) := ⟨⟨by decide +kernel, by decide +kernel⟩, List.mem_of_getElem? (i := 1158) (by decide +kernel), List.mem_of_getElem? (i := 1826) (by decide +kernel), List.mem_of_getElem? (i := 1827) (by decide +kernel)⟩
theorem lw_p94 : lw_okq (⟨"LooseWaterModel", "slopOf", "(I)I"⟩, 56) := ⟨⟨by decide +kernel, by decide +kernel⟩, List.mem_of_getElem? (i := 1158) (by decide +kernel), List.mem_of_getElem? (i := 1834) (by decide +kernel), List.mem_of_getElem? (i := 1835) (by decide +kernel)⟩
def lw_privs_6 : List (MethodName × Nat) := [(⟨"LooseWaterModel", "asks", "()V"⟩, 56), (⟨"LooseWaterModel", "answer", "(III)J"⟩, 56), (⟨"LooseWaterModel", "pours", "(II)V"⟩, 56), (⟨"LooseWaterModel", "crosses", "(III)V"⟩, 56), (⟨"LooseWaterModel", "doorsGo", "()V"⟩, 56), (⟨"LooseWaterModel", "portGoes", "(I)V"⟩, 56), (⟨"LooseWaterModel", "carriesAll", "(IZ)V"⟩, 56), (⟨"LooseWaterModel", "carry", "([I)V"⟩, 56), (⟨"LooseWaterModel", "isFilled", "(II)Z"⟩, 56), (⟨"LooseWaterModel", "isNext", "(I)Z"⟩, 56), (⟨"LooseWaterModel", "swaps", "(II)V"⟩, 56), (⟨"LooseWaterModel", "allWater", "()I"⟩, 56), (⟨"LooseWaterModel", "isBorne", "(II)Z"⟩, 56), (⟨"LooseWaterModel", "worst", "(IIII)I"⟩, 56), (⟨"LooseWaterModel", "slopOf", "(I)I"⟩, 56)]
theorem lw_r6 : ∀ q ∈ lw_privs_6, lw_okq q := List.forall_mem_cons.mpr ⟨lw_p80, List.forall_mem_cons.mpr ⟨lw_p81, List.forall_mem_cons.mpr ⟨lw_p82, List.forall_mem_cons.mpr ⟨lw_p83, List.forall_mem_cons.mpr ⟨lw_p84, List.forall_mem_cons.mpr ⟨lw_p85, List.forall_mem_cons.mpr ⟨lw_p86, List.forall_mem_cons.mpr ⟨lw_p87, List.forall_mem_cons.mpr ⟨lw_p88, List.forall_mem_cons.mpr ⟨lw_p89, List.forall_mem_cons.mpr ⟨lw_p90, List.forall_mem_cons.mpr ⟨lw_p91, List.forall_mem_cons.mpr ⟨lw_p92, List.forall_mem_cons.mpr ⟨lw_p93, List.forall_mem_cons.mpr ⟨lw_p94, fun _ h => absurd h List.not_mem_nil⟩⟩⟩⟩⟩⟩⟩⟩⟩⟩⟩⟩⟩⟩⟩
def lw_privs : List (MethodName × Nat) := lw_privs_1 ++ (lw_privs_2 ++ (lw_privs_3 ++ (lw_privs_4 ++ (lw_privs_5 ++ (lw_privs_6)))))
def lw_tbl : List Cond := k2_sels lw_privs ++ tables_1
theorem lw_privs_ok : ∀ q ∈ lw_privs, lw_okq q := by
  show ∀ q ∈ lw_privs_1 ++ (lw_privs_2 ++ (lw_privs_3 ++ (lw_privs_4 ++ (lw_privs_5 ++ (lw_privs_6))))), lw_okq q
  exact List.forall_mem_append.mpr ⟨lw_r1, List.forall_mem_append.mpr ⟨lw_r2, List.forall_mem_append.mpr ⟨lw_r3, List.forall_mem_append.mpr ⟨lw_r4, List.forall_mem_append.mpr ⟨lw_r5, lw_r6⟩⟩⟩⟩⟩
end
section
def RX0 : String := "LooseWater$Balance"
def TX0 : u_T := fun k => match k with
  | 0 => ("LooseWater$Balance", "arms", "[I", false)
  | 1 => ("LooseWater$Balance", "breadth", "I", false)
  | 2 => ("LooseWater$Balance", "total", "J", false)
  | 3 => ("LooseWater$Balance", "upward", "J", false)
  | 4 => ("LooseWater$Balance", "moment", "J", false)
  | 5 => ("LooseWater$Balance", "loose", "I", false)
  | 6 => ("LooseWater$Balance", "spread", "[J", true)
  | _ => ("LooseWater$Balance", "bulk", "[J", true)
def tyX0 : Nat → FieldType := fun k => match k with
  | 0 => .array .int
  | 1 => .int
  | 2 => .long
  | 3 => .long
  | 4 => .long
  | 5 => .int
  | 6 => .array .long
  | _ => .array .long
abbrev wsX00 : List Cond := u_ws RX0 TX0 8
theorem nmX0 : ∀ a, a < 8 → ∀ b, b < 8 → a ≠ b → (TX0 a).2.1 ≠ (TX0 b).2.1 := by decide +kernel
theorem tyX0_ok : ∀ k, k < 8 → parseFieldDescriptor (TX0 k).2.2.1 = some (tyX0 k) := by decide +kernel
def RX1 : String := "LooseWater$BestSearch"
def TX1 : u_T := fun k => match k with
  | 0 => ("LooseWater$BestSearch", "rounds", "LLooseWater$Rounds;", true)
  | 1 => ("LooseWater$BestSearch", "planned", "I", false)
  | 2 => ("LooseWater$BestSearch", "stages", "I", false)
  | 3 => ("LooseWater$BestSearch", "length", "I", false)
  | 4 => ("LooseWater$BestSearch", "tried", "[I", true)
  | 5 => ("LooseWater$BestSearch", "row", "[I", true)
  | 6 => ("LooseWater$BestSearch", "least", "I", false)
  | _ => ("LooseWater$BestSearch", "states", "[I", true)
def tyX1 : Nat → FieldType := fun k => match k with
  | 0 => .object "LooseWater$Rounds"
  | 1 => .int
  | 2 => .int
  | 3 => .int
  | 4 => .array .int
  | 5 => .array .int
  | 6 => .int
  | _ => .array .int
abbrev wsX10 : List Cond := u_ws RX1 TX1 8
theorem nmX1 : ∀ a, a < 8 → ∀ b, b < 8 → a ≠ b → (TX1 a).2.1 ≠ (TX1 b).2.1 := by decide +kernel
theorem tyX1_ok : ∀ k, k < 8 → parseFieldDescriptor (TX1 k).2.2.1 = some (tyX1 k) := by decide +kernel
def RX2 : String := "LooseWater$Cargoes"
def TX2 : u_T := fun k => match k with
  | 0 => ("LooseWater$Cargoes", "size", "I", false)
  | 1 => ("LooseWater$Cargoes", "weight", "[I", true)
  | 2 => ("LooseWater$Cargoes", "height", "[I", true)
  | 3 => ("LooseWater$Cargoes", "angle", "[I", true)
  | 4 => ("LooseWater$Cargoes", "slide", "[I", true)
  | _ => ("LooseWater$Cargoes", "slid", "[I", true)
def tyX2 : Nat → FieldType := fun k => match k with
  | 0 => .int
  | 1 => .array .int
  | 2 => .array .int
  | 3 => .array .int
  | 4 => .array .int
  | _ => .array .int
abbrev wsX20 : List Cond := u_ws RX2 TX2 6
theorem nmX2 : ∀ a, a < 6 → ∀ b, b < 6 → a ≠ b → (TX2 a).2.1 ≠ (TX2 b).2.1 := by decide +kernel
theorem tyX2_ok : ∀ k, k < 6 → parseFieldDescriptor (TX2 k).2.2.1 = some (tyX2 k) := by decide +kernel
def RX3 : String := "LooseWater$Loads"
def TX3 : u_T := fun k => match k with
  | 0 => ("LooseWater$Loads", "size", "I", false)
  | 1 => ("LooseWater$Loads", "weight", "[I", true)
  | _ => ("LooseWater$Loads", "height", "[I", true)
def tyX3 : Nat → FieldType := fun k => match k with
  | 0 => .int
  | 1 => .array .int
  | _ => .array .int
abbrev wsX30 : List Cond := u_ws RX3 TX3 3
theorem nmX3 : ∀ a, a < 3 → ∀ b, b < 3 → a ≠ b → (TX3 a).2.1 ≠ (TX3 b).2.1 := by decide +kernel
theorem tyX3_ok : ∀ k, k < 3 → parseFieldDescriptor (TX3 k).2.2.1 = some (tyX3 k) := by decide +kernel
def RX4 : String := "LooseWater$Openings"
def TX4 : u_T := fun k => match k with
  | 0 => ("LooseWater$Openings", "size", "I", false)
  | 1 => ("LooseWater$Openings", "place", "[I", true)
  | 2 => ("LooseWater$Openings", "side", "[I", true)
  | 3 => ("LooseWater$Openings", "sill", "[I", true)
  | _ => ("LooseWater$Openings", "width", "[I", true)
def tyX4 : Nat → FieldType := fun k => match k with
  | 0 => .int
  | 1 => .array .int
  | 2 => .array .int
  | 3 => .array .int
  | _ => .array .int
abbrev wsX40 : List Cond := u_ws RX4 TX4 5
theorem nmX4 : ∀ a, a < 5 → ∀ b, b < 5 → a ≠ b → (TX4 a).2.1 ≠ (TX4 b).2.1 := by decide +kernel
theorem tyX4_ok : ∀ k, k < 5 → parseFieldDescriptor (TX4 k).2.2.1 = some (tyX4 k) := by decide +kernel
def RX5 : String := "LooseWater$OrderSearch"
def TX5 : u_T := fun k => match k with
  | 0 => ("LooseWater$OrderSearch", "balance", "LLooseWater$Balance;", true)
  | 1 => ("LooseWater$OrderSearch", "members", "[I", true)
  | 2 => ("LooseWater$OrderSearch", "size", "I", false)
  | 3 => ("LooseWater$OrderSearch", "bound", "I", false)
  | 4 => ("LooseWater$OrderSearch", "row", "[I", true)
  | _ => ("LooseWater$OrderSearch", "hopeless", "[J", true)
def tyX5 : Nat → FieldType := fun k => match k with
  | 0 => .object "LooseWater$Balance"
  | 1 => .array .int
  | 2 => .int
  | 3 => .int
  | 4 => .array .int
  | _ => .array .long
abbrev wsX50 : List Cond := u_ws RX5 TX5 6
theorem nmX5 : ∀ a, a < 6 → ∀ b, b < 6 → a ≠ b → (TX5 a).2.1 ≠ (TX5 b).2.1 := by decide +kernel
theorem tyX5_ok : ∀ k, k < 6 → parseFieldDescriptor (TX5 k).2.2.1 = some (tyX5 k) := by decide +kernel
def RX6 : String := "LooseWater$Places"
def TX6 : u_T := fun k => match k with
  | 0 => ("LooseWater$Places", "size", "I", false)
  | 1 => ("LooseWater$Places", "bottom", "[I", true)
  | 2 => ("LooseWater$Places", "depth", "[I", true)
  | 3 => ("LooseWater$Places", "breadth", "[I", true)
  | 4 => ("LooseWater$Places", "length", "[I", true)
  | 5 => ("LooseWater$Places", "walls", "[I", true)
  | 6 => ("LooseWater$Places", "off", "[I", true)
  | 7 => ("LooseWater$Places", "cap", "[I", true)
  | 8 => ("LooseWater$Places", "water", "[I", true)
  | 9 => ("LooseWater$Places", "level", "[I", true)
  | 10 => ("LooseWater$Places", "spread", "[J", true)
  | _ => ("LooseWater$Places", "bulk", "[I", true)
def tyX6 : Nat → FieldType := fun k => match k with
  | 0 => .int
  | 1 => .array .int
  | 2 => .array .int
  | 3 => .array .int
  | 4 => .array .int
  | 5 => .array .int
  | 6 => .array .int
  | 7 => .array .int
  | 8 => .array .int
  | 9 => .array .int
  | 10 => .array .long
  | _ => .array .int
abbrev wsX60 : List Cond := u_ws RX6 TX6 12
theorem nmX6 : ∀ a, a < 12 → ∀ b, b < 12 → a ≠ b → (TX6 a).2.1 ≠ (TX6 b).2.1 := by decide +kernel
theorem tyX6_ok : ∀ k, k < 12 → parseFieldDescriptor (TX6 k).2.2.1 = some (tyX6 k) := by decide +kernel
def RX7 : String := "LooseWater$Plan"
def TX7 : u_T := fun k => match k with
  | 0 => ("LooseWater$Plan", "clauses", "I", false)
  | 1 => ("LooseWater$Plan", "verb", "[I", true)
  | 2 => ("LooseWater$Plan", "first", "[I", true)
  | 3 => ("LooseWater$Plan", "second", "[I", true)
  | 4 => ("LooseWater$Plan", "figure", "[I", true)
  | 5 => ("LooseWater$Plan", "sumFrom", "[I", true)
  | 6 => ("LooseWater$Plan", "testFrom", "[I", true)
  | 7 => ("LooseWater$Plan", "testTo", "[I", true)
  | 8 => ("LooseWater$Plan", "coded", "I", false)
  | _ => ("LooseWater$Plan", "code", "[I", true)
def tyX7 : Nat → FieldType := fun k => match k with
  | 0 => .int
  | 1 => .array .int
  | 2 => .array .int
  | 3 => .array .int
  | 4 => .array .int
  | 5 => .array .int
  | 6 => .array .int
  | 7 => .array .int
  | 8 => .int
  | _ => .array .int
abbrev wsX70 : List Cond := u_ws RX7 TX7 10
theorem nmX7 : ∀ a, a < 10 → ∀ b, b < 10 → a ≠ b → (TX7 a).2.1 ≠ (TX7 b).2.1 := by decide +kernel
theorem tyX7_ok : ∀ k, k < 10 → parseFieldDescriptor (TX7 k).2.2.1 = some (tyX7 k) := by decide +kernel
def RX8 : String := "LooseWater$Reader"
def TX8 : u_T := fun k => match k with
  | 0 => ("LooseWater$Reader", "draft", "LLooseWater$Plan;", true)
  | 1 => ("LooseWater$Reader", "tokens", "I", false)
  | 2 => ("LooseWater$Reader", "kinds", "[I", true)
  | 3 => ("LooseWater$Reader", "starts", "[I", true)
  | 4 => ("LooseWater$Reader", "numbers", "[I", true)
  | 5 => ("LooseWater$Reader", "at", "I", false)
  | 6 => ("LooseWater$Reader", "counted", "I", false)
  | _ => ("LooseWater$Reader", "fault", "I", false)
def tyX8 : Nat → FieldType := fun k => match k with
  | 0 => .object "LooseWater$Plan"
  | 1 => .int
  | 2 => .array .int
  | 3 => .array .int
  | 4 => .array .int
  | 5 => .int
  | 6 => .int
  | _ => .int
abbrev wsX80 : List Cond := u_ws RX8 TX8 8
theorem nmX8 : ∀ a, a < 8 → ∀ b, b < 8 → a ≠ b → (TX8 a).2.1 ≠ (TX8 b).2.1 := by decide +kernel
theorem tyX8_ok : ∀ k, k < 8 → parseFieldDescriptor (TX8 k).2.2.1 = some (tyX8 k) := by decide +kernel
def RX9 : String := "LooseWater$Rounds"
def TX9 : u_T := fun k => match k with
  | 0 => ("LooseWater$Rounds", "balance", "LLooseWater$Balance;", true)
  | _ => ("LooseWater$Rounds", "stack", "[J", true)
def tyX9 : Nat → FieldType := fun k => match k with
  | 0 => .object "LooseWater$Balance"
  | _ => .array .long
abbrev wsX90 : List Cond := u_ws RX9 TX9 2
theorem nmX9 : ∀ a, a < 2 → ∀ b, b < 2 → a ≠ b → (TX9 a).2.1 ≠ (TX9 b).2.1 := by decide +kernel
theorem tyX9_ok : ∀ k, k < 2 → parseFieldDescriptor (TX9 k).2.2.1 = some (tyX9 k) := by decide +kernel
def RX10 : String := "LooseWater$Ship"
def TX10 : u_T := fun k => match k with
  | 0 => ("LooseWater$Ship", "begun", "Z", false)
  | 1 => ("LooseWater$Ship", "breadth", "I", false)
  | 2 => ("LooseWater$Ship", "weight", "I", false)
  | 3 => ("LooseWater$Ship", "height", "I", false)
  | 4 => ("LooseWater$Ship", "takes", "I", false)
  | 5 => ("LooseWater$Ship", "aside", "I", false)
  | 6 => ("LooseWater$Ship", "pace", "I", false)
  | 7 => ("LooseWater$Ship", "lean", "I", false)
  | 8 => ("LooseWater$Ship", "round", "I", false)
  | 9 => ("LooseWater$Ship", "total", "I", false)
  | 10 => ("LooseWater$Ship", "arms", "[I", true)
  | 11 => ("LooseWater$Ship", "places", "LLooseWater$Places;", true)
  | 12 => ("LooseWater$Ship", "cargoes", "LLooseWater$Cargoes;", true)
  | 13 => ("LooseWater$Ship", "doors", "LLooseWater$Openings;", true)
  | 14 => ("LooseWater$Ship", "ports", "LLooseWater$Openings;", true)
  | _ => ("LooseWater$Ship", "loads", "LLooseWater$Loads;", true)
def tyX10 : Nat → FieldType := fun k => match k with
  | 0 => .boolean
  | 1 => .int
  | 2 => .int
  | 3 => .int
  | 4 => .int
  | 5 => .int
  | 6 => .int
  | 7 => .int
  | 8 => .int
  | 9 => .int
  | 10 => .array .int
  | 11 => .object "LooseWater$Places"
  | 12 => .object "LooseWater$Cargoes"
  | 13 => .object "LooseWater$Openings"
  | 14 => .object "LooseWater$Openings"
  | _ => .object "LooseWater$Loads"
abbrev wsX100 : List Cond := u_ws RX10 TX10 16
theorem nmX10 : ∀ a, a < 16 → ∀ b, b < 16 → a ≠ b → (TX10 a).2.1 ≠ (TX10 b).2.1 := by decide +kernel
theorem tyX10_ok : ∀ k, k < 16 → parseFieldDescriptor (TX10 k).2.2.1 = some (tyX10 k) := by decide +kernel
def RX11 : String := "LooseWater"
def TX11 : u_T := fun k => match k with
  | 0 => ("LooseWater", "vessel", "LLooseWater$Ship;", true)
  | 1 => ("LooseWater", "images", "[LLooseWater$Ship;", true)
  | 2 => ("LooseWater", "plans", "[LLooseWater$Plan;", true)
  | 3 => ("LooseWater", "planned", "I", false)
  | 4 => ("LooseWater", "tape", "[I", true)
  | 5 => ("LooseWater", "taped", "I", false)
  | 6 => ("LooseWater", "reader", "LLooseWater$Reader;", true)
  | 7 => ("LooseWater", "balance", "LLooseWater$Balance;", true)
  | 8 => ("LooseWater", "rounds", "LLooseWater$Rounds;", true)
  | 9 => ("LooseWater", "orders", "LLooseWater$OrderSearch;", true)
  | 10 => ("LooseWater", "bests", "LLooseWater$BestSearch;", true)
  | _ => ("LooseWater", "kept", "[I", true)
def tyX11 : Nat → FieldType := fun k => match k with
  | 0 => .object "LooseWater$Ship"
  | 1 => .array (.object "LooseWater$Ship")
  | 2 => .array (.object "LooseWater$Plan")
  | 3 => .int
  | 4 => .array .int
  | 5 => .int
  | 6 => .object "LooseWater$Reader"
  | 7 => .object "LooseWater$Balance"
  | 8 => .object "LooseWater$Rounds"
  | 9 => .object "LooseWater$OrderSearch"
  | 10 => .object "LooseWater$BestSearch"
  | _ => .array .int
abbrev wsX110 : List Cond := u_ws RX11 TX11 12
theorem nmX11 : ∀ a, a < 12 → ∀ b, b < 12 → a ≠ b → (TX11 a).2.1 ≠ (TX11 b).2.1 := by decide +kernel
theorem tyX11_ok : ∀ k, k < 12 → parseFieldDescriptor (TX11 k).2.2.1 = some (tyX11 k) := by decide +kernel
def RX12 : String := "LooseWaterModel"
def TX12 : u_T := fun k => match k with
  | 0 => ("LooseWaterModel", "thrown", "I", false)
  | 1 => ("LooseWaterModel", "scalar", "[I", true)
  | 2 => ("LooseWaterModel", "levers", "[I", true)
  | 3 => ("LooseWaterModel", "loadWeight", "[I", true)
  | 4 => ("LooseWaterModel", "loadHeight", "[I", true)
  | 5 => ("LooseWaterModel", "bottom", "[I", true)
  | 6 => ("LooseWaterModel", "depth", "[I", true)
  | 7 => ("LooseWaterModel", "breadth", "[I", true)
  | 8 => ("LooseWaterModel", "length", "[I", true)
  | 9 => ("LooseWaterModel", "parted", "[I", true)
  | 10 => ("LooseWaterModel", "off", "[I", true)
  | 11 => ("LooseWaterModel", "wet", "[I", true)
  | 12 => ("LooseWaterModel", "cargoWeight", "[I", true)
  | 13 => ("LooseWaterModel", "cargoHeight", "[I", true)
  | 14 => ("LooseWaterModel", "cargoAngle", "[I", true)
  | 15 => ("LooseWaterModel", "cargoSlide", "[I", true)
  | 16 => ("LooseWaterModel", "cargoSlid", "[I", true)
  | 17 => ("LooseWaterModel", "doorPlace", "[I", true)
  | 18 => ("LooseWaterModel", "doorSide", "[I", true)
  | 19 => ("LooseWaterModel", "doorSill", "[I", true)
  | 20 => ("LooseWaterModel", "doorWidth", "[I", true)
  | 21 => ("LooseWaterModel", "portPlace", "[I", true)
  | 22 => ("LooseWaterModel", "portSide", "[I", true)
  | 23 => ("LooseWaterModel", "portSill", "[I", true)
  | 24 => ("LooseWaterModel", "portWidth", "[I", true)
  | 25 => ("LooseWaterModel", "moreWeight", "I", false)
  | 26 => ("LooseWaterModel", "moreUp", "J", false)
  | 27 => ("LooseWaterModel", "taped", "I", false)
  | 28 => ("LooseWaterModel", "p", "I", false)
  | 29 => ("LooseWaterModel", "fault", "I", false)
  | 30 => ("LooseWaterModel", "slot", "I", false)
  | 31 => ("LooseWaterModel", "plans", "I", false)
  | 32 => ("LooseWaterModel", "entries", "I", false)
  | 33 => ("LooseWaterModel", "deep", "I", false)
  | 34 => ("LooseWaterModel", "counted", "I", false)
  | 35 => ("LooseWaterModel", "opened", "I", false)
  | 36 => ("LooseWaterModel", "words", "I", false)
  | 37 => ("LooseWaterModel", "tape", "[B", true)
  | 38 => ("LooseWaterModel", "sort", "[I", true)
  | 39 => ("LooseWaterModel", "number", "[I", true)
  | 40 => ("LooseWaterModel", "clauses", "[I", true)
  | 41 => ("LooseWaterModel", "told", "[I", true)
  | 42 => ("LooseWaterModel", "first", "[I", true)
  | 43 => ("LooseWaterModel", "second", "[I", true)
  | 44 => ("LooseWaterModel", "much", "[I", true)
  | 45 => ("LooseWaterModel", "sumAt", "[I", true)
  | 46 => ("LooseWaterModel", "testAt", "[I", true)
  | 47 => ("LooseWaterModel", "endAt", "[I", true)
  | 48 => ("LooseWaterModel", "open", "[I", true)
  | 49 => ("LooseWaterModel", "asked", "[J", true)
  | 50 => ("LooseWaterModel", "stack", "[J", true)
  | 51 => ("LooseWaterModel", "images", "[I", true)
  | 52 => ("LooseWaterModel", "isMade", "[Z", true)
  | 53 => ("LooseWaterModel", "imageAt", "I", false)
  | 54 => ("LooseWaterModel", "goesBack", "Z", false)
  | _ => ("LooseWaterModel", "row", "[I", true)
def tyX12 : Nat → FieldType := fun k => match k with
  | 0 => .int
  | 1 => .array .int
  | 2 => .array .int
  | 3 => .array .int
  | 4 => .array .int
  | 5 => .array .int
  | 6 => .array .int
  | 7 => .array .int
  | 8 => .array .int
  | 9 => .array .int
  | 10 => .array .int
  | 11 => .array .int
  | 12 => .array .int
  | 13 => .array .int
  | 14 => .array .int
  | 15 => .array .int
  | 16 => .array .int
  | 17 => .array .int
  | 18 => .array .int
  | 19 => .array .int
  | 20 => .array .int
  | 21 => .array .int
  | 22 => .array .int
  | 23 => .array .int
  | 24 => .array .int
  | 25 => .int
  | 26 => .long
  | 27 => .int
  | 28 => .int
  | 29 => .int
  | 30 => .int
  | 31 => .int
  | 32 => .int
  | 33 => .int
  | 34 => .int
  | 35 => .int
  | 36 => .int
  | 37 => .array .byte
  | 38 => .array .int
  | 39 => .array .int
  | 40 => .array .int
  | 41 => .array .int
  | 42 => .array .int
  | 43 => .array .int
  | 44 => .array .int
  | 45 => .array .int
  | 46 => .array .int
  | 47 => .array .int
  | 48 => .array .int
  | 49 => .array .long
  | 50 => .array .long
  | 51 => .array .int
  | 52 => .array .boolean
  | 53 => .int
  | 54 => .boolean
  | _ => .array .int
abbrev wsX120 : List Cond := u_ws RX12 TX12 56
theorem nmX12 : ∀ a, a < 56 → ∀ b, b < 56 → a ≠ b → (TX12 a).2.1 ≠ (TX12 b).2.1 := by decide +kernel
theorem tyX12_ok : ∀ k, k < 56 → parseFieldDescriptor (TX12 k).2.2.1 = some (tyX12 k) := by decide +kernel
abbrev cX0_init : ByteArray := prog_2_method_1_code
def yX0_init : MethodName := ⟨"LooseWater$Balance", "<init>", "()V"⟩
abbrev cX0_take : ByteArray := prog_2_method_2_code
def yX0_take : MethodName := ⟨"LooseWater$Balance", "take", "(LLooseWater$Ship;)V"⟩
abbrev cX0_bear : ByteArray := prog_2_method_3_code
def yX0_bear : MethodName := ⟨"LooseWater$Balance", "bear", "(II)V"⟩
abbrev cX0_upsetting : ByteArray := prog_2_method_4_code
def yX0_upsetting : MethodName := ⟨"LooseWater$Balance", "upsetting", "(I)J"⟩
abbrev cX0_turning : ByteArray := prog_2_method_5_code
def yX0_turning : MethodName := ⟨"LooseWater$Balance", "turning", "(I)J"⟩
abbrev cX0_restFrom : ByteArray := prog_2_method_6_code
def yX0_restFrom : MethodName := ⟨"LooseWater$Balance", "restFrom", "(II)I"⟩
abbrev cX0_stiffness : ByteArray := prog_2_method_7_code
def yX0_stiffness : MethodName := ⟨"LooseWater$Balance", "stiffness", "()J"⟩
abbrev cX0_beat : ByteArray := prog_2_method_8_code
def yX0_beat : MethodName := ⟨"LooseWater$Balance", "beat", "()I"⟩
abbrev cX0_lolls : ByteArray := prog_2_method_9_code
def yX0_lolls : MethodName := ⟨"LooseWater$Balance", "lolls", "()Z"⟩
abbrev cX0_loll : ByteArray := prog_2_method_10_code
def yX0_loll : MethodName := ⟨"LooseWater$Balance", "loll", "()I"⟩
abbrev cX0_range : ByteArray := prog_2_method_11_code
def yX0_range : MethodName := ⟨"LooseWater$Balance", "range", "(I)I"⟩
abbrev cX1_init : ByteArray := prog_3_method_1_code
def yX1_init : MethodName := ⟨"LooseWater$BestSearch", "<init>", "()V"⟩
abbrev cX1_begin : ByteArray := prog_3_method_2_code
def yX1_begin : MethodName := ⟨"LooseWater$BestSearch", "begin", "(LLooseWater$Ship;III)V"⟩
abbrev cX1_extend : ByteArray := prog_3_method_3_code
def yX1_extend : MethodName := ⟨"LooseWater$BestSearch", "extend", "(LLooseWater$Ship;[LLooseWater$Plan;II)V"⟩
abbrev cX2_init : ByteArray := prog_4_method_1_code
def yX2_init : MethodName := ⟨"LooseWater$Cargoes", "<init>", "()V"⟩
abbrev cX2_add : ByteArray := prog_4_method_2_code
def yX2_add : MethodName := ⟨"LooseWater$Cargoes", "add", "(IIII)I"⟩
abbrev cX2_giveWay : ByteArray := prog_4_method_3_code
def yX2_giveWay : MethodName := ⟨"LooseWater$Cargoes", "giveWay", "(I)V"⟩
abbrev cX2_copy : ByteArray := prog_4_method_4_code
def yX2_copy : MethodName := ⟨"LooseWater$Cargoes", "copy", "(LLooseWater$Cargoes;)V"⟩
abbrev cX3_init : ByteArray := prog_5_method_1_code
def yX3_init : MethodName := ⟨"LooseWater$Loads", "<init>", "()V"⟩
abbrev cX3_add : ByteArray := prog_5_method_2_code
def yX3_add : MethodName := ⟨"LooseWater$Loads", "add", "(II)I"⟩
abbrev cX3_copy : ByteArray := prog_5_method_3_code
def yX3_copy : MethodName := ⟨"LooseWater$Loads", "copy", "(LLooseWater$Loads;)V"⟩
abbrev cX4_init : ByteArray := prog_6_method_1_code
def yX4_init : MethodName := ⟨"LooseWater$Openings", "<init>", "()V"⟩
abbrev cX4_add : ByteArray := prog_6_method_2_code
def yX4_add : MethodName := ⟨"LooseWater$Openings", "add", "(IIII)I"⟩
abbrev cX4_copy : ByteArray := prog_6_method_3_code
def yX4_copy : MethodName := ⟨"LooseWater$Openings", "copy", "(LLooseWater$Openings;)V"⟩
abbrev cX5_init : ByteArray := prog_7_method_1_code
def yX5_init : MethodName := ⟨"LooseWater$OrderSearch", "<init>", "()V"⟩
abbrev cX5_find : ByteArray := prog_7_method_2_code
def yX5_find : MethodName := ⟨"LooseWater$OrderSearch", "find", "(LLooseWater$Ship;II)Z"⟩
abbrev cX5_extend : ByteArray := prog_7_method_3_code
def yX5_extend : MethodName := ⟨"LooseWater$OrderSearch", "extend", "(LLooseWater$Ship;III)Z"⟩
abbrev cX5_fillUp : ByteArray := prog_7_method_4_code
def yX5_fillUp : MethodName := ⟨"LooseWater$OrderSearch", "fillUp", "(LLooseWater$Ship;II)I"⟩
abbrev cX6_init : ByteArray := prog_8_method_1_code
def yX6_init : MethodName := ⟨"LooseWater$Places", "<init>", "()V"⟩
abbrev cX6_add : ByteArray := prog_8_method_2_code
def yX6_add : MethodName := ⟨"LooseWater$Places", "add", "(IIII)I"⟩
abbrev cX6_part : ByteArray := prog_8_method_3_code
def yX6_part : MethodName := ⟨"LooseWater$Places", "part", "(II)V"⟩
abbrev cX6_hold : ByteArray := prog_8_method_4_code
def yX6_hold : MethodName := ⟨"LooseWater$Places", "hold", "(II)V"⟩
abbrev cX6_hundredths : ByteArray := prog_8_method_5_code
def yX6_hundredths : MethodName := ⟨"LooseWater$Places", "hundredths", "(II)I"⟩
abbrev cX6_allWater : ByteArray := prog_8_method_6_code
def yX6_allWater : MethodName := ⟨"LooseWater$Places", "allWater", "()I"⟩
abbrev cX6_sloshing : ByteArray := prog_8_method_7_code
def yX6_sloshing : MethodName := ⟨"LooseWater$Places", "sloshing", "(I)I"⟩
abbrev cX6_copy : ByteArray := prog_8_method_8_code
def yX6_copy : MethodName := ⟨"LooseWater$Places", "copy", "(LLooseWater$Places;)V"⟩
abbrev cX7_init : ByteArray := prog_9_method_1_code
def yX7_init : MethodName := ⟨"LooseWater$Plan", "<init>", "()V"⟩
abbrev cX7_copy : ByteArray := prog_9_method_2_code
def yX7_copy : MethodName := ⟨"LooseWater$Plan", "copy", "(LLooseWater$Plan;)V"⟩
abbrev cX8_init : ByteArray := prog_10_method_1_code
def yX8_init : MethodName := ⟨"LooseWater$Reader", "<init>", "()V"⟩
abbrev cX8_read : ByteArray := prog_10_method_2_code
def yX8_read : MethodName := ⟨"LooseWater$Reader", "read", "([II)I"⟩
abbrev cX8_scan : ByteArray := prog_10_method_3_code
def yX8_scan : MethodName := ⟨"LooseWater$Reader", "scan", "([II)V"⟩
abbrev cX8_put : ByteArray := prog_10_method_4_code
def yX8_put : MethodName := ⟨"LooseWater$Reader", "put", "(III)V"⟩
abbrev cX8_rangeEnd : ByteArray := prog_10_method_5_code
def yX8_rangeEnd : MethodName := ⟨"LooseWater$Reader", "rangeEnd", "([IIIII)I"⟩
abbrev cX8_numeral : ByteArray := prog_10_method_6_code
def yX8_numeral : MethodName := ⟨"LooseWater$Reader", "numeral", "([III)I"⟩
abbrev cX8_wordAt : ByteArray := prog_10_method_7_code
def yX8_wordAt : MethodName := ⟨"LooseWater$Reader", "wordAt", "([III)I"⟩
abbrev cX8_matches : ByteArray := prog_10_method_8_code
def yX8_matches : MethodName := ⟨"LooseWater$Reader", "matches", "([IIII)Z"⟩
abbrev cX8_signOf : ByteArray := prog_10_method_9_code
def yX8_signOf : MethodName := ⟨"LooseWater$Reader", "signOf", "(IZ)I"⟩
abbrev cX8_token : ByteArray := prog_10_method_10_code
def yX8_token : MethodName := ⟨"LooseWater$Reader", "token", "()I"⟩
abbrev cX8_fail : ByteArray := prog_10_method_11_code
def yX8_fail : MethodName := ⟨"LooseWater$Reader", "fail", "(I)Z"⟩
abbrev cX8_emit : ByteArray := prog_10_method_12_code
def yX8_emit : MethodName := ⟨"LooseWater$Reader", "emit", "(I)V"⟩
abbrev cX8_clause : ByteArray := prog_10_method_13_code
def yX8_clause : MethodName := ⟨"LooseWater$Reader", "clause", "(I)Z"⟩
abbrev cX8_placeName : ByteArray := prog_10_method_14_code
def yX8_placeName : MethodName := ⟨"LooseWater$Reader", "placeName", "([II)Z"⟩
abbrev cX8_figure : ByteArray := prog_10_method_15_code
def yX8_figure : MethodName := ⟨"LooseWater$Reader", "figure", "(II)Z"⟩
abbrev cX8_test : ByteArray := prog_10_method_16_code
def yX8_test : MethodName := ⟨"LooseWater$Reader", "test", "(I)Z"⟩
abbrev cX8_fact : ByteArray := prog_10_method_17_code
def yX8_fact : MethodName := ⟨"LooseWater$Reader", "fact", "(I)Z"⟩
abbrev cX8_comparison : ByteArray := prog_10_method_18_code
def yX8_comparison : MethodName := ⟨"LooseWater$Reader", "comparison", "()Z"⟩
abbrev cX8_sum : ByteArray := prog_10_method_19_code
def yX8_sum : MethodName := ⟨"LooseWater$Reader", "sum", "()Z"⟩
abbrev cX8_value : ByteArray := prog_10_method_20_code
def yX8_value : MethodName := ⟨"LooseWater$Reader", "value", "()Z"⟩
abbrev cX9_init : ByteArray := prog_11_method_1_code
def yX9_init : MethodName := ⟨"LooseWater$Rounds", "<init>", "()V"⟩
abbrev cX9_go : ByteArray := prog_11_method_2_code
def yX9_go : MethodName := ⟨"LooseWater$Rounds", "go", "(LLooseWater$Ship;LLooseWater$Plan;)V"⟩
abbrev cX9_applies : ByteArray := prog_11_method_3_code
def yX9_applies : MethodName := ⟨"LooseWater$Rounds", "applies", "(LLooseWater$Ship;LLooseWater$Plan;I)Z"⟩
abbrev cX9_act : ByteArray := prog_11_method_4_code
def yX9_act : MethodName := ⟨"LooseWater$Rounds", "act", "(LLooseWater$Ship;LLooseWater$Plan;I)V"⟩
abbrev cX9_compute : ByteArray := prog_11_method_5_code
def yX9_compute : MethodName := ⟨"LooseWater$Rounds", "compute", "(LLooseWater$Ship;[III)J"⟩
abbrev cX9_worth : ByteArray := prog_11_method_6_code
def yX9_worth : MethodName := ⟨"LooseWater$Rounds", "worth", "(LLooseWater$Ship;I)J"⟩
abbrev cX9_joined : ByteArray := prog_11_method_7_code
def yX9_joined : MethodName := ⟨"LooseWater$Rounds", "joined", "(IJJ)J"⟩
abbrev cX10_init : ByteArray := prog_12_method_1_code
def yX10_init : MethodName := ⟨"LooseWater$Ship", "<init>", "()V"⟩
abbrev cX10_begin : ByteArray := prog_12_method_2_code
def yX10_begin : MethodName := ⟨"LooseWater$Ship", "begin", "(IIII)V"⟩
abbrev cX10_shape : ByteArray := prog_12_method_3_code
def yX10_shape : MethodName := ⟨"LooseWater$Ship", "shape", "(II)V"⟩
abbrev cX10_fillBetween : ByteArray := prog_12_method_4_code
def yX10_fillBetween : MethodName := ⟨"LooseWater$Ship", "fillBetween", "(I)V"⟩
abbrev cX10_isOver : ByteArray := prog_12_method_5_code
def yX10_isOver : MethodName := ⟨"LooseWater$Ship", "isOver", "()Z"⟩
abbrev cX10_draft : ByteArray := prog_12_method_6_code
def yX10_draft : MethodName := ⟨"LooseWater$Ship", "draft", "()I"⟩
abbrev cX10_pour : ByteArray := prog_12_method_7_code
def yX10_pour : MethodName := ⟨"LooseWater$Ship", "pour", "(II)V"⟩
abbrev cX10_add : ByteArray := prog_12_method_8_code
def yX10_add : MethodName := ⟨"LooseWater$Ship", "add", "(II)V"⟩
abbrev cX10_remove : ByteArray := prog_12_method_9_code
def yX10_remove : MethodName := ⟨"LooseWater$Ship", "remove", "(II)V"⟩
abbrev cX10_cross : ByteArray := prog_12_method_10_code
def yX10_cross : MethodName := ⟨"LooseWater$Ship", "cross", "(III)V"⟩
abbrev cX10_outerHeight : ByteArray := prog_12_method_11_code
def yX10_outerHeight : MethodName := ⟨"LooseWater$Ship", "outerHeight", "(II)I"⟩
abbrev cX10_innerHeight : ByteArray := prog_12_method_12_code
def yX10_innerHeight : MethodName := ⟨"LooseWater$Ship", "innerHeight", "(II)I"⟩
abbrev cX10_letIn : ByteArray := prog_12_method_13_code
def yX10_letIn : MethodName := ⟨"LooseWater$Ship", "letIn", "(I)V"⟩
abbrev cX10_letOut : ByteArray := prog_12_method_14_code
def yX10_letOut : MethodName := ⟨"LooseWater$Ship", "letOut", "(I)V"⟩
abbrev cX10_keep : ByteArray := prog_12_method_15_code
def yX10_keep : MethodName := ⟨"LooseWater$Ship", "keep", "([II)V"⟩
abbrev cX10_restore : ByteArray := prog_12_method_16_code
def yX10_restore : MethodName := ⟨"LooseWater$Ship", "restore", "([II)V"⟩
abbrev cX10_copy : ByteArray := prog_12_method_17_code
def yX10_copy : MethodName := ⟨"LooseWater$Ship", "copy", "(LLooseWater$Ship;)V"⟩
abbrev cX11_init : ByteArray := prog_1_method_1_code
def yX11_init : MethodName := ⟨"LooseWater", "<init>", "()V"⟩
abbrev cX11_ship : ByteArray := prog_1_method_2_code
def yX11_ship : MethodName := ⟨"LooseWater", "ship", "(IIII)Z"⟩
abbrev cX11_form : ByteArray := prog_1_method_3_code
def yX11_form : MethodName := ⟨"LooseWater", "form", "(II)I"⟩
abbrev cX11_place : ByteArray := prog_1_method_4_code
def yX11_place : MethodName := ⟨"LooseWater", "place", "(IIIIII)I"⟩
abbrev cX11_water : ByteArray := prog_1_method_5_code
def yX11_water : MethodName := ⟨"LooseWater", "water", "(II)I"⟩
abbrev cX11_walls : ByteArray := prog_1_method_6_code
def yX11_walls : MethodName := ⟨"LooseWater", "walls", "(II)I"⟩
abbrev cX11_cargo : ByteArray := prog_1_method_7_code
def yX11_cargo : MethodName := ⟨"LooseWater", "cargo", "(IIII)I"⟩
abbrev cX11_door : ByteArray := prog_1_method_8_code
def yX11_door : MethodName := ⟨"LooseWater", "door", "(IIII)I"⟩
abbrev cX11_port : ByteArray := prog_1_method_9_code
def yX11_port : MethodName := ⟨"LooseWater", "port", "(IIII)I"⟩
abbrev cX11_opened : ByteArray := prog_1_method_10_code
def yX11_opened : MethodName := ⟨"LooseWater", "opened", "(LLooseWater$Openings;IIII)I"⟩
abbrev cX11_sets : ByteArray := prog_1_method_11_code
def yX11_sets : MethodName := ⟨"LooseWater", "sets", "(II)I"⟩
abbrev cX11_feed : ByteArray := prog_1_method_12_code
def yX11_feed : MethodName := ⟨"LooseWater", "feed", "(IIIII)I"⟩
abbrev cX11_append : ByteArray := prog_1_method_13_code
def yX11_append : MethodName := ⟨"LooseWater", "append", "(I)V"⟩
abbrev cX11_end : ByteArray := prog_1_method_14_code
def yX11_end : MethodName := ⟨"LooseWater", "end", "(I)I"⟩
abbrev cX11_plan : ByteArray := prog_1_method_15_code
def yX11_plan : MethodName := ⟨"LooseWater", "plan", "()I"⟩
abbrev cX11_run : ByteArray := prog_1_method_16_code
def yX11_run : MethodName := ⟨"LooseWater", "run", "(II)I"⟩
abbrev cX11_goBy : ByteArray := prog_1_method_17_code
def yX11_goBy : MethodName := ⟨"LooseWater", "goBy", "(LLooseWater$Ship;II)V"⟩
abbrev cX11_tells : ByteArray := prog_1_method_18_code
def yX11_tells : MethodName := ⟨"LooseWater", "tells", "(I)I"⟩
abbrev cX11_up : ByteArray := prog_1_method_19_code
def yX11_up : MethodName := ⟨"LooseWater", "up", "()J"⟩
abbrev cX11_turn : ByteArray := prog_1_method_20_code
def yX11_turn : MethodName := ⟨"LooseWater", "turn", "(I)J"⟩
abbrev cX11_rest : ByteArray := prog_1_method_21_code
def yX11_rest : MethodName := ⟨"LooseWater", "rest", "(I)I"⟩
abbrev cX11_lever : ByteArray := prog_1_method_22_code
def yX11_lever : MethodName := ⟨"LooseWater", "lever", "(I)I"⟩
abbrev cX11_of : ByteArray := prog_1_method_23_code
def yX11_of : MethodName := ⟨"LooseWater", "of", "(II)I"⟩
abbrev cX11_flows : ByteArray := prog_1_method_24_code
def yX11_flows : MethodName := ⟨"LooseWater", "flows", "(II)J"⟩
abbrev cX11_inside : ByteArray := prog_1_method_25_code
def yX11_inside : MethodName := ⟨"LooseWater", "inside", "(II)I"⟩
abbrev cX11_outside : ByteArray := prog_1_method_26_code
def yX11_outside : MethodName := ⟨"LooseWater", "outside", "(I)I"⟩
abbrev cX11_slid : ByteArray := prog_1_method_27_code
def yX11_slid : MethodName := ⟨"LooseWater", "slid", "(I)I"⟩
abbrev cX11_sinks : ByteArray := prog_1_method_28_code
def yX11_sinks : MethodName := ⟨"LooseWater", "sinks", "(I)I"⟩
abbrev cX11_parts : ByteArray := prog_1_method_29_code
def yX11_parts : MethodName := ⟨"LooseWater", "parts", "(I)I"⟩
abbrev cX11_carried : ByteArray := prog_1_method_30_code
def yX11_carried : MethodName := ⟨"LooseWater", "carried", "(III)I"⟩
abbrev cX11_order : ByteArray := prog_1_method_31_code
def yX11_order : MethodName := ⟨"LooseWater", "order", "(III)I"⟩
abbrev cX11_ahead : ByteArray := prog_1_method_32_code
def yX11_ahead : MethodName := ⟨"LooseWater", "ahead", "(III)I"⟩
abbrev cX11_saved : ByteArray := prog_1_method_33_code
def yX11_saved : MethodName := ⟨"LooseWater", "saved", "(IIII)I"⟩
abbrev cX11_hoses : ByteArray := prog_1_method_34_code
def yX11_hoses : MethodName := ⟨"LooseWater", "hoses", "(III)I"⟩
abbrev cX11_ice : ByteArray := prog_1_method_35_code
def yX11_ice : MethodName := ⟨"LooseWater", "ice", "(II)I"⟩
abbrev cX11_load : ByteArray := prog_1_method_36_code
def yX11_load : MethodName := ⟨"LooseWater", "load", "(II)I"⟩
abbrev cX11_night : ByteArray := prog_1_method_37_code
def yX11_night : MethodName := ⟨"LooseWater", "night", "(II)I"⟩
abbrev cX11_finishable : ByteArray := prog_1_method_38_code
def yX11_finishable : MethodName := ⟨"LooseWater", "finishable", "(II)J"⟩
abbrev cX11_stiffWith : ByteArray := prog_1_method_39_code
def yX11_stiffWith : MethodName := ⟨"LooseWater", "stiffWith", "(I)J"⟩
abbrev cX11_guess : ByteArray := prog_1_method_40_code
def yX11_guess : MethodName := ⟨"LooseWater", "guess", "(III)I"⟩
abbrev cX11_missed : ByteArray := prog_1_method_41_code
def yX11_missed : MethodName := ⟨"LooseWater", "missed", "(III)I"⟩
abbrev cX11_best : ByteArray := prog_1_method_42_code
def yX11_best : MethodName := ⟨"LooseWater", "best", "(III)I"⟩
abbrev cX11_slop : ByteArray := prog_1_method_43_code
def yX11_slop : MethodName := ⟨"LooseWater", "slop", "(I)I"⟩
abbrev cX11_still : ByteArray := prog_1_method_44_code
def yX11_still : MethodName := ⟨"LooseWater", "still", "(I)I"⟩
abbrev cX11_floods : ByteArray := prog_1_method_45_code
def yX11_floods : MethodName := ⟨"LooseWater", "floods", "(II)I"⟩
abbrev cX11_leaves : ByteArray := prog_1_method_46_code
def yX11_leaves : MethodName := ⟨"LooseWater", "leaves", "(II)I"⟩
abbrev cX11_drain : ByteArray := prog_1_method_47_code
def yX11_drain : MethodName := ⟨"LooseWater", "drain", "(I)V"⟩
abbrev cX11_count : ByteArray := prog_1_method_48_code
def yX11_count : MethodName := ⟨"LooseWater", "count", "(I)I"⟩
abbrev cX11_image : ByteArray := prog_1_method_49_code
def yX11_image : MethodName := ⟨"LooseWater", "image", "(I)I"⟩
abbrev cX11_back : ByteArray := prog_1_method_50_code
def yX11_back : MethodName := ⟨"LooseWater", "back", "(I)I"⟩
abbrev cX11_hasPlace : ByteArray := prog_1_method_51_code
def yX11_hasPlace : MethodName := ⟨"LooseWater", "hasPlace", "(I)Z"⟩
abbrev cX11_hasPlan : ByteArray := prog_1_method_52_code
def yX11_hasPlan : MethodName := ⟨"LooseWater", "hasPlan", "(I)Z"⟩
abbrev cX11_hasImage : ByteArray := prog_1_method_53_code
def yX11_hasImage : MethodName := ⟨"LooseWater", "hasImage", "(I)Z"⟩
abbrev cX11_within : ByteArray := prog_1_method_54_code
def yX11_within : MethodName := ⟨"LooseWater", "within", "(III)Z"⟩
abbrev cX11_root : ByteArray := prog_1_method_55_code
def yX11_root : MethodName := ⟨"LooseWater", "root", "(J)I"⟩
abbrev cX11_down : ByteArray := prog_1_method_56_code
def yX11_down : MethodName := ⟨"LooseWater", "down", "(JJ)J"⟩
abbrev cX12_init : ByteArray := prog_14_method_1_code
def yX12_init : MethodName := ⟨"LooseWaterModel", "<init>", "()V"⟩
abbrev cX12_in : ByteArray := prog_14_method_3_code
def yX12_in : MethodName := ⟨"LooseWaterModel", "in", "(JJJ)Z"⟩
abbrev cX12_between : ByteArray := prog_14_method_4_code
def yX12_between : MethodName := ⟨"LooseWaterModel", "between", "(JJJ)J"⟩
abbrev cX12_floor : ByteArray := prog_14_method_5_code
def yX12_floor : MethodName := ⟨"LooseWaterModel", "floor", "(JJ)J"⟩
abbrev cX12_without : ByteArray := prog_14_method_6_code
def yX12_without : MethodName := ⟨"LooseWaterModel", "without", "(I)I"⟩
abbrev cX12_isShip : ByteArray := prog_14_method_7_code
def yX12_isShip : MethodName := ⟨"LooseWaterModel", "isShip", "()Z"⟩
abbrev cX12_isPlace : ByteArray := prog_14_method_8_code
def yX12_isPlace : MethodName := ⟨"LooseWaterModel", "isPlace", "(I)Z"⟩
abbrev cX12_isCargo : ByteArray := prog_14_method_9_code
def yX12_isCargo : MethodName := ⟨"LooseWaterModel", "isCargo", "(I)Z"⟩
abbrev cX12_ship : ByteArray := prog_14_method_10_code
def yX12_ship : MethodName := ⟨"LooseWaterModel", "ship", "(IIII)Z"⟩
abbrev cX12_form : ByteArray := prog_14_method_11_code
def yX12_form : MethodName := ⟨"LooseWaterModel", "form", "(II)I"⟩
abbrev cX12_place : ByteArray := prog_14_method_12_code
def yX12_place : MethodName := ⟨"LooseWaterModel", "place", "(IIIIII)I"⟩
abbrev cX12_cap : ByteArray := prog_14_method_13_code
def yX12_cap : MethodName := ⟨"LooseWaterModel", "cap", "(I)I"⟩
abbrev cX12_level : ByteArray := prog_14_method_14_code
def yX12_level : MethodName := ⟨"LooseWaterModel", "level", "(I)I"⟩
abbrev cX12_water : ByteArray := prog_14_method_15_code
def yX12_water : MethodName := ⟨"LooseWaterModel", "water", "(II)I"⟩
abbrev cX12_walls : ByteArray := prog_14_method_16_code
def yX12_walls : MethodName := ⟨"LooseWaterModel", "walls", "(II)I"⟩
abbrev cX12_cargo : ByteArray := prog_14_method_17_code
def yX12_cargo : MethodName := ⟨"LooseWaterModel", "cargo", "(IIII)I"⟩
abbrev cX12_isHole : ByteArray := prog_14_method_18_code
def yX12_isHole : MethodName := ⟨"LooseWaterModel", "isHole", "(IIII)Z"⟩
abbrev cX12_door : ByteArray := prog_14_method_19_code
def yX12_door : MethodName := ⟨"LooseWaterModel", "door", "(IIII)I"⟩
abbrev cX12_port : ByteArray := prog_14_method_20_code
def yX12_port : MethodName := ⟨"LooseWaterModel", "port", "(IIII)I"⟩
abbrev cX12_sets : ByteArray := prog_14_method_21_code
def yX12_sets : MethodName := ⟨"LooseWaterModel", "sets", "(II)I"⟩
abbrev cX12_sine : ByteArray := prog_14_method_22_code
def yX12_sine : MethodName := ⟨"LooseWaterModel", "sine", "(I)I"⟩
abbrev cX12_leverAt : ByteArray := prog_14_method_23_code
def yX12_leverAt : MethodName := ⟨"LooseWaterModel", "leverAt", "(I)I"⟩
abbrev cX12_total : ByteArray := prog_14_method_24_code
def yX12_total : MethodName := ⟨"LooseWaterModel", "total", "()I"⟩
abbrev cX12_upward : ByteArray := prog_14_method_25_code
def yX12_upward : MethodName := ⟨"LooseWaterModel", "upward", "()J"⟩
abbrev cX12_draft : ByteArray := prog_14_method_26_code
def yX12_draft : MethodName := ⟨"LooseWaterModel", "draft", "()I"⟩
abbrev cX12_runs : ByteArray := prog_14_method_27_code
def yX12_runs : MethodName := ⟨"LooseWaterModel", "runs", "(II)J"⟩
abbrev cX12_allRuns : ByteArray := prog_14_method_28_code
def yX12_allRuns : MethodName := ⟨"LooseWaterModel", "allRuns", "(I)J"⟩
abbrev cX12_asideNow : ByteArray := prog_14_method_29_code
def yX12_asideNow : MethodName := ⟨"LooseWaterModel", "asideNow", "()J"⟩
abbrev cX12_turnBy : ByteArray := prog_14_method_30_code
def yX12_turnBy : MethodName := ⟨"LooseWaterModel", "turnBy", "(JI)J"⟩
abbrev cX12_restBy : ByteArray := prog_14_method_31_code
def yX12_restBy : MethodName := ⟨"LooseWaterModel", "restBy", "(JI)I"⟩
abbrev cX12_restFrom : ByteArray := prog_14_method_32_code
def yX12_restFrom : MethodName := ⟨"LooseWaterModel", "restFrom", "(I)I"⟩
abbrev cX12_loll : ByteArray := prog_14_method_33_code
def yX12_loll : MethodName := ⟨"LooseWaterModel", "loll", "()I"⟩
abbrev cX12_stiff : ByteArray := prog_14_method_34_code
def yX12_stiff : MethodName := ⟨"LooseWaterModel", "stiff", "()I"⟩
abbrev cX12_beat : ByteArray := prog_14_method_35_code
def yX12_beat : MethodName := ⟨"LooseWaterModel", "beat", "()I"⟩
abbrev cX12_range : ByteArray := prog_14_method_36_code
def yX12_range : MethodName := ⟨"LooseWaterModel", "range", "()I"⟩
abbrev cX12_isOver : ByteArray := prog_14_method_37_code
def yX12_isOver : MethodName := ⟨"LooseWaterModel", "isOver", "()Z"⟩
abbrev cX12_tells : ByteArray := prog_14_method_38_code
def yX12_tells : MethodName := ⟨"LooseWaterModel", "tells", "(I)I"⟩
abbrev cX12_up : ByteArray := prog_14_method_39_code
def yX12_up : MethodName := ⟨"LooseWaterModel", "up", "()J"⟩
abbrev cX12_turn : ByteArray := prog_14_method_40_code
def yX12_turn : MethodName := ⟨"LooseWaterModel", "turn", "(I)J"⟩
abbrev cX12_rest : ByteArray := prog_14_method_41_code
def yX12_rest : MethodName := ⟨"LooseWaterModel", "rest", "(I)I"⟩
abbrev cX12_lever : ByteArray := prog_14_method_42_code
def yX12_lever : MethodName := ⟨"LooseWaterModel", "lever", "(I)I"⟩
abbrev cX12_of : ByteArray := prog_14_method_43_code
def yX12_of : MethodName := ⟨"LooseWaterModel", "of", "(II)I"⟩
abbrev cX12_flows : ByteArray := prog_14_method_44_code
def yX12_flows : MethodName := ⟨"LooseWaterModel", "flows", "(II)J"⟩
abbrev cX12_insideAt : ByteArray := prog_14_method_45_code
def yX12_insideAt : MethodName := ⟨"LooseWaterModel", "insideAt", "(II)I"⟩
abbrev cX12_outsideAt : ByteArray := prog_14_method_46_code
def yX12_outsideAt : MethodName := ⟨"LooseWaterModel", "outsideAt", "(I)I"⟩
abbrev cX12_inside : ByteArray := prog_14_method_47_code
def yX12_inside : MethodName := ⟨"LooseWaterModel", "inside", "(II)I"⟩
abbrev cX12_outside : ByteArray := prog_14_method_48_code
def yX12_outside : MethodName := ⟨"LooseWaterModel", "outside", "(I)I"⟩
abbrev cX12_slid : ByteArray := prog_14_method_49_code
def yX12_slid : MethodName := ⟨"LooseWaterModel", "slid", "(I)I"⟩
abbrev cX12_feed : ByteArray := prog_14_method_50_code
def yX12_feed : MethodName := ⟨"LooseWaterModel", "feed", "(IIIII)I"⟩
abbrev cX12_put : ByteArray := prog_14_method_51_code
def yX12_put : MethodName := ⟨"LooseWaterModel", "put", "(I)V"⟩
abbrev cX12_end : ByteArray := prog_14_method_52_code
def yX12_end : MethodName := ⟨"LooseWaterModel", "end", "(I)I"⟩
abbrev cX12_wordOf : ByteArray := prog_14_method_53_code
def yX12_wordOf : MethodName := ⟨"LooseWaterModel", "wordOf", "(I)Ljava/lang/String;"⟩
abbrev cX12_clauseOf : ByteArray := prog_14_method_54_code
def yX12_clauseOf : MethodName := ⟨"LooseWaterModel", "clauseOf", "(I)Ljava/lang/String;"⟩
abbrev cX12_fails : ByteArray := prog_14_method_55_code
def yX12_fails : MethodName := ⟨"LooseWaterModel", "fails", "(II)V"⟩
abbrev cX12_sign : ByteArray := prog_14_method_56_code
def yX12_sign : MethodName := ⟨"LooseWaterModel", "sign", "()I"⟩
abbrev cX12_blanks : ByteArray := prog_14_method_57_code
def yX12_blanks : MethodName := ⟨"LooseWaterModel", "blanks", "()V"⟩
abbrev cX12_isDigit : ByteArray := prog_14_method_58_code
def yX12_isDigit : MethodName := ⟨"LooseWaterModel", "isDigit", "()Z"⟩
abbrev cX12_stands : ByteArray := prog_14_method_59_code
def yX12_stands : MethodName := ⟨"LooseWaterModel", "stands", "(Ljava/lang/String;)Z"⟩
abbrev cX12_takes : ByteArray := prog_14_method_60_code
def yX12_takes : MethodName := ⟨"LooseWaterModel", "takes", "(Ljava/lang/String;)Z"⟩
abbrev cX12_entry : ByteArray := prog_14_method_61_code
def yX12_entry : MethodName := ⟨"LooseWaterModel", "entry", "(II)V"⟩
abbrev cX12_isCounted : ByteArray := prog_14_method_62_code
def yX12_isCounted : MethodName := ⟨"LooseWaterModel", "isCounted", "(I)V"⟩
abbrev cX12_digits : ByteArray := prog_14_method_63_code
def yX12_digits : MethodName := ⟨"LooseWaterModel", "digits", "(I)I"⟩
abbrev cX12_value : ByteArray := prog_14_method_64_code
def yX12_value : MethodName := ⟨"LooseWaterModel", "value", "()V"⟩
abbrev cX12_term : ByteArray := prog_14_method_65_code
def yX12_term : MethodName := ⟨"LooseWaterModel", "term", "()V"⟩
abbrev cX12_sum : ByteArray := prog_14_method_66_code
def yX12_sum : MethodName := ⟨"LooseWaterModel", "sum", "()V"⟩
abbrev cX12_compared : ByteArray := prog_14_method_67_code
def yX12_compared : MethodName := ⟨"LooseWaterModel", "compared", "()V"⟩
abbrev cX12_top : ByteArray := prog_14_method_68_code
def yX12_top : MethodName := ⟨"LooseWaterModel", "top", "()I"⟩
abbrev cX12_opens : ByteArray := prog_14_method_69_code
def yX12_opens : MethodName := ⟨"LooseWaterModel", "opens", "(I)V"⟩
abbrev cX12_answers : ByteArray := prog_14_method_70_code
def yX12_answers : MethodName := ⟨"LooseWaterModel", "answers", "(I)V"⟩
abbrev cX12_fact : ByteArray := prog_14_method_71_code
def yX12_fact : MethodName := ⟨"LooseWaterModel", "fact", "()Z"⟩
abbrev cX12_test : ByteArray := prog_14_method_72_code
def yX12_test : MethodName := ⟨"LooseWaterModel", "test", "()V"⟩
abbrev cX12_amount : ByteArray := prog_14_method_73_code
def yX12_amount : MethodName := ⟨"LooseWaterModel", "amount", "(I)I"⟩
abbrev cX12_letter : ByteArray := prog_14_method_74_code
def yX12_letter : MethodName := ⟨"LooseWaterModel", "letter", "()I"⟩
abbrev cX12_clause : ByteArray := prog_14_method_75_code
def yX12_clause : MethodName := ⟨"LooseWaterModel", "clause", "(I)V"⟩
abbrev cX12_plan : ByteArray := prog_14_method_76_code
def yX12_plan : MethodName := ⟨"LooseWaterModel", "plan", "()I"⟩
abbrev cX12_isPlan : ByteArray := prog_14_method_77_code
def yX12_isPlan : MethodName := ⟨"LooseWaterModel", "isPlan", "(I)Z"⟩
abbrev cX12_truth : ByteArray := prog_14_method_78_code
def yX12_truth : MethodName := ⟨"LooseWaterModel", "truth", "(Z)J"⟩
abbrev cX12_both : ByteArray := prog_14_method_79_code
def yX12_both : MethodName := ⟨"LooseWaterModel", "both", "(IJJ)J"⟩
abbrev cX12_answer : ByteArray := prog_14_method_80_code
def yX12_answer : MethodName := ⟨"LooseWaterModel", "answer", "(III)J"⟩
abbrev cX12_asks : ByteArray := prog_14_method_81_code
def yX12_asks : MethodName := ⟨"LooseWaterModel", "asks", "()V"⟩
abbrev cX12_pours : ByteArray := prog_14_method_82_code
def yX12_pours : MethodName := ⟨"LooseWaterModel", "pours", "(II)V"⟩
abbrev cX12_crosses : ByteArray := prog_14_method_83_code
def yX12_crosses : MethodName := ⟨"LooseWaterModel", "crosses", "(III)V"⟩
abbrev cX12_does : ByteArray := prog_14_method_84_code
def yX12_does : MethodName := ⟨"LooseWaterModel", "does", "(II)V"⟩
abbrev cX12_doorsGo : ByteArray := prog_14_method_85_code
def yX12_doorsGo : MethodName := ⟨"LooseWaterModel", "doorsGo", "()V"⟩
abbrev cX12_portGoes : ByteArray := prog_14_method_86_code
def yX12_portGoes : MethodName := ⟨"LooseWaterModel", "portGoes", "(I)V"⟩
abbrev cX12_goesBy : ByteArray := prog_14_method_87_code
def yX12_goesBy : MethodName := ⟨"LooseWaterModel", "goesBy", "(I)V"⟩
abbrev cX12_goesOn : ByteArray := prog_14_method_88_code
def yX12_goesOn : MethodName := ⟨"LooseWaterModel", "goesOn", "(II)V"⟩
abbrev cX12_run : ByteArray := prog_14_method_89_code
def yX12_run : MethodName := ⟨"LooseWaterModel", "run", "(II)I"⟩
abbrev cX12_carry : ByteArray := prog_14_method_90_code
def yX12_carry : MethodName := ⟨"LooseWaterModel", "carry", "([I)V"⟩
abbrev cX12_carriesAll : ByteArray := prog_14_method_91_code
def yX12_carriesAll : MethodName := ⟨"LooseWaterModel", "carriesAll", "(IZ)V"⟩
abbrev cX12_image : ByteArray := prog_14_method_92_code
def yX12_image : MethodName := ⟨"LooseWaterModel", "image", "(I)I"⟩
abbrev cX12_back : ByteArray := prog_14_method_93_code
def yX12_back : MethodName := ⟨"LooseWaterModel", "back", "(I)I"⟩
abbrev cX12_sinks : ByteArray := prog_14_method_94_code
def yX12_sinks : MethodName := ⟨"LooseWaterModel", "sinks", "(I)I"⟩
abbrev cX12_parts : ByteArray := prog_14_method_95_code
def yX12_parts : MethodName := ⟨"LooseWaterModel", "parts", "(I)I"⟩
abbrev cX12_carried : ByteArray := prog_14_method_96_code
def yX12_carried : MethodName := ⟨"LooseWaterModel", "carried", "(III)I"⟩
abbrev cX12_isNext : ByteArray := prog_14_method_97_code
def yX12_isNext : MethodName := ⟨"LooseWaterModel", "isNext", "(I)Z"⟩
abbrev cX12_swaps : ByteArray := prog_14_method_98_code
def yX12_swaps : MethodName := ⟨"LooseWaterModel", "swaps", "(II)V"⟩
abbrev cX12_isFilled : ByteArray := prog_14_method_99_code
def yX12_isFilled : MethodName := ⟨"LooseWaterModel", "isFilled", "(II)Z"⟩
abbrev cX12_order : ByteArray := prog_14_method_100_code
def yX12_order : MethodName := ⟨"LooseWaterModel", "order", "(III)I"⟩
abbrev cX12_allWater : ByteArray := prog_14_method_101_code
def yX12_allWater : MethodName := ⟨"LooseWaterModel", "allWater", "()I"⟩
abbrev cX12_ahead : ByteArray := prog_14_method_102_code
def yX12_ahead : MethodName := ⟨"LooseWaterModel", "ahead", "(III)I"⟩
abbrev cX12_saved : ByteArray := prog_14_method_103_code
def yX12_saved : MethodName := ⟨"LooseWaterModel", "saved", "(IIII)I"⟩
abbrev cX12_hoses : ByteArray := prog_14_method_104_code
def yX12_hoses : MethodName := ⟨"LooseWaterModel", "hoses", "(III)I"⟩
abbrev cX12_ice : ByteArray := prog_14_method_105_code
def yX12_ice : MethodName := ⟨"LooseWaterModel", "ice", "(II)I"⟩
abbrev cX12_load : ByteArray := prog_14_method_106_code
def yX12_load : MethodName := ⟨"LooseWaterModel", "load", "(II)I"⟩
abbrev cX12_isBorne : ByteArray := prog_14_method_107_code
def yX12_isBorne : MethodName := ⟨"LooseWaterModel", "isBorne", "(II)Z"⟩
abbrev cX12_night : ByteArray := prog_14_method_108_code
def yX12_night : MethodName := ⟨"LooseWaterModel", "night", "(II)I"⟩
abbrev cX12_guess : ByteArray := prog_14_method_109_code
def yX12_guess : MethodName := ⟨"LooseWaterModel", "guess", "(III)I"⟩
abbrev cX12_worst : ByteArray := prog_14_method_110_code
def yX12_worst : MethodName := ⟨"LooseWaterModel", "worst", "(IIII)I"⟩
abbrev cX12_best : ByteArray := prog_14_method_111_code
def yX12_best : MethodName := ⟨"LooseWaterModel", "best", "(III)I"⟩
abbrev cX12_slopOf : ByteArray := prog_14_method_112_code
def yX12_slopOf : MethodName := ⟨"LooseWaterModel", "slopOf", "(I)I"⟩
abbrev cX12_slop : ByteArray := prog_14_method_113_code
def yX12_slop : MethodName := ⟨"LooseWaterModel", "slop", "(I)I"⟩
abbrev cX12_still : ByteArray := prog_14_method_114_code
def yX12_still : MethodName := ⟨"LooseWaterModel", "still", "(I)I"⟩
abbrev cX12_floods : ByteArray := prog_14_method_115_code
def yX12_floods : MethodName := ⟨"LooseWaterModel", "floods", "(II)I"⟩
abbrev cX12_leaves : ByteArray := prog_14_method_116_code
def yX12_leaves : MethodName := ⟨"LooseWaterModel", "leaves", "(II)I"⟩
abbrev cX12_count : ByteArray := prog_14_method_117_code
def yX12_count : MethodName := ⟨"LooseWaterModel", "count", "(I)I"⟩
abbrev cJ6_bitCount_0f7a4 : ByteArray := prog_15_method_49_code
def yJ6_bitCount_0f7a4 : MethodName := ⟨"java/lang/Integer", "bitCount", "(I)I"⟩
abbrev cJ0_length_8abf5 : ByteArray := prog_17_method_54_code
def yJ0_length_8abf5 : MethodName := ⟨"java/lang/String", "length", "()I"⟩
abbrev cJ0_charAt_5068e : ByteArray := prog_17_method_56_code
def yJ0_charAt_5068e : MethodName := ⟨"java/lang/String", "charAt", "(I)C"⟩
abbrev cJ0_coder_7d493 : ByteArray := prog_17_method_152_code
def yJ0_coder_7d493 : MethodName := ⟨"java/lang/String", "coder", "()B"⟩
abbrev cJ0_isLatin1_aae02 : ByteArray := prog_17_method_154_code
def yJ0_isLatin1_aae02 : MethodName := ⟨"java/lang/String", "isLatin1", "()Z"⟩
abbrev cJ0_checkIndex_df160 : ByteArray := prog_17_method_155_code
def yJ0_checkIndex_df160 : MethodName := ⟨"java/lang/String", "checkIndex", "(II)V"⟩
abbrev cJ1_charAt_3b067 : ByteArray := prog_18_method_2_code
def yJ1_charAt_3b067 : MethodName := ⟨"java/lang/StringLatin1", "charAt", "([BI)C"⟩
abbrev cJ7_fill_d0a16 : ByteArray := prog_21_method_101_code
def yJ7_fill_d0a16 : MethodName := ⟨"java/util/Arrays", "fill", "([JJ)V"⟩
abbrev cJ7_fill_53178 : ByteArray := prog_21_method_103_code
def yJ7_fill_53178 : MethodName := ⟨"java/util/Arrays", "fill", "([II)V"⟩
abbrev cJ3_checkIndex_8e157 : ByteArray := prog_22_method_11_code
def yJ3_checkIndex_8e157 : MethodName := ⟨"jdk/internal/util/Preconditions", "checkIndex", "(IILjava/util/function/BiFunction;)I"⟩
abbrev cL_law : ByteArray := code
abbrev vwCl : List vw_C := [(RX0, TX0, 8), (RX1, TX1, 8), (RX2, TX2, 6), (RX3, TX3, 3), (RX4, TX4, 5), (RX5, TX5, 6), (RX6, TX6, 12), (RX7, TX7, 10), (RX8, TX8, 8), (RX9, TX9, 2), (RX10, TX10, 16), (RX11, TX11, 12), (RX12, TX12, 56)]
def am_tyL : List (List FieldType) := [[.array .int, .int, .long, .long, .long, .int, .array .long, .array .long], [.object "LooseWater$Rounds", .int, .int, .int, .array .int, .array .int, .int, .array .int], [.int, .array .int, .array .int, .array .int, .array .int, .array .int], [.int, .array .int, .array .int], [.int, .array .int, .array .int, .array .int, .array .int], [.object "LooseWater$Balance", .array .int, .int, .int, .array .int, .array .long], [.int, .array .int, .array .int, .array .int, .array .int, .array .int, .array .int, .array .int, .array .int, .array .int, .array .long, .array .int], [.int, .array .int, .array .int, .array .int, .array .int, .array .int, .array .int, .array .int, .int, .array .int], [.object "LooseWater$Plan", .int, .array .int, .array .int, .array .int, .int, .int, .int], [.object "LooseWater$Balance", .array .long], [.boolean, .int, .int, .int, .int, .int, .int, .int, .int, .int, .array .int, .object "LooseWater$Places", .object "LooseWater$Cargoes", .object "LooseWater$Openings", .object "LooseWater$Openings", .object "LooseWater$Loads"], [.object "LooseWater$Ship", .array (.object "LooseWater$Ship"), .array (.object "LooseWater$Plan"), .int, .array .int, .int, .object "LooseWater$Reader", .object "LooseWater$Balance", .object "LooseWater$Rounds", .object "LooseWater$OrderSearch", .object "LooseWater$BestSearch", .array .int], [.int, .array .int, .array .int, .array .int, .array .int, .array .int, .array .int, .array .int, .array .int, .array .int, .array .int, .array .int, .array .int, .array .int, .array .int, .array .int, .array .int, .array .int, .array .int, .array .int, .array .int, .array .int, .array .int, .array .int, .array .int, .int, .long, .int, .int, .int, .int, .int, .int, .int, .int, .int, .int, .array .byte, .array .int, .array .int, .array .int, .array .int, .array .int, .array .int, .array .int, .array .int, .array .int, .array .int, .array .int, .array .long, .array .long, .array .int, .array .boolean, .int, .boolean, .array .int]]
def am_ci : List (Nat × Nat) := [(466, 104), (543, 107), (209, 99), (273, 101), (243, 100), (515, 106), (132, 98), (376, 102), (432, 103), (500, 105), (126, 97), (118, 96), (1253, 108)]
def am_N : List Cond := [.methodLinkNest "LooseWater" 11 ⟨"LooseWater$Ship", "<init>", "()V"⟩ "LooseWater",
  .methodLinkNest "LooseWater$Ship" 17 ⟨"LooseWater$Places", "<init>", "()V"⟩ "LooseWater",
  .methodLinkNest "LooseWater$Ship" 24 ⟨"LooseWater$Cargoes", "<init>", "()V"⟩ "LooseWater",
  .methodLinkNest "LooseWater$Ship" 31 ⟨"LooseWater$Openings", "<init>", "()V"⟩ "LooseWater",
  .methodLinkNest "LooseWater$Ship" 41 ⟨"LooseWater$Loads", "<init>", "()V"⟩ "LooseWater",
  .methodLinkNest "LooseWater" 26 ⟨"LooseWater$Plan", "<init>", "()V"⟩ "LooseWater",
  .methodLinkNest "LooseWater" 33 ⟨"LooseWater$Reader", "<init>", "()V"⟩ "LooseWater",
  .methodLinkNest "LooseWater$Reader" 11 ⟨"LooseWater$Plan", "<init>", "()V"⟩ "LooseWater",
  .methodLinkNest "LooseWater" 40 ⟨"LooseWater$Balance", "<init>", "()V"⟩ "LooseWater",
  .methodLinkNest "LooseWater" 47 ⟨"LooseWater$Rounds", "<init>", "()V"⟩ "LooseWater",
  .methodLinkNest "LooseWater$Rounds" 11 ⟨"LooseWater$Balance", "<init>", "()V"⟩ "LooseWater",
  .methodLinkNest "LooseWater" 54 ⟨"LooseWater$OrderSearch", "<init>", "()V"⟩ "LooseWater",
  .methodLinkNest "LooseWater$OrderSearch" 11 ⟨"LooseWater$Balance", "<init>", "()V"⟩ "LooseWater",
  .methodLinkNest "LooseWater" 61 ⟨"LooseWater$BestSearch", "<init>", "()V"⟩ "LooseWater",
  .methodLinkNest "LooseWater$BestSearch" 11 ⟨"LooseWater$Rounds", "<init>", "()V"⟩ "LooseWater",
  .methodLinkNest "LooseWater$Places" 52 ⟨"LooseWater", "down", "(JJ)J"⟩ "LooseWater",
  .methodLinkNest "LooseWater$Reader" 71 ⟨"LooseWater", "within", "(III)Z"⟩ "LooseWater",
  .fieldLinkNest "LooseWater$Balance" 97 "LooseWater" "SINE" "[I" "LooseWater",
  .methodLinkNest "LooseWater$Balance" 119 ⟨"LooseWater", "down", "(JJ)J"⟩ "LooseWater",
  .methodLinkNest "LooseWater$Ship" 103 ⟨"LooseWater", "down", "(JJ)J"⟩ "LooseWater",
  .fieldLinkNest "LooseWater$Ship" 128 "LooseWater" "SINE" "[I" "LooseWater",
  .methodLinkNest "LooseWater$Balance" 128 ⟨"LooseWater", "root", "(J)I"⟩ "LooseWater",
  .methodLinkNest "LooseWater" 361 ⟨"LooseWater$BestSearch", "extend", "(LLooseWater$Ship;[LLooseWater$Plan;II)V"⟩ "LooseWater",
  .methodLinkNest "LooseWater$Places" 74 ⟨"LooseWater", "root", "(J)I"⟩ "LooseWater"]
def am_str : List (String × Nat × String) := [("LooseWater$Reader", 98, "lean side rounddraftpace totalstiffpump fill crossshiftif   and  or   not  "), ("LooseWaterModel", 336, "pump"), ("LooseWaterModel", 338, "fill"), ("LooseWaterModel", 340, "cross"), ("LooseWaterModel", 308, "pace"), ("LooseWaterModel", 342, "shift"), ("LooseWaterModel", 301, "lean"), ("LooseWaterModel", 303, "side"), ("LooseWaterModel", 305, "round"), ("LooseWaterModel", 307, "draft"), ("LooseWaterModel", 310, "total"), ("LooseWaterModel", 311, "stiff"), ("LooseWaterModel", 312, "a"), ("LooseWaterModel", 314, "b"), ("LooseWaterModel", 316, "c"), ("LooseWaterModel", 318, "d"), ("LooseWaterModel", 320, "e"), ("LooseWaterModel", 322, "f"), ("LooseWaterModel", 324, "g"), ("LooseWaterModel", 326, "h"), ("LooseWaterModel", 328, "i"), ("LooseWaterModel", 330, "j"), ("LooseWaterModel", 332, "k"), ("LooseWaterModel", 334, "l"), ("LooseWaterModel", 447, "if"), ("LooseWaterModel", 420, "not"), ("LooseWaterModel", 434, "and"), ("LooseWaterModel", 436, "or")]
def am_slen : List Nat := [75, 4, 4, 5, 4, 5, 4, 4, 5, 5, 5, 5, 1, 1, 1, 1, 1, 1, 1, 1, 1, 1, 1, 1, 2, 3, 3, 2]
def am_sbyt : List (List Int32) := [[108, 101, 97, 110, 32, 115, 105, 100, 101, 32, 114, 111, 117, 110, 100, 100, 114, 97, 102, 116, 112, 97, 99, 101, 32, 116, 111, 116, 97, 108, 115, 116, 105, 102, 102, 112, 117, 109, 112, 32, 102, 105, 108, 108, 32, 99, 114, 111, 115, 115, 115, 104, 105, 102, 116, 105, 102, 32, 32, 32, 97, 110, 100, 32, 32, 111, 114, 32, 32, 32, 110, 111, 116, 32, 32], [112, 117, 109, 112], [102, 105, 108, 108], [99, 114, 111, 115, 115], [112, 97, 99, 101], [115, 104, 105, 102, 116], [108, 101, 97, 110], [115, 105, 100, 101], [114, 111, 117, 110, 100], [100, 114, 97, 102, 116], [116, 111, 116, 97, 108], [115, 116, 105, 102, 102], [97], [98], [99], [100], [101], [102], [103], [104], [105], [106], [107], [108], [105, 102], [110, 111, 116], [97, 110, 100], [111, 114]]
def am_sinL : List Int32 := [0, 17, 35, 53, 70, 88, 105, 123, 140, 158, 175, 192, 209, 226, 243, 260, 277, 293, 310, 326, 343, 359, 375, 391, 407, 423, 438, 454, 469, 484, 500, 514, 529, 544, 558, 573, 587, 601, 614, 628, 641, 655, 668, 680, 693, 705, 718, 730, 741, 753, 764, 775, 786, 797, 807, 817, 827, 837, 846, 855, 864, 873, 881, 889, 897, 905, 912, 919, 926, 932, 939, 944, 950, 955, 960, 965, 969, 974, 977, 981, 984, 987, 990, 992, 994, 996, 997, 998, 999, 999, 1000]
abbrev am_R : Type := (MethodName × ByteArray) × (Nat × Option FieldType) × (Nat × Nat × Nat) × (Nat × Nat × Nat × Nat)
def am_mt : List am_R := [((yX0_init, cX0_init), (1, none), (0, 2, 0), (469, 468, 0, 104)),
  ((yX0_take, cX0_take), (6, none), (1, 0, 0), (891, 889, 890, 104)),
  ((yX0_bear, cX0_bear), (3, none), (2, 0, 0), (1139, 1137, 1138, 104)),
  ((yX0_upsetting, cX0_upsetting), (7, some .long), (1, 0, 0), (900, 899, 21, 104)),
  ((yX0_turning, cX0_turning), (5, some .long), (1, 0, 0), (976, 974, 975, 104)),
  ((yX0_restFrom, cX0_restFrom), (8, some .int), (2, 0, 0), (972, 970, 971, 104)),
  ((yX0_stiffness, cX0_stiffness), (1, some .long), (0, 0, 0), (896, 894, 895, 104)),
  ((yX0_beat, cX0_beat), (3, some .int), (0, 0, 0), (989, 987, 988, 104)),
  ((yX0_lolls, cX0_lolls), (1, some .boolean), (0, 0, 0), (1060, 1058, 1059, 104)),
  ((yX0_loll, cX0_loll), (4, some .int), (0, 0, 0), (998, 996, 997, 104)),
  ((yX0_range, cX0_range), (7, some .int), (1, 0, 0), (1003, 1001, 1002, 104)),
  ((yX1_init, cX1_init), (1, none), (0, 2, 1), (546, 545, 0, 107)),
  ((yX1_begin, cX1_begin), (5, none), (4, 0, 1), (1177, 1175, 1176, 107)),
  ((yX1_extend, cX1_extend), (8, none), (4, 0, 1), (1182, 1181, 29, 107)),
  ((yX2_init, cX2_init), (1, none), (0, 2, 2), (212, 211, 0, 99)),
  ((yX2_add, cX2_add), (6, some .int), (4, 0, 2), (694, 692, 693, 99)),
  ((yX2_giveWay, cX2_giveWay), (3, none), (1, 0, 2), (967, 965, 966, 99)),
  ((yX2_copy, cX2_copy), (2, none), (1, 0, 2), (1236, 1234, 1235, 99)),
  ((yX3_init, cX3_init), (1, none), (0, 2, 3), (276, 275, 0, 101)),
  ((yX3_add, cX3_add), (4, some .int), (2, 0, 3), (1147, 1145, 1146, 101)),
  ((yX3_copy, cX3_copy), (2, none), (1, 0, 3), (1246, 1244, 1245, 101)),
  ((yX4_init, cX4_init), (1, none), (0, 2, 4), (246, 245, 0, 100)),
  ((yX4_add, cX4_add), (6, some .int), (4, 0, 4), (706, 704, 705, 100)),
  ((yX4_copy, cX4_copy), (2, none), (1, 0, 4), (1241, 1239, 1240, 100)),
  ((yX5_init, cX5_init), (1, none), (0, 2, 5), (518, 517, 0, 106)),
  ((yX5_find, cX5_find), (5, some .boolean), (3, 0, 5), (1086, 1084, 1085, 106)),
  ((yX5_extend, cX5_extend), (13, some .boolean), (4, 0, 5), (1093, 1092, 23, 106)),
  ((yX5_fillUp, cX5_fillUp), (6, some .int), (3, 0, 5), (1098, 1097, 24, 106)),
  ((yX6_init, cX6_init), (1, none), (0, 2, 6), (135, 134, 0, 98)),
  ((yX6_add, cX6_add), (6, some .int), (4, 0, 6), (649, 647, 648, 98)),
  ((yX6_part, cX6_part), (5, none), (2, 0, 6), (653, 651, 652, 98)),
  ((yX6_hold, cX6_hold), (3, none), (2, 0, 6), (661, 659, 660, 98)),
  ((yX6_hundredths, cX6_hundredths), (3, some .int), (2, 0, 6), (1056, 1054, 1055, 98)),
  ((yX6_allWater, cX6_allWater), (3, some .int), (0, 0, 6), (1114, 1112, 1113, 98)),
  ((yX6_sloshing, cX6_sloshing), (2, some .int), (1, 0, 6), (1196, 1194, 1195, 98)),
  ((yX6_copy, cX6_copy), (2, none), (1, 0, 6), (1231, 1229, 1230, 98)),
  ((yX7_init, cX7_init), (1, none), (0, 2, 7), (379, 378, 0, 102)),
  ((yX7_copy, cX7_copy), (2, none), (1, 0, 7), (849, 847, 848, 102)),
  ((yX8_init, cX8_init), (1, none), (0, 2, 8), (435, 434, 0, 103)),
  ((yX8_read, cX8_read), (4, some .int), (2, 0, 8), (736, 734, 735, 103)),
  ((yX8_scan, cX8_scan), (9, none), (2, 0, 8), (740, 739, 4, 103)),
  ((yX8_put, cX8_put), (4, none), (3, 0, 8), (751, 750, 5, 103)),
  ((yX8_rangeEnd, cX8_rangeEnd), (6, some .int), (5, 1, 8), (744, 743, 0, 103)),
  ((yX8_numeral, cX8_numeral), (5, some .int), (3, 1, 8), (747, 746, 0, 103)),
  ((yX8_wordAt, cX8_wordAt), (4, some .int), (3, 1, 8), (754, 753, 0, 103)),
  ((yX8_matches, cX8_matches), (6, some .boolean), (4, 1, 8), (757, 756, 0, 103)),
  ((yX8_signOf, cX8_signOf), (2, some .int), (2, 1, 8), (801, 800, 0, 103)),
  ((yX8_token, cX8_token), (1, some .int), (0, 0, 8), (809, 808, 7, 103)),
  ((yX8_fail, cX8_fail), (2, some .boolean), (1, 0, 8), (813, 812, 8, 103)),
  ((yX8_emit, cX8_emit), (2, none), (1, 0, 8), (825, 824, 11, 103)),
  ((yX8_clause, cX8_clause), (3, some .boolean), (1, 0, 8), (805, 804, 6, 103)),
  ((yX8_placeName, cX8_placeName), (3, some .boolean), (2, 0, 8), (833, 832, 13, 103)),
  ((yX8_figure, cX8_figure), (3, some .boolean), (2, 0, 8), (829, 828, 12, 103)),
  ((yX8_test, cX8_test), (5, some .boolean), (1, 0, 8), (837, 836, 14, 103)),
  ((yX8_fact, cX8_fact), (3, some .boolean), (1, 0, 8), (841, 840, 15, 103)),
  ((yX8_comparison, cX8_comparison), (2, some .boolean), (0, 0, 8), (845, 844, 16, 103)),
  ((yX8_sum, cX8_sum), (4, some .boolean), (0, 0, 8), (817, 816, 9, 103)),
  ((yX8_value, cX8_value), (2, some .boolean), (0, 0, 8), (821, 820, 10, 103)),
  ((yX9_init, cX9_init), (1, none), (0, 2, 9), (503, 502, 0, 105)),
  ((yX9_go, cX9_go), (4, none), (2, 0, 9), (869, 867, 868, 105)),
  ((yX9_applies, cX9_applies), (6, some .boolean), (3, 0, 9), (880, 879, 19, 105)),
  ((yX9_act, cX9_act), (10, none), (3, 0, 9), (919, 918, 22, 105)),
  ((yX9_compute, cX9_compute), (8, some .long), (4, 0, 9), (884, 883, 20, 105)),
  ((yX9_worth, cX9_worth), (2, some .long), (2, 1, 9), (908, 907, 0, 105)),
  ((yX9_joined, cX9_joined), (5, some .long), (3, 1, 9), (887, 886, 0, 105)),
  ((yX10_init, cX10_init), (1, none), (0, 2, 10), (129, 128, 0, 97)),
  ((yX10_begin, cX10_begin), (5, none), (4, 0, 10), (626, 624, 625, 97)),
  ((yX10_shape, cX10_shape), (3, none), (2, 0, 10), (637, 635, 636, 97)),
  ((yX10_fillBetween, cX10_fillBetween), (3, none), (1, 0, 10), (641, 640, 0, 97)),
  ((yX10_isOver, cX10_isOver), (1, some .boolean), (0, 0, 10), (873, 871, 872, 97)),
  ((yX10_draft, cX10_draft), (1, some .int), (0, 0, 10), (914, 912, 913, 97)),
  ((yX10_pour, cX10_pour), (3, none), (2, 0, 10), (681, 679, 680, 97)),
  ((yX10_add, cX10_add), (3, none), (2, 0, 10), (937, 935, 936, 97)),
  ((yX10_remove, cX10_remove), (3, none), (2, 0, 10), (929, 927, 928, 97)),
  ((yX10_cross, cX10_cross), (6, none), (3, 0, 10), (942, 940, 941, 97)),
  ((yX10_outerHeight, cX10_outerHeight), (4, some .int), (2, 0, 10), (956, 954, 955, 97)),
  ((yX10_innerHeight, cX10_innerHeight), (7, some .int), (2, 0, 10), (950, 948, 949, 97)),
  ((yX10_letIn, cX10_letIn), (6, none), (1, 0, 10), (946, 944, 945, 97)),
  ((yX10_letOut, cX10_letOut), (6, none), (1, 0, 10), (962, 960, 961, 97)),
  ((yX10_keep, cX10_keep), (4, none), (2, 0, 10), (1109, 1107, 1108, 97)),
  ((yX10_restore, cX10_restore), (4, none), (2, 0, 10), (1118, 1116, 1117, 97)),
  ((yX10_copy, cX10_copy), (2, none), (1, 0, 10), (1227, 1225, 1226, 97)),
  ((yX11_init, cX11_init), (2, none), (0, 2, 11), (121, 120, 0, 96)),
  ((yX11_ship, cX11_ship), (5, some .boolean), (4, 0, 11), (618, 616, 617, 96)),
  ((yX11_form, cX11_form), (4, some .int), (2, 0, 11), (633, 631, 632, 96)),
  ((yX11_place, cX11_place), (8, some .int), (6, 0, 11), (645, 643, 644, 96)),
  ((yX11_water, cX11_water), (4, some .int), (2, 0, 11), (673, 671, 672, 96)),
  ((yX11_walls, cX11_walls), (4, some .int), (2, 0, 11), (686, 684, 685, 96)),
  ((yX11_cargo, cX11_cargo), (5, some .int), (4, 0, 11), (690, 688, 689, 96)),
  ((yX11_door, cX11_door), (5, some .int), (4, 0, 11), (698, 696, 697, 96)),
  ((yX11_port, cX11_port), (5, some .int), (4, 0, 11), (710, 708, 709, 96)),
  ((yX11_opened, cX11_opened), (6, some .int), (5, 0, 11), (702, 701, 2, 96)),
  ((yX11_sets, cX11_sets), (4, some .int), (2, 0, 11), (714, 712, 713, 96)),
  ((yX11_feed, cX11_feed), (6, some .int), (5, 0, 11), (720, 718, 719, 96)),
  ((yX11_append, cX11_append), (3, none), (1, 0, 11), (724, 723, 3, 96)),
  ((yX11_end, cX11_end), (2, some .int), (1, 0, 11), (728, 726, 727, 96)),
  ((yX11_plan, cX11_plan), (2, some .int), (0, 0, 11), (732, 730, 731, 96)),
  ((yX11_run, cX11_run), (3, some .int), (2, 0, 11), (857, 855, 856, 96)),
  ((yX11_goBy, cX11_goBy), (5, none), (3, 0, 11), (865, 864, 18, 96)),
  ((yX11_tells, cX11_tells), (2, some .int), (1, 0, 11), (981, 979, 980, 96)),
  ((yX11_up, cX11_up), (1, some .long), (0, 0, 11), (1008, 1006, 1007, 96)),
  ((yX11_turn, cX11_turn), (2, some .long), (1, 0, 11), (1013, 1011, 1012, 96)),
  ((yX11_rest, cX11_rest), (2, some .int), (1, 0, 11), (1018, 1016, 1017, 96)),
  ((yX11_lever, cX11_lever), (2, some .int), (1, 0, 11), (1023, 1021, 1022, 96)),
  ((yX11_of, cX11_of), (4, some .int), (2, 0, 11), (1027, 1025, 1026, 96)),
  ((yX11_flows, cX11_flows), (3, some .long), (2, 0, 11), (1031, 1029, 1030, 96)),
  ((yX11_inside, cX11_inside), (3, some .int), (2, 0, 11), (1038, 1036, 1037, 96)),
  ((yX11_outside, cX11_outside), (2, some .int), (1, 0, 11), (1043, 1041, 1042, 96)),
  ((yX11_slid, cX11_slid), (2, some .int), (1, 0, 11), (1048, 1046, 1047, 96)),
  ((yX11_sinks, cX11_sinks), (5, some .int), (1, 0, 11), (1052, 1050, 1051, 96)),
  ((yX11_parts, cX11_parts), (5, some .int), (1, 0, 11), (1064, 1062, 1063, 96)),
  ((yX11_carried, cX11_carried), (11, some .int), (3, 0, 11), (1068, 1066, 1067, 96)),
  ((yX11_order, cX11_order), (5, some .int), (3, 0, 11), (1076, 1074, 1075, 96)),
  ((yX11_ahead, cX11_ahead), (6, some .int), (3, 0, 11), (1105, 1103, 1104, 96)),
  ((yX11_saved, cX11_saved), (8, some .int), (4, 0, 11), (1122, 1120, 1121, 96)),
  ((yX11_hoses, cX11_hoses), (7, some .int), (3, 0, 11), (1130, 1128, 1129, 96)),
  ((yX11_ice, cX11_ice), (4, some .int), (2, 0, 11), (1135, 1133, 1134, 96)),
  ((yX11_load, cX11_load), (3, some .int), (2, 0, 11), (1143, 1141, 1142, 96)),
  ((yX11_night, cX11_night), (10, some .int), (2, 0, 11), (1151, 1149, 1150, 96)),
  ((yX11_finishable, cX11_finishable), (9, some .long), (2, 0, 11), (1155, 1154, 26, 96)),
  ((yX11_stiffWith, cX11_stiffWith), (3, some .long), (1, 0, 11), (1159, 1158, 27, 96)),
  ((yX11_guess, cX11_guess), (12, some .int), (3, 0, 11), (1163, 1161, 1162, 96)),
  ((yX11_missed, cX11_missed), (5, some .int), (3, 0, 11), (1168, 1167, 28, 96)),
  ((yX11_best, cX11_best), (4, some .int), (3, 0, 11), (1173, 1171, 1172, 96)),
  ((yX11_slop, cX11_slop), (2, some .int), (1, 0, 11), (1192, 1190, 1191, 96)),
  ((yX11_still, cX11_still), (9, some .int), (1, 0, 11), (1202, 1200, 1201, 96)),
  ((yX11_floods, cX11_floods), (4, some .int), (2, 0, 11), (1206, 1204, 1205, 96)),
  ((yX11_leaves, cX11_leaves), (6, some .int), (2, 0, 11), (1210, 1208, 1209, 96)),
  ((yX11_drain, cX11_drain), (3, none), (1, 0, 11), (1214, 1213, 30, 96)),
  ((yX11_count, cX11_count), (2, some .int), (1, 0, 11), (1219, 1217, 1218, 96)),
  ((yX11_image, cX11_image), (2, some .int), (1, 0, 11), (1223, 1221, 1222, 96)),
  ((yX11_back, cX11_back), (2, some .int), (1, 0, 11), (1251, 1249, 1250, 96)),
  ((yX11_hasPlace, cX11_hasPlace), (2, some .boolean), (1, 0, 11), (677, 676, 1, 96)),
  ((yX11_hasPlan, cX11_hasPlan), (2, some .boolean), (1, 0, 11), (861, 860, 17, 96)),
  ((yX11_hasImage, cX11_hasImage), (2, some .boolean), (1, 0, 11), (1126, 1125, 25, 96)),
  ((yX11_within, cX11_within), (3, some .boolean), (3, 1, 11), (621, 620, 0, 96)),
  ((yX11_root, cX11_root), (6, some .int), (1, 1, 11), (994, 993, 0, 96)),
  ((yX11_down, cX11_down), (4, some .long), (2, 1, 11), (657, 656, 0, 96)),
  ((yX12_init, cX12_init), (1, none), (0, 2, 12), (1256, 1255, 0, 108)),
  ((yX12_in, cX12_in), (6, some .boolean), (3, 1, 12), (1435, 1434, 0, 108)),
  ((yX12_between, cX12_between), (6, some .long), (3, 1, 12), (1617, 1616, 0, 108)),
  ((yX12_floor, cX12_floor), (4, some .long), (2, 1, 12), (1542, 1541, 0, 108)),
  ((yX12_without, cX12_without), (1, some .int), (1, 1, 12), (1562, 1561, 0, 108)),
  ((yX12_isShip, cX12_isShip), (1, some .boolean), (0, 0, 12), (1446, 1445, 31, 108)),
  ((yX12_isPlace, cX12_isPlace), (2, some .boolean), (1, 0, 12), (1463, 1462, 32, 108)),
  ((yX12_isCargo, cX12_isCargo), (2, some .boolean), (1, 0, 12), (1633, 1632, 53, 108)),
  ((yX12_ship, cX12_ship), (6, some .boolean), (4, 0, 12), (1430, 1428, 1429, 108)),
  ((yX12_form, cX12_form), (4, some .int), (2, 0, 12), (1442, 1440, 1441, 108)),
  ((yX12_place, cX12_place), (8, some .int), (6, 0, 12), (1451, 1449, 1450, 108)),
  ((yX12_cap, cX12_cap), (2, some .int), (1, 0, 12), (1467, 1466, 33, 108)),
  ((yX12_level, cX12_level), (3, some .int), (1, 0, 12), (1523, 1522, 39, 108)),
  ((yX12_water, cX12_water), (4, some .int), (2, 0, 12), (1459, 1457, 1458, 108)),
  ((yX12_walls, cX12_walls), (4, some .int), (2, 0, 12), (1471, 1469, 1470, 108)),
  ((yX12_cargo, cX12_cargo), (6, some .int), (4, 0, 12), (1475, 1473, 1474, 108)),
  ((yX12_isHole, cX12_isHole), (5, some .boolean), (4, 0, 12), (1485, 1484, 34, 108)),
  ((yX12_door, cX12_door), (6, some .int), (4, 0, 12), (1481, 1479, 1480, 108)),
  ((yX12_port, cX12_port), (6, some .int), (4, 0, 12), (1490, 1488, 1489, 108)),
  ((yX12_sets, cX12_sets), (5, some .int), (2, 0, 12), (1494, 1492, 1493, 108)),
  ((yX12_sine, cX12_sine), (1, some .int), (1, 1, 12), (1527, 1526, 0, 108)),
  ((yX12_leverAt, cX12_leverAt), (3, some .int), (1, 0, 12), (1566, 1565, 46, 108)),
  ((yX12_total, cX12_total), (3, some .int), (0, 0, 12), (1507, 1506, 35, 108)),
  ((yX12_upward, cX12_upward), (4, some .long), (0, 0, 12), (1519, 1518, 38, 108)),
  ((yX12_draft, cX12_draft), (1, some .int), (0, 0, 12), (1511, 1510, 36, 108)),
  ((yX12_runs, cX12_runs), (8, some .long), (2, 0, 12), (1537, 1536, 41, 108)),
  ((yX12_allRuns, cX12_allRuns), (5, some .long), (1, 0, 12), (1533, 1532, 40, 108)),
  ((yX12_asideNow, cX12_asideNow), (4, some .long), (0, 0, 12), (1578, 1577, 49, 108)),
  ((yX12_turnBy, cX12_turnBy), (9, some .long), (2, 0, 12), (1559, 1558, 45, 108)),
  ((yX12_restBy, cX12_restBy), (7, some .int), (2, 0, 12), (1555, 1554, 44, 108)),
  ((yX12_restFrom, cX12_restFrom), (2, some .int), (1, 0, 12), (1574, 1573, 48, 108)),
  ((yX12_loll, cX12_loll), (1, some .int), (0, 0, 12), (1551, 1550, 43, 108)),
  ((yX12_stiff, cX12_stiff), (3, some .int), (0, 0, 12), (1515, 1514, 37, 108)),
  ((yX12_beat, cX12_beat), (6, some .int), (0, 0, 12), (1546, 1545, 42, 108)),
  ((yX12_range, cX12_range), (7, some .int), (0, 0, 12), (1570, 1569, 47, 108)),
  ((yX12_isOver, cX12_isOver), (1, some .boolean), (0, 0, 12), (1582, 1581, 50, 108)),
  ((yX12_tells, cX12_tells), (2, some .int), (1, 0, 12), (1503, 1501, 1502, 108)),
  ((yX12_up, cX12_up), (1, some .long), (0, 0, 12), (1586, 1584, 1585, 108)),
  ((yX12_turn, cX12_turn), (2, some .long), (1, 0, 12), (1590, 1588, 1589, 108)),
  ((yX12_rest, cX12_rest), (2, some .int), (1, 0, 12), (1594, 1592, 1593, 108)),
  ((yX12_lever, cX12_lever), (2, some .int), (1, 0, 12), (1598, 1596, 1597, 108)),
  ((yX12_of, cX12_of), (3, some .int), (2, 0, 12), (1602, 1600, 1601, 108)),
  ((yX12_flows, cX12_flows), (3, some .long), (2, 0, 12), (1606, 1604, 1605, 108)),
  ((yX12_insideAt, cX12_insideAt), (6, some .int), (2, 0, 12), (1614, 1613, 51, 108)),
  ((yX12_outsideAt, cX12_outsideAt), (4, some .int), (1, 0, 12), (1625, 1624, 52, 108)),
  ((yX12_inside, cX12_inside), (3, some .int), (2, 0, 12), (1610, 1608, 1609, 108)),
  ((yX12_outside, cX12_outside), (2, some .int), (1, 0, 12), (1621, 1619, 1620, 108)),
  ((yX12_slid, cX12_slid), (2, some .int), (1, 0, 12), (1629, 1627, 1628, 108)),
  ((yX12_feed, cX12_feed), (6, some .int), (5, 0, 12), (1637, 1635, 1636, 108)),
  ((yX12_put, cX12_put), (3, none), (1, 0, 12), (1641, 1640, 54, 108)),
  ((yX12_end, cX12_end), (2, some .int), (1, 0, 12), (1645, 1643, 1644, 108)),
  ((yX12_wordOf, cX12_wordOf), (1, some (.object "java/lang/String")), (1, 1, 12), (1693, 1692, 0, 108)),
  ((yX12_clauseOf, cX12_clauseOf), (1, some (.object "java/lang/String")), (1, 1, 12), (1664, 1663, 0, 108)),
  ((yX12_fails, cX12_fails), (3, none), (2, 0, 12), (1686, 1685, 59, 108)),
  ((yX12_sign, cX12_sign), (1, some .int), (0, 0, 12), (1661, 1660, 57, 108)),
  ((yX12_blanks, cX12_blanks), (1, none), (0, 0, 12), (1657, 1656, 56, 108)),
  ((yX12_isDigit, cX12_isDigit), (1, some .boolean), (0, 0, 12), (1727, 1726, 64, 108)),
  ((yX12_stands, cX12_stands), (5, some .boolean), (1, 0, 12), (1673, 1672, 58, 108)),
  ((yX12_takes, cX12_takes), (3, some .boolean), (1, 0, 12), (1751, 1750, 69, 108)),
  ((yX12_entry, cX12_entry), (3, none), (2, 0, 12), (1742, 1741, 67, 108)),
  ((yX12_isCounted, cX12_isCounted), (2, none), (1, 0, 12), (1738, 1737, 66, 108)),
  ((yX12_digits, cX12_digits), (4, some .int), (1, 0, 12), (1734, 1733, 65, 108)),
  ((yX12_value, cX12_value), (3, none), (0, 0, 12), (1723, 1722, 63, 108)),
  ((yX12_term, cX12_term), (2, none), (0, 0, 12), (1719, 1718, 62, 108)),
  ((yX12_sum, cX12_sum), (2, none), (0, 0, 12), (1715, 1714, 61, 108)),
  ((yX12_compared, cX12_compared), (3, none), (0, 0, 12), (1768, 1767, 73, 108)),
  ((yX12_top, cX12_top), (1, some .int), (0, 0, 12), (1776, 1775, 75, 108)),
  ((yX12_opens, cX12_opens), (2, none), (1, 0, 12), (1764, 1763, 72, 108)),
  ((yX12_answers, cX12_answers), (2, none), (1, 0, 12), (1772, 1771, 74, 108)),
  ((yX12_fact, cX12_fact), (1, some .boolean), (0, 0, 12), (1759, 1758, 71, 108)),
  ((yX12_test, cX12_test), (5, none), (0, 0, 12), (1755, 1754, 70, 108)),
  ((yX12_amount, cX12_amount), (2, some .int), (1, 0, 12), (1746, 1745, 68, 108)),
  ((yX12_letter, cX12_letter), (2, some .int), (0, 0, 12), (1690, 1689, 60, 108)),
  ((yX12_clause, cX12_clause), (5, none), (1, 0, 12), (1653, 1652, 55, 108)),
  ((yX12_plan, cX12_plan), (3, some .int), (0, 0, 12), (1649, 1647, 1648, 108)),
  ((yX12_isPlan, cX12_isPlan), (2, some .boolean), (1, 0, 12), (1786, 1785, 76, 108)),
  ((yX12_truth, cX12_truth), (1, some .long), (1, 1, 12), (1812, 1811, 0, 108)),
  ((yX12_both, cX12_both), (5, some .long), (3, 1, 12), (1809, 1808, 0, 108)),
  ((yX12_answer, cX12_answer), (8, some .long), (3, 0, 12), (1806, 1805, 81, 108)),
  ((yX12_asks, cX12_asks), (2, none), (0, 0, 12), (1802, 1801, 80, 108)),
  ((yX12_pours, cX12_pours), (3, none), (2, 0, 12), (1816, 1815, 82, 108)),
  ((yX12_crosses, cX12_crosses), (5, none), (3, 0, 12), (1820, 1819, 83, 108)),
  ((yX12_does, cX12_does), (3, none), (2, 0, 12), (1798, 1797, 79, 108)),
  ((yX12_doorsGo, cX12_doorsGo), (5, none), (0, 0, 12), (1824, 1823, 84, 108)),
  ((yX12_portGoes, cX12_portGoes), (5, none), (1, 0, 12), (1828, 1827, 85, 108)),
  ((yX12_goesBy, cX12_goesBy), (4, none), (1, 0, 12), (1794, 1793, 78, 108)),
  ((yX12_goesOn, cX12_goesOn), (4, none), (2, 0, 12), (1790, 1789, 77, 108)),
  ((yX12_run, cX12_run), (3, some .int), (2, 0, 12), (1782, 1780, 1781, 108)),
  ((yX12_carry, cX12_carry), (3, none), (1, 0, 12), (1842, 1841, 87, 108)),
  ((yX12_carriesAll, cX12_carriesAll), (3, none), (2, 0, 12), (1838, 1837, 86, 108)),
  ((yX12_image, cX12_image), (2, some .int), (1, 0, 12), (1834, 1832, 1833, 108)),
  ((yX12_back, cX12_back), (2, some .int), (1, 0, 12), (1846, 1844, 1845, 108)),
  ((yX12_sinks, cX12_sinks), (5, some .int), (1, 0, 12), (1850, 1848, 1849, 108)),
  ((yX12_parts, cX12_parts), (5, some .int), (1, 0, 12), (1854, 1852, 1853, 108)),
  ((yX12_carried, cX12_carried), (9, some .int), (3, 0, 12), (1858, 1856, 1857, 108)),
  ((yX12_isNext, cX12_isNext), (6, some .boolean), (1, 0, 12), (1872, 1871, 89, 108)),
  ((yX12_swaps, cX12_swaps), (4, none), (2, 0, 12), (1876, 1875, 90, 108)),
  ((yX12_isFilled, cX12_isFilled), (7, some .boolean), (2, 0, 12), (1868, 1867, 88, 108)),
  ((yX12_order, cX12_order), (7, some .int), (3, 0, 12), (1863, 1861, 1862, 108)),
  ((yX12_allWater, cX12_allWater), (3, some .int), (0, 0, 12), (1884, 1883, 91, 108)),
  ((yX12_ahead, cX12_ahead), (6, some .int), (3, 0, 12), (1880, 1878, 1879, 108)),
  ((yX12_saved, cX12_saved), (7, some .int), (4, 0, 12), (1888, 1886, 1887, 108)),
  ((yX12_hoses, cX12_hoses), (7, some .int), (3, 0, 12), (1893, 1891, 1892, 108)),
  ((yX12_ice, cX12_ice), (5, some .int), (2, 0, 12), (1898, 1896, 1897, 108)),
  ((yX12_load, cX12_load), (4, some .int), (2, 0, 12), (1902, 1900, 1901, 108)),
  ((yX12_isBorne, cX12_isBorne), (5, some .boolean), (2, 0, 12), (1910, 1909, 92, 108)),
  ((yX12_night, cX12_night), (5, some .int), (2, 0, 12), (1906, 1904, 1905, 108)),
  ((yX12_guess, cX12_guess), (11, some .int), (3, 0, 12), (1914, 1912, 1913, 108)),
  ((yX12_worst, cX12_worst), (9, some .int), (4, 0, 12), (1923, 1922, 93, 108)),
  ((yX12_best, cX12_best), (9, some .int), (3, 0, 12), (1918, 1916, 1917, 108)),
  ((yX12_slopOf, cX12_slopOf), (7, some .int), (1, 0, 12), (1931, 1930, 94, 108)),
  ((yX12_slop, cX12_slop), (2, some .int), (1, 0, 12), (1927, 1925, 1926, 108)),
  ((yX12_still, cX12_still), (8, some .int), (1, 0, 12), (1936, 1934, 1935, 108)),
  ((yX12_floods, cX12_floods), (6, some .int), (2, 0, 12), (1940, 1938, 1939, 108)),
  ((yX12_leaves, cX12_leaves), (6, some .int), (2, 0, 12), (1944, 1942, 1943, 108)),
  ((yX12_count, cX12_count), (2, some .int), (1, 0, 12), (1948, 1946, 1947, 108)),
  ((yJ6_bitCount_0f7a4, cJ6_bitCount_0f7a4), (1, some .int), (1, 1, 99), (1079, 1078, 0, 116)),
  ((yJ0_length_8abf5, cJ0_length_8abf5), (1, some .int), (0, 0, 100), (1677, 1675, 1676, 111)),
  ((yJ0_charAt_5068e, cJ0_charAt_5068e), (2, some .char), (1, 0, 100), (762, 760, 761, 111)),
  ((yJ0_coder_7d493, cJ0_coder_7d493), (1, some .byte), (0, 0, 100), (1681, 1679, 1680, 111)),
  ((yJ0_isLatin1_aae02, cJ0_isLatin1_aae02), (1, some .boolean), (0, 0, 100), (766, 764, 765, 111)),
  ((yJ0_checkIndex_df160, cJ0_checkIndex_df160), (2, none), (2, 1, 100), (774, 773, 0, 111)),
  ((yJ1_charAt_3b067, cJ1_charAt_3b067), (2, some .char), (2, 1, 99), (771, 770, 0, 112)),
  ((yJ7_fill_d0a16, cJ7_fill_d0a16), (5, none), (2, 1, 99), (1089, 1088, 0, 109)),
  ((yJ7_fill_53178, cJ7_fill_53178), (4, none), (2, 1, 99), (629, 628, 0, 109)),
  ((yJ3_checkIndex_8e157, cJ3_checkIndex_8e157), (3, some .int), (3, 1, 99), (779, 778, 0, 113)),
  ((x, cL_law), (4, some .boolean), (1, 3, 99), (0, 0, 0, 0))]
end
section
abbrev am_E : Type := Nat × Instr × Nat × Nat × Nat
def cd_0 : List am_E := [(0, .aload_n 0, 0, 0, 0), (1, .invokespecial 3, 1001, 0, 470), (4, .aload_n 0, 0, 0, 0), (5, .bipush 61, 0, 0, 0), (7, .newarray .int, 0, 0, 0), (9, .putfield 9, 0, 0, 471), (12, .aload_n 0, 0, 0, 0), (13, .bipush 12, 0, 0, 0), (15, .newarray .long, 0, 0, 0), (17, .putfield 15, 0, 6, 480), (20, .aload_n 0, 0, 0, 0), (21, .bipush 12, 0, 0, 0), (23, .newarray .long, 0, 0, 0), (25, .putfield 19, 0, 7, 481), (28, .return_, 0, 0, 0)]
def cd_1 : List am_E := [(0, .aload_n 0, 0, 0, 0), (1, .aload_n 1, 0, 0, 0), (2, .getfield 22, 10, 10, 321), (5, .putfield 9, 0, 0, 471), (8, .aload_n 0, 0, 0, 0), (9, .aload_n 1, 0, 0, 0), (10, .getfield 25, 10, 1, 295), (13, .putfield 29, 0, 1, 472), (16, .aload_n 0, 0, 0, 0), (17, .aload_n 1, 0, 0, 0), (18, .getfield 30, 10, 9, 316), (21, .i2l, 0, 0, 0), (22, .putfield 33, 0, 2, 473), (25, .aload_n 0, 0, 0, 0), (26, .aload_n 1, 0, 0, 0), (27, .getfield 36, 10, 2, 297), (30, .i2l, 0, 0, 0), (31, .aload_n 1, 0, 0, 0), (32, .getfield 39, 10, 3, 299), (35, .i2l, 0, 0, 0), (36, .lmul, 0, 0, 0), (37, .putfield 42, 0, 3, 475), (40, .aload_n 0, 0, 0, 0), (41, .aload_n 1, 0, 0, 0), (42, .getfield 45, 10, 5, 302), (45, .i2l, 0, 0, 0), (46, .ldc2_w 48, 0, 10, 892), (49, .lmul, 0, 0, 0), (50, .putfield 50, 0, 4, 477), (53, .aload_n 0, 0, 0, 0), (54, .iconst 0, 0, 0, 0), (55, .putfield 53, 0, 5, 479), (58, .aload_n 1, 0, 0, 0), (59, .getfield 56, 10, 11, 324), (62, .astore_n 2, 0, 0, 0), (63, .iconst 0, 0, 0, 0), (64, .istore_n 3, 0, 0, 0), (65, .iload_n 3, 0, 0, 0), (66, .aload_n 2, 0, 0, 0), (67, .getfield 60, 6, 0, 139), (70, .if_icmp .ge 119, 0, 0, 0), (73, .aload_n 2, 0, 0, 0), (74, .getfield 65, 6, 8, 166), (77, .iload_n 3, 0, 0, 0), (78, .iaload, 0, 0, 0), (79, .i2l, 0, 0, 0), (80, .lstore 4, 0, 0, 0), (82, .aload_n 0, 0, 0, 0), (83, .dup, 0, 0, 0), (84, .getfield 42, 0, 3, 475), (87, .lload 4, 0, 0, 0), (89, .aload_n 2, 0, 0, 0), (90, .getfield 68, 6, 1, 143), (93, .iload_n 3, 0, 0, 0), (94, .iaload, 0, 0, 0), (95, .aload_n 2, 0, 0, 0), (96, .getfield 71, 6, 9, 171), (99, .iload_n 3, 0, 0, 0), (100, .iaload, 0, 0, 0), (101, .iconst 2, 0, 0, 0), (102, .idiv, 0, 0, 0), (103, .iadd, 0, 0, 0), (104, .i2l, 0, 0, 0), (105, .lmul, 0, 0, 0), (106, .ladd, 0, 0, 0), (107, .putfield 42, 0, 3, 475), (110, .aload_n 0, 0, 0, 0), (111, .dup, 0, 0, 0), (112, .getfield 50, 0, 4, 477), (115, .lload 4, 0, 0, 0), (117, .aload_n 2, 0, 0, 0), (118, .getfield 74, 6, 6, 158), (121, .iload_n 3, 0, 0, 0), (122, .iaload, 0, 0, 0), (123, .i2l, 0, 0, 0), (124, .lmul, 0, 0, 0), (125, .ldc2_w 48, 0, 10, 892), (128, .lmul, 0, 0, 0), (129, .ladd, 0, 0, 0), (130, .putfield 50, 0, 4, 477), (133, .aload_n 2, 0, 0, 0), (134, .getfield 77, 6, 11, 178), (137, .iload_n 3, 0, 0, 0), (138, .iaload, 0, 0, 0), (139, .ifCond .le 44, 0, 0, 0), (142, .aload_n 0, 0, 0, 0), (143, .getfield 15, 0, 6, 480), (146, .aload_n 0, 0, 0, 0), (147, .getfield 53, 0, 5, 479), (150, .aload_n 2, 0, 0, 0), (151, .getfield 79, 6, 10, 175), (154, .iload_n 3, 0, 0, 0), (155, .laload, 0, 0, 0), (156, .lastore, 0, 0, 0), (157, .aload_n 0, 0, 0, 0), (158, .getfield 19, 0, 7, 481), (161, .aload_n 0, 0, 0, 0), (162, .getfield 53, 0, 5, 479), (165, .aload_n 2, 0, 0, 0), (166, .getfield 77, 6, 11, 178), (169, .iload_n 3, 0, 0, 0), (170, .iaload, 0, 0, 0), (171, .i2l, 0, 0, 0), (172, .lastore, 0, 0, 0), (173, .aload_n 0, 0, 0, 0), (174, .dup, 0, 0, 0), (175, .getfield 53, 0, 5, 479), (178, .iconst 1, 0, 0, 0), (179, .iadd, 0, 0, 0), (180, .putfield 53, 0, 5, 479), (183, .iinc 3 1, 0, 0, 0), (186, .goto (-121), 0, 0, 0), (189, .aload_n 1, 0, 0, 0), (190, .getfield 80, 10, 12, 330), (193, .astore_n 3, 0, 0, 0), (194, .iconst 0, 0, 0, 0), (195, .istore 4, 0, 0, 0), (197, .iload 4, 0, 0, 0), (199, .aload_n 3, 0, 0, 0), (200, .getfield 84, 2, 0, 216), (203, .if_icmp .ge 74, 0, 0, 0), (206, .aload_n 0, 0, 0, 0), (207, .dup, 0, 0, 0), (208, .getfield 42, 0, 3, 475), (211, .aload_n 3, 0, 0, 0), (212, .getfield 87, 2, 1, 219), (215, .iload 4, 0, 0, 0), (217, .iaload, 0, 0, 0), (218, .i2l, 0, 0, 0), (219, .aload_n 3, 0, 0, 0), (220, .getfield 89, 2, 2, 221), (223, .iload 4, 0, 0, 0), (225, .iaload, 0, 0, 0), (226, .i2l, 0, 0, 0), (227, .lmul, 0, 0, 0), (228, .ladd, 0, 0, 0), (229, .putfield 42, 0, 3, 475), (232, .aload_n 0, 0, 0, 0), (233, .dup, 0, 0, 0), (234, .getfield 50, 0, 4, 477), (237, .ldc2_w 48, 0, 10, 892), (240, .aload_n 3, 0, 0, 0), (241, .getfield 87, 2, 1, 219), (244, .iload 4, 0, 0, 0), (246, .iaload, 0, 0, 0), (247, .i2l, 0, 0, 0), (248, .lmul, 0, 0, 0), (249, .aload_n 3, 0, 0, 0), (250, .getfield 91, 2, 5, 226), (253, .iload 4, 0, 0, 0), (255, .iaload, 0, 0, 0), (256, .i2l, 0, 0, 0), (257, .lmul, 0, 0, 0), (258, .aload_n 3, 0, 0, 0), (259, .getfield 94, 2, 4, 224), (262, .iload 4, 0, 0, 0), (264, .iaload, 0, 0, 0), (265, .i2l, 0, 0, 0), (266, .lmul, 0, 0, 0), (267, .ladd, 0, 0, 0), (268, .putfield 50, 0, 4, 477), (271, .iinc 4 1, 0, 0, 0), (274, .goto (-77), 0, 0, 0), (277, .return_, 0, 0, 0)]
def cd_2 : List am_E := [(0, .aload_n 0, 0, 0, 0), (1, .dup, 0, 0, 0), (2, .getfield 33, 0, 2, 473), (5, .iload_n 1, 0, 0, 0), (6, .i2l, 0, 0, 0), (7, .ladd, 0, 0, 0), (8, .putfield 33, 0, 2, 473), (11, .aload_n 0, 0, 0, 0), (12, .dup, 0, 0, 0), (13, .getfield 42, 0, 3, 475), (16, .iload_n 1, 0, 0, 0), (17, .i2l, 0, 0, 0), (18, .iload_n 2, 0, 0, 0), (19, .i2l, 0, 0, 0), (20, .lmul, 0, 0, 0), (21, .ladd, 0, 0, 0), (22, .putfield 42, 0, 3, 475), (25, .return_, 0, 0, 0)]
def cd_3 : List am_E := [(0, .getstatic 97, 0, 0, 10017), (3, .iload_n 1, 0, 0, 0), (4, .iaload, 0, 0, 0), (5, .i2l, 0, 0, 0), (6, .lstore_n 2, 0, 0, 0), (7, .aload_n 0, 0, 0, 0), (8, .getfield 42, 0, 3, 475), (11, .lload_n 2, 0, 0, 0), (12, .lmul, 0, 0, 0), (13, .ldc2_w 100, 0, 1000, 903), (16, .ldiv, 0, 0, 0), (17, .aload_n 0, 0, 0, 0), (18, .getfield 33, 0, 2, 473), (21, .aload_n 0, 0, 0, 0), (22, .getfield 9, 0, 0, 471), (25, .iload_n 1, 0, 0, 0), (26, .iaload, 0, 0, 0), (27, .i2l, 0, 0, 0), (28, .lmul, 0, 0, 0), (29, .lsub, 0, 0, 0), (30, .lstore 4, 0, 0, 0), (32, .iconst 0, 0, 0, 0), (33, .istore 6, 0, 0, 0), (35, .iload 6, 0, 0, 0), (37, .aload_n 0, 0, 0, 0), (38, .getfield 53, 0, 5, 479), (41, .if_icmp .ge 37, 0, 0, 0), (44, .lload 4, 0, 0, 0), (46, .aload_n 0, 0, 0, 0), (47, .getfield 15, 0, 6, 480), (50, .iload 6, 0, 0, 0), (52, .laload, 0, 0, 0), (53, .lload_n 2, 0, 0, 0), (54, .lmul, 0, 0, 0), (55, .ldc2_w 100, 0, 1000, 903), (58, .ldiv, 0, 0, 0), (59, .aload_n 0, 0, 0, 0), (60, .getfield 19, 0, 7, 481), (63, .iload 6, 0, 0, 0), (65, .laload, 0, 0, 0), (66, .invokestatic 102, 1006, 0, 904), (69, .ladd, 0, 0, 0), (70, .lstore 4, 0, 0, 0), (72, .iinc 6 1, 0, 0, 0), (75, .goto (-40), 0, 0, 0), (78, .lload 4, 0, 0, 0), (80, .lreturn, 0, 0, 0)]
def cd_4 : List am_E := [(0, .iload_n 1, 0, 0, 0), (1, .invokestatic 108, 1004, 0, 977), (4, .istore_n 2, 0, 0, 0), (5, .aload_n 0, 0, 0, 0), (6, .getfield 50, 0, 4, 477), (9, .getstatic 97, 0, 0, 10017), (12, .bipush 90, 0, 0, 0), (14, .iload_n 2, 0, 0, 0), (15, .isub, 0, 0, 0), (16, .iaload, 0, 0, 0), (17, .i2l, 0, 0, 0), (18, .lmul, 0, 0, 0), (19, .ldc2_w 100, 0, 1000, 903), (22, .ldiv, 0, 0, 0), (23, .lstore_n 3, 0, 0, 0), (24, .iload_n 1, 0, 0, 0), (25, .ifCond .ne 5, 0, 0, 0), (28, .lload_n 3, 0, 0, 0), (29, .lreturn, 0, 0, 0), (30, .iload_n 1, 0, 0, 0), (31, .ifCond .le 13, 0, 0, 0), (34, .lload_n 3, 0, 0, 0), (35, .aload_n 0, 0, 0, 0), (36, .iload_n 2, 0, 0, 0), (37, .invokevirtual 112, 3, 2, 897), (40, .ladd, 0, 0, 0), (41, .goto 10, 0, 0, 0), (44, .lload_n 3, 0, 0, 0), (45, .aload_n 0, 0, 0, 0), (46, .iload_n 2, 0, 0, 0), (47, .invokevirtual 112, 3, 2, 897), (50, .lsub, 0, 0, 0), (51, .lreturn, 0, 0, 0)]
def cd_5 : List am_E := [(0, .aload_n 0, 0, 0, 0), (1, .iload_n 1, 0, 0, 0), (2, .invokevirtual 116, 4, 2, 973), (5, .lstore_n 3, 0, 0, 0), (6, .lload_n 3, 0, 0, 0), (7, .lconst 0, 0, 0, 0), (8, .lcmp, 0, 0, 0), (9, .ifCond .le 7, 0, 0, 0), (12, .iconst 1, 0, 0, 0), (13, .goto 4, 0, 0, 0), (16, .iconst (-1), 0, 0, 0), (17, .istore 5, 0, 0, 0), (19, .iload_n 1, 0, 0, 0), (20, .istore 6, 0, 0, 0), (22, .iconst 0, 0, 0, 0), (23, .istore 7, 0, 0, 0), (25, .iload 7, 0, 0, 0), (27, .iload_n 2, 0, 0, 0), (28, .if_icmp .ge 43, 0, 0, 0), (31, .lload_n 3, 0, 0, 0), (32, .iload 5, 0, 0, 0), (34, .i2l, 0, 0, 0), (35, .lmul, 0, 0, 0), (36, .lconst 0, 0, 0, 0), (37, .lcmp, 0, 0, 0), (38, .ifCond .le 33, 0, 0, 0), (41, .iload 6, 0, 0, 0), (43, .iload 5, 0, 0, 0), (45, .bipush 60, 0, 0, 0), (47, .imul, 0, 0, 0), (48, .if_icmp .eq 23, 0, 0, 0), (51, .iload 6, 0, 0, 0), (53, .iload 5, 0, 0, 0), (55, .iadd, 0, 0, 0), (56, .istore 6, 0, 0, 0), (58, .aload_n 0, 0, 0, 0), (59, .iload 6, 0, 0, 0), (61, .invokevirtual 116, 4, 2, 973), (64, .lstore_n 3, 0, 0, 0), (65, .iinc 7 1, 0, 0, 0), (68, .goto (-43), 0, 0, 0), (71, .iload 6, 0, 0, 0), (73, .ireturn, 0, 0, 0)]
def cd_6 : List am_E := [(0, .aload_n 0, 0, 0, 0), (1, .iconst 5, 0, 0, 0), (2, .invokevirtual 112, 3, 2, 897), (5, .lneg, 0, 0, 0), (6, .ldc2_w 100, 0, 1000, 903), (9, .lmul, 0, 0, 0), (10, .aload_n 0, 0, 0, 0), (11, .getfield 33, 0, 2, 473), (14, .getstatic 97, 0, 0, 10017), (17, .iconst 5, 0, 0, 0), (18, .iaload, 0, 0, 0), (19, .i2l, 0, 0, 0), (20, .lmul, 0, 0, 0), (21, .invokestatic 119, 137, 2, 10018), (24, .lreturn, 0, 0, 0)]
def cd_7 : List am_E := [(0, .aload_n 0, 0, 0, 0), (1, .invokevirtual 122, 6, 1, 990), (4, .lstore_n 1, 0, 0, 0), (5, .lload_n 1, 0, 0, 0), (6, .lconst 0, 0, 0, 0), (7, .lcmp, 0, 0, 0), (8, .ifCond .gt 7, 0, 0, 0), (11, .iconst (-1), 0, 0, 0), (12, .goto 25, 0, 0, 0), (15, .ldc2_w 126, 0, 64, 991), (18, .aload_n 0, 0, 0, 0), (19, .getfield 29, 0, 1, 472), (22, .i2l, 0, 0, 0), (23, .lmul, 0, 0, 0), (24, .aload_n 0, 0, 0, 0), (25, .getfield 29, 0, 1, 472), (28, .i2l, 0, 0, 0), (29, .lmul, 0, 0, 0), (30, .lload_n 1, 0, 0, 0), (31, .invokestatic 119, 137, 2, 10018), (34, .invokestatic 128, 136, 1, 10021), (37, .ireturn, 0, 0, 0)]
def cd_8 : List am_E := [(0, .aload_n 0, 0, 0, 0), (1, .iconst 1, 0, 0, 0), (2, .invokevirtual 112, 3, 2, 897), (5, .lconst 0, 0, 0, 0), (6, .lcmp, 0, 0, 0), (7, .ifCond .lt 7, 0, 0, 0), (10, .iconst 1, 0, 0, 0), (11, .goto 4, 0, 0, 0), (14, .iconst 0, 0, 0, 0), (15, .ireturn, 0, 0, 0)]
def cd_9 : List am_E := [(0, .aload_n 0, 0, 0, 0), (1, .getfield 50, 0, 4, 477), (4, .lstore_n 1, 0, 0, 0), (5, .aload_n 0, 0, 0, 0), (6, .lconst 0, 0, 0, 0), (7, .putfield 50, 0, 4, 477), (10, .aload_n 0, 0, 0, 0), (11, .iconst 1, 0, 0, 0), (12, .bipush 120, 0, 0, 0), (14, .invokevirtual 132, 5, 3, 999), (17, .istore_n 3, 0, 0, 0), (18, .aload_n 0, 0, 0, 0), (19, .lload_n 1, 0, 0, 0), (20, .putfield 50, 0, 4, 477), (23, .iload_n 3, 0, 0, 0), (24, .ireturn, 0, 0, 0)]
def cd_10 : List am_E := [(0, .aload_n 0, 0, 0, 0), (1, .iload_n 1, 0, 0, 0), (2, .bipush 120, 0, 0, 0), (4, .invokevirtual 132, 5, 3, 999), (7, .iconst 0, 0, 0, 0), (8, .invokestatic 136, 1002, 0, 1004), (11, .istore_n 2, 0, 0, 0), (12, .bipush 61, 0, 0, 0), (14, .istore_n 3, 0, 0, 0), (15, .bipush 60, 0, 0, 0), (17, .istore 4, 0, 0, 0), (19, .iload 4, 0, 0, 0), (21, .iload_n 2, 0, 0, 0), (22, .if_icmp .le 37, 0, 0, 0), (25, .aload_n 0, 0, 0, 0), (26, .iload 4, 0, 0, 0), (28, .invokevirtual 116, 4, 2, 973), (31, .lstore 5, 0, 0, 0), (33, .lload 5, 0, 0, 0), (35, .lconst 0, 0, 0, 0), (36, .lcmp, 0, 0, 0), (37, .ifCond .ge 6, 0, 0, 0), (40, .goto 19, 0, 0, 0), (43, .lload 5, 0, 0, 0), (45, .lconst 0, 0, 0, 0), (46, .lcmp, 0, 0, 0), (47, .ifCond .le 6, 0, 0, 0), (50, .iload 4, 0, 0, 0), (52, .istore_n 3, 0, 0, 0), (53, .iinc 4 (-1), 0, 0, 0), (56, .goto (-37), 0, 0, 0), (59, .iload_n 3, 0, 0, 0), (60, .ireturn, 0, 0, 0)]
def cd_11 : List am_E := [(0, .aload_n 0, 0, 0, 0), (1, .invokespecial 3, 1001, 0, 547), (4, .aload_n 0, 0, 0, 0), (5, .new 9, 9, 548, 0), (8, .dup, 0, 0, 0), (9, .invokespecial 11, 58, 1, 10014), (12, .putfield 12, 1, 0, 550), (15, .aload_n 0, 0, 0, 0), (16, .iconst 4, 0, 0, 0), (17, .newarray .int, 0, 0, 0), (19, .putfield 18, 1, 4, 554), (22, .aload_n 0, 0, 0, 0), (23, .iconst 4, 0, 0, 0), (24, .newarray .int, 0, 0, 0), (26, .putfield 22, 1, 5, 555), (29, .aload_n 0, 0, 0, 0), (30, .sipush 188, 0, 0, 0), (33, .newarray .int, 0, 0, 0), (35, .putfield 25, 1, 7, 559), (38, .return_, 0, 0, 0)]
def cd_12 : List am_E := [(0, .aload_n 0, 0, 0, 0), (1, .iload_n 2, 0, 0, 0), (2, .putfield 28, 1, 1, 551), (5, .aload_n 0, 0, 0, 0), (6, .iload_n 3, 0, 0, 0), (7, .putfield 32, 1, 2, 552), (10, .aload_n 0, 0, 0, 0), (11, .iload 4, 0, 0, 0), (13, .putfield 35, 1, 3, 553), (16, .aload_n 0, 0, 0, 0), (17, .bipush 61, 0, 0, 0), (19, .putfield 38, 1, 6, 557), (22, .aload_n 1, 0, 0, 0), (23, .aload_n 0, 0, 0, 0), (24, .getfield 25, 1, 7, 559), (27, .iconst 0, 0, 0, 0), (28, .invokevirtual 41, 79, 3, 1178), (31, .return_, 0, 0, 0)]
def cd_13 : List am_E := [(0, .iload_n 3, 0, 0, 0), (1, .aload_n 0, 0, 0, 0), (2, .getfield 32, 1, 2, 552), (5, .if_icmp .lt 4, 0, 0, 0), (8, .return_, 0, 0, 0), (9, .iconst 0, 0, 0, 0), (10, .istore 5, 0, 0, 0), (12, .iload 5, 0, 0, 0), (14, .aload_n 0, 0, 0, 0), (15, .getfield 28, 1, 1, 551), (18, .if_icmp .ge 153, 0, 0, 0), (21, .aload_n 1, 0, 0, 0), (22, .aload_n 0, 0, 0, 0), (23, .getfield 25, 1, 7, 559), (26, .iload_n 3, 0, 0, 0), (27, .bipush 47, 0, 0, 0), (29, .imul, 0, 0, 0), (30, .invokevirtual 47, 80, 3, 1183), (33, .iload 4, 0, 0, 0), (35, .istore 6, 0, 0, 0), (37, .iconst 0, 0, 0, 0), (38, .istore 7, 0, 0, 0), (40, .iload 7, 0, 0, 0), (42, .aload_n 0, 0, 0, 0), (43, .getfield 35, 1, 3, 553), (46, .if_icmp .ge 44, 0, 0, 0), (49, .iload 6, 0, 0, 0), (51, .aload_n 0, 0, 0, 0), (52, .getfield 38, 1, 6, 557), (55, .if_icmp .ge 35, 0, 0, 0), (58, .aload_n 0, 0, 0, 0), (59, .getfield 12, 1, 0, 550), (62, .aload_n 1, 0, 0, 0), (63, .aload_n 2, 0, 0, 0), (64, .iload 5, 0, 0, 0), (66, .aaload, 0, 0, 0), (67, .invokevirtual 50, 59, 3, 1184), (70, .iload 6, 0, 0, 0), (72, .aload_n 1, 0, 0, 0), (73, .getfield 54, 10, 7, 311), (76, .invokestatic 57, 1004, 0, 1185), (79, .invokestatic 63, 1002, 0, 1186), (82, .istore 6, 0, 0, 0), (84, .iinc 7 1, 0, 0, 0), (87, .goto (-47), 0, 0, 0), (90, .iload 6, 0, 0, 0), (92, .aload_n 0, 0, 0, 0), (93, .getfield 38, 1, 6, 557), (96, .if_icmp .ge 69, 0, 0, 0), (99, .aload_n 0, 0, 0, 0), (100, .getfield 18, 1, 4, 554), (103, .iload_n 3, 0, 0, 0), (104, .iload 5, 0, 0, 0), (106, .iastore, 0, 0, 0), (107, .iload_n 3, 0, 0, 0), (108, .iconst 1, 0, 0, 0), (109, .iadd, 0, 0, 0), (110, .aload_n 0, 0, 0, 0), (111, .getfield 32, 1, 2, 552), (114, .if_icmp .ne 26, 0, 0, 0), (117, .aload_n 0, 0, 0, 0), (118, .iload 6, 0, 0, 0), (120, .putfield 38, 1, 6, 557), (123, .aload_n 0, 0, 0, 0), (124, .getfield 18, 1, 4, 554), (127, .iconst 0, 0, 0, 0), (128, .aload_n 0, 0, 0, 0), (129, .getfield 22, 1, 5, 555), (132, .iconst 0, 0, 0, 0), (133, .iconst 4, 0, 0, 0), (134, .invokestatic 67, 1000, 0, 1187), (137, .goto 28, 0, 0, 0), (140, .aload_n 1, 0, 0, 0), (141, .aload_n 0, 0, 0, 0), (142, .getfield 25, 1, 7, 559), (145, .iload_n 3, 0, 0, 0), (146, .iconst 1, 0, 0, 0), (147, .iadd, 0, 0, 0), (148, .bipush 47, 0, 0, 0), (150, .imul, 0, 0, 0), (151, .invokevirtual 41, 79, 3, 1178), (154, .aload_n 0, 0, 0, 0), (155, .aload_n 1, 0, 0, 0), (156, .aload_n 2, 0, 0, 0), (157, .iload_n 3, 0, 0, 0), (158, .iconst 1, 0, 0, 0), (159, .iadd, 0, 0, 0), (160, .iload 6, 0, 0, 0), (162, .invokevirtual 73, 13, 5, 1188), (165, .iinc 5 1, 0, 0, 0), (168, .goto (-156), 0, 0, 0), (171, .return_, 0, 0, 0)]
def cd_14 : List am_E := [(0, .aload_n 0, 0, 0, 0), (1, .invokespecial 3, 1001, 0, 213), (4, .aload_n 0, 0, 0, 0), (5, .bipush 6, 0, 0, 0), (7, .newarray .int, 0, 0, 0), (9, .putfield 9, 2, 1, 218), (12, .aload_n 0, 0, 0, 0), (13, .bipush 6, 0, 0, 0), (15, .newarray .int, 0, 0, 0), (17, .putfield 15, 2, 2, 220), (20, .aload_n 0, 0, 0, 0), (21, .bipush 6, 0, 0, 0), (23, .newarray .int, 0, 0, 0), (25, .putfield 18, 2, 3, 222), (28, .aload_n 0, 0, 0, 0), (29, .bipush 6, 0, 0, 0), (31, .newarray .int, 0, 0, 0), (33, .putfield 21, 2, 4, 223), (36, .aload_n 0, 0, 0, 0), (37, .bipush 6, 0, 0, 0), (39, .newarray .int, 0, 0, 0), (41, .putfield 24, 2, 5, 225), (44, .return_, 0, 0, 0)]
def cd_15 : List am_E := [(0, .aload_n 0, 0, 0, 0), (1, .getfield 27, 2, 0, 214), (4, .istore 5, 0, 0, 0), (6, .aload_n 0, 0, 0, 0), (7, .getfield 9, 2, 1, 218), (10, .iload 5, 0, 0, 0), (12, .iload_n 1, 0, 0, 0), (13, .iastore, 0, 0, 0), (14, .aload_n 0, 0, 0, 0), (15, .getfield 15, 2, 2, 220), (18, .iload 5, 0, 0, 0), (20, .iload_n 2, 0, 0, 0), (21, .iastore, 0, 0, 0), (22, .aload_n 0, 0, 0, 0), (23, .getfield 18, 2, 3, 222), (26, .iload 5, 0, 0, 0), (28, .iload_n 3, 0, 0, 0), (29, .iastore, 0, 0, 0), (30, .aload_n 0, 0, 0, 0), (31, .getfield 21, 2, 4, 223), (34, .iload 5, 0, 0, 0), (36, .iload 4, 0, 0, 0), (38, .iastore, 0, 0, 0), (39, .aload_n 0, 0, 0, 0), (40, .getfield 24, 2, 5, 225), (43, .iload 5, 0, 0, 0), (45, .iconst 0, 0, 0, 0), (46, .iastore, 0, 0, 0), (47, .aload_n 0, 0, 0, 0), (48, .dup, 0, 0, 0), (49, .getfield 27, 2, 0, 214), (52, .iconst 1, 0, 0, 0), (53, .iadd, 0, 0, 0), (54, .putfield 27, 2, 0, 214), (57, .iload 5, 0, 0, 0), (59, .ireturn, 0, 0, 0)]
def cd_16 : List am_E := [(0, .iconst 0, 0, 0, 0), (1, .istore_n 2, 0, 0, 0), (2, .iload_n 2, 0, 0, 0), (3, .aload_n 0, 0, 0, 0), (4, .getfield 27, 2, 0, 214), (7, .if_icmp .ge 37, 0, 0, 0), (10, .iload_n 1, 0, 0, 0), (11, .invokestatic 31, 1004, 0, 968), (14, .aload_n 0, 0, 0, 0), (15, .getfield 18, 2, 3, 222), (18, .iload_n 2, 0, 0, 0), (19, .iaload, 0, 0, 0), (20, .if_icmp .le 18, 0, 0, 0), (23, .aload_n 0, 0, 0, 0), (24, .getfield 24, 2, 5, 225), (27, .iload_n 2, 0, 0, 0), (28, .iload_n 1, 0, 0, 0), (29, .ifCond .le 7, 0, 0, 0), (32, .iconst 1, 0, 0, 0), (33, .goto 4, 0, 0, 0), (36, .iconst (-1), 0, 0, 0), (37, .iastore, 0, 0, 0), (38, .iinc 2 1, 0, 0, 0), (41, .goto (-39), 0, 0, 0), (44, .return_, 0, 0, 0)]
def cd_17 : List am_E := [(0, .aload_n 0, 0, 0, 0), (1, .aload_n 1, 0, 0, 0), (2, .getfield 27, 2, 0, 214), (5, .putfield 27, 2, 0, 214), (8, .aload_n 1, 0, 0, 0), (9, .getfield 9, 2, 1, 218), (12, .iconst 0, 0, 0, 0), (13, .aload_n 0, 0, 0, 0), (14, .getfield 9, 2, 1, 218), (17, .iconst 0, 0, 0, 0), (18, .bipush 6, 0, 0, 0), (20, .invokestatic 37, 1000, 0, 1237), (23, .aload_n 1, 0, 0, 0), (24, .getfield 15, 2, 2, 220), (27, .iconst 0, 0, 0, 0), (28, .aload_n 0, 0, 0, 0), (29, .getfield 15, 2, 2, 220), (32, .iconst 0, 0, 0, 0), (33, .bipush 6, 0, 0, 0), (35, .invokestatic 37, 1000, 0, 1237), (38, .aload_n 1, 0, 0, 0), (39, .getfield 18, 2, 3, 222), (42, .iconst 0, 0, 0, 0), (43, .aload_n 0, 0, 0, 0), (44, .getfield 18, 2, 3, 222), (47, .iconst 0, 0, 0, 0), (48, .bipush 6, 0, 0, 0), (50, .invokestatic 37, 1000, 0, 1237), (53, .aload_n 1, 0, 0, 0), (54, .getfield 21, 2, 4, 223), (57, .iconst 0, 0, 0, 0), (58, .aload_n 0, 0, 0, 0), (59, .getfield 21, 2, 4, 223), (62, .iconst 0, 0, 0, 0), (63, .bipush 6, 0, 0, 0), (65, .invokestatic 37, 1000, 0, 1237), (68, .aload_n 1, 0, 0, 0), (69, .getfield 24, 2, 5, 225), (72, .iconst 0, 0, 0, 0), (73, .aload_n 0, 0, 0, 0), (74, .getfield 24, 2, 5, 225), (77, .iconst 0, 0, 0, 0), (78, .bipush 6, 0, 0, 0), (80, .invokestatic 37, 1000, 0, 1237), (83, .return_, 0, 0, 0)]
def cd_18 : List am_E := [(0, .aload_n 0, 0, 0, 0), (1, .invokespecial 3, 1001, 0, 277), (4, .aload_n 0, 0, 0, 0), (5, .bipush 6, 0, 0, 0), (7, .newarray .int, 0, 0, 0), (9, .putfield 9, 3, 1, 281), (12, .aload_n 0, 0, 0, 0), (13, .bipush 6, 0, 0, 0), (15, .newarray .int, 0, 0, 0), (17, .putfield 15, 3, 2, 283), (20, .return_, 0, 0, 0)]
def cd_19 : List am_E := [(0, .aload_n 0, 0, 0, 0), (1, .getfield 18, 3, 0, 278), (4, .istore_n 3, 0, 0, 0), (5, .aload_n 0, 0, 0, 0), (6, .getfield 9, 3, 1, 281), (9, .iload_n 3, 0, 0, 0), (10, .iload_n 1, 0, 0, 0), (11, .iastore, 0, 0, 0), (12, .aload_n 0, 0, 0, 0), (13, .getfield 15, 3, 2, 283), (16, .iload_n 3, 0, 0, 0), (17, .iload_n 2, 0, 0, 0), (18, .iastore, 0, 0, 0), (19, .aload_n 0, 0, 0, 0), (20, .dup, 0, 0, 0), (21, .getfield 18, 3, 0, 278), (24, .iconst 1, 0, 0, 0), (25, .iadd, 0, 0, 0), (26, .putfield 18, 3, 0, 278), (29, .iload_n 3, 0, 0, 0), (30, .ireturn, 0, 0, 0)]
def cd_20 : List am_E := [(0, .aload_n 0, 0, 0, 0), (1, .aload_n 1, 0, 0, 0), (2, .getfield 18, 3, 0, 278), (5, .putfield 18, 3, 0, 278), (8, .aload_n 1, 0, 0, 0), (9, .getfield 9, 3, 1, 281), (12, .iconst 0, 0, 0, 0), (13, .aload_n 0, 0, 0, 0), (14, .getfield 9, 3, 1, 281), (17, .iconst 0, 0, 0, 0), (18, .bipush 6, 0, 0, 0), (20, .invokestatic 22, 1000, 0, 1247), (23, .aload_n 1, 0, 0, 0), (24, .getfield 15, 3, 2, 283), (27, .iconst 0, 0, 0, 0), (28, .aload_n 0, 0, 0, 0), (29, .getfield 15, 3, 2, 283), (32, .iconst 0, 0, 0, 0), (33, .bipush 6, 0, 0, 0), (35, .invokestatic 22, 1000, 0, 1247), (38, .return_, 0, 0, 0)]
def cd_21 : List am_E := [(0, .aload_n 0, 0, 0, 0), (1, .invokespecial 3, 1001, 0, 247), (4, .aload_n 0, 0, 0, 0), (5, .bipush 12, 0, 0, 0), (7, .newarray .int, 0, 0, 0), (9, .putfield 9, 4, 1, 252), (12, .aload_n 0, 0, 0, 0), (13, .bipush 12, 0, 0, 0), (15, .newarray .int, 0, 0, 0), (17, .putfield 15, 4, 2, 255), (20, .aload_n 0, 0, 0, 0), (21, .bipush 12, 0, 0, 0), (23, .newarray .int, 0, 0, 0), (25, .putfield 18, 4, 3, 257), (28, .aload_n 0, 0, 0, 0), (29, .bipush 12, 0, 0, 0), (31, .newarray .int, 0, 0, 0), (33, .putfield 21, 4, 4, 259), (36, .return_, 0, 0, 0)]
def cd_22 : List am_E := [(0, .aload_n 0, 0, 0, 0), (1, .getfield 24, 4, 0, 248), (4, .istore 5, 0, 0, 0), (6, .aload_n 0, 0, 0, 0), (7, .getfield 9, 4, 1, 252), (10, .iload 5, 0, 0, 0), (12, .iload_n 1, 0, 0, 0), (13, .iastore, 0, 0, 0), (14, .aload_n 0, 0, 0, 0), (15, .getfield 15, 4, 2, 255), (18, .iload 5, 0, 0, 0), (20, .iload_n 2, 0, 0, 0), (21, .iastore, 0, 0, 0), (22, .aload_n 0, 0, 0, 0), (23, .getfield 18, 4, 3, 257), (26, .iload 5, 0, 0, 0), (28, .iload_n 3, 0, 0, 0), (29, .iastore, 0, 0, 0), (30, .aload_n 0, 0, 0, 0), (31, .getfield 21, 4, 4, 259), (34, .iload 5, 0, 0, 0), (36, .iload 4, 0, 0, 0), (38, .iastore, 0, 0, 0), (39, .aload_n 0, 0, 0, 0), (40, .dup, 0, 0, 0), (41, .getfield 24, 4, 0, 248), (44, .iconst 1, 0, 0, 0), (45, .iadd, 0, 0, 0), (46, .putfield 24, 4, 0, 248), (49, .iload 5, 0, 0, 0), (51, .ireturn, 0, 0, 0)]
def cd_23 : List am_E := [(0, .aload_n 0, 0, 0, 0), (1, .aload_n 1, 0, 0, 0), (2, .getfield 24, 4, 0, 248), (5, .putfield 24, 4, 0, 248), (8, .aload_n 1, 0, 0, 0), (9, .getfield 9, 4, 1, 252), (12, .iconst 0, 0, 0, 0), (13, .aload_n 0, 0, 0, 0), (14, .getfield 9, 4, 1, 252), (17, .iconst 0, 0, 0, 0), (18, .bipush 12, 0, 0, 0), (20, .invokestatic 28, 1000, 0, 1242), (23, .aload_n 1, 0, 0, 0), (24, .getfield 15, 4, 2, 255), (27, .iconst 0, 0, 0, 0), (28, .aload_n 0, 0, 0, 0), (29, .getfield 15, 4, 2, 255), (32, .iconst 0, 0, 0, 0), (33, .bipush 12, 0, 0, 0), (35, .invokestatic 28, 1000, 0, 1242), (38, .aload_n 1, 0, 0, 0), (39, .getfield 18, 4, 3, 257), (42, .iconst 0, 0, 0, 0), (43, .aload_n 0, 0, 0, 0), (44, .getfield 18, 4, 3, 257), (47, .iconst 0, 0, 0, 0), (48, .bipush 12, 0, 0, 0), (50, .invokestatic 28, 1000, 0, 1242), (53, .aload_n 1, 0, 0, 0), (54, .getfield 21, 4, 4, 259), (57, .iconst 0, 0, 0, 0), (58, .aload_n 0, 0, 0, 0), (59, .getfield 21, 4, 4, 259), (62, .iconst 0, 0, 0, 0), (63, .bipush 12, 0, 0, 0), (65, .invokestatic 28, 1000, 0, 1242), (68, .return_, 0, 0, 0)]
def cd_24 : List am_E := [(0, .aload_n 0, 0, 0, 0), (1, .invokespecial 3, 1001, 0, 519), (4, .aload_n 0, 0, 0, 0), (5, .new 9, 0, 520, 0), (8, .dup, 0, 0, 0), (9, .invokespecial 11, 0, 1, 10012), (12, .putfield 12, 5, 0, 522), (15, .aload_n 0, 0, 0, 0), (16, .bipush 6, 0, 0, 0), (18, .newarray .int, 0, 0, 0), (20, .putfield 18, 5, 1, 523), (23, .aload_n 0, 0, 0, 0), (24, .bipush 6, 0, 0, 0), (26, .newarray .int, 0, 0, 0), (28, .putfield 22, 5, 4, 526), (31, .aload_n 0, 0, 0, 0), (32, .sipush 128, 0, 0, 0), (35, .newarray .long, 0, 0, 0), (37, .putfield 25, 5, 5, 528), (40, .return_, 0, 0, 0)]
def cd_25 : List am_E := [(0, .aload_n 0, 0, 0, 0), (1, .getfield 25, 5, 5, 528), (4, .lconst 0, 0, 0, 0), (5, .invokestatic 29, 261, 2, 1087), (8, .aload_n 0, 0, 0, 0), (9, .iload_n 3, 0, 0, 0), (10, .putfield 35, 5, 3, 525), (13, .aload_n 0, 0, 0, 0), (14, .iconst 0, 0, 0, 0), (15, .putfield 39, 5, 2, 524), (18, .iconst 0, 0, 0, 0), (19, .istore 4, 0, 0, 0), (21, .iload 4, 0, 0, 0), (23, .bipush 12, 0, 0, 0), (25, .if_icmp .ge 49, 0, 0, 0), (28, .aload_n 0, 0, 0, 0), (29, .getfield 39, 5, 2, 524), (32, .bipush 6, 0, 0, 0), (34, .if_icmp .ge 40, 0, 0, 0), (37, .iload_n 2, 0, 0, 0), (38, .iload 4, 0, 0, 0), (40, .ishr, 0, 0, 0), (41, .iconst 1, 0, 0, 0), (42, .iand, 0, 0, 0), (43, .iconst 1, 0, 0, 0), (44, .if_icmp .ne 24, 0, 0, 0), (47, .aload_n 0, 0, 0, 0), (48, .getfield 18, 5, 1, 523), (51, .aload_n 0, 0, 0, 0), (52, .getfield 39, 5, 2, 524), (55, .iload 4, 0, 0, 0), (57, .iastore, 0, 0, 0), (58, .aload_n 0, 0, 0, 0), (59, .dup, 0, 0, 0), (60, .getfield 39, 5, 2, 524), (63, .iconst 1, 0, 0, 0), (64, .iadd, 0, 0, 0), (65, .putfield 39, 5, 2, 524), (68, .iinc 4 1, 0, 0, 0), (71, .goto (-50), 0, 0, 0), (74, .aload_n 0, 0, 0, 0), (75, .aload_n 1, 0, 0, 0), (76, .iconst 0, 0, 0, 0), (77, .aload_n 1, 0, 0, 0), (78, .getfield 42, 10, 7, 309), (81, .iconst 0, 0, 0, 0), (82, .invokevirtual 47, 26, 5, 1090), (85, .ireturn, 0, 0, 0)]
def cd_26 : List am_E := [(0, .iload 4, 0, 0, 0), (2, .aload_n 0, 0, 0, 0), (3, .getfield 39, 5, 2, 524), (6, .if_icmp .lt 5, 0, 0, 0), (9, .iconst 1, 0, 0, 0), (10, .ireturn, 0, 0, 0), (11, .iconst 2, 0, 0, 0), (12, .iload_n 2, 0, 0, 0), (13, .imul, 0, 0, 0), (14, .iload_n 3, 0, 0, 0), (15, .ifCond .le 7, 0, 0, 0), (18, .iconst 1, 0, 0, 0), (19, .goto 4, 0, 0, 0), (22, .iconst 0, 0, 0, 0), (23, .iadd, 0, 0, 0), (24, .istore 5, 0, 0, 0), (26, .lconst 1, 0, 0, 0), (27, .iload_n 3, 0, 0, 0), (28, .invokestatic 51, 1004, 0, 1094), (31, .lshl, 0, 0, 0), (32, .lstore 6, 0, 0, 0), (34, .aload_n 0, 0, 0, 0), (35, .getfield 25, 5, 5, 528), (38, .iload 5, 0, 0, 0), (40, .laload, 0, 0, 0), (41, .lload 6, 0, 0, 0), (43, .land, 0, 0, 0), (44, .lconst 0, 0, 0, 0), (45, .lcmp, 0, 0, 0), (46, .ifCond .eq 5, 0, 0, 0), (49, .iconst 0, 0, 0, 0), (50, .ireturn, 0, 0, 0), (51, .iconst 0, 0, 0, 0), (52, .istore 8, 0, 0, 0), (54, .iload 8, 0, 0, 0), (56, .aload_n 0, 0, 0, 0), (57, .getfield 39, 5, 2, 524), (60, .if_icmp .ge 107, 0, 0, 0), (63, .iload_n 2, 0, 0, 0), (64, .iload 8, 0, 0, 0), (66, .ishr, 0, 0, 0), (67, .iconst 1, 0, 0, 0), (68, .iand, 0, 0, 0), (69, .ifCond .ne 92, 0, 0, 0), (72, .aload_n 0, 0, 0, 0), (73, .getfield 18, 5, 1, 523), (76, .iload 8, 0, 0, 0), (78, .iaload, 0, 0, 0), (79, .istore 9, 0, 0, 0), (81, .aload_n 1, 0, 0, 0), (82, .getfield 57, 10, 11, 325), (85, .getfield 61, 6, 8, 167), (88, .iload 9, 0, 0, 0), (90, .iaload, 0, 0, 0), (91, .istore 10, 0, 0, 0), (93, .aload_n 0, 0, 0, 0), (94, .getfield 22, 5, 4, 526), (97, .iload 4, 0, 0, 0), (99, .iload 9, 0, 0, 0), (101, .iastore, 0, 0, 0), (102, .aload_n 0, 0, 0, 0), (103, .aload_n 1, 0, 0, 0), (104, .iload 9, 0, 0, 0), (106, .iload_n 3, 0, 0, 0), (107, .invokevirtual 66, 27, 4, 1095), (110, .istore 11, 0, 0, 0), (112, .iload 11, 0, 0, 0), (114, .bipush (-100), 0, 0, 0), (116, .if_icmp .eq 27, 0, 0, 0), (119, .aload_n 0, 0, 0, 0), (120, .aload_n 1, 0, 0, 0), (121, .iload_n 2, 0, 0, 0), (122, .iconst 1, 0, 0, 0), (123, .iload 8, 0, 0, 0), (125, .ishl, 0, 0, 0), (126, .ior, 0, 0, 0), (127, .iload 11, 0, 0, 0), (129, .iload 4, 0, 0, 0), (131, .iconst 1, 0, 0, 0), (132, .iadd, 0, 0, 0), (133, .invokevirtual 47, 26, 5, 1090), (136, .ifCond .eq 7, 0, 0, 0), (139, .iconst 1, 0, 0, 0), (140, .goto 4, 0, 0, 0), (143, .iconst 0, 0, 0, 0), (144, .istore 12, 0, 0, 0), (146, .aload_n 1, 0, 0, 0), (147, .iload 9, 0, 0, 0), (149, .iload 10, 0, 0, 0), (151, .invokevirtual 70, 71, 3, 1099), (154, .iload 12, 0, 0, 0), (156, .ifCond .eq 5, 0, 0, 0), (159, .iconst 1, 0, 0, 0), (160, .ireturn, 0, 0, 0), (161, .iinc 8 1, 0, 0, 0), (164, .goto (-110), 0, 0, 0), (167, .aload_n 0, 0, 0, 0), (168, .getfield 25, 5, 5, 528), (171, .iload 5, 0, 0, 0), (173, .dup2, 0, 0, 0), (174, .laload, 0, 0, 0), (175, .lload 6, 0, 0, 0), (177, .lor, 0, 0, 0), (178, .lastore, 0, 0, 0), (179, .iconst 0, 0, 0, 0), (180, .ireturn, 0, 0, 0)]
def cd_27 : List am_E := [(0, .iload_n 3, 0, 0, 0), (1, .istore 4, 0, 0, 0), (3, .aload_n 1, 0, 0, 0), (4, .getfield 57, 10, 11, 325), (7, .getfield 74, 6, 7, 161), (10, .iload_n 2, 0, 0, 0), (11, .iaload, 0, 0, 0), (12, .iconst 2, 0, 0, 0), (13, .idiv, 0, 0, 0), (14, .istore 5, 0, 0, 0), (16, .aload_n 1, 0, 0, 0), (17, .getfield 57, 10, 11, 325), (20, .getfield 61, 6, 8, 167), (23, .iload_n 2, 0, 0, 0), (24, .iaload, 0, 0, 0), (25, .iload 5, 0, 0, 0), (27, .if_icmp .gt 46, 0, 0, 0), (30, .aload_n 1, 0, 0, 0), (31, .iload_n 2, 0, 0, 0), (32, .iload 5, 0, 0, 0), (34, .invokevirtual 70, 71, 3, 1099), (37, .aload_n 0, 0, 0, 0), (38, .getfield 12, 5, 0, 522), (41, .aload_n 1, 0, 0, 0), (42, .invokevirtual 77, 1, 2, 1100), (45, .aload_n 0, 0, 0, 0), (46, .getfield 12, 5, 0, 522), (49, .iload 4, 0, 0, 0), (51, .bipush 120, 0, 0, 0), (53, .invokevirtual 81, 5, 3, 1101), (56, .istore 4, 0, 0, 0), (58, .iload 4, 0, 0, 0), (60, .invokestatic 51, 1004, 0, 1094), (63, .aload_n 0, 0, 0, 0), (64, .getfield 35, 5, 3, 525), (67, .if_icmp .le 6, 0, 0, 0), (70, .bipush (-100), 0, 0, 0), (72, .ireturn, 0, 0, 0), (73, .aload_n 1, 0, 0, 0), (74, .iload_n 2, 0, 0, 0), (75, .aload_n 1, 0, 0, 0), (76, .getfield 57, 10, 11, 325), (79, .getfield 74, 6, 7, 161), (82, .iload_n 2, 0, 0, 0), (83, .iaload, 0, 0, 0), (84, .invokevirtual 70, 71, 3, 1099), (87, .aload_n 0, 0, 0, 0), (88, .getfield 12, 5, 0, 522), (91, .aload_n 1, 0, 0, 0), (92, .invokevirtual 77, 1, 2, 1100), (95, .aload_n 0, 0, 0, 0), (96, .getfield 12, 5, 0, 522), (99, .iload 4, 0, 0, 0), (101, .bipush 120, 0, 0, 0), (103, .invokevirtual 81, 5, 3, 1101), (106, .istore 4, 0, 0, 0), (108, .iload 4, 0, 0, 0), (110, .invokestatic 51, 1004, 0, 1094), (113, .aload_n 0, 0, 0, 0), (114, .getfield 35, 5, 3, 525), (117, .if_icmp .le 8, 0, 0, 0), (120, .bipush (-100), 0, 0, 0), (122, .goto 5, 0, 0, 0), (125, .iload 4, 0, 0, 0), (127, .ireturn, 0, 0, 0)]
def cd_28 : List am_E := [(0, .aload_n 0, 0, 0, 0), (1, .invokespecial 3, 1001, 0, 136), (4, .aload_n 0, 0, 0, 0), (5, .bipush 12, 0, 0, 0), (7, .newarray .int, 0, 0, 0), (9, .putfield 9, 6, 1, 142), (12, .aload_n 0, 0, 0, 0), (13, .bipush 12, 0, 0, 0), (15, .newarray .int, 0, 0, 0), (17, .putfield 15, 6, 2, 146), (20, .aload_n 0, 0, 0, 0), (21, .bipush 12, 0, 0, 0), (23, .newarray .int, 0, 0, 0), (25, .putfield 18, 6, 3, 149), (28, .aload_n 0, 0, 0, 0), (29, .bipush 12, 0, 0, 0), (31, .newarray .int, 0, 0, 0), (33, .putfield 21, 6, 4, 152), (36, .aload_n 0, 0, 0, 0), (37, .bipush 12, 0, 0, 0), (39, .newarray .int, 0, 0, 0), (41, .putfield 24, 6, 5, 154), (44, .aload_n 0, 0, 0, 0), (45, .bipush 12, 0, 0, 0), (47, .newarray .int, 0, 0, 0), (49, .putfield 27, 6, 6, 157), (52, .aload_n 0, 0, 0, 0), (53, .bipush 12, 0, 0, 0), (55, .newarray .int, 0, 0, 0), (57, .putfield 30, 6, 7, 160), (60, .aload_n 0, 0, 0, 0), (61, .bipush 12, 0, 0, 0), (63, .newarray .int, 0, 0, 0), (65, .putfield 33, 6, 8, 164), (68, .aload_n 0, 0, 0, 0), (69, .bipush 12, 0, 0, 0), (71, .newarray .int, 0, 0, 0), (73, .putfield 36, 6, 9, 170), (76, .aload_n 0, 0, 0, 0), (77, .bipush 12, 0, 0, 0), (79, .newarray .long, 0, 0, 0), (81, .putfield 39, 6, 10, 174), (84, .aload_n 0, 0, 0, 0), (85, .bipush 12, 0, 0, 0), (87, .newarray .int, 0, 0, 0), (89, .putfield 43, 6, 11, 177), (92, .return_, 0, 0, 0)]
def cd_29 : List am_E := [(0, .aload_n 0, 0, 0, 0), (1, .getfield 46, 6, 0, 137), (4, .istore 5, 0, 0, 0), (6, .aload_n 0, 0, 0, 0), (7, .getfield 9, 6, 1, 142), (10, .iload 5, 0, 0, 0), (12, .iload_n 1, 0, 0, 0), (13, .iastore, 0, 0, 0), (14, .aload_n 0, 0, 0, 0), (15, .getfield 15, 6, 2, 146), (18, .iload 5, 0, 0, 0), (20, .iload_n 2, 0, 0, 0), (21, .iastore, 0, 0, 0), (22, .aload_n 0, 0, 0, 0), (23, .getfield 18, 6, 3, 149), (26, .iload 5, 0, 0, 0), (28, .iload_n 3, 0, 0, 0), (29, .iastore, 0, 0, 0), (30, .aload_n 0, 0, 0, 0), (31, .getfield 21, 6, 4, 152), (34, .iload 5, 0, 0, 0), (36, .iload 4, 0, 0, 0), (38, .iastore, 0, 0, 0), (39, .aload_n 0, 0, 0, 0), (40, .getfield 30, 6, 7, 160), (43, .iload 5, 0, 0, 0), (45, .iload_n 3, 0, 0, 0), (46, .iload 4, 0, 0, 0), (48, .imul, 0, 0, 0), (49, .iload_n 2, 0, 0, 0), (50, .imul, 0, 0, 0), (51, .sipush 10000, 0, 0, 0), (54, .idiv, 0, 0, 0), (55, .iastore, 0, 0, 0), (56, .aload_n 0, 0, 0, 0), (57, .dup, 0, 0, 0), (58, .getfield 46, 6, 0, 137), (61, .iconst 1, 0, 0, 0), (62, .iadd, 0, 0, 0), (63, .putfield 46, 6, 0, 137), (66, .iload 5, 0, 0, 0), (68, .ireturn, 0, 0, 0)]
def cd_30 : List am_E := [(0, .aload_n 0, 0, 0, 0), (1, .getfield 18, 6, 3, 149), (4, .iload_n 1, 0, 0, 0), (5, .iaload, 0, 0, 0), (6, .i2l, 0, 0, 0), (7, .aload_n 0, 0, 0, 0), (8, .getfield 18, 6, 3, 149), (11, .iload_n 1, 0, 0, 0), (12, .iaload, 0, 0, 0), (13, .i2l, 0, 0, 0), (14, .lmul, 0, 0, 0), (15, .aload_n 0, 0, 0, 0), (16, .getfield 18, 6, 3, 149), (19, .iload_n 1, 0, 0, 0), (20, .iaload, 0, 0, 0), (21, .i2l, 0, 0, 0), (22, .lmul, 0, 0, 0), (23, .lstore_n 3, 0, 0, 0), (24, .aload_n 0, 0, 0, 0), (25, .getfield 24, 6, 5, 154), (28, .iload_n 1, 0, 0, 0), (29, .iload_n 2, 0, 0, 0), (30, .iastore, 0, 0, 0), (31, .aload_n 0, 0, 0, 0), (32, .getfield 39, 6, 10, 174), (35, .iload_n 1, 0, 0, 0), (36, .aload_n 0, 0, 0, 0), (37, .getfield 21, 6, 4, 152), (40, .iload_n 1, 0, 0, 0), (41, .iaload, 0, 0, 0), (42, .i2l, 0, 0, 0), (43, .lload_n 3, 0, 0, 0), (44, .lmul, 0, 0, 0), (45, .ldc2_w 50, 0, 1200, 654), (48, .iload_n 2, 0, 0, 0), (49, .i2l, 0, 0, 0), (50, .lmul, 0, 0, 0), (51, .iload_n 2, 0, 0, 0), (52, .i2l, 0, 0, 0), (53, .lmul, 0, 0, 0), (54, .invokestatic 52, 137, 2, 10015), (57, .lastore, 0, 0, 0), (58, .aload_n 0, 0, 0, 0), (59, .iload_n 1, 0, 0, 0), (60, .aload_n 0, 0, 0, 0), (61, .getfield 33, 6, 8, 164), (64, .iload_n 1, 0, 0, 0), (65, .iaload, 0, 0, 0), (66, .invokevirtual 56, 31, 3, 658), (69, .return_, 0, 0, 0)]
def cd_31 : List am_E := [(0, .aload_n 0, 0, 0, 0), (1, .getfield 33, 6, 8, 164), (4, .iload_n 1, 0, 0, 0), (5, .iload_n 2, 0, 0, 0), (6, .iastore, 0, 0, 0), (7, .aload_n 0, 0, 0, 0), (8, .getfield 36, 6, 9, 170), (11, .iload_n 1, 0, 0, 0), (12, .aload_n 0, 0, 0, 0), (13, .getfield 15, 6, 2, 146), (16, .iload_n 1, 0, 0, 0), (17, .iaload, 0, 0, 0), (18, .i2l, 0, 0, 0), (19, .iload_n 2, 0, 0, 0), (20, .i2l, 0, 0, 0), (21, .ldc2_w 60, 0, 10000, 662), (24, .lmul, 0, 0, 0), (25, .aload_n 0, 0, 0, 0), (26, .getfield 18, 6, 3, 149), (29, .iload_n 1, 0, 0, 0), (30, .iaload, 0, 0, 0), (31, .aload_n 0, 0, 0, 0), (32, .getfield 21, 6, 4, 152), (35, .iload_n 1, 0, 0, 0), (36, .iaload, 0, 0, 0), (37, .imul, 0, 0, 0), (38, .i2l, 0, 0, 0), (39, .invokestatic 52, 137, 2, 10015), (42, .invokestatic 62, 1006, 0, 663), (45, .l2i, 0, 0, 0), (46, .iastore, 0, 0, 0), (47, .aload_n 0, 0, 0, 0), (48, .getfield 43, 6, 11, 177), (51, .iload_n 1, 0, 0, 0), (52, .ldc2_w 67, 0, 5, 666), (55, .aload_n 0, 0, 0, 0), (56, .getfield 18, 6, 3, 149), (59, .iload_n 1, 0, 0, 0), (60, .iaload, 0, 0, 0), (61, .i2l, 0, 0, 0), (62, .lmul, 0, 0, 0), (63, .iload_n 2, 0, 0, 0), (64, .aload_n 0, 0, 0, 0), (65, .getfield 30, 6, 7, 160), (68, .iload_n 1, 0, 0, 0), (69, .iaload, 0, 0, 0), (70, .iload_n 2, 0, 0, 0), (71, .isub, 0, 0, 0), (72, .invokestatic 69, 1003, 0, 667), (75, .i2l, 0, 0, 0), (76, .lmul, 0, 0, 0), (77, .aload_n 0, 0, 0, 0), (78, .getfield 24, 6, 5, 154), (81, .iload_n 1, 0, 0, 0), (82, .iaload, 0, 0, 0), (83, .i2l, 0, 0, 0), (84, .invokestatic 52, 137, 2, 10015), (87, .l2i, 0, 0, 0), (88, .iastore, 0, 0, 0), (89, .return_, 0, 0, 0)]
def cd_32 : List am_E := [(0, .aload_n 0, 0, 0, 0), (1, .getfield 30, 6, 7, 160), (4, .iload_n 1, 0, 0, 0), (5, .iaload, 0, 0, 0), (6, .iload_n 2, 0, 0, 0), (7, .imul, 0, 0, 0), (8, .bipush 100, 0, 0, 0), (10, .idiv, 0, 0, 0), (11, .ireturn, 0, 0, 0)]
def cd_33 : List am_E := [(0, .iconst 0, 0, 0, 0), (1, .istore_n 1, 0, 0, 0), (2, .iconst 0, 0, 0, 0), (3, .istore_n 2, 0, 0, 0), (4, .iload_n 2, 0, 0, 0), (5, .aload_n 0, 0, 0, 0), (6, .getfield 46, 6, 0, 137), (9, .if_icmp .ge 18, 0, 0, 0), (12, .iload_n 1, 0, 0, 0), (13, .aload_n 0, 0, 0, 0), (14, .getfield 33, 6, 8, 164), (17, .iload_n 2, 0, 0, 0), (18, .iaload, 0, 0, 0), (19, .iadd, 0, 0, 0), (20, .istore_n 1, 0, 0, 0), (21, .iinc 2 1, 0, 0, 0), (24, .goto (-20), 0, 0, 0), (27, .iload_n 1, 0, 0, 0), (28, .ireturn, 0, 0, 0)]
def cd_34 : List am_E := [(0, .aload_n 0, 0, 0, 0), (1, .getfield 36, 6, 9, 170), (4, .iload_n 1, 0, 0, 0), (5, .iaload, 0, 0, 0), (6, .ifCond .ne 8, 0, 0, 0), (9, .bipush (-2), 0, 0, 0), (11, .goto 35, 0, 0, 0), (14, .ldc2_w 72, 0, 41, 1197), (17, .aload_n 0, 0, 0, 0), (18, .getfield 18, 6, 3, 149), (21, .iload_n 1, 0, 0, 0), (22, .iaload, 0, 0, 0), (23, .i2l, 0, 0, 0), (24, .lmul, 0, 0, 0), (25, .aload_n 0, 0, 0, 0), (26, .getfield 18, 6, 3, 149), (29, .iload_n 1, 0, 0, 0), (30, .iaload, 0, 0, 0), (31, .i2l, 0, 0, 0), (32, .lmul, 0, 0, 0), (33, .aload_n 0, 0, 0, 0), (34, .getfield 36, 6, 9, 170), (37, .iload_n 1, 0, 0, 0), (38, .iaload, 0, 0, 0), (39, .i2l, 0, 0, 0), (40, .invokestatic 52, 137, 2, 10015), (43, .invokestatic 74, 136, 1, 10023), (46, .ireturn, 0, 0, 0)]
def cd_35 : List am_E := [(0, .aload_n 0, 0, 0, 0), (1, .aload_n 1, 0, 0, 0), (2, .getfield 46, 6, 0, 137), (5, .putfield 46, 6, 0, 137), (8, .aload_n 1, 0, 0, 0), (9, .getfield 9, 6, 1, 142), (12, .iconst 0, 0, 0, 0), (13, .aload_n 0, 0, 0, 0), (14, .getfield 9, 6, 1, 142), (17, .iconst 0, 0, 0, 0), (18, .bipush 12, 0, 0, 0), (20, .invokestatic 78, 1000, 0, 1232), (23, .aload_n 1, 0, 0, 0), (24, .getfield 15, 6, 2, 146), (27, .iconst 0, 0, 0, 0), (28, .aload_n 0, 0, 0, 0), (29, .getfield 15, 6, 2, 146), (32, .iconst 0, 0, 0, 0), (33, .bipush 12, 0, 0, 0), (35, .invokestatic 78, 1000, 0, 1232), (38, .aload_n 1, 0, 0, 0), (39, .getfield 18, 6, 3, 149), (42, .iconst 0, 0, 0, 0), (43, .aload_n 0, 0, 0, 0), (44, .getfield 18, 6, 3, 149), (47, .iconst 0, 0, 0, 0), (48, .bipush 12, 0, 0, 0), (50, .invokestatic 78, 1000, 0, 1232), (53, .aload_n 1, 0, 0, 0), (54, .getfield 21, 6, 4, 152), (57, .iconst 0, 0, 0, 0), (58, .aload_n 0, 0, 0, 0), (59, .getfield 21, 6, 4, 152), (62, .iconst 0, 0, 0, 0), (63, .bipush 12, 0, 0, 0), (65, .invokestatic 78, 1000, 0, 1232), (68, .aload_n 1, 0, 0, 0), (69, .getfield 24, 6, 5, 154), (72, .iconst 0, 0, 0, 0), (73, .aload_n 0, 0, 0, 0), (74, .getfield 24, 6, 5, 154), (77, .iconst 0, 0, 0, 0), (78, .bipush 12, 0, 0, 0), (80, .invokestatic 78, 1000, 0, 1232), (83, .aload_n 1, 0, 0, 0), (84, .getfield 27, 6, 6, 157), (87, .iconst 0, 0, 0, 0), (88, .aload_n 0, 0, 0, 0), (89, .getfield 27, 6, 6, 157), (92, .iconst 0, 0, 0, 0), (93, .bipush 12, 0, 0, 0), (95, .invokestatic 78, 1000, 0, 1232), (98, .aload_n 1, 0, 0, 0), (99, .getfield 30, 6, 7, 160), (102, .iconst 0, 0, 0, 0), (103, .aload_n 0, 0, 0, 0), (104, .getfield 30, 6, 7, 160), (107, .iconst 0, 0, 0, 0), (108, .bipush 12, 0, 0, 0), (110, .invokestatic 78, 1000, 0, 1232), (113, .aload_n 1, 0, 0, 0), (114, .getfield 33, 6, 8, 164), (117, .iconst 0, 0, 0, 0), (118, .aload_n 0, 0, 0, 0), (119, .getfield 33, 6, 8, 164), (122, .iconst 0, 0, 0, 0), (123, .bipush 12, 0, 0, 0), (125, .invokestatic 78, 1000, 0, 1232), (128, .aload_n 1, 0, 0, 0), (129, .getfield 36, 6, 9, 170), (132, .iconst 0, 0, 0, 0), (133, .aload_n 0, 0, 0, 0), (134, .getfield 36, 6, 9, 170), (137, .iconst 0, 0, 0, 0), (138, .bipush 12, 0, 0, 0), (140, .invokestatic 78, 1000, 0, 1232), (143, .aload_n 1, 0, 0, 0), (144, .getfield 39, 6, 10, 174), (147, .iconst 0, 0, 0, 0), (148, .aload_n 0, 0, 0, 0), (149, .getfield 39, 6, 10, 174), (152, .iconst 0, 0, 0, 0), (153, .bipush 12, 0, 0, 0), (155, .invokestatic 78, 1000, 0, 1232), (158, .aload_n 1, 0, 0, 0), (159, .getfield 43, 6, 11, 177), (162, .iconst 0, 0, 0, 0), (163, .aload_n 0, 0, 0, 0), (164, .getfield 43, 6, 11, 177), (167, .iconst 0, 0, 0, 0), (168, .bipush 12, 0, 0, 0), (170, .invokestatic 78, 1000, 0, 1232), (173, .return_, 0, 0, 0)]
def cd_36 : List am_E := [(0, .aload_n 0, 0, 0, 0), (1, .invokespecial 3, 1001, 0, 380), (4, .aload_n 0, 0, 0, 0), (5, .bipush 12, 0, 0, 0), (7, .newarray .int, 0, 0, 0), (9, .putfield 9, 7, 1, 384), (12, .aload_n 0, 0, 0, 0), (13, .bipush 12, 0, 0, 0), (15, .newarray .int, 0, 0, 0), (17, .putfield 15, 7, 2, 387), (20, .aload_n 0, 0, 0, 0), (21, .bipush 12, 0, 0, 0), (23, .newarray .int, 0, 0, 0), (25, .putfield 18, 7, 3, 390), (28, .aload_n 0, 0, 0, 0), (29, .bipush 12, 0, 0, 0), (31, .newarray .int, 0, 0, 0), (33, .putfield 21, 7, 4, 393), (36, .aload_n 0, 0, 0, 0), (37, .bipush 12, 0, 0, 0), (39, .newarray .int, 0, 0, 0), (41, .putfield 24, 7, 5, 396), (44, .aload_n 0, 0, 0, 0), (45, .bipush 12, 0, 0, 0), (47, .newarray .int, 0, 0, 0), (49, .putfield 27, 7, 6, 399), (52, .aload_n 0, 0, 0, 0), (53, .bipush 12, 0, 0, 0), (55, .newarray .int, 0, 0, 0), (57, .putfield 30, 7, 7, 402), (60, .aload_n 0, 0, 0, 0), (61, .sipush 400, 0, 0, 0), (64, .newarray .int, 0, 0, 0), (66, .putfield 33, 7, 9, 407), (69, .return_, 0, 0, 0)]
def cd_37 : List am_E := [(0, .aload_n 0, 0, 0, 0), (1, .aload_n 1, 0, 0, 0), (2, .getfield 36, 7, 0, 381), (5, .putfield 36, 7, 0, 381), (8, .aload_n 0, 0, 0, 0), (9, .aload_n 1, 0, 0, 0), (10, .getfield 40, 7, 8, 405), (13, .putfield 40, 7, 8, 405), (16, .aload_n 1, 0, 0, 0), (17, .getfield 9, 7, 1, 384), (20, .iconst 0, 0, 0, 0), (21, .aload_n 0, 0, 0, 0), (22, .getfield 9, 7, 1, 384), (25, .iconst 0, 0, 0, 0), (26, .bipush 12, 0, 0, 0), (28, .invokestatic 43, 1000, 0, 850), (31, .aload_n 1, 0, 0, 0), (32, .getfield 15, 7, 2, 387), (35, .iconst 0, 0, 0, 0), (36, .aload_n 0, 0, 0, 0), (37, .getfield 15, 7, 2, 387), (40, .iconst 0, 0, 0, 0), (41, .bipush 12, 0, 0, 0), (43, .invokestatic 43, 1000, 0, 850), (46, .aload_n 1, 0, 0, 0), (47, .getfield 18, 7, 3, 390), (50, .iconst 0, 0, 0, 0), (51, .aload_n 0, 0, 0, 0), (52, .getfield 18, 7, 3, 390), (55, .iconst 0, 0, 0, 0), (56, .bipush 12, 0, 0, 0), (58, .invokestatic 43, 1000, 0, 850), (61, .aload_n 1, 0, 0, 0), (62, .getfield 21, 7, 4, 393), (65, .iconst 0, 0, 0, 0), (66, .aload_n 0, 0, 0, 0), (67, .getfield 21, 7, 4, 393), (70, .iconst 0, 0, 0, 0), (71, .bipush 12, 0, 0, 0), (73, .invokestatic 43, 1000, 0, 850), (76, .aload_n 1, 0, 0, 0), (77, .getfield 24, 7, 5, 396), (80, .iconst 0, 0, 0, 0), (81, .aload_n 0, 0, 0, 0), (82, .getfield 24, 7, 5, 396), (85, .iconst 0, 0, 0, 0), (86, .bipush 12, 0, 0, 0), (88, .invokestatic 43, 1000, 0, 850), (91, .aload_n 1, 0, 0, 0), (92, .getfield 27, 7, 6, 399), (95, .iconst 0, 0, 0, 0), (96, .aload_n 0, 0, 0, 0), (97, .getfield 27, 7, 6, 399), (100, .iconst 0, 0, 0, 0), (101, .bipush 12, 0, 0, 0), (103, .invokestatic 43, 1000, 0, 850), (106, .aload_n 1, 0, 0, 0), (107, .getfield 30, 7, 7, 402), (110, .iconst 0, 0, 0, 0), (111, .aload_n 0, 0, 0, 0), (112, .getfield 30, 7, 7, 402), (115, .iconst 0, 0, 0, 0), (116, .bipush 12, 0, 0, 0), (118, .invokestatic 43, 1000, 0, 850), (121, .aload_n 1, 0, 0, 0), (122, .getfield 33, 7, 9, 407), (125, .iconst 0, 0, 0, 0), (126, .aload_n 0, 0, 0, 0), (127, .getfield 33, 7, 9, 407), (130, .iconst 0, 0, 0, 0), (131, .aload_n 1, 0, 0, 0), (132, .getfield 40, 7, 8, 405), (135, .invokestatic 43, 1000, 0, 850), (138, .return_, 0, 0, 0)]
def cd_38 : List am_E := [(0, .aload_n 0, 0, 0, 0), (1, .invokespecial 3, 1001, 0, 436), (4, .aload_n 0, 0, 0, 0), (5, .new 9, 7, 437, 0), (8, .dup, 0, 0, 0), (9, .invokespecial 11, 36, 1, 10007), (12, .putfield 12, 8, 0, 439), (15, .aload_n 0, 0, 0, 0), (16, .sipush 401, 0, 0, 0), (19, .newarray .int, 0, 0, 0), (21, .putfield 18, 8, 2, 442), (24, .aload_n 0, 0, 0, 0), (25, .sipush 401, 0, 0, 0), (28, .newarray .int, 0, 0, 0), (30, .putfield 22, 8, 3, 443), (33, .aload_n 0, 0, 0, 0), (34, .sipush 401, 0, 0, 0), (37, .newarray .int, 0, 0, 0), (39, .putfield 25, 8, 4, 444), (42, .return_, 0, 0, 0)]
def cd_39 : List am_E := [(0, .aload_n 0, 0, 0, 0), (1, .aload_n 1, 0, 0, 0), (2, .iload_n 2, 0, 0, 0), (3, .invokevirtual 28, 40, 3, 737), (6, .aload_n 0, 0, 0, 0), (7, .iconst 0, 0, 0, 0), (8, .putfield 32, 8, 5, 445), (11, .aload_n 0, 0, 0, 0), (12, .iconst 0, 0, 0, 0), (13, .putfield 36, 8, 6, 446), (16, .aload_n 0, 0, 0, 0), (17, .iconst 0, 0, 0, 0), (18, .putfield 39, 8, 7, 447), (21, .aload_n 0, 0, 0, 0), (22, .getfield 12, 8, 0, 439), (25, .iconst 0, 0, 0, 0), (26, .putfield 42, 7, 0, 383), (29, .aload_n 0, 0, 0, 0), (30, .getfield 12, 8, 0, 439), (33, .iconst 0, 0, 0, 0), (34, .putfield 45, 7, 8, 406), (37, .iconst 0, 0, 0, 0), (38, .istore_n 3, 0, 0, 0), (39, .iload_n 3, 0, 0, 0), (40, .bipush 12, 0, 0, 0), (42, .if_icmp .gt 122, 0, 0, 0), (45, .aload_n 0, 0, 0, 0), (46, .iload_n 3, 0, 0, 0), (47, .invokevirtual 48, 50, 2, 802), (50, .ifCond .eq 114, 0, 0, 0), (53, .aload_n 0, 0, 0, 0), (54, .getfield 12, 8, 0, 439), (57, .getfield 52, 7, 6, 400), (60, .iload_n 3, 0, 0, 0), (61, .aload_n 0, 0, 0, 0), (62, .getfield 12, 8, 0, 439), (65, .getfield 45, 7, 8, 406), (68, .iastore, 0, 0, 0), (69, .aload_n 0, 0, 0, 0), (70, .invokevirtual 55, 47, 1, 806), (73, .bipush 23, 0, 0, 0), (75, .if_icmp .ne 26, 0, 0, 0), (78, .aload_n 0, 0, 0, 0), (79, .dup, 0, 0, 0), (80, .getfield 32, 8, 5, 445), (83, .iconst 1, 0, 0, 0), (84, .iadd, 0, 0, 0), (85, .putfield 32, 8, 5, 445), (88, .aload_n 0, 0, 0, 0), (89, .iconst 0, 0, 0, 0), (90, .invokevirtual 59, 53, 2, 834), (93, .ifCond .ne 8, 0, 0, 0), (96, .aload_n 0, 0, 0, 0), (97, .getfield 39, 8, 7, 447), (100, .ireturn, 0, 0, 0), (101, .aload_n 0, 0, 0, 0), (102, .getfield 12, 8, 0, 439), (105, .getfield 62, 7, 7, 403), (108, .iload_n 3, 0, 0, 0), (109, .aload_n 0, 0, 0, 0), (110, .getfield 12, 8, 0, 439), (113, .getfield 45, 7, 8, 406), (116, .iastore, 0, 0, 0), (117, .aload_n 0, 0, 0, 0), (118, .invokevirtual 55, 47, 1, 806), (121, .bipush 40, 0, 0, 0), (123, .if_icmp .ne 5, 0, 0, 0), (126, .iconst 0, 0, 0, 0), (127, .ireturn, 0, 0, 0), (128, .aload_n 0, 0, 0, 0), (129, .invokevirtual 55, 47, 1, 806), (132, .bipush 36, 0, 0, 0), (134, .if_icmp .eq 14, 0, 0, 0), (137, .aload_n 0, 0, 0, 0), (138, .iconst 0, 0, 0, 0), (139, .invokevirtual 65, 48, 2, 810), (142, .pop, 0, 0, 0), (143, .aload_n 0, 0, 0, 0), (144, .getfield 39, 8, 7, 447), (147, .ireturn, 0, 0, 0), (148, .aload_n 0, 0, 0, 0), (149, .dup, 0, 0, 0), (150, .getfield 32, 8, 5, 445), (153, .iconst 1, 0, 0, 0), (154, .iadd, 0, 0, 0), (155, .putfield 32, 8, 5, 445), (158, .iinc 3 1, 0, 0, 0), (161, .goto (-122), 0, 0, 0), (164, .aload_n 0, 0, 0, 0), (165, .getfield 39, 8, 7, 447), (168, .ireturn, 0, 0, 0)]
def cd_40 : List am_E := [(0, .aload_n 0, 0, 0, 0), (1, .iconst 0, 0, 0, 0), (2, .putfield 68, 8, 1, 441), (5, .iconst 0, 0, 0, 0), (6, .istore_n 3, 0, 0, 0), (7, .iconst 0, 0, 0, 0), (8, .istore 4, 0, 0, 0), (10, .iload 4, 0, 0, 0), (12, .sipush 400, 0, 0, 0), (15, .if_icmp .ge 178, 0, 0, 0), (18, .iload_n 3, 0, 0, 0), (19, .iload_n 2, 0, 0, 0), (20, .if_icmp .ge 173, 0, 0, 0), (23, .aload_n 1, 0, 0, 0), (24, .iload_n 3, 0, 0, 0), (25, .iaload, 0, 0, 0), (26, .istore 5, 0, 0, 0), (28, .iload_n 3, 0, 0, 0), (29, .iconst 1, 0, 0, 0), (30, .iadd, 0, 0, 0), (31, .istore 6, 0, 0, 0), (33, .iload 5, 0, 0, 0), (35, .bipush 48, 0, 0, 0), (37, .bipush 57, 0, 0, 0), (39, .invokestatic 71, 135, 3, 10016), (42, .ifCond .eq 32, 0, 0, 0), (45, .aload_n 1, 0, 0, 0), (46, .iload_n 3, 0, 0, 0), (47, .iload_n 2, 0, 0, 0), (48, .bipush 48, 0, 0, 0), (50, .bipush 57, 0, 0, 0), (52, .invokestatic 75, 42, 5, 742), (55, .istore 6, 0, 0, 0), (57, .aload_n 0, 0, 0, 0), (58, .bipush 39, 0, 0, 0), (60, .iload_n 3, 0, 0, 0), (61, .aload_n 1, 0, 0, 0), (62, .iload_n 3, 0, 0, 0), (63, .iload 6, 0, 0, 0), (65, .invokestatic 79, 43, 3, 745), (68, .invokevirtual 83, 41, 4, 748), (71, .goto 113, 0, 0, 0), (74, .iload 5, 0, 0, 0), (76, .bipush 97, 0, 0, 0), (78, .bipush 122, 0, 0, 0), (80, .invokestatic 71, 135, 3, 10016), (83, .ifCond .eq 31, 0, 0, 0), (86, .aload_n 1, 0, 0, 0), (87, .iload_n 3, 0, 0, 0), (88, .iload_n 2, 0, 0, 0), (89, .bipush 97, 0, 0, 0), (91, .bipush 122, 0, 0, 0), (93, .invokestatic 75, 42, 5, 742), (96, .istore 6, 0, 0, 0), (98, .aload_n 0, 0, 0, 0), (99, .aload_n 1, 0, 0, 0), (100, .iload_n 3, 0, 0, 0), (101, .iload 6, 0, 0, 0), (103, .invokestatic 87, 44, 3, 752), (106, .iload_n 3, 0, 0, 0), (107, .iconst 0, 0, 0, 0), (108, .invokevirtual 83, 41, 4, 748), (111, .goto 73, 0, 0, 0), (114, .iload 5, 0, 0, 0), (116, .bipush 32, 0, 0, 0), (118, .if_icmp .eq 66, 0, 0, 0), (121, .iload 6, 0, 0, 0), (123, .iload_n 2, 0, 0, 0), (124, .if_icmp .ge 16, 0, 0, 0), (127, .aload_n 1, 0, 0, 0), (128, .iload 6, 0, 0, 0), (130, .iaload, 0, 0, 0), (131, .bipush 61, 0, 0, 0), (133, .if_icmp .ne 7, 0, 0, 0), (136, .iconst 1, 0, 0, 0), (137, .goto 4, 0, 0, 0), (140, .iconst 0, 0, 0, 0), (141, .istore 7, 0, 0, 0), (143, .iload 5, 0, 0, 0), (145, .iload 7, 0, 0, 0), (147, .invokestatic 90, 46, 2, 799), (150, .istore 8, 0, 0, 0), (152, .aload_n 0, 0, 0, 0), (153, .iload 8, 0, 0, 0), (155, .iload_n 3, 0, 0, 0), (156, .iconst 0, 0, 0, 0), (157, .invokevirtual 83, 41, 4, 748), (160, .iload 6, 0, 0, 0), (162, .iload 8, 0, 0, 0), (164, .bipush 32, 0, 0, 0), (166, .if_icmp .eq 10, 0, 0, 0), (169, .iload 8, 0, 0, 0), (171, .bipush 34, 0, 0, 0), (173, .if_icmp .ne 7, 0, 0, 0), (176, .iconst 1, 0, 0, 0), (177, .goto 4, 0, 0, 0), (180, .iconst 0, 0, 0, 0), (181, .iadd, 0, 0, 0), (182, .istore 6, 0, 0, 0), (184, .iload 6, 0, 0, 0), (186, .istore_n 3, 0, 0, 0), (187, .iinc 4 1, 0, 0, 0), (190, .goto (-180), 0, 0, 0), (193, .aload_n 0, 0, 0, 0), (194, .bipush 40, 0, 0, 0), (196, .iload_n 2, 0, 0, 0), (197, .iconst 0, 0, 0, 0), (198, .invokevirtual 83, 41, 4, 748), (201, .return_, 0, 0, 0)]
def cd_41 : List am_E := [(0, .aload_n 0, 0, 0, 0), (1, .getfield 68, 8, 1, 441), (4, .sipush 400, 0, 0, 0), (7, .if_icmp .gt 43, 0, 0, 0), (10, .aload_n 0, 0, 0, 0), (11, .getfield 18, 8, 2, 442), (14, .aload_n 0, 0, 0, 0), (15, .getfield 68, 8, 1, 441), (18, .iload_n 1, 0, 0, 0), (19, .iastore, 0, 0, 0), (20, .aload_n 0, 0, 0, 0), (21, .getfield 22, 8, 3, 443), (24, .aload_n 0, 0, 0, 0), (25, .getfield 68, 8, 1, 441), (28, .iload_n 2, 0, 0, 0), (29, .iastore, 0, 0, 0), (30, .aload_n 0, 0, 0, 0), (31, .getfield 25, 8, 4, 444), (34, .aload_n 0, 0, 0, 0), (35, .getfield 68, 8, 1, 441), (38, .iload_n 3, 0, 0, 0), (39, .iastore, 0, 0, 0), (40, .aload_n 0, 0, 0, 0), (41, .dup, 0, 0, 0), (42, .getfield 68, 8, 1, 441), (45, .iconst 1, 0, 0, 0), (46, .iadd, 0, 0, 0), (47, .putfield 68, 8, 1, 441), (50, .return_, 0, 0, 0)]
def cd_42 : List am_E := [(0, .iload_n 1, 0, 0, 0), (1, .istore 5, 0, 0, 0), (3, .iload 5, 0, 0, 0), (5, .iload_n 2, 0, 0, 0), (6, .if_icmp .ge 22, 0, 0, 0), (9, .aload_n 0, 0, 0, 0), (10, .iload 5, 0, 0, 0), (12, .iaload, 0, 0, 0), (13, .iload_n 3, 0, 0, 0), (14, .iload 4, 0, 0, 0), (16, .invokestatic 71, 135, 3, 10016), (19, .ifCond .eq 9, 0, 0, 0), (22, .iinc 5 1, 0, 0, 0), (25, .goto (-22), 0, 0, 0), (28, .iload 5, 0, 0, 0), (30, .ireturn, 0, 0, 0)]
def cd_43 : List am_E := [(0, .iload_n 2, 0, 0, 0), (1, .iload_n 1, 0, 0, 0), (2, .isub, 0, 0, 0), (3, .iconst 5, 0, 0, 0), (4, .if_icmp .le 5, 0, 0, 0), (7, .iconst (-1), 0, 0, 0), (8, .ireturn, 0, 0, 0), (9, .iconst 0, 0, 0, 0), (10, .istore_n 3, 0, 0, 0), (11, .iload_n 1, 0, 0, 0), (12, .istore 4, 0, 0, 0), (14, .iload 4, 0, 0, 0), (16, .iload_n 2, 0, 0, 0), (17, .if_icmp .ge 22, 0, 0, 0), (20, .iload_n 3, 0, 0, 0), (21, .bipush 10, 0, 0, 0), (23, .imul, 0, 0, 0), (24, .aload_n 0, 0, 0, 0), (25, .iload 4, 0, 0, 0), (27, .iaload, 0, 0, 0), (28, .iadd, 0, 0, 0), (29, .bipush 48, 0, 0, 0), (31, .isub, 0, 0, 0), (32, .istore_n 3, 0, 0, 0), (33, .iinc 4 1, 0, 0, 0), (36, .goto (-22), 0, 0, 0), (39, .iload_n 3, 0, 0, 0), (40, .ireturn, 0, 0, 0)]
def cd_44 : List am_E := [(0, .iload_n 2, 0, 0, 0), (1, .iload_n 1, 0, 0, 0), (2, .isub, 0, 0, 0), (3, .iconst 1, 0, 0, 0), (4, .if_icmp .ne 18, 0, 0, 0), (7, .aload_n 0, 0, 0, 0), (8, .iload_n 1, 0, 0, 0), (9, .iaload, 0, 0, 0), (10, .bipush 108, 0, 0, 0), (12, .if_icmp .gt 10, 0, 0, 0), (15, .aload_n 0, 0, 0, 0), (16, .iload_n 1, 0, 0, 0), (17, .iaload, 0, 0, 0), (18, .bipush 97, 0, 0, 0), (20, .isub, 0, 0, 0), (21, .ireturn, 0, 0, 0), (22, .bipush 12, 0, 0, 0), (24, .istore_n 3, 0, 0, 0), (25, .iload_n 3, 0, 0, 0), (26, .bipush 26, 0, 0, 0), (28, .if_icmp .gt 26, 0, 0, 0), (31, .aload_n 0, 0, 0, 0), (32, .iload_n 1, 0, 0, 0), (33, .iload_n 2, 0, 0, 0), (34, .iload_n 3, 0, 0, 0), (35, .bipush 12, 0, 0, 0), (37, .isub, 0, 0, 0), (38, .iconst 5, 0, 0, 0), (39, .imul, 0, 0, 0), (40, .invokestatic 94, 45, 4, 755), (43, .ifCond .eq 5, 0, 0, 0), (46, .iload_n 3, 0, 0, 0), (47, .ireturn, 0, 0, 0), (48, .iinc 3 1, 0, 0, 0), (51, .goto (-26), 0, 0, 0), (54, .bipush 41, 0, 0, 0), (56, .ireturn, 0, 0, 0)]
def cd_45 : List am_E := [(0, .iload_n 2, 0, 0, 0), (1, .iload_n 1, 0, 0, 0), (2, .isub, 0, 0, 0), (3, .iconst 5, 0, 0, 0), (4, .if_icmp .le 5, 0, 0, 0), (7, .iconst 0, 0, 0, 0), (8, .ireturn, 0, 0, 0), (9, .iconst 0, 0, 0, 0), (10, .istore 4, 0, 0, 0), (12, .iload 4, 0, 0, 0), (14, .iconst 5, 0, 0, 0), (15, .if_icmp .ge 46, 0, 0, 0), (18, .iload_n 1, 0, 0, 0), (19, .iload 4, 0, 0, 0), (21, .iadd, 0, 0, 0), (22, .iload_n 2, 0, 0, 0), (23, .if_icmp .ge 12, 0, 0, 0), (26, .aload_n 0, 0, 0, 0), (27, .iload_n 1, 0, 0, 0), (28, .iload 4, 0, 0, 0), (30, .iadd, 0, 0, 0), (31, .iaload, 0, 0, 0), (32, .goto 5, 0, 0, 0), (35, .bipush 32, 0, 0, 0), (37, .istore 5, 0, 0, 0), (39, .ldc 98, 1, 1, 0), (41, .iload_n 3, 0, 0, 0), (42, .iload 4, 0, 0, 0), (44, .iadd, 0, 0, 0), (45, .invokevirtual 100, 256, 2, 759), (48, .iload 5, 0, 0, 0), (50, .if_icmp .eq 5, 0, 0, 0), (53, .iconst 0, 0, 0, 0), (54, .ireturn, 0, 0, 0), (55, .iinc 4 1, 0, 0, 0), (58, .goto (-46), 0, 0, 0), (61, .iconst 1, 0, 0, 0), (62, .ireturn, 0, 0, 0)]
def cd_46 : List am_E := [(0, .iload_n 0, 0, 0, 0), (1, .lookupswitch 139 #[(42, 97), (43, 91), (45, 94), (47, 100), (59, 130), (60, 103), (61, 115), (62, 118), (91, 133), (93, 136)], 91, 0, 0), (92, .bipush 27, 0, 0, 0), (94, .ireturn, 0, 0, 0), (95, .bipush 28, 0, 0, 0), (97, .ireturn, 0, 0, 0), (98, .bipush 29, 0, 0, 0), (100, .ireturn, 0, 0, 0), (101, .bipush 30, 0, 0, 0), (103, .ireturn, 0, 0, 0), (104, .iload_n 1, 0, 0, 0), (105, .ifCond .eq 8, 0, 0, 0), (108, .bipush 32, 0, 0, 0), (110, .goto 5, 0, 0, 0), (113, .bipush 31, 0, 0, 0), (115, .ireturn, 0, 0, 0), (116, .bipush 33, 0, 0, 0), (118, .ireturn, 0, 0, 0), (119, .iload_n 1, 0, 0, 0), (120, .ifCond .eq 8, 0, 0, 0), (123, .bipush 34, 0, 0, 0), (125, .goto 5, 0, 0, 0), (128, .bipush 35, 0, 0, 0), (130, .ireturn, 0, 0, 0), (131, .bipush 36, 0, 0, 0), (133, .ireturn, 0, 0, 0), (134, .bipush 37, 0, 0, 0), (136, .ireturn, 0, 0, 0), (137, .bipush 38, 0, 0, 0), (139, .ireturn, 0, 0, 0), (140, .bipush 41, 0, 0, 0), (142, .ireturn, 0, 0, 0)]
def cd_47 : List am_E := [(0, .aload_n 0, 0, 0, 0), (1, .getfield 32, 8, 5, 445), (4, .aload_n 0, 0, 0, 0), (5, .getfield 68, 8, 1, 441), (8, .if_icmp .ge 15, 0, 0, 0), (11, .aload_n 0, 0, 0, 0), (12, .getfield 18, 8, 2, 442), (15, .aload_n 0, 0, 0, 0), (16, .getfield 32, 8, 5, 445), (19, .iaload, 0, 0, 0), (20, .goto 5, 0, 0, 0), (23, .bipush 40, 0, 0, 0), (25, .ireturn, 0, 0, 0)]
def cd_48 : List am_E := [(0, .aload_n 0, 0, 0, 0), (1, .iconst 1, 0, 0, 0), (2, .bipush 8, 0, 0, 0), (4, .aload_n 0, 0, 0, 0), (5, .getfield 32, 8, 5, 445), (8, .aload_n 0, 0, 0, 0), (9, .getfield 68, 8, 1, 441), (12, .if_icmp .ge 15, 0, 0, 0), (15, .aload_n 0, 0, 0, 0), (16, .getfield 22, 8, 3, 443), (19, .aload_n 0, 0, 0, 0), (20, .getfield 32, 8, 5, 445), (23, .iaload, 0, 0, 0), (24, .goto 4, 0, 0, 0), (27, .iconst 0, 0, 0, 0), (28, .imul, 0, 0, 0), (29, .iadd, 0, 0, 0), (30, .iload_n 1, 0, 0, 0), (31, .iadd, 0, 0, 0), (32, .putfield 39, 8, 7, 447), (35, .iconst 0, 0, 0, 0), (36, .ireturn, 0, 0, 0)]
def cd_49 : List am_E := [(0, .aload_n 0, 0, 0, 0), (1, .getfield 12, 8, 0, 439), (4, .getfield 45, 7, 8, 406), (7, .sipush 400, 0, 0, 0), (10, .if_icmp .ge 32, 0, 0, 0), (13, .aload_n 0, 0, 0, 0), (14, .getfield 12, 8, 0, 439), (17, .getfield 106, 7, 9, 409), (20, .aload_n 0, 0, 0, 0), (21, .getfield 12, 8, 0, 439), (24, .getfield 45, 7, 8, 406), (27, .iload_n 1, 0, 0, 0), (28, .iastore, 0, 0, 0), (29, .aload_n 0, 0, 0, 0), (30, .getfield 12, 8, 0, 439), (33, .dup, 0, 0, 0), (34, .getfield 45, 7, 8, 406), (37, .iconst 1, 0, 0, 0), (38, .iadd, 0, 0, 0), (39, .putfield 45, 7, 8, 406), (42, .return_, 0, 0, 0)]
def cd_50 : List am_E := [(0, .aload_n 0, 0, 0, 0), (1, .invokevirtual 55, 47, 1, 806), (4, .istore_n 2, 0, 0, 0), (5, .iload_n 2, 0, 0, 0), (6, .bipush 16, 0, 0, 0), (8, .if_icmp .eq 20, 0, 0, 0), (11, .iload_n 2, 0, 0, 0), (12, .bipush 19, 0, 0, 0), (14, .bipush 22, 0, 0, 0), (16, .invokestatic 71, 135, 3, 10016), (19, .ifCond .ne 9, 0, 0, 0), (22, .aload_n 0, 0, 0, 0), (23, .iconst 0, 0, 0, 0), (24, .invokevirtual 65, 48, 2, 810), (27, .ireturn, 0, 0, 0), (28, .iload_n 1, 0, 0, 0), (29, .bipush 12, 0, 0, 0), (31, .if_icmp .lt 9, 0, 0, 0), (34, .aload_n 0, 0, 0, 0), (35, .iconst 4, 0, 0, 0), (36, .invokevirtual 65, 48, 2, 810), (39, .ireturn, 0, 0, 0), (40, .aload_n 0, 0, 0, 0), (41, .dup, 0, 0, 0), (42, .getfield 32, 8, 5, 445), (45, .iconst 1, 0, 0, 0), (46, .iadd, 0, 0, 0), (47, .putfield 32, 8, 5, 445), (50, .aload_n 0, 0, 0, 0), (51, .getfield 12, 8, 0, 439), (54, .iload_n 1, 0, 0, 0), (55, .iconst 1, 0, 0, 0), (56, .iadd, 0, 0, 0), (57, .putfield 42, 7, 0, 383), (60, .aload_n 0, 0, 0, 0), (61, .getfield 12, 8, 0, 439), (64, .getfield 109, 7, 1, 386), (67, .iload_n 1, 0, 0, 0), (68, .iload_n 2, 0, 0, 0), (69, .iastore, 0, 0, 0), (70, .aload_n 0, 0, 0, 0), (71, .getfield 12, 8, 0, 439), (74, .getfield 112, 7, 5, 398), (77, .iload_n 1, 0, 0, 0), (78, .aload_n 0, 0, 0, 0), (79, .getfield 12, 8, 0, 439), (82, .getfield 45, 7, 8, 406), (85, .iastore, 0, 0, 0), (86, .iload_n 2, 0, 0, 0), (87, .bipush 22, 0, 0, 0), (89, .if_icmp .ne 8, 0, 0, 0), (92, .aload_n 0, 0, 0, 0), (93, .invokevirtual 115, 56, 1, 814), (96, .ireturn, 0, 0, 0), (97, .iload_n 2, 0, 0, 0), (98, .bipush 16, 0, 0, 0), (100, .if_icmp .ne 11, 0, 0, 0), (103, .aload_n 0, 0, 0, 0), (104, .iload_n 1, 0, 0, 0), (105, .bipush 99, 0, 0, 0), (107, .invokevirtual 119, 52, 3, 826), (110, .ireturn, 0, 0, 0), (111, .aload_n 0, 0, 0, 0), (112, .aload_n 0, 0, 0, 0), (113, .getfield 12, 8, 0, 439), (116, .getfield 123, 7, 2, 389), (119, .iload_n 1, 0, 0, 0), (120, .invokevirtual 126, 51, 3, 830), (123, .ifCond .eq 39, 0, 0, 0), (126, .iload_n 2, 0, 0, 0), (127, .bipush 21, 0, 0, 0), (129, .if_icmp .ne 18, 0, 0, 0), (132, .aload_n 0, 0, 0, 0), (133, .aload_n 0, 0, 0, 0), (134, .getfield 12, 8, 0, 439), (137, .getfield 130, 7, 3, 392), (140, .iload_n 1, 0, 0, 0), (141, .invokevirtual 126, 51, 3, 830), (144, .ifCond .eq 18, 0, 0, 0), (147, .aload_n 0, 0, 0, 0), (148, .iload_n 1, 0, 0, 0), (149, .sipush 9999, 0, 0, 0), (152, .invokevirtual 119, 52, 3, 826), (155, .ifCond .eq 7, 0, 0, 0), (158, .iconst 1, 0, 0, 0), (159, .goto 4, 0, 0, 0), (162, .iconst 0, 0, 0, 0), (163, .ireturn, 0, 0, 0)]
def cd_51 : List am_E := [(0, .aload_n 0, 0, 0, 0), (1, .invokevirtual 55, 47, 1, 806), (4, .iconst 0, 0, 0, 0), (5, .bipush 11, 0, 0, 0), (7, .invokestatic 71, 135, 3, 10016), (10, .ifCond .ne 9, 0, 0, 0), (13, .aload_n 0, 0, 0, 0), (14, .iconst 0, 0, 0, 0), (15, .invokevirtual 65, 48, 2, 810), (18, .ireturn, 0, 0, 0), (19, .aload_n 1, 0, 0, 0), (20, .iload_n 2, 0, 0, 0), (21, .aload_n 0, 0, 0, 0), (22, .invokevirtual 55, 47, 1, 806), (25, .iastore, 0, 0, 0), (26, .aload_n 0, 0, 0, 0), (27, .dup, 0, 0, 0), (28, .getfield 32, 8, 5, 445), (31, .iconst 1, 0, 0, 0), (32, .iadd, 0, 0, 0), (33, .putfield 32, 8, 5, 445), (36, .iconst 1, 0, 0, 0), (37, .ireturn, 0, 0, 0)]
def cd_52 : List am_E := [(0, .aload_n 0, 0, 0, 0), (1, .invokevirtual 55, 47, 1, 806), (4, .bipush 39, 0, 0, 0), (6, .if_icmp .eq 9, 0, 0, 0), (9, .aload_n 0, 0, 0, 0), (10, .iconst 0, 0, 0, 0), (11, .invokevirtual 65, 48, 2, 810), (14, .ireturn, 0, 0, 0), (15, .aload_n 0, 0, 0, 0), (16, .getfield 25, 8, 4, 444), (19, .aload_n 0, 0, 0, 0), (20, .getfield 32, 8, 5, 445), (23, .iaload, 0, 0, 0), (24, .iconst 0, 0, 0, 0), (25, .iload_n 2, 0, 0, 0), (26, .invokestatic 71, 135, 3, 10016), (29, .ifCond .ne 9, 0, 0, 0), (32, .aload_n 0, 0, 0, 0), (33, .iconst 1, 0, 0, 0), (34, .invokevirtual 65, 48, 2, 810), (37, .ireturn, 0, 0, 0), (38, .aload_n 0, 0, 0, 0), (39, .getfield 12, 8, 0, 439), (42, .getfield 133, 7, 4, 395), (45, .iload_n 1, 0, 0, 0), (46, .aload_n 0, 0, 0, 0), (47, .getfield 25, 8, 4, 444), (50, .aload_n 0, 0, 0, 0), (51, .getfield 32, 8, 5, 445), (54, .iaload, 0, 0, 0), (55, .iastore, 0, 0, 0), (56, .aload_n 0, 0, 0, 0), (57, .dup, 0, 0, 0), (58, .getfield 32, 8, 5, 445), (61, .iconst 1, 0, 0, 0), (62, .iadd, 0, 0, 0), (63, .putfield 32, 8, 5, 445), (66, .iconst 1, 0, 0, 0), (67, .ireturn, 0, 0, 0)]
def cd_53 : List am_E := [(0, .iconst 0, 0, 0, 0), (1, .istore_n 2, 0, 0, 0), (2, .iconst 0, 0, 0, 0), (3, .istore_n 3, 0, 0, 0), (4, .iconst 0, 0, 0, 0), (5, .istore 4, 0, 0, 0), (7, .iload 4, 0, 0, 0), (9, .sipush 400, 0, 0, 0), (12, .if_icmp .gt 89, 0, 0, 0), (15, .aload_n 0, 0, 0, 0), (16, .iload_n 1, 0, 0, 0), (17, .invokevirtual 135, 54, 2, 838), (20, .ifCond .ne 5, 0, 0, 0), (23, .iconst 0, 0, 0, 0), (24, .ireturn, 0, 0, 0), (25, .iload_n 2, 0, 0, 0), (26, .ifCond .eq 9, 0, 0, 0), (29, .aload_n 0, 0, 0, 0), (30, .bipush 24, 0, 0, 0), (32, .invokevirtual 138, 49, 2, 822), (35, .aload_n 0, 0, 0, 0), (36, .invokevirtual 55, 47, 1, 806), (39, .bipush 24, 0, 0, 0), (41, .if_icmp .ne 7, 0, 0, 0), (44, .iconst 1, 0, 0, 0), (45, .goto 4, 0, 0, 0), (48, .iconst 0, 0, 0, 0), (49, .istore_n 2, 0, 0, 0), (50, .iload_n 2, 0, 0, 0), (51, .ifCond .ne 34, 0, 0, 0), (54, .iload_n 3, 0, 0, 0), (55, .ifCond .eq 9, 0, 0, 0), (58, .aload_n 0, 0, 0, 0), (59, .bipush 25, 0, 0, 0), (61, .invokevirtual 138, 49, 2, 822), (64, .aload_n 0, 0, 0, 0), (65, .invokevirtual 55, 47, 1, 806), (68, .bipush 25, 0, 0, 0), (70, .if_icmp .ne 7, 0, 0, 0), (73, .iconst 1, 0, 0, 0), (74, .goto 4, 0, 0, 0), (77, .iconst 0, 0, 0, 0), (78, .istore_n 3, 0, 0, 0), (79, .iload_n 3, 0, 0, 0), (80, .ifCond .ne 5, 0, 0, 0), (83, .iconst 1, 0, 0, 0), (84, .ireturn, 0, 0, 0), (85, .aload_n 0, 0, 0, 0), (86, .dup, 0, 0, 0), (87, .getfield 32, 8, 5, 445), (90, .iconst 1, 0, 0, 0), (91, .iadd, 0, 0, 0), (92, .putfield 32, 8, 5, 445), (95, .iinc 4 1, 0, 0, 0), (98, .goto (-91), 0, 0, 0), (101, .iconst 0, 0, 0, 0), (102, .ireturn, 0, 0, 0)]
def cd_54 : List am_E := [(0, .aload_n 0, 0, 0, 0), (1, .invokevirtual 55, 47, 1, 806), (4, .istore_n 2, 0, 0, 0), (5, .iload_n 2, 0, 0, 0), (6, .bipush 26, 0, 0, 0), (8, .if_icmp .eq 14, 0, 0, 0), (11, .iload_n 2, 0, 0, 0), (12, .bipush 37, 0, 0, 0), (14, .if_icmp .eq 8, 0, 0, 0), (17, .aload_n 0, 0, 0, 0), (18, .invokevirtual 142, 55, 1, 842), (21, .ireturn, 0, 0, 0), (22, .iload_n 1, 0, 0, 0), (23, .bipush 10, 0, 0, 0), (25, .if_icmp .lt 9, 0, 0, 0), (28, .aload_n 0, 0, 0, 0), (29, .iconst 2, 0, 0, 0), (30, .invokevirtual 65, 48, 2, 810), (33, .ireturn, 0, 0, 0), (34, .aload_n 0, 0, 0, 0), (35, .dup, 0, 0, 0), (36, .getfield 32, 8, 5, 445), (39, .iconst 1, 0, 0, 0), (40, .iadd, 0, 0, 0), (41, .putfield 32, 8, 5, 445), (44, .iload_n 2, 0, 0, 0), (45, .bipush 26, 0, 0, 0), (47, .if_icmp .ne 23, 0, 0, 0), (50, .aload_n 0, 0, 0, 0), (51, .iload_n 1, 0, 0, 0), (52, .iconst 1, 0, 0, 0), (53, .iadd, 0, 0, 0), (54, .invokevirtual 135, 54, 2, 838), (57, .ifCond .ne 5, 0, 0, 0), (60, .iconst 0, 0, 0, 0), (61, .ireturn, 0, 0, 0), (62, .aload_n 0, 0, 0, 0), (63, .bipush 26, 0, 0, 0), (65, .invokevirtual 138, 49, 2, 822), (68, .iconst 1, 0, 0, 0), (69, .ireturn, 0, 0, 0), (70, .aload_n 0, 0, 0, 0), (71, .iload_n 1, 0, 0, 0), (72, .iconst 1, 0, 0, 0), (73, .iadd, 0, 0, 0), (74, .invokevirtual 59, 53, 2, 834), (77, .ifCond .ne 5, 0, 0, 0), (80, .iconst 0, 0, 0, 0), (81, .ireturn, 0, 0, 0), (82, .aload_n 0, 0, 0, 0), (83, .invokevirtual 55, 47, 1, 806), (86, .bipush 38, 0, 0, 0), (88, .if_icmp .eq 9, 0, 0, 0), (91, .aload_n 0, 0, 0, 0), (92, .iconst 0, 0, 0, 0), (93, .invokevirtual 65, 48, 2, 810), (96, .ireturn, 0, 0, 0), (97, .aload_n 0, 0, 0, 0), (98, .dup, 0, 0, 0), (99, .getfield 32, 8, 5, 445), (102, .iconst 1, 0, 0, 0), (103, .iadd, 0, 0, 0), (104, .putfield 32, 8, 5, 445), (107, .iconst 1, 0, 0, 0), (108, .ireturn, 0, 0, 0)]
def cd_55 : List am_E := [(0, .aload_n 0, 0, 0, 0), (1, .invokevirtual 115, 56, 1, 814), (4, .ifCond .ne 5, 0, 0, 0), (7, .iconst 0, 0, 0, 0), (8, .ireturn, 0, 0, 0), (9, .aload_n 0, 0, 0, 0), (10, .invokevirtual 55, 47, 1, 806), (13, .istore_n 1, 0, 0, 0), (14, .iload_n 1, 0, 0, 0), (15, .bipush 31, 0, 0, 0), (17, .bipush 35, 0, 0, 0), (19, .invokestatic 71, 135, 3, 10016), (22, .ifCond .ne 9, 0, 0, 0), (25, .aload_n 0, 0, 0, 0), (26, .iconst 0, 0, 0, 0), (27, .invokevirtual 65, 48, 2, 810), (30, .ireturn, 0, 0, 0), (31, .aload_n 0, 0, 0, 0), (32, .getfield 36, 8, 6, 446), (35, .bipush 60, 0, 0, 0), (37, .if_icmp .lt 9, 0, 0, 0), (40, .aload_n 0, 0, 0, 0), (41, .iconst 3, 0, 0, 0), (42, .invokevirtual 65, 48, 2, 810), (45, .ireturn, 0, 0, 0), (46, .aload_n 0, 0, 0, 0), (47, .dup, 0, 0, 0), (48, .getfield 36, 8, 6, 446), (51, .iconst 1, 0, 0, 0), (52, .iadd, 0, 0, 0), (53, .putfield 36, 8, 6, 446), (56, .aload_n 0, 0, 0, 0), (57, .dup, 0, 0, 0), (58, .getfield 32, 8, 5, 445), (61, .iconst 1, 0, 0, 0), (62, .iadd, 0, 0, 0), (63, .putfield 32, 8, 5, 445), (66, .aload_n 0, 0, 0, 0), (67, .invokevirtual 115, 56, 1, 814), (70, .ifCond .ne 5, 0, 0, 0), (73, .iconst 0, 0, 0, 0), (74, .ireturn, 0, 0, 0), (75, .aload_n 0, 0, 0, 0), (76, .iload_n 1, 0, 0, 0), (77, .invokevirtual 138, 49, 2, 822), (80, .iconst 1, 0, 0, 0), (81, .ireturn, 0, 0, 0)]
def cd_56 : List am_E := [(0, .iconst 0, 0, 0, 0), (1, .istore_n 1, 0, 0, 0), (2, .iconst 0, 0, 0, 0), (3, .istore_n 2, 0, 0, 0), (4, .iconst 0, 0, 0, 0), (5, .istore_n 3, 0, 0, 0), (6, .iload_n 3, 0, 0, 0), (7, .sipush 400, 0, 0, 0), (10, .if_icmp .gt 102, 0, 0, 0), (13, .aload_n 0, 0, 0, 0), (14, .invokevirtual 145, 57, 1, 818), (17, .ifCond .ne 5, 0, 0, 0), (20, .iconst 0, 0, 0, 0), (21, .ireturn, 0, 0, 0), (22, .iload_n 1, 0, 0, 0), (23, .ifCond .eq 8, 0, 0, 0), (26, .aload_n 0, 0, 0, 0), (27, .iload_n 1, 0, 0, 0), (28, .invokevirtual 138, 49, 2, 822), (31, .aload_n 0, 0, 0, 0), (32, .invokevirtual 55, 47, 1, 806), (35, .bipush 29, 0, 0, 0), (37, .bipush 30, 0, 0, 0), (39, .invokestatic 71, 135, 3, 10016), (42, .ifCond .eq 10, 0, 0, 0), (45, .aload_n 0, 0, 0, 0), (46, .invokevirtual 55, 47, 1, 806), (49, .goto 4, 0, 0, 0), (52, .iconst 0, 0, 0, 0), (53, .istore_n 1, 0, 0, 0), (54, .iload_n 1, 0, 0, 0), (55, .ifCond .ne 41, 0, 0, 0), (58, .iload_n 2, 0, 0, 0), (59, .ifCond .eq 8, 0, 0, 0), (62, .aload_n 0, 0, 0, 0), (63, .iload_n 2, 0, 0, 0), (64, .invokevirtual 138, 49, 2, 822), (67, .aload_n 0, 0, 0, 0), (68, .invokevirtual 55, 47, 1, 806), (71, .bipush 27, 0, 0, 0), (73, .bipush 28, 0, 0, 0), (75, .invokestatic 71, 135, 3, 10016), (78, .ifCond .eq 10, 0, 0, 0), (81, .aload_n 0, 0, 0, 0), (82, .invokevirtual 55, 47, 1, 806), (85, .goto 4, 0, 0, 0), (88, .iconst 0, 0, 0, 0), (89, .istore_n 2, 0, 0, 0), (90, .iload_n 2, 0, 0, 0), (91, .ifCond .ne 5, 0, 0, 0), (94, .iconst 1, 0, 0, 0), (95, .ireturn, 0, 0, 0), (96, .aload_n 0, 0, 0, 0), (97, .dup, 0, 0, 0), (98, .getfield 32, 8, 5, 445), (101, .iconst 1, 0, 0, 0), (102, .iadd, 0, 0, 0), (103, .putfield 32, 8, 5, 445), (106, .iinc 3 1, 0, 0, 0), (109, .goto (-103), 0, 0, 0), (112, .iconst 0, 0, 0, 0), (113, .ireturn, 0, 0, 0)]
def cd_57 : List am_E := [(0, .aload_n 0, 0, 0, 0), (1, .invokevirtual 55, 47, 1, 806), (4, .bipush 39, 0, 0, 0), (6, .if_icmp .ne 7, 0, 0, 0), (9, .iconst 1, 0, 0, 0), (10, .goto 4, 0, 0, 0), (13, .iconst 0, 0, 0, 0), (14, .istore_n 1, 0, 0, 0), (15, .iload_n 1, 0, 0, 0), (16, .ifCond .ne 22, 0, 0, 0), (19, .aload_n 0, 0, 0, 0), (20, .invokevirtual 55, 47, 1, 806), (23, .iconst 0, 0, 0, 0), (24, .bipush 18, 0, 0, 0), (26, .invokestatic 71, 135, 3, 10016), (29, .ifCond .ne 9, 0, 0, 0), (32, .aload_n 0, 0, 0, 0), (33, .iconst 0, 0, 0, 0), (34, .invokevirtual 65, 48, 2, 810), (37, .ireturn, 0, 0, 0), (38, .iload_n 1, 0, 0, 0), (39, .ifCond .eq 21, 0, 0, 0), (42, .aload_n 0, 0, 0, 0), (43, .getfield 25, 8, 4, 444), (46, .aload_n 0, 0, 0, 0), (47, .getfield 32, 8, 5, 445), (50, .iaload, 0, 0, 0), (51, .ifCond .ge 9, 0, 0, 0), (54, .aload_n 0, 0, 0, 0), (55, .iconst 1, 0, 0, 0), (56, .invokevirtual 65, 48, 2, 810), (59, .ireturn, 0, 0, 0), (60, .aload_n 0, 0, 0, 0), (61, .getfield 36, 8, 6, 446), (64, .bipush 60, 0, 0, 0), (66, .if_icmp .lt 9, 0, 0, 0), (69, .aload_n 0, 0, 0, 0), (70, .iconst 3, 0, 0, 0), (71, .invokevirtual 65, 48, 2, 810), (74, .ireturn, 0, 0, 0), (75, .aload_n 0, 0, 0, 0), (76, .dup, 0, 0, 0), (77, .getfield 36, 8, 6, 446), (80, .iconst 1, 0, 0, 0), (81, .iadd, 0, 0, 0), (82, .putfield 36, 8, 6, 446), (85, .aload_n 0, 0, 0, 0), (86, .iload_n 1, 0, 0, 0), (87, .ifCond .eq 18, 0, 0, 0), (90, .bipush 100, 0, 0, 0), (92, .aload_n 0, 0, 0, 0), (93, .getfield 25, 8, 4, 444), (96, .aload_n 0, 0, 0, 0), (97, .getfield 32, 8, 5, 445), (100, .iaload, 0, 0, 0), (101, .iadd, 0, 0, 0), (102, .goto 7, 0, 0, 0), (105, .aload_n 0, 0, 0, 0), (106, .invokevirtual 55, 47, 1, 806), (109, .invokevirtual 138, 49, 2, 822), (112, .aload_n 0, 0, 0, 0), (113, .dup, 0, 0, 0), (114, .getfield 32, 8, 5, 445), (117, .iconst 1, 0, 0, 0), (118, .iadd, 0, 0, 0), (119, .putfield 32, 8, 5, 445), (122, .iconst 1, 0, 0, 0), (123, .ireturn, 0, 0, 0)]
def cd_58 : List am_E := [(0, .aload_n 0, 0, 0, 0), (1, .invokespecial 3, 1001, 0, 504), (4, .aload_n 0, 0, 0, 0), (5, .new 9, 0, 505, 0), (8, .dup, 0, 0, 0), (9, .invokespecial 11, 0, 1, 10010), (12, .putfield 12, 9, 0, 507), (15, .aload_n 0, 0, 0, 0), (16, .bipush 60, 0, 0, 0), (18, .newarray .long, 0, 0, 0), (20, .putfield 18, 9, 1, 508), (23, .return_, 0, 0, 0)]
def cd_59 : List am_E := [(0, .aload_n 1, 0, 0, 0), (1, .invokevirtual 22, 69, 1, 870), (4, .ifCond .ne 119, 0, 0, 0), (7, .iconst 0, 0, 0, 0), (8, .istore_n 3, 0, 0, 0), (9, .iload_n 3, 0, 0, 0), (10, .aload_n 2, 0, 0, 0), (11, .getfield 28, 7, 0, 382), (14, .if_icmp .ge 26, 0, 0, 0), (17, .aload_n 0, 0, 0, 0), (18, .aload_n 1, 0, 0, 0), (19, .aload_n 2, 0, 0, 0), (20, .iload_n 3, 0, 0, 0), (21, .invokevirtual 34, 60, 4, 877), (24, .ifCond .eq 10, 0, 0, 0), (27, .aload_n 0, 0, 0, 0), (28, .aload_n 1, 0, 0, 0), (29, .aload_n 2, 0, 0, 0), (30, .iload_n 3, 0, 0, 0), (31, .invokevirtual 38, 61, 4, 916), (34, .iinc 3 1, 0, 0, 0), (37, .goto (-28), 0, 0, 0), (40, .iconst 0, 0, 0, 0), (41, .istore_n 3, 0, 0, 0), (42, .iload_n 3, 0, 0, 0), (43, .aload_n 1, 0, 0, 0), (44, .getfield 42, 10, 13, 333), (47, .getfield 46, 4, 0, 249), (50, .if_icmp .ge 14, 0, 0, 0), (53, .aload_n 1, 0, 0, 0), (54, .iload_n 3, 0, 0, 0), (55, .invokevirtual 51, 77, 2, 943), (58, .iinc 3 1, 0, 0, 0), (61, .goto (-19), 0, 0, 0), (64, .iconst 0, 0, 0, 0), (65, .istore_n 3, 0, 0, 0), (66, .iload_n 3, 0, 0, 0), (67, .aload_n 1, 0, 0, 0), (68, .getfield 55, 10, 14, 336), (71, .getfield 46, 4, 0, 249), (74, .if_icmp .ge 14, 0, 0, 0), (77, .aload_n 1, 0, 0, 0), (78, .iload_n 3, 0, 0, 0), (79, .invokevirtual 58, 78, 2, 959), (82, .iinc 3 1, 0, 0, 0), (85, .goto (-19), 0, 0, 0), (88, .aload_n 1, 0, 0, 0), (89, .getfield 61, 10, 12, 329), (92, .aload_n 1, 0, 0, 0), (93, .getfield 65, 10, 7, 310), (96, .invokevirtual 68, 16, 2, 964), (99, .aload_n 0, 0, 0, 0), (100, .getfield 12, 9, 0, 507), (103, .aload_n 1, 0, 0, 0), (104, .invokevirtual 73, 1, 2, 888), (107, .aload_n 1, 0, 0, 0), (108, .aload_n 0, 0, 0, 0), (109, .getfield 12, 9, 0, 507), (112, .aload_n 1, 0, 0, 0), (113, .getfield 65, 10, 7, 310), (116, .iconst 3, 0, 0, 0), (117, .invokevirtual 77, 5, 3, 969), (120, .putfield 65, 10, 7, 310), (123, .aload_n 1, 0, 0, 0), (124, .dup, 0, 0, 0), (125, .getfield 81, 10, 8, 314), (128, .iconst 1, 0, 0, 0), (129, .iadd, 0, 0, 0), (130, .putfield 81, 10, 8, 314), (133, .return_, 0, 0, 0)]
def cd_60 : List am_E := [(0, .aload_n 2, 0, 0, 0), (1, .getfield 84, 7, 6, 401), (4, .iload_n 3, 0, 0, 0), (5, .iaload, 0, 0, 0), (6, .istore 4, 0, 0, 0), (8, .aload_n 2, 0, 0, 0), (9, .getfield 88, 7, 7, 404), (12, .iload_n 3, 0, 0, 0), (13, .iaload, 0, 0, 0), (14, .istore 5, 0, 0, 0), (16, .iload 4, 0, 0, 0), (18, .iload 5, 0, 0, 0), (20, .if_icmp .eq 21, 0, 0, 0), (23, .aload_n 0, 0, 0, 0), (24, .aload_n 1, 0, 0, 0), (25, .aload_n 2, 0, 0, 0), (26, .getfield 91, 7, 9, 408), (29, .iload 4, 0, 0, 0), (31, .iload 5, 0, 0, 0), (33, .invokevirtual 94, 62, 5, 881), (36, .lconst 0, 0, 0, 0), (37, .lcmp, 0, 0, 0), (38, .ifCond .eq 7, 0, 0, 0), (41, .iconst 1, 0, 0, 0), (42, .goto 4, 0, 0, 0), (45, .iconst 0, 0, 0, 0), (46, .ireturn, 0, 0, 0)]
def cd_61 : List am_E := [(0, .aload_n 2, 0, 0, 0), (1, .getfield 98, 7, 4, 394), (4, .iload_n 3, 0, 0, 0), (5, .iaload, 0, 0, 0), (6, .istore 4, 0, 0, 0), (8, .aload_n 2, 0, 0, 0), (9, .getfield 101, 7, 2, 388), (12, .iload_n 3, 0, 0, 0), (13, .iaload, 0, 0, 0), (14, .istore 5, 0, 0, 0), (16, .aload_n 2, 0, 0, 0), (17, .getfield 104, 7, 3, 391), (20, .iload_n 3, 0, 0, 0), (21, .iaload, 0, 0, 0), (22, .istore 6, 0, 0, 0), (24, .iload 5, 0, 0, 0), (26, .aload_n 1, 0, 0, 0), (27, .getfield 107, 10, 11, 327), (30, .getfield 111, 6, 0, 141), (33, .if_icmp .ge 7, 0, 0, 0), (36, .iconst 1, 0, 0, 0), (37, .goto 4, 0, 0, 0), (40, .iconst 0, 0, 0, 0), (41, .istore 7, 0, 0, 0), (43, .aload_n 2, 0, 0, 0), (44, .getfield 114, 7, 1, 385), (47, .iload_n 3, 0, 0, 0), (48, .iaload, 0, 0, 0), (49, .tableswitch 129 16 22 #[43, 129, 129, 97, 113, 129, 52], 43, 0, 0), (92, .aload_n 1, 0, 0, 0), (93, .iload 4, 0, 0, 0), (95, .putfield 117, 10, 6, 306), (98, .goto 114, 0, 0, 0), (101, .aload_n 0, 0, 0, 0), (102, .aload_n 1, 0, 0, 0), (103, .aload_n 2, 0, 0, 0), (104, .getfield 91, 7, 9, 408), (107, .aload_n 2, 0, 0, 0), (108, .getfield 120, 7, 5, 397), (111, .iload_n 3, 0, 0, 0), (112, .iaload, 0, 0, 0), (113, .aload_n 2, 0, 0, 0), (114, .getfield 84, 7, 6, 401), (117, .iload_n 3, 0, 0, 0), (118, .iaload, 0, 0, 0), (119, .invokevirtual 94, 62, 5, 881), (122, .lstore 8, 0, 0, 0), (124, .aload_n 1, 0, 0, 0), (125, .ldc2_w 123, 0, 18446744073709451617, 920), (128, .lload 8, 0, 0, 0), (130, .ldc2_w 125, 0, 99999, 921), (133, .invokestatic 127, 1006, 0, 922), (136, .invokestatic 133, 1005, 0, 923), (139, .l2i, 0, 0, 0), (140, .putfield 136, 10, 5, 303), (143, .goto 69, 0, 0, 0), (146, .iload 7, 0, 0, 0), (148, .ifCond .eq 64, 0, 0, 0), (151, .aload_n 1, 0, 0, 0), (152, .iload 5, 0, 0, 0), (154, .iload 4, 0, 0, 0), (156, .invokevirtual 139, 73, 3, 926), (159, .goto 53, 0, 0, 0), (162, .iload 7, 0, 0, 0), (164, .ifCond .eq 48, 0, 0, 0), (167, .aload_n 1, 0, 0, 0), (168, .iload 5, 0, 0, 0), (170, .iload 4, 0, 0, 0), (172, .invokevirtual 143, 72, 3, 934), (175, .goto 37, 0, 0, 0), (178, .iload 7, 0, 0, 0), (180, .ifCond .eq 32, 0, 0, 0), (183, .iload 6, 0, 0, 0), (185, .aload_n 1, 0, 0, 0), (186, .getfield 107, 10, 11, 327), (189, .getfield 111, 6, 0, 141), (192, .if_icmp .ge 20, 0, 0, 0), (195, .iload 6, 0, 0, 0), (197, .iload 5, 0, 0, 0), (199, .if_icmp .eq 13, 0, 0, 0), (202, .aload_n 1, 0, 0, 0), (203, .iload 5, 0, 0, 0), (205, .iload 6, 0, 0, 0), (207, .iload 4, 0, 0, 0), (209, .invokevirtual 146, 74, 4, 939), (212, .return_, 0, 0, 0)]
def cd_62 : List am_E := [(0, .iconst 0, 0, 0, 0), (1, .istore 5, 0, 0, 0), (3, .iload_n 3, 0, 0, 0), (4, .istore 6, 0, 0, 0), (6, .iload 6, 0, 0, 0), (8, .iload 4, 0, 0, 0), (10, .if_icmp .ge 177, 0, 0, 0), (13, .aload_n 2, 0, 0, 0), (14, .iload 6, 0, 0, 0), (16, .iaload, 0, 0, 0), (17, .istore 7, 0, 0, 0), (19, .iload 7, 0, 0, 0), (21, .bipush 18, 0, 0, 0), (23, .if_icmp .le 87, 0, 0, 0), (26, .iload 7, 0, 0, 0), (28, .bipush 100, 0, 0, 0), (30, .if_icmp .ge 80, 0, 0, 0), (33, .iload 7, 0, 0, 0), (35, .bipush 26, 0, 0, 0), (37, .if_icmp .ne 31, 0, 0, 0), (40, .iload 5, 0, 0, 0), (42, .ifCond .le 26, 0, 0, 0), (45, .aload_n 0, 0, 0, 0), (46, .getfield 18, 9, 1, 508), (49, .iload 5, 0, 0, 0), (51, .iconst 1, 0, 0, 0), (52, .isub, 0, 0, 0), (53, .lconst 1, 0, 0, 0), (54, .aload_n 0, 0, 0, 0), (55, .getfield 18, 9, 1, 508), (58, .iload 5, 0, 0, 0), (60, .iconst 1, 0, 0, 0), (61, .isub, 0, 0, 0), (62, .laload, 0, 0, 0), (63, .lsub, 0, 0, 0), (64, .lastore, 0, 0, 0), (65, .goto 116, 0, 0, 0), (68, .iload 5, 0, 0, 0), (70, .iconst 1, 0, 0, 0), (71, .if_icmp .le 110, 0, 0, 0), (74, .iinc 5 (-1), 0, 0, 0), (77, .aload_n 0, 0, 0, 0), (78, .getfield 18, 9, 1, 508), (81, .iload 5, 0, 0, 0), (83, .iconst 1, 0, 0, 0), (84, .isub, 0, 0, 0), (85, .iload 7, 0, 0, 0), (87, .aload_n 0, 0, 0, 0), (88, .getfield 18, 9, 1, 508), (91, .iload 5, 0, 0, 0), (93, .iconst 1, 0, 0, 0), (94, .isub, 0, 0, 0), (95, .laload, 0, 0, 0), (96, .aload_n 0, 0, 0, 0), (97, .getfield 18, 9, 1, 508), (100, .iload 5, 0, 0, 0), (102, .laload, 0, 0, 0), (103, .invokestatic 150, 64, 3, 885), (106, .lastore, 0, 0, 0), (107, .goto 74, 0, 0, 0), (110, .iload 5, 0, 0, 0), (112, .bipush 60, 0, 0, 0), (114, .if_icmp .ge 67, 0, 0, 0), (117, .iload 7, 0, 0, 0), (119, .bipush 18, 0, 0, 0), (121, .if_icmp .ne 28, 0, 0, 0), (124, .aload_n 0, 0, 0, 0), (125, .getfield 12, 9, 0, 507), (128, .aload_n 1, 0, 0, 0), (129, .invokevirtual 73, 1, 2, 888), (132, .aload_n 0, 0, 0, 0), (133, .getfield 18, 9, 1, 508), (136, .iload 5, 0, 0, 0), (138, .aload_n 0, 0, 0, 0), (139, .getfield 12, 9, 0, 507), (142, .invokevirtual 154, 6, 1, 893), (145, .lastore, 0, 0, 0), (146, .goto 32, 0, 0, 0), (149, .aload_n 0, 0, 0, 0), (150, .getfield 18, 9, 1, 508), (153, .iload 5, 0, 0, 0), (155, .iload 7, 0, 0, 0), (157, .bipush 100, 0, 0, 0), (159, .if_icmp .lt 12, 0, 0, 0), (162, .iload 7, 0, 0, 0), (164, .bipush 100, 0, 0, 0), (166, .isub, 0, 0, 0), (167, .i2l, 0, 0, 0), (168, .goto 9, 0, 0, 0), (171, .aload_n 1, 0, 0, 0), (172, .iload 7, 0, 0, 0), (174, .invokestatic 158, 63, 2, 906), (177, .lastore, 0, 0, 0), (178, .iinc 5 1, 0, 0, 0), (181, .iinc 6 1, 0, 0, 0), (184, .goto (-178), 0, 0, 0), (187, .iload 5, 0, 0, 0), (189, .ifCond .le 12, 0, 0, 0), (192, .aload_n 0, 0, 0, 0), (193, .getfield 18, 9, 1, 508), (196, .iconst 0, 0, 0, 0), (197, .laload, 0, 0, 0), (198, .goto 4, 0, 0, 0), (201, .lconst 0, 0, 0, 0), (202, .lreturn, 0, 0, 0)]
def cd_63 : List am_E := [(0, .iload_n 1, 0, 0, 0), (1, .tableswitch 98 12 17 #[39, 48, 74, 80, 86, 92], 39, 0, 0), (40, .aload_n 0, 0, 0, 0), (41, .getfield 65, 10, 7, 310), (44, .invokestatic 162, 1004, 0, 909), (47, .i2l, 0, 0, 0), (48, .lreturn, 0, 0, 0), (49, .aload_n 0, 0, 0, 0), (50, .getfield 65, 10, 7, 310), (53, .ifCond .le 7, 0, 0, 0), (56, .lconst 1, 0, 0, 0), (57, .goto 17, 0, 0, 0), (60, .aload_n 0, 0, 0, 0), (61, .getfield 65, 10, 7, 310), (64, .ifCond .ge 9, 0, 0, 0), (67, .ldc2_w 166, 0, 18446744073709551615, 910), (70, .goto 4, 0, 0, 0), (73, .lconst 0, 0, 0, 0), (74, .lreturn, 0, 0, 0), (75, .aload_n 0, 0, 0, 0), (76, .getfield 81, 10, 8, 314), (79, .i2l, 0, 0, 0), (80, .lreturn, 0, 0, 0), (81, .aload_n 0, 0, 0, 0), (82, .invokevirtual 168, 70, 1, 911), (85, .i2l, 0, 0, 0), (86, .lreturn, 0, 0, 0), (87, .aload_n 0, 0, 0, 0), (88, .getfield 117, 10, 6, 306), (91, .i2l, 0, 0, 0), (92, .lreturn, 0, 0, 0), (93, .aload_n 0, 0, 0, 0), (94, .getfield 172, 10, 9, 318), (97, .i2l, 0, 0, 0), (98, .lreturn, 0, 0, 0), (99, .iload_n 1, 0, 0, 0), (100, .ifCond .lt 27, 0, 0, 0), (103, .iload_n 1, 0, 0, 0), (104, .aload_n 0, 0, 0, 0), (105, .getfield 107, 10, 11, 327), (108, .getfield 111, 6, 0, 141), (111, .if_icmp .ge 16, 0, 0, 0), (114, .aload_n 0, 0, 0, 0), (115, .getfield 107, 10, 11, 327), (118, .getfield 175, 6, 8, 169), (121, .iload_n 1, 0, 0, 0), (122, .iaload, 0, 0, 0), (123, .i2l, 0, 0, 0), (124, .goto 4, 0, 0, 0), (127, .lconst 0, 0, 0, 0), (128, .lreturn, 0, 0, 0)]
def cd_64 : List am_E := [(0, .iload_n 0, 0, 0, 0), (1, .tableswitch 157 24 35 #[149, 153, 157, 63, 67, 71, 75, 89, 101, 113, 125, 137], 63, 0, 0), (64, .lload_n 1, 0, 0, 0), (65, .lload_n 3, 0, 0, 0), (66, .ladd, 0, 0, 0), (67, .lreturn, 0, 0, 0), (68, .lload_n 1, 0, 0, 0), (69, .lload_n 3, 0, 0, 0), (70, .lsub, 0, 0, 0), (71, .lreturn, 0, 0, 0), (72, .lload_n 1, 0, 0, 0), (73, .lload_n 3, 0, 0, 0), (74, .lmul, 0, 0, 0), (75, .lreturn, 0, 0, 0), (76, .lload_n 3, 0, 0, 0), (77, .lconst 0, 0, 0, 0), (78, .lcmp, 0, 0, 0), (79, .ifCond .ne 7, 0, 0, 0), (82, .lconst 0, 0, 0, 0), (83, .goto 6, 0, 0, 0), (86, .lload_n 1, 0, 0, 0), (87, .lload_n 3, 0, 0, 0), (88, .ldiv, 0, 0, 0), (89, .lreturn, 0, 0, 0), (90, .lload_n 1, 0, 0, 0), (91, .lload_n 3, 0, 0, 0), (92, .lcmp, 0, 0, 0), (93, .ifCond .ge 7, 0, 0, 0), (96, .lconst 1, 0, 0, 0), (97, .goto 4, 0, 0, 0), (100, .lconst 0, 0, 0, 0), (101, .lreturn, 0, 0, 0), (102, .lload_n 1, 0, 0, 0), (103, .lload_n 3, 0, 0, 0), (104, .lcmp, 0, 0, 0), (105, .ifCond .gt 7, 0, 0, 0), (108, .lconst 1, 0, 0, 0), (109, .goto 4, 0, 0, 0), (112, .lconst 0, 0, 0, 0), (113, .lreturn, 0, 0, 0), (114, .lload_n 1, 0, 0, 0), (115, .lload_n 3, 0, 0, 0), (116, .lcmp, 0, 0, 0), (117, .ifCond .ne 7, 0, 0, 0), (120, .lconst 1, 0, 0, 0), (121, .goto 4, 0, 0, 0), (124, .lconst 0, 0, 0, 0), (125, .lreturn, 0, 0, 0), (126, .lload_n 1, 0, 0, 0), (127, .lload_n 3, 0, 0, 0), (128, .lcmp, 0, 0, 0), (129, .ifCond .lt 7, 0, 0, 0), (132, .lconst 1, 0, 0, 0), (133, .goto 4, 0, 0, 0), (136, .lconst 0, 0, 0, 0), (137, .lreturn, 0, 0, 0), (138, .lload_n 1, 0, 0, 0), (139, .lload_n 3, 0, 0, 0), (140, .lcmp, 0, 0, 0), (141, .ifCond .le 7, 0, 0, 0), (144, .lconst 1, 0, 0, 0), (145, .goto 4, 0, 0, 0), (148, .lconst 0, 0, 0, 0), (149, .lreturn, 0, 0, 0), (150, .lload_n 1, 0, 0, 0), (151, .lload_n 3, 0, 0, 0), (152, .land, 0, 0, 0), (153, .lreturn, 0, 0, 0), (154, .lload_n 1, 0, 0, 0), (155, .lload_n 3, 0, 0, 0), (156, .lor, 0, 0, 0), (157, .lreturn, 0, 0, 0), (158, .lconst 0, 0, 0, 0), (159, .lreturn, 0, 0, 0)]
def cd_65 : List am_E := [(0, .aload_n 0, 0, 0, 0), (1, .invokespecial 3, 1001, 0, 130), (4, .aload_n 0, 0, 0, 0), (5, .bipush 61, 0, 0, 0), (7, .newarray .int, 0, 0, 0), (9, .putfield 9, 10, 10, 320), (12, .aload_n 0, 0, 0, 0), (13, .new 15, 6, 131, 0), (16, .dup, 0, 0, 0), (17, .invokespecial 17, 28, 1, 10001), (20, .putfield 18, 10, 11, 323), (23, .aload_n 0, 0, 0, 0), (24, .new 22, 2, 208, 0), (27, .dup, 0, 0, 0), (28, .invokespecial 24, 14, 1, 10002), (31, .putfield 25, 10, 12, 328), (34, .aload_n 0, 0, 0, 0), (35, .new 29, 4, 242, 0), (38, .dup, 0, 0, 0), (39, .invokespecial 31, 21, 1, 10003), (42, .putfield 32, 10, 13, 332), (45, .aload_n 0, 0, 0, 0), (46, .new 29, 4, 242, 0), (49, .dup, 0, 0, 0), (50, .invokespecial 31, 21, 1, 10003), (53, .putfield 36, 10, 14, 335), (56, .aload_n 0, 0, 0, 0), (57, .new 39, 3, 272, 0), (60, .dup, 0, 0, 0), (61, .invokespecial 41, 18, 1, 10004), (64, .putfield 42, 10, 15, 338), (67, .return_, 0, 0, 0)]
def cd_66 : List am_E := [(0, .aload_n 0, 0, 0, 0), (1, .iconst 1, 0, 0, 0), (2, .putfield 46, 10, 0, 292), (5, .aload_n 0, 0, 0, 0), (6, .iload_n 1, 0, 0, 0), (7, .putfield 50, 10, 1, 294), (10, .aload_n 0, 0, 0, 0), (11, .iload_n 2, 0, 0, 0), (12, .putfield 54, 10, 2, 296), (15, .aload_n 0, 0, 0, 0), (16, .iload_n 3, 0, 0, 0), (17, .putfield 57, 10, 3, 298), (20, .aload_n 0, 0, 0, 0), (21, .iload 4, 0, 0, 0), (23, .putfield 60, 10, 4, 300), (26, .aload_n 0, 0, 0, 0), (27, .iconst 0, 0, 0, 0), (28, .putfield 63, 10, 5, 301), (31, .aload_n 0, 0, 0, 0), (32, .iconst 0, 0, 0, 0), (33, .putfield 66, 10, 6, 305), (36, .aload_n 0, 0, 0, 0), (37, .iconst 0, 0, 0, 0), (38, .putfield 69, 10, 7, 308), (41, .aload_n 0, 0, 0, 0), (42, .iconst 0, 0, 0, 0), (43, .putfield 72, 10, 8, 313), (46, .aload_n 0, 0, 0, 0), (47, .iload_n 2, 0, 0, 0), (48, .putfield 75, 10, 9, 317), (51, .aload_n 0, 0, 0, 0), (52, .getfield 9, 10, 10, 320), (55, .iconst 0, 0, 0, 0), (56, .invokestatic 78, 262, 2, 627), (59, .aload_n 0, 0, 0, 0), (60, .getfield 18, 10, 11, 323), (63, .iconst 0, 0, 0, 0), (64, .putfield 84, 6, 0, 138), (67, .aload_n 0, 0, 0, 0), (68, .getfield 18, 10, 11, 323), (71, .getfield 87, 6, 8, 165), (74, .iconst 0, 0, 0, 0), (75, .invokestatic 78, 262, 2, 627), (78, .aload_n 0, 0, 0, 0), (79, .getfield 25, 10, 12, 328), (82, .iconst 0, 0, 0, 0), (83, .putfield 90, 2, 0, 215), (86, .aload_n 0, 0, 0, 0), (87, .getfield 32, 10, 13, 332), (90, .iconst 0, 0, 0, 0), (91, .putfield 91, 4, 0, 250), (94, .aload_n 0, 0, 0, 0), (95, .getfield 36, 10, 14, 335), (98, .iconst 0, 0, 0, 0), (99, .putfield 91, 4, 0, 250), (102, .aload_n 0, 0, 0, 0), (103, .getfield 42, 10, 15, 338), (106, .iconst 0, 0, 0, 0), (107, .putfield 92, 3, 0, 279), (110, .return_, 0, 0, 0)]
def cd_67 : List am_E := [(0, .aload_n 0, 0, 0, 0), (1, .getfield 9, 10, 10, 320), (4, .iconst 5, 0, 0, 0), (5, .iload_n 1, 0, 0, 0), (6, .imul, 0, 0, 0), (7, .iload_n 2, 0, 0, 0), (8, .iastore, 0, 0, 0), (9, .aload_n 0, 0, 0, 0), (10, .iconst 5, 0, 0, 0), (11, .iload_n 1, 0, 0, 0), (12, .imul, 0, 0, 0), (13, .iconst 5, 0, 0, 0), (14, .isub, 0, 0, 0), (15, .invokevirtual 93, 68, 2, 638), (18, .iconst 5, 0, 0, 0), (19, .iload_n 1, 0, 0, 0), (20, .imul, 0, 0, 0), (21, .bipush 60, 0, 0, 0), (23, .if_icmp .ge 10, 0, 0, 0), (26, .aload_n 0, 0, 0, 0), (27, .iconst 5, 0, 0, 0), (28, .iload_n 1, 0, 0, 0), (29, .imul, 0, 0, 0), (30, .invokevirtual 93, 68, 2, 638), (33, .return_, 0, 0, 0)]
def cd_68 : List am_E := [(0, .iconst 1, 0, 0, 0), (1, .istore_n 2, 0, 0, 0), (2, .iload_n 2, 0, 0, 0), (3, .iconst 5, 0, 0, 0), (4, .if_icmp .ge 40, 0, 0, 0), (7, .aload_n 0, 0, 0, 0), (8, .getfield 9, 10, 10, 320), (11, .iload_n 1, 0, 0, 0), (12, .iload_n 2, 0, 0, 0), (13, .iadd, 0, 0, 0), (14, .aload_n 0, 0, 0, 0), (15, .getfield 9, 10, 10, 320), (18, .iload_n 1, 0, 0, 0), (19, .iaload, 0, 0, 0), (20, .iconst 5, 0, 0, 0), (21, .iload_n 2, 0, 0, 0), (22, .isub, 0, 0, 0), (23, .imul, 0, 0, 0), (24, .aload_n 0, 0, 0, 0), (25, .getfield 9, 10, 10, 320), (28, .iload_n 1, 0, 0, 0), (29, .iconst 5, 0, 0, 0), (30, .iadd, 0, 0, 0), (31, .iaload, 0, 0, 0), (32, .iload_n 2, 0, 0, 0), (33, .imul, 0, 0, 0), (34, .iadd, 0, 0, 0), (35, .iconst 5, 0, 0, 0), (36, .idiv, 0, 0, 0), (37, .iastore, 0, 0, 0), (38, .iinc 2 1, 0, 0, 0), (41, .goto (-39), 0, 0, 0), (44, .return_, 0, 0, 0)]
def cd_69 : List am_E := [(0, .aload_n 0, 0, 0, 0), (1, .getfield 69, 10, 7, 308), (4, .invokestatic 97, 1004, 0, 874), (7, .bipush 60, 0, 0, 0), (9, .if_icmp .lt 7, 0, 0, 0), (12, .iconst 1, 0, 0, 0), (13, .goto 4, 0, 0, 0), (16, .iconst 0, 0, 0, 0), (17, .ireturn, 0, 0, 0)]
def cd_70 : List am_E := [(0, .aload_n 0, 0, 0, 0), (1, .getfield 75, 10, 9, 317), (4, .i2l, 0, 0, 0), (5, .aload_n 0, 0, 0, 0), (6, .getfield 60, 10, 4, 300), (9, .i2l, 0, 0, 0), (10, .invokestatic 103, 137, 2, 10019), (13, .l2i, 0, 0, 0), (14, .ireturn, 0, 0, 0)]
def cd_71 : List am_E := [(0, .aload_n 0, 0, 0, 0), (1, .dup, 0, 0, 0), (2, .getfield 75, 10, 9, 317), (5, .iload_n 2, 0, 0, 0), (6, .aload_n 0, 0, 0, 0), (7, .getfield 18, 10, 11, 323), (10, .getfield 87, 6, 8, 165), (13, .iload_n 1, 0, 0, 0), (14, .iaload, 0, 0, 0), (15, .isub, 0, 0, 0), (16, .iadd, 0, 0, 0), (17, .putfield 75, 10, 9, 317), (20, .aload_n 0, 0, 0, 0), (21, .getfield 18, 10, 11, 323), (24, .iload_n 1, 0, 0, 0), (25, .iload_n 2, 0, 0, 0), (26, .invokevirtual 107, 31, 3, 682), (29, .return_, 0, 0, 0)]
def cd_72 : List am_E := [(0, .aload_n 0, 0, 0, 0), (1, .iload_n 1, 0, 0, 0), (2, .aload_n 0, 0, 0, 0), (3, .getfield 18, 10, 11, 323), (6, .getfield 87, 6, 8, 165), (9, .iload_n 1, 0, 0, 0), (10, .iaload, 0, 0, 0), (11, .iload_n 2, 0, 0, 0), (12, .iadd, 0, 0, 0), (13, .aload_n 0, 0, 0, 0), (14, .getfield 18, 10, 11, 323), (17, .getfield 111, 6, 7, 163), (20, .iload_n 1, 0, 0, 0), (21, .iaload, 0, 0, 0), (22, .invokestatic 114, 1003, 0, 938), (25, .invokevirtual 118, 71, 3, 933), (28, .return_, 0, 0, 0)]
def cd_73 : List am_E := [(0, .aload_n 0, 0, 0, 0), (1, .iload_n 1, 0, 0, 0), (2, .aload_n 0, 0, 0, 0), (3, .getfield 18, 10, 11, 323), (6, .getfield 87, 6, 8, 165), (9, .iload_n 1, 0, 0, 0), (10, .iaload, 0, 0, 0), (11, .iload_n 2, 0, 0, 0), (12, .isub, 0, 0, 0), (13, .iconst 0, 0, 0, 0), (14, .invokestatic 121, 1002, 0, 930), (17, .invokevirtual 118, 71, 3, 933), (20, .return_, 0, 0, 0)]
def cd_74 : List am_E := [(0, .aload_n 0, 0, 0, 0), (1, .getfield 18, 10, 11, 323), (4, .getfield 111, 6, 7, 163), (7, .iload_n 2, 0, 0, 0), (8, .iaload, 0, 0, 0), (9, .aload_n 0, 0, 0, 0), (10, .getfield 18, 10, 11, 323), (13, .getfield 87, 6, 8, 165), (16, .iload_n 2, 0, 0, 0), (17, .iaload, 0, 0, 0), (18, .isub, 0, 0, 0), (19, .istore 4, 0, 0, 0), (21, .iload_n 3, 0, 0, 0), (22, .aload_n 0, 0, 0, 0), (23, .getfield 18, 10, 11, 323), (26, .getfield 87, 6, 8, 165), (29, .iload_n 1, 0, 0, 0), (30, .iaload, 0, 0, 0), (31, .iload 4, 0, 0, 0), (33, .invokestatic 114, 1003, 0, 938), (36, .invokestatic 114, 1003, 0, 938), (39, .istore 5, 0, 0, 0), (41, .aload_n 0, 0, 0, 0), (42, .iload_n 1, 0, 0, 0), (43, .aload_n 0, 0, 0, 0), (44, .getfield 18, 10, 11, 323), (47, .getfield 87, 6, 8, 165), (50, .iload_n 1, 0, 0, 0), (51, .iaload, 0, 0, 0), (52, .iload 5, 0, 0, 0), (54, .isub, 0, 0, 0), (55, .invokevirtual 118, 71, 3, 933), (58, .aload_n 0, 0, 0, 0), (59, .iload_n 2, 0, 0, 0), (60, .aload_n 0, 0, 0, 0), (61, .getfield 18, 10, 11, 323), (64, .getfield 87, 6, 8, 165), (67, .iload_n 2, 0, 0, 0), (68, .iaload, 0, 0, 0), (69, .iload 5, 0, 0, 0), (71, .iadd, 0, 0, 0), (72, .invokevirtual 118, 71, 3, 933), (75, .return_, 0, 0, 0)]
def cd_75 : List am_E := [(0, .iload_n 1, 0, 0, 0), (1, .ifCond .ne 21, 0, 0, 0), (4, .aload_n 0, 0, 0, 0), (5, .invokevirtual 124, 70, 1, 957), (8, .aload_n 0, 0, 0, 0), (9, .getfield 66, 10, 6, 305), (12, .aload_n 0, 0, 0, 0), (13, .getfield 66, 10, 6, 305), (16, .imul, 0, 0, 0), (17, .bipush 10, 0, 0, 0), (19, .idiv, 0, 0, 0), (20, .iadd, 0, 0, 0), (21, .ireturn, 0, 0, 0), (22, .aload_n 0, 0, 0, 0), (23, .getfield 50, 10, 1, 294), (26, .iconst 5, 0, 0, 0), (27, .imul, 0, 0, 0), (28, .getstatic 128, 0, 0, 10020), (31, .iload_n 2, 0, 0, 0), (32, .invokestatic 97, 1004, 0, 874), (35, .iaload, 0, 0, 0), (36, .imul, 0, 0, 0), (37, .sipush 1000, 0, 0, 0), (40, .idiv, 0, 0, 0), (41, .istore_n 3, 0, 0, 0), (42, .aload_n 0, 0, 0, 0), (43, .invokevirtual 124, 70, 1, 957), (46, .iload_n 2, 0, 0, 0), (47, .ifCond .le 7, 0, 0, 0), (50, .iconst 1, 0, 0, 0), (51, .goto 4, 0, 0, 0), (54, .iconst 0, 0, 0, 0), (55, .iload_n 1, 0, 0, 0), (56, .ifCond .le 7, 0, 0, 0), (59, .iconst 1, 0, 0, 0), (60, .goto 4, 0, 0, 0), (63, .iconst 0, 0, 0, 0), (64, .if_icmp .ne 7, 0, 0, 0), (67, .iload_n 3, 0, 0, 0), (68, .goto 5, 0, 0, 0), (71, .iload_n 3, 0, 0, 0), (72, .ineg, 0, 0, 0), (73, .iadd, 0, 0, 0), (74, .ireturn, 0, 0, 0)]
def cd_76 : List am_E := [(0, .aload_n 0, 0, 0, 0), (1, .getfield 18, 10, 11, 323), (4, .getfield 87, 6, 8, 165), (7, .iload_n 1, 0, 0, 0), (8, .iaload, 0, 0, 0), (9, .ifCond .ne 5, 0, 0, 0), (12, .iconst 0, 0, 0, 0), (13, .ireturn, 0, 0, 0), (14, .aload_n 0, 0, 0, 0), (15, .getfield 18, 10, 11, 323), (18, .getfield 131, 6, 9, 172), (21, .iload_n 1, 0, 0, 0), (22, .iaload, 0, 0, 0), (23, .istore_n 3, 0, 0, 0), (24, .iload_n 2, 0, 0, 0), (25, .ifCond .eq 87, 0, 0, 0), (28, .aload_n 0, 0, 0, 0), (29, .getfield 18, 10, 11, 323), (32, .getfield 134, 6, 3, 150), (35, .iload_n 1, 0, 0, 0), (36, .iaload, 0, 0, 0), (37, .iconst 5, 0, 0, 0), (38, .imul, 0, 0, 0), (39, .i2l, 0, 0, 0), (40, .aload_n 0, 0, 0, 0), (41, .getfield 18, 10, 11, 323), (44, .getfield 136, 6, 5, 156), (47, .iload_n 1, 0, 0, 0), (48, .iaload, 0, 0, 0), (49, .i2l, 0, 0, 0), (50, .invokestatic 103, 137, 2, 10019), (53, .lstore 4, 0, 0, 0), (55, .lload 4, 0, 0, 0), (57, .getstatic 128, 0, 0, 10020), (60, .aload_n 0, 0, 0, 0), (61, .getfield 69, 10, 7, 308), (64, .invokestatic 97, 1004, 0, 874), (67, .iaload, 0, 0, 0), (68, .i2l, 0, 0, 0), (69, .lmul, 0, 0, 0), (70, .ldc2_w 139, 0, 1000, 952), (73, .ldiv, 0, 0, 0), (74, .l2i, 0, 0, 0), (75, .istore 6, 0, 0, 0), (77, .iload_n 3, 0, 0, 0), (78, .aload_n 0, 0, 0, 0), (79, .getfield 69, 10, 7, 308), (82, .ifCond .le 7, 0, 0, 0), (85, .iconst 1, 0, 0, 0), (86, .goto 4, 0, 0, 0), (89, .iconst 0, 0, 0, 0), (90, .iload_n 2, 0, 0, 0), (91, .ifCond .le 7, 0, 0, 0), (94, .iconst 1, 0, 0, 0), (95, .goto 4, 0, 0, 0), (98, .iconst 0, 0, 0, 0), (99, .if_icmp .ne 8, 0, 0, 0), (102, .iload 6, 0, 0, 0), (104, .goto 6, 0, 0, 0), (107, .iload 6, 0, 0, 0), (109, .ineg, 0, 0, 0), (110, .iadd, 0, 0, 0), (111, .istore_n 3, 0, 0, 0), (112, .aload_n 0, 0, 0, 0), (113, .getfield 18, 10, 11, 323), (116, .getfield 141, 6, 1, 144), (119, .iload_n 1, 0, 0, 0), (120, .iaload, 0, 0, 0), (121, .iconst 0, 0, 0, 0), (122, .iload_n 3, 0, 0, 0), (123, .aload_n 0, 0, 0, 0), (124, .getfield 18, 10, 11, 323), (127, .getfield 144, 6, 2, 147), (130, .iload_n 1, 0, 0, 0), (131, .iaload, 0, 0, 0), (132, .invokestatic 114, 1003, 0, 938), (135, .invokestatic 121, 1002, 0, 930), (138, .iadd, 0, 0, 0), (139, .ireturn, 0, 0, 0)]
def cd_77 : List am_E := [(0, .aload_n 0, 0, 0, 0), (1, .getfield 32, 10, 13, 332), (4, .getfield 147, 4, 1, 253), (7, .iload_n 1, 0, 0, 0), (8, .iaload, 0, 0, 0), (9, .istore_n 2, 0, 0, 0), (10, .aload_n 0, 0, 0, 0), (11, .getfield 32, 10, 13, 332), (14, .getfield 150, 4, 2, 256), (17, .iload_n 1, 0, 0, 0), (18, .iaload, 0, 0, 0), (19, .istore_n 3, 0, 0, 0), (20, .aload_n 0, 0, 0, 0), (21, .getfield 32, 10, 13, 332), (24, .getfield 153, 4, 3, 258), (27, .iload_n 1, 0, 0, 0), (28, .iaload, 0, 0, 0), (29, .aload_n 0, 0, 0, 0), (30, .iload_n 2, 0, 0, 0), (31, .iload_n 3, 0, 0, 0), (32, .invokevirtual 156, 76, 3, 947), (35, .invokestatic 121, 1002, 0, 930), (38, .istore 4, 0, 0, 0), (40, .aload_n 0, 0, 0, 0), (41, .iload_n 3, 0, 0, 0), (42, .aload_n 0, 0, 0, 0), (43, .getfield 69, 10, 7, 308), (46, .invokevirtual 159, 75, 3, 953), (49, .iload 4, 0, 0, 0), (51, .isub, 0, 0, 0), (52, .istore 5, 0, 0, 0), (54, .iload 5, 0, 0, 0), (56, .ifCond .le 23, 0, 0, 0), (59, .aload_n 0, 0, 0, 0), (60, .iload_n 2, 0, 0, 0), (61, .aload_n 0, 0, 0, 0), (62, .getfield 32, 10, 13, 332), (65, .getfield 162, 4, 4, 260), (68, .iload_n 1, 0, 0, 0), (69, .iaload, 0, 0, 0), (70, .iload 5, 0, 0, 0), (72, .imul, 0, 0, 0), (73, .bipush 100, 0, 0, 0), (75, .idiv, 0, 0, 0), (76, .invokevirtual 165, 72, 3, 958), (79, .return_, 0, 0, 0)]
def cd_78 : List am_E := [(0, .aload_n 0, 0, 0, 0), (1, .getfield 36, 10, 14, 335), (4, .getfield 147, 4, 1, 253), (7, .iload_n 1, 0, 0, 0), (8, .iaload, 0, 0, 0), (9, .istore_n 2, 0, 0, 0), (10, .aload_n 0, 0, 0, 0), (11, .getfield 36, 10, 14, 335), (14, .getfield 150, 4, 2, 256), (17, .iload_n 1, 0, 0, 0), (18, .iaload, 0, 0, 0), (19, .istore_n 3, 0, 0, 0), (20, .aload_n 0, 0, 0, 0), (21, .getfield 36, 10, 14, 335), (24, .getfield 153, 4, 3, 258), (27, .iload_n 1, 0, 0, 0), (28, .iaload, 0, 0, 0), (29, .aload_n 0, 0, 0, 0), (30, .iload_n 3, 0, 0, 0), (31, .aload_n 0, 0, 0, 0), (32, .getfield 69, 10, 7, 308), (35, .invokevirtual 159, 75, 3, 953), (38, .invokestatic 121, 1002, 0, 930), (41, .istore 4, 0, 0, 0), (43, .aload_n 0, 0, 0, 0), (44, .iload_n 2, 0, 0, 0), (45, .iload_n 3, 0, 0, 0), (46, .invokevirtual 156, 76, 3, 947), (49, .iload 4, 0, 0, 0), (51, .isub, 0, 0, 0), (52, .istore 5, 0, 0, 0), (54, .iload 5, 0, 0, 0), (56, .ifCond .le 23, 0, 0, 0), (59, .aload_n 0, 0, 0, 0), (60, .iload_n 2, 0, 0, 0), (61, .aload_n 0, 0, 0, 0), (62, .getfield 36, 10, 14, 335), (65, .getfield 162, 4, 4, 260), (68, .iload_n 1, 0, 0, 0), (69, .iaload, 0, 0, 0), (70, .iload 5, 0, 0, 0), (72, .imul, 0, 0, 0), (73, .bipush 100, 0, 0, 0), (75, .idiv, 0, 0, 0), (76, .invokevirtual 168, 73, 3, 963), (79, .return_, 0, 0, 0)]
def cd_79 : List am_E := [(0, .aload_n 0, 0, 0, 0), (1, .getfield 18, 10, 11, 323), (4, .getfield 87, 6, 8, 165), (7, .iconst 0, 0, 0, 0), (8, .aload_n 1, 0, 0, 0), (9, .iload_n 2, 0, 0, 0), (10, .bipush 12, 0, 0, 0), (12, .invokestatic 171, 1000, 0, 1110), (15, .aload_n 0, 0, 0, 0), (16, .getfield 18, 10, 11, 323), (19, .getfield 131, 6, 9, 172), (22, .iconst 0, 0, 0, 0), (23, .aload_n 1, 0, 0, 0), (24, .iload_n 2, 0, 0, 0), (25, .bipush 12, 0, 0, 0), (27, .iadd, 0, 0, 0), (28, .bipush 12, 0, 0, 0), (30, .invokestatic 171, 1000, 0, 1110), (33, .aload_n 0, 0, 0, 0), (34, .getfield 18, 10, 11, 323), (37, .getfield 177, 6, 11, 179), (40, .iconst 0, 0, 0, 0), (41, .aload_n 1, 0, 0, 0), (42, .iload_n 2, 0, 0, 0), (43, .bipush 24, 0, 0, 0), (45, .iadd, 0, 0, 0), (46, .bipush 12, 0, 0, 0), (48, .invokestatic 171, 1000, 0, 1110), (51, .aload_n 0, 0, 0, 0), (52, .getfield 25, 10, 12, 328), (55, .getfield 180, 2, 5, 227), (58, .iconst 0, 0, 0, 0), (59, .aload_n 1, 0, 0, 0), (60, .iload_n 2, 0, 0, 0), (61, .bipush 36, 0, 0, 0), (63, .iadd, 0, 0, 0), (64, .bipush 6, 0, 0, 0), (66, .invokestatic 171, 1000, 0, 1110), (69, .iload_n 2, 0, 0, 0), (70, .bipush 36, 0, 0, 0), (72, .iadd, 0, 0, 0), (73, .bipush 6, 0, 0, 0), (75, .iadd, 0, 0, 0), (76, .istore_n 3, 0, 0, 0), (77, .aload_n 1, 0, 0, 0), (78, .iload_n 3, 0, 0, 0), (79, .aload_n 0, 0, 0, 0), (80, .getfield 63, 10, 5, 301), (83, .iastore, 0, 0, 0), (84, .aload_n 1, 0, 0, 0), (85, .iload_n 3, 0, 0, 0), (86, .iconst 1, 0, 0, 0), (87, .iadd, 0, 0, 0), (88, .aload_n 0, 0, 0, 0), (89, .getfield 66, 10, 6, 305), (92, .iastore, 0, 0, 0), (93, .aload_n 1, 0, 0, 0), (94, .iload_n 3, 0, 0, 0), (95, .iconst 2, 0, 0, 0), (96, .iadd, 0, 0, 0), (97, .aload_n 0, 0, 0, 0), (98, .getfield 69, 10, 7, 308), (101, .iastore, 0, 0, 0), (102, .aload_n 1, 0, 0, 0), (103, .iload_n 3, 0, 0, 0), (104, .iconst 3, 0, 0, 0), (105, .iadd, 0, 0, 0), (106, .aload_n 0, 0, 0, 0), (107, .getfield 72, 10, 8, 313), (110, .iastore, 0, 0, 0), (111, .aload_n 1, 0, 0, 0), (112, .iload_n 3, 0, 0, 0), (113, .iconst 4, 0, 0, 0), (114, .iadd, 0, 0, 0), (115, .aload_n 0, 0, 0, 0), (116, .getfield 75, 10, 9, 317), (119, .iastore, 0, 0, 0), (120, .return_, 0, 0, 0)]
def cd_80 : List am_E := [(0, .aload_n 1, 0, 0, 0), (1, .iload_n 2, 0, 0, 0), (2, .aload_n 0, 0, 0, 0), (3, .getfield 18, 10, 11, 323), (6, .getfield 87, 6, 8, 165), (9, .iconst 0, 0, 0, 0), (10, .bipush 12, 0, 0, 0), (12, .invokestatic 171, 1000, 0, 1110), (15, .aload_n 1, 0, 0, 0), (16, .iload_n 2, 0, 0, 0), (17, .bipush 12, 0, 0, 0), (19, .iadd, 0, 0, 0), (20, .aload_n 0, 0, 0, 0), (21, .getfield 18, 10, 11, 323), (24, .getfield 131, 6, 9, 172), (27, .iconst 0, 0, 0, 0), (28, .bipush 12, 0, 0, 0), (30, .invokestatic 171, 1000, 0, 1110), (33, .aload_n 1, 0, 0, 0), (34, .iload_n 2, 0, 0, 0), (35, .bipush 24, 0, 0, 0), (37, .iadd, 0, 0, 0), (38, .aload_n 0, 0, 0, 0), (39, .getfield 18, 10, 11, 323), (42, .getfield 177, 6, 11, 179), (45, .iconst 0, 0, 0, 0), (46, .bipush 12, 0, 0, 0), (48, .invokestatic 171, 1000, 0, 1110), (51, .aload_n 1, 0, 0, 0), (52, .iload_n 2, 0, 0, 0), (53, .bipush 36, 0, 0, 0), (55, .iadd, 0, 0, 0), (56, .aload_n 0, 0, 0, 0), (57, .getfield 25, 10, 12, 328), (60, .getfield 180, 2, 5, 227), (63, .iconst 0, 0, 0, 0), (64, .bipush 6, 0, 0, 0), (66, .invokestatic 171, 1000, 0, 1110), (69, .iload_n 2, 0, 0, 0), (70, .bipush 36, 0, 0, 0), (72, .iadd, 0, 0, 0), (73, .bipush 6, 0, 0, 0), (75, .iadd, 0, 0, 0), (76, .istore_n 3, 0, 0, 0), (77, .aload_n 0, 0, 0, 0), (78, .aload_n 1, 0, 0, 0), (79, .iload_n 3, 0, 0, 0), (80, .iaload, 0, 0, 0), (81, .putfield 63, 10, 5, 301), (84, .aload_n 0, 0, 0, 0), (85, .aload_n 1, 0, 0, 0), (86, .iload_n 3, 0, 0, 0), (87, .iconst 1, 0, 0, 0), (88, .iadd, 0, 0, 0), (89, .iaload, 0, 0, 0), (90, .putfield 66, 10, 6, 305), (93, .aload_n 0, 0, 0, 0), (94, .aload_n 1, 0, 0, 0), (95, .iload_n 3, 0, 0, 0), (96, .iconst 2, 0, 0, 0), (97, .iadd, 0, 0, 0), (98, .iaload, 0, 0, 0), (99, .putfield 69, 10, 7, 308), (102, .aload_n 0, 0, 0, 0), (103, .aload_n 1, 0, 0, 0), (104, .iload_n 3, 0, 0, 0), (105, .iconst 3, 0, 0, 0), (106, .iadd, 0, 0, 0), (107, .iaload, 0, 0, 0), (108, .putfield 72, 10, 8, 313), (111, .aload_n 0, 0, 0, 0), (112, .aload_n 1, 0, 0, 0), (113, .iload_n 3, 0, 0, 0), (114, .iconst 4, 0, 0, 0), (115, .iadd, 0, 0, 0), (116, .iaload, 0, 0, 0), (117, .putfield 75, 10, 9, 317), (120, .return_, 0, 0, 0)]
def cd_81 : List am_E := [(0, .aload_n 0, 0, 0, 0), (1, .aload_n 1, 0, 0, 0), (2, .getfield 46, 10, 0, 292), (5, .putfield 46, 10, 0, 292), (8, .aload_n 0, 0, 0, 0), (9, .aload_n 1, 0, 0, 0), (10, .getfield 50, 10, 1, 294), (13, .putfield 50, 10, 1, 294), (16, .aload_n 0, 0, 0, 0), (17, .aload_n 1, 0, 0, 0), (18, .getfield 54, 10, 2, 296), (21, .putfield 54, 10, 2, 296), (24, .aload_n 0, 0, 0, 0), (25, .aload_n 1, 0, 0, 0), (26, .getfield 57, 10, 3, 298), (29, .putfield 57, 10, 3, 298), (32, .aload_n 0, 0, 0, 0), (33, .aload_n 1, 0, 0, 0), (34, .getfield 60, 10, 4, 300), (37, .putfield 60, 10, 4, 300), (40, .aload_n 0, 0, 0, 0), (41, .aload_n 1, 0, 0, 0), (42, .getfield 63, 10, 5, 301), (45, .putfield 63, 10, 5, 301), (48, .aload_n 0, 0, 0, 0), (49, .aload_n 1, 0, 0, 0), (50, .getfield 66, 10, 6, 305), (53, .putfield 66, 10, 6, 305), (56, .aload_n 0, 0, 0, 0), (57, .aload_n 1, 0, 0, 0), (58, .getfield 69, 10, 7, 308), (61, .putfield 69, 10, 7, 308), (64, .aload_n 0, 0, 0, 0), (65, .aload_n 1, 0, 0, 0), (66, .getfield 72, 10, 8, 313), (69, .putfield 72, 10, 8, 313), (72, .aload_n 0, 0, 0, 0), (73, .aload_n 1, 0, 0, 0), (74, .getfield 75, 10, 9, 317), (77, .putfield 75, 10, 9, 317), (80, .aload_n 1, 0, 0, 0), (81, .getfield 9, 10, 10, 320), (84, .iconst 0, 0, 0, 0), (85, .aload_n 0, 0, 0, 0), (86, .getfield 9, 10, 10, 320), (89, .iconst 0, 0, 0, 0), (90, .bipush 61, 0, 0, 0), (92, .invokestatic 171, 1000, 0, 1110), (95, .aload_n 0, 0, 0, 0), (96, .getfield 18, 10, 11, 323), (99, .aload_n 1, 0, 0, 0), (100, .getfield 18, 10, 11, 323), (103, .invokevirtual 183, 35, 2, 1228), (106, .aload_n 0, 0, 0, 0), (107, .getfield 25, 10, 12, 328), (110, .aload_n 1, 0, 0, 0), (111, .getfield 25, 10, 12, 328), (114, .invokevirtual 187, 17, 2, 1233), (117, .aload_n 0, 0, 0, 0), (118, .getfield 32, 10, 13, 332), (121, .aload_n 1, 0, 0, 0), (122, .getfield 32, 10, 13, 332), (125, .invokevirtual 190, 23, 2, 1238), (128, .aload_n 0, 0, 0, 0), (129, .getfield 36, 10, 14, 335), (132, .aload_n 1, 0, 0, 0), (133, .getfield 36, 10, 14, 335), (136, .invokevirtual 190, 23, 2, 1238), (139, .aload_n 0, 0, 0, 0), (140, .getfield 42, 10, 15, 338), (143, .aload_n 1, 0, 0, 0), (144, .getfield 42, 10, 15, 338), (147, .invokevirtual 193, 20, 2, 1243), (150, .return_, 0, 0, 0)]
def cd_82 : List am_E := [(0, .aload_n 0, 0, 0, 0), (1, .invokespecial 3, 1001, 0, 122), (4, .aload_n 0, 0, 0, 0), (5, .new 9, 10, 125, 0), (8, .dup, 0, 0, 0), (9, .invokespecial 11, 65, 1, 10000), (12, .putfield 12, 11, 0, 578), (15, .aload_n 0, 0, 0, 0), (16, .iconst 4, 0, 0, 0), (17, .anewarray 9, 4, 125, 0), (20, .putfield 16, 11, 1, 579), (23, .iconst 0, 0, 0, 0), (24, .istore_n 1, 0, 0, 0), (25, .iload_n 1, 0, 0, 0), (26, .iconst 4, 0, 0, 0), (27, .if_icmp .ge 22, 0, 0, 0), (30, .aload_n 0, 0, 0, 0), (31, .getfield 16, 11, 1, 579), (34, .iload_n 1, 0, 0, 0), (35, .new 9, 10, 125, 0), (38, .dup, 0, 0, 0), (39, .invokespecial 11, 65, 1, 10000), (42, .aastore, 0, 0, 0), (43, .iinc 1 1, 0, 0, 0), (46, .goto (-21), 0, 0, 0), (49, .aload_n 0, 0, 0, 0), (50, .bipush 6, 0, 0, 0), (52, .anewarray 20, 5, 374, 0), (55, .putfield 22, 11, 2, 580), (58, .iconst 0, 0, 0, 0), (59, .istore_n 1, 0, 0, 0), (60, .iload_n 1, 0, 0, 0), (61, .bipush 6, 0, 0, 0), (63, .if_icmp .ge 22, 0, 0, 0), (66, .aload_n 0, 0, 0, 0), (67, .getfield 22, 11, 2, 580), (70, .iload_n 1, 0, 0, 0), (71, .new 20, 7, 374, 0), (74, .dup, 0, 0, 0), (75, .invokespecial 26, 36, 1, 10005), (78, .aastore, 0, 0, 0), (79, .iinc 1 1, 0, 0, 0), (82, .goto (-22), 0, 0, 0), (85, .aload_n 0, 0, 0, 0), (86, .sipush 400, 0, 0, 0), (89, .newarray .int, 0, 0, 0), (91, .putfield 27, 11, 4, 582), (94, .aload_n 0, 0, 0, 0), (95, .new 31, 8, 431, 0), (98, .dup, 0, 0, 0), (99, .invokespecial 33, 38, 1, 10006), (102, .putfield 34, 11, 6, 584), (105, .aload_n 0, 0, 0, 0), (106, .new 38, 0, 465, 0), (109, .dup, 0, 0, 0), (110, .invokespecial 40, 0, 1, 10008), (113, .putfield 41, 11, 7, 585), (116, .aload_n 0, 0, 0, 0), (117, .new 45, 9, 499, 0), (120, .dup, 0, 0, 0), (121, .invokespecial 47, 58, 1, 10009), (124, .putfield 48, 11, 8, 586), (127, .aload_n 0, 0, 0, 0), (128, .new 52, 5, 514, 0), (131, .dup, 0, 0, 0), (132, .invokespecial 54, 24, 1, 10011), (135, .putfield 55, 11, 9, 587), (138, .aload_n 0, 0, 0, 0), (139, .new 59, 1, 542, 0), (142, .dup, 0, 0, 0), (143, .invokespecial 61, 11, 1, 10013), (146, .putfield 62, 11, 10, 588), (149, .aload_n 0, 0, 0, 0), (150, .bipush 47, 0, 0, 0), (152, .newarray .int, 0, 0, 0), (154, .putfield 66, 11, 11, 589), (157, .return_, 0, 0, 0)]
def cd_83 : List am_E := [(0, .iload_n 1, 0, 0, 0), (1, .bipush 10, 0, 0, 0), (3, .sipush 400, 0, 0, 0), (6, .invokestatic 69, 135, 3, 619), (9, .ifCond .eq 36, 0, 0, 0), (12, .iload_n 2, 0, 0, 0), (13, .iconst 1, 0, 0, 0), (14, .ldc 73, 0, 99999, 622), (16, .invokestatic 69, 135, 3, 619), (19, .ifCond .eq 26, 0, 0, 0), (22, .iload_n 3, 0, 0, 0), (23, .iconst 1, 0, 0, 0), (24, .sipush 3000, 0, 0, 0), (27, .invokestatic 69, 135, 3, 619), (30, .ifCond .eq 15, 0, 0, 0), (33, .iload 4, 0, 0, 0), (35, .iconst 1, 0, 0, 0), (36, .sipush 999, 0, 0, 0), (39, .invokestatic 69, 135, 3, 619), (42, .ifCond .ne 5, 0, 0, 0), (45, .iconst 0, 0, 0, 0), (46, .ireturn, 0, 0, 0), (47, .aload_n 0, 0, 0, 0), (48, .getfield 12, 11, 0, 578), (51, .iload_n 1, 0, 0, 0), (52, .iload_n 2, 0, 0, 0), (53, .iload_n 3, 0, 0, 0), (54, .iload 4, 0, 0, 0), (56, .invokevirtual 74, 66, 5, 623), (59, .iconst 1, 0, 0, 0), (60, .ireturn, 0, 0, 0)]
def cd_84 : List am_E := [(0, .aload_n 0, 0, 0, 0), (1, .getfield 12, 11, 0, 578), (4, .getfield 78, 10, 0, 293), (7, .ifCond .eq 24, 0, 0, 0), (10, .iload_n 1, 0, 0, 0), (11, .iconst 1, 0, 0, 0), (12, .bipush 12, 0, 0, 0), (14, .invokestatic 69, 135, 3, 619), (17, .ifCond .eq 14, 0, 0, 0), (20, .iload_n 2, 0, 0, 0), (21, .iconst 0, 0, 0, 0), (22, .sipush 3000, 0, 0, 0), (25, .invokestatic 69, 135, 3, 619), (28, .ifCond .ne 5, 0, 0, 0), (31, .iconst (-1), 0, 0, 0), (32, .ireturn, 0, 0, 0), (33, .aload_n 0, 0, 0, 0), (34, .getfield 12, 11, 0, 578), (37, .getfield 82, 10, 10, 322), (40, .iconst 5, 0, 0, 0), (41, .iload_n 1, 0, 0, 0), (42, .imul, 0, 0, 0), (43, .iaload, 0, 0, 0), (44, .istore_n 3, 0, 0, 0), (45, .aload_n 0, 0, 0, 0), (46, .getfield 12, 11, 0, 578), (49, .iload_n 1, 0, 0, 0), (50, .iload_n 2, 0, 0, 0), (51, .invokevirtual 85, 67, 3, 634), (54, .iload_n 3, 0, 0, 0), (55, .ireturn, 0, 0, 0)]
def cd_85 : List am_E := [(0, .aload_n 0, 0, 0, 0), (1, .getfield 12, 11, 0, 578), (4, .getfield 78, 10, 0, 293), (7, .ifCond .eq 18, 0, 0, 0), (10, .aload_n 0, 0, 0, 0), (11, .getfield 12, 11, 0, 578), (14, .getfield 89, 10, 11, 326), (17, .getfield 93, 6, 0, 140), (20, .bipush 12, 0, 0, 0), (22, .if_icmp .lt 5, 0, 0, 0), (25, .iconst (-1), 0, 0, 0), (26, .ireturn, 0, 0, 0), (27, .iload_n 1, 0, 0, 0), (28, .iconst 0, 0, 0, 0), (29, .sipush 2000, 0, 0, 0), (32, .invokestatic 69, 135, 3, 619), (35, .ifCond .eq 62, 0, 0, 0), (38, .iload_n 2, 0, 0, 0), (39, .iconst 1, 0, 0, 0), (40, .sipush 999, 0, 0, 0), (43, .invokestatic 69, 135, 3, 619), (46, .ifCond .eq 51, 0, 0, 0), (49, .iload_n 3, 0, 0, 0), (50, .iconst 1, 0, 0, 0), (51, .sipush 400, 0, 0, 0), (54, .invokestatic 69, 135, 3, 619), (57, .ifCond .eq 40, 0, 0, 0), (60, .iload 4, 0, 0, 0), (62, .iconst 1, 0, 0, 0), (63, .sipush 2000, 0, 0, 0), (66, .invokestatic 69, 135, 3, 619), (69, .ifCond .eq 28, 0, 0, 0), (72, .iload 5, 0, 0, 0), (74, .iconst 1, 0, 0, 0), (75, .bipush 9, 0, 0, 0), (77, .invokestatic 69, 135, 3, 619), (80, .ifCond .eq 17, 0, 0, 0), (83, .iload 6, 0, 0, 0), (85, .sipush (-200), 0, 0, 0), (88, .sipush 200, 0, 0, 0), (91, .invokestatic 69, 135, 3, 619), (94, .ifCond .ne 5, 0, 0, 0), (97, .iconst (-1), 0, 0, 0), (98, .ireturn, 0, 0, 0), (99, .aload_n 0, 0, 0, 0), (100, .getfield 12, 11, 0, 578), (103, .getfield 89, 10, 11, 326), (106, .iload_n 1, 0, 0, 0), (107, .iload_n 2, 0, 0, 0), (108, .iload_n 3, 0, 0, 0), (109, .iload 4, 0, 0, 0), (111, .invokevirtual 99, 29, 5, 646), (114, .istore 7, 0, 0, 0), (116, .aload_n 0, 0, 0, 0), (117, .getfield 12, 11, 0, 578), (120, .getfield 89, 10, 11, 326), (123, .getfield 103, 6, 6, 159), (126, .iload 7, 0, 0, 0), (128, .iload 6, 0, 0, 0), (130, .iastore, 0, 0, 0), (131, .aload_n 0, 0, 0, 0), (132, .getfield 12, 11, 0, 578), (135, .getfield 89, 10, 11, 326), (138, .iload 7, 0, 0, 0), (140, .iload 5, 0, 0, 0), (142, .invokevirtual 106, 30, 3, 650), (145, .iload 7, 0, 0, 0), (147, .ireturn, 0, 0, 0)]
def cd_86 : List am_E := [(0, .aload_n 0, 0, 0, 0), (1, .iload_n 1, 0, 0, 0), (2, .invokevirtual 109, 132, 2, 674), (5, .ifCond .eq 23, 0, 0, 0), (8, .iload_n 2, 0, 0, 0), (9, .iconst 0, 0, 0, 0), (10, .aload_n 0, 0, 0, 0), (11, .getfield 12, 11, 0, 578), (14, .getfield 89, 10, 11, 326), (17, .getfield 113, 6, 7, 162), (20, .iload_n 1, 0, 0, 0), (21, .iaload, 0, 0, 0), (22, .invokestatic 69, 135, 3, 619), (25, .ifCond .ne 5, 0, 0, 0), (28, .iconst (-1), 0, 0, 0), (29, .ireturn, 0, 0, 0), (30, .aload_n 0, 0, 0, 0), (31, .getfield 12, 11, 0, 578), (34, .getfield 89, 10, 11, 326), (37, .getfield 116, 6, 8, 168), (40, .iload_n 1, 0, 0, 0), (41, .iaload, 0, 0, 0), (42, .istore_n 3, 0, 0, 0), (43, .aload_n 0, 0, 0, 0), (44, .getfield 12, 11, 0, 578), (47, .iload_n 1, 0, 0, 0), (48, .iload_n 2, 0, 0, 0), (49, .invokevirtual 119, 71, 3, 678), (52, .iload_n 3, 0, 0, 0), (53, .ireturn, 0, 0, 0)]
def cd_87 : List am_E := [(0, .aload_n 0, 0, 0, 0), (1, .iload_n 1, 0, 0, 0), (2, .invokevirtual 109, 132, 2, 674), (5, .ifCond .eq 13, 0, 0, 0), (8, .iload_n 2, 0, 0, 0), (9, .iconst 1, 0, 0, 0), (10, .bipush 9, 0, 0, 0), (12, .invokestatic 69, 135, 3, 619), (15, .ifCond .ne 5, 0, 0, 0), (18, .iconst (-1), 0, 0, 0), (19, .ireturn, 0, 0, 0), (20, .aload_n 0, 0, 0, 0), (21, .getfield 12, 11, 0, 578), (24, .getfield 89, 10, 11, 326), (27, .getfield 122, 6, 5, 155), (30, .iload_n 1, 0, 0, 0), (31, .iaload, 0, 0, 0), (32, .istore_n 3, 0, 0, 0), (33, .aload_n 0, 0, 0, 0), (34, .getfield 12, 11, 0, 578), (37, .getfield 89, 10, 11, 326), (40, .iload_n 1, 0, 0, 0), (41, .iload_n 2, 0, 0, 0), (42, .invokevirtual 106, 30, 3, 650), (45, .iload_n 3, 0, 0, 0), (46, .ireturn, 0, 0, 0)]
def cd_88 : List am_E := [(0, .aload_n 0, 0, 0, 0), (1, .getfield 12, 11, 0, 578), (4, .getfield 78, 10, 0, 293), (7, .ifCond .eq 18, 0, 0, 0), (10, .aload_n 0, 0, 0, 0), (11, .getfield 12, 11, 0, 578), (14, .getfield 125, 10, 12, 331), (17, .getfield 129, 2, 0, 217), (20, .bipush 6, 0, 0, 0), (22, .if_icmp .lt 5, 0, 0, 0), (25, .iconst (-1), 0, 0, 0), (26, .ireturn, 0, 0, 0), (27, .iload_n 1, 0, 0, 0), (28, .iconst 1, 0, 0, 0), (29, .sipush 9999, 0, 0, 0), (32, .invokestatic 69, 135, 3, 619), (35, .ifCond .eq 36, 0, 0, 0), (38, .iload_n 2, 0, 0, 0), (39, .iconst 0, 0, 0, 0), (40, .sipush 3000, 0, 0, 0), (43, .invokestatic 69, 135, 3, 619), (46, .ifCond .eq 25, 0, 0, 0), (49, .iload_n 3, 0, 0, 0), (50, .iconst 1, 0, 0, 0), (51, .bipush 60, 0, 0, 0), (53, .invokestatic 69, 135, 3, 619), (56, .ifCond .eq 15, 0, 0, 0), (59, .iload 4, 0, 0, 0), (61, .iconst 0, 0, 0, 0), (62, .sipush 200, 0, 0, 0), (65, .invokestatic 69, 135, 3, 619), (68, .ifCond .ne 5, 0, 0, 0), (71, .iconst (-1), 0, 0, 0), (72, .ireturn, 0, 0, 0), (73, .aload_n 0, 0, 0, 0), (74, .getfield 12, 11, 0, 578), (77, .dup, 0, 0, 0), (78, .getfield 132, 10, 9, 319), (81, .iload_n 1, 0, 0, 0), (82, .iadd, 0, 0, 0), (83, .putfield 132, 10, 9, 319), (86, .aload_n 0, 0, 0, 0), (87, .getfield 12, 11, 0, 578), (90, .getfield 125, 10, 12, 331), (93, .iload_n 1, 0, 0, 0), (94, .iload_n 2, 0, 0, 0), (95, .iload_n 3, 0, 0, 0), (96, .iload 4, 0, 0, 0), (98, .invokevirtual 135, 15, 5, 691), (101, .ireturn, 0, 0, 0)]
def cd_89 : List am_E := [(0, .aload_n 0, 0, 0, 0), (1, .aload_n 0, 0, 0, 0), (2, .getfield 12, 11, 0, 578), (5, .getfield 136, 10, 13, 334), (8, .iload_n 1, 0, 0, 0), (9, .iload_n 2, 0, 0, 0), (10, .iload_n 3, 0, 0, 0), (11, .iload 4, 0, 0, 0), (13, .invokevirtual 140, 91, 6, 699), (16, .ireturn, 0, 0, 0)]
def cd_90 : List am_E := [(0, .aload_n 0, 0, 0, 0), (1, .aload_n 0, 0, 0, 0), (2, .getfield 12, 11, 0, 578), (5, .getfield 144, 10, 14, 337), (8, .iload_n 1, 0, 0, 0), (9, .iload_n 2, 0, 0, 0), (10, .iload_n 3, 0, 0, 0), (11, .iload 4, 0, 0, 0), (13, .invokevirtual 140, 91, 6, 699), (16, .ireturn, 0, 0, 0)]
def cd_91 : List am_E := [(0, .aload_n 0, 0, 0, 0), (1, .iload_n 2, 0, 0, 0), (2, .invokevirtual 109, 132, 2, 674), (5, .ifCond .eq 45, 0, 0, 0), (8, .aload_n 1, 0, 0, 0), (9, .getfield 147, 4, 0, 251), (12, .bipush 12, 0, 0, 0), (14, .if_icmp .ge 36, 0, 0, 0), (17, .iload_n 3, 0, 0, 0), (18, .iconst (-1), 0, 0, 0), (19, .iconst 1, 0, 0, 0), (20, .invokestatic 69, 135, 3, 619), (23, .ifCond .eq 27, 0, 0, 0), (26, .iload 4, 0, 0, 0), (28, .iconst 0, 0, 0, 0), (29, .sipush 3000, 0, 0, 0), (32, .invokestatic 69, 135, 3, 619), (35, .ifCond .eq 15, 0, 0, 0), (38, .iload 5, 0, 0, 0), (40, .iconst 1, 0, 0, 0), (41, .sipush 200, 0, 0, 0), (44, .invokestatic 69, 135, 3, 619), (47, .ifCond .ne 5, 0, 0, 0), (50, .iconst (-1), 0, 0, 0), (51, .ireturn, 0, 0, 0), (52, .aload_n 1, 0, 0, 0), (53, .iload_n 2, 0, 0, 0), (54, .iload_n 3, 0, 0, 0), (55, .iload 4, 0, 0, 0), (57, .iload 5, 0, 0, 0), (59, .invokevirtual 150, 22, 5, 703), (62, .ireturn, 0, 0, 0)]
def cd_92 : List am_E := [(0, .aload_n 0, 0, 0, 0), (1, .getfield 12, 11, 0, 578), (4, .getfield 78, 10, 0, 293), (7, .ifCond .ne 6, 0, 0, 0), (10, .ldc 151, 0, 4293967296, 715), (12, .ireturn, 0, 0, 0), (13, .ldc 151, 0, 4293967296, 715), (15, .istore_n 3, 0, 0, 0), (16, .iload_n 1, 0, 0, 0), (17, .ifCond .ne 33, 0, 0, 0), (20, .iload_n 2, 0, 0, 0), (21, .ldc 152, 0, 4294867297, 716), (23, .ldc 73, 0, 99999, 622), (25, .invokestatic 69, 135, 3, 619), (28, .ifCond .eq 22, 0, 0, 0), (31, .aload_n 0, 0, 0, 0), (32, .getfield 12, 11, 0, 578), (35, .getfield 153, 10, 5, 304), (38, .istore_n 3, 0, 0, 0), (39, .aload_n 0, 0, 0, 0), (40, .getfield 12, 11, 0, 578), (43, .iload_n 2, 0, 0, 0), (44, .putfield 153, 10, 5, 304), (47, .goto 69, 0, 0, 0), (50, .iload_n 1, 0, 0, 0), (51, .iconst 1, 0, 0, 0), (52, .if_icmp .ne 32, 0, 0, 0), (55, .iload_n 2, 0, 0, 0), (56, .iconst 0, 0, 0, 0), (57, .bipush 99, 0, 0, 0), (59, .invokestatic 69, 135, 3, 619), (62, .ifCond .eq 22, 0, 0, 0), (65, .aload_n 0, 0, 0, 0), (66, .getfield 12, 11, 0, 578), (69, .getfield 156, 10, 6, 307), (72, .istore_n 3, 0, 0, 0), (73, .aload_n 0, 0, 0, 0), (74, .getfield 12, 11, 0, 578), (77, .iload_n 2, 0, 0, 0), (78, .putfield 156, 10, 6, 307), (81, .goto 35, 0, 0, 0), (84, .iload_n 1, 0, 0, 0), (85, .iconst 2, 0, 0, 0), (86, .if_icmp .ne 30, 0, 0, 0), (89, .iload_n 2, 0, 0, 0), (90, .bipush (-60), 0, 0, 0), (92, .bipush 60, 0, 0, 0), (94, .invokestatic 69, 135, 3, 619), (97, .ifCond .eq 19, 0, 0, 0), (100, .aload_n 0, 0, 0, 0), (101, .getfield 12, 11, 0, 578), (104, .getfield 159, 10, 7, 312), (107, .istore_n 3, 0, 0, 0), (108, .aload_n 0, 0, 0, 0), (109, .getfield 12, 11, 0, 578), (112, .iload_n 2, 0, 0, 0), (113, .putfield 159, 10, 7, 312), (116, .iload_n 3, 0, 0, 0), (117, .ireturn, 0, 0, 0)]
def cd_93 : List am_E := [(0, .aload_n 0, 0, 0, 0), (1, .getfield 162, 11, 5, 583), (4, .bipush 20, 0, 0, 0), (6, .iadd, 0, 0, 0), (7, .sipush 400, 0, 0, 0), (10, .if_icmp .le 5, 0, 0, 0), (13, .iconst (-1), 0, 0, 0), (14, .ireturn, 0, 0, 0), (15, .aload_n 0, 0, 0, 0), (16, .iload_n 1, 0, 0, 0), (17, .invokevirtual 165, 94, 2, 721), (20, .aload_n 0, 0, 0, 0), (21, .iload_n 2, 0, 0, 0), (22, .invokevirtual 165, 94, 2, 721), (25, .aload_n 0, 0, 0, 0), (26, .iload_n 3, 0, 0, 0), (27, .invokevirtual 165, 94, 2, 721), (30, .aload_n 0, 0, 0, 0), (31, .iload 4, 0, 0, 0), (33, .invokevirtual 165, 94, 2, 721), (36, .aload_n 0, 0, 0, 0), (37, .iload 5, 0, 0, 0), (39, .invokevirtual 165, 94, 2, 721), (42, .aload_n 0, 0, 0, 0), (43, .getfield 162, 11, 5, 583), (46, .ireturn, 0, 0, 0)]
def cd_94 : List am_E := [(0, .bipush 24, 0, 0, 0), (2, .istore_n 2, 0, 0, 0), (3, .iload_n 2, 0, 0, 0), (4, .ifCond .lt 45, 0, 0, 0), (7, .aload_n 0, 0, 0, 0), (8, .getfield 162, 11, 5, 583), (11, .sipush 400, 0, 0, 0), (14, .if_icmp .ge 35, 0, 0, 0), (17, .aload_n 0, 0, 0, 0), (18, .getfield 27, 11, 4, 582), (21, .aload_n 0, 0, 0, 0), (22, .getfield 162, 11, 5, 583), (25, .iload_n 1, 0, 0, 0), (26, .iload_n 2, 0, 0, 0), (27, .iushr, 0, 0, 0), (28, .sipush 255, 0, 0, 0), (31, .iand, 0, 0, 0), (32, .iastore, 0, 0, 0), (33, .aload_n 0, 0, 0, 0), (34, .dup, 0, 0, 0), (35, .getfield 162, 11, 5, 583), (38, .iconst 1, 0, 0, 0), (39, .iadd, 0, 0, 0), (40, .putfield 162, 11, 5, 583), (43, .iinc 2 (-8), 0, 0, 0), (46, .goto (-43), 0, 0, 0), (49, .return_, 0, 0, 0)]
def cd_95 : List am_E := [(0, .iload_n 1, 0, 0, 0), (1, .iconst 0, 0, 0, 0), (2, .aload_n 0, 0, 0, 0), (3, .getfield 162, 11, 5, 583), (6, .invokestatic 69, 135, 3, 619), (9, .ifCond .ne 5, 0, 0, 0), (12, .iconst (-1), 0, 0, 0), (13, .ireturn, 0, 0, 0), (14, .aload_n 0, 0, 0, 0), (15, .iload_n 1, 0, 0, 0), (16, .putfield 162, 11, 5, 583), (19, .iload_n 1, 0, 0, 0), (20, .ireturn, 0, 0, 0)]
def cd_96 : List am_E := [(0, .aload_n 0, 0, 0, 0), (1, .getfield 169, 11, 3, 581), (4, .bipush 6, 0, 0, 0), (6, .if_icmp .lt 5, 0, 0, 0), (9, .iconst (-1), 0, 0, 0), (10, .ireturn, 0, 0, 0), (11, .aload_n 0, 0, 0, 0), (12, .getfield 34, 11, 6, 584), (15, .aload_n 0, 0, 0, 0), (16, .getfield 27, 11, 4, 582), (19, .aload_n 0, 0, 0, 0), (20, .getfield 162, 11, 5, 583), (23, .invokevirtual 172, 39, 3, 733), (26, .istore_n 1, 0, 0, 0), (27, .aload_n 0, 0, 0, 0), (28, .iconst 0, 0, 0, 0), (29, .putfield 162, 11, 5, 583), (32, .iload_n 1, 0, 0, 0), (33, .ifCond .eq 8, 0, 0, 0), (36, .bipush (-2), 0, 0, 0), (38, .iload_n 1, 0, 0, 0), (39, .isub, 0, 0, 0), (40, .ireturn, 0, 0, 0), (41, .aload_n 0, 0, 0, 0), (42, .getfield 22, 11, 2, 580), (45, .aload_n 0, 0, 0, 0), (46, .getfield 169, 11, 3, 581), (49, .aaload, 0, 0, 0), (50, .aload_n 0, 0, 0, 0), (51, .getfield 34, 11, 6, 584), (54, .getfield 176, 8, 0, 440), (57, .invokevirtual 180, 37, 2, 846), (60, .aload_n 0, 0, 0, 0), (61, .dup, 0, 0, 0), (62, .getfield 169, 11, 3, 581), (65, .iconst 1, 0, 0, 0), (66, .iadd, 0, 0, 0), (67, .putfield 169, 11, 3, 581), (70, .aload_n 0, 0, 0, 0), (71, .getfield 169, 11, 3, 581), (74, .iconst 1, 0, 0, 0), (75, .isub, 0, 0, 0), (76, .ireturn, 0, 0, 0)]
def cd_97 : List am_E := [(0, .aload_n 0, 0, 0, 0), (1, .getfield 12, 11, 0, 578), (4, .getfield 78, 10, 0, 293), (7, .ifCond .eq 36, 0, 0, 0), (10, .aload_n 0, 0, 0, 0), (11, .iload_n 1, 0, 0, 0), (12, .invokevirtual 184, 133, 2, 858), (15, .ifCond .eq 28, 0, 0, 0), (18, .iload_n 2, 0, 0, 0), (19, .iconst 1, 0, 0, 0), (20, .bipush 60, 0, 0, 0), (22, .invokestatic 69, 135, 3, 619), (25, .ifCond .eq 18, 0, 0, 0), (28, .aload_n 0, 0, 0, 0), (29, .getfield 12, 11, 0, 578), (32, .getfield 187, 10, 8, 315), (35, .iload_n 2, 0, 0, 0), (36, .iadd, 0, 0, 0), (37, .sipush 9999, 0, 0, 0), (40, .if_icmp .le 6, 0, 0, 0), (43, .ldc 151, 0, 4293967296, 715), (45, .ireturn, 0, 0, 0), (46, .aload_n 0, 0, 0, 0), (47, .aload_n 0, 0, 0, 0), (48, .getfield 12, 11, 0, 578), (51, .iload_n 1, 0, 0, 0), (52, .iload_n 2, 0, 0, 0), (53, .invokevirtual 190, 98, 4, 862), (56, .aload_n 0, 0, 0, 0), (57, .getfield 12, 11, 0, 578), (60, .getfield 159, 10, 7, 312), (63, .ireturn, 0, 0, 0)]
def cd_98 : List am_E := [(0, .iconst 0, 0, 0, 0), (1, .istore 4, 0, 0, 0), (3, .iload 4, 0, 0, 0), (5, .iload_n 3, 0, 0, 0), (6, .if_icmp .ge 23, 0, 0, 0), (9, .aload_n 0, 0, 0, 0), (10, .getfield 48, 11, 8, 586), (13, .aload_n 1, 0, 0, 0), (14, .aload_n 0, 0, 0, 0), (15, .getfield 22, 11, 2, 580), (18, .iload_n 2, 0, 0, 0), (19, .aaload, 0, 0, 0), (20, .invokevirtual 194, 59, 3, 866), (23, .iinc 4 1, 0, 0, 0), (26, .goto (-23), 0, 0, 0), (29, .return_, 0, 0, 0)]
def cd_99 : List am_E := [(0, .aload_n 0, 0, 0, 0), (1, .getfield 12, 11, 0, 578), (4, .getfield 78, 10, 0, 293), (7, .ifCond .ne 6, 0, 0, 0), (10, .ldc 151, 0, 4293967296, 715), (12, .ireturn, 0, 0, 0), (13, .iload_n 1, 0, 0, 0), (14, .tableswitch 122 0 10 #[58, 66, 74, 82, 90, 98, 122, 122, 122, 122, 106], 58, 0, 0), (72, .aload_n 0, 0, 0, 0), (73, .getfield 12, 11, 0, 578), (76, .getfield 159, 10, 7, 312), (79, .ireturn, 0, 0, 0), (80, .aload_n 0, 0, 0, 0), (81, .getfield 12, 11, 0, 578), (84, .getfield 187, 10, 8, 315), (87, .ireturn, 0, 0, 0), (88, .aload_n 0, 0, 0, 0), (89, .getfield 12, 11, 0, 578), (92, .getfield 153, 10, 5, 304), (95, .ireturn, 0, 0, 0), (96, .aload_n 0, 0, 0, 0), (97, .getfield 12, 11, 0, 578), (100, .getfield 156, 10, 6, 307), (103, .ireturn, 0, 0, 0), (104, .aload_n 0, 0, 0, 0), (105, .getfield 12, 11, 0, 578), (108, .getfield 132, 10, 9, 319), (111, .ireturn, 0, 0, 0), (112, .aload_n 0, 0, 0, 0), (113, .getfield 12, 11, 0, 578), (116, .invokevirtual 198, 70, 1, 982), (119, .ireturn, 0, 0, 0), (120, .aload_n 0, 0, 0, 0), (121, .getfield 12, 11, 0, 578), (124, .invokevirtual 201, 69, 1, 983), (127, .ifCond .eq 7, 0, 0, 0), (130, .iconst 1, 0, 0, 0), (131, .goto 4, 0, 0, 0), (134, .iconst 0, 0, 0, 0), (135, .ireturn, 0, 0, 0), (136, .aload_n 0, 0, 0, 0), (137, .getfield 41, 11, 7, 585), (140, .aload_n 0, 0, 0, 0), (141, .getfield 12, 11, 0, 578), (144, .invokevirtual 205, 1, 2, 984), (147, .iload_n 1, 0, 0, 0), (148, .tableswitch 72 6 9 #[32, 41, 49, 57], 32, 0, 0), (180, .aload_n 0, 0, 0, 0), (181, .getfield 41, 11, 7, 585), (184, .invokevirtual 209, 6, 1, 985), (187, .l2i, 0, 0, 0), (188, .ireturn, 0, 0, 0), (189, .aload_n 0, 0, 0, 0), (190, .getfield 41, 11, 7, 585), (193, .invokevirtual 213, 7, 1, 986), (196, .ireturn, 0, 0, 0), (197, .aload_n 0, 0, 0, 0), (198, .getfield 41, 11, 7, 585), (201, .invokevirtual 216, 9, 1, 995), (204, .ireturn, 0, 0, 0), (205, .aload_n 0, 0, 0, 0), (206, .getfield 41, 11, 7, 585), (209, .aload_n 0, 0, 0, 0), (210, .getfield 12, 11, 0, 578), (213, .getfield 159, 10, 7, 312), (216, .invokevirtual 219, 10, 2, 1000), (219, .ireturn, 0, 0, 0), (220, .ldc 151, 0, 4293967296, 715), (222, .ireturn, 0, 0, 0)]
def cd_100 : List am_E := [(0, .aload_n 0, 0, 0, 0), (1, .getfield 12, 11, 0, 578), (4, .getfield 78, 10, 0, 293), (7, .ifCond .ne 7, 0, 0, 0), (10, .ldc2_w 223, 0, 18446744073709551615, 1009), (13, .lreturn, 0, 0, 0), (14, .aload_n 0, 0, 0, 0), (15, .getfield 41, 11, 7, 585), (18, .aload_n 0, 0, 0, 0), (19, .getfield 12, 11, 0, 578), (22, .invokevirtual 205, 1, 2, 984), (25, .aload_n 0, 0, 0, 0), (26, .getfield 41, 11, 7, 585), (29, .getfield 225, 0, 3, 476), (32, .lreturn, 0, 0, 0)]
def cd_101 : List am_E := [(0, .aload_n 0, 0, 0, 0), (1, .getfield 12, 11, 0, 578), (4, .getfield 78, 10, 0, 293), (7, .ifCond .eq 14, 0, 0, 0), (10, .iload_n 1, 0, 0, 0), (11, .bipush (-60), 0, 0, 0), (13, .bipush 60, 0, 0, 0), (15, .invokestatic 69, 135, 3, 619), (18, .ifCond .ne 5, 0, 0, 0), (21, .lconst 0, 0, 0, 0), (22, .lreturn, 0, 0, 0), (23, .aload_n 0, 0, 0, 0), (24, .getfield 41, 11, 7, 585), (27, .aload_n 0, 0, 0, 0), (28, .getfield 12, 11, 0, 578), (31, .invokevirtual 205, 1, 2, 984), (34, .aload_n 0, 0, 0, 0), (35, .getfield 41, 11, 7, 585), (38, .iload_n 1, 0, 0, 0), (39, .invokevirtual 229, 4, 2, 1014), (42, .lreturn, 0, 0, 0)]
def cd_102 : List am_E := [(0, .aload_n 0, 0, 0, 0), (1, .getfield 12, 11, 0, 578), (4, .getfield 78, 10, 0, 293), (7, .ifCond .eq 14, 0, 0, 0), (10, .iload_n 1, 0, 0, 0), (11, .bipush (-60), 0, 0, 0), (13, .bipush 60, 0, 0, 0), (15, .invokestatic 69, 135, 3, 619), (18, .ifCond .ne 6, 0, 0, 0), (21, .bipush (-100), 0, 0, 0), (23, .ireturn, 0, 0, 0), (24, .aload_n 0, 0, 0, 0), (25, .getfield 41, 11, 7, 585), (28, .aload_n 0, 0, 0, 0), (29, .getfield 12, 11, 0, 578), (32, .invokevirtual 205, 1, 2, 984), (35, .aload_n 0, 0, 0, 0), (36, .getfield 41, 11, 7, 585), (39, .iload_n 1, 0, 0, 0), (40, .bipush 120, 0, 0, 0), (42, .invokevirtual 233, 5, 3, 1019), (45, .ireturn, 0, 0, 0)]
def cd_103 : List am_E := [(0, .aload_n 0, 0, 0, 0), (1, .getfield 12, 11, 0, 578), (4, .getfield 78, 10, 0, 293), (7, .ifCond .eq 13, 0, 0, 0), (10, .iload_n 1, 0, 0, 0), (11, .iconst 0, 0, 0, 0), (12, .bipush 60, 0, 0, 0), (14, .invokestatic 69, 135, 3, 619), (17, .ifCond .ne 5, 0, 0, 0), (20, .iconst (-1), 0, 0, 0), (21, .ireturn, 0, 0, 0), (22, .aload_n 0, 0, 0, 0), (23, .getfield 12, 11, 0, 578), (26, .getfield 82, 10, 10, 322), (29, .iload_n 1, 0, 0, 0), (30, .iaload, 0, 0, 0), (31, .ireturn, 0, 0, 0)]
def cd_104 : List am_E := [(0, .aload_n 0, 0, 0, 0), (1, .iload_n 1, 0, 0, 0), (2, .invokevirtual 109, 132, 2, 674), (5, .ifCond .ne 7, 0, 0, 0), (8, .sipush (-1000), 0, 0, 0), (11, .ireturn, 0, 0, 0), (12, .aload_n 0, 0, 0, 0), (13, .getfield 12, 11, 0, 578), (16, .getfield 89, 10, 11, 326), (19, .astore_n 3, 0, 0, 0), (20, .iload_n 2, 0, 0, 0), (21, .tableswitch 114 0 8 #[51, 58, 65, 72, 79, 86, 93, 100, 107], 51, 0, 0), (72, .aload_n 3, 0, 0, 0), (73, .getfield 116, 6, 8, 168), (76, .iload_n 1, 0, 0, 0), (77, .iaload, 0, 0, 0), (78, .ireturn, 0, 0, 0), (79, .aload_n 3, 0, 0, 0), (80, .getfield 113, 6, 7, 162), (83, .iload_n 1, 0, 0, 0), (84, .iaload, 0, 0, 0), (85, .ireturn, 0, 0, 0), (86, .aload_n 3, 0, 0, 0), (87, .getfield 237, 6, 9, 173), (90, .iload_n 1, 0, 0, 0), (91, .iaload, 0, 0, 0), (92, .ireturn, 0, 0, 0), (93, .aload_n 3, 0, 0, 0), (94, .getfield 122, 6, 5, 155), (97, .iload_n 1, 0, 0, 0), (98, .iaload, 0, 0, 0), (99, .ireturn, 0, 0, 0), (100, .aload_n 3, 0, 0, 0), (101, .getfield 103, 6, 6, 159), (104, .iload_n 1, 0, 0, 0), (105, .iaload, 0, 0, 0), (106, .ireturn, 0, 0, 0), (107, .aload_n 3, 0, 0, 0), (108, .getfield 240, 6, 1, 145), (111, .iload_n 1, 0, 0, 0), (112, .iaload, 0, 0, 0), (113, .ireturn, 0, 0, 0), (114, .aload_n 3, 0, 0, 0), (115, .getfield 243, 6, 2, 148), (118, .iload_n 1, 0, 0, 0), (119, .iaload, 0, 0, 0), (120, .ireturn, 0, 0, 0), (121, .aload_n 3, 0, 0, 0), (122, .getfield 246, 6, 3, 151), (125, .iload_n 1, 0, 0, 0), (126, .iaload, 0, 0, 0), (127, .ireturn, 0, 0, 0), (128, .aload_n 3, 0, 0, 0), (129, .getfield 249, 6, 4, 153), (132, .iload_n 1, 0, 0, 0), (133, .iaload, 0, 0, 0), (134, .ireturn, 0, 0, 0), (135, .sipush (-1000), 0, 0, 0), (138, .ireturn, 0, 0, 0)]
def cd_105 : List am_E := [(0, .aload_n 0, 0, 0, 0), (1, .iload_n 1, 0, 0, 0), (2, .invokevirtual 109, 132, 2, 674), (5, .ifCond .eq 13, 0, 0, 0), (8, .iload_n 2, 0, 0, 0), (9, .iconst 0, 0, 0, 0), (10, .bipush 60, 0, 0, 0), (12, .invokestatic 69, 135, 3, 619), (15, .ifCond .ne 7, 0, 0, 0), (18, .ldc2_w 223, 0, 18446744073709551615, 1009), (21, .lreturn, 0, 0, 0), (22, .aload_n 0, 0, 0, 0), (23, .getfield 12, 11, 0, 578), (26, .getfield 89, 10, 11, 326), (29, .getfield 252, 6, 10, 176), (32, .iload_n 1, 0, 0, 0), (33, .laload, 0, 0, 0), (34, .getstatic 256, 0, 0, 1032), (37, .iload_n 2, 0, 0, 0), (38, .iaload, 0, 0, 0), (39, .i2l, 0, 0, 0), (40, .lmul, 0, 0, 0), (41, .ldc2_w 259, 0, 1000, 1033), (44, .ldiv, 0, 0, 0), (45, .aload_n 0, 0, 0, 0), (46, .getfield 12, 11, 0, 578), (49, .getfield 89, 10, 11, 326), (52, .getfield 261, 6, 11, 180), (55, .iload_n 1, 0, 0, 0), (56, .iaload, 0, 0, 0), (57, .i2l, 0, 0, 0), (58, .invokestatic 264, 1006, 0, 1034), (61, .lreturn, 0, 0, 0)]
def cd_106 : List am_E := [(0, .aload_n 0, 0, 0, 0), (1, .iload_n 1, 0, 0, 0), (2, .invokevirtual 109, 132, 2, 674), (5, .ifCond .eq 12, 0, 0, 0), (8, .iload_n 2, 0, 0, 0), (9, .iconst (-1), 0, 0, 0), (10, .iconst 1, 0, 0, 0), (11, .invokestatic 69, 135, 3, 619), (14, .ifCond .ne 6, 0, 0, 0), (17, .ldc 151, 0, 4293967296, 715), (19, .ireturn, 0, 0, 0), (20, .aload_n 0, 0, 0, 0), (21, .getfield 12, 11, 0, 578), (24, .iload_n 1, 0, 0, 0), (25, .iload_n 2, 0, 0, 0), (26, .invokevirtual 270, 76, 3, 1039), (29, .ireturn, 0, 0, 0)]
def cd_107 : List am_E := [(0, .aload_n 0, 0, 0, 0), (1, .getfield 12, 11, 0, 578), (4, .getfield 78, 10, 0, 293), (7, .ifCond .eq 12, 0, 0, 0), (10, .iload_n 1, 0, 0, 0), (11, .iconst (-1), 0, 0, 0), (12, .iconst 1, 0, 0, 0), (13, .invokestatic 69, 135, 3, 619), (16, .ifCond .ne 6, 0, 0, 0), (19, .ldc 151, 0, 4293967296, 715), (21, .ireturn, 0, 0, 0), (22, .aload_n 0, 0, 0, 0), (23, .getfield 12, 11, 0, 578), (26, .iload_n 1, 0, 0, 0), (27, .aload_n 0, 0, 0, 0), (28, .getfield 12, 11, 0, 578), (31, .getfield 159, 10, 7, 312), (34, .invokevirtual 273, 75, 3, 1044), (37, .ireturn, 0, 0, 0)]
def cd_108 : List am_E := [(0, .aload_n 0, 0, 0, 0), (1, .getfield 12, 11, 0, 578), (4, .getfield 78, 10, 0, 293), (7, .ifCond .eq 21, 0, 0, 0), (10, .iload_n 1, 0, 0, 0), (11, .ifCond .lt 17, 0, 0, 0), (14, .iload_n 1, 0, 0, 0), (15, .aload_n 0, 0, 0, 0), (16, .getfield 12, 11, 0, 578), (19, .getfield 125, 10, 12, 331), (22, .getfield 129, 2, 0, 217), (25, .if_icmp .lt 6, 0, 0, 0), (28, .bipush (-2), 0, 0, 0), (30, .ireturn, 0, 0, 0), (31, .aload_n 0, 0, 0, 0), (32, .getfield 12, 11, 0, 578), (35, .getfield 125, 10, 12, 331), (38, .getfield 276, 2, 5, 228), (41, .iload_n 1, 0, 0, 0), (42, .iaload, 0, 0, 0), (43, .ireturn, 0, 0, 0)]
def cd_109 : List am_E := [(0, .aload_n 0, 0, 0, 0), (1, .iload_n 1, 0, 0, 0), (2, .invokevirtual 109, 132, 2, 674), (5, .ifCond .ne 5, 0, 0, 0), (8, .iconst (-1), 0, 0, 0), (9, .ireturn, 0, 0, 0), (10, .aload_n 0, 0, 0, 0), (11, .getfield 12, 11, 0, 578), (14, .getfield 89, 10, 11, 326), (17, .getfield 116, 6, 8, 168), (20, .iload_n 1, 0, 0, 0), (21, .iaload, 0, 0, 0), (22, .istore_n 2, 0, 0, 0), (23, .bipush (-2), 0, 0, 0), (25, .istore_n 3, 0, 0, 0), (26, .iconst 0, 0, 0, 0), (27, .istore 4, 0, 0, 0), (29, .iload 4, 0, 0, 0), (31, .bipush 100, 0, 0, 0), (33, .if_icmp .gt 58, 0, 0, 0), (36, .iload_n 3, 0, 0, 0), (37, .ifCond .ge 54, 0, 0, 0), (40, .aload_n 0, 0, 0, 0), (41, .getfield 12, 11, 0, 578), (44, .iload_n 1, 0, 0, 0), (45, .aload_n 0, 0, 0, 0), (46, .getfield 12, 11, 0, 578), (49, .getfield 89, 10, 11, 326), (52, .iload_n 1, 0, 0, 0), (53, .iload 4, 0, 0, 0), (55, .invokevirtual 279, 32, 3, 1053), (58, .invokevirtual 119, 71, 3, 678), (61, .aload_n 0, 0, 0, 0), (62, .getfield 41, 11, 7, 585), (65, .aload_n 0, 0, 0, 0), (66, .getfield 12, 11, 0, 578), (69, .invokevirtual 205, 1, 2, 984), (72, .aload_n 0, 0, 0, 0), (73, .getfield 41, 11, 7, 585), (76, .invokevirtual 282, 8, 1, 1057), (79, .ifCond .eq 6, 0, 0, 0), (82, .iload 4, 0, 0, 0), (84, .istore_n 3, 0, 0, 0), (85, .iinc 4 1, 0, 0, 0), (88, .goto (-59), 0, 0, 0), (91, .aload_n 0, 0, 0, 0), (92, .getfield 12, 11, 0, 578), (95, .iload_n 1, 0, 0, 0), (96, .iload_n 2, 0, 0, 0), (97, .invokevirtual 119, 71, 3, 678), (100, .iload_n 3, 0, 0, 0), (101, .ireturn, 0, 0, 0)]
def cd_110 : List am_E := [(0, .aload_n 0, 0, 0, 0), (1, .iload_n 1, 0, 0, 0), (2, .invokevirtual 109, 132, 2, 674), (5, .ifCond .ne 5, 0, 0, 0), (8, .iconst (-1), 0, 0, 0), (9, .ireturn, 0, 0, 0), (10, .aload_n 0, 0, 0, 0), (11, .getfield 12, 11, 0, 578), (14, .getfield 89, 10, 11, 326), (17, .getfield 122, 6, 5, 155), (20, .iload_n 1, 0, 0, 0), (21, .iaload, 0, 0, 0), (22, .istore_n 2, 0, 0, 0), (23, .bipush (-2), 0, 0, 0), (25, .istore_n 3, 0, 0, 0), (26, .iconst 1, 0, 0, 0), (27, .istore 4, 0, 0, 0), (29, .iload 4, 0, 0, 0), (31, .bipush 9, 0, 0, 0), (33, .if_icmp .gt 50, 0, 0, 0), (36, .iload_n 3, 0, 0, 0), (37, .ifCond .ge 46, 0, 0, 0), (40, .aload_n 0, 0, 0, 0), (41, .getfield 12, 11, 0, 578), (44, .getfield 89, 10, 11, 326), (47, .iload_n 1, 0, 0, 0), (48, .iload 4, 0, 0, 0), (50, .invokevirtual 106, 30, 3, 650), (53, .aload_n 0, 0, 0, 0), (54, .getfield 41, 11, 7, 585), (57, .aload_n 0, 0, 0, 0), (58, .getfield 12, 11, 0, 578), (61, .invokevirtual 205, 1, 2, 984), (64, .aload_n 0, 0, 0, 0), (65, .getfield 41, 11, 7, 585), (68, .invokevirtual 282, 8, 1, 1057), (71, .ifCond .ne 6, 0, 0, 0), (74, .iload 4, 0, 0, 0), (76, .istore_n 3, 0, 0, 0), (77, .iinc 4 1, 0, 0, 0), (80, .goto (-51), 0, 0, 0), (83, .aload_n 0, 0, 0, 0), (84, .getfield 12, 11, 0, 578), (87, .getfield 89, 10, 11, 326), (90, .iload_n 1, 0, 0, 0), (91, .iload_n 2, 0, 0, 0), (92, .invokevirtual 106, 30, 3, 650), (95, .iload_n 3, 0, 0, 0), (96, .ireturn, 0, 0, 0)]
def cd_111 : List am_E := [(0, .aload_n 0, 0, 0, 0), (1, .getfield 12, 11, 0, 578), (4, .getfield 78, 10, 0, 293), (7, .ifCond .eq 34, 0, 0, 0), (10, .iload_n 1, 0, 0, 0), (11, .iconst 1, 0, 0, 0), (12, .sipush 999, 0, 0, 0), (15, .invokestatic 69, 135, 3, 619), (18, .ifCond .eq 23, 0, 0, 0), (21, .iload_n 2, 0, 0, 0), (22, .iconst 1, 0, 0, 0), (23, .sipush 999, 0, 0, 0), (26, .invokestatic 69, 135, 3, 619), (29, .ifCond .eq 12, 0, 0, 0), (32, .iload_n 3, 0, 0, 0), (33, .iconst 0, 0, 0, 0), (34, .iconst 1, 0, 0, 0), (35, .invokestatic 69, 135, 3, 619), (38, .ifCond .ne 7, 0, 0, 0), (41, .ldc_w 285, 0, 4292967296, 1069), (44, .ireturn, 0, 0, 0), (45, .aload_n 0, 0, 0, 0), (46, .getfield 41, 11, 7, 585), (49, .aload_n 0, 0, 0, 0), (50, .getfield 12, 11, 0, 578), (53, .invokevirtual 205, 1, 2, 984), (56, .aload_n 0, 0, 0, 0), (57, .getfield 41, 11, 7, 585), (60, .aload_n 0, 0, 0, 0), (61, .getfield 12, 11, 0, 578), (64, .getfield 159, 10, 7, 312), (67, .bipush 120, 0, 0, 0), (69, .invokevirtual 233, 5, 3, 1019), (72, .istore 4, 0, 0, 0), (74, .iload_n 1, 0, 0, 0), (75, .i2l, 0, 0, 0), (76, .iload_n 2, 0, 0, 0), (77, .i2l, 0, 0, 0), (78, .lmul, 0, 0, 0), (79, .ldc2_w 286, 0, 10, 1070), (82, .lmul, 0, 0, 0), (83, .lstore 5, 0, 0, 0), (85, .aload_n 0, 0, 0, 0), (86, .getfield 41, 11, 7, 585), (89, .dup, 0, 0, 0), (90, .getfield 288, 0, 4, 478), (93, .lload 5, 0, 0, 0), (95, .ladd, 0, 0, 0), (96, .putfield 288, 0, 4, 478), (99, .aload_n 0, 0, 0, 0), (100, .getfield 41, 11, 7, 585), (103, .aload_n 0, 0, 0, 0), (104, .getfield 12, 11, 0, 578), (107, .getfield 159, 10, 7, 312), (110, .bipush 120, 0, 0, 0), (112, .invokevirtual 233, 5, 3, 1019), (115, .istore 7, 0, 0, 0), (117, .iload_n 3, 0, 0, 0), (118, .ifCond .ne 6, 0, 0, 0), (121, .iload 7, 0, 0, 0), (123, .ireturn, 0, 0, 0), (124, .iload 7, 0, 0, 0), (126, .iload 4, 0, 0, 0), (128, .isub, 0, 0, 0), (129, .invokestatic 291, 1004, 0, 1071), (132, .bipush 90, 0, 0, 0), (134, .invokestatic 294, 1003, 0, 1072), (137, .istore 8, 0, 0, 0), (139, .aload_n 0, 0, 0, 0), (140, .getfield 41, 11, 7, 585), (143, .getfield 296, 0, 2, 474), (146, .getstatic 256, 0, 0, 1032), (149, .iload 8, 0, 0, 0), (151, .iaload, 0, 0, 0), (152, .i2l, 0, 0, 0), (153, .lmul, 0, 0, 0), (154, .lstore 9, 0, 0, 0), (156, .lload 9, 0, 0, 0), (158, .lconst 0, 0, 0, 0), (159, .lcmp, 0, 0, 0), (160, .ifCond .gt 8, 0, 0, 0), (163, .ldc 151, 0, 4293967296, 715), (165, .goto 13, 0, 0, 0), (168, .lload 5, 0, 0, 0), (170, .ldc2_w 259, 0, 1000, 1033), (173, .lmul, 0, 0, 0), (174, .lload 9, 0, 0, 0), (176, .ldiv, 0, 0, 0), (177, .l2i, 0, 0, 0), (178, .ireturn, 0, 0, 0)]
def cd_112 : List am_E := [(0, .aload_n 0, 0, 0, 0), (1, .getfield 12, 11, 0, 578), (4, .getfield 78, 10, 0, 293), (7, .ifCond .eq 32, 0, 0, 0), (10, .iload_n 2, 0, 0, 0), (11, .iconst 1, 0, 0, 0), (12, .bipush 59, 0, 0, 0), (14, .invokestatic 69, 135, 3, 619), (17, .ifCond .eq 22, 0, 0, 0), (20, .iload_n 1, 0, 0, 0), (21, .ifCond .le 18, 0, 0, 0), (24, .iload_n 1, 0, 0, 0), (25, .aload_n 0, 0, 0, 0), (26, .getfield 12, 11, 0, 578), (29, .getfield 89, 10, 11, 326), (32, .getfield 93, 6, 0, 140), (35, .ishr, 0, 0, 0), (36, .ifCond .eq 5, 0, 0, 0), (39, .iconst (-1), 0, 0, 0), (40, .ireturn, 0, 0, 0), (41, .iload_n 1, 0, 0, 0), (42, .invokestatic 298, 254, 1, 1077), (45, .istore 4, 0, 0, 0), (47, .iload 4, 0, 0, 0), (49, .bipush 6, 0, 0, 0), (51, .if_icmp .gt 15, 0, 0, 0), (54, .iload_n 3, 0, 0, 0), (55, .iconst 0, 0, 0, 0), (56, .iload 4, 0, 0, 0), (58, .iconst 1, 0, 0, 0), (59, .isub, 0, 0, 0), (60, .invokestatic 69, 135, 3, 619), (63, .ifCond .ne 5, 0, 0, 0), (66, .iconst (-1), 0, 0, 0), (67, .ireturn, 0, 0, 0), (68, .aload_n 0, 0, 0, 0), (69, .getfield 55, 11, 9, 587), (72, .aload_n 0, 0, 0, 0), (73, .getfield 12, 11, 0, 578), (76, .iload_n 1, 0, 0, 0), (77, .iload_n 2, 0, 0, 0), (78, .invokevirtual 303, 25, 4, 1083), (81, .ifCond .eq 15, 0, 0, 0), (84, .aload_n 0, 0, 0, 0), (85, .getfield 55, 11, 9, 587), (88, .getfield 307, 5, 4, 527), (91, .iload_n 3, 0, 0, 0), (92, .iaload, 0, 0, 0), (93, .goto 5, 0, 0, 0), (96, .bipush (-2), 0, 0, 0), (98, .ireturn, 0, 0, 0)]
def cd_113 : List am_E := [(0, .aload_n 0, 0, 0, 0), (1, .getfield 12, 11, 0, 578), (4, .getfield 78, 10, 0, 293), (7, .ifCond .eq 30, 0, 0, 0), (10, .aload_n 0, 0, 0, 0), (11, .iload_n 1, 0, 0, 0), (12, .invokevirtual 184, 133, 2, 858), (15, .ifCond .eq 22, 0, 0, 0), (18, .iload_n 2, 0, 0, 0), (19, .iconst 0, 0, 0, 0), (20, .bipush 60, 0, 0, 0), (22, .invokestatic 69, 135, 3, 619), (25, .ifCond .eq 12, 0, 0, 0), (28, .iload_n 3, 0, 0, 0), (29, .iconst 0, 0, 0, 0), (30, .iconst 3, 0, 0, 0), (31, .invokestatic 69, 135, 3, 619), (34, .ifCond .ne 6, 0, 0, 0), (37, .ldc 151, 0, 4293967296, 715), (39, .ireturn, 0, 0, 0), (40, .aload_n 0, 0, 0, 0), (41, .getfield 12, 11, 0, 578), (44, .aload_n 0, 0, 0, 0), (45, .getfield 66, 11, 11, 589), (48, .iconst 0, 0, 0, 0), (49, .invokevirtual 310, 79, 3, 1106), (52, .aload_n 0, 0, 0, 0), (53, .getfield 12, 11, 0, 578), (56, .invokevirtual 201, 69, 1, 983), (59, .ifCond .eq 7, 0, 0, 0), (62, .iconst 0, 0, 0, 0), (63, .goto 5, 0, 0, 0), (66, .bipush (-2), 0, 0, 0), (68, .istore 4, 0, 0, 0), (70, .iconst 1, 0, 0, 0), (71, .istore 5, 0, 0, 0), (73, .iload 5, 0, 0, 0), (75, .iload_n 2, 0, 0, 0), (76, .if_icmp .gt 45, 0, 0, 0), (79, .aload_n 0, 0, 0, 0), (80, .getfield 48, 11, 8, 586), (83, .aload_n 0, 0, 0, 0), (84, .getfield 12, 11, 0, 578), (87, .aload_n 0, 0, 0, 0), (88, .getfield 22, 11, 2, 580), (91, .iload_n 1, 0, 0, 0), (92, .aaload, 0, 0, 0), (93, .invokevirtual 194, 59, 3, 866), (96, .iload 4, 0, 0, 0), (98, .ifCond .ge 17, 0, 0, 0), (101, .aload_n 0, 0, 0, 0), (102, .getfield 12, 11, 0, 578), (105, .invokevirtual 201, 69, 1, 983), (108, .ifCond .eq 7, 0, 0, 0), (111, .iload 5, 0, 0, 0), (113, .istore 4, 0, 0, 0), (115, .iinc 5 1, 0, 0, 0), (118, .goto (-45), 0, 0, 0), (121, .iload 4, 0, 0, 0), (123, .istore 5, 0, 0, 0), (125, .iload_n 3, 0, 0, 0), (126, .ifCond .ne 15, 0, 0, 0), (129, .aload_n 0, 0, 0, 0), (130, .getfield 12, 11, 0, 578), (133, .getfield 159, 10, 7, 312), (136, .istore 5, 0, 0, 0), (138, .goto 45, 0, 0, 0), (141, .iload_n 3, 0, 0, 0), (142, .iconst 1, 0, 0, 0), (143, .if_icmp .ne 23, 0, 0, 0), (146, .aload_n 0, 0, 0, 0), (147, .getfield 12, 11, 0, 578), (150, .invokevirtual 201, 69, 1, 983), (153, .ifCond .eq 7, 0, 0, 0), (156, .iconst 1, 0, 0, 0), (157, .goto 4, 0, 0, 0), (160, .iconst 0, 0, 0, 0), (161, .istore 5, 0, 0, 0), (163, .goto 20, 0, 0, 0), (166, .iload_n 3, 0, 0, 0), (167, .iconst 2, 0, 0, 0), (168, .if_icmp .ne 15, 0, 0, 0), (171, .aload_n 0, 0, 0, 0), (172, .getfield 12, 11, 0, 578), (175, .getfield 89, 10, 11, 326), (178, .invokevirtual 314, 33, 1, 1111), (181, .istore 5, 0, 0, 0), (183, .aload_n 0, 0, 0, 0), (184, .getfield 12, 11, 0, 578), (187, .aload_n 0, 0, 0, 0), (188, .getfield 66, 11, 11, 589), (191, .iconst 0, 0, 0, 0), (192, .invokevirtual 317, 80, 3, 1115), (195, .iload 5, 0, 0, 0), (197, .ireturn, 0, 0, 0)]
def cd_114 : List am_E := [(0, .aload_n 0, 0, 0, 0), (1, .iload_n 1, 0, 0, 0), (2, .invokevirtual 320, 134, 2, 1123), (5, .ifCond .eq 30, 0, 0, 0), (8, .aload_n 0, 0, 0, 0), (9, .iload_n 2, 0, 0, 0), (10, .invokevirtual 184, 133, 2, 858), (13, .ifCond .eq 22, 0, 0, 0), (16, .aload_n 0, 0, 0, 0), (17, .iload_n 3, 0, 0, 0), (18, .invokevirtual 184, 133, 2, 858), (21, .ifCond .eq 14, 0, 0, 0), (24, .iload 4, 0, 0, 0), (26, .iconst 0, 0, 0, 0), (27, .bipush 30, 0, 0, 0), (29, .invokestatic 69, 135, 3, 619), (32, .ifCond .ne 5, 0, 0, 0), (35, .iconst (-1), 0, 0, 0), (36, .ireturn, 0, 0, 0), (37, .aload_n 0, 0, 0, 0), (38, .getfield 16, 11, 1, 579), (41, .iload_n 1, 0, 0, 0), (42, .aaload, 0, 0, 0), (43, .astore 5, 0, 0, 0), (45, .aload 5, 0, 0, 0), (47, .aload_n 0, 0, 0, 0), (48, .getfield 66, 11, 11, 589), (51, .iconst 0, 0, 0, 0), (52, .invokevirtual 310, 79, 3, 1106), (55, .bipush (-2), 0, 0, 0), (57, .istore 6, 0, 0, 0), (59, .iload 4, 0, 0, 0), (61, .istore 7, 0, 0, 0), (63, .iload 7, 0, 0, 0), (65, .ifCond .lt 57, 0, 0, 0), (68, .iload 6, 0, 0, 0), (70, .ifCond .ge 52, 0, 0, 0), (73, .aload_n 0, 0, 0, 0), (74, .aload 5, 0, 0, 0), (76, .iload_n 2, 0, 0, 0), (77, .iload 7, 0, 0, 0), (79, .invokevirtual 190, 98, 4, 862), (82, .aload_n 0, 0, 0, 0), (83, .aload 5, 0, 0, 0), (85, .iload_n 3, 0, 0, 0), (86, .iload 4, 0, 0, 0), (88, .iload 7, 0, 0, 0), (90, .isub, 0, 0, 0), (91, .invokevirtual 190, 98, 4, 862), (94, .aload 5, 0, 0, 0), (96, .invokevirtual 201, 69, 1, 983), (99, .ifCond .ne 7, 0, 0, 0), (102, .iload 7, 0, 0, 0), (104, .istore 6, 0, 0, 0), (106, .aload 5, 0, 0, 0), (108, .aload_n 0, 0, 0, 0), (109, .getfield 66, 11, 11, 589), (112, .iconst 0, 0, 0, 0), (113, .invokevirtual 317, 80, 3, 1115), (116, .iinc 7 (-1), 0, 0, 0), (119, .goto (-56), 0, 0, 0), (122, .iload 6, 0, 0, 0), (124, .ireturn, 0, 0, 0)]
def cd_115 : List am_E := [(0, .aload_n 0, 0, 0, 0), (1, .iload_n 2, 0, 0, 0), (2, .invokevirtual 109, 132, 2, 674), (5, .ifCond .eq 21, 0, 0, 0), (8, .aload_n 0, 0, 0, 0), (9, .iload_n 1, 0, 0, 0), (10, .invokevirtual 184, 133, 2, 858), (13, .ifCond .eq 13, 0, 0, 0), (16, .iload_n 3, 0, 0, 0), (17, .iconst 1, 0, 0, 0), (18, .bipush 20, 0, 0, 0), (20, .invokestatic 69, 135, 3, 619), (23, .ifCond .ne 5, 0, 0, 0), (26, .iconst (-1), 0, 0, 0), (27, .ireturn, 0, 0, 0), (28, .aload_n 0, 0, 0, 0), (29, .getfield 12, 11, 0, 578), (32, .aload_n 0, 0, 0, 0), (33, .getfield 66, 11, 11, 589), (36, .iconst 0, 0, 0, 0), (37, .invokevirtual 310, 79, 3, 1106), (40, .bipush (-2), 0, 0, 0), (42, .istore 4, 0, 0, 0), (44, .bipush 99, 0, 0, 0), (46, .istore 5, 0, 0, 0), (48, .iload 5, 0, 0, 0), (50, .ifCond .lt 92, 0, 0, 0), (53, .iload 4, 0, 0, 0), (55, .ifCond .ge 87, 0, 0, 0), (58, .iconst 0, 0, 0, 0), (59, .istore 6, 0, 0, 0), (61, .iload 6, 0, 0, 0), (63, .iload_n 3, 0, 0, 0), (64, .if_icmp .ge 46, 0, 0, 0), (67, .aload_n 0, 0, 0, 0), (68, .getfield 12, 11, 0, 578), (71, .invokevirtual 201, 69, 1, 983), (74, .ifCond .ne 36, 0, 0, 0), (77, .aload_n 0, 0, 0, 0), (78, .getfield 12, 11, 0, 578), (81, .iload_n 2, 0, 0, 0), (82, .iload 5, 0, 0, 0), (84, .invokevirtual 323, 72, 3, 1131), (87, .aload_n 0, 0, 0, 0), (88, .getfield 48, 11, 8, 586), (91, .aload_n 0, 0, 0, 0), (92, .getfield 12, 11, 0, 578), (95, .aload_n 0, 0, 0, 0), (96, .getfield 22, 11, 2, 580), (99, .iload_n 1, 0, 0, 0), (100, .aaload, 0, 0, 0), (101, .invokevirtual 194, 59, 3, 866), (104, .iinc 6 1, 0, 0, 0), (107, .goto (-46), 0, 0, 0), (110, .aload_n 0, 0, 0, 0), (111, .getfield 12, 11, 0, 578), (114, .invokevirtual 201, 69, 1, 983), (117, .ifCond .ne 7, 0, 0, 0), (120, .iload 5, 0, 0, 0), (122, .istore 4, 0, 0, 0), (124, .aload_n 0, 0, 0, 0), (125, .getfield 12, 11, 0, 578), (128, .aload_n 0, 0, 0, 0), (129, .getfield 66, 11, 11, 589), (132, .iconst 0, 0, 0, 0), (133, .invokevirtual 317, 80, 3, 1115), (136, .iinc 5 (-1), 0, 0, 0), (139, .goto (-91), 0, 0, 0), (142, .iload 4, 0, 0, 0), (144, .ireturn, 0, 0, 0)]
def cd_116 : List am_E := [(0, .aload_n 0, 0, 0, 0), (1, .getfield 12, 11, 0, 578), (4, .getfield 78, 10, 0, 293), (7, .ifCond .eq 25, 0, 0, 0), (10, .iload_n 1, 0, 0, 0), (11, .iconst 1, 0, 0, 0), (12, .sipush 999, 0, 0, 0), (15, .invokestatic 69, 135, 3, 619), (18, .ifCond .eq 14, 0, 0, 0), (21, .iload_n 2, 0, 0, 0), (22, .iconst 0, 0, 0, 0), (23, .sipush 3000, 0, 0, 0), (26, .invokestatic 69, 135, 3, 619), (29, .ifCond .ne 5, 0, 0, 0), (32, .iconst (-1), 0, 0, 0), (33, .ireturn, 0, 0, 0), (34, .aload_n 0, 0, 0, 0), (35, .getfield 41, 11, 7, 585), (38, .aload_n 0, 0, 0, 0), (39, .getfield 12, 11, 0, 578), (42, .invokevirtual 205, 1, 2, 984), (45, .iconst 0, 0, 0, 0), (46, .istore_n 3, 0, 0, 0), (47, .iload_n 3, 0, 0, 0), (48, .sipush 200, 0, 0, 0), (51, .if_icmp .gt 30, 0, 0, 0), (54, .aload_n 0, 0, 0, 0), (55, .getfield 41, 11, 7, 585), (58, .invokevirtual 282, 8, 1, 1057), (61, .ifCond .eq 5, 0, 0, 0), (64, .iload_n 3, 0, 0, 0), (65, .ireturn, 0, 0, 0), (66, .aload_n 0, 0, 0, 0), (67, .getfield 41, 11, 7, 585), (70, .iload_n 1, 0, 0, 0), (71, .iload_n 2, 0, 0, 0), (72, .invokevirtual 325, 2, 3, 1136), (75, .iinc 3 1, 0, 0, 0), (78, .goto (-31), 0, 0, 0), (81, .bipush (-2), 0, 0, 0), (83, .ireturn, 0, 0, 0)]
def cd_117 : List am_E := [(0, .aload_n 0, 0, 0, 0), (1, .getfield 12, 11, 0, 578), (4, .getfield 78, 10, 0, 293), (7, .ifCond .eq 40, 0, 0, 0), (10, .aload_n 0, 0, 0, 0), (11, .getfield 12, 11, 0, 578), (14, .getfield 328, 10, 15, 339), (17, .getfield 332, 3, 0, 280), (20, .bipush 6, 0, 0, 0), (22, .if_icmp .ge 25, 0, 0, 0), (25, .iload_n 1, 0, 0, 0), (26, .iconst 1, 0, 0, 0), (27, .sipush 9999, 0, 0, 0), (30, .invokestatic 69, 135, 3, 619), (33, .ifCond .eq 14, 0, 0, 0), (36, .iload_n 2, 0, 0, 0), (37, .iconst 0, 0, 0, 0), (38, .sipush 3000, 0, 0, 0), (41, .invokestatic 69, 135, 3, 619), (44, .ifCond .ne 5, 0, 0, 0), (47, .iconst (-1), 0, 0, 0), (48, .ireturn, 0, 0, 0), (49, .aload_n 0, 0, 0, 0), (50, .getfield 12, 11, 0, 578), (53, .getfield 328, 10, 15, 339), (56, .iload_n 1, 0, 0, 0), (57, .iload_n 2, 0, 0, 0), (58, .invokevirtual 335, 19, 3, 1144), (61, .ireturn, 0, 0, 0)]
def cd_118 : List am_E := [(0, .aload_n 0, 0, 0, 0), (1, .getfield 12, 11, 0, 578), (4, .getfield 78, 10, 0, 293), (7, .ifCond .eq 32, 0, 0, 0), (10, .iload_n 1, 0, 0, 0), (11, .ldc 152, 0, 4294867297, 716), (13, .ldc 73, 0, 99999, 622), (15, .invokestatic 69, 135, 3, 619), (18, .ifCond .eq 21, 0, 0, 0), (21, .iload_n 2, 0, 0, 0), (22, .ifCond .lt 17, 0, 0, 0), (25, .iload_n 2, 0, 0, 0), (26, .aload_n 0, 0, 0, 0), (27, .getfield 12, 11, 0, 578), (30, .getfield 328, 10, 15, 339), (33, .getfield 332, 3, 0, 280), (36, .if_icmp .lt 5, 0, 0, 0), (39, .iconst (-1), 0, 0, 0), (40, .ireturn, 0, 0, 0), (41, .aload_n 0, 0, 0, 0), (42, .getfield 12, 11, 0, 578), (45, .getfield 328, 10, 15, 339), (48, .getfield 332, 3, 0, 280), (51, .istore_n 3, 0, 0, 0), (52, .aload_n 0, 0, 0, 0), (53, .iload_n 1, 0, 0, 0), (54, .iload_n 3, 0, 0, 0), (55, .invokevirtual 337, 119, 3, 1152), (58, .lstore 4, 0, 0, 0), (60, .iconst 0, 0, 0, 0), (61, .istore 6, 0, 0, 0), (63, .bipush (-2), 0, 0, 0), (65, .istore 7, 0, 0, 0), (67, .iconst 0, 0, 0, 0), (68, .istore 8, 0, 0, 0), (70, .iload 8, 0, 0, 0), (72, .iload_n 2, 0, 0, 0), (73, .if_icmp .gt 81, 0, 0, 0), (76, .bipush (-2), 0, 0, 0), (78, .istore 7, 0, 0, 0), (80, .iconst 0, 0, 0, 0), (81, .istore 9, 0, 0, 0), (83, .iload 9, 0, 0, 0), (85, .iload_n 3, 0, 0, 0), (86, .if_icmp .ge 45, 0, 0, 0), (89, .iload 7, 0, 0, 0), (91, .ifCond .ge 40, 0, 0, 0), (94, .iload 6, 0, 0, 0), (96, .iload 9, 0, 0, 0), (98, .ishr, 0, 0, 0), (99, .iconst 1, 0, 0, 0), (100, .iand, 0, 0, 0), (101, .ifCond .ne 24, 0, 0, 0), (104, .lload 4, 0, 0, 0), (106, .iload 6, 0, 0, 0), (108, .iconst 1, 0, 0, 0), (109, .iload 9, 0, 0, 0), (111, .ishl, 0, 0, 0), (112, .ior, 0, 0, 0), (113, .lshr, 0, 0, 0), (114, .lconst 1, 0, 0, 0), (115, .land, 0, 0, 0), (116, .lconst 1, 0, 0, 0), (117, .lcmp, 0, 0, 0), (118, .ifCond .ne 7, 0, 0, 0), (121, .iload 9, 0, 0, 0), (123, .istore 7, 0, 0, 0), (125, .iinc 9 1, 0, 0, 0), (128, .goto (-45), 0, 0, 0), (131, .iload 7, 0, 0, 0), (133, .ifCond .ge 6, 0, 0, 0), (136, .bipush (-2), 0, 0, 0), (138, .ireturn, 0, 0, 0), (139, .iload 6, 0, 0, 0), (141, .iconst 1, 0, 0, 0), (142, .iload 7, 0, 0, 0), (144, .ishl, 0, 0, 0), (145, .ior, 0, 0, 0), (146, .istore 6, 0, 0, 0), (148, .iinc 8 1, 0, 0, 0), (151, .goto (-81), 0, 0, 0), (154, .iload 7, 0, 0, 0), (156, .ireturn, 0, 0, 0)]
def cd_119 : List am_E := [(0, .iconst 1, 0, 0, 0), (1, .iload_n 2, 0, 0, 0), (2, .ishl, 0, 0, 0), (3, .iconst 1, 0, 0, 0), (4, .isub, 0, 0, 0), (5, .istore_n 3, 0, 0, 0), (6, .lconst 0, 0, 0, 0), (7, .lstore 4, 0, 0, 0), (9, .iload_n 3, 0, 0, 0), (10, .istore 6, 0, 0, 0), (12, .iload 6, 0, 0, 0), (14, .ifCond .le 102, 0, 0, 0), (17, .iload 6, 0, 0, 0), (19, .iload_n 3, 0, 0, 0), (20, .if_icmp .ne 7, 0, 0, 0), (23, .iconst 1, 0, 0, 0), (24, .goto 4, 0, 0, 0), (27, .iconst 0, 0, 0, 0), (28, .istore 7, 0, 0, 0), (30, .iconst 0, 0, 0, 0), (31, .istore 8, 0, 0, 0), (33, .iload 8, 0, 0, 0), (35, .iload_n 2, 0, 0, 0), (36, .if_icmp .ge 48, 0, 0, 0), (39, .iload 7, 0, 0, 0), (41, .ifCond .ne 43, 0, 0, 0), (44, .iload 6, 0, 0, 0), (46, .iload 8, 0, 0, 0), (48, .ishr, 0, 0, 0), (49, .iconst 1, 0, 0, 0), (50, .iand, 0, 0, 0), (51, .ifCond .ne 24, 0, 0, 0), (54, .lload 4, 0, 0, 0), (56, .iload 6, 0, 0, 0), (58, .iconst 1, 0, 0, 0), (59, .iload 8, 0, 0, 0), (61, .ishl, 0, 0, 0), (62, .ior, 0, 0, 0), (63, .lshr, 0, 0, 0), (64, .lconst 1, 0, 0, 0), (65, .land, 0, 0, 0), (66, .lconst 1, 0, 0, 0), (67, .lcmp, 0, 0, 0), (68, .ifCond .ne 7, 0, 0, 0), (71, .iconst 1, 0, 0, 0), (72, .goto 4, 0, 0, 0), (75, .iconst 0, 0, 0, 0), (76, .istore 7, 0, 0, 0), (78, .iinc 8 1, 0, 0, 0), (81, .goto (-48), 0, 0, 0), (84, .iload 7, 0, 0, 0), (86, .ifCond .eq 24, 0, 0, 0), (89, .aload_n 0, 0, 0, 0), (90, .iload 6, 0, 0, 0), (92, .invokevirtual 341, 120, 2, 1156), (95, .iload_n 1, 0, 0, 0), (96, .i2l, 0, 0, 0), (97, .lcmp, 0, 0, 0), (98, .ifCond .lt 12, 0, 0, 0), (101, .lload 4, 0, 0, 0), (103, .lconst 1, 0, 0, 0), (104, .iload 6, 0, 0, 0), (106, .lshl, 0, 0, 0), (107, .lor, 0, 0, 0), (108, .lstore 4, 0, 0, 0), (110, .iinc 6 (-1), 0, 0, 0), (113, .goto (-101), 0, 0, 0), (116, .lload 4, 0, 0, 0), (118, .lreturn, 0, 0, 0)]
def cd_120 : List am_E := [(0, .aload_n 0, 0, 0, 0), (1, .getfield 41, 11, 7, 585), (4, .aload_n 0, 0, 0, 0), (5, .getfield 12, 11, 0, 578), (8, .invokevirtual 205, 1, 2, 984), (11, .iconst 0, 0, 0, 0), (12, .istore_n 2, 0, 0, 0), (13, .iload_n 2, 0, 0, 0), (14, .aload_n 0, 0, 0, 0), (15, .getfield 12, 11, 0, 578), (18, .getfield 328, 10, 15, 339), (21, .getfield 332, 3, 0, 280), (24, .if_icmp .ge 49, 0, 0, 0), (27, .iload_n 1, 0, 0, 0), (28, .iload_n 2, 0, 0, 0), (29, .ishr, 0, 0, 0), (30, .iconst 1, 0, 0, 0), (31, .iand, 0, 0, 0), (32, .iconst 1, 0, 0, 0), (33, .if_icmp .ne 34, 0, 0, 0), (36, .aload_n 0, 0, 0, 0), (37, .getfield 41, 11, 7, 585), (40, .aload_n 0, 0, 0, 0), (41, .getfield 12, 11, 0, 578), (44, .getfield 328, 10, 15, 339), (47, .getfield 344, 3, 1, 282), (50, .iload_n 2, 0, 0, 0), (51, .iaload, 0, 0, 0), (52, .aload_n 0, 0, 0, 0), (53, .getfield 12, 11, 0, 578), (56, .getfield 328, 10, 15, 339), (59, .getfield 347, 3, 2, 284), (62, .iload_n 2, 0, 0, 0), (63, .iaload, 0, 0, 0), (64, .invokevirtual 325, 2, 3, 1136), (67, .iinc 2 1, 0, 0, 0), (70, .goto (-57), 0, 0, 0), (73, .aload_n 0, 0, 0, 0), (74, .getfield 41, 11, 7, 585), (77, .invokevirtual 209, 6, 1, 985), (80, .lreturn, 0, 0, 0)]
def cd_121 : List am_E := [(0, .aload_n 0, 0, 0, 0), (1, .getfield 12, 11, 0, 578), (4, .getfield 78, 10, 0, 293), (7, .ifCond .eq 34, 0, 0, 0), (10, .iload_n 1, 0, 0, 0), (11, .bipush (-60), 0, 0, 0), (13, .bipush 60, 0, 0, 0), (15, .invokestatic 69, 135, 3, 619), (18, .ifCond .eq 23, 0, 0, 0), (21, .iload_n 2, 0, 0, 0), (22, .iconst 0, 0, 0, 0), (23, .sipush 9999, 0, 0, 0), (26, .invokestatic 69, 135, 3, 619), (29, .ifCond .eq 12, 0, 0, 0), (32, .iload_n 3, 0, 0, 0), (33, .iconst 0, 0, 0, 0), (34, .iconst 2, 0, 0, 0), (35, .invokestatic 69, 135, 3, 619), (38, .ifCond .ne 5, 0, 0, 0), (41, .iconst (-1), 0, 0, 0), (42, .ireturn, 0, 0, 0), (43, .aload_n 0, 0, 0, 0), (44, .getfield 12, 11, 0, 578), (47, .getfield 89, 10, 11, 326), (50, .astore 4, 0, 0, 0), (52, .ldc_w 350, 0, 1000000000, 1164), (55, .istore 5, 0, 0, 0), (57, .bipush (-2), 0, 0, 0), (59, .istore 6, 0, 0, 0), (61, .bipush (-2), 0, 0, 0), (63, .istore 7, 0, 0, 0), (65, .iconst 0, 0, 0, 0), (66, .istore 8, 0, 0, 0), (68, .iload 8, 0, 0, 0), (70, .aload 4, 0, 0, 0), (72, .getfield 93, 6, 0, 140), (75, .if_icmp .ge 93, 0, 0, 0), (78, .aload 4, 0, 0, 0), (80, .getfield 116, 6, 8, 168), (83, .iload 8, 0, 0, 0), (85, .iaload, 0, 0, 0), (86, .istore 9, 0, 0, 0), (88, .iconst 0, 0, 0, 0), (89, .istore 10, 0, 0, 0), (91, .iload 10, 0, 0, 0), (93, .bipush 100, 0, 0, 0), (95, .if_icmp .gt 56, 0, 0, 0), (98, .aload_n 0, 0, 0, 0), (99, .getfield 12, 11, 0, 578), (102, .iload 8, 0, 0, 0), (104, .aload 4, 0, 0, 0), (106, .iload 8, 0, 0, 0), (108, .iload 10, 0, 0, 0), (110, .invokevirtual 279, 32, 3, 1053), (113, .invokevirtual 119, 71, 3, 678), (116, .aload_n 0, 0, 0, 0), (117, .iload_n 1, 0, 0, 0), (118, .iload_n 2, 0, 0, 0), (119, .iload 5, 0, 0, 0), (121, .invokevirtual 351, 122, 4, 1165), (124, .istore 11, 0, 0, 0), (126, .iload 11, 0, 0, 0), (128, .iload 5, 0, 0, 0), (130, .if_icmp .ge 15, 0, 0, 0), (133, .iload 11, 0, 0, 0), (135, .istore 5, 0, 0, 0), (137, .iload 8, 0, 0, 0), (139, .istore 6, 0, 0, 0), (141, .iload 10, 0, 0, 0), (143, .istore 7, 0, 0, 0), (145, .iinc 10 1, 0, 0, 0), (148, .goto (-57), 0, 0, 0), (151, .aload_n 0, 0, 0, 0), (152, .getfield 12, 11, 0, 578), (155, .iload 8, 0, 0, 0), (157, .iload 9, 0, 0, 0), (159, .invokevirtual 119, 71, 3, 678), (162, .iinc 8 1, 0, 0, 0), (165, .goto (-97), 0, 0, 0), (168, .iload 6, 0, 0, 0), (170, .ifCond .ge 6, 0, 0, 0), (173, .bipush (-2), 0, 0, 0), (175, .ireturn, 0, 0, 0), (176, .iload_n 3, 0, 0, 0), (177, .ifCond .ne 8, 0, 0, 0), (180, .iload 6, 0, 0, 0), (182, .goto 15, 0, 0, 0), (185, .iload_n 3, 0, 0, 0), (186, .iconst 1, 0, 0, 0), (187, .if_icmp .ne 8, 0, 0, 0), (190, .iload 7, 0, 0, 0), (192, .goto 5, 0, 0, 0), (195, .iload 5, 0, 0, 0), (197, .ireturn, 0, 0, 0)]
def cd_122 : List am_E := [(0, .aload_n 0, 0, 0, 0), (1, .getfield 41, 11, 7, 585), (4, .aload_n 0, 0, 0, 0), (5, .getfield 12, 11, 0, 578), (8, .invokevirtual 205, 1, 2, 984), (11, .aload_n 0, 0, 0, 0), (12, .getfield 41, 11, 7, 585), (15, .invokevirtual 213, 7, 1, 986), (18, .iconst 0, 0, 0, 0), (19, .invokestatic 355, 1002, 0, 1169), (22, .iload_n 2, 0, 0, 0), (23, .isub, 0, 0, 0), (24, .invokestatic 291, 1004, 0, 1071), (27, .istore 4, 0, 0, 0), (29, .iload 4, 0, 0, 0), (31, .iload_n 3, 0, 0, 0), (32, .if_icmp .lt 6, 0, 0, 0), (35, .iload 4, 0, 0, 0), (37, .ireturn, 0, 0, 0), (38, .iload 4, 0, 0, 0), (40, .bipush 10, 0, 0, 0), (42, .aload_n 0, 0, 0, 0), (43, .getfield 41, 11, 7, 585), (46, .iconst 0, 0, 0, 0), (47, .bipush 120, 0, 0, 0), (49, .invokevirtual 233, 5, 3, 1019), (52, .iload_n 1, 0, 0, 0), (53, .isub, 0, 0, 0), (54, .invokestatic 291, 1004, 0, 1071), (57, .imul, 0, 0, 0), (58, .iadd, 0, 0, 0), (59, .ireturn, 0, 0, 0)]
def cd_123 : List am_E := [(0, .aload_n 0, 0, 0, 0), (1, .getfield 12, 11, 0, 578), (4, .getfield 78, 10, 0, 293), (7, .ifCond .eq 33, 0, 0, 0), (10, .iload_n 1, 0, 0, 0), (11, .iconst 1, 0, 0, 0), (12, .iconst 4, 0, 0, 0), (13, .invokestatic 69, 135, 3, 619), (16, .ifCond .eq 24, 0, 0, 0), (19, .iload_n 2, 0, 0, 0), (20, .iconst 1, 0, 0, 0), (21, .bipush 10, 0, 0, 0), (23, .invokestatic 69, 135, 3, 619), (26, .ifCond .eq 14, 0, 0, 0), (29, .iload_n 3, 0, 0, 0), (30, .iconst (-1), 0, 0, 0), (31, .iload_n 1, 0, 0, 0), (32, .iconst 1, 0, 0, 0), (33, .isub, 0, 0, 0), (34, .invokestatic 69, 135, 3, 619), (37, .ifCond .ne 6, 0, 0, 0), (40, .bipush (-3), 0, 0, 0), (42, .ireturn, 0, 0, 0), (43, .aload_n 0, 0, 0, 0), (44, .getfield 169, 11, 3, 581), (47, .ifCond .ne 6, 0, 0, 0), (50, .bipush (-2), 0, 0, 0), (52, .ireturn, 0, 0, 0), (53, .aload_n 0, 0, 0, 0), (54, .getfield 62, 11, 10, 588), (57, .aload_n 0, 0, 0, 0), (58, .getfield 12, 11, 0, 578), (61, .aload_n 0, 0, 0, 0), (62, .getfield 169, 11, 3, 581), (65, .iload_n 1, 0, 0, 0), (66, .iload_n 2, 0, 0, 0), (67, .invokevirtual 358, 12, 5, 1174), (70, .aload_n 0, 0, 0, 0), (71, .getfield 62, 11, 10, 588), (74, .aload_n 0, 0, 0, 0), (75, .getfield 12, 11, 0, 578), (78, .aload_n 0, 0, 0, 0), (79, .getfield 22, 11, 2, 580), (82, .iconst 0, 0, 0, 0), (83, .iconst 0, 0, 0, 0), (84, .invokevirtual 361, 13, 5, 10022), (87, .aload_n 0, 0, 0, 0), (88, .getfield 12, 11, 0, 578), (91, .aload_n 0, 0, 0, 0), (92, .getfield 62, 11, 10, 588), (95, .getfield 365, 1, 7, 560), (98, .iconst 0, 0, 0, 0), (99, .invokevirtual 317, 80, 3, 1115), (102, .iload_n 3, 0, 0, 0), (103, .ifCond .ge 13, 0, 0, 0), (106, .aload_n 0, 0, 0, 0), (107, .getfield 62, 11, 10, 588), (110, .getfield 368, 1, 6, 558), (113, .goto 12, 0, 0, 0), (116, .aload_n 0, 0, 0, 0), (117, .getfield 62, 11, 10, 588), (120, .getfield 371, 1, 5, 556), (123, .iload_n 3, 0, 0, 0), (124, .iaload, 0, 0, 0), (125, .ireturn, 0, 0, 0)]
def cd_124 : List am_E := [(0, .aload_n 0, 0, 0, 0), (1, .iload_n 1, 0, 0, 0), (2, .invokevirtual 109, 132, 2, 674), (5, .ifCond .eq 17, 0, 0, 0), (8, .aload_n 0, 0, 0, 0), (9, .getfield 12, 11, 0, 578), (12, .getfield 89, 10, 11, 326), (15, .iload_n 1, 0, 0, 0), (16, .invokevirtual 372, 34, 2, 1193), (19, .goto 4, 0, 0, 0), (22, .iconst (-1), 0, 0, 0), (23, .ireturn, 0, 0, 0)]
def cd_125 : List am_E := [(0, .aload_n 0, 0, 0, 0), (1, .iload_n 1, 0, 0, 0), (2, .invokevirtual 109, 132, 2, 674), (5, .ifCond .ne 5, 0, 0, 0), (8, .iconst (-1), 0, 0, 0), (9, .ireturn, 0, 0, 0), (10, .aload_n 0, 0, 0, 0), (11, .getfield 12, 11, 0, 578), (14, .getfield 89, 10, 11, 326), (17, .getfield 116, 6, 8, 168), (20, .iload_n 1, 0, 0, 0), (21, .iaload, 0, 0, 0), (22, .istore_n 2, 0, 0, 0), (23, .ldc_w 350, 0, 1000000000, 1164), (26, .istore_n 3, 0, 0, 0), (27, .bipush (-2), 0, 0, 0), (29, .istore 4, 0, 0, 0), (31, .iconst 1, 0, 0, 0), (32, .istore 5, 0, 0, 0), (34, .iload 5, 0, 0, 0), (36, .bipush 100, 0, 0, 0), (38, .if_icmp .gt 96, 0, 0, 0), (41, .aload_n 0, 0, 0, 0), (42, .getfield 12, 11, 0, 578), (45, .iload_n 1, 0, 0, 0), (46, .aload_n 0, 0, 0, 0), (47, .getfield 12, 11, 0, 578), (50, .getfield 89, 10, 11, 326), (53, .iload_n 1, 0, 0, 0), (54, .iload 5, 0, 0, 0), (56, .invokevirtual 279, 32, 3, 1053), (59, .invokevirtual 119, 71, 3, 678), (62, .aload_n 0, 0, 0, 0), (63, .getfield 41, 11, 7, 585), (66, .aload_n 0, 0, 0, 0), (67, .getfield 12, 11, 0, 578), (70, .invokevirtual 205, 1, 2, 984), (73, .aload_n 0, 0, 0, 0), (74, .getfield 12, 11, 0, 578), (77, .getfield 89, 10, 11, 326), (80, .iload_n 1, 0, 0, 0), (81, .invokevirtual 372, 34, 2, 1193), (84, .istore 6, 0, 0, 0), (86, .aload_n 0, 0, 0, 0), (87, .getfield 41, 11, 7, 585), (90, .invokevirtual 213, 7, 1, 986), (93, .istore 7, 0, 0, 0), (95, .iload 6, 0, 0, 0), (97, .iload 7, 0, 0, 0), (99, .isub, 0, 0, 0), (100, .invokestatic 291, 1004, 0, 1071), (103, .istore 8, 0, 0, 0), (105, .iload 6, 0, 0, 0), (107, .ifCond .lt 21, 0, 0, 0), (110, .iload 7, 0, 0, 0), (112, .ifCond .lt 16, 0, 0, 0), (115, .iload 8, 0, 0, 0), (117, .iload_n 3, 0, 0, 0), (118, .if_icmp .ge 10, 0, 0, 0), (121, .iload 8, 0, 0, 0), (123, .istore_n 3, 0, 0, 0), (124, .iload 5, 0, 0, 0), (126, .istore 4, 0, 0, 0), (128, .iinc 5 1, 0, 0, 0), (131, .goto (-97), 0, 0, 0), (134, .aload_n 0, 0, 0, 0), (135, .getfield 12, 11, 0, 578), (138, .iload_n 1, 0, 0, 0), (139, .iload_n 2, 0, 0, 0), (140, .invokevirtual 119, 71, 3, 678), (143, .iload 4, 0, 0, 0), (145, .ireturn, 0, 0, 0)]
def cd_126 : List am_E := [(0, .aload_n 0, 0, 0, 0), (1, .getfield 12, 11, 0, 578), (4, .getfield 78, 10, 0, 293), (7, .ifCond .eq 24, 0, 0, 0), (10, .iload_n 1, 0, 0, 0), (11, .iconst (-1), 0, 0, 0), (12, .if_icmp .eq 8, 0, 0, 0), (15, .iload_n 1, 0, 0, 0), (16, .iconst 1, 0, 0, 0), (17, .if_icmp .ne 14, 0, 0, 0), (20, .iload_n 2, 0, 0, 0), (21, .iconst 0, 0, 0, 0), (22, .sipush 3000, 0, 0, 0), (25, .invokestatic 69, 135, 3, 619), (28, .ifCond .ne 5, 0, 0, 0), (31, .iconst (-1), 0, 0, 0), (32, .ireturn, 0, 0, 0), (33, .iconst 0, 0, 0, 0), (34, .istore_n 3, 0, 0, 0), (35, .iload_n 3, 0, 0, 0), (36, .bipush 60, 0, 0, 0), (38, .if_icmp .gt 26, 0, 0, 0), (41, .aload_n 0, 0, 0, 0), (42, .getfield 12, 11, 0, 578), (45, .iload_n 1, 0, 0, 0), (46, .iload_n 1, 0, 0, 0), (47, .iload_n 3, 0, 0, 0), (48, .imul, 0, 0, 0), (49, .invokevirtual 273, 75, 3, 1044), (52, .iload_n 2, 0, 0, 0), (53, .if_icmp .le 5, 0, 0, 0), (56, .iload_n 3, 0, 0, 0), (57, .ireturn, 0, 0, 0), (58, .iinc 3 1, 0, 0, 0), (61, .goto (-26), 0, 0, 0), (64, .bipush (-2), 0, 0, 0), (66, .ireturn, 0, 0, 0)]
def cd_127 : List am_E := [(0, .aload_n 0, 0, 0, 0), (1, .iload_n 1, 0, 0, 0), (2, .invokevirtual 109, 132, 2, 674), (5, .ifCond .eq 13, 0, 0, 0), (8, .iload_n 2, 0, 0, 0), (9, .iconst 0, 0, 0, 0), (10, .ldc 73, 0, 99999, 622), (12, .invokestatic 69, 135, 3, 619), (15, .ifCond .ne 5, 0, 0, 0), (18, .iconst (-1), 0, 0, 0), (19, .ireturn, 0, 0, 0), (20, .aload_n 0, 0, 0, 0), (21, .getfield 12, 11, 0, 578), (24, .getfield 89, 10, 11, 326), (27, .getfield 116, 6, 8, 168), (30, .iload_n 1, 0, 0, 0), (31, .iaload, 0, 0, 0), (32, .istore_n 3, 0, 0, 0), (33, .bipush (-2), 0, 0, 0), (35, .istore 4, 0, 0, 0), (37, .iconst 0, 0, 0, 0), (38, .istore 5, 0, 0, 0), (40, .iload 5, 0, 0, 0), (42, .sipush 400, 0, 0, 0), (45, .if_icmp .gt 42, 0, 0, 0), (48, .iload 4, 0, 0, 0), (50, .ifCond .ge 37, 0, 0, 0), (53, .aload_n 0, 0, 0, 0), (54, .getfield 12, 11, 0, 578), (57, .getfield 89, 10, 11, 326), (60, .getfield 116, 6, 8, 168), (63, .iload_n 1, 0, 0, 0), (64, .iaload, 0, 0, 0), (65, .iload_n 2, 0, 0, 0), (66, .if_icmp .gt 10, 0, 0, 0), (69, .iload 5, 0, 0, 0), (71, .istore 4, 0, 0, 0), (73, .goto 8, 0, 0, 0), (76, .aload_n 0, 0, 0, 0), (77, .iload_n 1, 0, 0, 0), (78, .invokevirtual 375, 128, 2, 1211), (81, .iinc 5 1, 0, 0, 0), (84, .goto (-44), 0, 0, 0), (87, .aload_n 0, 0, 0, 0), (88, .getfield 12, 11, 0, 578), (91, .iload_n 1, 0, 0, 0), (92, .iload_n 3, 0, 0, 0), (93, .invokevirtual 119, 71, 3, 678), (96, .iload 4, 0, 0, 0), (98, .ireturn, 0, 0, 0)]
def cd_128 : List am_E := [(0, .iconst 0, 0, 0, 0), (1, .istore_n 2, 0, 0, 0), (2, .iload_n 2, 0, 0, 0), (3, .aload_n 0, 0, 0, 0), (4, .getfield 12, 11, 0, 578), (7, .getfield 144, 10, 14, 337), (10, .getfield 147, 4, 0, 251), (13, .if_icmp .ge 33, 0, 0, 0), (16, .aload_n 0, 0, 0, 0), (17, .getfield 12, 11, 0, 578), (20, .getfield 144, 10, 14, 337), (23, .getfield 378, 4, 1, 254), (26, .iload_n 2, 0, 0, 0), (27, .iaload, 0, 0, 0), (28, .iload_n 1, 0, 0, 0), (29, .if_icmp .ne 11, 0, 0, 0), (32, .aload_n 0, 0, 0, 0), (33, .getfield 12, 11, 0, 578), (36, .iload_n 2, 0, 0, 0), (37, .invokevirtual 381, 78, 2, 1215), (40, .iinc 2 1, 0, 0, 0), (43, .goto (-41), 0, 0, 0), (46, .return_, 0, 0, 0)]
def cd_129 : List am_E := [(0, .iload_n 1, 0, 0, 0), (1, .iconst 4, 0, 0, 0), (2, .if_icmp .ne 8, 0, 0, 0), (5, .aload_n 0, 0, 0, 0), (6, .getfield 169, 11, 3, 581), (9, .ireturn, 0, 0, 0), (10, .iload_n 1, 0, 0, 0), (11, .iconst 5, 0, 0, 0), (12, .if_icmp .ne 8, 0, 0, 0), (15, .aload_n 0, 0, 0, 0), (16, .getfield 162, 11, 5, 583), (19, .ireturn, 0, 0, 0), (20, .aload_n 0, 0, 0, 0), (21, .getfield 12, 11, 0, 578), (24, .getfield 78, 10, 0, 293), (27, .ifCond .ne 5, 0, 0, 0), (30, .iconst (-1), 0, 0, 0), (31, .ireturn, 0, 0, 0), (32, .iload_n 1, 0, 0, 0), (33, .tableswitch 98 0 6 #[43, 54, 65, 76, 98, 98, 87], 43, 0, 0), (76, .aload_n 0, 0, 0, 0), (77, .getfield 12, 11, 0, 578), (80, .getfield 89, 10, 11, 326), (83, .getfield 93, 6, 0, 140), (86, .ireturn, 0, 0, 0), (87, .aload_n 0, 0, 0, 0), (88, .getfield 12, 11, 0, 578), (91, .getfield 125, 10, 12, 331), (94, .getfield 129, 2, 0, 217), (97, .ireturn, 0, 0, 0), (98, .aload_n 0, 0, 0, 0), (99, .getfield 12, 11, 0, 578), (102, .getfield 136, 10, 13, 334), (105, .getfield 147, 4, 0, 251), (108, .ireturn, 0, 0, 0), (109, .aload_n 0, 0, 0, 0), (110, .getfield 12, 11, 0, 578), (113, .getfield 144, 10, 14, 337), (116, .getfield 147, 4, 0, 251), (119, .ireturn, 0, 0, 0), (120, .aload_n 0, 0, 0, 0), (121, .getfield 12, 11, 0, 578), (124, .getfield 328, 10, 15, 339), (127, .getfield 332, 3, 0, 280), (130, .ireturn, 0, 0, 0), (131, .iconst (-1), 0, 0, 0), (132, .ireturn, 0, 0, 0)]
def cd_130 : List am_E := [(0, .aload_n 0, 0, 0, 0), (1, .getfield 12, 11, 0, 578), (4, .getfield 78, 10, 0, 293), (7, .ifCond .eq 12, 0, 0, 0), (10, .iload_n 1, 0, 0, 0), (11, .iconst 0, 0, 0, 0), (12, .iconst 3, 0, 0, 0), (13, .invokestatic 69, 135, 3, 619), (16, .ifCond .ne 5, 0, 0, 0), (19, .iconst (-1), 0, 0, 0), (20, .ireturn, 0, 0, 0), (21, .aload_n 0, 0, 0, 0), (22, .getfield 16, 11, 1, 579), (25, .iload_n 1, 0, 0, 0), (26, .aaload, 0, 0, 0), (27, .aload_n 0, 0, 0, 0), (28, .getfield 12, 11, 0, 578), (31, .invokevirtual 384, 81, 2, 1224), (34, .aload_n 0, 0, 0, 0), (35, .getfield 12, 11, 0, 578), (38, .getfield 187, 10, 8, 315), (41, .ireturn, 0, 0, 0)]
def cd_131 : List am_E := [(0, .aload_n 0, 0, 0, 0), (1, .iload_n 1, 0, 0, 0), (2, .invokevirtual 320, 134, 2, 1123), (5, .ifCond .ne 5, 0, 0, 0), (8, .iconst (-1), 0, 0, 0), (9, .ireturn, 0, 0, 0), (10, .aload_n 0, 0, 0, 0), (11, .getfield 12, 11, 0, 578), (14, .aload_n 0, 0, 0, 0), (15, .getfield 16, 11, 1, 579), (18, .iload_n 1, 0, 0, 0), (19, .aaload, 0, 0, 0), (20, .invokevirtual 384, 81, 2, 1224), (23, .aload_n 0, 0, 0, 0), (24, .getfield 12, 11, 0, 578), (27, .getfield 187, 10, 8, 315), (30, .ireturn, 0, 0, 0)]
def cd_132 : List am_E := [(0, .aload_n 0, 0, 0, 0), (1, .getfield 12, 11, 0, 578), (4, .getfield 78, 10, 0, 293), (7, .ifCond .eq 25, 0, 0, 0), (10, .iload_n 1, 0, 0, 0), (11, .ifCond .lt 21, 0, 0, 0), (14, .iload_n 1, 0, 0, 0), (15, .aload_n 0, 0, 0, 0), (16, .getfield 12, 11, 0, 578), (19, .getfield 89, 10, 11, 326), (22, .getfield 93, 6, 0, 140), (25, .if_icmp .ge 7, 0, 0, 0), (28, .iconst 1, 0, 0, 0), (29, .goto 4, 0, 0, 0), (32, .iconst 0, 0, 0, 0), (33, .ireturn, 0, 0, 0)]
def cd_133 : List am_E := [(0, .iload_n 1, 0, 0, 0), (1, .ifCond .lt 15, 0, 0, 0), (4, .iload_n 1, 0, 0, 0), (5, .aload_n 0, 0, 0, 0), (6, .getfield 169, 11, 3, 581), (9, .if_icmp .ge 7, 0, 0, 0), (12, .iconst 1, 0, 0, 0), (13, .goto 4, 0, 0, 0), (16, .iconst 0, 0, 0, 0), (17, .ireturn, 0, 0, 0)]
def cd_134 : List am_E := [(0, .iload_n 1, 0, 0, 0), (1, .iconst 0, 0, 0, 0), (2, .iconst 3, 0, 0, 0), (3, .invokestatic 69, 135, 3, 619), (6, .ifCond .eq 19, 0, 0, 0), (9, .aload_n 0, 0, 0, 0), (10, .getfield 16, 11, 1, 579), (13, .iload_n 1, 0, 0, 0), (14, .aaload, 0, 0, 0), (15, .getfield 78, 10, 0, 293), (18, .ifCond .eq 7, 0, 0, 0), (21, .iconst 1, 0, 0, 0), (22, .goto 4, 0, 0, 0), (25, .iconst 0, 0, 0, 0), (26, .ireturn, 0, 0, 0)]
def cd_135 : List am_E := [(0, .iload_n 0, 0, 0, 0), (1, .iload_n 1, 0, 0, 0), (2, .if_icmp .lt 12, 0, 0, 0), (5, .iload_n 0, 0, 0, 0), (6, .iload_n 2, 0, 0, 0), (7, .if_icmp .gt 7, 0, 0, 0), (10, .iconst 1, 0, 0, 0), (11, .goto 4, 0, 0, 0), (14, .iconst 0, 0, 0, 0), (15, .ireturn, 0, 0, 0)]
def cd_136 : List am_E := [(0, .iconst 0, 0, 0, 0), (1, .istore_n 2, 0, 0, 0), (2, .sipush 4096, 0, 0, 0), (5, .istore_n 3, 0, 0, 0), (6, .iload_n 3, 0, 0, 0), (7, .ifCond .le 30, 0, 0, 0), (10, .iload_n 2, 0, 0, 0), (11, .iload_n 3, 0, 0, 0), (12, .iadd, 0, 0, 0), (13, .i2l, 0, 0, 0), (14, .lstore 4, 0, 0, 0), (16, .lload 4, 0, 0, 0), (18, .lload 4, 0, 0, 0), (20, .lmul, 0, 0, 0), (21, .lload_n 0, 0, 0, 0), (22, .lcmp, 0, 0, 0), (23, .ifCond .gt 7, 0, 0, 0), (26, .iload_n 2, 0, 0, 0), (27, .iload_n 3, 0, 0, 0), (28, .iadd, 0, 0, 0), (29, .istore_n 2, 0, 0, 0), (30, .iload_n 3, 0, 0, 0), (31, .iconst 1, 0, 0, 0), (32, .ishr, 0, 0, 0), (33, .istore_n 3, 0, 0, 0), (34, .goto (-28), 0, 0, 0), (37, .iload_n 2, 0, 0, 0), (38, .ireturn, 0, 0, 0)]
def cd_137 : List am_E := [(0, .lload_n 2, 0, 0, 0), (1, .lconst 0, 0, 0, 0), (2, .lcmp, 0, 0, 0), (3, .ifCond .gt 5, 0, 0, 0), (6, .lconst 0, 0, 0, 0), (7, .lreturn, 0, 0, 0), (8, .lload_n 0, 0, 0, 0), (9, .lload_n 2, 0, 0, 0), (10, .lrem, 0, 0, 0), (11, .lconst 0, 0, 0, 0), (12, .lcmp, 0, 0, 0), (13, .ifCond .ge 11, 0, 0, 0), (16, .lload_n 0, 0, 0, 0), (17, .lload_n 2, 0, 0, 0), (18, .ldiv, 0, 0, 0), (19, .lconst 1, 0, 0, 0), (20, .lsub, 0, 0, 0), (21, .goto 6, 0, 0, 0), (24, .lload_n 0, 0, 0, 0), (25, .lload_n 2, 0, 0, 0), (26, .ldiv, 0, 0, 0), (27, .lreturn, 0, 0, 0)]
def cd_138 : List am_E := [(0, .aload_n 0, 0, 0, 0), (1, .invokespecial 1, 1001, 0, 1257), (4, .aload_n 0, 0, 0, 0), (5, .bipush 14, 0, 0, 0), (7, .newarray .int, 0, 0, 0), (9, .putfield 7, 12, 1, 1258), (12, .aload_n 0, 0, 0, 0), (13, .bipush 13, 0, 0, 0), (15, .newarray .int, 0, 0, 0), (17, .putfield 13, 12, 2, 1259), (20, .aload_n 0, 0, 0, 0), (21, .bipush 6, 0, 0, 0), (23, .newarray .int, 0, 0, 0), (25, .putfield 16, 12, 3, 1260), (28, .aload_n 0, 0, 0, 0), (29, .bipush 6, 0, 0, 0), (31, .newarray .int, 0, 0, 0), (33, .putfield 19, 12, 4, 1261), (36, .aload_n 0, 0, 0, 0), (37, .bipush 12, 0, 0, 0), (39, .newarray .int, 0, 0, 0), (41, .putfield 22, 12, 5, 1262), (44, .aload_n 0, 0, 0, 0), (45, .bipush 12, 0, 0, 0), (47, .newarray .int, 0, 0, 0), (49, .putfield 25, 12, 6, 1263), (52, .aload_n 0, 0, 0, 0), (53, .bipush 12, 0, 0, 0), (55, .newarray .int, 0, 0, 0), (57, .putfield 28, 12, 7, 1264), (60, .aload_n 0, 0, 0, 0), (61, .bipush 12, 0, 0, 0), (63, .newarray .int, 0, 0, 0), (65, .putfield 31, 12, 8, 1265), (68, .aload_n 0, 0, 0, 0), (69, .bipush 12, 0, 0, 0), (71, .newarray .int, 0, 0, 0), (73, .putfield 34, 12, 9, 1266), (76, .aload_n 0, 0, 0, 0), (77, .bipush 12, 0, 0, 0), (79, .newarray .int, 0, 0, 0), (81, .putfield 37, 12, 10, 1267), (84, .aload_n 0, 0, 0, 0), (85, .bipush 12, 0, 0, 0), (87, .newarray .int, 0, 0, 0), (89, .putfield 40, 12, 11, 1268), (92, .aload_n 0, 0, 0, 0), (93, .bipush 6, 0, 0, 0), (95, .newarray .int, 0, 0, 0), (97, .putfield 43, 12, 12, 1269), (100, .aload_n 0, 0, 0, 0), (101, .bipush 6, 0, 0, 0), (103, .newarray .int, 0, 0, 0), (105, .putfield 46, 12, 13, 1270), (108, .aload_n 0, 0, 0, 0), (109, .bipush 6, 0, 0, 0), (111, .newarray .int, 0, 0, 0), (113, .putfield 49, 12, 14, 1271), (116, .aload_n 0, 0, 0, 0), (117, .bipush 6, 0, 0, 0), (119, .newarray .int, 0, 0, 0), (121, .putfield 52, 12, 15, 1272), (124, .aload_n 0, 0, 0, 0), (125, .bipush 6, 0, 0, 0), (127, .newarray .int, 0, 0, 0), (129, .putfield 55, 12, 16, 1273), (132, .aload_n 0, 0, 0, 0), (133, .bipush 12, 0, 0, 0), (135, .newarray .int, 0, 0, 0), (137, .putfield 58, 12, 17, 1274), (140, .aload_n 0, 0, 0, 0), (141, .bipush 12, 0, 0, 0), (143, .newarray .int, 0, 0, 0), (145, .putfield 61, 12, 18, 1275), (148, .aload_n 0, 0, 0, 0), (149, .bipush 12, 0, 0, 0), (151, .newarray .int, 0, 0, 0), (153, .putfield 64, 12, 19, 1276), (156, .aload_n 0, 0, 0, 0), (157, .bipush 12, 0, 0, 0), (159, .newarray .int, 0, 0, 0), (161, .putfield 67, 12, 20, 1277), (164, .aload_n 0, 0, 0, 0), (165, .bipush 12, 0, 0, 0), (167, .newarray .int, 0, 0, 0), (169, .putfield 70, 12, 21, 1278), (172, .aload_n 0, 0, 0, 0), (173, .bipush 12, 0, 0, 0), (175, .newarray .int, 0, 0, 0), (177, .putfield 73, 12, 22, 1279), (180, .aload_n 0, 0, 0, 0), (181, .bipush 12, 0, 0, 0), (183, .newarray .int, 0, 0, 0), (185, .putfield 76, 12, 23, 1280), (188, .aload_n 0, 0, 0, 0), (189, .bipush 12, 0, 0, 0), (191, .newarray .int, 0, 0, 0), (193, .putfield 79, 12, 24, 1281), (196, .aload_n 0, 0, 0, 0), (197, .bipush 19, 0, 0, 0), (199, .putfield 82, 12, 36, 1293), (202, .aload_n 0, 0, 0, 0), (203, .sipush 400, 0, 0, 0), (206, .newarray .byte, 0, 0, 0), (208, .putfield 86, 12, 37, 1294), (211, .aload_n 0, 0, 0, 0), (212, .sipush 1800, 0, 0, 0), (215, .newarray .int, 0, 0, 0), (217, .putfield 90, 12, 38, 1295), (220, .aload_n 0, 0, 0, 0), (221, .sipush 1800, 0, 0, 0), (224, .newarray .int, 0, 0, 0), (226, .putfield 93, 12, 39, 1296), (229, .aload_n 0, 0, 0, 0), (230, .bipush 6, 0, 0, 0), (232, .newarray .int, 0, 0, 0), (234, .putfield 96, 12, 40, 1297), (237, .aload_n 0, 0, 0, 0), (238, .bipush 72, 0, 0, 0), (240, .newarray .int, 0, 0, 0), (242, .putfield 99, 12, 41, 1298), (245, .aload_n 0, 0, 0, 0), (246, .bipush 72, 0, 0, 0), (248, .newarray .int, 0, 0, 0), (250, .putfield 102, 12, 42, 1299), (253, .aload_n 0, 0, 0, 0), (254, .bipush 72, 0, 0, 0), (256, .newarray .int, 0, 0, 0), (258, .putfield 105, 12, 43, 1300), (261, .aload_n 0, 0, 0, 0), (262, .bipush 72, 0, 0, 0), (264, .newarray .int, 0, 0, 0), (266, .putfield 108, 12, 44, 1301), (269, .aload_n 0, 0, 0, 0), (270, .bipush 72, 0, 0, 0), (272, .newarray .int, 0, 0, 0), (274, .putfield 111, 12, 45, 1302), (277, .aload_n 0, 0, 0, 0), (278, .bipush 72, 0, 0, 0), (280, .newarray .int, 0, 0, 0), (282, .putfield 114, 12, 46, 1303), (285, .aload_n 0, 0, 0, 0), (286, .bipush 72, 0, 0, 0), (288, .newarray .int, 0, 0, 0), (290, .putfield 117, 12, 47, 1304), (293, .aload_n 0, 0, 0, 0), (294, .sipush 402, 0, 0, 0), (297, .newarray .int, 0, 0, 0), (299, .putfield 120, 12, 48, 1305), (302, .aload_n 0, 0, 0, 0), (303, .bipush 19, 0, 0, 0), (305, .newarray .long, 0, 0, 0), (307, .putfield 123, 12, 49, 1306), (310, .aload_n 0, 0, 0, 0), (311, .sipush 300, 0, 0, 0), (314, .newarray .long, 0, 0, 0), (316, .putfield 127, 12, 50, 1307), (319, .aload_n 0, 0, 0, 0), (320, .sipush 1250, 0, 0, 0), (323, .newarray .int, 0, 0, 0), (325, .putfield 130, 12, 51, 1308), (328, .aload_n 0, 0, 0, 0), (329, .iconst 4, 0, 0, 0), (330, .newarray .boolean, 0, 0, 0), (332, .putfield 133, 12, 52, 1309), (335, .aload_n 0, 0, 0, 0), (336, .bipush 12, 0, 0, 0), (338, .newarray .int, 0, 0, 0), (340, .putfield 137, 12, 55, 1312), (343, .return_, 0, 0, 0)]
def cd_139 : List am_E := [(0, .lload_n 0, 0, 0, 0), (1, .lload_n 2, 0, 0, 0), (2, .lcmp, 0, 0, 0), (3, .ifCond .lt 14, 0, 0, 0), (6, .lload_n 0, 0, 0, 0), (7, .lload 4, 0, 0, 0), (9, .lcmp, 0, 0, 0), (10, .ifCond .gt 7, 0, 0, 0), (13, .iconst 1, 0, 0, 0), (14, .goto 4, 0, 0, 0), (17, .iconst 0, 0, 0, 0), (18, .ireturn, 0, 0, 0)]
def cd_140 : List am_E := [(0, .lload_n 0, 0, 0, 0), (1, .lload_n 2, 0, 0, 0), (2, .lcmp, 0, 0, 0), (3, .ifCond .ge 7, 0, 0, 0), (6, .lload_n 2, 0, 0, 0), (7, .goto 16, 0, 0, 0), (10, .lload_n 0, 0, 0, 0), (11, .lload 4, 0, 0, 0), (13, .lcmp, 0, 0, 0), (14, .ifCond .le 8, 0, 0, 0), (17, .lload 4, 0, 0, 0), (19, .goto 4, 0, 0, 0), (22, .lload_n 0, 0, 0, 0), (23, .lreturn, 0, 0, 0)]
def cd_141 : List am_E := [(0, .lload_n 0, 0, 0, 0), (1, .lload_n 2, 0, 0, 0), (2, .lrem, 0, 0, 0), (3, .lconst 0, 0, 0, 0), (4, .lcmp, 0, 0, 0), (5, .ifCond .ge 11, 0, 0, 0), (8, .lload_n 0, 0, 0, 0), (9, .lload_n 2, 0, 0, 0), (10, .ldiv, 0, 0, 0), (11, .lconst 1, 0, 0, 0), (12, .lsub, 0, 0, 0), (13, .goto 6, 0, 0, 0), (16, .lload_n 0, 0, 0, 0), (17, .lload_n 2, 0, 0, 0), (18, .ldiv, 0, 0, 0), (19, .lreturn, 0, 0, 0)]
def cd_142 : List am_E := [(0, .iload_n 0, 0, 0, 0), (1, .ifCond .ge 8, 0, 0, 0), (4, .iload_n 0, 0, 0, 0), (5, .ineg, 0, 0, 0), (6, .goto 4, 0, 0, 0), (9, .iload_n 0, 0, 0, 0), (10, .ireturn, 0, 0, 0)]
def cd_143 : List am_E := [(0, .aload_n 0, 0, 0, 0), (1, .getfield 7, 12, 1, 1258), (4, .iconst 0, 0, 0, 0), (5, .iaload, 0, 0, 0), (6, .iconst 1, 0, 0, 0), (7, .if_icmp .ne 7, 0, 0, 0), (10, .iconst 1, 0, 0, 0), (11, .goto 4, 0, 0, 0), (14, .iconst 0, 0, 0, 0), (15, .ireturn, 0, 0, 0)]
def cd_144 : List am_E := [(0, .aload_n 0, 0, 0, 0), (1, .invokevirtual 143, 143, 1, 1443), (4, .ifCond .eq 26, 0, 0, 0), (7, .iload_n 1, 0, 0, 0), (8, .i2l, 0, 0, 0), (9, .lconst 0, 0, 0, 0), (10, .aload_n 0, 0, 0, 0), (11, .getfield 7, 12, 1, 1258), (14, .bipush 9, 0, 0, 0), (16, .iaload, 0, 0, 0), (17, .iconst 1, 0, 0, 0), (18, .isub, 0, 0, 0), (19, .i2l, 0, 0, 0), (20, .invokestatic 147, 139, 3, 1433), (23, .ifCond .eq 7, 0, 0, 0), (26, .iconst 1, 0, 0, 0), (27, .goto 4, 0, 0, 0), (30, .iconst 0, 0, 0, 0), (31, .ireturn, 0, 0, 0)]
def cd_145 : List am_E := [(0, .aload_n 0, 0, 0, 0), (1, .invokevirtual 143, 143, 1, 1443), (4, .ifCond .eq 26, 0, 0, 0), (7, .iload_n 1, 0, 0, 0), (8, .i2l, 0, 0, 0), (9, .lconst 0, 0, 0, 0), (10, .aload_n 0, 0, 0, 0), (11, .getfield 7, 12, 1, 1258), (14, .bipush 10, 0, 0, 0), (16, .iaload, 0, 0, 0), (17, .iconst 1, 0, 0, 0), (18, .isub, 0, 0, 0), (19, .i2l, 0, 0, 0), (20, .invokestatic 147, 139, 3, 1433), (23, .ifCond .eq 7, 0, 0, 0), (26, .iconst 1, 0, 0, 0), (27, .goto 4, 0, 0, 0), (30, .iconst 0, 0, 0, 0), (31, .ireturn, 0, 0, 0)]
def cd_146 : List am_E := [(0, .iload_n 1, 0, 0, 0), (1, .i2l, 0, 0, 0), (2, .ldc2_w 151, 0, 10, 1431), (5, .ldc2_w 153, 0, 400, 1432), (8, .invokestatic 147, 139, 3, 1433), (11, .ifCond .eq 40, 0, 0, 0), (14, .iload_n 2, 0, 0, 0), (15, .i2l, 0, 0, 0), (16, .lconst 1, 0, 0, 0), (17, .ldc2_w 155, 0, 99999, 1436), (20, .invokestatic 147, 139, 3, 1433), (23, .ifCond .eq 28, 0, 0, 0), (26, .iload_n 3, 0, 0, 0), (27, .i2l, 0, 0, 0), (28, .lconst 1, 0, 0, 0), (29, .ldc2_w 157, 0, 3000, 1437), (32, .invokestatic 147, 139, 3, 1433), (35, .ifCond .eq 16, 0, 0, 0), (38, .iload 4, 0, 0, 0), (40, .i2l, 0, 0, 0), (41, .lconst 1, 0, 0, 0), (42, .ldc2_w 159, 0, 999, 1438), (45, .invokestatic 147, 139, 3, 1433), (48, .ifCond .ne 5, 0, 0, 0), (51, .iconst 0, 0, 0, 0), (52, .ireturn, 0, 0, 0), (53, .iconst 0, 0, 0, 0), (54, .istore 5, 0, 0, 0), (56, .iload 5, 0, 0, 0), (58, .bipush 13, 0, 0, 0), (60, .if_icmp .ge 25, 0, 0, 0), (63, .aload_n 0, 0, 0, 0), (64, .getfield 7, 12, 1, 1258), (67, .iload 5, 0, 0, 0), (69, .iconst 0, 0, 0, 0), (70, .iastore, 0, 0, 0), (71, .aload_n 0, 0, 0, 0), (72, .getfield 13, 12, 2, 1259), (75, .iload 5, 0, 0, 0), (77, .iconst 0, 0, 0, 0), (78, .iastore, 0, 0, 0), (79, .iinc 5 1, 0, 0, 0), (82, .goto (-26), 0, 0, 0), (85, .aload_n 0, 0, 0, 0), (86, .getfield 7, 12, 1, 1258), (89, .bipush 13, 0, 0, 0), (91, .iconst 0, 0, 0, 0), (92, .iastore, 0, 0, 0), (93, .aload_n 0, 0, 0, 0), (94, .getfield 7, 12, 1, 1258), (97, .iconst 0, 0, 0, 0), (98, .iconst 1, 0, 0, 0), (99, .iastore, 0, 0, 0), (100, .aload_n 0, 0, 0, 0), (101, .getfield 7, 12, 1, 1258), (104, .iconst 1, 0, 0, 0), (105, .iload_n 1, 0, 0, 0), (106, .iastore, 0, 0, 0), (107, .aload_n 0, 0, 0, 0), (108, .getfield 7, 12, 1, 1258), (111, .iconst 2, 0, 0, 0), (112, .iload_n 2, 0, 0, 0), (113, .iastore, 0, 0, 0), (114, .aload_n 0, 0, 0, 0), (115, .getfield 7, 12, 1, 1258), (118, .iconst 3, 0, 0, 0), (119, .iload_n 3, 0, 0, 0), (120, .iastore, 0, 0, 0), (121, .aload_n 0, 0, 0, 0), (122, .getfield 7, 12, 1, 1258), (125, .iconst 4, 0, 0, 0), (126, .iload 4, 0, 0, 0), (128, .iastore, 0, 0, 0), (129, .iconst 1, 0, 0, 0), (130, .ireturn, 0, 0, 0)]
def cd_147 : List am_E := [(0, .aload_n 0, 0, 0, 0), (1, .invokevirtual 143, 143, 1, 1443), (4, .ifCond .eq 27, 0, 0, 0), (7, .iload_n 1, 0, 0, 0), (8, .i2l, 0, 0, 0), (9, .lconst 1, 0, 0, 0), (10, .ldc2_w 161, 0, 12, 1447), (13, .invokestatic 147, 139, 3, 1433), (16, .ifCond .eq 15, 0, 0, 0), (19, .iload_n 2, 0, 0, 0), (20, .i2l, 0, 0, 0), (21, .lconst 0, 0, 0, 0), (22, .ldc2_w 157, 0, 3000, 1437), (25, .invokestatic 147, 139, 3, 1433), (28, .ifCond .ne 5, 0, 0, 0), (31, .iconst (-1), 0, 0, 0), (32, .ireturn, 0, 0, 0), (33, .aload_n 0, 0, 0, 0), (34, .getfield 13, 12, 2, 1259), (37, .iload_n 1, 0, 0, 0), (38, .iaload, 0, 0, 0), (39, .istore_n 3, 0, 0, 0), (40, .aload_n 0, 0, 0, 0), (41, .getfield 13, 12, 2, 1259), (44, .iload_n 1, 0, 0, 0), (45, .iload_n 2, 0, 0, 0), (46, .iastore, 0, 0, 0), (47, .iload_n 3, 0, 0, 0), (48, .ireturn, 0, 0, 0)]
def cd_148 : List am_E := [(0, .aload_n 0, 0, 0, 0), (1, .getfield 7, 12, 1, 1258), (4, .bipush 9, 0, 0, 0), (6, .iaload, 0, 0, 0), (7, .istore 7, 0, 0, 0), (9, .aload_n 0, 0, 0, 0), (10, .invokevirtual 143, 143, 1, 1443), (13, .ifCond .eq 87, 0, 0, 0), (16, .iload 7, 0, 0, 0), (18, .bipush 12, 0, 0, 0), (20, .if_icmp .eq 80, 0, 0, 0), (23, .iload_n 1, 0, 0, 0), (24, .i2l, 0, 0, 0), (25, .lconst 0, 0, 0, 0), (26, .ldc2_w 163, 0, 2000, 1452), (29, .invokestatic 147, 139, 3, 1433), (32, .ifCond .eq 68, 0, 0, 0), (35, .iload_n 2, 0, 0, 0), (36, .i2l, 0, 0, 0), (37, .lconst 1, 0, 0, 0), (38, .ldc2_w 159, 0, 999, 1438), (41, .invokestatic 147, 139, 3, 1433), (44, .ifCond .eq 56, 0, 0, 0), (47, .iload_n 3, 0, 0, 0), (48, .i2l, 0, 0, 0), (49, .lconst 1, 0, 0, 0), (50, .ldc2_w 153, 0, 400, 1432), (53, .invokestatic 147, 139, 3, 1433), (56, .ifCond .eq 44, 0, 0, 0), (59, .iload 4, 0, 0, 0), (61, .i2l, 0, 0, 0), (62, .lconst 1, 0, 0, 0), (63, .ldc2_w 163, 0, 2000, 1452), (66, .invokestatic 147, 139, 3, 1433), (69, .ifCond .eq 31, 0, 0, 0), (72, .iload 5, 0, 0, 0), (74, .i2l, 0, 0, 0), (75, .lconst 1, 0, 0, 0), (76, .ldc2_w 165, 0, 9, 1453), (79, .invokestatic 147, 139, 3, 1433), (82, .ifCond .eq 18, 0, 0, 0), (85, .iload 6, 0, 0, 0), (87, .i2l, 0, 0, 0), (88, .ldc2_w 167, 0, 18446744073709551416, 1454), (91, .ldc2_w 169, 0, 200, 1455), (94, .invokestatic 147, 139, 3, 1433), (97, .ifCond .ne 5, 0, 0, 0), (100, .iconst (-1), 0, 0, 0), (101, .ireturn, 0, 0, 0), (102, .aload_n 0, 0, 0, 0), (103, .getfield 22, 12, 5, 1262), (106, .iload 7, 0, 0, 0), (108, .iload_n 1, 0, 0, 0), (109, .iastore, 0, 0, 0), (110, .aload_n 0, 0, 0, 0), (111, .getfield 25, 12, 6, 1263), (114, .iload 7, 0, 0, 0), (116, .iload_n 2, 0, 0, 0), (117, .iastore, 0, 0, 0), (118, .aload_n 0, 0, 0, 0), (119, .getfield 28, 12, 7, 1264), (122, .iload 7, 0, 0, 0), (124, .iload_n 3, 0, 0, 0), (125, .iastore, 0, 0, 0), (126, .aload_n 0, 0, 0, 0), (127, .getfield 31, 12, 8, 1265), (130, .iload 7, 0, 0, 0), (132, .iload 4, 0, 0, 0), (134, .iastore, 0, 0, 0), (135, .aload_n 0, 0, 0, 0), (136, .getfield 34, 12, 9, 1266), (139, .iload 7, 0, 0, 0), (141, .iload 5, 0, 0, 0), (143, .iastore, 0, 0, 0), (144, .aload_n 0, 0, 0, 0), (145, .getfield 37, 12, 10, 1267), (148, .iload 7, 0, 0, 0), (150, .iload 6, 0, 0, 0), (152, .iastore, 0, 0, 0), (153, .aload_n 0, 0, 0, 0), (154, .getfield 40, 12, 11, 1268), (157, .iload 7, 0, 0, 0), (159, .iconst 0, 0, 0, 0), (160, .iastore, 0, 0, 0), (161, .aload_n 0, 0, 0, 0), (162, .getfield 7, 12, 1, 1258), (165, .bipush 9, 0, 0, 0), (167, .dup2, 0, 0, 0), (168, .iaload, 0, 0, 0), (169, .iconst 1, 0, 0, 0), (170, .iadd, 0, 0, 0), (171, .iastore, 0, 0, 0), (172, .iload 7, 0, 0, 0), (174, .ireturn, 0, 0, 0)]
def cd_149 : List am_E := [(0, .aload_n 0, 0, 0, 0), (1, .getfield 28, 12, 7, 1264), (4, .iload_n 1, 0, 0, 0), (5, .iaload, 0, 0, 0), (6, .aload_n 0, 0, 0, 0), (7, .getfield 31, 12, 8, 1265), (10, .iload_n 1, 0, 0, 0), (11, .iaload, 0, 0, 0), (12, .imul, 0, 0, 0), (13, .aload_n 0, 0, 0, 0), (14, .getfield 25, 12, 6, 1263), (17, .iload_n 1, 0, 0, 0), (18, .iaload, 0, 0, 0), (19, .imul, 0, 0, 0), (20, .sipush 10000, 0, 0, 0), (23, .idiv, 0, 0, 0), (24, .ireturn, 0, 0, 0)]
def cd_150 : List am_E := [(0, .aload_n 0, 0, 0, 0), (1, .getfield 40, 12, 11, 1268), (4, .iload_n 1, 0, 0, 0), (5, .iaload, 0, 0, 0), (6, .i2l, 0, 0, 0), (7, .ldc2_w 171, 0, 10000, 1524), (10, .lmul, 0, 0, 0), (11, .aload_n 0, 0, 0, 0), (12, .getfield 28, 12, 7, 1264), (15, .iload_n 1, 0, 0, 0), (16, .iaload, 0, 0, 0), (17, .aload_n 0, 0, 0, 0), (18, .getfield 31, 12, 8, 1265), (21, .iload_n 1, 0, 0, 0), (22, .iaload, 0, 0, 0), (23, .imul, 0, 0, 0), (24, .i2l, 0, 0, 0), (25, .ldiv, 0, 0, 0), (26, .l2i, 0, 0, 0), (27, .istore_n 2, 0, 0, 0), (28, .iload_n 2, 0, 0, 0), (29, .aload_n 0, 0, 0, 0), (30, .getfield 25, 12, 6, 1263), (33, .iload_n 1, 0, 0, 0), (34, .iaload, 0, 0, 0), (35, .if_icmp .le 12, 0, 0, 0), (38, .aload_n 0, 0, 0, 0), (39, .getfield 25, 12, 6, 1263), (42, .iload_n 1, 0, 0, 0), (43, .iaload, 0, 0, 0), (44, .goto 4, 0, 0, 0), (47, .iload_n 2, 0, 0, 0), (48, .ireturn, 0, 0, 0)]
def cd_151 : List am_E := [(0, .aload_n 0, 0, 0, 0), (1, .iload_n 1, 0, 0, 0), (2, .invokevirtual 173, 144, 2, 1460), (5, .ifCond .eq 18, 0, 0, 0), (8, .iload_n 2, 0, 0, 0), (9, .i2l, 0, 0, 0), (10, .lconst 0, 0, 0, 0), (11, .aload_n 0, 0, 0, 0), (12, .iload_n 1, 0, 0, 0), (13, .invokevirtual 177, 149, 2, 1464), (16, .i2l, 0, 0, 0), (17, .invokestatic 147, 139, 3, 1433), (20, .ifCond .ne 5, 0, 0, 0), (23, .iconst (-1), 0, 0, 0), (24, .ireturn, 0, 0, 0), (25, .aload_n 0, 0, 0, 0), (26, .getfield 40, 12, 11, 1268), (29, .iload_n 1, 0, 0, 0), (30, .iaload, 0, 0, 0), (31, .istore_n 3, 0, 0, 0), (32, .aload_n 0, 0, 0, 0), (33, .getfield 40, 12, 11, 1268), (36, .iload_n 1, 0, 0, 0), (37, .iload_n 2, 0, 0, 0), (38, .iastore, 0, 0, 0), (39, .iload_n 3, 0, 0, 0), (40, .ireturn, 0, 0, 0)]
def cd_152 : List am_E := [(0, .aload_n 0, 0, 0, 0), (1, .iload_n 1, 0, 0, 0), (2, .invokevirtual 173, 144, 2, 1460), (5, .ifCond .eq 15, 0, 0, 0), (8, .iload_n 2, 0, 0, 0), (9, .i2l, 0, 0, 0), (10, .lconst 1, 0, 0, 0), (11, .ldc2_w 165, 0, 9, 1453), (14, .invokestatic 147, 139, 3, 1433), (17, .ifCond .ne 5, 0, 0, 0), (20, .iconst (-1), 0, 0, 0), (21, .ireturn, 0, 0, 0), (22, .aload_n 0, 0, 0, 0), (23, .getfield 34, 12, 9, 1266), (26, .iload_n 1, 0, 0, 0), (27, .iaload, 0, 0, 0), (28, .istore_n 3, 0, 0, 0), (29, .aload_n 0, 0, 0, 0), (30, .getfield 34, 12, 9, 1266), (33, .iload_n 1, 0, 0, 0), (34, .iload_n 2, 0, 0, 0), (35, .iastore, 0, 0, 0), (36, .iload_n 3, 0, 0, 0), (37, .ireturn, 0, 0, 0)]
def cd_153 : List am_E := [(0, .aload_n 0, 0, 0, 0), (1, .getfield 7, 12, 1, 1258), (4, .bipush 10, 0, 0, 0), (6, .iaload, 0, 0, 0), (7, .istore 5, 0, 0, 0), (9, .aload_n 0, 0, 0, 0), (10, .invokevirtual 143, 143, 1, 1443), (13, .ifCond .eq 59, 0, 0, 0), (16, .iload 5, 0, 0, 0), (18, .bipush 6, 0, 0, 0), (20, .if_icmp .eq 52, 0, 0, 0), (23, .iload_n 1, 0, 0, 0), (24, .i2l, 0, 0, 0), (25, .lconst 1, 0, 0, 0), (26, .ldc2_w 181, 0, 9999, 1476), (29, .invokestatic 147, 139, 3, 1433), (32, .ifCond .eq 40, 0, 0, 0), (35, .iload_n 2, 0, 0, 0), (36, .i2l, 0, 0, 0), (37, .lconst 0, 0, 0, 0), (38, .ldc2_w 157, 0, 3000, 1437), (41, .invokestatic 147, 139, 3, 1433), (44, .ifCond .eq 28, 0, 0, 0), (47, .iload_n 3, 0, 0, 0), (48, .i2l, 0, 0, 0), (49, .lconst 1, 0, 0, 0), (50, .ldc2_w 183, 0, 60, 1477), (53, .invokestatic 147, 139, 3, 1433), (56, .ifCond .eq 16, 0, 0, 0), (59, .iload 4, 0, 0, 0), (61, .i2l, 0, 0, 0), (62, .lconst 0, 0, 0, 0), (63, .ldc2_w 169, 0, 200, 1455), (66, .invokestatic 147, 139, 3, 1433), (69, .ifCond .ne 5, 0, 0, 0), (72, .iconst (-1), 0, 0, 0), (73, .ireturn, 0, 0, 0), (74, .aload_n 0, 0, 0, 0), (75, .getfield 43, 12, 12, 1269), (78, .iload 5, 0, 0, 0), (80, .iload_n 1, 0, 0, 0), (81, .iastore, 0, 0, 0), (82, .aload_n 0, 0, 0, 0), (83, .getfield 46, 12, 13, 1270), (86, .iload 5, 0, 0, 0), (88, .iload_n 2, 0, 0, 0), (89, .iastore, 0, 0, 0), (90, .aload_n 0, 0, 0, 0), (91, .getfield 49, 12, 14, 1271), (94, .iload 5, 0, 0, 0), (96, .iload_n 3, 0, 0, 0), (97, .iastore, 0, 0, 0), (98, .aload_n 0, 0, 0, 0), (99, .getfield 52, 12, 15, 1272), (102, .iload 5, 0, 0, 0), (104, .iload 4, 0, 0, 0), (106, .iastore, 0, 0, 0), (107, .aload_n 0, 0, 0, 0), (108, .getfield 55, 12, 16, 1273), (111, .iload 5, 0, 0, 0), (113, .iconst 0, 0, 0, 0), (114, .iastore, 0, 0, 0), (115, .aload_n 0, 0, 0, 0), (116, .getfield 7, 12, 1, 1258), (119, .bipush 10, 0, 0, 0), (121, .dup2, 0, 0, 0), (122, .iaload, 0, 0, 0), (123, .iconst 1, 0, 0, 0), (124, .iadd, 0, 0, 0), (125, .iastore, 0, 0, 0), (126, .iload 5, 0, 0, 0), (128, .ireturn, 0, 0, 0)]
def cd_154 : List am_E := [(0, .aload_n 0, 0, 0, 0), (1, .iload_n 1, 0, 0, 0), (2, .invokevirtual 173, 144, 2, 1460), (5, .ifCond .eq 44, 0, 0, 0), (8, .iload_n 2, 0, 0, 0), (9, .i2l, 0, 0, 0), (10, .ldc2_w 185, 0, 18446744073709551615, 1486), (13, .lconst 1, 0, 0, 0), (14, .invokestatic 147, 139, 3, 1433), (17, .ifCond .eq 32, 0, 0, 0), (20, .iload_n 3, 0, 0, 0), (21, .i2l, 0, 0, 0), (22, .lconst 0, 0, 0, 0), (23, .ldc2_w 157, 0, 3000, 1437), (26, .invokestatic 147, 139, 3, 1433), (29, .ifCond .eq 20, 0, 0, 0), (32, .iload 4, 0, 0, 0), (34, .i2l, 0, 0, 0), (35, .lconst 1, 0, 0, 0), (36, .ldc2_w 169, 0, 200, 1455), (39, .invokestatic 147, 139, 3, 1433), (42, .ifCond .eq 7, 0, 0, 0), (45, .iconst 1, 0, 0, 0), (46, .goto 4, 0, 0, 0), (49, .iconst 0, 0, 0, 0), (50, .ireturn, 0, 0, 0)]
def cd_155 : List am_E := [(0, .aload_n 0, 0, 0, 0), (1, .getfield 7, 12, 1, 1258), (4, .bipush 11, 0, 0, 0), (6, .iaload, 0, 0, 0), (7, .istore 5, 0, 0, 0), (9, .iload 5, 0, 0, 0), (11, .bipush 12, 0, 0, 0), (13, .if_icmp .eq 15, 0, 0, 0), (16, .aload_n 0, 0, 0, 0), (17, .iload_n 1, 0, 0, 0), (18, .iload_n 2, 0, 0, 0), (19, .iload_n 3, 0, 0, 0), (20, .iload 4, 0, 0, 0), (22, .invokevirtual 187, 154, 5, 1482), (25, .ifCond .ne 5, 0, 0, 0), (28, .iconst (-1), 0, 0, 0), (29, .ireturn, 0, 0, 0), (30, .aload_n 0, 0, 0, 0), (31, .getfield 58, 12, 17, 1274), (34, .iload 5, 0, 0, 0), (36, .iload_n 1, 0, 0, 0), (37, .iastore, 0, 0, 0), (38, .aload_n 0, 0, 0, 0), (39, .getfield 61, 12, 18, 1275), (42, .iload 5, 0, 0, 0), (44, .iload_n 2, 0, 0, 0), (45, .iastore, 0, 0, 0), (46, .aload_n 0, 0, 0, 0), (47, .getfield 64, 12, 19, 1276), (50, .iload 5, 0, 0, 0), (52, .iload_n 3, 0, 0, 0), (53, .iastore, 0, 0, 0), (54, .aload_n 0, 0, 0, 0), (55, .getfield 67, 12, 20, 1277), (58, .iload 5, 0, 0, 0), (60, .iload 4, 0, 0, 0), (62, .iastore, 0, 0, 0), (63, .aload_n 0, 0, 0, 0), (64, .getfield 7, 12, 1, 1258), (67, .bipush 11, 0, 0, 0), (69, .dup2, 0, 0, 0), (70, .iaload, 0, 0, 0), (71, .iconst 1, 0, 0, 0), (72, .iadd, 0, 0, 0), (73, .iastore, 0, 0, 0), (74, .iload 5, 0, 0, 0), (76, .ireturn, 0, 0, 0)]
def cd_156 : List am_E := [(0, .aload_n 0, 0, 0, 0), (1, .getfield 7, 12, 1, 1258), (4, .bipush 12, 0, 0, 0), (6, .iaload, 0, 0, 0), (7, .istore 5, 0, 0, 0), (9, .iload 5, 0, 0, 0), (11, .bipush 12, 0, 0, 0), (13, .if_icmp .eq 15, 0, 0, 0), (16, .aload_n 0, 0, 0, 0), (17, .iload_n 1, 0, 0, 0), (18, .iload_n 2, 0, 0, 0), (19, .iload_n 3, 0, 0, 0), (20, .iload 4, 0, 0, 0), (22, .invokevirtual 187, 154, 5, 1482), (25, .ifCond .ne 5, 0, 0, 0), (28, .iconst (-1), 0, 0, 0), (29, .ireturn, 0, 0, 0), (30, .aload_n 0, 0, 0, 0), (31, .getfield 70, 12, 21, 1278), (34, .iload 5, 0, 0, 0), (36, .iload_n 1, 0, 0, 0), (37, .iastore, 0, 0, 0), (38, .aload_n 0, 0, 0, 0), (39, .getfield 73, 12, 22, 1279), (42, .iload 5, 0, 0, 0), (44, .iload_n 2, 0, 0, 0), (45, .iastore, 0, 0, 0), (46, .aload_n 0, 0, 0, 0), (47, .getfield 76, 12, 23, 1280), (50, .iload 5, 0, 0, 0), (52, .iload_n 3, 0, 0, 0), (53, .iastore, 0, 0, 0), (54, .aload_n 0, 0, 0, 0), (55, .getfield 79, 12, 24, 1281), (58, .iload 5, 0, 0, 0), (60, .iload 4, 0, 0, 0), (62, .iastore, 0, 0, 0), (63, .aload_n 0, 0, 0, 0), (64, .getfield 7, 12, 1, 1258), (67, .bipush 12, 0, 0, 0), (69, .dup2, 0, 0, 0), (70, .iaload, 0, 0, 0), (71, .iconst 1, 0, 0, 0), (72, .iadd, 0, 0, 0), (73, .iastore, 0, 0, 0), (74, .iload 5, 0, 0, 0), (76, .ireturn, 0, 0, 0)]
def cd_157 : List am_E := [(0, .aload_n 0, 0, 0, 0), (1, .invokevirtual 143, 143, 1, 1443), (4, .ifCond .eq 69, 0, 0, 0), (7, .iload_n 1, 0, 0, 0), (8, .i2l, 0, 0, 0), (9, .lconst 0, 0, 0, 0), (10, .ldc2_w 191, 0, 2, 1495), (13, .invokestatic 147, 139, 3, 1433), (16, .ifCond .eq 57, 0, 0, 0), (19, .iload_n 2, 0, 0, 0), (20, .i2l, 0, 0, 0), (21, .iload_n 1, 0, 0, 0), (22, .ifCond .ne 9, 0, 0, 0), (25, .ldc2_w 193, 0, 18446744073709451617, 1496), (28, .goto 15, 0, 0, 0), (31, .iload_n 1, 0, 0, 0), (32, .iconst 1, 0, 0, 0), (33, .if_icmp .ne 7, 0, 0, 0), (36, .lconst 0, 0, 0, 0), (37, .goto 6, 0, 0, 0), (40, .ldc2_w 195, 0, 18446744073709551556, 1497), (43, .iload_n 1, 0, 0, 0), (44, .ifCond .ne 9, 0, 0, 0), (47, .ldc2_w 155, 0, 99999, 1436), (50, .goto 17, 0, 0, 0), (53, .iload_n 1, 0, 0, 0), (54, .iconst 1, 0, 0, 0), (55, .if_icmp .ne 9, 0, 0, 0), (58, .ldc2_w 197, 0, 99, 1498), (61, .goto 6, 0, 0, 0), (64, .ldc2_w 183, 0, 60, 1477), (67, .invokestatic 147, 139, 3, 1433), (70, .ifCond .ne 6, 0, 0, 0), (73, .ldc 199, 0, 4293967296, 1499), (75, .ireturn, 0, 0, 0), (76, .iload_n 1, 0, 0, 0), (77, .ifCond .ne 7, 0, 0, 0), (80, .iconst 5, 0, 0, 0), (81, .goto 15, 0, 0, 0), (84, .iload_n 1, 0, 0, 0), (85, .iconst 1, 0, 0, 0), (86, .if_icmp .ne 8, 0, 0, 0), (89, .bipush 6, 0, 0, 0), (91, .goto 5, 0, 0, 0), (94, .bipush 7, 0, 0, 0), (96, .istore_n 3, 0, 0, 0), (97, .aload_n 0, 0, 0, 0), (98, .getfield 7, 12, 1, 1258), (101, .iload_n 3, 0, 0, 0), (102, .iaload, 0, 0, 0), (103, .istore 4, 0, 0, 0), (105, .aload_n 0, 0, 0, 0), (106, .getfield 7, 12, 1, 1258), (109, .iload_n 3, 0, 0, 0), (110, .iload_n 2, 0, 0, 0), (111, .iastore, 0, 0, 0), (112, .iload 4, 0, 0, 0), (114, .ireturn, 0, 0, 0)]
def cd_158 : List am_E := [(0, .sipush 4000, 0, 0, 0), (3, .iload_n 0, 0, 0, 0), (4, .imul, 0, 0, 0), (5, .sipush 180, 0, 0, 0), (8, .iload_n 0, 0, 0, 0), (9, .isub, 0, 0, 0), (10, .imul, 0, 0, 0), (11, .ldc 200, 0, 40500, 1528), (13, .iload_n 0, 0, 0, 0), (14, .sipush 180, 0, 0, 0), (17, .iload_n 0, 0, 0, 0), (18, .isub, 0, 0, 0), (19, .imul, 0, 0, 0), (20, .isub, 0, 0, 0), (21, .idiv, 0, 0, 0), (22, .ireturn, 0, 0, 0)]
def cd_159 : List am_E := [(0, .iload_n 1, 0, 0, 0), (1, .iconst 5, 0, 0, 0), (2, .idiv, 0, 0, 0), (3, .istore_n 2, 0, 0, 0), (4, .iload_n 2, 0, 0, 0), (5, .bipush 12, 0, 0, 0), (7, .if_icmp .ne 13, 0, 0, 0), (10, .aload_n 0, 0, 0, 0), (11, .getfield 13, 12, 2, 1259), (14, .bipush 12, 0, 0, 0), (16, .iaload, 0, 0, 0), (17, .goto 30, 0, 0, 0), (20, .aload_n 0, 0, 0, 0), (21, .getfield 13, 12, 2, 1259), (24, .iload_n 2, 0, 0, 0), (25, .iaload, 0, 0, 0), (26, .iconst 5, 0, 0, 0), (27, .iload_n 1, 0, 0, 0), (28, .iconst 5, 0, 0, 0), (29, .irem, 0, 0, 0), (30, .isub, 0, 0, 0), (31, .imul, 0, 0, 0), (32, .aload_n 0, 0, 0, 0), (33, .getfield 13, 12, 2, 1259), (36, .iload_n 2, 0, 0, 0), (37, .iconst 1, 0, 0, 0), (38, .iadd, 0, 0, 0), (39, .iaload, 0, 0, 0), (40, .iload_n 1, 0, 0, 0), (41, .iconst 5, 0, 0, 0), (42, .irem, 0, 0, 0), (43, .imul, 0, 0, 0), (44, .iadd, 0, 0, 0), (45, .iconst 5, 0, 0, 0), (46, .idiv, 0, 0, 0), (47, .ireturn, 0, 0, 0)]
def cd_160 : List am_E := [(0, .aload_n 0, 0, 0, 0), (1, .getfield 7, 12, 1, 1258), (4, .iconst 2, 0, 0, 0), (5, .iaload, 0, 0, 0), (6, .aload_n 0, 0, 0, 0), (7, .getfield 201, 12, 25, 1282), (10, .iadd, 0, 0, 0), (11, .istore_n 1, 0, 0, 0), (12, .iconst 0, 0, 0, 0), (13, .istore_n 2, 0, 0, 0), (14, .iload_n 2, 0, 0, 0), (15, .aload_n 0, 0, 0, 0), (16, .getfield 7, 12, 1, 1258), (19, .bipush 10, 0, 0, 0), (21, .iaload, 0, 0, 0), (22, .if_icmp .ge 18, 0, 0, 0), (25, .iload_n 1, 0, 0, 0), (26, .aload_n 0, 0, 0, 0), (27, .getfield 43, 12, 12, 1269), (30, .iload_n 2, 0, 0, 0), (31, .iaload, 0, 0, 0), (32, .iadd, 0, 0, 0), (33, .istore_n 1, 0, 0, 0), (34, .iinc 2 1, 0, 0, 0), (37, .goto (-23), 0, 0, 0), (40, .iconst 0, 0, 0, 0), (41, .istore_n 2, 0, 0, 0), (42, .iload_n 2, 0, 0, 0), (43, .aload_n 0, 0, 0, 0), (44, .getfield 7, 12, 1, 1258), (47, .bipush 9, 0, 0, 0), (49, .iaload, 0, 0, 0), (50, .if_icmp .ge 18, 0, 0, 0), (53, .iload_n 1, 0, 0, 0), (54, .aload_n 0, 0, 0, 0), (55, .getfield 40, 12, 11, 1268), (58, .iload_n 2, 0, 0, 0), (59, .iaload, 0, 0, 0), (60, .iadd, 0, 0, 0), (61, .istore_n 1, 0, 0, 0), (62, .iinc 2 1, 0, 0, 0), (65, .goto (-23), 0, 0, 0), (68, .iload_n 1, 0, 0, 0), (69, .ireturn, 0, 0, 0)]
def cd_161 : List am_E := [(0, .aload_n 0, 0, 0, 0), (1, .getfield 7, 12, 1, 1258), (4, .iconst 2, 0, 0, 0), (5, .iaload, 0, 0, 0), (6, .i2l, 0, 0, 0), (7, .aload_n 0, 0, 0, 0), (8, .getfield 7, 12, 1, 1258), (11, .iconst 3, 0, 0, 0), (12, .iaload, 0, 0, 0), (13, .i2l, 0, 0, 0), (14, .lmul, 0, 0, 0), (15, .aload_n 0, 0, 0, 0), (16, .getfield 204, 12, 26, 1283), (19, .ladd, 0, 0, 0), (20, .lstore_n 1, 0, 0, 0), (21, .iconst 0, 0, 0, 0), (22, .istore_n 3, 0, 0, 0), (23, .iload_n 3, 0, 0, 0), (24, .aload_n 0, 0, 0, 0), (25, .getfield 7, 12, 1, 1258), (28, .bipush 10, 0, 0, 0), (30, .iaload, 0, 0, 0), (31, .if_icmp .ge 27, 0, 0, 0), (34, .lload_n 1, 0, 0, 0), (35, .aload_n 0, 0, 0, 0), (36, .getfield 43, 12, 12, 1269), (39, .iload_n 3, 0, 0, 0), (40, .iaload, 0, 0, 0), (41, .i2l, 0, 0, 0), (42, .aload_n 0, 0, 0, 0), (43, .getfield 46, 12, 13, 1270), (46, .iload_n 3, 0, 0, 0), (47, .iaload, 0, 0, 0), (48, .i2l, 0, 0, 0), (49, .lmul, 0, 0, 0), (50, .ladd, 0, 0, 0), (51, .lstore_n 1, 0, 0, 0), (52, .iinc 3 1, 0, 0, 0), (55, .goto (-32), 0, 0, 0), (58, .iconst 0, 0, 0, 0), (59, .istore_n 3, 0, 0, 0), (60, .iload_n 3, 0, 0, 0), (61, .aload_n 0, 0, 0, 0), (62, .getfield 7, 12, 1, 1258), (65, .bipush 9, 0, 0, 0), (67, .iaload, 0, 0, 0), (68, .if_icmp .ge 35, 0, 0, 0), (71, .lload_n 1, 0, 0, 0), (72, .aload_n 0, 0, 0, 0), (73, .getfield 40, 12, 11, 1268), (76, .iload_n 3, 0, 0, 0), (77, .iaload, 0, 0, 0), (78, .i2l, 0, 0, 0), (79, .aload_n 0, 0, 0, 0), (80, .getfield 22, 12, 5, 1262), (83, .iload_n 3, 0, 0, 0), (84, .iaload, 0, 0, 0), (85, .aload_n 0, 0, 0, 0), (86, .iload_n 3, 0, 0, 0), (87, .invokevirtual 208, 150, 2, 1520), (90, .iconst 2, 0, 0, 0), (91, .idiv, 0, 0, 0), (92, .iadd, 0, 0, 0), (93, .i2l, 0, 0, 0), (94, .lmul, 0, 0, 0), (95, .ladd, 0, 0, 0), (96, .lstore_n 1, 0, 0, 0), (97, .iinc 3 1, 0, 0, 0), (100, .goto (-40), 0, 0, 0), (103, .lload_n 1, 0, 0, 0), (104, .lreturn, 0, 0, 0)]
def cd_162 : List am_E := [(0, .aload_n 0, 0, 0, 0), (1, .invokevirtual 211, 160, 1, 1504), (4, .aload_n 0, 0, 0, 0), (5, .getfield 7, 12, 1, 1258), (8, .iconst 4, 0, 0, 0), (9, .iaload, 0, 0, 0), (10, .idiv, 0, 0, 0), (11, .ireturn, 0, 0, 0)]
def cd_163 : List am_E := [(0, .aload_n 0, 0, 0, 0), (1, .getfield 31, 12, 8, 1265), (4, .iload_n 1, 0, 0, 0), (5, .iaload, 0, 0, 0), (6, .i2l, 0, 0, 0), (7, .aload_n 0, 0, 0, 0), (8, .getfield 28, 12, 7, 1264), (11, .iload_n 1, 0, 0, 0), (12, .iaload, 0, 0, 0), (13, .i2l, 0, 0, 0), (14, .lmul, 0, 0, 0), (15, .aload_n 0, 0, 0, 0), (16, .getfield 28, 12, 7, 1264), (19, .iload_n 1, 0, 0, 0), (20, .iaload, 0, 0, 0), (21, .i2l, 0, 0, 0), (22, .lmul, 0, 0, 0), (23, .aload_n 0, 0, 0, 0), (24, .getfield 28, 12, 7, 1264), (27, .iload_n 1, 0, 0, 0), (28, .iaload, 0, 0, 0), (29, .i2l, 0, 0, 0), (30, .lmul, 0, 0, 0), (31, .ldc2_w 215, 0, 1200, 1538), (34, .aload_n 0, 0, 0, 0), (35, .getfield 34, 12, 9, 1266), (38, .iload_n 1, 0, 0, 0), (39, .iaload, 0, 0, 0), (40, .i2l, 0, 0, 0), (41, .lmul, 0, 0, 0), (42, .aload_n 0, 0, 0, 0), (43, .getfield 34, 12, 9, 1266), (46, .iload_n 1, 0, 0, 0), (47, .iaload, 0, 0, 0), (48, .i2l, 0, 0, 0), (49, .lmul, 0, 0, 0), (50, .ldiv, 0, 0, 0), (51, .iload_n 2, 0, 0, 0), (52, .invokestatic 217, 158, 1, 1525), (55, .i2l, 0, 0, 0), (56, .lmul, 0, 0, 0), (57, .ldc2_w 220, 0, 1000, 1529), (60, .ldiv, 0, 0, 0), (61, .lstore_n 3, 0, 0, 0), (62, .aload_n 0, 0, 0, 0), (63, .iload_n 1, 0, 0, 0), (64, .invokevirtual 177, 149, 2, 1464), (67, .aload_n 0, 0, 0, 0), (68, .getfield 40, 12, 11, 1268), (71, .iload_n 1, 0, 0, 0), (72, .iaload, 0, 0, 0), (73, .isub, 0, 0, 0), (74, .istore 5, 0, 0, 0), (76, .ldc2_w 222, 0, 5, 1539), (79, .aload_n 0, 0, 0, 0), (80, .getfield 28, 12, 7, 1264), (83, .iload_n 1, 0, 0, 0), (84, .iaload, 0, 0, 0), (85, .i2l, 0, 0, 0), (86, .lmul, 0, 0, 0), (87, .aload_n 0, 0, 0, 0), (88, .getfield 40, 12, 11, 1268), (91, .iload_n 1, 0, 0, 0), (92, .iaload, 0, 0, 0), (93, .iload 5, 0, 0, 0), (95, .if_icmp .ge 12, 0, 0, 0), (98, .aload_n 0, 0, 0, 0), (99, .getfield 40, 12, 11, 1268), (102, .iload_n 1, 0, 0, 0), (103, .iaload, 0, 0, 0), (104, .goto 5, 0, 0, 0), (107, .iload 5, 0, 0, 0), (109, .i2l, 0, 0, 0), (110, .lmul, 0, 0, 0), (111, .aload_n 0, 0, 0, 0), (112, .getfield 34, 12, 9, 1266), (115, .iload_n 1, 0, 0, 0), (116, .iaload, 0, 0, 0), (117, .i2l, 0, 0, 0), (118, .ldiv, 0, 0, 0), (119, .lstore 6, 0, 0, 0), (121, .lload_n 3, 0, 0, 0), (122, .lload 6, 0, 0, 0), (124, .lcmp, 0, 0, 0), (125, .ifCond .ge 7, 0, 0, 0), (128, .lload_n 3, 0, 0, 0), (129, .goto 5, 0, 0, 0), (132, .lload 6, 0, 0, 0), (134, .lreturn, 0, 0, 0)]
def cd_164 : List am_E := [(0, .lconst 0, 0, 0, 0), (1, .lstore_n 2, 0, 0, 0), (2, .iconst 0, 0, 0, 0), (3, .istore 4, 0, 0, 0), (5, .iload 4, 0, 0, 0), (7, .aload_n 0, 0, 0, 0), (8, .getfield 7, 12, 1, 1258), (11, .bipush 9, 0, 0, 0), (13, .iaload, 0, 0, 0), (14, .if_icmp .ge 19, 0, 0, 0), (17, .lload_n 2, 0, 0, 0), (18, .aload_n 0, 0, 0, 0), (19, .iload 4, 0, 0, 0), (21, .iload_n 1, 0, 0, 0), (22, .invokevirtual 224, 163, 3, 1534), (25, .ladd, 0, 0, 0), (26, .lstore_n 2, 0, 0, 0), (27, .iinc 4 1, 0, 0, 0), (30, .goto (-25), 0, 0, 0), (33, .lload_n 2, 0, 0, 0), (34, .lreturn, 0, 0, 0)]
def cd_165 : List am_E := [(0, .aload_n 0, 0, 0, 0), (1, .getfield 7, 12, 1, 1258), (4, .iconst 5, 0, 0, 0), (5, .iaload, 0, 0, 0), (6, .i2l, 0, 0, 0), (7, .ldc2_w 151, 0, 10, 1431), (10, .lmul, 0, 0, 0), (11, .lstore_n 1, 0, 0, 0), (12, .iconst 0, 0, 0, 0), (13, .istore_n 3, 0, 0, 0), (14, .iload_n 3, 0, 0, 0), (15, .aload_n 0, 0, 0, 0), (16, .getfield 7, 12, 1, 1258), (19, .bipush 9, 0, 0, 0), (21, .iaload, 0, 0, 0), (22, .if_icmp .ge 30, 0, 0, 0), (25, .lload_n 1, 0, 0, 0), (26, .aload_n 0, 0, 0, 0), (27, .getfield 40, 12, 11, 1268), (30, .iload_n 3, 0, 0, 0), (31, .iaload, 0, 0, 0), (32, .aload_n 0, 0, 0, 0), (33, .getfield 37, 12, 10, 1267), (36, .iload_n 3, 0, 0, 0), (37, .iaload, 0, 0, 0), (38, .imul, 0, 0, 0), (39, .i2l, 0, 0, 0), (40, .ldc2_w 151, 0, 10, 1431), (43, .lmul, 0, 0, 0), (44, .ladd, 0, 0, 0), (45, .lstore_n 1, 0, 0, 0), (46, .iinc 3 1, 0, 0, 0), (49, .goto (-35), 0, 0, 0), (52, .iconst 0, 0, 0, 0), (53, .istore_n 3, 0, 0, 0), (54, .iload_n 3, 0, 0, 0), (55, .aload_n 0, 0, 0, 0), (56, .getfield 7, 12, 1, 1258), (59, .bipush 10, 0, 0, 0), (61, .iaload, 0, 0, 0), (62, .if_icmp .ge 37, 0, 0, 0), (65, .lload_n 1, 0, 0, 0), (66, .aload_n 0, 0, 0, 0), (67, .getfield 43, 12, 12, 1269), (70, .iload_n 3, 0, 0, 0), (71, .iaload, 0, 0, 0), (72, .aload_n 0, 0, 0, 0), (73, .getfield 55, 12, 16, 1273), (76, .iload_n 3, 0, 0, 0), (77, .iaload, 0, 0, 0), (78, .imul, 0, 0, 0), (79, .aload_n 0, 0, 0, 0), (80, .getfield 52, 12, 15, 1272), (83, .iload_n 3, 0, 0, 0), (84, .iaload, 0, 0, 0), (85, .imul, 0, 0, 0), (86, .i2l, 0, 0, 0), (87, .ldc2_w 151, 0, 10, 1431), (90, .lmul, 0, 0, 0), (91, .ladd, 0, 0, 0), (92, .lstore_n 1, 0, 0, 0), (93, .iinc 3 1, 0, 0, 0), (96, .goto (-42), 0, 0, 0), (99, .lload_n 1, 0, 0, 0), (100, .lreturn, 0, 0, 0)]
def cd_166 : List am_E := [(0, .iload_n 3, 0, 0, 0), (1, .invokestatic 228, 142, 1, 1560), (4, .istore 4, 0, 0, 0), (6, .lload_n 1, 0, 0, 0), (7, .bipush 90, 0, 0, 0), (9, .iload 4, 0, 0, 0), (11, .isub, 0, 0, 0), (12, .invokestatic 217, 158, 1, 1525), (15, .i2l, 0, 0, 0), (16, .lmul, 0, 0, 0), (17, .ldc2_w 220, 0, 1000, 1529), (20, .ldiv, 0, 0, 0), (21, .lstore 5, 0, 0, 0), (23, .aload_n 0, 0, 0, 0), (24, .iload 4, 0, 0, 0), (26, .invokevirtual 231, 164, 2, 1530), (29, .aload_n 0, 0, 0, 0), (30, .invokevirtual 235, 161, 1, 1516), (33, .iload 4, 0, 0, 0), (35, .invokestatic 217, 158, 1, 1525), (38, .i2l, 0, 0, 0), (39, .lmul, 0, 0, 0), (40, .ldc2_w 220, 0, 1000, 1529), (43, .ldiv, 0, 0, 0), (44, .ladd, 0, 0, 0), (45, .aload_n 0, 0, 0, 0), (46, .invokevirtual 211, 160, 1, 1504), (49, .i2l, 0, 0, 0), (50, .aload_n 0, 0, 0, 0), (51, .iload 4, 0, 0, 0), (53, .invokevirtual 239, 159, 2, 1563), (56, .i2l, 0, 0, 0), (57, .lmul, 0, 0, 0), (58, .lsub, 0, 0, 0), (59, .lstore 7, 0, 0, 0), (61, .iload_n 3, 0, 0, 0), (62, .ifCond .ne 8, 0, 0, 0), (65, .lload 5, 0, 0, 0), (67, .goto 20, 0, 0, 0), (70, .iload_n 3, 0, 0, 0), (71, .ifCond .le 11, 0, 0, 0), (74, .lload 5, 0, 0, 0), (76, .lload 7, 0, 0, 0), (78, .ladd, 0, 0, 0), (79, .goto 8, 0, 0, 0), (82, .lload 5, 0, 0, 0), (84, .lload 7, 0, 0, 0), (86, .lsub, 0, 0, 0), (87, .lreturn, 0, 0, 0)]
def cd_167 : List am_E := [(0, .iload_n 3, 0, 0, 0), (1, .istore 4, 0, 0, 0), (3, .aload_n 0, 0, 0, 0), (4, .lload_n 1, 0, 0, 0), (5, .iload 4, 0, 0, 0), (7, .invokevirtual 242, 166, 3, 1556), (10, .lstore 5, 0, 0, 0), (12, .lload 5, 0, 0, 0), (14, .lconst 0, 0, 0, 0), (15, .lcmp, 0, 0, 0), (16, .ifCond .le 35, 0, 0, 0), (19, .lload 5, 0, 0, 0), (21, .lconst 0, 0, 0, 0), (22, .lcmp, 0, 0, 0), (23, .ifCond .le 25, 0, 0, 0), (26, .iload 4, 0, 0, 0), (28, .bipush 60, 0, 0, 0), (30, .if_icmp .ge 18, 0, 0, 0), (33, .iinc 4 1, 0, 0, 0), (36, .aload_n 0, 0, 0, 0), (37, .lload_n 1, 0, 0, 0), (38, .iload 4, 0, 0, 0), (40, .invokevirtual 242, 166, 3, 1556), (43, .lstore 5, 0, 0, 0), (45, .goto (-26), 0, 0, 0), (48, .iload 4, 0, 0, 0), (50, .ireturn, 0, 0, 0), (51, .lload 5, 0, 0, 0), (53, .lconst 0, 0, 0, 0), (54, .lcmp, 0, 0, 0), (55, .ifCond .ge 25, 0, 0, 0), (58, .iload 4, 0, 0, 0), (60, .bipush (-60), 0, 0, 0), (62, .if_icmp .le 18, 0, 0, 0), (65, .iinc 4 (-1), 0, 0, 0), (68, .aload_n 0, 0, 0, 0), (69, .lload_n 1, 0, 0, 0), (70, .iload 4, 0, 0, 0), (72, .invokevirtual 242, 166, 3, 1556), (75, .lstore 5, 0, 0, 0), (77, .goto (-26), 0, 0, 0), (80, .iload 4, 0, 0, 0), (82, .ireturn, 0, 0, 0)]
def cd_168 : List am_E := [(0, .aload_n 0, 0, 0, 0), (1, .aload_n 0, 0, 0, 0), (2, .invokevirtual 246, 165, 1, 1575), (5, .iload_n 1, 0, 0, 0), (6, .invokevirtual 249, 167, 3, 1552), (9, .ireturn, 0, 0, 0)]
def cd_169 : List am_E := [(0, .aload_n 0, 0, 0, 0), (1, .lconst 0, 0, 0, 0), (2, .iconst 1, 0, 0, 0), (3, .invokevirtual 249, 167, 3, 1552), (6, .ireturn, 0, 0, 0)]
def cd_170 : List am_E := [(0, .aload_n 0, 0, 0, 0), (1, .invokevirtual 211, 160, 1, 1504), (4, .i2l, 0, 0, 0), (5, .lstore_n 1, 0, 0, 0), (6, .lload_n 1, 0, 0, 0), (7, .aload_n 0, 0, 0, 0), (8, .getfield 13, 12, 2, 1259), (11, .iconst 1, 0, 0, 0), (12, .iaload, 0, 0, 0), (13, .i2l, 0, 0, 0), (14, .lmul, 0, 0, 0), (15, .aload_n 0, 0, 0, 0), (16, .invokevirtual 235, 161, 1, 1516), (19, .iconst 5, 0, 0, 0), (20, .invokestatic 217, 158, 1, 1525), (23, .i2l, 0, 0, 0), (24, .lmul, 0, 0, 0), (25, .ldc2_w 220, 0, 1000, 1529), (28, .ldiv, 0, 0, 0), (29, .lsub, 0, 0, 0), (30, .aload_n 0, 0, 0, 0), (31, .iconst 5, 0, 0, 0), (32, .invokevirtual 231, 164, 2, 1530), (35, .lsub, 0, 0, 0), (36, .ldc2_w 220, 0, 1000, 1529), (39, .lmul, 0, 0, 0), (40, .lload_n 1, 0, 0, 0), (41, .iconst 5, 0, 0, 0), (42, .invokestatic 217, 158, 1, 1525), (45, .i2l, 0, 0, 0), (46, .lmul, 0, 0, 0), (47, .invokestatic 253, 141, 2, 1540), (50, .l2i, 0, 0, 0), (51, .ireturn, 0, 0, 0)]
def cd_171 : List am_E := [(0, .aload_n 0, 0, 0, 0), (1, .invokevirtual 257, 170, 1, 1512), (4, .i2l, 0, 0, 0), (5, .lstore_n 1, 0, 0, 0), (6, .lload_n 1, 0, 0, 0), (7, .lconst 0, 0, 0, 0), (8, .lcmp, 0, 0, 0), (9, .ifCond .gt 5, 0, 0, 0), (12, .iconst (-1), 0, 0, 0), (13, .ireturn, 0, 0, 0), (14, .ldc2_w 260, 0, 64, 1547), (17, .aload_n 0, 0, 0, 0), (18, .getfield 7, 12, 1, 1258), (21, .iconst 1, 0, 0, 0), (22, .iaload, 0, 0, 0), (23, .i2l, 0, 0, 0), (24, .lmul, 0, 0, 0), (25, .aload_n 0, 0, 0, 0), (26, .getfield 7, 12, 1, 1258), (29, .iconst 1, 0, 0, 0), (30, .iaload, 0, 0, 0), (31, .i2l, 0, 0, 0), (32, .lmul, 0, 0, 0), (33, .lstore_n 3, 0, 0, 0), (34, .iconst 0, 0, 0, 0), (35, .istore 5, 0, 0, 0), (37, .iload 5, 0, 0, 0), (39, .i2l, 0, 0, 0), (40, .lconst 1, 0, 0, 0), (41, .ladd, 0, 0, 0), (42, .iload 5, 0, 0, 0), (44, .i2l, 0, 0, 0), (45, .lconst 1, 0, 0, 0), (46, .ladd, 0, 0, 0), (47, .lmul, 0, 0, 0), (48, .lload_n 1, 0, 0, 0), (49, .lmul, 0, 0, 0), (50, .lload_n 3, 0, 0, 0), (51, .lcmp, 0, 0, 0), (52, .ifCond .gt 9, 0, 0, 0), (55, .iinc 5 1, 0, 0, 0), (58, .goto (-21), 0, 0, 0), (61, .iload 5, 0, 0, 0), (63, .ireturn, 0, 0, 0)]
def cd_172 : List am_E := [(0, .aload_n 0, 0, 0, 0), (1, .aload_n 0, 0, 0, 0), (2, .getfield 7, 12, 1, 1258), (5, .bipush 7, 0, 0, 0), (7, .iaload, 0, 0, 0), (8, .invokevirtual 262, 168, 2, 1571), (11, .istore_n 1, 0, 0, 0), (12, .bipush 61, 0, 0, 0), (14, .istore_n 2, 0, 0, 0), (15, .iconst 1, 0, 0, 0), (16, .istore_n 3, 0, 0, 0), (17, .bipush 60, 0, 0, 0), (19, .istore 4, 0, 0, 0), (21, .iload 4, 0, 0, 0), (23, .ifCond .le 58, 0, 0, 0), (26, .iload 4, 0, 0, 0), (28, .iload_n 1, 0, 0, 0), (29, .if_icmp .le 52, 0, 0, 0), (32, .iload_n 3, 0, 0, 0), (33, .ifCond .eq 48, 0, 0, 0), (36, .aload_n 0, 0, 0, 0), (37, .aload_n 0, 0, 0, 0), (38, .invokevirtual 246, 165, 1, 1575), (41, .iload 4, 0, 0, 0), (43, .invokevirtual 242, 166, 3, 1556), (46, .lstore 5, 0, 0, 0), (48, .lload 5, 0, 0, 0), (50, .lconst 0, 0, 0, 0), (51, .lcmp, 0, 0, 0), (52, .ifCond .lt 7, 0, 0, 0), (55, .iconst 1, 0, 0, 0), (56, .goto 4, 0, 0, 0), (59, .iconst 0, 0, 0, 0), (60, .istore_n 3, 0, 0, 0), (61, .lload 5, 0, 0, 0), (63, .lconst 0, 0, 0, 0), (64, .lcmp, 0, 0, 0), (65, .ifCond .le 8, 0, 0, 0), (68, .iload 4, 0, 0, 0), (70, .goto 4, 0, 0, 0), (73, .iload_n 2, 0, 0, 0), (74, .istore_n 2, 0, 0, 0), (75, .iinc 4 (-1), 0, 0, 0), (78, .goto (-57), 0, 0, 0), (81, .iload_n 2, 0, 0, 0), (82, .ireturn, 0, 0, 0)]
def cd_173 : List am_E := [(0, .aload_n 0, 0, 0, 0), (1, .getfield 7, 12, 1, 1258), (4, .bipush 7, 0, 0, 0), (6, .iaload, 0, 0, 0), (7, .invokestatic 228, 142, 1, 1560), (10, .bipush 60, 0, 0, 0), (12, .if_icmp .ne 7, 0, 0, 0), (15, .iconst 1, 0, 0, 0), (16, .goto 4, 0, 0, 0), (19, .iconst 0, 0, 0, 0), (20, .ireturn, 0, 0, 0)]
def cd_174 : List am_E := [(0, .aload_n 0, 0, 0, 0), (1, .invokevirtual 143, 143, 1, 1443), (4, .ifCond .ne 6, 0, 0, 0), (7, .ldc 199, 0, 4293967296, 1499), (9, .ireturn, 0, 0, 0), (10, .iload_n 1, 0, 0, 0), (11, .tableswitch 131 0 10 #[57, 65, 73, 80, 88, 93, 98, 103, 108, 113, 118], 57, 0, 0), (68, .aload_n 0, 0, 0, 0), (69, .getfield 7, 12, 1, 1258), (72, .bipush 7, 0, 0, 0), (74, .iaload, 0, 0, 0), (75, .ireturn, 0, 0, 0), (76, .aload_n 0, 0, 0, 0), (77, .getfield 7, 12, 1, 1258), (80, .bipush 8, 0, 0, 0), (82, .iaload, 0, 0, 0), (83, .ireturn, 0, 0, 0), (84, .aload_n 0, 0, 0, 0), (85, .getfield 7, 12, 1, 1258), (88, .iconst 5, 0, 0, 0), (89, .iaload, 0, 0, 0), (90, .ireturn, 0, 0, 0), (91, .aload_n 0, 0, 0, 0), (92, .getfield 7, 12, 1, 1258), (95, .bipush 6, 0, 0, 0), (97, .iaload, 0, 0, 0), (98, .ireturn, 0, 0, 0), (99, .aload_n 0, 0, 0, 0), (100, .invokevirtual 211, 160, 1, 1504), (103, .ireturn, 0, 0, 0), (104, .aload_n 0, 0, 0, 0), (105, .invokevirtual 265, 162, 1, 1508), (108, .ireturn, 0, 0, 0), (109, .aload_n 0, 0, 0, 0), (110, .invokevirtual 257, 170, 1, 1512), (113, .ireturn, 0, 0, 0), (114, .aload_n 0, 0, 0, 0), (115, .invokevirtual 268, 171, 1, 1543), (118, .ireturn, 0, 0, 0), (119, .aload_n 0, 0, 0, 0), (120, .invokevirtual 271, 169, 1, 1548), (123, .ireturn, 0, 0, 0), (124, .aload_n 0, 0, 0, 0), (125, .invokevirtual 274, 172, 1, 1567), (128, .ireturn, 0, 0, 0), (129, .aload_n 0, 0, 0, 0), (130, .invokevirtual 277, 173, 1, 1579), (133, .ifCond .eq 7, 0, 0, 0), (136, .iconst 1, 0, 0, 0), (137, .goto 4, 0, 0, 0), (140, .iconst 0, 0, 0, 0), (141, .ireturn, 0, 0, 0), (142, .ldc 199, 0, 4293967296, 1499), (144, .ireturn, 0, 0, 0)]
def cd_175 : List am_E := [(0, .aload_n 0, 0, 0, 0), (1, .invokevirtual 143, 143, 1, 1443), (4, .ifCond .eq 10, 0, 0, 0), (7, .aload_n 0, 0, 0, 0), (8, .invokevirtual 235, 161, 1, 1516), (11, .goto 6, 0, 0, 0), (14, .ldc2_w 185, 0, 18446744073709551615, 1486), (17, .lreturn, 0, 0, 0)]
def cd_176 : List am_E := [(0, .aload_n 0, 0, 0, 0), (1, .invokevirtual 143, 143, 1, 1443), (4, .ifCond .eq 29, 0, 0, 0), (7, .iload_n 1, 0, 0, 0), (8, .i2l, 0, 0, 0), (9, .ldc2_w 195, 0, 18446744073709551556, 1497), (12, .ldc2_w 183, 0, 60, 1477), (15, .invokestatic 147, 139, 3, 1433), (18, .ifCond .eq 15, 0, 0, 0), (21, .aload_n 0, 0, 0, 0), (22, .aload_n 0, 0, 0, 0), (23, .invokevirtual 246, 165, 1, 1575), (26, .iload_n 1, 0, 0, 0), (27, .invokevirtual 242, 166, 3, 1556), (30, .goto 4, 0, 0, 0), (33, .lconst 0, 0, 0, 0), (34, .lreturn, 0, 0, 0)]
def cd_177 : List am_E := [(0, .aload_n 0, 0, 0, 0), (1, .invokevirtual 143, 143, 1, 1443), (4, .ifCond .eq 25, 0, 0, 0), (7, .iload_n 1, 0, 0, 0), (8, .i2l, 0, 0, 0), (9, .ldc2_w 195, 0, 18446744073709551556, 1497), (12, .ldc2_w 183, 0, 60, 1477), (15, .invokestatic 147, 139, 3, 1433), (18, .ifCond .eq 11, 0, 0, 0), (21, .aload_n 0, 0, 0, 0), (22, .iload_n 1, 0, 0, 0), (23, .invokevirtual 262, 168, 2, 1571), (26, .goto 5, 0, 0, 0), (29, .bipush (-100), 0, 0, 0), (31, .ireturn, 0, 0, 0)]
def cd_178 : List am_E := [(0, .aload_n 0, 0, 0, 0), (1, .invokevirtual 143, 143, 1, 1443), (4, .ifCond .eq 23, 0, 0, 0), (7, .iload_n 1, 0, 0, 0), (8, .i2l, 0, 0, 0), (9, .lconst 0, 0, 0, 0), (10, .ldc2_w 183, 0, 60, 1477), (13, .invokestatic 147, 139, 3, 1433), (16, .ifCond .eq 11, 0, 0, 0), (19, .aload_n 0, 0, 0, 0), (20, .iload_n 1, 0, 0, 0), (21, .invokevirtual 239, 159, 2, 1563), (24, .goto 4, 0, 0, 0), (27, .iconst (-1), 0, 0, 0), (28, .ireturn, 0, 0, 0)]
def cd_179 : List am_E := [(0, .aload_n 0, 0, 0, 0), (1, .iload_n 1, 0, 0, 0), (2, .invokevirtual 173, 144, 2, 1460), (5, .ifCond .ne 7, 0, 0, 0), (8, .sipush (-1000), 0, 0, 0), (11, .ireturn, 0, 0, 0), (12, .iload_n 2, 0, 0, 0), (13, .tableswitch 112 0 8 #[51, 58, 64, 70, 77, 84, 91, 98, 105], 51, 0, 0), (64, .aload_n 0, 0, 0, 0), (65, .getfield 40, 12, 11, 1268), (68, .iload_n 1, 0, 0, 0), (69, .iaload, 0, 0, 0), (70, .ireturn, 0, 0, 0), (71, .aload_n 0, 0, 0, 0), (72, .iload_n 1, 0, 0, 0), (73, .invokevirtual 177, 149, 2, 1464), (76, .ireturn, 0, 0, 0), (77, .aload_n 0, 0, 0, 0), (78, .iload_n 1, 0, 0, 0), (79, .invokevirtual 208, 150, 2, 1520), (82, .ireturn, 0, 0, 0), (83, .aload_n 0, 0, 0, 0), (84, .getfield 34, 12, 9, 1266), (87, .iload_n 1, 0, 0, 0), (88, .iaload, 0, 0, 0), (89, .ireturn, 0, 0, 0), (90, .aload_n 0, 0, 0, 0), (91, .getfield 37, 12, 10, 1267), (94, .iload_n 1, 0, 0, 0), (95, .iaload, 0, 0, 0), (96, .ireturn, 0, 0, 0), (97, .aload_n 0, 0, 0, 0), (98, .getfield 22, 12, 5, 1262), (101, .iload_n 1, 0, 0, 0), (102, .iaload, 0, 0, 0), (103, .ireturn, 0, 0, 0), (104, .aload_n 0, 0, 0, 0), (105, .getfield 25, 12, 6, 1263), (108, .iload_n 1, 0, 0, 0), (109, .iaload, 0, 0, 0), (110, .ireturn, 0, 0, 0), (111, .aload_n 0, 0, 0, 0), (112, .getfield 28, 12, 7, 1264), (115, .iload_n 1, 0, 0, 0), (116, .iaload, 0, 0, 0), (117, .ireturn, 0, 0, 0), (118, .aload_n 0, 0, 0, 0), (119, .getfield 31, 12, 8, 1265), (122, .iload_n 1, 0, 0, 0), (123, .iaload, 0, 0, 0), (124, .ireturn, 0, 0, 0), (125, .sipush (-1000), 0, 0, 0), (128, .ireturn, 0, 0, 0)]
def cd_180 : List am_E := [(0, .aload_n 0, 0, 0, 0), (1, .iload_n 1, 0, 0, 0), (2, .invokevirtual 173, 144, 2, 1460), (5, .ifCond .eq 24, 0, 0, 0), (8, .iload_n 2, 0, 0, 0), (9, .i2l, 0, 0, 0), (10, .lconst 0, 0, 0, 0), (11, .ldc2_w 183, 0, 60, 1477), (14, .invokestatic 147, 139, 3, 1433), (17, .ifCond .eq 12, 0, 0, 0), (20, .aload_n 0, 0, 0, 0), (21, .iload_n 1, 0, 0, 0), (22, .iload_n 2, 0, 0, 0), (23, .invokevirtual 224, 163, 3, 1534), (26, .goto 6, 0, 0, 0), (29, .ldc2_w 185, 0, 18446744073709551615, 1486), (32, .lreturn, 0, 0, 0)]
def cd_181 : List am_E := [(0, .aload_n 0, 0, 0, 0), (1, .getfield 40, 12, 11, 1268), (4, .iload_n 1, 0, 0, 0), (5, .iaload, 0, 0, 0), (6, .ifCond .ne 5, 0, 0, 0), (9, .iconst 0, 0, 0, 0), (10, .ireturn, 0, 0, 0), (11, .aload_n 0, 0, 0, 0), (12, .getfield 7, 12, 1, 1258), (15, .bipush 7, 0, 0, 0), (17, .iaload, 0, 0, 0), (18, .istore_n 3, 0, 0, 0), (19, .iload_n 2, 0, 0, 0), (20, .ifCond .eq 7, 0, 0, 0), (23, .iload_n 3, 0, 0, 0), (24, .ifCond .ne 7, 0, 0, 0), (27, .iconst 0, 0, 0, 0), (28, .goto 30, 0, 0, 0), (31, .aload_n 0, 0, 0, 0), (32, .getfield 28, 12, 7, 1264), (35, .iload_n 1, 0, 0, 0), (36, .iaload, 0, 0, 0), (37, .iconst 5, 0, 0, 0), (38, .imul, 0, 0, 0), (39, .aload_n 0, 0, 0, 0), (40, .getfield 34, 12, 9, 1266), (43, .iload_n 1, 0, 0, 0), (44, .iaload, 0, 0, 0), (45, .idiv, 0, 0, 0), (46, .iload_n 3, 0, 0, 0), (47, .invokestatic 228, 142, 1, 1560), (50, .invokestatic 217, 158, 1, 1525), (53, .imul, 0, 0, 0), (54, .sipush 1000, 0, 0, 0), (57, .idiv, 0, 0, 0), (58, .istore 4, 0, 0, 0), (60, .iload_n 3, 0, 0, 0), (61, .ifCond .le 7, 0, 0, 0), (64, .iconst 1, 0, 0, 0), (65, .goto 4, 0, 0, 0), (68, .iconst 0, 0, 0, 0), (69, .iload_n 2, 0, 0, 0), (70, .ifCond .le 7, 0, 0, 0), (73, .iconst 1, 0, 0, 0), (74, .goto 4, 0, 0, 0), (77, .iconst 0, 0, 0, 0), (78, .if_icmp .ne 7, 0, 0, 0), (81, .iconst 1, 0, 0, 0), (82, .goto 4, 0, 0, 0), (85, .iconst 0, 0, 0, 0), (86, .istore 5, 0, 0, 0), (88, .aload_n 0, 0, 0, 0), (89, .iload_n 1, 0, 0, 0), (90, .invokevirtual 208, 150, 2, 1520), (93, .iload 5, 0, 0, 0), (95, .ifCond .eq 8, 0, 0, 0), (98, .iload 4, 0, 0, 0), (100, .goto 6, 0, 0, 0), (103, .iload 4, 0, 0, 0), (105, .ineg, 0, 0, 0), (106, .iadd, 0, 0, 0), (107, .i2l, 0, 0, 0), (108, .lconst 0, 0, 0, 0), (109, .aload_n 0, 0, 0, 0), (110, .getfield 25, 12, 6, 1263), (113, .iload_n 1, 0, 0, 0), (114, .iaload, 0, 0, 0), (115, .i2l, 0, 0, 0), (116, .invokestatic 280, 140, 3, 1615), (119, .l2i, 0, 0, 0), (120, .aload_n 0, 0, 0, 0), (121, .getfield 22, 12, 5, 1262), (124, .iload_n 1, 0, 0, 0), (125, .iaload, 0, 0, 0), (126, .iadd, 0, 0, 0), (127, .ireturn, 0, 0, 0)]
def cd_182 : List am_E := [(0, .aload_n 0, 0, 0, 0), (1, .getfield 7, 12, 1, 1258), (4, .bipush 7, 0, 0, 0), (6, .iaload, 0, 0, 0), (7, .istore_n 2, 0, 0, 0), (8, .iload_n 1, 0, 0, 0), (9, .ifCond .ne 27, 0, 0, 0), (12, .aload_n 0, 0, 0, 0), (13, .invokevirtual 265, 162, 1, 1508), (16, .aload_n 0, 0, 0, 0), (17, .getfield 7, 12, 1, 1258), (20, .bipush 6, 0, 0, 0), (22, .iaload, 0, 0, 0), (23, .aload_n 0, 0, 0, 0), (24, .getfield 7, 12, 1, 1258), (27, .bipush 6, 0, 0, 0), (29, .iaload, 0, 0, 0), (30, .imul, 0, 0, 0), (31, .bipush 10, 0, 0, 0), (33, .idiv, 0, 0, 0), (34, .iadd, 0, 0, 0), (35, .ireturn, 0, 0, 0), (36, .aload_n 0, 0, 0, 0), (37, .getfield 7, 12, 1, 1258), (40, .iconst 1, 0, 0, 0), (41, .iaload, 0, 0, 0), (42, .iconst 5, 0, 0, 0), (43, .imul, 0, 0, 0), (44, .iload_n 2, 0, 0, 0), (45, .invokestatic 228, 142, 1, 1560), (48, .invokestatic 217, 158, 1, 1525), (51, .imul, 0, 0, 0), (52, .sipush 1000, 0, 0, 0), (55, .idiv, 0, 0, 0), (56, .istore_n 3, 0, 0, 0), (57, .iload_n 2, 0, 0, 0), (58, .ifCond .le 7, 0, 0, 0), (61, .iconst 1, 0, 0, 0), (62, .goto 4, 0, 0, 0), (65, .iconst 0, 0, 0, 0), (66, .iload_n 1, 0, 0, 0), (67, .ifCond .le 7, 0, 0, 0), (70, .iconst 1, 0, 0, 0), (71, .goto 4, 0, 0, 0), (74, .iconst 0, 0, 0, 0), (75, .if_icmp .ne 12, 0, 0, 0), (78, .aload_n 0, 0, 0, 0), (79, .invokevirtual 265, 162, 1, 1508), (82, .iload_n 3, 0, 0, 0), (83, .iadd, 0, 0, 0), (84, .goto 9, 0, 0, 0), (87, .aload_n 0, 0, 0, 0), (88, .invokevirtual 265, 162, 1, 1508), (91, .iload_n 3, 0, 0, 0), (92, .isub, 0, 0, 0), (93, .ireturn, 0, 0, 0)]
def cd_183 : List am_E := [(0, .aload_n 0, 0, 0, 0), (1, .iload_n 1, 0, 0, 0), (2, .invokevirtual 173, 144, 2, 1460), (5, .ifCond .eq 24, 0, 0, 0), (8, .iload_n 2, 0, 0, 0), (9, .i2l, 0, 0, 0), (10, .ldc2_w 185, 0, 18446744073709551615, 1486), (13, .lconst 1, 0, 0, 0), (14, .invokestatic 147, 139, 3, 1433), (17, .ifCond .eq 12, 0, 0, 0), (20, .aload_n 0, 0, 0, 0), (21, .iload_n 1, 0, 0, 0), (22, .iload_n 2, 0, 0, 0), (23, .invokevirtual 284, 181, 3, 1611), (26, .goto 5, 0, 0, 0), (29, .ldc 199, 0, 4293967296, 1499), (31, .ireturn, 0, 0, 0)]
def cd_184 : List am_E := [(0, .aload_n 0, 0, 0, 0), (1, .invokevirtual 143, 143, 1, 1443), (4, .ifCond .eq 23, 0, 0, 0), (7, .iload_n 1, 0, 0, 0), (8, .i2l, 0, 0, 0), (9, .ldc2_w 185, 0, 18446744073709551615, 1486), (12, .lconst 1, 0, 0, 0), (13, .invokestatic 147, 139, 3, 1433), (16, .ifCond .eq 11, 0, 0, 0), (19, .aload_n 0, 0, 0, 0), (20, .iload_n 1, 0, 0, 0), (21, .invokevirtual 288, 182, 2, 1622), (24, .goto 5, 0, 0, 0), (27, .ldc 199, 0, 4293967296, 1499), (29, .ireturn, 0, 0, 0)]
def cd_185 : List am_E := [(0, .aload_n 0, 0, 0, 0), (1, .iload_n 1, 0, 0, 0), (2, .invokevirtual 291, 145, 2, 1630), (5, .ifCond .eq 12, 0, 0, 0), (8, .aload_n 0, 0, 0, 0), (9, .getfield 55, 12, 16, 1273), (12, .iload_n 1, 0, 0, 0), (13, .iaload, 0, 0, 0), (14, .goto 5, 0, 0, 0), (17, .bipush (-2), 0, 0, 0), (19, .ireturn, 0, 0, 0)]
def cd_186 : List am_E := [(0, .aload_n 0, 0, 0, 0), (1, .getfield 294, 12, 27, 1284), (4, .bipush 20, 0, 0, 0), (6, .iadd, 0, 0, 0), (7, .sipush 400, 0, 0, 0), (10, .if_icmp .le 5, 0, 0, 0), (13, .iconst (-1), 0, 0, 0), (14, .ireturn, 0, 0, 0), (15, .aload_n 0, 0, 0, 0), (16, .iload_n 1, 0, 0, 0), (17, .invokevirtual 297, 187, 2, 1638), (20, .aload_n 0, 0, 0, 0), (21, .iload_n 2, 0, 0, 0), (22, .invokevirtual 297, 187, 2, 1638), (25, .aload_n 0, 0, 0, 0), (26, .iload_n 3, 0, 0, 0), (27, .invokevirtual 297, 187, 2, 1638), (30, .aload_n 0, 0, 0, 0), (31, .iload 4, 0, 0, 0), (33, .invokevirtual 297, 187, 2, 1638), (36, .aload_n 0, 0, 0, 0), (37, .iload 5, 0, 0, 0), (39, .invokevirtual 297, 187, 2, 1638), (42, .aload_n 0, 0, 0, 0), (43, .getfield 294, 12, 27, 1284), (46, .ireturn, 0, 0, 0)]
def cd_187 : List am_E := [(0, .bipush 24, 0, 0, 0), (2, .istore_n 2, 0, 0, 0), (3, .iload_n 2, 0, 0, 0), (4, .ifCond .lt 32, 0, 0, 0), (7, .aload_n 0, 0, 0, 0), (8, .getfield 86, 12, 37, 1294), (11, .aload_n 0, 0, 0, 0), (12, .getfield 294, 12, 27, 1284), (15, .iload_n 1, 0, 0, 0), (16, .iload_n 2, 0, 0, 0), (17, .ishr, 0, 0, 0), (18, .i2b, 0, 0, 0), (19, .bastore, 0, 0, 0), (20, .aload_n 0, 0, 0, 0), (21, .dup, 0, 0, 0), (22, .getfield 294, 12, 27, 1284), (25, .iconst 1, 0, 0, 0), (26, .iadd, 0, 0, 0), (27, .putfield 294, 12, 27, 1284), (30, .iinc 2 (-8), 0, 0, 0), (33, .goto (-30), 0, 0, 0), (36, .return_, 0, 0, 0)]
def cd_188 : List am_E := [(0, .iload_n 1, 0, 0, 0), (1, .ifCond .lt 11, 0, 0, 0), (4, .iload_n 1, 0, 0, 0), (5, .aload_n 0, 0, 0, 0), (6, .getfield 294, 12, 27, 1284), (9, .if_icmp .le 5, 0, 0, 0), (12, .iconst (-1), 0, 0, 0), (13, .ireturn, 0, 0, 0), (14, .aload_n 0, 0, 0, 0), (15, .iload_n 1, 0, 0, 0), (16, .putfield 294, 12, 27, 1284), (19, .iload_n 1, 0, 0, 0), (20, .ireturn, 0, 0, 0)]
def cd_189 : List am_E := [(0, .iload_n 0, 0, 0, 0), (1, .tableswitch 159 0 17 #[87, 91, 95, 99, 103, 107, 111, 115, 119, 123, 127, 131, 135, 139, 143, 147, 151, 155], 87, 0, 0), (88, .ldc_w 301, 1, 7, 0), (91, .areturn, 0, 0, 0), (92, .ldc_w 303, 1, 8, 0), (95, .areturn, 0, 0, 0), (96, .ldc_w 305, 1, 9, 0), (99, .areturn, 0, 0, 0), (100, .ldc_w 307, 1, 10, 0), (103, .areturn, 0, 0, 0), (104, .ldc_w 308, 1, 5, 0), (107, .areturn, 0, 0, 0), (108, .ldc_w 310, 1, 11, 0), (111, .areturn, 0, 0, 0), (112, .ldc_w 311, 1, 12, 0), (115, .areturn, 0, 0, 0), (116, .ldc_w 312, 1, 13, 0), (119, .areturn, 0, 0, 0), (120, .ldc_w 314, 1, 14, 0), (123, .areturn, 0, 0, 0), (124, .ldc_w 316, 1, 15, 0), (127, .areturn, 0, 0, 0), (128, .ldc_w 318, 1, 16, 0), (131, .areturn, 0, 0, 0), (132, .ldc_w 320, 1, 17, 0), (135, .areturn, 0, 0, 0), (136, .ldc_w 322, 1, 18, 0), (139, .areturn, 0, 0, 0), (140, .ldc_w 324, 1, 19, 0), (143, .areturn, 0, 0, 0), (144, .ldc_w 326, 1, 20, 0), (147, .areturn, 0, 0, 0), (148, .ldc_w 328, 1, 21, 0), (151, .areturn, 0, 0, 0), (152, .ldc_w 330, 1, 22, 0), (155, .areturn, 0, 0, 0), (156, .ldc_w 332, 1, 23, 0), (159, .areturn, 0, 0, 0), (160, .ldc_w 334, 1, 24, 0), (163, .areturn, 0, 0, 0)]
def cd_190 : List am_E := [(0, .iload_n 0, 0, 0, 0), (1, .ifCond .ne 9, 0, 0, 0), (4, .ldc_w 336, 1, 2, 0), (7, .goto 39, 0, 0, 0), (10, .iload_n 0, 0, 0, 0), (11, .iconst 1, 0, 0, 0), (12, .if_icmp .ne 9, 0, 0, 0), (15, .ldc_w 338, 1, 3, 0), (18, .goto 28, 0, 0, 0), (21, .iload_n 0, 0, 0, 0), (22, .iconst 2, 0, 0, 0), (23, .if_icmp .ne 9, 0, 0, 0), (26, .ldc_w 340, 1, 4, 0), (29, .goto 17, 0, 0, 0), (32, .iload_n 0, 0, 0, 0), (33, .iconst 3, 0, 0, 0), (34, .if_icmp .ne 9, 0, 0, 0), (37, .ldc_w 308, 1, 5, 0), (40, .goto 6, 0, 0, 0), (43, .ldc_w 342, 1, 6, 0), (46, .areturn, 0, 0, 0)]
def cd_191 : List am_E := [(0, .aload_n 0, 0, 0, 0), (1, .aload_n 0, 0, 0, 0), (2, .getfield 344, 12, 29, 1286), (5, .ifCond .ne 14, 0, 0, 0), (8, .iconst 1, 0, 0, 0), (9, .bipush 8, 0, 0, 0), (11, .iload_n 2, 0, 0, 0), (12, .imul, 0, 0, 0), (13, .iadd, 0, 0, 0), (14, .iload_n 1, 0, 0, 0), (15, .iadd, 0, 0, 0), (16, .goto 7, 0, 0, 0), (19, .aload_n 0, 0, 0, 0), (20, .getfield 344, 12, 29, 1286), (23, .putfield 344, 12, 29, 1286), (26, .return_, 0, 0, 0)]
def cd_192 : List am_E := [(0, .aload_n 0, 0, 0, 0), (1, .getfield 347, 12, 28, 1285), (4, .aload_n 0, 0, 0, 0), (5, .getfield 294, 12, 27, 1284), (8, .if_icmp .ge 19, 0, 0, 0), (11, .aload_n 0, 0, 0, 0), (12, .getfield 86, 12, 37, 1294), (15, .aload_n 0, 0, 0, 0), (16, .getfield 347, 12, 28, 1285), (19, .baload, 0, 0, 0), (20, .sipush 255, 0, 0, 0), (23, .iand, 0, 0, 0), (24, .goto 4, 0, 0, 0), (27, .iconst (-1), 0, 0, 0), (28, .ireturn, 0, 0, 0)]
def cd_193 : List am_E := [(0, .aload_n 0, 0, 0, 0), (1, .invokevirtual 350, 192, 1, 1658), (4, .bipush 32, 0, 0, 0), (6, .if_icmp .ne 16, 0, 0, 0), (9, .aload_n 0, 0, 0, 0), (10, .dup, 0, 0, 0), (11, .getfield 347, 12, 28, 1285), (14, .iconst 1, 0, 0, 0), (15, .iadd, 0, 0, 0), (16, .putfield 347, 12, 28, 1285), (19, .goto (-19), 0, 0, 0), (22, .return_, 0, 0, 0)]
def cd_194 : List am_E := [(0, .aload_n 0, 0, 0, 0), (1, .invokevirtual 350, 192, 1, 1658), (4, .i2l, 0, 0, 0), (5, .ldc2_w 353, 0, 48, 1728), (8, .ldc2_w 355, 0, 57, 1729), (11, .invokestatic 147, 139, 3, 1433), (14, .ireturn, 0, 0, 0)]
def cd_195 : List am_E := [(0, .aload_n 0, 0, 0, 0), (1, .getfield 347, 12, 28, 1285), (4, .istore_n 2, 0, 0, 0), (5, .iload_n 2, 0, 0, 0), (6, .aload_n 0, 0, 0, 0), (7, .getfield 294, 12, 27, 1284), (10, .if_icmp .ge 31, 0, 0, 0), (13, .aload_n 0, 0, 0, 0), (14, .getfield 86, 12, 37, 1294), (17, .iload_n 2, 0, 0, 0), (18, .baload, 0, 0, 0), (19, .bipush 97, 0, 0, 0), (21, .if_icmp .lt 20, 0, 0, 0), (24, .aload_n 0, 0, 0, 0), (25, .getfield 86, 12, 37, 1294), (28, .iload_n 2, 0, 0, 0), (29, .baload, 0, 0, 0), (30, .bipush 122, 0, 0, 0), (32, .if_icmp .gt 9, 0, 0, 0), (35, .iinc 2 1, 0, 0, 0), (38, .goto (-33), 0, 0, 0), (41, .iload_n 2, 0, 0, 0), (42, .aload_n 0, 0, 0, 0), (43, .getfield 347, 12, 28, 1285), (46, .isub, 0, 0, 0), (47, .aload_n 1, 0, 0, 0), (48, .invokevirtual 357, 255, 1, 1674), (51, .if_icmp .ne 7, 0, 0, 0), (54, .iconst 1, 0, 0, 0), (55, .goto 4, 0, 0, 0), (58, .iconst 0, 0, 0, 0), (59, .istore_n 3, 0, 0, 0), (60, .iconst 0, 0, 0, 0), (61, .istore 4, 0, 0, 0), (63, .iload 4, 0, 0, 0), (65, .aload_n 1, 0, 0, 0), (66, .invokevirtual 357, 255, 1, 1674), (69, .if_icmp .ge 40, 0, 0, 0), (72, .iload_n 3, 0, 0, 0), (73, .ifCond .eq 36, 0, 0, 0), (76, .aload_n 0, 0, 0, 0), (77, .getfield 86, 12, 37, 1294), (80, .aload_n 0, 0, 0, 0), (81, .getfield 347, 12, 28, 1285), (84, .iload 4, 0, 0, 0), (86, .iadd, 0, 0, 0), (87, .baload, 0, 0, 0), (88, .aload_n 1, 0, 0, 0), (89, .iload 4, 0, 0, 0), (91, .invokevirtual 361, 256, 2, 1682), (94, .if_icmp .ne 7, 0, 0, 0), (97, .iconst 1, 0, 0, 0), (98, .goto 4, 0, 0, 0), (101, .iconst 0, 0, 0, 0), (102, .istore_n 3, 0, 0, 0), (103, .iinc 4 1, 0, 0, 0), (106, .goto (-43), 0, 0, 0), (109, .iload_n 3, 0, 0, 0), (110, .ireturn, 0, 0, 0)]
def cd_196 : List am_E := [(0, .aload_n 0, 0, 0, 0), (1, .invokevirtual 365, 193, 1, 1654), (4, .aload_n 0, 0, 0, 0), (5, .aload_n 1, 0, 0, 0), (6, .invokevirtual 368, 195, 2, 1670), (9, .istore_n 2, 0, 0, 0), (10, .aload_n 0, 0, 0, 0), (11, .dup, 0, 0, 0), (12, .getfield 347, 12, 28, 1285), (15, .iload_n 2, 0, 0, 0), (16, .ifCond .eq 10, 0, 0, 0), (19, .aload_n 1, 0, 0, 0), (20, .invokevirtual 357, 255, 1, 1674), (23, .goto 4, 0, 0, 0), (26, .iconst 0, 0, 0, 0), (27, .iadd, 0, 0, 0), (28, .putfield 347, 12, 28, 1285), (31, .iload_n 2, 0, 0, 0), (32, .ireturn, 0, 0, 0)]
def cd_197 : List am_E := [(0, .aload_n 0, 0, 0, 0), (1, .getfield 344, 12, 29, 1286), (4, .ifCond .ne 51, 0, 0, 0), (7, .aload_n 0, 0, 0, 0), (8, .getfield 90, 12, 38, 1295), (11, .sipush 300, 0, 0, 0), (14, .aload_n 0, 0, 0, 0), (15, .getfield 372, 12, 30, 1287), (18, .imul, 0, 0, 0), (19, .aload_n 0, 0, 0, 0), (20, .getfield 375, 12, 32, 1289), (23, .iadd, 0, 0, 0), (24, .iload_n 1, 0, 0, 0), (25, .iastore, 0, 0, 0), (26, .aload_n 0, 0, 0, 0), (27, .getfield 93, 12, 39, 1296), (30, .sipush 300, 0, 0, 0), (33, .aload_n 0, 0, 0, 0), (34, .getfield 372, 12, 30, 1287), (37, .imul, 0, 0, 0), (38, .aload_n 0, 0, 0, 0), (39, .getfield 375, 12, 32, 1289), (42, .iadd, 0, 0, 0), (43, .iload_n 2, 0, 0, 0), (44, .iastore, 0, 0, 0), (45, .aload_n 0, 0, 0, 0), (46, .dup, 0, 0, 0), (47, .getfield 375, 12, 32, 1289), (50, .iconst 1, 0, 0, 0), (51, .iadd, 0, 0, 0), (52, .putfield 375, 12, 32, 1289), (55, .return_, 0, 0, 0)]
def cd_198 : List am_E := [(0, .aload_n 0, 0, 0, 0), (1, .getfield 378, 12, 34, 1291), (4, .bipush 60, 0, 0, 0), (6, .if_icmp .ne 9, 0, 0, 0), (9, .aload_n 0, 0, 0, 0), (10, .iconst 3, 0, 0, 0), (11, .iload_n 1, 0, 0, 0), (12, .invokevirtual 381, 191, 3, 1683), (15, .aload_n 0, 0, 0, 0), (16, .dup, 0, 0, 0), (17, .getfield 378, 12, 34, 1291), (20, .iconst 1, 0, 0, 0), (21, .iadd, 0, 0, 0), (22, .putfield 378, 12, 34, 1291), (25, .return_, 0, 0, 0)]
def cd_199 : List am_E := [(0, .aload_n 0, 0, 0, 0), (1, .invokevirtual 385, 194, 1, 1724), (4, .ifCond .ne 14, 0, 0, 0), (7, .aload_n 0, 0, 0, 0), (8, .iconst 0, 0, 0, 0), (9, .aload_n 0, 0, 0, 0), (10, .getfield 347, 12, 28, 1285), (13, .invokevirtual 381, 191, 3, 1683), (16, .iconst 0, 0, 0, 0), (17, .ireturn, 0, 0, 0), (18, .aload_n 0, 0, 0, 0), (19, .getfield 347, 12, 28, 1285), (22, .istore_n 2, 0, 0, 0), (23, .iconst 0, 0, 0, 0), (24, .istore_n 3, 0, 0, 0), (25, .aload_n 0, 0, 0, 0), (26, .invokevirtual 385, 194, 1, 1724), (29, .ifCond .eq 43, 0, 0, 0), (32, .aload_n 0, 0, 0, 0), (33, .getfield 347, 12, 28, 1285), (36, .iload_n 2, 0, 0, 0), (37, .isub, 0, 0, 0), (38, .iconst 5, 0, 0, 0), (39, .if_icmp .ge 18, 0, 0, 0), (42, .bipush 10, 0, 0, 0), (44, .iload_n 3, 0, 0, 0), (45, .imul, 0, 0, 0), (46, .aload_n 0, 0, 0, 0), (47, .invokevirtual 350, 192, 1, 1658), (50, .iadd, 0, 0, 0), (51, .bipush 48, 0, 0, 0), (53, .isub, 0, 0, 0), (54, .goto 4, 0, 0, 0), (57, .iload_n 3, 0, 0, 0), (58, .istore_n 3, 0, 0, 0), (59, .aload_n 0, 0, 0, 0), (60, .dup, 0, 0, 0), (61, .getfield 347, 12, 28, 1285), (64, .iconst 1, 0, 0, 0), (65, .iadd, 0, 0, 0), (66, .putfield 347, 12, 28, 1285), (69, .goto (-44), 0, 0, 0), (72, .aload_n 0, 0, 0, 0), (73, .getfield 347, 12, 28, 1285), (76, .iload_n 2, 0, 0, 0), (77, .isub, 0, 0, 0), (78, .iconst 5, 0, 0, 0), (79, .if_icmp .gt 8, 0, 0, 0), (82, .iload_n 3, 0, 0, 0), (83, .iload_n 1, 0, 0, 0), (84, .if_icmp .le 9, 0, 0, 0), (87, .aload_n 0, 0, 0, 0), (88, .iconst 1, 0, 0, 0), (89, .iload_n 2, 0, 0, 0), (90, .invokevirtual 381, 191, 3, 1683), (93, .iload_n 3, 0, 0, 0), (94, .ireturn, 0, 0, 0)]
def cd_200 : List am_E := [(0, .aload_n 0, 0, 0, 0), (1, .invokevirtual 365, 193, 1, 1654), (4, .aload_n 0, 0, 0, 0), (5, .getfield 347, 12, 28, 1285), (8, .istore_n 1, 0, 0, 0), (9, .aload_n 0, 0, 0, 0), (10, .invokevirtual 385, 194, 1, 1724), (13, .ifCond .eq 23, 0, 0, 0), (16, .aload_n 0, 0, 0, 0), (17, .ldc_w 388, 0, 99999, 1730), (20, .invokevirtual 389, 199, 2, 1731), (23, .istore_n 2, 0, 0, 0), (24, .aload_n 0, 0, 0, 0), (25, .iload_n 1, 0, 0, 0), (26, .invokevirtual 392, 198, 2, 1735), (29, .aload_n 0, 0, 0, 0), (30, .iconst 0, 0, 0, 0), (31, .iload_n 2, 0, 0, 0), (32, .invokevirtual 395, 197, 3, 1739), (35, .return_, 0, 0, 0), (36, .iconst 0, 0, 0, 0), (37, .istore_n 2, 0, 0, 0), (38, .iload_n 2, 0, 0, 0), (39, .aload_n 0, 0, 0, 0), (40, .getfield 82, 12, 36, 1293), (43, .if_icmp .ge 20, 0, 0, 0), (46, .aload_n 0, 0, 0, 0), (47, .iload_n 2, 0, 0, 0), (48, .invokestatic 398, 189, 1, 1691), (51, .invokevirtual 368, 195, 2, 1670), (54, .ifCond .ne 9, 0, 0, 0), (57, .iinc 2 1, 0, 0, 0), (60, .goto (-22), 0, 0, 0), (63, .iload_n 2, 0, 0, 0), (64, .aload_n 0, 0, 0, 0), (65, .getfield 82, 12, 36, 1293), (68, .if_icmp .ne 10, 0, 0, 0), (71, .aload_n 0, 0, 0, 0), (72, .iconst 0, 0, 0, 0), (73, .iload_n 1, 0, 0, 0), (74, .invokevirtual 381, 191, 3, 1683), (77, .return_, 0, 0, 0), (78, .aload_n 0, 0, 0, 0), (79, .iload_n 1, 0, 0, 0), (80, .invokevirtual 392, 198, 2, 1735), (83, .aload_n 0, 0, 0, 0), (84, .dup, 0, 0, 0), (85, .getfield 347, 12, 28, 1285), (88, .iload_n 2, 0, 0, 0), (89, .invokestatic 398, 189, 1, 1691), (92, .invokevirtual 357, 255, 1, 1674), (95, .iadd, 0, 0, 0), (96, .putfield 347, 12, 28, 1285), (99, .aload_n 0, 0, 0, 0), (100, .iconst 1, 0, 0, 0), (101, .iload_n 2, 0, 0, 0), (102, .invokevirtual 395, 197, 3, 1739), (105, .return_, 0, 0, 0)]
def cd_201 : List am_E := [(0, .aload_n 0, 0, 0, 0), (1, .invokevirtual 402, 200, 1, 1720), (4, .aload_n 0, 0, 0, 0), (5, .invokevirtual 365, 193, 1, 1654), (8, .aload_n 0, 0, 0, 0), (9, .getfield 344, 12, 29, 1286), (12, .ifCond .ne 65, 0, 0, 0), (15, .aload_n 0, 0, 0, 0), (16, .invokevirtual 350, 192, 1, 1658), (19, .bipush 42, 0, 0, 0), (21, .if_icmp .eq 12, 0, 0, 0), (24, .aload_n 0, 0, 0, 0), (25, .invokevirtual 350, 192, 1, 1658), (28, .bipush 47, 0, 0, 0), (30, .if_icmp .ne 47, 0, 0, 0), (33, .aload_n 0, 0, 0, 0), (34, .invokevirtual 350, 192, 1, 1658), (37, .bipush 42, 0, 0, 0), (39, .if_icmp .ne 8, 0, 0, 0), (42, .bipush 13, 0, 0, 0), (44, .goto 5, 0, 0, 0), (47, .bipush 14, 0, 0, 0), (49, .istore_n 1, 0, 0, 0), (50, .aload_n 0, 0, 0, 0), (51, .dup, 0, 0, 0), (52, .getfield 347, 12, 28, 1285), (55, .iconst 1, 0, 0, 0), (56, .iadd, 0, 0, 0), (57, .putfield 347, 12, 28, 1285), (60, .aload_n 0, 0, 0, 0), (61, .invokevirtual 402, 200, 1, 1720), (64, .aload_n 0, 0, 0, 0), (65, .iload_n 1, 0, 0, 0), (66, .iconst 0, 0, 0, 0), (67, .invokevirtual 395, 197, 3, 1739), (70, .aload_n 0, 0, 0, 0), (71, .invokevirtual 365, 193, 1, 1654), (74, .goto (-66), 0, 0, 0), (77, .return_, 0, 0, 0)]
def cd_202 : List am_E := [(0, .aload_n 0, 0, 0, 0), (1, .invokevirtual 405, 201, 1, 1716), (4, .aload_n 0, 0, 0, 0), (5, .getfield 344, 12, 29, 1286), (8, .ifCond .ne 59, 0, 0, 0), (11, .aload_n 0, 0, 0, 0), (12, .invokevirtual 350, 192, 1, 1658), (15, .bipush 43, 0, 0, 0), (17, .if_icmp .eq 12, 0, 0, 0), (20, .aload_n 0, 0, 0, 0), (21, .invokevirtual 350, 192, 1, 1658), (24, .bipush 45, 0, 0, 0), (26, .if_icmp .ne 41, 0, 0, 0), (29, .aload_n 0, 0, 0, 0), (30, .invokevirtual 350, 192, 1, 1658), (33, .bipush 43, 0, 0, 0), (35, .if_icmp .ne 7, 0, 0, 0), (38, .iconst 2, 0, 0, 0), (39, .goto 4, 0, 0, 0), (42, .iconst 3, 0, 0, 0), (43, .istore_n 1, 0, 0, 0), (44, .aload_n 0, 0, 0, 0), (45, .dup, 0, 0, 0), (46, .getfield 347, 12, 28, 1285), (49, .iconst 1, 0, 0, 0), (50, .iadd, 0, 0, 0), (51, .putfield 347, 12, 28, 1285), (54, .aload_n 0, 0, 0, 0), (55, .invokevirtual 405, 201, 1, 1716), (58, .aload_n 0, 0, 0, 0), (59, .iload_n 1, 0, 0, 0), (60, .iconst 0, 0, 0, 0), (61, .invokevirtual 395, 197, 3, 1739), (64, .goto (-60), 0, 0, 0), (67, .return_, 0, 0, 0)]
def cd_203 : List am_E := [(0, .aload_n 0, 0, 0, 0), (1, .invokevirtual 408, 202, 1, 1712), (4, .aload_n 0, 0, 0, 0), (5, .invokevirtual 350, 192, 1, 1658), (8, .istore_n 1, 0, 0, 0), (9, .iload_n 1, 0, 0, 0), (10, .bipush 60, 0, 0, 0), (12, .if_icmp .eq 25, 0, 0, 0), (15, .iload_n 1, 0, 0, 0), (16, .bipush 61, 0, 0, 0), (18, .if_icmp .eq 19, 0, 0, 0), (21, .iload_n 1, 0, 0, 0), (22, .bipush 62, 0, 0, 0), (24, .if_icmp .eq 13, 0, 0, 0), (27, .aload_n 0, 0, 0, 0), (28, .iconst 0, 0, 0, 0), (29, .aload_n 0, 0, 0, 0), (30, .getfield 347, 12, 28, 1285), (33, .invokevirtual 381, 191, 3, 1683), (36, .return_, 0, 0, 0), (37, .aload_n 0, 0, 0, 0), (38, .aload_n 0, 0, 0, 0), (39, .getfield 347, 12, 28, 1285), (42, .invokevirtual 392, 198, 2, 1735), (45, .aload_n 0, 0, 0, 0), (46, .dup, 0, 0, 0), (47, .getfield 347, 12, 28, 1285), (50, .iconst 1, 0, 0, 0), (51, .iadd, 0, 0, 0), (52, .putfield 347, 12, 28, 1285), (55, .iload_n 1, 0, 0, 0), (56, .bipush 61, 0, 0, 0), (58, .if_icmp .eq 16, 0, 0, 0), (61, .aload_n 0, 0, 0, 0), (62, .invokevirtual 350, 192, 1, 1658), (65, .bipush 61, 0, 0, 0), (67, .if_icmp .ne 7, 0, 0, 0), (70, .iconst 1, 0, 0, 0), (71, .goto 4, 0, 0, 0), (74, .iconst 0, 0, 0, 0), (75, .istore_n 2, 0, 0, 0), (76, .aload_n 0, 0, 0, 0), (77, .dup, 0, 0, 0), (78, .getfield 347, 12, 28, 1285), (81, .iload_n 2, 0, 0, 0), (82, .ifCond .eq 7, 0, 0, 0), (85, .iconst 1, 0, 0, 0), (86, .goto 4, 0, 0, 0), (89, .iconst 0, 0, 0, 0), (90, .iadd, 0, 0, 0), (91, .putfield 347, 12, 28, 1285), (94, .aload_n 0, 0, 0, 0), (95, .invokevirtual 408, 202, 1, 1712), (98, .aload_n 0, 0, 0, 0), (99, .iload_n 1, 0, 0, 0), (100, .bipush 61, 0, 0, 0), (102, .if_icmp .ne 8, 0, 0, 0), (105, .bipush 6, 0, 0, 0), (107, .goto 32, 0, 0, 0), (110, .iload_n 1, 0, 0, 0), (111, .bipush 60, 0, 0, 0), (113, .if_icmp .ne 15, 0, 0, 0), (116, .iload_n 2, 0, 0, 0), (117, .ifCond .eq 7, 0, 0, 0), (120, .iconst 5, 0, 0, 0), (121, .goto 18, 0, 0, 0), (124, .iconst 4, 0, 0, 0), (125, .goto 14, 0, 0, 0), (128, .iload_n 2, 0, 0, 0), (129, .ifCond .eq 8, 0, 0, 0), (132, .bipush 7, 0, 0, 0), (134, .goto 5, 0, 0, 0), (137, .bipush 8, 0, 0, 0), (139, .iconst 0, 0, 0, 0), (140, .invokevirtual 395, 197, 3, 1739), (143, .return_, 0, 0, 0)]
def cd_204 : List am_E := [(0, .aload_n 0, 0, 0, 0), (1, .getfield 411, 12, 35, 1292), (4, .ifCond .ne 7, 0, 0, 0), (7, .iconst (-1), 0, 0, 0), (8, .goto 14, 0, 0, 0), (11, .aload_n 0, 0, 0, 0), (12, .getfield 120, 12, 48, 1305), (15, .aload_n 0, 0, 0, 0), (16, .getfield 411, 12, 35, 1292), (19, .iconst 1, 0, 0, 0), (20, .isub, 0, 0, 0), (21, .iaload, 0, 0, 0), (22, .ireturn, 0, 0, 0)]
def cd_205 : List am_E := [(0, .iload_n 1, 0, 0, 0), (1, .bipush 9, 0, 0, 0), (3, .if_icmp .eq 9, 0, 0, 0), (6, .iload_n 1, 0, 0, 0), (7, .bipush 12, 0, 0, 0), (9, .if_icmp .ne 31, 0, 0, 0), (12, .aload_n 0, 0, 0, 0), (13, .getfield 414, 12, 33, 1290), (16, .bipush 10, 0, 0, 0), (18, .if_icmp .ne 12, 0, 0, 0), (21, .aload_n 0, 0, 0, 0), (22, .iconst 2, 0, 0, 0), (23, .aload_n 0, 0, 0, 0), (24, .getfield 347, 12, 28, 1285), (27, .invokevirtual 381, 191, 3, 1683), (30, .aload_n 0, 0, 0, 0), (31, .dup, 0, 0, 0), (32, .getfield 414, 12, 33, 1290), (35, .iconst 1, 0, 0, 0), (36, .iadd, 0, 0, 0), (37, .putfield 414, 12, 33, 1290), (40, .aload_n 0, 0, 0, 0), (41, .getfield 120, 12, 48, 1305), (44, .aload_n 0, 0, 0, 0), (45, .getfield 411, 12, 35, 1292), (48, .iload_n 1, 0, 0, 0), (49, .iastore, 0, 0, 0), (50, .aload_n 0, 0, 0, 0), (51, .dup, 0, 0, 0), (52, .getfield 411, 12, 35, 1292), (55, .iconst 1, 0, 0, 0), (56, .iadd, 0, 0, 0), (57, .putfield 411, 12, 35, 1292), (60, .return_, 0, 0, 0)]
def cd_206 : List am_E := [(0, .aload_n 0, 0, 0, 0), (1, .invokevirtual 417, 204, 1, 1773), (4, .iload_n 1, 0, 0, 0), (5, .if_icmp .ne 49, 0, 0, 0), (8, .aload_n 0, 0, 0, 0), (9, .getfield 344, 12, 29, 1286), (12, .ifCond .ne 42, 0, 0, 0), (15, .aload_n 0, 0, 0, 0), (16, .iload_n 1, 0, 0, 0), (17, .iconst 0, 0, 0, 0), (18, .invokevirtual 395, 197, 3, 1739), (21, .aload_n 0, 0, 0, 0), (22, .dup, 0, 0, 0), (23, .getfield 411, 12, 35, 1292), (26, .iconst 1, 0, 0, 0), (27, .isub, 0, 0, 0), (28, .putfield 411, 12, 35, 1292), (31, .aload_n 0, 0, 0, 0), (32, .dup, 0, 0, 0), (33, .getfield 414, 12, 33, 1290), (36, .iload_n 1, 0, 0, 0), (37, .bipush 9, 0, 0, 0), (39, .if_icmp .ne 7, 0, 0, 0), (42, .iconst 1, 0, 0, 0), (43, .goto 4, 0, 0, 0), (46, .iconst 0, 0, 0, 0), (47, .isub, 0, 0, 0), (48, .putfield 414, 12, 33, 1290), (51, .goto (-51), 0, 0, 0), (54, .return_, 0, 0, 0)]
def cd_207 : List am_E := [(0, .aload_n 0, 0, 0, 0), (1, .invokevirtual 365, 193, 1, 1654), (4, .aload_n 0, 0, 0, 0), (5, .ldc_w 420, 1, 26, 0), (8, .invokevirtual 368, 195, 2, 1670), (11, .ifCond .eq 21, 0, 0, 0), (14, .aload_n 0, 0, 0, 0), (15, .bipush 9, 0, 0, 0), (17, .invokevirtual 422, 205, 2, 1761), (20, .aload_n 0, 0, 0, 0), (21, .dup, 0, 0, 0), (22, .getfield 347, 12, 28, 1285), (25, .iconst 3, 0, 0, 0), (26, .iadd, 0, 0, 0), (27, .putfield 347, 12, 28, 1285), (30, .iconst 0, 0, 0, 0), (31, .ireturn, 0, 0, 0), (32, .aload_n 0, 0, 0, 0), (33, .invokevirtual 350, 192, 1, 1658), (36, .bipush 91, 0, 0, 0), (38, .if_icmp .ne 21, 0, 0, 0), (41, .aload_n 0, 0, 0, 0), (42, .bipush 12, 0, 0, 0), (44, .invokevirtual 422, 205, 2, 1761), (47, .aload_n 0, 0, 0, 0), (48, .dup, 0, 0, 0), (49, .getfield 347, 12, 28, 1285), (52, .iconst 1, 0, 0, 0), (53, .iadd, 0, 0, 0), (54, .putfield 347, 12, 28, 1285), (57, .iconst 0, 0, 0, 0), (58, .ireturn, 0, 0, 0), (59, .aload_n 0, 0, 0, 0), (60, .invokevirtual 425, 203, 1, 1765), (63, .iconst 1, 0, 0, 0), (64, .ireturn, 0, 0, 0)]
def cd_208 : List am_E := [(0, .aload_n 0, 0, 0, 0), (1, .iconst 0, 0, 0, 0), (2, .putfield 411, 12, 35, 1292), (5, .iconst 1, 0, 0, 0), (6, .istore_n 1, 0, 0, 0), (7, .iconst 1, 0, 0, 0), (8, .istore_n 2, 0, 0, 0), (9, .iload_n 2, 0, 0, 0), (10, .ifCond .eq 192, 0, 0, 0), (13, .aload_n 0, 0, 0, 0), (14, .getfield 344, 12, 29, 1286), (17, .ifCond .ne 185, 0, 0, 0), (20, .iload_n 1, 0, 0, 0), (21, .ifCond .eq 19, 0, 0, 0), (24, .aload_n 0, 0, 0, 0), (25, .invokevirtual 428, 207, 1, 1756), (28, .ifCond .ne 7, 0, 0, 0), (31, .iconst 1, 0, 0, 0), (32, .goto 4, 0, 0, 0), (35, .iconst 0, 0, 0, 0), (36, .istore_n 1, 0, 0, 0), (37, .goto (-28), 0, 0, 0), (40, .aload_n 0, 0, 0, 0), (41, .bipush 9, 0, 0, 0), (43, .invokevirtual 431, 206, 2, 1769), (46, .aload_n 0, 0, 0, 0), (47, .invokevirtual 365, 193, 1, 1654), (50, .aload_n 0, 0, 0, 0), (51, .ldc_w 434, 1, 27, 0), (54, .invokevirtual 368, 195, 2, 1670), (57, .istore_n 3, 0, 0, 0), (58, .aload_n 0, 0, 0, 0), (59, .ldc_w 436, 1, 28, 0), (62, .invokevirtual 368, 195, 2, 1670), (65, .istore 4, 0, 0, 0), (67, .aload_n 0, 0, 0, 0), (68, .bipush 10, 0, 0, 0), (70, .invokevirtual 431, 206, 2, 1769), (73, .iload_n 3, 0, 0, 0), (74, .ifCond .ne 8, 0, 0, 0), (77, .iload 4, 0, 0, 0), (79, .ifCond .eq 52, 0, 0, 0), (82, .iload 4, 0, 0, 0), (84, .ifCond .eq 9, 0, 0, 0), (87, .aload_n 0, 0, 0, 0), (88, .bipush 11, 0, 0, 0), (90, .invokevirtual 431, 206, 2, 1769), (93, .aload_n 0, 0, 0, 0), (94, .iload_n 3, 0, 0, 0), (95, .ifCond .eq 8, 0, 0, 0), (98, .bipush 10, 0, 0, 0), (100, .goto 5, 0, 0, 0), (103, .bipush 11, 0, 0, 0), (105, .invokevirtual 422, 205, 2, 1761), (108, .aload_n 0, 0, 0, 0), (109, .dup, 0, 0, 0), (110, .getfield 347, 12, 28, 1285), (113, .iload_n 3, 0, 0, 0), (114, .ifCond .eq 7, 0, 0, 0), (117, .iconst 3, 0, 0, 0), (118, .goto 4, 0, 0, 0), (121, .iconst 2, 0, 0, 0), (122, .iadd, 0, 0, 0), (123, .putfield 347, 12, 28, 1285), (126, .iconst 1, 0, 0, 0), (127, .istore_n 1, 0, 0, 0), (128, .goto 71, 0, 0, 0), (131, .aload_n 0, 0, 0, 0), (132, .bipush 11, 0, 0, 0), (134, .invokevirtual 431, 206, 2, 1769), (137, .aload_n 0, 0, 0, 0), (138, .invokevirtual 417, 204, 1, 1773), (141, .bipush 12, 0, 0, 0), (143, .if_icmp .ne 54, 0, 0, 0), (146, .aload_n 0, 0, 0, 0), (147, .invokevirtual 350, 192, 1, 1658), (150, .bipush 93, 0, 0, 0), (152, .if_icmp .eq 12, 0, 0, 0), (155, .aload_n 0, 0, 0, 0), (156, .iconst 0, 0, 0, 0), (157, .aload_n 0, 0, 0, 0), (158, .getfield 347, 12, 28, 1285), (161, .invokevirtual 381, 191, 3, 1683), (164, .aload_n 0, 0, 0, 0), (165, .dup, 0, 0, 0), (166, .getfield 347, 12, 28, 1285), (169, .iconst 1, 0, 0, 0), (170, .iadd, 0, 0, 0), (171, .putfield 347, 12, 28, 1285), (174, .aload_n 0, 0, 0, 0), (175, .dup, 0, 0, 0), (176, .getfield 411, 12, 35, 1292), (179, .iconst 1, 0, 0, 0), (180, .isub, 0, 0, 0), (181, .putfield 411, 12, 35, 1292), (184, .aload_n 0, 0, 0, 0), (185, .dup, 0, 0, 0), (186, .getfield 414, 12, 33, 1290), (189, .iconst 1, 0, 0, 0), (190, .isub, 0, 0, 0), (191, .putfield 414, 12, 33, 1290), (194, .goto 5, 0, 0, 0), (197, .iconst 0, 0, 0, 0), (198, .istore_n 2, 0, 0, 0), (199, .goto (-190), 0, 0, 0), (202, .return_, 0, 0, 0)]
def cd_209 : List am_E := [(0, .aload_n 0, 0, 0, 0), (1, .invokevirtual 365, 193, 1, 1654), (4, .aload_n 0, 0, 0, 0), (5, .getfield 344, 12, 29, 1286), (8, .ifCond .ne 11, 0, 0, 0), (11, .aload_n 0, 0, 0, 0), (12, .iload_n 1, 0, 0, 0), (13, .invokevirtual 389, 199, 2, 1731), (16, .goto 4, 0, 0, 0), (19, .iconst 0, 0, 0, 0), (20, .ireturn, 0, 0, 0)]
def cd_210 : List am_E := [(0, .aload_n 0, 0, 0, 0), (1, .invokevirtual 365, 193, 1, 1654), (4, .bipush 7, 0, 0, 0), (6, .istore_n 1, 0, 0, 0), (7, .iload_n 1, 0, 0, 0), (8, .aload_n 0, 0, 0, 0), (9, .getfield 82, 12, 36, 1293), (12, .if_icmp .ge 20, 0, 0, 0), (15, .aload_n 0, 0, 0, 0), (16, .iload_n 1, 0, 0, 0), (17, .invokestatic 398, 189, 1, 1691), (20, .invokevirtual 368, 195, 2, 1670), (23, .ifCond .ne 9, 0, 0, 0), (26, .iinc 1 1, 0, 0, 0), (29, .goto (-22), 0, 0, 0), (32, .iload_n 1, 0, 0, 0), (33, .aload_n 0, 0, 0, 0), (34, .getfield 82, 12, 36, 1293), (37, .if_icmp .ne 15, 0, 0, 0), (40, .aload_n 0, 0, 0, 0), (41, .iconst 0, 0, 0, 0), (42, .aload_n 0, 0, 0, 0), (43, .getfield 347, 12, 28, 1285), (46, .invokevirtual 381, 191, 3, 1683), (49, .goto 20, 0, 0, 0), (52, .aload_n 0, 0, 0, 0), (53, .getfield 344, 12, 29, 1286), (56, .ifCond .ne 13, 0, 0, 0), (59, .aload_n 0, 0, 0, 0), (60, .dup, 0, 0, 0), (61, .getfield 347, 12, 28, 1285), (64, .iconst 1, 0, 0, 0), (65, .iadd, 0, 0, 0), (66, .putfield 347, 12, 28, 1285), (69, .iload_n 1, 0, 0, 0), (70, .bipush 7, 0, 0, 0), (72, .isub, 0, 0, 0), (73, .ireturn, 0, 0, 0)]
def cd_211 : List am_E := [(0, .aload_n 0, 0, 0, 0), (1, .invokevirtual 365, 193, 1, 1654), (4, .aload_n 0, 0, 0, 0), (5, .getfield 347, 12, 28, 1285), (8, .istore_n 2, 0, 0, 0), (9, .iconst 0, 0, 0, 0), (10, .istore_n 3, 0, 0, 0), (11, .iload_n 3, 0, 0, 0), (12, .iconst 5, 0, 0, 0), (13, .if_icmp .ge 20, 0, 0, 0), (16, .aload_n 0, 0, 0, 0), (17, .iload_n 3, 0, 0, 0), (18, .invokestatic 438, 190, 1, 1662), (21, .invokevirtual 368, 195, 2, 1670), (24, .ifCond .ne 9, 0, 0, 0), (27, .iinc 3 1, 0, 0, 0), (30, .goto (-19), 0, 0, 0), (33, .iload_n 3, 0, 0, 0), (34, .iconst 5, 0, 0, 0), (35, .if_icmp .ne 10, 0, 0, 0), (38, .aload_n 0, 0, 0, 0), (39, .iconst 0, 0, 0, 0), (40, .iload_n 2, 0, 0, 0), (41, .invokevirtual 381, 191, 3, 1683), (44, .return_, 0, 0, 0), (45, .iload_n 1, 0, 0, 0), (46, .bipush 12, 0, 0, 0), (48, .if_icmp .ne 10, 0, 0, 0), (51, .aload_n 0, 0, 0, 0), (52, .iconst 4, 0, 0, 0), (53, .iload_n 2, 0, 0, 0), (54, .invokevirtual 381, 191, 3, 1683), (57, .return_, 0, 0, 0), (58, .aload_n 0, 0, 0, 0), (59, .dup, 0, 0, 0), (60, .getfield 347, 12, 28, 1285), (63, .iload_n 3, 0, 0, 0), (64, .invokestatic 438, 190, 1, 1662), (67, .invokevirtual 357, 255, 1, 1674), (70, .iadd, 0, 0, 0), (71, .putfield 347, 12, 28, 1285), (74, .bipush 12, 0, 0, 0), (76, .aload_n 0, 0, 0, 0), (77, .getfield 372, 12, 30, 1287), (80, .imul, 0, 0, 0), (81, .iload_n 1, 0, 0, 0), (82, .iadd, 0, 0, 0), (83, .istore 4, 0, 0, 0), (85, .aload_n 0, 0, 0, 0), (86, .getfield 99, 12, 41, 1298), (89, .iload 4, 0, 0, 0), (91, .iload_n 3, 0, 0, 0), (92, .iastore, 0, 0, 0), (93, .aload_n 0, 0, 0, 0), (94, .getfield 111, 12, 45, 1302), (97, .iload 4, 0, 0, 0), (99, .aload_n 0, 0, 0, 0), (100, .getfield 375, 12, 32, 1289), (103, .iastore, 0, 0, 0), (104, .iload_n 3, 0, 0, 0), (105, .iconst 3, 0, 0, 0), (106, .if_icmp .ge 41, 0, 0, 0), (109, .aload_n 0, 0, 0, 0), (110, .getfield 102, 12, 42, 1299), (113, .iload 4, 0, 0, 0), (115, .aload_n 0, 0, 0, 0), (116, .invokevirtual 441, 210, 1, 1687), (119, .iastore, 0, 0, 0), (120, .aload_n 0, 0, 0, 0), (121, .getfield 105, 12, 43, 1300), (124, .iload 4, 0, 0, 0), (126, .iload_n 3, 0, 0, 0), (127, .iconst 2, 0, 0, 0), (128, .if_icmp .ne 17, 0, 0, 0), (131, .aload_n 0, 0, 0, 0), (132, .getfield 344, 12, 29, 1286), (135, .ifCond .ne 10, 0, 0, 0), (138, .aload_n 0, 0, 0, 0), (139, .invokevirtual 441, 210, 1, 1687), (142, .goto 4, 0, 0, 0), (145, .iconst 0, 0, 0, 0), (146, .iastore, 0, 0, 0), (147, .iload_n 3, 0, 0, 0), (148, .iconst 4, 0, 0, 0), (149, .if_icmp .ne 10, 0, 0, 0), (152, .aload_n 0, 0, 0, 0), (153, .invokevirtual 408, 202, 1, 1712), (156, .goto 27, 0, 0, 0), (159, .aload_n 0, 0, 0, 0), (160, .getfield 108, 12, 44, 1301), (163, .iload 4, 0, 0, 0), (165, .aload_n 0, 0, 0, 0), (166, .iload_n 3, 0, 0, 0), (167, .iconst 3, 0, 0, 0), (168, .if_icmp .ne 8, 0, 0, 0), (171, .bipush 99, 0, 0, 0), (173, .goto 6, 0, 0, 0), (176, .sipush 9999, 0, 0, 0), (179, .invokevirtual 444, 209, 2, 1743), (182, .iastore, 0, 0, 0), (183, .aload_n 0, 0, 0, 0), (184, .getfield 114, 12, 46, 1303), (187, .iload 4, 0, 0, 0), (189, .aload_n 0, 0, 0, 0), (190, .getfield 375, 12, 32, 1289), (193, .iastore, 0, 0, 0), (194, .aload_n 0, 0, 0, 0), (195, .getfield 344, 12, 29, 1286), (198, .ifCond .ne 17, 0, 0, 0), (201, .aload_n 0, 0, 0, 0), (202, .ldc_w 447, 1, 25, 0), (205, .invokevirtual 449, 196, 2, 1748), (208, .ifCond .eq 7, 0, 0, 0), (211, .aload_n 0, 0, 0, 0), (212, .invokevirtual 452, 208, 1, 1752), (215, .aload_n 0, 0, 0, 0), (216, .getfield 117, 12, 47, 1304), (219, .iload 4, 0, 0, 0), (221, .aload_n 0, 0, 0, 0), (222, .getfield 375, 12, 32, 1289), (225, .iastore, 0, 0, 0), (226, .return_, 0, 0, 0)]
def cd_212 : List am_E := [(0, .aload_n 0, 0, 0, 0), (1, .getfield 455, 12, 31, 1288), (4, .bipush 6, 0, 0, 0), (6, .if_icmp .ne 5, 0, 0, 0), (9, .iconst (-1), 0, 0, 0), (10, .ireturn, 0, 0, 0), (11, .aload_n 0, 0, 0, 0), (12, .aload_n 0, 0, 0, 0), (13, .getfield 455, 12, 31, 1288), (16, .putfield 372, 12, 30, 1287), (19, .aload_n 0, 0, 0, 0), (20, .iconst 0, 0, 0, 0), (21, .putfield 347, 12, 28, 1285), (24, .aload_n 0, 0, 0, 0), (25, .iconst 0, 0, 0, 0), (26, .putfield 344, 12, 29, 1286), (29, .aload_n 0, 0, 0, 0), (30, .iconst 0, 0, 0, 0), (31, .putfield 375, 12, 32, 1289), (34, .aload_n 0, 0, 0, 0), (35, .iconst 0, 0, 0, 0), (36, .putfield 414, 12, 33, 1290), (39, .aload_n 0, 0, 0, 0), (40, .iconst 0, 0, 0, 0), (41, .putfield 378, 12, 34, 1291), (44, .iconst 0, 0, 0, 0), (45, .istore_n 1, 0, 0, 0), (46, .iconst 1, 0, 0, 0), (47, .istore_n 2, 0, 0, 0), (48, .iload_n 2, 0, 0, 0), (49, .ifCond .eq 88, 0, 0, 0), (52, .aload_n 0, 0, 0, 0), (53, .iload_n 1, 0, 0, 0), (54, .invokevirtual 458, 211, 2, 1650), (57, .iinc 1 1, 0, 0, 0), (60, .aload_n 0, 0, 0, 0), (61, .invokevirtual 365, 193, 1, 1654), (64, .aload_n 0, 0, 0, 0), (65, .getfield 344, 12, 29, 1286), (68, .ifCond .ne 32, 0, 0, 0), (71, .aload_n 0, 0, 0, 0), (72, .getfield 347, 12, 28, 1285), (75, .aload_n 0, 0, 0, 0), (76, .getfield 294, 12, 27, 1284), (79, .if_icmp .ge 21, 0, 0, 0), (82, .aload_n 0, 0, 0, 0), (83, .invokevirtual 350, 192, 1, 1658), (86, .bipush 59, 0, 0, 0), (88, .if_icmp .eq 12, 0, 0, 0), (91, .aload_n 0, 0, 0, 0), (92, .iconst 0, 0, 0, 0), (93, .aload_n 0, 0, 0, 0), (94, .getfield 347, 12, 28, 1285), (97, .invokevirtual 381, 191, 3, 1683), (100, .aload_n 0, 0, 0, 0), (101, .getfield 344, 12, 29, 1286), (104, .ifCond .ne 18, 0, 0, 0), (107, .aload_n 0, 0, 0, 0), (108, .getfield 347, 12, 28, 1285), (111, .aload_n 0, 0, 0, 0), (112, .getfield 294, 12, 27, 1284), (115, .if_icmp .ge 7, 0, 0, 0), (118, .iconst 1, 0, 0, 0), (119, .goto 4, 0, 0, 0), (122, .iconst 0, 0, 0, 0), (123, .istore_n 2, 0, 0, 0), (124, .aload_n 0, 0, 0, 0), (125, .dup, 0, 0, 0), (126, .getfield 347, 12, 28, 1285), (129, .iconst 1, 0, 0, 0), (130, .iadd, 0, 0, 0), (131, .putfield 347, 12, 28, 1285), (134, .goto (-86), 0, 0, 0), (137, .aload_n 0, 0, 0, 0), (138, .iconst 0, 0, 0, 0), (139, .putfield 294, 12, 27, 1284), (142, .aload_n 0, 0, 0, 0), (143, .getfield 96, 12, 40, 1297), (146, .aload_n 0, 0, 0, 0), (147, .getfield 372, 12, 30, 1287), (150, .iload_n 1, 0, 0, 0), (151, .iastore, 0, 0, 0), (152, .aload_n 0, 0, 0, 0), (153, .dup, 0, 0, 0), (154, .getfield 455, 12, 31, 1288), (157, .aload_n 0, 0, 0, 0), (158, .getfield 344, 12, 29, 1286), (161, .ifCond .ne 7, 0, 0, 0), (164, .iconst 1, 0, 0, 0), (165, .goto 4, 0, 0, 0), (168, .iconst 0, 0, 0, 0), (169, .iadd, 0, 0, 0), (170, .putfield 455, 12, 31, 1288), (173, .aload_n 0, 0, 0, 0), (174, .getfield 344, 12, 29, 1286), (177, .ifCond .le 13, 0, 0, 0), (180, .bipush (-2), 0, 0, 0), (182, .aload_n 0, 0, 0, 0), (183, .getfield 344, 12, 29, 1286), (186, .isub, 0, 0, 0), (187, .goto 9, 0, 0, 0), (190, .aload_n 0, 0, 0, 0), (191, .getfield 455, 12, 31, 1288), (194, .iconst 1, 0, 0, 0), (195, .isub, 0, 0, 0), (196, .ireturn, 0, 0, 0)]
def cd_213 : List am_E := [(0, .aload_n 0, 0, 0, 0), (1, .invokevirtual 143, 143, 1, 1443), (4, .ifCond .eq 23, 0, 0, 0), (7, .iload_n 1, 0, 0, 0), (8, .i2l, 0, 0, 0), (9, .lconst 0, 0, 0, 0), (10, .aload_n 0, 0, 0, 0), (11, .getfield 455, 12, 31, 1288), (14, .iconst 1, 0, 0, 0), (15, .isub, 0, 0, 0), (16, .i2l, 0, 0, 0), (17, .invokestatic 147, 139, 3, 1433), (20, .ifCond .eq 7, 0, 0, 0), (23, .iconst 1, 0, 0, 0), (24, .goto 4, 0, 0, 0), (27, .iconst 0, 0, 0, 0), (28, .ireturn, 0, 0, 0)]
def cd_214 : List am_E := [(0, .iload_n 0, 0, 0, 0), (1, .ifCond .eq 7, 0, 0, 0), (4, .lconst 1, 0, 0, 0), (5, .goto 4, 0, 0, 0), (8, .lconst 0, 0, 0, 0), (9, .lreturn, 0, 0, 0)]
def cd_215 : List am_E := [(0, .iload_n 0, 0, 0, 0), (1, .tableswitch 172 2 14 #[67, 71, 93, 108, 123, 138, 153, 172, 168, 172, 172, 75, 79], 67, 0, 0), (68, .lload_n 1, 0, 0, 0), (69, .lload_n 3, 0, 0, 0), (70, .ladd, 0, 0, 0), (71, .lreturn, 0, 0, 0), (72, .lload_n 1, 0, 0, 0), (73, .lload_n 3, 0, 0, 0), (74, .lsub, 0, 0, 0), (75, .lreturn, 0, 0, 0), (76, .lload_n 1, 0, 0, 0), (77, .lload_n 3, 0, 0, 0), (78, .lmul, 0, 0, 0), (79, .lreturn, 0, 0, 0), (80, .lload_n 3, 0, 0, 0), (81, .lconst 0, 0, 0, 0), (82, .lcmp, 0, 0, 0), (83, .ifCond .ne 7, 0, 0, 0), (86, .lconst 0, 0, 0, 0), (87, .goto 6, 0, 0, 0), (90, .lload_n 1, 0, 0, 0), (91, .lload_n 3, 0, 0, 0), (92, .ldiv, 0, 0, 0), (93, .lreturn, 0, 0, 0), (94, .lload_n 1, 0, 0, 0), (95, .lload_n 3, 0, 0, 0), (96, .lcmp, 0, 0, 0), (97, .ifCond .ge 7, 0, 0, 0), (100, .iconst 1, 0, 0, 0), (101, .goto 4, 0, 0, 0), (104, .iconst 0, 0, 0, 0), (105, .invokestatic 461, 214, 1, 1810), (108, .lreturn, 0, 0, 0), (109, .lload_n 1, 0, 0, 0), (110, .lload_n 3, 0, 0, 0), (111, .lcmp, 0, 0, 0), (112, .ifCond .gt 7, 0, 0, 0), (115, .iconst 1, 0, 0, 0), (116, .goto 4, 0, 0, 0), (119, .iconst 0, 0, 0, 0), (120, .invokestatic 461, 214, 1, 1810), (123, .lreturn, 0, 0, 0), (124, .lload_n 1, 0, 0, 0), (125, .lload_n 3, 0, 0, 0), (126, .lcmp, 0, 0, 0), (127, .ifCond .ne 7, 0, 0, 0), (130, .iconst 1, 0, 0, 0), (131, .goto 4, 0, 0, 0), (134, .iconst 0, 0, 0, 0), (135, .invokestatic 461, 214, 1, 1810), (138, .lreturn, 0, 0, 0), (139, .lload_n 1, 0, 0, 0), (140, .lload_n 3, 0, 0, 0), (141, .lcmp, 0, 0, 0), (142, .ifCond .lt 7, 0, 0, 0), (145, .iconst 1, 0, 0, 0), (146, .goto 4, 0, 0, 0), (149, .iconst 0, 0, 0, 0), (150, .invokestatic 461, 214, 1, 1810), (153, .lreturn, 0, 0, 0), (154, .lload_n 1, 0, 0, 0), (155, .lload_n 3, 0, 0, 0), (156, .lcmp, 0, 0, 0), (157, .ifCond .le 7, 0, 0, 0), (160, .iconst 1, 0, 0, 0), (161, .goto 4, 0, 0, 0), (164, .iconst 0, 0, 0, 0), (165, .invokestatic 461, 214, 1, 1810), (168, .lreturn, 0, 0, 0), (169, .lload_n 1, 0, 0, 0), (170, .lload_n 3, 0, 0, 0), (171, .land, 0, 0, 0), (172, .lreturn, 0, 0, 0), (173, .lload_n 1, 0, 0, 0), (174, .lload_n 3, 0, 0, 0), (175, .lor, 0, 0, 0), (176, .lreturn, 0, 0, 0)]
def cd_216 : List am_E := [(0, .iconst 0, 0, 0, 0), (1, .istore 4, 0, 0, 0), (3, .iload_n 2, 0, 0, 0), (4, .istore 5, 0, 0, 0), (6, .iload 5, 0, 0, 0), (8, .iload_n 3, 0, 0, 0), (9, .if_icmp .ge 144, 0, 0, 0), (12, .aload_n 0, 0, 0, 0), (13, .getfield 90, 12, 38, 1295), (16, .sipush 300, 0, 0, 0), (19, .iload_n 1, 0, 0, 0), (20, .imul, 0, 0, 0), (21, .iload 5, 0, 0, 0), (23, .iadd, 0, 0, 0), (24, .iaload, 0, 0, 0), (25, .istore 6, 0, 0, 0), (27, .aload_n 0, 0, 0, 0), (28, .getfield 93, 12, 39, 1296), (31, .sipush 300, 0, 0, 0), (34, .iload_n 1, 0, 0, 0), (35, .imul, 0, 0, 0), (36, .iload 5, 0, 0, 0), (38, .iadd, 0, 0, 0), (39, .iaload, 0, 0, 0), (40, .istore 7, 0, 0, 0), (42, .iload 6, 0, 0, 0), (44, .ifCond .eq 9, 0, 0, 0), (47, .iload 6, 0, 0, 0), (49, .iconst 1, 0, 0, 0), (50, .if_icmp .ne 34, 0, 0, 0), (53, .aload_n 0, 0, 0, 0), (54, .getfield 127, 12, 50, 1307), (57, .iload 4, 0, 0, 0), (59, .iload 6, 0, 0, 0), (61, .ifCond .ne 9, 0, 0, 0), (64, .iload 7, 0, 0, 0), (66, .i2l, 0, 0, 0), (67, .goto 10, 0, 0, 0), (70, .aload_n 0, 0, 0, 0), (71, .getfield 123, 12, 49, 1306), (74, .iload 7, 0, 0, 0), (76, .laload, 0, 0, 0), (77, .lastore, 0, 0, 0), (78, .iinc 4 1, 0, 0, 0), (81, .goto 66, 0, 0, 0), (84, .iload 6, 0, 0, 0), (86, .bipush 9, 0, 0, 0), (88, .if_icmp .ne 26, 0, 0, 0), (91, .aload_n 0, 0, 0, 0), (92, .getfield 127, 12, 50, 1307), (95, .iload 4, 0, 0, 0), (97, .iconst 1, 0, 0, 0), (98, .isub, 0, 0, 0), (99, .lconst 1, 0, 0, 0), (100, .aload_n 0, 0, 0, 0), (101, .getfield 127, 12, 50, 1307), (104, .iload 4, 0, 0, 0), (106, .iconst 1, 0, 0, 0), (107, .isub, 0, 0, 0), (108, .laload, 0, 0, 0), (109, .lsub, 0, 0, 0), (110, .lastore, 0, 0, 0), (111, .goto 36, 0, 0, 0), (114, .iinc 4 (-1), 0, 0, 0), (117, .aload_n 0, 0, 0, 0), (118, .getfield 127, 12, 50, 1307), (121, .iload 4, 0, 0, 0), (123, .iconst 1, 0, 0, 0), (124, .isub, 0, 0, 0), (125, .iload 6, 0, 0, 0), (127, .aload_n 0, 0, 0, 0), (128, .getfield 127, 12, 50, 1307), (131, .iload 4, 0, 0, 0), (133, .iconst 1, 0, 0, 0), (134, .isub, 0, 0, 0), (135, .laload, 0, 0, 0), (136, .aload_n 0, 0, 0, 0), (137, .getfield 127, 12, 50, 1307), (140, .iload 4, 0, 0, 0), (142, .laload, 0, 0, 0), (143, .invokestatic 465, 215, 3, 1807), (146, .lastore, 0, 0, 0), (147, .iinc 5 1, 0, 0, 0), (150, .goto (-144), 0, 0, 0), (153, .aload_n 0, 0, 0, 0), (154, .getfield 127, 12, 50, 1307), (157, .iconst 0, 0, 0, 0), (158, .laload, 0, 0, 0), (159, .lreturn, 0, 0, 0)]
def cd_217 : List am_E := [(0, .aload_n 0, 0, 0, 0), (1, .getfield 123, 12, 49, 1306), (4, .iconst 0, 0, 0, 0), (5, .aload_n 0, 0, 0, 0), (6, .getfield 7, 12, 1, 1258), (9, .bipush 7, 0, 0, 0), (11, .iaload, 0, 0, 0), (12, .invokestatic 228, 142, 1, 1560), (15, .i2l, 0, 0, 0), (16, .lastore, 0, 0, 0), (17, .aload_n 0, 0, 0, 0), (18, .getfield 123, 12, 49, 1306), (21, .iconst 1, 0, 0, 0), (22, .aload_n 0, 0, 0, 0), (23, .getfield 7, 12, 1, 1258), (26, .bipush 7, 0, 0, 0), (28, .iaload, 0, 0, 0), (29, .ifCond .le 7, 0, 0, 0), (32, .lconst 1, 0, 0, 0), (33, .goto 20, 0, 0, 0), (36, .aload_n 0, 0, 0, 0), (37, .getfield 7, 12, 1, 1258), (40, .bipush 7, 0, 0, 0), (42, .iaload, 0, 0, 0), (43, .ifCond .ge 9, 0, 0, 0), (46, .ldc2_w 185, 0, 18446744073709551615, 1486), (49, .goto 4, 0, 0, 0), (52, .lconst 0, 0, 0, 0), (53, .lastore, 0, 0, 0), (54, .aload_n 0, 0, 0, 0), (55, .getfield 123, 12, 49, 1306), (58, .iconst 2, 0, 0, 0), (59, .aload_n 0, 0, 0, 0), (60, .getfield 7, 12, 1, 1258), (63, .bipush 8, 0, 0, 0), (65, .iaload, 0, 0, 0), (66, .i2l, 0, 0, 0), (67, .lastore, 0, 0, 0), (68, .aload_n 0, 0, 0, 0), (69, .getfield 123, 12, 49, 1306), (72, .iconst 3, 0, 0, 0), (73, .aload_n 0, 0, 0, 0), (74, .invokevirtual 265, 162, 1, 1508), (77, .i2l, 0, 0, 0), (78, .lastore, 0, 0, 0), (79, .aload_n 0, 0, 0, 0), (80, .getfield 123, 12, 49, 1306), (83, .iconst 4, 0, 0, 0), (84, .aload_n 0, 0, 0, 0), (85, .getfield 7, 12, 1, 1258), (88, .bipush 6, 0, 0, 0), (90, .iaload, 0, 0, 0), (91, .i2l, 0, 0, 0), (92, .lastore, 0, 0, 0), (93, .aload_n 0, 0, 0, 0), (94, .getfield 123, 12, 49, 1306), (97, .iconst 5, 0, 0, 0), (98, .aload_n 0, 0, 0, 0), (99, .invokevirtual 211, 160, 1, 1504), (102, .i2l, 0, 0, 0), (103, .lastore, 0, 0, 0), (104, .aload_n 0, 0, 0, 0), (105, .getfield 123, 12, 49, 1306), (108, .bipush 6, 0, 0, 0), (110, .aload_n 0, 0, 0, 0), (111, .invokevirtual 257, 170, 1, 1512), (114, .i2l, 0, 0, 0), (115, .lastore, 0, 0, 0), (116, .iconst 0, 0, 0, 0), (117, .istore_n 1, 0, 0, 0), (118, .iload_n 1, 0, 0, 0), (119, .bipush 12, 0, 0, 0), (121, .if_icmp .ge 40, 0, 0, 0), (124, .aload_n 0, 0, 0, 0), (125, .getfield 123, 12, 49, 1306), (128, .bipush 7, 0, 0, 0), (130, .iload_n 1, 0, 0, 0), (131, .iadd, 0, 0, 0), (132, .iload_n 1, 0, 0, 0), (133, .aload_n 0, 0, 0, 0), (134, .getfield 7, 12, 1, 1258), (137, .bipush 9, 0, 0, 0), (139, .iaload, 0, 0, 0), (140, .if_icmp .ge 13, 0, 0, 0), (143, .aload_n 0, 0, 0, 0), (144, .getfield 40, 12, 11, 1268), (147, .iload_n 1, 0, 0, 0), (148, .iaload, 0, 0, 0), (149, .i2l, 0, 0, 0), (150, .goto 4, 0, 0, 0), (153, .lconst 0, 0, 0, 0), (154, .lastore, 0, 0, 0), (155, .iinc 1 1, 0, 0, 0), (158, .goto (-40), 0, 0, 0), (161, .return_, 0, 0, 0)]
def cd_218 : List am_E := [(0, .iload_n 1, 0, 0, 0), (1, .aload_n 0, 0, 0, 0), (2, .getfield 7, 12, 1, 1258), (5, .bipush 9, 0, 0, 0), (7, .iaload, 0, 0, 0), (8, .if_icmp .ge 29, 0, 0, 0), (11, .aload_n 0, 0, 0, 0), (12, .getfield 40, 12, 11, 1268), (15, .iload_n 1, 0, 0, 0), (16, .aload_n 0, 0, 0, 0), (17, .getfield 40, 12, 11, 1268), (20, .iload_n 1, 0, 0, 0), (21, .iaload, 0, 0, 0), (22, .iload_n 2, 0, 0, 0), (23, .iadd, 0, 0, 0), (24, .i2l, 0, 0, 0), (25, .lconst 0, 0, 0, 0), (26, .aload_n 0, 0, 0, 0), (27, .iload_n 1, 0, 0, 0), (28, .invokevirtual 177, 149, 2, 1464), (31, .i2l, 0, 0, 0), (32, .invokestatic 280, 140, 3, 1615), (35, .l2i, 0, 0, 0), (36, .iastore, 0, 0, 0), (37, .return_, 0, 0, 0)]
def cd_219 : List am_E := [(0, .iload_n 1, 0, 0, 0), (1, .aload_n 0, 0, 0, 0), (2, .getfield 7, 12, 1, 1258), (5, .bipush 9, 0, 0, 0), (7, .iaload, 0, 0, 0), (8, .if_icmp .ge 19, 0, 0, 0), (11, .iload_n 2, 0, 0, 0), (12, .aload_n 0, 0, 0, 0), (13, .getfield 7, 12, 1, 1258), (16, .bipush 9, 0, 0, 0), (18, .iaload, 0, 0, 0), (19, .if_icmp .ge 8, 0, 0, 0), (22, .iload_n 1, 0, 0, 0), (23, .iload_n 2, 0, 0, 0), (24, .if_icmp .ne 4, 0, 0, 0), (27, .return_, 0, 0, 0), (28, .aload_n 0, 0, 0, 0), (29, .getfield 40, 12, 11, 1268), (32, .iload_n 1, 0, 0, 0), (33, .iaload, 0, 0, 0), (34, .iload_n 3, 0, 0, 0), (35, .if_icmp .ge 12, 0, 0, 0), (38, .aload_n 0, 0, 0, 0), (39, .getfield 40, 12, 11, 1268), (42, .iload_n 1, 0, 0, 0), (43, .iaload, 0, 0, 0), (44, .goto 4, 0, 0, 0), (47, .iload_n 3, 0, 0, 0), (48, .istore 4, 0, 0, 0), (50, .aload_n 0, 0, 0, 0), (51, .iload_n 2, 0, 0, 0), (52, .invokevirtual 177, 149, 2, 1464), (55, .aload_n 0, 0, 0, 0), (56, .getfield 40, 12, 11, 1268), (59, .iload_n 2, 0, 0, 0), (60, .iaload, 0, 0, 0), (61, .isub, 0, 0, 0), (62, .iload 4, 0, 0, 0), (64, .if_icmp .ge 18, 0, 0, 0), (67, .aload_n 0, 0, 0, 0), (68, .iload_n 2, 0, 0, 0), (69, .invokevirtual 177, 149, 2, 1464), (72, .aload_n 0, 0, 0, 0), (73, .getfield 40, 12, 11, 1268), (76, .iload_n 2, 0, 0, 0), (77, .iaload, 0, 0, 0), (78, .isub, 0, 0, 0), (79, .goto 5, 0, 0, 0), (82, .iload 4, 0, 0, 0), (84, .istore 4, 0, 0, 0), (86, .aload_n 0, 0, 0, 0), (87, .getfield 40, 12, 11, 1268), (90, .iload_n 1, 0, 0, 0), (91, .dup2, 0, 0, 0), (92, .iaload, 0, 0, 0), (93, .iload 4, 0, 0, 0), (95, .isub, 0, 0, 0), (96, .iastore, 0, 0, 0), (97, .aload_n 0, 0, 0, 0), (98, .getfield 40, 12, 11, 1268), (101, .iload_n 2, 0, 0, 0), (102, .dup2, 0, 0, 0), (103, .iaload, 0, 0, 0), (104, .iload 4, 0, 0, 0), (106, .iadd, 0, 0, 0), (107, .iastore, 0, 0, 0), (108, .return_, 0, 0, 0)]
def cd_220 : List am_E := [(0, .aload_n 0, 0, 0, 0), (1, .invokevirtual 469, 217, 1, 1799), (4, .aload_n 0, 0, 0, 0), (5, .getfield 114, 12, 46, 1303), (8, .iload_n 2, 0, 0, 0), (9, .iaload, 0, 0, 0), (10, .aload_n 0, 0, 0, 0), (11, .getfield 117, 12, 47, 1304), (14, .iload_n 2, 0, 0, 0), (15, .iaload, 0, 0, 0), (16, .if_icmp .ge 26, 0, 0, 0), (19, .aload_n 0, 0, 0, 0), (20, .iload_n 1, 0, 0, 0), (21, .aload_n 0, 0, 0, 0), (22, .getfield 114, 12, 46, 1303), (25, .iload_n 2, 0, 0, 0), (26, .iaload, 0, 0, 0), (27, .aload_n 0, 0, 0, 0), (28, .getfield 117, 12, 47, 1304), (31, .iload_n 2, 0, 0, 0), (32, .iaload, 0, 0, 0), (33, .invokevirtual 472, 216, 4, 1803), (36, .lconst 0, 0, 0, 0), (37, .lcmp, 0, 0, 0), (38, .ifCond .ne 4, 0, 0, 0), (41, .return_, 0, 0, 0), (42, .aload_n 0, 0, 0, 0), (43, .getfield 99, 12, 41, 1298), (46, .iload_n 2, 0, 0, 0), (47, .iaload, 0, 0, 0), (48, .tableswitch 112 0 3 #[32, 52, 71, 96], 32, 0, 0), (80, .aload_n 0, 0, 0, 0), (81, .aload_n 0, 0, 0, 0), (82, .getfield 102, 12, 42, 1299), (85, .iload_n 2, 0, 0, 0), (86, .iaload, 0, 0, 0), (87, .aload_n 0, 0, 0, 0), (88, .getfield 108, 12, 44, 1301), (91, .iload_n 2, 0, 0, 0), (92, .iaload, 0, 0, 0), (93, .ineg, 0, 0, 0), (94, .invokevirtual 476, 218, 3, 1813), (97, .goto 96, 0, 0, 0), (100, .aload_n 0, 0, 0, 0), (101, .aload_n 0, 0, 0, 0), (102, .getfield 102, 12, 42, 1299), (105, .iload_n 2, 0, 0, 0), (106, .iaload, 0, 0, 0), (107, .aload_n 0, 0, 0, 0), (108, .getfield 108, 12, 44, 1301), (111, .iload_n 2, 0, 0, 0), (112, .iaload, 0, 0, 0), (113, .invokevirtual 476, 218, 3, 1813), (116, .goto 77, 0, 0, 0), (119, .aload_n 0, 0, 0, 0), (120, .aload_n 0, 0, 0, 0), (121, .getfield 102, 12, 42, 1299), (124, .iload_n 2, 0, 0, 0), (125, .iaload, 0, 0, 0), (126, .aload_n 0, 0, 0, 0), (127, .getfield 105, 12, 43, 1300), (130, .iload_n 2, 0, 0, 0), (131, .iaload, 0, 0, 0), (132, .aload_n 0, 0, 0, 0), (133, .getfield 108, 12, 44, 1301), (136, .iload_n 2, 0, 0, 0), (137, .iaload, 0, 0, 0), (138, .invokevirtual 479, 219, 4, 1817), (141, .goto 52, 0, 0, 0), (144, .aload_n 0, 0, 0, 0), (145, .getfield 7, 12, 1, 1258), (148, .bipush 6, 0, 0, 0), (150, .aload_n 0, 0, 0, 0), (151, .getfield 108, 12, 44, 1301), (154, .iload_n 2, 0, 0, 0), (155, .iaload, 0, 0, 0), (156, .iastore, 0, 0, 0), (157, .goto 36, 0, 0, 0), (160, .aload_n 0, 0, 0, 0), (161, .getfield 7, 12, 1, 1258), (164, .iconst 5, 0, 0, 0), (165, .aload_n 0, 0, 0, 0), (166, .iload_n 1, 0, 0, 0), (167, .aload_n 0, 0, 0, 0), (168, .getfield 111, 12, 45, 1302), (171, .iload_n 2, 0, 0, 0), (172, .iaload, 0, 0, 0), (173, .aload_n 0, 0, 0, 0), (174, .getfield 114, 12, 46, 1303), (177, .iload_n 2, 0, 0, 0), (178, .iaload, 0, 0, 0), (179, .invokevirtual 472, 216, 4, 1803), (182, .ldc2_w 193, 0, 18446744073709451617, 1496), (185, .ldc2_w 155, 0, 99999, 1436), (188, .invokestatic 280, 140, 3, 1615), (191, .l2i, 0, 0, 0), (192, .iastore, 0, 0, 0), (193, .return_, 0, 0, 0)]
def cd_221 : List am_E := [(0, .iconst 0, 0, 0, 0), (1, .istore_n 1, 0, 0, 0), (2, .iload_n 1, 0, 0, 0), (3, .aload_n 0, 0, 0, 0), (4, .getfield 7, 12, 1, 1258), (7, .bipush 11, 0, 0, 0), (9, .iaload, 0, 0, 0), (10, .if_icmp .ge 88, 0, 0, 0), (13, .aload_n 0, 0, 0, 0), (14, .aload_n 0, 0, 0, 0), (15, .getfield 58, 12, 17, 1274), (18, .iload_n 1, 0, 0, 0), (19, .iaload, 0, 0, 0), (20, .aload_n 0, 0, 0, 0), (21, .getfield 61, 12, 18, 1275), (24, .iload_n 1, 0, 0, 0), (25, .iaload, 0, 0, 0), (26, .invokevirtual 284, 181, 3, 1611), (29, .istore_n 2, 0, 0, 0), (30, .iload_n 2, 0, 0, 0), (31, .aload_n 0, 0, 0, 0), (32, .getfield 64, 12, 19, 1276), (35, .iload_n 1, 0, 0, 0), (36, .iaload, 0, 0, 0), (37, .if_icmp .le 7, 0, 0, 0), (40, .iload_n 2, 0, 0, 0), (41, .goto 9, 0, 0, 0), (44, .aload_n 0, 0, 0, 0), (45, .getfield 64, 12, 19, 1276), (48, .iload_n 1, 0, 0, 0), (49, .iaload, 0, 0, 0), (50, .istore_n 3, 0, 0, 0), (51, .aload_n 0, 0, 0, 0), (52, .aload_n 0, 0, 0, 0), (53, .getfield 61, 12, 18, 1275), (56, .iload_n 1, 0, 0, 0), (57, .iaload, 0, 0, 0), (58, .invokevirtual 288, 182, 2, 1622), (61, .iload_n 3, 0, 0, 0), (62, .isub, 0, 0, 0), (63, .istore 4, 0, 0, 0), (65, .iload 4, 0, 0, 0), (67, .ifCond .le 25, 0, 0, 0), (70, .aload_n 0, 0, 0, 0), (71, .aload_n 0, 0, 0, 0), (72, .getfield 58, 12, 17, 1274), (75, .iload_n 1, 0, 0, 0), (76, .iaload, 0, 0, 0), (77, .aload_n 0, 0, 0, 0), (78, .getfield 67, 12, 20, 1277), (81, .iload_n 1, 0, 0, 0), (82, .iaload, 0, 0, 0), (83, .iload 4, 0, 0, 0), (85, .imul, 0, 0, 0), (86, .bipush 100, 0, 0, 0), (88, .idiv, 0, 0, 0), (89, .invokevirtual 476, 218, 3, 1813), (92, .iinc 1 1, 0, 0, 0), (95, .goto (-93), 0, 0, 0), (98, .return_, 0, 0, 0)]
def cd_222 : List am_E := [(0, .aload_n 0, 0, 0, 0), (1, .aload_n 0, 0, 0, 0), (2, .getfield 73, 12, 22, 1279), (5, .iload_n 1, 0, 0, 0), (6, .iaload, 0, 0, 0), (7, .invokevirtual 288, 182, 2, 1622), (10, .istore_n 2, 0, 0, 0), (11, .iload_n 2, 0, 0, 0), (12, .aload_n 0, 0, 0, 0), (13, .getfield 76, 12, 23, 1280), (16, .iload_n 1, 0, 0, 0), (17, .iaload, 0, 0, 0), (18, .if_icmp .le 7, 0, 0, 0), (21, .iload_n 2, 0, 0, 0), (22, .goto 9, 0, 0, 0), (25, .aload_n 0, 0, 0, 0), (26, .getfield 76, 12, 23, 1280), (29, .iload_n 1, 0, 0, 0), (30, .iaload, 0, 0, 0), (31, .istore_n 3, 0, 0, 0), (32, .aload_n 0, 0, 0, 0), (33, .aload_n 0, 0, 0, 0), (34, .getfield 70, 12, 21, 1278), (37, .iload_n 1, 0, 0, 0), (38, .iaload, 0, 0, 0), (39, .aload_n 0, 0, 0, 0), (40, .getfield 73, 12, 22, 1279), (43, .iload_n 1, 0, 0, 0), (44, .iaload, 0, 0, 0), (45, .invokevirtual 284, 181, 3, 1611), (48, .iload_n 3, 0, 0, 0), (49, .isub, 0, 0, 0), (50, .istore 4, 0, 0, 0), (52, .iload 4, 0, 0, 0), (54, .ifCond .le 26, 0, 0, 0), (57, .aload_n 0, 0, 0, 0), (58, .aload_n 0, 0, 0, 0), (59, .getfield 70, 12, 21, 1278), (62, .iload_n 1, 0, 0, 0), (63, .iaload, 0, 0, 0), (64, .aload_n 0, 0, 0, 0), (65, .getfield 79, 12, 24, 1281), (68, .iload_n 1, 0, 0, 0), (69, .iaload, 0, 0, 0), (70, .iload 4, 0, 0, 0), (72, .imul, 0, 0, 0), (73, .bipush 100, 0, 0, 0), (75, .idiv, 0, 0, 0), (76, .ineg, 0, 0, 0), (77, .invokevirtual 476, 218, 3, 1813), (80, .return_, 0, 0, 0)]
def cd_223 : List am_E := [(0, .aload_n 0, 0, 0, 0), (1, .invokevirtual 277, 173, 1, 1579), (4, .ifCond .eq 15, 0, 0, 0), (7, .aload_n 0, 0, 0, 0), (8, .getfield 7, 12, 1, 1258), (11, .bipush 8, 0, 0, 0), (13, .dup2, 0, 0, 0), (14, .iaload, 0, 0, 0), (15, .iconst 1, 0, 0, 0), (16, .iadd, 0, 0, 0), (17, .iastore, 0, 0, 0), (18, .return_, 0, 0, 0), (19, .bipush 12, 0, 0, 0), (21, .iload_n 1, 0, 0, 0), (22, .imul, 0, 0, 0), (23, .istore_n 2, 0, 0, 0), (24, .iload_n 2, 0, 0, 0), (25, .bipush 12, 0, 0, 0), (27, .iload_n 1, 0, 0, 0), (28, .imul, 0, 0, 0), (29, .aload_n 0, 0, 0, 0), (30, .getfield 96, 12, 40, 1297), (33, .iload_n 1, 0, 0, 0), (34, .iaload, 0, 0, 0), (35, .iadd, 0, 0, 0), (36, .if_icmp .ge 15, 0, 0, 0), (39, .aload_n 0, 0, 0, 0), (40, .iload_n 1, 0, 0, 0), (41, .iload_n 2, 0, 0, 0), (42, .invokevirtual 483, 220, 3, 1795), (45, .iinc 2 1, 0, 0, 0), (48, .goto (-24), 0, 0, 0), (51, .aload_n 0, 0, 0, 0), (52, .invokevirtual 486, 221, 1, 1821), (55, .iconst 0, 0, 0, 0), (56, .istore_n 2, 0, 0, 0), (57, .iload_n 2, 0, 0, 0), (58, .aload_n 0, 0, 0, 0), (59, .getfield 7, 12, 1, 1258), (62, .bipush 12, 0, 0, 0), (64, .iaload, 0, 0, 0), (65, .if_icmp .ge 14, 0, 0, 0), (68, .aload_n 0, 0, 0, 0), (69, .iload_n 2, 0, 0, 0), (70, .invokevirtual 489, 222, 2, 1825), (73, .iinc 2 1, 0, 0, 0), (76, .goto (-19), 0, 0, 0), (79, .aload_n 0, 0, 0, 0), (80, .getfield 7, 12, 1, 1258), (83, .bipush 7, 0, 0, 0), (85, .iaload, 0, 0, 0), (86, .istore_n 2, 0, 0, 0), (87, .iconst 0, 0, 0, 0), (88, .istore_n 3, 0, 0, 0), (89, .iload_n 3, 0, 0, 0), (90, .aload_n 0, 0, 0, 0), (91, .getfield 7, 12, 1, 1258), (94, .bipush 10, 0, 0, 0), (96, .iaload, 0, 0, 0), (97, .if_icmp .ge 46, 0, 0, 0), (100, .aload_n 0, 0, 0, 0), (101, .getfield 55, 12, 16, 1273), (104, .iload_n 3, 0, 0, 0), (105, .iload_n 2, 0, 0, 0), (106, .invokestatic 228, 142, 1, 1560), (109, .aload_n 0, 0, 0, 0), (110, .getfield 49, 12, 14, 1271), (113, .iload_n 3, 0, 0, 0), (114, .iaload, 0, 0, 0), (115, .if_icmp .le 15, 0, 0, 0), (118, .iload_n 2, 0, 0, 0), (119, .ifCond .le 7, 0, 0, 0), (122, .iconst 1, 0, 0, 0), (123, .goto 13, 0, 0, 0), (126, .iconst (-1), 0, 0, 0), (127, .goto 9, 0, 0, 0), (130, .aload_n 0, 0, 0, 0), (131, .getfield 55, 12, 16, 1273), (134, .iload_n 3, 0, 0, 0), (135, .iaload, 0, 0, 0), (136, .iastore, 0, 0, 0), (137, .iinc 3 1, 0, 0, 0), (140, .goto (-51), 0, 0, 0), (143, .aload_n 0, 0, 0, 0), (144, .getfield 7, 12, 1, 1258), (147, .bipush 7, 0, 0, 0), (149, .iload_n 2, 0, 0, 0), (150, .aload_n 0, 0, 0, 0), (151, .iload_n 2, 0, 0, 0), (152, .invokevirtual 262, 168, 2, 1571), (155, .iload_n 2, 0, 0, 0), (156, .isub, 0, 0, 0), (157, .i2l, 0, 0, 0), (158, .ldc2_w 492, 0, 18446744073709551613, 1829), (161, .ldc2_w 494, 0, 3, 1830), (164, .invokestatic 280, 140, 3, 1615), (167, .l2i, 0, 0, 0), (168, .iadd, 0, 0, 0), (169, .iastore, 0, 0, 0), (170, .aload_n 0, 0, 0, 0), (171, .getfield 7, 12, 1, 1258), (174, .bipush 8, 0, 0, 0), (176, .dup2, 0, 0, 0), (177, .iaload, 0, 0, 0), (178, .iconst 1, 0, 0, 0), (179, .iadd, 0, 0, 0), (180, .iastore, 0, 0, 0), (181, .return_, 0, 0, 0)]
def cd_224 : List am_E := [(0, .iconst 0, 0, 0, 0), (1, .istore_n 3, 0, 0, 0), (2, .iload_n 3, 0, 0, 0), (3, .iload_n 2, 0, 0, 0), (4, .if_icmp .ge 14, 0, 0, 0), (7, .aload_n 0, 0, 0, 0), (8, .iload_n 1, 0, 0, 0), (9, .invokevirtual 496, 223, 2, 1791), (12, .iinc 3 1, 0, 0, 0), (15, .goto (-13), 0, 0, 0), (18, .return_, 0, 0, 0)]
def cd_225 : List am_E := [(0, .aload_n 0, 0, 0, 0), (1, .iload_n 1, 0, 0, 0), (2, .invokevirtual 499, 213, 2, 1783), (5, .ifCond .eq 30, 0, 0, 0), (8, .iload_n 2, 0, 0, 0), (9, .i2l, 0, 0, 0), (10, .lconst 1, 0, 0, 0), (11, .ldc2_w 183, 0, 60, 1477), (14, .invokestatic 147, 139, 3, 1433), (17, .ifCond .eq 18, 0, 0, 0), (20, .aload_n 0, 0, 0, 0), (21, .getfield 7, 12, 1, 1258), (24, .bipush 8, 0, 0, 0), (26, .iaload, 0, 0, 0), (27, .iload_n 2, 0, 0, 0), (28, .iadd, 0, 0, 0), (29, .sipush 9999, 0, 0, 0), (32, .if_icmp .le 6, 0, 0, 0), (35, .ldc 199, 0, 4293967296, 1499), (37, .ireturn, 0, 0, 0), (38, .aload_n 0, 0, 0, 0), (39, .iload_n 1, 0, 0, 0), (40, .iload_n 2, 0, 0, 0), (41, .invokevirtual 502, 224, 3, 1787), (44, .aload_n 0, 0, 0, 0), (45, .getfield 7, 12, 1, 1258), (48, .bipush 7, 0, 0, 0), (50, .iaload, 0, 0, 0), (51, .ireturn, 0, 0, 0)]
def cd_226 : List am_E := [(0, .iconst 0, 0, 0, 0), (1, .istore_n 2, 0, 0, 0), (2, .iload_n 2, 0, 0, 0), (3, .aload_n 1, 0, 0, 0), (4, .arraylength, 0, 0, 0), (5, .if_icmp .ge 53, 0, 0, 0), (8, .aload_n 0, 0, 0, 0), (9, .getfield 505, 12, 54, 1311), (12, .ifCond .eq 18, 0, 0, 0), (15, .aload_n 1, 0, 0, 0), (16, .iload_n 2, 0, 0, 0), (17, .aload_n 0, 0, 0, 0), (18, .getfield 130, 12, 51, 1308), (21, .aload_n 0, 0, 0, 0), (22, .getfield 509, 12, 53, 1310), (25, .iaload, 0, 0, 0), (26, .iastore, 0, 0, 0), (27, .goto 15, 0, 0, 0), (30, .aload_n 0, 0, 0, 0), (31, .getfield 130, 12, 51, 1308), (34, .aload_n 0, 0, 0, 0), (35, .getfield 509, 12, 53, 1310), (38, .aload_n 1, 0, 0, 0), (39, .iload_n 2, 0, 0, 0), (40, .iaload, 0, 0, 0), (41, .iastore, 0, 0, 0), (42, .aload_n 0, 0, 0, 0), (43, .dup, 0, 0, 0), (44, .getfield 509, 12, 53, 1310), (47, .iconst 1, 0, 0, 0), (48, .iadd, 0, 0, 0), (49, .putfield 509, 12, 53, 1310), (52, .iinc 2 1, 0, 0, 0), (55, .goto (-53), 0, 0, 0), (58, .return_, 0, 0, 0)]
def cd_227 : List am_E := [(0, .aload_n 0, 0, 0, 0), (1, .sipush 250, 0, 0, 0), (4, .iload_n 1, 0, 0, 0), (5, .imul, 0, 0, 0), (6, .putfield 509, 12, 53, 1310), (9, .aload_n 0, 0, 0, 0), (10, .iload_n 2, 0, 0, 0), (11, .putfield 505, 12, 54, 1311), (14, .aload_n 0, 0, 0, 0), (15, .aload_n 0, 0, 0, 0), (16, .getfield 7, 12, 1, 1258), (19, .invokevirtual 512, 226, 2, 1839), (22, .aload_n 0, 0, 0, 0), (23, .aload_n 0, 0, 0, 0), (24, .getfield 13, 12, 2, 1259), (27, .invokevirtual 512, 226, 2, 1839), (30, .aload_n 0, 0, 0, 0), (31, .aload_n 0, 0, 0, 0), (32, .getfield 22, 12, 5, 1262), (35, .invokevirtual 512, 226, 2, 1839), (38, .aload_n 0, 0, 0, 0), (39, .aload_n 0, 0, 0, 0), (40, .getfield 25, 12, 6, 1263), (43, .invokevirtual 512, 226, 2, 1839), (46, .aload_n 0, 0, 0, 0), (47, .aload_n 0, 0, 0, 0), (48, .getfield 28, 12, 7, 1264), (51, .invokevirtual 512, 226, 2, 1839), (54, .aload_n 0, 0, 0, 0), (55, .aload_n 0, 0, 0, 0), (56, .getfield 31, 12, 8, 1265), (59, .invokevirtual 512, 226, 2, 1839), (62, .aload_n 0, 0, 0, 0), (63, .aload_n 0, 0, 0, 0), (64, .getfield 34, 12, 9, 1266), (67, .invokevirtual 512, 226, 2, 1839), (70, .aload_n 0, 0, 0, 0), (71, .aload_n 0, 0, 0, 0), (72, .getfield 37, 12, 10, 1267), (75, .invokevirtual 512, 226, 2, 1839), (78, .aload_n 0, 0, 0, 0), (79, .aload_n 0, 0, 0, 0), (80, .getfield 40, 12, 11, 1268), (83, .invokevirtual 512, 226, 2, 1839), (86, .aload_n 0, 0, 0, 0), (87, .aload_n 0, 0, 0, 0), (88, .getfield 43, 12, 12, 1269), (91, .invokevirtual 512, 226, 2, 1839), (94, .aload_n 0, 0, 0, 0), (95, .aload_n 0, 0, 0, 0), (96, .getfield 46, 12, 13, 1270), (99, .invokevirtual 512, 226, 2, 1839), (102, .aload_n 0, 0, 0, 0), (103, .aload_n 0, 0, 0, 0), (104, .getfield 49, 12, 14, 1271), (107, .invokevirtual 512, 226, 2, 1839), (110, .aload_n 0, 0, 0, 0), (111, .aload_n 0, 0, 0, 0), (112, .getfield 52, 12, 15, 1272), (115, .invokevirtual 512, 226, 2, 1839), (118, .aload_n 0, 0, 0, 0), (119, .aload_n 0, 0, 0, 0), (120, .getfield 55, 12, 16, 1273), (123, .invokevirtual 512, 226, 2, 1839), (126, .aload_n 0, 0, 0, 0), (127, .aload_n 0, 0, 0, 0), (128, .getfield 58, 12, 17, 1274), (131, .invokevirtual 512, 226, 2, 1839), (134, .aload_n 0, 0, 0, 0), (135, .aload_n 0, 0, 0, 0), (136, .getfield 61, 12, 18, 1275), (139, .invokevirtual 512, 226, 2, 1839), (142, .aload_n 0, 0, 0, 0), (143, .aload_n 0, 0, 0, 0), (144, .getfield 64, 12, 19, 1276), (147, .invokevirtual 512, 226, 2, 1839), (150, .aload_n 0, 0, 0, 0), (151, .aload_n 0, 0, 0, 0), (152, .getfield 67, 12, 20, 1277), (155, .invokevirtual 512, 226, 2, 1839), (158, .aload_n 0, 0, 0, 0), (159, .aload_n 0, 0, 0, 0), (160, .getfield 70, 12, 21, 1278), (163, .invokevirtual 512, 226, 2, 1839), (166, .aload_n 0, 0, 0, 0), (167, .aload_n 0, 0, 0, 0), (168, .getfield 73, 12, 22, 1279), (171, .invokevirtual 512, 226, 2, 1839), (174, .aload_n 0, 0, 0, 0), (175, .aload_n 0, 0, 0, 0), (176, .getfield 76, 12, 23, 1280), (179, .invokevirtual 512, 226, 2, 1839), (182, .aload_n 0, 0, 0, 0), (183, .aload_n 0, 0, 0, 0), (184, .getfield 79, 12, 24, 1281), (187, .invokevirtual 512, 226, 2, 1839), (190, .aload_n 0, 0, 0, 0), (191, .aload_n 0, 0, 0, 0), (192, .getfield 16, 12, 3, 1260), (195, .invokevirtual 512, 226, 2, 1839), (198, .aload_n 0, 0, 0, 0), (199, .aload_n 0, 0, 0, 0), (200, .getfield 19, 12, 4, 1261), (203, .invokevirtual 512, 226, 2, 1839), (206, .return_, 0, 0, 0)]
def cd_228 : List am_E := [(0, .iload_n 1, 0, 0, 0), (1, .i2l, 0, 0, 0), (2, .lconst 0, 0, 0, 0), (3, .ldc2_w 494, 0, 3, 1830), (6, .invokestatic 147, 139, 3, 1433), (9, .ifCond .eq 10, 0, 0, 0), (12, .aload_n 0, 0, 0, 0), (13, .invokevirtual 143, 143, 1, 1443), (16, .ifCond .ne 5, 0, 0, 0), (19, .iconst (-1), 0, 0, 0), (20, .ireturn, 0, 0, 0), (21, .aload_n 0, 0, 0, 0), (22, .getfield 133, 12, 52, 1309), (25, .iload_n 1, 0, 0, 0), (26, .iconst 1, 0, 0, 0), (27, .bastore, 0, 0, 0), (28, .aload_n 0, 0, 0, 0), (29, .iload_n 1, 0, 0, 0), (30, .iconst 0, 0, 0, 0), (31, .invokevirtual 516, 227, 3, 1835), (34, .aload_n 0, 0, 0, 0), (35, .getfield 7, 12, 1, 1258), (38, .bipush 8, 0, 0, 0), (40, .iaload, 0, 0, 0), (41, .ireturn, 0, 0, 0)]
def cd_229 : List am_E := [(0, .iload_n 1, 0, 0, 0), (1, .i2l, 0, 0, 0), (2, .lconst 0, 0, 0, 0), (3, .ldc2_w 494, 0, 3, 1830), (6, .invokestatic 147, 139, 3, 1433), (9, .ifCond .eq 12, 0, 0, 0), (12, .aload_n 0, 0, 0, 0), (13, .getfield 133, 12, 52, 1309), (16, .iload_n 1, 0, 0, 0), (17, .baload, 0, 0, 0), (18, .ifCond .ne 5, 0, 0, 0), (21, .iconst (-1), 0, 0, 0), (22, .ireturn, 0, 0, 0), (23, .aload_n 0, 0, 0, 0), (24, .iload_n 1, 0, 0, 0), (25, .iconst 1, 0, 0, 0), (26, .invokevirtual 516, 227, 3, 1835), (29, .aload_n 0, 0, 0, 0), (30, .getfield 7, 12, 1, 1258), (33, .bipush 8, 0, 0, 0), (35, .iaload, 0, 0, 0), (36, .ireturn, 0, 0, 0)]
def cd_230 : List am_E := [(0, .aload_n 0, 0, 0, 0), (1, .iload_n 1, 0, 0, 0), (2, .invokevirtual 173, 144, 2, 1460), (5, .ifCond .ne 5, 0, 0, 0), (8, .iconst (-1), 0, 0, 0), (9, .ireturn, 0, 0, 0), (10, .aload_n 0, 0, 0, 0), (11, .getfield 40, 12, 11, 1268), (14, .iload_n 1, 0, 0, 0), (15, .iaload, 0, 0, 0), (16, .istore_n 2, 0, 0, 0), (17, .bipush (-2), 0, 0, 0), (19, .istore_n 3, 0, 0, 0), (20, .iconst 0, 0, 0, 0), (21, .istore 4, 0, 0, 0), (23, .iload 4, 0, 0, 0), (25, .bipush 100, 0, 0, 0), (27, .if_icmp .gt 47, 0, 0, 0), (30, .iload_n 3, 0, 0, 0), (31, .bipush (-2), 0, 0, 0), (33, .if_icmp .ne 41, 0, 0, 0), (36, .aload_n 0, 0, 0, 0), (37, .getfield 40, 12, 11, 1268), (40, .iload_n 1, 0, 0, 0), (41, .aload_n 0, 0, 0, 0), (42, .iload_n 1, 0, 0, 0), (43, .invokevirtual 177, 149, 2, 1464), (46, .iload 4, 0, 0, 0), (48, .imul, 0, 0, 0), (49, .bipush 100, 0, 0, 0), (51, .idiv, 0, 0, 0), (52, .iastore, 0, 0, 0), (53, .aload_n 0, 0, 0, 0), (54, .invokevirtual 271, 169, 1, 1548), (57, .ifCond .eq 8, 0, 0, 0), (60, .iload 4, 0, 0, 0), (62, .goto 5, 0, 0, 0), (65, .bipush (-2), 0, 0, 0), (67, .istore_n 3, 0, 0, 0), (68, .iinc 4 1, 0, 0, 0), (71, .goto (-48), 0, 0, 0), (74, .aload_n 0, 0, 0, 0), (75, .getfield 40, 12, 11, 1268), (78, .iload_n 1, 0, 0, 0), (79, .iload_n 2, 0, 0, 0), (80, .iastore, 0, 0, 0), (81, .iload_n 3, 0, 0, 0), (82, .ireturn, 0, 0, 0)]
def cd_231 : List am_E := [(0, .aload_n 0, 0, 0, 0), (1, .iload_n 1, 0, 0, 0), (2, .invokevirtual 173, 144, 2, 1460), (5, .ifCond .ne 5, 0, 0, 0), (8, .iconst (-1), 0, 0, 0), (9, .ireturn, 0, 0, 0), (10, .aload_n 0, 0, 0, 0), (11, .getfield 34, 12, 9, 1266), (14, .iload_n 1, 0, 0, 0), (15, .iaload, 0, 0, 0), (16, .istore_n 2, 0, 0, 0), (17, .bipush (-2), 0, 0, 0), (19, .istore_n 3, 0, 0, 0), (20, .iconst 1, 0, 0, 0), (21, .istore 4, 0, 0, 0), (23, .iload 4, 0, 0, 0), (25, .bipush 9, 0, 0, 0), (27, .if_icmp .gt 38, 0, 0, 0), (30, .iload_n 3, 0, 0, 0), (31, .bipush (-2), 0, 0, 0), (33, .if_icmp .ne 32, 0, 0, 0), (36, .aload_n 0, 0, 0, 0), (37, .getfield 34, 12, 9, 1266), (40, .iload_n 1, 0, 0, 0), (41, .iload 4, 0, 0, 0), (43, .iastore, 0, 0, 0), (44, .aload_n 0, 0, 0, 0), (45, .invokevirtual 271, 169, 1, 1548), (48, .ifCond .ne 8, 0, 0, 0), (51, .iload 4, 0, 0, 0), (53, .goto 5, 0, 0, 0), (56, .bipush (-2), 0, 0, 0), (58, .istore_n 3, 0, 0, 0), (59, .iinc 4 1, 0, 0, 0), (62, .goto (-39), 0, 0, 0), (65, .aload_n 0, 0, 0, 0), (66, .getfield 34, 12, 9, 1266), (69, .iload_n 1, 0, 0, 0), (70, .iload_n 2, 0, 0, 0), (71, .iastore, 0, 0, 0), (72, .iload_n 3, 0, 0, 0), (73, .ireturn, 0, 0, 0)]
def cd_232 : List am_E := [(0, .aload_n 0, 0, 0, 0), (1, .invokevirtual 143, 143, 1, 1443), (4, .ifCond .eq 37, 0, 0, 0), (7, .iload_n 1, 0, 0, 0), (8, .i2l, 0, 0, 0), (9, .lconst 1, 0, 0, 0), (10, .ldc2_w 159, 0, 999, 1438), (13, .invokestatic 147, 139, 3, 1433), (16, .ifCond .eq 25, 0, 0, 0), (19, .iload_n 2, 0, 0, 0), (20, .i2l, 0, 0, 0), (21, .lconst 1, 0, 0, 0), (22, .ldc2_w 159, 0, 999, 1438), (25, .invokestatic 147, 139, 3, 1433), (28, .ifCond .eq 13, 0, 0, 0), (31, .iload_n 3, 0, 0, 0), (32, .i2l, 0, 0, 0), (33, .lconst 0, 0, 0, 0), (34, .lconst 1, 0, 0, 0), (35, .invokestatic 147, 139, 3, 1433), (38, .ifCond .ne 7, 0, 0, 0), (41, .ldc_w 520, 0, 4292967296, 1859), (44, .ireturn, 0, 0, 0), (45, .iload_n 1, 0, 0, 0), (46, .i2l, 0, 0, 0), (47, .iload_n 2, 0, 0, 0), (48, .i2l, 0, 0, 0), (49, .lmul, 0, 0, 0), (50, .lstore 4, 0, 0, 0), (52, .aload_n 0, 0, 0, 0), (53, .aload_n 0, 0, 0, 0), (54, .getfield 7, 12, 1, 1258), (57, .bipush 7, 0, 0, 0), (59, .iaload, 0, 0, 0), (60, .invokevirtual 262, 168, 2, 1571), (63, .istore 6, 0, 0, 0), (65, .aload_n 0, 0, 0, 0), (66, .aload_n 0, 0, 0, 0), (67, .invokevirtual 246, 165, 1, 1575), (70, .ldc2_w 151, 0, 10, 1431), (73, .lload 4, 0, 0, 0), (75, .lmul, 0, 0, 0), (76, .ladd, 0, 0, 0), (77, .aload_n 0, 0, 0, 0), (78, .getfield 7, 12, 1, 1258), (81, .bipush 7, 0, 0, 0), (83, .iaload, 0, 0, 0), (84, .invokevirtual 249, 167, 3, 1552), (87, .istore 7, 0, 0, 0), (89, .iload_n 3, 0, 0, 0), (90, .ifCond .ne 6, 0, 0, 0), (93, .iload 7, 0, 0, 0), (95, .ireturn, 0, 0, 0), (96, .iload 7, 0, 0, 0), (98, .iload 6, 0, 0, 0), (100, .isub, 0, 0, 0), (101, .invokestatic 228, 142, 1, 1560), (104, .bipush 90, 0, 0, 0), (106, .if_icmp .le 8, 0, 0, 0), (109, .bipush 90, 0, 0, 0), (111, .goto 11, 0, 0, 0), (114, .iload 7, 0, 0, 0), (116, .iload 6, 0, 0, 0), (118, .isub, 0, 0, 0), (119, .invokestatic 228, 142, 1, 1560), (122, .istore 8, 0, 0, 0), (124, .iload 8, 0, 0, 0), (126, .ifCond .ne 8, 0, 0, 0), (129, .ldc 199, 0, 4293967296, 1499), (131, .goto 23, 0, 0, 0), (134, .lload 4, 0, 0, 0), (136, .ldc2_w 171, 0, 10000, 1524), (139, .lmul, 0, 0, 0), (140, .aload_n 0, 0, 0, 0), (141, .invokevirtual 211, 160, 1, 1504), (144, .i2l, 0, 0, 0), (145, .iload 8, 0, 0, 0), (147, .invokestatic 217, 158, 1, 1525), (150, .i2l, 0, 0, 0), (151, .lmul, 0, 0, 0), (152, .ldiv, 0, 0, 0), (153, .l2i, 0, 0, 0), (154, .ireturn, 0, 0, 0)]
def cd_233 : List am_E := [(0, .iload_n 1, 0, 0, 0), (1, .iconst 2, 0, 0, 0), (2, .isub, 0, 0, 0), (3, .istore_n 2, 0, 0, 0), (4, .iload_n 2, 0, 0, 0), (5, .ifCond .lt 26, 0, 0, 0), (8, .aload_n 0, 0, 0, 0), (9, .getfield 137, 12, 55, 1312), (12, .iload_n 2, 0, 0, 0), (13, .iaload, 0, 0, 0), (14, .aload_n 0, 0, 0, 0), (15, .getfield 137, 12, 55, 1312), (18, .iload_n 2, 0, 0, 0), (19, .iconst 1, 0, 0, 0), (20, .iadd, 0, 0, 0), (21, .iaload, 0, 0, 0), (22, .if_icmp .le 9, 0, 0, 0), (25, .iinc 2 (-1), 0, 0, 0), (28, .goto (-24), 0, 0, 0), (31, .iload_n 2, 0, 0, 0), (32, .ifCond .ge 5, 0, 0, 0), (35, .iconst 0, 0, 0, 0), (36, .ireturn, 0, 0, 0), (37, .iload_n 1, 0, 0, 0), (38, .iconst 1, 0, 0, 0), (39, .isub, 0, 0, 0), (40, .istore_n 3, 0, 0, 0), (41, .aload_n 0, 0, 0, 0), (42, .getfield 137, 12, 55, 1312), (45, .iload_n 3, 0, 0, 0), (46, .iaload, 0, 0, 0), (47, .aload_n 0, 0, 0, 0), (48, .getfield 137, 12, 55, 1312), (51, .iload_n 2, 0, 0, 0), (52, .iaload, 0, 0, 0), (53, .if_icmp .ge 9, 0, 0, 0), (56, .iinc 3 (-1), 0, 0, 0), (59, .goto (-18), 0, 0, 0), (62, .aload_n 0, 0, 0, 0), (63, .iload_n 2, 0, 0, 0), (64, .iload_n 3, 0, 0, 0), (65, .invokevirtual 521, 234, 3, 1873), (68, .iload_n 2, 0, 0, 0), (69, .iconst 1, 0, 0, 0), (70, .iadd, 0, 0, 0), (71, .istore 4, 0, 0, 0), (73, .iload_n 1, 0, 0, 0), (74, .iconst 1, 0, 0, 0), (75, .isub, 0, 0, 0), (76, .istore 5, 0, 0, 0), (78, .iload 4, 0, 0, 0), (80, .iload 5, 0, 0, 0), (82, .if_icmp .ge 20, 0, 0, 0), (85, .aload_n 0, 0, 0, 0), (86, .iload 4, 0, 0, 0), (88, .iload 5, 0, 0, 0), (90, .invokevirtual 521, 234, 3, 1873), (93, .iinc 4 1, 0, 0, 0), (96, .iinc 5 (-1), 0, 0, 0), (99, .goto (-21), 0, 0, 0), (102, .iconst 1, 0, 0, 0), (103, .ireturn, 0, 0, 0)]
def cd_234 : List am_E := [(0, .aload_n 0, 0, 0, 0), (1, .getfield 137, 12, 55, 1312), (4, .iload_n 1, 0, 0, 0), (5, .iaload, 0, 0, 0), (6, .istore_n 3, 0, 0, 0), (7, .aload_n 0, 0, 0, 0), (8, .getfield 137, 12, 55, 1312), (11, .iload_n 1, 0, 0, 0), (12, .aload_n 0, 0, 0, 0), (13, .getfield 137, 12, 55, 1312), (16, .iload_n 2, 0, 0, 0), (17, .iaload, 0, 0, 0), (18, .iastore, 0, 0, 0), (19, .aload_n 0, 0, 0, 0), (20, .getfield 137, 12, 55, 1312), (23, .iload_n 2, 0, 0, 0), (24, .iload_n 3, 0, 0, 0), (25, .iastore, 0, 0, 0), (26, .return_, 0, 0, 0)]
def cd_235 : List am_E := [(0, .aload_n 0, 0, 0, 0), (1, .getfield 7, 12, 1, 1258), (4, .bipush 7, 0, 0, 0), (6, .iaload, 0, 0, 0), (7, .istore_n 3, 0, 0, 0), (8, .iconst 1, 0, 0, 0), (9, .istore 4, 0, 0, 0), (11, .iconst 0, 0, 0, 0), (12, .istore 5, 0, 0, 0), (14, .iload 5, 0, 0, 0), (16, .iload_n 1, 0, 0, 0), (17, .if_icmp .ge 116, 0, 0, 0), (20, .iload 4, 0, 0, 0), (22, .ifCond .eq 111, 0, 0, 0), (25, .aload_n 0, 0, 0, 0), (26, .getfield 137, 12, 55, 1312), (29, .iload 5, 0, 0, 0), (31, .iaload, 0, 0, 0), (32, .istore 6, 0, 0, 0), (34, .aload_n 0, 0, 0, 0), (35, .getfield 40, 12, 11, 1268), (38, .iload 6, 0, 0, 0), (40, .iaload, 0, 0, 0), (41, .aload_n 0, 0, 0, 0), (42, .iload 6, 0, 0, 0), (44, .invokevirtual 177, 149, 2, 1464), (47, .iconst 2, 0, 0, 0), (48, .idiv, 0, 0, 0), (49, .if_icmp .gt 39, 0, 0, 0), (52, .aload_n 0, 0, 0, 0), (53, .getfield 40, 12, 11, 1268), (56, .iload 6, 0, 0, 0), (58, .aload_n 0, 0, 0, 0), (59, .iload 6, 0, 0, 0), (61, .invokevirtual 177, 149, 2, 1464), (64, .iconst 2, 0, 0, 0), (65, .idiv, 0, 0, 0), (66, .iastore, 0, 0, 0), (67, .aload_n 0, 0, 0, 0), (68, .iload_n 3, 0, 0, 0), (69, .invokevirtual 262, 168, 2, 1571), (72, .istore_n 3, 0, 0, 0), (73, .iload_n 3, 0, 0, 0), (74, .invokestatic 228, 142, 1, 1560), (77, .iload_n 2, 0, 0, 0), (78, .if_icmp .gt 7, 0, 0, 0), (81, .iconst 1, 0, 0, 0), (82, .goto 4, 0, 0, 0), (85, .iconst 0, 0, 0, 0), (86, .istore 4, 0, 0, 0), (88, .aload_n 0, 0, 0, 0), (89, .getfield 40, 12, 11, 1268), (92, .iload 6, 0, 0, 0), (94, .aload_n 0, 0, 0, 0), (95, .iload 6, 0, 0, 0), (97, .invokevirtual 177, 149, 2, 1464), (100, .iastore, 0, 0, 0), (101, .aload_n 0, 0, 0, 0), (102, .iload_n 3, 0, 0, 0), (103, .invokevirtual 262, 168, 2, 1571), (106, .istore_n 3, 0, 0, 0), (107, .iload 4, 0, 0, 0), (109, .ifCond .eq 15, 0, 0, 0), (112, .iload_n 3, 0, 0, 0), (113, .invokestatic 228, 142, 1, 1560), (116, .iload_n 2, 0, 0, 0), (117, .if_icmp .gt 7, 0, 0, 0), (120, .iconst 1, 0, 0, 0), (121, .goto 4, 0, 0, 0), (124, .iconst 0, 0, 0, 0), (125, .istore 4, 0, 0, 0), (127, .iinc 5 1, 0, 0, 0), (130, .goto (-116), 0, 0, 0), (133, .iload 4, 0, 0, 0), (135, .ireturn, 0, 0, 0)]
def cd_236 : List am_E := [(0, .iconst 0, 0, 0, 0), (1, .istore 4, 0, 0, 0), (3, .iconst 0, 0, 0, 0), (4, .istore 5, 0, 0, 0), (6, .iload 5, 0, 0, 0), (8, .bipush 12, 0, 0, 0), (10, .if_icmp .ge 42, 0, 0, 0), (13, .aload_n 0, 0, 0, 0), (14, .invokevirtual 143, 143, 1, 1443), (17, .ifCond .eq 35, 0, 0, 0), (20, .iload_n 1, 0, 0, 0), (21, .ifCond .le 31, 0, 0, 0), (24, .iload_n 1, 0, 0, 0), (25, .iload 5, 0, 0, 0), (27, .ishr, 0, 0, 0), (28, .iconst 1, 0, 0, 0), (29, .iand, 0, 0, 0), (30, .iconst 1, 0, 0, 0), (31, .if_icmp .ne 15, 0, 0, 0), (34, .aload_n 0, 0, 0, 0), (35, .getfield 137, 12, 55, 1312), (38, .iload 4, 0, 0, 0), (40, .iload 5, 0, 0, 0), (42, .iastore, 0, 0, 0), (43, .iinc 4 1, 0, 0, 0), (46, .iinc 5 1, 0, 0, 0), (49, .goto (-43), 0, 0, 0), (52, .aload_n 0, 0, 0, 0), (53, .invokevirtual 143, 143, 1, 1443), (56, .ifCond .eq 53, 0, 0, 0), (59, .iload_n 1, 0, 0, 0), (60, .iconst 1, 0, 0, 0), (61, .if_icmp .lt 48, 0, 0, 0), (64, .iload_n 1, 0, 0, 0), (65, .aload_n 0, 0, 0, 0), (66, .getfield 7, 12, 1, 1258), (69, .bipush 9, 0, 0, 0), (71, .iaload, 0, 0, 0), (72, .ishr, 0, 0, 0), (73, .ifCond .ne 36, 0, 0, 0), (76, .iload 4, 0, 0, 0), (78, .bipush 6, 0, 0, 0), (80, .if_icmp .gt 29, 0, 0, 0), (83, .iload_n 2, 0, 0, 0), (84, .i2l, 0, 0, 0), (85, .lconst 1, 0, 0, 0), (86, .ldc2_w 524, 0, 59, 1864), (89, .invokestatic 147, 139, 3, 1433), (92, .ifCond .eq 17, 0, 0, 0), (95, .iload_n 3, 0, 0, 0), (96, .i2l, 0, 0, 0), (97, .lconst 0, 0, 0, 0), (98, .iload 4, 0, 0, 0), (100, .iconst 1, 0, 0, 0), (101, .isub, 0, 0, 0), (102, .i2l, 0, 0, 0), (103, .invokestatic 147, 139, 3, 1433), (106, .ifCond .ne 5, 0, 0, 0), (109, .iconst (-1), 0, 0, 0), (110, .ireturn, 0, 0, 0), (111, .aload_n 0, 0, 0, 0), (112, .iconst 4, 0, 0, 0), (113, .iconst 0, 0, 0, 0), (114, .invokevirtual 516, 227, 3, 1835), (117, .iconst 1, 0, 0, 0), (118, .istore 5, 0, 0, 0), (120, .iconst 0, 0, 0, 0), (121, .istore 6, 0, 0, 0), (123, .iload 5, 0, 0, 0), (125, .ifCond .eq 42, 0, 0, 0), (128, .aload_n 0, 0, 0, 0), (129, .iload 4, 0, 0, 0), (131, .iload_n 2, 0, 0, 0), (132, .invokevirtual 526, 235, 3, 1865), (135, .istore 6, 0, 0, 0), (137, .aload_n 0, 0, 0, 0), (138, .iconst 4, 0, 0, 0), (139, .iconst 1, 0, 0, 0), (140, .invokevirtual 516, 227, 3, 1835), (143, .iload 6, 0, 0, 0), (145, .ifCond .ne 16, 0, 0, 0), (148, .aload_n 0, 0, 0, 0), (149, .iload 4, 0, 0, 0), (151, .invokevirtual 530, 233, 2, 1869), (154, .ifCond .eq 7, 0, 0, 0), (157, .iconst 1, 0, 0, 0), (158, .goto 4, 0, 0, 0), (161, .iconst 0, 0, 0, 0), (162, .istore 5, 0, 0, 0), (164, .goto (-41), 0, 0, 0), (167, .iload 6, 0, 0, 0), (169, .ifCond .eq 12, 0, 0, 0), (172, .aload_n 0, 0, 0, 0), (173, .getfield 137, 12, 55, 1312), (176, .iload_n 3, 0, 0, 0), (177, .iaload, 0, 0, 0), (178, .goto 5, 0, 0, 0), (181, .bipush (-2), 0, 0, 0), (183, .ireturn, 0, 0, 0)]
def cd_237 : List am_E := [(0, .iconst 0, 0, 0, 0), (1, .istore_n 1, 0, 0, 0), (2, .iconst 0, 0, 0, 0), (3, .istore_n 2, 0, 0, 0), (4, .iload_n 2, 0, 0, 0), (5, .aload_n 0, 0, 0, 0), (6, .getfield 7, 12, 1, 1258), (9, .bipush 9, 0, 0, 0), (11, .iaload, 0, 0, 0), (12, .if_icmp .ge 18, 0, 0, 0), (15, .iload_n 1, 0, 0, 0), (16, .aload_n 0, 0, 0, 0), (17, .getfield 40, 12, 11, 1268), (20, .iload_n 2, 0, 0, 0), (21, .iaload, 0, 0, 0), (22, .iadd, 0, 0, 0), (23, .istore_n 1, 0, 0, 0), (24, .iinc 2 1, 0, 0, 0), (27, .goto (-23), 0, 0, 0), (30, .iload_n 1, 0, 0, 0), (31, .ireturn, 0, 0, 0)]
def cd_238 : List am_E := [(0, .aload_n 0, 0, 0, 0), (1, .iload_n 1, 0, 0, 0), (2, .invokevirtual 499, 213, 2, 1783), (5, .ifCond .eq 27, 0, 0, 0), (8, .iload_n 2, 0, 0, 0), (9, .i2l, 0, 0, 0), (10, .lconst 0, 0, 0, 0), (11, .ldc2_w 183, 0, 60, 1477), (14, .invokestatic 147, 139, 3, 1433), (17, .ifCond .eq 15, 0, 0, 0), (20, .iload_n 3, 0, 0, 0), (21, .i2l, 0, 0, 0), (22, .lconst 0, 0, 0, 0), (23, .ldc2_w 494, 0, 3, 1830), (26, .invokestatic 147, 139, 3, 1433), (29, .ifCond .ne 6, 0, 0, 0), (32, .ldc 199, 0, 4293967296, 1499), (34, .ireturn, 0, 0, 0), (35, .aload_n 0, 0, 0, 0), (36, .iconst 4, 0, 0, 0), (37, .iconst 0, 0, 0, 0), (38, .invokevirtual 516, 227, 3, 1835), (41, .aload_n 0, 0, 0, 0), (42, .invokevirtual 277, 173, 1, 1579), (45, .ifCond .eq 7, 0, 0, 0), (48, .iconst 0, 0, 0, 0), (49, .goto 5, 0, 0, 0), (52, .bipush (-2), 0, 0, 0), (54, .istore 4, 0, 0, 0), (56, .iconst 1, 0, 0, 0), (57, .istore 5, 0, 0, 0), (59, .iload 5, 0, 0, 0), (61, .iload_n 2, 0, 0, 0), (62, .if_icmp .gt 37, 0, 0, 0), (65, .aload_n 0, 0, 0, 0), (66, .iload_n 1, 0, 0, 0), (67, .invokevirtual 496, 223, 2, 1791), (70, .iload 4, 0, 0, 0), (72, .bipush (-2), 0, 0, 0), (74, .if_icmp .ne 15, 0, 0, 0), (77, .aload_n 0, 0, 0, 0), (78, .invokevirtual 277, 173, 1, 1579), (81, .ifCond .eq 8, 0, 0, 0), (84, .iload 5, 0, 0, 0), (86, .goto 5, 0, 0, 0), (89, .iload 4, 0, 0, 0), (91, .istore 4, 0, 0, 0), (93, .iinc 5 1, 0, 0, 0), (96, .goto (-37), 0, 0, 0), (99, .iload_n 3, 0, 0, 0), (100, .ifCond .ne 13, 0, 0, 0), (103, .aload_n 0, 0, 0, 0), (104, .getfield 7, 12, 1, 1258), (107, .bipush 7, 0, 0, 0), (109, .iaload, 0, 0, 0), (110, .goto 37, 0, 0, 0), (113, .iload_n 3, 0, 0, 0), (114, .iconst 1, 0, 0, 0), (115, .if_icmp .ne 18, 0, 0, 0), (118, .aload_n 0, 0, 0, 0), (119, .invokevirtual 277, 173, 1, 1579), (122, .ifCond .eq 7, 0, 0, 0), (125, .iconst 1, 0, 0, 0), (126, .goto 21, 0, 0, 0), (129, .iconst 0, 0, 0, 0), (130, .goto 17, 0, 0, 0), (133, .iload_n 3, 0, 0, 0), (134, .iconst 2, 0, 0, 0), (135, .if_icmp .ne 10, 0, 0, 0), (138, .aload_n 0, 0, 0, 0), (139, .invokevirtual 533, 237, 1, 1881), (142, .goto 5, 0, 0, 0), (145, .iload 4, 0, 0, 0), (147, .istore 5, 0, 0, 0), (149, .aload_n 0, 0, 0, 0), (150, .iconst 4, 0, 0, 0), (151, .iconst 1, 0, 0, 0), (152, .invokevirtual 516, 227, 3, 1835), (155, .iload 5, 0, 0, 0), (157, .ireturn, 0, 0, 0)]
def cd_239 : List am_E := [(0, .iload_n 1, 0, 0, 0), (1, .i2l, 0, 0, 0), (2, .lconst 0, 0, 0, 0), (3, .ldc2_w 494, 0, 3, 1830), (6, .invokestatic 147, 139, 3, 1433), (9, .ifCond .eq 41, 0, 0, 0), (12, .aload_n 0, 0, 0, 0), (13, .getfield 133, 12, 52, 1309), (16, .iload_n 1, 0, 0, 0), (17, .baload, 0, 0, 0), (18, .ifCond .eq 32, 0, 0, 0), (21, .aload_n 0, 0, 0, 0), (22, .iload_n 2, 0, 0, 0), (23, .invokevirtual 499, 213, 2, 1783), (26, .ifCond .eq 24, 0, 0, 0), (29, .aload_n 0, 0, 0, 0), (30, .iload_n 3, 0, 0, 0), (31, .invokevirtual 499, 213, 2, 1783), (34, .ifCond .eq 16, 0, 0, 0), (37, .iload 4, 0, 0, 0), (39, .i2l, 0, 0, 0), (40, .lconst 0, 0, 0, 0), (41, .ldc2_w 536, 0, 30, 1889), (44, .invokestatic 147, 139, 3, 1433), (47, .ifCond .ne 5, 0, 0, 0), (50, .iconst (-1), 0, 0, 0), (51, .ireturn, 0, 0, 0), (52, .aload_n 0, 0, 0, 0), (53, .iconst 4, 0, 0, 0), (54, .iconst 0, 0, 0, 0), (55, .invokevirtual 516, 227, 3, 1835), (58, .bipush (-2), 0, 0, 0), (60, .istore 5, 0, 0, 0), (62, .iload 4, 0, 0, 0), (64, .istore 6, 0, 0, 0), (66, .iload 6, 0, 0, 0), (68, .ifCond .lt 55, 0, 0, 0), (71, .iload 5, 0, 0, 0), (73, .bipush (-2), 0, 0, 0), (75, .if_icmp .ne 48, 0, 0, 0), (78, .aload_n 0, 0, 0, 0), (79, .iload_n 1, 0, 0, 0), (80, .iconst 1, 0, 0, 0), (81, .invokevirtual 516, 227, 3, 1835), (84, .aload_n 0, 0, 0, 0), (85, .iload_n 2, 0, 0, 0), (86, .iload 6, 0, 0, 0), (88, .invokevirtual 502, 224, 3, 1787), (91, .aload_n 0, 0, 0, 0), (92, .iload_n 3, 0, 0, 0), (93, .iload 4, 0, 0, 0), (95, .iload 6, 0, 0, 0), (97, .isub, 0, 0, 0), (98, .invokevirtual 502, 224, 3, 1787), (101, .aload_n 0, 0, 0, 0), (102, .invokevirtual 277, 173, 1, 1579), (105, .ifCond .eq 8, 0, 0, 0), (108, .bipush (-2), 0, 0, 0), (110, .goto 5, 0, 0, 0), (113, .iload 6, 0, 0, 0), (115, .istore 5, 0, 0, 0), (117, .iinc 6 (-1), 0, 0, 0), (120, .goto (-54), 0, 0, 0), (123, .aload_n 0, 0, 0, 0), (124, .iconst 4, 0, 0, 0), (125, .iconst 1, 0, 0, 0), (126, .invokevirtual 516, 227, 3, 1835), (129, .iload 5, 0, 0, 0), (131, .ireturn, 0, 0, 0)]
def cd_240 : List am_E := [(0, .aload_n 0, 0, 0, 0), (1, .iload_n 1, 0, 0, 0), (2, .invokevirtual 499, 213, 2, 1783), (5, .ifCond .eq 23, 0, 0, 0), (8, .aload_n 0, 0, 0, 0), (9, .iload_n 2, 0, 0, 0), (10, .invokevirtual 173, 144, 2, 1460), (13, .ifCond .eq 15, 0, 0, 0), (16, .iload_n 3, 0, 0, 0), (17, .i2l, 0, 0, 0), (18, .lconst 1, 0, 0, 0), (19, .ldc2_w 538, 0, 20, 1894), (22, .invokestatic 147, 139, 3, 1433), (25, .ifCond .ne 5, 0, 0, 0), (28, .iconst (-1), 0, 0, 0), (29, .ireturn, 0, 0, 0), (30, .aload_n 0, 0, 0, 0), (31, .iconst 4, 0, 0, 0), (32, .iconst 0, 0, 0, 0), (33, .invokevirtual 516, 227, 3, 1835), (36, .bipush (-2), 0, 0, 0), (38, .istore 4, 0, 0, 0), (40, .bipush 99, 0, 0, 0), (42, .istore 5, 0, 0, 0), (44, .iload 5, 0, 0, 0), (46, .ifCond .lt 65, 0, 0, 0), (49, .iload 4, 0, 0, 0), (51, .bipush (-2), 0, 0, 0), (53, .if_icmp .ne 58, 0, 0, 0), (56, .iconst 0, 0, 0, 0), (57, .istore 6, 0, 0, 0), (59, .iload 6, 0, 0, 0), (61, .iload_n 3, 0, 0, 0), (62, .if_icmp .ge 21, 0, 0, 0), (65, .aload_n 0, 0, 0, 0), (66, .iload_n 2, 0, 0, 0), (67, .iload 5, 0, 0, 0), (69, .invokevirtual 476, 218, 3, 1813), (72, .aload_n 0, 0, 0, 0), (73, .iload_n 1, 0, 0, 0), (74, .invokevirtual 496, 223, 2, 1791), (77, .iinc 6 1, 0, 0, 0), (80, .goto (-21), 0, 0, 0), (83, .aload_n 0, 0, 0, 0), (84, .invokevirtual 277, 173, 1, 1579), (87, .ifCond .eq 8, 0, 0, 0), (90, .bipush (-2), 0, 0, 0), (92, .goto 5, 0, 0, 0), (95, .iload 5, 0, 0, 0), (97, .istore 4, 0, 0, 0), (99, .aload_n 0, 0, 0, 0), (100, .iconst 4, 0, 0, 0), (101, .iconst 1, 0, 0, 0), (102, .invokevirtual 516, 227, 3, 1835), (105, .iinc 5 (-1), 0, 0, 0), (108, .goto (-64), 0, 0, 0), (111, .iload 4, 0, 0, 0), (113, .ireturn, 0, 0, 0)]
def cd_241 : List am_E := [(0, .aload_n 0, 0, 0, 0), (1, .invokevirtual 143, 143, 1, 1443), (4, .ifCond .eq 27, 0, 0, 0), (7, .iload_n 1, 0, 0, 0), (8, .i2l, 0, 0, 0), (9, .lconst 1, 0, 0, 0), (10, .ldc2_w 159, 0, 999, 1438), (13, .invokestatic 147, 139, 3, 1433), (16, .ifCond .eq 15, 0, 0, 0), (19, .iload_n 2, 0, 0, 0), (20, .i2l, 0, 0, 0), (21, .lconst 0, 0, 0, 0), (22, .ldc2_w 157, 0, 3000, 1437), (25, .invokestatic 147, 139, 3, 1433), (28, .ifCond .ne 5, 0, 0, 0), (31, .iconst (-1), 0, 0, 0), (32, .ireturn, 0, 0, 0), (33, .bipush (-2), 0, 0, 0), (35, .istore_n 3, 0, 0, 0), (36, .iconst 0, 0, 0, 0), (37, .istore 4, 0, 0, 0), (39, .iload 4, 0, 0, 0), (41, .sipush 200, 0, 0, 0), (44, .if_icmp .gt 51, 0, 0, 0), (47, .iload_n 3, 0, 0, 0), (48, .bipush (-2), 0, 0, 0), (50, .if_icmp .ne 45, 0, 0, 0), (53, .aload_n 0, 0, 0, 0), (54, .iload 4, 0, 0, 0), (56, .iload_n 1, 0, 0, 0), (57, .imul, 0, 0, 0), (58, .putfield 201, 12, 25, 1282), (61, .aload_n 0, 0, 0, 0), (62, .iload 4, 0, 0, 0), (64, .i2l, 0, 0, 0), (65, .iload_n 1, 0, 0, 0), (66, .i2l, 0, 0, 0), (67, .lmul, 0, 0, 0), (68, .iload_n 2, 0, 0, 0), (69, .i2l, 0, 0, 0), (70, .lmul, 0, 0, 0), (71, .putfield 204, 12, 26, 1283), (74, .aload_n 0, 0, 0, 0), (75, .invokevirtual 271, 169, 1, 1548), (78, .ifCond .eq 8, 0, 0, 0), (81, .iload 4, 0, 0, 0), (83, .goto 5, 0, 0, 0), (86, .bipush (-2), 0, 0, 0), (88, .istore_n 3, 0, 0, 0), (89, .iinc 4 1, 0, 0, 0), (92, .goto (-53), 0, 0, 0), (95, .aload_n 0, 0, 0, 0), (96, .iconst 0, 0, 0, 0), (97, .putfield 201, 12, 25, 1282), (100, .aload_n 0, 0, 0, 0), (101, .lconst 0, 0, 0, 0), (102, .putfield 204, 12, 26, 1283), (105, .iload_n 3, 0, 0, 0), (106, .ireturn, 0, 0, 0)]
def cd_242 : List am_E := [(0, .aload_n 0, 0, 0, 0), (1, .getfield 7, 12, 1, 1258), (4, .bipush 13, 0, 0, 0), (6, .iaload, 0, 0, 0), (7, .istore_n 3, 0, 0, 0), (8, .aload_n 0, 0, 0, 0), (9, .invokevirtual 143, 143, 1, 1443), (12, .ifCond .eq 33, 0, 0, 0), (15, .iload_n 3, 0, 0, 0), (16, .bipush 6, 0, 0, 0), (18, .if_icmp .eq 27, 0, 0, 0), (21, .iload_n 1, 0, 0, 0), (22, .i2l, 0, 0, 0), (23, .lconst 1, 0, 0, 0), (24, .ldc2_w 181, 0, 9999, 1476), (27, .invokestatic 147, 139, 3, 1433), (30, .ifCond .eq 15, 0, 0, 0), (33, .iload_n 2, 0, 0, 0), (34, .i2l, 0, 0, 0), (35, .lconst 0, 0, 0, 0), (36, .ldc2_w 157, 0, 3000, 1437), (39, .invokestatic 147, 139, 3, 1433), (42, .ifCond .ne 5, 0, 0, 0), (45, .iconst (-1), 0, 0, 0), (46, .ireturn, 0, 0, 0), (47, .aload_n 0, 0, 0, 0), (48, .getfield 16, 12, 3, 1260), (51, .iload_n 3, 0, 0, 0), (52, .iload_n 1, 0, 0, 0), (53, .iastore, 0, 0, 0), (54, .aload_n 0, 0, 0, 0), (55, .getfield 19, 12, 4, 1261), (58, .iload_n 3, 0, 0, 0), (59, .iload_n 2, 0, 0, 0), (60, .iastore, 0, 0, 0), (61, .aload_n 0, 0, 0, 0), (62, .getfield 7, 12, 1, 1258), (65, .bipush 13, 0, 0, 0), (67, .dup2, 0, 0, 0), (68, .iaload, 0, 0, 0), (69, .iconst 1, 0, 0, 0), (70, .iadd, 0, 0, 0), (71, .iastore, 0, 0, 0), (72, .iload_n 3, 0, 0, 0), (73, .ireturn, 0, 0, 0)]
def cd_243 : List am_E := [(0, .iconst 1, 0, 0, 0), (1, .istore_n 3, 0, 0, 0), (2, .aload_n 0, 0, 0, 0), (3, .iconst 0, 0, 0, 0), (4, .putfield 201, 12, 25, 1282), (7, .aload_n 0, 0, 0, 0), (8, .lconst 0, 0, 0, 0), (9, .putfield 204, 12, 26, 1283), (12, .iconst 0, 0, 0, 0), (13, .istore 4, 0, 0, 0), (15, .iload 4, 0, 0, 0), (17, .iload_n 1, 0, 0, 0), (18, .if_icmp .ge 84, 0, 0, 0), (21, .iload_n 3, 0, 0, 0), (22, .ifCond .eq 80, 0, 0, 0), (25, .aload_n 0, 0, 0, 0), (26, .dup, 0, 0, 0), (27, .getfield 201, 12, 25, 1282), (30, .aload_n 0, 0, 0, 0), (31, .getfield 16, 12, 3, 1260), (34, .aload_n 0, 0, 0, 0), (35, .getfield 137, 12, 55, 1312), (38, .iload 4, 0, 0, 0), (40, .iaload, 0, 0, 0), (41, .iaload, 0, 0, 0), (42, .iadd, 0, 0, 0), (43, .putfield 201, 12, 25, 1282), (46, .aload_n 0, 0, 0, 0), (47, .dup, 0, 0, 0), (48, .getfield 204, 12, 26, 1283), (51, .aload_n 0, 0, 0, 0), (52, .getfield 16, 12, 3, 1260), (55, .aload_n 0, 0, 0, 0), (56, .getfield 137, 12, 55, 1312), (59, .iload 4, 0, 0, 0), (61, .iaload, 0, 0, 0), (62, .iaload, 0, 0, 0), (63, .i2l, 0, 0, 0), (64, .aload_n 0, 0, 0, 0), (65, .getfield 19, 12, 4, 1261), (68, .aload_n 0, 0, 0, 0), (69, .getfield 137, 12, 55, 1312), (72, .iload 4, 0, 0, 0), (74, .iaload, 0, 0, 0), (75, .iaload, 0, 0, 0), (76, .i2l, 0, 0, 0), (77, .lmul, 0, 0, 0), (78, .ladd, 0, 0, 0), (79, .putfield 204, 12, 26, 1283), (82, .aload_n 0, 0, 0, 0), (83, .invokevirtual 257, 170, 1, 1512), (86, .iload_n 2, 0, 0, 0), (87, .if_icmp .lt 7, 0, 0, 0), (90, .iconst 1, 0, 0, 0), (91, .goto 4, 0, 0, 0), (94, .iconst 0, 0, 0, 0), (95, .istore_n 3, 0, 0, 0), (96, .iinc 4 1, 0, 0, 0), (99, .goto (-84), 0, 0, 0), (102, .aload_n 0, 0, 0, 0), (103, .iconst 0, 0, 0, 0), (104, .putfield 201, 12, 25, 1282), (107, .aload_n 0, 0, 0, 0), (108, .lconst 0, 0, 0, 0), (109, .putfield 204, 12, 26, 1283), (112, .iload_n 3, 0, 0, 0), (113, .ireturn, 0, 0, 0)]
def cd_244 : List am_E := [(0, .aload_n 0, 0, 0, 0), (1, .getfield 7, 12, 1, 1258), (4, .bipush 13, 0, 0, 0), (6, .iaload, 0, 0, 0), (7, .istore_n 3, 0, 0, 0), (8, .aload_n 0, 0, 0, 0), (9, .invokevirtual 143, 143, 1, 1443), (12, .ifCond .eq 30, 0, 0, 0), (15, .iload_n 1, 0, 0, 0), (16, .i2l, 0, 0, 0), (17, .ldc2_w 193, 0, 18446744073709451617, 1496), (20, .ldc2_w 155, 0, 99999, 1436), (23, .invokestatic 147, 139, 3, 1433), (26, .ifCond .eq 16, 0, 0, 0), (29, .iload_n 2, 0, 0, 0), (30, .i2l, 0, 0, 0), (31, .lconst 0, 0, 0, 0), (32, .iload_n 3, 0, 0, 0), (33, .iconst 1, 0, 0, 0), (34, .isub, 0, 0, 0), (35, .i2l, 0, 0, 0), (36, .invokestatic 147, 139, 3, 1433), (39, .ifCond .ne 5, 0, 0, 0), (42, .iconst (-1), 0, 0, 0), (43, .ireturn, 0, 0, 0), (44, .iconst 0, 0, 0, 0), (45, .istore 4, 0, 0, 0), (47, .iload 4, 0, 0, 0), (49, .iload_n 3, 0, 0, 0), (50, .if_icmp .ge 18, 0, 0, 0), (53, .aload_n 0, 0, 0, 0), (54, .getfield 137, 12, 55, 1312), (57, .iload 4, 0, 0, 0), (59, .iload 4, 0, 0, 0), (61, .iastore, 0, 0, 0), (62, .iinc 4 1, 0, 0, 0), (65, .goto (-18), 0, 0, 0), (68, .aload_n 0, 0, 0, 0), (69, .iload_n 3, 0, 0, 0), (70, .iload_n 1, 0, 0, 0), (71, .invokevirtual 540, 243, 3, 1907), (74, .istore 4, 0, 0, 0), (76, .iload 4, 0, 0, 0), (78, .ifCond .ne 22, 0, 0, 0), (81, .aload_n 0, 0, 0, 0), (82, .iload_n 3, 0, 0, 0), (83, .invokevirtual 530, 233, 2, 1869), (86, .ifCond .eq 14, 0, 0, 0), (89, .aload_n 0, 0, 0, 0), (90, .iload_n 3, 0, 0, 0), (91, .iload_n 1, 0, 0, 0), (92, .invokevirtual 540, 243, 3, 1907), (95, .istore 4, 0, 0, 0), (97, .goto (-21), 0, 0, 0), (100, .iload 4, 0, 0, 0), (102, .ifCond .eq 12, 0, 0, 0), (105, .aload_n 0, 0, 0, 0), (106, .getfield 137, 12, 55, 1312), (109, .iload_n 2, 0, 0, 0), (110, .iaload, 0, 0, 0), (111, .goto 5, 0, 0, 0), (114, .bipush (-2), 0, 0, 0), (116, .ireturn, 0, 0, 0)]
def cd_245 : List am_E := [(0, .aload_n 0, 0, 0, 0), (1, .invokevirtual 143, 143, 1, 1443), (4, .ifCond .eq 41, 0, 0, 0), (7, .iload_n 1, 0, 0, 0), (8, .i2l, 0, 0, 0), (9, .ldc2_w 195, 0, 18446744073709551556, 1497), (12, .ldc2_w 183, 0, 60, 1477), (15, .invokestatic 147, 139, 3, 1433), (18, .ifCond .eq 27, 0, 0, 0), (21, .iload_n 2, 0, 0, 0), (22, .i2l, 0, 0, 0), (23, .lconst 0, 0, 0, 0), (24, .ldc2_w 181, 0, 9999, 1476), (27, .invokestatic 147, 139, 3, 1433), (30, .ifCond .eq 15, 0, 0, 0), (33, .iload_n 3, 0, 0, 0), (34, .i2l, 0, 0, 0), (35, .lconst 0, 0, 0, 0), (36, .ldc2_w 191, 0, 2, 1495), (39, .invokestatic 147, 139, 3, 1433), (42, .ifCond .ne 5, 0, 0, 0), (45, .iconst (-1), 0, 0, 0), (46, .ireturn, 0, 0, 0), (47, .bipush (-2), 0, 0, 0), (49, .istore 4, 0, 0, 0), (51, .iconst 0, 0, 0, 0), (52, .istore 5, 0, 0, 0), (54, .iconst 0, 0, 0, 0), (55, .istore 6, 0, 0, 0), (57, .iload 6, 0, 0, 0), (59, .aload_n 0, 0, 0, 0), (60, .getfield 7, 12, 1, 1258), (63, .bipush 9, 0, 0, 0), (65, .iaload, 0, 0, 0), (66, .if_icmp .ge 129, 0, 0, 0), (69, .aload_n 0, 0, 0, 0), (70, .getfield 40, 12, 11, 1268), (73, .iload 6, 0, 0, 0), (75, .iaload, 0, 0, 0), (76, .istore 7, 0, 0, 0), (78, .iconst 0, 0, 0, 0), (79, .istore 8, 0, 0, 0), (81, .iload 8, 0, 0, 0), (83, .bipush 100, 0, 0, 0), (85, .if_icmp .gt 95, 0, 0, 0), (88, .aload_n 0, 0, 0, 0), (89, .getfield 40, 12, 11, 1268), (92, .iload 6, 0, 0, 0), (94, .aload_n 0, 0, 0, 0), (95, .iload 6, 0, 0, 0), (97, .invokevirtual 177, 149, 2, 1464), (100, .iload 8, 0, 0, 0), (102, .imul, 0, 0, 0), (103, .bipush 100, 0, 0, 0), (105, .idiv, 0, 0, 0), (106, .iastore, 0, 0, 0), (107, .aload_n 0, 0, 0, 0), (108, .invokevirtual 268, 171, 1, 1543), (111, .istore 9, 0, 0, 0), (113, .bipush 10, 0, 0, 0), (115, .aload_n 0, 0, 0, 0), (116, .iconst 0, 0, 0, 0), (117, .invokevirtual 262, 168, 2, 1571), (120, .iload_n 1, 0, 0, 0), (121, .isub, 0, 0, 0), (122, .invokestatic 228, 142, 1, 1560), (125, .imul, 0, 0, 0), (126, .iload 9, 0, 0, 0), (128, .ifCond .ge 7, 0, 0, 0), (131, .iconst 0, 0, 0, 0), (132, .goto 5, 0, 0, 0), (135, .iload 9, 0, 0, 0), (137, .iload_n 2, 0, 0, 0), (138, .isub, 0, 0, 0), (139, .invokestatic 228, 142, 1, 1560), (142, .iadd, 0, 0, 0), (143, .istore 10, 0, 0, 0), (145, .iload 4, 0, 0, 0), (147, .bipush (-2), 0, 0, 0), (149, .if_icmp .eq 10, 0, 0, 0), (152, .iload 10, 0, 0, 0), (154, .iload 5, 0, 0, 0), (156, .if_icmp .ge 18, 0, 0, 0), (159, .sipush 128, 0, 0, 0), (162, .iload 6, 0, 0, 0), (164, .imul, 0, 0, 0), (165, .iload 8, 0, 0, 0), (167, .iadd, 0, 0, 0), (168, .istore 4, 0, 0, 0), (170, .iload 10, 0, 0, 0), (172, .istore 5, 0, 0, 0), (174, .iinc 8 1, 0, 0, 0), (177, .goto (-96), 0, 0, 0), (180, .aload_n 0, 0, 0, 0), (181, .getfield 40, 12, 11, 1268), (184, .iload 6, 0, 0, 0), (186, .iload 7, 0, 0, 0), (188, .iastore, 0, 0, 0), (189, .iinc 6 1, 0, 0, 0), (192, .goto (-135), 0, 0, 0), (195, .iload 4, 0, 0, 0), (197, .bipush (-2), 0, 0, 0), (199, .if_icmp .ne 8, 0, 0, 0), (202, .bipush (-2), 0, 0, 0), (204, .goto 32, 0, 0, 0), (207, .iload_n 3, 0, 0, 0), (208, .ifCond .ne 12, 0, 0, 0), (211, .iload 4, 0, 0, 0), (213, .sipush 128, 0, 0, 0), (216, .idiv, 0, 0, 0), (217, .goto 19, 0, 0, 0), (220, .iload_n 3, 0, 0, 0), (221, .iconst 1, 0, 0, 0), (222, .if_icmp .ne 12, 0, 0, 0), (225, .iload 4, 0, 0, 0), (227, .sipush 128, 0, 0, 0), (230, .irem, 0, 0, 0), (231, .goto 5, 0, 0, 0), (234, .iload 5, 0, 0, 0), (236, .ireturn, 0, 0, 0)]
def cd_246 : List am_E := [(0, .iconst 0, 0, 0, 0), (1, .istore 5, 0, 0, 0), (3, .iload 4, 0, 0, 0), (5, .istore 6, 0, 0, 0), (7, .iconst 0, 0, 0, 0), (8, .istore 7, 0, 0, 0), (10, .iload 7, 0, 0, 0), (12, .iload_n 1, 0, 0, 0), (13, .if_icmp .ge 78, 0, 0, 0), (16, .iload 6, 0, 0, 0), (18, .aload_n 0, 0, 0, 0), (19, .getfield 455, 12, 31, 1288), (22, .idiv, 0, 0, 0), (23, .istore 6, 0, 0, 0), (25, .iconst 0, 0, 0, 0), (26, .istore 8, 0, 0, 0), (28, .iload 8, 0, 0, 0), (30, .iload_n 2, 0, 0, 0), (31, .if_icmp .ge 54, 0, 0, 0), (34, .aload_n 0, 0, 0, 0), (35, .iload_n 3, 0, 0, 0), (36, .iload 6, 0, 0, 0), (38, .idiv, 0, 0, 0), (39, .aload_n 0, 0, 0, 0), (40, .getfield 455, 12, 31, 1288), (43, .irem, 0, 0, 0), (44, .invokevirtual 496, 223, 2, 1791), (47, .aload_n 0, 0, 0, 0), (48, .getfield 7, 12, 1, 1258), (51, .bipush 7, 0, 0, 0), (53, .iaload, 0, 0, 0), (54, .invokestatic 228, 142, 1, 1560), (57, .iload 5, 0, 0, 0), (59, .if_icmp .le 16, 0, 0, 0), (62, .aload_n 0, 0, 0, 0), (63, .getfield 7, 12, 1, 1258), (66, .bipush 7, 0, 0, 0), (68, .iaload, 0, 0, 0), (69, .invokestatic 228, 142, 1, 1560), (72, .goto 5, 0, 0, 0), (75, .iload 5, 0, 0, 0), (77, .istore 5, 0, 0, 0), (79, .iinc 8 1, 0, 0, 0), (82, .goto (-54), 0, 0, 0), (85, .iinc 7 1, 0, 0, 0), (88, .goto (-78), 0, 0, 0), (91, .iload 5, 0, 0, 0), (93, .ireturn, 0, 0, 0)]
def cd_247 : List am_E := [(0, .aload_n 0, 0, 0, 0), (1, .invokevirtual 143, 143, 1, 1443), (4, .ifCond .eq 42, 0, 0, 0), (7, .iload_n 1, 0, 0, 0), (8, .i2l, 0, 0, 0), (9, .lconst 1, 0, 0, 0), (10, .ldc2_w 543, 0, 4, 1919), (13, .invokestatic 147, 139, 3, 1433), (16, .ifCond .eq 30, 0, 0, 0), (19, .iload_n 2, 0, 0, 0), (20, .i2l, 0, 0, 0), (21, .lconst 1, 0, 0, 0), (22, .ldc2_w 151, 0, 10, 1431), (25, .invokestatic 147, 139, 3, 1433), (28, .ifCond .eq 18, 0, 0, 0), (31, .iload_n 3, 0, 0, 0), (32, .i2l, 0, 0, 0), (33, .ldc2_w 185, 0, 18446744073709551615, 1486), (36, .iload_n 1, 0, 0, 0), (37, .iconst 1, 0, 0, 0), (38, .isub, 0, 0, 0), (39, .i2l, 0, 0, 0), (40, .invokestatic 147, 139, 3, 1433), (43, .ifCond .ne 6, 0, 0, 0), (46, .bipush (-3), 0, 0, 0), (48, .ireturn, 0, 0, 0), (49, .aload_n 0, 0, 0, 0), (50, .getfield 455, 12, 31, 1288), (53, .ifCond .ne 6, 0, 0, 0), (56, .bipush (-2), 0, 0, 0), (58, .ireturn, 0, 0, 0), (59, .iconst 1, 0, 0, 0), (60, .istore 4, 0, 0, 0), (62, .iconst 0, 0, 0, 0), (63, .istore 5, 0, 0, 0), (65, .iload 5, 0, 0, 0), (67, .iload_n 1, 0, 0, 0), (68, .if_icmp .ge 18, 0, 0, 0), (71, .iload 4, 0, 0, 0), (73, .aload_n 0, 0, 0, 0), (74, .getfield 455, 12, 31, 1288), (77, .imul, 0, 0, 0), (78, .istore 4, 0, 0, 0), (80, .iinc 5 1, 0, 0, 0), (83, .goto (-18), 0, 0, 0), (86, .aload_n 0, 0, 0, 0), (87, .iconst 4, 0, 0, 0), (88, .iconst 0, 0, 0, 0), (89, .invokevirtual 516, 227, 3, 1835), (92, .iconst 0, 0, 0, 0), (93, .istore 5, 0, 0, 0), (95, .bipush 61, 0, 0, 0), (97, .istore 6, 0, 0, 0), (99, .iconst 0, 0, 0, 0), (100, .istore 7, 0, 0, 0), (102, .iload 7, 0, 0, 0), (104, .iload 4, 0, 0, 0), (106, .if_icmp .ge 59, 0, 0, 0), (109, .aload_n 0, 0, 0, 0), (110, .iload_n 1, 0, 0, 0), (111, .iload_n 2, 0, 0, 0), (112, .iload 7, 0, 0, 0), (114, .iload 4, 0, 0, 0), (116, .invokevirtual 545, 246, 5, 1920), (119, .istore 8, 0, 0, 0), (121, .iload 8, 0, 0, 0), (123, .iload 6, 0, 0, 0), (125, .if_icmp .ge 8, 0, 0, 0), (128, .iload 7, 0, 0, 0), (130, .goto 5, 0, 0, 0), (133, .iload 5, 0, 0, 0), (135, .istore 5, 0, 0, 0), (137, .iload 8, 0, 0, 0), (139, .iload 6, 0, 0, 0), (141, .if_icmp .ge 8, 0, 0, 0), (144, .iload 8, 0, 0, 0), (146, .goto 5, 0, 0, 0), (149, .iload 6, 0, 0, 0), (151, .istore 6, 0, 0, 0), (153, .aload_n 0, 0, 0, 0), (154, .iconst 4, 0, 0, 0), (155, .iconst 1, 0, 0, 0), (156, .invokevirtual 516, 227, 3, 1835), (159, .iinc 7 1, 0, 0, 0), (162, .goto (-60), 0, 0, 0), (165, .iload 4, 0, 0, 0), (167, .istore 7, 0, 0, 0), (169, .iconst 0, 0, 0, 0), (170, .istore 8, 0, 0, 0), (172, .iload 8, 0, 0, 0), (174, .iload_n 3, 0, 0, 0), (175, .if_icmp .gt 18, 0, 0, 0), (178, .iload 7, 0, 0, 0), (180, .aload_n 0, 0, 0, 0), (181, .getfield 455, 12, 31, 1288), (184, .idiv, 0, 0, 0), (185, .istore 7, 0, 0, 0), (187, .iinc 8 1, 0, 0, 0), (190, .goto (-18), 0, 0, 0), (193, .iload_n 3, 0, 0, 0), (194, .iconst (-1), 0, 0, 0), (195, .if_icmp .ne 8, 0, 0, 0), (198, .iload 6, 0, 0, 0), (200, .goto 13, 0, 0, 0), (203, .iload 5, 0, 0, 0), (205, .iload 7, 0, 0, 0), (207, .idiv, 0, 0, 0), (208, .aload_n 0, 0, 0, 0), (209, .getfield 455, 12, 31, 1288), (212, .irem, 0, 0, 0), (213, .ireturn, 0, 0, 0)]
def cd_248 : List am_E := [(0, .aload_n 0, 0, 0, 0), (1, .iload_n 1, 0, 0, 0), (2, .invokevirtual 208, 150, 2, 1520), (5, .i2l, 0, 0, 0), (6, .lstore_n 2, 0, 0, 0), (7, .lload_n 2, 0, 0, 0), (8, .lconst 0, 0, 0, 0), (9, .lcmp, 0, 0, 0), (10, .ifCond .ne 6, 0, 0, 0), (13, .bipush (-2), 0, 0, 0), (15, .ireturn, 0, 0, 0), (16, .ldc2_w 549, 0, 41, 1932), (19, .aload_n 0, 0, 0, 0), (20, .getfield 28, 12, 7, 1264), (23, .iload_n 1, 0, 0, 0), (24, .iaload, 0, 0, 0), (25, .i2l, 0, 0, 0), (26, .lmul, 0, 0, 0), (27, .aload_n 0, 0, 0, 0), (28, .getfield 28, 12, 7, 1264), (31, .iload_n 1, 0, 0, 0), (32, .iaload, 0, 0, 0), (33, .i2l, 0, 0, 0), (34, .lmul, 0, 0, 0), (35, .lstore 4, 0, 0, 0), (37, .iconst 0, 0, 0, 0), (38, .istore 6, 0, 0, 0), (40, .iload 6, 0, 0, 0), (42, .i2l, 0, 0, 0), (43, .lconst 1, 0, 0, 0), (44, .ladd, 0, 0, 0), (45, .iload 6, 0, 0, 0), (47, .i2l, 0, 0, 0), (48, .lconst 1, 0, 0, 0), (49, .ladd, 0, 0, 0), (50, .lmul, 0, 0, 0), (51, .lload_n 2, 0, 0, 0), (52, .lmul, 0, 0, 0), (53, .lload 4, 0, 0, 0), (55, .lcmp, 0, 0, 0), (56, .ifCond .gt 9, 0, 0, 0), (59, .iinc 6 1, 0, 0, 0), (62, .goto (-22), 0, 0, 0), (65, .iload 6, 0, 0, 0), (67, .ireturn, 0, 0, 0)]
def cd_249 : List am_E := [(0, .aload_n 0, 0, 0, 0), (1, .iload_n 1, 0, 0, 0), (2, .invokevirtual 173, 144, 2, 1460), (5, .ifCond .eq 11, 0, 0, 0), (8, .aload_n 0, 0, 0, 0), (9, .iload_n 1, 0, 0, 0), (10, .invokevirtual 551, 248, 2, 1928), (13, .goto 4, 0, 0, 0), (16, .iconst (-1), 0, 0, 0), (17, .ireturn, 0, 0, 0)]
def cd_250 : List am_E := [(0, .aload_n 0, 0, 0, 0), (1, .iload_n 1, 0, 0, 0), (2, .invokevirtual 173, 144, 2, 1460), (5, .ifCond .ne 5, 0, 0, 0), (8, .iconst (-1), 0, 0, 0), (9, .ireturn, 0, 0, 0), (10, .aload_n 0, 0, 0, 0), (11, .getfield 40, 12, 11, 1268), (14, .iload_n 1, 0, 0, 0), (15, .iaload, 0, 0, 0), (16, .istore_n 2, 0, 0, 0), (17, .bipush (-2), 0, 0, 0), (19, .istore_n 3, 0, 0, 0), (20, .iconst 0, 0, 0, 0), (21, .istore 4, 0, 0, 0), (23, .iconst 1, 0, 0, 0), (24, .istore 5, 0, 0, 0), (26, .iload 5, 0, 0, 0), (28, .bipush 100, 0, 0, 0), (30, .if_icmp .gt 81, 0, 0, 0), (33, .aload_n 0, 0, 0, 0), (34, .getfield 40, 12, 11, 1268), (37, .iload_n 1, 0, 0, 0), (38, .aload_n 0, 0, 0, 0), (39, .iload_n 1, 0, 0, 0), (40, .invokevirtual 177, 149, 2, 1464), (43, .iload 5, 0, 0, 0), (45, .imul, 0, 0, 0), (46, .bipush 100, 0, 0, 0), (48, .idiv, 0, 0, 0), (49, .iastore, 0, 0, 0), (50, .aload_n 0, 0, 0, 0), (51, .iload_n 1, 0, 0, 0), (52, .invokevirtual 551, 248, 2, 1928), (55, .istore 6, 0, 0, 0), (57, .aload_n 0, 0, 0, 0), (58, .invokevirtual 268, 171, 1, 1543), (61, .istore 7, 0, 0, 0), (63, .iload 6, 0, 0, 0), (65, .ifCond .lt 40, 0, 0, 0), (68, .iload 7, 0, 0, 0), (70, .ifCond .lt 35, 0, 0, 0), (73, .iload_n 3, 0, 0, 0), (74, .bipush (-2), 0, 0, 0), (76, .if_icmp .eq 16, 0, 0, 0), (79, .iload 6, 0, 0, 0), (81, .iload 7, 0, 0, 0), (83, .isub, 0, 0, 0), (84, .invokestatic 228, 142, 1, 1560), (87, .iload 4, 0, 0, 0), (89, .if_icmp .ge 16, 0, 0, 0), (92, .iload 5, 0, 0, 0), (94, .istore_n 3, 0, 0, 0), (95, .iload 6, 0, 0, 0), (97, .iload 7, 0, 0, 0), (99, .isub, 0, 0, 0), (100, .invokestatic 228, 142, 1, 1560), (103, .istore 4, 0, 0, 0), (105, .iinc 5 1, 0, 0, 0), (108, .goto (-82), 0, 0, 0), (111, .aload_n 0, 0, 0, 0), (112, .getfield 40, 12, 11, 1268), (115, .iload_n 1, 0, 0, 0), (116, .iload_n 2, 0, 0, 0), (117, .iastore, 0, 0, 0), (118, .iload_n 3, 0, 0, 0), (119, .ireturn, 0, 0, 0)]
def cd_251 : List am_E := [(0, .aload_n 0, 0, 0, 0), (1, .invokevirtual 143, 143, 1, 1443), (4, .ifCond .eq 25, 0, 0, 0), (7, .iload_n 1, 0, 0, 0), (8, .iconst (-1), 0, 0, 0), (9, .if_icmp .eq 8, 0, 0, 0), (12, .iload_n 1, 0, 0, 0), (13, .iconst 1, 0, 0, 0), (14, .if_icmp .ne 15, 0, 0, 0), (17, .iload_n 2, 0, 0, 0), (18, .i2l, 0, 0, 0), (19, .lconst 0, 0, 0, 0), (20, .ldc2_w 157, 0, 3000, 1437), (23, .invokestatic 147, 139, 3, 1433), (26, .ifCond .ne 5, 0, 0, 0), (29, .iconst (-1), 0, 0, 0), (30, .ireturn, 0, 0, 0), (31, .aload_n 0, 0, 0, 0), (32, .getfield 7, 12, 1, 1258), (35, .bipush 7, 0, 0, 0), (37, .iaload, 0, 0, 0), (38, .istore_n 3, 0, 0, 0), (39, .bipush (-2), 0, 0, 0), (41, .istore 4, 0, 0, 0), (43, .iconst 0, 0, 0, 0), (44, .istore 5, 0, 0, 0), (46, .iload 5, 0, 0, 0), (48, .bipush 60, 0, 0, 0), (50, .if_icmp .gt 45, 0, 0, 0), (53, .iload 4, 0, 0, 0), (55, .bipush (-2), 0, 0, 0), (57, .if_icmp .ne 38, 0, 0, 0), (60, .aload_n 0, 0, 0, 0), (61, .getfield 7, 12, 1, 1258), (64, .bipush 7, 0, 0, 0), (66, .iload_n 1, 0, 0, 0), (67, .iload 5, 0, 0, 0), (69, .imul, 0, 0, 0), (70, .iastore, 0, 0, 0), (71, .aload_n 0, 0, 0, 0), (72, .iload_n 1, 0, 0, 0), (73, .invokevirtual 288, 182, 2, 1622), (76, .iload_n 2, 0, 0, 0), (77, .if_icmp .le 8, 0, 0, 0), (80, .iload 5, 0, 0, 0), (82, .goto 5, 0, 0, 0), (85, .bipush (-2), 0, 0, 0), (87, .istore 4, 0, 0, 0), (89, .iinc 5 1, 0, 0, 0), (92, .goto (-46), 0, 0, 0), (95, .aload_n 0, 0, 0, 0), (96, .getfield 7, 12, 1, 1258), (99, .bipush 7, 0, 0, 0), (101, .iload_n 3, 0, 0, 0), (102, .iastore, 0, 0, 0), (103, .iload 4, 0, 0, 0), (105, .ireturn, 0, 0, 0)]
def cd_252 : List am_E := [(0, .aload_n 0, 0, 0, 0), (1, .iload_n 1, 0, 0, 0), (2, .invokevirtual 173, 144, 2, 1460), (5, .ifCond .eq 15, 0, 0, 0), (8, .iload_n 2, 0, 0, 0), (9, .i2l, 0, 0, 0), (10, .lconst 0, 0, 0, 0), (11, .ldc2_w 155, 0, 99999, 1436), (14, .invokestatic 147, 139, 3, 1433), (17, .ifCond .ne 5, 0, 0, 0), (20, .iconst (-1), 0, 0, 0), (21, .ireturn, 0, 0, 0), (22, .aload_n 0, 0, 0, 0), (23, .getfield 40, 12, 11, 1268), (26, .iload_n 1, 0, 0, 0), (27, .iaload, 0, 0, 0), (28, .istore_n 3, 0, 0, 0), (29, .iconst 0, 0, 0, 0), (30, .istore 4, 0, 0, 0), (32, .aload_n 0, 0, 0, 0), (33, .getfield 40, 12, 11, 1268), (36, .iload_n 1, 0, 0, 0), (37, .iaload, 0, 0, 0), (38, .iload_n 2, 0, 0, 0), (39, .if_icmp .le 55, 0, 0, 0), (42, .iload 4, 0, 0, 0), (44, .sipush 400, 0, 0, 0), (47, .if_icmp .gt 47, 0, 0, 0), (50, .iconst 0, 0, 0, 0), (51, .istore 5, 0, 0, 0), (53, .iload 5, 0, 0, 0), (55, .aload_n 0, 0, 0, 0), (56, .getfield 7, 12, 1, 1258), (59, .bipush 12, 0, 0, 0), (61, .iaload, 0, 0, 0), (62, .if_icmp .ge 26, 0, 0, 0), (65, .aload_n 0, 0, 0, 0), (66, .getfield 70, 12, 21, 1278), (69, .iload 5, 0, 0, 0), (71, .iaload, 0, 0, 0), (72, .iload_n 1, 0, 0, 0), (73, .if_icmp .ne 9, 0, 0, 0), (76, .aload_n 0, 0, 0, 0), (77, .iload 5, 0, 0, 0), (79, .invokevirtual 489, 222, 2, 1825), (82, .iinc 5 1, 0, 0, 0), (85, .goto (-32), 0, 0, 0), (88, .iinc 4 1, 0, 0, 0), (91, .goto (-59), 0, 0, 0), (94, .aload_n 0, 0, 0, 0), (95, .getfield 40, 12, 11, 1268), (98, .iload_n 1, 0, 0, 0), (99, .iload_n 3, 0, 0, 0), (100, .iastore, 0, 0, 0), (101, .iload 4, 0, 0, 0), (103, .sipush 400, 0, 0, 0), (106, .if_icmp .le 8, 0, 0, 0), (109, .bipush (-2), 0, 0, 0), (111, .goto 5, 0, 0, 0), (114, .iload 4, 0, 0, 0), (116, .ireturn, 0, 0, 0)]
def cd_253 : List am_E := [(0, .iload_n 1, 0, 0, 0), (1, .tableswitch 148 0 6 #[43, 62, 81, 100, 138, 143, 119], 43, 0, 0), (44, .aload_n 0, 0, 0, 0), (45, .invokevirtual 143, 143, 1, 1443), (48, .ifCond .eq 13, 0, 0, 0), (51, .aload_n 0, 0, 0, 0), (52, .getfield 7, 12, 1, 1258), (55, .bipush 9, 0, 0, 0), (57, .iaload, 0, 0, 0), (58, .goto 4, 0, 0, 0), (61, .iconst (-1), 0, 0, 0), (62, .ireturn, 0, 0, 0), (63, .aload_n 0, 0, 0, 0), (64, .invokevirtual 143, 143, 1, 1443), (67, .ifCond .eq 13, 0, 0, 0), (70, .aload_n 0, 0, 0, 0), (71, .getfield 7, 12, 1, 1258), (74, .bipush 10, 0, 0, 0), (76, .iaload, 0, 0, 0), (77, .goto 4, 0, 0, 0), (80, .iconst (-1), 0, 0, 0), (81, .ireturn, 0, 0, 0), (82, .aload_n 0, 0, 0, 0), (83, .invokevirtual 143, 143, 1, 1443), (86, .ifCond .eq 13, 0, 0, 0), (89, .aload_n 0, 0, 0, 0), (90, .getfield 7, 12, 1, 1258), (93, .bipush 11, 0, 0, 0), (95, .iaload, 0, 0, 0), (96, .goto 4, 0, 0, 0), (99, .iconst (-1), 0, 0, 0), (100, .ireturn, 0, 0, 0), (101, .aload_n 0, 0, 0, 0), (102, .invokevirtual 143, 143, 1, 1443), (105, .ifCond .eq 13, 0, 0, 0), (108, .aload_n 0, 0, 0, 0), (109, .getfield 7, 12, 1, 1258), (112, .bipush 12, 0, 0, 0), (114, .iaload, 0, 0, 0), (115, .goto 4, 0, 0, 0), (118, .iconst (-1), 0, 0, 0), (119, .ireturn, 0, 0, 0), (120, .aload_n 0, 0, 0, 0), (121, .invokevirtual 143, 143, 1, 1443), (124, .ifCond .eq 13, 0, 0, 0), (127, .aload_n 0, 0, 0, 0), (128, .getfield 7, 12, 1, 1258), (131, .bipush 13, 0, 0, 0), (133, .iaload, 0, 0, 0), (134, .goto 4, 0, 0, 0), (137, .iconst (-1), 0, 0, 0), (138, .ireturn, 0, 0, 0), (139, .aload_n 0, 0, 0, 0), (140, .getfield 455, 12, 31, 1288), (143, .ireturn, 0, 0, 0), (144, .aload_n 0, 0, 0, 0), (145, .getfield 294, 12, 27, 1284), (148, .ireturn, 0, 0, 0), (149, .iconst (-1), 0, 0, 0), (150, .ireturn, 0, 0, 0)]
def cd_254 : List am_E := [(0, .iload_n 0, 0, 0, 0), (1, .iload_n 0, 0, 0, 0), (2, .iconst 1, 0, 0, 0), (3, .iushr, 0, 0, 0), (4, .ldc_w 265, 0, 1431655765, 1080), (7, .iand, 0, 0, 0), (8, .isub, 0, 0, 0), (9, .istore_n 0, 0, 0, 0), (10, .iload_n 0, 0, 0, 0), (11, .ldc_w 266, 0, 858993459, 1081), (14, .iand, 0, 0, 0), (15, .iload_n 0, 0, 0, 0), (16, .iconst 2, 0, 0, 0), (17, .iushr, 0, 0, 0), (18, .ldc_w 266, 0, 858993459, 1081), (21, .iand, 0, 0, 0), (22, .iadd, 0, 0, 0), (23, .istore_n 0, 0, 0, 0), (24, .iload_n 0, 0, 0, 0), (25, .iload_n 0, 0, 0, 0), (26, .iconst 4, 0, 0, 0), (27, .iushr, 0, 0, 0), (28, .iadd, 0, 0, 0), (29, .ldc_w 267, 0, 252645135, 1082), (32, .iand, 0, 0, 0), (33, .istore_n 0, 0, 0, 0), (34, .iload_n 0, 0, 0, 0), (35, .iload_n 0, 0, 0, 0), (36, .bipush 8, 0, 0, 0), (38, .iushr, 0, 0, 0), (39, .iadd, 0, 0, 0), (40, .istore_n 0, 0, 0, 0), (41, .iload_n 0, 0, 0, 0), (42, .iload_n 0, 0, 0, 0), (43, .bipush 16, 0, 0, 0), (45, .iushr, 0, 0, 0), (46, .iadd, 0, 0, 0), (47, .istore_n 0, 0, 0, 0), (48, .iload_n 0, 0, 0, 0), (49, .bipush 63, 0, 0, 0), (51, .iand, 0, 0, 0), (52, .ireturn, 0, 0, 0)]
def cd_255 : List am_E := [(0, .aload_n 0, 0, 0, 0), (1, .getfield 9, 100, 0, 1950), (4, .arraylength, 0, 0, 0), (5, .aload_n 0, 0, 0, 0), (6, .invokevirtual 335, 257, 1, 1678), (9, .ishr, 0, 0, 0), (10, .ireturn, 0, 0, 0)]
def cd_256 : List am_E := [(0, .aload_n 0, 0, 0, 0), (1, .invokevirtual 492, 258, 1, 763), (4, .ifCond .eq 12, 0, 0, 0), (7, .aload_n 0, 0, 0, 0), (8, .getfield 9, 100, 0, 1950), (11, .iload_n 1, 0, 0, 0), (12, .invokestatic 495, 260, 2, 769), (15, .ireturn, 0, 0, 0), (16, .aload_n 0, 0, 0, 0), (17, .getfield 9, 100, 0, 1950), (20, .iload_n 1, 0, 0, 0), (21, .invokestatic 498, 5000, 0, 0), (24, .ireturn, 0, 0, 0)]
def cd_257 : List am_E := [(0, .getstatic 38, 1, 0, 767), (3, .ifCond .eq 10, 0, 0, 0), (6, .aload_n 0, 0, 0, 0), (7, .getfield 15, 100, 1, 1949), (10, .goto 4, 0, 0, 0), (13, .iconst 1, 0, 0, 0), (14, .ireturn, 0, 0, 0)]
def cd_258 : List am_E := [(0, .getstatic 38, 1, 0, 767), (3, .ifCond .eq 14, 0, 0, 0), (6, .aload_n 0, 0, 0, 0), (7, .getfield 15, 100, 1, 1949), (10, .ifCond .ne 7, 0, 0, 0), (13, .iconst 1, 0, 0, 0), (14, .goto 4, 0, 0, 0), (17, .iconst 0, 0, 0, 0), (18, .ireturn, 0, 0, 0)]
def cd_259 : List am_E := [(0, .iload_n 0, 0, 0, 0), (1, .iload_n 1, 0, 0, 0), (2, .getstatic 1053, 2, 0, 775), (5, .invokestatic 1059, 263, 3, 777), (8, .pop, 0, 0, 0), (9, .return_, 0, 0, 0)]
def cd_260 : List am_E := [(0, .iload_n 1, 0, 0, 0), (1, .aload_n 0, 0, 0, 0), (2, .arraylength, 0, 0, 0), (3, .invokestatic 9, 259, 2, 772), (6, .aload_n 0, 0, 0, 0), (7, .iload_n 1, 0, 0, 0), (8, .baload, 0, 0, 0), (9, .sipush 255, 0, 0, 0), (12, .iand, 0, 0, 0), (13, .i2c, 0, 0, 0), (14, .ireturn, 0, 0, 0)]
def cd_261 : List am_E := [(0, .iconst 0, 0, 0, 0), (1, .istore_n 3, 0, 0, 0), (2, .aload_n 0, 0, 0, 0), (3, .arraylength, 0, 0, 0), (4, .istore 4, 0, 0, 0), (6, .iload_n 3, 0, 0, 0), (7, .iload 4, 0, 0, 0), (9, .if_icmp .ge 13, 0, 0, 0), (12, .aload_n 0, 0, 0, 0), (13, .iload_n 3, 0, 0, 0), (14, .lload_n 1, 0, 0, 0), (15, .lastore, 0, 0, 0), (16, .iinc 3 1, 0, 0, 0), (19, .goto (-13), 0, 0, 0), (22, .return_, 0, 0, 0)]
def cd_262 : List am_E := [(0, .iconst 0, 0, 0, 0), (1, .istore_n 2, 0, 0, 0), (2, .aload_n 0, 0, 0, 0), (3, .arraylength, 0, 0, 0), (4, .istore_n 3, 0, 0, 0), (5, .iload_n 2, 0, 0, 0), (6, .iload_n 3, 0, 0, 0), (7, .if_icmp .ge 13, 0, 0, 0), (10, .aload_n 0, 0, 0, 0), (11, .iload_n 2, 0, 0, 0), (12, .iload_n 1, 0, 0, 0), (13, .iastore, 0, 0, 0), (14, .iinc 2 1, 0, 0, 0), (17, .goto (-12), 0, 0, 0), (20, .return_, 0, 0, 0)]
def cd_263 : List am_E := [(0, .iload_n 0, 0, 0, 0), (1, .ifCond .lt 8, 0, 0, 0), (4, .iload_n 0, 0, 0, 0), (5, .iload_n 1, 0, 0, 0), (6, .if_icmp .lt 10, 0, 0, 0), (9, .aload_n 2, 0, 0, 0), (10, .iload_n 0, 0, 0, 0), (11, .iload_n 1, 0, 0, 0), (12, .invokestatic 95, 5000, 0, 0), (15, .athrow, 0, 0, 0), (16, .iload_n 0, 0, 0, 0), (17, .ireturn, 0, 0, 0)]
def cd_264 : List am_E := [(0, .new 7, 11, 117, 0), (3, .dup, 0, 0, 0), (4, .invokespecial 9, 82, 1, 119), (7, .astore_n 1, 0, 0, 0), (8, .new 10, 12, 1252, 0), (11, .dup, 0, 0, 0), (12, .invokespecial 12, 138, 1, 1254), (15, .astore_n 2, 0, 0, 0), (16, .iconst 0, 0, 0, 0), (17, .istore_n 3, 0, 0, 0), (18, .iload_n 3, 0, 0, 0), (19, .aload_n 0, 0, 0, 0), (20, .arraylength, 0, 0, 0), (21, .bipush 7, 0, 0, 0), (23, .isub, 0, 0, 0), (24, .if_icmp .gt 1639, 0, 0, 0), (27, .aload_n 0, 0, 0, 0), (28, .iload_n 3, 0, 0, 0), (29, .iaload, 0, 0, 0), (30, .bipush 63, 0, 0, 0), (32, .iand, 0, 0, 0), (33, .tableswitch 1624 0 41 #[183, 236, 269, 344, 377, 410, 463, 516, 569, 602, 665, 688, 701, 734, 757, 771, 795, 818, 841, 874, 908, 941, 964, 987, 1010, 1033, 1076, 1119, 1162, 1215, 1258, 1291, 1324, 1357, 1400, 1443, 1466, 1489, 1522, 1555, 1578, 1601], 183, 0, 0), (216, .aload_n 1, 0, 0, 0), (217, .aload_n 0, 0, 0, 0), (218, .iload_n 3, 0, 0, 0), (219, .iconst 1, 0, 0, 0), (220, .iadd, 0, 0, 0), (221, .iaload, 0, 0, 0), (222, .aload_n 0, 0, 0, 0), (223, .iload_n 3, 0, 0, 0), (224, .iconst 2, 0, 0, 0), (225, .iadd, 0, 0, 0), (226, .iaload, 0, 0, 0), (227, .aload_n 0, 0, 0, 0), (228, .iload_n 3, 0, 0, 0), (229, .iconst 3, 0, 0, 0), (230, .iadd, 0, 0, 0), (231, .iaload, 0, 0, 0), (232, .aload_n 0, 0, 0, 0), (233, .iload_n 3, 0, 0, 0), (234, .iconst 4, 0, 0, 0), (235, .iadd, 0, 0, 0), (236, .iaload, 0, 0, 0), (237, .invokevirtual 13, 83, 5, 615), (240, .aload_n 2, 0, 0, 0), (241, .aload_n 0, 0, 0, 0), (242, .iload_n 3, 0, 0, 0), (243, .iconst 1, 0, 0, 0), (244, .iadd, 0, 0, 0), (245, .iaload, 0, 0, 0), (246, .aload_n 0, 0, 0, 0), (247, .iload_n 3, 0, 0, 0), (248, .iconst 2, 0, 0, 0), (249, .iadd, 0, 0, 0), (250, .iaload, 0, 0, 0), (251, .aload_n 0, 0, 0, 0), (252, .iload_n 3, 0, 0, 0), (253, .iconst 3, 0, 0, 0), (254, .iadd, 0, 0, 0), (255, .iaload, 0, 0, 0), (256, .aload_n 0, 0, 0, 0), (257, .iload_n 3, 0, 0, 0), (258, .iconst 4, 0, 0, 0), (259, .iadd, 0, 0, 0), (260, .iaload, 0, 0, 0), (261, .invokevirtual 17, 146, 5, 1427), (264, .if_icmp .eq 1393, 0, 0, 0), (267, .iconst 0, 0, 0, 0), (268, .ireturn, 0, 0, 0), (269, .aload_n 1, 0, 0, 0), (270, .aload_n 0, 0, 0, 0), (271, .iload_n 3, 0, 0, 0), (272, .iconst 1, 0, 0, 0), (273, .iadd, 0, 0, 0), (274, .iaload, 0, 0, 0), (275, .aload_n 0, 0, 0, 0), (276, .iload_n 3, 0, 0, 0), (277, .iconst 2, 0, 0, 0), (278, .iadd, 0, 0, 0), (279, .iaload, 0, 0, 0), (280, .invokevirtual 18, 84, 3, 630), (283, .aload_n 2, 0, 0, 0), (284, .aload_n 0, 0, 0, 0), (285, .iload_n 3, 0, 0, 0), (286, .iconst 1, 0, 0, 0), (287, .iadd, 0, 0, 0), (288, .iaload, 0, 0, 0), (289, .aload_n 0, 0, 0, 0), (290, .iload_n 3, 0, 0, 0), (291, .iconst 2, 0, 0, 0), (292, .iadd, 0, 0, 0), (293, .iaload, 0, 0, 0), (294, .invokevirtual 22, 147, 3, 1439), (297, .if_icmp .eq 1360, 0, 0, 0), (300, .iconst 0, 0, 0, 0), (301, .ireturn, 0, 0, 0), (302, .aload_n 1, 0, 0, 0), (303, .aload_n 0, 0, 0, 0), (304, .iload_n 3, 0, 0, 0), (305, .iconst 1, 0, 0, 0), (306, .iadd, 0, 0, 0), (307, .iaload, 0, 0, 0), (308, .aload_n 0, 0, 0, 0), (309, .iload_n 3, 0, 0, 0), (310, .iconst 2, 0, 0, 0), (311, .iadd, 0, 0, 0), (312, .iaload, 0, 0, 0), (313, .aload_n 0, 0, 0, 0), (314, .iload_n 3, 0, 0, 0), (315, .iconst 3, 0, 0, 0), (316, .iadd, 0, 0, 0), (317, .iaload, 0, 0, 0), (318, .aload_n 0, 0, 0, 0), (319, .iload_n 3, 0, 0, 0), (320, .iconst 4, 0, 0, 0), (321, .iadd, 0, 0, 0), (322, .iaload, 0, 0, 0), (323, .aload_n 0, 0, 0, 0), (324, .iload_n 3, 0, 0, 0), (325, .iconst 5, 0, 0, 0), (326, .iadd, 0, 0, 0), (327, .iaload, 0, 0, 0), (328, .aload_n 0, 0, 0, 0), (329, .iload_n 3, 0, 0, 0), (330, .bipush 6, 0, 0, 0), (332, .iadd, 0, 0, 0), (333, .iaload, 0, 0, 0), (334, .invokevirtual 23, 85, 7, 642), (337, .aload_n 2, 0, 0, 0), (338, .aload_n 0, 0, 0, 0), (339, .iload_n 3, 0, 0, 0), (340, .iconst 1, 0, 0, 0), (341, .iadd, 0, 0, 0), (342, .iaload, 0, 0, 0), (343, .aload_n 0, 0, 0, 0), (344, .iload_n 3, 0, 0, 0), (345, .iconst 2, 0, 0, 0), (346, .iadd, 0, 0, 0), (347, .iaload, 0, 0, 0), (348, .aload_n 0, 0, 0, 0), (349, .iload_n 3, 0, 0, 0), (350, .iconst 3, 0, 0, 0), (351, .iadd, 0, 0, 0), (352, .iaload, 0, 0, 0), (353, .aload_n 0, 0, 0, 0), (354, .iload_n 3, 0, 0, 0), (355, .iconst 4, 0, 0, 0), (356, .iadd, 0, 0, 0), (357, .iaload, 0, 0, 0), (358, .aload_n 0, 0, 0, 0), (359, .iload_n 3, 0, 0, 0), (360, .iconst 5, 0, 0, 0), (361, .iadd, 0, 0, 0), (362, .iaload, 0, 0, 0), (363, .aload_n 0, 0, 0, 0), (364, .iload_n 3, 0, 0, 0), (365, .bipush 6, 0, 0, 0), (367, .iadd, 0, 0, 0), (368, .iaload, 0, 0, 0), (369, .invokevirtual 27, 148, 7, 1448), (372, .if_icmp .eq 1285, 0, 0, 0), (375, .iconst 0, 0, 0, 0), (376, .ireturn, 0, 0, 0), (377, .aload_n 1, 0, 0, 0), (378, .aload_n 0, 0, 0, 0), (379, .iload_n 3, 0, 0, 0), (380, .iconst 1, 0, 0, 0), (381, .iadd, 0, 0, 0), (382, .iaload, 0, 0, 0), (383, .aload_n 0, 0, 0, 0), (384, .iload_n 3, 0, 0, 0), (385, .iconst 2, 0, 0, 0), (386, .iadd, 0, 0, 0), (387, .iaload, 0, 0, 0), (388, .invokevirtual 28, 86, 3, 670), (391, .aload_n 2, 0, 0, 0), (392, .aload_n 0, 0, 0, 0), (393, .iload_n 3, 0, 0, 0), (394, .iconst 1, 0, 0, 0), (395, .iadd, 0, 0, 0), (396, .iaload, 0, 0, 0), (397, .aload_n 0, 0, 0, 0), (398, .iload_n 3, 0, 0, 0), (399, .iconst 2, 0, 0, 0), (400, .iadd, 0, 0, 0), (401, .iaload, 0, 0, 0), (402, .invokevirtual 31, 151, 3, 1456), (405, .if_icmp .eq 1252, 0, 0, 0), (408, .iconst 0, 0, 0, 0), (409, .ireturn, 0, 0, 0), (410, .aload_n 1, 0, 0, 0), (411, .aload_n 0, 0, 0, 0), (412, .iload_n 3, 0, 0, 0), (413, .iconst 1, 0, 0, 0), (414, .iadd, 0, 0, 0), (415, .iaload, 0, 0, 0), (416, .aload_n 0, 0, 0, 0), (417, .iload_n 3, 0, 0, 0), (418, .iconst 2, 0, 0, 0), (419, .iadd, 0, 0, 0), (420, .iaload, 0, 0, 0), (421, .invokevirtual 32, 87, 3, 683), (424, .aload_n 2, 0, 0, 0), (425, .aload_n 0, 0, 0, 0), (426, .iload_n 3, 0, 0, 0), (427, .iconst 1, 0, 0, 0), (428, .iadd, 0, 0, 0), (429, .iaload, 0, 0, 0), (430, .aload_n 0, 0, 0, 0), (431, .iload_n 3, 0, 0, 0), (432, .iconst 2, 0, 0, 0), (433, .iadd, 0, 0, 0), (434, .iaload, 0, 0, 0), (435, .invokevirtual 35, 152, 3, 1468), (438, .if_icmp .eq 1219, 0, 0, 0), (441, .iconst 0, 0, 0, 0), (442, .ireturn, 0, 0, 0), (443, .aload_n 1, 0, 0, 0), (444, .aload_n 0, 0, 0, 0), (445, .iload_n 3, 0, 0, 0), (446, .iconst 1, 0, 0, 0), (447, .iadd, 0, 0, 0), (448, .iaload, 0, 0, 0), (449, .aload_n 0, 0, 0, 0), (450, .iload_n 3, 0, 0, 0), (451, .iconst 2, 0, 0, 0), (452, .iadd, 0, 0, 0), (453, .iaload, 0, 0, 0), (454, .aload_n 0, 0, 0, 0), (455, .iload_n 3, 0, 0, 0), (456, .iconst 3, 0, 0, 0), (457, .iadd, 0, 0, 0), (458, .iaload, 0, 0, 0), (459, .aload_n 0, 0, 0, 0), (460, .iload_n 3, 0, 0, 0), (461, .iconst 4, 0, 0, 0), (462, .iadd, 0, 0, 0), (463, .iaload, 0, 0, 0), (464, .invokevirtual 36, 88, 5, 687), (467, .aload_n 2, 0, 0, 0), (468, .aload_n 0, 0, 0, 0), (469, .iload_n 3, 0, 0, 0), (470, .iconst 1, 0, 0, 0), (471, .iadd, 0, 0, 0), (472, .iaload, 0, 0, 0), (473, .aload_n 0, 0, 0, 0), (474, .iload_n 3, 0, 0, 0), (475, .iconst 2, 0, 0, 0), (476, .iadd, 0, 0, 0), (477, .iaload, 0, 0, 0), (478, .aload_n 0, 0, 0, 0), (479, .iload_n 3, 0, 0, 0), (480, .iconst 3, 0, 0, 0), (481, .iadd, 0, 0, 0), (482, .iaload, 0, 0, 0), (483, .aload_n 0, 0, 0, 0), (484, .iload_n 3, 0, 0, 0), (485, .iconst 4, 0, 0, 0), (486, .iadd, 0, 0, 0), (487, .iaload, 0, 0, 0), (488, .invokevirtual 40, 153, 5, 1472), (491, .if_icmp .eq 1166, 0, 0, 0), (494, .iconst 0, 0, 0, 0), (495, .ireturn, 0, 0, 0), (496, .aload_n 1, 0, 0, 0), (497, .aload_n 0, 0, 0, 0), (498, .iload_n 3, 0, 0, 0), (499, .iconst 1, 0, 0, 0), (500, .iadd, 0, 0, 0), (501, .iaload, 0, 0, 0), (502, .aload_n 0, 0, 0, 0), (503, .iload_n 3, 0, 0, 0), (504, .iconst 2, 0, 0, 0), (505, .iadd, 0, 0, 0), (506, .iaload, 0, 0, 0), (507, .aload_n 0, 0, 0, 0), (508, .iload_n 3, 0, 0, 0), (509, .iconst 3, 0, 0, 0), (510, .iadd, 0, 0, 0), (511, .iaload, 0, 0, 0), (512, .aload_n 0, 0, 0, 0), (513, .iload_n 3, 0, 0, 0), (514, .iconst 4, 0, 0, 0), (515, .iadd, 0, 0, 0), (516, .iaload, 0, 0, 0), (517, .invokevirtual 41, 89, 5, 695), (520, .aload_n 2, 0, 0, 0), (521, .aload_n 0, 0, 0, 0), (522, .iload_n 3, 0, 0, 0), (523, .iconst 1, 0, 0, 0), (524, .iadd, 0, 0, 0), (525, .iaload, 0, 0, 0), (526, .aload_n 0, 0, 0, 0), (527, .iload_n 3, 0, 0, 0), (528, .iconst 2, 0, 0, 0), (529, .iadd, 0, 0, 0), (530, .iaload, 0, 0, 0), (531, .aload_n 0, 0, 0, 0), (532, .iload_n 3, 0, 0, 0), (533, .iconst 3, 0, 0, 0), (534, .iadd, 0, 0, 0), (535, .iaload, 0, 0, 0), (536, .aload_n 0, 0, 0, 0), (537, .iload_n 3, 0, 0, 0), (538, .iconst 4, 0, 0, 0), (539, .iadd, 0, 0, 0), (540, .iaload, 0, 0, 0), (541, .invokevirtual 44, 155, 5, 1478), (544, .if_icmp .eq 1113, 0, 0, 0), (547, .iconst 0, 0, 0, 0), (548, .ireturn, 0, 0, 0), (549, .aload_n 1, 0, 0, 0), (550, .aload_n 0, 0, 0, 0), (551, .iload_n 3, 0, 0, 0), (552, .iconst 1, 0, 0, 0), (553, .iadd, 0, 0, 0), (554, .iaload, 0, 0, 0), (555, .aload_n 0, 0, 0, 0), (556, .iload_n 3, 0, 0, 0), (557, .iconst 2, 0, 0, 0), (558, .iadd, 0, 0, 0), (559, .iaload, 0, 0, 0), (560, .aload_n 0, 0, 0, 0), (561, .iload_n 3, 0, 0, 0), (562, .iconst 3, 0, 0, 0), (563, .iadd, 0, 0, 0), (564, .iaload, 0, 0, 0), (565, .aload_n 0, 0, 0, 0), (566, .iload_n 3, 0, 0, 0), (567, .iconst 4, 0, 0, 0), (568, .iadd, 0, 0, 0), (569, .iaload, 0, 0, 0), (570, .invokevirtual 45, 90, 5, 707), (573, .aload_n 2, 0, 0, 0), (574, .aload_n 0, 0, 0, 0), (575, .iload_n 3, 0, 0, 0), (576, .iconst 1, 0, 0, 0), (577, .iadd, 0, 0, 0), (578, .iaload, 0, 0, 0), (579, .aload_n 0, 0, 0, 0), (580, .iload_n 3, 0, 0, 0), (581, .iconst 2, 0, 0, 0), (582, .iadd, 0, 0, 0), (583, .iaload, 0, 0, 0), (584, .aload_n 0, 0, 0, 0), (585, .iload_n 3, 0, 0, 0), (586, .iconst 3, 0, 0, 0), (587, .iadd, 0, 0, 0), (588, .iaload, 0, 0, 0), (589, .aload_n 0, 0, 0, 0), (590, .iload_n 3, 0, 0, 0), (591, .iconst 4, 0, 0, 0), (592, .iadd, 0, 0, 0), (593, .iaload, 0, 0, 0), (594, .invokevirtual 48, 156, 5, 1487), (597, .if_icmp .eq 1060, 0, 0, 0), (600, .iconst 0, 0, 0, 0), (601, .ireturn, 0, 0, 0), (602, .aload_n 1, 0, 0, 0), (603, .aload_n 0, 0, 0, 0), (604, .iload_n 3, 0, 0, 0), (605, .iconst 1, 0, 0, 0), (606, .iadd, 0, 0, 0), (607, .iaload, 0, 0, 0), (608, .aload_n 0, 0, 0, 0), (609, .iload_n 3, 0, 0, 0), (610, .iconst 2, 0, 0, 0), (611, .iadd, 0, 0, 0), (612, .iaload, 0, 0, 0), (613, .invokevirtual 49, 92, 3, 711), (616, .aload_n 2, 0, 0, 0), (617, .aload_n 0, 0, 0, 0), (618, .iload_n 3, 0, 0, 0), (619, .iconst 1, 0, 0, 0), (620, .iadd, 0, 0, 0), (621, .iaload, 0, 0, 0), (622, .aload_n 0, 0, 0, 0), (623, .iload_n 3, 0, 0, 0), (624, .iconst 2, 0, 0, 0), (625, .iadd, 0, 0, 0), (626, .iaload, 0, 0, 0), (627, .invokevirtual 52, 157, 3, 1491), (630, .if_icmp .eq 1027, 0, 0, 0), (633, .iconst 0, 0, 0, 0), (634, .ireturn, 0, 0, 0), (635, .aload_n 1, 0, 0, 0), (636, .aload_n 0, 0, 0, 0), (637, .iload_n 3, 0, 0, 0), (638, .iconst 1, 0, 0, 0), (639, .iadd, 0, 0, 0), (640, .iaload, 0, 0, 0), (641, .aload_n 0, 0, 0, 0), (642, .iload_n 3, 0, 0, 0), (643, .iconst 2, 0, 0, 0), (644, .iadd, 0, 0, 0), (645, .iaload, 0, 0, 0), (646, .aload_n 0, 0, 0, 0), (647, .iload_n 3, 0, 0, 0), (648, .iconst 3, 0, 0, 0), (649, .iadd, 0, 0, 0), (650, .iaload, 0, 0, 0), (651, .aload_n 0, 0, 0, 0), (652, .iload_n 3, 0, 0, 0), (653, .iconst 4, 0, 0, 0), (654, .iadd, 0, 0, 0), (655, .iaload, 0, 0, 0), (656, .aload_n 0, 0, 0, 0), (657, .iload_n 3, 0, 0, 0), (658, .iconst 5, 0, 0, 0), (659, .iadd, 0, 0, 0), (660, .iaload, 0, 0, 0), (661, .invokevirtual 53, 93, 6, 717), (664, .aload_n 2, 0, 0, 0), (665, .aload_n 0, 0, 0, 0), (666, .iload_n 3, 0, 0, 0), (667, .iconst 1, 0, 0, 0), (668, .iadd, 0, 0, 0), (669, .iaload, 0, 0, 0), (670, .aload_n 0, 0, 0, 0), (671, .iload_n 3, 0, 0, 0), (672, .iconst 2, 0, 0, 0), (673, .iadd, 0, 0, 0), (674, .iaload, 0, 0, 0), (675, .aload_n 0, 0, 0, 0), (676, .iload_n 3, 0, 0, 0), (677, .iconst 3, 0, 0, 0), (678, .iadd, 0, 0, 0), (679, .iaload, 0, 0, 0), (680, .aload_n 0, 0, 0, 0), (681, .iload_n 3, 0, 0, 0), (682, .iconst 4, 0, 0, 0), (683, .iadd, 0, 0, 0), (684, .iaload, 0, 0, 0), (685, .aload_n 0, 0, 0, 0), (686, .iload_n 3, 0, 0, 0), (687, .iconst 5, 0, 0, 0), (688, .iadd, 0, 0, 0), (689, .iaload, 0, 0, 0), (690, .invokevirtual 57, 186, 6, 1634), (693, .if_icmp .eq 964, 0, 0, 0), (696, .iconst 0, 0, 0, 0), (697, .ireturn, 0, 0, 0), (698, .aload_n 1, 0, 0, 0), (699, .aload_n 0, 0, 0, 0), (700, .iload_n 3, 0, 0, 0), (701, .iconst 1, 0, 0, 0), (702, .iadd, 0, 0, 0), (703, .iaload, 0, 0, 0), (704, .invokevirtual 58, 95, 2, 725), (707, .aload_n 2, 0, 0, 0), (708, .aload_n 0, 0, 0, 0), (709, .iload_n 3, 0, 0, 0), (710, .iconst 1, 0, 0, 0), (711, .iadd, 0, 0, 0), (712, .iaload, 0, 0, 0), (713, .invokevirtual 62, 188, 2, 1642), (716, .if_icmp .eq 941, 0, 0, 0), (719, .iconst 0, 0, 0, 0), (720, .ireturn, 0, 0, 0), (721, .aload_n 1, 0, 0, 0), (722, .invokevirtual 63, 96, 1, 729), (725, .aload_n 2, 0, 0, 0), (726, .invokevirtual 67, 212, 1, 1646), (729, .if_icmp .eq 928, 0, 0, 0), (732, .iconst 0, 0, 0, 0), (733, .ireturn, 0, 0, 0), (734, .aload_n 1, 0, 0, 0), (735, .aload_n 0, 0, 0, 0), (736, .iload_n 3, 0, 0, 0), (737, .iconst 1, 0, 0, 0), (738, .iadd, 0, 0, 0), (739, .iaload, 0, 0, 0), (740, .aload_n 0, 0, 0, 0), (741, .iload_n 3, 0, 0, 0), (742, .iconst 2, 0, 0, 0), (743, .iadd, 0, 0, 0), (744, .iaload, 0, 0, 0), (745, .invokevirtual 68, 97, 3, 854), (748, .aload_n 2, 0, 0, 0), (749, .aload_n 0, 0, 0, 0), (750, .iload_n 3, 0, 0, 0), (751, .iconst 1, 0, 0, 0), (752, .iadd, 0, 0, 0), (753, .iaload, 0, 0, 0), (754, .aload_n 0, 0, 0, 0), (755, .iload_n 3, 0, 0, 0), (756, .iconst 2, 0, 0, 0), (757, .iadd, 0, 0, 0), (758, .iaload, 0, 0, 0), (759, .invokevirtual 71, 225, 3, 1779), (762, .if_icmp .eq 895, 0, 0, 0), (765, .iconst 0, 0, 0, 0), (766, .ireturn, 0, 0, 0), (767, .aload_n 1, 0, 0, 0), (768, .aload_n 0, 0, 0, 0), (769, .iload_n 3, 0, 0, 0), (770, .iconst 1, 0, 0, 0), (771, .iadd, 0, 0, 0), (772, .iaload, 0, 0, 0), (773, .invokevirtual 72, 99, 2, 978), (776, .aload_n 2, 0, 0, 0), (777, .aload_n 0, 0, 0, 0), (778, .iload_n 3, 0, 0, 0), (779, .iconst 1, 0, 0, 0), (780, .iadd, 0, 0, 0), (781, .iaload, 0, 0, 0), (782, .invokevirtual 75, 174, 2, 1500), (785, .if_icmp .eq 872, 0, 0, 0), (788, .iconst 0, 0, 0, 0), (789, .ireturn, 0, 0, 0), (790, .aload_n 1, 0, 0, 0), (791, .invokevirtual 76, 100, 1, 1005), (794, .aload_n 2, 0, 0, 0), (795, .invokevirtual 80, 175, 1, 1583), (798, .lcmp, 0, 0, 0), (799, .ifCond .eq 858, 0, 0, 0), (802, .iconst 0, 0, 0, 0), (803, .ireturn, 0, 0, 0), (804, .aload_n 1, 0, 0, 0), (805, .aload_n 0, 0, 0, 0), (806, .iload_n 3, 0, 0, 0), (807, .iconst 1, 0, 0, 0), (808, .iadd, 0, 0, 0), (809, .iaload, 0, 0, 0), (810, .invokevirtual 81, 101, 2, 1010), (813, .aload_n 2, 0, 0, 0), (814, .aload_n 0, 0, 0, 0), (815, .iload_n 3, 0, 0, 0), (816, .iconst 1, 0, 0, 0), (817, .iadd, 0, 0, 0), (818, .iaload, 0, 0, 0), (819, .invokevirtual 85, 176, 2, 1587), (822, .lcmp, 0, 0, 0), (823, .ifCond .eq 834, 0, 0, 0), (826, .iconst 0, 0, 0, 0), (827, .ireturn, 0, 0, 0), (828, .aload_n 1, 0, 0, 0), (829, .aload_n 0, 0, 0, 0), (830, .iload_n 3, 0, 0, 0), (831, .iconst 1, 0, 0, 0), (832, .iadd, 0, 0, 0), (833, .iaload, 0, 0, 0), (834, .invokevirtual 86, 102, 2, 1015), (837, .aload_n 2, 0, 0, 0), (838, .aload_n 0, 0, 0, 0), (839, .iload_n 3, 0, 0, 0), (840, .iconst 1, 0, 0, 0), (841, .iadd, 0, 0, 0), (842, .iaload, 0, 0, 0), (843, .invokevirtual 89, 177, 2, 1591), (846, .if_icmp .eq 811, 0, 0, 0), (849, .iconst 0, 0, 0, 0), (850, .ireturn, 0, 0, 0), (851, .aload_n 1, 0, 0, 0), (852, .aload_n 0, 0, 0, 0), (853, .iload_n 3, 0, 0, 0), (854, .iconst 1, 0, 0, 0), (855, .iadd, 0, 0, 0), (856, .iaload, 0, 0, 0), (857, .invokevirtual 90, 103, 2, 1020), (860, .aload_n 2, 0, 0, 0), (861, .aload_n 0, 0, 0, 0), (862, .iload_n 3, 0, 0, 0), (863, .iconst 1, 0, 0, 0), (864, .iadd, 0, 0, 0), (865, .iaload, 0, 0, 0), (866, .invokevirtual 93, 178, 2, 1595), (869, .if_icmp .eq 788, 0, 0, 0), (872, .iconst 0, 0, 0, 0), (873, .ireturn, 0, 0, 0), (874, .aload_n 1, 0, 0, 0), (875, .aload_n 0, 0, 0, 0), (876, .iload_n 3, 0, 0, 0), (877, .iconst 1, 0, 0, 0), (878, .iadd, 0, 0, 0), (879, .iaload, 0, 0, 0), (880, .aload_n 0, 0, 0, 0), (881, .iload_n 3, 0, 0, 0), (882, .iconst 2, 0, 0, 0), (883, .iadd, 0, 0, 0), (884, .iaload, 0, 0, 0), (885, .invokevirtual 94, 104, 3, 1024), (888, .aload_n 2, 0, 0, 0), (889, .aload_n 0, 0, 0, 0), (890, .iload_n 3, 0, 0, 0), (891, .iconst 1, 0, 0, 0), (892, .iadd, 0, 0, 0), (893, .iaload, 0, 0, 0), (894, .aload_n 0, 0, 0, 0), (895, .iload_n 3, 0, 0, 0), (896, .iconst 2, 0, 0, 0), (897, .iadd, 0, 0, 0), (898, .iaload, 0, 0, 0), (899, .invokevirtual 97, 179, 3, 1599), (902, .if_icmp .eq 755, 0, 0, 0), (905, .iconst 0, 0, 0, 0), (906, .ireturn, 0, 0, 0), (907, .aload_n 1, 0, 0, 0), (908, .aload_n 0, 0, 0, 0), (909, .iload_n 3, 0, 0, 0), (910, .iconst 1, 0, 0, 0), (911, .iadd, 0, 0, 0), (912, .iaload, 0, 0, 0), (913, .aload_n 0, 0, 0, 0), (914, .iload_n 3, 0, 0, 0), (915, .iconst 2, 0, 0, 0), (916, .iadd, 0, 0, 0), (917, .iaload, 0, 0, 0), (918, .invokevirtual 98, 105, 3, 1028), (921, .aload_n 2, 0, 0, 0), (922, .aload_n 0, 0, 0, 0), (923, .iload_n 3, 0, 0, 0), (924, .iconst 1, 0, 0, 0), (925, .iadd, 0, 0, 0), (926, .iaload, 0, 0, 0), (927, .aload_n 0, 0, 0, 0), (928, .iload_n 3, 0, 0, 0), (929, .iconst 2, 0, 0, 0), (930, .iadd, 0, 0, 0), (931, .iaload, 0, 0, 0), (932, .invokevirtual 102, 180, 3, 1603), (935, .lcmp, 0, 0, 0), (936, .ifCond .eq 721, 0, 0, 0), (939, .iconst 0, 0, 0, 0), (940, .ireturn, 0, 0, 0), (941, .aload_n 1, 0, 0, 0), (942, .aload_n 0, 0, 0, 0), (943, .iload_n 3, 0, 0, 0), (944, .iconst 1, 0, 0, 0), (945, .iadd, 0, 0, 0), (946, .iaload, 0, 0, 0), (947, .aload_n 0, 0, 0, 0), (948, .iload_n 3, 0, 0, 0), (949, .iconst 2, 0, 0, 0), (950, .iadd, 0, 0, 0), (951, .iaload, 0, 0, 0), (952, .invokevirtual 103, 106, 3, 1035), (955, .aload_n 2, 0, 0, 0), (956, .aload_n 0, 0, 0, 0), (957, .iload_n 3, 0, 0, 0), (958, .iconst 1, 0, 0, 0), (959, .iadd, 0, 0, 0), (960, .iaload, 0, 0, 0), (961, .aload_n 0, 0, 0, 0), (962, .iload_n 3, 0, 0, 0), (963, .iconst 2, 0, 0, 0), (964, .iadd, 0, 0, 0), (965, .iaload, 0, 0, 0), (966, .invokevirtual 106, 183, 3, 1607), (969, .if_icmp .eq 688, 0, 0, 0), (972, .iconst 0, 0, 0, 0), (973, .ireturn, 0, 0, 0), (974, .aload_n 1, 0, 0, 0), (975, .aload_n 0, 0, 0, 0), (976, .iload_n 3, 0, 0, 0), (977, .iconst 1, 0, 0, 0), (978, .iadd, 0, 0, 0), (979, .iaload, 0, 0, 0), (980, .invokevirtual 107, 107, 2, 1040), (983, .aload_n 2, 0, 0, 0), (984, .aload_n 0, 0, 0, 0), (985, .iload_n 3, 0, 0, 0), (986, .iconst 1, 0, 0, 0), (987, .iadd, 0, 0, 0), (988, .iaload, 0, 0, 0), (989, .invokevirtual 110, 184, 2, 1618), (992, .if_icmp .eq 665, 0, 0, 0), (995, .iconst 0, 0, 0, 0), (996, .ireturn, 0, 0, 0), (997, .aload_n 1, 0, 0, 0), (998, .aload_n 0, 0, 0, 0), (999, .iload_n 3, 0, 0, 0), (1000, .iconst 1, 0, 0, 0), (1001, .iadd, 0, 0, 0), (1002, .iaload, 0, 0, 0), (1003, .invokevirtual 111, 108, 2, 1045), (1006, .aload_n 2, 0, 0, 0), (1007, .aload_n 0, 0, 0, 0), (1008, .iload_n 3, 0, 0, 0), (1009, .iconst 1, 0, 0, 0), (1010, .iadd, 0, 0, 0), (1011, .iaload, 0, 0, 0), (1012, .invokevirtual 114, 185, 2, 1626), (1015, .if_icmp .eq 642, 0, 0, 0), (1018, .iconst 0, 0, 0, 0), (1019, .ireturn, 0, 0, 0), (1020, .aload_n 1, 0, 0, 0), (1021, .aload_n 0, 0, 0, 0), (1022, .iload_n 3, 0, 0, 0), (1023, .iconst 1, 0, 0, 0), (1024, .iadd, 0, 0, 0), (1025, .iaload, 0, 0, 0), (1026, .invokevirtual 115, 109, 2, 1049), (1029, .aload_n 2, 0, 0, 0), (1030, .aload_n 0, 0, 0, 0), (1031, .iload_n 3, 0, 0, 0), (1032, .iconst 1, 0, 0, 0), (1033, .iadd, 0, 0, 0), (1034, .iaload, 0, 0, 0), (1035, .invokevirtual 118, 230, 2, 1847), (1038, .if_icmp .eq 619, 0, 0, 0), (1041, .iconst 0, 0, 0, 0), (1042, .ireturn, 0, 0, 0), (1043, .aload_n 1, 0, 0, 0), (1044, .aload_n 0, 0, 0, 0), (1045, .iload_n 3, 0, 0, 0), (1046, .iconst 1, 0, 0, 0), (1047, .iadd, 0, 0, 0), (1048, .iaload, 0, 0, 0), (1049, .invokevirtual 119, 110, 2, 1061), (1052, .aload_n 2, 0, 0, 0), (1053, .aload_n 0, 0, 0, 0), (1054, .iload_n 3, 0, 0, 0), (1055, .iconst 1, 0, 0, 0), (1056, .iadd, 0, 0, 0), (1057, .iaload, 0, 0, 0), (1058, .invokevirtual 122, 231, 2, 1851), (1061, .if_icmp .eq 596, 0, 0, 0), (1064, .iconst 0, 0, 0, 0), (1065, .ireturn, 0, 0, 0), (1066, .aload_n 1, 0, 0, 0), (1067, .aload_n 0, 0, 0, 0), (1068, .iload_n 3, 0, 0, 0), (1069, .iconst 1, 0, 0, 0), (1070, .iadd, 0, 0, 0), (1071, .iaload, 0, 0, 0), (1072, .aload_n 0, 0, 0, 0), (1073, .iload_n 3, 0, 0, 0), (1074, .iconst 2, 0, 0, 0), (1075, .iadd, 0, 0, 0), (1076, .iaload, 0, 0, 0), (1077, .aload_n 0, 0, 0, 0), (1078, .iload_n 3, 0, 0, 0), (1079, .iconst 3, 0, 0, 0), (1080, .iadd, 0, 0, 0), (1081, .iaload, 0, 0, 0), (1082, .invokevirtual 123, 111, 4, 1065), (1085, .aload_n 2, 0, 0, 0), (1086, .aload_n 0, 0, 0, 0), (1087, .iload_n 3, 0, 0, 0), (1088, .iconst 1, 0, 0, 0), (1089, .iadd, 0, 0, 0), (1090, .iaload, 0, 0, 0), (1091, .aload_n 0, 0, 0, 0), (1092, .iload_n 3, 0, 0, 0), (1093, .iconst 2, 0, 0, 0), (1094, .iadd, 0, 0, 0), (1095, .iaload, 0, 0, 0), (1096, .aload_n 0, 0, 0, 0), (1097, .iload_n 3, 0, 0, 0), (1098, .iconst 3, 0, 0, 0), (1099, .iadd, 0, 0, 0), (1100, .iaload, 0, 0, 0), (1101, .invokevirtual 127, 232, 4, 1855), (1104, .if_icmp .eq 553, 0, 0, 0), (1107, .iconst 0, 0, 0, 0), (1108, .ireturn, 0, 0, 0), (1109, .aload_n 1, 0, 0, 0), (1110, .aload_n 0, 0, 0, 0), (1111, .iload_n 3, 0, 0, 0), (1112, .iconst 1, 0, 0, 0), (1113, .iadd, 0, 0, 0), (1114, .iaload, 0, 0, 0), (1115, .aload_n 0, 0, 0, 0), (1116, .iload_n 3, 0, 0, 0), (1117, .iconst 2, 0, 0, 0), (1118, .iadd, 0, 0, 0), (1119, .iaload, 0, 0, 0), (1120, .aload_n 0, 0, 0, 0), (1121, .iload_n 3, 0, 0, 0), (1122, .iconst 3, 0, 0, 0), (1123, .iadd, 0, 0, 0), (1124, .iaload, 0, 0, 0), (1125, .invokevirtual 128, 112, 4, 1073), (1128, .aload_n 2, 0, 0, 0), (1129, .aload_n 0, 0, 0, 0), (1130, .iload_n 3, 0, 0, 0), (1131, .iconst 1, 0, 0, 0), (1132, .iadd, 0, 0, 0), (1133, .iaload, 0, 0, 0), (1134, .aload_n 0, 0, 0, 0), (1135, .iload_n 3, 0, 0, 0), (1136, .iconst 2, 0, 0, 0), (1137, .iadd, 0, 0, 0), (1138, .iaload, 0, 0, 0), (1139, .aload_n 0, 0, 0, 0), (1140, .iload_n 3, 0, 0, 0), (1141, .iconst 3, 0, 0, 0), (1142, .iadd, 0, 0, 0), (1143, .iaload, 0, 0, 0), (1144, .invokevirtual 131, 236, 4, 1860), (1147, .if_icmp .eq 510, 0, 0, 0), (1150, .iconst 0, 0, 0, 0), (1151, .ireturn, 0, 0, 0), (1152, .aload_n 1, 0, 0, 0), (1153, .aload_n 0, 0, 0, 0), (1154, .iload_n 3, 0, 0, 0), (1155, .iconst 1, 0, 0, 0), (1156, .iadd, 0, 0, 0), (1157, .iaload, 0, 0, 0), (1158, .aload_n 0, 0, 0, 0), (1159, .iload_n 3, 0, 0, 0), (1160, .iconst 2, 0, 0, 0), (1161, .iadd, 0, 0, 0), (1162, .iaload, 0, 0, 0), (1163, .aload_n 0, 0, 0, 0), (1164, .iload_n 3, 0, 0, 0), (1165, .iconst 3, 0, 0, 0), (1166, .iadd, 0, 0, 0), (1167, .iaload, 0, 0, 0), (1168, .invokevirtual 132, 113, 4, 1102), (1171, .aload_n 2, 0, 0, 0), (1172, .aload_n 0, 0, 0, 0), (1173, .iload_n 3, 0, 0, 0), (1174, .iconst 1, 0, 0, 0), (1175, .iadd, 0, 0, 0), (1176, .iaload, 0, 0, 0), (1177, .aload_n 0, 0, 0, 0), (1178, .iload_n 3, 0, 0, 0), (1179, .iconst 2, 0, 0, 0), (1180, .iadd, 0, 0, 0), (1181, .iaload, 0, 0, 0), (1182, .aload_n 0, 0, 0, 0), (1183, .iload_n 3, 0, 0, 0), (1184, .iconst 3, 0, 0, 0), (1185, .iadd, 0, 0, 0), (1186, .iaload, 0, 0, 0), (1187, .invokevirtual 135, 238, 4, 1877), (1190, .if_icmp .eq 467, 0, 0, 0), (1193, .iconst 0, 0, 0, 0), (1194, .ireturn, 0, 0, 0), (1195, .aload_n 1, 0, 0, 0), (1196, .aload_n 0, 0, 0, 0), (1197, .iload_n 3, 0, 0, 0), (1198, .iconst 1, 0, 0, 0), (1199, .iadd, 0, 0, 0), (1200, .iaload, 0, 0, 0), (1201, .aload_n 0, 0, 0, 0), (1202, .iload_n 3, 0, 0, 0), (1203, .iconst 2, 0, 0, 0), (1204, .iadd, 0, 0, 0), (1205, .iaload, 0, 0, 0), (1206, .aload_n 0, 0, 0, 0), (1207, .iload_n 3, 0, 0, 0), (1208, .iconst 3, 0, 0, 0), (1209, .iadd, 0, 0, 0), (1210, .iaload, 0, 0, 0), (1211, .aload_n 0, 0, 0, 0), (1212, .iload_n 3, 0, 0, 0), (1213, .iconst 4, 0, 0, 0), (1214, .iadd, 0, 0, 0), (1215, .iaload, 0, 0, 0), (1216, .invokevirtual 136, 114, 5, 1119), (1219, .aload_n 2, 0, 0, 0), (1220, .aload_n 0, 0, 0, 0), (1221, .iload_n 3, 0, 0, 0), (1222, .iconst 1, 0, 0, 0), (1223, .iadd, 0, 0, 0), (1224, .iaload, 0, 0, 0), (1225, .aload_n 0, 0, 0, 0), (1226, .iload_n 3, 0, 0, 0), (1227, .iconst 2, 0, 0, 0), (1228, .iadd, 0, 0, 0), (1229, .iaload, 0, 0, 0), (1230, .aload_n 0, 0, 0, 0), (1231, .iload_n 3, 0, 0, 0), (1232, .iconst 3, 0, 0, 0), (1233, .iadd, 0, 0, 0), (1234, .iaload, 0, 0, 0), (1235, .aload_n 0, 0, 0, 0), (1236, .iload_n 3, 0, 0, 0), (1237, .iconst 4, 0, 0, 0), (1238, .iadd, 0, 0, 0), (1239, .iaload, 0, 0, 0), (1240, .invokevirtual 139, 239, 5, 1885), (1243, .if_icmp .eq 414, 0, 0, 0), (1246, .iconst 0, 0, 0, 0), (1247, .ireturn, 0, 0, 0), (1248, .aload_n 1, 0, 0, 0), (1249, .aload_n 0, 0, 0, 0), (1250, .iload_n 3, 0, 0, 0), (1251, .iconst 1, 0, 0, 0), (1252, .iadd, 0, 0, 0), (1253, .iaload, 0, 0, 0), (1254, .aload_n 0, 0, 0, 0), (1255, .iload_n 3, 0, 0, 0), (1256, .iconst 2, 0, 0, 0), (1257, .iadd, 0, 0, 0), (1258, .iaload, 0, 0, 0), (1259, .aload_n 0, 0, 0, 0), (1260, .iload_n 3, 0, 0, 0), (1261, .iconst 3, 0, 0, 0), (1262, .iadd, 0, 0, 0), (1263, .iaload, 0, 0, 0), (1264, .invokevirtual 140, 115, 4, 1127), (1267, .aload_n 2, 0, 0, 0), (1268, .aload_n 0, 0, 0, 0), (1269, .iload_n 3, 0, 0, 0), (1270, .iconst 1, 0, 0, 0), (1271, .iadd, 0, 0, 0), (1272, .iaload, 0, 0, 0), (1273, .aload_n 0, 0, 0, 0), (1274, .iload_n 3, 0, 0, 0), (1275, .iconst 2, 0, 0, 0), (1276, .iadd, 0, 0, 0), (1277, .iaload, 0, 0, 0), (1278, .aload_n 0, 0, 0, 0), (1279, .iload_n 3, 0, 0, 0), (1280, .iconst 3, 0, 0, 0), (1281, .iadd, 0, 0, 0), (1282, .iaload, 0, 0, 0), (1283, .invokevirtual 143, 240, 4, 1890), (1286, .if_icmp .eq 371, 0, 0, 0), (1289, .iconst 0, 0, 0, 0), (1290, .ireturn, 0, 0, 0), (1291, .aload_n 1, 0, 0, 0), (1292, .aload_n 0, 0, 0, 0), (1293, .iload_n 3, 0, 0, 0), (1294, .iconst 1, 0, 0, 0), (1295, .iadd, 0, 0, 0), (1296, .iaload, 0, 0, 0), (1297, .aload_n 0, 0, 0, 0), (1298, .iload_n 3, 0, 0, 0), (1299, .iconst 2, 0, 0, 0), (1300, .iadd, 0, 0, 0), (1301, .iaload, 0, 0, 0), (1302, .invokevirtual 144, 116, 3, 1132), (1305, .aload_n 2, 0, 0, 0), (1306, .aload_n 0, 0, 0, 0), (1307, .iload_n 3, 0, 0, 0), (1308, .iconst 1, 0, 0, 0), (1309, .iadd, 0, 0, 0), (1310, .iaload, 0, 0, 0), (1311, .aload_n 0, 0, 0, 0), (1312, .iload_n 3, 0, 0, 0), (1313, .iconst 2, 0, 0, 0), (1314, .iadd, 0, 0, 0), (1315, .iaload, 0, 0, 0), (1316, .invokevirtual 147, 241, 3, 1895), (1319, .if_icmp .eq 338, 0, 0, 0), (1322, .iconst 0, 0, 0, 0), (1323, .ireturn, 0, 0, 0), (1324, .aload_n 1, 0, 0, 0), (1325, .aload_n 0, 0, 0, 0), (1326, .iload_n 3, 0, 0, 0), (1327, .iconst 1, 0, 0, 0), (1328, .iadd, 0, 0, 0), (1329, .iaload, 0, 0, 0), (1330, .aload_n 0, 0, 0, 0), (1331, .iload_n 3, 0, 0, 0), (1332, .iconst 2, 0, 0, 0), (1333, .iadd, 0, 0, 0), (1334, .iaload, 0, 0, 0), (1335, .invokevirtual 148, 117, 3, 1140), (1338, .aload_n 2, 0, 0, 0), (1339, .aload_n 0, 0, 0, 0), (1340, .iload_n 3, 0, 0, 0), (1341, .iconst 1, 0, 0, 0), (1342, .iadd, 0, 0, 0), (1343, .iaload, 0, 0, 0), (1344, .aload_n 0, 0, 0, 0), (1345, .iload_n 3, 0, 0, 0), (1346, .iconst 2, 0, 0, 0), (1347, .iadd, 0, 0, 0), (1348, .iaload, 0, 0, 0), (1349, .invokevirtual 151, 242, 3, 1899), (1352, .if_icmp .eq 305, 0, 0, 0), (1355, .iconst 0, 0, 0, 0), (1356, .ireturn, 0, 0, 0), (1357, .aload_n 1, 0, 0, 0), (1358, .aload_n 0, 0, 0, 0), (1359, .iload_n 3, 0, 0, 0), (1360, .iconst 1, 0, 0, 0), (1361, .iadd, 0, 0, 0), (1362, .iaload, 0, 0, 0), (1363, .aload_n 0, 0, 0, 0), (1364, .iload_n 3, 0, 0, 0), (1365, .iconst 2, 0, 0, 0), (1366, .iadd, 0, 0, 0), (1367, .iaload, 0, 0, 0), (1368, .invokevirtual 152, 118, 3, 1148), (1371, .aload_n 2, 0, 0, 0), (1372, .aload_n 0, 0, 0, 0), (1373, .iload_n 3, 0, 0, 0), (1374, .iconst 1, 0, 0, 0), (1375, .iadd, 0, 0, 0), (1376, .iaload, 0, 0, 0), (1377, .aload_n 0, 0, 0, 0), (1378, .iload_n 3, 0, 0, 0), (1379, .iconst 2, 0, 0, 0), (1380, .iadd, 0, 0, 0), (1381, .iaload, 0, 0, 0), (1382, .invokevirtual 155, 244, 3, 1903), (1385, .if_icmp .eq 272, 0, 0, 0), (1388, .iconst 0, 0, 0, 0), (1389, .ireturn, 0, 0, 0), (1390, .aload_n 1, 0, 0, 0), (1391, .aload_n 0, 0, 0, 0), (1392, .iload_n 3, 0, 0, 0), (1393, .iconst 1, 0, 0, 0), (1394, .iadd, 0, 0, 0), (1395, .iaload, 0, 0, 0), (1396, .aload_n 0, 0, 0, 0), (1397, .iload_n 3, 0, 0, 0), (1398, .iconst 2, 0, 0, 0), (1399, .iadd, 0, 0, 0), (1400, .iaload, 0, 0, 0), (1401, .aload_n 0, 0, 0, 0), (1402, .iload_n 3, 0, 0, 0), (1403, .iconst 3, 0, 0, 0), (1404, .iadd, 0, 0, 0), (1405, .iaload, 0, 0, 0), (1406, .invokevirtual 156, 121, 4, 1160), (1409, .aload_n 2, 0, 0, 0), (1410, .aload_n 0, 0, 0, 0), (1411, .iload_n 3, 0, 0, 0), (1412, .iconst 1, 0, 0, 0), (1413, .iadd, 0, 0, 0), (1414, .iaload, 0, 0, 0), (1415, .aload_n 0, 0, 0, 0), (1416, .iload_n 3, 0, 0, 0), (1417, .iconst 2, 0, 0, 0), (1418, .iadd, 0, 0, 0), (1419, .iaload, 0, 0, 0), (1420, .aload_n 0, 0, 0, 0), (1421, .iload_n 3, 0, 0, 0), (1422, .iconst 3, 0, 0, 0), (1423, .iadd, 0, 0, 0), (1424, .iaload, 0, 0, 0), (1425, .invokevirtual 159, 245, 4, 1911), (1428, .if_icmp .eq 229, 0, 0, 0), (1431, .iconst 0, 0, 0, 0), (1432, .ireturn, 0, 0, 0), (1433, .aload_n 1, 0, 0, 0), (1434, .aload_n 0, 0, 0, 0), (1435, .iload_n 3, 0, 0, 0), (1436, .iconst 1, 0, 0, 0), (1437, .iadd, 0, 0, 0), (1438, .iaload, 0, 0, 0), (1439, .aload_n 0, 0, 0, 0), (1440, .iload_n 3, 0, 0, 0), (1441, .iconst 2, 0, 0, 0), (1442, .iadd, 0, 0, 0), (1443, .iaload, 0, 0, 0), (1444, .aload_n 0, 0, 0, 0), (1445, .iload_n 3, 0, 0, 0), (1446, .iconst 3, 0, 0, 0), (1447, .iadd, 0, 0, 0), (1448, .iaload, 0, 0, 0), (1449, .invokevirtual 160, 123, 4, 1170), (1452, .aload_n 2, 0, 0, 0), (1453, .aload_n 0, 0, 0, 0), (1454, .iload_n 3, 0, 0, 0), (1455, .iconst 1, 0, 0, 0), (1456, .iadd, 0, 0, 0), (1457, .iaload, 0, 0, 0), (1458, .aload_n 0, 0, 0, 0), (1459, .iload_n 3, 0, 0, 0), (1460, .iconst 2, 0, 0, 0), (1461, .iadd, 0, 0, 0), (1462, .iaload, 0, 0, 0), (1463, .aload_n 0, 0, 0, 0), (1464, .iload_n 3, 0, 0, 0), (1465, .iconst 3, 0, 0, 0), (1466, .iadd, 0, 0, 0), (1467, .iaload, 0, 0, 0), (1468, .invokevirtual 163, 247, 4, 1915), (1471, .if_icmp .eq 186, 0, 0, 0), (1474, .iconst 0, 0, 0, 0), (1475, .ireturn, 0, 0, 0), (1476, .aload_n 1, 0, 0, 0), (1477, .aload_n 0, 0, 0, 0), (1478, .iload_n 3, 0, 0, 0), (1479, .iconst 1, 0, 0, 0), (1480, .iadd, 0, 0, 0), (1481, .iaload, 0, 0, 0), (1482, .invokevirtual 164, 124, 2, 1189), (1485, .aload_n 2, 0, 0, 0), (1486, .aload_n 0, 0, 0, 0), (1487, .iload_n 3, 0, 0, 0), (1488, .iconst 1, 0, 0, 0), (1489, .iadd, 0, 0, 0), (1490, .iaload, 0, 0, 0), (1491, .invokevirtual 167, 249, 2, 1924), (1494, .if_icmp .eq 163, 0, 0, 0), (1497, .iconst 0, 0, 0, 0), (1498, .ireturn, 0, 0, 0), (1499, .aload_n 1, 0, 0, 0), (1500, .aload_n 0, 0, 0, 0), (1501, .iload_n 3, 0, 0, 0), (1502, .iconst 1, 0, 0, 0), (1503, .iadd, 0, 0, 0), (1504, .iaload, 0, 0, 0), (1505, .invokevirtual 168, 125, 2, 1199), (1508, .aload_n 2, 0, 0, 0), (1509, .aload_n 0, 0, 0, 0), (1510, .iload_n 3, 0, 0, 0), (1511, .iconst 1, 0, 0, 0), (1512, .iadd, 0, 0, 0), (1513, .iaload, 0, 0, 0), (1514, .invokevirtual 171, 250, 2, 1933), (1517, .if_icmp .eq 140, 0, 0, 0), (1520, .iconst 0, 0, 0, 0), (1521, .ireturn, 0, 0, 0), (1522, .aload_n 1, 0, 0, 0), (1523, .aload_n 0, 0, 0, 0), (1524, .iload_n 3, 0, 0, 0), (1525, .iconst 1, 0, 0, 0), (1526, .iadd, 0, 0, 0), (1527, .iaload, 0, 0, 0), (1528, .aload_n 0, 0, 0, 0), (1529, .iload_n 3, 0, 0, 0), (1530, .iconst 2, 0, 0, 0), (1531, .iadd, 0, 0, 0), (1532, .iaload, 0, 0, 0), (1533, .invokevirtual 172, 126, 3, 1203), (1536, .aload_n 2, 0, 0, 0), (1537, .aload_n 0, 0, 0, 0), (1538, .iload_n 3, 0, 0, 0), (1539, .iconst 1, 0, 0, 0), (1540, .iadd, 0, 0, 0), (1541, .iaload, 0, 0, 0), (1542, .aload_n 0, 0, 0, 0), (1543, .iload_n 3, 0, 0, 0), (1544, .iconst 2, 0, 0, 0), (1545, .iadd, 0, 0, 0), (1546, .iaload, 0, 0, 0), (1547, .invokevirtual 175, 251, 3, 1937), (1550, .if_icmp .eq 107, 0, 0, 0), (1553, .iconst 0, 0, 0, 0), (1554, .ireturn, 0, 0, 0), (1555, .aload_n 1, 0, 0, 0), (1556, .aload_n 0, 0, 0, 0), (1557, .iload_n 3, 0, 0, 0), (1558, .iconst 1, 0, 0, 0), (1559, .iadd, 0, 0, 0), (1560, .iaload, 0, 0, 0), (1561, .aload_n 0, 0, 0, 0), (1562, .iload_n 3, 0, 0, 0), (1563, .iconst 2, 0, 0, 0), (1564, .iadd, 0, 0, 0), (1565, .iaload, 0, 0, 0), (1566, .invokevirtual 176, 127, 3, 1207), (1569, .aload_n 2, 0, 0, 0), (1570, .aload_n 0, 0, 0, 0), (1571, .iload_n 3, 0, 0, 0), (1572, .iconst 1, 0, 0, 0), (1573, .iadd, 0, 0, 0), (1574, .iaload, 0, 0, 0), (1575, .aload_n 0, 0, 0, 0), (1576, .iload_n 3, 0, 0, 0), (1577, .iconst 2, 0, 0, 0), (1578, .iadd, 0, 0, 0), (1579, .iaload, 0, 0, 0), (1580, .invokevirtual 179, 252, 3, 1941), (1583, .if_icmp .eq 74, 0, 0, 0), (1586, .iconst 0, 0, 0, 0), (1587, .ireturn, 0, 0, 0), (1588, .aload_n 1, 0, 0, 0), (1589, .aload_n 0, 0, 0, 0), (1590, .iload_n 3, 0, 0, 0), (1591, .iconst 1, 0, 0, 0), (1592, .iadd, 0, 0, 0), (1593, .iaload, 0, 0, 0), (1594, .invokevirtual 180, 129, 2, 1216), (1597, .aload_n 2, 0, 0, 0), (1598, .aload_n 0, 0, 0, 0), (1599, .iload_n 3, 0, 0, 0), (1600, .iconst 1, 0, 0, 0), (1601, .iadd, 0, 0, 0), (1602, .iaload, 0, 0, 0), (1603, .invokevirtual 183, 253, 2, 1945), (1606, .if_icmp .eq 51, 0, 0, 0), (1609, .iconst 0, 0, 0, 0), (1610, .ireturn, 0, 0, 0), (1611, .aload_n 1, 0, 0, 0), (1612, .aload_n 0, 0, 0, 0), (1613, .iload_n 3, 0, 0, 0), (1614, .iconst 1, 0, 0, 0), (1615, .iadd, 0, 0, 0), (1616, .iaload, 0, 0, 0), (1617, .invokevirtual 184, 130, 2, 1220), (1620, .aload_n 2, 0, 0, 0), (1621, .aload_n 0, 0, 0, 0), (1622, .iload_n 3, 0, 0, 0), (1623, .iconst 1, 0, 0, 0), (1624, .iadd, 0, 0, 0), (1625, .iaload, 0, 0, 0), (1626, .invokevirtual 187, 228, 2, 1831), (1629, .if_icmp .eq 28, 0, 0, 0), (1632, .iconst 0, 0, 0, 0), (1633, .ireturn, 0, 0, 0), (1634, .aload_n 1, 0, 0, 0), (1635, .aload_n 0, 0, 0, 0), (1636, .iload_n 3, 0, 0, 0), (1637, .iconst 1, 0, 0, 0), (1638, .iadd, 0, 0, 0), (1639, .iaload, 0, 0, 0), (1640, .invokevirtual 188, 131, 2, 1248), (1643, .aload_n 2, 0, 0, 0), (1644, .aload_n 0, 0, 0, 0), (1645, .iload_n 3, 0, 0, 0), (1646, .iconst 1, 0, 0, 0), (1647, .iadd, 0, 0, 0), (1648, .iaload, 0, 0, 0), (1649, .invokevirtual 191, 229, 2, 1843), (1652, .if_icmp .eq 5, 0, 0, 0), (1655, .iconst 0, 0, 0, 0), (1656, .ireturn, 0, 0, 0), (1657, .iinc 3 7, 0, 0, 0), (1660, .goto (-1642), 0, 0, 0), (1663, .iconst 1, 0, 0, 0), (1664, .ireturn, 0, 0, 0)]
def am_cd : List (List am_E) := [cd_0, cd_1, cd_2, cd_3, cd_4, cd_5, cd_6, cd_7, cd_8, cd_9, cd_10, cd_11, cd_12, cd_13, cd_14, cd_15, cd_16, cd_17, cd_18, cd_19, cd_20, cd_21, cd_22, cd_23, cd_24, cd_25, cd_26, cd_27, cd_28, cd_29, cd_30, cd_31, cd_32, cd_33, cd_34, cd_35, cd_36, cd_37, cd_38, cd_39, cd_40, cd_41, cd_42, cd_43, cd_44, cd_45, cd_46, cd_47, cd_48, cd_49, cd_50, cd_51, cd_52, cd_53, cd_54, cd_55, cd_56, cd_57, cd_58, cd_59, cd_60, cd_61, cd_62, cd_63, cd_64, cd_65, cd_66, cd_67, cd_68, cd_69, cd_70, cd_71, cd_72, cd_73, cd_74, cd_75, cd_76, cd_77, cd_78, cd_79, cd_80, cd_81, cd_82, cd_83, cd_84, cd_85, cd_86, cd_87, cd_88, cd_89, cd_90, cd_91, cd_92, cd_93, cd_94, cd_95, cd_96, cd_97, cd_98, cd_99, cd_100, cd_101, cd_102, cd_103, cd_104, cd_105, cd_106, cd_107, cd_108, cd_109, cd_110, cd_111, cd_112, cd_113, cd_114, cd_115, cd_116, cd_117, cd_118, cd_119, cd_120, cd_121, cd_122, cd_123, cd_124, cd_125, cd_126, cd_127, cd_128, cd_129, cd_130, cd_131, cd_132, cd_133, cd_134, cd_135, cd_136, cd_137, cd_138, cd_139, cd_140, cd_141, cd_142, cd_143, cd_144, cd_145, cd_146, cd_147, cd_148, cd_149, cd_150, cd_151, cd_152, cd_153, cd_154, cd_155, cd_156, cd_157, cd_158, cd_159, cd_160, cd_161, cd_162, cd_163, cd_164, cd_165, cd_166, cd_167, cd_168, cd_169, cd_170, cd_171, cd_172, cd_173, cd_174, cd_175, cd_176, cd_177, cd_178, cd_179, cd_180, cd_181, cd_182, cd_183, cd_184, cd_185, cd_186, cd_187, cd_188, cd_189, cd_190, cd_191, cd_192, cd_193, cd_194, cd_195, cd_196, cd_197, cd_198, cd_199, cd_200, cd_201, cd_202, cd_203, cd_204, cd_205, cd_206, cd_207, cd_208, cd_209, cd_210, cd_211, cd_212, cd_213, cd_214, cd_215, cd_216, cd_217, cd_218, cd_219, cd_220, cd_221, cd_222, cd_223, cd_224, cd_225, cd_226, cd_227, cd_228, cd_229, cd_230, cd_231, cd_232, cd_233, cd_234, cd_235, cd_236, cd_237, cd_238, cd_239, cd_240, cd_241, cd_242, cd_243, cd_244, cd_245, cd_246, cd_247, cd_248, cd_249, cd_250, cd_251, cd_252, cd_253, cd_254, cd_255, cd_256, cd_257, cd_258, cd_259, cd_260, cd_261, cd_262, cd_263, cd_264]
end
section
/-! ===== THE SMALL MACHINE (am_): memory as functions, methods by number; run by fuel and depth. Part 04 and on: what it does, the real machine does. ===== -/
abbrev am_L : Type := Nat ⊕ (Nat × Nat)
abbrev am_Rl : Type := List ((Nat × Nat) × Nat)
abbrev am_M : Type := List am_L × (Nat → Nat → Int32) × (Nat → Nat → Int64) × am_Rl × (Nat → Option Nat)
abbrev am_Lo : Type := List (Nat × Value)
def am_row (k : Nat) : am_R := am_mt.getD k ((⟨"", "", ""⟩, ⟨#[]⟩), (0, none), (0, 0, 0), (0, 0, 0, 0))
def am_y (k : Nat) : MethodName := (am_row k).1.1
def am_by (k : Nat) : ByteArray := if k = 264 then code else match lw_tbl[(am_row k).2.2.2.1]? with
  | some (.code _ b _ _) => b
  | _ => ⟨#[]⟩
def am_ml (k : Nat) : Nat := (am_row k).2.1.1
def am_rt (k : Nat) : Option FieldType := (am_row k).2.1.2
def am_np (k : Nat) : Nat := (am_row k).2.2.1.1
def am_kd (k : Nat) : Nat := (am_row k).2.2.1.2.1
def am_rc (k : Nat) : Nat := (am_row k).2.2.1.2.2
def am_ty (c j : Nat) : FieldType := (am_tyL.getD c []).getD j .int
def am_nf (c : Nat) : Nat := (am_tyL.getD c []).length
def am_sin (j : Nat) : Int32 := am_sinL.getD j 0
def am_at (k pc : Nat) : Option (Instr × Nat × Nat × Nat) := ((am_cd.getD k []).find? (fun q => q.1 == pc)).map (fun q => q.2)
def am_sI (I : Nat → Nat → Int32) (a : Nat) (f : Nat → Int32) : Nat → Nat → Int32 := fun b => if b = a then f else I b
def am_sL (I : Nat → Nat → Int64) (a : Nat) (f : Nat → Int64) : Nat → Nat → Int64 := fun b => if b = a then f else I b
/-- the references: a list of places and what they hold; but for one field (class 0, place 0), which is held apart -/
def am_rl (R : am_Rl) (a j : Nat) : Option Nat := (R.find? (fun q => q.1.1 == a && q.1.2 == j)).map (fun q => q.2)
def am_rf (M : am_M) (c a j : Nat) : Option Nat := if c = 0 ∧ j = 0 then M.2.2.2.2 a else am_rl M.2.2.2.1 a j
/-- the memory with ints, longs, references of one cell anew -/
def am_uI (M : am_M) (a : Nat) (f : Nat → Int32) : am_M := (M.1, am_sI M.2.1 a f, M.2.2.1, M.2.2.2)
def am_uL (M : am_M) (a : Nat) (f : Nat → Int64) : am_M := (M.1, M.2.1, am_sL M.2.2.1 a f, M.2.2.2)
def am_uR (M : am_M) (a j b : Nat) : am_M := (M.1, M.2.1, M.2.2.1, ((a, j), b) :: M.2.2.2.1, M.2.2.2.2)
def am_uA (M : am_M) (a b : Nat) : am_M := (M.1, M.2.1, M.2.2.1, M.2.2.2.1, fun x => if x = a then some b else M.2.2.2.2 x)
/-- one cell more, all of it 0 -/
def am_new (M : am_M) (x : am_L) : am_M := (M.1 ++ [x], am_sI M.2.1 M.1.length (fun _ => 0), am_sL M.2.2.1 M.1.length (fun _ => 0), M.2.2.2.1.filter (fun q => !(q.1.1 == M.1.length)), fun y => if y = M.1.length then none else M.2.2.2.2 y)
/-- a field's value -/
def am_gv (M : am_M) (c a j : Nat) : Value := match am_ty c j with
  | .long => .long (M.2.2.1 a j)
  | .object _ => va_rf (am_rf M c a j)
  | .array _ => va_rf (am_rf M c a j)
  | _ => .int (M.2.1 a j)
/-- a field's value set -/
def am_sv (M : am_M) (c a j : Nat) (v : Value) : Option am_M := match am_ty c j, v with
  | .long, .long x => some (am_uL M a (vp_updL (M.2.2.1 a) j x))
  | .object _, .ref b => some (if c = 0 ∧ j = 0 then am_uA M a b else am_uR M a j b)
  | .array _, .ref b => some (if c = 0 ∧ j = 0 then am_uA M a b else am_uR M a j b)
  | .int, .int x => some (am_uI M a (upd (M.2.1 a) j x))
  | .boolean, .int x => if x = 0 ∨ x = 1 then some (am_uI M a (upd (M.2.1 a) j x)) else none
  | _, _ => none
def am_len (ins : Instr) (a1 : Nat) : Nat := match ins with
  | .aload _ | .iload _ | .lload _ | .istore _ | .lstore _ | .astore _ | .bipush _ | .ldc _ | .newarray _ => 2
  | .sipush _ | .ldc_w _ | .ldc2_w _ | .iinc _ _ | .getfield _ | .putfield _ | .getstatic _ | .invokevirtual _ | .invokestatic _ | .invokespecial _ | .new _ | .anewarray _ | .goto _ | .ifCond _ _ | .if_icmp _ _ => 3
  | .tableswitch _ _ _ _ => a1
  | .lookupswitch _ _ => a1
  | _ => 1
/-- what works on the operand stack alone -/
def am_p (ins : Instr) (a1 a2 : Nat) (st : List Value) : Option (List Value) := match ins, st with
  | .iconst n, st => some (.int (Int32.ofInt n) :: st)
  | .bipush n, st => some (.int (Int8.ofInt n).toInt32 :: st)
  | .sipush n, st => some (.int (Int16.ofInt n).toInt32 :: st)
  | .lconst n, st => some (.long (Int64.ofNat n.val) :: st)
  | .ldc _, st => if a1 = 0 then some (.int (Int32.ofNat a2) :: st) else if a1 = 1 then some (.float (UInt32.ofNat a2) :: st) else none
  | .ldc_w _, st => if a1 = 0 then some (.int (Int32.ofNat a2) :: st) else if a1 = 1 then some (.float (UInt32.ofNat a2) :: st) else none
  | .ldc2_w _, st => some (.long (Int64.ofNat a2) :: st)
  | .iadd, .int y :: .int x :: st => some (.int (x + y) :: st)
  | .isub, .int y :: .int x :: st => some (.int (x - y) :: st)
  | .imul, .int y :: .int x :: st => some (.int (x * y) :: st)
  | .iand, .int y :: .int x :: st => some (.int (x &&& y) :: st)
  | .ior, .int y :: .int x :: st => some (.int (x ||| y) :: st)
  | .ishl, .int y :: .int x :: st => some (.int (x <<< (y &&& 31)) :: st)
  | .ishr, .int y :: .int x :: st => some (.int (x >>> (y &&& 31)) :: st)
  | .iushr, .int y :: .int x :: st => some (.int (x.toUInt32 >>> (y.toUInt32 &&& Int32.toUInt32 31)).toInt32 :: st)
  | .idiv, .int y :: .int x :: st => if y = 0 then none else some (.int (x / y) :: st)
  | .irem, .int y :: .int x :: st => if y = 0 then none else some (.int (x - x / y * y) :: st)
  | .ineg, .int x :: st => some (.int (-x) :: st)
  | .ladd, .long y :: .long x :: st => some (.long (x + y) :: st)
  | .lsub, .long y :: .long x :: st => some (.long (x - y) :: st)
  | .lmul, .long y :: .long x :: st => some (.long (x * y) :: st)
  | .land, .long y :: .long x :: st => some (.long (x &&& y) :: st)
  | .lor, .long y :: .long x :: st => some (.long (x ||| y) :: st)
  | .lshl, .int y :: .long x :: st => some (.long (x <<< (y.toInt64 &&& 63)) :: st)
  | .lshr, .int y :: .long x :: st => some (.long (x >>> (y.toInt64 &&& 63)) :: st)
  | .ldiv, .long y :: .long x :: st => if y = 0 then none else some (.long (x / y) :: st)
  | .lrem, .long y :: .long x :: st => if y = 0 then none else some (.long (x - x / y * y) :: st)
  | .lneg, .long x :: st => some (.long (-x) :: st)
  | .lcmp, .long y :: .long x :: st => some (.int (lg_cmp x y) :: st)
  | .i2l, .int x :: st => some (.long x.toInt64 :: st)
  | .l2i, .long x :: st => some (.int x.toInt32 :: st)
  | .i2b, .int x :: st => some (.int x.toInt8.toInt32 :: st)
  | .i2c, .int x :: st => some (.int (x.toUInt32 % 65536).toInt32 :: st)
  | .pop, v :: st => if v.category = 1 then some st else none
  | .dup, v :: st => if v.category = 1 then some (v :: v :: st) else none
  | .dup2, v :: w :: st => if v.category = 1 ∧ w.category = 1 then some (v :: w :: v :: w :: st) else none
  | _, _ => none
def am_lk (lo : am_Lo) (i : Nat) : Option Value := (lo.find? (fun q => q.1 == i)).map (fun q => q.2)
def am_s1 (lo : am_Lo) (i : Nat) (v : Value) : am_Lo := (i, v) :: lo.filter (fun q => !(q.1 == i) && !(q.1 + 1 == i && q.2.category == 2))
def am_s2 (lo : am_Lo) (i : Nat) (v : Value) : am_Lo := (i, v) :: lo.filter (fun q => !(q.1 == i) && (!(q.1 == i + 1) && !(q.1 + 1 == i && q.2.category == 2)))
def am_ldI (lo : am_Lo) (i : Nat) (st : List Value) : Option (am_Lo × List Value) := match am_lk lo i with
  | some (.int x) => some (lo, .int x :: st)
  | _ => none
def am_ldL (lo : am_Lo) (i : Nat) (st : List Value) : Option (am_Lo × List Value) := match am_lk lo i with
  | some (.long x) => some (lo, .long x :: st)
  | _ => none
def am_ldA (lo : am_Lo) (i : Nat) (st : List Value) : Option (am_Lo × List Value) := match am_lk lo i with
  | some (.ref a) => some (lo, .ref a :: st)
  | some (.float u) => some (lo, .float u :: st)
  | _ => none
def am_stI (ml : Nat) (lo : am_Lo) (i : Nat) (st : List Value) : Option (am_Lo × List Value) := match st with
  | .int x :: st => if i < ml then some (am_s1 lo i (.int x), st) else none
  | _ => none
def am_stL (ml : Nat) (lo : am_Lo) (i : Nat) (st : List Value) : Option (am_Lo × List Value) := match st with
  | .long x :: st => if i + 1 < ml then some (am_s2 lo i (.long x), st) else none
  | _ => none
def am_stA (ml : Nat) (lo : am_Lo) (i : Nat) (st : List Value) : Option (am_Lo × List Value) := match st with
  | .ref x :: st => if i < ml then some (am_s1 lo i (.ref x), st) else none
  | _ => none
/-- loads and stores of locals -/
def am_l (ml : Nat) (ins : Instr) (lo : am_Lo) (st : List Value) : Option (am_Lo × List Value) := match ins with
  | .iload i => am_ldI lo i st
  | .iload_n i => am_ldI lo i.val st
  | .lload i => am_ldL lo i st
  | .lload_n i => am_ldL lo i.val st
  | .aload i => am_ldA lo i st
  | .aload_n i => am_ldA lo i.val st
  | .istore i => am_stI ml lo i st
  | .istore_n i => am_stI ml lo i.val st
  | .lstore i => am_stL ml lo i st
  | .lstore_n i => am_stL ml lo i.val st
  | .astore i => am_stA ml lo i st
  | .astore_n i => am_stA ml lo i.val st
  | .iinc i n => match am_lk lo i with
    | some (.int x) => if i < ml then some (am_s1 lo i (.int (x + Int32.ofInt n)), st) else none
    | _ => none
  | _ => none
def am_j (pc : Nat) (off : Int) (st : List Value) : Option (Nat × List Value) := if 0 ≤ (pc : Int) + off then some (((pc : Int) + off).toNat, st) else none
def am_cj (b : Bool) (pc : Nat) (off : Int) (st : List Value) : Option (Nat × List Value) := if 0 ≤ (pc : Int) + off then some (if b = true then ((pc : Int) + off).toNat else pc + 3, st) else none
/-- jumps -/
def am_b (ins : Instr) (pc : Nat) (st : List Value) : Option (Nat × List Value) := match ins, st with
  | .goto off, st => am_j pc off st
  | .ifCond .eq off, .int x :: st => am_cj (decide (x = 0)) pc off st
  | .ifCond .ne off, .int x :: st => am_cj (decide (¬ x = 0)) pc off st
  | .ifCond .lt off, .int x :: st => am_cj (decide (x < 0)) pc off st
  | .ifCond .ge off, .int x :: st => am_cj (decide (0 ≤ x)) pc off st
  | .ifCond .gt off, .int x :: st => am_cj (decide (0 < x)) pc off st
  | .ifCond .le off, .int x :: st => am_cj (decide (x ≤ 0)) pc off st
  | .if_icmp .eq off, .int y :: .int x :: st => am_cj (decide (x = y)) pc off st
  | .if_icmp .ne off, .int y :: .int x :: st => am_cj (decide (¬ x = y)) pc off st
  | .if_icmp .lt off, .int y :: .int x :: st => am_cj (decide (x < y)) pc off st
  | .if_icmp .ge off, .int y :: .int x :: st => am_cj (decide (y ≤ x)) pc off st
  | .if_icmp .gt off, .int y :: .int x :: st => am_cj (decide (y < x)) pc off st
  | .if_icmp .le off, .int y :: .int x :: st => am_cj (decide (x ≤ y)) pc off st
  | .tableswitch dflt lo hi offs, .int x :: st => if x.toInt < lo ∨ hi < x.toInt then am_j pc dflt st else match offs[(x.toInt - lo).toNat]? with
    | some off => am_j pc off st
    | none => none
  | .lookupswitch dflt ps, .int x :: st => if (ps.toList.zip (ps.toList.drop 1)).all (fun (a, next) => a.1 < next.1) = true then am_j pc (Op.lookupswitch.offset ps.toList dflt x.toInt) st else none
  | _, _ => none
/-- arrays that nobody writes: 0 the sines, 2000 the script, 1001 and on the bytes of the texts -/
def am_ext (L : Nat) (xs : Nat → Int32) (h : Nat) : Option (Nat × Nat × (Nat → Int32)) :=
  if h = 0 then some (0, 91, am_sin) else if h = 2000 then some (0, L, xs)
  else if 1001 ≤ h ∧ h < 1029 then some (2, am_slen.getD (h - 1001) 0, fun j => (am_sbyt.getD (h - 1001) []).getD j 0) else none
def am_cat (st : List Value) : Nat := (st.map fun v => v.category).sum
/-- a copy of a row -/
def am_cp (st : List Value) (M : am_M) : Option (List Value × am_M) := match st with
  | .int n :: .int dp :: .ref b :: .int sp :: .ref a :: st => if am_cat st ≤ 8 ∧ ¬ sp < 0 ∧ ¬ dp < 0 ∧ ¬ n < 0 then (match M.1[a]?, M.1[b]? with
    | some (.inr (0, na)), some (.inr (0, nb)) => if sp.toNatClampNeg + n.toNatClampNeg ≤ na ∧ dp.toNatClampNeg + n.toNatClampNeg ≤ nb then some (st, am_uI M b (va_cpy (M.2.1 a) (M.2.1 b) sp.toNatClampNeg dp.toNatClampNeg n.toNatClampNeg)) else none
    | some (.inr (1, na)), some (.inr (1, nb)) => if sp.toNatClampNeg + n.toNatClampNeg ≤ na ∧ dp.toNatClampNeg + n.toNatClampNeg ≤ nb then some (st, am_uL M b (va_cpy (M.2.2.1 a) (M.2.2.1 b) sp.toNatClampNeg dp.toNatClampNeg n.toNatClampNeg)) else none
    | _, _ => none) else none
  | _ => none
def am_mi2 (f : Int32 → Int32 → Int32) (st : List Value) (M : am_M) : Option (List Value × am_M) := match st with
  | .int y :: .int x :: st => if am_cat st ≤ 8 then some (.int (f x y) :: st, M) else none
  | _ => none
def am_mi1 (f : Int32 → Int32) (st : List Value) (M : am_M) : Option (List Value × am_M) := match st with
  | .int x :: st => if am_cat st ≤ 8 then some (.int (f x) :: st, M) else none
  | _ => none
def am_ml2 (f : Int64 → Int64 → Int64) (st : List Value) (M : am_M) : Option (List Value × am_M) := match st with
  | .long y :: .long x :: st => if am_cat st ≤ 8 then some (.long (f x y) :: st, M) else none
  | _ => none
/-- the library's own: copy, max, min, abs -/
def am_is (a1 : Nat) (st : List Value) (M : am_M) : Option (List Value × am_M) :=
  if a1 = 1000 then am_cp st M else if a1 = 1002 then am_mi2 (fun x y => if x < y then y else x) st M else if a1 = 1003 then am_mi2 (fun x y => if y < x then y else x) st M
  else if a1 = 1004 then am_mi1 (fun x => if 0 ≤ x then x else 0 - x) st M else if a1 = 1005 then am_ml2 (fun x y => if y < x then x else y) st M else if a1 = 1006 then am_ml2 (fun x y => if y < x then y else x) st M else none
/-- what reads and writes cells; d: is there room for one frame more -/
def am_m (L : Nat) (xs : Nat → Int32) (d : Nat) (ins : Instr) (a1 a2 : Nat) (st : List Value) (M : am_M) : Option (List Value × am_M) := match ins, st with
  | .getfield _, .ref a :: st => match M.1[a]? with
    | some (.inl c) => if c = a1 ∧ a2 < am_nf a1 then some (am_gv M a1 a a2 :: st, M) else none
    | _ => none
  | .getfield _, .float u :: st => if a1 = 100 ∧ 1 ≤ u.toNat ∧ u.toNat < 29 then (if a2 = 0 then some (.float (UInt32.ofNat (u.toNat + 1000)) :: st, M) else if a2 = 1 then some (.int 0 :: st, M) else none) else none
  | .putfield _, v :: .ref a :: st => match M.1[a]? with
    | some (.inl c) => if c = a1 ∧ a2 < am_nf a1 then (match am_sv M a1 a a2 v with
      | some M1 => some (st, M1)
      | none => none) else none
    | _ => none
  | .getstatic _, st => if a1 = 0 then some (.float 0 :: st, M) else if a1 = 1 then some (.int 1 :: st, M) else if a1 = 2 then some (.float 3000 :: st, M) else none
  | .iaload, .int i :: .ref a :: st => match M.1[a]? with
    | some (.inr (0, n)) => if ¬ (i < 0 ∨ n ≤ i.toNatClampNeg) then some (.int (M.2.1 a i.toNatClampNeg) :: st, M) else none
    | _ => none
  | .iaload, .int i :: .float u :: st => match am_ext L xs u.toNat with
    | some (0, n, f) => if ¬ (i < 0 ∨ n ≤ i.toNatClampNeg) then some (.int (f i.toNatClampNeg) :: st, M) else none
    | _ => none
  | .baload, .int i :: .ref a :: st => match M.1[a]? with
    | some (.inr (2, n)) => if ¬ (i < 0 ∨ n ≤ i.toNatClampNeg) then some (.int (M.2.1 a i.toNatClampNeg) :: st, M) else none
    | some (.inr (3, n)) => if ¬ (i < 0 ∨ n ≤ i.toNatClampNeg) then some (.int (M.2.1 a i.toNatClampNeg) :: st, M) else none
    | _ => none
  | .baload, .int i :: .float u :: st => match am_ext L xs u.toNat with
    | some (2, n, f) => if ¬ (i < 0 ∨ n ≤ i.toNatClampNeg) then some (.int (f i.toNatClampNeg) :: st, M) else none
    | _ => none
  | .laload, .int i :: .ref a :: st => match M.1[a]? with
    | some (.inr (1, n)) => if ¬ (i < 0 ∨ n ≤ i.toNatClampNeg) then some (.long (M.2.2.1 a i.toNatClampNeg) :: st, M) else none
    | _ => none
  | .aaload, .int i :: .ref a :: st => match M.1[a]? with
    | some (.inr (4, n)) => if ¬ (i < 0 ∨ n ≤ i.toNatClampNeg) then some (va_rf (am_rl M.2.2.2.1 a i.toNatClampNeg) :: st, M) else none
    | some (.inr (5, n)) => if ¬ (i < 0 ∨ n ≤ i.toNatClampNeg) then some (va_rf (am_rl M.2.2.2.1 a i.toNatClampNeg) :: st, M) else none
    | _ => none
  | .iastore, .int x :: .int i :: .ref a :: st => match M.1[a]? with
    | some (.inr (0, n)) => if ¬ (i < 0 ∨ n ≤ i.toNatClampNeg) then some (st, am_uI M a (upd (M.2.1 a) i.toNatClampNeg x)) else none
    | _ => none
  | .bastore, .int x :: .int i :: .ref a :: st => match M.1[a]? with
    | some (.inr (2, n)) => if ¬ (i < 0 ∨ n ≤ i.toNatClampNeg) then some (st, am_uI M a (upd (M.2.1 a) i.toNatClampNeg (vp_nar .byte x))) else none
    | some (.inr (3, n)) => if ¬ (i < 0 ∨ n ≤ i.toNatClampNeg) then some (st, am_uI M a (upd (M.2.1 a) i.toNatClampNeg (vp_nar .boolean x))) else none
    | _ => none
  | .lastore, .long x :: .int i :: .ref a :: st => match M.1[a]? with
    | some (.inr (1, n)) => if ¬ (i < 0 ∨ n ≤ i.toNatClampNeg) then some (st, am_uL M a (vp_updL (M.2.2.1 a) i.toNatClampNeg x)) else none
    | _ => none
  | .aastore, .ref b :: .int i :: .ref a :: st => match M.1[a]?, M.1[b]? with
    | some (.inr (4, n)), some (.inl 10) => if ¬ (i < 0 ∨ n ≤ i.toNatClampNeg) then some (st, am_uR M a i.toNatClampNeg b) else none
    | some (.inr (5, n)), some (.inl 7) => if ¬ (i < 0 ∨ n ≤ i.toNatClampNeg) then some (st, am_uR M a i.toNatClampNeg b) else none
    | _, _ => none
  | .arraylength, .ref a :: st => match M.1[a]? with
    | some (.inr (t, n)) => if t < 6 then some (.int (Int32.ofNat n) :: st, M) else none
    | _ => none
  | .arraylength, .float u :: st => match am_ext L xs u.toNat with
    | some (_, n, _) => some (.int (Int32.ofNat n) :: st, M)
    | none => none
  | .new _, st => if a1 < 13 then some (.ref M.1.length :: st, am_new M (.inl a1)) else none
  | .newarray .int, .int n :: st => if ¬ n < 0 ∧ n.toNatClampNeg ≤ 60000 then some (.ref M.1.length :: st, am_new M (.inr (0, n.toNatClampNeg))) else none
  | .newarray .long, .int n :: st => if ¬ n < 0 ∧ n.toNatClampNeg ≤ 60000 then some (.ref M.1.length :: st, am_new M (.inr (1, n.toNatClampNeg))) else none
  | .newarray .byte, .int n :: st => if ¬ n < 0 ∧ n.toNatClampNeg ≤ 60000 then some (.ref M.1.length :: st, am_new M (.inr (2, n.toNatClampNeg))) else none
  | .newarray .boolean, .int n :: st => if ¬ n < 0 ∧ n.toNatClampNeg ≤ 60000 then some (.ref M.1.length :: st, am_new M (.inr (3, n.toNatClampNeg))) else none
  | .anewarray _, .int n :: st => if (a1 = 4 ∨ a1 = 5) ∧ ¬ n < 0 ∧ n.toNatClampNeg ≤ 60000 then some (.ref M.1.length :: st, am_new M (.inr (a1, n.toNatClampNeg))) else none
  | .invokespecial _, .ref _ :: st => if a1 = 1001 ∧ 0 < d ∧ am_cat st ≤ 8 then some (st, M) else none
  | .invokestatic _, st => if 0 < d then am_is a1 st M else none
  | _, _ => none
/-- the ends -/
def am_r (rt : Option FieldType) (ins : Instr) (st : List Value) : Option (Option Value) := match ins, st with
  | .ireturn, [.int v] => match rt with
    | some ty => if narrow ty (.int v) = .int v then some (some (.int v)) else none
    | none => none
  | .lreturn, [.long v] => if rt = some .long then some (some (.long v)) else none
  | .areturn, [.ref a] => match rt with
    | some (.object _) => some (some (.ref a))
    | _ => none
  | .areturn, [.float u] => match rt with
    | some (.object _) => some (some (.float u))
    | _ => none
  | .return_, [] => if rt = none then some none else none
  | _, _ => none
/-- is the first argument an object of the called method's class -/
def am_rec (M : am_M) (j : Nat) (as : List Value) : Bool := match as with
  | .ref b :: _ => decide (M.1[b]? = some (.inl (am_rc j)) ∧ am_rc j < 13)
  | .float u :: _ => decide (am_rc j = 100 ∧ 1 ≤ u.toNat ∧ u.toNat < 29)
  | _ => false
/-- the calls: whom, with what, what is left -/
def am_c (ins : Instr) (a1 a2 : Nat) (st : List Value) (M : am_M) : Option (Nat × List Value × List Value) := match ins with
  | .invokevirtual _ => if a1 < 265 ∧ a2 ≤ st.length ∧ am_cat (st.drop a2) ≤ 8 ∧ am_cat (st.take a2) ≤ am_ml a1 ∧ am_kd a1 = 0 ∧ am_rec M a1 (st.take a2).reverse = true then some (a1, (st.take a2).reverse, st.drop a2) else none
  | .invokestatic _ => if a1 < 265 ∧ a2 ≤ st.length ∧ am_cat (st.drop a2) ≤ 8 ∧ am_cat (st.take a2) ≤ am_ml a1 ∧ am_kd a1 = 1 then some (a1, (st.take a2).reverse, st.drop a2) else none
  | .invokespecial _ => if a1 < 265 ∧ a2 ≤ st.length ∧ am_cat (st.drop a2) ≤ 8 ∧ am_cat (st.take a2) ≤ am_ml a1 ∧ am_kd a1 = 2 ∧ am_rec M a1 (st.take a2).reverse = true then some (a1, (st.take a2).reverse, st.drop a2) else none
  | _ => none
/-- the run: fuel, depth, method, place, locals, stack, memory -/
def am_run (L : Nat) (xs : Nat → Int32) : Nat → Nat → Nat → Nat → am_Lo → List Value → am_M → Option (Option Value × am_M)
  | 0, _, _, _, _, _, _ => none
  | n + 1, d, k, pc, lo, st, M => match am_at k pc with
    | none => none
    | some (ins, a1, a2, _) => match am_p ins a1 a2 st with
      | some st' => am_run L xs n d k (pc + am_len ins a1) lo st' M
      | none => match am_l (am_ml k) ins lo st with
        | some (lo', st') => am_run L xs n d k (pc + am_len ins a1) lo' st' M
        | none => match am_b ins pc st with
          | some (pc', st') => am_run L xs n d k pc' lo st' M
          | none => match am_m L xs d ins a1 a2 st M with
            | some (st', M') => am_run L xs n d k (pc + am_len ins a1) lo st' M'
            | none => match am_r (am_rt k) ins st with
              | some v => some (v, M)
              | none => match am_c ins a1 a2 st M with
                | none => none
                | some (j, as, rest) => match d with
                  | 0 => none
                  | d' + 1 => match am_run L xs n d' j 0 (lv_args 0 as) [] M with
                    | none => none
                    | some (r, M1) => am_run L xs n (d' + 1) k (pc + 3) lo (r.toList ++ rest) M1
end
section
/-! ===== what is checked of the tables ===== -/
def am_B : List Cond := lw_tbl.filter goodWord
theorem am_B_in {w : Cond} (h : w ∈ am_B) : w ∈ lw_tbl := (List.mem_filter.mp h).1
theorem am_B_good : GoodIn am_B am_B := fun w h => ⟨h, good_of_word (List.mem_filter.mp h).2⟩
def am_gd (i : Nat) (w : Cond) : Bool := decide (lw_tbl[i]? = some w) && goodWord w
theorem am_gd_in {i : Nat} {w : Cond} (h : am_gd i w = true) : w ∈ am_B := by
  unfold am_gd at h
  rw [Bool.and_eq_true] at h
  exact List.mem_filter.mpr ⟨List.mem_of_getElem? (of_decide_eq_true h.1), h.2⟩
def am_lf (own : String) (i a3 : Nat) (c n d : String) : Bool := if a3 < 10000 then am_gd a3 (.fieldLink own i c n d) else decide (am_N[a3 - 10000]? = some (.fieldLinkNest own i c n d "LooseWater"))
def am_lm (own : String) (i a3 : Nat) (y : MethodName) : Bool := if a3 < 10000 then am_gd a3 (.methodLink own i y) else decide (am_N[a3 - 10000]? = some (.methodLinkNest own i y "LooseWater"))
def am_okS (own : String) (i a2 : Nat) : Bool := decide (1 ≤ a2 ∧ a2 < 29) && decide ((am_str[a2 - 1]?).map (fun r => (r.1, r.2.1)) = some (own, i))
def am_okF (own : String) (i a1 a2 a3 : Nat) : Bool := match vwCl[a1]? with
  | some (_, T, N) => decide (a2 < N) && am_lf own i a3 (T a2).1 (T a2).2.1 (T a2).2.2.1
  | none => false
def am_okP (k : Nat) (own : String) (i a1 a2 a3 : Nat) : Bool := match vwCl[a1]? with
  | some (_, T, N) => decide (a2 < N) && am_lf own i a3 (T a2).1 (T a2).2.1 (T a2).2.2.1 && (!(T a2).2.2.2 || (decide (a3 < 10000) && decide (am_kd k = 2) && decide ((T a2).1 = own)))
  | none => false
def am_okI (k : Nat) (ins : Instr) (a1 a2 a3 : Nat) : Bool := match ins with
  | .ldc i => a1 == 5000 || (a1 == 0 && am_gd a3 (.constant (am_y k).cls i (Int32.ofNat a2))) || (a1 == 1 && am_okS (am_y k).cls i a2)
  | .ldc_w i => a1 == 5000 || (a1 == 0 && am_gd a3 (.constant (am_y k).cls i (Int32.ofNat a2))) || (a1 == 1 && am_okS (am_y k).cls i a2)
  | .ldc2_w i => am_gd a3 (.constantLong (am_y k).cls i (Int64.ofNat a2))
  | .getfield i => if a1 = 100 then (if a2 = 0 then am_gd a3 (.fieldLink (am_y k).cls i "java/lang/String" "value" "[B") else am_gd a3 (.fieldLink (am_y k).cls i "java/lang/String" "coder" "B")) else am_okF (am_y k).cls i a1 a2 a3
  | .putfield i => am_okP k (am_y k).cls i a1 a2 a3
  | .getstatic i => if a1 = 0 then am_lf (am_y k).cls i a3 "LooseWater" "SINE" "[I" else if a1 = 1 then am_gd a3 (.fieldLink (am_y k).cls i "java/lang/String" "COMPACT_STRINGS" "Z") else if a1 = 2 then am_gd a3 (.fieldLink (am_y k).cls i "jdk/internal/util/Preconditions" "SIOOBE_FORMATTER" "Ljava/util/function/BiFunction;") else true
  | .new i => if a1 < 13 then (match vwCl[a1]? with
    | some (C, _, _) => am_gd a2 (.classLink (am_y k).cls i C)
    | none => false) else true
  | .anewarray i => if a1 = 4 then am_gd a2 (.classLink (am_y k).cls i "LooseWater$Ship") else if a1 = 5 then am_gd a2 (.classLink (am_y k).cls i "LooseWater$Plan") else true
  | .invokespecial i => if a1 = 1001 then am_gd a3 (.methodLink (am_y k).cls i objectInit) else if a1 < 265 then am_lm (am_y k).cls i a3 (am_y a1) && decide (a2 = am_np a1 + 1) else true
  | .invokevirtual i => if a1 < 265 then am_lm (am_y k).cls i a3 (am_y a1) && decide (a2 = am_np a1 + 1) else true
  | .invokestatic i => if a1 = 1000 then am_gd a3 (.methodLink (am_y k).cls i arraycopyName) else if a1 = 1002 then am_gd a3 (.methodLink (am_y k).cls i Lib.Math.max.name) else if a1 = 1003 then am_gd a3 (.methodLink (am_y k).cls i Lib.Math.min.name) else if a1 = 1004 then am_gd a3 (.methodLink (am_y k).cls i Lib.Math.abs.name) else if a1 = 1005 then am_gd a3 (.methodLink (am_y k).cls i Lib.MathLoose.max_long.x) else if a1 = 1006 then am_gd a3 (.methodLink (am_y k).cls i Lib.MathLoose.min_long.x) else if a1 < 265 then am_lm (am_y k).cls i a3 (am_y a1) && decide (a2 = am_np a1) else true
  | _ => true
def am_ok (k : Nat) (q : am_E) : Bool := decide (decode (am_by k) q.1 = .ok (q.2.1, am_len q.2.1 q.2.2.1)) && am_okI k q.2.1 q.2.2.1 q.2.2.2.1 q.2.2.2.2
/-- the classes: fields, types, words -/
def am_clsF (C : String) (T : u_T) (N cn : Nat) : Prop := N = am_nf cn ∧ (∀ k, k < N → parseFieldDescriptor (T k).2.2.1 = some (am_ty cn k)) ∧ (∀ a, a < N → ∀ b, b < N → a ≠ b → (T a).2.1 ≠ (T b).2.1) ∧ (∀ w ∈ u_ws C T N, w ∈ am_B) ∧ Cond.instantiable C N ∈ am_B ∧ Cond.initialized C ∈ am_B ∧ ∀ k, k < N → am_ty cn k ≠ .float ∧ am_ty cn k ≠ .double
/-- what is checked of the tables, once -/
def am_T : Prop := (∀ (cn : Nat) (C : String) (T : u_T) (N : Nat), vwCl[cn]? = some (C, T, N) → am_clsF C T N cn)
  ∧ (∀ w ∈ ([.arrayClass .int, .arrayClass .long, .arrayClass .byte, .arrayClass .boolean, .instanceMethod objectInit, .code objectInit ⟨#[0xb1]⟩ 1 none, .native arraycopyName, .static arraycopyName, .initialized "java/lang/System", .initialized "java/lang/Math", .static Lib.Math.max.name, .code Lib.Math.max.name Lib.Math.max.code 2 (some .int), .static Lib.Math.min.name, .code Lib.Math.min.name Lib.Math.min.code 2 (some .int), .static Lib.Math.abs.name, .code Lib.Math.abs.name Lib.Math.abs.code 1 (some .int), .static Lib.MathLoose.max_long.x, .code Lib.MathLoose.max_long.x Lib.MathLoose.max_long.code 4 (some .long), .static Lib.MathLoose.min_long.x, .code Lib.MathLoose.min_long.x Lib.MathLoose.min_long.code 4 (some .long)] : List Cond), w ∈ am_B)
/-- a method's code stands in the tables -/
def am_gdc (j : Nat) : Bool := !decide (j = 264) && match lw_tbl[(am_row j).2.2.2.1]? with
  | some (.code y b n rt) => decide (y = am_y j ∧ n = am_ml j ∧ rt = am_rt j) && goodWord (.code y b n rt)
  | _ => false
theorem am_gdc_in {j : Nat} (h : am_gdc j = true) : Cond.code (am_y j) (am_by j) (am_ml j) (am_rt j) ∈ am_B := by
  unfold am_gdc at h
  rw [Bool.and_eq_true] at h
  obtain ⟨h0, h⟩ := h
  have h0 : ¬ j = 264 := by simpa using h0
  split at h
  · rename_i y b n rt hl
    rw [Bool.and_eq_true] at h
    obtain ⟨rfl, rfl, rfl⟩ := of_decide_eq_true h.1
    have e : am_by j = b := by
      unfold am_by
      rw [if_neg h0, hl]
    rw [e]
    exact List.mem_filter.mpr ⟨List.mem_of_getElem? hl, h.2⟩
  · cases h
/-- the static facts of a method -/
def am_mok (j : Nat) : Bool := match (am_row j).2.2.2 with
  | (ic, ik, isl, ii) => am_gdc j && (if am_kd j = 1 then am_gd ik (.static (am_y j)) else am_gd ik (.instanceMethod (am_y j))) && (!(am_kd j == 0) || am_gd isl (.selects (am_y j).cls (am_y j) (am_y j))) && am_gd ii (.initialized (am_y j).cls)
    && decide ((am_y j).cls ≠ "java/lang/invoke/MethodHandle" ∧ (am_y j).cls ≠ "java/lang/invoke/VarHandle" ∧ (parseMethodDescriptor (am_y j).desc).map (fun d => d.parameters.length) = some (am_np j)) && decide (am_ml j ≤ 30) && plainName (am_y j).cls && (!(am_kd j == 2) || decide ((am_y j).name = "<init>" ∧ am_rt j = none))
    && (!decide (am_rc j < 13) || decide ((vwCl[am_rc j]?).map (fun q => q.1) = some (am_y j).cls)) && (!(am_rc j == 100) || decide ((am_y j).cls = "java/lang/String"))
def am_T2 : Prop := (∀ j, j < 265 → am_kd j < 3 → am_mok j = true) ∧ ∀ (k pc : Nat) (q : Instr × Nat × Nat × Nat), am_at k pc = some q → am_ok k (pc, q) = true
end
section
/-! ===== what the small machine's memory is in the real heap ===== -/
def am_v (B : Nat) (X : Nat → Value) : Value → Value
  | .ref a => .ref (B + a)
  | .float u => X u.toNat
  | v => v
def am_XV (X : Nat → Value) : Prop := ∀ u, X u = .null ∨ ∃ a, X u = .ref a
theorem am_v_cat {B : Nat} {X : Nat → Value} (hX : am_XV X) (v : Value) : (am_v B X v).category = v.category := by
  cases v with
  | float u => rcases hX u.toNat with h | ⟨a, h⟩ <;> simp [am_v, h, Value.category]
  | _ => rfl
theorem am_cat_map {B : Nat} {X : Nat → Value} (hX : am_XV X) (st : List Value) : ((st.map (am_v B X)).map fun v => v.category).sum = am_cat st := by
  unfold am_cat
  rw [List.map_map]
  congr 1
  apply List.map_congr_left
  intro v _
  exact am_v_cat hX v
def am_lv (B : Nat) (X : Nat → Value) (lo : am_Lo) : am_Lo := lo.map (fun q => (q.1, am_v B X q.2))
def am_gr (B : Nat) (M : am_M) (c a j : Nat) : Value := match am_ty c j with
  | .long => .long (M.2.2.1 a j)
  | .object _ => va_rf ((am_rf M c a j).map (fun b => B + b))
  | .array _ => va_rf ((am_rf M c a j).map (fun b => B + b))
  | _ => .int (M.2.1 a j)
theorem am_v_rf {B : Nat} {X : Nat → Value} (r : Option Nat) : am_v B X (va_rf r) = va_rf (r.map (fun b => B + b)) := by
  cases r <;> rfl
theorem am_v_gv {B : Nat} {X : Nat → Value} (M : am_M) (c a j : Nat) : am_v B X (am_gv M c a j) = am_gr B M c a j := by
  unfold am_gv am_gr
  cases am_ty c j <;> first | rfl | exact am_v_rf _
def am_ar (B : Nat) (M : am_M) (k t : Nat) : (Nat → Int32) ⊕ (Nat → Int64) ⊕ (Nat → UInt32) ⊕ (Nat → UInt64) ⊕ (Nat → Option Nat) :=
  if t = 1 then .inr (.inl (M.2.2.1 k)) else if t = 4 ∨ t = 5 then .inr (.inr (.inr (.inr (fun j => (am_rl M.2.2.2.1 k j).map (fun b => B + b))))) else .inl (M.2.1 k)
def am_ca (B : Nat) (cA : Nat → ClassId) (M : am_M) (k : Nat) : am_L → va_E
  | .inl c => .inr (c, (List.range (am_nf c)).map (fun j => am_gr B M c k j))
  | .inr (t, n) => .inl (cA t, n, am_ar B M k t)
def am_w (B : Nat) (cA : Nat → ClassId) (M : am_M) : va_W := M.1.mapIdx (fun k x => (B + k, am_ca B cA M k x))
theorem am_w_at (B : Nat) (cA : Nat → ClassId) (M : am_M) (k : Nat) : (am_w B cA M)[k]? = (M.1[k]?).map (fun x => (B + k, am_ca B cA M k x)) := by
  simp [am_w, List.getElem?_mapIdx]
theorem am_w_some {B : Nat} {cA : Nat → ClassId} {M : am_M} {k : Nat} {x : am_L} (h : M.1[k]? = some x) : (am_w B cA M)[k]? = some (B + k, am_ca B cA M k x) := by
  rw [am_w_at, h]; rfl
theorem am_D (B : Nat) (cA : Nat → ClassId) (M : am_M) : va_D (fun q => B ≤ q) (am_w B cA M) := by
  refine ⟨fun i j p q hi hj e => ?_, fun k q hk => ?_⟩
  · rw [am_w_at] at hi hj
    obtain ⟨x, -, hx⟩ := Option.map_eq_some_iff.mp hi
    obtain ⟨y, -, hy⟩ := Option.map_eq_some_iff.mp hj
    rw [← hx, ← hy] at e
    exact Nat.add_left_cancel e
  · rw [am_w_at] at hk
    obtain ⟨x, -, hx⟩ := Option.map_eq_some_iff.mp hk
    rw [← hx]
    exact Nat.le_add_right _ _
/-- two memories of one layout that agree in the cell k -/
theorem am_ca_eq {B : Nat} {cA : Nat → ClassId} {M N : am_M} {k : Nat} (h1 : N.2.1 k = M.2.1 k) (h2 : N.2.2.1 k = M.2.2.1 k) (h3 : ∀ j, am_rl N.2.2.2.1 k j = am_rl M.2.2.2.1 k j) (h4 : N.2.2.2.2 k = M.2.2.2.2 k) (x : am_L) : am_ca B cA N k x = am_ca B cA M k x := by
  cases x with
  | inl c => simp only [am_ca, am_gr, am_rf, h1, h2, h3, h4]
  | inr t => obtain ⟨t, n⟩ := t; simp only [am_ca, am_ar, h1, h2, h3]
theorem am_w_set {B : Nat} {cA : Nat → ClassId} {M N : am_M} {a : Nat} {x : am_L} (hl : N.1 = M.1) (ha : M.1[a]? = some x) (h1 : ∀ k, k ≠ a → N.2.1 k = M.2.1 k) (h2 : ∀ k, k ≠ a → N.2.2.1 k = M.2.2.1 k) (h3 : ∀ k, k ≠ a → ∀ j, am_rl N.2.2.2.1 k j = am_rl M.2.2.2.1 k j) (h4 : ∀ k, k ≠ a → N.2.2.2.2 k = M.2.2.2.2 k) :
    (am_w B cA M).set a (B + a, am_ca B cA N a x) = am_w B cA N := by
  apply List.ext_getElem?
  intro k
  rw [List.getElem?_set, am_w_at, am_w_at, hl]
  by_cases e : a = k
  · subst e
    have hlt : a < (am_w B cA M).length := by
      have := (List.getElem?_eq_some_iff.mp ha).1
      simpa [am_w] using this
    rw [if_pos rfl, if_pos hlt, ha]; rfl
  · rw [if_neg e]
    cases M.1[k]? with
    | none => rfl
    | some y => simp only [Option.map_some]; rw [am_ca_eq (h1 k (fun q => e q.symm)) (h2 k (fun q => e q.symm)) (h3 k (fun q => e q.symm)) (h4 k (fun q => e q.symm))]
theorem am_sI_ne {I : Nat → Nat → Int32} {a k : Nat} {f : Nat → Int32} (h : k ≠ a) : am_sI I a f k = I k := by simp [am_sI, h]
theorem am_sL_ne {I : Nat → Nat → Int64} {a k : Nat} {f : Nat → Int64} (h : k ≠ a) : am_sL I a f k = I k := by simp [am_sL, h]
theorem am_rl_ne {R : am_Rl} {a j b k i : Nat} (h : k ≠ a ∨ i ≠ j) : am_rl (((a, j), b) :: R) k i = am_rl R k i := by
  unfold am_rl
  rw [List.find?_cons]
  have : (a == k && j == i) = false := by
    rcases h with h | h
    · have : (a == k) = false := by simpa using fun q => h q.symm
      rw [this]; rfl
    · have : (j == i) = false := by simpa using fun q => h q.symm
      rw [this, Bool.and_false]
  dsimp only
  rw [this]
theorem am_rl_eq {R : am_Rl} {a j b : Nat} : am_rl (((a, j), b) :: R) a j = some b := by
  simp [am_rl]
theorem am_rl_fne {R : am_Rl} {n k j : Nat} (h : k ≠ n) : am_rl (R.filter (fun q => !(q.1.1 == n))) k j = am_rl R k j := by
  unfold am_rl
  rw [List.find?_filter]
  congr 2
  funext q
  by_cases e : q.1.1 = n
  · have : (q.1.1 == k) = false := by simpa using fun z => h (by rw [← z, e])
    simp [this]
  · simp [e]; rfl
theorem am_rl_feq {R : am_Rl} {n j : Nat} : am_rl (R.filter (fun q => !(q.1.1 == n))) n j = none := by
  unfold am_rl
  rw [List.find?_filter]
  rw [Option.map_eq_none_iff, List.find?_eq_none]
  intro q _
  by_cases e : q.1.1 = n <;> simp [e]
theorem am_sI_eq {I : Nat → Nat → Int32} {a : Nat} {f : Nat → Int32} : am_sI I a f a = f := by simp [am_sI]
theorem am_sL_eq {I : Nat → Nat → Int64} {a : Nat} {f : Nat → Int64} : am_sL I a f a = f := by simp [am_sL]
theorem am_w_uI {B : Nat} {cA : Nat → ClassId} {M : am_M} {a : Nat} {x : am_L} (f : Nat → Int32) (ha : M.1[a]? = some x) : (am_w B cA M).set a (B + a, am_ca B cA (am_uI M a f) a x) = am_w B cA (am_uI M a f) :=
  am_w_set rfl ha (fun _ h => am_sI_ne h) (fun _ _ => rfl) (fun _ _ _ => rfl) (fun _ _ => rfl)
theorem am_w_uL {B : Nat} {cA : Nat → ClassId} {M : am_M} {a : Nat} {x : am_L} (f : Nat → Int64) (ha : M.1[a]? = some x) : (am_w B cA M).set a (B + a, am_ca B cA (am_uL M a f) a x) = am_w B cA (am_uL M a f) :=
  am_w_set rfl ha (fun _ _ => rfl) (fun _ h => am_sL_ne h) (fun _ _ _ => rfl) (fun _ _ => rfl)
theorem am_w_uR {B : Nat} {cA : Nat → ClassId} {M : am_M} {a : Nat} {x : am_L} (j b : Nat) (ha : M.1[a]? = some x) : (am_w B cA M).set a (B + a, am_ca B cA (am_uR M a j b) a x) = am_w B cA (am_uR M a j b) :=
  am_w_set rfl ha (fun _ _ => rfl) (fun _ _ => rfl) (fun _ h _ => am_rl_ne (Or.inl h)) (fun _ _ => rfl)
theorem am_w_uA {B : Nat} {cA : Nat → ClassId} {M : am_M} {a : Nat} {x : am_L} (b : Nat) (ha : M.1[a]? = some x) : (am_w B cA M).set a (B + a, am_ca B cA (am_uA M a b) a x) = am_w B cA (am_uA M a b) :=
  am_w_set rfl ha (fun _ _ => rfl) (fun _ _ => rfl) (fun _ _ _ => rfl) (fun _ h => if_neg h)
theorem am_w_new {B : Nat} {cA : Nat → ClassId} {M : am_M} (x : am_L) : am_w B cA (am_new M x) = am_w B cA M ++ [(B + M.1.length, am_ca B cA (am_new M x) M.1.length x)] := by
  apply List.ext_getElem?
  intro k
  have hlen : (am_w B cA M).length = M.1.length := by simp [am_w]
  rw [am_w_at, List.getElem?_append, hlen, am_w_at]
  show Option.map _ ((M.1 ++ [x])[k]?) = _
  rw [List.getElem?_append]
  by_cases h : k < M.1.length
  · rw [if_pos h, if_pos h]
    have hne : k ≠ M.1.length := by omega
    cases M.1[k]? with
    | none => rfl
    | some y =>
      simp only [Option.map_some]
      rw [am_ca_eq (M := M) (N := am_new M x) (k := k) (am_sI_ne hne) (am_sL_ne hne) (fun _ => am_rl_fne hne) (if_neg hne)]
  · rw [if_neg h, if_neg h]
    by_cases e : k - M.1.length = 0
    · have : k = M.1.length := by omega
      subst this
      simp
    · rw [List.getElem?_eq_none (by simp; omega), List.getElem?_eq_none (by simp; omega)]; rfl
/-- a field set, in the list of an object's values -/
theorem am_fs_set {B c a j : Nat} {M N : am_M} {v : Value} (hj : j < am_nf c) (hv : am_gr B N c a j = v) (ho : ∀ i, i ≠ j → am_gr B N c a i = am_gr B M c a i) :
    ((List.range (am_nf c)).map (fun i => am_gr B M c a i)).set j v = (List.range (am_nf c)).map (fun i => am_gr B N c a i) := by
  apply List.ext_getElem?
  intro i
  rw [List.getElem?_set]
  by_cases e : j = i
  · subst e
    rw [if_pos rfl, if_pos (by simpa using hj)]
    simp [hj, hv]
  · rw [if_neg e]
    simp only [List.getElem?_map, List.getElem?_range']
    by_cases h : i < am_nf c
    · simp [h, ho i (fun q => e q.symm)]
    · simp [h]
def am_tys (cA : Nat → ClassId) : List (ClassId × FieldType) := [(cA 0, .int), (cA 1, .long), (cA 2, .byte), (cA 3, .boolean), (cA 4, .object "LooseWater$Ship"), (cA 5, .object "LooseWater$Plan")]
/-- a text: an object, its coder, its bytes -/
def am_XS (B : Nat) (adK adV : Nat → Nat) (U : State) (H : Heap) (j : Nat) : Prop := va_O "java/lang/String" (adK j) (fun q => B ≤ q) U H ∧ va_OF "java/lang/String" "coder" "B" (.int 0) (adK j) (fun q => B ≤ q) U H ∧ va_OF "java/lang/String" "value" "[B" (.ref (adV j)) (adK j) (fun q => B ≤ q) U H ∧ va_T .byte (adV j) (am_slen.getD j 0) (fun i => .int ((am_sbyt.getD j []).getD i 0)) (fun q => B ≤ q) U H
theorem am_XS.moved {B j : Nat} {adK adV : Nat → Nat} {u U : State} {H : Heap} (hvm : u.vm.Alike U.vm) (h : am_XS B adK adV u H j) : am_XS B adK adV U H j := ⟨h.1.moved hvm, h.2.1.moved hvm, h.2.2.1.moved hvm, h.2.2.2.moved hvm⟩
theorem am_XS.kept {B j : Nat} {adK adV : Nat → Nat} {U : State} {H H1 : Heap} (h : am_XS B adK adV U H j) (hq : ∀ a : Nat, a < H.size → ¬ B ≤ a → H1[a]? = H[a]?) : am_XS B adK adV U H1 j := ⟨h.1.kept hq, h.2.1.kept hq, h.2.2.1.kept hq, h.2.2.2.kept hq⟩
/-- what was there before and nobody writes -/
def am_X (L : Nat) (xs : Nat → Int32) (B : Nat) (X : Nat → Value) (U : State) (H : Heap) : Prop :=
  ∃ (tS tb : Nat) (adK adV : Nat → Nat), (X 0 = .ref tS ∧ va_Z "LooseWater" "SINE" "[I" (.ref tS) (fun q => B ≤ q) U H ∧ va_T .int tS 91 (fun j => .int (am_sin j)) (fun q => B ≤ q) U H)
    ∧ (va_Z "java/lang/String" "COMPACT_STRINGS" "Z" (.int 1) (fun q => B ≤ q) U H ∧ va_Z "jdk/internal/util/Preconditions" "SIOOBE_FORMATTER" "Ljava/util/function/BiFunction;" (X 3000) (fun q => B ≤ q) U H)
    ∧ ((∀ j, j < 28 → X (1 + j) = .ref (adK j) ∧ X (1001 + j) = .ref (adV j)) ∧ (∀ j, j < 28 → am_XS B adK adV U H j) ∧ ∀ (j : Nat) (r : String × Nat × String), am_str[j]? = some r → vk_R r.1 r.2.1 r.2.2 (adK j) U)
    ∧ (∀ w ∈ am_N, va_Nw w U) ∧ (va_AO "LooseWater$Ship" U ∧ va_AO "LooseWater$Plan" U)
    ∧ (X 2000 = .ref tb ∧ va_T .int tb L (fun j => .int (xs j)) (fun q => B ≤ q) U H)
theorem am_N_nest : ∀ w ∈ am_N, (∃ a i b n d h, w = .fieldLinkNest a i b n d h) ∨ (∃ a i y h, w = .methodLinkNest a i y h) := by
  intro w hw
  simp only [am_N, List.mem_cons, List.not_mem_nil, or_false] at hw
  rcases hw with h | h | h | h | h | h | h | h | h | h | h | h | h | h | h | h | h | h | h | h | h | h | h | h <;> subst h <;> first | exact Or.inl ⟨_, _, _, _, _, _, rfl⟩ | exact Or.inr ⟨_, _, _, _, rfl⟩
theorem am_N_on {w : Cond} (h : w ∈ am_N) : w.onTables = true := by
  rcases am_N_nest w h with ⟨_, _, _, _, _, _, rfl⟩ | ⟨_, _, _, _, rfl⟩ <;> rfl
/-- at a call: the tables warmed, the heap as it is now -/
theorem am_X.warm {L : Nat} {xs : Nat → Int32} {B : Nat} {X : Nat → Value} {s U : State} {H : Heap} {locs : List Loc} (hW : s.WarmedH U.vm) (hS : va_S (fun q => B ≤ q) s.heap H locs) (h : am_X L xs B X s s.heap) : am_X L xs B X U H := by
  obtain ⟨tS, tb, adK, adV, ⟨a1, a2, a3⟩, ⟨b1, b2⟩, ⟨c1, c2, c3⟩, d1, ⟨e1, e2⟩, f1, f2⟩ := h
  refine ⟨tS, tb, adK, adV, ⟨a1, (a2.moved hW.alike).kept hS.2.1, (a3.moved hW.alike).kept hS.2.1⟩, ⟨(b1.moved hW.alike).kept hS.2.1, (b2.moved hW.alike).kept hS.2.1⟩, ⟨c1, fun j hj => ((c2 j hj).moved hW.alike).kept hS.2.1, fun j r hr => (c3 j r hr).warm hW⟩, fun w hw => ?_, ⟨e1.moved hW.alike, e2.moved hW.alike⟩, f1, (f2.moved hW.alike).kept hS.2.1⟩
  rcases am_N_nest w hw with ⟨_, _, _, _, _, _, rfl⟩ | ⟨_, _, _, _, rfl⟩
  · exact va_Nw.warmF hW (d1 _ hw)
  · exact va_Nw.warmM hW (d1 _ hw)
/-- the same tables -/
theorem am_X.same {L : Nat} {xs : Nat → Int32} {B : Nat} {X : Nat → Value} {s U : State} {H : Heap} (hv : U.vm = s.vm) (h : am_X L xs B X s H) : am_X L xs B X U H := by
  have hA : s.vm.Alike U.vm := by rw [hv]; exact Vm.Alike.refl _
  obtain ⟨tS, tb, adK, adV, ⟨a1, a2, a3⟩, ⟨b1, b2⟩, ⟨c1, c2, c3⟩, d1, ⟨e1, e2⟩, f1, f2⟩ := h
  exact ⟨tS, tb, adK, adV, ⟨a1, a2.moved hA, a3.moved hA⟩, ⟨b1.moved hA, b2.moved hA⟩, ⟨c1, fun j hj => (c2 j hj).moved hA, fun j r hr => (c3 j r hr).same hv⟩, fun w hw => va_Nw.same (am_N_on hw) hv.symm (d1 w hw), ⟨e1.moved hA, e2.moved hA⟩, f1, f2.moved hA⟩
theorem am_lk_mem {lo : am_Lo} {i : Nat} {v : Value} (h : am_lk lo i = some v) : (i, v) ∈ lo := by
  unfold am_lk at h
  obtain ⟨q, hq, rfl⟩ := Option.map_eq_some_iff.mp h
  have h1 := List.find?_some hq
  have h2 := List.mem_of_find?_eq_some hq
  have h3 : q.1 = i := by simpa using h1
  rw [← h3]
  exact h2
theorem am_lk_lv {B : Nat} {X : Nat → Value} {lo : am_Lo} {i n : Nat} {v : Value} {ls : Array Slot} (h : am_lk lo i = some v) (hl : lv_has ls n (am_lv B X lo)) : ls[i]? = some (.val (am_v B X v)) :=
  hl.2.2 (i, am_v B X v) (List.mem_map.mpr ⟨(i, v), am_lk_mem h, rfl⟩)
theorem am_lv_s1 {B : Nat} {X : Nat → Value} (hX : am_XV X) (lo : am_Lo) (i : Nat) (v : Value) : (i, am_v B X v) :: (am_lv B X lo).filter (fun q => !(q.1 == i) && !(q.1 + 1 == i && q.2.category == 2)) = am_lv B X (am_s1 lo i v) := by
  unfold am_lv am_s1
  rw [List.filter_map, List.map_cons]
  congr 2
  apply List.filter_congr
  intro q _
  simp [am_v_cat hX]
theorem am_lv_s2 {B : Nat} {X : Nat → Value} (hX : am_XV X) (lo : am_Lo) (i : Nat) (v : Value) : (i, am_v B X v) :: (am_lv B X lo).filter (fun q => !(q.1 == i) && (!(q.1 == i + 1) && !(q.1 + 1 == i && q.2.category == 2))) = am_lv B X (am_s2 lo i v) := by
  unfold am_lv am_s2
  rw [List.filter_map, List.map_cons]
  congr 2
  apply List.filter_congr
  intro q _
  simp [am_v_cat hX]
theorem am_lv_args {B : Nat} {X : Nat → Value} (hX : am_XV X) (as : List Value) : ∀ i, lv_args i (as.map (am_v B X)) = am_lv B X (lv_args i as) := by
  induction as with
  | nil => intro i; rfl
  | cons v as ih =>
    intro i
    simp only [List.map_cons, lv_args, am_v_cat hX, ih, am_lv]
end
section
/-! ===== the static check of an entry, and the families of instructions: what the small machine does, the real one does ===== -/
section AMF
variable {p : Program} {l : Launch} {e : Env} {R : Room} {s : State} {m : MethodId} {args : Array Value} {below : List Frame} {meth : Method} {c : Code} {H : Heap} {locs : List Loc} {cells slots : Nat} {Q : State → Prop}
variable {L : Nat} {xs : Nat → Int32} {B : Nat} {X : Nat → Value} {D : va_G} {cA : Nat → ClassId} {k d pc n0 : Nat} {ls : Array Slot}
/-- what stands through a method's whole walk -/
def am_C (L : Nat) (xs : Nat → Int32) (B : Nat) (X : Nat → Value) (D : va_G) (cA : Nat → ClassId) (p : Program) (R : Room) (s : State) (m : MethodId) (args : Array Value) (meth : Method) (c : Code) (k d n0 : Nat) : Prop :=
  p.tables.exec = Jvm.exec ∧ c.code = am_by k ∧ c.maxLocals = am_ml k ∧ s.vm.findClass (am_y k).cls = some m.cls ∧ (∀ w ∈ am_B, w.before args s = true) ∧ am_XV X ∧ am_X L xs B X s s.heap ∧ va_K D vwCl (am_tys cA) s ∧ s.heap.size = B + n0 ∧ (d ≤ R.frames ∧ 60 * d ≤ R.locals) ∧ (am_kd k = 2 → meth.name = "<init>")
theorem am_ok_dec {q : Instr × Nat × Nat × Nat} (h : am_ok k (pc, q) = true) : decode (am_by k) pc = .ok (q.1, am_len q.1 q.2.1) ∧ am_okI k q.1 q.2.1 q.2.2.1 q.2.2.2 = true := by
  unfold am_ok at h
  rw [Bool.and_eq_true] at h
  exact ⟨of_decide_eq_true h.1, h.2⟩
theorem am_lf_use {own c' n d' : String} {i a3 : Nat} (h : am_lf own i a3 c' n d' = true) (hts : ∀ w ∈ am_B, w.before args s = true) (hX : am_X L xs B X s s.heap) : (a3 < 10000 ∧ (Cond.fieldLink own i c' n d').before args s = true) ∨ (Cond.fieldLinkNest own i c' n d' "LooseWater").before args s = true := by
  unfold am_lf at h
  split at h
  · rename_i h1
    exact Or.inl ⟨h1, hts _ (am_gd_in h)⟩
  · have hm := List.mem_of_getElem? (of_decide_eq_true h)
    obtain ⟨tS, tb, adK, adV, -, -, -, d1, -⟩ := hX
    exact Or.inr (va_Nw.use rfl (d1 _ hm))
theorem am_str_use {own : String} {i a2 : Nat} (h : am_okS own i a2 = true) (hX : am_X L xs B X s s.heap) : ∃ (tx : String) (a : Nat), vk_R own i tx a s ∧ X a2 = .ref a := by
  unfold am_okS at h
  rw [Bool.and_eq_true] at h
  obtain ⟨h1, h2⟩ := h
  have h1 := of_decide_eq_true h1
  obtain ⟨r, hr, he⟩ := Option.map_eq_some_iff.mp (of_decide_eq_true h2)
  obtain ⟨tS, tb, adK, adV, -, -, ⟨c1, -, c3⟩, -⟩ := hX
  have := c3 _ r hr
  have e1 : r.1 = own := congrArg Prod.fst he
  have e2 : r.2.1 = i := congrArg Prod.snd he
  rw [e1, e2] at this
  refine ⟨r.2.2, _, this, ?_⟩
  have := (c1 (a2 - 1) (by omega)).1
  rw [show 1 + (a2 - 1) = a2 by omega] at this
  exact this
theorem am_u32 {n : Nat} (h : n < 4000) : (UInt32.ofNat n).toNat = n := by
  simp [UInt32.toNat_ofNat']
  omega
theorem am_ldcwS (hexec : p.tables.exec = Jvm.exec) {cc : ByteArray} (hb : c.code = cc) {own tx : String} {index q : Nat} {rest : List Value} (hown : s.vm.findClass own = some m.cls) (hZ : vk_R own index tx q s) (hdg : decode cc pc = .ok (.ldc_w index, 3))
    (k : W p l e R s m args below meth c H locs cells slots Q (F0 m (pc + 3) ls (.ref q :: rest))) : W p l e R s m args below meth c H locs cells slots Q (F0 m pc ls rest) := by
  intro T hT X
  obtain ⟨t, a1, b1⟩ := k T hT X
  exact ⟨t, X.ldcStringW hexec hown (text := tx) (a := q) hZ.1 hZ.2 (g := F0 m pc ls rest) rfl (by rw [hb]; exact hdg) t a1, b1⟩
set_option maxHeartbeats 4000000 in
theorem am_p_ok {ins : Instr} {a1 a2 a3 : Nat} {st st' : List Value} (hC : am_C L xs B X D cA p R s m args meth c k d n0) (hok : am_ok k (pc, ins, a1, a2, a3) = true) (h : am_p ins a1 a2 st = some st')
    (kk : W p l e R s m args below meth c H locs cells slots Q (F0 m (pc + am_len ins a1) ls (st'.map (am_v B X)))) : W p l e R s m args below meth c H locs cells slots Q (F0 m pc ls (st.map (am_v B X))) := by
  obtain ⟨hx, hb, hml, hown, hts, hXV, hX, hK, hBs, hR, hin⟩ := hC
  obtain ⟨hdg, ho⟩ := am_ok_dec hok
  dsimp only at hdg ho
  unfold am_p at h
  split at h
  · cases h; exact lv_iconst hx hb hdg rfl kk
  · cases h; exact lv_bipush hx hb hdg rfl kk
  · cases h; exact lv_sipush hx hb hdg rfl kk
  · cases h; exact lv_lconst hx hb hdg rfl kk
  · split at h
    · rename_i h0
      cases h
      subst h0
      have hw := ho
      simp [am_okI] at hw
      exact lv_ldc hx hb hown (hts _ (am_gd_in hw)) hdg kk
    · split at h
      · rename_i h0 h1
        cases h
        subst h1
        have hw := ho
        simp [am_okI] at hw
        obtain ⟨tx, a, hv, ha⟩ := am_str_use hw hX
        have hlt : a2 < 4000 := by
          unfold am_okS at hw
          rw [Bool.and_eq_true] at hw
          have := of_decide_eq_true hw.1
          omega
        simp only [List.map_cons, am_v, am_u32 hlt, ha] at kk
        exact va_ldcS hx hb hown hv hdg kk
      · cases h
  · split at h
    · rename_i h0
      cases h
      subst h0
      have hw := ho
      simp [am_okI] at hw
      exact lv_ldcw hx hb hown (hts _ (am_gd_in hw)) hdg kk
    · split at h
      · rename_i h0 h1
        cases h
        subst h1
        have hw := ho
        simp [am_okI] at hw
        obtain ⟨tx, a, hv, ha⟩ := am_str_use hw hX
        have hlt : a2 < 4000 := by
          unfold am_okS at hw
          rw [Bool.and_eq_true] at hw
          have := of_decide_eq_true hw.1
          omega
        simp only [List.map_cons, am_v, am_u32 hlt, ha] at kk
        exact am_ldcwS hx hb hown hv hdg kk
      · cases h
  · cases h; exact lv_ldc2 hx hb hown (hts _ (am_gd_in ho)) hdg kk
  · cases h; exact lv_iadd hx hb hdg kk
  · cases h; exact lv_isub hx hb hdg kk
  · cases h; exact lv_imul hx hb hdg kk
  · cases h; exact lv_iand hx hb hdg kk
  · cases h; exact lv_ior hx hb hdg kk
  · cases h; exact lv_ishl hx hb hdg kk
  · cases h; exact lv_ishr hx hb hdg kk
  · cases h; exact lv_iushr hx hb hdg rfl kk
  · split at h
    · cases h
    · rename_i h0; cases h; exact lv_idiv hx hb hdg h0 kk
  · split at h
    · cases h
    · rename_i h0; cases h; exact lv_irem hx hb hdg h0 kk
  · cases h; exact lv_ineg hx hb hdg kk
  · cases h; exact lv_ladd hx hb hdg kk
  · cases h; exact lv_lsub hx hb hdg kk
  · cases h; exact lv_lmul hx hb hdg kk
  · cases h; exact lv_land hx hb hdg kk
  · cases h; exact lv_lor hx hb hdg kk
  · cases h; exact lv_lshl hx hb hdg rfl kk
  · cases h; exact lv_lshr hx hb hdg rfl kk
  · split at h
    · cases h
    · rename_i h0; cases h; exact lv_ldiv hx hb hdg h0 kk
  · split at h
    · cases h
    · rename_i h0; cases h; exact lv_lrem hx hb hdg h0 kk
  · cases h; exact lv_lneg hx hb hdg kk
  · cases h; exact W.lcmp hx hb hdg kk
  · cases h; exact lv_i2l hx hb hdg rfl kk
  · cases h; exact lv_l2i hx hb hdg rfl kk
  · cases h; exact lv_i2b hx hb hdg rfl kk
  · cases h; exact lv_i2c hx hb hdg rfl kk
  · split at h
    · rename_i h0; cases h; exact lv_pop hx hb hdg ((am_v_cat hXV _).trans h0) kk
    · cases h
  · split at h
    · rename_i h0; cases h; exact lv_dup hx hb hdg ((am_v_cat hXV _).trans h0) kk
    · cases h
  · split at h
    · rename_i h0; cases h; exact lv_dup2_11 hx hb hdg ((am_v_cat hXV _).trans h0.1) ((am_v_cat hXV _).trans h0.2) kk
    · cases h
  · cases h
theorem am_l_ok {ins : Instr} {a1 a2 a3 : Nat} {lo lo' : am_Lo} {st st' : List Value} (hC : am_C L xs B X D cA p R s m args meth c k d n0) (hok : am_ok k (pc, ins, a1, a2, a3) = true) (h : am_l (am_ml k) ins lo st = some (lo', st')) (hl : lv_has ls (am_ml k) (am_lv B X lo))
    (kk : ∀ ls', lv_has ls' (am_ml k) (am_lv B X lo') → W p l e R s m args below meth c H locs cells slots Q (F0 m (pc + am_len ins a1) ls' (st'.map (am_v B X)))) : W p l e R s m args below meth c H locs cells slots Q (F0 m pc ls (st.map (am_v B X))) := by
  obtain ⟨hx, hb, hml, hown, hts, hXV, hX, hK, hBs, hR, hin⟩ := hC
  obtain ⟨hdg, ho⟩ := am_ok_dec hok
  dsimp only at hdg ho
  have lI : ∀ i, am_ldI lo i st = some (lo', st') → ∃ x : Int32, ls[i]? = some (.val (.int x)) ∧ lo' = lo ∧ st' = .int x :: st := by
    intro i h
    unfold am_ldI at h
    split at h
    · rename_i x hx; cases h; exact ⟨x, am_lk_lv hx hl, rfl, rfl⟩
    · cases h
  have lL : ∀ i, am_ldL lo i st = some (lo', st') → ∃ x : Int64, ls[i]? = some (.val (.long x)) ∧ lo' = lo ∧ st' = .long x :: st := by
    intro i h
    unfold am_ldL at h
    split at h
    · rename_i x hx; cases h; exact ⟨x, am_lk_lv hx hl, rfl, rfl⟩
    · cases h
  have lA : ∀ i, am_ldA lo i st = some (lo', st') → ∃ v : Value, ls[i]? = some (.val (am_v B X v)) ∧ lo' = lo ∧ st' = v :: st ∧ (am_v B X v = .null ∨ ∃ a, am_v B X v = .ref a) := by
    intro i h
    unfold am_ldA at h
    split at h
    · rename_i x hx; cases h; exact ⟨_, am_lk_lv hx hl, rfl, rfl, Or.inr ⟨_, rfl⟩⟩
    · rename_i x hx; cases h; exact ⟨_, am_lk_lv hx hl, rfl, rfl, hXV _⟩
    · cases h
  unfold am_l at h
  split at h
  · obtain ⟨x, h1, rfl, rfl⟩ := lI _ h
    exact lv_iload hx hb hdg h1 (kk ls hl)
  · obtain ⟨x, h1, rfl, rfl⟩ := lI _ h
    exact lv_iload_n hx hb hdg rfl h1 (kk ls hl)
  · obtain ⟨x, h1, rfl, rfl⟩ := lL _ h
    exact lv_lload hx hb hdg h1 (kk ls hl)
  · obtain ⟨x, h1, rfl, rfl⟩ := lL _ h
    exact lv_lload_n hx hb hdg rfl h1 (kk ls hl)
  · obtain ⟨v, h1, rfl, rfl, h2⟩ := lA _ h
    have kk := kk ls hl
    rw [List.map_cons] at kk
    rcases h2 with h2 | ⟨a, h2⟩
    · rw [h2] at h1 kk
      exact lv_aloadN hx hb hdg h1 kk
    · rw [h2] at h1 kk
      exact lv_aload hx hb hdg h1 kk
  · obtain ⟨v, h1, rfl, rfl, h2⟩ := lA _ h
    have kk := kk ls hl
    rw [List.map_cons] at kk
    rcases h2 with h2 | ⟨a, h2⟩
    · rw [h2] at h1 kk
      exact lv_aload_nN hx hb hdg rfl h1 kk
    · rw [h2] at h1 kk
      exact lv_aload_n hx hb hdg rfl h1 kk
  · unfold am_stI at h
    split at h
    · split at h
      · rename_i h0; cases h
        exact lv_istore hx hb hdg hl h0 (am_lv_s1 hXV _ _ (.int _)) kk
      · cases h
    · cases h
  · unfold am_stI at h
    split at h
    · split at h
      · rename_i h0; cases h
        exact lv_istore_n hx hb hdg rfl hl h0 (am_lv_s1 hXV _ _ (.int _)) kk
      · cases h
    · cases h
  · unfold am_stL at h
    split at h
    · split at h
      · rename_i h0; cases h
        exact lv_lstore hx hb hdg hl h0 (am_lv_s2 hXV _ _ (.long _)) kk
      · cases h
    · cases h
  · unfold am_stL at h
    split at h
    · split at h
      · rename_i h0; cases h
        exact lv_lstore_n hx hb hdg rfl hl h0 (am_lv_s2 hXV _ _ (.long _)) kk
      · cases h
    · cases h
  · unfold am_stA at h
    split at h
    · split at h
      · rename_i h0; cases h
        exact lv_astore hx hb hdg hl h0 (am_lv_s1 hXV _ _ (.ref _)) kk
      · cases h
    · cases h
  · unfold am_stA at h
    split at h
    · split at h
      · rename_i h0; cases h
        exact lv_astore_n hx hb hdg rfl hl h0 (am_lv_s1 hXV _ _ (.ref _)) kk
      · cases h
    · cases h
  · split at h
    · rename_i x h1
      split at h
      · rename_i h0; cases h
        obtain ⟨q, hq⟩ := List.getElem?_of_mem (List.mem_map.mpr ⟨_, am_lk_mem h1, rfl⟩ : _ ∈ am_lv B X lo)
        exact lv_iinc hx hb hdg hl hq rfl h0 (am_lv_s1 hXV _ _ (.int _)) kk
      · cases h
    · cases h
  · cases h
theorem am_j_ok {off : Int} {st st' : List Value} {pc' : Nat} (h : am_j pc off st = some (pc', st')) : (pc : Int) + off = (pc' : Int) ∧ st' = st := by
  unfold am_j at h
  split at h
  · cases h
    exact ⟨by omega, rfl⟩
  · cases h
theorem am_b_ok {ins : Instr} {a1 a2 a3 pc' : Nat} {st st' : List Value} (hC : am_C L xs B X D cA p R s m args meth c k d n0) (hok : am_ok k (pc, ins, a1, a2, a3) = true) (h : am_b ins pc st = some (pc', st'))
    (kk : W p l e R s m args below meth c H locs cells slots Q (F0 m pc' ls (st'.map (am_v B X)))) : W p l e R s m args below meth c H locs cells slots Q (F0 m pc ls (st.map (am_v B X))) := by
  obtain ⟨hx, hb, hml, hown, hts, hXV, hX, hK, hBs, hR, hin⟩ := hC
  obtain ⟨hdg, ho⟩ := am_ok_dec hok
  dsimp only at hdg ho
  have br : ∀ {b : Bool} {off : Int} {st0 : List Value}, am_cj b pc off st0 = some (pc', st') → ∃ tgt : Nat, (pc : Int) + off = (tgt : Int) ∧ st' = st0 ∧ (b = true → pc' = tgt) ∧ (b = false → pc' = pc + 3) := by
    intro b off st0 h
    unfold am_cj at h
    split at h
    · cases h
      refine ⟨((pc : Int) + off).toNat, by omega, rfl, fun hb => ?_, fun hb => ?_⟩
      · rw [if_pos hb]
      · rw [if_neg (by rw [hb]; decide)]
    · cases h
  unfold am_b at h
  split at h
  · obtain ⟨h1, rfl⟩ := am_j_ok h
    exact lv_goto hx hb hdg h1 kk
  · obtain ⟨tgt, h1, rfl, h2, h3⟩ := br h
    exact lv_if_eq hx hb hdg h1 (fun hc => by rw [← h2 (decide_eq_true hc)]; exact kk) (fun hc => by rw [← h3 (decide_eq_false hc)]; exact kk)
  · obtain ⟨tgt, h1, rfl, h2, h3⟩ := br h
    exact lv_if_ne hx hb hdg h1 (fun hc => by rw [← h2 (decide_eq_true hc)]; exact kk) (fun hc => by rw [← h3 (decide_eq_false (fun q => q hc))]; exact kk)
  · obtain ⟨tgt, h1, rfl, h2, h3⟩ := br h
    exact lv_if_lt hx hb hdg h1 (fun hc => by rw [← h2 (decide_eq_true hc)]; exact kk) (fun hc => by rw [← h3 (decide_eq_false hc)]; exact kk)
  · obtain ⟨tgt, h1, rfl, h2, h3⟩ := br h
    exact lv_if_ge hx hb hdg h1 (fun hc => by rw [← h2 (decide_eq_true hc)]; exact kk) (fun hc => by rw [← h3 (decide_eq_false hc)]; exact kk)
  · obtain ⟨tgt, h1, rfl, h2, h3⟩ := br h
    exact lv_if_gt hx hb hdg h1 (fun hc => by rw [← h2 (decide_eq_true hc)]; exact kk) (fun hc => by rw [← h3 (decide_eq_false hc)]; exact kk)
  · obtain ⟨tgt, h1, rfl, h2, h3⟩ := br h
    exact lv_if_le hx hb hdg h1 (fun hc => by rw [← h2 (decide_eq_true hc)]; exact kk) (fun hc => by rw [← h3 (decide_eq_false hc)]; exact kk)
  · obtain ⟨tgt, h1, rfl, h2, h3⟩ := br h
    exact lv_icmp_eq hx hb hdg h1 (fun hc => by rw [← h2 (decide_eq_true hc)]; exact kk) (fun hc => by rw [← h3 (decide_eq_false hc)]; exact kk)
  · obtain ⟨tgt, h1, rfl, h2, h3⟩ := br h
    exact lv_icmp_ne hx hb hdg h1 (fun hc => by rw [← h2 (decide_eq_true hc)]; exact kk) (fun hc => by rw [← h3 (decide_eq_false (fun q => q hc))]; exact kk)
  · obtain ⟨tgt, h1, rfl, h2, h3⟩ := br h
    exact lv_icmp_lt hx hb hdg h1 (fun hc => by rw [← h2 (decide_eq_true hc)]; exact kk) (fun hc => by rw [← h3 (decide_eq_false hc)]; exact kk)
  · obtain ⟨tgt, h1, rfl, h2, h3⟩ := br h
    exact lv_icmp_ge hx hb hdg h1 (fun hc => by rw [← h2 (decide_eq_true hc)]; exact kk) (fun hc => by rw [← h3 (decide_eq_false hc)]; exact kk)
  · obtain ⟨tgt, h1, rfl, h2, h3⟩ := br h
    exact lv_icmp_gt hx hb hdg h1 (fun hc => by rw [← h2 (decide_eq_true hc)]; exact kk) (fun hc => by rw [← h3 (decide_eq_false hc)]; exact kk)
  · obtain ⟨tgt, h1, rfl, h2, h3⟩ := br h
    exact lv_icmp_le hx hb hdg h1 (fun hc => by rw [← h2 (decide_eq_true hc)]; exact kk) (fun hc => by rw [← h3 (decide_eq_false hc)]; exact kk)
  · split at h
    · rename_i h0
      obtain ⟨h1, rfl⟩ := am_j_ok h
      exact lv_tableOut hx hb hdg h0 h1 kk
    · rename_i h0
      split at h
      · rename_i off ho2
        obtain ⟨h1, rfl⟩ := am_j_ok h
        exact lv_tableIn hx hb hdg (fun q => h0 (Or.inl q)) (fun q => h0 (Or.inr q)) ho2 h1 kk
      · cases h
  · split at h
    · rename_i h0
      obtain ⟨h1, rfl⟩ := am_j_ok h
      exact lv_lookup hx hb hdg h0 rfl h1 kk
    · cases h
  · cases h
end AMF
end
section
/-! ===== the instructions that read and write cells ===== -/
def am_sz : am_L → Nat
  | .inl c => am_nf c
  | .inr t => t.2
def am_sl (M : am_M) : Nat := (M.1.map am_sz).sum
theorem am_sl_new (M : am_M) (x : am_L) : am_sl (am_new M x) = am_sl M + am_sz x := by
  simp [am_sl, am_new]
theorem am_len_new (M : am_M) (x : am_L) : (am_new M x).1.length = M.1.length + 1 := by
  simp [am_new]
theorem am_sv_w {B : Nat} {X : Nat → Value} {cA : Nat → ClassId} {M M1 : am_M} {c a j : Nat} {v : Value} (h : am_sv M c a j v = some M1) (ha : M.1[a]? = some (.inl c)) (hj : j < am_nf c) :
    (am_w B cA M).set a (B + a, .inr (c, ((List.range (am_nf c)).map (fun i => am_gr B M c a i)).set j (am_v B X v))) = am_w B cA M1 ∧ M1.1 = M.1 ∧ narrow (am_ty c j) (am_v B X v) = am_v B X v ∧ fits (am_ty c j) (am_v B X v) = true := by
  have key : ∀ N : am_M, (∀ x, (am_w B cA M).set a (B + a, am_ca B cA N a x) = (am_w B cA M).set a (B + a, am_ca B cA N a x)) → am_gr B N c a j = am_v B X v → (∀ i, i ≠ j → am_gr B N c a i = am_gr B M c a i) → (am_w B cA M).set a (B + a, am_ca B cA N a (.inl c)) = am_w B cA N → (am_w B cA M).set a (B + a, .inr (c, ((List.range (am_nf c)).map (fun i => am_gr B M c a i)).set j (am_v B X v))) = am_w B cA N := by
    intro N _ h1 h2 h3
    rw [am_fs_set hj h1 h2]
    exact h3
  unfold am_sv at h
  split at h
  · rename_i x hty
    cases h
    refine ⟨key _ (fun _ => rfl) ?_ (fun i hi => ?_) (am_w_uL _ ha), rfl, ?_, ?_⟩
    · simp only [am_gr, hty, am_uL, am_sL_eq, am_v]; simp [vp_updL]
    · simp only [am_gr, am_rf, am_uL, am_sL_eq]
      cases am_ty c i <;> simp [vp_updL, hi]
    · rw [hty]; rfl
    · rw [hty]; rfl
  · rename_i x b hty
    by_cases hq : c = 0 ∧ j = 0
    · rw [if_pos hq] at h
      cases h
      refine ⟨key _ (fun _ => rfl) ?_ (fun i hi => ?_) (am_w_uA _ ha), rfl, ?_, ?_⟩
      · simp only [am_gr, hty, am_rf, if_pos hq, am_uA, am_v]; simp [va_rf]
      · simp only [am_gr, am_rf, am_uA]
        have : ¬ (c = 0 ∧ i = 0) := fun q => hi (by omega)
        simp only [if_neg this]
      · rw [hty]; rfl
      · rw [hty]; rfl
    · rw [if_neg hq] at h
      cases h
      refine ⟨key _ (fun _ => rfl) ?_ (fun i hi => ?_) (am_w_uR _ _ ha), rfl, ?_, ?_⟩
      · simp only [am_gr, hty, am_rf, if_neg hq, am_uR, am_v, am_rl_eq]; simp [va_rf]
      · simp only [am_gr, am_rf, am_uR, am_rl_ne (Or.inr hi)]
      · rw [hty]; rfl
      · rw [hty]; rfl
  · rename_i x b hty
    by_cases hq : c = 0 ∧ j = 0
    · rw [if_pos hq] at h
      cases h
      refine ⟨key _ (fun _ => rfl) ?_ (fun i hi => ?_) (am_w_uA _ ha), rfl, ?_, ?_⟩
      · simp only [am_gr, hty, am_rf, if_pos hq, am_uA, am_v]; simp [va_rf]
      · simp only [am_gr, am_rf, am_uA]
        have : ¬ (c = 0 ∧ i = 0) := fun q => hi (by omega)
        simp only [if_neg this]
      · rw [hty]; rfl
      · rw [hty]; rfl
    · rw [if_neg hq] at h
      cases h
      refine ⟨key _ (fun _ => rfl) ?_ (fun i hi => ?_) (am_w_uR _ _ ha), rfl, ?_, ?_⟩
      · simp only [am_gr, hty, am_rf, if_neg hq, am_uR, am_v, am_rl_eq]; simp [va_rf]
      · simp only [am_gr, am_rf, am_uR, am_rl_ne (Or.inr hi)]
      · rw [hty]; rfl
      · rw [hty]; rfl
  · rename_i x hty
    cases h
    refine ⟨key _ (fun _ => rfl) ?_ (fun i hi => ?_) (am_w_uI _ ha), rfl, ?_, ?_⟩
    · simp only [am_gr, hty, am_uI, am_sI_eq, am_v]; simp [upd]
    · simp only [am_gr, am_rf, am_uI, am_sI_eq]
      cases am_ty c i <;> simp [upd, hi]
    · rw [hty]; rfl
    · rw [hty]; rfl
  · rename_i x hty
    split at h
    · rename_i hx
      cases h
      refine ⟨key _ (fun _ => rfl) ?_ (fun i hi => ?_) (am_w_uI _ ha), rfl, ?_, ?_⟩
      · simp only [am_gr, hty, am_uI, am_sI_eq, am_v]; simp [upd]
      · simp only [am_gr, am_rf, am_uI, am_sI_eq]
        cases am_ty c i <;> simp [upd, hi]
      · rw [hty]; rcases hx with rfl | rfl <;> rfl
      · rw [hty]; rcases hx with rfl | rfl <;> rfl
    · cases h
  · cases h
section AMM
variable {p : Program} {l : Launch} {e : Env} {R : Room} {s : State} {m : MethodId} {args : Array Value} {below : List Frame} {meth : Method} {c : Code} {H : Heap} {locs : List Loc} {cells slots : Nat} {Q : State → Prop}
variable {L : Nat} {xs : Nat → Int32} {B : Nat} {X : Nat → Value} {D : va_G} {cA : Nat → ClassId} {k d pc n0 : Nat} {ls : Array Slot} {M M' : am_M}
theorem am_size {g : JFrame} (kk : H.size ≤ s.heap.size + cells → W p l e R s m args below meth c H locs cells slots Q g) : W p l e R s m args below meth c H locs cells slots Q g :=
  fun T hT X => kk (by rw [← hT]; exact X.heapSize) T hT X
theorem am_szeq (hP : va_P D vwCl (am_w B cA M) H) (hS : va_S (fun q => B ≤ q) s.heap H locs) (h0 : s.heap.size = B + n0) (hn : n0 ≤ M.1.length) (hu : H.size ≤ s.heap.size + (M.1.length - n0)) : H.size = B + M.1.length := by
  have h1 := hS.1
  by_cases e : M.1.length = n0
  · omega
  · have hlt : M.1.length - 1 < M.1.length := by omega
    have := (hP (M.1.length - 1) _ (am_w_some (List.getElem?_eq_getElem hlt))).lt
    dsimp only at this
    omega
/-- a new cell is the next one -/
theorem am_fresh {q : Nat} {E : va_E} {H1 : Heap} {locs1 : List Loc} (hP : va_P D vwCl (am_w B cA M ++ [(q, E)]) H1) (hD : va_D (fun q => B ≤ q) (am_w B cA M ++ [(q, E)])) (h0 : s.heap.size = B + n0) (hn : n0 ≤ M.1.length) (hu : H1.size ≤ s.heap.size + (M.1.length - n0 + 1)) : q = B + M.1.length := by
  have hlen : (am_w B cA M).length = M.1.length := by simp [am_w]
  have hq : (am_w B cA M ++ [(q, E)])[M.1.length]? = some (q, E) := by
    rw [List.getElem?_append_right (by rw [hlen]; exact Nat.le_refl _), hlen]; simp
  have h1 := (hP _ _ hq).lt
  have h2 : B ≤ q := hD.2 _ _ hq
  dsimp only at h1
  by_cases e : q = B + M.1.length
  · exact e
  · exfalso
    have hk : q - B < M.1.length := by omega
    have hx : (am_w B cA M ++ [(q, E)])[q - B]? = some (B + (q - B), am_ca B cA M (q - B) M.1[q - B]) := by
      rw [List.getElem?_append_left (by rw [hlen]; exact hk)]
      exact am_w_some (List.getElem?_eq_getElem hk)
    have := hD.1 _ _ _ _ hx hq (by dsimp only; omega)
    omega
theorem am_ar_0 : am_ar B M k 0 = .inl (M.2.1 k) := rfl
theorem am_fsk {cn a j : Nat} (h : j < am_nf cn) : ((List.range (am_nf cn)).map (fun i => am_gr B M cn a i))[j]? = some (am_gr B M cn a j) := by
  simp [h]
theorem am_okF_use {own : String} {i a1 a2 a3 : Nat} (h : am_okF own i a1 a2 a3 = true) : ∃ C T N, vwCl[a1]? = some (C, T, N) ∧ a2 < N ∧ am_lf own i a3 (T a2).1 (T a2).2.1 (T a2).2.2.1 = true := by
  unfold am_okF at h
  split at h
  · rename_i C T N hc
    rw [Bool.and_eq_true] at h
    exact ⟨C, T, N, hc, of_decide_eq_true h.1, h.2⟩
  · cases h
theorem am_getf (hT : am_T) {i a1 a2 a3 a : Nat} {rest : List Value} (hC : am_C L xs B X D cA p R s m args meth c k d n0) (ha1 : ¬ a1 = 100) (hok : am_ok k (pc, .getfield i, a1, a2, a3) = true) (hP : va_P D vwCl (am_w B cA M) H) (ha : M.1[a]? = some (.inl a1)) (hlt : a2 < am_nf a1)
    (kk : W p l e R s m args below meth c H locs cells slots Q (F0 m (pc + 3) ls (am_v B X (am_gv M a1 a a2) :: rest))) : W p l e R s m args below meth c H locs cells slots Q (F0 m pc ls (.ref (B + a) :: rest)) := by
  obtain ⟨hx, hb, hml, hown, hts, hXV, hX, hK, hBs, hR, hin⟩ := hC
  obtain ⟨hdg, ho⟩ := am_ok_dec hok
  dsimp only at hdg ho
  simp only [am_okI, if_neg ha1] at ho
  obtain ⟨C, T, N, hc, hN, hlf⟩ := am_okF_use ho
  obtain ⟨eN, hty, hnm, hws, -, -, -⟩ := hT.1 _ _ _ _ hc
  rw [am_v_gv] at kk
  rcases am_lf_use hlf hts hX with ⟨-, hl⟩ | hl
  · exact va_get (D := D) (C := C) (T := T) (N := N) hx hb hts hws hown hK hP a (am_w_some ha) hc a2 hN hl (fun _ h9 => h9) (am_fsk hlt) hdg kk
  · exact va_getN (D := D) (C := C) (T := T) (N := N) hx hb hts hws hown hK hP a (am_w_some ha) hc a2 hN hl (fun _ h9 => h9) (am_fsk hlt) hdg kk
theorem am_putf (hT : am_T) {i a1 a2 a3 a : Nat} {v : Value} {rest : List Value} (hC : am_C L xs B X D cA p R s m args meth c k d n0) (hok : am_ok k (pc, .putfield i, a1, a2, a3) = true) (hP : va_P D vwCl (am_w B cA M) H) (hS : va_S (fun q => B ≤ q) s.heap H locs) (ha : M.1[a]? = some (.inl a1)) (hlt : a2 < am_nf a1) (hsv : am_sv M a1 a a2 v = some M')
    (kk : ∀ H1 locs1, va_P D vwCl (am_w B cA M') H1 → va_S (fun q => B ≤ q) s.heap H1 locs1 → W p l e R s m args below meth c H1 locs1 cells slots Q (F0 m (pc + 3) ls rest)) : W p l e R s m args below meth c H locs cells slots Q (F0 m pc ls (am_v B X v :: .ref (B + a) :: rest)) := by
  obtain ⟨hx, hb, hml, hown, hts, hXV, hX, hK, hBs, hR, hin⟩ := hC
  obtain ⟨hdg, ho⟩ := am_ok_dec hok
  dsimp only at hdg ho
  simp only [am_okI, am_okP] at ho
  split at ho
  · rename_i C T N hc
    rw [Bool.and_eq_true, Bool.and_eq_true] at ho
    obtain ⟨⟨h1, h2⟩, h3⟩ := ho
    have hN := of_decide_eq_true h1
    obtain ⟨eN, hty, hnm, hws, -, -, -⟩ := hT.1 _ _ _ _ hc
    obtain ⟨e1, e2, e3, e4⟩ := am_sv_w (B := B) (X := X) (cA := cA) hsv ha hlt
    have hl9 : a2 < ((List.range (am_nf a1)).map (fun i => am_gr B M a1 a i)).length := by simpa using hlt
    cases hf : (T a2).2.2.2 with
    | false =>
      rcases am_lf_use h2 hts hX with ⟨-, hl⟩ | hl
      · refine va_put (D := D) (C := C) (T := T) (N := N) hx hb hts hws (am_ty a1) hty hnm hown hK hP (am_D B cA M) hS a (am_w_some ha) hc a2 hN hl (fun _ h9 => h9) hf (hty a2 hN) e3 e4 hl9 hdg (fun H1 locs1 hP1 _ hS1 => kk H1 locs1 ?_ hS1)
        rw [← e1]; exact hP1
      · refine va_putN (D := D) (C := C) (T := T) (N := N) hx hb hts hws (am_ty a1) hty hnm hown hK hP (am_D B cA M) hS a (am_w_some ha) hc a2 hN hl (fun _ h9 => h9) hf (hty a2 hN) e3 e4 hl9 hdg (fun H1 locs1 hP1 _ hS1 => kk H1 locs1 ?_ hS1)
        rw [← e1]; exact hP1
    | true =>
      rw [hf] at h3
      simp only [Bool.not_true, Bool.false_or, Bool.and_eq_true, decide_eq_true_eq] at h3
      obtain ⟨⟨g1, g2⟩, g3⟩ := h3
      have hl : (Cond.fieldLink (am_y k).cls i (T a2).1 (T a2).2.1 (T a2).2.2.1).before args s = true := by
        unfold am_lf at h2
        rw [if_pos g1] at h2
        exact hts _ (am_gd_in h2)
      refine va_putF (D := D) (C := C) (T := T) (N := N) hx hb hts hws (am_ty a1) hty hnm hown hK hP (am_D B cA M) hS a (am_w_some ha) hc a2 hN hl (fun _ h9 => h9) hf (hin g2) g3 (hty a2 hN) e3 e4 hl9 hdg (fun H1 locs1 hP1 _ hS1 => kk H1 locs1 ?_ hS1)
      rw [← e1]; exact hP1
  · cases ho
end AMM
end
section
/-! ===== arrays, new cells, copies; the family am_m whole ===== -/
section AMN
variable {p : Program} {l : Launch} {e : Env} {R : Room} {s : State} {m : MethodId} {args : Array Value} {below : List Frame} {meth : Method} {c : Code} {H : Heap} {locs : List Loc} {cells slots : Nat} {Q : State → Prop}
variable {L : Nat} {xs : Nat → Int32} {B : Nat} {X : Nat → Value} {D : va_G} {cA : Nat → ClassId} {k d pc n0 s0 : Nat} {ls : Array Slot} {M M' : am_M}
theorem am_RA_inj {U : State} {c1 c2 : ClassId} {ty : FieldType} (h1 : va_RA U c1 ty) (h2 : va_RA U c2 ty) : c1 = c2 := by
  cases ty with
  | object C =>
    obtain ⟨_, _, -, -, -, a⟩ := h1
    obtain ⟨_, _, -, -, -, b⟩ := h2
    exact Option.some.inj (a.symm.trans b)
  | _ => exact Option.some.inj (h1.symm.trans h2)
theorem am_K_last {c1 : ClassId} {ty : FieldType} {t : Nat} (hK : va_K D vwCl (am_tys cA ++ [(c1, ty)]) s) (ht : (am_tys cA)[t]? = some (cA t, ty)) : c1 = cA t := by
  have h1 := (hK.2 6 (c1, ty) (by rfl)).2
  have hlt : t < (am_tys cA).length := (List.getElem?_eq_some_iff.mp ht).1
  have h2 := (hK.2 t (cA t, ty) (by rw [List.getElem?_append_left hlt]; exact ht)).2
  exact am_RA_inj h1 h2
/-- a new array of numbers -/
theorem am_newa (hT : am_T) {at' : ArrayType} {ty : FieldType} {t : Nat} {n : Int32} {rest : List Value} {a1 a2 a3 : Nat} (hC : am_C L xs B X D cA p R s m args meth c k d n0) (hok : am_ok k (pc, .newarray at', a1, a2, a3) = true) (hty : newarray.typeOf at' = ty) (ht : (am_tys cA)[t]? = some (cA t, ty)) (hw : Cond.arrayClass ty ∈ am_B) (hby : componentBytes ty ≤ 8)
    (hnew : ∀ c1 : ClassId, vp_cell c1 (n.toNatClampNeg, am_ar B (am_new M (.inr (t, n.toNatClampNeg))) M.1.length t) = arrV c1 n.toNatClampNeg (fun _ => defaultValue ty))
    (hP : va_P D vwCl (am_w B cA M) H) (hS : va_S (fun q => B ≤ q) s.heap H locs) (hn0 : n0 ≤ M.1.length) (hs0 : s0 ≤ am_sl M) (hn : ¬ n < 0 ∧ n.toNatClampNeg ≤ 60000)
    (hc1 : (am_new M (.inr (t, n.toNatClampNeg))).1.length - n0 ≤ R.cells) (hc2 : am_sl (am_new M (.inr (t, n.toNatClampNeg))) - s0 ≤ R.slots)
    (kk : ∀ H1 locs1, va_P D vwCl (am_w B cA (am_new M (.inr (t, n.toNatClampNeg)))) H1 → va_S (fun q => B ≤ q) s.heap H1 locs1 → W p l e R s m args below meth c H1 locs1 ((am_new M (.inr (t, n.toNatClampNeg))).1.length - n0) (am_sl (am_new M (.inr (t, n.toNatClampNeg))) - s0) Q (F0 m (pc + 2) ls (.ref (B + M.1.length) :: rest))) :
    W p l e R s m args below meth c H locs (M.1.length - n0) (am_sl M - s0) Q (F0 m pc ls (.int n :: rest)) := by
  obtain ⟨hx, hb, hml, hown, hts, hXV, hX, hK, hBs, hR, hin⟩ := hC
  obtain ⟨hdg, ho⟩ := am_ok_dec hok
  dsimp only at hdg ho
  have e1 := am_len_new M (.inr (t, n.toNatClampNeg))
  have e2 : am_sl (am_new M (.inr (t, n.toNatClampNeg))) = am_sl M + n.toNatClampNeg := am_sl_new M _
  refine va_newa hx hb (by rw [hty]; exact hts _ hw) hty hK hP (am_D B cA M) hS (fun q h => Nat.le_trans (by omega) h) (a0 := (n.toNatClampNeg, am_ar B (am_new M (.inr (t, n.toNatClampNeg))) M.1.length t)) hnew hn.1 rfl (Nat.le_trans (Nat.mul_le_mul hn.2 hby) (by omega)) (by omega) (by omega) hdg (fun q c1 H1 hK1 hP1 hD1 hS1 => am_size fun hu => ?_)
  have hq := am_fresh hP1 hD1 hBs hn0 (locs1 := locs) hu
  have hc := am_K_last hK1 ht
  subst hq
  subst hc
  refine W.cs (by omega) (by omega) (kk H1 locs ?_ hS1)
  rw [am_w_new]
  exact hP1
/-- a new array of references -/
theorem am_newq {C : String} {t i : Nat} {n : Int32} {rest : List Value} {a1 a2 a3 : Nat} (hC : am_C L xs B X D cA p R s m args meth c k d n0) (hok : am_ok k (pc, .anewarray i, a1, a2, a3) = true) (hcl : Cond.classLink (am_y k).cls i C ∈ am_B) (hao : va_AO C s) (ht : (am_tys cA)[t]? = some (cA t, .object C)) (ht4 : t = 4 ∨ t = 5)
    (hP : va_P D vwCl (am_w B cA M) H) (hS : va_S (fun q => B ≤ q) s.heap H locs) (hn0 : n0 ≤ M.1.length) (hs0 : s0 ≤ am_sl M) (hn : ¬ n < 0 ∧ n.toNatClampNeg ≤ 60000)
    (hc1 : (am_new M (.inr (t, n.toNatClampNeg))).1.length - n0 ≤ R.cells) (hc2 : am_sl (am_new M (.inr (t, n.toNatClampNeg))) - s0 ≤ R.slots)
    (kk : ∀ H1 locs1, va_P D vwCl (am_w B cA (am_new M (.inr (t, n.toNatClampNeg)))) H1 → va_S (fun q => B ≤ q) s.heap H1 locs1 → W p l e R s m args below meth c H1 locs1 ((am_new M (.inr (t, n.toNatClampNeg))).1.length - n0) (am_sl (am_new M (.inr (t, n.toNatClampNeg))) - s0) Q (F0 m (pc + 3) ls (.ref (B + M.1.length) :: rest))) :
    W p l e R s m args below meth c H locs (M.1.length - n0) (am_sl M - s0) Q (F0 m pc ls (.int n :: rest)) := by
  obtain ⟨hx, hb, hml, hown, hts, hXV, hX, hK, hBs, hR, hin⟩ := hC
  obtain ⟨hdg, ho⟩ := am_ok_dec hok
  dsimp only at hdg ho
  have e1 := am_len_new M (.inr (t, n.toNatClampNeg))
  have e2 : am_sl (am_new M (.inr (t, n.toNatClampNeg))) = am_sl M + n.toNatClampNeg := am_sl_new M _
  refine va_newq hx hb hown (hts _ hcl) hao hK hP (am_D B cA M) hS (fun q h => Nat.le_trans (by omega) h) hn.1 rfl (by omega) (by omega) (by omega) hdg (fun q c1 H1 hK1 hP1 hD1 hS1 => am_size fun hu => ?_)
  have hq := am_fresh hP1 hD1 hBs hn0 (locs1 := locs) hu
  have hc := am_K_last hK1 ht
  subst hq
  subst hc
  refine W.cs (by omega) (by omega) (kk H1 locs ?_ hS1)
  rw [am_w_new]
  have e3 : am_ca B cA (am_new M (.inr (t, n.toNatClampNeg))) M.1.length (.inr (t, n.toNatClampNeg)) = .inl (cA t, n.toNatClampNeg, .inr (.inr (.inr (.inr (fun _ => none))))) := by
    have ht1 : ¬ t = 1 := by omega
    simp only [am_ca, am_ar, if_neg ht1, if_pos ht4, am_new, am_rl_feq, Option.map_none]
  rw [e3]
  exact hP1
/-- a new object -/
theorem am_newo (hT : am_T) {i a1 a2 a3 : Nat} {rest : List Value} (hC : am_C L xs B X D cA p R s m args meth c k d n0) (hok : am_ok k (pc, .new i, a1, a2, a3) = true) (ha1 : a1 < 13)
    (hP : va_P D vwCl (am_w B cA M) H) (hS : va_S (fun q => B ≤ q) s.heap H locs) (hn0 : n0 ≤ M.1.length) (hs0 : s0 ≤ am_sl M)
    (hc1 : (am_new M (.inl a1)).1.length - n0 ≤ R.cells) (hc2 : am_sl (am_new M (.inl a1)) - s0 ≤ R.slots)
    (kk : ∀ H1 locs1, va_P D vwCl (am_w B cA (am_new M (.inl a1))) H1 → va_S (fun q => B ≤ q) s.heap H1 locs1 → W p l e R s m args below meth c H1 locs1 ((am_new M (.inl a1)).1.length - n0) (am_sl (am_new M (.inl a1)) - s0) Q (F0 m (pc + 3) ls (.ref (B + M.1.length) :: rest))) :
    W p l e R s m args below meth c H locs (M.1.length - n0) (am_sl M - s0) Q (F0 m pc ls rest) := by
  obtain ⟨hx, hb, hml, hown, hts, hXV, hX, hK, hBs, hR, hin⟩ := hC
  obtain ⟨hdg, ho⟩ := am_ok_dec hok
  dsimp only at hdg ho
  simp only [am_okI, if_pos ha1] at ho
  split at ho
  · rename_i C T N hc
    obtain ⟨eN, hty, hnm, hws, hins, hini, hfd⟩ := hT.1 _ _ _ _ hc
    subst eN
    have e1 := am_len_new M (.inl a1)
    have e2 : am_sl (am_new M (.inl a1)) = am_sl M + am_nf a1 := am_sl_new M _
    refine va_new hx hb hts hws (am_ty a1) hty hown (hts _ (am_gd_in ho)) (hts _ hins) (hts _ hini) hK hP (am_D B cA M) hS (fun q h => Nat.le_trans (by omega) h) hc (fs := (List.range (am_nf a1)).map (fun j => am_gr B (am_new M (.inl a1)) a1 M.1.length j)) (fun j hj => ?_) (by omega) (by omega) hdg (fun q H1 hP1 hD1 hS1 => am_size fun hu => ?_)
    · have : vp_V ((List.range (am_nf a1)).map (fun j => am_gr B (am_new M (.inl a1)) a1 M.1.length j)) j = am_gr B (am_new M (.inl a1)) a1 M.1.length j := by
        simp [vp_V, hj]
      rw [this]
      simp only [am_gr, am_rf, am_new, am_sI_eq, am_sL_eq, am_rl_feq, if_true, ite_self, Option.map_none]
      obtain ⟨f1, f2⟩ := hfd j hj
      cases hq : am_ty a1 j <;> first | rfl | exact absurd hq f1 | exact absurd hq f2
    · have hq := am_fresh hP1 hD1 hBs hn0 (locs1 := locs) hu
      subst hq
      refine W.cs (by omega) (by omega) (kk H1 locs ?_ hS1)
      rw [am_w_new]
      exact hP1
  · cases ho
theorem am_tys_0 : (am_tys cA)[0]? = some (cA 0, .int) := rfl
theorem am_ext_T {h t n : Nat} {f : Nat → Int32} (hX : am_X L xs B X s s.heap) (he : am_ext L xs h = some (t, n, f)) : ∃ a, X h = .ref a ∧ ((t = 0 ∧ va_T .int a n (fun j => .int (f j)) (fun q => B ≤ q) s s.heap) ∨ (t = 2 ∧ va_T .byte a n (fun j => .int (f j)) (fun q => B ≤ q) s s.heap)) := by
  obtain ⟨tS, tb, adK, adV, ⟨a1, a2, a3⟩, -, ⟨c1, c2, -⟩, -, -, f1, f2⟩ := hX
  unfold am_ext at he
  split at he
  · rename_i h0
    simp only [Option.some.injEq, Prod.mk.injEq] at he
    obtain ⟨rfl, rfl, rfl⟩ := he
    exact ⟨tS, by rw [h0]; exact a1, Or.inl ⟨rfl, a3⟩⟩
  · split at he
    · rename_i h0
      simp only [Option.some.injEq, Prod.mk.injEq] at he
      obtain ⟨rfl, rfl, rfl⟩ := he
      exact ⟨tb, by rw [h0]; exact f1, Or.inl ⟨rfl, f2⟩⟩
    · split at he
      · rename_i h0
        simp only [Option.some.injEq, Prod.mk.injEq] at he
        obtain ⟨rfl, rfl, rfl⟩ := he
        have h1 := (c1 (h - 1001) (by omega)).2
        rw [show 1001 + (h - 1001) = h by omega] at h1
        exact ⟨_, h1, Or.inr ⟨rfl, (c2 (h - 1001) (by omega)).2.2.2⟩⟩
      · cases he
theorem am_up_map (B : Nat) (R : am_Rl) (a i b : Nat) : (fun j => Option.map (fun b => B + b) (am_rl (((a, i), b) :: R) a j)) = va_up (fun j => Option.map (fun b => B + b) (am_rl R a j)) i (some (B + b)) := by
  funext j
  simp only [va_up]
  by_cases h : j = i
  · subst h
    rw [if_pos rfl, am_rl_eq]; rfl
  · rw [if_neg h, am_rl_ne (Or.inr h)]
theorem am_u32b {u : UInt32} (h : u.toNat < 29) : (UInt32.ofNat (u.toNat + 1000)).toNat = u.toNat + 1000 := am_u32 (by omega)
set_option maxHeartbeats 4000000 in
theorem am_m_ok (hT : am_T) {ins : Instr} {a1 a2 a3 : Nat} {st st' : List Value} (hC : am_C L xs B X D cA p R s m args meth c k d n0) (hok : am_ok k (pc, ins, a1, a2, a3) = true) (h : am_m L xs d ins a1 a2 st M = some (st', M')) (hls : ls.size = am_ml k)
    (hP : va_P D vwCl (am_w B cA M) H) (hS : va_S (fun q => B ≤ q) s.heap H locs) (hn0 : n0 ≤ M.1.length) (hs0 : s0 ≤ am_sl M) (hc1 : M'.1.length - n0 ≤ R.cells) (hc2 : am_sl M' - s0 ≤ R.slots)
    (kk : ∀ H1 locs1, va_P D vwCl (am_w B cA M') H1 → va_S (fun q => B ≤ q) s.heap H1 locs1 → W p l e R s m args below meth c H1 locs1 (M'.1.length - n0) (am_sl M' - s0) Q (F0 m (pc + am_len ins a1) ls (st'.map (am_v B X)))) : W p l e R s m args below meth c H locs (M.1.length - n0) (am_sl M - s0) Q (F0 m pc ls (st.map (am_v B X))) := by
  have hC' := hC
  obtain ⟨hx, hb, hml, hown, hts, hXV, hX, hK, hBs, hR, hin⟩ := hC
  obtain ⟨hdg, ho⟩ := am_ok_dec hok
  dsimp only at hdg ho
  unfold am_m at h
  split at h
  · split at h
    · rename_i cn ha
      split at h
      · rename_i hq
        obtain ⟨rfl, hlt⟩ := hq
        cases h
        have h100 : ¬ cn = 100 := by
          intro q; subst q; exact absurd hlt (by rw [show am_nf 100 = 0 from rfl]; exact Nat.not_lt_zero _)
        exact am_getf hT hC' h100 hok hP ha hlt (kk H locs hP hS)
      · cases h
    · cases h
  · split at h
    · rename_i u st hq
      obtain ⟨rfl, hu1, hu2⟩ := hq
      have kk1 := kk H locs
      obtain ⟨tS, tb, adK, adV, -, -, ⟨c1, c2, -⟩, -⟩ := id hX
      have hk1 := (c1 (u.toNat - 1) (by omega)).1
      have hv1 := (c1 (u.toNat - 1) (by omega)).2
      rw [show 1 + (u.toNat - 1) = u.toNat by omega] at hk1
      rw [show 1001 + (u.toNat - 1) = u.toNat + 1000 by omega] at hv1
      obtain ⟨o1, o2, o3, o4⟩ := c2 (u.toNat - 1) (by omega)
      split at h
      · rename_i h2
        subst h2
        cases h
        simp only [List.map_cons, am_v, am_u32b hu2, hv1] at kk1
        simp only [List.map_cons, am_v, hk1]
        simp only [am_okI, if_true] at ho
        exact vk_getf hx hb o3 hS hown (hts _ (am_gd_in ho)) (fun _ h9 => h9) hdg (kk1 hP hS)
      · split at h
        · rename_i h3 h2
          subst h2
          cases h
          simp only [List.map_cons, am_v] at kk1
          simp only [List.map_cons, am_v, hk1]
          simp only [am_okI, if_true, Nat.one_ne_zero, if_false] at ho
          exact vk_getf hx hb o2 hS hown (hts _ (am_gd_in ho)) (fun _ h9 => h9) hdg (kk1 hP hS)
        · cases h
    · cases h
  · split at h
    · rename_i cn ha
      split at h
      · rename_i hq
        obtain ⟨rfl, hlt⟩ := hq
        split at h
        · rename_i M1 hsv
          cases h
          have e1 := (am_sv_w (B := B) (X := X) (cA := cA) hsv ha hlt).2.1
          refine am_putf hT hC' hok hP hS ha hlt hsv (fun H1 locs1 hP1 hS1 => ?_)
          have := kk H1 locs1 hP1 hS1
          rw [show am_sl M' = am_sl M by simp only [am_sl, e1], e1] at this
          exact this
        · cases h
      · cases h
    · cases h
  · obtain ⟨tS, tb, adK, adV, ⟨x1, x2, x3⟩, ⟨y1, y2⟩, -⟩ := id hX
    have kk1 := kk H locs
    split at h
    · rename_i h0
      subst h0
      cases h
      simp only [List.map_cons, am_v] at kk1
      simp only [am_okI, if_true] at ho
      have kk1 := kk1 hP hS
      rw [show X (UInt32.toNat 0) = .ref tS from x1] at kk1
      rcases am_lf_use ho hts hX with ⟨-, hl⟩ | hl
      · exact va_gets hx hb x2 hS hown hl (fun _ h9 => h9) hdg kk1
      · exact va_getsN hx hb x2 hS hown hl (fun _ h9 => h9) hdg kk1
    · split at h
      · rename_i h0
        subst h0
        cases h
        simp only [am_okI, Nat.one_ne_zero, if_false, if_true] at ho
        exact va_gets hx hb y1 hS hown (hts _ (am_gd_in ho)) (fun _ h9 => h9) hdg (kk1 hP hS)
      · split at h
        · rename_i h0
          subst h0
          cases h
          simp [am_okI] at ho
          exact va_gets hx hb y2 hS hown (hts _ (am_gd_in ho)) (fun _ h9 => h9) hdg (kk1 hP hS)
        · cases h
  · split at h
    · rename_i n ha
      split at h
      · rename_i hi
        cases h
        exact va_iald hx hb hK hP _ 0 (am_w_some ha) rfl hi hdg (kk H locs hP hS)
      · cases h
    · cases h
  · split at h
    · rename_i n f he
      split at h
      · rename_i hi
        cases h
        obtain ⟨a, hXa, hTa⟩ := am_ext_T hX he
        rcases hTa with ⟨-, hTa⟩ | ⟨q, -⟩
        · simp only [List.map_cons, am_v, hXa]
          exact va_ti hx hb hTa hS hi rfl hdg (kk H locs hP hS)
        · cases q
      · cases h
    · cases h
  · split at h
    · rename_i n ha
      split at h
      · rename_i hi
        cases h
        exact va_bald hx hb hK hP _ 2 (am_w_some ha) rfl hi hdg (kk H locs hP hS)
      · cases h
    · rename_i n ha
      split at h
      · rename_i hi
        cases h
        exact va_zald hx hb hK hP _ 3 (am_w_some ha) rfl hi hdg (kk H locs hP hS)
      · cases h
    · cases h
  · split at h
    · rename_i n f he
      split at h
      · rename_i hi
        cases h
        obtain ⟨a, hXa, hTa⟩ := am_ext_T hX he
        rcases hTa with ⟨q, -⟩ | ⟨-, hTa⟩
        · cases q
        · simp only [List.map_cons, am_v, hXa]
          exact va_tb hx hb hTa hS hi rfl hdg (kk H locs hP hS)
      · cases h
    · cases h
  · split at h
    · rename_i n ha
      split at h
      · rename_i hi
        cases h
        exact va_lald hx hb hK hP _ 1 (am_w_some ha) rfl hi hdg (kk H locs hP hS)
      · cases h
    · cases h
  · split at h
    · rename_i n ha
      split at h
      · rename_i hi
        cases h
        have kk1 := kk H locs hP hS
        simp only [List.map_cons, am_v_rf] at kk1
        exact va_aldq hx hb hK hP _ 4 (am_w_some ha) rfl hi hdg kk1
      · cases h
    · rename_i n ha
      split at h
      · rename_i hi
        cases h
        have kk1 := kk H locs hP hS
        simp only [List.map_cons, am_v_rf] at kk1
        exact va_aldq hx hb hK hP _ 5 (am_w_some ha) rfl hi hdg kk1
      · cases h
    · cases h
  · split at h
    · rename_i n ha
      split at h
      · rename_i hi
        cases h
        refine va_iast hx hb hK hP (am_D B cA M) hS _ 0 (am_w_some ha) rfl hi hdg (fun H1 locs1 hP1 _ hS1 => kk H1 locs1 ?_ hS1)
        rw [← am_w_uI _ ha]
        simp only [am_ca, am_ar, am_uI, am_sI_eq]
        exact hP1
      · cases h
    · cases h
  · split at h
    · rename_i n ha
      split at h
      · rename_i hi
        cases h
        refine va_bast hx hb hK hP (am_D B cA M) hS _ 2 (am_w_some ha) rfl hi hdg (fun H1 locs1 hP1 _ hS1 => kk H1 locs1 ?_ hS1)
        rw [← am_w_uI _ ha]
        simp only [am_ca, am_ar, am_uI, am_sI_eq]
        exact hP1
      · cases h
    · rename_i n ha
      split at h
      · rename_i hi
        cases h
        refine va_zast hx hb hK hP (am_D B cA M) hS _ 3 (am_w_some ha) rfl hi hdg (fun H1 locs1 hP1 _ hS1 => kk H1 locs1 ?_ hS1)
        rw [← am_w_uI _ ha]
        simp only [am_ca, am_ar, am_uI, am_sI_eq]
        exact hP1
      · cases h
    · cases h
  · split at h
    · rename_i n ha
      split at h
      · rename_i hi
        cases h
        refine va_last hx hb hK hP (am_D B cA M) hS _ 1 (am_w_some ha) rfl hi hdg (fun H1 locs1 hP1 _ hS1 => kk H1 locs1 ?_ hS1)
        rw [← am_w_uL _ ha]
        simp only [am_ca, am_ar, am_uL, am_sL_eq]
        exact hP1
      · cases h
    · cases h
  · split at h
    · rename_i n ha hb2
      split at h
      · rename_i hi
        cases h
        refine va_astq hx hb hK hP (am_D B cA M) hS _ 4 _ 10 (am_w_some ha) rfl (am_w_some hb2) rfl hi hdg (fun H1 locs1 hP1 _ hS1 => kk H1 locs1 ?_ hS1)
        rw [← am_w_uR _ _ ha]
        simp only [am_ca, am_ar, am_uR]
        rw [am_up_map]
        exact hP1
      · cases h
    · rename_i n ha hb2
      split at h
      · rename_i hi
        cases h
        refine va_astq hx hb hK hP (am_D B cA M) hS _ 5 _ 7 (am_w_some ha) rfl (am_w_some hb2) rfl hi hdg (fun H1 locs1 hP1 _ hS1 => kk H1 locs1 ?_ hS1)
        rw [← am_w_uR _ _ ha]
        simp only [am_ca, am_ar, am_uR]
        rw [am_up_map]
        exact hP1
      · cases h
    · cases h
  · split at h
    · rename_i t n ha
      split at h
      · rename_i ht
        cases h
        have kk1 := kk H locs hP hS
        have hw := am_w_some (B := B) (cA := cA) ha
        rcases (show t = 0 ∨ t = 1 ∨ t = 2 ∨ t = 3 ∨ t = 4 ∨ t = 5 by omega) with rfl | rfl | rfl | rfl | rfl | rfl
        · exact va_alen hx hb hK hP _ 0 hw rfl rfl hdg kk1
        · exact va_alen hx hb hK hP _ 1 hw rfl rfl hdg kk1
        · exact va_alen hx hb hK hP _ 2 hw rfl rfl hdg kk1
        · exact va_alen hx hb hK hP _ 3 hw rfl rfl hdg kk1
        · exact va_alen hx hb hK hP _ 4 hw rfl rfl hdg kk1
        · exact va_alen hx hb hK hP _ 5 hw rfl rfl hdg kk1
      · cases h
    · cases h
  · split at h
    · rename_i n f he
      cases h
      obtain ⟨a, hXa, hTa⟩ := am_ext_T hX he
      simp only [List.map_cons, am_v, hXa]
      rcases hTa with ⟨-, hTa⟩ | ⟨-, hTa⟩
      · exact va_tlen hx hb hTa hS rfl hdg (kk H locs hP hS)
      · exact va_tlen hx hb hTa hS rfl hdg (kk H locs hP hS)
    · cases h
  · split at h
    · rename_i hq
      cases h
      exact am_newo hT hC' hok hq hP hS hn0 hs0 hc1 hc2 kk
    · cases h
  · split at h
    · rename_i hq
      cases h
      exact am_newa hT hC' hok (t := 0) rfl rfl (hT.2 (.arrayClass .int) (by simp)) (by decide) (fun c1 => by simp only [am_ar, am_new, am_sI_eq]; rfl) hP hS hn0 hs0 hq hc1 hc2 kk
    · cases h
  · split at h
    · rename_i hq
      cases h
      exact am_newa hT hC' hok (t := 1) rfl rfl (hT.2 (.arrayClass .long) (by simp)) (by decide) (fun c1 => by simp only [am_ar, am_new, am_sL_eq]; rfl) hP hS hn0 hs0 hq hc1 hc2 kk
    · cases h
  · split at h
    · rename_i hq
      cases h
      exact am_newa hT hC' hok (t := 2) rfl rfl (hT.2 (.arrayClass .byte) (by simp)) (by decide) (fun c1 => by simp only [am_ar, am_new, am_sI_eq]; rfl) hP hS hn0 hs0 hq hc1 hc2 kk
    · cases h
  · split at h
    · rename_i hq
      cases h
      exact am_newa hT hC' hok (t := 3) rfl rfl (hT.2 (.arrayClass .boolean) (by simp)) (by decide) (fun c1 => by simp only [am_ar, am_new, am_sI_eq]; rfl) hP hS hn0 hs0 hq hc1 hc2 kk
    · cases h
  · split at h
    · rename_i hq
      cases h
      obtain ⟨h4, hq⟩ := hq
      obtain ⟨tS, tb, adK, adV, -, -, -, -, ⟨ao1, ao2⟩, -⟩ := id hX
      rcases h4 with rfl | rfl
      · simp only [am_okI, if_true] at ho
        exact am_newq hC' hok (am_gd_in ho) ao1 (t := 4) rfl (Or.inl rfl) hP hS hn0 hs0 hq hc1 hc2 kk
      · simp [am_okI] at ho
        exact am_newq hC' hok (am_gd_in ho) ao2 (t := 5) rfl (Or.inr rfl) hP hS hn0 hs0 hq hc1 hc2 kk
    · cases h
  · split at h
    · rename_i hq
      obtain ⟨rfl, hd0, hcat⟩ := hq
      cases h
      simp only [am_okI, if_true] at ho
      have h9 := am_cat_map (B := B) hXV st'
      exact W.objInit hx hb hown (hts _ (am_gd_in ho)) (hts _ (hT.2 _ (by simp))) (hts _ (hT.2 _ (by simp))) rfl (by rw [hml]; exact hls) rfl hdg (by omega) (by show 2 * 0 + _ + 12 ≤ _; omega) (kk H locs hP hS)
    · cases h
  · split at h
    · rename_i hd0
      unfold am_is at h
      split at h
      · rename_i h0
        subst h0
        simp only [am_okI, if_true] at ho
        unfold am_cp at h
        split at h
        · split at h
          · rename_i hq
            obtain ⟨hcat, h1, h2, h3⟩ := hq
            split at h
            · rename_i na nb ha hb2
              split at h
              · rename_i hr
                cases h
                have h9 := am_cat_map (B := B) hXV st'
                refine va_copyi hx hb (by rw [hml]; exact hls.symm) hown (hts _ (am_gd_in ho)) (hts _ (hT.2 _ (by simp))) (hts _ (hT.2 _ (by simp))) (hts _ (hT.2 _ (by simp))) hK hP (am_D B cA M) hS _ _ 0 0 (am_w_some ha) (am_w_some hb2) rfl rfl rfl h1 h2 h3 hr.1 hr.2 (fun _ _ => rfl) (by omega) (by rw [h9]; show _ + (7 + 11) ≤ _; omega) hdg (fun H1 locs1 hP1 _ hS1 => kk H1 locs1 ?_ hS1)
                rw [← am_w_uI _ hb2]
                simp only [am_ca, am_ar, am_uI, am_sI_eq]
                exact hP1
              · cases h
            · rename_i na nb ha hb2
              split at h
              · rename_i hr
                cases h
                have h9 := am_cat_map (B := B) hXV st'
                refine va_copyl hx hb (by rw [hml]; exact hls.symm) hown (hts _ (am_gd_in ho)) (hts _ (hT.2 _ (by simp))) (hts _ (hT.2 _ (by simp))) (hts _ (hT.2 _ (by simp))) hK hP (am_D B cA M) hS _ _ 1 1 (am_w_some ha) (am_w_some hb2) rfl rfl rfl h1 h2 h3 hr.1 hr.2 (fun _ _ => rfl) (by omega) (by rw [h9]; show _ + (7 + 11) ≤ _; omega) hdg (fun H1 locs1 hP1 _ hS1 => kk H1 locs1 ?_ hS1)
                rw [← am_w_uL _ hb2]
                simp only [am_ca, am_ar, am_uL, am_sL_eq]
                exact hP1
              · cases h
            · cases h
          · cases h
        · cases h
      split at h
      · rename_i h0
        subst h0
        simp [am_okI] at ho
        unfold am_mi2 at h
        split at h
        · split at h
          · rename_i st0 hcat
            cases h
            have h9 := am_cat_map (B := B) hXV st0
            exact va_mmax hx hb (by rw [hml]; exact hls.symm) hown (hts _ (am_gd_in ho)) (hts _ (hT.2 (.static Lib.Math.max.name) (by simp))) (hts _ (hT.2 _ (by simp))) (hts _ (hT.2 (.code Lib.Math.max.name Lib.Math.max.code 2 (some .int)) (by simp))) (by omega) (by rw [h9]; omega) hc1 hc2 hdg (kk H locs hP hS)
          · cases h
        · cases h
      split at h
      · rename_i h0
        subst h0
        simp [am_okI] at ho
        unfold am_mi2 at h
        split at h
        · split at h
          · rename_i st0 hcat
            cases h
            have h9 := am_cat_map (B := B) hXV st0
            exact va_mmin hx hb (by rw [hml]; exact hls.symm) hown (hts _ (am_gd_in ho)) (hts _ (hT.2 (.static Lib.Math.min.name) (by simp))) (hts _ (hT.2 _ (by simp))) (hts _ (hT.2 (.code Lib.Math.min.name Lib.Math.min.code 2 (some .int)) (by simp))) (by omega) (by rw [h9]; omega) hc1 hc2 hdg (kk H locs hP hS)
          · cases h
        · cases h
      split at h
      · rename_i h0
        subst h0
        simp [am_okI] at ho
        unfold am_mi1 at h
        split at h
        · split at h
          · rename_i st0 hcat
            cases h
            have h9 := am_cat_map (B := B) hXV st0
            exact va_mabs hx hb (by rw [hml]; exact hls.symm) hown (hts _ (am_gd_in ho)) (hts _ (hT.2 (.static Lib.Math.abs.name) (by simp))) (hts _ (hT.2 _ (by simp))) (hts _ (hT.2 (.code Lib.Math.abs.name Lib.Math.abs.code 1 (some .int)) (by simp))) (by omega) (by rw [h9]; omega) hc1 hc2 hdg (kk H locs hP hS)
          · cases h
        · cases h
      split at h
      · rename_i h0
        subst h0
        simp [am_okI] at ho
        unfold am_ml2 at h
        split at h
        · split at h
          · rename_i st0 hcat
            cases h
            have h9 := am_cat_map (B := B) hXV st0
            exact va_mmax_long hx hb (by rw [hml]; exact hls.symm) hown (hts _ (am_gd_in ho)) (hts _ (hT.2 (.static Lib.MathLoose.max_long.x) (by simp))) (hts _ (hT.2 _ (by simp))) (hts _ (hT.2 (.code Lib.MathLoose.max_long.x Lib.MathLoose.max_long.code 4 (some .long)) (by simp))) (by omega) (by rw [h9]; omega) hc1 hc2 hdg (kk H locs hP hS)
          · cases h
        · cases h
      split at h
      · rename_i h0
        subst h0
        simp [am_okI] at ho
        unfold am_ml2 at h
        split at h
        · split at h
          · rename_i st0 hcat
            cases h
            have h9 := am_cat_map (B := B) hXV st0
            exact va_mmin_long hx hb (by rw [hml]; exact hls.symm) hown (hts _ (am_gd_in ho)) (hts _ (hT.2 (.static Lib.MathLoose.min_long.x) (by simp))) (hts _ (hT.2 _ (by simp))) (hts _ (hT.2 (.code Lib.MathLoose.min_long.x Lib.MathLoose.min_long.code 4 (some .long)) (by simp))) (by omega) (by rw [h9]; omega) hc1 hc2 hdg (kk H locs hP hS)
          · cases h
        · cases h
      cases h
    · cases h
  · cases h
end AMN
end
section
/-! ===== what the small machine runs through, the real one runs through ===== -/
theorem am_sv_lay {M M1 : am_M} {c a j : Nat} {v : Value} (h : am_sv M c a j v = some M1) : M1.1 = M.1 := by
  unfold am_sv at h
  split at h
  all_goals first | (cases h; rfl) | (cases h; split <;> rfl) | (split at h <;> cases h; rfl) | cases h
theorem am_m_mono {L : Nat} {xs : Nat → Int32} {d a1 a2 : Nat} {ins : Instr} {st st' : List Value} {M M' : am_M} (h : am_m L xs d ins a1 a2 st M = some (st', M')) : M.1.length ≤ M'.1.length ∧ am_sl M ≤ am_sl M' := by
  have same : ∀ N : am_M, N.1 = M.1 → M.1.length ≤ N.1.length ∧ am_sl M ≤ am_sl N := fun N e => by
    rw [e]
    exact ⟨Nat.le_refl _, by simp only [am_sl, e]; exact Nat.le_refl _⟩
  have more : ∀ x, M.1.length ≤ (am_new M x).1.length ∧ am_sl M ≤ am_sl (am_new M x) := fun x => by
    rw [am_len_new, am_sl_new]
    omega
  unfold am_m am_is am_cp am_mi2 am_mi1 am_ml2 at h
  repeat' split at h
  all_goals first
    | (cases h; done)
    | (cases h; exact same _ rfl)
    | (cases h; exact more _)
    | (rename_i hsv; cases h; exact same _ (am_sv_lay hsv))
theorem am_run_mono {L : Nat} {xs : Nat → Int32} : ∀ (n d k pc : Nat) (lo : am_Lo) (st : List Value) (M : am_M) (r : Option Value) (M' : am_M), am_run L xs n d k pc lo st M = some (r, M') → M.1.length ≤ M'.1.length ∧ am_sl M ≤ am_sl M' := by
  intro n
  induction n with
  | zero => intro d k pc lo st M r M' h; simp [am_run] at h
  | succ n ih =>
    intro d k pc lo st M r M' h
    rw [am_run] at h
    split at h
    · cases h
    · split at h
      · exact ih _ _ _ _ _ _ _ _ h
      · split at h
        · exact ih _ _ _ _ _ _ _ _ h
        · split at h
          · exact ih _ _ _ _ _ _ _ _ h
          · split at h
            · rename_i hm
              have h1 := am_m_mono hm
              have h2 := ih _ _ _ _ _ _ _ _ h
              omega
            · split at h
              · cases h; exact ⟨Nat.le_refl _, Nat.le_refl _⟩
              · split at h
                · cases h
                · split at h
                  · cases h
                  · split at h
                    · cases h
                    · rename_i hr
                      have h1 := ih _ _ _ _ _ _ _ _ hr
                      have h2 := ih _ _ _ _ _ _ _ _ h
                      omega
def am_Q (B : Nat) (X : Nat → Value) (D : va_G) (cA : Nat → ClassId) (r : Option Value) (M' : am_M) : Array Value → State → Outcome → State → Prop :=
  fun _ st oc t => oc = .returned (r.map (am_v B X)) ∧ va_P D vwCl (am_w B cA M') t.heap ∧ va_F (fun q => B ≤ q) st t
def am_ws (j : Nat) : List Cond := .code (am_y j) (am_by j) (am_ml j) (am_rt j) :: am_B
def am_Pc (L : Nat) (xs : Nat → Int32) (B : Nat) (X : Nat → Value) (D : va_G) (cA : Nat → ClassId) (M : am_M) (as : List Value) : Array Value → State → Prop :=
  va_Pc (as.map (am_v B X)) (fun U => am_X L xs B X U U.heap ∧ va_K D vwCl (am_tys cA) U ∧ va_P D vwCl (am_w B cA M) U.heap ∧ U.heap.size = B + M.1.length)
theorem am_mok_use {j : Nat} (h : am_mok j = true) : Cond.code (am_y j) (am_by j) (am_ml j) (am_rt j) ∈ am_B ∧ (am_kd j = 1 → Cond.static (am_y j) ∈ am_B) ∧ (am_kd j ≠ 1 → Cond.instanceMethod (am_y j) ∈ am_B) ∧ (am_kd j = 0 → Cond.selects (am_y j).cls (am_y j) (am_y j) ∈ am_B) ∧ Cond.initialized (am_y j).cls ∈ am_B
    ∧ ((am_y j).cls ≠ "java/lang/invoke/MethodHandle" ∧ (am_y j).cls ≠ "java/lang/invoke/VarHandle" ∧ (parseMethodDescriptor (am_y j).desc).map (fun d => d.parameters.length) = some (am_np j)) ∧ am_ml j ≤ 30 ∧ plainName (am_y j).cls = true ∧ (am_kd j = 2 → (am_y j).name = "<init>" ∧ am_rt j = none)
    ∧ (am_rc j < 13 → (vwCl[am_rc j]?).map (fun q => q.1) = some (am_y j).cls) ∧ (am_rc j = 100 → (am_y j).cls = "java/lang/String") := by
  unfold am_mok at h
  split at h
  rename_i ic ik isl ii hrow
  simp only [Bool.and_eq_true] at h
  obtain ⟨⟨⟨⟨⟨⟨⟨⟨⟨h1, h2⟩, h3⟩, h4⟩, h5⟩, h6⟩, h7⟩, h8⟩, h9⟩, h10⟩ := h
  refine ⟨am_gdc_in h1, fun q => ?_, fun q => ?_, fun q => ?_, am_gd_in h4, of_decide_eq_true h5, of_decide_eq_true h6, h7, fun q => ?_, fun q => ?_, fun q => ?_⟩
  · rw [if_pos q] at h2; exact am_gd_in h2
  · rw [if_neg q] at h2; exact am_gd_in h2
  · simp [q] at h3; exact am_gd_in h3
  · simp [q] at h8; exact h8
  · rw [show decide (am_rc j < 13) = true from decide_eq_true q] at h9
    simpa only [Bool.not_true, Bool.false_or, decide_eq_true_eq] using h9
  · simp [q] at h10; exact h10
theorem am_sl_len {B : Nat} {X : Nat → Value} (hX : am_XV X) (as : List Value) : (lg_sl (as.map (am_v B X))).length = am_cat as := by
  induction as with
  | nil => rfl
  | cons v as ih =>
    have e : (lg_sl ((v :: as).map (am_v B X))).length = v.category + (lg_sl (as.map (am_v B X))).length := by
      simp only [lg_sl, List.map_cons, List.flatMap_cons, List.length_append, am_v_cat hX]
      rcases lv_cat v with h | h <;> simp [h]
    rw [e, ih]
    simp [am_cat]
/-- a run of the small machine, told of the real one -/
def am_S (L : Nat) (xs : Nat → Int32) (d k pc : Nat) (lo : am_Lo) (st : List Value) (M : am_M) (r : Option Value) (M' : am_M) : Prop :=
  ∀ (p : Program) (l : Launch) (e : Env) (R : Room) (s : State) (m : MethodId) (args : Array Value) (below : List Frame) (meth : Method) (c : Code) (H : Heap) (locs : List Loc) (Z : State → Prop) (B : Nat) (X : Nat → Value) (D : va_G) (cA : Nat → ClassId) (n0 s0 : Nat) (ls : Array Slot),
    am_C L xs B X D cA p R s m args meth c k d n0 → va_P D vwCl (am_w B cA M) H → va_S (fun q => B ≤ q) s.heap H locs → lv_has ls (am_ml k) (am_lv B X lo) → n0 ≤ M.1.length → s0 ≤ am_sl M → M'.1.length - n0 ≤ R.cells → am_sl M' - s0 ≤ R.slots →
    (∀ (pc : Nat) (ls : Array Slot) (H : Heap) (locs : List Loc) (q : Instr × Nat × Nat × Nat) (st : List Value), am_at k pc = some q → am_r (am_rt k) q.1 st = some r → va_P D vwCl (am_w B cA M') H → va_S (fun q => B ≤ q) s.heap H locs → W p l e R s m args below meth c H locs (M'.1.length - n0) (am_sl M' - s0) Z (F0 m pc ls (st.map (am_v B X)))) →
    W p l e R s m args below meth c H locs (M.1.length - n0) (am_sl M - s0) Z (F0 m pc ls (st.map (am_v B X)))
/-- a method's contract out of its run -/
theorem am_met (hT2 : am_T2) {L : Nat} {xs : Nat → Int32} {d j : Nat} {as : List Value} {M M' : am_M} {r : Option Value} (hj : j < 265) (hk : am_kd j < 3) (hcat : am_cat as ≤ am_ml j) (hrun : am_S L xs d j 0 (lv_args 0 as) [] M r M') (l : Launch) (B : Nat) (X : Nat → Value) (hXV : am_XV X) (D : va_G) (cA : Nat → ClassId) :
    Met l (am_y j) (am_ws j) { frames := d, cells := M'.1.length - M.1.length, slots := am_sl M' - am_sl M, locals := 60 * d } (am_Pc L xs B X D cA M as) (am_Q B X D cA r M') (M'.1.length - M.1.length) (am_sl M' - am_sl M) (fun q => B ≤ q) := by
  obtain ⟨m1, m2, m3, m4, m5, m6, m7, m8, m9, m10, m11⟩ := am_mok_use (hT2.1 j hj hk)
  refine Met.ofW (cc := am_by j) (maxL := am_ml j) (ret := am_rt j) m8 rfl ?_
  intro p e s m args below meth c s₁ Bd hml hv
  obtain ⟨rfl, hX, hK, hP, hz⟩ := hv
  have hx := Bd.exec
  have hb := Bd.bytes
  have hr := Bd.returns
  have hts := atoms_spec (ws := am_ws j) Bd.pre
  have hown : s.vm.findClass (am_y j).cls = some m.cls := findClass_of_methodNamed Bd.named
  have hlocks := Bd.notSynchronized
  have hl := lv_entry (as.map (am_v B X)) (n := am_ml j) (by rw [am_sl_len hXV]; exact hcat)
  rw [lg_entry_eq]
  generalize (lg_sl (as.map (am_v B X)) ++ List.replicate (am_ml j - (lg_sl (as.map (am_v B X))).length) Slot.unset).toArray = ls at hl ⊢
  rw [am_lv_args hXV] at hl
  have hS : va_S (fun q => B ≤ q) s.heap s.heap [] := va_S.rf
  have hC : am_C L xs B X D cA p (headSpec (am_ws j) { frames := d, cells := M'.1.length - M.1.length, slots := am_sl M' - am_sl M, locals := 60 * d }).room s m (as.map (am_v B X)).toArray meth c j d M.1.length :=
    ⟨hx, hb, hml, hown, fun w hw => hts w (List.mem_cons_of_mem _ hw), hXV, hX, hK, hz, ⟨Nat.le_refl _, Nat.le_refl _⟩, fun q => by rw [(name_of_methodNamed Bd.named Bd.method).1]; exact (m9 q).1⟩
  refine W.cs (Nat.sub_self M.1.length).symm (Nat.sub_self (am_sl M)).symm ?_
  refine hrun p l e _ s m _ below meth c s.heap [] (MQ below (am_Q B X D cA r M') _ s (M'.1.length - M.1.length) (am_sl M' - am_sl M) (fun q => B ≤ q)) B X D cA M.1.length (am_sl M) ls hC hP hS hl (Nat.le_refl _) (Nat.le_refl _) (Nat.le_refl _) (Nat.le_refl _) ?_
  intro pc ls H locs q st hat hret hP1 hS1
  have hdg := (am_ok_dec (hT2.2 j pc q hat)).1
  have hq : ∀ t : State, t.heap = H → s.WarmedH t.vm → am_Q B X D cA r M' (as.map (am_v B X)).toArray s (.returned (r.map (am_v B X))) t := fun t ht _ => ⟨rfl, by rw [ht]; exact hP1, hS1.F ht⟩
  obtain ⟨ins, a1, a2, a3⟩ := q
  dsimp only at hret hdg
  unfold am_r at hret
  split at hret
  · split at hret
    · rename_i ty hty
      split at hret
      · rename_i hn
        cases hret
        exact W.zret hx hb (by rw [hr, hty]) hn hq hS1.2.2 hdg
      · cases hret
    · cases hret
  · split at hret
    · rename_i hty
      cases hret
      exact W.lret hx hb (by rw [hr, hty]) hq hS1.2.2 hdg
    · cases hret
  · split at hret
    · rename_i nm hty
      cases hret
      exact W.aret hx hb (by rw [hr, hty]) (Or.inl ⟨_, rfl⟩) (Or.inr ⟨_, rfl⟩) hq hS1.2.2 hdg
    · cases hret
  · split at hret
    · rename_i nm hty
      cases hret
      exact W.aret hx hb (by rw [hr, hty]) (Or.inl ⟨_, rfl⟩) (hXV _) hq hS1.2.2 hdg
    · cases hret
  · split at hret
    · rename_i hty
      cases hret
      exact W.vret hx hb (by rw [hr, hty]) hq hS1.2.2 hdg
    · cases hret
  · cases hret
section AMS
variable {p : Program} {l : Launch} {e : Env} {R : Room} {s : State} {m : MethodId} {args : Array Value} {below : List Frame} {meth : Method} {c : Code} {H : Heap} {locs : List Loc} {cells slots : Nat} {Q : State → Prop}
variable {L : Nat} {xs : Nat → Int32} {B : Nat} {X : Nat → Value} {D : va_G} {cA : Nat → ClassId} {k d pc n0 s0 : Nat} {ls : Array Slot} {M M1 : am_M} {r : Option Value} {rest st0 : List Value} {a : Array Value} {mc ms : Nat}
theorem am_callw (hr : va_Run p l e R s m args below meth c H locs cells slots mc ms (F0 m pc ls st0) rest (am_Q B X D cA r M1 a) (fun q => B ≤ q)) (hS : va_S (fun q => B ≤ q) s.heap H locs)
    (kk : ∀ H1 locs1, va_P D vwCl (am_w B cA M1) H1 → va_S (fun q => B ≤ q) s.heap H1 locs1 → W p l e R s m args below meth c H1 locs1 (cells + mc) (slots + ms) Q (F0 m (pc + 3) ls ((r.map (am_v B X)).toList ++ rest))) : W p l e R s m args below meth c H locs cells slots Q (F0 m pc ls st0) := by
  intro T hT Y
  obtain ⟨v, st₀, t, T', L', h0, Y', hL, e1, e2, ⟨hv, hp, hz, hk⟩, st⟩ := hr T hT Y
  cases hv
  rw [h0] at hz hk
  obtain ⟨t2, b1, b2⟩ := kk T'.heap (locs ++ L') (by rw [e1]; exact hp)
    ⟨Nat.le_trans hS.1 (by rw [e1]; exact hz), fun q h1 h2 => by rw [e1, hk q (Nat.lt_of_lt_of_le h1 hS.1) h2]; exact hS.2.1 q h1 h2, fun q hq => by
      rcases List.mem_append.mp hq with h | h
      · exact hS.2.2 q h
      · exact hL q h⟩ T' rfl Y'
  exact ⟨t2, st t2 b1, b2⟩
theorem am_blind {as : List Value} : FrameBlind (am_Pc L xs B X D cA M as) := by
  intro a U g mk q
  obtain ⟨q0, q1, q2, q3, q4⟩ := q
  exact ⟨q0, am_X.same (s := U) (U := U.calling g mk a) (H := U.heap) rfl q1, va_K.moved (u := U) (U := U.calling g mk a) (Vm.Alike.refl U.vm) q2, q3, q4⟩
theorem am_good (hT2 : am_T2) {j : Nat} (hj : j < 265) (hk : am_kd j < 3) : GoodIn am_B (am_ws j) := by
  intro w hw
  rcases List.mem_cons.mp hw with rfl | hw
  · exact am_B_good _ (am_mok_use (hT2.1 j hj hk)).1
  · exact am_B_good _ hw
theorem am_lm_use {own : String} {i a3 : Nat} {y : MethodName} (h : am_lm own i a3 y = true) (hts : ∀ w ∈ am_B, w.before args s = true) (hX : am_X L xs B X s s.heap) : (Cond.methodLink own i y).before args s = true ∨ va_Nw (.methodLinkNest own i y "LooseWater") s := by
  unfold am_lm at h
  split at h
  · exact Or.inl (hts _ (am_gd_in h))
  · have hm := List.mem_of_getElem? (of_decide_eq_true h)
    obtain ⟨tS, tb, adK, adV, -, -, -, d1, -⟩ := hX
    exact Or.inr (d1 _ hm)
theorem am_split {st As : List Value} {n : Nat} {v : Value} (h : (st.take n).reverse = v :: As) : st = As.reverse ++ v :: st.drop n := by
  have h1 : st.take n = As.reverse ++ [v] := by
    have := congrArg List.reverse h
    simpa using this
  conv => lhs; rw [← List.take_append_drop n st, h1]
  simp
theorem am_cat_rev (as : List Value) : am_cat as.reverse = am_cat as := by
  simp [am_cat, List.map_reverse, List.sum_reverse]
theorem am_pre (hC : am_C L xs B X D cA p R s m args meth c k d n0) {as : List Value} (hP : va_P D vwCl (am_w B cA M) H) (hS : va_S (fun q => B ≤ q) s.heap H locs) (hz : H.size = B + M.1.length) : ∀ U : State, U.heap = H → s.WarmedH U.vm → am_Pc L xs B X D cA M as (as.map (am_v B X)).toArray U := by
  obtain ⟨hx, hb, hml, hown, hts, hXV, hX, hK, hBs, hR, hin⟩ := hC
  intro U hU hW
  refine ⟨rfl, ?_, va_K.moved hW.alike hK, by rw [hU]; exact hP, by rw [hU]; exact hz⟩
  rw [hU]
  exact hX.warm hW hS
theorem am_recv (hC : am_C L xs B X D cA p R s m args meth c k d n0) {j : Nat} {v : Value} {As : List Value} (m10 : am_rc j < 13 → (vwCl[am_rc j]?).map (fun q => q.1) = some (am_y j).cls) (m11 : am_rc j = 100 → (am_y j).cls = "java/lang/String") (hP : va_P D vwCl (am_w B cA M) H) (hS : va_S (fun q => B ≤ q) s.heap H locs) (hr : am_rec M j (v :: As) = true) :
    ∃ b : Nat, am_v B X v = .ref b ∧ ∃ cellB : Cell, H[b]? = some cellB ∧ cellB.vm.isStatics = false ∧ s.vm.findClass (am_y j).cls = some cellB.cls := by
  obtain ⟨hx, hb, hml, hown, hts, hXV, hX, hK, hBs, hR, hin⟩ := hC
  unfold am_rec at hr
  split at hr
  · rename_i b As' heq
    cases heq
    obtain ⟨h1, h2⟩ := of_decide_eq_true hr
    obtain ⟨q, hq, he⟩ := Option.map_eq_some_iff.mp (m10 h2)
    refine ⟨B + b, rfl, ?_⟩
    rw [← he]
    exact va_recv hK hP hq (am_w_some h1)
  · rename_i u As' heq
    cases heq
    obtain ⟨h1, h2, h3⟩ := of_decide_eq_true hr
    obtain ⟨tS, tb, adK, adV, -, -, ⟨c1, c2, -⟩, -⟩ := id hX
    have hk1 := (c1 (u.toNat - 1) (by omega)).1
    rw [show 1 + (u.toNat - 1) = u.toNat by omega] at hk1
    refine ⟨adK (u.toNat - 1), hk1, ?_⟩
    rw [m11 h1]
    obtain ⟨cell, g1, g2, g3, -⟩ := (c2 (u.toNat - 1) (by omega)).1.kept hS.2.1
    exact ⟨cell, g1, g2, g3⟩
  · cases hr
end AMS
set_option maxHeartbeats 4000000 in
theorem am_sound (hT : am_T) (hT2 : am_T2) {L : Nat} {xs : Nat → Int32} : ∀ (n d k pc : Nat) (lo : am_Lo) (st : List Value) (M : am_M) (r : Option Value) (M' : am_M), am_run L xs n d k pc lo st M = some (r, M') → am_S L xs d k pc lo st M r M' := by
  intro n
  induction n with
  | zero => intro d k pc lo st M r M' h; simp [am_run] at h
  | succ n ih =>
    intro d k pc lo st M r M' h
    intro p l e R s m args below meth c H locs Z B X D cA n0 s0 ls hC hP hS hl hn0 hs0 hc1 hc2 hret
    rw [am_run] at h
    split at h
    · cases h
    · rename_i ins a1 a2 a3 hat
      have hok := hT2.2 k pc _ hat
      split at h
      · rename_i st' hp
        exact am_p_ok hC hok hp (ih _ _ _ _ _ _ _ _ h p l e R s m args below meth c H locs Z B X D cA n0 s0 ls hC hP hS hl hn0 hs0 hc1 hc2 hret)
      · split at h
        · rename_i lo' st' hl'
          exact am_l_ok hC hok hl' hl (fun ls' hl1 => ih _ _ _ _ _ _ _ _ h p l e R s m args below meth c H locs Z B X D cA n0 s0 ls' hC hP hS hl1 hn0 hs0 hc1 hc2 hret)
        · split at h
          · rename_i pc' st' hb'
            exact am_b_ok hC hok hb' (ih _ _ _ _ _ _ _ _ h p l e R s m args below meth c H locs Z B X D cA n0 s0 ls hC hP hS hl hn0 hs0 hc1 hc2 hret)
          · split at h
            · rename_i st' M1 hm
              have hm1 := am_m_mono hm
              have hm2 := am_run_mono _ _ _ _ _ _ _ _ _ h
              exact am_m_ok hT hC hok hm hl.1 hP hS hn0 hs0 (by omega) (by omega) (fun H1 locs1 hP1 hS1 => ih _ _ _ _ _ _ _ _ h p l e R s m args below meth c H1 locs1 Z B X D cA n0 s0 ls hC hP1 hS1 hl (by omega) (by omega) hc1 hc2 hret)
            · split at h
              · rename_i v hv
                cases h
                exact hret pc ls H locs _ st hat hv hP hS
              · split at h
                · cases h
                · rename_i j as rest hcc
                  split at h
                  · cases h
                  · rename_i d'
                    split at h
                    · cases h
                    · rename_i r1 M1 hrun1
                      have hm1 := am_run_mono _ _ _ _ _ _ _ _ _ hrun1
                      have hm2 := am_run_mono _ _ _ _ _ _ _ _ _ h
                      have hS1 := ih _ _ _ _ _ _ _ _ hrun1
                      have go : ∀ H1 locs1, va_P D vwCl (am_w B cA M1) H1 → va_S (fun q => B ≤ q) s.heap H1 locs1 → W p l e R s m args below meth c H1 locs1 (M.1.length - n0 + (M1.1.length - M.1.length)) (am_sl M - s0 + (am_sl M1 - am_sl M)) Z (F0 m (pc + 3) ls ((r1.map (am_v B X)).toList ++ rest.map (am_v B X))) := by
                        intro H1 locs1 hP1 hS9
                        have := ih _ _ _ _ _ _ _ _ h p l e R s m args below meth c H1 locs1 Z B X D cA n0 s0 ls hC hP1 hS9 hl (by omega) (by omega) hc1 hc2 hret
                        refine W.cs (cells' := M1.1.length - n0) (slots' := am_sl M1 - s0) (by omega) (by omega) ?_
                        rw [List.map_append, show (r1.toList).map (am_v B X) = (r1.map (am_v B X)).toList by cases r1 <;> rfl] at this
                        exact this
                      refine am_size fun hu => ?_
                      obtain ⟨hx, hb, hml, hown, hts, hXV, hX, hK, hBs, hR, hin⟩ := id hC
                      have hz : H.size = B + M.1.length := am_szeq hP hS hBs hn0 hu
                      obtain ⟨hdg, ho⟩ := am_ok_dec hok
                      dsimp only at hdg ho
                      unfold am_c at hcc
                      split at hcc
                      · split at hcc
                        · rename_i hq
                          obtain ⟨q1, q2, q3, q4, q5, q6⟩ := hq
                          cases hcc
                          simp only [am_okI, if_pos q1, Bool.and_eq_true, decide_eq_true_eq] at ho
                          obtain ⟨ho1, ho2⟩ := ho
                          obtain ⟨m1, m2, m3, m4, m5, m6, m7, m8, m9, m10, m11⟩ := am_mok_use (hT2.1 a1 q1 (by omega))
                          cases has : (st.take a2).reverse with
                          | nil => rw [has] at q6; cases q6
                          | cons v As =>
                            rw [has] at q6
                            obtain ⟨b, hvb, hcell⟩ := am_recv hC m10 m11 hP hS q6
                            have hst := am_split has
                            have hlen : As.length = am_np a1 := by
                              have := congrArg List.length has
                              simp at this
                              omega
                            have hM := am_met hT2 q1 (by omega) (by rw [am_cat_rev]; exact q4) hS1 l B X hXV D cA
                            have hpre := am_pre (as := (st.take a2).reverse) hC hP hS hz
                            have e1 : ((st.take a2).reverse.map (am_v B X)) = .ref b :: As.map (am_v B X) := by rw [has, List.map_cons, hvb]
                            have e2 : st.map (am_v B X) = (As.map (am_v B X)).reverse ++ .ref b :: (st.drop a2).map (am_v B X) := by
                              conv => lhs; rw [hst]
                              rw [List.map_append, List.map_cons, hvb, List.map_reverse]
                            rw [e1] at hpre
                            have hcatr : (((st.drop a2).map (am_v B X)).map fun v => v.category).sum ≤ 8 := by rw [am_cat_map hXV]; exact q3
                            rcases am_lm_use ho1 hts hX with hlk | hlk
                            · exact am_callw (va_runV (C := (am_y a1).cls) (b := b) (As := As.map (am_v B X)) (rest := (st.drop a2).map (am_v B X)) (n := am_np a1) ⟨hx, hb, hml, hown, hts⟩ hM ⟨callB_of (am_np a1) hts (am_good hT2 q1 (by omega)) rfl rfl rfl (hts _ m5) hlk m6 ⟨hR.1, by show 8 + (am_ml a1 + 11) + 60 * _ ≤ _; omega⟩, hts _ (m3 (by omega)), hts _ (m4 q5)⟩ ⟨am_blind, hcell, hpre⟩ rfl (by rw [List.length_map]; exact hlen) hl.1 e2 (lv_room hcatr) hdg ⟨by omega, by omega⟩) hS go
                            · exact am_callw (va_runVN (C := (am_y a1).cls) (b := b) (As := As.map (am_v B X)) (rest := (st.drop a2).map (am_v B X)) (n := am_np a1) ⟨hx, hb, hml, hown, hts⟩ hM ⟨va_cnB (am_np a1) hts (am_good hT2 q1 (by omega)) rfl rfl rfl hlk (hts _ m5) m6 ⟨hR.1, by show 8 + (am_ml a1 + 11) + 60 * _ ≤ _; omega⟩, hts _ (m3 (by omega)), hts _ (m4 q5)⟩ ⟨am_blind, hcell, hpre⟩ rfl (by rw [List.length_map]; exact hlen) hl.1 e2 (lv_room hcatr) hdg ⟨by omega, by omega⟩) hS go
                        · cases hcc
                      · split at hcc
                        · rename_i hq
                          obtain ⟨q1, q2, q3, q4, q5⟩ := hq
                          cases hcc
                          have q7 : ¬ a1 = 1000 := by omega
                          have q72 : ¬ a1 = 1002 := by omega
                          have q73 : ¬ a1 = 1003 := by omega
                          have q74 : ¬ a1 = 1004 := by omega
                          have q75 : ¬ a1 = 1005 := by omega
                          have q76 : ¬ a1 = 1006 := by omega
                          simp only [am_okI, if_neg q7, if_neg q72, if_neg q73, if_neg q74, if_neg q75, if_neg q76, if_pos q1, Bool.and_eq_true, decide_eq_true_eq] at ho
                          obtain ⟨ho1, ho2⟩ := ho
                          obtain ⟨m1, m2, m3, m4, m5, m6, m7, m8, m9, m10, m11⟩ := am_mok_use (hT2.1 a1 q1 (by omega))
                          have hM := am_met hT2 q1 (by omega) (by rw [am_cat_rev]; exact q4) hS1 l B X hXV D cA
                          have hpre := am_pre (as := (st.take a2).reverse) hC hP hS hz
                          have e2 : st.map (am_v B X) = ((st.take a2).reverse.map (am_v B X)).reverse ++ (st.drop a2).map (am_v B X) := by
                            rw [← List.map_reverse, List.reverse_reverse, ← List.map_append, List.take_append_drop]
                          have hcatr : (((st.drop a2).map (am_v B X)).map fun v => v.category).sum ≤ 8 := by rw [am_cat_map hXV]; exact q3
                          have hlen : ((st.take a2).reverse.map (am_v B X)).length = am_np a1 := by simp; omega
                          rcases am_lm_use ho1 hts hX with hlk | hlk
                          · exact am_callw (va_runS (As := (st.take a2).reverse.map (am_v B X)) (rest := (st.drop a2).map (am_v B X)) (n := am_np a1) ⟨hx, hb, hml, hown, hts⟩ hM ⟨callB_of (am_np a1) hts (am_good hT2 q1 (by omega)) rfl rfl rfl (hts _ m5) hlk m6 ⟨hR.1, by show 8 + (am_ml a1 + 11) + 60 * _ ≤ _; omega⟩, hts _ (m2 q5)⟩ ⟨am_blind, hpre⟩ rfl hlen hl.1 e2 (lv_room hcatr) hdg ⟨by omega, by omega⟩) hS go
                          · exact am_callw (va_runSN (As := (st.take a2).reverse.map (am_v B X)) (rest := (st.drop a2).map (am_v B X)) (n := am_np a1) ⟨hx, hb, hml, hown, hts⟩ hM ⟨va_cnB (am_np a1) hts (am_good hT2 q1 (by omega)) rfl rfl rfl hlk (hts _ m5) m6 ⟨hR.1, by show 8 + (am_ml a1 + 11) + 60 * _ ≤ _; omega⟩, hts _ (m2 q5), trivial⟩ ⟨am_blind, hpre⟩ rfl hlen hl.1 e2 (lv_room hcatr) hdg ⟨by omega, by omega⟩) hS go
                        · cases hcc
                      · split at hcc
                        · rename_i hq
                          obtain ⟨q1, q2, q3, q4, q5, q6⟩ := hq
                          cases hcc
                          have q7 : ¬ a1 = 1001 := by omega
                          simp only [am_okI, if_neg q7, if_pos q1, Bool.and_eq_true, decide_eq_true_eq] at ho
                          obtain ⟨ho1, ho2⟩ := ho
                          obtain ⟨m1, m2, m3, m4, m5, m6, m7, m8, m9, m10, m11⟩ := am_mok_use (hT2.1 a1 q1 (by omega))
                          cases has : (st.take a2).reverse with
                          | nil => rw [has] at q6; cases q6
                          | cons v As =>
                            rw [has] at q6
                            obtain ⟨b, hvb, hcell⟩ := am_recv hC m10 m11 hP hS q6
                            have hst := am_split has
                            have hlen : As.length = am_np a1 := by
                              have := congrArg List.length has
                              simp at this
                              omega
                            have hM := am_met hT2 q1 (by omega) (by rw [am_cat_rev]; exact q4) hS1 l B X hXV D cA
                            have hpre := am_pre (as := (st.take a2).reverse) hC hP hS hz
                            have e1 : ((st.take a2).reverse.map (am_v B X)) = .ref b :: As.map (am_v B X) := by rw [has, List.map_cons, hvb]
                            have e2 : st.map (am_v B X) = (As.map (am_v B X)).reverse ++ .ref b :: (st.drop a2).map (am_v B X) := by
                              conv => lhs; rw [hst]
                              rw [List.map_append, List.map_cons, hvb, List.map_reverse]
                            rw [e1] at hpre
                            have hcatr : (((st.drop a2).map (am_v B X)).map fun v => v.category).sum ≤ 8 := by rw [am_cat_map hXV]; exact q3
                            have hrt : am_rt a1 = none := (m9 q5).2
                            rw [show am_ws a1 = Cond.code (am_y a1) (am_by a1) (am_ml a1) none :: am_B by rw [am_ws, hrt]] at hM
                            have hG := am_good hT2 q1 (by omega)
                            rw [show am_ws a1 = Cond.code (am_y a1) (am_by a1) (am_ml a1) none :: am_B by rw [am_ws, hrt]] at hG
                            rcases am_lm_use ho1 hts hX with hlk | hlk
                            · exact am_callw (va_runI (b := b) (As := As.map (am_v B X)) (rest := (st.drop a2).map (am_v B X)) (n := am_np a1) ⟨hx, hb, hml, hown, hts⟩ hM ⟨callB_of (am_np a1) hts hG rfl rfl rfl (hts _ m5) hlk m6 ⟨hR.1, by show 8 + (am_ml a1 + 11) + 60 * _ ≤ _; omega⟩, (m9 q5).1, hts _ (m3 (by omega))⟩ ⟨am_blind, hpre⟩ rfl (by rw [List.length_map]; exact hlen) hl.1 e2 (lv_room hcatr) hdg ⟨by omega, by omega⟩) hS go
                            · exact am_callw (va_runIN (b := b) (As := As.map (am_v B X)) (rest := (st.drop a2).map (am_v B X)) (n := am_np a1) ⟨hx, hb, hml, hown, hts⟩ hM ⟨va_cnB (am_np a1) hts hG rfl rfl rfl hlk (hts _ m5) m6 ⟨hR.1, by show 8 + (am_ml a1 + 11) + 60 * _ ≤ _; omega⟩, (m9 q5).1, hts _ (m3 (by omega))⟩ ⟨am_blind, hpre⟩ rfl (by rw [List.length_map]; exact hlen) hl.1 e2 (lv_room hcatr) hdg ⟨by omega, by omega⟩) hS go
                        · cases hcc
                      · cases hcc
end
section
/-! THE CLAIM OUT OF ONE WALK OF THE LAW'S BODY. Your part is whole_start (and what it stands on); all else here is the same for every law, but numbers. -/
def R_law : String := "LooseWaterLaw"
def lw_P (b : Addr) (xs : List Int32) (args : Array Value) (s : State) : Prop := args = #[.ref b] ∧ s.IntsAt b xs ∧ xs.length ≤ 3584 ∧ (Jvm.Cond.and given_1 narrow_1).before args s = true
def lw_Q (_ : Array Value) (s : State) (o : Outcome) (t : State) : Prop := o = .returned (some (.int 1)) ∧ Framed s o t [] 600000 7302250
def lw_Z (below : List Frame) (a : Array Value) (s : State) : State → Prop := fun t => ∃ o, t.status = .running ∧ Ended t below o ∧ lw_Q a s o t
/-- the law's own end, with 1 on the stack, nothing written that was there before, its room as the claim has it -/
theorem lw_ret {p : Program} {l : Launch} {e : Env} {s : State} {m : MethodId} {below : List Frame} {meth : Method} {c : Code} {b : Nat} (hx : p.tables.exec = Jvm.exec) (hb : c.code = code) (hr : meth.sig.returnType = ret) (hlocks : meth.locks = false) {pc : Nat} {H : Heap} {ls : Array Slot} (hdg : decode code pc = .ok (.ireturn, 1)) : W p l e room_1 s m #[Value.ref b] below meth c H [] 600000 7302250 (lw_Z below #[Value.ref b] s) (F0 m pc ls [.int 1]) := by
  intro T hT X
  obtain ⟨fs, hret, hrun, hended, hW, hframe⟩ := X.leave (v := some (.int 1)) (hlocks := hlocks) (fun h => by rw [hr] at h; cases h)
  have hmeth' : T.vm.method? m = some meth := X.method'
  refine ⟨T.setFrames fs, ?_, .returned (some (.int 1)), hrun, hended, rfl, ⟨_, rfl⟩, hW, hframe⟩
  jvm_step X.here [X.here.top, hx, hb, hdg, hmeth', hr, ret, narrow_b1]
  (try refine ⟨rfl, ?_⟩); (try refine ⟨rfl, ?_⟩)
  first | (intro acts; rw [hret _ acts rfl rfl rfl]) | rw [hret _ _ rfl rfl rfl]
  exact Steps.refl _
/-- what holds at the law's entry: the machine, the code, the tables' words (any of lw_tbl by 'hts w (by decide +kernel)'), the script of L ints xs at the cell b, what the Statement gives of the start (any of its parts by flat_of_before) -/
def lw_At (p : Program) (s : State) (m : MethodId) (meth : Method) (c : Code) (b L : Nat) (xs : Nat → Int32) : Prop :=
  p.tables.exec = Jvm.exec ∧ c.code = code ∧ meth.sig.returnType = ret ∧ c.maxLocals = 4 ∧ s.vm.findClass R_law = some m.cls ∧ (∀ w ∈ lw_tbl, w.before #[Value.ref b] s = true) ∧ va_X b L xs s s.heap ∧ b < s.heap.size ∧ meth.locks = false ∧ (Jvm.Cond.and given_1 narrow_1).before #[Value.ref b] s = true

/-! ===== the start: what the Statement gives, as the small machine's world ===== -/
def am_fl : List Cond := flatC (Jvm.Cond.and given_1 narrow_1)
def am_fq (i : Nat) (w : Cond) : Bool := decide (am_fl[i]? = some w)
def am_tq (i : Nat) (w : Cond) : Bool := decide (lw_tbl[i]? = some w)
def am_sr (j : Nat) : String × Nat × String := am_str.getD j ("", 0, "")
def am_sT (j : Nat) : Term := .string (am_sr j).1 (am_sr j).2.1
def am_sof : List Nat := [129, 208, 216, 224, 233, 241, 250, 258, 266, 275, 284, 293, 302, 307, 312, 317, 322, 327, 332, 337, 342, 347, 352, 357, 362, 368, 375, 382]
def am_swi : List Nat := [758, 1665, 1666, 1667, 1668, 1669, 1694, 1695, 1696, 1697, 1698, 1699, 1700, 1701, 1702, 1703, 1704, 1705, 1706, 1707, 1708, 1709, 1710, 1711, 1747, 1760, 1777, 1778]
def am_nwi : List Nat := [127, 133, 210, 244, 274, 377, 433, 438, 467, 501, 506, 516, 521, 544, 549, 655, 741, 901, 905, 915, 951, 992, 1179, 1198]
def am_ckS (j : Nat) : Bool := am_fq (am_sof.getD j 0) (.exactly (am_sT j) "java/lang/String") && am_fq (am_sof.getD j 0 + 1) (.eq (.field (am_sT j) "java/lang/String" "coder" "B") (.int 0)) && am_fq (am_sof.getD j 0 + 2) (.arrayOf (.field (am_sT j) "java/lang/String" "value" "[B") .byte) && am_fq (am_sof.getD j 0 + 3) (.eq (.length (.field (am_sT j) "java/lang/String" "value" "[B")) (.int (Int32.ofNat (am_slen.getD j 0))))
  && (List.range (am_slen.getD j 0)).all (fun i => am_fq (am_sof.getD j 0 + 4 + i) (.eq (.elem (.field (am_sT j) "java/lang/String" "value" "[B") (.int (Int32.ofNat i))) (.int ((am_sbyt.getD j []).getD i 0)))) && decide (am_slen.getD j 0 < 1000) && am_tq (am_swi.getD j 0) (.stringRef (am_sr j).1 (am_sr j).2.1 (am_sr j).2.2)
set_option maxRecDepth 100000 in
theorem am_ckS_ok : (List.range 28).all am_ckS = true := by decide +kernel
set_option maxRecDepth 100000 in
theorem am_ckN_ok : (List.range 91).all (fun j => am_fq (12 + j) (.eq (.elem (.static "LooseWater" "SINE" "[I") (.int (Int32.ofNat j))) (.int (am_sin j)))) = true := by decide +kernel
set_option maxRecDepth 100000 in
theorem am_ckW_ok : (List.range am_N.length).all (fun j => match am_N[j]? with
  | some w => am_tq (am_nwi.getD j 0) w
  | none => false) = true := by decide +kernel
section AMB
variable {s : State} {args : Array Value}
theorem am_fq_use (hgv : (Jvm.Cond.and given_1 narrow_1).before args s = true) {i : Nat} {w : Cond} (h : am_fq i w = true) : w.before args s = true := flat_of_before _ hgv w (List.mem_of_getElem? (of_decide_eq_true h))
theorem am_tq_use (hts : ∀ w ∈ lw_tbl, w.before args s = true) {i : Nat} {w : Cond} (h : am_tq i w = true) : w.before args s = true := hts w (List.mem_of_getElem? (of_decide_eq_true h))
theorem am_text (hgv : (Jvm.Cond.and given_1 narrow_1).before args s = true) (hts : ∀ w ∈ lw_tbl, w.before args s = true) {B : Nat} (hA : ∀ a : Nat, a < s.heap.size → ¬ B ≤ a) {j : Nat} (hj : j < 28) :
    ∃ k v : Nat, (va_O "java/lang/String" k (fun q => B ≤ q) s s.heap ∧ va_OF "java/lang/String" "coder" "B" (.int 0) k (fun q => B ≤ q) s s.heap ∧ va_OF "java/lang/String" "value" "[B" (.ref v) k (fun q => B ≤ q) s s.heap ∧ va_T .byte v (am_slen.getD j 0) (fun i => .int ((am_sbyt.getD j []).getD i 0)) (fun q => B ≤ q) s s.heap) ∧ vk_R (am_sr j).1 (am_sr j).2.1 (am_sr j).2.2 k s := by
  have h := List.all_eq_true.mp am_ckS_ok j (List.mem_range.mpr hj)
  unfold am_ckS at h
  simp only [Bool.and_eq_true] at h
  obtain ⟨⟨⟨⟨⟨⟨h1, h2⟩, h3⟩, h4⟩, h5⟩, h6⟩, h7⟩ := h
  have hl := of_decide_eq_true h6
  obtain ⟨adK, adV, hS, he⟩ := vk_Sof (N := 1) (tm := fun _ => am_sT j) (len := [am_slen.getD j 0]) (byt := [am_sbyt.getD j []]) (A := fun q => B ≤ q) (args := args) (s := s)
    (fun i hi => by
      have : i = 0 := by omega
      subst this
      show am_slen.getD j 0 < 2 ^ 31
      omega)
    (fun i hi => am_fq_use hgv h1) (fun i hi => am_fq_use hgv h2) (fun i hi => am_fq_use hgv h3)
    (fun i hi => by
      have : i = 0 := by omega
      subst this
      exact am_fq_use hgv h4)
    (fun i hi q hq => by
      have : i = 0 := by omega
      subst this
      exact am_fq_use hgv (List.all_eq_true.mp h5 q (List.mem_range.mpr hq)))
    (fun i i' hi hi' hne => absurd (show i = i' by omega) hne) hA
  exact ⟨adK 0, adV 0, hS.1 0 (by omega), vk_R.of (am_tq_use hts h7) (he 0 (by omega))⟩
theorem am_arrP (hts : ∀ w ∈ lw_tbl, w.before args s = true) {i : Nat} {ty : FieldType} (hy : ∀ C, ty ≠ .object C) (h : am_tq i (.arrayClass ty) = true) : ∃ c : ClassId, ArrOfT s c ty ∧ va_RA s c ty := by
  obtain ⟨c, k, comp, h1, h2, h3⟩ := Cond.arrayClass_spec (am_tq_use hts h)
  refine ⟨c, fun n z => ⟨fun k h => (by cases h), k, h2, comp, h3⟩, ?_⟩
  cases ty with
  | object C => exact absurd rfl (hy C)
  | _ => exact h1
theorem am_arrO {C : String} (h : va_AO C s) : ∃ c : ClassId, ArrOfT s c (.object C) ∧ va_RA s c (.object C) := by
  obtain ⟨comp, c, k, h1, -, h3, h4, h5⟩ := Cond.arrayOver_spec h
  exact ⟨c, fun n z => ⟨fun k h => (by cases h), k, h3, comp, h4⟩, k, comp, h3, h4, h1, h5⟩

theorem am_kn (hT : am_T) (hts : ∀ w ∈ lw_tbl, w.before args s = true) : ∃ D : va_G, ∀ (k : Nat) (q : vw_C), vwCl[k]? = some q → u_Kn s q.1 q.2.1 q.2.2 (D.1 k) (D.2 k) := by
  have h : ∀ k : Nat, ∃ d : ClassId × (Nat → Nat), ∀ q : vw_C, vwCl[k]? = some q → u_Kn s q.1 q.2.1 q.2.2 d.1 d.2 := by
    intro k
    cases hq : vwCl[k]? with
    | none => exact ⟨(0, fun _ => 0), fun q h => by cases h⟩
    | some q =>
      obtain ⟨C, T, N⟩ := q
      obtain ⟨-, -, -, hws, hin, -, -⟩ := hT.1 k C T N hq
      obtain ⟨c, iS, hKn⟩ := u_known (C := C) (T := T) (N := N) (n := N) hts (fun w hw => am_B_in (hws w hw)) (hts _ (am_B_in hin))
      exact ⟨(c, iS), fun q h => by cases h; exact hKn⟩
  obtain ⟨f, hf⟩ := Classical.axiomOfChoice h
  exact ⟨(fun k => (f k).1, fun k => (f k).2), hf⟩
end AMB
def am_M0 : am_M := ([], fun _ _ => 0, fun _ _ => 0, [], fun _ => none)
/-- what is left to show, of the small machine alone -/
def am_Goal : Prop := ∀ (L : Nat) (xs : Nat → Int32), L ≤ 3584 → ∃ (n : Nat) (M' : am_M), am_run L xs n 1000 264 0 [(0, .float 2000)] [] am_M0 = some (some (.int 1), M') ∧ M'.1.length ≤ 600000 ∧ am_sl M' ≤ 7302250
set_option maxHeartbeats 4000000 in
set_option maxRecDepth 100000 in
theorem am_start (hT : am_T) (hT2 : am_T2) (hG : am_Goal) {p : Program} {e : Env} {s : State} {m : MethodId} {below : List Frame} {meth : Method} {c : Code} (l : Launch) {b L : Nat} {xs : Nat → Int32} (hL : L ≤ 3584) (C0 : lw_At p s m meth c b L xs) : W p l e room_1 s m #[Value.ref b] below meth c s.heap [] 0 0 (lw_Z below #[Value.ref b] s) (entryFrame m ([Value.ref b] : List Value).toArray 4) := by
  obtain ⟨hx, hb, hr, hml, hown, hts, hX, hbl, hlocks, hgv⟩ := id C0
  obtain ⟨n, M', hrun, hM1, hM2⟩ := hG L xs hL
  have hA : ∀ a : Nat, a < s.heap.size → ¬ s.heap.size ≤ a := fun a h => Nat.not_le.mpr h
  obtain ⟨tS, hSe, hST⟩ := va_Tof (args := #[Value.ref b]) (s := s) (tm := .static "LooseWater" "SINE" "[I") (ty := .int) (N := 91) (f := fun j => .int (am_sin j)) (A := fun q => s.heap.size ≤ q) (by decide) (am_fq_use hgv (i := 10) (by decide +kernel)) (va_eqt (am_fq_use hgv (i := 11) (by decide +kernel))) (fun j hj => va_eqt (am_fq_use hgv (List.all_eq_true.mp am_ckN_ok j (List.mem_range.mpr hj)))) hA
  have hSZ : va_Z "LooseWater" "SINE" "[I" (.ref tS) (fun q => s.heap.size ≤ q) s s.heap := va_Zof (am_tq_use hts (i := 902) (by decide +kernel)) (am_tq_use hts (i := 96) (by decide +kernel)) hSe hA
  have hCZ : va_Z "java/lang/String" "COMPACT_STRINGS" "Z" (.int 1) (fun q => s.heap.size ≤ q) s s.heap := va_Zof (am_tq_use hts (i := 768) (by decide +kernel)) (am_tq_use hts (i := 111) (by decide +kernel)) (va_eqi (am_fq_use hgv (i := 4) (by decide +kernel))) hA
  have hIZ : va_Zq "jdk/internal/util/Preconditions" "SIOOBE_FORMATTER" "Ljava/util/function/BiFunction;" (fun q => s.heap.size ≤ q) s s.heap := va_Zqof (am_tq_use hts (i := 776) (by decide +kernel)) (am_tq_use hts (i := 113) (by decide +kernel)) (am_fq_use hgv (i := 5) (by decide +kernel)) hA
  obtain ⟨vI, hvI, hIZ⟩ : ∃ v : Value, (v = .null ∨ ∃ a, v = .ref a) ∧ va_Z "jdk/internal/util/Preconditions" "SIOOBE_FORMATTER" "Ljava/util/function/BiFunction;" v (fun q => s.heap.size ≤ q) s s.heap := by
    rcases hIZ with h | ⟨t, h⟩
    · exact ⟨_, Or.inl rfl, h⟩
    · exact ⟨_, Or.inr ⟨t, rfl⟩, h⟩
  have hstr : ∀ j : Nat, ∃ q : Nat × Nat, j < 28 → (va_O "java/lang/String" q.1 (fun q => s.heap.size ≤ q) s s.heap ∧ va_OF "java/lang/String" "coder" "B" (.int 0) q.1 (fun q => s.heap.size ≤ q) s s.heap ∧ va_OF "java/lang/String" "value" "[B" (.ref q.2) q.1 (fun q => s.heap.size ≤ q) s s.heap ∧ va_T .byte q.2 (am_slen.getD j 0) (fun i => .int ((am_sbyt.getD j []).getD i 0)) (fun q => s.heap.size ≤ q) s s.heap) ∧ vk_R (am_sr j).1 (am_sr j).2.1 (am_sr j).2.2 q.1 s := by
    intro j
    by_cases hj : j < 28
    · obtain ⟨k, v, h⟩ := am_text hgv hts hA hj
      exact ⟨(k, v), fun _ => h⟩
    · exact ⟨(0, 0), fun h => absurd h hj⟩
  obtain ⟨ad, had⟩ := Classical.axiomOfChoice hstr
  have ao1 : va_AO "LooseWater$Ship" s := va_AO.of (am_tq_use hts (i := 373) (by decide +kernel))
  have ao2 : va_AO "LooseWater$Plan" s := va_AO.of (am_tq_use hts (i := 375) (by decide +kernel))
  obtain ⟨D, hD⟩ := am_kn hT hts
  obtain ⟨c0, k0⟩ := am_arrP hts (ty := .int) (fun _ h => by cases h) (i := 206) (by decide +kernel)
  obtain ⟨c1, k1⟩ := am_arrP hts (ty := .long) (fun _ h => by cases h) (i := 207) (by decide +kernel)
  obtain ⟨c2, k2⟩ := am_arrP hts (ty := .byte) (fun _ h => by cases h) (i := 853) (by decide +kernel)
  obtain ⟨c3, k3⟩ := am_arrP hts (ty := .boolean) (fun _ h => by cases h) (i := 1426) (by decide +kernel)
  obtain ⟨c4, k4⟩ := am_arrO ao1
  obtain ⟨c5, k5⟩ := am_arrO ao2
  let cA : Nat → ClassId := fun t => if t = 0 then c0 else if t = 1 then c1 else if t = 2 then c2 else if t = 3 then c3 else if t = 4 then c4 else c5
  have hK : va_K D vwCl (am_tys cA) s := by
    refine ⟨hD, fun k q h => ?_⟩
    match k, h with
    | 0, h => cases h; exact k0
    | 1, h => cases h; exact k1
    | 2, h => cases h; exact k2
    | 3, h => cases h; exact k3
    | 4, h => cases h; exact k4
    | 5, h => cases h; exact k5
    | k + 6, h => simp [am_tys] at h
  let X : Nat → Value := fun u => if u = 0 then .ref tS else if u = 2000 then .ref b else if u = 3000 then vI else if u < 29 then .ref (ad (u - 1)).1 else if u < 1029 then .ref (ad (u - 1001)).2 else .null
  have hXV : am_XV X := by
    intro u
    show (X u = .null ∨ _)
    dsimp only [X]
    repeat' split
    all_goals first | exact Or.inr ⟨_, rfl⟩ | exact hvI | exact Or.inl rfl
  have hXX : am_X L xs s.heap.size X s s.heap := by
    refine ⟨tS, b, fun j => (ad j).1, fun j => (ad j).2, ⟨rfl, hSZ, hST⟩, ⟨hCZ, hIZ⟩, ⟨fun j hj => ⟨?_, ?_⟩, fun j hj => (had j hj).1, fun j r hr => ?_⟩, fun w hw => ?_, ⟨ao1, ao2⟩, ⟨rfl, ?_⟩⟩
    · dsimp only [X]
      rw [if_neg (by omega), if_neg (by omega), if_neg (by omega), if_pos (by omega)]
      rw [show 1 + j - 1 = j by omega]
    · dsimp only [X]
      rw [if_neg (by omega), if_neg (by omega), if_neg (by omega), if_neg (by omega), if_pos (by omega)]
      rw [show 1001 + j - 1001 = j by omega]
    · have hj : j < 28 := (List.getElem?_eq_some_iff.mp hr).1
      have := (had j hj).2
      rw [show am_sr j = r by unfold am_sr; rw [List.getD_eq_getElem?_getD, hr]; rfl] at this
      exact this
    · obtain ⟨j, hj⟩ := List.getElem?_of_mem hw
      have h9 := List.all_eq_true.mp am_ckW_ok j (List.mem_range.mpr (List.getElem?_eq_some_iff.mp hj).1)
      rw [hj] at h9
      exact va_Nw.of (am_N_on hw) (am_tq_use hts h9)
    · obtain ⟨scr, h1, h2, h3, h4, h5⟩ := hX
      exact ⟨scr, h1, h2, h3, Nat.le_of_eq h4.symm, by rw [h4], h5, Nat.not_le.mpr hbl⟩
  have hl := lv_entry ([.ref b]) (n := 4) (Nat.le_of_ble_eq_true rfl)
  rw [lg_entry_eq]
  generalize (lg_sl ([.ref b]) ++ List.replicate (4 - (lg_sl ([.ref b])).length) Slot.unset).toArray = ls at hl ⊢
  have e0 : am_lv s.heap.size X [(0, .float 2000)] = lv_args 0 [.ref b] := rfl
  have hlaw : am_by 264 = code := rfl
  have hC : am_C L xs s.heap.size X D cA p room_1 s m #[Value.ref b] meth c 264 1000 0 :=
    ⟨hx, by rw [hlaw]; exact hb, hml, hown, fun w hw => hts w (am_B_in hw), hXV, hXX, hK, rfl, ⟨by decide, by decide⟩, fun q => absurd q (by decide +kernel)⟩
  have hP : va_P D vwCl (am_w s.heap.size cA am_M0) s.heap := fun k q h => by simp [am_w, am_M0] at h
  have hS : va_S (fun q => s.heap.size ≤ q) s.heap s.heap [] := va_S.rf
  refine am_sound hT hT2 n 1000 264 0 _ [] am_M0 _ M' hrun p l e room_1 s m #[Value.ref b] below meth c s.heap [] (lw_Z below #[Value.ref b] s) s.heap.size X D cA 0 0 ls hC hP hS (by rw [e0]; exact hl) (Nat.zero_le _) (Nat.zero_le _) hM1 hM2 ?_
  intro pc ls H locs q st hat hret hP1 hS1
  have hdg := (am_ok_dec (hT2.2 264 pc q hat)).1
  obtain ⟨ins, a1, a2, a3⟩ := q
  dsimp only at hret hdg
  unfold am_r at hret
  split at hret
  · split at hret
    · split at hret
      · cases hret
        refine va_forget (fun q hq => hS1.2.2 q hq) ?_
        refine W.widen (k := 600000) (n := 7302250) hM1 hM2 ?_
        exact lw_ret hx hb hr hlocks (by rw [hlaw] at hdg; exact hdg)
      · cases hret
    · cases hret
  · split at hret <;> cases hret
  · split at hret <;> cases hret
  · split at hret <;> cases hret
  · split at hret <;> cases hret
  · cases hret
end
section
/-! ===== runs of the small machine as a judgement: from here it ends, and Q holds of answer and memory ===== -/
theorem am_run_up {L : Nat} {xs : Nat → Int32} : ∀ (n d k pc : Nat) (lo : am_Lo) (st : List Value) (M : am_M) (r : Option Value × am_M), am_run L xs n d k pc lo st M = some r → am_run L xs (n + 1) d k pc lo st M = some r := by
  intro n
  induction n with
  | zero => intro d k pc lo st M r h; simp [am_run] at h
  | succ n ih =>
    intro d k pc lo st M r h
    rw [am_run] at h ⊢
    split at h
    · cases h
    · split at h
      · exact ih _ _ _ _ _ _ _ h
      · split at h
        · exact ih _ _ _ _ _ _ _ h
        · split at h
          · exact ih _ _ _ _ _ _ _ h
          · split at h
            · exact ih _ _ _ _ _ _ _ h
            · split at h
              · exact h
              · split at h
                · cases h
                · split at h
                  · cases h
                  · split at h
                    · cases h
                    · rename_i hr
                      rw [ih _ _ _ _ _ _ _ hr]
                      exact ih _ _ _ _ _ _ _ h
theorem am_run_le {L : Nat} {xs : Nat → Int32} {n n' d k pc : Nat} {lo : am_Lo} {st : List Value} {M : am_M} {r : Option Value × am_M} (hn : n ≤ n') (h : am_run L xs n d k pc lo st M = some r) : am_run L xs n' d k pc lo st M = some r := by
  induction hn with
  | refl => exact h
  | step _ ih => exact am_run_up _ _ _ _ _ _ _ _ ih
def wp (E : Nat × (Nat → Int32)) (d k pc : Nat) (lo : am_Lo) (st : List Value) (M : am_M) (Q : Option Value → am_M → Prop) : Prop := ∃ (n : Nat) (r : Option Value) (M' : am_M), am_run E.1 E.2 n d k pc lo st M = some (r, M') ∧ Q r M'
/-- a call of a method -/
def wpC (E : Nat × (Nat → Int32)) (d j : Nat) (as : List Value) (M : am_M) (Q : Option Value → am_M → Prop) : Prop := wp E d j 0 (lv_args 0 as) [] M Q
section WP
variable {E : Nat × (Nat → Int32)} {d k pc pc' : Nat} {lo lo' : am_Lo} {st st' : List Value} {M M' : am_M} {Q Q' : Option Value → am_M → Prop} {ins : Instr} {a1 a2 a3 : Nat}
theorem wp_mono (h : wp E d k pc lo st M Q) (hQ : ∀ r M', Q r M' → Q' r M') : wp E d k pc lo st M Q' := by
  obtain ⟨n, r, M', h1, h2⟩ := h
  exact ⟨n, r, M', h1, hQ r M' h2⟩
theorem wpC_mono {j : Nat} {as : List Value} (h : wpC E d j as M Q) (hQ : ∀ r M', Q r M' → Q' r M') : wpC E d j as M Q' := wp_mono h hQ
/-- one step that goes on -/
theorem wp_next {d2 k2 : Nat} (h : ∀ n, am_run E.1 E.2 (n + 1) d k pc lo st M = am_run E.1 E.2 n d2 k2 pc' lo' st' M') : wp E d k pc lo st M Q = wp E d2 k2 pc' lo' st' M' Q := by
  apply propext
  constructor
  · rintro ⟨n, r, M1, h1, h2⟩
    cases n with
    | zero => simp [am_run] at h1
    | succ n => exact ⟨n, r, M1, by rw [← h]; exact h1, h2⟩
  · rintro ⟨n, r, M1, h1, h2⟩
    exact ⟨n + 1, r, M1, by rw [h]; exact h1, h2⟩
theorem wr_p (h : am_at k pc = some (ins, a1, a2, a3)) (hp : am_p ins a1 a2 st = some st') (hc : pc + am_len ins a1 = pc') : wp E d k pc lo st M Q = wp E d k pc' lo st' M Q := by
  subst hc
  apply wp_next
  intro n
  rw [am_run, h]
  dsimp only
  rw [hp]
theorem wr_l (h : am_at k pc = some (ins, a1, a2, a3)) (hp : am_p ins a1 a2 st = none) (hl : am_l (am_ml k) ins lo st = some (lo', st')) (hc : pc + am_len ins a1 = pc') : wp E d k pc lo st M Q = wp E d k pc' lo' st' M Q := by
  subst hc
  apply wp_next
  intro n
  rw [am_run, h]
  dsimp only
  rw [hp]
  dsimp only
  rw [hl]
theorem wr_b (h : am_at k pc = some (ins, a1, a2, a3)) (hp : am_p ins a1 a2 st = none) (hl : am_l (am_ml k) ins lo st = none) (hb : am_b ins pc st = some (pc', st')) : wp E d k pc lo st M Q = wp E d k pc' lo st' M Q := by
  apply wp_next
  intro n
  rw [am_run, h]
  dsimp only
  rw [hp]
  dsimp only
  rw [hl]
  dsimp only
  rw [hb]
theorem wr_m (h : am_at k pc = some (ins, a1, a2, a3)) (hp : am_p ins a1 a2 st = none) (hl : am_l (am_ml k) ins lo st = none) (hb : am_b ins pc st = none) (hm : am_m E.1 E.2 d ins a1 a2 st M = some (st', M')) (hc : pc + am_len ins a1 = pc') : wp E d k pc lo st M Q = wp E d k pc' lo st' M' Q := by
  subst hc
  apply wp_next
  intro n
  rw [am_run, h]
  dsimp only
  rw [hp]
  dsimp only
  rw [hl]
  dsimp only
  rw [hb]
  dsimp only
  rw [hm]
theorem wr_r {v : Option Value} (h : am_at k pc = some (ins, a1, a2, a3)) (hp : am_p ins a1 a2 st = none) (hl : am_l (am_ml k) ins lo st = none) (hb : am_b ins pc st = none) (hm : am_m E.1 E.2 d ins a1 a2 st M = none) (hr : am_r (am_rt k) ins st = some v) : wp E d k pc lo st M Q = Q v M := by
  have e : ∀ n, am_run E.1 E.2 (n + 1) d k pc lo st M = some (v, M) := by
    intro n
    rw [am_run, h]
    dsimp only
    rw [hp]
    dsimp only
    rw [hl]
    dsimp only
    rw [hb]
    dsimp only
    rw [hm]
    dsimp only
    rw [hr]
  apply propext
  constructor
  · rintro ⟨n, r, M1, h1, h2⟩
    cases n with
    | zero => simp [am_run] at h1
    | succ n =>
      rw [e] at h1
      cases h1
      exact h2
  · intro h2
    exact ⟨1, v, M, e 0, h2⟩
theorem wr_c {j : Nat} {as rest : List Value} (h : am_at k pc = some (ins, a1, a2, a3)) (hp : am_p ins a1 a2 st = none) (hl : am_l (am_ml k) ins lo st = none) (hb : am_b ins pc st = none) (hm : am_m E.1 E.2 (d + 1) ins a1 a2 st M = none) (hr : am_r (am_rt k) ins st = none) (hcc : am_c ins a1 a2 st M = some (j, as, rest)) :
    wp E (d + 1) k pc lo st M Q = wpC E d j as M (fun r M1 => wp E (d + 1) k (pc + 3) lo (r.toList ++ rest) M1 Q) := by
  have e : ∀ n, am_run E.1 E.2 (n + 1) (d + 1) k pc lo st M = match am_run E.1 E.2 n d j 0 (lv_args 0 as) [] M with
      | none => none
      | some (r, M1) => am_run E.1 E.2 n (d + 1) k (pc + 3) lo (r.toList ++ rest) M1 := by
    intro n
    rw [am_run, h]
    dsimp only
    rw [hp]
    dsimp only
    rw [hl]
    dsimp only
    rw [hb]
    dsimp only
    rw [hm]
    dsimp only
    rw [hr]
    dsimp only
    rw [hcc]
    rfl
  apply propext
  constructor
  · rintro ⟨n, r, M1, h1, h2⟩
    cases n with
    | zero => simp [am_run] at h1
    | succ n =>
      rw [e] at h1
      split at h1
      · cases h1
      · rename_i r1 M2 hr1
        exact ⟨n, r1, M2, hr1, n, r, M1, h1, h2⟩
  · rintro ⟨n, r1, M2, hr1, n2, r, M1, h1, h2⟩
    refine ⟨max n n2 + 1, r, M1, ?_, h2⟩
    rw [e, am_run_le (Nat.le_max_left n n2) hr1]
    exact am_run_le (Nat.le_max_right n n2) h1
end WP
end
section
/-! ===== wx: what must hold for the code from here on, computed by unfolding; it stops at the places of hs ===== -/
def am_srt : List am_E → Bool
  | [] => true
  | [_] => true
  | a :: b :: l => Nat.blt a.1 b.1 && am_srt (b :: l)
theorem am_srt_tl {a : am_E} {l : List am_E} (h : am_srt (a :: l) = true) : am_srt l = true := by
  cases l with
  | nil => rfl
  | cons b l =>
    simp only [am_srt, Bool.and_eq_true] at h
    exact h.2
theorem am_srt_lt : ∀ {l : List am_E} {a : am_E}, am_srt (a :: l) = true → ∀ e ∈ l, a.1 < e.1 := by
  intro l
  induction l with
  | nil => intro a _ e he; cases he
  | cons b l ih =>
    intro a h e he
    have h1 : a.1 < b.1 := by
      simp only [am_srt, Bool.and_eq_true] at h
      exact Nat.blt_eq.mp h.1
    rcases List.mem_cons.mp he with rfl | he
    · exact h1
    · exact Nat.lt_trans h1 (ih (am_srt_tl h) e he)
theorem am_srt_find : ∀ {l : List am_E}, am_srt l = true → ∀ e ∈ l, l.find? (fun q => q.1 == e.1) = some e := by
  intro l
  induction l with
  | nil => intro _ e he; cases he
  | cons a l ih =>
    intro h e he
    rw [List.find?_cons]
    rcases List.mem_cons.mp he with rfl | he
    · simp
    · have := am_srt_lt h e he
      have hne : (a.1 == e.1) = false := by
        have : ¬ a.1 = e.1 := by omega
        simpa using this
      rw [hne]
      exact ih (am_srt_tl h) e he
def am_sfx (k pc : Nat) : List am_E := (am_cd.getD k []).dropWhile (fun q => !(Nat.beq q.1 pc))
/-- a piece of a method's code -/
def am_pc (k : Nat) (cs : List am_E) : Prop := ∀ e ∈ cs, am_at k e.1 = some e.2
theorem am_pc_all {k : Nat} (h : am_srt (am_cd.getD k []) = true) : am_pc k (am_cd.getD k []) := by
  intro e he
  unfold am_at
  rw [am_srt_find h e he]
  rfl
theorem am_pc_sfx {k pc : Nat} (h : am_srt (am_cd.getD k []) = true) : am_pc k (am_sfx k pc) := fun e he => am_pc_all h e ((List.dropWhile_sublist _).subset he)
theorem am_sfx_hd {k pc : Nat} {e : am_E} {cs : List am_E} (h : am_sfx k pc = e :: cs) : e.1 = pc := by
  have h1 := List.head?_dropWhile_not (fun q : am_E => !(Nat.beq q.1 pc)) (am_cd.getD k [])
  unfold am_sfx at h
  rw [h] at h1
  simp at h1
  exact h1
abbrev am_K : Type := am_Lo → List Value → am_M → Prop
def wx_go (E : Nat × (Nat → Int32)) (d k : Nat) (hs : List Nat) (Q : Option Value → am_M → Prop) (rec : List am_E → am_K) (pc' : Nat) (cs : List am_E) (lo : am_Lo) (st : List Value) (M : am_M) : Prop := match cs with
  | [] => False
  | e :: l => match Nat.beq e.1 pc' with
    | true => match hs.contains pc' with
      | true => wp E d k pc' lo st M Q
      | false => rec (e :: l) lo st M
    | false => False
def wx_jp (E : Nat × (Nat → Int32)) (d k : Nat) (hs : List Nat) (Q : Option Value → am_M → Prop) (rec : List am_E → am_K) (pc : Nat) (off : Int) (lo : am_Lo) (st : List Value) (M : am_M) : Prop := match (pc : Int) + off with
  | .ofNat t => wx_go E d k hs Q rec t (am_sfx k t) lo st M
  | .negSucc _ => False
/-- a condition: both ways -/
def wx_if (c : Prop) (a b : Prop) : Prop := (c → a) ∧ (¬ c → b)
def wx_bt (pc : Nat) (off : Int) (f : Nat → Prop) : Prop := match (pc : Int) + off with
  | .ofNat t => f t
  | .negSucc _ => False
/-- the cases of a table -/
def wx_tb (x : Int) (jp : Int → Prop) : Int → List Int → Prop
  | _, [] => True
  | v, o :: os => (x = v → jp o) ∧ wx_tb x jp (v + 1) os
def wx_lu (x : Int) (jp : Int → Prop) : List (Int × Int) → Prop
  | [] => True
  | q :: qs => (x = q.1 → jp q.2) ∧ wx_lu x jp qs
/-- a row copied -/
def wx_cp (kk : List Value → am_M → Prop) (st : List Value) (M : am_M) : Prop := match st with
  | .int n :: .int dp :: .ref b :: .int sp :: .ref a :: st => match M.1[a]?, M.1[b]? with
    | some (.inr (0, na)), some (.inr (0, nb)) => (am_cat st ≤ 8 ∧ ¬ sp < 0 ∧ ¬ dp < 0 ∧ ¬ n < 0) ∧ (sp.toNatClampNeg + n.toNatClampNeg ≤ na ∧ dp.toNatClampNeg + n.toNatClampNeg ≤ nb) ∧ kk st (am_uI M b (va_cpy (M.2.1 a) (M.2.1 b) sp.toNatClampNeg dp.toNatClampNeg n.toNatClampNeg))
    | some (.inr (1, na)), some (.inr (1, nb)) => (am_cat st ≤ 8 ∧ ¬ sp < 0 ∧ ¬ dp < 0 ∧ ¬ n < 0) ∧ (sp.toNatClampNeg + n.toNatClampNeg ≤ na ∧ dp.toNatClampNeg + n.toNatClampNeg ≤ nb) ∧ kk st (am_uL M b (va_cpy (M.2.2.1 a) (M.2.2.1 b) sp.toNatClampNeg dp.toNatClampNeg n.toNatClampNeg))
    | _, _ => False
  | _ => False
def wx (E : Nat × (Nat → Int32)) (d k : Nat) (hs : List Nat) (Q : Option Value → am_M → Prop) : Nat → List am_E → am_Lo → List Value → am_M → Prop
  | 0, _, _, _, _ => False
  | _ + 1, [], _, _, _ => False
  | n + 1, (pc, ins, a1, a2, _) :: cs, lo, st, M => match ins, st with
    | .idiv, .int y :: .int x :: st => (¬ y = 0) ∧ wx_go E d k hs Q (wx E d k hs Q n) (pc + 1) cs lo (.int (x / y) :: st) M
    | .irem, .int y :: .int x :: st => (¬ y = 0) ∧ wx_go E d k hs Q (wx E d k hs Q n) (pc + 1) cs lo (.int (x - x / y * y) :: st) M
    | .ldiv, .long y :: .long x :: st => (¬ y = 0) ∧ wx_go E d k hs Q (wx E d k hs Q n) (pc + 1) cs lo (.long (x / y) :: st) M
    | .lrem, .long y :: .long x :: st => (¬ y = 0) ∧ wx_go E d k hs Q (wx E d k hs Q n) (pc + 1) cs lo (.long (x - x / y * y) :: st) M
    | .goto off, st => wx_jp E d k hs Q (wx E d k hs Q n) pc off lo st M
    | .ifCond .eq off, .int x :: st => wx_bt pc off (fun t => wx_if (x = 0) (wx_go E d k hs Q (wx E d k hs Q n) t (am_sfx k t) lo st M) (wx_go E d k hs Q (wx E d k hs Q n) (pc + 3) cs lo st M))
    | .ifCond .ne off, .int x :: st => wx_bt pc off (fun t => wx_if (x = 0) (wx_go E d k hs Q (wx E d k hs Q n) (pc + 3) cs lo st M) (wx_go E d k hs Q (wx E d k hs Q n) t (am_sfx k t) lo st M))
    | .ifCond .lt off, .int x :: st => wx_bt pc off (fun t => wx_if (x < 0) (wx_go E d k hs Q (wx E d k hs Q n) t (am_sfx k t) lo st M) (wx_go E d k hs Q (wx E d k hs Q n) (pc + 3) cs lo st M))
    | .ifCond .ge off, .int x :: st => wx_bt pc off (fun t => wx_if (0 ≤ x) (wx_go E d k hs Q (wx E d k hs Q n) t (am_sfx k t) lo st M) (wx_go E d k hs Q (wx E d k hs Q n) (pc + 3) cs lo st M))
    | .ifCond .gt off, .int x :: st => wx_bt pc off (fun t => wx_if (0 < x) (wx_go E d k hs Q (wx E d k hs Q n) t (am_sfx k t) lo st M) (wx_go E d k hs Q (wx E d k hs Q n) (pc + 3) cs lo st M))
    | .ifCond .le off, .int x :: st => wx_bt pc off (fun t => wx_if (x ≤ 0) (wx_go E d k hs Q (wx E d k hs Q n) t (am_sfx k t) lo st M) (wx_go E d k hs Q (wx E d k hs Q n) (pc + 3) cs lo st M))
    | .if_icmp .eq off, .int y :: .int x :: st => wx_bt pc off (fun t => wx_if (x = y) (wx_go E d k hs Q (wx E d k hs Q n) t (am_sfx k t) lo st M) (wx_go E d k hs Q (wx E d k hs Q n) (pc + 3) cs lo st M))
    | .if_icmp .ne off, .int y :: .int x :: st => wx_bt pc off (fun t => wx_if (x = y) (wx_go E d k hs Q (wx E d k hs Q n) (pc + 3) cs lo st M) (wx_go E d k hs Q (wx E d k hs Q n) t (am_sfx k t) lo st M))
    | .if_icmp .lt off, .int y :: .int x :: st => wx_bt pc off (fun t => wx_if (x < y) (wx_go E d k hs Q (wx E d k hs Q n) t (am_sfx k t) lo st M) (wx_go E d k hs Q (wx E d k hs Q n) (pc + 3) cs lo st M))
    | .if_icmp .ge off, .int y :: .int x :: st => wx_bt pc off (fun t => wx_if (y ≤ x) (wx_go E d k hs Q (wx E d k hs Q n) t (am_sfx k t) lo st M) (wx_go E d k hs Q (wx E d k hs Q n) (pc + 3) cs lo st M))
    | .if_icmp .gt off, .int y :: .int x :: st => wx_bt pc off (fun t => wx_if (y < x) (wx_go E d k hs Q (wx E d k hs Q n) t (am_sfx k t) lo st M) (wx_go E d k hs Q (wx E d k hs Q n) (pc + 3) cs lo st M))
    | .if_icmp .le off, .int y :: .int x :: st => wx_bt pc off (fun t => wx_if (x ≤ y) (wx_go E d k hs Q (wx E d k hs Q n) t (am_sfx k t) lo st M) (wx_go E d k hs Q (wx E d k hs Q n) (pc + 3) cs lo st M))
    | .tableswitch dflt lo' hi offs, .int x :: st => (x.toInt < lo' ∨ hi < x.toInt → wx_jp E d k hs Q (wx E d k hs Q n) pc dflt lo st M) ∧ lo' + offs.size = hi + 1 ∧ wx_tb x.toInt (fun off => wx_jp E d k hs Q (wx E d k hs Q n) pc off lo st M) lo' offs.toList
    | .iaload, .int i :: .ref a :: st => match M.1[a]? with
      | some (.inr (0, l)) => vp_in i l ∧ wx_go E d k hs Q (wx E d k hs Q n) (pc + 1) cs lo (.int (M.2.1 a i.toNatClampNeg) :: st) M
      | _ => False
    | .iaload, .int i :: .float u :: st => match am_ext E.1 E.2 u.toNat with
      | some (0, l, f) => vp_in i l ∧ wx_go E d k hs Q (wx E d k hs Q n) (pc + 1) cs lo (.int (f i.toNatClampNeg) :: st) M
      | _ => False
    | .baload, .int i :: .ref a :: st => match M.1[a]? with
      | some (.inr (2, l)) => vp_in i l ∧ wx_go E d k hs Q (wx E d k hs Q n) (pc + 1) cs lo (.int (M.2.1 a i.toNatClampNeg) :: st) M
      | some (.inr (3, l)) => vp_in i l ∧ wx_go E d k hs Q (wx E d k hs Q n) (pc + 1) cs lo (.int (M.2.1 a i.toNatClampNeg) :: st) M
      | _ => False
    | .baload, .int i :: .float u :: st => match am_ext E.1 E.2 u.toNat with
      | some (2, l, f) => vp_in i l ∧ wx_go E d k hs Q (wx E d k hs Q n) (pc + 1) cs lo (.int (f i.toNatClampNeg) :: st) M
      | _ => False
    | .laload, .int i :: .ref a :: st => match M.1[a]? with
      | some (.inr (1, l)) => vp_in i l ∧ wx_go E d k hs Q (wx E d k hs Q n) (pc + 1) cs lo (.long (M.2.2.1 a i.toNatClampNeg) :: st) M
      | _ => False
    | .aaload, .int i :: .ref a :: st => match M.1[a]? with
      | some (.inr (4, l)) => vp_in i l ∧ ∃ b, am_rl M.2.2.2.1 a i.toNatClampNeg = some b ∧ wx_go E d k hs Q (wx E d k hs Q n) (pc + 1) cs lo (.ref b :: st) M
      | some (.inr (5, l)) => vp_in i l ∧ ∃ b, am_rl M.2.2.2.1 a i.toNatClampNeg = some b ∧ wx_go E d k hs Q (wx E d k hs Q n) (pc + 1) cs lo (.ref b :: st) M
      | _ => False
    | .iastore, .int x :: .int i :: .ref a :: st => match M.1[a]? with
      | some (.inr (0, l)) => vp_in i l ∧ wx_go E d k hs Q (wx E d k hs Q n) (pc + 1) cs lo st (am_uI M a (upd (M.2.1 a) i.toNatClampNeg x))
      | _ => False
    | .bastore, .int x :: .int i :: .ref a :: st => match M.1[a]? with
      | some (.inr (2, l)) => vp_in i l ∧ wx_go E d k hs Q (wx E d k hs Q n) (pc + 1) cs lo st (am_uI M a (upd (M.2.1 a) i.toNatClampNeg (vp_nar .byte x)))
      | some (.inr (3, l)) => vp_in i l ∧ wx_go E d k hs Q (wx E d k hs Q n) (pc + 1) cs lo st (am_uI M a (upd (M.2.1 a) i.toNatClampNeg (vp_nar .boolean x)))
      | _ => False
    | .lastore, .long x :: .int i :: .ref a :: st => match M.1[a]? with
      | some (.inr (1, l)) => vp_in i l ∧ wx_go E d k hs Q (wx E d k hs Q n) (pc + 1) cs lo st (am_uL M a (vp_updL (M.2.2.1 a) i.toNatClampNeg x))
      | _ => False
    | .ireturn, [.int v] => match am_rt k with
      | some .int => Q (some (.int v)) M
      | some ty => narrow ty (.int v) = .int v ∧ Q (some (.int v)) M
      | none => False
    | .invokestatic i, st => match Nat.blt a1 265 with
      | true => match d with
        | 0 => False
        | d' + 1 => am_c (.invokestatic i) a1 a2 st M = some (a1, (st.take a2).reverse, st.drop a2) ∧ wpC E d' a1 (st.take a2).reverse M (fun r M1 => wx_go E (d' + 1) k hs Q (wx E (d' + 1) k hs Q n) (pc + 3) cs lo (r.toList ++ st.drop a2) M1)
      | false => match Nat.beq a1 1000 with
        | true => 0 < d ∧ wx_cp (fun st' M' => wx_go E d k hs Q (wx E d k hs Q n) (pc + 3) cs lo st' M') st M
        | false => match am_m E.1 E.2 d (.invokestatic i) a1 a2 st M with
          | some (st', M') => wx_go E d k hs Q (wx E d k hs Q n) (pc + 3) cs lo st' M'
          | none => False
    | .invokevirtual i, st => match d with
        | 0 => False
        | d' + 1 => am_c (.invokevirtual i) a1 a2 st M = some (a1, (st.take a2).reverse, st.drop a2) ∧ wpC E d' a1 (st.take a2).reverse M (fun r M1 => wx_go E (d' + 1) k hs Q (wx E (d' + 1) k hs Q n) (pc + 3) cs lo (r.toList ++ st.drop a2) M1)
    | .getfield i, .ref a :: st => match Nat.beq a1 0 && Nat.beq a2 0 with
      | true => M.1[a]? = some (.inl 0) ∧ ∃ b, M.2.2.2.2 a = some b ∧ wx_go E d k hs Q (wx E d k hs Q n) (pc + 3) cs lo (.ref b :: st) M
      | false => match am_m E.1 E.2 d (.getfield i) a1 a2 (.ref a :: st) M with
        | some (st', M') => wx_go E d k hs Q (wx E d k hs Q n) (pc + 3) cs lo st' M'
        | none => False
    | ins, st => match am_p ins a1 a2 st with
      | some st' => wx_go E d k hs Q (wx E d k hs Q n) (pc + am_len ins a1) cs lo st' M
      | none => match am_l (am_ml k) ins lo st with
        | some (lo', st') => wx_go E d k hs Q (wx E d k hs Q n) (pc + am_len ins a1) cs lo' st' M
        | none => match am_b ins pc st with
          | some _ => False
          | none => match am_m E.1 E.2 d ins a1 a2 st M with
            | some (st', M') => wx_go E d k hs Q (wx E d k hs Q n) (pc + am_len ins a1) cs lo st' M'
            | none => match am_r (am_rt k) ins st with
              | some v => Q v M
              | none => False

section WX
variable {E : Nat × (Nat → Int32)} {d k : Nat} {hs : List Nat} {Q : Option Value → am_M → Prop}
theorem wx_go_ok {rec : List am_E → am_K} {pc' : Nat} {cs : List am_E} {lo : am_Lo} {st : List Value} {M : am_M} (hrec : ∀ cs lo st M, am_pc k cs → rec cs lo st M → ∀ e l, cs = e :: l → wp E d k e.1 lo st M Q) (hcs : am_pc k cs) (h : wx_go E d k hs Q rec pc' cs lo st M) : wp E d k pc' lo st M Q := by
  unfold wx_go at h
  split at h
  · cases h
  · rename_i e l
    split at h
    · rename_i hb
      have hb := Nat.eq_of_beq_eq_true hb
      split at h
      · exact h
      · rw [← hb]
        exact hrec _ _ _ _ hcs h e l rfl
    · cases h
theorem wx_jp_ok (hk : am_srt (am_cd.getD k []) = true) {rec : List am_E → am_K} {pc : Nat} {off : Int} {lo : am_Lo} {st : List Value} {M : am_M} (hrec : ∀ cs lo st M, am_pc k cs → rec cs lo st M → ∀ e l, cs = e :: l → wp E d k e.1 lo st M Q) (h : wx_jp E d k hs Q rec pc off lo st M) : ∃ t : Nat, (pc : Int) + off = (t : Int) ∧ wp E d k t lo st M Q := by
  unfold wx_jp at h
  split at h
  · rename_i t ht
    exact ⟨t, ht, wx_go_ok hrec (am_pc_sfx hk) h⟩
  · cases h
theorem wx_cj {b : Bool} {pc t : Nat} {off : Int} {st : List Value} (ht : (pc : Int) + off = (t : Int)) : am_cj b pc off st = some (if b = true then t else pc + 3, st) := by
  unfold am_cj
  rw [if_pos (by omega)]
  have : ((pc : Int) + off).toNat = t := by omega
  rw [this]
/-- a jump that may be taken -/
theorem wx_br {pc t a1 a2 a3 : Nat} {ins : Instr} {off : Int} {b : Bool} {c : Prop} {lo : am_Lo} {st st' : List Value} {M : am_M} (hat : am_at k pc = some (ins, a1, a2, a3)) (hp : am_p ins a1 a2 st = none) (hl : am_l (am_ml k) ins lo st = none) (hb : am_b ins pc st = am_cj b pc off st') (hc : b = true ↔ c) (ht : (pc : Int) + off = (t : Int)) (h1 : c → wp E d k t lo st' M Q) (h2 : ¬ c → wp E d k (pc + 3) lo st' M Q) : wp E d k pc lo st M Q := by
  rw [wr_b hat hp hl (hb.trans (wx_cj ht))]
  cases b with
  | true => rw [if_pos rfl]; exact h1 (hc.mp rfl)
  | false => rw [if_neg (by decide)]; exact h2 (fun q => by cases hc.mpr q)
theorem wx_tb_at {x : Int} {jp : Int → Prop} : ∀ (os : List Int) (v : Int) (i : Nat) (o : Int), wx_tb x jp v os → os[i]? = some o → x = v + i → jp o := by
  intro os
  induction os with
  | nil => intro v i o _ h; cases h
  | cons a os ih =>
    intro v i o h hi hx
    cases i with
    | zero => cases hi; exact h.1 (by simpa using hx)
    | succ i => exact ih (v + 1) i o h.2 hi (by omega)
theorem wx_bt_ok {pc : Nat} {off : Int} {f : Nat → Prop} (h : wx_bt pc off f) : ∃ t : Nat, (pc : Int) + off = (t : Int) ∧ f t := by
  unfold wx_bt at h
  split at h
  · rename_i t ht
    exact ⟨t, ht, h⟩
  · cases h
set_option maxHeartbeats 4000000 in
theorem wx_ok' (hk : am_srt (am_cd.getD k []) = true) : ∀ (n : Nat) (cs : List am_E) (lo : am_Lo) (st : List Value) (M : am_M), am_pc k cs → wx E d k hs Q n cs lo st M → ∀ e l, cs = e :: l → wp E d k e.1 lo st M Q := by
  intro n
  induction n generalizing d with
  | zero => intro cs lo st M _ h; cases h
  | succ n ih =>
    intro cs lo st M hcs h e l he
    subst he
    obtain ⟨pc, ins, a1, a2, a3⟩ := e
    have hat : am_at k pc = some (ins, a1, a2, a3) := hcs _ List.mem_cons_self
    have hl' : am_pc k l := fun e he => hcs e (List.mem_cons_of_mem _ he)
    dsimp only
    unfold wx at h
    split at h
    · refine (wr_p hat ?_ rfl).mpr (wx_go_ok ih hl' h.2)
      exact if_neg h.1
    · refine (wr_p hat ?_ rfl).mpr (wx_go_ok ih hl' h.2)
      exact if_neg h.1
    · refine (wr_p hat ?_ rfl).mpr (wx_go_ok ih hl' h.2)
      exact if_neg h.1
    · refine (wr_p hat ?_ rfl).mpr (wx_go_ok ih hl' h.2)
      exact if_neg h.1
    · obtain ⟨t, ht, hw⟩ := wx_jp_ok hk ih h
      rw [wr_b hat rfl rfl (show am_j pc _ _ = some (t, _) by unfold am_j; rw [if_pos (by omega)]; congr 2; omega)]
      exact hw
    · obtain ⟨t, ht, h1, h2⟩ := wx_bt_ok h
      exact wx_br hat rfl rfl rfl decide_eq_true_iff ht (fun q => wx_go_ok ih (am_pc_sfx hk) (h1 q)) (fun q => wx_go_ok ih hl' (h2 q))
    · obtain ⟨t, ht, h1, h2⟩ := wx_bt_ok h
      exact wx_br (c := ¬ _) hat rfl rfl rfl decide_eq_true_iff ht (fun q => wx_go_ok ih (am_pc_sfx hk) (h2 q)) (fun q => wx_go_ok ih hl' (h1 (Decidable.not_not.mp q)))
    · obtain ⟨t, ht, h1, h2⟩ := wx_bt_ok h
      exact wx_br hat rfl rfl rfl decide_eq_true_iff ht (fun q => wx_go_ok ih (am_pc_sfx hk) (h1 q)) (fun q => wx_go_ok ih hl' (h2 q))
    · obtain ⟨t, ht, h1, h2⟩ := wx_bt_ok h
      exact wx_br hat rfl rfl rfl decide_eq_true_iff ht (fun q => wx_go_ok ih (am_pc_sfx hk) (h1 q)) (fun q => wx_go_ok ih hl' (h2 q))
    · obtain ⟨t, ht, h1, h2⟩ := wx_bt_ok h
      exact wx_br hat rfl rfl rfl decide_eq_true_iff ht (fun q => wx_go_ok ih (am_pc_sfx hk) (h1 q)) (fun q => wx_go_ok ih hl' (h2 q))
    · obtain ⟨t, ht, h1, h2⟩ := wx_bt_ok h
      exact wx_br hat rfl rfl rfl decide_eq_true_iff ht (fun q => wx_go_ok ih (am_pc_sfx hk) (h1 q)) (fun q => wx_go_ok ih hl' (h2 q))
    · obtain ⟨t, ht, h1, h2⟩ := wx_bt_ok h
      exact wx_br hat rfl rfl rfl decide_eq_true_iff ht (fun q => wx_go_ok ih (am_pc_sfx hk) (h1 q)) (fun q => wx_go_ok ih hl' (h2 q))
    · obtain ⟨t, ht, h1, h2⟩ := wx_bt_ok h
      exact wx_br (c := ¬ _) hat rfl rfl rfl decide_eq_true_iff ht (fun q => wx_go_ok ih (am_pc_sfx hk) (h2 q)) (fun q => wx_go_ok ih hl' (h1 (Decidable.not_not.mp q)))
    · obtain ⟨t, ht, h1, h2⟩ := wx_bt_ok h
      exact wx_br hat rfl rfl rfl decide_eq_true_iff ht (fun q => wx_go_ok ih (am_pc_sfx hk) (h1 q)) (fun q => wx_go_ok ih hl' (h2 q))
    · obtain ⟨t, ht, h1, h2⟩ := wx_bt_ok h
      exact wx_br hat rfl rfl rfl decide_eq_true_iff ht (fun q => wx_go_ok ih (am_pc_sfx hk) (h1 q)) (fun q => wx_go_ok ih hl' (h2 q))
    · obtain ⟨t, ht, h1, h2⟩ := wx_bt_ok h
      exact wx_br hat rfl rfl rfl decide_eq_true_iff ht (fun q => wx_go_ok ih (am_pc_sfx hk) (h1 q)) (fun q => wx_go_ok ih hl' (h2 q))
    · obtain ⟨t, ht, h1, h2⟩ := wx_bt_ok h
      exact wx_br hat rfl rfl rfl decide_eq_true_iff ht (fun q => wx_go_ok ih (am_pc_sfx hk) (h1 q)) (fun q => wx_go_ok ih hl' (h2 q))
    · rename_i dflt lo' hi offs x st
      obtain ⟨h1, h2, h3⟩ := h
      by_cases hx : x.toInt < lo' ∨ hi < x.toInt
      · obtain ⟨t, ht, hw⟩ := wx_jp_ok hk ih (h1 hx)
        refine (wr_b hat rfl rfl ?_).mpr hw
        show (if x.toInt < lo' ∨ hi < x.toInt then am_j pc dflt st else match offs[(x.toInt - lo').toNat]? with
          | some off => am_j pc off st
          | none => none) = some (t, st)
        rw [if_pos hx]
        unfold am_j
        rw [if_pos (by omega)]
        congr 2
        omega
      · have hlt : (x.toInt - lo').toNat < offs.size := by omega
        have ho : offs[(x.toInt - lo').toNat]? = some offs[(x.toInt - lo').toNat] := Array.getElem?_eq_getElem hlt
        have h4 := wx_tb_at _ _ (x.toInt - lo').toNat _ h3 (by rw [Array.getElem?_toList]; exact ho) (by omega)
        obtain ⟨t, ht, hw⟩ := wx_jp_ok hk ih h4
        refine (wr_b hat rfl rfl ?_).mpr hw
        show (if x.toInt < lo' ∨ hi < x.toInt then _ else match offs[(x.toInt - lo').toNat]? with
          | some off => am_j pc off st
          | none => none) = some (t, st)
        rw [if_neg hx, ho]
        show am_j pc _ st = _
        unfold am_j
        rw [if_pos (by omega)]
        congr 2
        omega
    · split at h
      · rename_i ha
        refine (wr_m hat rfl rfl rfl ?_ rfl).mpr (wx_go_ok ih hl' h.2)
        unfold am_m
        dsimp only
        rw [ha]
        exact if_pos h.1
      · cases h
    · split at h
      · rename_i ha
        refine (wr_m hat rfl rfl rfl ?_ rfl).mpr (wx_go_ok ih hl' h.2)
        unfold am_m
        dsimp only
        rw [ha]
        exact if_pos h.1
      · cases h
    · split at h
      · rename_i ha
        refine (wr_m hat rfl rfl rfl ?_ rfl).mpr (wx_go_ok ih hl' h.2)
        unfold am_m
        dsimp only
        rw [ha]
        exact if_pos h.1
      · rename_i ha
        refine (wr_m hat rfl rfl rfl ?_ rfl).mpr (wx_go_ok ih hl' h.2)
        unfold am_m
        dsimp only
        rw [ha]
        exact if_pos h.1
      · cases h
    · split at h
      · rename_i ha
        refine (wr_m hat rfl rfl rfl ?_ rfl).mpr (wx_go_ok ih hl' h.2)
        unfold am_m
        dsimp only
        rw [ha]
        exact if_pos h.1
      · cases h
    · split at h
      · rename_i ha
        refine (wr_m hat rfl rfl rfl ?_ rfl).mpr (wx_go_ok ih hl' h.2)
        unfold am_m
        dsimp only
        rw [ha]
        exact if_pos h.1
      · cases h
    · split at h
      · rename_i ha
        obtain ⟨h1, b, hb, h2⟩ := h
        refine (wr_m hat rfl rfl rfl ?_ rfl).mpr (wx_go_ok ih hl' h2)
        unfold am_m
        dsimp only
        rw [ha]
        refine (if_pos h1).trans ?_
        rw [hb]
        rfl
      · rename_i ha
        obtain ⟨h1, b, hb, h2⟩ := h
        refine (wr_m hat rfl rfl rfl ?_ rfl).mpr (wx_go_ok ih hl' h2)
        unfold am_m
        dsimp only
        rw [ha]
        refine (if_pos h1).trans ?_
        rw [hb]
        rfl
      · cases h
    · split at h
      · rename_i ha
        refine (wr_m hat rfl rfl rfl ?_ rfl).mpr (wx_go_ok ih hl' h.2)
        unfold am_m
        dsimp only
        rw [ha]
        exact if_pos h.1
      · cases h
    · split at h
      · rename_i ha
        refine (wr_m hat rfl rfl rfl ?_ rfl).mpr (wx_go_ok ih hl' h.2)
        unfold am_m
        dsimp only
        rw [ha]
        exact if_pos h.1
      · rename_i ha
        refine (wr_m hat rfl rfl rfl ?_ rfl).mpr (wx_go_ok ih hl' h.2)
        unfold am_m
        dsimp only
        rw [ha]
        exact if_pos h.1
      · cases h
    · split at h
      · rename_i ha
        refine (wr_m hat rfl rfl rfl ?_ rfl).mpr (wx_go_ok ih hl' h.2)
        unfold am_m
        dsimp only
        rw [ha]
        exact if_pos h.1
      · cases h
    · split at h
      · rename_i hrt
        refine (wr_r hat rfl rfl rfl rfl ?_).mpr h
        unfold am_r
        rw [hrt]
        exact if_pos rfl
      · rename_i ty hne hrt
        refine (wr_r hat rfl rfl rfl rfl ?_).mpr h.2
        unfold am_r
        rw [hrt]
        exact if_pos h.1
      · cases h
    · rename_i i st
      split at h
      · rename_i hlt
        have hlt : a1 < 265 := Nat.blt_eq.mp hlt
        split at h
        · cases h
        · refine (wr_c hat rfl rfl rfl ?_ rfl h.1).mpr (wpC_mono h.2 (fun r M1 hq => wx_go_ok ih hl' hq))
          unfold am_m
          dsimp only
          unfold am_is
          rw [if_neg (show ¬ a1 = 1000 by omega), if_neg (show ¬ a1 = 1002 by omega), if_neg (show ¬ a1 = 1003 by omega), if_neg (show ¬ a1 = 1004 by omega), if_neg (show ¬ a1 = 1005 by omega), if_neg (show ¬ a1 = 1006 by omega)]
          split <;> rfl
      · split at h
        · rename_i hb
          have hb : a1 = 1000 := Nat.eq_of_beq_eq_true hb
          obtain ⟨hd0, h⟩ := h
          unfold wx_cp at h
          split at h
          · rename_i n' dp b sp a st'
            split at h
            · rename_i na nb ha hb2
              obtain ⟨h1, h2, h3⟩ := h
              refine (wr_m hat rfl rfl rfl ?_ rfl).mpr (wx_go_ok ih hl' h3)
              unfold am_m
              dsimp only
              unfold am_is
              rw [if_pos hd0, if_pos hb]
              unfold am_cp
              dsimp only
              rw [if_pos h1, ha, hb2]
              exact if_pos h2
            · rename_i na nb ha hb2
              obtain ⟨h1, h2, h3⟩ := h
              refine (wr_m hat rfl rfl rfl ?_ rfl).mpr (wx_go_ok ih hl' h3)
              unfold am_m
              dsimp only
              unfold am_is
              rw [if_pos hd0, if_pos hb]
              unfold am_cp
              dsimp only
              rw [if_pos h1, ha, hb2]
              exact if_pos h2
            · cases h
          · cases h
        · split at h
          · rename_i st' M' hm
            exact (wr_m hat rfl rfl rfl hm rfl).mpr (wx_go_ok ih hl' h)
          · cases h
    · split at h
      · cases h
      · exact (wr_c hat rfl rfl rfl rfl rfl h.1).mpr (wpC_mono h.2 (fun r M1 hq => wx_go_ok ih hl' hq))
    · rename_i i a st
      split at h
      · rename_i hb
        rw [Bool.and_eq_true] at hb
        have e1 : a1 = 0 := Nat.eq_of_beq_eq_true hb.1
        have e2 : a2 = 0 := Nat.eq_of_beq_eq_true hb.2
        subst e1; subst e2
        obtain ⟨ha, b, hA, h⟩ := h
        refine (wr_m hat rfl rfl rfl ?_ rfl).mpr (wx_go_ok ih hl' h)
        unfold am_m
        dsimp only
        rw [ha]
        refine (if_pos (show (0 : Nat) = 0 ∧ 0 < am_nf 0 from ⟨rfl, by decide⟩)).trans ?_
        have : am_gv M 0 a 0 = .ref b := by
          show va_rf (am_rf M 0 a 0) = _
          unfold am_rf
          rw [if_pos ⟨rfl, rfl⟩, hA]; rfl
        rw [this]
      · split at h
        · rename_i st' M' hm
          exact (wr_m hat rfl rfl rfl hm rfl).mpr (wx_go_ok ih hl' h)
        · cases h
    · split at h
      · rename_i st' hp
        exact (wr_p hat hp rfl).mpr (wx_go_ok ih hl' h)
      · rename_i hp
        split at h
        · rename_i lo' st' hl
          exact (wr_l hat hp hl rfl).mpr (wx_go_ok ih hl' h)
        · rename_i hl
          split at h
          · cases h
          · rename_i hb
            split at h
            · rename_i st' M' hm
              exact (wr_m hat hp hl hb hm rfl).mpr (wx_go_ok ih hl' h)
            · rename_i hm
              split at h
              · rename_i v hr
                exact (wr_r hat hp hl hb hm hr).mpr h
              · cases h
/-- a call of a method, by unfolding its code -/
theorem wx_call (n : Nat) (hk : am_srt (am_cd.getD k []) = true) (h0 : (am_cd.getD k []).head?.map (fun e => e.1) = some 0) {as : List Value} {M : am_M} (h : wx E d k hs Q n (am_cd.getD k []) (lv_args 0 as) [] M) : wpC E d k as M Q := by
  cases hc : am_cd.getD k [] with
  | nil => rw [hc] at h0; cases h0
  | cons e l =>
    have h1 := wx_ok' hk n _ _ _ _ (am_pc_all hk) h e l hc
    rw [hc] at h0
    have : e.1 = 0 := Option.some.inj h0
    rw [this] at h1
    exact h1
/-- from a place on -/
theorem wx_from (n pc : Nat) (hk : am_srt (am_cd.getD k []) = true) {lo : am_Lo} {st : List Value} {M : am_M} (h : wx E d k hs Q n (am_sfx k pc) lo st M) : wp E d k pc lo st M Q := by
  cases hc : am_sfx k pc with
  | nil => rw [hc] at h; cases n <;> cases h
  | cons e l =>
    have h1 := wx_ok' hk n _ _ _ _ (am_pc_sfx hk) h e l hc
    rw [am_sfx_hd hc] at h1
    exact h1
end WX
end
section
/-! ===== the cells behind the two constructors ===== -/
def am_lay0 : List am_L := [.inl 11, .inl 10, .inr (0, 61), .inl 6, .inr (0, 12), .inr (0, 12), .inr (0, 12), .inr (0, 12), .inr (0, 12), .inr (0, 12), .inr (0, 12), .inr (0, 12), .inr (0, 12), .inr (1, 12), .inr (0, 12), .inl 2, .inr (0, 6), .inr (0, 6), .inr (0, 6), .inr (0, 6), .inr (0, 6), .inl 4, .inr (0, 12), .inr (0, 12), .inr (0, 12), .inr (0, 12), .inl 4, .inr (0, 12), .inr (0, 12), .inr (0, 12), .inr (0, 12), .inl 3, .inr (0, 6), .inr (0, 6), .inr (4, 4), .inl 10, .inr (0, 61), .inl 6, .inr (0, 12), .inr (0, 12), .inr (0, 12), .inr (0, 12), .inr (0, 12), .inr (0, 12), .inr (0, 12), .inr (0, 12), .inr (0, 12), .inr (1, 12), .inr (0, 12), .inl 2, .inr (0, 6), .inr (0, 6), .inr (0, 6), .inr (0, 6), .inr (0, 6), .inl 4, .inr (0, 12), .inr (0, 12), .inr (0, 12), .inr (0, 12), .inl 4, .inr (0, 12), .inr (0, 12), .inr (0, 12), .inr (0, 12), .inl 3, .inr (0, 6), .inr (0, 6), .inl 10, .inr (0, 61), .inl 6, .inr (0, 12), .inr (0, 12), .inr (0, 12), .inr (0, 12), .inr (0, 12), .inr (0, 12), .inr (0, 12), .inr (0, 12), .inr (0, 12), .inr (1, 12), .inr (0, 12), .inl 2, .inr (0, 6), .inr (0, 6), .inr (0, 6), .inr (0, 6), .inr (0, 6), .inl 4, .inr (0, 12), .inr (0, 12), .inr (0, 12), .inr (0, 12), .inl 4, .inr (0, 12), .inr (0, 12), .inr (0, 12), .inr (0, 12), .inl 3, .inr (0, 6), .inr (0, 6), .inl 10, .inr (0, 61), .inl 6, .inr (0, 12), .inr (0, 12), .inr (0, 12), .inr (0, 12), .inr (0, 12), .inr (0, 12), .inr (0, 12), .inr (0, 12), .inr (0, 12), .inr (1, 12), .inr (0, 12), .inl 2, .inr (0, 6), .inr (0, 6), .inr (0, 6), .inr (0, 6), .inr (0, 6), .inl 4, .inr (0, 12), .inr (0, 12), .inr (0, 12), .inr (0, 12), .inl 4, .inr (0, 12), .inr (0, 12), .inr (0, 12), .inr (0, 12), .inl 3, .inr (0, 6), .inr (0, 6), .inl 10, .inr (0, 61), .inl 6, .inr (0, 12), .inr (0, 12), .inr (0, 12), .inr (0, 12), .inr (0, 12), .inr (0, 12), .inr (0, 12), .inr (0, 12), .inr (0, 12), .inr (1, 12), .inr (0, 12), .inl 2, .inr (0, 6), .inr (0, 6), .inr (0, 6), .inr (0, 6), .inr (0, 6), .inl 4, .inr (0, 12), .inr (0, 12), .inr (0, 12), .inr (0, 12), .inl 4, .inr (0, 12), .inr (0, 12), .inr (0, 12), .inr (0, 12), .inl 3, .inr (0, 6), .inr (0, 6), .inr (5, 6), .inl 7, .inr (0, 12), .inr (0, 12), .inr (0, 12), .inr (0, 12), .inr (0, 12), .inr (0, 12), .inr (0, 12), .inr (0, 400), .inl 7, .inr (0, 12), .inr (0, 12), .inr (0, 12), .inr (0, 12), .inr (0, 12), .inr (0, 12), .inr (0, 12), .inr (0, 400), .inl 7, .inr (0, 12), .inr (0, 12), .inr (0, 12), .inr (0, 12), .inr (0, 12), .inr (0, 12), .inr (0, 12), .inr (0, 400), .inl 7, .inr (0, 12), .inr (0, 12), .inr (0, 12), .inr (0, 12), .inr (0, 12), .inr (0, 12), .inr (0, 12), .inr (0, 400), .inl 7, .inr (0, 12), .inr (0, 12), .inr (0, 12), .inr (0, 12), .inr (0, 12), .inr (0, 12), .inr (0, 12), .inr (0, 400), .inl 7, .inr (0, 12), .inr (0, 12), .inr (0, 12), .inr (0, 12), .inr (0, 12), .inr (0, 12), .inr (0, 12), .inr (0, 400), .inr (0, 400), .inl 8, .inl 7, .inr (0, 12), .inr (0, 12), .inr (0, 12), .inr (0, 12), .inr (0, 12), .inr (0, 12), .inr (0, 12), .inr (0, 400), .inr (0, 401), .inr (0, 401), .inr (0, 401), .inl 0, .inr (0, 61), .inr (1, 12), .inr (1, 12), .inl 9, .inl 0, .inr (0, 61), .inr (1, 12), .inr (1, 12), .inr (1, 60), .inl 5, .inl 0, .inr (0, 61), .inr (1, 12), .inr (1, 12), .inr (0, 6), .inr (0, 6), .inr (1, 128), .inl 1, .inl 9, .inl 0, .inr (0, 61), .inr (1, 12), .inr (1, 12), .inr (1, 60), .inr (0, 4), .inr (0, 4), .inr (0, 188), .inr (0, 47), .inl 12, .inr (0, 14), .inr (0, 13), .inr (0, 6), .inr (0, 6), .inr (0, 12), .inr (0, 12), .inr (0, 12), .inr (0, 12), .inr (0, 12), .inr (0, 12), .inr (0, 12), .inr (0, 6), .inr (0, 6), .inr (0, 6), .inr (0, 6), .inr (0, 6), .inr (0, 12), .inr (0, 12), .inr (0, 12), .inr (0, 12), .inr (0, 12), .inr (0, 12), .inr (0, 12), .inr (0, 12), .inr (2, 400), .inr (0, 1800), .inr (0, 1800), .inr (0, 6), .inr (0, 72), .inr (0, 72), .inr (0, 72), .inr (0, 72), .inr (0, 72), .inr (0, 72), .inr (0, 72), .inr (0, 402), .inr (1, 19), .inr (1, 300), .inr (0, 1250), .inr (3, 4), .inr (0, 12)]
def am_R0 : am_Rl := [((1, 10), 2), ((3, 1), 4), ((3, 2), 5), ((3, 3), 6), ((3, 4), 7), ((3, 5), 8), ((3, 6), 9), ((3, 7), 10), ((3, 8), 11), ((3, 9), 12), ((3, 10), 13), ((3, 11), 14), ((1, 11), 3), ((15, 1), 16), ((15, 2), 17), ((15, 3), 18), ((15, 4), 19), ((15, 5), 20), ((1, 12), 15), ((21, 1), 22), ((21, 2), 23), ((21, 3), 24), ((21, 4), 25), ((1, 13), 21), ((26, 1), 27), ((26, 2), 28), ((26, 3), 29), ((26, 4), 30), ((1, 14), 26), ((31, 1), 32), ((31, 2), 33), ((1, 15), 31), ((0, 0), 1), ((0, 1), 34), ((35, 10), 36), ((37, 1), 38), ((37, 2), 39), ((37, 3), 40), ((37, 4), 41), ((37, 5), 42), ((37, 6), 43), ((37, 7), 44), ((37, 8), 45), ((37, 9), 46), ((37, 10), 47), ((37, 11), 48), ((35, 11), 37), ((49, 1), 50), ((49, 2), 51), ((49, 3), 52), ((49, 4), 53), ((49, 5), 54), ((35, 12), 49), ((55, 1), 56), ((55, 2), 57), ((55, 3), 58), ((55, 4), 59), ((35, 13), 55), ((60, 1), 61), ((60, 2), 62), ((60, 3), 63), ((60, 4), 64), ((35, 14), 60), ((65, 1), 66), ((65, 2), 67), ((35, 15), 65), ((34, 0), 35), ((68, 10), 69), ((70, 1), 71), ((70, 2), 72), ((70, 3), 73), ((70, 4), 74), ((70, 5), 75), ((70, 6), 76), ((70, 7), 77), ((70, 8), 78), ((70, 9), 79), ((70, 10), 80), ((70, 11), 81), ((68, 11), 70), ((82, 1), 83), ((82, 2), 84), ((82, 3), 85), ((82, 4), 86), ((82, 5), 87), ((68, 12), 82), ((88, 1), 89), ((88, 2), 90), ((88, 3), 91), ((88, 4), 92), ((68, 13), 88), ((93, 1), 94), ((93, 2), 95), ((93, 3), 96), ((93, 4), 97), ((68, 14), 93), ((98, 1), 99), ((98, 2), 100), ((68, 15), 98), ((34, 1), 68), ((101, 10), 102), ((103, 1), 104), ((103, 2), 105), ((103, 3), 106), ((103, 4), 107), ((103, 5), 108), ((103, 6), 109), ((103, 7), 110), ((103, 8), 111), ((103, 9), 112), ((103, 10), 113), ((103, 11), 114), ((101, 11), 103), ((115, 1), 116), ((115, 2), 117), ((115, 3), 118), ((115, 4), 119), ((115, 5), 120), ((101, 12), 115), ((121, 1), 122), ((121, 2), 123), ((121, 3), 124), ((121, 4), 125), ((101, 13), 121), ((126, 1), 127), ((126, 2), 128), ((126, 3), 129), ((126, 4), 130), ((101, 14), 126), ((131, 1), 132), ((131, 2), 133), ((101, 15), 131), ((34, 2), 101), ((134, 10), 135), ((136, 1), 137), ((136, 2), 138), ((136, 3), 139), ((136, 4), 140), ((136, 5), 141), ((136, 6), 142), ((136, 7), 143), ((136, 8), 144), ((136, 9), 145), ((136, 10), 146), ((136, 11), 147), ((134, 11), 136), ((148, 1), 149), ((148, 2), 150), ((148, 3), 151), ((148, 4), 152), ((148, 5), 153), ((134, 12), 148), ((154, 1), 155), ((154, 2), 156), ((154, 3), 157), ((154, 4), 158), ((134, 13), 154), ((159, 1), 160), ((159, 2), 161), ((159, 3), 162), ((159, 4), 163), ((134, 14), 159), ((164, 1), 165), ((164, 2), 166), ((134, 15), 164), ((34, 3), 134), ((0, 2), 167), ((168, 1), 169), ((168, 2), 170), ((168, 3), 171), ((168, 4), 172), ((168, 5), 173), ((168, 6), 174), ((168, 7), 175), ((168, 9), 176), ((167, 0), 168), ((177, 1), 178), ((177, 2), 179), ((177, 3), 180), ((177, 4), 181), ((177, 5), 182), ((177, 6), 183), ((177, 7), 184), ((177, 9), 185), ((167, 1), 177), ((186, 1), 187), ((186, 2), 188), ((186, 3), 189), ((186, 4), 190), ((186, 5), 191), ((186, 6), 192), ((186, 7), 193), ((186, 9), 194), ((167, 2), 186), ((195, 1), 196), ((195, 2), 197), ((195, 3), 198), ((195, 4), 199), ((195, 5), 200), ((195, 6), 201), ((195, 7), 202), ((195, 9), 203), ((167, 3), 195), ((204, 1), 205), ((204, 2), 206), ((204, 3), 207), ((204, 4), 208), ((204, 5), 209), ((204, 6), 210), ((204, 7), 211), ((204, 9), 212), ((167, 4), 204), ((213, 1), 214), ((213, 2), 215), ((213, 3), 216), ((213, 4), 217), ((213, 5), 218), ((213, 6), 219), ((213, 7), 220), ((213, 9), 221), ((167, 5), 213), ((0, 4), 222), ((224, 1), 225), ((224, 2), 226), ((224, 3), 227), ((224, 4), 228), ((224, 5), 229), ((224, 6), 230), ((224, 7), 231), ((224, 9), 232), ((223, 0), 224), ((223, 2), 233), ((223, 3), 234), ((223, 4), 235), ((0, 6), 223), ((236, 6), 238), ((236, 7), 239), ((0, 7), 236), ((241, 6), 243), ((241, 7), 244), ((240, 0), 241), ((240, 1), 245), ((0, 8), 240), ((247, 6), 249), ((247, 7), 250), ((246, 0), 247), ((246, 1), 251), ((246, 4), 252), ((246, 5), 253), ((0, 9), 246), ((256, 6), 258), ((256, 7), 259), ((255, 0), 256), ((255, 1), 260), ((254, 0), 255), ((254, 4), 261), ((254, 5), 262), ((254, 7), 263), ((0, 10), 254), ((0, 11), 264), ((265, 1), 266), ((265, 2), 267), ((265, 3), 268), ((265, 4), 269), ((265, 5), 270), ((265, 6), 271), ((265, 7), 272), ((265, 8), 273), ((265, 9), 274), ((265, 10), 275), ((265, 11), 276), ((265, 12), 277), ((265, 13), 278), ((265, 14), 279), ((265, 15), 280), ((265, 16), 281), ((265, 17), 282), ((265, 18), 283), ((265, 19), 284), ((265, 20), 285), ((265, 21), 286), ((265, 22), 287), ((265, 23), 288), ((265, 24), 289), ((265, 37), 290), ((265, 38), 291), ((265, 39), 292), ((265, 40), 293), ((265, 41), 294), ((265, 42), 295), ((265, 43), 296), ((265, 44), 297), ((265, 45), 298), ((265, 46), 299), ((265, 47), 300), ((265, 48), 301), ((265, 49), 302), ((265, 50), 303), ((265, 51), 304), ((265, 52), 305), ((265, 55), 306)]
def mm (I : Nat → Nat → Int32) (J : Nat → Nat → Int64) (A : Nat → Option Nat) : am_M := (am_lay0, I, J, am_R0, A)
end
section
/-! ===== code pieces of every method; locals picked; whole numbers behind the machine's ===== -/
set_option maxRecDepth 100000 in
theorem am_srt_rng : (List.range 265).all (fun k => am_srt (am_cd.getD k []) && decide ((am_cd.getD k []).head?.map (fun e => e.1) = some 0)) = true := by decide +kernel
section WC
variable {E : Nat × (Nat → Int32)} {d k : Nat} {hs : List Nat} {Q : Option Value → am_M → Prop}
theorem wc (n : Nat) (hk : k < 265) {as : List Value} {M : am_M} (h : wx E d k hs Q n (am_cd.getD k []) (lv_args 0 as) [] M) : wpC E d k as M Q := by
  have := List.all_eq_true.mp am_srt_rng k (List.mem_range.mpr hk)
  rw [Bool.and_eq_true] at this
  exact wx_call n this.1 (of_decide_eq_true this.2) h
theorem wf (n pc : Nat) (hk : k < 265) {lo : am_Lo} {st : List Value} {M : am_M} (h : wx E d k hs Q n (am_sfx k pc) lo st M) : wp E d k pc lo st M Q := by
  have := List.all_eq_true.mp am_srt_rng k (List.mem_range.mpr hk)
  rw [Bool.and_eq_true] at this
  exact wx_from n pc this.1 h
end WC
theorem wt {c a b : Prop} (h : c) (ha : a) : wx_if c a b := ⟨fun _ => ha, fun q => absurd h q⟩
theorem wF {c a b : Prop} (h : ¬ c) (hb : b) : wx_if c a b := ⟨fun q => absurd q h, fun _ => hb⟩
/-- keys of the locals, each once -/
def am_nd (lo : am_Lo) : Prop := (lo.map (fun q => q.1)).Nodup
theorem am_lk_nd {lo : am_Lo} (hn : am_nd lo) {i : Nat} {v : Value} (h : (i, v) ∈ lo) : am_lk lo i = some v := by
  induction lo with
  | nil => cases h
  | cons q lo ih =>
    unfold am_lk
    rw [List.find?_cons]
    unfold am_nd at hn
    rw [List.map_cons, List.nodup_cons] at hn
    rcases List.mem_cons.mp h with rfl | h
    · simp
    · have hne : ¬ q.1 = i := fun e => hn.1 (by rw [e]; exact List.mem_map.mpr ⟨(i, v), h, rfl⟩)
      have : (q.1 == i) = false := by simpa using hne
      rw [this]
      exact ih hn.2 h
theorem am_s1_nd {lo : am_Lo} {i : Nat} {v : Value} (hn : am_nd lo) : am_nd (am_s1 lo i v) := by
  unfold am_nd am_s1
  rw [List.map_cons, List.nodup_cons]
  refine ⟨fun h => ?_, (List.Sublist.map _ List.filter_sublist).nodup hn⟩
  obtain ⟨q, hq, e⟩ := List.mem_map.mp h
  have := (List.mem_filter.mp hq).2
  rw [e] at this
  simp at this
theorem am_s2_nd {lo : am_Lo} {i : Nat} {v : Value} (hn : am_nd lo) : am_nd (am_s2 lo i v) := by
  unfold am_nd am_s2
  rw [List.map_cons, List.nodup_cons]
  refine ⟨fun h => ?_, (List.Sublist.map _ List.filter_sublist).nodup hn⟩
  obtain ⟨q, hq, e⟩ := List.mem_map.mp h
  have := (List.mem_filter.mp hq).2
  rw [e] at this
  simp at this
theorem am_s1_sub {lo lo' : am_Lo} {i : Nat} {v : Value} (h : ∀ q ∈ lo', q ∈ lo) : ∀ q ∈ am_s1 lo' i v, q ∈ am_s1 lo i v := by
  intro q hq
  rcases List.mem_cons.mp hq with rfl | hq
  · exact List.mem_cons_self
  · obtain ⟨h1, h2⟩ := List.mem_filter.mp hq
    exact List.mem_cons_of_mem _ (List.mem_filter.mpr ⟨h q h1, h2⟩)
theorem am_s2_sub {lo lo' : am_Lo} {i : Nat} {v : Value} (h : ∀ q ∈ lo', q ∈ lo) : ∀ q ∈ am_s2 lo' i v, q ∈ am_s2 lo i v := by
  intro q hq
  rcases List.mem_cons.mp hq with rfl | hq
  · exact List.mem_cons_self
  · obtain ⟨h1, h2⟩ := List.mem_filter.mp hq
    exact List.mem_cons_of_mem _ (List.mem_filter.mpr ⟨h q h1, h2⟩)
theorem am_l_sub {ml : Nat} {ins : Instr} {lo lo' lo1 : am_Lo} {st st1 : List Value} (hn : am_nd lo) (hn' : am_nd lo') (hs : ∀ q ∈ lo', q ∈ lo) (h : am_l ml ins lo' st = some (lo1, st1)) :
    ∃ lo2, am_l ml ins lo st = some (lo2, st1) ∧ am_nd lo2 ∧ am_nd lo1 ∧ ∀ q ∈ lo1, q ∈ lo2 := by
  have lk : ∀ i v, am_lk lo' i = some v → am_lk lo i = some v := fun i v h => am_lk_nd hn (hs _ (am_lk_mem h))
  have lI : ∀ i, am_ldI lo' i st = some (lo1, st1) → ∃ lo2, am_ldI lo i st = some (lo2, st1) ∧ am_nd lo2 ∧ am_nd lo1 ∧ ∀ q ∈ lo1, q ∈ lo2 := by
    intro i h
    unfold am_ldI at h ⊢
    split at h
    · rename_i x hx; cases h; rw [lk _ _ hx]; exact ⟨lo, rfl, hn, hn', hs⟩
    · cases h
  have lL : ∀ i, am_ldL lo' i st = some (lo1, st1) → ∃ lo2, am_ldL lo i st = some (lo2, st1) ∧ am_nd lo2 ∧ am_nd lo1 ∧ ∀ q ∈ lo1, q ∈ lo2 := by
    intro i h
    unfold am_ldL at h ⊢
    split at h
    · rename_i x hx; cases h; rw [lk _ _ hx]; exact ⟨lo, rfl, hn, hn', hs⟩
    · cases h
  have lA : ∀ i, am_ldA lo' i st = some (lo1, st1) → ∃ lo2, am_ldA lo i st = some (lo2, st1) ∧ am_nd lo2 ∧ am_nd lo1 ∧ ∀ q ∈ lo1, q ∈ lo2 := by
    intro i h
    unfold am_ldA at h ⊢
    split at h
    · rename_i x hx; cases h; rw [lk _ _ hx]; exact ⟨lo, rfl, hn, hn', hs⟩
    · rename_i x hx; cases h; rw [lk _ _ hx]; exact ⟨lo, rfl, hn, hn', hs⟩
    · cases h
  have sI : ∀ i, am_stI ml lo' i st = some (lo1, st1) → ∃ lo2, am_stI ml lo i st = some (lo2, st1) ∧ am_nd lo2 ∧ am_nd lo1 ∧ ∀ q ∈ lo1, q ∈ lo2 := by
    intro i h
    unfold am_stI at h ⊢
    split at h
    · split at h
      · rename_i h0; cases h; exact ⟨_, if_pos h0, am_s1_nd hn, am_s1_nd hn', am_s1_sub hs⟩
      · cases h
    · cases h
  have sL : ∀ i, am_stL ml lo' i st = some (lo1, st1) → ∃ lo2, am_stL ml lo i st = some (lo2, st1) ∧ am_nd lo2 ∧ am_nd lo1 ∧ ∀ q ∈ lo1, q ∈ lo2 := by
    intro i h
    unfold am_stL at h ⊢
    split at h
    · split at h
      · rename_i h0; cases h; exact ⟨_, if_pos h0, am_s2_nd hn, am_s2_nd hn', am_s2_sub hs⟩
      · cases h
    · cases h
  have sA : ∀ i, am_stA ml lo' i st = some (lo1, st1) → ∃ lo2, am_stA ml lo i st = some (lo2, st1) ∧ am_nd lo2 ∧ am_nd lo1 ∧ ∀ q ∈ lo1, q ∈ lo2 := by
    intro i h
    unfold am_stA at h ⊢
    split at h
    · split at h
      · rename_i h0; cases h; exact ⟨_, if_pos h0, am_s1_nd hn, am_s1_nd hn', am_s1_sub hs⟩
      · cases h
    · cases h
  unfold am_l at h ⊢
  split at h
  · exact lI _ h
  · exact lI _ h
  · exact lL _ h
  · exact lL _ h
  · exact lA _ h
  · exact lA _ h
  · exact sI _ h
  · exact sI _ h
  · exact sL _ h
  · exact sL _ h
  · exact sA _ h
  · exact sA _ h
  · split at h
    · rename_i x hx
      split at h
      · rename_i h0
        cases h
        rw [lk _ _ hx]
        exact ⟨_, if_pos h0, am_s1_nd hn, am_s1_nd hn', am_s1_sub hs⟩
      · cases h
    · cases h
  · cases h
theorem am_l_no {ml : Nat} {ins : Instr} {lo lo' : am_Lo} {st : List Value} {x : am_Lo × List Value} (h : am_l ml ins lo st = some x) (L : Nat) (xs : Nat → Int32) (d a1 a2 pc : Nat) (M : am_M) (rt : Option FieldType) : am_b ins pc st = none ∧ am_m L xs d ins a1 a2 st M = none ∧ am_r rt ins st = none ∧ am_c ins a1 a2 st M = none := by
  unfold am_l at h
  split at h <;> first | exact ⟨rfl, rfl, rfl, rfl⟩ | cases h
theorem am_run_sub {L : Nat} {xs : Nat → Int32} : ∀ (n d k pc : Nat) (lo lo' : am_Lo) (st : List Value) (M : am_M) (r : Option Value × am_M), am_nd lo → am_nd lo' → (∀ q ∈ lo', q ∈ lo) → am_run L xs n d k pc lo' st M = some r → am_run L xs n d k pc lo st M = some r := by
  intro n
  induction n with
  | zero => intro d k pc lo lo' st M r _ _ _ h; simp [am_run] at h
  | succ n ih =>
    intro d k pc lo lo' st M r hn hn' hs h
    rw [am_run] at h ⊢
    split at h
    · cases h
    · rename_i ins a1 a2 a3 hat
      split at h
      · exact ih _ _ _ _ _ _ _ _ hn hn' hs h
      · split at h
        · rename_i lo1 st1 hl
          obtain ⟨lo2, h2, h3, h4, h5⟩ := am_l_sub hn hn' hs hl
          rw [h2]
          exact ih _ _ _ _ _ _ _ _ h3 h4 h5 h
        · rename_i hl
          have hl2 : am_l (am_ml k) ins lo st = none := by
            cases hq : am_l (am_ml k) ins lo st with
            | none => rfl
            | some x =>
              obtain ⟨e1, e2, e3, e4⟩ := am_l_no (lo' := lo) hq L xs d a1 a2 pc M (am_rt k)
              rw [e1] at h
              dsimp only at h
              rw [e2] at h
              dsimp only at h
              rw [e3] at h
              dsimp only at h
              rw [e4] at h
              cases h
          rw [hl2]
          dsimp only
          split at h
          · exact ih _ _ _ _ _ _ _ _ hn hn' hs h
          · split at h
            · exact ih _ _ _ _ _ _ _ _ hn hn' hs h
            · split at h
              · exact h
              · split at h
                · cases h
                · split at h
                  · cases h
                  · split at h
                    · cases h
                    · rename_i hr
                      exact ih _ _ _ _ _ _ _ _ hn hn' hs h
/-- the locals at other places, fewer of them -/
theorem wp_pick {E : Nat × (Nat → Int32)} {d k pc : Nat} {lo : am_Lo} {st : List Value} {M : am_M} {Q : Option Value → am_M → Prop} (is ks ks' : List Nat) (hk : lo.map (fun q => q.1) = ks) (hk' : (lv_pick lo is).map (fun q => q.1) = ks') (hn : ks.Nodup) (hn' : ks'.Nodup) (h : wp E d k pc (lv_pick lo is) st M Q) : wp E d k pc lo st M Q := by
  obtain ⟨n, r, M', h1, h2⟩ := h
  refine ⟨n, r, M', am_run_sub _ _ _ _ _ _ _ _ _ (by unfold am_nd; rw [hk]; exact hn) (by unfold am_nd; rw [hk']; exact hn') (fun q hq => ?_) h1, h2⟩
  obtain ⟨i, -, hi⟩ := List.mem_filterMap.mp hq
  exact List.mem_of_getElem? hi
def iZ (z : Int) : Int32 := Int32.ofInt z
def lZ (z : Int) : Int64 := Int64.ofInt z
theorem iZ_of (x : Int32) : iZ x.toInt = x := Int32.ofInt_toInt x
theorem lZ_of (x : Int64) : lZ x.toInt = x := Int64.ofInt_toInt x
theorem iZ_add (a b : Int) : iZ a + iZ b = iZ (a + b) := (Int32.ofInt_add a b).symm
theorem iZ_sub (a b : Int) : iZ a - iZ b = iZ (a - b) := (Int32.ofInt_sub a b).symm
theorem iZ_mul (a b : Int) : iZ a * iZ b = iZ (a * b) := (Int32.ofInt_mul a b).symm
theorem iZ_neg (a : Int) : -iZ a = iZ (-a) := (Int32.ofInt_neg a).symm
theorem lZ_add (a b : Int) : lZ a + lZ b = lZ (a + b) := (Int64.ofInt_add a b).symm
theorem lZ_sub (a b : Int) : lZ a - lZ b = lZ (a - b) := (Int64.ofInt_sub a b).symm
theorem lZ_mul (a b : Int) : lZ a * lZ b = lZ (a * b) := (Int64.ofInt_mul a b).symm
theorem lZ_neg (a : Int) : -lZ a = lZ (-a) := (Int64.ofInt_neg a).symm
def rI (z : Int) : Prop := -2147483648 ≤ z ∧ z ≤ 2147483647
def rL (z : Int) : Prop := -9223372036854775808 ≤ z ∧ z ≤ 9223372036854775807
theorem iZ_toInt {z : Int} (h : rI z) : (iZ z).toInt = z := Int32.toInt_ofInt_of_le (by have := h.1; omega) (by have := h.2; omega)
theorem lZ_toInt {z : Int} (h : rL z) : (lZ z).toInt = z := Int64.toInt_ofInt_of_le (by have := h.1; omega) (by have := h.2; omega)
theorem rI_of (x : Int32) : rI x.toInt := ⟨by have := x.le_toInt; omega, by have := x.toInt_lt; omega⟩
theorem rL_of (x : Int64) : rL x.toInt := ⟨by have := x.le_toInt; omega, by have := x.toInt_lt; omega⟩
theorem iZ_div {a b : Int} (ha : rI a) (hb : rI b) : iZ a / iZ b = iZ (a.tdiv b) := (Int32.ofInt_tdiv ha.1 ha.2 hb.1 hb.2).symm
theorem lZ_div {a b : Int} (ha : rL a) (hb : rL b) : lZ a / lZ b = lZ (a.tdiv b) := (Int64.ofInt_tdiv ha.1 ha.2 hb.1 hb.2).symm
theorem iZ_lt {a b : Int} (ha : rI a) (hb : rI b) : iZ a < iZ b ↔ a < b := by rw [Int32.lt_iff_toInt_lt, iZ_toInt ha, iZ_toInt hb]
theorem iZ_le {a b : Int} (ha : rI a) (hb : rI b) : iZ a ≤ iZ b ↔ a ≤ b := by rw [Int32.le_iff_toInt_le, iZ_toInt ha, iZ_toInt hb]
theorem iZ_eq {a b : Int} (ha : rI a) (hb : rI b) : iZ a = iZ b ↔ a = b := by rw [← Int32.toInt_inj, iZ_toInt ha, iZ_toInt hb]
theorem lZ_lt {a b : Int} (ha : rL a) (hb : rL b) : lZ a < lZ b ↔ a < b := by rw [Int64.lt_iff_toInt_lt, lZ_toInt ha, lZ_toInt hb]
theorem lZ_le {a b : Int} (ha : rL a) (hb : rL b) : lZ a ≤ lZ b ↔ a ≤ b := by rw [Int64.le_iff_toInt_le, lZ_toInt ha, lZ_toInt hb]
theorem lZ_eq {a b : Int} (ha : rL a) (hb : rL b) : lZ a = lZ b ↔ a = b := by rw [← Int64.toInt_inj, lZ_toInt ha, lZ_toInt hb]
theorem iZ_l {a : Int} (ha : rI a) : (iZ a).toInt64 = lZ a := by
  rw [← Int64.toInt_inj, Int32.toInt_toInt64, iZ_toInt ha, lZ_toInt ⟨by have := ha.1; omega, by have := ha.2; omega⟩]
theorem lZ_i {a : Int} (ha : rL a) : (lZ a).toInt32 = iZ a := by
  rw [← Int32.toInt_inj, Int64.toInt_toInt32, lZ_toInt ha, iZ, Int32.toInt_ofInt]
theorem iZ_cl {a : Int} (h0 : 0 ≤ a) (ha : a ≤ 2147483647) : (iZ a).toNatClampNeg = a.toNat := by
  show (iZ a).toInt.toNat = _
  rw [iZ_toInt ⟨by omega, ha⟩]
theorem iZ_nat (n : Nat) : iZ (n : Int) = nI n := Int32.ofInt_eq_ofNat
theorem iZ_in {a : Int} {n : Nat} (h0 : 0 ≤ a) (h1 : a < n) (hn : n < 2147483648) : vp_in (iZ a) n := by
  rw [vp_in_iff, iZ_toInt ⟨by omega, by omega⟩]
  exact ⟨h0, h1⟩
end
section
/-! ===== the ship as whole numbers: a view v (array, place); what the document says of it ===== -/
abbrev am_V : Type := Nat → Nat → Int
def sm (n : Nat) (f : Nat → Int) : Int := match n with
  | 0 => 0
  | n + 1 => sm n f + f n
def vI (I : Nat → Nat → Int32) : am_V := fun a i => (I a i).toInt
theorem vI_eq (I : Nat → Nat → Int32) (a i : Nat) : I a i = iZ (vI I a i) := (iZ_of (I a i)).symm
def nP (v : am_V) : Nat := (v 266 9).toNat
def nC (v : am_V) : Nat := (v 266 10).toNat
def nD (v : am_V) : Nat := (v 266 11).toNat
def nO (v : am_V) : Nat := (v 266 12).toNat
def nL (v : am_V) : Nat := (v 266 13).toNat
def sinZ (d : Int) : Int := 4000 * d * (180 - d) / (40500 - d * (180 - d))
def capZ (v : am_V) (k : Nat) : Int := v 272 k * v 273 k * v 271 k / 10000
def levZ (v : am_V) (k : Nat) : Int := min (v 271 k) (v 276 k * 10000 / (v 272 k * v 273 k))
def totZ (v : am_V) (mw : Int) : Int := v 266 2 + mw + sm (nC v) (fun k => v 277 k) + sm (nP v) (fun k => v 276 k)
def upZ (v : am_V) (mu : Int) : Int := v 266 2 * v 266 3 + mu + sm (nC v) (fun k => v 277 k * v 278 k) + sm (nP v) (fun k => v 276 k * (v 270 k + levZ v k / 2))
def armZ (v : am_V) (d : Nat) : Int := if d / 5 = 12 then v 267 12 else (v 267 (d / 5) * (5 - (d % 5 : Nat)) + v 267 (d / 5 + 1) * (d % 5 : Nat)) / 5
def sprZ (v : am_V) (k : Nat) : Int := v 273 k * v 272 k * v 272 k * v 272 k / (1200 * v 274 k * v 274 k)
def blkZ (v : am_V) (k : Nat) : Int := 5 * v 272 k * min (v 276 k) (capZ v k - v 276 k) / v 274 k
def runZ (v : am_V) (k : Nat) (d : Int) : Int := min (sprZ v k * sinZ d / 1000) (blkZ v k)
def rnsZ (v : am_V) (d : Int) : Int := sm (nP v) (fun k => runZ v k d)
def asdZ (v : am_V) : Int := v 266 5 * 10 + sm (nP v) (fun k => v 276 k * v 275 k * 10) + sm (nC v) (fun k => v 277 k * v 281 k * v 280 k * 10)
/-- what tends to turn her further over, at d degrees -/
def upsZ (v : am_V) (mw mu : Int) (d : Nat) : Int := rnsZ v d + upZ v mu * sinZ d / 1000 - totZ v mw * armZ v d
def trnZ (v : am_V) (mw mu a lean : Int) : Int :=
  let f := (a * sinZ (90 - lean.natAbs)).tdiv 1000
  if lean = 0 then f else if 0 < lean then f + upsZ v mw mu lean.natAbs else f - upsZ v mw mu lean.natAbs
/-- a place as told -/
def WfP (v : am_V) (k : Nat) : Prop := (0 ≤ v 270 k ∧ v 270 k ≤ 2000) ∧ (1 ≤ v 271 k ∧ v 271 k ≤ 999) ∧ (1 ≤ v 272 k ∧ v 272 k ≤ 400) ∧ (1 ≤ v 273 k ∧ v 273 k ≤ 2000) ∧ (1 ≤ v 274 k ∧ v 274 k ≤ 9) ∧ (-200 ≤ v 275 k ∧ v 275 k ≤ 200) ∧ (0 ≤ v 276 k ∧ v 276 k ≤ capZ v k)
def WfC (v : am_V) (k : Nat) : Prop := (1 ≤ v 277 k ∧ v 277 k ≤ 9999) ∧ (0 ≤ v 278 k ∧ v 278 k ≤ 3000) ∧ (1 ≤ v 279 k ∧ v 279 k ≤ 60) ∧ (0 ≤ v 280 k ∧ v 280 k ≤ 200) ∧ (-1 ≤ v 281 k ∧ v 281 k ≤ 1)
def WfS (v : am_V) : Prop := (10 ≤ v 266 1 ∧ v 266 1 ≤ 400) ∧ (1 ≤ v 266 2 ∧ v 266 2 ≤ 99999) ∧ (1 ≤ v 266 3 ∧ v 266 3 ≤ 3000) ∧ (1 ≤ v 266 4 ∧ v 266 4 ≤ 999) ∧ (-99999 ≤ v 266 5 ∧ v 266 5 ≤ 99999) ∧ (0 ≤ v 266 6 ∧ v 266 6 ≤ 99) ∧ (-60 ≤ v 266 7 ∧ v 266 7 ≤ 60) ∧ (0 ≤ v 266 8 ∧ v 266 8 ≤ 99999)
  ∧ (0 ≤ v 266 9 ∧ v 266 9 ≤ 12) ∧ (0 ≤ v 266 10 ∧ v 266 10 ≤ 6) ∧ (0 ≤ v 266 11 ∧ v 266 11 ≤ 12) ∧ (0 ≤ v 266 12 ∧ v 266 12 ≤ 12) ∧ (0 ≤ v 266 13 ∧ v 266 13 ≤ 6)
def WfL (v : am_V) : Prop := v 267 0 = 0 ∧ ∀ k, k ≤ 12 → 0 ≤ v 267 k ∧ v 267 k ≤ 3000
def Wf (v : am_V) : Prop := WfS v ∧ WfL v ∧ (∀ k, k < nP v → WfP v k) ∧ (∀ k, k < nC v → WfC v k)
theorem mulb {a b A B : Int} (h1 : 0 ≤ a) (h2 : a ≤ A) (h3 : 0 ≤ b) (h4 : b ≤ B) : 0 ≤ a * b ∧ a * b ≤ A * B := ⟨Int.mul_nonneg h1 h3, Int.mul_le_mul h2 h4 h3 (Int.le_trans h1 h2)⟩
theorem mula {a b A B : Int} (h1 : -A ≤ a) (h2 : a ≤ A) (h3 : 0 ≤ b) (h4 : b ≤ B) (hA : 0 ≤ A) : -(A * B) ≤ a * b ∧ a * b ≤ A * B := by
  have h5 : a * b ≤ A * b := Int.mul_le_mul_of_nonneg_right h2 h3
  have h6 : A * b ≤ A * B := Int.mul_le_mul_of_nonneg_left h4 hA
  have h7 : -A * b ≤ a * b := Int.mul_le_mul_of_nonneg_right h1 h3
  rw [Int.neg_mul] at h7
  omega
theorem nIc {k : Nat} (h : k < 2147483648) : (nI k).toNatClampNeg = k := nI_clamp h
theorem sm_nn {n : Nat} {f : Nat → Int} (h : ∀ k, k < n → 0 ≤ f k) : 0 ≤ sm n f := by
  induction n with
  | zero => exact Int.le_refl 0
  | succ n ih =>
    have h1 := ih (fun k hk => h k (by omega))
    have h2 := h n (by omega)
    show 0 ≤ sm n f + f n
    omega
theorem sm_le {n : Nat} {f : Nat → Int} {B : Int} (h : ∀ k, k < n → f k ≤ B) : sm n f ≤ n * B := by
  induction n with
  | zero => simp [sm]
  | succ n ih =>
    have h1 := ih (fun k hk => h k (by omega))
    have h2 := h n (by omega)
    show sm n f + f n ≤ _
    have : ((n + 1 : Nat) : Int) * B = n * B + B := by rw [Int.natCast_add, Int.add_mul]; simp
    omega
theorem sm_ge {n : Nat} {f : Nat → Int} {B : Int} (h : ∀ k, k < n → B ≤ f k) : n * B ≤ sm n f := by
  induction n with
  | zero => simp [sm]
  | succ n ih =>
    have h1 := ih (fun k hk => h k (by omega))
    have h2 := h n (by omega)
    show _ ≤ sm n f + f n
    have : ((n + 1 : Nat) : Int) * B = n * B + B := by rw [Int.natCast_add, Int.add_mul]; simp
    omega
theorem sm_congr {n : Nat} {f g : Nat → Int} (h : ∀ k, k < n → f k = g k) : sm n f = sm n g := by
  induction n with
  | zero => rfl
  | succ n ih =>
    show sm n f + f n = sm n g + g n
    rw [ih (fun k hk => h k (by omega)), h n (by omega)]
/-- the products of a place -/
theorem capB {v : am_V} {k : Nat} (h : WfP v k) : (0 ≤ v 272 k * v 273 k * v 271 k ∧ v 272 k * v 273 k * v 271 k ≤ 799200000) ∧ (1 ≤ v 272 k * v 273 k ∧ v 272 k * v 273 k ≤ 800000) ∧ 0 ≤ capZ v k ∧ capZ v k ≤ 79920 := by
  obtain ⟨h0, h1, h2, h3, h4, h5, h6⟩ := h
  have a := mulb (a := v 272 k) (b := v 273 k) (A := 400) (B := 2000) (by omega) h2.2 (by omega) h3.2
  have a' : 1 * 1 ≤ v 272 k * v 273 k := Int.mul_le_mul h2.1 h3.1 (by omega) (by omega)
  have b := mulb (a := v 272 k * v 273 k) (b := v 271 k) (A := 400 * 2000) (B := 999) a.1 a.2 (by omega) h1.2
  refine ⟨⟨b.1, by omega⟩, ⟨by omega, by omega⟩, ?_, ?_⟩
  · exact Int.ediv_nonneg b.1 (by omega)
  · unfold capZ
    omega
end
section
/-! ===== the reference: its small methods ===== -/
section M1
variable {E : Nat × (Nat → Int32)} {d : Nat} {I : Nat → Nat → Int32} {J : Nat → Nat → Int64} {A : Nat → Option Nat} {Q : Option Value → am_M → Prop} {M : am_M}
theorem inL {i : Int32} {n : Nat} (h : (decide (i < 0) || Nat.ble n i.toNatClampNeg) = false) : vp_in i n := by
  rw [Bool.or_eq_false_iff] at h
  intro q
  rcases q with q | q
  · exact absurd q (of_decide_eq_false h.1)
  · rw [Nat.ble_eq_true_of_le q] at h
    cases h.2
theorem q_i {x y : Int32} (h : Q (some (.int y)) M) (e : x = y) : Q (some (.int x)) M := e ▸ h
theorem q_l {x y : Int64} (h : Q (some (.long y)) M) (e : x = y) : Q (some (.long x)) M := e ▸ h
/-- in(v, low, high) -/
theorem m_in {a b c : Int64} (h1 : b ≤ a ∧ a ≤ c → Q (some (.int 1)) M) (h0 : ¬ (b ≤ a ∧ a ≤ c) → Q (some (.int 0)) M) : wpC E d 139 [.long a, .long b, .long c] M Q := by
  refine wc (hs := []) 30 (by decide) ?_
  refine And.intro (fun q => ?_) (fun q => ?_)
  · refine And.intro rfl (h0 fun r => ?_)
    have := (lg_cmp_lt a b).mp q
    exact absurd this (Int64.not_lt.mpr r.1)
  · refine And.intro (fun q2 => ?_) (fun q2 => ?_)
    · refine And.intro rfl (h0 fun r => ?_)
      have := (lg_cmp_gt a c).mp q2
      exact absurd this (Int64.not_lt.mpr r.2)
    · refine And.intro rfl (h1 ⟨?_, ?_⟩)
      · exact Int64.not_lt.mp fun r => q ((lg_cmp_lt a b).mpr r)
      · exact Int64.not_lt.mp fun r => q2 ((lg_cmp_gt a c).mpr r)
theorem m_isShip (h1 : I 266 0 = 1 → Q (some (.int 1)) (mm I J A)) (h0 : ¬ I 266 0 = 1 → Q (some (.int 0)) (mm I J A)) : wpC E d 143 [.ref 265] (mm I J A) Q := by
  refine wc (hs := []) 30 (by decide) ?_
  refine And.intro (inL (by decide)) ?_
  refine And.intro (fun q => ?_) (fun q => ?_)
  · exact And.intro rfl (h1 q)
  · exact And.intro rfl (h0 q)
theorem m_cap {k : Nat} (hk : k < 12) (hW : WfP (vI I) k) (hQ : Q (some (.int (iZ (capZ (vI I) k)))) (mm I J A)) : wpC E d 149 [.ref 265, .int (nI k)] (mm I J A) Q := by
  have hin : vp_in (nI k) 12 := vp_in_nI hk (by omega)
  refine wc (hs := []) 40 (by decide) ?_
  refine And.intro hin (And.intro hin (And.intro hin (And.intro (by decide) ?_)))
  refine q_i hQ ?_
  obtain ⟨c1, c2, c3⟩ := capB hW
  show (I 272 (nI k).toNatClampNeg * I 273 (nI k).toNatClampNeg * I 271 (nI k).toNatClampNeg) / iZ 10000 = _
  rw [nIc (by omega), vI_eq I 272, vI_eq I 273, vI_eq I 271, iZ_mul, iZ_mul, iZ_div ⟨by omega, by omega⟩ ⟨by omega, by omega⟩, Int.tdiv_eq_ediv_of_nonneg c1.1]
  rfl
theorem m_level {k : Nat} (hk : k < 12) (hW : WfP (vI I) k) (hQ : Q (some (.int (iZ (levZ (vI I) k)))) (mm I J A)) : wpC E d 150 [.ref 265, .int (nI k)] (mm I J A) Q := by
  have hin : vp_in (nI k) 12 := vp_in_nI hk (by omega)
  obtain ⟨c1, c2, c3⟩ := capB hW
  obtain ⟨h0, h1, h2, h3, h4, h5, h6⟩ := id hW
  have hc : (nI k).toNatClampNeg = k := nIc (by omega)
  have e1 : (I 272 (nI k).toNatClampNeg * I 273 (nI k).toNatClampNeg).toInt64 = lZ (vI I 272 k * vI I 273 k) := by
    rw [hc, vI_eq I 272, vI_eq I 273, iZ_mul, iZ_l ⟨by omega, by omega⟩]
  have e2 : (I 276 (nI k).toNatClampNeg).toInt64 * lZ 10000 = lZ (vI I 276 k * 10000) := by
    rw [hc, vI_eq I 276, iZ_l ⟨by omega, by omega⟩, lZ_mul]
  have e3 : 0 ≤ vI I 276 k * 10000 / (vI I 272 k * vI I 273 k) := Int.ediv_nonneg (by omega) (by omega)
  have e4 : vI I 276 k * 10000 / (vI I 272 k * vI I 273 k) ≤ vI I 276 k * 10000 := Int.ediv_le_self _ (by omega)
  have e5 : ((I 276 (nI k).toNatClampNeg).toInt64 * lZ 10000 / (I 272 (nI k).toNatClampNeg * I 273 (nI k).toNatClampNeg).toInt64).toInt32 = iZ (vI I 276 k * 10000 / (vI I 272 k * vI I 273 k)) := by
    rw [e1, e2, lZ_div ⟨by omega, by omega⟩ ⟨by omega, by omega⟩, Int.tdiv_eq_ediv_of_nonneg (by omega), lZ_i ⟨by omega, by omega⟩]
  refine wc (hs := []) 60 (by decide) ?_
  refine And.intro hin (And.intro hin (And.intro hin (And.intro ?_ ?_)))
  · intro q
    have q : lZ (vI I 272 k * vI I 273 k) = lZ 0 := by rw [← e1]; exact q
    have := (lZ_eq ⟨by omega, by omega⟩ ⟨by omega, by omega⟩).mp q
    omega
  · refine And.intro hin ?_
    have e6 : I 271 (nI k).toNatClampNeg = iZ (vI I 271 k) := by rw [hc]; exact vI_eq I 271 k
    refine And.intro (fun q => ?_) (fun q => ?_)
    · refine q_i hQ (e5.trans ?_)
      have q : iZ (vI I 276 k * 10000 / (vI I 272 k * vI I 273 k)) ≤ iZ (vI I 271 k) := by rw [← e5, ← e6]; exact q
      have := (iZ_le ⟨by omega, by omega⟩ ⟨by omega, by omega⟩).mp q
      unfold levZ
      rw [Int.min_eq_right this]
    · refine And.intro hin ?_
      refine q_i hQ (e6.trans ?_)
      have q : ¬ iZ (vI I 276 k * 10000 / (vI I 272 k * vI I 273 k)) ≤ iZ (vI I 271 k) := by rw [← e5, ← e6]; exact q
      rw [iZ_le ⟨by omega, by omega⟩ ⟨by omega, by omega⟩] at q
      unfold levZ
      rw [Int.min_eq_left (by omega)]
theorem sinB {z : Int} (h0 : 0 ≤ z) (h1 : z ≤ 90) : 0 ≤ z * (180 - z) ∧ z * (180 - z) ≤ 8100 := by
  refine ⟨Int.mul_nonneg h0 (by omega), ?_⟩
  have h2 : 0 ≤ (90 - z) * (90 - z) := Int.mul_nonneg (by omega) (by omega)
  have h3 : (90 - z) * (90 - z) = 8100 - z * (180 - z) := by
    rw [Int.sub_mul, Int.mul_sub, Int.mul_sub, Int.mul_sub]
    omega
  omega
theorem m_sine {z : Int} (h0 : 0 ≤ z) (h1 : z ≤ 90) (hQ : Q (some (.int (iZ (sinZ z)))) M) : wpC E d 158 [.int (iZ z)] M Q := by
  obtain ⟨b0, b1⟩ := sinB h0 h1
  have e : iZ 40500 - iZ z * (iZ 180 - iZ z) = iZ (40500 - z * (180 - z)) := by rw [iZ_sub, iZ_mul, iZ_sub]
  have b2 : 4000 * z * (180 - z) = 4000 * (z * (180 - z)) := Int.mul_assoc _ _ _
  refine wc (hs := []) 40 (by decide) ?_
  refine And.intro ?_ ?_
  · intro q
    have q : iZ (40500 - z * (180 - z)) = iZ 0 := by rw [← e]; exact q
    have := (iZ_eq ⟨by omega, by omega⟩ ⟨by omega, by omega⟩).mp q
    omega
  · refine q_i hQ ?_
    show iZ 4000 * iZ z * (iZ 180 - iZ z) / (iZ 40500 - iZ z * (iZ 180 - iZ z)) = _
    rw [e, iZ_mul, iZ_sub, iZ_mul, iZ_div ⟨by omega, by omega⟩ ⟨by omega, by omega⟩, Int.tdiv_eq_ediv_of_nonneg (by omega)]
    rfl
theorem I_nP (h : WfS (vI I)) : I 266 9 = nI (nP (vI I)) := by
  rw [vI_eq I 266 9, ← iZ_nat]
  unfold nP
  have := h.2.2.2.2.2.2.2.2.1
  rw [Int.toNat_of_nonneg this.1]
theorem I_nC (h : WfS (vI I)) : I 266 10 = nI (nC (vI I)) := by
  rw [vI_eq I 266 10, ← iZ_nat]
  unfold nC
  have := h.2.2.2.2.2.2.2.2.2.1
  rw [Int.toNat_of_nonneg this.1]
theorem nP_le (h : WfS (vI I)) : nP (vI I) ≤ 12 := by
  have := h.2.2.2.2.2.2.2.2.1
  unfold nP
  omega
theorem nC_le (h : WfS (vI I)) : nC (vI I) ≤ 6 := by
  have := h.2.2.2.2.2.2.2.2.2.1
  unfold nC
  omega
theorem m_tot2 (h : WfS (vI I)) : ∀ (n i : Nat) (s : Int) (x1 x2 : Int32), i + n = nP (vI I) → x1 = iZ s → x2 = nI i → Q (some (.int (iZ (s + (sm (nP (vI I)) (fun k => vI I 276 k) - sm i (fun k => vI I 276 k)))))) (mm I J A) → wp E d 160 42 [(0, .ref 265), (1, .int x1), (2, .int x2)] [] (mm I J A) Q := by
  have hle := nP_le h
  intro n
  induction n with
  | zero =>
    intro i s x1 x2 hi e1 e2 hQ
    refine wf (hs := [42]) 40 42 (by decide) ?_
    refine And.intro (inL (by decide)) (wt ?_ ?_)
    · show I 266 9 ≤ x2
      rw [I_nP h, e2, ← hi]; exact Int32.le_refl _
    · refine q_i hQ ?_
      rw [e1]
      congr 1
      have : i = nP (vI I) := by omega
      rw [this]
      omega
  | succ n ih =>
    intro i s x1 x2 hi e1 e2 hQ
    refine wf (hs := [42]) 40 42 (by decide) ?_
    refine And.intro (inL (by decide)) (wF ?_ ?_)
    · show ¬ I 266 9 ≤ x2
      rw [I_nP h, e2]
      exact nI_ge (by omega) (by omega)
    · refine And.intro (by rw [e2]; exact vp_in_nI (by omega) (by omega)) ?_
      refine wp_pick [2, 1, 0] [2, 1, 0] [0, 1, 2] rfl rfl (by decide) (by decide) ?_
      refine ih (i + 1) (s + vI I 276 i) _ _ (by omega) ?_ ?_ ?_
      · show x1 + I 276 x2.toNatClampNeg = _
        rw [e1, e2, nIc (by omega), vI_eq I 276, iZ_add]
      · show x2 + 1 = _
        rw [e2]; exact nI_1 i
      · have : s + vI I 276 i + (sm (nP (vI I)) (fun k => vI I 276 k) - sm (i + 1) (fun k => vI I 276 k)) = s + (sm (nP (vI I)) (fun k => vI I 276 k) - sm i (fun k => vI I 276 k)) := by
          show s + vI I 276 i + (_ - (sm i (fun k => vI I 276 k) + vI I 276 i)) = _
          omega
        rw [this]; exact hQ
end M1
end
section
/-! ===== the reference: sums, levers, what turns her ===== -/
/-- a loop that counts up -/
theorem lpU {σ : Type} (W I : Nat → σ → Prop) (N : Nat) (hx : ∀ s, I N s → W N s) (hs : ∀ i s, i < N → I i s → (∀ s', I (i + 1) s' → W (i + 1) s') → W i s) : ∀ i s, i ≤ N → I i s → W i s := by
  have key : ∀ n i s, i + n = N → I i s → W i s := by
    intro n
    induction n with
    | zero => intro i s h hi; have : i = N := by omega
              subst this; exact hx s hi
    | succ n ih => intro i s h hi; exact hs i s (by omega) hi (fun s' h' => ih (i + 1) s' (by omega) h')
  intro i s h hi
  exact key (N - i) i s (by omega) hi
theorem rL_rI {z : Int} (h : rI z) : rL z := ⟨by have := h.1; omega, by have := h.2; omega⟩
theorem xL (x : Int32) : x.toInt64 = lZ x.toInt := by
  rw [← Int64.toInt_inj, Int32.toInt_toInt64, lZ_toInt (rL_rI (rI_of x))]
def vJ (J : Nat → Nat → Int64) : am_V := fun a i => (J a i).toInt
theorem vJ_eq (J : Nat → Nat → Int64) (a i : Nat) : J a i = lZ (vJ J a i) := (lZ_of (J a i)).symm
section M2
variable {E : Nat × (Nat → Int32)} {d : Nat} {I : Nat → Nat → Int32} {J : Nat → Nat → Int64} {A : Nat → Option Nat} {Q : Option Value → am_M → Prop} {M : am_M}
theorem IL (a i : Nat) : (I a i).toInt64 = lZ (vI I a i) := xL _
theorem m_without {z : Int} (h : -2147483647 ≤ z ∧ z ≤ 2147483647) (hQ : Q (some (.int (iZ z.natAbs))) M) : wpC E d 142 [.int (iZ z)] M Q := by
  refine wc (hs := []) 20 (by decide) ?_
  refine And.intro (fun q => ?_) (fun q => ?_)
  · refine q_i hQ ?_
    have q : iZ 0 ≤ iZ z := q
    rw [iZ_le ⟨by omega, by omega⟩ ⟨by omega, by omega⟩] at q
    congr 1; omega
  · refine q_i hQ ?_
    have q : ¬ iZ 0 ≤ iZ z := q
    rw [iZ_le ⟨by omega, by omega⟩ ⟨by omega, by omega⟩] at q
    show -iZ z = _
    rw [iZ_neg]; congr 1; omega
theorem m_between {z lo hi : Int} (h1 : rL z) (h2 : rL lo) (h3 : rL hi) (h : lo ≤ hi) (hQ : Q (some (.long (lZ (max lo (min z hi))))) M) : wpC E d 140 [.long (lZ z), .long (lZ lo), .long (lZ hi)] M Q := by
  refine wc (hs := []) 20 (by decide) ?_
  refine And.intro (fun q => ?_) (fun q => ?_)
  · have q := (lg_cmp_ge _ _).mp q
    rw [lZ_le h2 h1] at q
    refine And.intro (fun r => ?_) (fun r => ?_)
    · have r := (lg_cmp_le _ _).mp r
      rw [lZ_le h1 h3] at r
      refine q_l hQ ?_
      congr 1; omega
    · have r : ¬ lZ z ≤ lZ hi := fun y => r ((lg_cmp_le _ _).mpr y)
      rw [lZ_le h1 h3] at r
      refine q_l hQ ?_
      congr 1; omega
  · have q : ¬ lZ lo ≤ lZ z := fun y => q ((lg_cmp_ge _ _).mpr y)
    rw [lZ_le h2 h1] at q
    refine q_l hQ ?_
    congr 1; omega
/-- floor of a by b -/
theorem tdiv_floor {a b : Int} (hb : 0 < b) : (if a - a.tdiv b * b < 0 then a.tdiv b - 1 else a.tdiv b) = a / b := by
  have h1 := Int.tmod_add_mul_tdiv a b
  have h2 : a - a.tdiv b * b = a.tmod b := by
    have : b * a.tdiv b = a.tdiv b * b := Int.mul_comm _ _
    omega
  rw [h2]
  by_cases ha : 0 ≤ a
  · rw [if_neg (by have := Int.tmod_nonneg b ha; omega), Int.tdiv_eq_ediv_of_nonneg ha]
  · have h3 := Int.emod_add_mul_ediv a b
    have h4 := Int.emod_nonneg a (show b ≠ 0 by omega)
    have h5 := Int.emod_lt_of_pos a hb
    have h6 : a.tmod b ≤ 0 := by
      have := Int.tmod_nonneg b (show 0 ≤ -a by omega)
      rw [Int.neg_tmod] at this
      omega
    have h7 : -b < a.tmod b := by
      have := Int.tmod_lt_of_pos (-a) hb
      rw [Int.neg_tmod] at this
      omega
    have h8 : b * a.tdiv b + a.tmod b = b * (a / b) + a % b := by omega
    split
    · rename_i hlt
      have h9 : b * (a.tdiv b - 1 - a / b) = a % b - a.tmod b - b := by rw [Int.mul_sub, Int.mul_sub]; omega
      have h10 : -b < b * (a.tdiv b - 1 - a / b) := by omega
      have h11 : b * (a.tdiv b - 1 - a / b) < b := by omega
      have h12 : a.tdiv b - 1 - a / b = 0 := by
        rcases Int.lt_trichotomy (a.tdiv b - 1 - a / b) 0 with z | z | z
        · have : b * (a.tdiv b - 1 - a / b) ≤ b * (-1) := Int.mul_le_mul_of_nonneg_left (by omega) (by omega)
          omega
        · exact z
        · have : b * 1 ≤ b * (a.tdiv b - 1 - a / b) := Int.mul_le_mul_of_nonneg_left (by omega) (by omega)
          omega
      omega
    · rename_i hlt
      have h9 : b * (a.tdiv b - a / b) = a % b - a.tmod b := by rw [Int.mul_sub]; omega
      have h12 : a.tdiv b - a / b = 0 := by
        rcases Int.lt_trichotomy (a.tdiv b - a / b) 0 with z | z | z
        · have : b * (a.tdiv b - a / b) ≤ b * (-1) := Int.mul_le_mul_of_nonneg_left (by omega) (by omega)
          omega
        · exact z
        · have : b * 1 ≤ b * (a.tdiv b - a / b) := Int.mul_le_mul_of_nonneg_left (by omega) (by omega)
          omega
      omega
theorem m_floor {a b : Int} (ha : -9000000000000000000 ≤ a ∧ a ≤ 9000000000000000000) (hb : 0 < b ∧ b ≤ 9000000000000000000) (hQ : Q (some (.long (lZ (a / b)))) M) : wpC E d 141 [.long (lZ a), .long (lZ b)] M Q := by
  have ra : rL a := ⟨by omega, by omega⟩
  have rb : rL b := ⟨by omega, by omega⟩
  have hne : ¬ lZ b = 0 := by
    intro q
    have := (lZ_eq rb (b := 0) ⟨by omega, by omega⟩).mp q
    omega
  have e : lZ a - lZ a / lZ b * lZ b = lZ (a - a.tdiv b * b) := by rw [lZ_div ra rb, lZ_mul, lZ_sub]
  have hm : rL (a - a.tdiv b * b) := by
    have h1 := Int.tmod_add_mul_tdiv a b
    have h2 : b * a.tdiv b = a.tdiv b * b := Int.mul_comm _ _
    have h3 : (a.tmod b).natAbs ≤ a.natAbs := by rw [Int.natAbs_tmod]; exact Nat.mod_le _ _
    unfold rL
    omega
  refine wc (hs := []) 30 (by decide) ?_
  refine And.intro hne ?_
  refine And.intro (fun q => ?_) (fun q => ?_)
  · have q := (lg_cmp_ge _ _).mp q
    have q : lZ 0 ≤ lZ (a - a.tdiv b * b) := by rw [← e]; exact q
    rw [lZ_le ⟨by omega, by omega⟩ hm] at q
    refine And.intro hne ?_
    refine q_l hQ ?_
    show lZ a / lZ b = _
    rw [lZ_div ra rb, ← tdiv_floor hb.1, if_neg (by omega)]
  · have q : ¬ lZ 0 ≤ lZ (a - a.tdiv b * b) := fun y => q ((lg_cmp_ge _ _).mpr (by rw [← e] at y; exact y))
    rw [lZ_le ⟨by omega, by omega⟩ hm] at q
    refine And.intro hne ?_
    refine q_l hQ ?_
    show lZ a / lZ b - lZ 1 = _
    rw [lZ_div ra rb, ← tdiv_floor hb.1, if_pos (by omega), lZ_sub]
/-- a place's number -/
def IP (I : Nat → Nat → Int32) (x : Int32) : Prop := I 266 0 = 1 ∧ 0 ≤ x.toInt ∧ x.toInt < vI I 266 9
theorem m_isPlace {x : Int32} (hS : I 266 0 = 1 → WfS (vI I)) (h1 : IP I x → Q (some (.int 1)) (mm I J A)) (h0 : ¬ IP I x → Q (some (.int 0)) (mm I J A)) : wpC E (d + 1) 144 [.ref 265, .int x] (mm I J A) Q := by
  refine wc (hs := []) 40 (by decide) ?_
  refine And.intro rfl (m_isShip (fun q => ?_) (fun q => ?_))
  · refine wF (by decide) (And.intro (inL (by decide)) (And.intro rfl ?_))
    have hs := (hS q).2.2.2.2.2.2.2.2.1
    have e1 : (I 266 9 - iZ 1).toInt64 = lZ (vI I 266 9 - 1) := by rw [vI_eq I 266 9, iZ_sub, iZ_l ⟨by omega, by omega⟩]
    have r := rI_of x
    have key : (lZ 0 ≤ x.toInt64 ∧ x.toInt64 ≤ (I 266 9 - iZ 1).toInt64) ↔ (0 ≤ x.toInt ∧ x.toInt < vI I 266 9) := by
      rw [e1, xL, lZ_le ⟨by omega, by omega⟩ (rL_rI r), lZ_le (rL_rI r) ⟨by omega, by omega⟩]
      omega
    refine m_in (fun y => ?_) (fun y => ?_)
    · refine wF (by decide) (And.intro rfl (h1 ⟨q, key.mp y⟩))
    · refine wt rfl (And.intro rfl (h0 fun z => y (key.mpr z.2)))
  · refine wt rfl (And.intro rfl (h0 fun z => q z.1))
theorem m_leverAt {n : Nat} (hn : n ≤ 60) (hW : WfL (vI I)) (hQ : Q (some (.int (iZ (armZ (vI I) n)))) (mm I J A)) : wpC E d 159 [.ref 265, .int (nI n)] (mm I J A) Q := by
  have e1 : nI n / nI 5 = nI (n / 5) := pk_div (by omega) (by omega) (by omega)
  have e2 : nI n - nI n / nI 5 * nI 5 = nI (n % 5) := pk_rem (by omega) (by omega) (by omega)
  refine wc (hs := []) 60 (by decide) ?_
  refine And.intro (by decide) ?_
  refine And.intro (fun q => ?_) (fun q => ?_)
  · have q : nI n / nI 5 = nI 12 := q
    rw [e1, nI_eq (by omega) (by omega)] at q
    refine And.intro (inL (by decide)) ?_
    refine q_i hQ ?_
    show I 267 12 = _
    unfold armZ
    rw [if_pos q]; exact vI_eq I 267 12
  · have q : ¬ nI n / nI 5 = nI 12 := q
    rw [e1, nI_eq (by omega) (by omega)] at q
    have hb := hW.2 (n / 5) (by omega)
    have hc := hW.2 (n / 5 + 1) (by omega)
    refine And.intro ?_ (And.intro (by decide) (And.intro ?_ (And.intro (by decide) (And.intro (by decide) ?_))))
    · show vp_in (nI n / nI 5) 13
      rw [e1]; exact vp_in_nI (by omega) (by omega)
    · show vp_in (nI n / nI 5 + nI 1) 13
      rw [e1, nI_add]; exact vp_in_nI (by omega) (by omega)
    · refine q_i hQ ?_
      show (I 267 (nI n / nI 5).toNatClampNeg * (nI 5 - (nI n - nI n / nI 5 * nI 5)) + I 267 (nI n / nI 5 + nI 1).toNatClampNeg * (nI n - nI n / nI 5 * nI 5)) / iZ 5 = _
      have b1 := mulb (a := vI I 267 (n / 5)) (b := 5 - ((n % 5 : Nat) : Int)) (A := 3000) (B := 5) hb.1 hb.2 (by omega) (by omega)
      have b2 := mulb (a := vI I 267 (n / 5 + 1)) (b := ((n % 5 : Nat) : Int)) (A := 3000) (B := 5) hc.1 hc.2 (by omega) (by omega)
      rw [e2, e1, nI_add, nIc (by omega), nIc (by omega), vI_eq I 267 (n / 5), vI_eq I 267 (n / 5 + 1), show nI 5 = iZ 5 from rfl, ← iZ_nat (n % 5), iZ_sub, iZ_mul, iZ_mul, iZ_add, iZ_div ⟨by omega, by omega⟩ ⟨by omega, by omega⟩, Int.tdiv_eq_ediv_of_nonneg (by omega)]
      unfold armZ
      rw [if_neg q]
theorem m_total (h : WfS (vI I)) (hQ : Q (some (.int (iZ (totZ (vI I) (vI I 265 25))))) (mm I J A)) : wpC E d 160 [.ref 265] (mm I J A) Q := by
  have hle := nC_le h
  refine wc (hs := [14, 42]) 60 (by decide) ?_
  refine And.intro (inL (by decide)) ?_
  refine wp_pick [2, 1, 0] [2, 1, 0] [0, 1, 2] rfl rfl (by decide) (by decide) ?_
  refine lpU (σ := Int32 × Int32) (fun _ s => wp E d 160 14 [(0, .ref 265), (1, .int s.1), (2, .int s.2)] [] (mm I J A) Q) (fun i s => s.1 = iZ (vI I 266 2 + vI I 265 25 + sm i (fun k => vI I 277 k)) ∧ s.2 = nI i) (nC (vI I)) ?_ ?_ 0 (I 266 2 + I 265 25, 0) (by omega) ⟨?_, rfl⟩
  · rintro ⟨x1, x2⟩ ⟨e1, e2⟩
    dsimp only at e1 e2
    refine wf (hs := [14, 42]) 60 14 (by decide) ?_
    refine And.intro (inL (by decide)) (wt ?_ ?_)
    · show I 266 10 ≤ x2
      rw [I_nC h, e2]; exact Int32.le_refl _
    · refine wp_pick [1, 2, 0] [2, 0, 1] [0, 1, 2] rfl rfl (by decide) (by decide) ?_
      refine m_tot2 h (nP (vI I)) 0 _ _ _ (by omega) e1 rfl ?_
      refine q_i hQ ?_
      congr 1
      unfold totZ
      show _ + (_ - 0) = _
      omega
  · rintro i ⟨x1, x2⟩ hi ⟨e1, e2⟩ ih
    dsimp only at e1 e2
    refine wf (hs := [14, 42]) 60 14 (by decide) ?_
    refine And.intro (inL (by decide)) (wF ?_ ?_)
    · show ¬ I 266 10 ≤ x2
      rw [I_nC h, e2]; exact nI_ge hi (by omega)
    · refine And.intro (by rw [e2]; exact vp_in_nI (by omega) (by omega)) ?_
      refine wp_pick [2, 1, 0] [2, 1, 0] [0, 1, 2] rfl rfl (by decide) (by decide) ?_
      refine ih (x1 + I 277 x2.toNatClampNeg, x2 + 1) ⟨?_, ?_⟩
      · show x1 + I 277 x2.toNatClampNeg = _
        rw [e1, e2, nIc (by omega), vI_eq I 277, iZ_add]
        congr 1
        show _ = _ + (sm i (fun k => vI I 277 k) + vI I 277 i)
        omega
      · show x2 + 1 = _
        rw [e2]; exact nI_1 i
  · show I 266 2 + I 265 25 = iZ (_ + 0)
    rw [vI_eq I 266 2, vI_eq I 265 25, iZ_add, Int.add_zero]
end M2
end
section
/-! ===== the reference: up, runs, turn ===== -/
theorem levB {v : am_V} {k : Nat} (h : WfP v k) : 0 ≤ levZ v k ∧ levZ v k ≤ 999 := by
  obtain ⟨c1, c2, c3⟩ := capB h
  obtain ⟨h0, h1, h2, h3, h4, h5, h6⟩ := h
  have e3 : 0 ≤ v 276 k * 10000 / (v 272 k * v 273 k) := Int.ediv_nonneg (by omega) (by omega)
  unfold levZ
  omega
theorem sprB {v : am_V} {k : Nat} (h : WfP v k) : (0 ≤ v 273 k * v 272 k * v 272 k * v 272 k ∧ v 273 k * v 272 k * v 272 k * v 272 k ≤ 128000000000) ∧ (1200 ≤ 1200 * v 274 k * v 274 k ∧ 1200 * v 274 k * v 274 k ≤ 97200) ∧ 0 ≤ sprZ v k ∧ sprZ v k ≤ 128000000000 := by
  obtain ⟨h0, h1, h2, h3, h4, h5, h6⟩ := h
  have a := mulb (a := v 273 k) (b := v 272 k) (A := 2000) (B := 400) (by omega) h3.2 (by omega) h2.2
  have b := mulb (b := v 272 k) (B := 400) a.1 a.2 (by omega) h2.2
  have c := mulb (b := v 272 k) (B := 400) b.1 b.2 (by omega) h2.2
  have e := mulb (a := 1200 * v 274 k) (b := v 274 k) (A := 10800) (B := 9) (by omega) (by omega) (by omega) h4.2
  have e' : 1200 * 1 ≤ 1200 * v 274 k * v 274 k := Int.mul_le_mul (by omega) h4.1 (by omega) (by omega)
  refine ⟨⟨c.1, by omega⟩, ⟨by omega, by omega⟩, Int.ediv_nonneg c.1 (by omega), ?_⟩
  exact Int.le_trans (Int.ediv_le_self _ c.1) (by omega)
theorem blkB {v : am_V} {k : Nat} (h : WfP v k) : (0 ≤ 5 * v 272 k * min (v 276 k) (capZ v k - v 276 k) ∧ 5 * v 272 k * min (v 276 k) (capZ v k - v 276 k) ≤ 159840000) ∧ 0 ≤ blkZ v k ∧ blkZ v k ≤ 159840000 := by
  obtain ⟨c1, c2, c3⟩ := capB h
  obtain ⟨h0, h1, h2, h3, h4, h5, h6⟩ := h
  have a := mulb (a := 5 * v 272 k) (b := min (v 276 k) (capZ v k - v 276 k)) (A := 2000) (B := 79920) (by omega) (by omega) (by omega) (by omega)
  refine ⟨⟨a.1, by omega⟩, Int.ediv_nonneg a.1 (by omega), ?_⟩
  exact Int.le_trans (Int.ediv_le_self _ a.1) (by omega)
theorem sinR {z : Int} (h0 : 0 ≤ z) (h1 : z ≤ 90) : 0 ≤ sinZ z ∧ sinZ z ≤ 1000 := by
  obtain ⟨b0, b1⟩ := sinB h0 h1
  have b2 : 4000 * z * (180 - z) = 4000 * (z * (180 - z)) := Int.mul_assoc _ _ _
  unfold sinZ
  rw [b2]
  refine ⟨Int.ediv_nonneg (by omega) (by omega), ?_⟩
  have : 4000 * (z * (180 - z)) ≤ 1000 * (40500 - z * (180 - z)) := by omega
  exact Int.ediv_le_of_le_mul (by omega) this
theorem runB {v : am_V} {k : Nat} {z : Int} (h : WfP v k) (h0 : 0 ≤ z) (h1 : z ≤ 90) : (0 ≤ sprZ v k * sinZ z ∧ sprZ v k * sinZ z ≤ 128000000000000) ∧ 0 ≤ runZ v k z ∧ runZ v k z ≤ 159840000 := by
  have a := (sprB h).2.2
  have b := sinR h0 h1
  have c := mulb a.1 a.2 b.1 b.2
  have e := (blkB h).2
  refine ⟨⟨c.1, by omega⟩, ?_, ?_⟩
  · unfold runZ
    have := Int.ediv_nonneg (a := sprZ v k * sinZ z) (b := 1000) c.1 (by omega)
    omega
  · unfold runZ
    omega
theorem rnsB {v : am_V} {z : Int} (h : Wf v) (h0 : 0 ≤ z) (h1 : z ≤ 90) : 0 ≤ rnsZ v z ∧ rnsZ v z ≤ 1918080000 := by
  have hn : nP v ≤ 12 := by
    have := h.1.2.2.2.2.2.2.2.2.1
    unfold nP; omega
  refine ⟨sm_nn fun k hk => (runB (h.2.2.1 k hk) h0 h1).2.1, ?_⟩
  have := sm_le (n := nP v) (f := fun k => runZ v k z) (B := 159840000) (fun k hk => (runB (h.2.2.1 k hk) h0 h1).2.2)
  unfold rnsZ
  have h2 : (nP v : Int) * 159840000 ≤ 12 * 159840000 := Int.mul_le_mul_of_nonneg_right (by omega) (by omega)
  omega
theorem upB {v : am_V} {mu : Int} (h : Wf v) (hm : 0 ≤ mu ∧ mu ≤ 1000000000) : 0 ≤ upZ v mu ∧ upZ v mu ≤ 10000000000 := by
  have hS := h.1
  have hn : nP v ≤ 12 := by
    have := hS.2.2.2.2.2.2.2.2.1
    unfold nP; omega
  have hc : nC v ≤ 6 := by
    have := hS.2.2.2.2.2.2.2.2.2.1
    unfold nC; omega
  have a := mulb (a := v 266 2) (b := v 266 3) (A := 99999) (B := 3000) (by have := hS.2.1; omega) hS.2.1.2 (by have := hS.2.2.1; omega) hS.2.2.1.2
  have pc : ∀ k, k < nC v → 0 ≤ v 277 k * v 278 k ∧ v 277 k * v 278 k ≤ 9999 * 3000 := fun k hk => by
    obtain ⟨w1, w2, -⟩ := h.2.2.2 k hk
    exact mulb (by omega) w1.2 w2.1 w2.2
  have pp : ∀ k, k < nP v → 0 ≤ v 276 k * (v 270 k + levZ v k / 2) ∧ v 276 k * (v 270 k + levZ v k / 2) ≤ 79920 * 2499 := fun k hk => by
    have w := h.2.2.1 k hk
    have l := levB w
    have cb := (capB w).2.2
    obtain ⟨w0, w1, w2, w3, w4, w5, w6⟩ := w
    exact mulb w6.1 (by omega) (by omega) (by omega)
  have s1 := sm_nn (n := nC v) (f := fun k => v 277 k * v 278 k) (fun k hk => (pc k hk).1)
  have s2 := sm_le (n := nC v) (f := fun k => v 277 k * v 278 k) (fun k hk => (pc k hk).2)
  have s3 := sm_nn (n := nP v) (f := fun k => v 276 k * (v 270 k + levZ v k / 2)) (fun k hk => (pp k hk).1)
  have s4 := sm_le (n := nP v) (f := fun k => v 276 k * (v 270 k + levZ v k / 2)) (fun k hk => (pp k hk).2)
  have h2 : (nC v : Int) * (9999 * 3000) ≤ 6 * (9999 * 3000) := Int.mul_le_mul_of_nonneg_right (by omega) (by omega)
  have h3 : (nP v : Int) * (79920 * 2499) ≤ 12 * (79920 * 2499) := Int.mul_le_mul_of_nonneg_right (by omega) (by omega)
  unfold upZ
  omega
theorem totB {v : am_V} {mw : Int} (h : Wf v) (hm : 0 ≤ mw ∧ mw ≤ 200000) : 1 ≤ totZ v mw ∧ totZ v mw ≤ 2000000 := by
  have hS := h.1
  have hn : nP v ≤ 12 := by
    have := hS.2.2.2.2.2.2.2.2.1
    unfold nP; omega
  have hc : nC v ≤ 6 := by
    have := hS.2.2.2.2.2.2.2.2.2.1
    unfold nC; omega
  have s1 := sm_nn (n := nC v) (f := fun k => v 277 k) (fun k hk => by have := (h.2.2.2 k hk).1; omega)
  have s2 := sm_le (n := nC v) (f := fun k => v 277 k) (B := 9999) (fun k hk => (h.2.2.2 k hk).1.2)
  have s3 := sm_nn (n := nP v) (f := fun k => v 276 k) (fun k hk => (h.2.2.1 k hk).2.2.2.2.2.2.1)
  have s4 := sm_le (n := nP v) (f := fun k => v 276 k) (B := 79920) (fun k hk => by
    have w := h.2.2.1 k hk
    have cb := (capB w).2.2
    have := w.2.2.2.2.2.2.2
    omega)
  have := hS.2.1
  unfold totZ
  omega
section M3
variable {E : Nat × (Nat → Int32)} {d : Nat} {I : Nat → Nat → Int32} {J : Nat → Nat → Int64} {A : Nat → Option Nat} {Q : Option Value → am_M → Prop} {M : am_M}
theorem m_draft (h : Wf (vI I)) (hm : 0 ≤ vI I 265 25 ∧ vI I 265 25 ≤ 200000) (hQ : Q (some (.int (iZ (totZ (vI I) (vI I 265 25) / vI I 266 4)))) (mm I J A)) : wpC E (d + 1) 162 [.ref 265] (mm I J A) Q := by
  have t := totB h hm
  have k := h.1.2.2.2.1
  refine wc (hs := []) 20 (by decide) ?_
  refine And.intro rfl (m_total h.1 ?_)
  refine And.intro (inL (by decide)) (And.intro ?_ ?_)
  · intro q
    have q : iZ (vI I 266 4) = iZ 0 := by rw [← vI_eq]; exact q
    rw [iZ_eq ⟨by omega, by omega⟩ ⟨by omega, by omega⟩] at q
    omega
  · refine q_i hQ ?_
    show iZ _ / I 266 4 = _
    rw [vI_eq I 266 4, iZ_div ⟨by omega, by omega⟩ ⟨by omega, by omega⟩, Int.tdiv_eq_ediv_of_nonneg (by omega)]
theorem m_runs {k : Nat} {z : Int} (hk : k < 12) (hW : WfP (vI I) k) (h0 : 0 ≤ z) (h1 : z ≤ 90) (hQ : Q (some (.long (lZ (runZ (vI I) k z)))) (mm I J A)) : wpC E (d + 1) 163 [.ref 265, .int (nI k), .int (iZ z)] (mm I J A) Q := by
  have hin : vp_in (nI k) 12 := vp_in_nI hk (by omega)
  have hc : (nI k).toNatClampNeg = k := nIc (by omega)
  obtain ⟨p1, p2, p3⟩ := sprB hW
  obtain ⟨b1, b2⟩ := blkB hW
  obtain ⟨r1, r2⟩ := runB hW h0 h1
  have s := sinR h0 h1
  obtain ⟨c1, c2, c3⟩ := capB hW
  obtain ⟨w0, w1, w2, w3, w4, w5, w6⟩ := id hW
  have g : ∀ a, I a (nI k).toNatClampNeg = iZ (vI I a k) := fun a => by rw [hc]; exact vI_eq I a k
  have gL : ∀ a, (I a (nI k).toNatClampNeg).toInt64 = lZ (vI I a k) := fun a => by rw [hc]; exact IL a k
  have e1 : lZ 1200 * (I 274 (nI k).toNatClampNeg).toInt64 * (I 274 (nI k).toNatClampNeg).toInt64 = lZ (1200 * vI I 274 k * vI I 274 k) := by rw [gL, lZ_mul, lZ_mul]
  have e2 : (I 273 (nI k).toNatClampNeg).toInt64 * (I 272 (nI k).toNatClampNeg).toInt64 * (I 272 (nI k).toNatClampNeg).toInt64 * (I 272 (nI k).toNatClampNeg).toInt64 / (lZ 1200 * (I 274 (nI k).toNatClampNeg).toInt64 * (I 274 (nI k).toNatClampNeg).toInt64) = lZ (sprZ (vI I) k) := by
    rw [e1, gL, gL, lZ_mul, lZ_mul, lZ_mul, lZ_div ⟨by omega, by omega⟩ ⟨by omega, by omega⟩, Int.tdiv_eq_ediv_of_nonneg p1.1]; rfl
  have e3 : lZ (sprZ (vI I) k) * (iZ (sinZ z)).toInt64 / lZ 1000 = lZ (sprZ (vI I) k * sinZ z / 1000) := by
    rw [iZ_l ⟨by omega, by omega⟩, lZ_mul, lZ_div ⟨by omega, by omega⟩ ⟨by omega, by omega⟩, Int.tdiv_eq_ediv_of_nonneg r1.1]
  refine wc (hs := []) 100 (by decide) ?_
  refine And.intro hin (And.intro hin (And.intro hin (And.intro hin (And.intro hin (And.intro hin (And.intro ?_ (And.intro rfl (m_sine h0 h1 ?_))))))))
  · intro q
    have q : lZ (1200 * vI I 274 k * vI I 274 k) = lZ 0 := by rw [← e1]; exact q
    rw [lZ_eq ⟨by omega, by omega⟩ ⟨by omega, by omega⟩] at q
    omega
  refine And.intro (by decide) (And.intro rfl (m_cap hk hW ?_))
  refine And.intro hin (And.intro hin (And.intro hin ?_))
  have e4 : iZ (capZ (vI I) k) - I 276 (nI k).toNatClampNeg = iZ (capZ (vI I) k - vI I 276 k) := by rw [g, iZ_sub]
  have hd0 : ¬ (I 274 (nI k).toNatClampNeg).toInt64 = 0 := by
    intro q
    have q : lZ (vI I 274 k) = lZ 0 := by rw [← gL]; exact q
    rw [lZ_eq ⟨by omega, by omega⟩ ⟨by omega, by omega⟩] at q
    omega
  have fin : ∀ y : Int32, y = iZ (min (vI I 276 k) (capZ (vI I) k - vI I 276 k)) → lZ 5 * (I 272 (nI k).toNatClampNeg).toInt64 * y.toInt64 / (I 274 (nI k).toNatClampNeg).toInt64 = lZ (blkZ (vI I) k) := by
    intro y hy
    rw [hy, iZ_l ⟨by omega, by omega⟩, gL, gL, lZ_mul, lZ_mul, lZ_div ⟨by omega, by omega⟩ ⟨by omega, by omega⟩, Int.tdiv_eq_ediv_of_nonneg b1.1]; rfl
  have rng1 : rL (sprZ (vI I) k * sinZ z / 1000) := by
    have := Int.ediv_nonneg (a := sprZ (vI I) k * sinZ z) (b := 1000) r1.1 (by omega)
    exact ⟨by omega, by omega⟩
  have ends : ∀ (x y : Int64), x = lZ (sprZ (vI I) k * sinZ z / 1000) → y = lZ (blkZ (vI I) k) → (0 ≤ lg_cmp x y → y = lZ (runZ (vI I) k z)) ∧ (¬ 0 ≤ lg_cmp x y → x = lZ (runZ (vI I) k z)) := by
    intro x y hx hy
    have cmp : 0 ≤ lg_cmp x y ↔ blkZ (vI I) k ≤ sprZ (vI I) k * sinZ z / 1000 := by
      rw [lg_cmp_ge, hx, hy, lZ_le ⟨by omega, by omega⟩ rng1]
    rw [cmp]
    refine ⟨fun q => ?_, fun q => ?_⟩
    · rw [hy]; unfold runZ; rw [Int.min_eq_right q]
    · rw [hx]; unfold runZ; rw [Int.min_eq_left (by omega)]
  refine And.intro (fun q => ?_) (fun q => ?_)
  · have q : iZ (capZ (vI I) k) - I 276 (nI k).toNatClampNeg ≤ I 276 (nI k).toNatClampNeg := q
    rw [e4, g, iZ_le ⟨by omega, by omega⟩ ⟨by omega, by omega⟩] at q
    refine And.intro hin (And.intro hd0 ?_)
    have f := fin (iZ (capZ (vI I) k) - I 276 (nI k).toNatClampNeg) (by rw [e4, Int.min_eq_right q])
    refine And.intro (fun r => ?_) (fun r => ?_)
    · exact q_l hQ ((ends _ _ (by rw [← e3, ← e2]; rfl) f).1 r)
    · exact q_l hQ ((ends _ _ (by rw [← e3, ← e2]; rfl) f).2 r)
  · have q : ¬ iZ (capZ (vI I) k) - I 276 (nI k).toNatClampNeg ≤ I 276 (nI k).toNatClampNeg := q
    rw [e4, g, iZ_le ⟨by omega, by omega⟩ ⟨by omega, by omega⟩] at q
    refine And.intro hin (And.intro hin (And.intro hd0 ?_))
    have f := fin (I 276 (nI k).toNatClampNeg) (by rw [g, Int.min_eq_left (by omega)])
    refine And.intro (fun r => ?_) (fun r => ?_)
    · exact q_l hQ ((ends _ _ (by rw [← e3, ← e2]; rfl) f).1 r)
    · exact q_l hQ ((ends _ _ (by rw [← e3, ← e2]; rfl) f).2 r)
end M3
end
section
/-! ===== the reference: sums over places and cargo as longs; what turns her ===== -/
section M4
variable {E : Nat × (Nat → Int32)} {d : Nat} {I : Nat → Nat → Int32} {J : Nat → Nat → Int64} {A : Nat → Option Nat} {Q : Option Value → am_M → Prop} {M : am_M}
theorem m_allRuns {z : Int} (h : Wf (vI I)) (h0 : 0 ≤ z) (h1 : z ≤ 90) (hQ : Q (some (.long (lZ (rnsZ (vI I) z)))) (mm I J A)) : wpC E (d + 2) 164 [.ref 265, .int (iZ z)] (mm I J A) Q := by
  have hle := nP_le h.1
  refine wc (hs := [5]) 40 (by decide) ?_
  refine wp_pick [2, 3, 1, 0] [4, 2, 0, 1] [0, 1, 2, 4] rfl rfl (by decide) (by decide) ?_
  refine lpU (σ := Int64 × Int32) (fun _ s => wp E (d + 2) 164 5 [(0, .ref 265), (1, .int (iZ z)), (2, .long s.1), (4, .int s.2)] [] (mm I J A) Q) (fun i s => s.1 = lZ (sm i (fun k => runZ (vI I) k z)) ∧ s.2 = nI i) (nP (vI I)) ?_ ?_ 0 (0, 0) (by omega) ⟨rfl, rfl⟩
  · rintro ⟨x1, x2⟩ ⟨e1, e2⟩
    dsimp only at e1 e2
    refine wf (hs := [5]) 40 5 (by decide) ?_
    refine And.intro (inL (by decide)) (wt ?_ ?_)
    · show I 266 9 ≤ x2
      rw [I_nP h.1, e2]; exact Int32.le_refl _
    · exact q_l hQ e1
  · rintro i ⟨x1, x2⟩ hi ⟨e1, e2⟩ ih
    dsimp only at e1 e2
    refine wf (hs := [5]) 40 5 (by decide) ?_
    refine And.intro (inL (by decide)) (wF ?_ ?_)
    · show ¬ I 266 9 ≤ x2
      rw [I_nP h.1, e2]; exact nI_ge hi (by omega)
    · subst e2
      refine And.intro rfl (m_runs (by omega) (h.2.2.1 i hi) h0 h1 ?_)
      refine wp_pick [2, 3, 1, 0] [4, 2, 0, 1] [0, 1, 2, 4] rfl rfl (by decide) (by decide) ?_
      refine ih (x1 + lZ (runZ (vI I) i z), nI i + 1) ⟨?_, nI_1 i⟩
      show x1 + lZ _ = _
      rw [e1, lZ_add]; rfl
theorem m_asideNow (h : Wf (vI I)) (hQ : Q (some (.long (lZ (asdZ (vI I))))) (mm I J A)) : wpC E d 165 [.ref 265] (mm I J A) Q := by
  have hle := nP_le h.1
  have hlc := nC_le h.1
  refine wc (hs := [14, 54]) 60 (by decide) ?_
  refine And.intro (inL (by decide)) ?_
  refine wp_pick [2, 1, 0] [3, 1, 0] [0, 1, 3] rfl rfl (by decide) (by decide) ?_
  refine lpU (σ := Int64 × Int32) (fun _ s => wp E d 165 14 [(0, .ref 265), (1, .long s.1), (3, .int s.2)] [] (mm I J A) Q) (fun i s => s.1 = lZ (vI I 266 5 * 10 + sm i (fun k => vI I 276 k * vI I 275 k * 10)) ∧ s.2 = nI i) (nP (vI I)) ?_ ?_ 0 ((I 266 5).toInt64 * lZ 10, 0) (by omega) ⟨?_, rfl⟩
  · rintro ⟨x1, x2⟩ ⟨e1, e2⟩
    dsimp only at e1 e2
    refine wf (hs := [14, 54]) 60 14 (by decide) ?_
    refine And.intro (inL (by decide)) (wt ?_ ?_)
    · show I 266 9 ≤ x2
      rw [I_nP h.1, e2]; exact Int32.le_refl _
    · refine wp_pick [1, 2, 0] [3, 0, 1] [0, 1, 3] rfl rfl (by decide) (by decide) ?_
      refine lpU (σ := Int64 × Int32) (fun _ s => wp E d 165 54 [(0, .ref 265), (1, .long s.1), (3, .int s.2)] [] (mm I J A) Q) (fun i s => s.1 = lZ (vI I 266 5 * 10 + sm (nP (vI I)) (fun k => vI I 276 k * vI I 275 k * 10) + sm i (fun k => vI I 277 k * vI I 281 k * vI I 280 k * 10)) ∧ s.2 = nI i) (nC (vI I)) ?_ ?_ 0 (x1, 0) (by omega) ⟨?_, rfl⟩
      · rintro ⟨x1, x2⟩ ⟨e1, e2⟩
        dsimp only at e1 e2
        refine wf (hs := [14, 54]) 60 54 (by decide) ?_
        refine And.intro (inL (by decide)) (wt ?_ ?_)
        · show I 266 10 ≤ x2
          rw [I_nC h.1, e2]; exact Int32.le_refl _
        · exact q_l hQ e1
      · rintro i ⟨x1, x2⟩ hi ⟨e1, e2⟩ ih
        dsimp only at e1 e2
        subst e2
        have hin : vp_in (nI i) 6 := vp_in_nI (by omega) (by omega)
        refine wf (hs := [14, 54]) 60 54 (by decide) ?_
        refine And.intro (inL (by decide)) (wF ?_ ?_)
        · show ¬ I 266 10 ≤ nI i
          rw [I_nC h.1]; exact nI_ge hi (by omega)
        · refine And.intro hin (And.intro hin (And.intro hin ?_))
          refine wp_pick [2, 1, 0] [3, 1, 0] [0, 1, 3] rfl rfl (by decide) (by decide) ?_
          refine ih (x1 + (I 277 (nI i).toNatClampNeg * I 281 (nI i).toNatClampNeg * I 280 (nI i).toNatClampNeg).toInt64 * lZ 10, nI i + 1) ⟨?_, nI_1 i⟩
          obtain ⟨w1, w2, w3, w4, w5⟩ := h.2.2.2 i hi
          have p1 := mula (a := vI I 281 i) (b := vI I 277 i) (A := 1) (B := 9999) w5.1 w5.2 (by omega) w1.2 (by omega)
          have p2 : vI I 281 i * vI I 277 i = vI I 277 i * vI I 281 i := Int.mul_comm _ _
          have p3 := mula (a := vI I 277 i * vI I 281 i) (b := vI I 280 i) (A := 9999) (B := 200) (by omega) (by omega) w4.1 w4.2 (by omega)
          show x1 + (I 277 (nI i).toNatClampNeg * I 281 (nI i).toNatClampNeg * I 280 (nI i).toNatClampNeg).toInt64 * lZ 10 = _
          rw [e1, nIc (by omega), vI_eq I 277, vI_eq I 281, vI_eq I 280, iZ_mul, iZ_mul, iZ_l ⟨by omega, by omega⟩, lZ_mul, lZ_add]
          congr 1
          show _ = _ + (sm i (fun k => vI I 277 k * vI I 281 k * vI I 280 k * 10) + vI I 277 i * vI I 281 i * vI I 280 i * 10)
          omega
      · show x1 = lZ (_ + 0)
        rw [e1, Int.add_zero]
  · rintro i ⟨x1, x2⟩ hi ⟨e1, e2⟩ ih
    dsimp only at e1 e2
    subst e2
    have hin : vp_in (nI i) 12 := vp_in_nI (by omega) (by omega)
    refine wf (hs := [14, 54]) 60 14 (by decide) ?_
    refine And.intro (inL (by decide)) (wF ?_ ?_)
    · show ¬ I 266 9 ≤ nI i
      rw [I_nP h.1]; exact nI_ge hi (by omega)
    · refine And.intro hin (And.intro hin ?_)
      refine wp_pick [2, 1, 0] [3, 1, 0] [0, 1, 3] rfl rfl (by decide) (by decide) ?_
      refine ih (x1 + (I 276 (nI i).toNatClampNeg * I 275 (nI i).toNatClampNeg).toInt64 * lZ 10, nI i + 1) ⟨?_, nI_1 i⟩
      have w := h.2.2.1 i hi
      have cb := (capB w).2.2
      obtain ⟨w0, w1, w2, w3, w4, w5, w6⟩ := w
      have p1 := mula (a := vI I 275 i) (b := vI I 276 i) (A := 200) (B := 79920) w5.1 w5.2 w6.1 (by omega) (by omega)
      have p2 : vI I 275 i * vI I 276 i = vI I 276 i * vI I 275 i := Int.mul_comm _ _
      show x1 + (I 276 (nI i).toNatClampNeg * I 275 (nI i).toNatClampNeg).toInt64 * lZ 10 = _
      rw [e1, nIc (by omega), vI_eq I 276, vI_eq I 275, iZ_mul, iZ_l ⟨by omega, by omega⟩, lZ_mul, lZ_add]
      congr 1
      show _ = _ + (sm i (fun k => vI I 276 k * vI I 275 k * 10) + vI I 276 i * vI I 275 i * 10)
      omega
  · show (I 266 5).toInt64 * lZ 10 = lZ (_ + 0)
    rw [IL, lZ_mul, Int.add_zero]
theorem m_upward (h : Wf (vI I)) (hQ : Q (some (.long (lZ (upZ (vI I) (vJ J 265 26))))) (mm I J A)) : wpC E (d + 1) 161 [.ref 265] (mm I J A) Q := by
  have hle := nP_le h.1
  have hlc := nC_le h.1
  refine wc (hs := [23, 60]) 60 (by decide) ?_
  refine And.intro (inL (by decide)) (And.intro (inL (by decide)) ?_)
  refine wp_pick [2, 1, 0] [3, 1, 0] [0, 1, 3] rfl rfl (by decide) (by decide) ?_
  refine lpU (σ := Int64 × Int32) (fun _ s => wp E (d + 1) 161 23 [(0, .ref 265), (1, .long s.1), (3, .int s.2)] [] (mm I J A) Q) (fun i s => s.1 = lZ (vI I 266 2 * vI I 266 3 + vJ J 265 26 + sm i (fun k => vI I 277 k * vI I 278 k)) ∧ s.2 = nI i) (nC (vI I)) ?_ ?_ 0 ((I 266 2).toInt64 * (I 266 3).toInt64 + J 265 26, 0) (by omega) ⟨?_, rfl⟩
  · rintro ⟨x1, x2⟩ ⟨e1, e2⟩
    dsimp only at e1 e2
    refine wf (hs := [23, 60]) 60 23 (by decide) ?_
    refine And.intro (inL (by decide)) (wt ?_ ?_)
    · show I 266 10 ≤ x2
      rw [I_nC h.1, e2]; exact Int32.le_refl _
    · refine wp_pick [1, 2, 0] [3, 0, 1] [0, 1, 3] rfl rfl (by decide) (by decide) ?_
      refine lpU (σ := Int64 × Int32) (fun _ s => wp E (d + 1) 161 60 [(0, .ref 265), (1, .long s.1), (3, .int s.2)] [] (mm I J A) Q) (fun i s => s.1 = lZ (vI I 266 2 * vI I 266 3 + vJ J 265 26 + sm (nC (vI I)) (fun k => vI I 277 k * vI I 278 k) + sm i (fun k => vI I 276 k * (vI I 270 k + levZ (vI I) k / 2))) ∧ s.2 = nI i) (nP (vI I)) ?_ ?_ 0 (x1, 0) (by omega) ⟨?_, rfl⟩
      · rintro ⟨x1, x2⟩ ⟨e1, e2⟩
        dsimp only at e1 e2
        refine wf (hs := [23, 60]) 60 60 (by decide) ?_
        refine And.intro (inL (by decide)) (wt ?_ ?_)
        · show I 266 9 ≤ x2
          rw [I_nP h.1, e2]; exact Int32.le_refl _
        · exact q_l hQ e1
      · rintro i ⟨x1, x2⟩ hi ⟨e1, e2⟩ ih
        dsimp only at e1 e2
        subst e2
        have hin : vp_in (nI i) 12 := vp_in_nI (by omega) (by omega)
        have w := h.2.2.1 i hi
        refine wf (hs := [23, 60]) 60 60 (by decide) ?_
        refine And.intro (inL (by decide)) (wF ?_ ?_)
        · show ¬ I 266 9 ≤ nI i
          rw [I_nP h.1]; exact nI_ge hi (by omega)
        · refine And.intro hin (And.intro hin (And.intro rfl (m_level (by omega) w (And.intro (by decide) ?_))))
          refine wp_pick [2, 1, 0] [3, 1, 0] [0, 1, 3] rfl rfl (by decide) (by decide) ?_
          refine ih (x1 + (I 276 (nI i).toNatClampNeg).toInt64 * (I 270 (nI i).toNatClampNeg + iZ (levZ (vI I) i) / iZ 2).toInt64, nI i + 1) ⟨?_, nI_1 i⟩
          have l := levB w
          obtain ⟨w0, w1, w2, w3, w4, w5, w6⟩ := w
          show x1 + (I 276 (nI i).toNatClampNeg).toInt64 * (I 270 (nI i).toNatClampNeg + iZ (levZ (vI I) i) / iZ 2).toInt64 = _
          rw [e1, nIc (by omega), IL, vI_eq I 270, iZ_div ⟨by omega, by omega⟩ ⟨by omega, by omega⟩, Int.tdiv_eq_ediv_of_nonneg l.1, iZ_add, iZ_l ⟨by omega, by omega⟩, lZ_mul, lZ_add]
          congr 1
          show _ = _ + (sm i (fun k => vI I 276 k * (vI I 270 k + levZ (vI I) k / 2)) + vI I 276 i * (vI I 270 i + levZ (vI I) i / 2))
          omega
      · show x1 = lZ (_ + 0)
        rw [e1, Int.add_zero]
  · rintro i ⟨x1, x2⟩ hi ⟨e1, e2⟩ ih
    dsimp only at e1 e2
    subst e2
    have hin : vp_in (nI i) 6 := vp_in_nI (by omega) (by omega)
    refine wf (hs := [23, 60]) 60 23 (by decide) ?_
    refine And.intro (inL (by decide)) (wF ?_ ?_)
    · show ¬ I 266 10 ≤ nI i
      rw [I_nC h.1]; exact nI_ge hi (by omega)
    · refine And.intro hin (And.intro hin ?_)
      refine wp_pick [2, 1, 0] [3, 1, 0] [0, 1, 3] rfl rfl (by decide) (by decide) ?_
      refine ih (x1 + (I 277 (nI i).toNatClampNeg).toInt64 * (I 278 (nI i).toNatClampNeg).toInt64, nI i + 1) ⟨?_, nI_1 i⟩
      show x1 + (I 277 (nI i).toNatClampNeg).toInt64 * (I 278 (nI i).toNatClampNeg).toInt64 = _
      rw [e1, nIc (by omega), IL, IL, lZ_mul, lZ_add]
      congr 1
      show _ = _ + (sm i (fun k => vI I 277 k * vI I 278 k) + vI I 277 i * vI I 278 i)
      omega
  · show (I 266 2).toInt64 * (I 266 3).toInt64 + J 265 26 = lZ (_ + 0)
    rw [IL, IL, lZ_mul, vJ_eq J, lZ_add, Int.add_zero]
end M4
end
section
/-! ===== the reference: turn and rest ===== -/
def WM (I : Nat → Nat → Int32) (J : Nat → Nat → Int64) : Prop := Wf (vI I) ∧ (0 ≤ vI I 265 25 ∧ vI I 265 25 ≤ 200000) ∧ (0 ≤ vJ J 265 26 ∧ vJ J 265 26 ≤ 3000 * vI I 265 25)
theorem armB {v : am_V} {n : Nat} (h : WfL v) (hn : n ≤ 60) : 0 ≤ armZ v n ∧ armZ v n ≤ 3000 := by
  unfold armZ
  split
  · exact h.2 12 (by omega)
  · have hb := h.2 (n / 5) (by omega)
    have hc := h.2 (n / 5 + 1) (by omega)
    have b1 := mulb (a := v 267 (n / 5)) (b := 5 - ((n % 5 : Nat) : Int)) (A := 3000) (B := 5 - ((n % 5 : Nat) : Int)) hb.1 hb.2 (by omega) (by omega)
    have b2 := mulb (a := v 267 (n / 5 + 1)) (b := ((n % 5 : Nat) : Int)) (A := 3000) (B := ((n % 5 : Nat) : Int)) hc.1 hc.2 (by omega) (by omega)
    omega
theorem upsB {v : am_V} {mw mu : Int} {n : Nat} (h : Wf v) (hw : 0 ≤ mw ∧ mw ≤ 200000) (hu : 0 ≤ mu ∧ mu ≤ 3000 * mw) (hn : n ≤ 60) : -6000000000 ≤ upsZ v mw mu n ∧ upsZ v mw mu n ≤ 12000000000 := by
  have a := rnsB (z := (n : Int)) h (by omega) (by omega)
  have b := upB h (mu := mu) ⟨hu.1, by omega⟩
  have c := sinR (z := (n : Int)) (by omega) (by omega)
  have e := mulb b.1 b.2 c.1 c.2
  have f := totB h hw
  have g := armB h.2.1 hn
  have k := mulb (show 0 ≤ totZ v mw by omega) f.2 g.1 g.2
  unfold upsZ
  omega
theorem trnB {v : am_V} {mw mu a z : Int} (h : Wf v) (hw : 0 ≤ mw ∧ mw ≤ 200000) (hu : 0 ≤ mu ∧ mu ≤ 3000 * mw) (ha : -10000000000 ≤ a ∧ a ≤ 10000000000) (hz : -60 ≤ z ∧ z ≤ 60) : (-10000000000000 ≤ a * sinZ (90 - z.natAbs) ∧ a * sinZ (90 - z.natAbs) ≤ 10000000000000) ∧ -30000000000000 ≤ trnZ v mw mu a z ∧ trnZ v mw mu a z ≤ 30000000000000 := by
  have c := sinR (z := 90 - (z.natAbs : Int)) (by omega) (by omega)
  have p := mula (a := a) (b := sinZ (90 - z.natAbs)) (A := 10000000000) (B := 1000) ha.1 ha.2 c.1 c.2 (by omega)
  have u := upsB h hw hu (n := z.natAbs) (by omega)
  have q : ((a * sinZ (90 - z.natAbs)).tdiv 1000).natAbs ≤ (a * sinZ (90 - z.natAbs)).natAbs := by
    rw [Int.natAbs_tdiv]; exact Nat.div_le_self _ _
  refine ⟨⟨by omega, by omega⟩, ?_⟩
  unfold trnZ
  dsimp only
  split
  · omega
  · split <;> omega
/-- a walk of one way -/
def wlkZ (t : Int → Int) (way : Int) : Nat → Int → Int
  | 0, z => z
  | n + 1, z => if 0 < t z * way ∧ ¬ z = way * 60 then wlkZ t way n (z + way) else z
def rstZ (t : Int → Int) (z : Int) : Int := if 0 < t z then wlkZ t 1 120 z else wlkZ t (-1) 120 z
theorem wlk_R {t : Int → Int} : ∀ (n : Nat) (z : Int) (m : Nat), z + n = 60 → n ≤ m → wlkZ t 1 m z = wlkZ t 1 n z := by
  intro n
  induction n with
  | zero =>
    intro z m h _
    cases m with
    | zero => rfl
    | succ m => show (if _ then _ else _) = z; rw [if_neg (fun q => q.2 (by omega))]
  | succ n ih =>
    intro z m h hm
    cases m with
    | zero => omega
    | succ m =>
      show (if _ then _ else _) = (if _ then _ else _)
      rw [ih (z + 1) m (by omega) (by omega)]
theorem wlk_L {t : Int → Int} : ∀ (n : Nat) (z : Int) (m : Nat), z - n = -60 → n ≤ m → wlkZ t (-1) m z = wlkZ t (-1) n z := by
  intro n
  induction n with
  | zero =>
    intro z m h _
    cases m with
    | zero => rfl
    | succ m => show (if _ then _ else _) = z; rw [if_neg (fun q => q.2 (by omega))]
  | succ n ih =>
    intro z m h hm
    cases m with
    | zero => omega
    | succ m =>
      show (if _ then _ else _) = (if _ then _ else _)
      rw [ih (z + -1) m (by omega) (by omega)]
theorem wlk_rng {t : Int → Int} {way : Int} (hw : way = 1 ∨ way = -1) : ∀ (n : Nat) (z : Int), -60 ≤ z ∧ z ≤ 60 → -60 ≤ wlkZ t way n z ∧ wlkZ t way n z ≤ 60 := by
  intro n
  induction n with
  | zero => intro z h; exact h
  | succ n ih =>
    intro z h
    unfold wlkZ
    split
    · rename_i q
      exact ih _ (by rcases hw with rfl | rfl <;> omega)
    · exact h
theorem rst_rng {t : Int → Int} {z : Int} (h : -60 ≤ z ∧ z ≤ 60) : -60 ≤ rstZ t z ∧ rstZ t z ≤ 60 := by
  unfold rstZ
  split
  · exact wlk_rng (Or.inl rfl) _ _ h
  · exact wlk_rng (Or.inr rfl) _ _ h
section M5
variable {E : Nat × (Nat → Int32)} {d : Nat} {I : Nat → Nat → Int32} {J : Nat → Nat → Int64} {A : Nat → Option Nat} {Q : Option Value → am_M → Prop} {M : am_M}
theorem m_sineE {x : Int32} {z : Int} (e : x = iZ z) (h0 : 0 ≤ z) (h1 : z ≤ 90) (hQ : Q (some (.int (iZ (sinZ z)))) M) : wpC E d 158 [.int x] M Q := by
  subst e; exact m_sine h0 h1 hQ
theorem m_leverAtE {x : Int32} {n : Nat} (e : x = iZ n) (hn : n ≤ 60) (hW : WfL (vI I)) (hQ : Q (some (.int (iZ (armZ (vI I) n)))) (mm I J A)) : wpC E d 159 [.ref 265, .int x] (mm I J A) Q := by
  subst e; rw [iZ_nat]; exact m_leverAt hn hW hQ
/-- the memory's own turn -/
def tM (I : Nat → Nat → Int32) (J : Nat → Nat → Int64) (a : Int) : Int → Int := trnZ (vI I) (vI I 265 25) (vJ J 265 26) a
theorem m_turnBy {a z : Int} (h : WM I J) (ha : -10000000000 ≤ a ∧ a ≤ 10000000000) (hz : -60 ≤ z ∧ z ≤ 60) (hQ : Q (some (.long (lZ (tM I J a z)))) (mm I J A)) : wpC E (d + 3) 166 [.ref 265, .long (lZ a), .int (iZ z)] (mm I J A) Q := by
  obtain ⟨hW, hw, hu⟩ := h
  have tb := trnB hW hw hu ha hz
  have c1 := sinR (z := 90 - (z.natAbs : Int)) (by omega) (by omega)
  have c2 := sinR (z := (z.natAbs : Int)) (by omega) (by omega)
  have ub := upB hW (mu := vJ J 265 26) ⟨hu.1, by omega⟩
  have ue := mulb ub.1 ub.2 c2.1 c2.2
  have tt := totB hW hw
  have ar := armB (v := vI I) (n := z.natAbs) hW.2.1 (by omega)
  have rn := rnsB (z := (z.natAbs : Int)) hW (by omega) (by omega)
  refine wc (hs := []) 80 (by decide) ?_
  refine And.intro rfl (m_without ⟨by omega, by omega⟩ ?_)
  refine And.intro rfl (m_sineE (z := 90 - z.natAbs) (iZ_sub 90 _) (by omega) (by omega) ?_)
  refine And.intro (by decide) ?_
  refine And.intro rfl (m_allRuns hW (by omega) (by omega) ?_)
  refine And.intro rfl (m_upward hW ?_)
  refine And.intro rfl (m_sineE rfl (by omega) (by omega) ?_)
  refine And.intro (by decide) ?_
  refine And.intro rfl (m_total hW.1 ?_)
  refine And.intro rfl (m_leverAtE rfl (by omega) hW.2.1 ?_)
  have f : lZ a * (iZ (sinZ (90 - z.natAbs))).toInt64 / lZ 1000 = lZ ((a * sinZ (90 - z.natAbs)).tdiv 1000) := by
    rw [iZ_l ⟨by omega, by omega⟩, lZ_mul, lZ_div ⟨by omega, by omega⟩ ⟨by omega, by omega⟩]
  have g : lZ (rnsZ (vI I) z.natAbs) + lZ (upZ (vI I) (vJ J 265 26)) * (iZ (sinZ z.natAbs)).toInt64 / lZ 1000 - (iZ (totZ (vI I) (vI I 265 25))).toInt64 * (iZ (armZ (vI I) z.natAbs)).toInt64 = lZ (upsZ (vI I) (vI I 265 25) (vJ J 265 26) z.natAbs) := by
    rw [iZ_l ⟨by omega, by omega⟩, iZ_l ⟨by omega, by omega⟩, iZ_l ⟨by omega, by omega⟩, lZ_mul, lZ_mul, lZ_div ⟨by omega, by omega⟩ ⟨by omega, by omega⟩, Int.tdiv_eq_ediv_of_nonneg ue.1, lZ_add, lZ_sub]
    rfl
  refine And.intro (fun q => ?_) (fun q => ?_)
  · have q : iZ z = iZ 0 := q
    rw [iZ_eq ⟨by omega, by omega⟩ ⟨by omega, by omega⟩] at q
    refine q_l hQ (f.trans ?_)
    unfold tM trnZ
    rw [if_pos q]
  · have q : ¬ iZ z = iZ 0 := q
    rw [iZ_eq ⟨by omega, by omega⟩ ⟨by omega, by omega⟩] at q
    refine And.intro (fun r => ?_) (fun r => ?_)
    · have r : iZ z ≤ iZ 0 := r
      rw [iZ_le ⟨by omega, by omega⟩ ⟨by omega, by omega⟩] at r
      refine q_l hQ ?_
      refine (congr (congrArg (fun (x y : Int64) => x - y) f) g).trans ?_
      rw [lZ_sub]
      unfold tM trnZ
      rw [if_neg q, if_neg (by omega)]
    · have r : ¬ iZ z ≤ iZ 0 := r
      rw [iZ_le ⟨by omega, by omega⟩ ⟨by omega, by omega⟩] at r
      refine q_l hQ ?_
      refine (congr (congrArg (fun (x y : Int64) => x + y) f) g).trans ?_
      rw [lZ_add]
      unfold tM trnZ
      rw [if_neg q, if_pos (by omega)]
theorem m_restR {a : Int} (h : WM I J) (ha : -10000000000 ≤ a ∧ a ≤ 10000000000) (x3 : Int32) : ∀ (n : Nat) (z : Int) (x4 : Int32) (x5 : Int64), z + n = 60 → -60 ≤ z → x4 = iZ z → x5 = lZ (tM I J a z) → Q (some (.int (iZ (wlkZ (tM I J a) 1 n z)))) (mm I J A) → wp E (d + 4) 167 19 [(0, .ref 265), (1, .long (lZ a)), (3, .int x3), (4, .int x4), (5, .long x5)] [] (mm I J A) Q := by
  intro n
  induction n with
  | zero =>
    intro z x4 x5 hz hz2 e4 e5 hQ
    subst e4; subst e5
    refine wf (hs := [19]) 40 19 (by decide) ?_
    refine And.intro (fun q => ?_) (fun q => ?_)
    · exact hQ
    · refine wt ?_ hQ
      show iZ 60 ≤ iZ z
      rw [iZ_le ⟨by omega, by omega⟩ ⟨by omega, by omega⟩]; omega
  | succ n ih =>
    intro z x4 x5 hz hz2 e4 e5 hQ
    have tb := (trnB h.1 h.2.1 h.2.2 ha (z := z) ⟨hz2, by omega⟩).2
    subst e4; subst e5
    have key : lg_cmp (lZ (tM I J a z)) 0 ≤ 0 ↔ tM I J a z ≤ 0 := by
      rw [lg_cmp_le]
      exact lZ_le (b := 0) ⟨by unfold tM; omega, by unfold tM; omega⟩ ⟨by omega, by omega⟩
    refine wf (hs := [19]) 40 19 (by decide) ?_
    refine And.intro (fun q => ?_) (fun q => ?_)
    · refine q_i hQ ?_
      have q := key.mp q
      show _ = iZ (if _ then _ else _)
      rw [if_neg (by omega)]
    · have q : ¬ tM I J a z ≤ 0 := fun y => q (key.mpr y)
      refine wF ?_ ?_
      · show ¬ iZ 60 ≤ iZ z
        rw [iZ_le ⟨by omega, by omega⟩ ⟨by omega, by omega⟩]; omega
      · have e : iZ z + 1 = iZ (z + 1) := iZ_add z 1
        refine And.intro rfl ?_
        show wpC E (d + 3) 166 [.ref 265, .long (lZ a), .int (iZ z + 1)] (mm I J A) _
        rw [e]
        refine m_turnBy h ha ⟨by omega, by omega⟩ ?_
        refine wp_pick [2, 3, 4, 1, 0] [5, 4, 0, 1, 3] [0, 1, 3, 4, 5] rfl rfl (by decide) (by decide) ?_
        refine ih (z + 1) _ _ (by omega) (by omega) e rfl ?_
        have : wlkZ (tM I J a) 1 (n + 1) z = wlkZ (tM I J a) 1 n (z + 1) := by
          show (if _ then _ else _) = _
          rw [if_pos ⟨by omega, by omega⟩]
        rw [← this]; exact hQ
theorem m_restL {a : Int} (h : WM I J) (ha : -10000000000 ≤ a ∧ a ≤ 10000000000) (x3 : Int32) : ∀ (n : Nat) (z : Int) (x4 : Int32) (x5 : Int64), z - n = -60 → z ≤ 60 → x4 = iZ z → x5 = lZ (tM I J a z) → Q (some (.int (iZ (wlkZ (tM I J a) (-1) n z)))) (mm I J A) → wp E (d + 4) 167 51 [(0, .ref 265), (1, .long (lZ a)), (3, .int x3), (4, .int x4), (5, .long x5)] [] (mm I J A) Q := by
  intro n
  induction n with
  | zero =>
    intro z x4 x5 hz hz2 e4 e5 hQ
    subst e4; subst e5
    refine wf (hs := [51]) 40 51 (by decide) ?_
    refine And.intro (fun q => ?_) (fun q => ?_)
    · exact hQ
    · refine wt ?_ hQ
      show iZ z ≤ iZ (-60)
      rw [iZ_le ⟨by omega, by omega⟩ ⟨by omega, by omega⟩]; omega
  | succ n ih =>
    intro z x4 x5 hz hz2 e4 e5 hQ
    have tb := (trnB h.1 h.2.1 h.2.2 ha (z := z) ⟨by omega, hz2⟩).2
    subst e4; subst e5
    have key : 0 ≤ lg_cmp (lZ (tM I J a z)) 0 ↔ 0 ≤ tM I J a z := by
      rw [lg_cmp_ge]
      exact lZ_le (a := 0) ⟨by omega, by omega⟩ ⟨by unfold tM; omega, by unfold tM; omega⟩
    refine wf (hs := [51]) 40 51 (by decide) ?_
    refine And.intro (fun q => ?_) (fun q => ?_)
    · refine q_i hQ ?_
      have q := key.mp q
      show _ = iZ (if _ then _ else _)
      rw [if_neg (by omega)]
    · have q : ¬ 0 ≤ tM I J a z := fun y => q (key.mpr y)
      refine wF ?_ ?_
      · show ¬ iZ z ≤ iZ (-60)
        rw [iZ_le ⟨by omega, by omega⟩ ⟨by omega, by omega⟩]; omega
      · have e : iZ z + iZ (-1) = iZ (z + -1) := iZ_add z (-1)
        refine And.intro rfl ?_
        show wpC E (d + 3) 166 [.ref 265, .long (lZ a), .int (iZ z + iZ (-1))] (mm I J A) _
        rw [e]
        refine m_turnBy h ha ⟨by omega, by omega⟩ ?_
        refine wp_pick [2, 3, 4, 1, 0] [5, 4, 0, 1, 3] [0, 1, 3, 4, 5] rfl rfl (by decide) (by decide) ?_
        refine ih (z + -1) _ _ (by omega) (by omega) e rfl ?_
        have : wlkZ (tM I J a) (-1) (n + 1) z = wlkZ (tM I J a) (-1) n (z + -1) := by
          show (if _ then _ else _) = _
          rw [if_pos ⟨by omega, by omega⟩]
        rw [← this]; exact hQ
theorem m_restBy {a z : Int} (h : WM I J) (ha : -10000000000 ≤ a ∧ a ≤ 10000000000) (hz : -60 ≤ z ∧ z ≤ 60) (hQ : Q (some (.int (iZ (rstZ (tM I J a) z)))) (mm I J A)) : wpC E (d + 4) 167 [.ref 265, .long (lZ a), .int (iZ z)] (mm I J A) Q := by
  have tb := (trnB h.1 h.2.1 h.2.2 ha hz).2
  refine wc (hs := [19, 51]) 40 (by decide) ?_
  refine And.intro rfl (m_turnBy h ha hz ?_)
  have key : lg_cmp (lZ (tM I J a z)) 0 ≤ 0 ↔ tM I J a z ≤ 0 := by
    rw [lg_cmp_le]
    exact lZ_le (b := 0) ⟨by unfold tM; omega, by unfold tM; omega⟩ ⟨by omega, by omega⟩
  refine And.intro (fun q => ?_) (fun q => ?_)
  · have q := key.mp q
    refine wp_pick [2, 3, 4, 1, 0] [5, 4, 0, 1, 3] [0, 1, 3, 4, 5] rfl rfl (by decide) (by decide) ?_
    refine m_restL h ha _ (z + 60).toNat z _ _ (by omega) hz.2 rfl rfl ?_
    refine q_i hQ ?_
    unfold rstZ
    rw [if_neg (by omega), wlk_L (z + 60).toNat z 120 (by omega) (by omega)]
  · have q : ¬ tM I J a z ≤ 0 := fun y => q (key.mpr y)
    refine wp_pick [2, 3, 4, 1, 0] [5, 4, 0, 1, 3] [0, 1, 3, 4, 5] rfl rfl (by decide) (by decide) ?_
    refine m_restR h ha _ (60 - z).toNat z _ _ (by omega) hz.1 rfl rfl ?_
    refine q_i hQ ?_
    unfold rstZ
    rw [if_pos (by omega), wlk_R (60 - z).toNat z 120 (by omega) (by omega)]
theorem asdB {v : am_V} (h : Wf v) : -3000000000 ≤ asdZ v ∧ asdZ v ≤ 3000000000 := by
  have hS := h.1
  have hn : nP v ≤ 12 := by
    have := hS.2.2.2.2.2.2.2.2.1
    unfold nP; omega
  have hc : nC v ≤ 6 := by
    have := hS.2.2.2.2.2.2.2.2.2.1
    unfold nC; omega
  have pp : ∀ k, k < nP v → -(159840000) ≤ v 276 k * v 275 k * 10 ∧ v 276 k * v 275 k * 10 ≤ 159840000 := fun k hk => by
    have w := h.2.2.1 k hk
    have cb := (capB w).2.2
    obtain ⟨w0, w1, w2, w3, w4, w5, w6⟩ := w
    have p1 := mula (a := v 275 k) (b := v 276 k) (A := 200) (B := 79920) w5.1 w5.2 w6.1 (by omega) (by omega)
    have p2 : v 275 k * v 276 k = v 276 k * v 275 k := Int.mul_comm _ _
    omega
  have pc : ∀ k, k < nC v → -(19998000) ≤ v 277 k * v 281 k * v 280 k * 10 ∧ v 277 k * v 281 k * v 280 k * 10 ≤ 19998000 := fun k hk => by
    obtain ⟨w1, w2, w3, w4, w5⟩ := h.2.2.2 k hk
    have p1 := mula (a := v 281 k) (b := v 277 k) (A := 1) (B := 9999) w5.1 w5.2 (by omega) w1.2 (by omega)
    have p2 : v 281 k * v 277 k = v 277 k * v 281 k := Int.mul_comm _ _
    have p3 := mula (a := v 277 k * v 281 k) (b := v 280 k) (A := 9999) (B := 200) (by omega) (by omega) w4.1 w4.2 (by omega)
    omega
  have s1 := sm_ge (n := nP v) (f := fun k => v 276 k * v 275 k * 10) (fun k hk => (pp k hk).1)
  have s2 := sm_le (n := nP v) (f := fun k => v 276 k * v 275 k * 10) (fun k hk => (pp k hk).2)
  have s3 := sm_ge (n := nC v) (f := fun k => v 277 k * v 281 k * v 280 k * 10) (fun k hk => (pc k hk).1)
  have s4 := sm_le (n := nC v) (f := fun k => v 277 k * v 281 k * v 280 k * 10) (fun k hk => (pc k hk).2)
  have := hS.2.2.2.2.1
  unfold asdZ
  omega
theorem m_restFrom {z : Int} (h : WM I J) (hz : -60 ≤ z ∧ z ≤ 60) (hQ : Q (some (.int (iZ (rstZ (tM I J (asdZ (vI I))) z)))) (mm I J A)) : wpC E (d + 5) 168 [.ref 265, .int (iZ z)] (mm I J A) Q := by
  have ab := asdB h.1
  refine wc (hs := []) 20 (by decide) ?_
  refine And.intro rfl (m_asideNow h.1 ?_)
  exact And.intro rfl (m_restBy h ⟨by omega, by omega⟩ hz hQ)
theorem m_loll (h : WM I J) (hQ : Q (some (.int (iZ (rstZ (tM I J 0) 1)))) (mm I J A)) : wpC E (d + 5) 169 [.ref 265] (mm I J A) Q := by
  refine wc (hs := []) 20 (by decide) ?_
  exact And.intro rfl (m_restBy (a := 0) (z := 1) h ⟨by omega, by omega⟩ ⟨by omega, by omega⟩ hQ)
end M5
end
section
/-! ===== the reference: stiff, beat, range, over ===== -/
theorem sm_mul {n : Nat} {f g : Nat → Int} {C : Int} (h : ∀ k, k < n → f k ≤ C * g k) : sm n f ≤ C * sm n g := by
  induction n with
  | zero => simp [sm]
  | succ n ih =>
    have h1 := ih (fun k hk => h k (by omega))
    have h2 := h n (by omega)
    show sm n f + f n ≤ C * (sm n g + g n)
    rw [Int.mul_add]
    omega
def stfZ (v : am_V) (mw mu : Int) : Int := (totZ v mw * v 267 1 - upZ v mu * sinZ 5 / 1000 - rnsZ v 5) * 1000 / (totZ v mw * sinZ 5)
theorem sin5 : sinZ 5 = 88 := by decide
theorem upT {v : am_V} {mw mu : Int} (h : Wf v) (hu : mu ≤ 3000 * mw) : upZ v mu ≤ 3000 * totZ v mw := by
  have s1 := sm_mul (n := nC v) (f := fun k => v 277 k * v 278 k) (g := fun k => v 277 k) (C := 3000) (fun k hk => by
    obtain ⟨w1, w2, -⟩ := h.2.2.2 k hk
    show v 277 k * v 278 k ≤ 3000 * v 277 k
    rw [Int.mul_comm 3000]
    exact Int.mul_le_mul_of_nonneg_left w2.2 (by omega))
  have s2 := sm_mul (n := nP v) (f := fun k => v 276 k * (v 270 k + levZ v k / 2)) (g := fun k => v 276 k) (C := 3000) (fun k hk => by
    have w := h.2.2.1 k hk
    have l := levB w
    obtain ⟨w0, w1, w2, w3, w4, w5, w6⟩ := w
    show v 276 k * (v 270 k + levZ v k / 2) ≤ 3000 * v 276 k
    rw [Int.mul_comm 3000]
    exact Int.mul_le_mul_of_nonneg_left (by omega) w6.1)
  have s3 : v 266 2 * v 266 3 ≤ v 266 2 * 3000 := Int.mul_le_mul_of_nonneg_left h.1.2.2.1.2 (by have := h.1.2.1; omega)
  unfold upZ totZ
  omega
theorem rnT {v : am_V} {mw : Int} (h : Wf v) (hw : 0 ≤ mw) : rnsZ v 5 ≤ 2000 * totZ v mw := by
  have s1 := sm_mul (n := nP v) (f := fun k => runZ v k 5) (g := fun k => v 276 k) (C := 2000) (fun k hk => by
    have w := h.2.2.1 k hk
    have b := (blkB w).1
    have cb := (capB w).2.2
    obtain ⟨w0, w1, w2, w3, w4, w5, w6⟩ := w
    have e1 : blkZ v k ≤ 5 * v 272 k * min (v 276 k) (capZ v k - v 276 k) := Int.ediv_le_self _ b.1
    have e2 : 5 * v 272 k * min (v 276 k) (capZ v k - v 276 k) ≤ 5 * v 272 k * v 276 k := Int.mul_le_mul_of_nonneg_left (by omega) (by omega)
    have e3 : 5 * v 272 k * v 276 k ≤ 2000 * v 276 k := Int.mul_le_mul_of_nonneg_right (by omega) w6.1
    show runZ v k 5 ≤ 2000 * v 276 k
    unfold runZ
    omega)
  have s2 := sm_nn (n := nC v) (f := fun k => v 277 k) (fun k hk => by have := (h.2.2.2 k hk).1; omega)
  have := h.1.2.1
  unfold rnsZ totZ
  omega
theorem stfB {v : am_V} {mw mu : Int} (h : Wf v) (hw : 0 ≤ mw ∧ mw ≤ 200000) (hu : 0 ≤ mu ∧ mu ≤ 3000 * mw) : (-100000000000000 ≤ (totZ v mw * v 267 1 - upZ v mu * sinZ 5 / 1000 - rnsZ v 5) * 1000 ∧ (totZ v mw * v 267 1 - upZ v mu * sinZ 5 / 1000 - rnsZ v 5) * 1000 ≤ 100000000000000) ∧ -40000 ≤ stfZ v mw mu ∧ stfZ v mw mu ≤ 40000 := by
  have t := totB h hw
  have u := upB h (mu := mu) ⟨hu.1, by omega⟩
  have u2 := upT h hu.2
  have r := rnsB (z := 5) h (by omega) (by omega)
  have r2 := rnT h hw.1
  have l := h.2.1.2 1 (by omega)
  have a := mulb (show 0 ≤ totZ v mw by omega) t.2 l.1 l.2
  have a2 : totZ v mw * v 267 1 ≤ totZ v mw * 3000 := Int.mul_le_mul_of_nonneg_left l.2 (by omega)
  unfold stfZ
  rw [sin5]
  refine ⟨⟨by omega, by omega⟩, ?_, ?_⟩
  · exact Int.le_ediv_of_mul_le (by omega) (by omega)
  · exact Int.ediv_le_of_le_mul (by omega) (by omega)
def rtF : Nat → Int → Int → Int
  | 0, t, _ => t
  | n + 1, t, m => if (t + 1) * (t + 1) ≤ m then rtF n (t + 1) m else t
def sqI (m : Int) : Int := rtF 9000 0 m
theorem sq_lt {a b : Int} (h0 : 0 ≤ a) (h : a < b) : a * a < b * b := by
  have h1 : a * a ≤ a * b := Int.mul_le_mul_of_nonneg_left (by omega) h0
  have h2 : a * b < b * b := Int.mul_lt_mul_of_pos_right h (by omega)
  omega
theorem sq_uniq {a b m : Int} (ha : 0 ≤ a) (hb : 0 ≤ b) (h1 : a * a ≤ m) (h2 : m < (a + 1) * (a + 1)) (h3 : b * b ≤ m) (h4 : m < (b + 1) * (b + 1)) : a = b := by
  rcases Int.lt_trichotomy a b with z | z | z
  · have : (a + 1) * (a + 1) ≤ b * b := by
      rcases Int.lt_or_eq_of_le (show a + 1 ≤ b by omega) with y | y
      · exact Int.le_of_lt (sq_lt (by omega) y)
      · rw [y]; exact Int.le_refl _
    omega
  · exact z
  · have : (b + 1) * (b + 1) ≤ a * a := by
      rcases Int.lt_or_eq_of_le (show b + 1 ≤ a by omega) with y | y
      · exact Int.le_of_lt (sq_lt (by omega) y)
      · rw [y]; exact Int.le_refl _
    omega
theorem rtF_ok : ∀ (n : Nat) (t m : Int), 0 ≤ t → t * t ≤ m → m < (t + n + 1) * (t + n + 1) → 0 ≤ rtF n t m ∧ rtF n t m * rtF n t m ≤ m ∧ m < (rtF n t m + 1) * (rtF n t m + 1) := by
  intro n
  induction n with
  | zero => intro t m h0 h1 h2; exact ⟨h0, h1, by simpa [rtF] using h2⟩
  | succ n ih =>
    intro t m h0 h1 h2
    unfold rtF
    split
    · rename_i hc
      exact ih (t + 1) m (by omega) hc (by
        have : t + 1 + (n : Int) + 1 = t + ((n + 1 : Nat) : Int) + 1 := by omega
        rw [this]; exact h2)
    · exact ⟨h0, h1, by omega⟩
theorem sqI_ok {m : Int} (h0 : 0 ≤ m) (h1 : m ≤ 80000000) : 0 ≤ sqI m ∧ sqI m * sqI m ≤ m ∧ m < (sqI m + 1) * (sqI m + 1) := rtF_ok 9000 0 m (by omega) (by omega) (by omega)
theorem sqI_eq {m r : Int} (h0 : 0 ≤ m) (h1 : m ≤ 80000000) (hr : 0 ≤ r) (h2 : r * r ≤ m) (h3 : m < (r + 1) * (r + 1)) : sqI m = r := by
  obtain ⟨a, b, c⟩ := sqI_ok h0 h1
  exact sq_uniq a hr b c h2 h3
def btZ (v : am_V) (s : Int) : Int := if s ≤ 0 then -1 else sqI (64 * v 266 1 * v 266 1 / s)
def rngF (t : Int → Int) (rest : Int) : Nat → Int → Int
  | 0, best => best
  | n + 1, best => if rest < n + 1 then (if t (n + 1) < 0 then best else rngF t rest n (if 0 < t (n + 1) then n + 1 else best)) else best
section M6
variable {E : Nat × (Nat → Int32)} {d : Nat} {I : Nat → Nat → Int32} {J : Nat → Nat → Int64} {A : Nat → Option Nat} {Q : Option Value → am_M → Prop} {M : am_M}
/-- the memory's own stiffness -/
def sM (I : Nat → Nat → Int32) (J : Nat → Nat → Int64) : Int := stfZ (vI I) (vI I 265 25) (vJ J 265 26)
theorem m_stiff (h : WM I J) (hQ : Q (some (.int (iZ (sM I J)))) (mm I J A)) : wpC E (d + 3) 170 [.ref 265] (mm I J A) Q := by
  obtain ⟨hW, hw, hu⟩ := h
  have t := totB hW hw
  have u := upB hW (mu := vJ J 265 26) ⟨hu.1, by omega⟩
  have r := rnsB (z := 5) hW (by omega) (by omega)
  have sb := stfB hW hw hu
  have l := hW.2.1.2 1 (by omega)
  have a := mulb (show 0 ≤ totZ (vI I) (vI I 265 25) by omega) t.2 l.1 l.2
  have t5 : totZ (vI I) (vI I 265 25) * sinZ 5 = totZ (vI I) (vI I 265 25) * 88 := by rw [sin5]
  have u5 : upZ (vI I) (vJ J 265 26) * sinZ 5 = upZ (vI I) (vJ J 265 26) * 88 := by rw [sin5]
  refine wc (hs := []) 60 (by decide) ?_
  refine And.intro rfl (m_total hW.1 ?_)
  refine And.intro (inL (by decide)) (And.intro rfl (m_upward hW ?_))
  refine And.intro rfl (m_sineE (z := 5) rfl (by omega) (by omega) ?_)
  refine And.intro (by decide) (And.intro rfl (m_allRuns (z := 5) hW (by omega) (by omega) ?_))
  refine And.intro rfl (m_sineE (z := 5) rfl (by omega) (by omega) ?_)
  refine And.intro rfl ?_
  have s5 := sin5
  have e1 : ((iZ (totZ (vI I) (vI I 265 25))).toInt64 * (I 267 1).toInt64 - lZ (upZ (vI I) (vJ J 265 26)) * (iZ (sinZ 5)).toInt64 / lZ 1000 - lZ (rnsZ (vI I) 5)) * lZ 1000 = lZ ((totZ (vI I) (vI I 265 25) * vI I 267 1 - upZ (vI I) (vJ J 265 26) * sinZ 5 / 1000 - rnsZ (vI I) 5) * 1000) := by
    rw [iZ_l ⟨by omega, by omega⟩, IL, iZ_l ⟨by omega, by omega⟩, lZ_mul, lZ_mul, lZ_div ⟨by omega, by omega⟩ ⟨by omega, by omega⟩, Int.tdiv_eq_ediv_of_nonneg (by omega), lZ_sub, lZ_sub, lZ_mul]
  have e2 : (iZ (totZ (vI I) (vI I 265 25))).toInt64 * (iZ (sinZ 5)).toInt64 = lZ (totZ (vI I) (vI I 265 25) * sinZ 5) := by
    rw [iZ_l ⟨by omega, by omega⟩, iZ_l ⟨by omega, by omega⟩, lZ_mul]
  show wpC E (d + 2) 141 [.long (((iZ (totZ (vI I) (vI I 265 25))).toInt64 * (I 267 1).toInt64 - lZ (upZ (vI I) (vJ J 265 26)) * (iZ (sinZ 5)).toInt64 / lZ 1000 - lZ (rnsZ (vI I) 5)) * lZ 1000), .long ((iZ (totZ (vI I) (vI I 265 25))).toInt64 * (iZ (sinZ 5)).toInt64)] (mm I J A) _
  rw [e1, e2]
  refine m_floor ⟨by omega, by omega⟩ ⟨by omega, by omega⟩ ?_
  refine q_i hQ ?_
  show (lZ _).toInt32 = _
  have : rL (stfZ (vI I) (vI I 265 25) (vJ J 265 26)) := ⟨by omega, by omega⟩
  exact lZ_i this
theorem m_isOver (hW : WfS (vI I)) (h1 : vI I 266 7 = 60 ∨ vI I 266 7 = -60 → Q (some (.int 1)) (mm I J A)) (h0 : ¬ (vI I 266 7 = 60 ∨ vI I 266 7 = -60) → Q (some (.int 0)) (mm I J A)) : wpC E (d + 1) 173 [.ref 265] (mm I J A) Q := by
  have l := hW.2.2.2.2.2.2.1
  refine wc (hs := []) 30 (by decide) ?_
  refine And.intro (inL (by decide)) (And.intro rfl ?_)
  show wpC E d 142 [.int (I 266 7)] (mm I J A) _
  rw [vI_eq I 266 7]
  refine m_without ⟨by omega, by omega⟩ ?_
  refine And.intro (fun q => ?_) (fun q => ?_)
  · have q : iZ ((vI I 266 7).natAbs : Int) = iZ 60 := q
    rw [iZ_eq ⟨by omega, by omega⟩ ⟨by omega, by omega⟩] at q
    exact And.intro rfl (h1 (by omega))
  · have q : ¬ iZ ((vI I 266 7).natAbs : Int) = iZ 60 := q
    rw [iZ_eq ⟨by omega, by omega⟩ ⟨by omega, by omega⟩] at q
    exact And.intro rfl (h0 (by omega))
theorem m_beatL {s most : Int} (hs : 1 ≤ s ∧ s ≤ 40000) (hm : 0 ≤ most ∧ most ≤ 10240000) (hQ : ∀ τ : Int, 0 ≤ τ → τ * τ * s ≤ most → most < (τ + 1) * (τ + 1) * s → Q (some (.int (iZ τ))) (mm I J A)) :
    ∀ (n : Nat) (τ : Int) (x : Int32), 3200 ≤ τ + n → 0 ≤ τ → τ ≤ 3200 → x = iZ τ → τ * τ * s ≤ most → wp E d 171 37 [(0, .ref 265), (1, .long (lZ s)), (3, .long (lZ most)), (5, .int x)] [] (mm I J A) Q := by
  have big : ∀ τ : Int, 0 ≤ τ → (τ + 1) * (τ + 1) * s ≤ most → τ + 1 ≤ 3200 := by
    intro τ h0 h
    rcases Int.lt_or_le 3200 (τ + 1) with z | z
    · have a := sq_lt (a := 3200) (b := τ + 1) (by omega) z
      have b : (τ + 1) * (τ + 1) * 1 ≤ (τ + 1) * (τ + 1) * s := Int.mul_le_mul_of_nonneg_left hs.1 (Int.mul_nonneg (by omega) (by omega))
      omega
    · exact z
  have rng : ∀ τ : Int, 0 ≤ τ → τ ≤ 3200 → rL ((τ + 1) * (τ + 1) * s) := by
    intro τ h0 h1
    have a := mulb (a := τ + 1) (b := τ + 1) (A := 3201) (B := 3201) (by omega) (by omega) (by omega) (by omega)
    have b := mulb a.1 a.2 (show 0 ≤ s by omega) hs.2
    exact ⟨by omega, by omega⟩
  intro n
  induction n with
  | zero =>
    intro τ x hn h0 h1 e hle
    subst e
    refine wf (hs := [37]) 40 37 (by decide) ?_
    refine wt ?_ (hQ τ h0 hle ?_)
    · show 0 < lg_cmp (((iZ τ).toInt64 + lZ 1) * ((iZ τ).toInt64 + lZ 1) * lZ s) (lZ most)
      rw [lg_cmp_gt, iZ_l ⟨by omega, by omega⟩, lZ_add, lZ_mul, lZ_mul, lZ_lt ⟨by omega, by omega⟩ (rng τ h0 h1)]
      rcases Int.lt_or_le most ((τ + 1) * (τ + 1) * s) with z | z
      · exact z
      · have := big τ h0 z; omega
    · rcases Int.lt_or_le most ((τ + 1) * (τ + 1) * s) with z | z
      · exact z
      · have := big τ h0 z; omega
  | succ n ih =>
    intro τ x hn h0 h1 e hle
    subst e
    have key : 0 < lg_cmp (((iZ τ).toInt64 + lZ 1) * ((iZ τ).toInt64 + lZ 1) * lZ s) (lZ most) ↔ most < (τ + 1) * (τ + 1) * s := by
      rw [lg_cmp_gt, iZ_l ⟨by omega, by omega⟩, lZ_add, lZ_mul, lZ_mul, lZ_lt ⟨by omega, by omega⟩ (rng τ h0 h1)]
    refine wf (hs := [37]) 40 37 (by decide) ?_
    refine And.intro (fun q => ?_) (fun q => ?_)
    · exact hQ τ h0 hle (key.mp q)
    · have q : ¬ most < (τ + 1) * (τ + 1) * s := fun y => q (key.mpr y)
      refine wp_pick [1, 2, 3, 0] [5, 0, 1, 3] [0, 1, 3, 5] rfl rfl (by decide) (by decide) ?_
      exact ih (τ + 1) _ (by omega) (by omega) (big τ h0 (by omega)) (iZ_add τ 1) (by omega)
theorem m_beat (h : WM I J) (hQ : Q (some (.int (iZ (btZ (vI I) (sM I J))))) (mm I J A)) : wpC E (d + 4) 171 [.ref 265] (mm I J A) Q := by
  have sb := (stfB h.1 h.2.1 h.2.2).2
  have hb := h.1.1.1
  have m0 := mulb (a := 64 * vI I 266 1) (b := vI I 266 1) (A := 25600) (B := 400) (by omega) (by omega) (by omega) hb.2
  refine wc (hs := [37]) 60 (by decide) ?_
  refine And.intro rfl (m_stiff h ?_)
  have key : 0 < lg_cmp (iZ (sM I J)).toInt64 (lZ 0) ↔ 0 < sM I J := by
    rw [lg_cmp_gt, iZ_l ⟨by unfold sM; omega, by unfold sM; omega⟩]
    exact lZ_lt ⟨by omega, by omega⟩ ⟨by unfold sM; omega, by unfold sM; omega⟩
  refine And.intro (fun q => ?_) (fun q => ?_)
  · have q := key.mp q
    refine And.intro (inL (by decide)) (And.intro (inL (by decide)) ?_)
    refine wp_pick [3, 2, 1, 0] [5, 3, 1, 0] [0, 1, 3, 5] rfl rfl (by decide) (by decide) ?_
    have e1 : (iZ (sM I J)).toInt64 = lZ (sM I J) := iZ_l ⟨by unfold sM; omega, by unfold sM; omega⟩
    have e2 : lZ 64 * (I 266 1).toInt64 * (I 266 1).toInt64 = lZ (64 * vI I 266 1 * vI I 266 1) := by rw [IL, lZ_mul, lZ_mul]
    show wp E (d + 4) 171 37 [(0, .ref 265), (1, .long (iZ (sM I J)).toInt64), (3, .long (lZ 64 * (I 266 1).toInt64 * (I 266 1).toInt64)), (5, .int (iZ 0))] [] (mm I J A) Q
    rw [e1, e2]
    refine m_beatL ⟨by omega, by unfold sM; omega⟩ ⟨m0.1, by omega⟩ (fun τ h0 h1 h2 => ?_) 3200 0 _ (by omega) (by omega) (by omega) rfl (by simpa using m0.1)
    refine q_i hQ ?_
    congr 1
    unfold btZ
    rw [if_neg (by omega)]
    symm
    refine sqI_eq (Int.ediv_nonneg m0.1 (by omega)) (Int.le_trans (Int.ediv_le_self _ m0.1) (by omega)) h0 ?_ ?_
    · exact Int.le_ediv_of_mul_le q h1
    · exact Int.ediv_lt_of_lt_mul q h2
  · have q : ¬ 0 < sM I J := fun y => q (key.mpr y)
    refine q_i hQ ?_
    unfold btZ
    rw [if_pos (by omega)]
    rfl
end M6
end
section
/-! ===== the class: its static helpers ===== -/
section C1
variable {E : Nat × (Nat → Int32)} {d : Nat} {I : Nat → Nat → Int32} {J : Nat → Nat → Int64} {A : Nat → Option Nat} {Q : Option Value → am_M → Prop} {M : am_M}
theorem c_within {x a b : Int32} (h1 : a ≤ x ∧ x ≤ b → Q (some (.int 1)) M) (h0 : ¬ (a ≤ x ∧ x ≤ b) → Q (some (.int 0)) M) : wpC E d 135 [.int x, .int a, .int b] M Q := by
  refine wc (hs := []) 20 (by decide) ?_
  refine And.intro (fun q => ?_) (fun q => ?_)
  · exact And.intro rfl (h0 fun r => absurd q (Int32.not_lt.mpr r.1))
  · refine And.intro (fun r => ?_) (fun r => ?_)
    · exact And.intro rfl (h0 fun y => absurd r (Int32.not_lt.mpr y.2))
    · exact And.intro rfl (h1 ⟨Int32.not_lt.mp q, Int32.not_lt.mp r⟩)
theorem c_down {a b : Int} (ha : -9000000000000000000 ≤ a ∧ a ≤ 9000000000000000000) (hb : 0 < b ∧ b ≤ 9000000000000000000) (hQ : Q (some (.long (lZ (a / b)))) M) : wpC E d 137 [.long (lZ a), .long (lZ b)] M Q := by
  have ra : rL a := ⟨by omega, by omega⟩
  have rb : rL b := ⟨by omega, by omega⟩
  have hne : ¬ lZ b = 0 := by
    intro q
    have := (lZ_eq rb (b := 0) ⟨by omega, by omega⟩).mp q
    omega
  have e : lZ a - lZ a / lZ b * lZ b = lZ (a - a.tdiv b * b) := by rw [lZ_div ra rb, lZ_mul, lZ_sub]
  have hm : rL (a - a.tdiv b * b) := by
    have h1 := Int.tmod_add_mul_tdiv a b
    have h2 : b * a.tdiv b = a.tdiv b * b := Int.mul_comm _ _
    have h3 : (a.tmod b).natAbs ≤ a.natAbs := by rw [Int.natAbs_tmod]; exact Nat.mod_le _ _
    unfold rL
    omega
  refine wc (hs := []) 30 (by decide) ?_
  refine wt ?_ ?_
  · show 0 < lg_cmp (lZ b) (lZ 0)
    rw [lg_cmp_gt, lZ_lt ⟨by omega, by omega⟩ rb]; exact hb.1
  refine And.intro hne ?_
  refine And.intro (fun q => ?_) (fun q => ?_)
  · have q := (lg_cmp_ge _ _).mp q
    have q : lZ 0 ≤ lZ (a - a.tdiv b * b) := by rw [← e]; exact q
    rw [lZ_le ⟨by omega, by omega⟩ hm] at q
    refine And.intro hne ?_
    refine q_l hQ ?_
    show lZ a / lZ b = _
    rw [lZ_div ra rb, ← tdiv_floor hb.1, if_neg (by omega)]
  · have q : ¬ lZ 0 ≤ lZ (a - a.tdiv b * b) := fun y => q ((lg_cmp_ge _ _).mpr (by rw [← e] at y; exact y))
    rw [lZ_le ⟨by omega, by omega⟩ hm] at q
    refine And.intro hne ?_
    refine q_l hQ ?_
    show lZ a / lZ b - lZ 1 = _
    rw [lZ_div ra rb, ← tdiv_floor hb.1, if_pos (by omega), lZ_sub]
theorem c_downE {x y : Int64} {a b : Int} (ex : x = lZ a) (ey : y = lZ b) (ha : -9000000000000000000 ≤ a ∧ a ≤ 9000000000000000000) (hb : 0 < b ∧ b ≤ 9000000000000000000) (hQ : Q (some (.long (lZ (a / b)))) M) : wpC E d 137 [.long x, .long y] M Q := by
  subst ex; subst ey; exact c_down ha hb hQ
/-- the root by its bits: t holds the bits above, the rest is below 2 b -/
theorem c_rootL {n : Int} (hn : 0 ≤ n ∧ n ≤ 60000000) (hQ : Q (some (.int (iZ (sqI n)))) M) : ∀ (k : Nat) (t : Int) (x2 x3 : Int32), k ≤ 13 → 0 ≤ t → t ≤ 8192 - (2 ^ k : Nat) → x2 = iZ t → x3 = iZ ((2 ^ k : Nat) / 2 : Nat) → t * t ≤ n → n < (t + (2 ^ k : Nat)) * (t + (2 ^ k : Nat)) → wp E d 136 6 [(0, .long (lZ n)), (2, .int x2), (3, .int x3)] [] M Q := by
  intro k
  induction k with
  | zero =>
    intro t x2 x3 _ h0 h1 e2 e3 hl hr
    subst e2; subst e3
    refine wf (hs := [6]) 40 6 (by decide) ?_
    refine wt (by decide) ?_
    refine q_i hQ ?_
    rw [sqI_eq hn.1 (by omega) h0 hl (by simpa using hr)]
  | succ k ih =>
    intro t x2 x3 hk h0 h1 e2 e3 hl hr
    have hp : (2 ^ (k + 1) : Nat) = 2 * 2 ^ k := by rw [Nat.pow_succ]; omega
    have hle : 2 ^ k ≤ 2 ^ 12 := Nat.pow_le_pow_right (by omega) (by omega)
    have hpos : 0 < 2 ^ k := Nat.pow_pos (by omega)
    have hx3 : x3 = iZ ((2 ^ k : Nat) : Int) := by rw [e3, hp]; congr 2; omega
    subst e2
    subst hx3
    rw [hp] at hr h1
    generalize hb : (2 ^ k : Nat) = b at *
    have key : 0 < lg_cmp ((iZ t + iZ (b : Int)).toInt64 * (iZ t + iZ (b : Int)).toInt64) (lZ n) ↔ n < (t + b) * (t + b) := by
      have m := mulb (a := t + b) (b := t + b) (A := 8192) (B := 8192) (by omega) (by omega) (by omega) (by omega)
      rw [lg_cmp_gt, iZ_add, iZ_l ⟨by omega, by omega⟩, lZ_mul, lZ_lt ⟨by omega, by omega⟩ ⟨by omega, by omega⟩]
    have hsh : iZ (b : Int) >>> (iZ 1 &&& 31) = iZ ((b / 2 : Nat) : Int) := by
      rw [iZ_nat, iZ_nat]
      exact pk_shrN (n := b) (by omega) _ 1 (by decide)
    refine wf (hs := [6]) 40 6 (by decide) ?_
    refine wF ?_ ?_
    · show ¬ iZ (b : Int) ≤ iZ 0
      rw [iZ_le ⟨by omega, by omega⟩ ⟨by omega, by omega⟩]; omega
    · refine And.intro (fun q => ?_) (fun q => ?_)
      · have q := key.mp q
        refine wp_pick [2, 3, 0] [3, 4, 0, 2] [0, 2, 3] rfl rfl (by decide) (by decide) ?_
        exact ih t _ _ (by omega) h0 (by omega) rfl hsh hl q
      · have q : ¬ n < (t + b) * (t + b) := fun y => q (key.mpr y)
        refine wp_pick [3, 1, 0] [3, 2, 4, 0] [0, 2, 3] rfl rfl (by decide) (by decide) ?_
        refine ih (t + b) _ _ (by omega) (by omega) (by omega) (iZ_add t b) hsh (by omega) ?_
        have : t + (b : Int) + (b : Int) = t + ((2 * b : Nat) : Int) := by omega
        rw [this]; exact hr
theorem c_root {n : Int} (hn : 0 ≤ n ∧ n ≤ 60000000) (hQ : Q (some (.int (iZ (sqI n)))) M) : wpC E d 136 [.long (lZ n)] M Q := by
  refine wc (hs := [6]) 20 (by decide) ?_
  refine wp_pick [2, 1, 0] [3, 2, 0] [0, 2, 3] rfl rfl (by decide) (by decide) ?_
  exact c_rootL hn hQ 13 0 _ _ (by omega) (by omega) (by decide) rfl rfl (by omega) (by
    show n < (0 + ((8192 : Nat) : Int)) * (0 + ((8192 : Nat) : Int))
    omega)
set_option maxRecDepth 10000 in
theorem sinT : (List.range 91).all (fun j => decide (am_sin j = iZ (sinZ j))) = true := by decide +kernel
theorem sin_at {j : Nat} (h : j ≤ 90) : am_sin j = iZ (sinZ j) := of_decide_eq_true (List.all_eq_true.mp sinT j (List.mem_range.mpr (by omega)))
end C1
end
section
/-! ===== the class: a balance that was taken, and what it answers ===== -/
def BS (β b : Nat) : Prop := (β = 236 ∧ b = 1) ∨ (β = 247 ∧ b = 1) ∨ (β = 256 ∧ b = 1) ∨ (β = 241 ∧ b = 1) ∨ (β = 241 ∧ b = 35) ∨ (β = 241 ∧ b = 68) ∨ (β = 241 ∧ b = 101) ∨ (β = 241 ∧ b = 134)
def RB (I : Nat → Nat → Int32) (J : Nat → Nat → Int64) (A : Nat → Option Nat) (β b : Nat) (v : am_V) (mw mu mom : Int) : Prop :=
  A β = some (b + 1) ∧ I β 1 = iZ (v 266 1) ∧ J β 2 = lZ (totZ v mw) ∧ J β 3 = lZ (upZ v mu) ∧ J β 4 = lZ mom
  ∧ (∃ l : Nat, l ≤ 12 ∧ I β 5 = nI l ∧ (∀ i, i < l → (0 ≤ vJ J (β + 2) i ∧ vJ J (β + 2) i ≤ 128000000000) ∧ (0 ≤ vJ J (β + 3) i ∧ vJ J (β + 3) i ≤ 159840000)) ∧ ∀ z : Int, 0 ≤ z → z ≤ 90 → sm l (fun i => min (vJ J (β + 2) i * sinZ z / 1000) (vJ J (β + 3) i)) = rnsZ v z)
  ∧ ∀ n : Nat, n ≤ 60 → I (b + 1) n = iZ (armZ v n)
/-- weights more than told: in their bounds -/
def WW (mw mu : Int) : Prop := (0 ≤ mw ∧ mw ≤ 200000) ∧ (0 ≤ mu ∧ mu ≤ 3000 * mw)
theorem absZ {z : Int} (h : -2147483647 ≤ z ∧ z ≤ 2147483647) : (if 0 ≤ iZ z then iZ z else 0 - iZ z) = iZ z.natAbs := by
  have k : (0 : Int32) ≤ iZ z ↔ 0 ≤ z := iZ_le (a := 0) ⟨by omega, by omega⟩ ⟨by omega, by omega⟩
  split
  · rename_i q; have q := k.mp q; congr 1; omega
  · rename_i q
    have q : ¬ 0 ≤ z := fun y => q (k.mpr y)
    show iZ 0 - iZ z = _
    rw [iZ_sub]; congr 1; omega
section C2
variable {E : Nat × (Nat → Int32)} {d : Nat} {I : Nat → Nat → Int32} {J : Nat → Nat → Int64} {A : Nat → Option Nat} {Q : Option Value → am_M → Prop} {M : am_M} {β b : Nat} {v : am_V} {mw mu mom : Int}
set_option maxHeartbeats 4000000 in
theorem c_upsetting {n : Nat} {x : Int32} (hb : BS β b) (h : RB I J A β b v mw mu mom) (hW : Wf v) (hm : WW mw mu) (hn : n ≤ 60) (ex : x = iZ n) (hQ : Q (some (.long (lZ (upsZ v mw mu n)))) (mm I J A)) : wpC E (d + 1) 3 [.ref β, .int x] (mm I J A) Q := by
  obtain ⟨hA, h1, h2, h3, h4, ⟨l, hl, h5, h6, h7⟩, h8⟩ := h
  subst ex
  have hc : (iZ (n : Int)).toNatClampNeg = n := by rw [iZ_nat]; exact nIc (by omega)
  have hin : vp_in (iZ (n : Int)) 61 := iZ_in (by omega) (by omega) (by omega)
  have hin2 : vp_in (iZ (n : Int)) 91 := iZ_in (by omega) (by omega) (by omega)
  have sr := sinR (z := (n : Int)) (by omega) (by omega)
  have ub := upB hW (mu := mu) ⟨hm.2.1, by have := hm.1; have := hm.2; omega⟩
  have ue := mulb ub.1 ub.2 sr.1 sr.2
  have tt := totB hW hm.1
  have ar := armB (v := v) (n := n) hW.2.1 hn
  have es : (am_sin (iZ (n : Int)).toNatClampNeg).toInt64 = lZ (sinZ n) := by rw [hc, sin_at (by omega), iZ_l ⟨by omega, by omega⟩]
  have e1 : J β 3 * (am_sin (iZ (n : Int)).toNatClampNeg).toInt64 / lZ 1000 - J β 2 * (I (b + 1) (iZ (n : Int)).toNatClampNeg).toInt64 = lZ (upZ v mu * sinZ n / 1000 - totZ v mw * armZ v n) := by
    rw [es, hc, h8 n hn, h3, h2, iZ_l ⟨by omega, by omega⟩, lZ_mul, lZ_mul, lZ_div ⟨by omega, by omega⟩ ⟨by omega, by omega⟩, Int.tdiv_eq_ediv_of_nonneg ue.1, lZ_sub]
  have fin : lZ (upZ v mu * sinZ n / 1000 - totZ v mw * armZ v n + sm l (fun i => min (vJ J (β + 2) i * sinZ n / 1000) (vJ J (β + 3) i))) = lZ (upsZ v mw mu n) := by
    rw [h7 n (by omega) (by omega)]
    congr 1
    unfold upsZ
    omega
  have step : ∀ (i : Nat) (x4 : Int64), i < l → x4 = lZ (upZ v mu * sinZ n / 1000 - totZ v mw * armZ v n + sm i (fun i => min (vJ J (β + 2) i * sinZ n / 1000) (vJ J (β + 3) i))) → x4 + (if J (β + 3) (nI i).toNatClampNeg < J (β + 2) (nI i).toNatClampNeg * (am_sin (iZ (n : Int)).toNatClampNeg).toInt64 / lZ 1000 then J (β + 3) (nI i).toNatClampNeg else J (β + 2) (nI i).toNatClampNeg * (am_sin (iZ (n : Int)).toNatClampNeg).toInt64 / lZ 1000) = lZ (upZ v mu * sinZ n / 1000 - totZ v mw * armZ v n + sm (i + 1) (fun i => min (vJ J (β + 2) i * sinZ n / 1000) (vJ J (β + 3) i))) := by
    intro i x4 hi e4
    obtain ⟨k1, k2⟩ := h6 i hi
    have m := mulb k1.1 k1.2 sr.1 sr.2
    have f1 : J (β + 2) (nI i).toNatClampNeg * (am_sin (iZ (n : Int)).toNatClampNeg).toInt64 / lZ 1000 = lZ (vJ J (β + 2) i * sinZ n / 1000) := by
      rw [es, nIc (by omega), vJ_eq J, lZ_mul, lZ_div ⟨by omega, by omega⟩ ⟨by omega, by omega⟩, Int.tdiv_eq_ediv_of_nonneg m.1]
    have m2 := Int.ediv_nonneg (a := vJ J (β + 2) i * sinZ n) (b := 1000) m.1 (by omega)
    rw [f1, nIc (by omega), vJ_eq J (β + 3) i, e4]
    have f2 : (if lZ (vJ J (β + 3) i) < lZ (vJ J (β + 2) i * sinZ n / 1000) then lZ (vJ J (β + 3) i) else lZ (vJ J (β + 2) i * sinZ n / 1000)) = lZ (min (vJ J (β + 2) i * sinZ n / 1000) (vJ J (β + 3) i)) := by
      have kk : lZ (vJ J (β + 3) i) < lZ (vJ J (β + 2) i * sinZ n / 1000) ↔ vJ J (β + 3) i < vJ J (β + 2) i * sinZ n / 1000 := lZ_lt ⟨by omega, by omega⟩ ⟨by omega, by omega⟩
      split
      · rename_i q; have q := kk.mp q; congr 1; omega
      · rename_i q; have q : ¬ vJ J (β + 3) i < vJ J (β + 2) i * sinZ n / 1000 := fun y => q (kk.mpr y)
        congr 1; omega
    rw [f2, lZ_add]
    congr 1
    show _ = _ + (sm i (fun i => min (vJ J (β + 2) i * sinZ n / 1000) (vJ J (β + 3) i)) + min (vJ J (β + 2) i * sinZ n / 1000) (vJ J (β + 3) i))
    omega
  generalize (fun i => min (vJ J (β + 2) i * sinZ (n : Int) / 1000) (vJ J (β + 3) i)) = g at fin step
  rcases hb with ⟨rfl, rfl⟩ | ⟨rfl, rfl⟩ | ⟨rfl, rfl⟩ | ⟨rfl, rfl⟩ | ⟨rfl, rfl⟩ | ⟨rfl, rfl⟩ | ⟨rfl, rfl⟩ | ⟨rfl, rfl⟩
  all_goals (
    refine wc (hs := [35]) 60 (by decide) ?_
    refine And.intro hin2 (And.intro (by decide) (And.intro rfl ⟨_, hA, And.intro hin ?_⟩))
    refine wp_pick [3, 4, 2, 1, 0] [6, 4, 2, 0, 1] [0, 1, 2, 4, 6] rfl rfl (by decide) (by decide) ?_
    refine lpU (σ := Int64 × Int32) (fun _ s => wp E (d + 1) 3 35 [(0, .ref _), (1, .int (iZ (n : Int))), (2, .long (am_sin (iZ (n : Int)).toNatClampNeg).toInt64), (4, .long s.1), (6, .int s.2)] [] (mm I J A) Q) (fun i s => s.1 = lZ (upZ v mu * sinZ n / 1000 - totZ v mw * armZ v n + sm i g) ∧ s.2 = nI i) l ?_ ?_ 0 (_, 0) (by omega) ⟨e1.trans (by congr 1; exact (Int.add_zero _).symm), rfl⟩
    · rintro ⟨x1, x2⟩ ⟨g1, g2⟩
      dsimp only at g1 g2
      subst g2
      refine wf (hs := [35]) 60 35 (by decide) ?_
      refine wt ?_ ?_
      · show I _ 5 ≤ nI l
        rw [h5]; exact Int32.le_refl _
      · exact q_l hQ (g1.trans fin)
    · rintro i ⟨x1, x2⟩ hi ⟨g1, g2⟩ ih
      dsimp only at g1 g2
      subst g2
      have hi12 : vp_in (nI i) 12 := vp_in_nI (by omega) (by omega)
      refine wf (hs := [35]) 60 35 (by decide) ?_
      refine wF ?_ ?_
      · show ¬ I _ 5 ≤ nI i
        rw [h5]; exact nI_ge hi (by omega)
      · refine And.intro hi12 (And.intro (by decide) (And.intro hi12 ?_))
        refine wp_pick [2, 3, 4, 1, 0] [6, 4, 0, 1, 2] [0, 1, 2, 4, 6] rfl rfl (by decide) (by decide) ?_
        exact ih (_, nI i + 1) ⟨step i x1 hi g1, nI_1 i⟩)
end C2
end
section
/-! ===== whole numbers behind the machine's: rows for simp ===== -/
theorem z_i8 {n : Int} (h1 : -128 ≤ n) (h2 : n ≤ 127) : (Int8.ofInt n).toInt32 = iZ n := by
  rw [← Int32.toInt_inj, Int8.toInt_toInt32, Int8.toInt_ofInt_of_le (by omega) (by omega), iZ_toInt ⟨by omega, by omega⟩]
theorem z_i16 {n : Int} (h1 : -32768 ≤ n) (h2 : n ≤ 32767) : (Int16.ofInt n).toInt32 = iZ n := by
  rw [← Int32.toInt_inj, Int16.toInt_toInt32, Int16.toInt_ofInt_of_le (by omega) (by omega), iZ_toInt ⟨by omega, by omega⟩]
theorem z_of (n : Int) : Int32.ofInt n = iZ n := rfl
theorem z_ofN (n : Nat) : Int32.ofNat n = iZ n := (iZ_nat n).symm
theorem z_nat (n : Nat) : nI n = iZ n := (iZ_nat n).symm
theorem z_lofN (n : Nat) : Int64.ofNat n = lZ n := Int64.ofInt_eq_ofNat.symm
theorem z_0 : (0 : Int32) = iZ 0 := rfl
theorem z_1 : (1 : Int32) = iZ 1 := rfl
theorem z_m1 : (-1 : Int32) = iZ (-1) := rfl
theorem z_l0 : (0 : Int64) = lZ 0 := rfl
theorem z_l1 : (1 : Int64) = lZ 1 := rfl
theorem z_div {a b : Int} (h1 : 0 ≤ a) (h2 : a ≤ 2147483647) (h3 : -2147483648 ≤ b) (h4 : b ≤ 2147483647) : iZ a / iZ b = iZ (a / b) := by
  rw [iZ_div ⟨by omega, h2⟩ ⟨h3, h4⟩, Int.tdiv_eq_ediv_of_nonneg h1]
theorem z_ldiv {a b : Int} (h1 : 0 ≤ a) (h2 : a ≤ 9223372036854775807) (h3 : -9223372036854775808 ≤ b) (h4 : b ≤ 9223372036854775807) : lZ a / lZ b = lZ (a / b) := by
  rw [lZ_div ⟨by omega, h2⟩ ⟨h3, h4⟩, Int.tdiv_eq_ediv_of_nonneg h1]
theorem z_l {a : Int} (h1 : -2147483648 ≤ a) (h2 : a ≤ 2147483647) : (iZ a).toInt64 = lZ a := iZ_l ⟨h1, h2⟩
theorem z_i {a : Int} (h1 : -9223372036854775808 ≤ a) (h2 : a ≤ 9223372036854775807) : (lZ a).toInt32 = iZ a := lZ_i ⟨h1, h2⟩
theorem z_lt {a b : Int} (h1 : -2147483648 ≤ a) (h2 : a ≤ 2147483647) (h3 : -2147483648 ≤ b) (h4 : b ≤ 2147483647) : iZ a < iZ b ↔ a < b := iZ_lt ⟨h1, h2⟩ ⟨h3, h4⟩
theorem z_le {a b : Int} (h1 : -2147483648 ≤ a) (h2 : a ≤ 2147483647) (h3 : -2147483648 ≤ b) (h4 : b ≤ 2147483647) : iZ a ≤ iZ b ↔ a ≤ b := iZ_le ⟨h1, h2⟩ ⟨h3, h4⟩
theorem z_eq {a b : Int} (h1 : -2147483648 ≤ a) (h2 : a ≤ 2147483647) (h3 : -2147483648 ≤ b) (h4 : b ≤ 2147483647) : iZ a = iZ b ↔ a = b := iZ_eq ⟨h1, h2⟩ ⟨h3, h4⟩
theorem z_llt {a b : Int} (h1 : -9223372036854775808 ≤ a) (h2 : a ≤ 9223372036854775807) (h3 : -9223372036854775808 ≤ b) (h4 : b ≤ 9223372036854775807) : lZ a < lZ b ↔ a < b := lZ_lt ⟨h1, h2⟩ ⟨h3, h4⟩
theorem z_lle {a b : Int} (h1 : -9223372036854775808 ≤ a) (h2 : a ≤ 9223372036854775807) (h3 : -9223372036854775808 ≤ b) (h4 : b ≤ 9223372036854775807) : lZ a ≤ lZ b ↔ a ≤ b := lZ_le ⟨h1, h2⟩ ⟨h3, h4⟩
theorem z_leq {a b : Int} (h1 : -9223372036854775808 ≤ a) (h2 : a ≤ 9223372036854775807) (h3 : -9223372036854775808 ≤ b) (h4 : b ≤ 9223372036854775807) : lZ a = lZ b ↔ a = b := lZ_eq ⟨h1, h2⟩ ⟨h3, h4⟩
theorem z_cgt {a b : Int} (h1 : -9223372036854775808 ≤ a) (h2 : a ≤ 9223372036854775807) (h3 : -9223372036854775808 ≤ b) (h4 : b ≤ 9223372036854775807) : iZ 0 < lg_cmp (lZ a) (lZ b) ↔ b < a := by
  show 0 < lg_cmp _ _ ↔ _
  rw [lg_cmp_gt, lZ_lt ⟨h3, h4⟩ ⟨h1, h2⟩]
theorem z_cge {a b : Int} (h1 : -9223372036854775808 ≤ a) (h2 : a ≤ 9223372036854775807) (h3 : -9223372036854775808 ≤ b) (h4 : b ≤ 9223372036854775807) : iZ 0 ≤ lg_cmp (lZ a) (lZ b) ↔ b ≤ a := by
  show 0 ≤ lg_cmp _ _ ↔ _
  rw [lg_cmp_ge, lZ_le ⟨h3, h4⟩ ⟨h1, h2⟩]
theorem z_clt {a b : Int} (h1 : -9223372036854775808 ≤ a) (h2 : a ≤ 9223372036854775807) (h3 : -9223372036854775808 ≤ b) (h4 : b ≤ 9223372036854775807) : lg_cmp (lZ a) (lZ b) < iZ 0 ↔ a < b := by
  show lg_cmp _ _ < 0 ↔ _
  rw [lg_cmp_lt, lZ_lt ⟨h1, h2⟩ ⟨h3, h4⟩]
theorem z_cle {a b : Int} (h1 : -9223372036854775808 ≤ a) (h2 : a ≤ 9223372036854775807) (h3 : -9223372036854775808 ≤ b) (h4 : b ≤ 9223372036854775807) : lg_cmp (lZ a) (lZ b) ≤ iZ 0 ↔ a ≤ b := by
  show lg_cmp _ _ ≤ 0 ↔ _
  rw [lg_cmp_le, lZ_le ⟨h1, h2⟩ ⟨h3, h4⟩]
theorem z_ceq {a b : Int} (h1 : -9223372036854775808 ≤ a) (h2 : a ≤ 9223372036854775807) (h3 : -9223372036854775808 ≤ b) (h4 : b ≤ 9223372036854775807) : lg_cmp (lZ a) (lZ b) = iZ 0 ↔ a = b := by
  show lg_cmp _ _ = 0 ↔ _
  rw [lg_cmp_eq, lZ_eq ⟨h1, h2⟩ ⟨h3, h4⟩]
theorem z_cl {a : Int} (h1 : 0 ≤ a) (h2 : a ≤ 2147483647) : (iZ a).toNatClampNeg = a.toNat := iZ_cl h1 h2
theorem z_cln {k : Nat} (h2 : k < 2147483648) : (iZ (k : Int)).toNatClampNeg = k := by rw [iZ_nat]; exact nIc h2
section ZM
variable {I : Nat → Nat → Int32} {J : Nat → Nat → Int64} {A : Nat → Option Nat}
theorem mm_I : (mm I J A).2.1 = I := rfl
theorem mm_J : (mm I J A).2.2.1 = J := rfl
end ZM
theorem z_in {z : Int} {n : Nat} (h1 : 0 ≤ z) (h2 : z < n) (h3 : n ≤ 2147483648) : vp_in (iZ z) n := by
  rw [vp_in_iff, iZ_toInt ⟨by omega, by omega⟩]
  exact ⟨h1, h2⟩
theorem z_abs {z : Int} : (if 0 ≤ z then iZ z else iZ (0 - z)) = iZ z.natAbs := by
  split
  · congr 1; omega
  · congr 1; omega
theorem z_max {a b : Int} : (if a < b then iZ b else iZ a) = iZ (max a b) := by
  split
  · congr 1; omega
  · congr 1; omega
theorem z_min {a b : Int} : (if b < a then iZ b else iZ a) = iZ (min a b) := by
  split
  · congr 1; omega
  · congr 1; omega
theorem z_lmax {a b : Int} : (if b < a then lZ a else lZ b) = lZ (max a b) := by
  split
  · congr 1; omega
  · congr 1; omega
theorem z_lmin {a b : Int} : (if b < a then lZ b else lZ a) = lZ (min a b) := by
  split
  · congr 1; omega
  · congr 1; omega
theorem z_sin {z : Int} (h1 : 0 ≤ z) (h2 : z ≤ 90) : am_sin z.toNat = iZ (sinZ z) := by
  rw [sin_at (by omega)]; congr 2; omega
theorem z_sinN {n : Nat} (h2 : n ≤ 90) : am_sin n = iZ (sinZ n) := sin_at h2
def ndb : List Nat → Bool
  | [] => true
  | a :: l => !(l.any (Nat.beq a)) && ndb l
theorem ndb_ok : ∀ {l : List Nat}, ndb l = true → l.Nodup := by
  intro l
  induction l with
  | nil => intro _; exact List.nodup_nil
  | cons a l ih =>
    intro h
    unfold ndb at h
    rw [Bool.and_eq_true] at h
    refine List.nodup_cons.mpr ⟨fun q => ?_, ih h.2⟩
    have : l.any (Nat.beq a) = true := List.any_eq_true.mpr ⟨a, q, Nat.beq_refl a⟩
    rw [this] at h
    cases h.1
/-- the locals by their keys -/
def lv_keys (lo : am_Lo) (ks : List Nat) : am_Lo := ks.filterMap (fun i => lo.find? (fun q => Nat.beq q.1 i))
theorem wp_keys {E : Nat × (Nat → Int32)} {d k pc : Nat} {lo : am_Lo} {st : List Value} {M : am_M} {Q : Option Value → am_M → Prop} (ks : List Nat) (h1 : ndb (lo.map (fun q => q.1)) = true) (h2 : ndb ((lv_keys lo ks).map (fun q => q.1)) = true) (h : wp E d k pc (lv_keys lo ks) st M Q) : wp E d k pc lo st M Q := by
  obtain ⟨n, r, M', h3, h4⟩ := h
  refine ⟨n, r, M', am_run_sub _ _ _ _ _ _ _ _ _ (ndb_ok h1) (ndb_ok h2) (fun q hq => ?_) h3, h4⟩
  obtain ⟨i, -, hi⟩ := List.mem_filterMap.mp hq
  exact List.mem_of_find?_eq_some hi
end
section
/-! ===== the class: turning and what is asked of it ===== -/
def B4 (β : Nat) : Prop := β = 236 ∨ β = 241 ∨ β = 247 ∨ β = 256
theorem BS_B4 {β b : Nat} (h : BS β b) : B4 β := by
  unfold B4
  unfold BS at h
  omega
section C3
variable {E : Nat × (Nat → Int32)} {d : Nat} {I : Nat → Nat → Int32} {J : Nat → Nat → Int64} {A : Nat → Option Nat} {Q : Option Value → am_M → Prop} {M : am_M} {β b : Nat} {v : am_V} {mw mu mom : Int}
set_option maxHeartbeats 4000000 in
theorem c_turning {z : Int} {x : Int32} (hb : BS β b) (h : RB I J A β b v mw mu mom) (hW : Wf v) (hm : WW mw mu) (ha : -10000000000 ≤ mom ∧ mom ≤ 10000000000) (hz : -60 ≤ z ∧ z ≤ 60) (ex : x = iZ z) (hQ : Q (some (.long (lZ (trnZ v mw mu mom z)))) (mm I J A)) : wpC E (d + 2) 4 [.ref β, .int x] (mm I J A) Q := by
  subst ex
  have tb := trnB hW hm.1 hm.2 ha hz
  have ub := upsB hW hm.1 hm.2 (n := z.natAbs) (by omega)
  have hM : J β 4 = lZ mom := h.2.2.2.2.1
  have sr := sinR (z := 90 - (z.natAbs : Int)) (by omega) (by omega)
  have ef : lZ (mom * sinZ (90 - z.natAbs)) / lZ 1000 = lZ ((mom * sinZ (90 - z.natAbs)).tdiv 1000) := by
    rw [lZ_div ⟨by omega, by omega⟩ ⟨by omega, by omega⟩]
  have q4 := BS_B4 hb
  rcases q4 with rfl | rfl | rfl | rfl
  all_goals (
    refine wc (hs := []) 60 (by decide) ?_
    refine And.intro ?_ (And.intro (by decide) ?_)
    · simp (disch := omega) only [z_i8, z_i16, z_of, z_ofN, z_lofN, z_0, z_1, z_m1, z_l0, z_l1, iZ_add, iZ_sub, iZ_mul, iZ_neg, lZ_add, lZ_sub, lZ_mul, lZ_neg, z_div, z_ldiv, z_l, z_i, z_lt, z_le, z_eq, z_llt, z_lle, z_leq, z_cgt, z_cge, z_clt, z_cle, z_ceq, z_cl, z_nat, Int.toNat_natCast, mm_I, mm_J, z_cln, z_abs, z_max, z_min, z_lmax, z_lmin, z_sin, Int.cast_ofNat_Int]
      exact z_in (by omega) (by omega) (by omega)
    · refine And.intro (fun q => ?_) (fun q => ?_)
      · refine q_l hQ ?_
        simp (disch := omega) only [z_i8, z_i16, z_of, z_ofN, z_lofN, z_0, z_1, z_m1, z_l0, z_l1, iZ_add, iZ_sub, iZ_mul, iZ_neg, lZ_add, lZ_sub, lZ_mul, lZ_neg, z_div, z_ldiv, z_l, z_i, z_lt, z_le, z_eq, z_llt, z_lle, z_leq, z_cgt, z_cge, z_clt, z_cle, z_ceq, z_cl, z_nat, Int.toNat_natCast, mm_I, mm_J, z_cln, z_abs, z_max, z_min, z_lmax, z_lmin, z_sin, Int.cast_ofNat_Int, hM, ef]
        simp (disch := omega) only [z_i8, z_i16, z_of, z_ofN, z_lofN, z_0, z_1, z_m1, z_l0, z_l1, iZ_add, iZ_sub, iZ_mul, iZ_neg, lZ_add, lZ_sub, lZ_mul, lZ_neg, z_div, z_ldiv, z_l, z_i, z_lt, z_le, z_eq, z_llt, z_lle, z_leq, z_cgt, z_cge, z_clt, z_cle, z_ceq, z_cl, z_nat, Int.toNat_natCast, mm_I, mm_J, z_cln, z_abs, z_max, z_min, z_lmax, z_lmin, z_sin, Int.cast_ofNat_Int] at q
        unfold trnZ
        rw [if_pos q]
      · simp (disch := omega) only [z_i8, z_i16, z_of, z_ofN, z_lofN, z_0, z_1, z_m1, z_l0, z_l1, iZ_add, iZ_sub, iZ_mul, iZ_neg, lZ_add, lZ_sub, lZ_mul, lZ_neg, z_div, z_ldiv, z_l, z_i, z_lt, z_le, z_eq, z_llt, z_lle, z_leq, z_cgt, z_cge, z_clt, z_cle, z_ceq, z_cl, z_nat, Int.toNat_natCast, mm_I, mm_J, z_cln, z_abs, z_max, z_min, z_lmax, z_lmin, z_sin, Int.cast_ofNat_Int] at q
        refine And.intro (fun r => ?_) (fun r => ?_)
        · simp (disch := omega) only [z_i8, z_i16, z_of, z_ofN, z_lofN, z_0, z_1, z_m1, z_l0, z_l1, iZ_add, iZ_sub, iZ_mul, iZ_neg, lZ_add, lZ_sub, lZ_mul, lZ_neg, z_div, z_ldiv, z_l, z_i, z_lt, z_le, z_eq, z_llt, z_lle, z_leq, z_cgt, z_cge, z_clt, z_cle, z_ceq, z_cl, z_nat, Int.toNat_natCast, mm_I, mm_J, z_cln, z_abs, z_max, z_min, z_lmax, z_lmin, z_sin, Int.cast_ofNat_Int] at r
          refine And.intro rfl (c_upsetting hb h hW hm (n := z.natAbs) (by omega) ?_ ?_)
          · simp (disch := omega) only [z_i8, z_i16, z_of, z_ofN, z_lofN, z_0, z_1, z_m1, z_l0, z_l1, iZ_add, iZ_sub, iZ_mul, iZ_neg, lZ_add, lZ_sub, lZ_mul, lZ_neg, z_div, z_ldiv, z_l, z_i, z_lt, z_le, z_eq, z_llt, z_lle, z_leq, z_cgt, z_cge, z_clt, z_cle, z_ceq, z_cl, z_nat, Int.toNat_natCast, mm_I, mm_J, z_cln, z_abs, z_max, z_min, z_lmax, z_lmin, z_sin, Int.cast_ofNat_Int]
          · refine q_l hQ ?_
            simp (disch := omega) only [z_i8, z_i16, z_of, z_ofN, z_lofN, z_0, z_1, z_m1, z_l0, z_l1, iZ_add, iZ_sub, iZ_mul, iZ_neg, lZ_add, lZ_sub, lZ_mul, lZ_neg, z_div, z_ldiv, z_l, z_i, z_lt, z_le, z_eq, z_llt, z_lle, z_leq, z_cgt, z_cge, z_clt, z_cle, z_ceq, z_cl, z_nat, Int.toNat_natCast, mm_I, mm_J, z_cln, z_abs, z_max, z_min, z_lmax, z_lmin, z_sin, Int.cast_ofNat_Int, hM, ef]
            unfold trnZ
            rw [if_neg q, if_neg (by omega)]
        · simp (disch := omega) only [z_i8, z_i16, z_of, z_ofN, z_lofN, z_0, z_1, z_m1, z_l0, z_l1, iZ_add, iZ_sub, iZ_mul, iZ_neg, lZ_add, lZ_sub, lZ_mul, lZ_neg, z_div, z_ldiv, z_l, z_i, z_lt, z_le, z_eq, z_llt, z_lle, z_leq, z_cgt, z_cge, z_clt, z_cle, z_ceq, z_cl, z_nat, Int.toNat_natCast, mm_I, mm_J, z_cln, z_abs, z_max, z_min, z_lmax, z_lmin, z_sin, Int.cast_ofNat_Int] at r
          refine And.intro rfl (c_upsetting hb h hW hm (n := z.natAbs) (by omega) ?_ ?_)
          · simp (disch := omega) only [z_i8, z_i16, z_of, z_ofN, z_lofN, z_0, z_1, z_m1, z_l0, z_l1, iZ_add, iZ_sub, iZ_mul, iZ_neg, lZ_add, lZ_sub, lZ_mul, lZ_neg, z_div, z_ldiv, z_l, z_i, z_lt, z_le, z_eq, z_llt, z_lle, z_leq, z_cgt, z_cge, z_clt, z_cle, z_ceq, z_cl, z_nat, Int.toNat_natCast, mm_I, mm_J, z_cln, z_abs, z_max, z_min, z_lmax, z_lmin, z_sin, Int.cast_ofNat_Int]
          · refine q_l hQ ?_
            simp (disch := omega) only [z_i8, z_i16, z_of, z_ofN, z_lofN, z_0, z_1, z_m1, z_l0, z_l1, iZ_add, iZ_sub, iZ_mul, iZ_neg, lZ_add, lZ_sub, lZ_mul, lZ_neg, z_div, z_ldiv, z_l, z_i, z_lt, z_le, z_eq, z_llt, z_lle, z_leq, z_cgt, z_cge, z_clt, z_cle, z_ceq, z_cl, z_nat, Int.toNat_natCast, mm_I, mm_J, z_cln, z_abs, z_max, z_min, z_lmax, z_lmin, z_sin, Int.cast_ofNat_Int, hM, ef]
            unfold trnZ
            rw [if_neg q, if_pos (by omega)])
/-- the walk of so many degrees at most -/
def wkN (t : Int → Int) (n : Nat) (z : Int) : Int := if 0 < t z then wlkZ t 1 n z else wlkZ t (-1) n z
set_option maxHeartbeats 4000000 in
theorem c_restL {way : Int} {N : Nat} {x1 : Int32} (hb : BS β b) (h : RB I J A β b v mw mu mom) (hW : Wf v) (hm : WW mw mu) (ha : -10000000000 ≤ mom ∧ mom ≤ 10000000000) (hw : way = 1 ∨ way = -1) (hN : N ≤ 200) : ∀ (n i : Nat) (z : Int) (x3 : Int64) (x6 x7 : Int32), i + n = N → -60 ≤ z ∧ z ≤ 60 → x3 = lZ (trnZ v mw mu mom z) → x6 = iZ z → x7 = iZ i → Q (some (.int (iZ (wlkZ (trnZ v mw mu mom) way n z)))) (mm I J A) → wp E (d + 3) 5 25 [(0, .ref β), (1, .int x1), (2, .int (iZ N)), (3, .long x3), (5, .int (iZ way)), (6, .int x6), (7, .int x7)] [] (mm I J A) Q := by
  have tb : ∀ z : Int, -60 ≤ z ∧ z ≤ 60 → _ := fun z hz => (trnB hW hm.1 hm.2 ha hz).2
  have hw2 : -1 ≤ way ∧ way ≤ 1 := by omega
  have tw : ∀ z : Int, -60 ≤ z ∧ z ≤ 60 → -30000000000000 ≤ trnZ v mw mu mom z * way ∧ trnZ v mw mu mom z * way ≤ 30000000000000 := fun z hz => by
    have := tb z hz
    rcases hw with rfl | rfl <;> omega
  rcases BS_B4 hb with rfl | rfl | rfl | rfl
  all_goals (
    intro n
    induction n with
    | zero =>
      intro i z x3 x6 x7 hi hz e3 e6 e7 hQ
      subst e3; subst e6; subst e7
      refine wf (hs := [25]) 40 25 (by decide) ?_
      refine wt (by show iZ (N : Int) ≤ iZ (i : Int); simp (disch := omega) only [z_i8, z_i16, z_of, z_ofN, z_lofN, z_0, z_1, z_m1, z_l0, z_l1, iZ_add, iZ_sub, iZ_mul, iZ_neg, lZ_add, lZ_sub, lZ_mul, lZ_neg, z_div, z_ldiv, z_l, z_i, z_lt, z_le, z_eq, z_llt, z_lle, z_leq, z_cgt, z_cge, z_clt, z_cle, z_ceq, z_cl, z_nat, Int.toNat_natCast, mm_I, mm_J, z_cln, z_abs, z_max, z_min, z_lmax, z_lmin, z_sin, Int.cast_ofNat_Int]; omega) ?_
      exact hQ
    | succ n ih =>
      intro i z x3 x6 x7 hi hz e3 e6 e7 hQ
      subst e3; subst e6; subst e7
      have t1 := tb z hz
      have t2 := tw z hz
      refine wf (hs := [25]) 40 25 (by decide) ?_
      refine wF (by show ¬ iZ (N : Int) ≤ iZ (i : Int); simp (disch := omega) only [z_i8, z_i16, z_of, z_ofN, z_lofN, z_0, z_1, z_m1, z_l0, z_l1, iZ_add, iZ_sub, iZ_mul, iZ_neg, lZ_add, lZ_sub, lZ_mul, lZ_neg, z_div, z_ldiv, z_l, z_i, z_lt, z_le, z_eq, z_llt, z_lle, z_leq, z_cgt, z_cge, z_clt, z_cle, z_ceq, z_cl, z_nat, Int.toNat_natCast, mm_I, mm_J, z_cln, z_abs, z_max, z_min, z_lmax, z_lmin, z_sin, Int.cast_ofNat_Int]; omega) ?_
      unfold wlkZ at hQ
      refine And.intro (fun q => ?_) (fun q => ?_)
      · simp (disch := omega) only [z_i8, z_i16, z_of, z_ofN, z_lofN, z_0, z_1, z_m1, z_l0, z_l1, iZ_add, iZ_sub, iZ_mul, iZ_neg, lZ_add, lZ_sub, lZ_mul, lZ_neg, z_div, z_ldiv, z_l, z_i, z_lt, z_le, z_eq, z_llt, z_lle, z_leq, z_cgt, z_cge, z_clt, z_cle, z_ceq, z_cl, z_nat, Int.toNat_natCast, mm_I, mm_J, z_cln, z_abs, z_max, z_min, z_lmax, z_lmin, z_sin, Int.cast_ofNat_Int] at q
        rw [if_neg (by omega)] at hQ
        exact hQ
      · simp (disch := omega) only [z_i8, z_i16, z_of, z_ofN, z_lofN, z_0, z_1, z_m1, z_l0, z_l1, iZ_add, iZ_sub, iZ_mul, iZ_neg, lZ_add, lZ_sub, lZ_mul, lZ_neg, z_div, z_ldiv, z_l, z_i, z_lt, z_le, z_eq, z_llt, z_lle, z_leq, z_cgt, z_cge, z_clt, z_cle, z_ceq, z_cl, z_nat, Int.toNat_natCast, mm_I, mm_J, z_cln, z_abs, z_max, z_min, z_lmax, z_lmin, z_sin, Int.cast_ofNat_Int] at q
        refine And.intro (fun r => ?_) (fun r => ?_)
        · simp (disch := omega) only [z_i8, z_i16, z_of, z_ofN, z_lofN, z_0, z_1, z_m1, z_l0, z_l1, iZ_add, iZ_sub, iZ_mul, iZ_neg, lZ_add, lZ_sub, lZ_mul, lZ_neg, z_div, z_ldiv, z_l, z_i, z_lt, z_le, z_eq, z_llt, z_lle, z_leq, z_cgt, z_cge, z_clt, z_cle, z_ceq, z_cl, z_nat, Int.toNat_natCast, mm_I, mm_J, z_cln, z_abs, z_max, z_min, z_lmax, z_lmin, z_sin, Int.cast_ofNat_Int] at r
          rw [if_neg (fun y => y.2 r)] at hQ
          exact hQ
        · simp (disch := omega) only [z_i8, z_i16, z_of, z_ofN, z_lofN, z_0, z_1, z_m1, z_l0, z_l1, iZ_add, iZ_sub, iZ_mul, iZ_neg, lZ_add, lZ_sub, lZ_mul, lZ_neg, z_div, z_ldiv, z_l, z_i, z_lt, z_le, z_eq, z_llt, z_lle, z_leq, z_cgt, z_cge, z_clt, z_cle, z_ceq, z_cl, z_nat, Int.toNat_natCast, mm_I, mm_J, z_cln, z_abs, z_max, z_min, z_lmax, z_lmin, z_sin, Int.cast_ofNat_Int] at r
          rw [if_pos ⟨by omega, r⟩] at hQ
          have hz2 : -60 ≤ z + way ∧ z + way ≤ 60 := by rcases hw with rfl | rfl <;> omega
          refine And.intro rfl (c_turning hb h hW hm ha hz2 (iZ_add z way) ?_)
          refine wp_keys [0, 1, 2, 3, 5, 6, 7] rfl rfl ?_
          refine ih (i + 1) (z + way) _ _ _ (by omega) hz2 rfl (iZ_add z way) (iZ_add i 1) hQ)
set_option maxHeartbeats 4000000 in
theorem c_restFrom {z : Int} {N : Nat} {x y : Int32} (hb : BS β b) (h : RB I J A β b v mw mu mom) (hW : Wf v) (hm : WW mw mu) (ha : -10000000000 ≤ mom ∧ mom ≤ 10000000000) (hN : N ≤ 200) (hz : -60 ≤ z ∧ z ≤ 60) (ex : x = iZ z) (ey : y = iZ N) (hQ : Q (some (.int (iZ (wkN (trnZ v mw mu mom) N z)))) (mm I J A)) : wpC E (d + 3) 5 [.ref β, .int x, .int y] (mm I J A) Q := by
  subst ex; subst ey
  have tb := (trnB hW hm.1 hm.2 ha hz).2
  refine wc (hs := [25]) 40 (by decide) ?_
  have hr : am_c (.invokevirtual 56) 4 2 [.int (iZ z), .ref β] (mm I J A) = some (4, [.ref β, .int (iZ z)], []) := by
    rcases BS_B4 hb with rfl | rfl | rfl | rfl <;> rfl
  refine And.intro hr (c_turning hb h hW hm ha hz rfl ?_)
  unfold wkN at hQ
  refine And.intro (fun q => ?_) (fun q => ?_)
  · simp (disch := omega) only [z_i8, z_i16, z_of, z_ofN, z_lofN, z_0, z_1, z_m1, z_l0, z_l1, iZ_add, iZ_sub, iZ_mul, iZ_neg, lZ_add, lZ_sub, lZ_mul, lZ_neg, z_div, z_ldiv, z_l, z_i, z_lt, z_le, z_eq, z_llt, z_lle, z_leq, z_cgt, z_cge, z_clt, z_cle, z_ceq, z_cl, z_nat, Int.toNat_natCast, mm_I, mm_J, z_cln, z_abs, z_max, z_min, z_lmax, z_lmin, z_sin, Int.cast_ofNat_Int] at q
    rw [if_neg (by omega)] at hQ
    refine wp_keys [0, 1, 2, 3, 5, 6, 7] rfl rfl ?_
    exact c_restL hb h hW hm ha (Or.inr rfl) hN N 0 z _ _ _ (by omega) hz rfl rfl rfl hQ
  · simp (disch := omega) only [z_i8, z_i16, z_of, z_ofN, z_lofN, z_0, z_1, z_m1, z_l0, z_l1, iZ_add, iZ_sub, iZ_mul, iZ_neg, lZ_add, lZ_sub, lZ_mul, lZ_neg, z_div, z_ldiv, z_l, z_i, z_lt, z_le, z_eq, z_llt, z_lle, z_leq, z_cgt, z_cge, z_clt, z_cle, z_ceq, z_cl, z_nat, Int.toNat_natCast, mm_I, mm_J, z_cln, z_abs, z_max, z_min, z_lmax, z_lmin, z_sin, Int.cast_ofNat_Int] at q
    rw [if_pos (by omega)] at hQ
    refine wp_keys [0, 1, 2, 3, 5, 6, 7] rfl rfl ?_
    exact c_restL hb h hW hm ha (Or.inl rfl) hN N 0 z _ _ _ (by omega) hz rfl rfl rfl hQ
theorem arm5 (v : am_V) : armZ v 5 = v 267 1 := by
  unfold armZ
  rw [if_neg (by decide)]
  show (v 267 1 * (5 - ((0 : Nat) : Int)) + v 267 2 * ((0 : Nat) : Int)) / 5 = _
  omega
set_option maxHeartbeats 4000000 in
theorem c_stiffness (hb : BS β b) (h : RB I J A β b v mw mu mom) (hW : Wf v) (hm : WW mw mu) (hQ : Q (some (.long (lZ (stfZ v mw mu)))) (mm I J A)) : wpC E (d + 2) 6 [.ref β] (mm I J A) Q := by
  have s1 := stfB hW hm.1 hm.2
  have t1 := totB hW hm.1
  have hT : J β 2 = lZ (totZ v mw) := h.2.2.1
  have e : -upsZ v mw mu 5 * 1000 = (totZ v mw * v 267 1 - upZ v mu * sinZ 5 / 1000 - rnsZ v 5) * 1000 := by
    unfold upsZ
    rw [arm5]
    have : ((5 : Nat) : Int) = 5 := rfl
    rw [this]
    omega
  rw [sin5] at s1 e
  rcases BS_B4 hb with rfl | rfl | rfl | rfl
  all_goals (
    refine wc (hs := []) 40 (by decide) ?_
    refine And.intro rfl (c_upsetting (n := 5) hb h hW hm (by omega) rfl ?_)
    refine And.intro (inL (by decide)) ?_
    refine And.intro rfl (c_downE (a := (totZ v mw * v 267 1 - upZ v mu * 88 / 1000 - rnsZ v 5) * 1000) (b := totZ v mw * 88) ?_ ?_ ⟨by omega, by omega⟩ ⟨by omega, by omega⟩ ?_)
    · simp (disch := omega) only [z_i8, z_i16, z_of, z_ofN, z_lofN, z_0, z_1, z_m1, z_l0, z_l1, iZ_add, iZ_sub, iZ_mul, iZ_neg, lZ_add, lZ_sub, lZ_mul, lZ_neg, z_div, z_ldiv, z_l, z_i, z_lt, z_le, z_eq, z_llt, z_lle, z_leq, z_cgt, z_cge, z_clt, z_cle, z_ceq, z_cl, z_nat, Int.toNat_natCast, mm_I, mm_J, z_cln, z_abs, z_max, z_min, z_lmax, z_lmin, z_sin, Int.cast_ofNat_Int]
      rw [e]
    · show J _ 2 * (am_sin 5).toInt64 = _
      rw [z_sinN (by omega), hT]
      show lZ _ * (iZ (sinZ 5)).toInt64 = _
      rw [sin5]
      simp (disch := omega) only [z_i8, z_i16, z_of, z_ofN, z_lofN, z_0, z_1, z_m1, z_l0, z_l1, iZ_add, iZ_sub, iZ_mul, iZ_neg, lZ_add, lZ_sub, lZ_mul, lZ_neg, z_div, z_ldiv, z_l, z_i, z_lt, z_le, z_eq, z_llt, z_lle, z_leq, z_cgt, z_cge, z_clt, z_cle, z_ceq, z_cl, z_nat, Int.toNat_natCast, mm_I, mm_J, z_cln, z_abs, z_max, z_min, z_lmax, z_lmin, z_sin, Int.cast_ofNat_Int]
    · unfold stfZ at hQ
      rw [sin5] at hQ
      exact hQ)
set_option maxHeartbeats 4000000 in
theorem c_beat (hb : BS β b) (h : RB I J A β b v mw mu mom) (hW : Wf v) (hm : WW mw mu) (hQ : Q (some (.int (iZ (btZ v (stfZ v mw mu))))) (mm I J A)) : wpC E (d + 3) 7 [.ref β] (mm I J A) Q := by
  have s1 := (stfB hW hm.1 hm.2).2
  have hB : I β 1 = iZ (v 266 1) := h.2.1
  have b1 := hW.1.1
  have m := mulb (a := 64 * v 266 1) (b := v 266 1) (A := 25600) (B := 400) (by omega) (by omega) (by omega) (by omega)
  generalize hs : stfZ v mw mu = s at *
  rcases BS_B4 hb with rfl | rfl | rfl | rfl
  all_goals (
    refine wc (hs := []) 40 (by decide) ?_
    refine And.intro rfl (c_stiffness hb h hW hm ?_)
    rw [hs]
    refine And.intro (fun q => ?_) (fun q => ?_)
    · simp (disch := omega) only [z_i8, z_i16, z_of, z_ofN, z_lofN, z_0, z_1, z_m1, z_l0, z_l1, iZ_add, iZ_sub, iZ_mul, iZ_neg, lZ_add, lZ_sub, lZ_mul, lZ_neg, z_div, z_ldiv, z_l, z_i, z_lt, z_le, z_eq, z_llt, z_lle, z_leq, z_cgt, z_cge, z_clt, z_cle, z_ceq, z_cl, z_nat, Int.toNat_natCast, mm_I, mm_J, z_cln, z_abs, z_max, z_min, z_lmax, z_lmin, z_sin, Int.cast_ofNat_Int] at q
      refine And.intro rfl (c_downE (a := 64 * v 266 1 * v 266 1) (b := s) ?_ rfl ⟨by omega, by omega⟩ ⟨by omega, by omega⟩ ?_)
      · simp (disch := omega) only [z_i8, z_i16, z_of, z_ofN, z_lofN, z_0, z_1, z_m1, z_l0, z_l1, iZ_add, iZ_sub, iZ_mul, iZ_neg, lZ_add, lZ_sub, lZ_mul, lZ_neg, z_div, z_ldiv, z_l, z_i, z_lt, z_le, z_eq, z_llt, z_lle, z_leq, z_cgt, z_cge, z_clt, z_cle, z_ceq, z_cl, z_nat, Int.toNat_natCast, mm_I, mm_J, z_cln, z_abs, z_max, z_min, z_lmax, z_lmin, z_sin, Int.cast_ofNat_Int, hB]
      have k1 := Int.ediv_nonneg (a := 64 * v 266 1 * v 266 1) (b := s) m.1 (by omega)
      have k2 := Int.ediv_le_self (a := 64 * v 266 1 * v 266 1) s m.1
      refine And.intro rfl (c_root ⟨k1, by omega⟩ ?_)
      unfold btZ at hQ
      rw [if_neg (by omega)] at hQ
      exact hQ
    · simp (disch := omega) only [z_i8, z_i16, z_of, z_ofN, z_lofN, z_0, z_1, z_m1, z_l0, z_l1, iZ_add, iZ_sub, iZ_mul, iZ_neg, lZ_add, lZ_sub, lZ_mul, lZ_neg, z_div, z_ldiv, z_l, z_i, z_lt, z_le, z_eq, z_llt, z_lle, z_leq, z_cgt, z_cge, z_clt, z_cle, z_ceq, z_cl, z_nat, Int.toNat_natCast, mm_I, mm_J, z_cln, z_abs, z_max, z_min, z_lmax, z_lmin, z_sin, Int.cast_ofNat_Int] at q
      unfold btZ at hQ
      rw [if_pos (by omega)] at hQ
      exact hQ)
set_option maxHeartbeats 4000000 in
theorem c_lolls (hb : BS β b) (h : RB I J A β b v mw mu mom) (hW : Wf v) (hm : WW mw mu) (h1 : 0 ≤ upsZ v mw mu 1 → Q (some (.int 1)) (mm I J A)) (h0 : upsZ v mw mu 1 < 0 → Q (some (.int 0)) (mm I J A)) : wpC E (d + 2) 8 [.ref β] (mm I J A) Q := by
  have ub := upsB hW hm.1 hm.2 (n := 1) (by omega)
  rcases BS_B4 hb with rfl | rfl | rfl | rfl
  all_goals (
    refine wc (hs := []) 40 (by decide) ?_
    refine And.intro rfl (c_upsetting (n := 1) hb h hW hm (by omega) rfl ?_)
    refine And.intro (fun q => ?_) (fun q => ?_)
    · simp (disch := omega) only [z_i8, z_i16, z_of, z_ofN, z_lofN, z_0, z_1, z_m1, z_l0, z_l1, iZ_add, iZ_sub, iZ_mul, iZ_neg, lZ_add, lZ_sub, lZ_mul, lZ_neg, z_div, z_ldiv, z_l, z_i, z_lt, z_le, z_eq, z_llt, z_lle, z_leq, z_cgt, z_cge, z_clt, z_cle, z_ceq, z_cl, z_nat, Int.toNat_natCast, mm_I, mm_J, z_cln, z_abs, z_max, z_min, z_lmax, z_lmin, z_sin, Int.cast_ofNat_Int] at q
      exact And.intro rfl (h0 (by omega))
    · simp (disch := omega) only [z_i8, z_i16, z_of, z_ofN, z_lofN, z_0, z_1, z_m1, z_l0, z_l1, iZ_add, iZ_sub, iZ_mul, iZ_neg, lZ_add, lZ_sub, lZ_mul, lZ_neg, z_div, z_ldiv, z_l, z_i, z_lt, z_le, z_eq, z_llt, z_lle, z_leq, z_cgt, z_cge, z_clt, z_cle, z_ceq, z_cl, z_nat, Int.toNat_natCast, mm_I, mm_J, z_cln, z_abs, z_max, z_min, z_lmax, z_lmin, z_sin, Int.cast_ofNat_Int] at q
      exact And.intro rfl (h1 (by omega)))
end C3
end
section
/-! ===== a ship of the class stands for a view; its balance taken ===== -/
def RSp (I : Nat → Nat → Int32) (J : Nat → Nat → Int64) (b : Nat) (v : am_V) (k : Nat) : Prop := I (b + 3) k = iZ (v 270 k) ∧ I (b + 4) k = iZ (v 271 k) ∧ I (b + 5) k = iZ (v 272 k) ∧ I (b + 6) k = iZ (v 273 k) ∧ I (b + 7) k = iZ (v 274 k) ∧ I (b + 8) k = iZ (v 275 k) ∧ I (b + 9) k = iZ (capZ v k) ∧ I (b + 10) k = iZ (v 276 k) ∧ I (b + 11) k = iZ (levZ v k) ∧ J (b + 12) k = lZ (sprZ v k) ∧ I (b + 13) k = iZ (blkZ v k)
def RSc (I : Nat → Nat → Int32) (b : Nat) (v : am_V) (k : Nat) : Prop := I (b + 15) k = iZ (v 277 k) ∧ I (b + 16) k = iZ (v 278 k) ∧ I (b + 17) k = iZ (v 279 k) ∧ I (b + 18) k = iZ (v 280 k) ∧ I (b + 19) k = iZ (v 281 k)
def RSd (I : Nat → Nat → Int32) (b : Nat) (v : am_V) (k : Nat) : Prop := I (b + 21) k = iZ (v 282 k) ∧ I (b + 22) k = iZ (v 283 k) ∧ I (b + 23) k = iZ (v 284 k) ∧ I (b + 24) k = iZ (v 285 k)
def RSo (I : Nat → Nat → Int32) (b : Nat) (v : am_V) (k : Nat) : Prop := I (b + 26) k = iZ (v 286 k) ∧ I (b + 27) k = iZ (v 287 k) ∧ I (b + 28) k = iZ (v 288 k) ∧ I (b + 29) k = iZ (v 289 k)
def RSl (I : Nat → Nat → Int32) (b : Nat) (v : am_V) (k : Nat) : Prop := I (b + 31) k = iZ (v 268 k) ∧ I (b + 32) k = iZ (v 269 k)
def RSs (I : Nat → Nat → Int32) (b : Nat) (v : am_V) (t : Int) : Prop := I b 0 = iZ 1 ∧ I b 1 = iZ (v 266 1) ∧ I b 2 = iZ (v 266 2) ∧ I b 3 = iZ (v 266 3) ∧ I b 4 = iZ (v 266 4) ∧ I b 5 = iZ (v 266 5) ∧ I b 6 = iZ (v 266 6) ∧ I b 7 = iZ (v 266 7) ∧ I b 8 = iZ (v 266 8) ∧ I b 9 = iZ t
def RSt (I : Nat → Nat → Int32) (J : Nat → Nat → Int64) (b : Nat) (v : am_V) (t : Int) : Prop :=
  RSs I b v t ∧ (∀ n : Nat, n ≤ 60 → I (b + 1) n = iZ (armZ v n))
  ∧ (I (b + 2) 0 = iZ (nP v) ∧ (∀ k, k < nP v → RSp I J b v k) ∧ (∀ k, nP v ≤ k → k < 12 → I (b + 10) k = iZ 0))
  ∧ (I (b + 14) 0 = iZ (nC v) ∧ ∀ k, k < nC v → RSc I b v k)
  ∧ (I (b + 20) 0 = iZ (nD v) ∧ ∀ k, k < nD v → RSd I b v k)
  ∧ (I (b + 25) 0 = iZ (nO v) ∧ ∀ k, k < nO v → RSo I b v k)
  ∧ (I (b + 30) 0 = iZ (nL v) ∧ ∀ k, k < nL v → RSl I b v k)
def RS (I : Nat → Nat → Int32) (J : Nat → Nat → Int64) (b : Nat) (v : am_V) : Prop := RSt I J b v (totZ v 0)
theorem RS_eq {I I' : Nat → Nat → Int32} {J J' : Nat → Nat → Int64} {b : Nat} {v : am_V} (h : ∀ a, b ≤ a → a < b + 33 → I' a = I a ∧ J' a = J a) (hR : RS I J b v) : RS I' J' b v := by
  have g : ∀ j, j < 33 → I' (b + j) = I (b + j) := fun j hj => (h (b + j) (by omega) (by omega)).1
  have g0 : I' b = I b := g 0 (by omega)
  have gJ : J' (b + 12) = J (b + 12) := (h (b + 12) (by omega) (by omega)).2
  unfold RS RSt RSs RSp RSc RSd RSo RSl at hR ⊢
  rw [g0, gJ, g 1 (by omega), g 2 (by omega), g 3 (by omega), g 4 (by omega), g 5 (by omega), g 6 (by omega), g 7 (by omega), g 8 (by omega), g 9 (by omega), g 10 (by omega), g 11 (by omega), g 13 (by omega), g 14 (by omega), g 15 (by omega), g 16 (by omega), g 17 (by omega), g 18 (by omega), g 19 (by omega), g 20 (by omega), g 21 (by omega), g 22 (by omega), g 23 (by omega), g 24 (by omega), g 25 (by omega), g 26 (by omega), g 27 (by omega), g 28 (by omega), g 29 (by omega), g 30 (by omega), g 31 (by omega), g 32 (by omega)]
  exact hR
/-- what a taken balance leaves as it was -/
def FB (β : Nat) (I : Nat → Nat → Int32) (J : Nat → Nat → Int64) (A : Nat → Option Nat) (I' : Nat → Nat → Int32) (J' : Nat → Nat → Int64) (A' : Nat → Option Nat) : Prop := (∀ a, a ≠ β → I' a = I a) ∧ (∀ a, a ≠ β → a ≠ β + 2 → a ≠ β + 3 → J' a = J a) ∧ (∀ x, x ≠ β → A' x = A x)
def B5 (b : Nat) : Prop := b = 1 ∨ b = 35 ∨ b = 68 ∨ b = 101 ∨ b = 134
theorem BS_B5 {β b : Nat} (h : BS β b) : B5 b := by
  unfold B5
  unfold BS at h
  omega
theorem uI_I {M : am_M} {a : Nat} {f : Nat → Int32} : (am_uI M a f).2.1 = am_sI M.2.1 a f := rfl
theorem uI_J {M : am_M} {a : Nat} {f : Nat → Int32} : (am_uI M a f).2.2.1 = M.2.2.1 := rfl
theorem uL_I {M : am_M} {a : Nat} {f : Nat → Int64} : (am_uL M a f).2.1 = M.2.1 := rfl
theorem uL_J {M : am_M} {a : Nat} {f : Nat → Int64} : (am_uL M a f).2.2.1 = am_sL M.2.2.1 a f := rfl
theorem uA_I {M : am_M} {a c : Nat} : (am_uA M a c).2.1 = M.2.1 := rfl
theorem uA_J {M : am_M} {a c : Nat} : (am_uA M a c).2.2.1 = M.2.2.1 := rfl
theorem sI_eq {I : Nat → Nat → Int32} {a : Nat} {f : Nat → Int32} : am_sI I a f a = f := if_pos rfl
theorem sI_ne {I : Nat → Nat → Int32} {a c : Nat} {f : Nat → Int32} (h : c ≠ a) : am_sI I a f c = I c := if_neg h
theorem sL_eq {I : Nat → Nat → Int64} {a : Nat} {f : Nat → Int64} : am_sL I a f a = f := if_pos rfl
theorem sL_ne {I : Nat → Nat → Int64} {a c : Nat} {f : Nat → Int64} (h : c ≠ a) : am_sL I a f c = I c := if_neg h
theorem up_eq {f : Nat → Int32} {k : Nat} {x : Int32} : upd f k x k = x := if_pos rfl
theorem up_ne {f : Nat → Int32} {k j : Nat} {x : Int32} (h : j ≠ k) : upd f k x j = f j := if_neg h
theorem uL_eq {f : Nat → Int64} {k : Nat} {x : Int64} : vp_updL f k x k = x := if_pos rfl
theorem uL_ne {f : Nat → Int64} {k j : Nat} {x : Int64} (h : j ≠ k) : vp_updL f k x j = f j := if_neg h
/-- the loose water in two rows -/
def LW (J : Nat → Nat → Int64) (β l i : Nat) (v : am_V) : Prop := (∀ j, j < l → (0 ≤ vJ J (β + 2) j ∧ vJ J (β + 2) j ≤ 128000000000) ∧ (0 ≤ vJ J (β + 3) j ∧ vJ J (β + 3) j ≤ 159840000)) ∧ ∀ z : Int, 0 ≤ z → z ≤ 90 → sm l (fun j => min (vJ J (β + 2) j * sinZ z / 1000) (vJ J (β + 3) j)) = sm i (fun k => runZ v k z)
theorem LW_eq {J J' : Nat → Nat → Int64} {β l i : Nat} {v : am_V} (h : LW J β l i v) (h2 : J' (β + 2) = J (β + 2)) (h3 : J' (β + 3) = J (β + 3)) : LW J' β l i v := by
  unfold LW vJ at h ⊢
  rw [h2, h3]
  exact h
theorem LW_skip {J J' : Nat → Nat → Int64} {β l i : Nat} {v : am_V} (h : LW J β l i v) (h2 : J' (β + 2) = J (β + 2)) (h3 : J' (β + 3) = J (β + 3)) (hP : WfP v i) (h0 : blkZ v i = 0) : LW J' β l (i + 1) v := by
  unfold LW vJ at h ⊢
  rw [h2, h3]
  refine ⟨h.1, fun z z0 z1 => ?_⟩
  rw [h.2 z z0 z1]
  show _ = sm i (fun k => runZ v k z) + runZ v i z
  have r := (runB hP z0 z1).1
  have := Int.ediv_nonneg (a := sprZ v i * sinZ z) (b := 1000) r.1 (by omega)
  have e : runZ v i z = 0 := by unfold runZ; rw [h0]; omega
  omega
theorem LW_more {J J' : Nat → Nat → Int64} {β l i : Nat} {v : am_V} (h : LW J β l i v) (h2 : J' (β + 2) = vp_updL (J (β + 2)) l (lZ (sprZ v i))) (h3 : J' (β + 3) = vp_updL (J (β + 3)) l (lZ (blkZ v i))) (hP : WfP v i) : LW J' β (l + 1) (i + 1) v := by
  have p := (sprB hP).2.2
  have q := (blkB hP).2
  have e2 : ∀ j, vJ J' (β + 2) j = if j = l then sprZ v i else vJ J (β + 2) j := fun j => by
    unfold vJ
    rw [h2]
    unfold vp_updL
    split
    · exact lZ_toInt ⟨by omega, by omega⟩
    · rfl
  have e3 : ∀ j, vJ J' (β + 3) j = if j = l then blkZ v i else vJ J (β + 3) j := fun j => by
    unfold vJ
    rw [h3]
    unfold vp_updL
    split
    · exact lZ_toInt ⟨by omega, by omega⟩
    · rfl
  refine ⟨fun j hj => ?_, fun z z0 z1 => ?_⟩
  · rw [e2, e3]
    by_cases hjl : j = l
    · rw [if_pos hjl, if_pos hjl]; exact ⟨p, q⟩
    · rw [if_neg hjl, if_neg hjl]; exact h.1 j (by omega)
  · show sm l _ + _ = sm i (fun k => runZ v k z) + runZ v i z
    rw [← h.2 z z0 z1]
    have : sm l (fun j => min (vJ J' (β + 2) j * sinZ z / 1000) (vJ J' (β + 3) j)) = sm l (fun j => min (vJ J (β + 2) j * sinZ z / 1000) (vJ J (β + 3) j)) := sm_congr (fun j hj => by rw [e2, e3, if_neg (by omega), if_neg (by omega)])
    rw [this]
    dsimp only
    rw [e2, e3, if_pos rfl, if_pos rfl]
    rfl
section C4
variable {E : Nat × (Nat → Int32)} {d : Nat} {I : Nat → Nat → Int32} {J : Nat → Nat → Int64} {A : Nat → Option Nat} {Q : Option Value → am_M → Prop} {M : am_M} {β b : Nat} {v : am_V} {mw mu mom : Int}
def tkU (v : am_V) (i j : Nat) : Int := v 266 2 * v 266 3 + sm i (fun k => v 276 k * (v 270 k + levZ v k / 2)) + sm j (fun k => v 277 k * v 278 k)
def tkM (v : am_V) (i j : Nat) : Int := v 266 5 * 10 + sm i (fun k => v 276 k * v 275 k * 10) + sm j (fun k => v 277 k * v 281 k * v 280 k * 10)
/-- a balance half taken -/
def TK (I : Nat → Nat → Int32) (J : Nat → Nat → Int64) (A : Nat → Option Nat) (β : Nat) (v : am_V) (i j : Nat) (s : (Nat → Nat → Int32) × (Nat → Nat → Int64)) : Prop :=
  (∀ a, a ≠ β → s.1 a = I a) ∧ (∀ a, a ≠ β → a ≠ β + 2 → a ≠ β + 3 → s.2 a = J a) ∧ s.1 β 1 = iZ (v 266 1) ∧ s.2 β 2 = lZ (totZ v 0) ∧ s.2 β 3 = lZ (tkU v i j) ∧ s.2 β 4 = lZ (tkM v i j) ∧ ∃ l : Nat, l ≤ i ∧ s.1 β 5 = iZ l ∧ LW s.2 β l i v
theorem TK_skip {I' : Nat → Nat → Int32} {J' : Nat → Nat → Int64} {i : Nat} {x y : Int64} (h : TK I J A β v i 0 (I', J')) (hP : WfP v i) (h0 : blkZ v i = 0) (hx : x = lZ (tkU v (i + 1) 0)) (hy : y = lZ (tkM v (i + 1) 0)) : TK I J A β v (i + 1) 0 (I', am_sL (am_sL J' β (vp_updL (J' β) 3 x)) β (vp_updL (am_sL J' β (vp_updL (J' β) 3 x) β) 4 y)) := by
  obtain ⟨f1, f2, k1, k2, k3, k4, l, hl, k5, lw⟩ := h
  dsimp only at f1 f2 k1 k2 k3 k4 k5 lw
  refine ⟨f1, fun a h1 h2 h3 => ?_, k1, ?_, ?_, ?_, l, by omega, k5, LW_skip lw ?_ ?_ hP h0⟩
  · dsimp only; rw [sL_ne h1, sL_ne h1]; exact f2 a h1 h2 h3
  · dsimp only; rw [sL_eq, uL_ne (by decide), sL_eq, uL_ne (by decide)]; exact k2
  · dsimp only; rw [sL_eq, uL_ne (by decide), sL_eq, uL_eq]; exact hx
  · dsimp only; rw [sL_eq, uL_eq]; exact hy
  · dsimp only; rw [sL_ne (by omega), sL_ne (by omega)]
  · dsimp only; rw [sL_ne (by omega), sL_ne (by omega)]
theorem TK_more {I' : Nat → Nat → Int32} {J' : Nat → Nat → Int64} {i l : Nat} {x y p q : Int64} {w : Int32} {m1 m2 : Nat} (h : TK I J A β v i 0 (I', J')) (hP : WfP v i) (hl : I' β 5 = iZ l) (hl12 : l < 12) (hi : i < 12) (hx : x = lZ (tkU v (i + 1) 0)) (hy : y = lZ (tkM v (i + 1) 0)) (hp : p = lZ (sprZ v i)) (hq : q = lZ (blkZ v i)) (hw : w = iZ (l + 1 : Nat)) (hm1 : m1 = l) (hm2 : m2 = l) :
    TK I J A β v (i + 1) 0 (am_sI I' β (upd (I' β) 5 w), am_sL (am_sL (am_sL (am_sL J' β (vp_updL (J' β) 3 x)) β (vp_updL (am_sL J' β (vp_updL (J' β) 3 x) β) 4 y)) (β + 2) (vp_updL (am_sL (am_sL J' β (vp_updL (J' β) 3 x)) β (vp_updL (am_sL J' β (vp_updL (J' β) 3 x) β) 4 y) (β + 2)) m1 p)) (β + 3) (vp_updL (am_sL (am_sL (am_sL J' β (vp_updL (J' β) 3 x)) β (vp_updL (am_sL J' β (vp_updL (J' β) 3 x) β) 4 y)) (β + 2) (vp_updL (am_sL (am_sL J' β (vp_updL (J' β) 3 x)) β (vp_updL (am_sL J' β (vp_updL (J' β) 3 x) β) 4 y) (β + 2)) m1 p) (β + 3)) m2 q)) := by
  obtain ⟨f1, f2, k1, k2, k3, k4, l', hl', k5, lw⟩ := h
  dsimp only at f1 f2 k1 k2 k3 k4 k5 lw
  have : l' = l := by
    rw [hl, z_eq (by omega) (by omega) (by omega) (by omega)] at k5
    omega
  subst this
  rw [hm1, hm2]
  refine ⟨fun a h1 => ?_, fun a h1 h2 h3 => ?_, ?_, ?_, ?_, ?_, l' + 1, by omega, ?_, LW_more lw ?_ ?_ hP⟩
  · dsimp only; rw [sI_ne h1]; exact f1 a h1
  · dsimp only; rw [sL_ne h3, sL_ne h2, sL_ne h1, sL_ne h1]; exact f2 a h1 h2 h3
  · dsimp only; rw [sI_eq, up_ne (by decide)]; exact k1
  · dsimp only; rw [sL_ne (by omega), sL_ne (by omega), sL_eq, uL_ne (by decide), sL_eq, uL_ne (by decide)]; exact k2
  · dsimp only; rw [sL_ne (by omega), sL_ne (by omega), sL_eq, uL_ne (by decide), sL_eq, uL_eq]; exact hx
  · dsimp only; rw [sL_ne (by omega), sL_ne (by omega), sL_eq, uL_eq]; exact hy
  · dsimp only; rw [sI_eq, up_eq]; exact hw
  · dsimp only; rw [sL_ne (by omega), sL_eq, sL_ne (by omega), sL_ne (by omega), hp]
  · dsimp only; rw [sL_eq, sL_ne (by omega), sL_ne (by omega), sL_ne (by omega), hq]
theorem TK_cargo {I' : Nat → Nat → Int32} {J' : Nat → Nat → Int64} {i : Nat} {x y : Int64} (h : TK I J A β v (nP v) i (I', J')) (hx : x = lZ (tkU v (nP v) (i + 1))) (hy : y = lZ (tkM v (nP v) (i + 1))) : TK I J A β v (nP v) (i + 1) (I', am_sL (am_sL J' β (vp_updL (J' β) 3 x)) β (vp_updL (am_sL J' β (vp_updL (J' β) 3 x) β) 4 y)) := by
  obtain ⟨f1, f2, k1, k2, k3, k4, l, hl, k5, lw⟩ := h
  dsimp only at f1 f2 k1 k2 k3 k4 k5 lw
  refine ⟨f1, fun a h1 h2 h3 => ?_, k1, ?_, ?_, ?_, l, by omega, k5, LW_eq lw ?_ ?_⟩
  · dsimp only; rw [sL_ne h1, sL_ne h1]; exact f2 a h1 h2 h3
  · dsimp only; rw [sL_eq, uL_ne (by decide), sL_eq, uL_ne (by decide)]; exact k2
  · dsimp only; rw [sL_eq, uL_ne (by decide), sL_eq, uL_eq]; exact hx
  · dsimp only; rw [sL_eq, uL_eq]; exact hy
  · dsimp only; rw [sL_ne (by omega), sL_ne (by omega)]
  · dsimp only; rw [sL_ne (by omega), sL_ne (by omega)]
set_option maxHeartbeats 8000000 in
theorem c_take (hb : BS β b) (hW : Wf v) (hR : RS I J b v) (hQ : ∀ I' J' A', RB I' J' A' β b v 0 0 (asdZ v) → FB β I J A I' J' A' → Q none (mm I' J' A')) : wpC E d 1 [.ref β, .ref b] (mm I J A) Q := by
  have hP := nP_le (I := fun a i => iZ (v a i))
  have hle : nP v ≤ 12 := by have := hW.1.2.2.2.2.2.2.2.2.1; unfold nP; omega
  have hlc : nC v ≤ 6 := by have := hW.1.2.2.2.2.2.2.2.2.2.1; unfold nC; omega
  have tt := totB hW (mw := 0) ⟨by omega, by omega⟩
  obtain ⟨⟨r0, r1, r2, r3, r4, r5, r6, r7, r8, r9⟩, ra, ⟨rp0, rp, rw0⟩, ⟨rc0, rc⟩, -⟩ := id hR
  obtain ⟨w1, w2, w3, w4, w5, -⟩ := id hW.1
  have fin : ∀ I' J', TK I J A β v (nP v) (nC v) (I', J') → Q none (mm I' J' (fun x => if x = β then some (b + 1) else A x)) := by
    intro I' J' h
    obtain ⟨f1, f2, k1, k2, k3, k4, l, hl, k5, lw⟩ := h
    refine hQ _ _ _ ⟨if_pos rfl, k1, k2, ?_, ?_, ⟨l, by omega, by rw [← z_nat] at k5; exact k5, lw⟩, fun n hn => ?_⟩ ⟨f1, f2, fun x hx => if_neg hx⟩
    · dsimp only at k3
      rw [k3]; congr 1; unfold tkU upZ; omega
    · dsimp only at k4
      rw [k4]; rfl
    · have : b + 1 ≠ β := by unfold BS at hb; omega
      dsimp only at f1
      rw [f1 _ this]; exact ra n hn
  have hne : ∀ j, j < 33 → b + j ≠ β := fun j hj => by unfold BS at hb; omega
  have hc : ∀ i : Nat, i < 12 → (iZ (i : Int)).toNatClampNeg = i := fun i hi => z_cln (by omega)
  have gU : ∀ (i : Nat) (I' : Nat → Nat → Int32) (J' : Nat → Nat → Int64), i < nP v → TK I J A β v i 0 (I', J') → J' β 3 + (I' (b + 10) (iZ (i : Int)).toNatClampNeg).toInt64 * (I' (b + 3) (iZ (i : Int)).toNatClampNeg + I' (b + 11) (iZ (i : Int)).toNatClampNeg / iZ 2).toInt64 = lZ (tkU v (i + 1) 0) := by
    intro i I' J' hi h
    unfold TK at h
    dsimp only at h
    obtain ⟨q1, q2, q3, q4, q5, q6, q7, q8, q9, q10, q11⟩ := rp i hi
    have w := hW.2.2.1 i hi
    have l := levB w
    have cb := (capB w).2.2
    obtain ⟨v0, v1, v2, v3, v4, v5, v6⟩ := w
    rw [hc i (by omega), h.1 _ (hne 10 (by omega)), h.1 _ (hne 3 (by omega)), h.1 _ (hne 11 (by omega)), q8, q1, q9, h.2.2.2.2.1]
    simp (disch := omega) only [z_i8, z_i16, z_of, z_ofN, z_lofN, z_0, z_1, z_m1, z_l0, z_l1, iZ_add, iZ_sub, iZ_mul, iZ_neg, lZ_add, lZ_sub, lZ_mul, lZ_neg, z_div, z_ldiv, z_l, z_i, z_lt, z_le, z_eq, z_llt, z_lle, z_leq, z_cgt, z_cge, z_clt, z_cle, z_ceq, z_cl, z_nat, Int.toNat_natCast, mm_I, mm_J, z_cln, z_abs, z_max, z_min, z_lmax, z_lmin, z_sin, Int.cast_ofNat_Int]
    congr 1
    unfold tkU
    show _ + 0 + _ = _ + (sm i (fun k => v 276 k * (v 270 k + levZ v k / 2)) + v 276 i * (v 270 i + levZ v i / 2)) + 0
    omega
  have gM : ∀ (i : Nat) (I' : Nat → Nat → Int32) (J' : Nat → Nat → Int64), i < nP v → TK I J A β v i 0 (I', J') → J' β 4 + (I' (b + 10) (iZ (i : Int)).toNatClampNeg).toInt64 * (I' (b + 8) (iZ (i : Int)).toNatClampNeg).toInt64 * lZ 10 = lZ (tkM v (i + 1) 0) := by
    intro i I' J' hi h
    unfold TK at h
    dsimp only at h
    obtain ⟨q1, q2, q3, q4, q5, q6, q7, q8, q9, q10, q11⟩ := rp i hi
    have w := hW.2.2.1 i hi
    have cb := (capB w).2.2
    obtain ⟨v0, v1, v2, v3, v4, v5, v6⟩ := w
    rw [hc i (by omega), h.1 _ (hne 10 (by omega)), h.1 _ (hne 8 (by omega)), q8, q6, h.2.2.2.2.2.1]
    simp (disch := omega) only [z_i8, z_i16, z_of, z_ofN, z_lofN, z_0, z_1, z_m1, z_l0, z_l1, iZ_add, iZ_sub, iZ_mul, iZ_neg, lZ_add, lZ_sub, lZ_mul, lZ_neg, z_div, z_ldiv, z_l, z_i, z_lt, z_le, z_eq, z_llt, z_lle, z_leq, z_cgt, z_cge, z_clt, z_cle, z_ceq, z_cl, z_nat, Int.toNat_natCast, mm_I, mm_J, z_cln, z_abs, z_max, z_min, z_lmax, z_lmin, z_sin, Int.cast_ofNat_Int]
    congr 1
    unfold tkM
    show _ + 0 + _ = _ + (sm i (fun k => v 276 k * v 275 k * 10) + v 276 i * v 275 i * 10) + 0
    omega
  have gUc : ∀ (i : Nat) (I' : Nat → Nat → Int32) (J' : Nat → Nat → Int64), i < nC v → TK I J A β v (nP v) i (I', J') → J' β 3 + (I' (b + 15) (iZ (i : Int)).toNatClampNeg).toInt64 * (I' (b + 16) (iZ (i : Int)).toNatClampNeg).toInt64 = lZ (tkU v (nP v) (i + 1)) := by
    intro i I' J' hi h
    unfold TK at h
    dsimp only at h
    obtain ⟨q1, q2, q3, q4, q5⟩ := rc i hi
    obtain ⟨v1, v2, v3, v4, v5⟩ := hW.2.2.2 i hi
    rw [hc i (by omega), h.1 _ (hne 15 (by omega)), h.1 _ (hne 16 (by omega)), q1, q2, h.2.2.2.2.1]
    simp (disch := omega) only [z_i8, z_i16, z_of, z_ofN, z_lofN, z_0, z_1, z_m1, z_l0, z_l1, iZ_add, iZ_sub, iZ_mul, iZ_neg, lZ_add, lZ_sub, lZ_mul, lZ_neg, z_div, z_ldiv, z_l, z_i, z_lt, z_le, z_eq, z_llt, z_lle, z_leq, z_cgt, z_cge, z_clt, z_cle, z_ceq, z_cl, z_nat, Int.toNat_natCast, mm_I, mm_J, z_cln, z_abs, z_max, z_min, z_lmax, z_lmin, z_sin, Int.cast_ofNat_Int]
    congr 1
    unfold tkU
    show _ = _ + (sm i (fun k => v 277 k * v 278 k) + v 277 i * v 278 i)
    omega
  have gMc : ∀ (i : Nat) (I' : Nat → Nat → Int32) (J' : Nat → Nat → Int64), i < nC v → TK I J A β v (nP v) i (I', J') → J' β 4 + lZ 10 * (I' (b + 15) (iZ (i : Int)).toNatClampNeg).toInt64 * (I' (b + 19) (iZ (i : Int)).toNatClampNeg).toInt64 * (I' (b + 18) (iZ (i : Int)).toNatClampNeg).toInt64 = lZ (tkM v (nP v) (i + 1)) := by
    intro i I' J' hi h
    unfold TK at h
    dsimp only at h
    obtain ⟨q1, q2, q3, q4, q5⟩ := rc i hi
    obtain ⟨v1, v2, v3, v4, v5⟩ := hW.2.2.2 i hi
    rw [hc i (by omega), h.1 _ (hne 15 (by omega)), h.1 _ (hne 19 (by omega)), h.1 _ (hne 18 (by omega)), q1, q4, q5, h.2.2.2.2.2.1]
    simp (disch := omega) only [z_i8, z_i16, z_of, z_ofN, z_lofN, z_0, z_1, z_m1, z_l0, z_l1, iZ_add, iZ_sub, iZ_mul, iZ_neg, lZ_add, lZ_sub, lZ_mul, lZ_neg, z_div, z_ldiv, z_l, z_i, z_lt, z_le, z_eq, z_llt, z_lle, z_leq, z_cgt, z_cge, z_clt, z_cle, z_ceq, z_cl, z_nat, Int.toNat_natCast, mm_I, mm_J, z_cln, z_abs, z_max, z_min, z_lmax, z_lmin, z_sin, Int.cast_ofNat_Int]
    congr 1
    have e : 10 * v 277 i * v 281 i * v 280 i = v 277 i * v 281 i * v 280 i * 10 := by
      rw [Int.mul_comm (v 277 i * v 281 i * v 280 i) 10, ← Int.mul_assoc, ← Int.mul_assoc]
    rw [e]
    unfold tkM
    show _ = _ + (sm i (fun k => v 277 k * v 281 k * v 280 k * 10) + v 277 i * v 281 i * v 280 i * 10)
    omega
  have gz : ∀ (i j : Nat) (I' : Nat → Nat → Int32) (J' : Nat → Nat → Int64), TK I J A β v i j (I', J') → I' (b + 2) 0 = iZ (nP v) ∧ I' (b + 14) 0 = iZ (nC v) := by
    intro i j I' J' h
    unfold TK at h
    dsimp only at h
    rw [h.1 _ (hne 2 (by omega)), h.1 _ (hne 14 (by omega))]
    exact ⟨rp0, rc0⟩
  have gB : ∀ (i : Nat) (I' : Nat → Nat → Int32) (J' : Nat → Nat → Int64), i < nP v → TK I J A β v i 0 (I', J') → I' (b + 13) (iZ (i : Int)).toNatClampNeg = iZ (blkZ v i) ∧ J' (b + 12) (iZ (i : Int)).toNatClampNeg = lZ (sprZ v i) := by
    intro i I' J' hi h
    unfold TK at h
    dsimp only at h
    obtain ⟨q1, q2, q3, q4, q5, q6, q7, q8, q9, q10, q11⟩ := rp i hi
    rw [hc i (by omega), h.1 _ (hne 13 (by omega)), h.2.1 _ (hne 12 (by omega)) (by unfold BS at hb; omega) (by unfold BS at hb; omega)]
    exact ⟨q11, q10⟩
  have start : TK I J A β v 0 0 (am_sI (am_sI I β (upd (I β) 1 (I b 1))) β (upd (am_sI I β (upd (I β) 1 (I b 1)) β) 5 (iZ 0)), am_sL (am_sL (am_sL J β (vp_updL (J β) 2 (am_sI I β (upd (I β) 1 (I b 1)) b 9).toInt64)) β (vp_updL (am_sL J β (vp_updL (J β) 2 (am_sI I β (upd (I β) 1 (I b 1)) b 9).toInt64) β) 3 ((am_sI I β (upd (I β) 1 (I b 1)) b 2).toInt64 * (am_sI I β (upd (I β) 1 (I b 1)) b 3).toInt64))) β (vp_updL (am_sL (am_sL J β (vp_updL (J β) 2 (am_sI I β (upd (I β) 1 (I b 1)) b 9).toInt64)) β (vp_updL (am_sL J β (vp_updL (J β) 2 (am_sI I β (upd (I β) 1 (I b 1)) b 9).toInt64) β) 3 ((am_sI I β (upd (I β) 1 (I b 1)) b 2).toInt64 * (am_sI I β (upd (I β) 1 (I b 1)) b 3).toInt64)) β) 4 ((am_sI I β (upd (I β) 1 (I b 1)) b 5).toInt64 * lZ 10))) := by
    have h0 : b ≠ β := hne 0 (by omega)
    refine ⟨fun a h1 => ?_, fun a h1 h2 h3 => ?_, ?_, ?_, ?_, ?_, 0, by omega, ?_, fun j hj => by omega, fun z _ _ => rfl⟩
    · dsimp only; rw [sI_ne h1, sI_ne h1]
    · dsimp only; rw [sL_ne h1, sL_ne h1, sL_ne h1]
    · dsimp only; rw [sI_eq, up_ne (by decide), sI_eq, up_eq]; exact r1
    · dsimp only; rw [sL_eq, uL_ne (by decide), sL_eq, uL_ne (by decide), sL_eq, uL_eq, sI_ne h0, r9]; simp (disch := omega) only [z_i8, z_i16, z_of, z_ofN, z_lofN, z_0, z_1, z_m1, z_l0, z_l1, iZ_add, iZ_sub, iZ_mul, iZ_neg, lZ_add, lZ_sub, lZ_mul, lZ_neg, z_div, z_ldiv, z_l, z_i, z_lt, z_le, z_eq, z_llt, z_lle, z_leq, z_cgt, z_cge, z_clt, z_cle, z_ceq, z_cl, z_nat, Int.toNat_natCast, mm_I, mm_J, z_cln, z_abs, z_max, z_min, z_lmax, z_lmin, z_sin, Int.cast_ofNat_Int]
    · dsimp only; rw [sL_eq, uL_ne (by decide), sL_eq, uL_eq, sI_ne h0, r2, r3]; simp (disch := omega) only [z_i8, z_i16, z_of, z_ofN, z_lofN, z_0, z_1, z_m1, z_l0, z_l1, iZ_add, iZ_sub, iZ_mul, iZ_neg, lZ_add, lZ_sub, lZ_mul, lZ_neg, z_div, z_ldiv, z_l, z_i, z_lt, z_le, z_eq, z_llt, z_lle, z_leq, z_cgt, z_cge, z_clt, z_cle, z_ceq, z_cl, z_nat, Int.toNat_natCast, mm_I, mm_J, z_cln, z_abs, z_max, z_min, z_lmax, z_lmin, z_sin, Int.cast_ofNat_Int]; congr 1; unfold tkU; show _ = _ + 0 + 0; omega
    · dsimp only; rw [sL_eq, uL_eq, sI_ne h0, r5]; simp (disch := omega) only [z_i8, z_i16, z_of, z_ofN, z_lofN, z_0, z_1, z_m1, z_l0, z_l1, iZ_add, iZ_sub, iZ_mul, iZ_neg, lZ_add, lZ_sub, lZ_mul, lZ_neg, z_div, z_ldiv, z_l, z_i, z_lt, z_le, z_eq, z_llt, z_lle, z_leq, z_cgt, z_cge, z_clt, z_cle, z_ceq, z_cl, z_nat, Int.toNat_natCast, mm_I, mm_J, z_cln, z_abs, z_max, z_min, z_lmax, z_lmin, z_sin, Int.cast_ofNat_Int]; congr 1; unfold tkM; show _ = _ + 0 + 0; omega
    · dsimp only; rw [sI_eq, up_eq]; rfl
  rcases hb with ⟨rfl, rfl⟩ | ⟨rfl, rfl⟩ | ⟨rfl, rfl⟩ | ⟨rfl, rfl⟩ | ⟨rfl, rfl⟩ | ⟨rfl, rfl⟩ | ⟨rfl, rfl⟩ | ⟨rfl, rfl⟩
  ·   refine wc (hs := [65, 197]) 80 (by decide) ?_
      refine wp_keys [0, 1, 2, 3] rfl rfl ?_
      have L := lpU (σ := ((Nat → Nat → Int32) × (Nat → Nat → Int64)) × Int32) (fun _ s => wp E d 1 65 [(0, .ref 236), (1, .ref 1), (2, .ref (1 + 2)), (3, .int s.2)] [] (mm s.1.1 s.1.2 (fun x => if x = 236 then some (1 + 1) else A x)) Q) (fun i s => TK I J A 236 v i 0 s.1 ∧ s.2 = iZ i) (nP v) ?_ ?_
      · exact L 0 ((_, _), _) (by omega) ⟨start, rfl⟩
      · rintro ⟨⟨I', J'⟩, x3⟩ ⟨hT, e3⟩
        dsimp only at hT e3
        subst e3
        refine wf (hs := [65, 197]) 80 65 (by decide) ?_
        refine wt (Int32.le_of_eq (gz _ _ _ _ hT).1) ?_
        refine wp_keys [0, 1, 2, 3, 4] rfl rfl ?_
        have L2 := lpU (σ := ((Nat → Nat → Int32) × (Nat → Nat → Int64)) × Int32) (fun _ s => wp E d 1 197 [(0, .ref 236), (1, .ref 1), (2, .ref (1 + 2)), (3, .ref (1 + 14)), (4, .int s.2)] [] (mm s.1.1 s.1.2 (fun x => if x = 236 then some (1 + 1) else A x)) Q) (fun i s => TK I J A 236 v (nP v) i s.1 ∧ s.2 = iZ i) (nC v) ?_ ?_
        · exact L2 0 ((_, _), _) (by omega) ⟨hT, rfl⟩
        · rintro ⟨⟨I', J'⟩, x4⟩ ⟨hT, e4⟩
          dsimp only at hT e4
          subst e4
          refine wf (hs := [65, 197]) 80 197 (by decide) ?_
          refine wt (Int32.le_of_eq (gz _ _ _ _ hT).2) ?_
          exact fin _ _ hT
        · rintro i ⟨⟨I', J'⟩, x4⟩ hi ⟨hT, e4⟩ ih
          dsimp only at hT e4
          subst e4
          have hin : vp_in (iZ (i : Int)) 6 := z_in (by omega) (by omega) (by omega)
          refine wf (hs := [65, 197]) 80 197 (by decide) ?_
          refine wF (by show ¬ I' (1 + 14) 0 ≤ iZ i; rw [(gz _ _ _ _ hT).2]; simp (disch := omega) only [z_i8, z_i16, z_of, z_ofN, z_lofN, z_0, z_1, z_m1, z_l0, z_l1, iZ_add, iZ_sub, iZ_mul, iZ_neg, lZ_add, lZ_sub, lZ_mul, lZ_neg, z_div, z_ldiv, z_l, z_i, z_lt, z_le, z_eq, z_llt, z_lle, z_leq, z_cgt, z_cge, z_clt, z_cle, z_ceq, z_cl, z_nat, Int.toNat_natCast, mm_I, mm_J, z_cln, z_abs, z_max, z_min, z_lmax, z_lmin, z_sin, Int.cast_ofNat_Int]; omega) ?_
          refine And.intro hin (And.intro hin (And.intro hin (And.intro hin (And.intro hin ?_))))
          refine wp_keys [0, 1, 2, 3, 4] rfl rfl ?_
          exact ih ((_, _), _) ⟨TK_cargo (I' := I') (J' := J') hT (gUc i I' J' hi hT) (gMc i I' J' hi hT), iZ_add i 1⟩
      · rintro i ⟨⟨I', J'⟩, x3⟩ hi ⟨hT, e3⟩ ih
        dsimp only at hT e3
        subst e3
        have hin : vp_in (iZ (i : Int)) 12 := z_in (by omega) (by omega) (by omega)
        have hB := gB _ _ _ hi hT
        have w := hW.2.2.1 i hi
        have bb := (blkB w).2
        refine wf (hs := [65, 197]) 80 65 (by decide) ?_
        refine wF (by show ¬ I' (1 + 2) 0 ≤ iZ i; rw [(gz _ _ _ _ hT).1]; simp (disch := omega) only [z_i8, z_i16, z_of, z_ofN, z_lofN, z_0, z_1, z_m1, z_l0, z_l1, iZ_add, iZ_sub, iZ_mul, iZ_neg, lZ_add, lZ_sub, lZ_mul, lZ_neg, z_div, z_ldiv, z_l, z_i, z_lt, z_le, z_eq, z_llt, z_lle, z_leq, z_cgt, z_cge, z_clt, z_cle, z_ceq, z_cl, z_nat, Int.toNat_natCast, mm_I, mm_J, z_cln, z_abs, z_max, z_min, z_lmax, z_lmin, z_sin, Int.cast_ofNat_Int]; omega) ?_
        refine And.intro hin (And.intro hin (And.intro hin (And.intro (by decide) (And.intro hin (And.intro hin ?_)))))
        refine And.intro (fun q => ?_) (fun q => ?_)
        · have q : I' (1 + 13) (iZ (i : Int)).toNatClampNeg ≤ 0 := q
          rw [hB.1] at q
          simp (disch := omega) only [z_i8, z_i16, z_of, z_ofN, z_lofN, z_0, z_1, z_m1, z_l0, z_l1, iZ_add, iZ_sub, iZ_mul, iZ_neg, lZ_add, lZ_sub, lZ_mul, lZ_neg, z_div, z_ldiv, z_l, z_i, z_lt, z_le, z_eq, z_llt, z_lle, z_leq, z_cgt, z_cge, z_clt, z_cle, z_ceq, z_cl, z_nat, Int.toNat_natCast, mm_I, mm_J, z_cln, z_abs, z_max, z_min, z_lmax, z_lmin, z_sin, Int.cast_ofNat_Int] at q
          refine wp_keys [0, 1, 2, 3] rfl rfl ?_
          exact ih ((_, _), _) ⟨TK_skip (I' := I') (J' := J') hT w (by omega) (gU i I' J' hi hT) (gM i I' J' hi hT), iZ_add i 1⟩
        · obtain ⟨l, hl, h5, -⟩ := id hT.2.2.2.2.2.2
          have h5 : I' 236 5 = iZ l := h5
          have hinl : vp_in (I' 236 5) 12 := by rw [h5]; exact z_in (by omega) (by omega) (by omega)
          have hcl : (I' 236 5).toNatClampNeg = l := by rw [h5]; exact z_cln (by omega)
          refine And.intro hin (And.intro hinl (And.intro hin (And.intro hinl ?_)))
          refine wp_keys [0, 1, 2, 3] rfl rfl ?_
          refine ih ((_, _), _) ⟨TK_more (I' := I') (J' := J') (m1 := (I' 236 5).toNatClampNeg) (m2 := (I' 236 5).toNatClampNeg) hT w h5 (by omega) (by omega) (gU i I' J' hi hT) (gM i I' J' hi hT) hB.2 ?_ ?_ hcl hcl, iZ_add i 1⟩
          · show (I' (1 + 13) (iZ (i : Int)).toNatClampNeg).toInt64 = _
            rw [hB.1]
            simp (disch := omega) only [z_i8, z_i16, z_of, z_ofN, z_lofN, z_0, z_1, z_m1, z_l0, z_l1, iZ_add, iZ_sub, iZ_mul, iZ_neg, lZ_add, lZ_sub, lZ_mul, lZ_neg, z_div, z_ldiv, z_l, z_i, z_lt, z_le, z_eq, z_llt, z_lle, z_leq, z_cgt, z_cge, z_clt, z_cle, z_ceq, z_cl, z_nat, Int.toNat_natCast, mm_I, mm_J, z_cln, z_abs, z_max, z_min, z_lmax, z_lmin, z_sin, Int.cast_ofNat_Int]
          · show I' 236 5 + 1 = _
            rw [h5]; exact iZ_add l 1
  ·   refine wc (hs := [65, 197]) 80 (by decide) ?_
      refine wp_keys [0, 1, 2, 3] rfl rfl ?_
      have L := lpU (σ := ((Nat → Nat → Int32) × (Nat → Nat → Int64)) × Int32) (fun _ s => wp E d 1 65 [(0, .ref 247), (1, .ref 1), (2, .ref (1 + 2)), (3, .int s.2)] [] (mm s.1.1 s.1.2 (fun x => if x = 247 then some (1 + 1) else A x)) Q) (fun i s => TK I J A 247 v i 0 s.1 ∧ s.2 = iZ i) (nP v) ?_ ?_
      · exact L 0 ((_, _), _) (by omega) ⟨start, rfl⟩
      · rintro ⟨⟨I', J'⟩, x3⟩ ⟨hT, e3⟩
        dsimp only at hT e3
        subst e3
        refine wf (hs := [65, 197]) 80 65 (by decide) ?_
        refine wt (Int32.le_of_eq (gz _ _ _ _ hT).1) ?_
        refine wp_keys [0, 1, 2, 3, 4] rfl rfl ?_
        have L2 := lpU (σ := ((Nat → Nat → Int32) × (Nat → Nat → Int64)) × Int32) (fun _ s => wp E d 1 197 [(0, .ref 247), (1, .ref 1), (2, .ref (1 + 2)), (3, .ref (1 + 14)), (4, .int s.2)] [] (mm s.1.1 s.1.2 (fun x => if x = 247 then some (1 + 1) else A x)) Q) (fun i s => TK I J A 247 v (nP v) i s.1 ∧ s.2 = iZ i) (nC v) ?_ ?_
        · exact L2 0 ((_, _), _) (by omega) ⟨hT, rfl⟩
        · rintro ⟨⟨I', J'⟩, x4⟩ ⟨hT, e4⟩
          dsimp only at hT e4
          subst e4
          refine wf (hs := [65, 197]) 80 197 (by decide) ?_
          refine wt (Int32.le_of_eq (gz _ _ _ _ hT).2) ?_
          exact fin _ _ hT
        · rintro i ⟨⟨I', J'⟩, x4⟩ hi ⟨hT, e4⟩ ih
          dsimp only at hT e4
          subst e4
          have hin : vp_in (iZ (i : Int)) 6 := z_in (by omega) (by omega) (by omega)
          refine wf (hs := [65, 197]) 80 197 (by decide) ?_
          refine wF (by show ¬ I' (1 + 14) 0 ≤ iZ i; rw [(gz _ _ _ _ hT).2]; simp (disch := omega) only [z_i8, z_i16, z_of, z_ofN, z_lofN, z_0, z_1, z_m1, z_l0, z_l1, iZ_add, iZ_sub, iZ_mul, iZ_neg, lZ_add, lZ_sub, lZ_mul, lZ_neg, z_div, z_ldiv, z_l, z_i, z_lt, z_le, z_eq, z_llt, z_lle, z_leq, z_cgt, z_cge, z_clt, z_cle, z_ceq, z_cl, z_nat, Int.toNat_natCast, mm_I, mm_J, z_cln, z_abs, z_max, z_min, z_lmax, z_lmin, z_sin, Int.cast_ofNat_Int]; omega) ?_
          refine And.intro hin (And.intro hin (And.intro hin (And.intro hin (And.intro hin ?_))))
          refine wp_keys [0, 1, 2, 3, 4] rfl rfl ?_
          exact ih ((_, _), _) ⟨TK_cargo (I' := I') (J' := J') hT (gUc i I' J' hi hT) (gMc i I' J' hi hT), iZ_add i 1⟩
      · rintro i ⟨⟨I', J'⟩, x3⟩ hi ⟨hT, e3⟩ ih
        dsimp only at hT e3
        subst e3
        have hin : vp_in (iZ (i : Int)) 12 := z_in (by omega) (by omega) (by omega)
        have hB := gB _ _ _ hi hT
        have w := hW.2.2.1 i hi
        have bb := (blkB w).2
        refine wf (hs := [65, 197]) 80 65 (by decide) ?_
        refine wF (by show ¬ I' (1 + 2) 0 ≤ iZ i; rw [(gz _ _ _ _ hT).1]; simp (disch := omega) only [z_i8, z_i16, z_of, z_ofN, z_lofN, z_0, z_1, z_m1, z_l0, z_l1, iZ_add, iZ_sub, iZ_mul, iZ_neg, lZ_add, lZ_sub, lZ_mul, lZ_neg, z_div, z_ldiv, z_l, z_i, z_lt, z_le, z_eq, z_llt, z_lle, z_leq, z_cgt, z_cge, z_clt, z_cle, z_ceq, z_cl, z_nat, Int.toNat_natCast, mm_I, mm_J, z_cln, z_abs, z_max, z_min, z_lmax, z_lmin, z_sin, Int.cast_ofNat_Int]; omega) ?_
        refine And.intro hin (And.intro hin (And.intro hin (And.intro (by decide) (And.intro hin (And.intro hin ?_)))))
        refine And.intro (fun q => ?_) (fun q => ?_)
        · have q : I' (1 + 13) (iZ (i : Int)).toNatClampNeg ≤ 0 := q
          rw [hB.1] at q
          simp (disch := omega) only [z_i8, z_i16, z_of, z_ofN, z_lofN, z_0, z_1, z_m1, z_l0, z_l1, iZ_add, iZ_sub, iZ_mul, iZ_neg, lZ_add, lZ_sub, lZ_mul, lZ_neg, z_div, z_ldiv, z_l, z_i, z_lt, z_le, z_eq, z_llt, z_lle, z_leq, z_cgt, z_cge, z_clt, z_cle, z_ceq, z_cl, z_nat, Int.toNat_natCast, mm_I, mm_J, z_cln, z_abs, z_max, z_min, z_lmax, z_lmin, z_sin, Int.cast_ofNat_Int] at q
          refine wp_keys [0, 1, 2, 3] rfl rfl ?_
          exact ih ((_, _), _) ⟨TK_skip (I' := I') (J' := J') hT w (by omega) (gU i I' J' hi hT) (gM i I' J' hi hT), iZ_add i 1⟩
        · obtain ⟨l, hl, h5, -⟩ := id hT.2.2.2.2.2.2
          have h5 : I' 247 5 = iZ l := h5
          have hinl : vp_in (I' 247 5) 12 := by rw [h5]; exact z_in (by omega) (by omega) (by omega)
          have hcl : (I' 247 5).toNatClampNeg = l := by rw [h5]; exact z_cln (by omega)
          refine And.intro hin (And.intro hinl (And.intro hin (And.intro hinl ?_)))
          refine wp_keys [0, 1, 2, 3] rfl rfl ?_
          refine ih ((_, _), _) ⟨TK_more (I' := I') (J' := J') (m1 := (I' 247 5).toNatClampNeg) (m2 := (I' 247 5).toNatClampNeg) hT w h5 (by omega) (by omega) (gU i I' J' hi hT) (gM i I' J' hi hT) hB.2 ?_ ?_ hcl hcl, iZ_add i 1⟩
          · show (I' (1 + 13) (iZ (i : Int)).toNatClampNeg).toInt64 = _
            rw [hB.1]
            simp (disch := omega) only [z_i8, z_i16, z_of, z_ofN, z_lofN, z_0, z_1, z_m1, z_l0, z_l1, iZ_add, iZ_sub, iZ_mul, iZ_neg, lZ_add, lZ_sub, lZ_mul, lZ_neg, z_div, z_ldiv, z_l, z_i, z_lt, z_le, z_eq, z_llt, z_lle, z_leq, z_cgt, z_cge, z_clt, z_cle, z_ceq, z_cl, z_nat, Int.toNat_natCast, mm_I, mm_J, z_cln, z_abs, z_max, z_min, z_lmax, z_lmin, z_sin, Int.cast_ofNat_Int]
          · show I' 247 5 + 1 = _
            rw [h5]; exact iZ_add l 1
  ·   refine wc (hs := [65, 197]) 80 (by decide) ?_
      refine wp_keys [0, 1, 2, 3] rfl rfl ?_
      have L := lpU (σ := ((Nat → Nat → Int32) × (Nat → Nat → Int64)) × Int32) (fun _ s => wp E d 1 65 [(0, .ref 256), (1, .ref 1), (2, .ref (1 + 2)), (3, .int s.2)] [] (mm s.1.1 s.1.2 (fun x => if x = 256 then some (1 + 1) else A x)) Q) (fun i s => TK I J A 256 v i 0 s.1 ∧ s.2 = iZ i) (nP v) ?_ ?_
      · exact L 0 ((_, _), _) (by omega) ⟨start, rfl⟩
      · rintro ⟨⟨I', J'⟩, x3⟩ ⟨hT, e3⟩
        dsimp only at hT e3
        subst e3
        refine wf (hs := [65, 197]) 80 65 (by decide) ?_
        refine wt (Int32.le_of_eq (gz _ _ _ _ hT).1) ?_
        refine wp_keys [0, 1, 2, 3, 4] rfl rfl ?_
        have L2 := lpU (σ := ((Nat → Nat → Int32) × (Nat → Nat → Int64)) × Int32) (fun _ s => wp E d 1 197 [(0, .ref 256), (1, .ref 1), (2, .ref (1 + 2)), (3, .ref (1 + 14)), (4, .int s.2)] [] (mm s.1.1 s.1.2 (fun x => if x = 256 then some (1 + 1) else A x)) Q) (fun i s => TK I J A 256 v (nP v) i s.1 ∧ s.2 = iZ i) (nC v) ?_ ?_
        · exact L2 0 ((_, _), _) (by omega) ⟨hT, rfl⟩
        · rintro ⟨⟨I', J'⟩, x4⟩ ⟨hT, e4⟩
          dsimp only at hT e4
          subst e4
          refine wf (hs := [65, 197]) 80 197 (by decide) ?_
          refine wt (Int32.le_of_eq (gz _ _ _ _ hT).2) ?_
          exact fin _ _ hT
        · rintro i ⟨⟨I', J'⟩, x4⟩ hi ⟨hT, e4⟩ ih
          dsimp only at hT e4
          subst e4
          have hin : vp_in (iZ (i : Int)) 6 := z_in (by omega) (by omega) (by omega)
          refine wf (hs := [65, 197]) 80 197 (by decide) ?_
          refine wF (by show ¬ I' (1 + 14) 0 ≤ iZ i; rw [(gz _ _ _ _ hT).2]; simp (disch := omega) only [z_i8, z_i16, z_of, z_ofN, z_lofN, z_0, z_1, z_m1, z_l0, z_l1, iZ_add, iZ_sub, iZ_mul, iZ_neg, lZ_add, lZ_sub, lZ_mul, lZ_neg, z_div, z_ldiv, z_l, z_i, z_lt, z_le, z_eq, z_llt, z_lle, z_leq, z_cgt, z_cge, z_clt, z_cle, z_ceq, z_cl, z_nat, Int.toNat_natCast, mm_I, mm_J, z_cln, z_abs, z_max, z_min, z_lmax, z_lmin, z_sin, Int.cast_ofNat_Int]; omega) ?_
          refine And.intro hin (And.intro hin (And.intro hin (And.intro hin (And.intro hin ?_))))
          refine wp_keys [0, 1, 2, 3, 4] rfl rfl ?_
          exact ih ((_, _), _) ⟨TK_cargo (I' := I') (J' := J') hT (gUc i I' J' hi hT) (gMc i I' J' hi hT), iZ_add i 1⟩
      · rintro i ⟨⟨I', J'⟩, x3⟩ hi ⟨hT, e3⟩ ih
        dsimp only at hT e3
        subst e3
        have hin : vp_in (iZ (i : Int)) 12 := z_in (by omega) (by omega) (by omega)
        have hB := gB _ _ _ hi hT
        have w := hW.2.2.1 i hi
        have bb := (blkB w).2
        refine wf (hs := [65, 197]) 80 65 (by decide) ?_
        refine wF (by show ¬ I' (1 + 2) 0 ≤ iZ i; rw [(gz _ _ _ _ hT).1]; simp (disch := omega) only [z_i8, z_i16, z_of, z_ofN, z_lofN, z_0, z_1, z_m1, z_l0, z_l1, iZ_add, iZ_sub, iZ_mul, iZ_neg, lZ_add, lZ_sub, lZ_mul, lZ_neg, z_div, z_ldiv, z_l, z_i, z_lt, z_le, z_eq, z_llt, z_lle, z_leq, z_cgt, z_cge, z_clt, z_cle, z_ceq, z_cl, z_nat, Int.toNat_natCast, mm_I, mm_J, z_cln, z_abs, z_max, z_min, z_lmax, z_lmin, z_sin, Int.cast_ofNat_Int]; omega) ?_
        refine And.intro hin (And.intro hin (And.intro hin (And.intro (by decide) (And.intro hin (And.intro hin ?_)))))
        refine And.intro (fun q => ?_) (fun q => ?_)
        · have q : I' (1 + 13) (iZ (i : Int)).toNatClampNeg ≤ 0 := q
          rw [hB.1] at q
          simp (disch := omega) only [z_i8, z_i16, z_of, z_ofN, z_lofN, z_0, z_1, z_m1, z_l0, z_l1, iZ_add, iZ_sub, iZ_mul, iZ_neg, lZ_add, lZ_sub, lZ_mul, lZ_neg, z_div, z_ldiv, z_l, z_i, z_lt, z_le, z_eq, z_llt, z_lle, z_leq, z_cgt, z_cge, z_clt, z_cle, z_ceq, z_cl, z_nat, Int.toNat_natCast, mm_I, mm_J, z_cln, z_abs, z_max, z_min, z_lmax, z_lmin, z_sin, Int.cast_ofNat_Int] at q
          refine wp_keys [0, 1, 2, 3] rfl rfl ?_
          exact ih ((_, _), _) ⟨TK_skip (I' := I') (J' := J') hT w (by omega) (gU i I' J' hi hT) (gM i I' J' hi hT), iZ_add i 1⟩
        · obtain ⟨l, hl, h5, -⟩ := id hT.2.2.2.2.2.2
          have h5 : I' 256 5 = iZ l := h5
          have hinl : vp_in (I' 256 5) 12 := by rw [h5]; exact z_in (by omega) (by omega) (by omega)
          have hcl : (I' 256 5).toNatClampNeg = l := by rw [h5]; exact z_cln (by omega)
          refine And.intro hin (And.intro hinl (And.intro hin (And.intro hinl ?_)))
          refine wp_keys [0, 1, 2, 3] rfl rfl ?_
          refine ih ((_, _), _) ⟨TK_more (I' := I') (J' := J') (m1 := (I' 256 5).toNatClampNeg) (m2 := (I' 256 5).toNatClampNeg) hT w h5 (by omega) (by omega) (gU i I' J' hi hT) (gM i I' J' hi hT) hB.2 ?_ ?_ hcl hcl, iZ_add i 1⟩
          · show (I' (1 + 13) (iZ (i : Int)).toNatClampNeg).toInt64 = _
            rw [hB.1]
            simp (disch := omega) only [z_i8, z_i16, z_of, z_ofN, z_lofN, z_0, z_1, z_m1, z_l0, z_l1, iZ_add, iZ_sub, iZ_mul, iZ_neg, lZ_add, lZ_sub, lZ_mul, lZ_neg, z_div, z_ldiv, z_l, z_i, z_lt, z_le, z_eq, z_llt, z_lle, z_leq, z_cgt, z_cge, z_clt, z_cle, z_ceq, z_cl, z_nat, Int.toNat_natCast, mm_I, mm_J, z_cln, z_abs, z_max, z_min, z_lmax, z_lmin, z_sin, Int.cast_ofNat_Int]
          · show I' 256 5 + 1 = _
            rw [h5]; exact iZ_add l 1
  ·   refine wc (hs := [65, 197]) 80 (by decide) ?_
      refine wp_keys [0, 1, 2, 3] rfl rfl ?_
      have L := lpU (σ := ((Nat → Nat → Int32) × (Nat → Nat → Int64)) × Int32) (fun _ s => wp E d 1 65 [(0, .ref 241), (1, .ref 1), (2, .ref (1 + 2)), (3, .int s.2)] [] (mm s.1.1 s.1.2 (fun x => if x = 241 then some (1 + 1) else A x)) Q) (fun i s => TK I J A 241 v i 0 s.1 ∧ s.2 = iZ i) (nP v) ?_ ?_
      · exact L 0 ((_, _), _) (by omega) ⟨start, rfl⟩
      · rintro ⟨⟨I', J'⟩, x3⟩ ⟨hT, e3⟩
        dsimp only at hT e3
        subst e3
        refine wf (hs := [65, 197]) 80 65 (by decide) ?_
        refine wt (Int32.le_of_eq (gz _ _ _ _ hT).1) ?_
        refine wp_keys [0, 1, 2, 3, 4] rfl rfl ?_
        have L2 := lpU (σ := ((Nat → Nat → Int32) × (Nat → Nat → Int64)) × Int32) (fun _ s => wp E d 1 197 [(0, .ref 241), (1, .ref 1), (2, .ref (1 + 2)), (3, .ref (1 + 14)), (4, .int s.2)] [] (mm s.1.1 s.1.2 (fun x => if x = 241 then some (1 + 1) else A x)) Q) (fun i s => TK I J A 241 v (nP v) i s.1 ∧ s.2 = iZ i) (nC v) ?_ ?_
        · exact L2 0 ((_, _), _) (by omega) ⟨hT, rfl⟩
        · rintro ⟨⟨I', J'⟩, x4⟩ ⟨hT, e4⟩
          dsimp only at hT e4
          subst e4
          refine wf (hs := [65, 197]) 80 197 (by decide) ?_
          refine wt (Int32.le_of_eq (gz _ _ _ _ hT).2) ?_
          exact fin _ _ hT
        · rintro i ⟨⟨I', J'⟩, x4⟩ hi ⟨hT, e4⟩ ih
          dsimp only at hT e4
          subst e4
          have hin : vp_in (iZ (i : Int)) 6 := z_in (by omega) (by omega) (by omega)
          refine wf (hs := [65, 197]) 80 197 (by decide) ?_
          refine wF (by show ¬ I' (1 + 14) 0 ≤ iZ i; rw [(gz _ _ _ _ hT).2]; simp (disch := omega) only [z_i8, z_i16, z_of, z_ofN, z_lofN, z_0, z_1, z_m1, z_l0, z_l1, iZ_add, iZ_sub, iZ_mul, iZ_neg, lZ_add, lZ_sub, lZ_mul, lZ_neg, z_div, z_ldiv, z_l, z_i, z_lt, z_le, z_eq, z_llt, z_lle, z_leq, z_cgt, z_cge, z_clt, z_cle, z_ceq, z_cl, z_nat, Int.toNat_natCast, mm_I, mm_J, z_cln, z_abs, z_max, z_min, z_lmax, z_lmin, z_sin, Int.cast_ofNat_Int]; omega) ?_
          refine And.intro hin (And.intro hin (And.intro hin (And.intro hin (And.intro hin ?_))))
          refine wp_keys [0, 1, 2, 3, 4] rfl rfl ?_
          exact ih ((_, _), _) ⟨TK_cargo (I' := I') (J' := J') hT (gUc i I' J' hi hT) (gMc i I' J' hi hT), iZ_add i 1⟩
      · rintro i ⟨⟨I', J'⟩, x3⟩ hi ⟨hT, e3⟩ ih
        dsimp only at hT e3
        subst e3
        have hin : vp_in (iZ (i : Int)) 12 := z_in (by omega) (by omega) (by omega)
        have hB := gB _ _ _ hi hT
        have w := hW.2.2.1 i hi
        have bb := (blkB w).2
        refine wf (hs := [65, 197]) 80 65 (by decide) ?_
        refine wF (by show ¬ I' (1 + 2) 0 ≤ iZ i; rw [(gz _ _ _ _ hT).1]; simp (disch := omega) only [z_i8, z_i16, z_of, z_ofN, z_lofN, z_0, z_1, z_m1, z_l0, z_l1, iZ_add, iZ_sub, iZ_mul, iZ_neg, lZ_add, lZ_sub, lZ_mul, lZ_neg, z_div, z_ldiv, z_l, z_i, z_lt, z_le, z_eq, z_llt, z_lle, z_leq, z_cgt, z_cge, z_clt, z_cle, z_ceq, z_cl, z_nat, Int.toNat_natCast, mm_I, mm_J, z_cln, z_abs, z_max, z_min, z_lmax, z_lmin, z_sin, Int.cast_ofNat_Int]; omega) ?_
        refine And.intro hin (And.intro hin (And.intro hin (And.intro (by decide) (And.intro hin (And.intro hin ?_)))))
        refine And.intro (fun q => ?_) (fun q => ?_)
        · have q : I' (1 + 13) (iZ (i : Int)).toNatClampNeg ≤ 0 := q
          rw [hB.1] at q
          simp (disch := omega) only [z_i8, z_i16, z_of, z_ofN, z_lofN, z_0, z_1, z_m1, z_l0, z_l1, iZ_add, iZ_sub, iZ_mul, iZ_neg, lZ_add, lZ_sub, lZ_mul, lZ_neg, z_div, z_ldiv, z_l, z_i, z_lt, z_le, z_eq, z_llt, z_lle, z_leq, z_cgt, z_cge, z_clt, z_cle, z_ceq, z_cl, z_nat, Int.toNat_natCast, mm_I, mm_J, z_cln, z_abs, z_max, z_min, z_lmax, z_lmin, z_sin, Int.cast_ofNat_Int] at q
          refine wp_keys [0, 1, 2, 3] rfl rfl ?_
          exact ih ((_, _), _) ⟨TK_skip (I' := I') (J' := J') hT w (by omega) (gU i I' J' hi hT) (gM i I' J' hi hT), iZ_add i 1⟩
        · obtain ⟨l, hl, h5, -⟩ := id hT.2.2.2.2.2.2
          have h5 : I' 241 5 = iZ l := h5
          have hinl : vp_in (I' 241 5) 12 := by rw [h5]; exact z_in (by omega) (by omega) (by omega)
          have hcl : (I' 241 5).toNatClampNeg = l := by rw [h5]; exact z_cln (by omega)
          refine And.intro hin (And.intro hinl (And.intro hin (And.intro hinl ?_)))
          refine wp_keys [0, 1, 2, 3] rfl rfl ?_
          refine ih ((_, _), _) ⟨TK_more (I' := I') (J' := J') (m1 := (I' 241 5).toNatClampNeg) (m2 := (I' 241 5).toNatClampNeg) hT w h5 (by omega) (by omega) (gU i I' J' hi hT) (gM i I' J' hi hT) hB.2 ?_ ?_ hcl hcl, iZ_add i 1⟩
          · show (I' (1 + 13) (iZ (i : Int)).toNatClampNeg).toInt64 = _
            rw [hB.1]
            simp (disch := omega) only [z_i8, z_i16, z_of, z_ofN, z_lofN, z_0, z_1, z_m1, z_l0, z_l1, iZ_add, iZ_sub, iZ_mul, iZ_neg, lZ_add, lZ_sub, lZ_mul, lZ_neg, z_div, z_ldiv, z_l, z_i, z_lt, z_le, z_eq, z_llt, z_lle, z_leq, z_cgt, z_cge, z_clt, z_cle, z_ceq, z_cl, z_nat, Int.toNat_natCast, mm_I, mm_J, z_cln, z_abs, z_max, z_min, z_lmax, z_lmin, z_sin, Int.cast_ofNat_Int]
          · show I' 241 5 + 1 = _
            rw [h5]; exact iZ_add l 1
  ·   refine wc (hs := [65, 197]) 80 (by decide) ?_
      refine wp_keys [0, 1, 2, 3] rfl rfl ?_
      have L := lpU (σ := ((Nat → Nat → Int32) × (Nat → Nat → Int64)) × Int32) (fun _ s => wp E d 1 65 [(0, .ref 241), (1, .ref 35), (2, .ref (35 + 2)), (3, .int s.2)] [] (mm s.1.1 s.1.2 (fun x => if x = 241 then some (35 + 1) else A x)) Q) (fun i s => TK I J A 241 v i 0 s.1 ∧ s.2 = iZ i) (nP v) ?_ ?_
      · exact L 0 ((_, _), _) (by omega) ⟨start, rfl⟩
      · rintro ⟨⟨I', J'⟩, x3⟩ ⟨hT, e3⟩
        dsimp only at hT e3
        subst e3
        refine wf (hs := [65, 197]) 80 65 (by decide) ?_
        refine wt (Int32.le_of_eq (gz _ _ _ _ hT).1) ?_
        refine wp_keys [0, 1, 2, 3, 4] rfl rfl ?_
        have L2 := lpU (σ := ((Nat → Nat → Int32) × (Nat → Nat → Int64)) × Int32) (fun _ s => wp E d 1 197 [(0, .ref 241), (1, .ref 35), (2, .ref (35 + 2)), (3, .ref (35 + 14)), (4, .int s.2)] [] (mm s.1.1 s.1.2 (fun x => if x = 241 then some (35 + 1) else A x)) Q) (fun i s => TK I J A 241 v (nP v) i s.1 ∧ s.2 = iZ i) (nC v) ?_ ?_
        · exact L2 0 ((_, _), _) (by omega) ⟨hT, rfl⟩
        · rintro ⟨⟨I', J'⟩, x4⟩ ⟨hT, e4⟩
          dsimp only at hT e4
          subst e4
          refine wf (hs := [65, 197]) 80 197 (by decide) ?_
          refine wt (Int32.le_of_eq (gz _ _ _ _ hT).2) ?_
          exact fin _ _ hT
        · rintro i ⟨⟨I', J'⟩, x4⟩ hi ⟨hT, e4⟩ ih
          dsimp only at hT e4
          subst e4
          have hin : vp_in (iZ (i : Int)) 6 := z_in (by omega) (by omega) (by omega)
          refine wf (hs := [65, 197]) 80 197 (by decide) ?_
          refine wF (by show ¬ I' (35 + 14) 0 ≤ iZ i; rw [(gz _ _ _ _ hT).2]; simp (disch := omega) only [z_i8, z_i16, z_of, z_ofN, z_lofN, z_0, z_1, z_m1, z_l0, z_l1, iZ_add, iZ_sub, iZ_mul, iZ_neg, lZ_add, lZ_sub, lZ_mul, lZ_neg, z_div, z_ldiv, z_l, z_i, z_lt, z_le, z_eq, z_llt, z_lle, z_leq, z_cgt, z_cge, z_clt, z_cle, z_ceq, z_cl, z_nat, Int.toNat_natCast, mm_I, mm_J, z_cln, z_abs, z_max, z_min, z_lmax, z_lmin, z_sin, Int.cast_ofNat_Int]; omega) ?_
          refine And.intro hin (And.intro hin (And.intro hin (And.intro hin (And.intro hin ?_))))
          refine wp_keys [0, 1, 2, 3, 4] rfl rfl ?_
          exact ih ((_, _), _) ⟨TK_cargo (I' := I') (J' := J') hT (gUc i I' J' hi hT) (gMc i I' J' hi hT), iZ_add i 1⟩
      · rintro i ⟨⟨I', J'⟩, x3⟩ hi ⟨hT, e3⟩ ih
        dsimp only at hT e3
        subst e3
        have hin : vp_in (iZ (i : Int)) 12 := z_in (by omega) (by omega) (by omega)
        have hB := gB _ _ _ hi hT
        have w := hW.2.2.1 i hi
        have bb := (blkB w).2
        refine wf (hs := [65, 197]) 80 65 (by decide) ?_
        refine wF (by show ¬ I' (35 + 2) 0 ≤ iZ i; rw [(gz _ _ _ _ hT).1]; simp (disch := omega) only [z_i8, z_i16, z_of, z_ofN, z_lofN, z_0, z_1, z_m1, z_l0, z_l1, iZ_add, iZ_sub, iZ_mul, iZ_neg, lZ_add, lZ_sub, lZ_mul, lZ_neg, z_div, z_ldiv, z_l, z_i, z_lt, z_le, z_eq, z_llt, z_lle, z_leq, z_cgt, z_cge, z_clt, z_cle, z_ceq, z_cl, z_nat, Int.toNat_natCast, mm_I, mm_J, z_cln, z_abs, z_max, z_min, z_lmax, z_lmin, z_sin, Int.cast_ofNat_Int]; omega) ?_
        refine And.intro hin (And.intro hin (And.intro hin (And.intro (by decide) (And.intro hin (And.intro hin ?_)))))
        refine And.intro (fun q => ?_) (fun q => ?_)
        · have q : I' (35 + 13) (iZ (i : Int)).toNatClampNeg ≤ 0 := q
          rw [hB.1] at q
          simp (disch := omega) only [z_i8, z_i16, z_of, z_ofN, z_lofN, z_0, z_1, z_m1, z_l0, z_l1, iZ_add, iZ_sub, iZ_mul, iZ_neg, lZ_add, lZ_sub, lZ_mul, lZ_neg, z_div, z_ldiv, z_l, z_i, z_lt, z_le, z_eq, z_llt, z_lle, z_leq, z_cgt, z_cge, z_clt, z_cle, z_ceq, z_cl, z_nat, Int.toNat_natCast, mm_I, mm_J, z_cln, z_abs, z_max, z_min, z_lmax, z_lmin, z_sin, Int.cast_ofNat_Int] at q
          refine wp_keys [0, 1, 2, 3] rfl rfl ?_
          exact ih ((_, _), _) ⟨TK_skip (I' := I') (J' := J') hT w (by omega) (gU i I' J' hi hT) (gM i I' J' hi hT), iZ_add i 1⟩
        · obtain ⟨l, hl, h5, -⟩ := id hT.2.2.2.2.2.2
          have h5 : I' 241 5 = iZ l := h5
          have hinl : vp_in (I' 241 5) 12 := by rw [h5]; exact z_in (by omega) (by omega) (by omega)
          have hcl : (I' 241 5).toNatClampNeg = l := by rw [h5]; exact z_cln (by omega)
          refine And.intro hin (And.intro hinl (And.intro hin (And.intro hinl ?_)))
          refine wp_keys [0, 1, 2, 3] rfl rfl ?_
          refine ih ((_, _), _) ⟨TK_more (I' := I') (J' := J') (m1 := (I' 241 5).toNatClampNeg) (m2 := (I' 241 5).toNatClampNeg) hT w h5 (by omega) (by omega) (gU i I' J' hi hT) (gM i I' J' hi hT) hB.2 ?_ ?_ hcl hcl, iZ_add i 1⟩
          · show (I' (35 + 13) (iZ (i : Int)).toNatClampNeg).toInt64 = _
            rw [hB.1]
            simp (disch := omega) only [z_i8, z_i16, z_of, z_ofN, z_lofN, z_0, z_1, z_m1, z_l0, z_l1, iZ_add, iZ_sub, iZ_mul, iZ_neg, lZ_add, lZ_sub, lZ_mul, lZ_neg, z_div, z_ldiv, z_l, z_i, z_lt, z_le, z_eq, z_llt, z_lle, z_leq, z_cgt, z_cge, z_clt, z_cle, z_ceq, z_cl, z_nat, Int.toNat_natCast, mm_I, mm_J, z_cln, z_abs, z_max, z_min, z_lmax, z_lmin, z_sin, Int.cast_ofNat_Int]
          · show I' 241 5 + 1 = _
            rw [h5]; exact iZ_add l 1
  ·   refine wc (hs := [65, 197]) 80 (by decide) ?_
      refine wp_keys [0, 1, 2, 3] rfl rfl ?_
      have L := lpU (σ := ((Nat → Nat → Int32) × (Nat → Nat → Int64)) × Int32) (fun _ s => wp E d 1 65 [(0, .ref 241), (1, .ref 68), (2, .ref (68 + 2)), (3, .int s.2)] [] (mm s.1.1 s.1.2 (fun x => if x = 241 then some (68 + 1) else A x)) Q) (fun i s => TK I J A 241 v i 0 s.1 ∧ s.2 = iZ i) (nP v) ?_ ?_
      · exact L 0 ((_, _), _) (by omega) ⟨start, rfl⟩
      · rintro ⟨⟨I', J'⟩, x3⟩ ⟨hT, e3⟩
        dsimp only at hT e3
        subst e3
        refine wf (hs := [65, 197]) 80 65 (by decide) ?_
        refine wt (Int32.le_of_eq (gz _ _ _ _ hT).1) ?_
        refine wp_keys [0, 1, 2, 3, 4] rfl rfl ?_
        have L2 := lpU (σ := ((Nat → Nat → Int32) × (Nat → Nat → Int64)) × Int32) (fun _ s => wp E d 1 197 [(0, .ref 241), (1, .ref 68), (2, .ref (68 + 2)), (3, .ref (68 + 14)), (4, .int s.2)] [] (mm s.1.1 s.1.2 (fun x => if x = 241 then some (68 + 1) else A x)) Q) (fun i s => TK I J A 241 v (nP v) i s.1 ∧ s.2 = iZ i) (nC v) ?_ ?_
        · exact L2 0 ((_, _), _) (by omega) ⟨hT, rfl⟩
        · rintro ⟨⟨I', J'⟩, x4⟩ ⟨hT, e4⟩
          dsimp only at hT e4
          subst e4
          refine wf (hs := [65, 197]) 80 197 (by decide) ?_
          refine wt (Int32.le_of_eq (gz _ _ _ _ hT).2) ?_
          exact fin _ _ hT
        · rintro i ⟨⟨I', J'⟩, x4⟩ hi ⟨hT, e4⟩ ih
          dsimp only at hT e4
          subst e4
          have hin : vp_in (iZ (i : Int)) 6 := z_in (by omega) (by omega) (by omega)
          refine wf (hs := [65, 197]) 80 197 (by decide) ?_
          refine wF (by show ¬ I' (68 + 14) 0 ≤ iZ i; rw [(gz _ _ _ _ hT).2]; simp (disch := omega) only [z_i8, z_i16, z_of, z_ofN, z_lofN, z_0, z_1, z_m1, z_l0, z_l1, iZ_add, iZ_sub, iZ_mul, iZ_neg, lZ_add, lZ_sub, lZ_mul, lZ_neg, z_div, z_ldiv, z_l, z_i, z_lt, z_le, z_eq, z_llt, z_lle, z_leq, z_cgt, z_cge, z_clt, z_cle, z_ceq, z_cl, z_nat, Int.toNat_natCast, mm_I, mm_J, z_cln, z_abs, z_max, z_min, z_lmax, z_lmin, z_sin, Int.cast_ofNat_Int]; omega) ?_
          refine And.intro hin (And.intro hin (And.intro hin (And.intro hin (And.intro hin ?_))))
          refine wp_keys [0, 1, 2, 3, 4] rfl rfl ?_
          exact ih ((_, _), _) ⟨TK_cargo (I' := I') (J' := J') hT (gUc i I' J' hi hT) (gMc i I' J' hi hT), iZ_add i 1⟩
      · rintro i ⟨⟨I', J'⟩, x3⟩ hi ⟨hT, e3⟩ ih
        dsimp only at hT e3
        subst e3
        have hin : vp_in (iZ (i : Int)) 12 := z_in (by omega) (by omega) (by omega)
        have hB := gB _ _ _ hi hT
        have w := hW.2.2.1 i hi
        have bb := (blkB w).2
        refine wf (hs := [65, 197]) 80 65 (by decide) ?_
        refine wF (by show ¬ I' (68 + 2) 0 ≤ iZ i; rw [(gz _ _ _ _ hT).1]; simp (disch := omega) only [z_i8, z_i16, z_of, z_ofN, z_lofN, z_0, z_1, z_m1, z_l0, z_l1, iZ_add, iZ_sub, iZ_mul, iZ_neg, lZ_add, lZ_sub, lZ_mul, lZ_neg, z_div, z_ldiv, z_l, z_i, z_lt, z_le, z_eq, z_llt, z_lle, z_leq, z_cgt, z_cge, z_clt, z_cle, z_ceq, z_cl, z_nat, Int.toNat_natCast, mm_I, mm_J, z_cln, z_abs, z_max, z_min, z_lmax, z_lmin, z_sin, Int.cast_ofNat_Int]; omega) ?_
        refine And.intro hin (And.intro hin (And.intro hin (And.intro (by decide) (And.intro hin (And.intro hin ?_)))))
        refine And.intro (fun q => ?_) (fun q => ?_)
        · have q : I' (68 + 13) (iZ (i : Int)).toNatClampNeg ≤ 0 := q
          rw [hB.1] at q
          simp (disch := omega) only [z_i8, z_i16, z_of, z_ofN, z_lofN, z_0, z_1, z_m1, z_l0, z_l1, iZ_add, iZ_sub, iZ_mul, iZ_neg, lZ_add, lZ_sub, lZ_mul, lZ_neg, z_div, z_ldiv, z_l, z_i, z_lt, z_le, z_eq, z_llt, z_lle, z_leq, z_cgt, z_cge, z_clt, z_cle, z_ceq, z_cl, z_nat, Int.toNat_natCast, mm_I, mm_J, z_cln, z_abs, z_max, z_min, z_lmax, z_lmin, z_sin, Int.cast_ofNat_Int] at q
          refine wp_keys [0, 1, 2, 3] rfl rfl ?_
          exact ih ((_, _), _) ⟨TK_skip (I' := I') (J' := J') hT w (by omega) (gU i I' J' hi hT) (gM i I' J' hi hT), iZ_add i 1⟩
        · obtain ⟨l, hl, h5, -⟩ := id hT.2.2.2.2.2.2
          have h5 : I' 241 5 = iZ l := h5
          have hinl : vp_in (I' 241 5) 12 := by rw [h5]; exact z_in (by omega) (by omega) (by omega)
          have hcl : (I' 241 5).toNatClampNeg = l := by rw [h5]; exact z_cln (by omega)
          refine And.intro hin (And.intro hinl (And.intro hin (And.intro hinl ?_)))
          refine wp_keys [0, 1, 2, 3] rfl rfl ?_
          refine ih ((_, _), _) ⟨TK_more (I' := I') (J' := J') (m1 := (I' 241 5).toNatClampNeg) (m2 := (I' 241 5).toNatClampNeg) hT w h5 (by omega) (by omega) (gU i I' J' hi hT) (gM i I' J' hi hT) hB.2 ?_ ?_ hcl hcl, iZ_add i 1⟩
          · show (I' (68 + 13) (iZ (i : Int)).toNatClampNeg).toInt64 = _
            rw [hB.1]
            simp (disch := omega) only [z_i8, z_i16, z_of, z_ofN, z_lofN, z_0, z_1, z_m1, z_l0, z_l1, iZ_add, iZ_sub, iZ_mul, iZ_neg, lZ_add, lZ_sub, lZ_mul, lZ_neg, z_div, z_ldiv, z_l, z_i, z_lt, z_le, z_eq, z_llt, z_lle, z_leq, z_cgt, z_cge, z_clt, z_cle, z_ceq, z_cl, z_nat, Int.toNat_natCast, mm_I, mm_J, z_cln, z_abs, z_max, z_min, z_lmax, z_lmin, z_sin, Int.cast_ofNat_Int]
          · show I' 241 5 + 1 = _
            rw [h5]; exact iZ_add l 1
  ·   refine wc (hs := [65, 197]) 80 (by decide) ?_
      refine wp_keys [0, 1, 2, 3] rfl rfl ?_
      have L := lpU (σ := ((Nat → Nat → Int32) × (Nat → Nat → Int64)) × Int32) (fun _ s => wp E d 1 65 [(0, .ref 241), (1, .ref 101), (2, .ref (101 + 2)), (3, .int s.2)] [] (mm s.1.1 s.1.2 (fun x => if x = 241 then some (101 + 1) else A x)) Q) (fun i s => TK I J A 241 v i 0 s.1 ∧ s.2 = iZ i) (nP v) ?_ ?_
      · exact L 0 ((_, _), _) (by omega) ⟨start, rfl⟩
      · rintro ⟨⟨I', J'⟩, x3⟩ ⟨hT, e3⟩
        dsimp only at hT e3
        subst e3
        refine wf (hs := [65, 197]) 80 65 (by decide) ?_
        refine wt (Int32.le_of_eq (gz _ _ _ _ hT).1) ?_
        refine wp_keys [0, 1, 2, 3, 4] rfl rfl ?_
        have L2 := lpU (σ := ((Nat → Nat → Int32) × (Nat → Nat → Int64)) × Int32) (fun _ s => wp E d 1 197 [(0, .ref 241), (1, .ref 101), (2, .ref (101 + 2)), (3, .ref (101 + 14)), (4, .int s.2)] [] (mm s.1.1 s.1.2 (fun x => if x = 241 then some (101 + 1) else A x)) Q) (fun i s => TK I J A 241 v (nP v) i s.1 ∧ s.2 = iZ i) (nC v) ?_ ?_
        · exact L2 0 ((_, _), _) (by omega) ⟨hT, rfl⟩
        · rintro ⟨⟨I', J'⟩, x4⟩ ⟨hT, e4⟩
          dsimp only at hT e4
          subst e4
          refine wf (hs := [65, 197]) 80 197 (by decide) ?_
          refine wt (Int32.le_of_eq (gz _ _ _ _ hT).2) ?_
          exact fin _ _ hT
        · rintro i ⟨⟨I', J'⟩, x4⟩ hi ⟨hT, e4⟩ ih
          dsimp only at hT e4
          subst e4
          have hin : vp_in (iZ (i : Int)) 6 := z_in (by omega) (by omega) (by omega)
          refine wf (hs := [65, 197]) 80 197 (by decide) ?_
          refine wF (by show ¬ I' (101 + 14) 0 ≤ iZ i; rw [(gz _ _ _ _ hT).2]; simp (disch := omega) only [z_i8, z_i16, z_of, z_ofN, z_lofN, z_0, z_1, z_m1, z_l0, z_l1, iZ_add, iZ_sub, iZ_mul, iZ_neg, lZ_add, lZ_sub, lZ_mul, lZ_neg, z_div, z_ldiv, z_l, z_i, z_lt, z_le, z_eq, z_llt, z_lle, z_leq, z_cgt, z_cge, z_clt, z_cle, z_ceq, z_cl, z_nat, Int.toNat_natCast, mm_I, mm_J, z_cln, z_abs, z_max, z_min, z_lmax, z_lmin, z_sin, Int.cast_ofNat_Int]; omega) ?_
          refine And.intro hin (And.intro hin (And.intro hin (And.intro hin (And.intro hin ?_))))
          refine wp_keys [0, 1, 2, 3, 4] rfl rfl ?_
          exact ih ((_, _), _) ⟨TK_cargo (I' := I') (J' := J') hT (gUc i I' J' hi hT) (gMc i I' J' hi hT), iZ_add i 1⟩
      · rintro i ⟨⟨I', J'⟩, x3⟩ hi ⟨hT, e3⟩ ih
        dsimp only at hT e3
        subst e3
        have hin : vp_in (iZ (i : Int)) 12 := z_in (by omega) (by omega) (by omega)
        have hB := gB _ _ _ hi hT
        have w := hW.2.2.1 i hi
        have bb := (blkB w).2
        refine wf (hs := [65, 197]) 80 65 (by decide) ?_
        refine wF (by show ¬ I' (101 + 2) 0 ≤ iZ i; rw [(gz _ _ _ _ hT).1]; simp (disch := omega) only [z_i8, z_i16, z_of, z_ofN, z_lofN, z_0, z_1, z_m1, z_l0, z_l1, iZ_add, iZ_sub, iZ_mul, iZ_neg, lZ_add, lZ_sub, lZ_mul, lZ_neg, z_div, z_ldiv, z_l, z_i, z_lt, z_le, z_eq, z_llt, z_lle, z_leq, z_cgt, z_cge, z_clt, z_cle, z_ceq, z_cl, z_nat, Int.toNat_natCast, mm_I, mm_J, z_cln, z_abs, z_max, z_min, z_lmax, z_lmin, z_sin, Int.cast_ofNat_Int]; omega) ?_
        refine And.intro hin (And.intro hin (And.intro hin (And.intro (by decide) (And.intro hin (And.intro hin ?_)))))
        refine And.intro (fun q => ?_) (fun q => ?_)
        · have q : I' (101 + 13) (iZ (i : Int)).toNatClampNeg ≤ 0 := q
          rw [hB.1] at q
          simp (disch := omega) only [z_i8, z_i16, z_of, z_ofN, z_lofN, z_0, z_1, z_m1, z_l0, z_l1, iZ_add, iZ_sub, iZ_mul, iZ_neg, lZ_add, lZ_sub, lZ_mul, lZ_neg, z_div, z_ldiv, z_l, z_i, z_lt, z_le, z_eq, z_llt, z_lle, z_leq, z_cgt, z_cge, z_clt, z_cle, z_ceq, z_cl, z_nat, Int.toNat_natCast, mm_I, mm_J, z_cln, z_abs, z_max, z_min, z_lmax, z_lmin, z_sin, Int.cast_ofNat_Int] at q
          refine wp_keys [0, 1, 2, 3] rfl rfl ?_
          exact ih ((_, _), _) ⟨TK_skip (I' := I') (J' := J') hT w (by omega) (gU i I' J' hi hT) (gM i I' J' hi hT), iZ_add i 1⟩
        · obtain ⟨l, hl, h5, -⟩ := id hT.2.2.2.2.2.2
          have h5 : I' 241 5 = iZ l := h5
          have hinl : vp_in (I' 241 5) 12 := by rw [h5]; exact z_in (by omega) (by omega) (by omega)
          have hcl : (I' 241 5).toNatClampNeg = l := by rw [h5]; exact z_cln (by omega)
          refine And.intro hin (And.intro hinl (And.intro hin (And.intro hinl ?_)))
          refine wp_keys [0, 1, 2, 3] rfl rfl ?_
          refine ih ((_, _), _) ⟨TK_more (I' := I') (J' := J') (m1 := (I' 241 5).toNatClampNeg) (m2 := (I' 241 5).toNatClampNeg) hT w h5 (by omega) (by omega) (gU i I' J' hi hT) (gM i I' J' hi hT) hB.2 ?_ ?_ hcl hcl, iZ_add i 1⟩
          · show (I' (101 + 13) (iZ (i : Int)).toNatClampNeg).toInt64 = _
            rw [hB.1]
            simp (disch := omega) only [z_i8, z_i16, z_of, z_ofN, z_lofN, z_0, z_1, z_m1, z_l0, z_l1, iZ_add, iZ_sub, iZ_mul, iZ_neg, lZ_add, lZ_sub, lZ_mul, lZ_neg, z_div, z_ldiv, z_l, z_i, z_lt, z_le, z_eq, z_llt, z_lle, z_leq, z_cgt, z_cge, z_clt, z_cle, z_ceq, z_cl, z_nat, Int.toNat_natCast, mm_I, mm_J, z_cln, z_abs, z_max, z_min, z_lmax, z_lmin, z_sin, Int.cast_ofNat_Int]
          · show I' 241 5 + 1 = _
            rw [h5]; exact iZ_add l 1
  ·   refine wc (hs := [65, 197]) 80 (by decide) ?_
      refine wp_keys [0, 1, 2, 3] rfl rfl ?_
      have L := lpU (σ := ((Nat → Nat → Int32) × (Nat → Nat → Int64)) × Int32) (fun _ s => wp E d 1 65 [(0, .ref 241), (1, .ref 134), (2, .ref (134 + 2)), (3, .int s.2)] [] (mm s.1.1 s.1.2 (fun x => if x = 241 then some (134 + 1) else A x)) Q) (fun i s => TK I J A 241 v i 0 s.1 ∧ s.2 = iZ i) (nP v) ?_ ?_
      · exact L 0 ((_, _), _) (by omega) ⟨start, rfl⟩
      · rintro ⟨⟨I', J'⟩, x3⟩ ⟨hT, e3⟩
        dsimp only at hT e3
        subst e3
        refine wf (hs := [65, 197]) 80 65 (by decide) ?_
        refine wt (Int32.le_of_eq (gz _ _ _ _ hT).1) ?_
        refine wp_keys [0, 1, 2, 3, 4] rfl rfl ?_
        have L2 := lpU (σ := ((Nat → Nat → Int32) × (Nat → Nat → Int64)) × Int32) (fun _ s => wp E d 1 197 [(0, .ref 241), (1, .ref 134), (2, .ref (134 + 2)), (3, .ref (134 + 14)), (4, .int s.2)] [] (mm s.1.1 s.1.2 (fun x => if x = 241 then some (134 + 1) else A x)) Q) (fun i s => TK I J A 241 v (nP v) i s.1 ∧ s.2 = iZ i) (nC v) ?_ ?_
        · exact L2 0 ((_, _), _) (by omega) ⟨hT, rfl⟩
        · rintro ⟨⟨I', J'⟩, x4⟩ ⟨hT, e4⟩
          dsimp only at hT e4
          subst e4
          refine wf (hs := [65, 197]) 80 197 (by decide) ?_
          refine wt (Int32.le_of_eq (gz _ _ _ _ hT).2) ?_
          exact fin _ _ hT
        · rintro i ⟨⟨I', J'⟩, x4⟩ hi ⟨hT, e4⟩ ih
          dsimp only at hT e4
          subst e4
          have hin : vp_in (iZ (i : Int)) 6 := z_in (by omega) (by omega) (by omega)
          refine wf (hs := [65, 197]) 80 197 (by decide) ?_
          refine wF (by show ¬ I' (134 + 14) 0 ≤ iZ i; rw [(gz _ _ _ _ hT).2]; simp (disch := omega) only [z_i8, z_i16, z_of, z_ofN, z_lofN, z_0, z_1, z_m1, z_l0, z_l1, iZ_add, iZ_sub, iZ_mul, iZ_neg, lZ_add, lZ_sub, lZ_mul, lZ_neg, z_div, z_ldiv, z_l, z_i, z_lt, z_le, z_eq, z_llt, z_lle, z_leq, z_cgt, z_cge, z_clt, z_cle, z_ceq, z_cl, z_nat, Int.toNat_natCast, mm_I, mm_J, z_cln, z_abs, z_max, z_min, z_lmax, z_lmin, z_sin, Int.cast_ofNat_Int]; omega) ?_
          refine And.intro hin (And.intro hin (And.intro hin (And.intro hin (And.intro hin ?_))))
          refine wp_keys [0, 1, 2, 3, 4] rfl rfl ?_
          exact ih ((_, _), _) ⟨TK_cargo (I' := I') (J' := J') hT (gUc i I' J' hi hT) (gMc i I' J' hi hT), iZ_add i 1⟩
      · rintro i ⟨⟨I', J'⟩, x3⟩ hi ⟨hT, e3⟩ ih
        dsimp only at hT e3
        subst e3
        have hin : vp_in (iZ (i : Int)) 12 := z_in (by omega) (by omega) (by omega)
        have hB := gB _ _ _ hi hT
        have w := hW.2.2.1 i hi
        have bb := (blkB w).2
        refine wf (hs := [65, 197]) 80 65 (by decide) ?_
        refine wF (by show ¬ I' (134 + 2) 0 ≤ iZ i; rw [(gz _ _ _ _ hT).1]; simp (disch := omega) only [z_i8, z_i16, z_of, z_ofN, z_lofN, z_0, z_1, z_m1, z_l0, z_l1, iZ_add, iZ_sub, iZ_mul, iZ_neg, lZ_add, lZ_sub, lZ_mul, lZ_neg, z_div, z_ldiv, z_l, z_i, z_lt, z_le, z_eq, z_llt, z_lle, z_leq, z_cgt, z_cge, z_clt, z_cle, z_ceq, z_cl, z_nat, Int.toNat_natCast, mm_I, mm_J, z_cln, z_abs, z_max, z_min, z_lmax, z_lmin, z_sin, Int.cast_ofNat_Int]; omega) ?_
        refine And.intro hin (And.intro hin (And.intro hin (And.intro (by decide) (And.intro hin (And.intro hin ?_)))))
        refine And.intro (fun q => ?_) (fun q => ?_)
        · have q : I' (134 + 13) (iZ (i : Int)).toNatClampNeg ≤ 0 := q
          rw [hB.1] at q
          simp (disch := omega) only [z_i8, z_i16, z_of, z_ofN, z_lofN, z_0, z_1, z_m1, z_l0, z_l1, iZ_add, iZ_sub, iZ_mul, iZ_neg, lZ_add, lZ_sub, lZ_mul, lZ_neg, z_div, z_ldiv, z_l, z_i, z_lt, z_le, z_eq, z_llt, z_lle, z_leq, z_cgt, z_cge, z_clt, z_cle, z_ceq, z_cl, z_nat, Int.toNat_natCast, mm_I, mm_J, z_cln, z_abs, z_max, z_min, z_lmax, z_lmin, z_sin, Int.cast_ofNat_Int] at q
          refine wp_keys [0, 1, 2, 3] rfl rfl ?_
          exact ih ((_, _), _) ⟨TK_skip (I' := I') (J' := J') hT w (by omega) (gU i I' J' hi hT) (gM i I' J' hi hT), iZ_add i 1⟩
        · obtain ⟨l, hl, h5, -⟩ := id hT.2.2.2.2.2.2
          have h5 : I' 241 5 = iZ l := h5
          have hinl : vp_in (I' 241 5) 12 := by rw [h5]; exact z_in (by omega) (by omega) (by omega)
          have hcl : (I' 241 5).toNatClampNeg = l := by rw [h5]; exact z_cln (by omega)
          refine And.intro hin (And.intro hinl (And.intro hin (And.intro hinl ?_)))
          refine wp_keys [0, 1, 2, 3] rfl rfl ?_
          refine ih ((_, _), _) ⟨TK_more (I' := I') (J' := J') (m1 := (I' 241 5).toNatClampNeg) (m2 := (I' 241 5).toNatClampNeg) hT w h5 (by omega) (by omega) (gU i I' J' hi hT) (gM i I' J' hi hT) hB.2 ?_ ?_ hcl hcl, iZ_add i 1⟩
          · show (I' (134 + 13) (iZ (i : Int)).toNatClampNeg).toInt64 = _
            rw [hB.1]
            simp (disch := omega) only [z_i8, z_i16, z_of, z_ofN, z_lofN, z_0, z_1, z_m1, z_l0, z_l1, iZ_add, iZ_sub, iZ_mul, iZ_neg, lZ_add, lZ_sub, lZ_mul, lZ_neg, z_div, z_ldiv, z_l, z_i, z_lt, z_le, z_eq, z_llt, z_lle, z_leq, z_cgt, z_cge, z_clt, z_cle, z_ceq, z_cl, z_nat, Int.toNat_natCast, mm_I, mm_J, z_cln, z_abs, z_max, z_min, z_lmax, z_lmin, z_sin, Int.cast_ofNat_Int]
          · show I' 241 5 + 1 = _
            rw [h5]; exact iZ_add l 1
end C4
end
section
/-! ===== the class: places ===== -/
def setI (I : Nat → Nat → Int32) (a i : Nat) (x : Int32) : Nat → Nat → Int32 := am_sI I a (upd (I a) i x)
def setL (J : Nat → Nat → Int64) (a i : Nat) (x : Int64) : Nat → Nat → Int64 := am_sL J a (vp_updL (J a) i x)
theorem setI_at (I : Nat → Nat → Int32) (a i : Nat) (x : Int32) (a' i' : Nat) : setI I a i x a' i' = if a' = a ∧ i' = i then x else I a' i' := by
  unfold setI am_sI upd
  by_cases h : a' = a
  · subst h
    rw [if_pos rfl]
    by_cases h2 : i' = i
    · rw [if_pos h2, if_pos ⟨rfl, h2⟩]
    · rw [if_neg h2, if_neg (fun q => h2 q.2)]
  · rw [if_neg h, if_neg (fun q => h q.1)]
theorem setL_at (I : Nat → Nat → Int64) (a i : Nat) (x : Int64) (a' i' : Nat) : setL I a i x a' i' = if a' = a ∧ i' = i then x else I a' i' := by
  unfold setL am_sL vp_updL
  by_cases h : a' = a
  · subst h
    rw [if_pos rfl]
    by_cases h2 : i' = i
    · rw [if_pos h2, if_pos ⟨rfl, h2⟩]
    · rw [if_neg h2, if_neg (fun q => h2 q.2)]
  · rw [if_neg h, if_neg (fun q => h q.1)]
def holdI (I : Nat → Nat → Int32) (b p : Nat) (n lv bk : Int) : Nat → Nat → Int32 := setI (setI (setI I (b + 10) p (iZ n)) (b + 11) p (iZ lv)) (b + 13) p (iZ bk)
section C5
variable {E : Nat × (Nat → Int32)} {d : Nat} {I : Nat → Nat → Int32} {J : Nat → Nat → Int64} {A : Nat → Option Nat} {Q : Option Value → am_M → Prop} {M : am_M} {β b : Nat} {v : am_V} {mw mu mom : Int}
set_option maxHeartbeats 4000000 in
theorem c_hold {p : Nat} {n D B L W C : Int} {x y : Int32} (hb : B5 b) (hp : p < 12) (hD : I (b + 4) p = iZ D) (hB : I (b + 5) p = iZ B) (hL : I (b + 6) p = iZ L) (hW : I (b + 7) p = iZ W) (hC : I (b + 9) p = iZ C) (rD : 1 ≤ D ∧ D ≤ 999) (rB : 1 ≤ B ∧ B ≤ 400) (rL : 1 ≤ L ∧ L ≤ 2000) (rW : 1 ≤ W ∧ W ≤ 9) (rC : 0 ≤ C ∧ C ≤ 79920) (rn : 0 ≤ n ∧ n ≤ C) (ey : y = iZ p) (ex : x = iZ n) (hQ : Q none (mm (holdI I b p n (min D (n * 10000 / (B * L))) (5 * B * min n (C - n) / W)) J A)) : wpC E (d + 1) 31 [.ref (b + 2), .int y, .int x] (mm I J A) Q := by
  subst ex; subst ey
  have hin : vp_in (iZ (p : Int)) 12 := z_in (by omega) (by omega) (by omega)
  have m1 := mulb (a := B) (b := L) (A := 400) (B := 2000) (by omega) rB.2 (by omega) rL.2
  have m2 : 1 * 1 ≤ B * L := Int.mul_le_mul rB.1 rL.1 (by omega) (by omega)
  have m3 := Int.ediv_nonneg (a := n * 10000) (b := B * L) (by omega) (by omega)
  have m4 := Int.ediv_le_self (a := n * 10000) (B * L) (by omega)
  have m5 := mulb (a := 5 * B) (b := min n (C - n)) (A := 2000) (B := 79920) (by omega) (by omega) (by omega) (by omega)
  have m6 := Int.ediv_nonneg (a := 5 * B * min n (C - n)) (b := W) m5.1 (by omega)
  have m7 := Int.ediv_le_self (a := 5 * B * min n (C - n)) W m5.1
  rcases hb with rfl | rfl | rfl | rfl | rfl
  all_goals (
    simp only [Nat.reduceAdd] at hD hB hL hW hC
    refine wc (hs := []) 60 (by decide) ?_
    refine And.intro hin (And.intro hin (And.intro hin (And.intro hin (And.intro rfl (c_downE (a := n * 10000) (b := B * L) ?_ ?_ ⟨by omega, by omega⟩ ⟨by omega, by omega⟩ ?_)))))
    · simp (disch := omega) only [z_i8, z_i16, z_of, z_ofN, z_lofN, z_0, z_1, z_m1, z_l0, z_l1, iZ_add, iZ_sub, iZ_mul, iZ_neg, lZ_add, lZ_sub, lZ_mul, lZ_neg, z_div, z_ldiv, z_l, z_i, z_lt, z_le, z_eq, z_llt, z_lle, z_leq, z_cgt, z_cge, z_clt, z_cle, z_ceq, z_cl, z_nat, Int.toNat_natCast, mm_I, mm_J, z_cln, z_abs, z_max, z_min, z_lmax, z_lmin, z_sin, Int.cast_ofNat_Int, uI_I, uI_J, uL_I, uL_J, uA_I, uA_J, sI_eq, sI_ne, sL_eq, sL_ne, up_eq, up_ne, uL_eq, uL_ne]
    · simp (disch := omega) only [z_i8, z_i16, z_of, z_ofN, z_lofN, z_0, z_1, z_m1, z_l0, z_l1, iZ_add, iZ_sub, iZ_mul, iZ_neg, lZ_add, lZ_sub, lZ_mul, lZ_neg, z_div, z_ldiv, z_l, z_i, z_lt, z_le, z_eq, z_llt, z_lle, z_leq, z_cgt, z_cge, z_clt, z_cle, z_ceq, z_cl, z_nat, Int.toNat_natCast, mm_I, mm_J, z_cln, z_abs, z_max, z_min, z_lmax, z_lmin, z_sin, Int.cast_ofNat_Int, uI_I, uI_J, uL_I, uL_J, uA_I, uA_J, sI_eq, sI_ne, sL_eq, sL_ne, up_eq, up_ne, uL_eq, uL_ne, hB, hL]
    refine And.intro hin (And.intro hin (And.intro hin (And.intro hin (And.intro rfl (c_downE (a := 5 * B * min n (C - n)) (b := W) ?_ ?_ ⟨by omega, by omega⟩ ⟨by omega, by omega⟩ ?_)))))
    · simp (disch := omega) only [z_i8, z_i16, z_of, z_ofN, z_lofN, z_0, z_1, z_m1, z_l0, z_l1, iZ_add, iZ_sub, iZ_mul, iZ_neg, lZ_add, lZ_sub, lZ_mul, lZ_neg, z_div, z_ldiv, z_l, z_i, z_lt, z_le, z_eq, z_llt, z_lle, z_leq, z_cgt, z_cge, z_clt, z_cle, z_ceq, z_cl, z_nat, Int.toNat_natCast, mm_I, mm_J, z_cln, z_abs, z_max, z_min, z_lmax, z_lmin, z_sin, Int.cast_ofNat_Int, uI_I, uI_J, uL_I, uL_J, uA_I, uA_J, sI_eq, sI_ne, sL_eq, sL_ne, up_eq, up_ne, uL_eq, uL_ne, hB, hC]
    · simp (disch := omega) only [z_i8, z_i16, z_of, z_ofN, z_lofN, z_0, z_1, z_m1, z_l0, z_l1, iZ_add, iZ_sub, iZ_mul, iZ_neg, lZ_add, lZ_sub, lZ_mul, lZ_neg, z_div, z_ldiv, z_l, z_i, z_lt, z_le, z_eq, z_llt, z_lle, z_leq, z_cgt, z_cge, z_clt, z_cle, z_ceq, z_cl, z_nat, Int.toNat_natCast, mm_I, mm_J, z_cln, z_abs, z_max, z_min, z_lmax, z_lmin, z_sin, Int.cast_ofNat_Int, uI_I, uI_J, uL_I, uL_J, uA_I, uA_J, sI_eq, sI_ne, sL_eq, sL_ne, up_eq, up_ne, uL_eq, uL_ne, hW]
    refine And.intro hin ?_
    have e : ∀ M M' : am_M, M' = M → Q none M → Q none M' := fun M M' h q => h ▸ q
    refine e _ _ ?_ hQ
    unfold holdI setI
    simp (disch := omega) only [z_i8, z_i16, z_of, z_ofN, z_lofN, z_0, z_1, z_m1, z_l0, z_l1, iZ_add, iZ_sub, iZ_mul, iZ_neg, lZ_add, lZ_sub, lZ_mul, lZ_neg, z_div, z_ldiv, z_l, z_i, z_lt, z_le, z_eq, z_llt, z_lle, z_leq, z_cgt, z_cge, z_clt, z_cle, z_ceq, z_cl, z_nat, Int.toNat_natCast, mm_I, mm_J, z_cln, z_abs, z_max, z_min, z_lmax, z_lmin, z_sin, Int.cast_ofNat_Int, uI_I, uI_J, uL_I, uL_J, uA_I, uA_J, sI_eq, sI_ne, sL_eq, sL_ne, up_eq, up_ne, uL_eq, uL_ne, hD]
    rfl)
end C5
end
section
/-! ===== the class: water poured ===== -/
def vset (v : am_V) (a i : Nat) (x : Int) : am_V := fun a' i' => if a' = a ∧ i' = i then x else v a' i'
theorem vset_eq {v : am_V} {a i : Nat} {x : Int} : vset v a i x a i = x := if_pos ⟨rfl, rfl⟩
theorem vset_ni {v : am_V} {a i j : Nat} {x : Int} (h : j ≠ i) : vset v a i x a j = v a j := if_neg (fun q => h q.2)
theorem vset_na {v : am_V} {a i c j : Nat} {x : Int} (h : c ≠ a) : vset v a i x c j = v c j := if_neg (fun q => h q.1)
theorem holdI_at {I : Nat → Nat → Int32} {b p : Nat} {n lv bk : Int} (a k : Nat) : holdI I b p n lv bk a k = if a = b + 13 ∧ k = p then iZ bk else if a = b + 11 ∧ k = p then iZ lv else if a = b + 10 ∧ k = p then iZ n else I a k := by
  unfold holdI
  rw [setI_at, setI_at, setI_at]
theorem holdI_row {I : Nat → Nat → Int32} {b p : Nat} {n lv bk : Int} {a : Nat} (h1 : a ≠ b + 10) (h2 : a ≠ b + 11) (h3 : a ≠ b + 13) : holdI I b p n lv bk a = I a := by
  funext k
  rw [holdI_at, if_neg (fun q => h3 q.1), if_neg (fun q => h2 q.1), if_neg (fun q => h1 q.1)]
theorem holdI_ne {I : Nat → Nat → Int32} {b p : Nat} {n lv bk : Int} {a k : Nat} (h : k ≠ p) : holdI I b p n lv bk a k = I a k := by
  rw [holdI_at, if_neg (fun q => h q.2), if_neg (fun q => h q.2), if_neg (fun q => h q.2)]
theorem lev_ne {v : am_V} {p k : Nat} {n : Int} (h : k ≠ p) : levZ (vset v 276 p n) k = levZ v k := by
  show min (v 271 k) (vset v 276 p n 276 k * 10000 / (v 272 k * v 273 k)) = _
  rw [vset_ni h]; rfl
theorem blk_ne {v : am_V} {p k : Nat} {n : Int} (h : k ≠ p) : blkZ (vset v 276 p n) k = blkZ v k := by
  show 5 * v 272 k * min (vset v 276 p n 276 k) (capZ v k - vset v 276 p n 276 k) / v 274 k = _
  rw [vset_ni h]; rfl
theorem lev_eq {v : am_V} {p : Nat} {n : Int} : levZ (vset v 276 p n) p = min (v 271 p) (n * 10000 / (v 272 p * v 273 p)) := by
  show min (v 271 p) (vset v 276 p n 276 p * 10000 / (v 272 p * v 273 p)) = _
  rw [vset_eq]
theorem blk_eq {v : am_V} {p : Nat} {n : Int} : blkZ (vset v 276 p n) p = 5 * v 272 p * min n (capZ v p - n) / v 274 p := by
  show 5 * v 272 p * min (vset v 276 p n 276 p) (capZ v p - vset v 276 p n 276 p) / v 274 p = _
  rw [vset_eq]
theorem RS_hold {I : Nat → Nat → Int32} {J : Nat → Nat → Int64} {b p : Nat} {v : am_V} {t n : Int} (hR : RSt I J b v t) (hp : p < nP v) : RSt (holdI I b p n (levZ (vset v 276 p n) p) (blkZ (vset v 276 p n) p)) J b (vset v 276 p n) t := by
  obtain ⟨⟨r0, r1, r2, r3, r4, r5, r6, r7, r8, r9⟩, ra, ⟨rp0, rp, rz⟩, ⟨rc0, rc⟩, ⟨rd0, rd⟩, ⟨ro0, ro⟩, ⟨rl0, rl⟩⟩ := hR
  have g : ∀ j, j ≠ 10 → j ≠ 11 → j ≠ 13 → holdI I b p n (levZ (vset v 276 p n) p) (blkZ (vset v 276 p n) p) (b + j) = I (b + j) := fun j h1 h2 h3 => holdI_row (by omega) (by omega) (by omega)
  have g0 := g 0 (by decide) (by decide) (by decide)
  rw [Nat.add_zero] at g0
  refine ⟨?_, fun n hn => ?_, ⟨?_, fun k hk => ?_, fun k hk hk2 => ?_⟩, ⟨?_, fun k hk => ?_⟩, ⟨?_, fun k hk => ?_⟩, ⟨?_, fun k hk => ?_⟩, ⟨?_, fun k hk => ?_⟩⟩
  · unfold RSs
    rw [g0]
    exact ⟨r0, r1, r2, r3, r4, r5, r6, r7, r8, r9⟩
  · rw [g 1 (by decide) (by decide) (by decide)]; exact ra n hn
  · rw [g 2 (by decide) (by decide) (by decide)]; exact rp0
  · have hk : k < nP v := hk
    obtain ⟨q1, q2, q3, q4, q5, q6, q7, q8, q9, q10, q11⟩ := rp k hk
    unfold RSp
    rw [g 3 (by decide) (by decide) (by decide), g 4 (by decide) (by decide) (by decide), g 5 (by decide) (by decide) (by decide), g 6 (by decide) (by decide) (by decide), g 7 (by decide) (by decide) (by decide), g 8 (by decide) (by decide) (by decide), g 9 (by decide) (by decide) (by decide)]
    by_cases hkp : k = p
    · subst hkp
      refine ⟨q1, q2, q3, q4, q5, q6, q7, ?_, ?_, q10, ?_⟩
      · rw [holdI_at, if_neg (by omega), if_neg (by omega), if_pos ⟨rfl, rfl⟩, vset_eq]
      · rw [holdI_at, if_neg (by omega), if_pos ⟨rfl, rfl⟩]
      · rw [holdI_at, if_pos ⟨rfl, rfl⟩]
    · refine ⟨q1, q2, q3, q4, q5, q6, q7, ?_, ?_, q10, ?_⟩
      · rw [holdI_ne hkp, vset_ni hkp]; exact q8
      · rw [holdI_ne hkp, lev_ne hkp]; exact q9
      · rw [holdI_ne hkp, blk_ne hkp]; exact q11
  · have hk : nP v ≤ k := hk
    rw [holdI_ne (by omega)]; exact rz k hk hk2
  · rw [g 14 (by decide) (by decide) (by decide)]; exact rc0
  · unfold RSc
    rw [g 15 (by decide) (by decide) (by decide), g 16 (by decide) (by decide) (by decide), g 17 (by decide) (by decide) (by decide), g 18 (by decide) (by decide) (by decide), g 19 (by decide) (by decide) (by decide)]
    exact rc k hk
  · rw [g 20 (by decide) (by decide) (by decide)]; exact rd0
  · unfold RSd
    rw [g 21 (by decide) (by decide) (by decide), g 22 (by decide) (by decide) (by decide), g 23 (by decide) (by decide) (by decide), g 24 (by decide) (by decide) (by decide)]
    exact rd k hk
  · rw [g 25 (by decide) (by decide) (by decide)]; exact ro0
  · unfold RSo
    rw [g 26 (by decide) (by decide) (by decide), g 27 (by decide) (by decide) (by decide), g 28 (by decide) (by decide) (by decide), g 29 (by decide) (by decide) (by decide)]
    exact ro k hk
  · rw [g 30 (by decide) (by decide) (by decide)]; exact rl0
  · unfold RSl
    rw [g 31 (by decide) (by decide) (by decide), g 32 (by decide) (by decide) (by decide)]
    exact rl k hk
theorem sm_set {n p : Nat} {f g : Nat → Int} (hp : p < n) (h : ∀ k, k ≠ p → g k = f k) : sm n g = sm n f - f p + g p := by
  induction n with
  | zero => omega
  | succ n ih =>
    show sm n g + g n = sm n f + f n - f p + g p
    by_cases hn : p = n
    · subst hn
      have : sm p g = sm p f := sm_congr (fun k hk => h k (by omega))
      omega
    · have := ih (by omega)
      have := h n (by omega)
      omega
theorem tot_set {v : am_V} {p : Nat} {n mw : Int} (hp : p < nP v) : totZ (vset v 276 p n) mw = totZ v mw + n - v 276 p := by
  have := sm_set (n := nP v) (p := p) (f := fun k => v 276 k) (g := fun k => vset v 276 p n 276 k) hp (fun k hk => vset_ni hk)
  rw [vset_eq] at this
  show v 266 2 + mw + sm (nC v) (fun k => v 277 k) + sm (nP v) (fun k => vset v 276 p n 276 k) = _
  rw [this]
  unfold totZ
  omega
theorem Wf_set {v : am_V} {p : Nat} {n : Int} (h : Wf v) (hn : 0 ≤ n ∧ n ≤ capZ v p) : Wf (vset v 276 p n) := by
  refine ⟨h.1, h.2.1, fun k hk => ?_, h.2.2.2⟩
  obtain ⟨w0, w1, w2, w3, w4, w5, w6⟩ := h.2.2.1 k hk
  refine ⟨w0, w1, w2, w3, w4, w5, ?_⟩
  show 0 ≤ vset v 276 p n 276 k ∧ vset v 276 p n 276 k ≤ capZ v k
  by_cases hkp : k = p
  · subst hkp; rw [vset_eq]; exact hn
  · rw [vset_ni hkp]; exact w6
/-- nothing beside the ship is touched -/
def Fr (b : Nat) (I I' : Nat → Nat → Int32) : Prop := ∀ a, a < b ∨ b + 33 ≤ a → I' a = I a
theorem Fr_hold {I I' : Nat → Nat → Int32} {b p : Nat} {n lv bk : Int} (h : Fr b I I') : Fr b I (holdI I' b p n lv bk) := fun a ha => by
  rw [holdI_row (by omega) (by omega) (by omega)]; exact h a ha
section C6
variable {E : Nat × (Nat → Int32)} {d : Nat} {I : Nat → Nat → Int32} {J : Nat → Nat → Int64} {A : Nat → Option Nat} {Q : Option Value → am_M → Prop} {M : am_M} {β b : Nat} {v : am_V} {mw mu mom : Int}
theorem RS_tot {t t' : Int} {x : Int32} (hx : x = iZ t') (hR : RSt I J b v t) : RSt (setI I b 9 x) J b v t' := by
  subst hx
  have g : ∀ j, j ≠ 0 → setI I b 9 (iZ t') (b + j) = I (b + j) := fun j hj => by
    funext k
    rw [setI_at, if_neg (by omega)]
  have g0 : ∀ k, k ≠ 9 → setI I b 9 (iZ t') b k = I b k := fun k hk => by rw [setI_at, if_neg (by omega)]
  have g9 : setI I b 9 (iZ t') b 9 = iZ t' := by rw [setI_at, if_pos ⟨rfl, rfl⟩]
  unfold RSt RSs RSp RSc RSd RSo RSl at hR ⊢
  rw [g0 0 (by decide), g0 1 (by decide), g0 2 (by decide), g0 3 (by decide), g0 4 (by decide), g0 5 (by decide), g0 6 (by decide), g0 7 (by decide), g0 8 (by decide), g9, g 1 (by omega), g 2 (by omega), g 3 (by omega), g 4 (by omega), g 5 (by omega), g 6 (by omega), g 7 (by omega), g 8 (by omega), g 9 (by omega), g 10 (by omega), g 11 (by omega), g 13 (by omega), g 14 (by omega), g 15 (by omega), g 16 (by omega), g 17 (by omega), g 18 (by omega), g 19 (by omega), g 20 (by omega), g 21 (by omega), g 22 (by omega), g 23 (by omega), g 24 (by omega), g 25 (by omega), g 26 (by omega), g 27 (by omega), g 28 (by omega), g 29 (by omega), g 30 (by omega), g 31 (by omega), g 32 (by omega)]
  obtain ⟨⟨r0, r1, r2, r3, r4, r5, r6, r7, r8, r9⟩, rest⟩ := hR
  exact ⟨⟨r0, r1, r2, r3, r4, r5, r6, r7, r8, rfl⟩, rest⟩
theorem nP12 (h : Wf v) : nP v ≤ 12 := by have := h.1.2.2.2.2.2.2.2.2.1; unfold nP; omega
theorem c_pour {p : Nat} {n : Int} {x y : Int32} (hb : B5 b) (hR : RS I J b v) (hW : Wf v) (hp : p < nP v) (hn : 0 ≤ n ∧ n ≤ capZ v p) (ey : y = iZ p) (ex : x = iZ n) (hQ : ∀ I', RS I' J b (vset v 276 p n) → Fr b I I' → Q none (mm I' J A)) : wpC E (d + 2) 71 [.ref b, .int y, .int x] (mm I J A) Q := by
  have h12 := nP12 hW
  have hin : vp_in (iZ (p : Int)) 12 := z_in (by omega) (by omega) (by omega)
  have w := hW.2.2.1 p hp
  have cb := (capB w).2.2
  obtain ⟨w0, w1, w2, w3, w4, w5, w6⟩ := w
  have tt := totB hW (mw := 0) ⟨by omega, by omega⟩
  have h9 := hR.1.2.2.2.2.2.2.2.2.2
  obtain ⟨q1, q2, q3, q4, q5, q6, q7, q8, q9, q10, q11⟩ := id (hR.2.2.1.2.1 p hp)
  have key : ∀ (x : Int32) (Q' : Option Value → am_M → Prop), x = iZ (totZ (vset v 276 p n) 0) → (∀ M, Q none M → Q' none M) → wpC E (d + 1) 31 [.ref (b + 2), .int (iZ p), .int (iZ n)] (mm (setI I b 9 x) J A) Q' := by
    intro x Q' hx hQQ
    have hT := RS_tot hx hR
    obtain ⟨u1, u2, u3, u4, u5, u6, u7, u8, u9, u10, u11⟩ := id (hT.2.2.1.2.1 p hp)
    refine c_hold hb (by omega) u2 u3 u4 u5 u7 w1 w2 w3 w4 cb hn rfl rfl (hQQ _ ?_)
    have fin := hQ _ (RS_hold (n := n) hT hp) (Fr_hold (fun a ha => by
      funext k
      rw [setI_at, if_neg (by omega)]))
    rw [lev_eq, blk_eq] at fin
    exact fin
  subst ex; subst ey
  rcases id hb with rfl | rfl | rfl | rfl | rfl
  all_goals (
    refine wc (hs := []) 40 (by decide) ?_
    refine And.intro hin ?_
    refine And.intro rfl (key _ _ ?_ (fun M h => h))
    simp only [Nat.reduceAdd] at q8
    rw [tot_set hp]
    simp (disch := omega) only [z_i8, z_i16, z_of, z_ofN, z_lofN, z_0, z_1, z_m1, z_l0, z_l1, iZ_add, iZ_sub, iZ_mul, iZ_neg, lZ_add, lZ_sub, lZ_mul, lZ_neg, z_div, z_ldiv, z_l, z_i, z_lt, z_le, z_eq, z_llt, z_lle, z_leq, z_cgt, z_cge, z_clt, z_cle, z_ceq, z_cl, z_nat, Int.toNat_natCast, mm_I, mm_J, z_cln, z_abs, z_max, z_min, z_lmax, z_lmin, z_sin, Int.cast_ofNat_Int, uI_I, uI_J, uL_I, uL_J, uA_I, uA_J, sI_eq, sI_ne, sL_eq, sL_ne, up_eq, up_ne, uL_eq, uL_ne, h9, q8]
    omega)
theorem c_add {p : Nat} {n : Int} {x y : Int32} (hb : B5 b) (hR : RS I J b v) (hW : Wf v) (hp : p < nP v) (hn : 0 ≤ n ∧ n ≤ 100000000) (ey : y = iZ p) (ex : x = iZ n) (hQ : ∀ I', RS I' J b (vset v 276 p (min (v 276 p + n) (capZ v p))) → Fr b I I' → Q none (mm I' J A)) : wpC E (d + 3) 72 [.ref b, .int y, .int x] (mm I J A) Q := by
  have h12 := nP12 hW
  have hin : vp_in (iZ (p : Int)) 12 := z_in (by omega) (by omega) (by omega)
  have w := hW.2.2.1 p hp
  have cb := (capB w).2.2
  obtain ⟨w0, w1, w2, w3, w4, w5, w6⟩ := w
  obtain ⟨q1, q2, q3, q4, q5, q6, q7, q8, q9, q10, q11⟩ := id (hR.2.2.1.2.1 p hp)
  subst ex; subst ey
  rcases id hb with rfl | rfl | rfl | rfl | rfl
  all_goals (
    refine wc (hs := []) 40 (by decide) ?_
    refine And.intro hin (And.intro hin (And.intro rfl (c_pour hb hR hW hp (n := min (v 276 p + n) (capZ v p)) ⟨by omega, by omega⟩ rfl ?_ hQ)))
    simp only [Nat.reduceAdd] at q8 q7
    simp (disch := omega) only [z_i8, z_i16, z_of, z_ofN, z_lofN, z_0, z_1, z_m1, z_l0, z_l1, iZ_add, iZ_sub, iZ_mul, iZ_neg, lZ_add, lZ_sub, lZ_mul, lZ_neg, z_div, z_ldiv, z_l, z_i, z_lt, z_le, z_eq, z_llt, z_lle, z_leq, z_cgt, z_cge, z_clt, z_cle, z_ceq, z_cl, z_nat, Int.toNat_natCast, mm_I, mm_J, z_cln, z_abs, z_max, z_min, z_lmax, z_lmin, z_sin, Int.cast_ofNat_Int, uI_I, uI_J, uL_I, uL_J, uA_I, uA_J, sI_eq, sI_ne, sL_eq, sL_ne, up_eq, up_ne, uL_eq, uL_ne, q7, q8])
theorem c_remove {p : Nat} {n : Int} {x y : Int32} (hb : B5 b) (hR : RS I J b v) (hW : Wf v) (hp : p < nP v) (hn : 0 ≤ n ∧ n ≤ 100000000) (ey : y = iZ p) (ex : x = iZ n) (hQ : ∀ I', RS I' J b (vset v 276 p (max (v 276 p - n) 0)) → Fr b I I' → Q none (mm I' J A)) : wpC E (d + 3) 73 [.ref b, .int y, .int x] (mm I J A) Q := by
  have h12 := nP12 hW
  have hin : vp_in (iZ (p : Int)) 12 := z_in (by omega) (by omega) (by omega)
  have w := hW.2.2.1 p hp
  have cb := (capB w).2.2
  obtain ⟨w0, w1, w2, w3, w4, w5, w6⟩ := w
  obtain ⟨q1, q2, q3, q4, q5, q6, q7, q8, q9, q10, q11⟩ := id (hR.2.2.1.2.1 p hp)
  subst ex; subst ey
  rcases id hb with rfl | rfl | rfl | rfl | rfl
  all_goals (
    refine wc (hs := []) 40 (by decide) ?_
    refine And.intro hin (And.intro rfl (c_pour hb hR hW hp (n := max (v 276 p - n) 0) ⟨by omega, by omega⟩ rfl ?_ hQ))
    simp only [Nat.reduceAdd] at q8 q7
    simp (disch := omega) only [z_i8, z_i16, z_of, z_ofN, z_lofN, z_0, z_1, z_m1, z_l0, z_l1, iZ_add, iZ_sub, iZ_mul, iZ_neg, lZ_add, lZ_sub, lZ_mul, lZ_neg, z_div, z_ldiv, z_l, z_i, z_lt, z_le, z_eq, z_llt, z_lle, z_leq, z_cgt, z_cge, z_clt, z_cle, z_ceq, z_cl, z_nat, Int.toNat_natCast, mm_I, mm_J, z_cln, z_abs, z_max, z_min, z_lmax, z_lmin, z_sin, Int.cast_ofNat_Int, uI_I, uI_J, uL_I, uL_J, uA_I, uA_J, sI_eq, sI_ne, sL_eq, sL_ne, up_eq, up_ne, uL_eq, uL_ne, q7, q8])
def crsZ (v : am_V) (a c : Nat) (m : Int) : Int := min m (min (v 276 a) (capZ v c - v 276 c))
theorem c_cross {a c : Nat} {m : Int} {x y z : Int32} (hb : B5 b) (hR : RS I J b v) (hW : Wf v) (ha : a < nP v) (hc : c < nP v) (hac : a ≠ c) (hm : 0 ≤ m ∧ m ≤ 100000000) (ex : x = iZ a) (ey : y = iZ c) (ez : z = iZ m) (hQ : ∀ I', RS I' J b (vset (vset v 276 a (v 276 a - crsZ v a c m)) 276 c (v 276 c + crsZ v a c m)) → Fr b I I' → Q none (mm I' J A)) : wpC E (d + 3) 74 [.ref b, .int x, .int y, .int z] (mm I J A) Q := by
  have h12 := nP12 hW
  have hina : vp_in (iZ (a : Int)) 12 := z_in (by omega) (by omega) (by omega)
  have hinc : vp_in (iZ (c : Int)) 12 := z_in (by omega) (by omega) (by omega)
  have wa := hW.2.2.1 a ha
  have cba := (capB wa).2.2
  obtain ⟨w0, w1, w2, w3, w4, w5, w6⟩ := wa
  have wc' := hW.2.2.1 c hc
  have cbc := (capB wc').2.2
  obtain ⟨x0, x1, x2, x3, x4, x5, x6⟩ := wc'
  obtain ⟨q1, q2, q3, q4, q5, q6, q7, q8, q9, q10, q11⟩ := id (hR.2.2.1.2.1 a ha)
  obtain ⟨u1, u2, u3, u4, u5, u6, u7, u8, u9, u10, u11⟩ := id (hR.2.2.1.2.1 c hc)
  have hg : crsZ v a c m = min m (min (v 276 a) (capZ v c - v 276 c)) := rfl
  have rg : 0 ≤ crsZ v a c m ∧ crsZ v a c m ≤ v 276 a ∧ crsZ v a c m ≤ capZ v c - v 276 c := by omega
  generalize hgg : crsZ v a c m = g at hQ rg hg
  have ev : vset v 276 a (v 276 a - g) 276 c = v 276 c := vset_ni (Ne.symm hac)
  subst ex; subst ey; subst ez
  rcases id hb with rfl | rfl | rfl | rfl | rfl
  all_goals (
    refine wc (hs := []) 60 (by decide) ?_
    refine And.intro hinc (And.intro hinc (And.intro hina (And.intro hina (And.intro rfl (c_pour hb hR hW ha (n := v 276 a - g) ⟨by omega, by omega⟩ rfl ?_ ?_)))))
    · simp only [Nat.reduceAdd] at q8 u7 u8
      simp (disch := omega) only [z_i8, z_i16, z_of, z_ofN, z_lofN, z_0, z_1, z_m1, z_l0, z_l1, iZ_add, iZ_sub, iZ_mul, iZ_neg, lZ_add, lZ_sub, lZ_mul, lZ_neg, z_div, z_ldiv, z_l, z_i, z_lt, z_le, z_eq, z_llt, z_lle, z_leq, z_cgt, z_cge, z_clt, z_cle, z_ceq, z_cl, z_nat, Int.toNat_natCast, mm_I, mm_J, z_cln, z_abs, z_max, z_min, z_lmax, z_lmin, z_sin, Int.cast_ofNat_Int, uI_I, uI_J, uL_I, uL_J, uA_I, uA_J, sI_eq, sI_ne, sL_eq, sL_ne, up_eq, up_ne, uL_eq, uL_ne, q8, u7, u8, ← hg]
    · intro I' hR' hF
      obtain ⟨t1, t2, t3, t4, t5, t6, t7, t8, t9, t10, t11⟩ := id (hR'.2.2.1.2.1 c hc)
      rw [ev] at t8
      refine And.intro hinc (And.intro rfl (c_pour hb hR' (Wf_set hW ⟨by omega, by omega⟩) hc (n := v 276 c + g) ⟨by omega, by show _ ≤ capZ v c; omega⟩ rfl ?_ ?_))
      · simp only [Nat.reduceAdd] at q8 u7 u8 t8
        simp (disch := omega) only [z_i8, z_i16, z_of, z_ofN, z_lofN, z_0, z_1, z_m1, z_l0, z_l1, iZ_add, iZ_sub, iZ_mul, iZ_neg, lZ_add, lZ_sub, lZ_mul, lZ_neg, z_div, z_ldiv, z_l, z_i, z_lt, z_le, z_eq, z_llt, z_lle, z_leq, z_cgt, z_cge, z_clt, z_cle, z_ceq, z_cl, z_nat, Int.toNat_natCast, mm_I, mm_J, z_cln, z_abs, z_max, z_min, z_lmax, z_lmin, z_sin, Int.cast_ofNat_Int, uI_I, uI_J, uL_I, uL_J, uA_I, uA_J, sI_eq, sI_ne, sL_eq, sL_ne, up_eq, up_ne, uL_eq, uL_ne, q8, u7, u8, t8, ← hg]
      · intro I'' hR'' hF'
        exact hQ I'' hR'' (fun r hr => (hF' r hr).trans (hF r hr)))
end C6
end
section
/-! ===== a round, as whole numbers ===== -/
def drZ (v : am_V) : Int := totZ v 0 / v 266 4
def tltZ (v : am_V) (k : Nat) : Int := v 272 k * 5 / v 274 k * sinZ (v 266 7).natAbs / 1000
def insZ (v : am_V) (k : Nat) (s : Int) : Int := if v 276 k = 0 then 0 else v 270 k + max 0 (min (if s = 0 then levZ v k else if (0 < v 266 7 ↔ 0 < s) then levZ v k + tltZ v k else levZ v k - tltZ v k) (v 271 k))
def outZ (v : am_V) (l s : Int) : Int := if s = 0 then drZ v + v 266 6 * v 266 6 / 10 else if (0 < l ↔ 0 < s) then drZ v + v 266 1 * 5 * sinZ l.natAbs / 1000 else drZ v - v 266 1 * 5 * sinZ l.natAbs / 1000
theorem drB {v : am_V} (h : Wf v) : 0 ≤ drZ v ∧ drZ v ≤ 2000000 := by
  have t := totB h (mw := 0) ⟨by omega, by omega⟩
  have k := h.1.2.2.2.1
  unfold drZ
  exact ⟨Int.ediv_nonneg (by omega) (by omega), Int.le_trans (Int.ediv_le_self _ (by omega)) (by omega)⟩
theorem tltB {v : am_V} {k : Nat} (h : Wf v) (hk : k < nP v) : (0 ≤ v 272 k * 5 / v 274 k ∧ v 272 k * 5 / v 274 k ≤ 2000) ∧ (0 ≤ v 272 k * 5 / v 274 k * sinZ (v 266 7).natAbs ∧ v 272 k * 5 / v 274 k * sinZ (v 266 7).natAbs ≤ 2000000) ∧ 0 ≤ tltZ v k ∧ tltZ v k ≤ 2000 := by
  obtain ⟨w0, w1, w2, w3, w4, w5, w6⟩ := h.2.2.1 k hk
  have l := h.1.2.2.2.2.2.2.1
  have s := sinR (z := ((v 266 7).natAbs : Int)) (by omega) (by omega)
  have a1 := Int.ediv_nonneg (a := v 272 k * 5) (b := v 274 k) (by omega) (by omega)
  have a2 := Int.ediv_le_self (a := v 272 k * 5) (v 274 k) (by omega)
  have m := mulb a1 (show v 272 k * 5 / v 274 k ≤ 2000 by omega) s.1 s.2
  unfold tltZ
  refine ⟨⟨a1, by omega⟩, ⟨m.1, by omega⟩, by omega, by omega⟩
theorem insB {v : am_V} {k : Nat} {s : Int} (h : Wf v) (hk : k < nP v) : 0 ≤ insZ v k s ∧ insZ v k s ≤ 2999 := by
  obtain ⟨w0, w1, w2, w3, w4, w5, w6⟩ := h.2.2.1 k hk
  unfold insZ
  split
  · omega
  · omega
theorem outT {v : am_V} {l : Int} (h : Wf v) (hl : -60 ≤ l ∧ l ≤ 60) : (0 ≤ v 266 1 * 5 * sinZ l.natAbs ∧ v 266 1 * 5 * sinZ l.natAbs ≤ 2000000) ∧ (0 ≤ v 266 6 * v 266 6 ∧ v 266 6 * v 266 6 ≤ 9801) := by
  have b := h.1.1
  have p := h.1.2.2.2.2.2.1
  have s := sinR (z := (l.natAbs : Int)) (by omega) (by omega)
  have m := mulb (a := v 266 1 * 5) (A := 2000) (by omega) (by omega) s.1 s.2
  have m2 := mulb (a := v 266 6) (b := v 266 6) (A := 99) (B := 99) p.1 p.2 p.1 p.2
  exact ⟨⟨m.1, by omega⟩, ⟨m2.1, by omega⟩⟩
theorem outB {v : am_V} {l s : Int} (h : Wf v) (hl : -60 ≤ l ∧ l ≤ 60) : -2000 ≤ outZ v l s ∧ outZ v l s ≤ 2002000 := by
  have d := drB h
  have t := outT h hl
  unfold outZ
  split
  · omega
  · split <;> omega
def porZ (v : am_V) (k : Nat) (n : Int) : am_V := vset v 276 k (max 0 (min (v 276 k + n) (capZ v k)))
def dorZ (v : am_V) (k : Nat) : am_V :=
  let more := outZ v (v 266 7) (v 283 k) - max (v 284 k) (insZ v (v 282 k).toNat (v 283 k))
  if 0 < more then porZ v (v 282 k).toNat (v 285 k * more / 100) else v
def prtZ (v : am_V) (k : Nat) : am_V :=
  let more := insZ v (v 286 k).toNat (v 287 k) - max (v 288 k) (outZ v (v 266 7) (v 287 k))
  if 0 < more then porZ v (v 286 k).toNat (-(v 289 k * more / 100)) else v
/-- what holes there are is as told -/
def WfD (v : am_V) (k : Nat) : Prop := (0 ≤ v 282 k ∧ v 282 k < nP v) ∧ (-1 ≤ v 283 k ∧ v 283 k ≤ 1) ∧ (0 ≤ v 284 k ∧ v 284 k ≤ 3000) ∧ (1 ≤ v 285 k ∧ v 285 k ≤ 200)
def WfO (v : am_V) (k : Nat) : Prop := (0 ≤ v 286 k ∧ v 286 k < nP v) ∧ (-1 ≤ v 287 k ∧ v 287 k ≤ 1) ∧ (0 ≤ v 288 k ∧ v 288 k ≤ 3000) ∧ (1 ≤ v 289 k ∧ v 289 k ≤ 200)
def WfN (v : am_V) (k : Nat) : Prop := (1 ≤ v 268 k ∧ v 268 k ≤ 9999) ∧ (0 ≤ v 269 k ∧ v 269 k ≤ 3000)
def WfH (v : am_V) : Prop := (∀ k, k < nD v → WfD v k) ∧ (∀ k, k < nO v → WfO v k) ∧ (∀ k, k < nL v → WfN v k)
section C7
variable {E : Nat × (Nat → Int32)} {d : Nat} {I : Nat → Nat → Int32} {J : Nat → Nat → Int64} {A : Nat → Option Nat} {Q : Option Value → am_M → Prop} {M : am_M} {β b : Nat} {v : am_V} {mw mu mom : Int}
theorem c_isOver (hb : B5 b) (hR : RS I J b v) (hW : Wf v) (h1 : v 266 7 = 60 ∨ v 266 7 = -60 → Q (some (.int 1)) (mm I J A)) (h0 : ¬ (v 266 7 = 60 ∨ v 266 7 = -60) → Q (some (.int 0)) (mm I J A)) : wpC E (d + 1) 69 [.ref b] (mm I J A) Q := by
  have h7 := hR.1.2.2.2.2.2.2.2.1
  have l := hW.1.2.2.2.2.2.2.1
  rcases id hb with rfl | rfl | rfl | rfl | rfl
  all_goals (
    refine wc (hs := []) 40 (by decide) ?_
    refine And.intro (fun q => ?_) (fun q => ?_)
    · simp (disch := omega) only [z_i8, z_i16, z_of, z_ofN, z_lofN, z_0, z_1, z_m1, z_l0, z_l1, iZ_add, iZ_sub, iZ_mul, iZ_neg, lZ_add, lZ_sub, lZ_mul, lZ_neg, z_div, z_ldiv, z_l, z_i, z_lt, z_le, z_eq, z_llt, z_lle, z_leq, z_cgt, z_cge, z_clt, z_cle, z_ceq, z_cl, z_nat, Int.toNat_natCast, mm_I, mm_J, z_cln, z_abs, z_max, z_min, z_lmax, z_lmin, z_sin, Int.cast_ofNat_Int, uI_I, uI_J, uL_I, uL_J, uA_I, uA_J, sI_eq, sI_ne, sL_eq, sL_ne, up_eq, up_ne, uL_eq, uL_ne, h7] at q
      exact And.intro rfl (h0 (by omega))
    · simp (disch := omega) only [z_i8, z_i16, z_of, z_ofN, z_lofN, z_0, z_1, z_m1, z_l0, z_l1, iZ_add, iZ_sub, iZ_mul, iZ_neg, lZ_add, lZ_sub, lZ_mul, lZ_neg, z_div, z_ldiv, z_l, z_i, z_lt, z_le, z_eq, z_llt, z_lle, z_leq, z_cgt, z_cge, z_clt, z_cle, z_ceq, z_cl, z_nat, Int.toNat_natCast, mm_I, mm_J, z_cln, z_abs, z_max, z_min, z_lmax, z_lmin, z_sin, Int.cast_ofNat_Int, uI_I, uI_J, uL_I, uL_J, uA_I, uA_J, sI_eq, sI_ne, sL_eq, sL_ne, up_eq, up_ne, uL_eq, uL_ne, h7] at q
      exact And.intro rfl (h1 (by omega)))
theorem c_draft (hb : B5 b) (hR : RS I J b v) (hW : Wf v) (hQ : Q (some (.int (iZ (drZ v)))) (mm I J A)) : wpC E (d + 1) 70 [.ref b] (mm I J A) Q := by
  have h9 := hR.1.2.2.2.2.2.2.2.2.2
  have h4 := hR.1.2.2.2.2.1
  have t := totB hW (mw := 0) ⟨by omega, by omega⟩
  have k := hW.1.2.2.2.1
  have db := drB hW
  rcases id hb with rfl | rfl | rfl | rfl | rfl
  all_goals (
    refine wc (hs := []) 40 (by decide) ?_
    refine And.intro rfl (c_downE (a := totZ v 0) (b := v 266 4) ?_ ?_ ⟨by omega, by omega⟩ ⟨by omega, by omega⟩ ?_)
    · simp (disch := omega) only [z_i8, z_i16, z_of, z_ofN, z_lofN, z_0, z_1, z_m1, z_l0, z_l1, iZ_add, iZ_sub, iZ_mul, iZ_neg, lZ_add, lZ_sub, lZ_mul, lZ_neg, z_div, z_ldiv, z_l, z_i, z_lt, z_le, z_eq, z_llt, z_lle, z_leq, z_cgt, z_cge, z_clt, z_cle, z_ceq, z_cl, z_nat, Int.toNat_natCast, mm_I, mm_J, z_cln, z_abs, z_max, z_min, z_lmax, z_lmin, z_sin, Int.cast_ofNat_Int, uI_I, uI_J, uL_I, uL_J, uA_I, uA_J, sI_eq, sI_ne, sL_eq, sL_ne, up_eq, up_ne, uL_eq, uL_ne, h9]
    · simp (disch := omega) only [z_i8, z_i16, z_of, z_ofN, z_lofN, z_0, z_1, z_m1, z_l0, z_l1, iZ_add, iZ_sub, iZ_mul, iZ_neg, lZ_add, lZ_sub, lZ_mul, lZ_neg, z_div, z_ldiv, z_l, z_i, z_lt, z_le, z_eq, z_llt, z_lle, z_leq, z_cgt, z_cge, z_clt, z_cle, z_ceq, z_cl, z_nat, Int.toNat_natCast, mm_I, mm_J, z_cln, z_abs, z_max, z_min, z_lmax, z_lmin, z_sin, Int.cast_ofNat_Int, uI_I, uI_J, uL_I, uL_J, uA_I, uA_J, sI_eq, sI_ne, sL_eq, sL_ne, up_eq, up_ne, uL_eq, uL_ne, h4]
    refine q_i hQ ?_
    show (lZ (drZ v)).toInt32 = _
    simp (disch := omega) only [z_i8, z_i16, z_of, z_ofN, z_lofN, z_0, z_1, z_m1, z_l0, z_l1, iZ_add, iZ_sub, iZ_mul, iZ_neg, lZ_add, lZ_sub, lZ_mul, lZ_neg, z_div, z_ldiv, z_l, z_i, z_lt, z_le, z_eq, z_llt, z_lle, z_leq, z_cgt, z_cge, z_clt, z_cle, z_ceq, z_cl, z_nat, Int.toNat_natCast, mm_I, mm_J, z_cln, z_abs, z_max, z_min, z_lmax, z_lmin, z_sin, Int.cast_ofNat_Int, uI_I, uI_J, uL_I, uL_J, uA_I, uA_J, sI_eq, sI_ne, sL_eq, sL_ne, up_eq, up_ne, uL_eq, uL_ne])
theorem c_outer {s l : Int} {x y : Int32} (hb : B5 b) (hR : RS I J b v) (hW : Wf v) (hl : -60 ≤ l ∧ l ≤ 60) (hs : -1 ≤ s ∧ s ≤ 1) (ex : x = iZ s) (ey : y = iZ l) (hQ : Q (some (.int (iZ (outZ v l s)))) (mm I J A)) : wpC E (d + 2) 75 [.ref b, .int x, .int y] (mm I J A) Q := by
  have h6 := hR.1.2.2.2.2.2.2.1
  have h1 := hR.1.2.1
  have db := drB hW
  have ot := outT hW hl
  have p := hW.1.2.2.2.2.2.1
  have b1 := hW.1.1
  have sr := sinR (z := (l.natAbs : Int)) (by omega) (by omega)
  subst ex; subst ey
  rcases id hb with rfl | rfl | rfl | rfl | rfl
  all_goals (
    refine wc (hs := []) 60 (by decide) ?_
    refine And.intro (fun q => ?_) (fun q => ?_)
    · simp (disch := omega) only [z_i8, z_i16, z_of, z_ofN, z_lofN, z_0, z_1, z_m1, z_l0, z_l1, iZ_add, iZ_sub, iZ_mul, iZ_neg, lZ_add, lZ_sub, lZ_mul, lZ_neg, z_div, z_ldiv, z_l, z_i, z_lt, z_le, z_eq, z_llt, z_lle, z_leq, z_cgt, z_cge, z_clt, z_cle, z_ceq, z_cl, z_nat, Int.toNat_natCast, mm_I, mm_J, z_cln, z_abs, z_max, z_min, z_lmax, z_lmin, z_sin, Int.cast_ofNat_Int, uI_I, uI_J, uL_I, uL_J, uA_I, uA_J, sI_eq, sI_ne, sL_eq, sL_ne, up_eq, up_ne, uL_eq, uL_ne] at q
      refine And.intro rfl (c_draft hb hR hW (And.intro (by decide) ?_))
      refine q_i hQ ?_
      simp (disch := omega) only [z_i8, z_i16, z_of, z_ofN, z_lofN, z_0, z_1, z_m1, z_l0, z_l1, iZ_add, iZ_sub, iZ_mul, iZ_neg, lZ_add, lZ_sub, lZ_mul, lZ_neg, z_div, z_ldiv, z_l, z_i, z_lt, z_le, z_eq, z_llt, z_lle, z_leq, z_cgt, z_cge, z_clt, z_cle, z_ceq, z_cl, z_nat, Int.toNat_natCast, mm_I, mm_J, z_cln, z_abs, z_max, z_min, z_lmax, z_lmin, z_sin, Int.cast_ofNat_Int, uI_I, uI_J, uL_I, uL_J, uA_I, uA_J, sI_eq, sI_ne, sL_eq, sL_ne, up_eq, up_ne, uL_eq, uL_ne, h6]
      unfold outZ
      rw [if_pos q]
    · simp (disch := omega) only [z_i8, z_i16, z_of, z_ofN, z_lofN, z_0, z_1, z_m1, z_l0, z_l1, iZ_add, iZ_sub, iZ_mul, iZ_neg, lZ_add, lZ_sub, lZ_mul, lZ_neg, z_div, z_ldiv, z_l, z_i, z_lt, z_le, z_eq, z_llt, z_lle, z_leq, z_cgt, z_cge, z_clt, z_cle, z_ceq, z_cl, z_nat, Int.toNat_natCast, mm_I, mm_J, z_cln, z_abs, z_max, z_min, z_lmax, z_lmin, z_sin, Int.cast_ofNat_Int, uI_I, uI_J, uL_I, uL_J, uA_I, uA_J, sI_eq, sI_ne, sL_eq, sL_ne, up_eq, up_ne, uL_eq, uL_ne] at q
      refine And.intro (by simp (disch := omega) only [z_i8, z_i16, z_of, z_ofN, z_lofN, z_0, z_1, z_m1, z_l0, z_l1, iZ_add, iZ_sub, iZ_mul, iZ_neg, lZ_add, lZ_sub, lZ_mul, lZ_neg, z_div, z_ldiv, z_l, z_i, z_lt, z_le, z_eq, z_llt, z_lle, z_leq, z_cgt, z_cge, z_clt, z_cle, z_ceq, z_cl, z_nat, Int.toNat_natCast, mm_I, mm_J, z_cln, z_abs, z_max, z_min, z_lmax, z_lmin, z_sin, Int.cast_ofNat_Int, uI_I, uI_J, uL_I, uL_J, uA_I, uA_J, sI_eq, sI_ne, sL_eq, sL_ne, up_eq, up_ne, uL_eq, uL_ne]; exact z_in (by omega) (by omega) (by omega)) (And.intro (by decide) ?_)
      refine And.intro rfl (c_draft hb hR hW ?_)
      refine And.intro (fun q2 => ?_) (fun q2 => ?_)
      · simp (disch := omega) only [z_i8, z_i16, z_of, z_ofN, z_lofN, z_0, z_1, z_m1, z_l0, z_l1, iZ_add, iZ_sub, iZ_mul, iZ_neg, lZ_add, lZ_sub, lZ_mul, lZ_neg, z_div, z_ldiv, z_l, z_i, z_lt, z_le, z_eq, z_llt, z_lle, z_leq, z_cgt, z_cge, z_clt, z_cle, z_ceq, z_cl, z_nat, Int.toNat_natCast, mm_I, mm_J, z_cln, z_abs, z_max, z_min, z_lmax, z_lmin, z_sin, Int.cast_ofNat_Int, uI_I, uI_J, uL_I, uL_J, uA_I, uA_J, sI_eq, sI_ne, sL_eq, sL_ne, up_eq, up_ne, uL_eq, uL_ne] at q2
        refine And.intro (fun q3 => ?_) (fun q3 => ?_)
        · simp (disch := omega) only [z_i8, z_i16, z_of, z_ofN, z_lofN, z_0, z_1, z_m1, z_l0, z_l1, iZ_add, iZ_sub, iZ_mul, iZ_neg, lZ_add, lZ_sub, lZ_mul, lZ_neg, z_div, z_ldiv, z_l, z_i, z_lt, z_le, z_eq, z_llt, z_lle, z_leq, z_cgt, z_cge, z_clt, z_cle, z_ceq, z_cl, z_nat, Int.toNat_natCast, mm_I, mm_J, z_cln, z_abs, z_max, z_min, z_lmax, z_lmin, z_sin, Int.cast_ofNat_Int, uI_I, uI_J, uL_I, uL_J, uA_I, uA_J, sI_eq, sI_ne, sL_eq, sL_ne, up_eq, up_ne, uL_eq, uL_ne] at q3
          refine wt rfl (q_i hQ ?_)
          simp (disch := omega) only [z_i8, z_i16, z_of, z_ofN, z_lofN, z_0, z_1, z_m1, z_l0, z_l1, iZ_add, iZ_sub, iZ_mul, iZ_neg, lZ_add, lZ_sub, lZ_mul, lZ_neg, z_div, z_ldiv, z_l, z_i, z_lt, z_le, z_eq, z_llt, z_lle, z_leq, z_cgt, z_cge, z_clt, z_cle, z_ceq, z_cl, z_nat, Int.toNat_natCast, mm_I, mm_J, z_cln, z_abs, z_max, z_min, z_lmax, z_lmin, z_sin, Int.cast_ofNat_Int, uI_I, uI_J, uL_I, uL_J, uA_I, uA_J, sI_eq, sI_ne, sL_eq, sL_ne, up_eq, up_ne, uL_eq, uL_ne, h1, z_sinN]
          unfold outZ
          rw [if_neg q, if_pos (by omega)]
        · simp (disch := omega) only [z_i8, z_i16, z_of, z_ofN, z_lofN, z_0, z_1, z_m1, z_l0, z_l1, iZ_add, iZ_sub, iZ_mul, iZ_neg, lZ_add, lZ_sub, lZ_mul, lZ_neg, z_div, z_ldiv, z_l, z_i, z_lt, z_le, z_eq, z_llt, z_lle, z_leq, z_cgt, z_cge, z_clt, z_cle, z_ceq, z_cl, z_nat, Int.toNat_natCast, mm_I, mm_J, z_cln, z_abs, z_max, z_min, z_lmax, z_lmin, z_sin, Int.cast_ofNat_Int, uI_I, uI_J, uL_I, uL_J, uA_I, uA_J, sI_eq, sI_ne, sL_eq, sL_ne, up_eq, up_ne, uL_eq, uL_ne] at q3
          refine wF (by decide) (q_i hQ ?_)
          simp (disch := omega) only [z_i8, z_i16, z_of, z_ofN, z_lofN, z_0, z_1, z_m1, z_l0, z_l1, iZ_add, iZ_sub, iZ_mul, iZ_neg, lZ_add, lZ_sub, lZ_mul, lZ_neg, z_div, z_ldiv, z_l, z_i, z_lt, z_le, z_eq, z_llt, z_lle, z_leq, z_cgt, z_cge, z_clt, z_cle, z_ceq, z_cl, z_nat, Int.toNat_natCast, mm_I, mm_J, z_cln, z_abs, z_max, z_min, z_lmax, z_lmin, z_sin, Int.cast_ofNat_Int, uI_I, uI_J, uL_I, uL_J, uA_I, uA_J, sI_eq, sI_ne, sL_eq, sL_ne, up_eq, up_ne, uL_eq, uL_ne, h1, z_sinN]
          unfold outZ
          rw [if_neg q, if_neg (by omega)]
          first | omega | (congr 1; omega) | rfl
      · simp (disch := omega) only [z_i8, z_i16, z_of, z_ofN, z_lofN, z_0, z_1, z_m1, z_l0, z_l1, iZ_add, iZ_sub, iZ_mul, iZ_neg, lZ_add, lZ_sub, lZ_mul, lZ_neg, z_div, z_ldiv, z_l, z_i, z_lt, z_le, z_eq, z_llt, z_lle, z_leq, z_cgt, z_cge, z_clt, z_cle, z_ceq, z_cl, z_nat, Int.toNat_natCast, mm_I, mm_J, z_cln, z_abs, z_max, z_min, z_lmax, z_lmin, z_sin, Int.cast_ofNat_Int, uI_I, uI_J, uL_I, uL_J, uA_I, uA_J, sI_eq, sI_ne, sL_eq, sL_ne, up_eq, up_ne, uL_eq, uL_ne] at q2
        refine And.intro (fun q3 => ?_) (fun q3 => ?_)
        · simp (disch := omega) only [z_i8, z_i16, z_of, z_ofN, z_lofN, z_0, z_1, z_m1, z_l0, z_l1, iZ_add, iZ_sub, iZ_mul, iZ_neg, lZ_add, lZ_sub, lZ_mul, lZ_neg, z_div, z_ldiv, z_l, z_i, z_lt, z_le, z_eq, z_llt, z_lle, z_leq, z_cgt, z_cge, z_clt, z_cle, z_ceq, z_cl, z_nat, Int.toNat_natCast, mm_I, mm_J, z_cln, z_abs, z_max, z_min, z_lmax, z_lmin, z_sin, Int.cast_ofNat_Int, uI_I, uI_J, uL_I, uL_J, uA_I, uA_J, sI_eq, sI_ne, sL_eq, sL_ne, up_eq, up_ne, uL_eq, uL_ne] at q3
          refine wF (by decide) (q_i hQ ?_)
          simp (disch := omega) only [z_i8, z_i16, z_of, z_ofN, z_lofN, z_0, z_1, z_m1, z_l0, z_l1, iZ_add, iZ_sub, iZ_mul, iZ_neg, lZ_add, lZ_sub, lZ_mul, lZ_neg, z_div, z_ldiv, z_l, z_i, z_lt, z_le, z_eq, z_llt, z_lle, z_leq, z_cgt, z_cge, z_clt, z_cle, z_ceq, z_cl, z_nat, Int.toNat_natCast, mm_I, mm_J, z_cln, z_abs, z_max, z_min, z_lmax, z_lmin, z_sin, Int.cast_ofNat_Int, uI_I, uI_J, uL_I, uL_J, uA_I, uA_J, sI_eq, sI_ne, sL_eq, sL_ne, up_eq, up_ne, uL_eq, uL_ne, h1, z_sinN]
          unfold outZ
          rw [if_neg q, if_neg (by omega)]
          first | omega | (congr 1; omega) | rfl
        · simp (disch := omega) only [z_i8, z_i16, z_of, z_ofN, z_lofN, z_0, z_1, z_m1, z_l0, z_l1, iZ_add, iZ_sub, iZ_mul, iZ_neg, lZ_add, lZ_sub, lZ_mul, lZ_neg, z_div, z_ldiv, z_l, z_i, z_lt, z_le, z_eq, z_llt, z_lle, z_leq, z_cgt, z_cge, z_clt, z_cle, z_ceq, z_cl, z_nat, Int.toNat_natCast, mm_I, mm_J, z_cln, z_abs, z_max, z_min, z_lmax, z_lmin, z_sin, Int.cast_ofNat_Int, uI_I, uI_J, uL_I, uL_J, uA_I, uA_J, sI_eq, sI_ne, sL_eq, sL_ne, up_eq, up_ne, uL_eq, uL_ne] at q3
          refine wt rfl (q_i hQ ?_)
          simp (disch := omega) only [z_i8, z_i16, z_of, z_ofN, z_lofN, z_0, z_1, z_m1, z_l0, z_l1, iZ_add, iZ_sub, iZ_mul, iZ_neg, lZ_add, lZ_sub, lZ_mul, lZ_neg, z_div, z_ldiv, z_l, z_i, z_lt, z_le, z_eq, z_llt, z_lle, z_leq, z_cgt, z_cge, z_clt, z_cle, z_ceq, z_cl, z_nat, Int.toNat_natCast, mm_I, mm_J, z_cln, z_abs, z_max, z_min, z_lmax, z_lmin, z_sin, Int.cast_ofNat_Int, uI_I, uI_J, uL_I, uL_J, uA_I, uA_J, sI_eq, sI_ne, sL_eq, sL_ne, up_eq, up_ne, uL_eq, uL_ne, h1, z_sinN]
          unfold outZ
          rw [if_neg q, if_pos (by omega)])
theorem c_inner {k : Nat} {s : Int} {x y : Int32} (hb : B5 b) (hR : RS I J b v) (hW : Wf v) (hk : k < nP v) (hs : -1 ≤ s ∧ s ≤ 1) (ex : x = iZ k) (ey : y = iZ s) (hQ : Q (some (.int (iZ (insZ v k s)))) (mm I J A)) : wpC E (d + 1) 76 [.ref b, .int x, .int y] (mm I J A) Q := by
  have h12 := nP12 hW
  have hin : vp_in (iZ (k : Int)) 12 := z_in (by omega) (by omega) (by omega)
  have w := hW.2.2.1 k hk
  have cb := (capB w).2.2
  have lv := levB w
  have tb := tltB hW hk
  have ib := insB (s := s) hW hk
  obtain ⟨w0, w1, w2, w3, w4, w5, w6⟩ := w
  obtain ⟨q1, q2, q3, q4, q5, q6, q7, q8, q9, q10, q11⟩ := id (hR.2.2.1.2.1 k hk)
  have h7 := hR.1.2.2.2.2.2.2.2.1
  have l := hW.1.2.2.2.2.2.2.1
  have sr := sinR (z := ((v 266 7).natAbs : Int)) (by omega) (by omega)
  have et : v 272 k * 5 / v 274 k * sinZ (v 266 7).natAbs / 1000 = tltZ v k := rfl
  subst ex; subst ey
  rcases id hb with rfl | rfl | rfl | rfl | rfl
  all_goals (
    simp only [Nat.reduceAdd] at q1 q2 q3 q5 q8 q9
    refine wc (hs := []) 90 (by decide) ?_
    refine And.intro hin (And.intro (fun r => ?_) (fun r => ?_))
    · simp (disch := omega) only [z_i8, z_i16, z_of, z_ofN, z_lofN, z_0, z_1, z_m1, z_l0, z_l1, iZ_add, iZ_sub, iZ_mul, iZ_neg, lZ_add, lZ_sub, lZ_mul, lZ_neg, z_div, z_ldiv, z_l, z_i, z_lt, z_le, z_eq, z_llt, z_lle, z_leq, z_cgt, z_cge, z_clt, z_cle, z_ceq, z_cl, z_nat, Int.toNat_natCast, mm_I, mm_J, z_cln, z_abs, z_max, z_min, z_lmax, z_lmin, z_sin, Int.cast_ofNat_Int, uI_I, uI_J, uL_I, uL_J, uA_I, uA_J, sI_eq, sI_ne, sL_eq, sL_ne, up_eq, up_ne, uL_eq, uL_ne, q8] at r
      unfold insZ at hQ
      rw [if_pos r] at hQ
      exact hQ
    · simp (disch := omega) only [z_i8, z_i16, z_of, z_ofN, z_lofN, z_0, z_1, z_m1, z_l0, z_l1, iZ_add, iZ_sub, iZ_mul, iZ_neg, lZ_add, lZ_sub, lZ_mul, lZ_neg, z_div, z_ldiv, z_l, z_i, z_lt, z_le, z_eq, z_llt, z_lle, z_leq, z_cgt, z_cge, z_clt, z_cle, z_ceq, z_cl, z_nat, Int.toNat_natCast, mm_I, mm_J, z_cln, z_abs, z_max, z_min, z_lmax, z_lmin, z_sin, Int.cast_ofNat_Int, uI_I, uI_J, uL_I, uL_J, uA_I, uA_J, sI_eq, sI_ne, sL_eq, sL_ne, up_eq, up_ne, uL_eq, uL_ne, q8] at r
      refine And.intro hin (And.intro (fun r2 => ?_) (fun r2 => ?_))
      · simp (disch := omega) only [z_i8, z_i16, z_of, z_ofN, z_lofN, z_0, z_1, z_m1, z_l0, z_l1, iZ_add, iZ_sub, iZ_mul, iZ_neg, lZ_add, lZ_sub, lZ_mul, lZ_neg, z_div, z_ldiv, z_l, z_i, z_lt, z_le, z_eq, z_llt, z_lle, z_leq, z_cgt, z_cge, z_clt, z_cle, z_ceq, z_cl, z_nat, Int.toNat_natCast, mm_I, mm_J, z_cln, z_abs, z_max, z_min, z_lmax, z_lmin, z_sin, Int.cast_ofNat_Int, uI_I, uI_J, uL_I, uL_J, uA_I, uA_J, sI_eq, sI_ne, sL_eq, sL_ne, up_eq, up_ne, uL_eq, uL_ne] at r2
        refine And.intro hin (And.intro hin (q_i hQ ?_))
        simp (disch := omega) only [z_i8, z_i16, z_of, z_ofN, z_lofN, z_0, z_1, z_m1, z_l0, z_l1, iZ_add, iZ_sub, iZ_mul, iZ_neg, lZ_add, lZ_sub, lZ_mul, lZ_neg, z_div, z_ldiv, z_l, z_i, z_lt, z_le, z_eq, z_llt, z_lle, z_leq, z_cgt, z_cge, z_clt, z_cle, z_ceq, z_cl, z_nat, Int.toNat_natCast, mm_I, mm_J, z_cln, z_abs, z_max, z_min, z_lmax, z_lmin, z_sin, Int.cast_ofNat_Int, uI_I, uI_J, uL_I, uL_J, uA_I, uA_J, sI_eq, sI_ne, sL_eq, sL_ne, up_eq, up_ne, uL_eq, uL_ne, q1, q2, q9]
        unfold insZ
        rw [if_neg r, if_pos r2]
      · simp (disch := omega) only [z_i8, z_i16, z_of, z_ofN, z_lofN, z_0, z_1, z_m1, z_l0, z_l1, iZ_add, iZ_sub, iZ_mul, iZ_neg, lZ_add, lZ_sub, lZ_mul, lZ_neg, z_div, z_ldiv, z_l, z_i, z_lt, z_le, z_eq, z_llt, z_lle, z_leq, z_cgt, z_cge, z_clt, z_cle, z_ceq, z_cl, z_nat, Int.toNat_natCast, mm_I, mm_J, z_cln, z_abs, z_max, z_min, z_lmax, z_lmin, z_sin, Int.cast_ofNat_Int, uI_I, uI_J, uL_I, uL_J, uA_I, uA_J, sI_eq, sI_ne, sL_eq, sL_ne, up_eq, up_ne, uL_eq, uL_ne] at r2
        refine And.intro hin (And.intro hin (And.intro rfl (c_downE (a := v 272 k * 5) (b := v 274 k) ?_ ?_ ⟨by omega, by omega⟩ ⟨by omega, by omega⟩ ?_)))
        · simp (disch := omega) only [z_i8, z_i16, z_of, z_ofN, z_lofN, z_0, z_1, z_m1, z_l0, z_l1, iZ_add, iZ_sub, iZ_mul, iZ_neg, lZ_add, lZ_sub, lZ_mul, lZ_neg, z_div, z_ldiv, z_l, z_i, z_lt, z_le, z_eq, z_llt, z_lle, z_leq, z_cgt, z_cge, z_clt, z_cle, z_ceq, z_cl, z_nat, Int.toNat_natCast, mm_I, mm_J, z_cln, z_abs, z_max, z_min, z_lmax, z_lmin, z_sin, Int.cast_ofNat_Int, uI_I, uI_J, uL_I, uL_J, uA_I, uA_J, sI_eq, sI_ne, sL_eq, sL_ne, up_eq, up_ne, uL_eq, uL_ne, q3]
        · simp (disch := omega) only [z_i8, z_i16, z_of, z_ofN, z_lofN, z_0, z_1, z_m1, z_l0, z_l1, iZ_add, iZ_sub, iZ_mul, iZ_neg, lZ_add, lZ_sub, lZ_mul, lZ_neg, z_div, z_ldiv, z_l, z_i, z_lt, z_le, z_eq, z_llt, z_lle, z_leq, z_cgt, z_cge, z_clt, z_cle, z_ceq, z_cl, z_nat, Int.toNat_natCast, mm_I, mm_J, z_cln, z_abs, z_max, z_min, z_lmax, z_lmin, z_sin, Int.cast_ofNat_Int, uI_I, uI_J, uL_I, uL_J, uA_I, uA_J, sI_eq, sI_ne, sL_eq, sL_ne, up_eq, up_ne, uL_eq, uL_ne, q5]
        refine And.intro (by simp (disch := omega) only [z_i8, z_i16, z_of, z_ofN, z_lofN, z_0, z_1, z_m1, z_l0, z_l1, iZ_add, iZ_sub, iZ_mul, iZ_neg, lZ_add, lZ_sub, lZ_mul, lZ_neg, z_div, z_ldiv, z_l, z_i, z_lt, z_le, z_eq, z_llt, z_lle, z_leq, z_cgt, z_cge, z_clt, z_cle, z_ceq, z_cl, z_nat, Int.toNat_natCast, mm_I, mm_J, z_cln, z_abs, z_max, z_min, z_lmax, z_lmin, z_sin, Int.cast_ofNat_Int, uI_I, uI_J, uL_I, uL_J, uA_I, uA_J, sI_eq, sI_ne, sL_eq, sL_ne, up_eq, up_ne, uL_eq, uL_ne, h7]; exact z_in (by omega) (by omega) (by omega)) (And.intro (by decide) ?_)
        refine And.intro (fun r3 => ?_) (fun r3 => ?_)
        · simp (disch := omega) only [z_i8, z_i16, z_of, z_ofN, z_lofN, z_0, z_1, z_m1, z_l0, z_l1, iZ_add, iZ_sub, iZ_mul, iZ_neg, lZ_add, lZ_sub, lZ_mul, lZ_neg, z_div, z_ldiv, z_l, z_i, z_lt, z_le, z_eq, z_llt, z_lle, z_leq, z_cgt, z_cge, z_clt, z_cle, z_ceq, z_cl, z_nat, Int.toNat_natCast, mm_I, mm_J, z_cln, z_abs, z_max, z_min, z_lmax, z_lmin, z_sin, Int.cast_ofNat_Int, uI_I, uI_J, uL_I, uL_J, uA_I, uA_J, sI_eq, sI_ne, sL_eq, sL_ne, up_eq, up_ne, uL_eq, uL_ne, h7] at r3
          refine And.intro (fun r4 => ?_) (fun r4 => ?_)
          · simp (disch := omega) only [z_i8, z_i16, z_of, z_ofN, z_lofN, z_0, z_1, z_m1, z_l0, z_l1, iZ_add, iZ_sub, iZ_mul, iZ_neg, lZ_add, lZ_sub, lZ_mul, lZ_neg, z_div, z_ldiv, z_l, z_i, z_lt, z_le, z_eq, z_llt, z_lle, z_leq, z_cgt, z_cge, z_clt, z_cle, z_ceq, z_cl, z_nat, Int.toNat_natCast, mm_I, mm_J, z_cln, z_abs, z_max, z_min, z_lmax, z_lmin, z_sin, Int.cast_ofNat_Int, uI_I, uI_J, uL_I, uL_J, uA_I, uA_J, sI_eq, sI_ne, sL_eq, sL_ne, up_eq, up_ne, uL_eq, uL_ne] at r4
            refine wt rfl (And.intro hin (And.intro hin (q_i hQ ?_)))
            simp (disch := omega) only [z_i8, z_i16, z_of, z_ofN, z_lofN, z_0, z_1, z_m1, z_l0, z_l1, iZ_add, iZ_sub, iZ_mul, iZ_neg, lZ_add, lZ_sub, lZ_mul, lZ_neg, z_div, z_ldiv, z_l, z_i, z_lt, z_le, z_eq, z_llt, z_lle, z_leq, z_cgt, z_cge, z_clt, z_cle, z_ceq, z_cl, z_nat, Int.toNat_natCast, mm_I, mm_J, z_cln, z_abs, z_max, z_min, z_lmax, z_lmin, z_sin, Int.cast_ofNat_Int, uI_I, uI_J, uL_I, uL_J, uA_I, uA_J, sI_eq, sI_ne, sL_eq, sL_ne, up_eq, up_ne, uL_eq, uL_ne, q1, q2, q9, h7, z_sinN, et]
            unfold insZ
            rw [if_neg r, if_neg r2, if_pos (by omega)]
          · simp (disch := omega) only [z_i8, z_i16, z_of, z_ofN, z_lofN, z_0, z_1, z_m1, z_l0, z_l1, iZ_add, iZ_sub, iZ_mul, iZ_neg, lZ_add, lZ_sub, lZ_mul, lZ_neg, z_div, z_ldiv, z_l, z_i, z_lt, z_le, z_eq, z_llt, z_lle, z_leq, z_cgt, z_cge, z_clt, z_cle, z_ceq, z_cl, z_nat, Int.toNat_natCast, mm_I, mm_J, z_cln, z_abs, z_max, z_min, z_lmax, z_lmin, z_sin, Int.cast_ofNat_Int, uI_I, uI_J, uL_I, uL_J, uA_I, uA_J, sI_eq, sI_ne, sL_eq, sL_ne, up_eq, up_ne, uL_eq, uL_ne] at r4
            refine wF (by decide) (And.intro hin (And.intro hin (q_i hQ ?_)))
            simp (disch := omega) only [z_i8, z_i16, z_of, z_ofN, z_lofN, z_0, z_1, z_m1, z_l0, z_l1, iZ_add, iZ_sub, iZ_mul, iZ_neg, lZ_add, lZ_sub, lZ_mul, lZ_neg, z_div, z_ldiv, z_l, z_i, z_lt, z_le, z_eq, z_llt, z_lle, z_leq, z_cgt, z_cge, z_clt, z_cle, z_ceq, z_cl, z_nat, Int.toNat_natCast, mm_I, mm_J, z_cln, z_abs, z_max, z_min, z_lmax, z_lmin, z_sin, Int.cast_ofNat_Int, uI_I, uI_J, uL_I, uL_J, uA_I, uA_J, sI_eq, sI_ne, sL_eq, sL_ne, up_eq, up_ne, uL_eq, uL_ne, q1, q2, q9, h7, z_sinN, et]
            unfold insZ
            rw [if_neg r, if_neg r2, if_neg (by omega)]
            omega
        · simp (disch := omega) only [z_i8, z_i16, z_of, z_ofN, z_lofN, z_0, z_1, z_m1, z_l0, z_l1, iZ_add, iZ_sub, iZ_mul, iZ_neg, lZ_add, lZ_sub, lZ_mul, lZ_neg, z_div, z_ldiv, z_l, z_i, z_lt, z_le, z_eq, z_llt, z_lle, z_leq, z_cgt, z_cge, z_clt, z_cle, z_ceq, z_cl, z_nat, Int.toNat_natCast, mm_I, mm_J, z_cln, z_abs, z_max, z_min, z_lmax, z_lmin, z_sin, Int.cast_ofNat_Int, uI_I, uI_J, uL_I, uL_J, uA_I, uA_J, sI_eq, sI_ne, sL_eq, sL_ne, up_eq, up_ne, uL_eq, uL_ne, h7] at r3
          refine And.intro (fun r4 => ?_) (fun r4 => ?_)
          · simp (disch := omega) only [z_i8, z_i16, z_of, z_ofN, z_lofN, z_0, z_1, z_m1, z_l0, z_l1, iZ_add, iZ_sub, iZ_mul, iZ_neg, lZ_add, lZ_sub, lZ_mul, lZ_neg, z_div, z_ldiv, z_l, z_i, z_lt, z_le, z_eq, z_llt, z_lle, z_leq, z_cgt, z_cge, z_clt, z_cle, z_ceq, z_cl, z_nat, Int.toNat_natCast, mm_I, mm_J, z_cln, z_abs, z_max, z_min, z_lmax, z_lmin, z_sin, Int.cast_ofNat_Int, uI_I, uI_J, uL_I, uL_J, uA_I, uA_J, sI_eq, sI_ne, sL_eq, sL_ne, up_eq, up_ne, uL_eq, uL_ne] at r4
            refine wF (by decide) (And.intro hin (And.intro hin (q_i hQ ?_)))
            simp (disch := omega) only [z_i8, z_i16, z_of, z_ofN, z_lofN, z_0, z_1, z_m1, z_l0, z_l1, iZ_add, iZ_sub, iZ_mul, iZ_neg, lZ_add, lZ_sub, lZ_mul, lZ_neg, z_div, z_ldiv, z_l, z_i, z_lt, z_le, z_eq, z_llt, z_lle, z_leq, z_cgt, z_cge, z_clt, z_cle, z_ceq, z_cl, z_nat, Int.toNat_natCast, mm_I, mm_J, z_cln, z_abs, z_max, z_min, z_lmax, z_lmin, z_sin, Int.cast_ofNat_Int, uI_I, uI_J, uL_I, uL_J, uA_I, uA_J, sI_eq, sI_ne, sL_eq, sL_ne, up_eq, up_ne, uL_eq, uL_ne, q1, q2, q9, h7, z_sinN, et]
            unfold insZ
            rw [if_neg r, if_neg r2, if_neg (by omega)]
            omega
          · simp (disch := omega) only [z_i8, z_i16, z_of, z_ofN, z_lofN, z_0, z_1, z_m1, z_l0, z_l1, iZ_add, iZ_sub, iZ_mul, iZ_neg, lZ_add, lZ_sub, lZ_mul, lZ_neg, z_div, z_ldiv, z_l, z_i, z_lt, z_le, z_eq, z_llt, z_lle, z_leq, z_cgt, z_cge, z_clt, z_cle, z_ceq, z_cl, z_nat, Int.toNat_natCast, mm_I, mm_J, z_cln, z_abs, z_max, z_min, z_lmax, z_lmin, z_sin, Int.cast_ofNat_Int, uI_I, uI_J, uL_I, uL_J, uA_I, uA_J, sI_eq, sI_ne, sL_eq, sL_ne, up_eq, up_ne, uL_eq, uL_ne] at r4
            refine wt rfl (And.intro hin (And.intro hin (q_i hQ ?_)))
            simp (disch := omega) only [z_i8, z_i16, z_of, z_ofN, z_lofN, z_0, z_1, z_m1, z_l0, z_l1, iZ_add, iZ_sub, iZ_mul, iZ_neg, lZ_add, lZ_sub, lZ_mul, lZ_neg, z_div, z_ldiv, z_l, z_i, z_lt, z_le, z_eq, z_llt, z_lle, z_leq, z_cgt, z_cge, z_clt, z_cle, z_ceq, z_cl, z_nat, Int.toNat_natCast, mm_I, mm_J, z_cln, z_abs, z_max, z_min, z_lmax, z_lmin, z_sin, Int.cast_ofNat_Int, uI_I, uI_J, uL_I, uL_J, uA_I, uA_J, sI_eq, sI_ne, sL_eq, sL_ne, up_eq, up_ne, uL_eq, uL_ne, q1, q2, q9, h7, z_sinN, et]
            unfold insZ
            rw [if_neg r, if_neg r2, if_pos (by omega)])
end C7
end
section
/-! ===== the class: doors, ports, cargo ===== -/
theorem Wf_por {v : am_V} {k : Nat} {n : Int} (h : Wf v) (hk : k < nP v) : Wf (porZ v k n) := by
  have cb := (capB (h.2.2.1 k hk)).2.2
  exact Wf_set h ⟨by omega, by omega⟩
theorem por_ne {v : am_V} {k : Nat} {n : Int} {a i : Nat} (h : a ≠ 276) : porZ v k n a i = v a i := vset_na h
theorem dor_ne {v : am_V} {k : Nat} {a i : Nat} (h : a ≠ 276) : dorZ v k a i = v a i := by
  unfold dorZ
  split
  · exact por_ne h
  · rfl
theorem prt_ne {v : am_V} {k : Nat} {a i : Nat} (h : a ≠ 276) : prtZ v k a i = v a i := by
  unfold prtZ
  split
  · exact por_ne h
  · rfl
theorem Wf_dor {v : am_V} {k : Nat} (h : Wf v) (hk : WfD v k) : Wf (dorZ v k) := by
  unfold dorZ
  dsimp only
  split
  · exact Wf_por h (by have := hk.1; omega)
  · exact h
theorem Wf_prt {v : am_V} {k : Nat} (h : Wf v) (hk : WfO v k) : Wf (prtZ v k) := by
  unfold prtZ
  dsimp only
  split
  · exact Wf_por h (by have := hk.1; omega)
  · exact h
/-- all rows but one as they were: the holes too -/
theorem WfH_276 {v v' : am_V} (h : WfH v) (e : ∀ a i, a ≠ 276 → v' a i = v a i) : WfH v' := by
  have e1 : nD v' = nD v := by unfold nD; rw [e _ _ (by decide)]
  have e2 : nO v' = nO v := by unfold nO; rw [e _ _ (by decide)]
  have e3 : nL v' = nL v := by unfold nL; rw [e _ _ (by decide)]
  have e4 : nP v' = nP v := by unfold nP; rw [e _ _ (by decide)]
  unfold WfH WfD WfO WfN
  rw [e1, e2, e3, e4]
  refine ⟨fun k hk => ?_, fun k hk => ?_, fun k hk => ?_⟩
  · rw [e _ _ (by decide), e _ _ (by decide), e _ _ (by decide), e _ _ (by decide)]; exact h.1 k hk
  · rw [e _ _ (by decide), e _ _ (by decide), e _ _ (by decide), e _ _ (by decide)]; exact h.2.1 k hk
  · rw [e _ _ (by decide), e _ _ (by decide)]; exact h.2.2 k hk
def drsN (v : am_V) : Nat → am_V
  | 0 => v
  | n + 1 => dorZ (drsN v n) n
def ptsN (v : am_V) : Nat → am_V
  | 0 => v
  | n + 1 => prtZ (ptsN v n) n
def sldN (v : am_V) : Nat → am_V
  | 0 => v
  | n + 1 => if v 279 n < (v 266 7).natAbs then vset (sldN v n) 281 n (if 0 < v 266 7 then 1 else -1) else sldN v n
theorem drs_ne {v : am_V} {n a i : Nat} (h : a ≠ 276) : drsN v n a i = v a i := by
  induction n with
  | zero => rfl
  | succ n ih => exact (dor_ne h).trans ih
theorem pts_ne {v : am_V} {n a i : Nat} (h : a ≠ 276) : ptsN v n a i = v a i := by
  induction n with
  | zero => rfl
  | succ n ih => exact (prt_ne h).trans ih
theorem sld_ne {v : am_V} {n a i : Nat} (h : a ≠ 281) : sldN v n a i = v a i := by
  induction n with
  | zero => rfl
  | succ n ih =>
    unfold sldN
    split
    · rw [vset_na h]; exact ih
    · exact ih
theorem Wf_drs {v : am_V} {n : Nat} (h : Wf v) (hH : WfH v) (hn : n ≤ nD v) : Wf (drsN v n) ∧ WfH (drsN v n) := by
  induction n with
  | zero => exact ⟨h, hH⟩
  | succ n ih =>
    have i := ih (by omega)
    have e : nD (drsN v n) = nD v := by unfold nD; rw [drs_ne (by decide)]
    exact ⟨Wf_dor i.1 (i.2.1 n (by omega)), WfH_276 hH (fun a i h => drs_ne h)⟩
theorem Wf_pts {v : am_V} {n : Nat} (h : Wf v) (hH : WfH v) (hn : n ≤ nO v) : Wf (ptsN v n) ∧ WfH (ptsN v n) := by
  induction n with
  | zero => exact ⟨h, hH⟩
  | succ n ih =>
    have i := ih (by omega)
    have e : nO (ptsN v n) = nO v := by unfold nO; rw [pts_ne (by decide)]
    exact ⟨Wf_prt i.1 (i.2.2.1 n (by omega)), WfH_276 hH (fun a i h => pts_ne h)⟩
theorem Wf_281 {v : am_V} {k : Nat} {x : Int} (h : Wf v) (hx : -1 ≤ x ∧ x ≤ 1) : Wf (vset v 281 k x) := by
  refine ⟨h.1, h.2.1, h.2.2.1, fun j hj => ?_⟩
  obtain ⟨w1, w2, w3, w4, w5⟩ := h.2.2.2 j hj
  refine ⟨w1, w2, w3, w4, ?_⟩
  by_cases hjk : j = k
  · subst hjk; rw [vset_eq]; exact hx
  · rw [vset_ni hjk]; exact w5
theorem Wf_sld {v : am_V} {n : Nat} (h : Wf v) : Wf (sldN v n) := by
  induction n with
  | zero => exact h
  | succ n ih =>
    unfold sldN
    split
    · exact Wf_281 ih (by split <;> omega)
    · exact ih
theorem WfH_281 {v v' : am_V} (h : WfH v) (e : ∀ a i, a ≠ 281 → v' a i = v a i) : WfH v' := by
  have e1 : nD v' = nD v := by unfold nD; rw [e _ _ (by decide)]
  have e2 : nO v' = nO v := by unfold nO; rw [e _ _ (by decide)]
  have e3 : nL v' = nL v := by unfold nL; rw [e _ _ (by decide)]
  have e4 : nP v' = nP v := by unfold nP; rw [e _ _ (by decide)]
  unfold WfH WfD WfO WfN
  rw [e1, e2, e3, e4]
  refine ⟨fun k hk => ?_, fun k hk => ?_, fun k hk => ?_⟩
  · rw [e _ _ (by decide), e _ _ (by decide), e _ _ (by decide), e _ _ (by decide)]; exact h.1 k hk
  · rw [e _ _ (by decide), e _ _ (by decide), e _ _ (by decide), e _ _ (by decide)]; exact h.2.1 k hk
  · rw [e _ _ (by decide), e _ _ (by decide)]; exact h.2.2 k hk
section C8
variable {E : Nat × (Nat → Int32)} {d : Nat} {I : Nat → Nat → Int32} {J : Nat → Nat → Int64} {A : Nat → Option Nat} {Q : Option Value → am_M → Prop} {M : am_M} {β b : Nat} {v : am_V} {mw mu mom : Int}
theorem RS_slid {t : Int} {k : Nat} {x : Int} {y : Int32} (hy : y = iZ x) (hR : RSt I J b v t) : RSt (setI I (b + 19) k y) J b (vset v 281 k x) t := by
  subst hy
  obtain ⟨rs, ra, rp, ⟨rc0, rc⟩, rd, ro, rl⟩ := hR
  have g : ∀ j, j ≠ 19 → setI I (b + 19) k (iZ x) (b + j) = I (b + j) := fun j hj => by
    funext k
    rw [setI_at, if_neg (by omega)]
  have g0 : setI I (b + 19) k (iZ x) b = I b := g 0 (by decide)
  unfold RSt RSs RSp RSd RSo RSl
  unfold RSs at rs
  unfold RSp at rp
  unfold RSd at rd
  unfold RSo at ro
  unfold RSl at rl
  rw [g0, g 1 (by omega), g 2 (by omega), g 3 (by omega), g 4 (by omega), g 5 (by omega), g 6 (by omega), g 7 (by omega), g 8 (by omega), g 9 (by omega), g 10 (by omega), g 11 (by omega), g 13 (by omega), g 14 (by omega), g 20 (by omega), g 21 (by omega), g 22 (by omega), g 23 (by omega), g 24 (by omega), g 25 (by omega), g 26 (by omega), g 27 (by omega), g 28 (by omega), g 29 (by omega), g 30 (by omega), g 31 (by omega), g 32 (by omega)]
  refine ⟨rs, ra, rp, ⟨rc0, fun j hj => ?_⟩, rd, ro, rl⟩
  obtain ⟨u1, u2, u3, u4, u5⟩ := rc j hj
  unfold RSc
  rw [g 15 (by omega), g 16 (by omega), g 17 (by omega), g 18 (by omega)]
  refine ⟨u1, u2, u3, u4, ?_⟩
  rw [setI_at]
  by_cases hjk : j = k
  · subst hjk; rw [if_pos ⟨rfl, rfl⟩, vset_eq]
  · rw [if_neg (fun q => hjk q.2), vset_ni hjk]; exact u5
theorem RS_slidO {k : Nat} {x : Int} {y : Int32} (hy : y = iZ x) (hR : RS I J b v) : RS (setI I (b + 19) k y) J b (vset v 281 k x) := RS_slid hy hR
set_option maxHeartbeats 4000000 in
theorem c_giveWay {x : Int32} (hb : B5 b) (hR : RS I J b v) (hW : Wf v) (ex : x = iZ (v 266 7)) (hQ : ∀ I', RS I' J b (sldN v (nC v)) → Fr b I I' → Q none (mm I' J A)) : wpC E (d + 1) 16 [.ref (b + 14), .int x] (mm I J A) Q := by
  have hlc : nC v ≤ 6 := by have := hW.1.2.2.2.2.2.2.2.2.2.1; unfold nC; omega
  have l := hW.1.2.2.2.2.2.2.1
  subst ex
  have nCe : ∀ n, nC (sldN v n) = nC v := fun n => by unfold nC; rw [sld_ne (by decide)]
  rcases id hb with rfl | rfl | rfl | rfl | rfl
  · refine wc (hs := [2]) 40 (by decide) ?_
    refine wp_keys [0, 1, 2] rfl rfl ?_
    have L := lpU (σ := (Nat → Nat → Int32) × Int32) (fun _ s => wp E (d + 1) 16 2 [(0, .ref (1 + 14)), (1, .int (iZ (v 266 7))), (2, .int s.2)] [] (mm s.1 J A) Q) (fun i s => (RS s.1 J 1 (sldN v i) ∧ Fr 1 I s.1) ∧ s.2 = iZ i) (nC v) ?_ ?_
    · exact L 0 (_, _) (by omega) ⟨⟨hR, fun a _ => rfl⟩, rfl⟩
    · rintro ⟨I', x2⟩ ⟨⟨hR', hF⟩, e2⟩
      dsimp only at hR' hF e2
      subst e2
      have c0 : I' (1 + 14) 0 = iZ (nC v) := by have := hR'.2.2.2.1.1; rw [nCe] at this; exact this
      refine wf (hs := [2]) 40 2 (by decide) ?_
      refine wt (Int32.le_of_eq c0) ?_
      exact hQ I' hR' hF
    · rintro i ⟨I', x2⟩ hi ⟨⟨hR', hF⟩, e2⟩ ih
      dsimp only at hR' hF e2
      subst e2
      have c0 : I' (1 + 14) 0 = iZ (nC v) := by have := hR'.2.2.2.1.1; rw [nCe] at this; exact this
      have hin : vp_in (iZ (i : Int)) 6 := z_in (by omega) (by omega) (by omega)
      obtain ⟨u1, u2, u3, u4, u5⟩ := hR'.2.2.2.1.2 i (by rw [nCe]; exact hi)
      obtain ⟨w1, w2, w3, w4, w5⟩ := hW.2.2.2 i hi
      rw [sld_ne (by decide)] at u3
      refine wf (hs := [2]) 40 2 (by decide) ?_
      refine wF (by show ¬ I' (1 + 14) 0 ≤ iZ i; rw [c0]; simp (disch := omega) only [z_i8, z_i16, z_of, z_ofN, z_lofN, z_0, z_1, z_m1, z_l0, z_l1, iZ_add, iZ_sub, iZ_mul, iZ_neg, lZ_add, lZ_sub, lZ_mul, lZ_neg, z_div, z_ldiv, z_l, z_i, z_lt, z_le, z_eq, z_llt, z_lle, z_leq, z_cgt, z_cge, z_clt, z_cle, z_ceq, z_cl, z_nat, Int.toNat_natCast, mm_I, mm_J, z_cln, z_abs, z_max, z_min, z_lmax, z_lmin, z_sin, Int.cast_ofNat_Int, uI_I, uI_J, uL_I, uL_J, uA_I, uA_J, sI_eq, sI_ne, sL_eq, sL_ne, up_eq, up_ne, uL_eq, uL_ne]; omega) ?_
      simp only [Nat.reduceAdd] at u3
      refine And.intro hin (And.intro (fun q => ?_) (fun q => ?_))
      · simp (disch := omega) only [z_i8, z_i16, z_of, z_ofN, z_lofN, z_0, z_1, z_m1, z_l0, z_l1, iZ_add, iZ_sub, iZ_mul, iZ_neg, lZ_add, lZ_sub, lZ_mul, lZ_neg, z_div, z_ldiv, z_l, z_i, z_lt, z_le, z_eq, z_llt, z_lle, z_leq, z_cgt, z_cge, z_clt, z_cle, z_ceq, z_cl, z_nat, Int.toNat_natCast, mm_I, mm_J, z_cln, z_abs, z_max, z_min, z_lmax, z_lmin, z_sin, Int.cast_ofNat_Int, uI_I, uI_J, uL_I, uL_J, uA_I, uA_J, sI_eq, sI_ne, sL_eq, sL_ne, up_eq, up_ne, uL_eq, uL_ne, u3] at q
        refine wp_keys [0, 1, 2] rfl rfl ?_
        refine ih (_, _) ⟨⟨?_, hF⟩, iZ_add i 1⟩
        unfold sldN
        rw [if_neg (by omega)]
        exact hR'
      · simp (disch := omega) only [z_i8, z_i16, z_of, z_ofN, z_lofN, z_0, z_1, z_m1, z_l0, z_l1, iZ_add, iZ_sub, iZ_mul, iZ_neg, lZ_add, lZ_sub, lZ_mul, lZ_neg, z_div, z_ldiv, z_l, z_i, z_lt, z_le, z_eq, z_llt, z_lle, z_leq, z_cgt, z_cge, z_clt, z_cle, z_ceq, z_cl, z_nat, Int.toNat_natCast, mm_I, mm_J, z_cln, z_abs, z_max, z_min, z_lmax, z_lmin, z_sin, Int.cast_ofNat_Int, uI_I, uI_J, uL_I, uL_J, uA_I, uA_J, sI_eq, sI_ne, sL_eq, sL_ne, up_eq, up_ne, uL_eq, uL_ne, u3] at q
        have fr : ∀ y, Fr 1 I (setI I' (1 + 19) i y) := fun y a ha => by
          rw [← hF a ha]
          funext k
          rw [setI_at, if_neg (by omega)]
        have hc : (iZ (i : Int)).toNatClampNeg = i := z_cln (by omega)
        refine And.intro (fun q2 => ?_) (fun q2 => ?_)
        · simp (disch := omega) only [z_i8, z_i16, z_of, z_ofN, z_lofN, z_0, z_1, z_m1, z_l0, z_l1, iZ_add, iZ_sub, iZ_mul, iZ_neg, lZ_add, lZ_sub, lZ_mul, lZ_neg, z_div, z_ldiv, z_l, z_i, z_lt, z_le, z_eq, z_llt, z_lle, z_leq, z_cgt, z_cge, z_clt, z_cle, z_ceq, z_cl, z_nat, Int.toNat_natCast, mm_I, mm_J, z_cln, z_abs, z_max, z_min, z_lmax, z_lmin, z_sin, Int.cast_ofNat_Int, uI_I, uI_J, uL_I, uL_J, uA_I, uA_J, sI_eq, sI_ne, sL_eq, sL_ne, up_eq, up_ne, uL_eq, uL_ne] at q2
          refine And.intro hin ?_
          refine wp_keys [0, 1, 2] rfl rfl ?_
          refine ih (setI I' (1 + 19) (iZ (i : Int)).toNatClampNeg _, _) ⟨⟨?_, ?_⟩, iZ_add i 1⟩
          · rw [hc]
            unfold sldN
            rw [if_pos (by omega), if_neg (by omega)]
            exact RS_slidO rfl hR'
          · rw [hc]; exact fr _
        · simp (disch := omega) only [z_i8, z_i16, z_of, z_ofN, z_lofN, z_0, z_1, z_m1, z_l0, z_l1, iZ_add, iZ_sub, iZ_mul, iZ_neg, lZ_add, lZ_sub, lZ_mul, lZ_neg, z_div, z_ldiv, z_l, z_i, z_lt, z_le, z_eq, z_llt, z_lle, z_leq, z_cgt, z_cge, z_clt, z_cle, z_ceq, z_cl, z_nat, Int.toNat_natCast, mm_I, mm_J, z_cln, z_abs, z_max, z_min, z_lmax, z_lmin, z_sin, Int.cast_ofNat_Int, uI_I, uI_J, uL_I, uL_J, uA_I, uA_J, sI_eq, sI_ne, sL_eq, sL_ne, up_eq, up_ne, uL_eq, uL_ne] at q2
          refine And.intro hin ?_
          refine wp_keys [0, 1, 2] rfl rfl ?_
          refine ih (setI I' (1 + 19) (iZ (i : Int)).toNatClampNeg _, _) ⟨⟨?_, ?_⟩, iZ_add i 1⟩
          · rw [hc]
            unfold sldN
            rw [if_pos (by omega), if_pos (by omega)]
            exact RS_slidO rfl hR'
          · rw [hc]; exact fr _
  · refine wc (hs := [2]) 40 (by decide) ?_
    refine wp_keys [0, 1, 2] rfl rfl ?_
    have L := lpU (σ := (Nat → Nat → Int32) × Int32) (fun _ s => wp E (d + 1) 16 2 [(0, .ref (35 + 14)), (1, .int (iZ (v 266 7))), (2, .int s.2)] [] (mm s.1 J A) Q) (fun i s => (RS s.1 J 35 (sldN v i) ∧ Fr 35 I s.1) ∧ s.2 = iZ i) (nC v) ?_ ?_
    · exact L 0 (_, _) (by omega) ⟨⟨hR, fun a _ => rfl⟩, rfl⟩
    · rintro ⟨I', x2⟩ ⟨⟨hR', hF⟩, e2⟩
      dsimp only at hR' hF e2
      subst e2
      have c0 : I' (35 + 14) 0 = iZ (nC v) := by have := hR'.2.2.2.1.1; rw [nCe] at this; exact this
      refine wf (hs := [2]) 40 2 (by decide) ?_
      refine wt (Int32.le_of_eq c0) ?_
      exact hQ I' hR' hF
    · rintro i ⟨I', x2⟩ hi ⟨⟨hR', hF⟩, e2⟩ ih
      dsimp only at hR' hF e2
      subst e2
      have c0 : I' (35 + 14) 0 = iZ (nC v) := by have := hR'.2.2.2.1.1; rw [nCe] at this; exact this
      have hin : vp_in (iZ (i : Int)) 6 := z_in (by omega) (by omega) (by omega)
      obtain ⟨u1, u2, u3, u4, u5⟩ := hR'.2.2.2.1.2 i (by rw [nCe]; exact hi)
      obtain ⟨w1, w2, w3, w4, w5⟩ := hW.2.2.2 i hi
      rw [sld_ne (by decide)] at u3
      refine wf (hs := [2]) 40 2 (by decide) ?_
      refine wF (by show ¬ I' (35 + 14) 0 ≤ iZ i; rw [c0]; simp (disch := omega) only [z_i8, z_i16, z_of, z_ofN, z_lofN, z_0, z_1, z_m1, z_l0, z_l1, iZ_add, iZ_sub, iZ_mul, iZ_neg, lZ_add, lZ_sub, lZ_mul, lZ_neg, z_div, z_ldiv, z_l, z_i, z_lt, z_le, z_eq, z_llt, z_lle, z_leq, z_cgt, z_cge, z_clt, z_cle, z_ceq, z_cl, z_nat, Int.toNat_natCast, mm_I, mm_J, z_cln, z_abs, z_max, z_min, z_lmax, z_lmin, z_sin, Int.cast_ofNat_Int, uI_I, uI_J, uL_I, uL_J, uA_I, uA_J, sI_eq, sI_ne, sL_eq, sL_ne, up_eq, up_ne, uL_eq, uL_ne]; omega) ?_
      simp only [Nat.reduceAdd] at u3
      refine And.intro hin (And.intro (fun q => ?_) (fun q => ?_))
      · simp (disch := omega) only [z_i8, z_i16, z_of, z_ofN, z_lofN, z_0, z_1, z_m1, z_l0, z_l1, iZ_add, iZ_sub, iZ_mul, iZ_neg, lZ_add, lZ_sub, lZ_mul, lZ_neg, z_div, z_ldiv, z_l, z_i, z_lt, z_le, z_eq, z_llt, z_lle, z_leq, z_cgt, z_cge, z_clt, z_cle, z_ceq, z_cl, z_nat, Int.toNat_natCast, mm_I, mm_J, z_cln, z_abs, z_max, z_min, z_lmax, z_lmin, z_sin, Int.cast_ofNat_Int, uI_I, uI_J, uL_I, uL_J, uA_I, uA_J, sI_eq, sI_ne, sL_eq, sL_ne, up_eq, up_ne, uL_eq, uL_ne, u3] at q
        refine wp_keys [0, 1, 2] rfl rfl ?_
        refine ih (_, _) ⟨⟨?_, hF⟩, iZ_add i 1⟩
        unfold sldN
        rw [if_neg (by omega)]
        exact hR'
      · simp (disch := omega) only [z_i8, z_i16, z_of, z_ofN, z_lofN, z_0, z_1, z_m1, z_l0, z_l1, iZ_add, iZ_sub, iZ_mul, iZ_neg, lZ_add, lZ_sub, lZ_mul, lZ_neg, z_div, z_ldiv, z_l, z_i, z_lt, z_le, z_eq, z_llt, z_lle, z_leq, z_cgt, z_cge, z_clt, z_cle, z_ceq, z_cl, z_nat, Int.toNat_natCast, mm_I, mm_J, z_cln, z_abs, z_max, z_min, z_lmax, z_lmin, z_sin, Int.cast_ofNat_Int, uI_I, uI_J, uL_I, uL_J, uA_I, uA_J, sI_eq, sI_ne, sL_eq, sL_ne, up_eq, up_ne, uL_eq, uL_ne, u3] at q
        have fr : ∀ y, Fr 35 I (setI I' (35 + 19) i y) := fun y a ha => by
          rw [← hF a ha]
          funext k
          rw [setI_at, if_neg (by omega)]
        have hc : (iZ (i : Int)).toNatClampNeg = i := z_cln (by omega)
        refine And.intro (fun q2 => ?_) (fun q2 => ?_)
        · simp (disch := omega) only [z_i8, z_i16, z_of, z_ofN, z_lofN, z_0, z_1, z_m1, z_l0, z_l1, iZ_add, iZ_sub, iZ_mul, iZ_neg, lZ_add, lZ_sub, lZ_mul, lZ_neg, z_div, z_ldiv, z_l, z_i, z_lt, z_le, z_eq, z_llt, z_lle, z_leq, z_cgt, z_cge, z_clt, z_cle, z_ceq, z_cl, z_nat, Int.toNat_natCast, mm_I, mm_J, z_cln, z_abs, z_max, z_min, z_lmax, z_lmin, z_sin, Int.cast_ofNat_Int, uI_I, uI_J, uL_I, uL_J, uA_I, uA_J, sI_eq, sI_ne, sL_eq, sL_ne, up_eq, up_ne, uL_eq, uL_ne] at q2
          refine And.intro hin ?_
          refine wp_keys [0, 1, 2] rfl rfl ?_
          refine ih (setI I' (35 + 19) (iZ (i : Int)).toNatClampNeg _, _) ⟨⟨?_, ?_⟩, iZ_add i 1⟩
          · rw [hc]
            unfold sldN
            rw [if_pos (by omega), if_neg (by omega)]
            exact RS_slidO rfl hR'
          · rw [hc]; exact fr _
        · simp (disch := omega) only [z_i8, z_i16, z_of, z_ofN, z_lofN, z_0, z_1, z_m1, z_l0, z_l1, iZ_add, iZ_sub, iZ_mul, iZ_neg, lZ_add, lZ_sub, lZ_mul, lZ_neg, z_div, z_ldiv, z_l, z_i, z_lt, z_le, z_eq, z_llt, z_lle, z_leq, z_cgt, z_cge, z_clt, z_cle, z_ceq, z_cl, z_nat, Int.toNat_natCast, mm_I, mm_J, z_cln, z_abs, z_max, z_min, z_lmax, z_lmin, z_sin, Int.cast_ofNat_Int, uI_I, uI_J, uL_I, uL_J, uA_I, uA_J, sI_eq, sI_ne, sL_eq, sL_ne, up_eq, up_ne, uL_eq, uL_ne] at q2
          refine And.intro hin ?_
          refine wp_keys [0, 1, 2] rfl rfl ?_
          refine ih (setI I' (35 + 19) (iZ (i : Int)).toNatClampNeg _, _) ⟨⟨?_, ?_⟩, iZ_add i 1⟩
          · rw [hc]
            unfold sldN
            rw [if_pos (by omega), if_pos (by omega)]
            exact RS_slidO rfl hR'
          · rw [hc]; exact fr _
  · refine wc (hs := [2]) 40 (by decide) ?_
    refine wp_keys [0, 1, 2] rfl rfl ?_
    have L := lpU (σ := (Nat → Nat → Int32) × Int32) (fun _ s => wp E (d + 1) 16 2 [(0, .ref (68 + 14)), (1, .int (iZ (v 266 7))), (2, .int s.2)] [] (mm s.1 J A) Q) (fun i s => (RS s.1 J 68 (sldN v i) ∧ Fr 68 I s.1) ∧ s.2 = iZ i) (nC v) ?_ ?_
    · exact L 0 (_, _) (by omega) ⟨⟨hR, fun a _ => rfl⟩, rfl⟩
    · rintro ⟨I', x2⟩ ⟨⟨hR', hF⟩, e2⟩
      dsimp only at hR' hF e2
      subst e2
      have c0 : I' (68 + 14) 0 = iZ (nC v) := by have := hR'.2.2.2.1.1; rw [nCe] at this; exact this
      refine wf (hs := [2]) 40 2 (by decide) ?_
      refine wt (Int32.le_of_eq c0) ?_
      exact hQ I' hR' hF
    · rintro i ⟨I', x2⟩ hi ⟨⟨hR', hF⟩, e2⟩ ih
      dsimp only at hR' hF e2
      subst e2
      have c0 : I' (68 + 14) 0 = iZ (nC v) := by have := hR'.2.2.2.1.1; rw [nCe] at this; exact this
      have hin : vp_in (iZ (i : Int)) 6 := z_in (by omega) (by omega) (by omega)
      obtain ⟨u1, u2, u3, u4, u5⟩ := hR'.2.2.2.1.2 i (by rw [nCe]; exact hi)
      obtain ⟨w1, w2, w3, w4, w5⟩ := hW.2.2.2 i hi
      rw [sld_ne (by decide)] at u3
      refine wf (hs := [2]) 40 2 (by decide) ?_
      refine wF (by show ¬ I' (68 + 14) 0 ≤ iZ i; rw [c0]; simp (disch := omega) only [z_i8, z_i16, z_of, z_ofN, z_lofN, z_0, z_1, z_m1, z_l0, z_l1, iZ_add, iZ_sub, iZ_mul, iZ_neg, lZ_add, lZ_sub, lZ_mul, lZ_neg, z_div, z_ldiv, z_l, z_i, z_lt, z_le, z_eq, z_llt, z_lle, z_leq, z_cgt, z_cge, z_clt, z_cle, z_ceq, z_cl, z_nat, Int.toNat_natCast, mm_I, mm_J, z_cln, z_abs, z_max, z_min, z_lmax, z_lmin, z_sin, Int.cast_ofNat_Int, uI_I, uI_J, uL_I, uL_J, uA_I, uA_J, sI_eq, sI_ne, sL_eq, sL_ne, up_eq, up_ne, uL_eq, uL_ne]; omega) ?_
      simp only [Nat.reduceAdd] at u3
      refine And.intro hin (And.intro (fun q => ?_) (fun q => ?_))
      · simp (disch := omega) only [z_i8, z_i16, z_of, z_ofN, z_lofN, z_0, z_1, z_m1, z_l0, z_l1, iZ_add, iZ_sub, iZ_mul, iZ_neg, lZ_add, lZ_sub, lZ_mul, lZ_neg, z_div, z_ldiv, z_l, z_i, z_lt, z_le, z_eq, z_llt, z_lle, z_leq, z_cgt, z_cge, z_clt, z_cle, z_ceq, z_cl, z_nat, Int.toNat_natCast, mm_I, mm_J, z_cln, z_abs, z_max, z_min, z_lmax, z_lmin, z_sin, Int.cast_ofNat_Int, uI_I, uI_J, uL_I, uL_J, uA_I, uA_J, sI_eq, sI_ne, sL_eq, sL_ne, up_eq, up_ne, uL_eq, uL_ne, u3] at q
        refine wp_keys [0, 1, 2] rfl rfl ?_
        refine ih (_, _) ⟨⟨?_, hF⟩, iZ_add i 1⟩
        unfold sldN
        rw [if_neg (by omega)]
        exact hR'
      · simp (disch := omega) only [z_i8, z_i16, z_of, z_ofN, z_lofN, z_0, z_1, z_m1, z_l0, z_l1, iZ_add, iZ_sub, iZ_mul, iZ_neg, lZ_add, lZ_sub, lZ_mul, lZ_neg, z_div, z_ldiv, z_l, z_i, z_lt, z_le, z_eq, z_llt, z_lle, z_leq, z_cgt, z_cge, z_clt, z_cle, z_ceq, z_cl, z_nat, Int.toNat_natCast, mm_I, mm_J, z_cln, z_abs, z_max, z_min, z_lmax, z_lmin, z_sin, Int.cast_ofNat_Int, uI_I, uI_J, uL_I, uL_J, uA_I, uA_J, sI_eq, sI_ne, sL_eq, sL_ne, up_eq, up_ne, uL_eq, uL_ne, u3] at q
        have fr : ∀ y, Fr 68 I (setI I' (68 + 19) i y) := fun y a ha => by
          rw [← hF a ha]
          funext k
          rw [setI_at, if_neg (by omega)]
        have hc : (iZ (i : Int)).toNatClampNeg = i := z_cln (by omega)
        refine And.intro (fun q2 => ?_) (fun q2 => ?_)
        · simp (disch := omega) only [z_i8, z_i16, z_of, z_ofN, z_lofN, z_0, z_1, z_m1, z_l0, z_l1, iZ_add, iZ_sub, iZ_mul, iZ_neg, lZ_add, lZ_sub, lZ_mul, lZ_neg, z_div, z_ldiv, z_l, z_i, z_lt, z_le, z_eq, z_llt, z_lle, z_leq, z_cgt, z_cge, z_clt, z_cle, z_ceq, z_cl, z_nat, Int.toNat_natCast, mm_I, mm_J, z_cln, z_abs, z_max, z_min, z_lmax, z_lmin, z_sin, Int.cast_ofNat_Int, uI_I, uI_J, uL_I, uL_J, uA_I, uA_J, sI_eq, sI_ne, sL_eq, sL_ne, up_eq, up_ne, uL_eq, uL_ne] at q2
          refine And.intro hin ?_
          refine wp_keys [0, 1, 2] rfl rfl ?_
          refine ih (setI I' (68 + 19) (iZ (i : Int)).toNatClampNeg _, _) ⟨⟨?_, ?_⟩, iZ_add i 1⟩
          · rw [hc]
            unfold sldN
            rw [if_pos (by omega), if_neg (by omega)]
            exact RS_slidO rfl hR'
          · rw [hc]; exact fr _
        · simp (disch := omega) only [z_i8, z_i16, z_of, z_ofN, z_lofN, z_0, z_1, z_m1, z_l0, z_l1, iZ_add, iZ_sub, iZ_mul, iZ_neg, lZ_add, lZ_sub, lZ_mul, lZ_neg, z_div, z_ldiv, z_l, z_i, z_lt, z_le, z_eq, z_llt, z_lle, z_leq, z_cgt, z_cge, z_clt, z_cle, z_ceq, z_cl, z_nat, Int.toNat_natCast, mm_I, mm_J, z_cln, z_abs, z_max, z_min, z_lmax, z_lmin, z_sin, Int.cast_ofNat_Int, uI_I, uI_J, uL_I, uL_J, uA_I, uA_J, sI_eq, sI_ne, sL_eq, sL_ne, up_eq, up_ne, uL_eq, uL_ne] at q2
          refine And.intro hin ?_
          refine wp_keys [0, 1, 2] rfl rfl ?_
          refine ih (setI I' (68 + 19) (iZ (i : Int)).toNatClampNeg _, _) ⟨⟨?_, ?_⟩, iZ_add i 1⟩
          · rw [hc]
            unfold sldN
            rw [if_pos (by omega), if_pos (by omega)]
            exact RS_slidO rfl hR'
          · rw [hc]; exact fr _
  · refine wc (hs := [2]) 40 (by decide) ?_
    refine wp_keys [0, 1, 2] rfl rfl ?_
    have L := lpU (σ := (Nat → Nat → Int32) × Int32) (fun _ s => wp E (d + 1) 16 2 [(0, .ref (101 + 14)), (1, .int (iZ (v 266 7))), (2, .int s.2)] [] (mm s.1 J A) Q) (fun i s => (RS s.1 J 101 (sldN v i) ∧ Fr 101 I s.1) ∧ s.2 = iZ i) (nC v) ?_ ?_
    · exact L 0 (_, _) (by omega) ⟨⟨hR, fun a _ => rfl⟩, rfl⟩
    · rintro ⟨I', x2⟩ ⟨⟨hR', hF⟩, e2⟩
      dsimp only at hR' hF e2
      subst e2
      have c0 : I' (101 + 14) 0 = iZ (nC v) := by have := hR'.2.2.2.1.1; rw [nCe] at this; exact this
      refine wf (hs := [2]) 40 2 (by decide) ?_
      refine wt (Int32.le_of_eq c0) ?_
      exact hQ I' hR' hF
    · rintro i ⟨I', x2⟩ hi ⟨⟨hR', hF⟩, e2⟩ ih
      dsimp only at hR' hF e2
      subst e2
      have c0 : I' (101 + 14) 0 = iZ (nC v) := by have := hR'.2.2.2.1.1; rw [nCe] at this; exact this
      have hin : vp_in (iZ (i : Int)) 6 := z_in (by omega) (by omega) (by omega)
      obtain ⟨u1, u2, u3, u4, u5⟩ := hR'.2.2.2.1.2 i (by rw [nCe]; exact hi)
      obtain ⟨w1, w2, w3, w4, w5⟩ := hW.2.2.2 i hi
      rw [sld_ne (by decide)] at u3
      refine wf (hs := [2]) 40 2 (by decide) ?_
      refine wF (by show ¬ I' (101 + 14) 0 ≤ iZ i; rw [c0]; simp (disch := omega) only [z_i8, z_i16, z_of, z_ofN, z_lofN, z_0, z_1, z_m1, z_l0, z_l1, iZ_add, iZ_sub, iZ_mul, iZ_neg, lZ_add, lZ_sub, lZ_mul, lZ_neg, z_div, z_ldiv, z_l, z_i, z_lt, z_le, z_eq, z_llt, z_lle, z_leq, z_cgt, z_cge, z_clt, z_cle, z_ceq, z_cl, z_nat, Int.toNat_natCast, mm_I, mm_J, z_cln, z_abs, z_max, z_min, z_lmax, z_lmin, z_sin, Int.cast_ofNat_Int, uI_I, uI_J, uL_I, uL_J, uA_I, uA_J, sI_eq, sI_ne, sL_eq, sL_ne, up_eq, up_ne, uL_eq, uL_ne]; omega) ?_
      simp only [Nat.reduceAdd] at u3
      refine And.intro hin (And.intro (fun q => ?_) (fun q => ?_))
      · simp (disch := omega) only [z_i8, z_i16, z_of, z_ofN, z_lofN, z_0, z_1, z_m1, z_l0, z_l1, iZ_add, iZ_sub, iZ_mul, iZ_neg, lZ_add, lZ_sub, lZ_mul, lZ_neg, z_div, z_ldiv, z_l, z_i, z_lt, z_le, z_eq, z_llt, z_lle, z_leq, z_cgt, z_cge, z_clt, z_cle, z_ceq, z_cl, z_nat, Int.toNat_natCast, mm_I, mm_J, z_cln, z_abs, z_max, z_min, z_lmax, z_lmin, z_sin, Int.cast_ofNat_Int, uI_I, uI_J, uL_I, uL_J, uA_I, uA_J, sI_eq, sI_ne, sL_eq, sL_ne, up_eq, up_ne, uL_eq, uL_ne, u3] at q
        refine wp_keys [0, 1, 2] rfl rfl ?_
        refine ih (_, _) ⟨⟨?_, hF⟩, iZ_add i 1⟩
        unfold sldN
        rw [if_neg (by omega)]
        exact hR'
      · simp (disch := omega) only [z_i8, z_i16, z_of, z_ofN, z_lofN, z_0, z_1, z_m1, z_l0, z_l1, iZ_add, iZ_sub, iZ_mul, iZ_neg, lZ_add, lZ_sub, lZ_mul, lZ_neg, z_div, z_ldiv, z_l, z_i, z_lt, z_le, z_eq, z_llt, z_lle, z_leq, z_cgt, z_cge, z_clt, z_cle, z_ceq, z_cl, z_nat, Int.toNat_natCast, mm_I, mm_J, z_cln, z_abs, z_max, z_min, z_lmax, z_lmin, z_sin, Int.cast_ofNat_Int, uI_I, uI_J, uL_I, uL_J, uA_I, uA_J, sI_eq, sI_ne, sL_eq, sL_ne, up_eq, up_ne, uL_eq, uL_ne, u3] at q
        have fr : ∀ y, Fr 101 I (setI I' (101 + 19) i y) := fun y a ha => by
          rw [← hF a ha]
          funext k
          rw [setI_at, if_neg (by omega)]
        have hc : (iZ (i : Int)).toNatClampNeg = i := z_cln (by omega)
        refine And.intro (fun q2 => ?_) (fun q2 => ?_)
        · simp (disch := omega) only [z_i8, z_i16, z_of, z_ofN, z_lofN, z_0, z_1, z_m1, z_l0, z_l1, iZ_add, iZ_sub, iZ_mul, iZ_neg, lZ_add, lZ_sub, lZ_mul, lZ_neg, z_div, z_ldiv, z_l, z_i, z_lt, z_le, z_eq, z_llt, z_lle, z_leq, z_cgt, z_cge, z_clt, z_cle, z_ceq, z_cl, z_nat, Int.toNat_natCast, mm_I, mm_J, z_cln, z_abs, z_max, z_min, z_lmax, z_lmin, z_sin, Int.cast_ofNat_Int, uI_I, uI_J, uL_I, uL_J, uA_I, uA_J, sI_eq, sI_ne, sL_eq, sL_ne, up_eq, up_ne, uL_eq, uL_ne] at q2
          refine And.intro hin ?_
          refine wp_keys [0, 1, 2] rfl rfl ?_
          refine ih (setI I' (101 + 19) (iZ (i : Int)).toNatClampNeg _, _) ⟨⟨?_, ?_⟩, iZ_add i 1⟩
          · rw [hc]
            unfold sldN
            rw [if_pos (by omega), if_neg (by omega)]
            exact RS_slidO rfl hR'
          · rw [hc]; exact fr _
        · simp (disch := omega) only [z_i8, z_i16, z_of, z_ofN, z_lofN, z_0, z_1, z_m1, z_l0, z_l1, iZ_add, iZ_sub, iZ_mul, iZ_neg, lZ_add, lZ_sub, lZ_mul, lZ_neg, z_div, z_ldiv, z_l, z_i, z_lt, z_le, z_eq, z_llt, z_lle, z_leq, z_cgt, z_cge, z_clt, z_cle, z_ceq, z_cl, z_nat, Int.toNat_natCast, mm_I, mm_J, z_cln, z_abs, z_max, z_min, z_lmax, z_lmin, z_sin, Int.cast_ofNat_Int, uI_I, uI_J, uL_I, uL_J, uA_I, uA_J, sI_eq, sI_ne, sL_eq, sL_ne, up_eq, up_ne, uL_eq, uL_ne] at q2
          refine And.intro hin ?_
          refine wp_keys [0, 1, 2] rfl rfl ?_
          refine ih (setI I' (101 + 19) (iZ (i : Int)).toNatClampNeg _, _) ⟨⟨?_, ?_⟩, iZ_add i 1⟩
          · rw [hc]
            unfold sldN
            rw [if_pos (by omega), if_pos (by omega)]
            exact RS_slidO rfl hR'
          · rw [hc]; exact fr _
  · refine wc (hs := [2]) 40 (by decide) ?_
    refine wp_keys [0, 1, 2] rfl rfl ?_
    have L := lpU (σ := (Nat → Nat → Int32) × Int32) (fun _ s => wp E (d + 1) 16 2 [(0, .ref (134 + 14)), (1, .int (iZ (v 266 7))), (2, .int s.2)] [] (mm s.1 J A) Q) (fun i s => (RS s.1 J 134 (sldN v i) ∧ Fr 134 I s.1) ∧ s.2 = iZ i) (nC v) ?_ ?_
    · exact L 0 (_, _) (by omega) ⟨⟨hR, fun a _ => rfl⟩, rfl⟩
    · rintro ⟨I', x2⟩ ⟨⟨hR', hF⟩, e2⟩
      dsimp only at hR' hF e2
      subst e2
      have c0 : I' (134 + 14) 0 = iZ (nC v) := by have := hR'.2.2.2.1.1; rw [nCe] at this; exact this
      refine wf (hs := [2]) 40 2 (by decide) ?_
      refine wt (Int32.le_of_eq c0) ?_
      exact hQ I' hR' hF
    · rintro i ⟨I', x2⟩ hi ⟨⟨hR', hF⟩, e2⟩ ih
      dsimp only at hR' hF e2
      subst e2
      have c0 : I' (134 + 14) 0 = iZ (nC v) := by have := hR'.2.2.2.1.1; rw [nCe] at this; exact this
      have hin : vp_in (iZ (i : Int)) 6 := z_in (by omega) (by omega) (by omega)
      obtain ⟨u1, u2, u3, u4, u5⟩ := hR'.2.2.2.1.2 i (by rw [nCe]; exact hi)
      obtain ⟨w1, w2, w3, w4, w5⟩ := hW.2.2.2 i hi
      rw [sld_ne (by decide)] at u3
      refine wf (hs := [2]) 40 2 (by decide) ?_
      refine wF (by show ¬ I' (134 + 14) 0 ≤ iZ i; rw [c0]; simp (disch := omega) only [z_i8, z_i16, z_of, z_ofN, z_lofN, z_0, z_1, z_m1, z_l0, z_l1, iZ_add, iZ_sub, iZ_mul, iZ_neg, lZ_add, lZ_sub, lZ_mul, lZ_neg, z_div, z_ldiv, z_l, z_i, z_lt, z_le, z_eq, z_llt, z_lle, z_leq, z_cgt, z_cge, z_clt, z_cle, z_ceq, z_cl, z_nat, Int.toNat_natCast, mm_I, mm_J, z_cln, z_abs, z_max, z_min, z_lmax, z_lmin, z_sin, Int.cast_ofNat_Int, uI_I, uI_J, uL_I, uL_J, uA_I, uA_J, sI_eq, sI_ne, sL_eq, sL_ne, up_eq, up_ne, uL_eq, uL_ne]; omega) ?_
      simp only [Nat.reduceAdd] at u3
      refine And.intro hin (And.intro (fun q => ?_) (fun q => ?_))
      · simp (disch := omega) only [z_i8, z_i16, z_of, z_ofN, z_lofN, z_0, z_1, z_m1, z_l0, z_l1, iZ_add, iZ_sub, iZ_mul, iZ_neg, lZ_add, lZ_sub, lZ_mul, lZ_neg, z_div, z_ldiv, z_l, z_i, z_lt, z_le, z_eq, z_llt, z_lle, z_leq, z_cgt, z_cge, z_clt, z_cle, z_ceq, z_cl, z_nat, Int.toNat_natCast, mm_I, mm_J, z_cln, z_abs, z_max, z_min, z_lmax, z_lmin, z_sin, Int.cast_ofNat_Int, uI_I, uI_J, uL_I, uL_J, uA_I, uA_J, sI_eq, sI_ne, sL_eq, sL_ne, up_eq, up_ne, uL_eq, uL_ne, u3] at q
        refine wp_keys [0, 1, 2] rfl rfl ?_
        refine ih (_, _) ⟨⟨?_, hF⟩, iZ_add i 1⟩
        unfold sldN
        rw [if_neg (by omega)]
        exact hR'
      · simp (disch := omega) only [z_i8, z_i16, z_of, z_ofN, z_lofN, z_0, z_1, z_m1, z_l0, z_l1, iZ_add, iZ_sub, iZ_mul, iZ_neg, lZ_add, lZ_sub, lZ_mul, lZ_neg, z_div, z_ldiv, z_l, z_i, z_lt, z_le, z_eq, z_llt, z_lle, z_leq, z_cgt, z_cge, z_clt, z_cle, z_ceq, z_cl, z_nat, Int.toNat_natCast, mm_I, mm_J, z_cln, z_abs, z_max, z_min, z_lmax, z_lmin, z_sin, Int.cast_ofNat_Int, uI_I, uI_J, uL_I, uL_J, uA_I, uA_J, sI_eq, sI_ne, sL_eq, sL_ne, up_eq, up_ne, uL_eq, uL_ne, u3] at q
        have fr : ∀ y, Fr 134 I (setI I' (134 + 19) i y) := fun y a ha => by
          rw [← hF a ha]
          funext k
          rw [setI_at, if_neg (by omega)]
        have hc : (iZ (i : Int)).toNatClampNeg = i := z_cln (by omega)
        refine And.intro (fun q2 => ?_) (fun q2 => ?_)
        · simp (disch := omega) only [z_i8, z_i16, z_of, z_ofN, z_lofN, z_0, z_1, z_m1, z_l0, z_l1, iZ_add, iZ_sub, iZ_mul, iZ_neg, lZ_add, lZ_sub, lZ_mul, lZ_neg, z_div, z_ldiv, z_l, z_i, z_lt, z_le, z_eq, z_llt, z_lle, z_leq, z_cgt, z_cge, z_clt, z_cle, z_ceq, z_cl, z_nat, Int.toNat_natCast, mm_I, mm_J, z_cln, z_abs, z_max, z_min, z_lmax, z_lmin, z_sin, Int.cast_ofNat_Int, uI_I, uI_J, uL_I, uL_J, uA_I, uA_J, sI_eq, sI_ne, sL_eq, sL_ne, up_eq, up_ne, uL_eq, uL_ne] at q2
          refine And.intro hin ?_
          refine wp_keys [0, 1, 2] rfl rfl ?_
          refine ih (setI I' (134 + 19) (iZ (i : Int)).toNatClampNeg _, _) ⟨⟨?_, ?_⟩, iZ_add i 1⟩
          · rw [hc]
            unfold sldN
            rw [if_pos (by omega), if_neg (by omega)]
            exact RS_slidO rfl hR'
          · rw [hc]; exact fr _
        · simp (disch := omega) only [z_i8, z_i16, z_of, z_ofN, z_lofN, z_0, z_1, z_m1, z_l0, z_l1, iZ_add, iZ_sub, iZ_mul, iZ_neg, lZ_add, lZ_sub, lZ_mul, lZ_neg, z_div, z_ldiv, z_l, z_i, z_lt, z_le, z_eq, z_llt, z_lle, z_leq, z_cgt, z_cge, z_clt, z_cle, z_ceq, z_cl, z_nat, Int.toNat_natCast, mm_I, mm_J, z_cln, z_abs, z_max, z_min, z_lmax, z_lmin, z_sin, Int.cast_ofNat_Int, uI_I, uI_J, uL_I, uL_J, uA_I, uA_J, sI_eq, sI_ne, sL_eq, sL_ne, up_eq, up_ne, uL_eq, uL_ne] at q2
          refine And.intro hin ?_
          refine wp_keys [0, 1, 2] rfl rfl ?_
          refine ih (setI I' (134 + 19) (iZ (i : Int)).toNatClampNeg _, _) ⟨⟨?_, ?_⟩, iZ_add i 1⟩
          · rw [hc]
            unfold sldN
            rw [if_pos (by omega), if_pos (by omega)]
            exact RS_slidO rfl hR'
          · rw [hc]; exact fr _
theorem c_letIn {k : Nat} {x : Int32} (hb : B5 b) (hR : RS I J b v) (hW : Wf v) (hH : WfH v) (hk : k < nD v) (ex : x = iZ k) (hQ : ∀ I', RS I' J b (dorZ v k) → Fr b I I' → Q none (mm I' J A)) : wpC E (d + 4) 77 [.ref b, .int x] (mm I J A) Q := by
  have hn : nD v ≤ 12 := by have := hW.1.2.2.2.2.2.2.2.2.2.2.1; unfold nD; omega
  obtain ⟨q1, q2, q3, q4⟩ := hR.2.2.2.2.1.2 k hk
  obtain ⟨w1, w2, w3, w4⟩ := hH.1 k hk
  have h7 := hR.1.2.2.2.2.2.2.2.1
  have l := hW.1.2.2.2.2.2.2.1
  have hin : vp_in (iZ (k : Int)) 12 := z_in (by omega) (by omega) (by omega)
  have hp : (v 282 k).toNat < nP v := by omega
  have e282 : v 282 k = ((v 282 k).toNat : Int) := by omega
  have ib := insB (s := v 283 k) hW hp
  have ob := outB (s := v 283 k) hW l
  subst ex
  rcases id hb with rfl | rfl | rfl | rfl | rfl
  all_goals (
    simp only [Nat.reduceAdd] at q1 q2 q3 q4
    refine wc (hs := []) 60 (by decide) ?_
    refine And.intro hin (And.intro hin (And.intro hin (And.intro rfl (c_inner hb hR hW hp w2 ?_ ?_ ?_))))
    · simp (disch := omega) only [z_i8, z_i16, z_of, z_ofN, z_lofN, z_0, z_1, z_m1, z_l0, z_l1, iZ_add, iZ_sub, iZ_mul, iZ_neg, lZ_add, lZ_sub, lZ_mul, lZ_neg, z_div, z_ldiv, z_l, z_i, z_lt, z_le, z_eq, z_llt, z_lle, z_leq, z_cgt, z_cge, z_clt, z_cle, z_ceq, z_cl, z_nat, Int.toNat_natCast, mm_I, mm_J, z_cln, z_abs, z_max, z_min, z_lmax, z_lmin, z_sin, Int.cast_ofNat_Int, uI_I, uI_J, uL_I, uL_J, uA_I, uA_J, sI_eq, sI_ne, sL_eq, sL_ne, up_eq, up_ne, uL_eq, uL_ne, q1]
      rw [← e282]
    · simp (disch := omega) only [z_i8, z_i16, z_of, z_ofN, z_lofN, z_0, z_1, z_m1, z_l0, z_l1, iZ_add, iZ_sub, iZ_mul, iZ_neg, lZ_add, lZ_sub, lZ_mul, lZ_neg, z_div, z_ldiv, z_l, z_i, z_lt, z_le, z_eq, z_llt, z_lle, z_leq, z_cgt, z_cge, z_clt, z_cle, z_ceq, z_cl, z_nat, Int.toNat_natCast, mm_I, mm_J, z_cln, z_abs, z_max, z_min, z_lmax, z_lmin, z_sin, Int.cast_ofNat_Int, uI_I, uI_J, uL_I, uL_J, uA_I, uA_J, sI_eq, sI_ne, sL_eq, sL_ne, up_eq, up_ne, uL_eq, uL_ne, q2]
    refine And.intro rfl (c_outer hb hR hW l w2 ?_ ?_ ?_)
    · simp (disch := omega) only [z_i8, z_i16, z_of, z_ofN, z_lofN, z_0, z_1, z_m1, z_l0, z_l1, iZ_add, iZ_sub, iZ_mul, iZ_neg, lZ_add, lZ_sub, lZ_mul, lZ_neg, z_div, z_ldiv, z_l, z_i, z_lt, z_le, z_eq, z_llt, z_lle, z_leq, z_cgt, z_cge, z_clt, z_cle, z_ceq, z_cl, z_nat, Int.toNat_natCast, mm_I, mm_J, z_cln, z_abs, z_max, z_min, z_lmax, z_lmin, z_sin, Int.cast_ofNat_Int, uI_I, uI_J, uL_I, uL_J, uA_I, uA_J, sI_eq, sI_ne, sL_eq, sL_ne, up_eq, up_ne, uL_eq, uL_ne, q2]
    · simp (disch := omega) only [z_i8, z_i16, z_of, z_ofN, z_lofN, z_0, z_1, z_m1, z_l0, z_l1, iZ_add, iZ_sub, iZ_mul, iZ_neg, lZ_add, lZ_sub, lZ_mul, lZ_neg, z_div, z_ldiv, z_l, z_i, z_lt, z_le, z_eq, z_llt, z_lle, z_leq, z_cgt, z_cge, z_clt, z_cle, z_ceq, z_cl, z_nat, Int.toNat_natCast, mm_I, mm_J, z_cln, z_abs, z_max, z_min, z_lmax, z_lmin, z_sin, Int.cast_ofNat_Int, uI_I, uI_J, uL_I, uL_J, uA_I, uA_J, sI_eq, sI_ne, sL_eq, sL_ne, up_eq, up_ne, uL_eq, uL_ne, h7]
    refine And.intro (fun r => ?_) (fun r => ?_)
    · simp (disch := omega) only [z_i8, z_i16, z_of, z_ofN, z_lofN, z_0, z_1, z_m1, z_l0, z_l1, iZ_add, iZ_sub, iZ_mul, iZ_neg, lZ_add, lZ_sub, lZ_mul, lZ_neg, z_div, z_ldiv, z_l, z_i, z_lt, z_le, z_eq, z_llt, z_lle, z_leq, z_cgt, z_cge, z_clt, z_cle, z_ceq, z_cl, z_nat, Int.toNat_natCast, mm_I, mm_J, z_cln, z_abs, z_max, z_min, z_lmax, z_lmin, z_sin, Int.cast_ofNat_Int, uI_I, uI_J, uL_I, uL_J, uA_I, uA_J, sI_eq, sI_ne, sL_eq, sL_ne, up_eq, up_ne, uL_eq, uL_ne, q3] at r
      unfold dorZ at hQ
      dsimp only at hQ
      rw [if_neg (by omega)] at hQ
      exact hQ I hR (fun a _ => rfl)
    · simp (disch := omega) only [z_i8, z_i16, z_of, z_ofN, z_lofN, z_0, z_1, z_m1, z_l0, z_l1, iZ_add, iZ_sub, iZ_mul, iZ_neg, lZ_add, lZ_sub, lZ_mul, lZ_neg, z_div, z_ldiv, z_l, z_i, z_lt, z_le, z_eq, z_llt, z_lle, z_leq, z_cgt, z_cge, z_clt, z_cle, z_ceq, z_cl, z_nat, Int.toNat_natCast, mm_I, mm_J, z_cln, z_abs, z_max, z_min, z_lmax, z_lmin, z_sin, Int.cast_ofNat_Int, uI_I, uI_J, uL_I, uL_J, uA_I, uA_J, sI_eq, sI_ne, sL_eq, sL_ne, up_eq, up_ne, uL_eq, uL_ne, q3] at r
      have m := mulb (a := v 285 k) (b := outZ v (v 266 7) (v 283 k) - max (v 284 k) (insZ v (v 282 k).toNat (v 283 k))) (A := 200) (B := 3000000) (by omega) w4.2 (by omega) (by omega)
      have cb := (capB (hW.2.2.1 _ hp)).2.2
      have w6 := (hW.2.2.1 _ hp).2.2.2.2.2.2
      refine And.intro hin (And.intro (by decide) (And.intro rfl (c_add hb hR hW hp (n := v 285 k * (outZ v (v 266 7) (v 283 k) - max (v 284 k) (insZ v (v 282 k).toNat (v 283 k))) / 100) ⟨by omega, by omega⟩ ?_ ?_ ?_)))
      · simp (disch := omega) only [z_i8, z_i16, z_of, z_ofN, z_lofN, z_0, z_1, z_m1, z_l0, z_l1, iZ_add, iZ_sub, iZ_mul, iZ_neg, lZ_add, lZ_sub, lZ_mul, lZ_neg, z_div, z_ldiv, z_l, z_i, z_lt, z_le, z_eq, z_llt, z_lle, z_leq, z_cgt, z_cge, z_clt, z_cle, z_ceq, z_cl, z_nat, Int.toNat_natCast, mm_I, mm_J, z_cln, z_abs, z_max, z_min, z_lmax, z_lmin, z_sin, Int.cast_ofNat_Int, uI_I, uI_J, uL_I, uL_J, uA_I, uA_J, sI_eq, sI_ne, sL_eq, sL_ne, up_eq, up_ne, uL_eq, uL_ne, q1]
        rw [← e282]
      · simp (disch := omega) only [z_i8, z_i16, z_of, z_ofN, z_lofN, z_0, z_1, z_m1, z_l0, z_l1, iZ_add, iZ_sub, iZ_mul, iZ_neg, lZ_add, lZ_sub, lZ_mul, lZ_neg, z_div, z_ldiv, z_l, z_i, z_lt, z_le, z_eq, z_llt, z_lle, z_leq, z_cgt, z_cge, z_clt, z_cle, z_ceq, z_cl, z_nat, Int.toNat_natCast, mm_I, mm_J, z_cln, z_abs, z_max, z_min, z_lmax, z_lmin, z_sin, Int.cast_ofNat_Int, uI_I, uI_J, uL_I, uL_J, uA_I, uA_J, sI_eq, sI_ne, sL_eq, sL_ne, up_eq, up_ne, uL_eq, uL_ne, q3, q4]
      · intro I' hR' hF
        refine hQ I' ?_ hF
        unfold dorZ
        dsimp only
        rw [if_pos (by omega)]
        unfold porZ
        have e : max 0 (min (v 276 (v 282 k).toNat + v 285 k * (outZ v (v 266 7) (v 283 k) - max (v 284 k) (insZ v (v 282 k).toNat (v 283 k))) / 100) (capZ v (v 282 k).toNat)) = min (v 276 (v 282 k).toNat + v 285 k * (outZ v (v 266 7) (v 283 k) - max (v 284 k) (insZ v (v 282 k).toNat (v 283 k))) / 100) (capZ v (v 282 k).toNat) := by omega
        rw [e]
        exact hR')
theorem c_letOut {k : Nat} {x : Int32} (hb : B5 b) (hR : RS I J b v) (hW : Wf v) (hH : WfH v) (hk : k < nO v) (ex : x = iZ k) (hQ : ∀ I', RS I' J b (prtZ v k) → Fr b I I' → Q none (mm I' J A)) : wpC E (d + 4) 78 [.ref b, .int x] (mm I J A) Q := by
  have hn : nO v ≤ 12 := by have := hW.1.2.2.2.2.2.2.2.2.2.2.2.1; unfold nO; omega
  obtain ⟨q1, q2, q3, q4⟩ := hR.2.2.2.2.2.1.2 k hk
  obtain ⟨w1, w2, w3, w4⟩ := hH.2.1 k hk
  have h7 := hR.1.2.2.2.2.2.2.2.1
  have l := hW.1.2.2.2.2.2.2.1
  have hin : vp_in (iZ (k : Int)) 12 := z_in (by omega) (by omega) (by omega)
  have hp : (v 286 k).toNat < nP v := by omega
  have e282 : v 286 k = ((v 286 k).toNat : Int) := by omega
  have ib := insB (s := v 287 k) hW hp
  have ob := outB (s := v 287 k) hW l
  subst ex
  rcases id hb with rfl | rfl | rfl | rfl | rfl
  all_goals (
    simp only [Nat.reduceAdd] at q1 q2 q3 q4
    refine wc (hs := []) 60 (by decide) ?_
    refine And.intro hin (And.intro hin (And.intro hin (And.intro rfl (c_outer hb hR hW l w2 ?_ ?_ ?_))))
    · simp (disch := omega) only [z_i8, z_i16, z_of, z_ofN, z_lofN, z_0, z_1, z_m1, z_l0, z_l1, iZ_add, iZ_sub, iZ_mul, iZ_neg, lZ_add, lZ_sub, lZ_mul, lZ_neg, z_div, z_ldiv, z_l, z_i, z_lt, z_le, z_eq, z_llt, z_lle, z_leq, z_cgt, z_cge, z_clt, z_cle, z_ceq, z_cl, z_nat, Int.toNat_natCast, mm_I, mm_J, z_cln, z_abs, z_max, z_min, z_lmax, z_lmin, z_sin, Int.cast_ofNat_Int, uI_I, uI_J, uL_I, uL_J, uA_I, uA_J, sI_eq, sI_ne, sL_eq, sL_ne, up_eq, up_ne, uL_eq, uL_ne, q2]
    · simp (disch := omega) only [z_i8, z_i16, z_of, z_ofN, z_lofN, z_0, z_1, z_m1, z_l0, z_l1, iZ_add, iZ_sub, iZ_mul, iZ_neg, lZ_add, lZ_sub, lZ_mul, lZ_neg, z_div, z_ldiv, z_l, z_i, z_lt, z_le, z_eq, z_llt, z_lle, z_leq, z_cgt, z_cge, z_clt, z_cle, z_ceq, z_cl, z_nat, Int.toNat_natCast, mm_I, mm_J, z_cln, z_abs, z_max, z_min, z_lmax, z_lmin, z_sin, Int.cast_ofNat_Int, uI_I, uI_J, uL_I, uL_J, uA_I, uA_J, sI_eq, sI_ne, sL_eq, sL_ne, up_eq, up_ne, uL_eq, uL_ne, h7]
    refine And.intro rfl (c_inner hb hR hW hp w2 ?_ ?_ ?_)
    · simp (disch := omega) only [z_i8, z_i16, z_of, z_ofN, z_lofN, z_0, z_1, z_m1, z_l0, z_l1, iZ_add, iZ_sub, iZ_mul, iZ_neg, lZ_add, lZ_sub, lZ_mul, lZ_neg, z_div, z_ldiv, z_l, z_i, z_lt, z_le, z_eq, z_llt, z_lle, z_leq, z_cgt, z_cge, z_clt, z_cle, z_ceq, z_cl, z_nat, Int.toNat_natCast, mm_I, mm_J, z_cln, z_abs, z_max, z_min, z_lmax, z_lmin, z_sin, Int.cast_ofNat_Int, uI_I, uI_J, uL_I, uL_J, uA_I, uA_J, sI_eq, sI_ne, sL_eq, sL_ne, up_eq, up_ne, uL_eq, uL_ne, q1]
      rw [← e282]
    · simp (disch := omega) only [z_i8, z_i16, z_of, z_ofN, z_lofN, z_0, z_1, z_m1, z_l0, z_l1, iZ_add, iZ_sub, iZ_mul, iZ_neg, lZ_add, lZ_sub, lZ_mul, lZ_neg, z_div, z_ldiv, z_l, z_i, z_lt, z_le, z_eq, z_llt, z_lle, z_leq, z_cgt, z_cge, z_clt, z_cle, z_ceq, z_cl, z_nat, Int.toNat_natCast, mm_I, mm_J, z_cln, z_abs, z_max, z_min, z_lmax, z_lmin, z_sin, Int.cast_ofNat_Int, uI_I, uI_J, uL_I, uL_J, uA_I, uA_J, sI_eq, sI_ne, sL_eq, sL_ne, up_eq, up_ne, uL_eq, uL_ne, q2]
    refine And.intro (fun r => ?_) (fun r => ?_)
    · simp (disch := omega) only [z_i8, z_i16, z_of, z_ofN, z_lofN, z_0, z_1, z_m1, z_l0, z_l1, iZ_add, iZ_sub, iZ_mul, iZ_neg, lZ_add, lZ_sub, lZ_mul, lZ_neg, z_div, z_ldiv, z_l, z_i, z_lt, z_le, z_eq, z_llt, z_lle, z_leq, z_cgt, z_cge, z_clt, z_cle, z_ceq, z_cl, z_nat, Int.toNat_natCast, mm_I, mm_J, z_cln, z_abs, z_max, z_min, z_lmax, z_lmin, z_sin, Int.cast_ofNat_Int, uI_I, uI_J, uL_I, uL_J, uA_I, uA_J, sI_eq, sI_ne, sL_eq, sL_ne, up_eq, up_ne, uL_eq, uL_ne, q3] at r
      unfold prtZ at hQ
      dsimp only at hQ
      rw [if_neg (by omega)] at hQ
      exact hQ I hR (fun a _ => rfl)
    · simp (disch := omega) only [z_i8, z_i16, z_of, z_ofN, z_lofN, z_0, z_1, z_m1, z_l0, z_l1, iZ_add, iZ_sub, iZ_mul, iZ_neg, lZ_add, lZ_sub, lZ_mul, lZ_neg, z_div, z_ldiv, z_l, z_i, z_lt, z_le, z_eq, z_llt, z_lle, z_leq, z_cgt, z_cge, z_clt, z_cle, z_ceq, z_cl, z_nat, Int.toNat_natCast, mm_I, mm_J, z_cln, z_abs, z_max, z_min, z_lmax, z_lmin, z_sin, Int.cast_ofNat_Int, uI_I, uI_J, uL_I, uL_J, uA_I, uA_J, sI_eq, sI_ne, sL_eq, sL_ne, up_eq, up_ne, uL_eq, uL_ne, q3] at r
      have m := mulb (a := v 289 k) (b := insZ v (v 286 k).toNat (v 287 k) - max (v 288 k) (outZ v (v 266 7) (v 287 k))) (A := 200) (B := 3000000) (by omega) w4.2 (by omega) (by omega)
      have cb := (capB (hW.2.2.1 _ hp)).2.2
      have w6 := (hW.2.2.1 _ hp).2.2.2.2.2.2
      refine And.intro hin (And.intro (by decide) (And.intro rfl (c_remove hb hR hW hp (n := v 289 k * (insZ v (v 286 k).toNat (v 287 k) - max (v 288 k) (outZ v (v 266 7) (v 287 k))) / 100) ⟨by omega, by omega⟩ ?_ ?_ ?_)))
      · simp (disch := omega) only [z_i8, z_i16, z_of, z_ofN, z_lofN, z_0, z_1, z_m1, z_l0, z_l1, iZ_add, iZ_sub, iZ_mul, iZ_neg, lZ_add, lZ_sub, lZ_mul, lZ_neg, z_div, z_ldiv, z_l, z_i, z_lt, z_le, z_eq, z_llt, z_lle, z_leq, z_cgt, z_cge, z_clt, z_cle, z_ceq, z_cl, z_nat, Int.toNat_natCast, mm_I, mm_J, z_cln, z_abs, z_max, z_min, z_lmax, z_lmin, z_sin, Int.cast_ofNat_Int, uI_I, uI_J, uL_I, uL_J, uA_I, uA_J, sI_eq, sI_ne, sL_eq, sL_ne, up_eq, up_ne, uL_eq, uL_ne, q1]
        rw [← e282]
      · simp (disch := omega) only [z_i8, z_i16, z_of, z_ofN, z_lofN, z_0, z_1, z_m1, z_l0, z_l1, iZ_add, iZ_sub, iZ_mul, iZ_neg, lZ_add, lZ_sub, lZ_mul, lZ_neg, z_div, z_ldiv, z_l, z_i, z_lt, z_le, z_eq, z_llt, z_lle, z_leq, z_cgt, z_cge, z_clt, z_cle, z_ceq, z_cl, z_nat, Int.toNat_natCast, mm_I, mm_J, z_cln, z_abs, z_max, z_min, z_lmax, z_lmin, z_sin, Int.cast_ofNat_Int, uI_I, uI_J, uL_I, uL_J, uA_I, uA_J, sI_eq, sI_ne, sL_eq, sL_ne, up_eq, up_ne, uL_eq, uL_ne, q3, q4]
      · intro I' hR' hF
        refine hQ I' ?_ hF
        unfold prtZ
        dsimp only
        rw [if_pos (by omega)]
        unfold porZ
        have e : max 0 (min (v 276 (v 286 k).toNat + -(v 289 k * (insZ v (v 286 k).toNat (v 287 k) - max (v 288 k) (outZ v (v 266 7) (v 287 k))) / 100)) (capZ v (v 286 k).toNat)) = max (v 276 (v 286 k).toNat - v 289 k * (insZ v (v 286 k).toNat (v 287 k) - max (v 288 k) (outZ v (v 266 7) (v 287 k))) / 100) 0 := by omega
        rw [e]
        exact hR')
end C8
end
section
/-! ===== a plan's code: words, signs, the row of values ===== -/
theorem z_toInt {z : Int} (h1 : -2147483648 ≤ z) (h2 : z ≤ 2147483647) : (iZ z).toInt = z := iZ_toInt ⟨h1, h2⟩
theorem tb_none {x : Int} {jp : Int → Prop} : ∀ (os : List Int) (v : Int), (x < v ∨ v + os.length ≤ x) → wx_tb x jp v os := by
  intro os
  induction os with
  | nil => intro v _; exact trivial
  | cons o os ih =>
    intro v h
    simp only [List.length_cons] at h
    exact ⟨fun q => by omega, ih (v + 1) (by omega)⟩
theorem tb_one {x : Int} {jp : Int → Prop} : ∀ (os : List Int) (v : Int) (i : Nat) {o : Int}, x = v + i → os[i]? = some o → jp o → wx_tb x jp v os := by
  intro os
  induction os with
  | nil => intro v i o _ h; cases h
  | cons a os ih =>
    intro v i o hx ho h
    cases i with
    | zero => cases ho; exact ⟨fun _ => h, tb_none os (v + 1) (Or.inl (by omega))⟩
    | succ i => exact ⟨fun q => by omega, ih (v + 1) i (by omega) ho h⟩
/-- a table: the way of one number -/
theorem wtb {P : Prop} {x : Int} {jp : Int → Prop} {os : Array Int} {v hi : Int} (i : Nat) {o : Int} (hx : x = v + i) (hs : v + os.size = hi + 1) (ho : os.toList[i]? = some o) (h : jp o) : (x < v ∨ hi < x → P) ∧ v + os.size = hi + 1 ∧ wx_tb x jp v os.toList :=
  ⟨fun q => by
    have := (List.getElem?_eq_some_iff.mp ho).1
    rw [Array.length_toList] at this
    omega, hs, tb_one _ _ i hx ho h⟩
theorem wtd {P : Prop} {x : Int} {jp : Int → Prop} {os : Array Int} {v hi : Int} (hx : x < v ∨ hi < x) (hs : v + os.size = hi + 1) (h : P) : (x < v ∨ hi < x → P) ∧ v + os.size = hi + 1 ∧ wx_tb x jp v os.toList :=
  ⟨fun _ => h, hs, tb_none _ _ (by rw [Array.length_toList]; omega)⟩
def jnL (x : Int) (a b : Int64) : Int64 :=
  if x = 27 then a + b else if x = 28 then a - b else if x = 29 then a * b else if x = 30 then (if b = 0 then 0 else a / b)
  else if x = 31 then (if a < b then 1 else 0) else if x = 32 then (if a ≤ b then 1 else 0) else if x = 33 then (if a = b then 1 else 0)
  else if x = 34 then (if b ≤ a then 1 else 0) else if x = 35 then (if b < a then 1 else 0) else if x = 24 then a &&& b else if x = 25 then a ||| b else 0
/-- a sign of the class's as the reference has it -/
def smp (x : Int) : Int := if x = 24 then 10 else if x = 25 then 11 else if x = 26 then 9 else if x = 27 then 2 else if x = 28 then 3 else if x = 29 then 13 else if x = 30 then 14 else x - 27
def wrdZ (v : am_V) (x : Int) : Int := if x < 12 then (if x < nP v then v 276 x.toNat else 0) else if x = 12 then (v 266 7).natAbs else if x = 13 then (if 0 < v 266 7 then 1 else if v 266 7 < 0 then -1 else 0) else if x = 14 then v 266 8 else if x = 15 then drZ v else if x = 16 then v 266 6 else if x = 17 then totZ v 0 else if x = 18 then stfZ v 0 0 else x - 100
def stpL (w : Int → Int64) (x : Int) (st : List Int64) : List Int64 :=
  if 18 < x ∧ x < 100 then (if x = 26 then (match st with
    | a :: s => (1 - a) :: s
    | [] => []) else (match st with
    | b :: a :: s => jnL x a b :: s
    | s => s)) else w x :: st
def evN (w : Int → Int64) (c : Nat → Int) : Nat → Nat → List Int64 → List Int64
  | 0, _, st => st
  | n + 1, i, st => evN w c n (i + 1) (stpL w (c i) st)
/-- a code that can be computed, with so many values standing -/
def okN (c : Nat → Int) : Nat → Nat → Nat → Prop
  | 0, _, k => k = 1
  | n + 1, i, k => (((0 ≤ c i ∧ c i ≤ 18) ∨ (100 ≤ c i ∧ c i ≤ 100099)) ∧ k < 60 ∧ okN c n (i + 1) (k + 1)) ∨ (c i = 26 ∧ 1 ≤ k ∧ okN c n (i + 1) k) ∨ ((24 ≤ c i ∧ c i ≤ 35 ∧ c i ≠ 26) ∧ 2 ≤ k ∧ okN c n (i + 1) (k - 1))
theorem evN_congr {w : Int → Int64} {c c' : Nat → Int} : ∀ (n i : Nat) (st : List Int64), (∀ j, i ≤ j → j < i + n → c j = c' j) → evN w c n i st = evN w c' n i st := by
  intro n
  induction n with
  | zero => intro i st _; rfl
  | succ n ih =>
    intro i st h
    show evN w c n (i + 1) _ = evN w c' n (i + 1) _
    rw [h i (by omega) (by omega)]
    exact ih (i + 1) _ (fun j h1 h2 => h j (by omega) (by omega))
theorem okN_congr {c c' : Nat → Int} : ∀ (n i k : Nat), (∀ j, i ≤ j → j < i + n → c j = c' j) → okN c n i k → okN c' n i k := by
  intro n
  induction n with
  | zero => intro i k _ h; exact h
  | succ n ih =>
    intro i k h ho
    have e := h i (by omega) (by omega)
    have ih' := fun k' => ih (i + 1) k' (fun j h1 h2 => h j (by omega) (by omega))
    unfold okN at ho ⊢
    rw [← e]
    rcases ho with ⟨a, b, c⟩ | ⟨a, b, c⟩ | ⟨a, b, c⟩
    · exact Or.inl ⟨a, b, ih' _ c⟩
    · exact Or.inr (Or.inl ⟨a, b, ih' _ c⟩)
    · exact Or.inr (Or.inr ⟨a, b, ih' _ c⟩)
/-- the row of values in the memory -/
def SK (J : Nat → Nat → Int64) (σ : Nat) (st : List Int64) : Prop := ∀ i, i < st.length → J σ i = st.getD (st.length - 1 - i) 0
theorem SK_nil {J : Nat → Nat → Int64} {σ : Nat} : SK J σ [] := fun i h => by simp at h
theorem SK_tl {J : Nat → Nat → Int64} {σ : Nat} {a : Int64} {s : List Int64} (h : SK J σ (a :: s)) : SK J σ s ∧ J σ s.length = a := by
  refine ⟨fun i hi => ?_, ?_⟩
  · have := h i (by simp only [List.length_cons]; omega)
    simp only [List.length_cons] at this
    rw [this, show s.length + 1 - 1 - i = (s.length - 1 - i) + 1 by omega]
    rfl
  · have := h s.length (by simp only [List.length_cons]; omega)
    simp only [List.length_cons] at this
    rw [this, show s.length + 1 - 1 - s.length = 0 by omega]
    rfl
theorem SK_put {J : Nat → Nat → Int64} {σ : Nat} {y : Int64} {s : List Int64} (h : SK J σ s) : SK (setL J σ s.length y) σ (y :: s) := by
  intro i hi
  simp only [List.length_cons] at hi ⊢
  rw [setL_at]
  by_cases hs : i = s.length
  · rw [if_pos ⟨rfl, hs⟩, show s.length + 1 - 1 - i = 0 by omega]; rfl
  · rw [if_neg (fun q => hs q.2), h i (by omega), show s.length + 1 - 1 - i = (s.length - 1 - i) + 1 by omega]; rfl
theorem SK_eq {J J' : Nat → Nat → Int64} {σ : Nat} {s : List Int64} (h : SK J σ s) (e : J' σ = J σ) : SK J' σ s := by
  unfold SK at h ⊢
  rw [e]; exact h
section C9
variable {E : Nat × (Nat → Int32)} {d : Nat} {I : Nat → Nat → Int32} {J : Nat → Nat → Int64} {A : Nat → Option Nat} {Q : Option Value → am_M → Prop} {M : am_M} {β b : Nat} {v : am_V} {mw mu mom : Int}
theorem c_joined {x : Int} {y : Int32} {a b : Int64} (hx : 24 ≤ x ∧ x ≤ 35 ∧ x ≠ 26) (ey : y = iZ x) (hQ : Q (some (.long (jnL x a b))) M) : wpC E d 64 [.int y, .long a, .long b] M Q := by
  have hc : x = 24 ∨ x = 25 ∨ x = 27 ∨ x = 28 ∨ x = 29 ∨ x = 30 ∨ x = 31 ∨ x = 32 ∨ x = 33 ∨ x = 34 ∨ x = 35 := by omega
  subst ey
  rcases hc with rfl | rfl | rfl | rfl | rfl | rfl | rfl | rfl | rfl | rfl | rfl
  · exact wc (hs := []) 20 (by decide) (wtb 0 rfl rfl rfl hQ)
  · exact wc (hs := []) 20 (by decide) (wtb 1 rfl rfl rfl hQ)
  · exact wc (hs := []) 20 (by decide) (wtb 3 rfl rfl rfl hQ)
  · exact wc (hs := []) 20 (by decide) (wtb 4 rfl rfl rfl hQ)
  · exact wc (hs := []) 20 (by decide) (wtb 5 rfl rfl rfl hQ)
  · refine wc (hs := []) 20 (by decide) (wtb 6 rfl rfl rfl ?_)
    refine And.intro (fun q => ?_) (fun q => ?_)
    · refine q_l hQ ?_
      have q : b = 0 := (lg_cmp_eq _ _).mp q
      show (0 : Int64) = if b = 0 then 0 else a / b
      rw [if_pos q]
    · have q : ¬ b = 0 := fun r => q ((lg_cmp_eq _ _).mpr r)
      refine And.intro q (q_l hQ ?_)
      show a / b = if b = 0 then 0 else a / b
      rw [if_neg q]
  · refine wc (hs := []) 20 (by decide) (wtb 7 rfl rfl rfl ?_)
    refine And.intro (fun q => ?_) (fun q => ?_)
    · refine q_l hQ ?_
      show (0 : Int64) = if a < b then 1 else 0
      rw [if_neg (Int64.not_lt.mpr ((lg_cmp_ge _ _).mp q))]
    · refine q_l hQ ?_
      show (1 : Int64) = if a < b then 1 else 0
      rw [if_pos (Int64.not_le.mp fun r => q ((lg_cmp_ge _ _).mpr r))]
  · refine wc (hs := []) 20 (by decide) (wtb 8 rfl rfl rfl ?_)
    refine And.intro (fun q => ?_) (fun q => ?_)
    · refine q_l hQ ?_
      show (0 : Int64) = if a ≤ b then 1 else 0
      rw [if_neg (Int64.not_le.mpr ((lg_cmp_gt _ _).mp q))]
    · refine q_l hQ ?_
      show (1 : Int64) = if a ≤ b then 1 else 0
      rw [if_pos (Int64.not_lt.mp fun r => q ((lg_cmp_gt _ _).mpr r))]
  · refine wc (hs := []) 20 (by decide) (wtb 9 rfl rfl rfl ?_)
    refine And.intro (fun q => ?_) (fun q => ?_)
    · refine q_l hQ ?_
      show (1 : Int64) = if a = b then 1 else 0
      rw [if_pos ((lg_cmp_eq _ _).mp q)]
    · refine q_l hQ ?_
      show (0 : Int64) = if a = b then 1 else 0
      rw [if_neg (fun r => q ((lg_cmp_eq _ _).mpr r))]
  · refine wc (hs := []) 20 (by decide) (wtb 10 rfl rfl rfl ?_)
    refine And.intro (fun q => ?_) (fun q => ?_)
    · refine q_l hQ ?_
      show (0 : Int64) = if b ≤ a then 1 else 0
      rw [if_neg (Int64.not_le.mpr ((lg_cmp_lt _ _).mp q))]
    · refine q_l hQ ?_
      show (1 : Int64) = if b ≤ a then 1 else 0
      rw [if_pos (Int64.not_lt.mp fun r => q ((lg_cmp_lt _ _).mpr r))]
  · refine wc (hs := []) 20 (by decide) (wtb 11 rfl rfl rfl ?_)
    refine And.intro (fun q => ?_) (fun q => ?_)
    · refine q_l hQ ?_
      show (0 : Int64) = if b < a then 1 else 0
      rw [if_neg (Int64.not_lt.mpr ((lg_cmp_le _ _).mp q))]
    · refine q_l hQ ?_
      show (1 : Int64) = if b < a then 1 else 0
      rw [if_pos (Int64.not_le.mp fun r => q ((lg_cmp_le _ _).mpr r))]
theorem m_truth {y : Int32} (h1 : y = 1 → Q (some (.long 1)) M) (h0 : y = 0 → Q (some (.long 0)) M) (hy : y = 1 ∨ y = 0) : wpC E d 214 [.int y] M Q := by
  rcases hy with rfl | rfl
  · exact wc (hs := []) 20 (by decide) (wF (by decide) (h1 rfl))
  · exact wc (hs := []) 20 (by decide) (wt rfl (h0 rfl))
theorem m_both {x : Int} {y : Int32} {a b : Int64} (hx : 24 ≤ x ∧ x ≤ 35 ∧ x ≠ 26) (ey : y = iZ (smp x)) (hQ : Q (some (.long (jnL x a b))) M) : wpC E (d + 1) 215 [.int y, .long a, .long b] M Q := by
  have hc : x = 24 ∨ x = 25 ∨ x = 27 ∨ x = 28 ∨ x = 29 ∨ x = 30 ∨ x = 31 ∨ x = 32 ∨ x = 33 ∨ x = 34 ∨ x = 35 := by omega
  subst ey
  rcases hc with rfl | rfl | rfl | rfl | rfl | rfl | rfl | rfl | rfl | rfl | rfl
  · exact wc (hs := []) 20 (by decide) (wtb 8 rfl rfl rfl hQ)
  · exact wc (hs := []) 20 (by decide) (wtb 9 rfl rfl rfl hQ)
  · exact wc (hs := []) 20 (by decide) (wtb 0 rfl rfl rfl hQ)
  · exact wc (hs := []) 20 (by decide) (wtb 1 rfl rfl rfl hQ)
  · exact wc (hs := []) 20 (by decide) (wtb 11 rfl rfl rfl hQ)
  · refine wc (hs := []) 20 (by decide) (wtb 12 rfl rfl rfl ?_)
    refine And.intro (fun q => ?_) (fun q => ?_)
    · refine q_l hQ ?_
      have q : b = 0 := (lg_cmp_eq _ _).mp q
      show (0 : Int64) = if b = 0 then 0 else a / b
      rw [if_pos q]
    · have q : ¬ b = 0 := fun r => q ((lg_cmp_eq _ _).mpr r)
      refine And.intro q (q_l hQ ?_)
      show a / b = if b = 0 then 0 else a / b
      rw [if_neg q]
  · refine wc (hs := []) 20 (by decide) (wtb 2 rfl rfl rfl ?_)
    refine And.intro (fun q => ?_) (fun q => ?_)
    · refine And.intro rfl (m_truth (fun q => by cases q) (fun _ => ?_) (Or.inr rfl))
      refine q_l hQ ?_
      show (0 : Int64) = if a < b then 1 else 0
      rw [if_neg (Int64.not_lt.mpr ((lg_cmp_ge _ _).mp q))]
    · refine And.intro rfl (m_truth (fun _ => ?_) (fun q => by cases q) (Or.inl rfl))
      refine q_l hQ ?_
      show (1 : Int64) = if a < b then 1 else 0
      rw [if_pos (Int64.not_le.mp fun r => q ((lg_cmp_ge _ _).mpr r))]
  · refine wc (hs := []) 20 (by decide) (wtb 3 rfl rfl rfl ?_)
    refine And.intro (fun q => ?_) (fun q => ?_)
    · refine And.intro rfl (m_truth (fun q => by cases q) (fun _ => ?_) (Or.inr rfl))
      refine q_l hQ ?_
      show (0 : Int64) = if a ≤ b then 1 else 0
      rw [if_neg (Int64.not_le.mpr ((lg_cmp_gt _ _).mp q))]
    · refine And.intro rfl (m_truth (fun _ => ?_) (fun q => by cases q) (Or.inl rfl))
      refine q_l hQ ?_
      show (1 : Int64) = if a ≤ b then 1 else 0
      rw [if_pos (Int64.not_lt.mp fun r => q ((lg_cmp_gt _ _).mpr r))]
  · refine wc (hs := []) 20 (by decide) (wtb 4 rfl rfl rfl ?_)
    refine And.intro (fun q => ?_) (fun q => ?_)
    · refine And.intro rfl (m_truth (fun _ => ?_) (fun q => by cases q) (Or.inl rfl))
      refine q_l hQ ?_
      show (1 : Int64) = if a = b then 1 else 0
      rw [if_pos ((lg_cmp_eq _ _).mp q)]
    · refine And.intro rfl (m_truth (fun q => by cases q) (fun _ => ?_) (Or.inr rfl))
      refine q_l hQ ?_
      show (0 : Int64) = if a = b then 1 else 0
      rw [if_neg (fun r => q ((lg_cmp_eq _ _).mpr r))]
  · refine wc (hs := []) 20 (by decide) (wtb 5 rfl rfl rfl ?_)
    refine And.intro (fun q => ?_) (fun q => ?_)
    · refine And.intro rfl (m_truth (fun q => by cases q) (fun _ => ?_) (Or.inr rfl))
      refine q_l hQ ?_
      show (0 : Int64) = if b ≤ a then 1 else 0
      rw [if_neg (Int64.not_le.mpr ((lg_cmp_lt _ _).mp q))]
    · refine And.intro rfl (m_truth (fun _ => ?_) (fun q => by cases q) (Or.inl rfl))
      refine q_l hQ ?_
      show (1 : Int64) = if b ≤ a then 1 else 0
      rw [if_pos (Int64.not_lt.mp fun r => q ((lg_cmp_lt _ _).mpr r))]
  · refine wc (hs := []) 20 (by decide) (wtb 6 rfl rfl rfl ?_)
    refine And.intro (fun q => ?_) (fun q => ?_)
    · refine And.intro rfl (m_truth (fun q => by cases q) (fun _ => ?_) (Or.inr rfl))
      refine q_l hQ ?_
      show (0 : Int64) = if b < a then 1 else 0
      rw [if_neg (Int64.not_lt.mpr ((lg_cmp_le _ _).mp q))]
    · refine And.intro rfl (m_truth (fun _ => ?_) (fun q => by cases q) (Or.inl rfl))
      refine q_l hQ ?_
      show (1 : Int64) = if b < a then 1 else 0
      rw [if_pos (Int64.not_le.mp fun r => q ((lg_cmp_le _ _).mpr r))]
theorem c_worth {x : Int} {y : Int32} (hb : B5 b) (hR : RS I J b v) (hW : Wf v) (hx : 0 ≤ x ∧ x ≤ 17) (ey : y = iZ x) (hQ : Q (some (.long (lZ (wrdZ v x)))) (mm I J A)) : wpC E (d + 2) 63 [.ref b, .int y] (mm I J A) Q := by
  have h12 := nP12 hW
  obtain ⟨⟨r0, r1, r2, r3, r4, r5, r6, r7, r8, r9⟩, ra, ⟨rp0, rp, rw0⟩, -⟩ := id hR
  have tt := totB hW (mw := 0) ⟨by omega, by omega⟩
  have db := drB hW
  obtain ⟨w1, w2, w3, w4, w5, w6, w7, w8, -⟩ := id hW.1
  subst ey
  rcases id hb with rfl | rfl | rfl | rfl | rfl
  all_goals (
    by_cases h : x < 12
    · refine wc (hs := []) 40 (by decide) (wtd ?_ rfl ?_)
      · rw [iZ_toInt ⟨by omega, by omega⟩]; omega
      refine wF (by ((try simp (disch := omega) only [z_i8, z_i16, z_of, z_ofN, z_lofN, z_0, z_1, z_m1, z_l0, z_l1, iZ_add, iZ_sub, iZ_mul, iZ_neg, lZ_add, lZ_sub, lZ_mul, lZ_neg, z_div, z_ldiv, z_l, z_i, z_lt, z_le, z_eq, z_llt, z_lle, z_leq, z_cgt, z_cge, z_clt, z_cle, z_ceq, z_cl, z_nat, Int.toNat_natCast, mm_I, mm_J, z_cln, z_abs, z_max, z_min, z_lmax, z_lmin, z_sin, Int.cast_ofNat_Int, uI_I, uI_J, uL_I, uL_J, uA_I, uA_J, sI_eq, sI_ne, sL_eq, sL_ne, up_eq, up_ne, uL_eq, uL_ne, z_toInt]) <;> omega)) ?_
      refine And.intro (fun q => ?_) (fun q => ?_)
      · simp only [Nat.reduceAdd] at rp0
        simp (disch := omega) only [z_i8, z_i16, z_of, z_ofN, z_lofN, z_0, z_1, z_m1, z_l0, z_l1, iZ_add, iZ_sub, iZ_mul, iZ_neg, lZ_add, lZ_sub, lZ_mul, lZ_neg, z_div, z_ldiv, z_l, z_i, z_lt, z_le, z_eq, z_llt, z_lle, z_leq, z_cgt, z_cge, z_clt, z_cle, z_ceq, z_cl, z_nat, Int.toNat_natCast, mm_I, mm_J, z_cln, z_abs, z_max, z_min, z_lmax, z_lmin, z_sin, Int.cast_ofNat_Int, uI_I, uI_J, uL_I, uL_J, uA_I, uA_J, sI_eq, sI_ne, sL_eq, sL_ne, up_eq, up_ne, uL_eq, uL_ne, z_toInt, rp0] at q
        refine q_l hQ ?_
        unfold wrdZ
        rw [if_pos h, if_neg (by omega)]
        rfl
      · simp only [Nat.reduceAdd] at rp0
        simp (disch := omega) only [z_i8, z_i16, z_of, z_ofN, z_lofN, z_0, z_1, z_m1, z_l0, z_l1, iZ_add, iZ_sub, iZ_mul, iZ_neg, lZ_add, lZ_sub, lZ_mul, lZ_neg, z_div, z_ldiv, z_l, z_i, z_lt, z_le, z_eq, z_llt, z_lle, z_leq, z_cgt, z_cge, z_clt, z_cle, z_ceq, z_cl, z_nat, Int.toNat_natCast, mm_I, mm_J, z_cln, z_abs, z_max, z_min, z_lmax, z_lmin, z_sin, Int.cast_ofNat_Int, uI_I, uI_J, uL_I, uL_J, uA_I, uA_J, sI_eq, sI_ne, sL_eq, sL_ne, up_eq, up_ne, uL_eq, uL_ne, z_toInt, rp0] at q
        refine And.intro (z_in (by omega) (by omega) (by omega)) ?_
        have hk : x.toNat < nP v := by omega
        have e8 := (rp x.toNat hk).2.2.2.2.2.2.2.1
        have w := hW.2.2.1 x.toNat hk
        have cb := (capB w).2.2
        have w6 := w.2.2.2.2.2.2
        simp only [Nat.reduceAdd] at e8
        refine q_l hQ ?_
        unfold wrdZ
        rw [if_pos h, if_pos (by omega)]
        simp (disch := omega) only [z_i8, z_i16, z_of, z_ofN, z_lofN, z_0, z_1, z_m1, z_l0, z_l1, iZ_add, iZ_sub, iZ_mul, iZ_neg, lZ_add, lZ_sub, lZ_mul, lZ_neg, z_div, z_ldiv, z_l, z_i, z_lt, z_le, z_eq, z_llt, z_lle, z_leq, z_cgt, z_cge, z_clt, z_cle, z_ceq, z_cl, z_nat, Int.toNat_natCast, mm_I, mm_J, z_cln, z_abs, z_max, z_min, z_lmax, z_lmin, z_sin, Int.cast_ofNat_Int, uI_I, uI_J, uL_I, uL_J, uA_I, uA_J, sI_eq, sI_ne, sL_eq, sL_ne, up_eq, up_ne, uL_eq, uL_ne, z_toInt, e8]
    · have hc : x = 12 ∨ x = 13 ∨ x = 14 ∨ x = 15 ∨ x = 16 ∨ x = 17 := by omega
      clear hx h
      rcases hc with rfl | rfl | rfl | rfl | rfl | rfl
      · refine wc (hs := []) 40 (by decide) (wtb 0 rfl rfl rfl ?_)
        refine q_l hQ ?_
        show _ = lZ ((v 266 7).natAbs : Int)
        simp (disch := omega) only [z_i8, z_i16, z_of, z_ofN, z_lofN, z_0, z_1, z_m1, z_l0, z_l1, iZ_add, iZ_sub, iZ_mul, iZ_neg, lZ_add, lZ_sub, lZ_mul, lZ_neg, z_div, z_ldiv, z_l, z_i, z_lt, z_le, z_eq, z_llt, z_lle, z_leq, z_cgt, z_cge, z_clt, z_cle, z_ceq, z_cl, z_nat, Int.toNat_natCast, mm_I, mm_J, z_cln, z_abs, z_max, z_min, z_lmax, z_lmin, z_sin, Int.cast_ofNat_Int, uI_I, uI_J, uL_I, uL_J, uA_I, uA_J, sI_eq, sI_ne, sL_eq, sL_ne, up_eq, up_ne, uL_eq, uL_ne, z_toInt, r7]
      · refine wc (hs := []) 40 (by decide) (wtb 1 rfl rfl rfl ?_)
        refine And.intro (fun q => ?_) (fun q => ?_)
        · simp (disch := omega) only [z_i8, z_i16, z_of, z_ofN, z_lofN, z_0, z_1, z_m1, z_l0, z_l1, iZ_add, iZ_sub, iZ_mul, iZ_neg, lZ_add, lZ_sub, lZ_mul, lZ_neg, z_div, z_ldiv, z_l, z_i, z_lt, z_le, z_eq, z_llt, z_lle, z_leq, z_cgt, z_cge, z_clt, z_cle, z_ceq, z_cl, z_nat, Int.toNat_natCast, mm_I, mm_J, z_cln, z_abs, z_max, z_min, z_lmax, z_lmin, z_sin, Int.cast_ofNat_Int, uI_I, uI_J, uL_I, uL_J, uA_I, uA_J, sI_eq, sI_ne, sL_eq, sL_ne, up_eq, up_ne, uL_eq, uL_ne, z_toInt, r7] at q
          refine And.intro (fun q2 => ?_) (fun q2 => ?_)
          · simp (disch := omega) only [z_i8, z_i16, z_of, z_ofN, z_lofN, z_0, z_1, z_m1, z_l0, z_l1, iZ_add, iZ_sub, iZ_mul, iZ_neg, lZ_add, lZ_sub, lZ_mul, lZ_neg, z_div, z_ldiv, z_l, z_i, z_lt, z_le, z_eq, z_llt, z_lle, z_leq, z_cgt, z_cge, z_clt, z_cle, z_ceq, z_cl, z_nat, Int.toNat_natCast, mm_I, mm_J, z_cln, z_abs, z_max, z_min, z_lmax, z_lmin, z_sin, Int.cast_ofNat_Int, uI_I, uI_J, uL_I, uL_J, uA_I, uA_J, sI_eq, sI_ne, sL_eq, sL_ne, up_eq, up_ne, uL_eq, uL_ne, z_toInt, r7] at q2
            refine q_l hQ ?_
            show _ = lZ (if 0 < v 266 7 then 1 else if v 266 7 < 0 then -1 else 0)
            rw [if_neg (by omega), if_neg (by omega)]
            rfl
          · simp (disch := omega) only [z_i8, z_i16, z_of, z_ofN, z_lofN, z_0, z_1, z_m1, z_l0, z_l1, iZ_add, iZ_sub, iZ_mul, iZ_neg, lZ_add, lZ_sub, lZ_mul, lZ_neg, z_div, z_ldiv, z_l, z_i, z_lt, z_le, z_eq, z_llt, z_lle, z_leq, z_cgt, z_cge, z_clt, z_cle, z_ceq, z_cl, z_nat, Int.toNat_natCast, mm_I, mm_J, z_cln, z_abs, z_max, z_min, z_lmax, z_lmin, z_sin, Int.cast_ofNat_Int, uI_I, uI_J, uL_I, uL_J, uA_I, uA_J, sI_eq, sI_ne, sL_eq, sL_ne, up_eq, up_ne, uL_eq, uL_ne, z_toInt, r7] at q2
            refine q_l hQ ?_
            show _ = lZ (if 0 < v 266 7 then 1 else if v 266 7 < 0 then -1 else 0)
            rw [if_neg (by omega), if_pos (by omega)]
            rfl
        · simp (disch := omega) only [z_i8, z_i16, z_of, z_ofN, z_lofN, z_0, z_1, z_m1, z_l0, z_l1, iZ_add, iZ_sub, iZ_mul, iZ_neg, lZ_add, lZ_sub, lZ_mul, lZ_neg, z_div, z_ldiv, z_l, z_i, z_lt, z_le, z_eq, z_llt, z_lle, z_leq, z_cgt, z_cge, z_clt, z_cle, z_ceq, z_cl, z_nat, Int.toNat_natCast, mm_I, mm_J, z_cln, z_abs, z_max, z_min, z_lmax, z_lmin, z_sin, Int.cast_ofNat_Int, uI_I, uI_J, uL_I, uL_J, uA_I, uA_J, sI_eq, sI_ne, sL_eq, sL_ne, up_eq, up_ne, uL_eq, uL_ne, z_toInt, r7] at q
          refine q_l hQ ?_
          show _ = lZ (if 0 < v 266 7 then 1 else if v 266 7 < 0 then -1 else 0)
          rw [if_pos (by omega)]
          rfl
      · refine wc (hs := []) 40 (by decide) (wtb 2 rfl rfl rfl ?_)
        refine q_l hQ ?_
        show _ = lZ (v 266 8)
        simp (disch := omega) only [z_i8, z_i16, z_of, z_ofN, z_lofN, z_0, z_1, z_m1, z_l0, z_l1, iZ_add, iZ_sub, iZ_mul, iZ_neg, lZ_add, lZ_sub, lZ_mul, lZ_neg, z_div, z_ldiv, z_l, z_i, z_lt, z_le, z_eq, z_llt, z_lle, z_leq, z_cgt, z_cge, z_clt, z_cle, z_ceq, z_cl, z_nat, Int.toNat_natCast, mm_I, mm_J, z_cln, z_abs, z_max, z_min, z_lmax, z_lmin, z_sin, Int.cast_ofNat_Int, uI_I, uI_J, uL_I, uL_J, uA_I, uA_J, sI_eq, sI_ne, sL_eq, sL_ne, up_eq, up_ne, uL_eq, uL_ne, z_toInt, r8]
      · refine wc (hs := []) 40 (by decide) (wtb 3 rfl rfl rfl ?_)
        refine And.intro rfl (c_draft hb hR hW ?_)
        refine q_l hQ ?_
        show _ = lZ (drZ v)
        simp (disch := omega) only [z_i8, z_i16, z_of, z_ofN, z_lofN, z_0, z_1, z_m1, z_l0, z_l1, iZ_add, iZ_sub, iZ_mul, iZ_neg, lZ_add, lZ_sub, lZ_mul, lZ_neg, z_div, z_ldiv, z_l, z_i, z_lt, z_le, z_eq, z_llt, z_lle, z_leq, z_cgt, z_cge, z_clt, z_cle, z_ceq, z_cl, z_nat, Int.toNat_natCast, mm_I, mm_J, z_cln, z_abs, z_max, z_min, z_lmax, z_lmin, z_sin, Int.cast_ofNat_Int, uI_I, uI_J, uL_I, uL_J, uA_I, uA_J, sI_eq, sI_ne, sL_eq, sL_ne, up_eq, up_ne, uL_eq, uL_ne, z_toInt]
      · refine wc (hs := []) 40 (by decide) (wtb 4 rfl rfl rfl ?_)
        refine q_l hQ ?_
        show _ = lZ (v 266 6)
        simp (disch := omega) only [z_i8, z_i16, z_of, z_ofN, z_lofN, z_0, z_1, z_m1, z_l0, z_l1, iZ_add, iZ_sub, iZ_mul, iZ_neg, lZ_add, lZ_sub, lZ_mul, lZ_neg, z_div, z_ldiv, z_l, z_i, z_lt, z_le, z_eq, z_llt, z_lle, z_leq, z_cgt, z_cge, z_clt, z_cle, z_ceq, z_cl, z_nat, Int.toNat_natCast, mm_I, mm_J, z_cln, z_abs, z_max, z_min, z_lmax, z_lmin, z_sin, Int.cast_ofNat_Int, uI_I, uI_J, uL_I, uL_J, uA_I, uA_J, sI_eq, sI_ne, sL_eq, sL_ne, up_eq, up_ne, uL_eq, uL_ne, z_toInt, r6]
      · refine wc (hs := []) 40 (by decide) (wtb 5 rfl rfl rfl ?_)
        refine q_l hQ ?_
        show _ = lZ (totZ v 0)
        simp (disch := omega) only [z_i8, z_i16, z_of, z_ofN, z_lofN, z_0, z_1, z_m1, z_l0, z_l1, iZ_add, iZ_sub, iZ_mul, iZ_neg, lZ_add, lZ_sub, lZ_mul, lZ_neg, z_div, z_ldiv, z_l, z_i, z_lt, z_le, z_eq, z_llt, z_lle, z_leq, z_cgt, z_cge, z_clt, z_cle, z_ceq, z_cl, z_nat, Int.toNat_natCast, mm_I, mm_J, z_cln, z_abs, z_max, z_min, z_lmax, z_lmin, z_sin, Int.cast_ofNat_Int, uI_I, uI_J, uL_I, uL_J, uA_I, uA_J, sI_eq, sI_ne, sL_eq, sL_ne, up_eq, up_ne, uL_eq, uL_ne, z_toInt, r9])
end C9
end
section
/-! ===== the class: a plan's code computed ===== -/
def RhS (ρ b : Nat) : Prop := (ρ = 240 ∧ B5 b) ∨ (ρ = 255 ∧ b = 1)
def PC (c : Nat) : Prop := c = 176 ∨ c = 185 ∨ c = 194 ∨ c = 203 ∨ c = 212 ∨ c = 221
def PP (π : Nat) : Prop := π = 168 ∨ π = 177 ∨ π = 186 ∨ π = 195 ∨ π = 204 ∨ π = 213
def FR (lo hi : Nat) (I : Nat → Nat → Int32) (J : Nat → Nat → Int64) (I' : Nat → Nat → Int32) (J' : Nat → Nat → Int64) : Prop := ∀ a, a < lo ∨ hi ≤ a → I' a = I a ∧ J' a = J a
def F2 (ρ b : Nat) (I : Nat → Nat → Int32) (J : Nat → Nat → Int64) (I' : Nat → Nat → Int32) (J' : Nat → Nat → Int64) : Prop := ∀ a, (a < b ∨ b + 33 ≤ a) → (a < ρ ∨ ρ + 6 ≤ a) → I' a = I a ∧ J' a = J a
theorem RhS_BS {ρ b : Nat} (h : RhS ρ b) : BS (ρ + 1) b := by
  unfold RhS B5 at h
  unfold BS
  omega
theorem RhS_B5 {ρ b : Nat} (h : RhS ρ b) : B5 b := by
  unfold RhS B5 at h
  unfold B5
  omega
theorem PP_PC {π : Nat} (h : PP π) : PC (π + 8) := by
  unfold PP at h
  unfold PC
  omega
theorem FR_refl {lo hi : Nat} {I : Nat → Nat → Int32} {J : Nat → Nat → Int64} : FR lo hi I J I J := fun _ _ => ⟨rfl, rfl⟩
theorem FR_trans {lo hi : Nat} {I I' I'' : Nat → Nat → Int32} {J J' J'' : Nat → Nat → Int64} (h : FR lo hi I J I' J') (h' : FR lo hi I' J' I'' J'') : FR lo hi I J I'' J'' := fun a ha => ⟨(h' a ha).1.trans (h a ha).1, (h' a ha).2.trans (h a ha).2⟩
theorem F2_refl {ρ b : Nat} {I : Nat → Nat → Int32} {J : Nat → Nat → Int64} : F2 ρ b I J I J := fun _ _ _ => ⟨rfl, rfl⟩
theorem F2_trans {ρ b : Nat} {I I' I'' : Nat → Nat → Int32} {J J' J'' : Nat → Nat → Int64} (h : F2 ρ b I J I' J') (h' : F2 ρ b I' J' I'' J'') : F2 ρ b I J I'' J'' := fun a ha hb => ⟨(h' a ha hb).1.trans (h a ha hb).1, (h' a ha hb).2.trans (h a ha hb).2⟩
theorem FR_F2 {ρ b : Nat} {I I' : Nat → Nat → Int32} {J J' : Nat → Nat → Int64} (h : FR ρ (ρ + 6) I J I' J') : F2 ρ b I J I' J' := fun a _ hb => h a hb
theorem Fr_F2 {ρ b : Nat} {I I' : Nat → Nat → Int32} {J : Nat → Nat → Int64} (h : Fr b I I') : F2 ρ b I J I' J := fun a ha _ => ⟨h a ha, rfl⟩
theorem FB_FR {ρ : Nat} {I I' : Nat → Nat → Int32} {J J' : Nat → Nat → Int64} {A A' : Nat → Option Nat} (h : FB (ρ + 1) I J A I' J' A') : FR ρ (ρ + 6) I J I' J' := fun a ha => ⟨h.1 a (by omega), h.2.1 a (by omega) (by omega) (by omega)⟩
theorem RS_FR {ρ b : Nat} {I I' : Nat → Nat → Int32} {J J' : Nat → Nat → Int64} {v : am_V} (hr : RhS ρ b) (h : FR ρ (ρ + 6) I J I' J') (hR : RS I J b v) : RS I' J' b v := RS_eq (fun a h1 h2 => h a (by unfold RhS B5 at hr; omega)) hR
/-- a plan of the class -/
def plV (I : Nat → Nat → Int32) (π : Nat) : Nat → Nat → Int := fun j i => vI I (π + j) i
def segL (g : Nat → Nat → Int) (v : am_V) (a b : Int) : Int64 := (evN (fun x => lZ (wrdZ v x)) (g 8) (b.toNat - a.toNat) a.toNat []).headD 0
def tstZ (g : Nat → Nat → Int) (v : am_V) (i : Nat) : Prop := g 6 i = g 7 i ∨ ¬ segL g v (g 6 i) (g 7 i) = 0
def WfGi (g : Nat → Nat → Int) (i : Nat) : Prop := (g 1 i = 16 ∨ g 1 i = 19 ∨ g 1 i = 20 ∨ g 1 i = 21 ∨ g 1 i = 22) ∧ (g 1 i = 19 ∨ g 1 i = 20 ∨ g 1 i = 21 → 0 ≤ g 2 i ∧ g 2 i ≤ 11) ∧ (g 1 i = 21 → 0 ≤ g 3 i ∧ g 3 i ≤ 11) ∧ (g 1 i ≠ 22 → 0 ≤ g 4 i ∧ g 4 i ≤ 9999) ∧ (g 1 i = 16 → g 4 i ≤ 99)
  ∧ (0 ≤ g 5 i ∧ g 5 i ≤ g 6 i ∧ g 6 i ≤ g 7 i ∧ g 7 i ≤ 300) ∧ (g 1 i = 22 → okN (g 8) ((g 6 i).toNat - (g 5 i).toNat) (g 5 i).toNat 0) ∧ (g 6 i ≠ g 7 i → okN (g 8) ((g 7 i).toNat - (g 6 i).toNat) (g 6 i).toNat 0)
def WfG (g : Nat → Nat → Int) : Prop := (1 ≤ g 0 0 ∧ g 0 0 ≤ 12) ∧ ∀ i : Nat, i < (g 0 0).toNat → WfGi g i
theorem SK_putE {J : Nat → Nat → Int64} {σ k : Nat} {y y' : Int64} {s : List Int64} (h : SK J σ s) (hk : k = s.length) (hy : y' = y) : SK (setL J σ k y') σ (y :: s) := by
  subst hk; subst hy
  exact SK_put h
section C10
variable {E : Nat × (Nat → Int32)} {d : Nat} {I : Nat → Nat → Int32} {J : Nat → Nat → Int64} {A : Nat → Option Nat} {Q : Option Value → am_M → Prop} {M : am_M} {β b : Nat} {v : am_V} {mw mu mom : Int}
theorem WW0 : WW 0 0 := ⟨⟨by omega, by omega⟩, ⟨by omega, by omega⟩⟩
set_option maxHeartbeats 8000000 in
theorem c_computeL {ρ c to : Nat} {x3 : Int32} (hr : RhS ρ b) (hc : PC c) (hR : RS I J b v) (hW : Wf v) (hto : to ≤ 400) : ∀ (n i : Nat) (st : List Int64) (I' : Nat → Nat → Int32) (J' : Nat → Nat → Int64) (A' : Nat → Option Nat) (x5 x6 : Int32), i + n = to → FR ρ (ρ + 6) I J I' J' → SK J' (ρ + 5) st → st.length ≤ 60 → okN (vI I c) n i st.length → x5 = iZ st.length → x6 = iZ i → (∀ I'' J'' A'', FR ρ (ρ + 6) I J I'' J'' → Q (some (.long ((evN (fun x => lZ (wrdZ v x)) (vI I c) n i st).headD 0))) (mm I'' J'' A'')) → wp E (d + 3) 62 6 [(0, .ref ρ), (1, .ref b), (2, .ref c), (3, .int x3), (4, .int (iZ to)), (5, .int x5), (6, .int x6)] [] (mm I' J' A') Q := by
  have hb := RhS_B5 hr
  have hbs := RhS_BS hr
  have hRs := fun (I' : Nat → Nat → Int32) (J' : Nat → Nat → Int64) (h : FR ρ (ρ + 6) I J I' J') => RS_FR hr h hR
  have hcc : ∀ (I' : Nat → Nat → Int32) (J' : Nat → Nat → Int64), FR ρ (ρ + 6) I J I' J' → ∀ i, I' c i = iZ (vI I c i) := fun I' J' h i => by
    rw [(h c (by unfold RhS at hr; unfold PC at hc; omega)).1]
    exact vI_eq I c i
  have put : ∀ (I' : Nat → Nat → Int32) (J' : Nat → Nat → Int64) (k : Nat) (y : Int64), FR ρ (ρ + 6) I J I' J' → FR ρ (ρ + 6) I J I' (setL J' (ρ + 5) k y) := fun I' J' k y h a ha => ⟨(h a ha).1, by
    rw [← (h a ha).2]
    funext j
    rw [setL_at, if_neg (by omega)]⟩
  have rr : ρ = 240 ∨ ρ = 255 := by unfold RhS at hr; omega
  have ssb := (stfB hW WW0.1 WW0.2).2
  intro n
  induction n with
  | zero =>
    intro i st I' J' A' x5 x6 hi hF hS hl hk e5 e6 hQ
    subst e5; subst e6
    have hk : st.length = 1 := hk
    obtain ⟨a, rfl⟩ : ∃ a, st = [a] := List.length_eq_one_iff.mp hk
    have h0 := hS 0 (by simp)
    rcases id rr with rfl | rfl
    all_goals (
      refine wf (hs := [6]) 40 6 (by decide) ?_
      refine wt (by ((try simp (disch := omega) only [z_i8, z_i16, z_of, z_ofN, z_lofN, z_0, z_1, z_m1, z_l0, z_l1, iZ_add, iZ_sub, iZ_mul, iZ_neg, lZ_add, lZ_sub, lZ_mul, lZ_neg, z_div, z_ldiv, z_l, z_i, z_lt, z_le, z_eq, z_llt, z_lle, z_leq, z_cgt, z_cge, z_clt, z_cle, z_ceq, z_cl, z_nat, Int.toNat_natCast, mm_I, mm_J, z_cln, z_abs, z_max, z_min, z_lmax, z_lmin, z_sin, Int.cast_ofNat_Int, uI_I, uI_J, uL_I, uL_J, uA_I, uA_J, sI_eq, sI_ne, sL_eq, sL_ne, up_eq, up_ne, uL_eq, uL_ne, z_toInt]) <;> omega)) ?_
      refine wF (by show ¬ iZ 1 ≤ iZ 0; decide) ?_
      refine And.intro (inL (by decide)) ?_
      refine q_l (hQ I' J' A' hF) ?_
      exact h0)
  | succ n ih =>
    intro i st I' J' A' x5 x6 hi hF hS hl hk e5 e6 hQ
    subst e5; subst e6
    have hx := hcc I' J' hF i
    have hcl : (iZ (i : Int)).toNatClampNeg = i := z_cln (by omega)
    have hcs : (iZ (st.length : Int)).toNatClampNeg = st.length := z_cln (by omega)
    have hin : vp_in (iZ (i : Int)) 400 := z_in (by omega) (by omega) (by omega)
    have q1 : ¬ iZ (to : Int) ≤ iZ (i : Int) := by ((try simp (disch := omega) only [z_i8, z_i16, z_of, z_ofN, z_lofN, z_0, z_1, z_m1, z_l0, z_l1, iZ_add, iZ_sub, iZ_mul, iZ_neg, lZ_add, lZ_sub, lZ_mul, lZ_neg, z_div, z_ldiv, z_l, z_i, z_lt, z_le, z_eq, z_llt, z_lle, z_leq, z_cgt, z_cge, z_clt, z_cle, z_ceq, z_cl, z_nat, Int.toNat_natCast, mm_I, mm_J, z_cln, z_abs, z_max, z_min, z_lmax, z_lmin, z_sin, Int.cast_ofNat_Int, uI_I, uI_J, uL_I, uL_J, uA_I, uA_J, sI_eq, sI_ne, sL_eq, sL_ne, up_eq, up_ne, uL_eq, uL_ne, z_toInt]) <;> omega)
    have hev : ∀ s', s' = stpL (fun x => lZ (wrdZ v x)) (vI I c i) st → evN (fun x => lZ (wrdZ v x)) (vI I c) (n + 1) i st = evN (fun x => lZ (wrdZ v x)) (vI I c) n (i + 1) s' := fun s' e => by rw [e]; rfl
    rcases hk with ⟨hw, hk60, hk⟩ | ⟨hw, hk1, hk⟩ | ⟨hw, hk2, hk⟩
    · have hp5 : vp_in (iZ (st.length : Int)) 60 := z_in (by omega) (by omega) (by omega)
      rw [hev (lZ (wrdZ v (vI I c i)) :: st) (by unfold stpL; rw [if_neg (by omega)])] at hQ
      have hwd : 100 ≤ vI I c i → wrdZ v (vI I c i) = vI I c i - 100 := fun h => by
        unfold wrdZ
        rw [if_neg (by omega), if_neg (by omega), if_neg (by omega), if_neg (by omega), if_neg (by omega), if_neg (by omega), if_neg (by omega), if_neg (by omega)]
      have hw18 : vI I c i = 18 → wrdZ v (vI I c i) = stfZ v 0 0 := fun h => by rw [h]; rfl
      generalize hxx : vI I c i = x at hw hx hQ hwd hw18
      have q60 : ¬ iZ 60 ≤ iZ (st.length : Int) := by ((try simp (disch := omega) only [z_i8, z_i16, z_of, z_ofN, z_lofN, z_0, z_1, z_m1, z_l0, z_l1, iZ_add, iZ_sub, iZ_mul, iZ_neg, lZ_add, lZ_sub, lZ_mul, lZ_neg, z_div, z_ldiv, z_l, z_i, z_lt, z_le, z_eq, z_llt, z_lle, z_leq, z_cgt, z_cge, z_clt, z_cle, z_ceq, z_cl, z_nat, Int.toNat_natCast, mm_I, mm_J, z_cln, z_abs, z_max, z_min, z_lmax, z_lmin, z_sin, Int.cast_ofNat_Int, uI_I, uI_J, uL_I, uL_J, uA_I, uA_J, sI_eq, sI_ne, sL_eq, sL_ne, up_eq, up_ne, uL_eq, uL_ne, z_toInt]) <;> omega)
      have hxr : I' c (iZ (i : Int)).toNatClampNeg = iZ x := by rw [hcl]; exact hx
      by_cases h18 : x = 18
      · rw [hw18 h18] at hQ
        have q2 : I' c (iZ (i : Int)).toNatClampNeg ≤ iZ 18 := by rw [hxr]; ((try simp (disch := omega) only [z_i8, z_i16, z_of, z_ofN, z_lofN, z_0, z_1, z_m1, z_l0, z_l1, iZ_add, iZ_sub, iZ_mul, iZ_neg, lZ_add, lZ_sub, lZ_mul, lZ_neg, z_div, z_ldiv, z_l, z_i, z_lt, z_le, z_eq, z_llt, z_lle, z_leq, z_cgt, z_cge, z_clt, z_cle, z_ceq, z_cl, z_nat, Int.toNat_natCast, mm_I, mm_J, z_cln, z_abs, z_max, z_min, z_lmax, z_lmin, z_sin, Int.cast_ofNat_Int, uI_I, uI_J, uL_I, uL_J, uA_I, uA_J, sI_eq, sI_ne, sL_eq, sL_ne, up_eq, up_ne, uL_eq, uL_ne, z_toInt]) <;> omega)
        have q3 : I' c (iZ (i : Int)).toNatClampNeg = iZ 18 := by rw [hxr, h18]
        rcases id rr with rfl | rfl
        all_goals (
          rcases id hc with rfl | rfl | rfl | rfl | rfl | rfl
          all_goals (
            refine wf (hs := [6]) 60 6 (by decide) ?_
            refine wF q1 (And.intro hin (wt q2 (wF q60 (wt q3 ?_))))
            refine And.intro rfl (c_take hbs hW (hRs I' J' hF) (fun I2 J2 A2 hRB hFB => ?_))
            refine And.intro rfl (c_stiffness hbs hRB hW WW0 ?_)
            refine And.intro hp5 ?_
            have hF2 := FR_trans hF (FB_FR hFB)
            have hS2 : SK J2 _ st := SK_eq hS (hFB.2.1 _ (by decide) (by decide) (by decide))
            refine wp_keys [0, 1, 2, 3, 4, 5, 6] rfl rfl ?_
            refine ih (i + 1) (_ :: st) I2 (setL J2 _ (iZ (st.length : Int)).toNatClampNeg _) A2 _ _ (by omega) ?_ ?_ ?_ hk ?_ (iZ_add i 1) hQ
            · rw [hcs]; exact put I2 J2 _ _ hF2
            · rw [hcs]; exact SK_put hS2
            · simp only [List.length_cons]; omega
            · exact iZ_add _ 1))
      · by_cases h100 : 100 ≤ x
        · rw [hwd h100] at hQ
          have q2 : ¬ I' c (iZ (i : Int)).toNatClampNeg ≤ iZ 18 := by rw [hxr]; ((try simp (disch := omega) only [z_i8, z_i16, z_of, z_ofN, z_lofN, z_0, z_1, z_m1, z_l0, z_l1, iZ_add, iZ_sub, iZ_mul, iZ_neg, lZ_add, lZ_sub, lZ_mul, lZ_neg, z_div, z_ldiv, z_l, z_i, z_lt, z_le, z_eq, z_llt, z_lle, z_leq, z_cgt, z_cge, z_clt, z_cle, z_ceq, z_cl, z_nat, Int.toNat_natCast, mm_I, mm_J, z_cln, z_abs, z_max, z_min, z_lmax, z_lmin, z_sin, Int.cast_ofNat_Int, uI_I, uI_J, uL_I, uL_J, uA_I, uA_J, sI_eq, sI_ne, sL_eq, sL_ne, up_eq, up_ne, uL_eq, uL_ne, z_toInt]) <;> omega)
          have q3 : iZ 100 ≤ I' c (iZ (i : Int)).toNatClampNeg := by rw [hxr]; ((try simp (disch := omega) only [z_i8, z_i16, z_of, z_ofN, z_lofN, z_0, z_1, z_m1, z_l0, z_l1, iZ_add, iZ_sub, iZ_mul, iZ_neg, lZ_add, lZ_sub, lZ_mul, lZ_neg, z_div, z_ldiv, z_l, z_i, z_lt, z_le, z_eq, z_llt, z_lle, z_leq, z_cgt, z_cge, z_clt, z_cle, z_ceq, z_cl, z_nat, Int.toNat_natCast, mm_I, mm_J, z_cln, z_abs, z_max, z_min, z_lmax, z_lmin, z_sin, Int.cast_ofNat_Int, uI_I, uI_J, uL_I, uL_J, uA_I, uA_J, sI_eq, sI_ne, sL_eq, sL_ne, up_eq, up_ne, uL_eq, uL_ne, z_toInt]) <;> omega)
          have q4 : ¬ I' c (iZ (i : Int)).toNatClampNeg = iZ 18 := by rw [hxr]; ((try simp (disch := omega) only [z_i8, z_i16, z_of, z_ofN, z_lofN, z_0, z_1, z_m1, z_l0, z_l1, iZ_add, iZ_sub, iZ_mul, iZ_neg, lZ_add, lZ_sub, lZ_mul, lZ_neg, z_div, z_ldiv, z_l, z_i, z_lt, z_le, z_eq, z_llt, z_lle, z_leq, z_cgt, z_cge, z_clt, z_cle, z_ceq, z_cl, z_nat, Int.toNat_natCast, mm_I, mm_J, z_cln, z_abs, z_max, z_min, z_lmax, z_lmin, z_sin, Int.cast_ofNat_Int, uI_I, uI_J, uL_I, uL_J, uA_I, uA_J, sI_eq, sI_ne, sL_eq, sL_ne, up_eq, up_ne, uL_eq, uL_ne, z_toInt]) <;> omega)
          have q5 : ¬ I' c (iZ (i : Int)).toNatClampNeg < iZ 100 := by rw [hxr]; ((try simp (disch := omega) only [z_i8, z_i16, z_of, z_ofN, z_lofN, z_0, z_1, z_m1, z_l0, z_l1, iZ_add, iZ_sub, iZ_mul, iZ_neg, lZ_add, lZ_sub, lZ_mul, lZ_neg, z_div, z_ldiv, z_l, z_i, z_lt, z_le, z_eq, z_llt, z_lle, z_leq, z_cgt, z_cge, z_clt, z_cle, z_ceq, z_cl, z_nat, Int.toNat_natCast, mm_I, mm_J, z_cln, z_abs, z_max, z_min, z_lmax, z_lmin, z_sin, Int.cast_ofNat_Int, uI_I, uI_J, uL_I, uL_J, uA_I, uA_J, sI_eq, sI_ne, sL_eq, sL_ne, up_eq, up_ne, uL_eq, uL_ne, z_toInt]) <;> omega)
          have e : (I' c (iZ (i : Int)).toNatClampNeg - iZ 100).toInt64 = lZ (x - 100) := by rw [hxr]; simp (disch := omega) only [z_i8, z_i16, z_of, z_ofN, z_lofN, z_0, z_1, z_m1, z_l0, z_l1, iZ_add, iZ_sub, iZ_mul, iZ_neg, lZ_add, lZ_sub, lZ_mul, lZ_neg, z_div, z_ldiv, z_l, z_i, z_lt, z_le, z_eq, z_llt, z_lle, z_leq, z_cgt, z_cge, z_clt, z_cle, z_ceq, z_cl, z_nat, Int.toNat_natCast, mm_I, mm_J, z_cln, z_abs, z_max, z_min, z_lmax, z_lmin, z_sin, Int.cast_ofNat_Int, uI_I, uI_J, uL_I, uL_J, uA_I, uA_J, sI_eq, sI_ne, sL_eq, sL_ne, up_eq, up_ne, uL_eq, uL_ne, z_toInt]
          rcases id rr with rfl | rfl
          all_goals (
            rcases id hc with rfl | rfl | rfl | rfl | rfl | rfl
            all_goals (
              refine wf (hs := [6]) 60 6 (by decide) ?_
              refine wF q1 (And.intro hin (wF q2 (wt q3 (wF q60 (wF q4 (wF q5 (And.intro hp5 ?_)))))))
              refine wp_keys [0, 1, 2, 3, 4, 5, 6] rfl rfl ?_
              refine ih (i + 1) (_ :: st) I' (setL J' _ (iZ (st.length : Int)).toNatClampNeg _) A' _ _ (by omega) ?_ ?_ ?_ hk ?_ (iZ_add i 1) hQ
              · rw [hcs]; exact put I' J' _ _ hF
              · exact SK_putE hS hcs e
              · simp only [List.length_cons]; omega
              · exact iZ_add _ 1))
        · have q2 : I' c (iZ (i : Int)).toNatClampNeg ≤ iZ 18 := by rw [hxr]; ((try simp (disch := omega) only [z_i8, z_i16, z_of, z_ofN, z_lofN, z_0, z_1, z_m1, z_l0, z_l1, iZ_add, iZ_sub, iZ_mul, iZ_neg, lZ_add, lZ_sub, lZ_mul, lZ_neg, z_div, z_ldiv, z_l, z_i, z_lt, z_le, z_eq, z_llt, z_lle, z_leq, z_cgt, z_cge, z_clt, z_cle, z_ceq, z_cl, z_nat, Int.toNat_natCast, mm_I, mm_J, z_cln, z_abs, z_max, z_min, z_lmax, z_lmin, z_sin, Int.cast_ofNat_Int, uI_I, uI_J, uL_I, uL_J, uA_I, uA_J, sI_eq, sI_ne, sL_eq, sL_ne, up_eq, up_ne, uL_eq, uL_ne, z_toInt]) <;> omega)
          have q4 : ¬ I' c (iZ (i : Int)).toNatClampNeg = iZ 18 := by rw [hxr]; ((try simp (disch := omega) only [z_i8, z_i16, z_of, z_ofN, z_lofN, z_0, z_1, z_m1, z_l0, z_l1, iZ_add, iZ_sub, iZ_mul, iZ_neg, lZ_add, lZ_sub, lZ_mul, lZ_neg, z_div, z_ldiv, z_l, z_i, z_lt, z_le, z_eq, z_llt, z_lle, z_leq, z_cgt, z_cge, z_clt, z_cle, z_ceq, z_cl, z_nat, Int.toNat_natCast, mm_I, mm_J, z_cln, z_abs, z_max, z_min, z_lmax, z_lmin, z_sin, Int.cast_ofNat_Int, uI_I, uI_J, uL_I, uL_J, uA_I, uA_J, sI_eq, sI_ne, sL_eq, sL_ne, up_eq, up_ne, uL_eq, uL_ne, z_toInt]) <;> omega)
          have q5 : I' c (iZ (i : Int)).toNatClampNeg < iZ 100 := by rw [hxr]; ((try simp (disch := omega) only [z_i8, z_i16, z_of, z_ofN, z_lofN, z_0, z_1, z_m1, z_l0, z_l1, iZ_add, iZ_sub, iZ_mul, iZ_neg, lZ_add, lZ_sub, lZ_mul, lZ_neg, z_div, z_ldiv, z_l, z_i, z_lt, z_le, z_eq, z_llt, z_lle, z_leq, z_cgt, z_cge, z_clt, z_cle, z_ceq, z_cl, z_nat, Int.toNat_natCast, mm_I, mm_J, z_cln, z_abs, z_max, z_min, z_lmax, z_lmin, z_sin, Int.cast_ofNat_Int, uI_I, uI_J, uL_I, uL_J, uA_I, uA_J, sI_eq, sI_ne, sL_eq, sL_ne, up_eq, up_ne, uL_eq, uL_ne, z_toInt]) <;> omega)
          have hx17 : 0 ≤ x ∧ x ≤ 17 := by omega
          rcases id rr with rfl | rfl
          all_goals (
            rcases id hc with rfl | rfl | rfl | rfl | rfl | rfl
            all_goals (
              refine wf (hs := [6]) 60 6 (by decide) ?_
              refine wF q1 (And.intro hin (wt q2 (wF q60 (wF q4 (wt q5 ?_)))))
              refine And.intro rfl (c_worth hb (hRs I' J' hF) hW (x := x) hx17 hxr (And.intro hp5 ?_))
              refine wp_keys [0, 1, 2, 3, 4, 5, 6] rfl rfl ?_
              refine ih (i + 1) (_ :: st) I' (setL J' _ (iZ (st.length : Int)).toNatClampNeg _) A' _ _ (by omega) ?_ ?_ ?_ hk ?_ (iZ_add i 1) hQ
              · rw [hcs]; exact put I' J' _ _ hF
              · rw [hcs]; exact SK_put hS
              · simp only [List.length_cons]; omega
              · exact iZ_add _ 1))
    · cases st with
      | nil => simp at hk1
      | cons a s =>
        rw [hev ((1 - a) :: s) (by unfold stpL; rw [if_pos (by omega), if_pos hw])] at hQ
        rw [hw] at hx
        obtain ⟨hS1, ha⟩ := SK_tl hS
        simp only [List.length_cons] at hl hk hcs
        have hcm : (iZ ((s.length + 1 : Nat) : Int) - iZ 1).toNatClampNeg = s.length := by
          rw [iZ_sub, show ((s.length + 1 : Nat) : Int) - 1 = (s.length : Int) by omega]
          exact z_cln (by omega)
        have hp5 : vp_in (iZ ((s.length + 1 : Nat) : Int) - iZ 1) 60 := by
          rw [iZ_sub]; exact z_in (by omega) (by omega) (by omega)
        have hxr : I' c (iZ (i : Int)).toNatClampNeg = iZ 26 := by rw [hcl]; exact hx
        have q2 : ¬ I' c (iZ (i : Int)).toNatClampNeg ≤ iZ 18 := by rw [hxr]; decide
        have q3 : ¬ iZ 100 ≤ I' c (iZ (i : Int)).toNatClampNeg := by rw [hxr]; decide
        have q5 : ¬ iZ ((s.length + 1 : Nat) : Int) ≤ iZ 0 := by ((try simp (disch := omega) only [z_i8, z_i16, z_of, z_ofN, z_lofN, z_0, z_1, z_m1, z_l0, z_l1, iZ_add, iZ_sub, iZ_mul, iZ_neg, lZ_add, lZ_sub, lZ_mul, lZ_neg, z_div, z_ldiv, z_l, z_i, z_lt, z_le, z_eq, z_llt, z_lle, z_leq, z_cgt, z_cge, z_clt, z_cle, z_ceq, z_cl, z_nat, Int.toNat_natCast, mm_I, mm_J, z_cln, z_abs, z_max, z_min, z_lmax, z_lmin, z_sin, Int.cast_ofNat_Int, uI_I, uI_J, uL_I, uL_J, uA_I, uA_J, sI_eq, sI_ne, sL_eq, sL_ne, up_eq, up_ne, uL_eq, uL_ne, z_toInt]) <;> omega)
        rcases id rr with rfl | rfl
        all_goals (
          rcases id hc with rfl | rfl | rfl | rfl | rfl | rfl
          all_goals (
            refine wf (hs := [6]) 60 6 (by decide) ?_
            refine wF q1 (And.intro hin (wF q2 (wF q3 (wt hxr (wF q5 (And.intro hp5 (And.intro hp5 ?_)))))))
            refine wp_keys [0, 1, 2, 3, 4, 5, 6] rfl rfl ?_
            refine ih (i + 1) ((1 - a) :: s) I' (setL J' _ (iZ ((s.length + 1 : Nat) : Int) - iZ 1).toNatClampNeg _) A' _ _ (by omega) ?_ ?_ ?_ hk rfl (iZ_add i 1) hQ
            · rw [hcm]; exact put I' J' _ _ hF
            · exact SK_putE hS1 hcm (congrArg (fun z => 1 - z) ((congrArg (J' _) hcm).trans ha))
            · simp only [List.length_cons]; omega))
    · match st, hS, hl, hk2, hk, hcs, hev with
      | [], _, _, hk2, _, _, _ => simp at hk2
      | [_], _, _, hk2, _, _, _ => simp at hk2
      | b2 :: a :: s, hS, hl, hk2, hk, hcs, hev =>
        rw [hev (jnL (vI I c i) a b2 :: s) (by unfold stpL; rw [if_pos (by omega), if_neg hw.2.2])] at hQ
        obtain ⟨hS1, hb2⟩ := SK_tl hS
        obtain ⟨hS2, ha⟩ := SK_tl hS1
        simp only [List.length_cons] at hl hk hcs hb2
        have hc1 : (iZ ((s.length + 1 + 1 : Nat) : Int) + iZ (-1)).toNatClampNeg = s.length + 1 := by
          rw [iZ_add, show ((s.length + 1 + 1 : Nat) : Int) + -1 = ((s.length + 1 : Nat) : Int) by omega]
          exact z_cln (by omega)
        have hc2 : (iZ ((s.length + 1 + 1 : Nat) : Int) + iZ (-1) - iZ 1).toNatClampNeg = s.length := by
          rw [iZ_add, iZ_sub, show ((s.length + 1 + 1 : Nat) : Int) + -1 - 1 = (s.length : Int) by omega]
          exact z_cln (by omega)
        have hp1 : vp_in (iZ ((s.length + 1 + 1 : Nat) : Int) + iZ (-1)) 60 := by
          rw [iZ_add]; exact z_in (by omega) (by omega) (by omega)
        have hp2 : vp_in (iZ ((s.length + 1 + 1 : Nat) : Int) + iZ (-1) - iZ 1) 60 := by
          rw [iZ_add, iZ_sub]; exact z_in (by omega) (by omega) (by omega)
        generalize hxx : vI I c i = x at hw hx hQ
        have hxr : I' c (iZ (i : Int)).toNatClampNeg = iZ x := by rw [hcl]; exact hx
        have q2 : ¬ I' c (iZ (i : Int)).toNatClampNeg ≤ iZ 18 := by rw [hxr]; ((try simp (disch := omega) only [z_i8, z_i16, z_of, z_ofN, z_lofN, z_0, z_1, z_m1, z_l0, z_l1, iZ_add, iZ_sub, iZ_mul, iZ_neg, lZ_add, lZ_sub, lZ_mul, lZ_neg, z_div, z_ldiv, z_l, z_i, z_lt, z_le, z_eq, z_llt, z_lle, z_leq, z_cgt, z_cge, z_clt, z_cle, z_ceq, z_cl, z_nat, Int.toNat_natCast, mm_I, mm_J, z_cln, z_abs, z_max, z_min, z_lmax, z_lmin, z_sin, Int.cast_ofNat_Int, uI_I, uI_J, uL_I, uL_J, uA_I, uA_J, sI_eq, sI_ne, sL_eq, sL_ne, up_eq, up_ne, uL_eq, uL_ne, z_toInt]) <;> omega)
        have q3 : ¬ iZ 100 ≤ I' c (iZ (i : Int)).toNatClampNeg := by rw [hxr]; ((try simp (disch := omega) only [z_i8, z_i16, z_of, z_ofN, z_lofN, z_0, z_1, z_m1, z_l0, z_l1, iZ_add, iZ_sub, iZ_mul, iZ_neg, lZ_add, lZ_sub, lZ_mul, lZ_neg, z_div, z_ldiv, z_l, z_i, z_lt, z_le, z_eq, z_llt, z_lle, z_leq, z_cgt, z_cge, z_clt, z_cle, z_ceq, z_cl, z_nat, Int.toNat_natCast, mm_I, mm_J, z_cln, z_abs, z_max, z_min, z_lmax, z_lmin, z_sin, Int.cast_ofNat_Int, uI_I, uI_J, uL_I, uL_J, uA_I, uA_J, sI_eq, sI_ne, sL_eq, sL_ne, up_eq, up_ne, uL_eq, uL_ne, z_toInt]) <;> omega)
        have q4 : ¬ I' c (iZ (i : Int)).toNatClampNeg = iZ 26 := by rw [hxr]; ((try simp (disch := omega) only [z_i8, z_i16, z_of, z_ofN, z_lofN, z_0, z_1, z_m1, z_l0, z_l1, iZ_add, iZ_sub, iZ_mul, iZ_neg, lZ_add, lZ_sub, lZ_mul, lZ_neg, z_div, z_ldiv, z_l, z_i, z_lt, z_le, z_eq, z_llt, z_lle, z_leq, z_cgt, z_cge, z_clt, z_cle, z_ceq, z_cl, z_nat, Int.toNat_natCast, mm_I, mm_J, z_cln, z_abs, z_max, z_min, z_lmax, z_lmin, z_sin, Int.cast_ofNat_Int, uI_I, uI_J, uL_I, uL_J, uA_I, uA_J, sI_eq, sI_ne, sL_eq, sL_ne, up_eq, up_ne, uL_eq, uL_ne, z_toInt]) <;> omega)
        have q5 : ¬ iZ ((s.length + 1 + 1 : Nat) : Int) ≤ iZ 1 := by ((try simp (disch := omega) only [z_i8, z_i16, z_of, z_ofN, z_lofN, z_0, z_1, z_m1, z_l0, z_l1, iZ_add, iZ_sub, iZ_mul, iZ_neg, lZ_add, lZ_sub, lZ_mul, lZ_neg, z_div, z_ldiv, z_l, z_i, z_lt, z_le, z_eq, z_llt, z_lle, z_leq, z_cgt, z_cge, z_clt, z_cle, z_ceq, z_cl, z_nat, Int.toNat_natCast, mm_I, mm_J, z_cln, z_abs, z_max, z_min, z_lmax, z_lmin, z_sin, Int.cast_ofNat_Int, uI_I, uI_J, uL_I, uL_J, uA_I, uA_J, sI_eq, sI_ne, sL_eq, sL_ne, up_eq, up_ne, uL_eq, uL_ne, z_toInt]) <;> omega)
        rcases id rr with rfl | rfl
        all_goals (
          rcases id hc with rfl | rfl | rfl | rfl | rfl | rfl
          all_goals (
            refine wf (hs := [6]) 60 6 (by decide) ?_
            refine wF q1 (And.intro hin (wF q2 (wF q3 (wF q4 (wF q5 (And.intro hp2 (And.intro hp1 ?_)))))))
            refine And.intro rfl (c_joined hw hxr (And.intro hp2 ?_))
            refine wp_keys [0, 1, 2, 3, 4, 5, 6] rfl rfl ?_
            refine ih (i + 1) (jnL x a b2 :: s) I' (setL J' _ (iZ ((s.length + 1 + 1 : Nat) : Int) + iZ (-1) - iZ 1).toNatClampNeg _) A' _ _ (by omega) ?_ ?_ ?_ hk ?_ (iZ_add i 1) hQ
            · rw [hc2]; exact put I' J' _ _ hF
            · exact SK_putE hS2 hc2 (congr (congrArg (jnL x) ((congrArg (J' _) hc2).trans ha)) ((congrArg (J' _) hc1).trans hb2))
            · simp only [List.length_cons]; omega
            · simp only [List.length_cons]
              rw [show ((s.length + 1 : Nat) : Int) = ((s.length + 1 + 1 : Nat) : Int) + -1 by omega]
              exact iZ_add _ _))
theorem c_compute {ρ c fr to : Nat} {x y : Int32} (hr : RhS ρ b) (hc : PC c) (hR : RS I J b v) (hW : Wf v) (hto : to ≤ 400) (hle : fr ≤ to) (hok : okN (vI I c) (to - fr) fr 0) (ex : x = iZ fr) (ey : y = iZ to) (hQ : ∀ I' J' A', FR ρ (ρ + 6) I J I' J' → Q (some (.long ((evN (fun x => lZ (wrdZ v x)) (vI I c) (to - fr) fr []).headD 0))) (mm I' J' A')) : wpC E (d + 3) 62 [.ref ρ, .ref b, .ref c, .int x, .int y] (mm I J A) Q := by
  subst ex; subst ey
  refine wc (hs := [6]) 20 (by decide) ?_
  refine wp_keys [0, 1, 2, 3, 4, 5, 6] rfl rfl ?_
  exact c_computeL hr hc hR hW hto (to - fr) fr [] I J A _ _ (by omega) FR_refl SK_nil (by simp) hok rfl rfl hQ
theorem c_applies {ρ π i : Nat} {x : Int32} (hr : RhS ρ b) (hp : PP π) (hR : RS I J b v) (hW : Wf v) (hi : i < 12) (hg : WfGi (plV I π) i) (ex : x = iZ i) (h1 : tstZ (plV I π) v i → ∀ I' J' A', FR ρ (ρ + 6) I J I' J' → Q (some (.int 1)) (mm I' J' A')) (h0 : ¬ tstZ (plV I π) v i → ∀ I' J' A', FR ρ (ρ + 6) I J I' J' → Q (some (.int 0)) (mm I' J' A')) : wpC E (d + 4) 60 [.ref ρ, .ref b, .ref π, .int x] (mm I J A) Q := by
  have hcl : (iZ (i : Int)).toNatClampNeg = i := z_cln (by omega)
  have hin : vp_in (iZ (i : Int)) 12 := z_in (by omega) (by omega) (by omega)
  have g6 : I (π + 6) i = iZ (plV I π 6 i) := vI_eq I _ _
  have g7 : I (π + 7) i = iZ (plV I π 7 i) := vI_eq I _ _
  have hC := PP_PC hp
  have rr : ρ = 240 ∨ ρ = 255 := by unfold RhS at hr; omega
  obtain ⟨k1, k2, k3, k4, k5, k6, k7, k8⟩ := hg
  subst ex
  have cc : ¬ plV I π 6 i = plV I π 7 i → ∀ (Q' : Option Value → am_M → Prop), (∀ I' J' A', FR ρ (ρ + 6) I J I' J' → Q' (some (.long (segL (plV I π) v (plV I π 6 i) (plV I π 7 i)))) (mm I' J' A')) → wpC E (d + 3) 62 [.ref ρ, .ref b, .ref (π + 8), .int (I (π + 6) (iZ (i : Int)).toNatClampNeg), .int (I (π + 7) (iZ (i : Int)).toNatClampNeg)] (mm I J A) Q' := by
    intro hne Q' hQ'
    refine c_compute (fr := (plV I π 6 i).toNat) (to := (plV I π 7 i).toNat) hr hC hR hW (by omega) (by omega) (k8 hne) ?_ ?_ hQ'
    · rw [hcl, g6]; congr 1; omega
    · rw [hcl, g7]; congr 1; omega
  generalize hs : segL (plV I π) v (plV I π 6 i) (plV I π 7 i) = s at cc
  have h1' : (plV I π 6 i = plV I π 7 i ∨ ¬ s = 0) → ∀ I' J' A', FR ρ (ρ + 6) I J I' J' → Q (some (.int 1)) (mm I' J' A') := fun h => h1 (by unfold tstZ; rw [hs]; exact h)
  have h0' : ¬ (plV I π 6 i = plV I π 7 i ∨ ¬ s = 0) → ∀ I' J' A', FR ρ (ρ + 6) I J I' J' → Q (some (.int 0)) (mm I' J' A') := fun h => h0 (by unfold tstZ; rw [hs]; exact h)
  generalize plV I π 6 i = p6 at g6 cc h1' h0' k6
  generalize plV I π 7 i = p7 at g7 cc h1' h0' k6
  rcases id hp with rfl | rfl | rfl | rfl | rfl | rfl
  all_goals (
    simp only [Nat.reduceAdd] at g6 g7
    rcases id rr with rfl | rfl
    all_goals (
      refine wc (hs := []) 40 (by decide) ?_
      refine And.intro hin (And.intro hin (And.intro (fun q => ?_) (fun q => ?_)))
      · simp (disch := omega) only [z_i8, z_i16, z_of, z_ofN, z_lofN, z_0, z_1, z_m1, z_l0, z_l1, iZ_add, iZ_sub, iZ_mul, iZ_neg, lZ_add, lZ_sub, lZ_mul, lZ_neg, z_div, z_ldiv, z_l, z_i, z_lt, z_le, z_eq, z_llt, z_lle, z_leq, z_cgt, z_cge, z_clt, z_cle, z_ceq, z_cl, z_nat, Int.toNat_natCast, mm_I, mm_J, z_cln, z_abs, z_max, z_min, z_lmax, z_lmin, z_sin, Int.cast_ofNat_Int, uI_I, uI_J, uL_I, uL_J, uA_I, uA_J, sI_eq, sI_ne, sL_eq, sL_ne, up_eq, up_ne, uL_eq, uL_ne, z_toInt, g6, g7] at q
        exact And.intro rfl (h1' (Or.inl q) I J A FR_refl)
      · simp (disch := omega) only [z_i8, z_i16, z_of, z_ofN, z_lofN, z_0, z_1, z_m1, z_l0, z_l1, iZ_add, iZ_sub, iZ_mul, iZ_neg, lZ_add, lZ_sub, lZ_mul, lZ_neg, z_div, z_ldiv, z_l, z_i, z_lt, z_le, z_eq, z_llt, z_lle, z_leq, z_cgt, z_cge, z_clt, z_cle, z_ceq, z_cl, z_nat, Int.toNat_natCast, mm_I, mm_J, z_cln, z_abs, z_max, z_min, z_lmax, z_lmin, z_sin, Int.cast_ofNat_Int, uI_I, uI_J, uL_I, uL_J, uA_I, uA_J, sI_eq, sI_ne, sL_eq, sL_ne, up_eq, up_ne, uL_eq, uL_ne, z_toInt, g6, g7] at q
        refine And.intro rfl (cc q _ (fun I' J' A' hF => ?_))
        refine And.intro (fun q2 => ?_) (fun q2 => ?_)
        · have q2 : s = 0 := (lg_cmp_eq _ _).mp q2
          exact And.intro rfl (h0' (by rintro (h | h); exact q h; exact h q2) I' J' A' hF)
        · have q2 : ¬ s = 0 := fun r => q2 ((lg_cmp_eq _ _).mpr r)
          exact And.intro rfl (h1' (Or.inr q2) I' J' A' hF)))
end C10
end
section
/-! ===== a round: what a clause does; the class ===== -/
def crsV (v : am_V) (a c : Nat) (m : Int) : am_V := vset (vset v 276 a (v 276 a - crsZ v a c m)) 276 c (v 276 c + crsZ v a c m)
def doZ (g : Nat → Nat → Int) (v : am_V) (i : Nat) : am_V :=
  if g 1 i = 16 then vset v 266 6 (g 4 i)
  else if g 1 i = 22 then vset v 266 5 (max (-99999) (min (segL g v (g 5 i) (g 6 i)).toInt 99999))
  else if g 1 i = 19 then (if g 2 i < nP v then porZ v (g 2 i).toNat (-(g 4 i)) else v)
  else if g 1 i = 20 then (if g 2 i < nP v then porZ v (g 2 i).toNat (g 4 i) else v)
  else if g 2 i < nP v ∧ g 3 i < nP v ∧ ¬ g 3 i = g 2 i then crsV v (g 2 i).toNat (g 3 i).toNat (g 4 i) else v
theorem Wf_sc {v : am_V} {j : Nat} {z : Int} (h : Wf v) (hj : (j = 5 ∧ -99999 ≤ z ∧ z ≤ 99999) ∨ (j = 6 ∧ 0 ≤ z ∧ z ≤ 99) ∨ (j = 7 ∧ -60 ≤ z ∧ z ≤ 60) ∨ (j = 8 ∧ 0 ≤ z ∧ z ≤ 99999)) : Wf (vset v 266 j z) := by
  obtain ⟨⟨w1, w2, w3, w4, w5, w6, w7, w8, w9, w10, w11, w12, w13⟩, wl, wp, wc⟩ := h
  rcases hj with ⟨rfl, hz⟩ | ⟨rfl, hz⟩ | ⟨rfl, hz⟩ | ⟨rfl, hz⟩
  · exact ⟨⟨w1, w2, w3, w4, hz, w6, w7, w8, w9, w10, w11, w12, w13⟩, wl, wp, wc⟩
  · exact ⟨⟨w1, w2, w3, w4, w5, hz, w7, w8, w9, w10, w11, w12, w13⟩, wl, wp, wc⟩
  · exact ⟨⟨w1, w2, w3, w4, w5, w6, hz, w8, w9, w10, w11, w12, w13⟩, wl, wp, wc⟩
  · exact ⟨⟨w1, w2, w3, w4, w5, w6, w7, hz, w9, w10, w11, w12, w13⟩, wl, wp, wc⟩
theorem WfH_sc {v : am_V} {j : Nat} {z : Int} (h : WfH v) (hj : j = 5 ∨ j = 6 ∨ j = 7 ∨ j = 8) : WfH (vset v 266 j z) := by
  rcases hj with rfl | rfl | rfl | rfl <;> exact h
theorem crs_rng {v : am_V} {a c : Nat} {m : Int} (h : Wf v) (ha : a < nP v) (hc : c < nP v) (hm : 0 ≤ m) : 0 ≤ crsZ v a c m ∧ crsZ v a c m ≤ v 276 a ∧ crsZ v a c m ≤ capZ v c - v 276 c := by
  have w6 := (h.2.2.1 a ha).2.2.2.2.2.2
  have x6 := (h.2.2.1 c hc).2.2.2.2.2.2
  unfold crsZ
  omega
theorem Wf_crs {v : am_V} {a c : Nat} {m : Int} (h : Wf v) (ha : a < nP v) (hc : c < nP v) (hm : 0 ≤ m) : Wf (crsV v a c m) := by
  have r := crs_rng h ha hc hm
  have w6 := (h.2.2.1 a ha).2.2.2.2.2.2
  have x6 := (h.2.2.1 c hc).2.2.2.2.2.2
  refine Wf_set (Wf_set h ⟨by omega, by omega⟩) ⟨by omega, ?_⟩
  show _ ≤ capZ v c
  omega
theorem Wf_do {g : Nat → Nat → Int} {v : am_V} {i : Nat} (h : Wf v) (hH : WfH v) (hg : WfGi g i) : Wf (doZ g v i) ∧ WfH (doZ g v i) := by
  obtain ⟨k1, k2, k3, k4, k5, k6, k7, k8⟩ := hg
  unfold doZ
  split
  · rename_i q
    exact ⟨Wf_sc h (Or.inr (Or.inl ⟨rfl, by omega, by omega⟩)), WfH_sc hH (by omega)⟩
  · split
    · exact ⟨Wf_sc h (Or.inl ⟨rfl, by omega, by omega⟩), WfH_sc hH (by omega)⟩
    · split
      · split
        · rename_i q1 q2 q3 q4
          have := k2 (Or.inl q3)
          exact ⟨Wf_por h (by omega), WfH_276 hH (fun a i q => por_ne q)⟩
        · exact ⟨h, hH⟩
      · split
        · split
          · rename_i q1 q2 q3 q4 q5
            have := k2 (Or.inr (Or.inl q4))
            exact ⟨Wf_por h (by omega), WfH_276 hH (fun a i q => por_ne q)⟩
          · exact ⟨h, hH⟩
        · split
          · rename_i q1 q2 q3 q4 q5
            have e21 : g 1 i = 21 := by omega
            have := k2 (Or.inr (Or.inr e21))
            have := k3 e21
            exact ⟨Wf_crs h (by omega) (by omega) (by have := k4 (by omega); omega), WfH_276 hH (fun a i q => by unfold crsV; rw [vset_na q, vset_na q])⟩
          · exact ⟨h, hH⟩
theorem do_ne {g : Nat → Nat → Int} {v : am_V} {i a k : Nat} (h : a ≠ 276) (h' : a ≠ 266) : doZ g v i a k = v a k := by
  unfold doZ
  split
  · exact vset_na h'
  · split
    · exact vset_na h'
    · split
      · split
        · exact por_ne h
        · rfl
      · split
        · split
          · exact por_ne h
          · rfl
        · split
          · unfold crsV; rw [vset_na h, vset_na h]
          · rfl
theorem do_sc {g : Nat → Nat → Int} {v : am_V} {i k : Nat} (h : k ≠ 5) (h' : k ≠ 6) : doZ g v i 266 k = v 266 k := by
  unfold doZ
  split
  · exact vset_ni h'
  · split
    · exact vset_ni h
    · split
      · split
        · exact por_ne (by decide)
        · rfl
      · split
        · split
          · exact por_ne (by decide)
          · rfl
        · split
          · unfold crsV; rw [vset_na (by decide), vset_na (by decide)]
          · rfl
section C11
variable {E : Nat × (Nat → Int32)} {d : Nat} {I : Nat → Nat → Int32} {J : Nat → Nat → Int64} {A : Nat → Option Nat} {Q : Option Value → am_M → Prop} {M : am_M} {β b : Nat} {v : am_V} {mw mu mom : Int}
theorem RS_sc {j : Nat} {z : Int} {x : Int32} (hj : j = 5 ∨ j = 6 ∨ j = 7 ∨ j = 8) (hx : x = iZ z) (hR : RS I J b v) : RS (setI I b j x) J b (vset v 266 j z) := by
  subst hx
  have g : ∀ i, i ≠ 0 → setI I b j (iZ z) (b + i) = I (b + i) := fun i hi => by
    funext k
    rw [setI_at, if_neg (by omega)]
  have g0 : ∀ k, k ≠ j → setI I b j (iZ z) b k = I b k := fun k hk => by rw [setI_at, if_neg (by omega)]
  have gj : setI I b j (iZ z) b j = iZ z := by rw [setI_at, if_pos ⟨rfl, rfl⟩]
  obtain ⟨⟨r0, r1, r2, r3, r4, r5, r6, r7, r8, r9⟩, ra, rp, rc, rd, ro, rl⟩ := hR
  unfold RSp at rp
  unfold RSc at rc
  unfold RSd at rd
  unfold RSo at ro
  unfold RSl at rl
  unfold RS RSt RSp RSc RSd RSo RSl
  rw [g 1 (by omega), g 2 (by omega), g 3 (by omega), g 4 (by omega), g 5 (by omega), g 6 (by omega), g 7 (by omega), g 8 (by omega), g 9 (by omega), g 10 (by omega), g 11 (by omega), g 13 (by omega), g 14 (by omega), g 15 (by omega), g 16 (by omega), g 17 (by omega), g 18 (by omega), g 19 (by omega), g 20 (by omega), g 21 (by omega), g 22 (by omega), g 23 (by omega), g 24 (by omega), g 25 (by omega), g 26 (by omega), g 27 (by omega), g 28 (by omega), g 29 (by omega), g 30 (by omega), g 31 (by omega), g 32 (by omega)]
  unfold RSs
  rcases hj with rfl | rfl | rfl | rfl
  · rw [g0 0 (by decide), g0 1 (by decide), g0 2 (by decide), g0 3 (by decide), g0 4 (by decide), g0 6 (by decide), g0 7 (by decide), g0 8 (by decide), g0 9 (by decide), gj]
    exact ⟨⟨r0, r1, r2, r3, r4, rfl, r6, r7, r8, r9⟩, ra, rp, rc, rd, ro, rl⟩
  · rw [g0 0 (by decide), g0 1 (by decide), g0 2 (by decide), g0 3 (by decide), g0 4 (by decide), g0 5 (by decide), g0 7 (by decide), g0 8 (by decide), g0 9 (by decide), gj]
    exact ⟨⟨r0, r1, r2, r3, r4, r5, rfl, r7, r8, r9⟩, ra, rp, rc, rd, ro, rl⟩
  · rw [g0 0 (by decide), g0 1 (by decide), g0 2 (by decide), g0 3 (by decide), g0 4 (by decide), g0 5 (by decide), g0 6 (by decide), g0 8 (by decide), g0 9 (by decide), gj]
    exact ⟨⟨r0, r1, r2, r3, r4, r5, r6, rfl, r8, r9⟩, ra, rp, rc, rd, ro, rl⟩
  · rw [g0 0 (by decide), g0 1 (by decide), g0 2 (by decide), g0 3 (by decide), g0 4 (by decide), g0 5 (by decide), g0 6 (by decide), g0 7 (by decide), g0 9 (by decide), gj]
    exact ⟨⟨r0, r1, r2, r3, r4, r5, r6, r7, rfl, r9⟩, ra, rp, rc, rd, ro, rl⟩
theorem Fr_set {j : Nat} {x : Int32} : Fr b I (setI I b j x) := fun a ha => by
  funext k
  rw [setI_at, if_neg (by omega)]
set_option maxHeartbeats 8000000 in
theorem c_act {ρ π i : Nat} {x : Int32} (hr : RhS ρ b) (hp : PP π) (hR : RS I J b v) (hW : Wf v) (hi : i < 12) (hg : WfGi (plV I π) i) (ex : x = iZ i) (hQ : ∀ I' J' A', RS I' J' b (doZ (plV I π) v i) → F2 ρ b I J I' J' → Q none (mm I' J' A')) : wpC E (d + 4) 61 [.ref ρ, .ref b, .ref π, .int x] (mm I J A) Q := by
  have hb := RhS_B5 hr
  have h12 := nP12 hW
  have hcl : (iZ (i : Int)).toNatClampNeg = i := z_cln (by omega)
  have hin : vp_in (iZ (i : Int)) 12 := z_in (by omega) (by omega) (by omega)
  have hC := PP_PC hp
  have rr : ρ = 240 ∨ ρ = 255 := by unfold RhS at hr; omega
  have gg : ∀ j, I (π + j) (iZ (i : Int)).toNatClampNeg = iZ (plV I π j i) := fun j => by rw [hcl]; exact vI_eq I _ _
  have rg : ∀ j, -2147483648 ≤ plV I π j i ∧ plV I π j i ≤ 2147483647 := fun j => rI_of _
  have cc : plV I π 1 i = 22 → ∀ (Q' : Option Value → am_M → Prop), (∀ I' J' A', FR ρ (ρ + 6) I J I' J' → Q' (some (.long (segL (plV I π) v (plV I π 5 i) (plV I π 6 i)))) (mm I' J' A')) → wpC E (d + 3) 62 [.ref ρ, .ref b, .ref (π + 8), .int (I (π + 5) (iZ (i : Int)).toNatClampNeg), .int (I (π + 6) (iZ (i : Int)).toNatClampNeg)] (mm I J A) Q' := by
    intro h22 Q' hQ'
    obtain ⟨k1, k2, k3, k4, k5, k6, k7, k8⟩ := hg
    refine c_compute (fr := (plV I π 5 i).toNat) (to := (plV I π 6 i).toNat) hr hC hR hW (by omega) (by omega) (k7 h22) ?_ ?_ hQ'
    · rw [gg 5]; congr 1; omega
    · rw [gg 6]; congr 1; omega
  have np0 : I (b + 2) 0 = iZ (nP v) := hR.2.2.1.1
  subst ex
  generalize hpl : plV I π = g at hg hQ gg rg cc
  obtain ⟨k1, k2, k3, k4, k5, k6, k7, k8⟩ := hg
  have r1 := rg 1; have r2 := rg 2; have r3 := rg 3; have r4 := rg 4
  have B16 : g 1 i = 16 → ∀ x5 x6 x7 : Int32, wp E (d + 4) 61 92 [(0, .ref ρ), (1, .ref b), (2, .ref π), (3, .int (iZ i)), (4, .int (iZ (g 4 i))), (5, .int x5), (6, .int x6), (7, .int x7)] [] (mm I J A) Q := by
    intro h x5 x6 x7
    have fin := hQ (setI I b 6 (iZ (g 4 i))) J A (by unfold doZ; rw [if_pos h]; exact RS_sc (by omega) rfl hR) (Fr_F2 Fr_set)
    rcases id hb with rfl | rfl | rfl | rfl | rfl <;> exact wf (hs := []) 20 92 (by decide) fin
  have B22 : g 1 i = 22 → ∀ x4 x5 x6 x7 : Int32, wp E (d + 4) 61 101 [(0, .ref ρ), (1, .ref b), (2, .ref π), (3, .int (iZ i)), (4, .int x4), (5, .int x5), (6, .int x6), (7, .int x7)] [] (mm I J A) Q := by
    intro h x4 x5 x6 x7
    have tail : ∀ I' J' A', FR ρ (ρ + 6) I J I' J' → wp E (d + 4) 61 124 [(0, .ref ρ), (1, .ref b), (2, .ref π), (3, .int (iZ i)), (8, .long (segL g v (g 5 i) (g 6 i)))] [] (mm I' J' A') Q := by
      intro I' J' A' hF
      generalize hS : segL g v (g 5 i) (g 6 i) = S
      have sr := rL_of S
      unfold rL at sr
      have eS : S = lZ S.toInt := (lZ_of S).symm
      have e1 : Int64.ofNat 18446744073709451617 = lZ (-99999) := by decide +kernel
      have ev : ((if (if Int64.ofNat 99999 < S then Int64.ofNat 99999 else S) < Int64.ofNat 18446744073709451617 then Int64.ofNat 18446744073709451617 else (if Int64.ofNat 99999 < S then Int64.ofNat 99999 else S))).toInt32 = iZ (max (-99999) (min S.toInt 99999)) := by
        rw [e1, eS]
        show (if (if lZ 99999 < lZ S.toInt then lZ 99999 else lZ S.toInt) < lZ (-99999) then lZ (-99999) else (if lZ 99999 < lZ S.toInt then lZ 99999 else lZ S.toInt)).toInt32 = iZ (max (-99999) (min (lZ S.toInt).toInt 99999))
        rw [← eS]
        rw [eS]
        have : (lZ S.toInt).toInt = S.toInt := lZ_toInt sr
        rw [this]
        simp (disch := omega) only [z_i8, z_i16, z_of, z_ofN, z_lofN, z_0, z_1, z_m1, z_l0, z_l1, iZ_add, iZ_sub, iZ_mul, iZ_neg, lZ_add, lZ_sub, lZ_mul, lZ_neg, z_div, z_ldiv, z_l, z_i, z_lt, z_le, z_eq, z_llt, z_lle, z_leq, z_cgt, z_cge, z_clt, z_cle, z_ceq, z_cl, z_nat, Int.toNat_natCast, mm_I, mm_J, z_cln, z_abs, z_max, z_min, z_lmax, z_lmin, z_sin, Int.cast_ofNat_Int, uI_I, uI_J, uL_I, uL_J, uA_I, uA_J, sI_eq, sI_ne, sL_eq, sL_ne, up_eq, up_ne, uL_eq, uL_ne, z_toInt]
      have fin := hQ (setI I' b 5 (iZ (max (-99999) (min S.toInt 99999)))) J' A' (by
        unfold doZ
        rw [if_neg (by omega), if_pos h, hS]
        exact RS_sc (by omega) rfl (RS_FR hr hF hR)) (F2_trans (FR_F2 hF) (Fr_F2 Fr_set))
      rw [← ev] at fin
      rcases id hb with rfl | rfl | rfl | rfl | rfl <;> exact wf (hs := []) 20 124 (by decide) fin
    rcases id hp with rfl | rfl | rfl | rfl | rfl | rfl
    all_goals (
      rcases id rr with rfl | rfl
      all_goals (
        refine wf (hs := [124]) 20 101 (by decide) ?_
        refine And.intro hin (And.intro hin (And.intro rfl (cc h _ (fun I' J' A' hF => ?_))))
        refine wp_keys [0, 1, 2, 3, 8] rfl rfl ?_
        exact tail I' J' A' hF))
  have ee : ∀ {v1 v2 : am_V} {I' : Nat → Nat → Int32} {J' : Nat → Nat → Int64}, v1 = v2 → RS I' J' b v1 → RS I' J' b v2 := fun e h => e ▸ h
  have B19 : g 1 i = 19 → ∀ x6 x7 : Int32, (g 2 i < nP v → x7 = iZ 1) → (¬ g 2 i < nP v → x7 = iZ 0) → wp E (d + 4) 61 146 [(0, .ref ρ), (1, .ref b), (2, .ref π), (3, .int (iZ i)), (4, .int (iZ (g 4 i))), (5, .int (iZ (g 2 i))), (6, .int x6), (7, .int x7)] [] (mm I J A) Q := by
    intro h x6 x7 h1 h0
    have k := k2 (Or.inl h)
    have k' := k4 (by omega)
    by_cases hlt : g 2 i < nP v
    · rw [h1 hlt]
      have hw := (hW.2.2.1 (g 2 i).toNat (by omega)).2.2.2.2.2.2
      refine wf (hs := []) 20 146 (by decide) (wF (by decide) ?_)
      refine And.intro ?_ (c_remove (p := (g 2 i).toNat) (n := g 4 i) hb hR hW (by omega) ⟨by omega, by omega⟩ (by congr 1; omega) rfl (fun I' hR' hF => ?_))
      · rcases id hb with rfl | rfl | rfl | rfl | rfl <;> rfl
      · refine hQ I' J A (ee ?_ hR') (Fr_F2 hF)
        unfold doZ
        rw [if_neg (by omega), if_neg (by omega), if_pos h, if_pos hlt]
        unfold porZ
        congr 1
        omega
    · rw [h0 hlt]
      refine wf (hs := []) 20 146 (by decide) (wt rfl ?_)
      refine hQ I J A (ee ?_ hR) F2_refl
      unfold doZ
      rw [if_neg (by omega), if_neg (by omega), if_pos h, if_neg hlt]
  have B20 : g 1 i = 20 → ∀ x6 x7 : Int32, (g 2 i < nP v → x7 = iZ 1) → (¬ g 2 i < nP v → x7 = iZ 0) → wp E (d + 4) 61 162 [(0, .ref ρ), (1, .ref b), (2, .ref π), (3, .int (iZ i)), (4, .int (iZ (g 4 i))), (5, .int (iZ (g 2 i))), (6, .int x6), (7, .int x7)] [] (mm I J A) Q := by
    intro h x6 x7 h1 h0
    have k := k2 (Or.inr (Or.inl h))
    have k' := k4 (by omega)
    by_cases hlt : g 2 i < nP v
    · rw [h1 hlt]
      have hw := (hW.2.2.1 (g 2 i).toNat (by omega)).2.2.2.2.2.2
      refine wf (hs := []) 20 162 (by decide) (wF (by decide) ?_)
      refine And.intro ?_ (c_add (p := (g 2 i).toNat) (n := g 4 i) hb hR hW (by omega) ⟨by omega, by omega⟩ (by congr 1; omega) rfl (fun I' hR' hF => ?_))
      · rcases id hb with rfl | rfl | rfl | rfl | rfl <;> rfl
      · refine hQ I' J A (ee ?_ hR') (Fr_F2 hF)
        unfold doZ
        rw [if_neg (by omega), if_neg (by omega), if_neg (by omega), if_pos h, if_pos hlt]
        unfold porZ
        congr 1
        omega
    · rw [h0 hlt]
      refine wf (hs := []) 20 162 (by decide) (wt rfl ?_)
      refine hQ I J A (ee ?_ hR) F2_refl
      unfold doZ
      rw [if_neg (by omega), if_neg (by omega), if_neg (by omega), if_pos h, if_neg hlt]
  have B21 : g 1 i = 21 → ∀ x7 : Int32, (g 2 i < nP v → x7 = iZ 1) → (¬ g 2 i < nP v → x7 = iZ 0) → wp E (d + 4) 61 178 [(0, .ref ρ), (1, .ref b), (2, .ref π), (3, .int (iZ i)), (4, .int (iZ (g 4 i))), (5, .int (iZ (g 2 i))), (6, .int (iZ (g 3 i))), (7, .int x7)] [] (mm I J A) Q := by
    intro h x7 h1 h0
    have k := k2 (Or.inr (Or.inr h))
    have k3' := k3 h
    have k' := k4 (by omega)
    have doe : (g 2 i < nP v ∧ g 3 i < nP v ∧ ¬ g 3 i = g 2 i → doZ g v i = crsV v (g 2 i).toNat (g 3 i).toNat (g 4 i)) ∧ (¬ (g 2 i < nP v ∧ g 3 i < nP v ∧ ¬ g 3 i = g 2 i) → doZ g v i = v) := by
      refine ⟨fun q => ?_, fun q => ?_⟩
      · unfold doZ
        rw [if_neg (by omega), if_neg (by omega), if_neg (by omega), if_neg (by omega), if_pos q]
      · unfold doZ
        rw [if_neg (by omega), if_neg (by omega), if_neg (by omega), if_neg (by omega), if_neg q]
    by_cases hlt : g 2 i < nP v
    · rw [h1 hlt]
      have np1 : iZ (nP v) ≤ iZ (g 3 i) ↔ (nP v : Int) ≤ g 3 i := z_le (by omega) (by omega) (by omega) (by omega)
      have eq1 : iZ (g 3 i) = iZ (g 2 i) ↔ g 3 i = g 2 i := z_eq (by omega) (by omega) (by omega) (by omega)
      have X : g 3 i < nP v ∧ ¬ g 3 i = g 2 i → wpC E (d + 3) 74 [.ref b, .int (iZ (g 2 i)), .int (iZ (g 3 i)), .int (iZ (g 4 i))] (mm I J A) (fun r M1 => r = none ∧ Q none M1) := fun q =>
        c_cross (a := (g 2 i).toNat) (c := (g 3 i).toNat) (m := g 4 i) hb hR hW (by omega) (by omega) (by omega) ⟨by omega, by omega⟩ (by congr 1; omega) (by congr 1; omega) rfl (fun I' hR' hF => ⟨rfl, hQ I' J A (by rw [doe.1 ⟨hlt, q.1, q.2⟩]; exact hR') (Fr_F2 hF)⟩)
      rcases id hb with rfl | rfl | rfl | rfl | rfl
      all_goals (
        simp only [Nat.reduceAdd] at np0
        refine wf (hs := []) 20 178 (by decide) (wF (by decide) ?_)
        refine And.intro (fun q => ?_) (fun q => ?_)
        · have q : I _ 0 ≤ iZ (g 3 i) := q
          rw [np0, np1] at q
          exact hQ I J A (by rw [doe.2 (by omega)]; exact hR) F2_refl
        · have q : ¬ I _ 0 ≤ iZ (g 3 i) := q
          rw [np0, np1] at q
          refine And.intro (fun q2 => ?_) (fun q2 => ?_)
          · have q2 := eq1.mp q2
            exact hQ I J A (by rw [doe.2 (by omega)]; exact hR) F2_refl
          · have q2 : ¬ g 3 i = g 2 i := fun y => q2 (eq1.mpr y)
            exact And.intro rfl (wpC_mono (X ⟨by omega, q2⟩) (fun r M1 h => by rw [h.1]; exact h.2)))
    · rw [h0 hlt]
      refine wf (hs := []) 20 178 (by decide) (wt rfl ?_)
      exact hQ I J A (by rw [doe.2 (by omega)]; exact hR) F2_refl
  have S43 : ∀ x7 : Int32, (g 2 i < nP v → x7 = iZ 1) → (¬ g 2 i < nP v → x7 = iZ 0) → wp E (d + 4) 61 43 [(0, .ref ρ), (1, .ref b), (2, .ref π), (3, .int (iZ i)), (4, .int (iZ (g 4 i))), (5, .int (iZ (g 2 i))), (6, .int (iZ (g 3 i))), (7, .int x7)] [] (mm I J A) Q := by
    intro x7 h1 h0
    have g1 := gg 1
    have t1 : (I (π + 1) (iZ (i : Int)).toNatClampNeg).toInt = g 1 i := by rw [g1]; exact z_toInt (by omega) (by omega)
    rcases id hp with rfl | rfl | rfl | rfl | rfl | rfl
    all_goals (
      simp only [Nat.reduceAdd] at t1
      refine wf (hs := [92, 101, 146, 162, 178]) 20 43 (by decide) (And.intro hin ?_)
      rcases k1 with h | h | h | h | h
      · refine wtb 0 (t1.trans h) rfl rfl (B16 h _ _ _)
      · refine wtb 3 (t1.trans h) rfl rfl (B19 h _ _ h1 h0)
      · refine wtb 4 (t1.trans h) rfl rfl (B20 h _ _ h1 h0)
      · refine wtb 5 (t1.trans h) rfl rfl (B21 h _ h1 h0)
      · refine wtb 6 (t1.trans h) rfl rfl (B22 h _ _ _ _))
  have S24 : wp E (d + 4) 61 24 [(0, .ref ρ), (1, .ref b), (2, .ref π), (3, .int (iZ i)), (4, .int (iZ (g 4 i))), (5, .int (iZ (g 2 i))), (6, .int (iZ (g 3 i)))] [] (mm I J A) Q := by
    have np1 : iZ (nP v) ≤ iZ (g 2 i) ↔ (nP v : Int) ≤ g 2 i := z_le (by omega) (by omega) (by omega) (by omega)
    rcases id hb with rfl | rfl | rfl | rfl | rfl
    all_goals (
      simp only [Nat.reduceAdd] at np0
      refine wf (hs := [43]) 20 24 (by decide) (And.intro (fun q => ?_) (fun q => ?_))
      · have q : I _ 0 ≤ iZ (g 2 i) := q
        rw [np0, np1] at q
        refine wp_keys [0, 1, 2, 3, 4, 5, 6, 7] rfl rfl ?_
        exact S43 _ (fun h => by omega) (fun _ => rfl)
      · have q : ¬ I _ 0 ≤ iZ (g 2 i) := q
        rw [np0, np1] at q
        refine wp_keys [0, 1, 2, 3, 4, 5, 6, 7] rfl rfl ?_
        exact S43 _ (fun _ => rfl) (fun h => by omega))
  have g4 := gg 4
  have g2 := gg 2
  have g3 := gg 3
  rw [← g4, ← g2, ← g3] at S24
  rcases id hp with rfl | rfl | rfl | rfl | rfl | rfl
  all_goals (
    refine wc (hs := [24]) 20 (by decide) ?_
    refine And.intro hin (And.intro hin (And.intro hin ?_))
    refine wp_keys [0, 1, 2, 3, 4, 5, 6] rfl rfl ?_
    exact S24)
end C11
end
