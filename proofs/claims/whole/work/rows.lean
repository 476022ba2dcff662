section
-- ===== PART A: goes FIRST, ahead of the names: the tables' words, and 'selects' of the private methods out of them =====
/-- a private method of a class that the tables say can be made, by its rows of tables_1 -/
def lw_okq (q : MethodName × Nat) : Prop := (q.1.cls ≠ "java/lang/invoke/MethodHandle" ∧ q.1.cls ≠ "java/lang/invoke/VarHandle") ∧ Cond.instantiable q.1.cls q.2 ∈ tables_1 ∧ Cond.privateMethod q.1 ∈ tables_1 ∧ Cond.instanceMethod q.1 ∈ tables_1
theorem lw_p0 : lw_okq (⟨"UrnHeap$Hands", "colourOfNew", "(I)I"⟩, 2) := ⟨⟨by decide +kernel, by decide +kernel⟩, List.mem_of_getElem? (i := 172) (by decide +kernel), List.mem_of_getElem? (i := 375) (by decide +kernel), List.mem_of_getElem? (i := 376) (by decide +kernel)⟩
theorem lw_p1 : lw_okq (⟨"UrnHeap$Sexton", "markRoots", "()V"⟩, 2) := ⟨⟨by decide +kernel, by decide +kernel⟩, List.mem_of_getElem? (i := 185) (by decide +kernel), List.mem_of_getElem? (i := 509) (by decide +kernel), List.mem_of_getElem? (i := 510) (by decide +kernel)⟩
theorem lw_p2 : lw_okq (⟨"UrnHeap$Sexton", "doPartsUntilOver", "(I)I"⟩, 2) := ⟨⟨by decide +kernel, by decide +kernel⟩, List.mem_of_getElem? (i := 185) (by decide +kernel), List.mem_of_getElem? (i := 526) (by decide +kernel), List.mem_of_getElem? (i := 527) (by decide +kernel)⟩
theorem lw_p3 : lw_okq (⟨"UrnHeap$Sexton", "sweepNext", "()V"⟩, 2) := ⟨⟨by decide +kernel, by decide +kernel⟩, List.mem_of_getElem? (i := 185) (by decide +kernel), List.mem_of_getElem? (i := 530) (by decide +kernel), List.mem_of_getElem? (i := 531) (by decide +kernel)⟩
theorem lw_p4 : lw_okq (⟨"UrnHeap$Sexton", "blackenFirst", "()V"⟩, 2) := ⟨⟨by decide +kernel, by decide +kernel⟩, List.mem_of_getElem? (i := 185) (by decide +kernel), List.mem_of_getElem? (i := 541) (by decide +kernel), List.mem_of_getElem? (i := 542) (by decide +kernel)⟩
theorem lw_p5 : lw_okq (⟨"UrnHeap$Sexton", "makeRitesDue", "()Z"⟩, 2) := ⟨⟨by decide +kernel, by decide +kernel⟩, List.mem_of_getElem? (i := 185) (by decide +kernel), List.mem_of_getElem? (i := 551) (by decide +kernel), List.mem_of_getElem? (i := 552) (by decide +kernel)⟩
theorem lw_p6 : lw_okq (⟨"UrnHeap$Sexton", "beginSweep", "()V"⟩, 2) := ⟨⟨by decide +kernel, by decide +kernel⟩, List.mem_of_getElem? (i := 185) (by decide +kernel), List.mem_of_getElem? (i := 556) (by decide +kernel), List.mem_of_getElem? (i := 557) (by decide +kernel)⟩
theorem lw_p7 : lw_okq (⟨"UrnHeap$Paths", "rootsByRite", "(I)I"⟩, 2) := ⟨⟨by decide +kernel, by decide +kernel⟩, List.mem_of_getElem? (i := 198) (by decide +kernel), List.mem_of_getElem? (i := 605) (by decide +kernel), List.mem_of_getElem? (i := 606) (by decide +kernel)⟩
theorem lw_p8 : lw_okq (⟨"UrnHeap$Paths", "reachFrom", "(I)I"⟩, 2) := ⟨⟨by decide +kernel, by decide +kernel⟩, List.mem_of_getElem? (i := 198) (by decide +kernel), List.mem_of_getElem? (i := 614) (by decide +kernel), List.mem_of_getElem? (i := 615) (by decide +kernel)⟩
theorem lw_p9 : lw_okq (⟨"UrnHeap$Paths", "targetsOfAll", "(I)I"⟩, 2) := ⟨⟨by decide +kernel, by decide +kernel⟩, List.mem_of_getElem? (i := 198) (by decide +kernel), List.mem_of_getElem? (i := 618) (by decide +kernel), List.mem_of_getElem? (i := 619) (by decide +kernel)⟩
theorem lw_p10 : lw_okq (⟨"UrnHeap$Paths", "targets", "(I)I"⟩, 2) := ⟨⟨by decide +kernel, by decide +kernel⟩, List.mem_of_getElem? (i := 198) (by decide +kernel), List.mem_of_getElem? (i := 625) (by decide +kernel), List.mem_of_getElem? (i := 626) (by decide +kernel)⟩
theorem lw_p11 : lw_okq (⟨"UrnHeap$Paths", "isHeldBySome", "(II)Z"⟩, 2) := ⟨⟨by decide +kernel, by decide +kernel⟩, List.mem_of_getElem? (i := 198) (by decide +kernel), List.mem_of_getElem? (i := 638) (by decide +kernel), List.mem_of_getElem? (i := 639) (by decide +kernel)⟩
theorem lw_p12 : lw_okq (⟨"UrnHeap$Paths", "weighAll", "()V"⟩, 2) := ⟨⟨by decide +kernel, by decide +kernel⟩, List.mem_of_getElem? (i := 198) (by decide +kernel), List.mem_of_getElem? (i := 685) (by decide +kernel), List.mem_of_getElem? (i := 686) (by decide +kernel)⟩
theorem lw_p13 : lw_okq (⟨"UrnHeap$Paths", "heavierThan", "(I)I"⟩, 2) := ⟨⟨by decide +kernel, by decide +kernel⟩, List.mem_of_getElem? (i := 198) (by decide +kernel), List.mem_of_getElem? (i := 691) (by decide +kernel), List.mem_of_getElem? (i := 692) (by decide +kernel)⟩
theorem lw_p14 : lw_okq (⟨"UrnHeap$Orders", "readOrder", "(I)I"⟩, 8) := ⟨⟨by decide +kernel, by decide +kernel⟩, List.mem_of_getElem? (i := 240) (by decide +kernel), List.mem_of_getElem? (i := 809) (by decide +kernel), List.mem_of_getElem? (i := 810) (by decide +kernel)⟩
theorem lw_p15 : lw_okq (⟨"UrnHeap$Orders", "fits", "(Ljava/lang/String;)Z"⟩, 8) := ⟨⟨by decide +kernel, by decide +kernel⟩, List.mem_of_getElem? (i := 240) (by decide +kernel), List.mem_of_getElem? (i := 815) (by decide +kernel), List.mem_of_getElem? (i := 816) (by decide +kernel)⟩
def lw_privs_1 : List (MethodName × Nat) := [(⟨"UrnHeap$Hands", "colourOfNew", "(I)I"⟩, 2), (⟨"UrnHeap$Sexton", "markRoots", "()V"⟩, 2), (⟨"UrnHeap$Sexton", "doPartsUntilOver", "(I)I"⟩, 2), (⟨"UrnHeap$Sexton", "sweepNext", "()V"⟩, 2), (⟨"UrnHeap$Sexton", "blackenFirst", "()V"⟩, 2), (⟨"UrnHeap$Sexton", "makeRitesDue", "()Z"⟩, 2), (⟨"UrnHeap$Sexton", "beginSweep", "()V"⟩, 2), (⟨"UrnHeap$Paths", "rootsByRite", "(I)I"⟩, 2), (⟨"UrnHeap$Paths", "reachFrom", "(I)I"⟩, 2), (⟨"UrnHeap$Paths", "targetsOfAll", "(I)I"⟩, 2), (⟨"UrnHeap$Paths", "targets", "(I)I"⟩, 2), (⟨"UrnHeap$Paths", "isHeldBySome", "(II)Z"⟩, 2), (⟨"UrnHeap$Paths", "weighAll", "()V"⟩, 2), (⟨"UrnHeap$Paths", "heavierThan", "(I)I"⟩, 2), (⟨"UrnHeap$Orders", "readOrder", "(I)I"⟩, 8), (⟨"UrnHeap$Orders", "fits", "(Ljava/lang/String;)Z"⟩, 8)]
theorem lw_r1 : ∀ q ∈ lw_privs_1, lw_okq q := List.forall_mem_cons.mpr ⟨lw_p0, List.forall_mem_cons.mpr ⟨lw_p1, List.forall_mem_cons.mpr ⟨lw_p2, List.forall_mem_cons.mpr ⟨lw_p3, List.forall_mem_cons.mpr ⟨lw_p4, List.forall_mem_cons.mpr ⟨lw_p5, List.forall_mem_cons.mpr ⟨lw_p6, List.forall_mem_cons.mpr ⟨lw_p7, List.forall_mem_cons.mpr ⟨lw_p8, List.forall_mem_cons.mpr ⟨lw_p9, List.forall_mem_cons.mpr ⟨lw_p10, List.forall_mem_cons.mpr ⟨lw_p11, List.forall_mem_cons.mpr ⟨lw_p12, List.forall_mem_cons.mpr ⟨lw_p13, List.forall_mem_cons.mpr ⟨lw_p14, List.forall_mem_cons.mpr ⟨lw_p15, fun _ h => absurd h List.not_mem_nil⟩⟩⟩⟩⟩⟩⟩⟩⟩⟩⟩⟩⟩⟩⟩⟩
theorem lw_p16 : lw_okq (⟨"UrnHeap$Orders", "readSign", "(C)I"⟩, 8) := ⟨⟨by decide +kernel, by decide +kernel⟩, List.mem_of_getElem? (i := 240) (by decide +kernel), List.mem_of_getElem? (i := 846) (by decide +kernel), List.mem_of_getElem? (i := 847) (by decide +kernel)⟩
theorem lw_p17 : lw_okq (⟨"UrnHeap$Orders", "valueAt", "(IC)I"⟩, 8) := ⟨⟨by decide +kernel, by decide +kernel⟩, List.mem_of_getElem? (i := 240) (by decide +kernel), List.mem_of_getElem? (i := 850) (by decide +kernel), List.mem_of_getElem? (i := 851) (by decide +kernel)⟩
theorem lw_p18 : lw_okq (⟨"UrnHeap$Orders", "isOrderEnd", "()Z"⟩, 8) := ⟨⟨by decide +kernel, by decide +kernel⟩, List.mem_of_getElem? (i := 240) (by decide +kernel), List.mem_of_getElem? (i := 867) (by decide +kernel), List.mem_of_getElem? (i := 868) (by decide +kernel)⟩
theorem lw_p19 : lw_okq (⟨"UrnHeap$Orders", "keep", "(LUrnHeap$Kind;)V"⟩, 8) := ⟨⟨by decide +kernel, by decide +kernel⟩, List.mem_of_getElem? (i := 240) (by decide +kernel), List.mem_of_getElem? (i := 871) (by decide +kernel), List.mem_of_getElem? (i := 872) (by decide +kernel)⟩
theorem lw_p20 : lw_okq (⟨"UrnHeap", "carryOut", "(I)I"⟩, 8) := ⟨⟨by decide +kernel, by decide +kernel⟩, List.mem_of_getElem? (i := 28) (by decide +kernel), List.mem_of_getElem? (i := 900) (by decide +kernel), List.mem_of_getElem? (i := 901) (by decide +kernel)⟩
theorem lw_p21 : lw_okq (⟨"UrnHeap$Line", "writeRite", "(LUrnHeap$Heap;I)V"⟩, 1) := ⟨⟨by decide +kernel, by decide +kernel⟩, List.mem_of_getElem? (i := 310) (by decide +kernel), List.mem_of_getElem? (i := 965) (by decide +kernel), List.mem_of_getElem? (i := 966) (by decide +kernel)⟩
theorem lw_p22 : lw_okq (⟨"UrnHeap$Line", "writeTarget", "(I)V"⟩, 1) := ⟨⟨by decide +kernel, by decide +kernel⟩, List.mem_of_getElem? (i := 310) (by decide +kernel), List.mem_of_getElem? (i := 972) (by decide +kernel), List.mem_of_getElem? (i := 973) (by decide +kernel)⟩
theorem lw_p23 : lw_okq (⟨"UrnHeap$Heap", "areUrns", "([I)Z"⟩, 17) := ⟨⟨by decide +kernel, by decide +kernel⟩, List.mem_of_getElem? (i := 36) (by decide +kernel), List.mem_of_getElem? (i := 1031) (by decide +kernel), List.mem_of_getElem? (i := 1032) (by decide +kernel)⟩
theorem lw_p24 : lw_okq (⟨"UrnHeap$Heap", "hasBlackToWhite", "()Z"⟩, 17) := ⟨⟨by decide +kernel, by decide +kernel⟩, List.mem_of_getElem? (i := 36) (by decide +kernel), List.mem_of_getElem? (i := 1035) (by decide +kernel), List.mem_of_getElem? (i := 1036) (by decide +kernel)⟩
theorem lw_p25 : lw_okq (⟨"UrnHeapModel", "empties", "(I)V"⟩, 20) := ⟨⟨by decide +kernel, by decide +kernel⟩, List.mem_of_getElem? (i := 1084) (by decide +kernel), List.mem_of_getElem? (i := 1090) (by decide +kernel), List.mem_of_getElem? (i := 1091) (by decide +kernel)⟩
theorem lw_p26 : lw_okq (⟨"UrnHeapModel", "remembers", "()V"⟩, 20) := ⟨⟨by decide +kernel, by decide +kernel⟩, List.mem_of_getElem? (i := 1084) (by decide +kernel), List.mem_of_getElem? (i := 1162) (by decide +kernel), List.mem_of_getElem? (i := 1163) (by decide +kernel)⟩
theorem lw_p27 : lw_okq (⟨"UrnHeapModel", "makes", "(Z)I"⟩, 20) := ⟨⟨by decide +kernel, by decide +kernel⟩, List.mem_of_getElem? (i := 1084) (by decide +kernel), List.mem_of_getElem? (i := 1166) (by decide +kernel), List.mem_of_getElem? (i := 1167) (by decide +kernel)⟩
theorem lw_p28 : lw_okq (⟨"UrnHeapModel", "refused", "(II)I"⟩, 20) := ⟨⟨by decide +kernel, by decide +kernel⟩, List.mem_of_getElem? (i := 1084) (by decide +kernel), List.mem_of_getElem? (i := 1170) (by decide +kernel), List.mem_of_getElem? (i := 1171) (by decide +kernel)⟩
theorem lw_p29 : lw_okq (⟨"UrnHeapModel", "done", "(I)I"⟩, 20) := ⟨⟨by decide +kernel, by decide +kernel⟩, List.mem_of_getElem? (i := 1084) (by decide +kernel), List.mem_of_getElem? (i := 1174) (by decide +kernel), List.mem_of_getElem? (i := 1175) (by decide +kernel)⟩
theorem lw_p30 : lw_okq (⟨"UrnHeapModel", "ends", "(I)I"⟩, 20) := ⟨⟨by decide +kernel, by decide +kernel⟩, List.mem_of_getElem? (i := 1084) (by decide +kernel), List.mem_of_getElem? (i := 1178) (by decide +kernel), List.mem_of_getElem? (i := 1179) (by decide +kernel)⟩
theorem lw_p31 : lw_okq (⟨"UrnHeapModel", "changed", "(I)I"⟩, 20) := ⟨⟨by decide +kernel, by decide +kernel⟩, List.mem_of_getElem? (i := 1084) (by decide +kernel), List.mem_of_getElem? (i := 1182) (by decide +kernel), List.mem_of_getElem? (i := 1183) (by decide +kernel)⟩
def lw_privs_2 : List (MethodName × Nat) := [(⟨"UrnHeap$Orders", "readSign", "(C)I"⟩, 8), (⟨"UrnHeap$Orders", "valueAt", "(IC)I"⟩, 8), (⟨"UrnHeap$Orders", "isOrderEnd", "()Z"⟩, 8), (⟨"UrnHeap$Orders", "keep", "(LUrnHeap$Kind;)V"⟩, 8), (⟨"UrnHeap", "carryOut", "(I)I"⟩, 8), (⟨"UrnHeap$Line", "writeRite", "(LUrnHeap$Heap;I)V"⟩, 1), (⟨"UrnHeap$Line", "writeTarget", "(I)V"⟩, 1), (⟨"UrnHeap$Heap", "areUrns", "([I)Z"⟩, 17), (⟨"UrnHeap$Heap", "hasBlackToWhite", "()Z"⟩, 17), (⟨"UrnHeapModel", "empties", "(I)V"⟩, 20), (⟨"UrnHeapModel", "remembers", "()V"⟩, 20), (⟨"UrnHeapModel", "makes", "(Z)I"⟩, 20), (⟨"UrnHeapModel", "refused", "(II)I"⟩, 20), (⟨"UrnHeapModel", "done", "(I)I"⟩, 20), (⟨"UrnHeapModel", "ends", "(I)I"⟩, 20), (⟨"UrnHeapModel", "changed", "(I)I"⟩, 20)]
theorem lw_r2 : ∀ q ∈ lw_privs_2, lw_okq q := List.forall_mem_cons.mpr ⟨lw_p16, List.forall_mem_cons.mpr ⟨lw_p17, List.forall_mem_cons.mpr ⟨lw_p18, List.forall_mem_cons.mpr ⟨lw_p19, List.forall_mem_cons.mpr ⟨lw_p20, List.forall_mem_cons.mpr ⟨lw_p21, List.forall_mem_cons.mpr ⟨lw_p22, List.forall_mem_cons.mpr ⟨lw_p23, List.forall_mem_cons.mpr ⟨lw_p24, List.forall_mem_cons.mpr ⟨lw_p25, List.forall_mem_cons.mpr ⟨lw_p26, List.forall_mem_cons.mpr ⟨lw_p27, List.forall_mem_cons.mpr ⟨lw_p28, List.forall_mem_cons.mpr ⟨lw_p29, List.forall_mem_cons.mpr ⟨lw_p30, List.forall_mem_cons.mpr ⟨lw_p31, fun _ h => absurd h List.not_mem_nil⟩⟩⟩⟩⟩⟩⟩⟩⟩⟩⟩⟩⟩⟩⟩⟩
theorem lw_p32 : lw_okq (⟨"UrnHeapModel", "ties", "(III)I"⟩, 20) := ⟨⟨by decide +kernel, by decide +kernel⟩, List.mem_of_getElem? (i := 1084) (by decide +kernel), List.mem_of_getElem? (i := 1190) (by decide +kernel), List.mem_of_getElem? (i := 1191) (by decide +kernel)⟩
theorem lw_p33 : lw_okq (⟨"UrnHeapModel", "isUrn", "(I)Z"⟩, 20) := ⟨⟨by decide +kernel, by decide +kernel⟩, List.mem_of_getElem? (i := 1084) (by decide +kernel), List.mem_of_getElem? (i := 1194) (by decide +kernel), List.mem_of_getElem? (i := 1195) (by decide +kernel)⟩
theorem lw_p34 : lw_okq (⟨"UrnHeapModel", "isDoomed", "(I)Z"⟩, 20) := ⟨⟨by decide +kernel, by decide +kernel⟩, List.mem_of_getElem? (i := 1084) (by decide +kernel), List.mem_of_getElem? (i := 1201) (by decide +kernel), List.mem_of_getElem? (i := 1202) (by decide +kernel)⟩
theorem lw_p35 : lw_okq (⟨"UrnHeapModel", "greysIfWhite", "(I)V"⟩, 20) := ⟨⟨by decide +kernel, by decide +kernel⟩, List.mem_of_getElem? (i := 1084) (by decide +kernel), List.mem_of_getElem? (i := 1205) (by decide +kernel), List.mem_of_getElem? (i := 1206) (by decide +kernel)⟩
theorem lw_p36 : lw_okq (⟨"UrnHeapModel", "greys", "(I)V"⟩, 20) := ⟨⟨by decide +kernel, by decide +kernel⟩, List.mem_of_getElem? (i := 1084) (by decide +kernel), List.mem_of_getElem? (i := 1209) (by decide +kernel), List.mem_of_getElem? (i := 1210) (by decide +kernel)⟩
theorem lw_p37 : lw_okq (⟨"UrnHeapModel", "unties", "(II)I"⟩, 20) := ⟨⟨by decide +kernel, by decide +kernel⟩, List.mem_of_getElem? (i := 1084) (by decide +kernel), List.mem_of_getElem? (i := 1217) (by decide +kernel), List.mem_of_getElem? (i := 1218) (by decide +kernel)⟩
theorem lw_p38 : lw_okq (⟨"UrnHeapModel", "weakens", "(II)I"⟩, 20) := ⟨⟨by decide +kernel, by decide +kernel⟩, List.mem_of_getElem? (i := 1084) (by decide +kernel), List.mem_of_getElem? (i := 1225) (by decide +kernel), List.mem_of_getElem? (i := 1226) (by decide +kernel)⟩
theorem lw_p39 : lw_okq (⟨"UrnHeapModel", "names", "(II)I"⟩, 20) := ⟨⟨by decide +kernel, by decide +kernel⟩, List.mem_of_getElem? (i := 1084) (by decide +kernel), List.mem_of_getElem? (i := 1237) (by decide +kernel), List.mem_of_getElem? (i := 1238) (by decide +kernel)⟩
theorem lw_p40 : lw_okq (⟨"UrnHeapModel", "drops", "(I)I"⟩, 20) := ⟨⟨by decide +kernel, by decide +kernel⟩, List.mem_of_getElem? (i := 1084) (by decide +kernel), List.mem_of_getElem? (i := 1245) (by decide +kernel), List.mem_of_getElem? (i := 1246) (by decide +kernel)⟩
theorem lw_p41 : lw_okq (⟨"UrnHeapModel", "holds", "(I)I"⟩, 20) := ⟨⟨by decide +kernel, by decide +kernel⟩, List.mem_of_getElem? (i := 1084) (by decide +kernel), List.mem_of_getElem? (i := 1253) (by decide +kernel), List.mem_of_getElem? (i := 1254) (by decide +kernel)⟩
theorem lw_p42 : lw_okq (⟨"UrnHeapModel", "held", "(I)I"⟩, 20) := ⟨⟨by decide +kernel, by decide +kernel⟩, List.mem_of_getElem? (i := 1084) (by decide +kernel), List.mem_of_getElem? (i := 1257) (by decide +kernel), List.mem_of_getElem? (i := 1258) (by decide +kernel)⟩
theorem lw_p43 : lw_okq (⟨"UrnHeapModel", "beginsRound", "()I"⟩, 20) := ⟨⟨by decide +kernel, by decide +kernel⟩, List.mem_of_getElem? (i := 1084) (by decide +kernel), List.mem_of_getElem? (i := 1273) (by decide +kernel), List.mem_of_getElem? (i := 1274) (by decide +kernel)⟩
theorem lw_p44 : lw_okq (⟨"UrnHeapModel", "stepsOn", "(I)I"⟩, 20) := ⟨⟨by decide +kernel, by decide +kernel⟩, List.mem_of_getElem? (i := 1084) (by decide +kernel), List.mem_of_getElem? (i := 1281) (by decide +kernel), List.mem_of_getElem? (i := 1282) (by decide +kernel)⟩
theorem lw_p45 : lw_okq (⟨"UrnHeapModel", "partsOn", "(I)I"⟩, 20) := ⟨⟨by decide +kernel, by decide +kernel⟩, List.mem_of_getElem? (i := 1084) (by decide +kernel), List.mem_of_getElem? (i := 1285) (by decide +kernel), List.mem_of_getElem? (i := 1286) (by decide +kernel)⟩
theorem lw_p46 : lw_okq (⟨"UrnHeapModel", "part", "()V"⟩, 20) := ⟨⟨by decide +kernel, by decide +kernel⟩, List.mem_of_getElem? (i := 1084) (by decide +kernel), List.mem_of_getElem? (i := 1289) (by decide +kernel), List.mem_of_getElem? (i := 1290) (by decide +kernel)⟩
theorem lw_p47 : lw_okq (⟨"UrnHeapModel", "sweeps", "()V"⟩, 20) := ⟨⟨by decide +kernel, by decide +kernel⟩, List.mem_of_getElem? (i := 1084) (by decide +kernel), List.mem_of_getElem? (i := 1293) (by decide +kernel), List.mem_of_getElem? (i := 1294) (by decide +kernel)⟩
def lw_privs_3 : List (MethodName × Nat) := [(⟨"UrnHeapModel", "ties", "(III)I"⟩, 20), (⟨"UrnHeapModel", "isUrn", "(I)Z"⟩, 20), (⟨"UrnHeapModel", "isDoomed", "(I)Z"⟩, 20), (⟨"UrnHeapModel", "greysIfWhite", "(I)V"⟩, 20), (⟨"UrnHeapModel", "greys", "(I)V"⟩, 20), (⟨"UrnHeapModel", "unties", "(II)I"⟩, 20), (⟨"UrnHeapModel", "weakens", "(II)I"⟩, 20), (⟨"UrnHeapModel", "names", "(II)I"⟩, 20), (⟨"UrnHeapModel", "drops", "(I)I"⟩, 20), (⟨"UrnHeapModel", "holds", "(I)I"⟩, 20), (⟨"UrnHeapModel", "held", "(I)I"⟩, 20), (⟨"UrnHeapModel", "beginsRound", "()I"⟩, 20), (⟨"UrnHeapModel", "stepsOn", "(I)I"⟩, 20), (⟨"UrnHeapModel", "partsOn", "(I)I"⟩, 20), (⟨"UrnHeapModel", "part", "()V"⟩, 20), (⟨"UrnHeapModel", "sweeps", "()V"⟩, 20)]
theorem lw_r3 : ∀ q ∈ lw_privs_3, lw_okq q := List.forall_mem_cons.mpr ⟨lw_p32, List.forall_mem_cons.mpr ⟨lw_p33, List.forall_mem_cons.mpr ⟨lw_p34, List.forall_mem_cons.mpr ⟨lw_p35, List.forall_mem_cons.mpr ⟨lw_p36, List.forall_mem_cons.mpr ⟨lw_p37, List.forall_mem_cons.mpr ⟨lw_p38, List.forall_mem_cons.mpr ⟨lw_p39, List.forall_mem_cons.mpr ⟨lw_p40, List.forall_mem_cons.mpr ⟨lw_p41, List.forall_mem_cons.mpr ⟨lw_p42, List.forall_mem_cons.mpr ⟨lw_p43, List.forall_mem_cons.mpr ⟨lw_p44, List.forall_mem_cons.mpr ⟨lw_p45, List.forall_mem_cons.mpr ⟨lw_p46, List.forall_mem_cons.mpr ⟨lw_p47, fun _ h => absurd h List.not_mem_nil⟩⟩⟩⟩⟩⟩⟩⟩⟩⟩⟩⟩⟩⟩⟩⟩
theorem lw_p48 : lw_okq (⟨"UrnHeapModel", "frees", "(I)V"⟩, 20) := ⟨⟨by decide +kernel, by decide +kernel⟩, List.mem_of_getElem? (i := 1084) (by decide +kernel), List.mem_of_getElem? (i := 1297) (by decide +kernel), List.mem_of_getElem? (i := 1298) (by decide +kernel)⟩
theorem lw_p49 : lw_okq (⟨"UrnHeapModel", "blackens", "()V"⟩, 20) := ⟨⟨by decide +kernel, by decide +kernel⟩, List.mem_of_getElem? (i := 1084) (by decide +kernel), List.mem_of_getElem? (i := 1301) (by decide +kernel), List.mem_of_getElem? (i := 1302) (by decide +kernel)⟩
theorem lw_p50 : lw_okq (⟨"UrnHeapModel", "becomeDue", "()Z"⟩, 20) := ⟨⟨by decide +kernel, by decide +kernel⟩, List.mem_of_getElem? (i := 1084) (by decide +kernel), List.mem_of_getElem? (i := 1305) (by decide +kernel), List.mem_of_getElem? (i := 1306) (by decide +kernel)⟩
theorem lw_p51 : lw_okq (⟨"UrnHeapModel", "cutsWeak", "()V"⟩, 20) := ⟨⟨by decide +kernel, by decide +kernel⟩, List.mem_of_getElem? (i := 1084) (by decide +kernel), List.mem_of_getElem? (i := 1309) (by decide +kernel), List.mem_of_getElem? (i := 1310) (by decide +kernel)⟩
theorem lw_p52 : lw_okq (⟨"UrnHeapModel", "wholeRound", "()I"⟩, 20) := ⟨⟨by decide +kernel, by decide +kernel⟩, List.mem_of_getElem? (i := 1084) (by decide +kernel), List.mem_of_getElem? (i := 1317) (by decide +kernel), List.mem_of_getElem? (i := 1318) (by decide +kernel)⟩
theorem lw_p53 : lw_okq (⟨"UrnHeapModel", "doesRite", "()I"⟩, 20) := ⟨⟨by decide +kernel, by decide +kernel⟩, List.mem_of_getElem? (i := 1084) (by decide +kernel), List.mem_of_getElem? (i := 1325) (by decide +kernel), List.mem_of_getElem? (i := 1326) (by decide +kernel)⟩
theorem lw_p54 : lw_okq (⟨"UrnHeapModel", "measures", "(IZ)V"⟩, 20) := ⟨⟨by decide +kernel, by decide +kernel⟩, List.mem_of_getElem? (i := 1084) (by decide +kernel), List.mem_of_getElem? (i := 1345) (by decide +kernel), List.mem_of_getElem? (i := 1346) (by decide +kernel)⟩
theorem lw_p55 : lw_okq (⟨"UrnHeapModel", "nears", "(II)V"⟩, 20) := ⟨⟨by decide +kernel, by decide +kernel⟩, List.mem_of_getElem? (i := 1084) (by decide +kernel), List.mem_of_getElem? (i := 1349) (by decide +kernel), List.mem_of_getElem? (i := 1350) (by decide +kernel)⟩
theorem lw_p56 : lw_okq (⟨"UrnHeapModel", "reached", "()I"⟩, 20) := ⟨⟨by decide +kernel, by decide +kernel⟩, List.mem_of_getElem? (i := 1084) (by decide +kernel), List.mem_of_getElem? (i := 1353) (by decide +kernel), List.mem_of_getElem? (i := 1354) (by decide +kernel)⟩
theorem lw_p57 : lw_okq (⟨"UrnHeapModel", "urns", "()I"⟩, 20) := ⟨⟨by decide +kernel, by decide +kernel⟩, List.mem_of_getElem? (i := 1084) (by decide +kernel), List.mem_of_getElem? (i := 1378) (by decide +kernel), List.mem_of_getElem? (i := 1379) (by decide +kernel)⟩
theorem lw_p58 : lw_okq (⟨"UrnHeapModel", "isAhead", "(II)Z"⟩, 20) := ⟨⟨by decide +kernel, by decide +kernel⟩, List.mem_of_getElem? (i := 1084) (by decide +kernel), List.mem_of_getElem? (i := 1386) (by decide +kernel), List.mem_of_getElem? (i := 1387) (by decide +kernel)⟩
theorem lw_p59 : lw_okq (⟨"UrnHeapModel", "readsOne", "()V"⟩, 20) := ⟨⟨by decide +kernel, by decide +kernel⟩, List.mem_of_getElem? (i := 1084) (by decide +kernel), List.mem_of_getElem? (i := 1398) (by decide +kernel), List.mem_of_getElem? (i := 1399) (by decide +kernel)⟩
theorem lw_p60 : lw_okq (⟨"UrnHeapModel", "here", "()I"⟩, 20) := ⟨⟨by decide +kernel, by decide +kernel⟩, List.mem_of_getElem? (i := 1084) (by decide +kernel), List.mem_of_getElem? (i := 1402) (by decide +kernel), List.mem_of_getElem? (i := 1403) (by decide +kernel)⟩
theorem lw_p61 : lw_okq (⟨"UrnHeapModel", "next", "()I"⟩, 20) := ⟨⟨by decide +kernel, by decide +kernel⟩, List.mem_of_getElem? (i := 1084) (by decide +kernel), List.mem_of_getElem? (i := 1406) (by decide +kernel), List.mem_of_getElem? (i := 1407) (by decide +kernel)⟩
theorem lw_p62 : lw_okq (⟨"UrnHeapModel", "tells", "(II)V"⟩, 20) := ⟨⟨by decide +kernel, by decide +kernel⟩, List.mem_of_getElem? (i := 1084) (by decide +kernel), List.mem_of_getElem? (i := 1410) (by decide +kernel), List.mem_of_getElem? (i := 1411) (by decide +kernel)⟩
theorem lw_p63 : lw_okq (⟨"UrnHeapModel", "word", "(Ljava/lang/String;)V"⟩, 20) := ⟨⟨by decide +kernel, by decide +kernel⟩, List.mem_of_getElem? (i := 1084) (by decide +kernel), List.mem_of_getElem? (i := 1415) (by decide +kernel), List.mem_of_getElem? (i := 1416) (by decide +kernel)⟩
def lw_privs_4 : List (MethodName × Nat) := [(⟨"UrnHeapModel", "frees", "(I)V"⟩, 20), (⟨"UrnHeapModel", "blackens", "()V"⟩, 20), (⟨"UrnHeapModel", "becomeDue", "()Z"⟩, 20), (⟨"UrnHeapModel", "cutsWeak", "()V"⟩, 20), (⟨"UrnHeapModel", "wholeRound", "()I"⟩, 20), (⟨"UrnHeapModel", "doesRite", "()I"⟩, 20), (⟨"UrnHeapModel", "measures", "(IZ)V"⟩, 20), (⟨"UrnHeapModel", "nears", "(II)V"⟩, 20), (⟨"UrnHeapModel", "reached", "()I"⟩, 20), (⟨"UrnHeapModel", "urns", "()I"⟩, 20), (⟨"UrnHeapModel", "isAhead", "(II)Z"⟩, 20), (⟨"UrnHeapModel", "readsOne", "()V"⟩, 20), (⟨"UrnHeapModel", "here", "()I"⟩, 20), (⟨"UrnHeapModel", "next", "()I"⟩, 20), (⟨"UrnHeapModel", "tells", "(II)V"⟩, 20), (⟨"UrnHeapModel", "word", "(Ljava/lang/String;)V"⟩, 20)]
theorem lw_r4 : ∀ q ∈ lw_privs_4, lw_okq q := List.forall_mem_cons.mpr ⟨lw_p48, List.forall_mem_cons.mpr ⟨lw_p49, List.forall_mem_cons.mpr ⟨lw_p50, List.forall_mem_cons.mpr ⟨lw_p51, List.forall_mem_cons.mpr ⟨lw_p52, List.forall_mem_cons.mpr ⟨lw_p53, List.forall_mem_cons.mpr ⟨lw_p54, List.forall_mem_cons.mpr ⟨lw_p55, List.forall_mem_cons.mpr ⟨lw_p56, List.forall_mem_cons.mpr ⟨lw_p57, List.forall_mem_cons.mpr ⟨lw_p58, List.forall_mem_cons.mpr ⟨lw_p59, List.forall_mem_cons.mpr ⟨lw_p60, List.forall_mem_cons.mpr ⟨lw_p61, List.forall_mem_cons.mpr ⟨lw_p62, List.forall_mem_cons.mpr ⟨lw_p63, fun _ h => absurd h List.not_mem_nil⟩⟩⟩⟩⟩⟩⟩⟩⟩⟩⟩⟩⟩⟩⟩⟩
theorem lw_p64 : lw_okq (⟨"UrnHeapModel", "slotOf", "(Ljava/lang/String;)V"⟩, 20) := ⟨⟨by decide +kernel, by decide +kernel⟩, List.mem_of_getElem? (i := 1084) (by decide +kernel), List.mem_of_getElem? (i := 1422) (by decide +kernel), List.mem_of_getElem? (i := 1423) (by decide +kernel)⟩
theorem lw_p65 : lw_okq (⟨"UrnHeapModel", "number", "(II)V"⟩, 20) := ⟨⟨by decide +kernel, by decide +kernel⟩, List.mem_of_getElem? (i := 1084) (by decide +kernel), List.mem_of_getElem? (i := 1426) (by decide +kernel), List.mem_of_getElem? (i := 1427) (by decide +kernel)⟩
theorem lw_p66 : lw_okq (⟨"UrnHeapModel", "letter", "(I)V"⟩, 20) := ⟨⟨by decide +kernel, by decide +kernel⟩, List.mem_of_getElem? (i := 1084) (by decide +kernel), List.mem_of_getElem? (i := 1434) (by decide +kernel), List.mem_of_getElem? (i := 1435) (by decide +kernel)⟩
theorem lw_p67 : lw_okq (⟨"UrnHeapModel", "does", "(I)I"⟩, 20) := ⟨⟨by decide +kernel, by decide +kernel⟩, List.mem_of_getElem? (i := 1084) (by decide +kernel), List.mem_of_getElem? (i := 1443) (by decide +kernel), List.mem_of_getElem? (i := 1444) (by decide +kernel)⟩
theorem lw_p68 : lw_okq (⟨"UrnHeapModel", "writesNumber", "(I)V"⟩, 20) := ⟨⟨by decide +kernel, by decide +kernel⟩, List.mem_of_getElem? (i := 1084) (by decide +kernel), List.mem_of_getElem? (i := 1451) (by decide +kernel), List.mem_of_getElem? (i := 1452) (by decide +kernel)⟩
theorem lw_p69 : lw_okq (⟨"UrnHeapModel", "writes", "(I)V"⟩, 20) := ⟨⟨by decide +kernel, by decide +kernel⟩, List.mem_of_getElem? (i := 1084) (by decide +kernel), List.mem_of_getElem? (i := 1455) (by decide +kernel), List.mem_of_getElem? (i := 1456) (by decide +kernel)⟩
theorem lw_p70 : lw_okq (⟨"UrnHeapModel", "manyThat", "(I)I"⟩, 20) := ⟨⟨by decide +kernel, by decide +kernel⟩, List.mem_of_getElem? (i := 1084) (by decide +kernel), List.mem_of_getElem? (i := 1475) (by decide +kernel), List.mem_of_getElem? (i := 1476) (by decide +kernel)⟩
theorem lw_p71 : lw_okq (⟨"UrnHeapModel", "manyUrns", "()I"⟩, 20) := ⟨⟨by decide +kernel, by decide +kernel⟩, List.mem_of_getElem? (i := 1084) (by decide +kernel), List.mem_of_getElem? (i := 1479) (by decide +kernel), List.mem_of_getElem? (i := 1480) (by decide +kernel)⟩
theorem lw_p72 : lw_okq (⟨"UrnHeapModel", "namesUsed", "()I"⟩, 20) := ⟨⟨by decide +kernel, by decide +kernel⟩, List.mem_of_getElem? (i := 1084) (by decide +kernel), List.mem_of_getElem? (i := 1483) (by decide +kernel), List.mem_of_getElem? (i := 1484) (by decide +kernel)⟩
theorem lw_p73 : lw_okq (⟨"UrnHeapModel", "isFit", "(I)Z"⟩, 20) := ⟨⟨by decide +kernel, by decide +kernel⟩, List.mem_of_getElem? (i := 1084) (by decide +kernel), List.mem_of_getElem? (i := 1491) (by decide +kernel), List.mem_of_getElem? (i := 1492) (by decide +kernel)⟩
theorem lw_p74 : lw_okq (⟨"UrnHeapModel", "isThere", "(I)Z"⟩, 20) := ⟨⟨by decide +kernel, by decide +kernel⟩, List.mem_of_getElem? (i := 1084) (by decide +kernel), List.mem_of_getElem? (i := 1495) (by decide +kernel), List.mem_of_getElem? (i := 1496) (by decide +kernel)⟩
def lw_privs_5 : List (MethodName × Nat) := [(⟨"UrnHeapModel", "slotOf", "(Ljava/lang/String;)V"⟩, 20), (⟨"UrnHeapModel", "number", "(II)V"⟩, 20), (⟨"UrnHeapModel", "letter", "(I)V"⟩, 20), (⟨"UrnHeapModel", "does", "(I)I"⟩, 20), (⟨"UrnHeapModel", "writesNumber", "(I)V"⟩, 20), (⟨"UrnHeapModel", "writes", "(I)V"⟩, 20), (⟨"UrnHeapModel", "manyThat", "(I)I"⟩, 20), (⟨"UrnHeapModel", "manyUrns", "()I"⟩, 20), (⟨"UrnHeapModel", "namesUsed", "()I"⟩, 20), (⟨"UrnHeapModel", "isFit", "(I)Z"⟩, 20), (⟨"UrnHeapModel", "isThere", "(I)Z"⟩, 20)]
theorem lw_r5 : ∀ q ∈ lw_privs_5, lw_okq q := List.forall_mem_cons.mpr ⟨lw_p64, List.forall_mem_cons.mpr ⟨lw_p65, List.forall_mem_cons.mpr ⟨lw_p66, List.forall_mem_cons.mpr ⟨lw_p67, List.forall_mem_cons.mpr ⟨lw_p68, List.forall_mem_cons.mpr ⟨lw_p69, List.forall_mem_cons.mpr ⟨lw_p70, List.forall_mem_cons.mpr ⟨lw_p71, List.forall_mem_cons.mpr ⟨lw_p72, List.forall_mem_cons.mpr ⟨lw_p73, List.forall_mem_cons.mpr ⟨lw_p74, fun _ h => absurd h List.not_mem_nil⟩⟩⟩⟩⟩⟩⟩⟩⟩⟩⟩
def lw_privs : List (MethodName × Nat) := lw_privs_1 ++ (lw_privs_2 ++ (lw_privs_3 ++ (lw_privs_4 ++ (lw_privs_5))))
def lw_tbl : List Cond := k2_sels lw_privs ++ tables_1
theorem lw_privs_ok : ∀ q ∈ lw_privs, lw_okq q := by
  show ∀ q ∈ lw_privs_1 ++ (lw_privs_2 ++ (lw_privs_3 ++ (lw_privs_4 ++ (lw_privs_5)))), lw_okq q
  exact List.forall_mem_append.mpr ⟨lw_r1, List.forall_mem_append.mpr ⟨lw_r2, List.forall_mem_append.mpr ⟨lw_r3, List.forall_mem_append.mpr ⟨lw_r4, lw_r5⟩⟩⟩⟩
/-- the streams that the claim lets the run draw from -/
abbrev lw_cs : List Choice := [Jvm.Choice.named "NaN.bits"]
theorem lw_bits : nanBits ∈ lw_cs := by first | decide | exact List.mem_cons_self | simp [lw_cs, nanBits]
-- ===== end of PART A; then your names; then what follows =====
end
section
def RX0 : String := "UrnHeap$1"
def TX0 : u_T := fun k => match k with
  | _ => ("", "", "", false)
def tyX0 : Nat → FieldType := fun k => match k with
  | _ => .int
abbrev wsX00 : List Cond := u_ws "UrnHeap$1" TX0 0
theorem nmX0 : ∀ a, a < 0 → ∀ b, b < 0 → a ≠ b → (TX0 a).2.1 ≠ (TX0 b).2.1 := by decide +kernel
theorem tyX0_ok : ∀ k, k < 0 → parseFieldDescriptor (TX0 k).2.2.1 = some (tyX0 k) := by decide +kernel
def RX1 : String := "UrnHeap$Hands"
def TX1 : u_T := fun k => match k with
  | 0 => ("UrnHeap$Hands", "heap", "LUrnHeap$Heap;", true)
  | _ => ("UrnHeap$Hands", "refusals", "LUrnHeap$Refusals;", true)
def tyX1 : Nat → FieldType := fun k => match k with
  | 0 => .object "UrnHeap$Heap"
  | _ => .object "UrnHeap$Refusals"
abbrev wsX10 : List Cond := u_ws "UrnHeap$Hands" TX1 2
theorem nmX1 : ∀ a, a < 2 → ∀ b, b < 2 → a ≠ b → (TX1 a).2.1 ≠ (TX1 b).2.1 := by decide +kernel
theorem tyX1_ok : ∀ k, k < 2 → parseFieldDescriptor (TX1 k).2.2.1 = some (tyX1 k) := by decide +kernel
abbrev cX1_init : ByteArray := prog_3_method_1_code
def yX1_init : MethodName := ⟨"UrnHeap$Hands", "<init>", "(LUrnHeap$Heap;LUrnHeap$Refusals;)V"⟩
abbrev cX1_makeUrn : ByteArray := prog_3_method_2_code
def yX1_makeUrn : MethodName := ⟨"UrnHeap$Hands", "makeUrn", "(Z)I"⟩
abbrev cX1_colourOfNew : ByteArray := prog_3_method_3_code
def yX1_colourOfNew : MethodName := ⟨"UrnHeap$Hands", "colourOfNew", "(I)I"⟩
abbrev cX1_tieThread : ByteArray := prog_3_method_4_code
def yX1_tieThread : MethodName := ⟨"UrnHeap$Hands", "tieThread", "(III)I"⟩
abbrev cX1_takeThread : ByteArray := prog_3_method_5_code
def yX1_takeThread : MethodName := ⟨"UrnHeap$Hands", "takeThread", "(II)I"⟩
abbrev cX1_tieWeak : ByteArray := prog_3_method_6_code
def yX1_tieWeak : MethodName := ⟨"UrnHeap$Hands", "tieWeak", "(II)I"⟩
abbrev cX1_takeWeak : ByteArray := prog_3_method_7_code
def yX1_takeWeak : MethodName := ⟨"UrnHeap$Hands", "takeWeak", "(I)I"⟩
abbrev cX1_giveName : ByteArray := prog_3_method_8_code
def yX1_giveName : MethodName := ⟨"UrnHeap$Hands", "giveName", "(II)I"⟩
abbrev cX1_takeName : ByteArray := prog_3_method_9_code
def yX1_takeName : MethodName := ⟨"UrnHeap$Hands", "takeName", "(I)I"⟩
def RX2 : String := "UrnHeap$Heap"
def TX2 : u_T := fun k => match k with
  | 0 => ("UrnHeap$Heap", "threads", "[I", true)
  | 1 => ("UrnHeap$Heap", "weaks", "[I", true)
  | 2 => ("UrnHeap$Heap", "rites", "[I", true)
  | 3 => ("UrnHeap$Heap", "colours", "[I", true)
  | 4 => ("UrnHeap$Heap", "madeIn", "[I", true)
  | 5 => ("UrnHeap$Heap", "names", "[I", true)
  | 6 => ("UrnHeap$Heap", "late", "[I", true)
  | 7 => ("UrnHeap$Heap", "greys", "LUrnHeap$Row;", true)
  | 8 => ("UrnHeap$Heap", "dues", "LUrnHeap$Row;", true)
  | 9 => ("UrnHeap$Heap", "phase", "I", false)
  | 10 => ("UrnHeap$Heap", "nextSwept", "I", false)
  | 11 => ("UrnHeap$Heap", "roundsOver", "I", false)
  | 12 => ("UrnHeap$Heap", "urnsMade", "I", false)
  | 13 => ("UrnHeap$Heap", "urnsFreed", "I", false)
  | 14 => ("UrnHeap$Heap", "ritesDone", "I", false)
  | 15 => ("UrnHeap$Heap", "weaksCut", "I", false)
  | _ => ("UrnHeap$Heap", "partsDone", "I", false)
def tyX2 : Nat → FieldType := fun k => match k with
  | 0 => .array .int
  | 1 => .array .int
  | 2 => .array .int
  | 3 => .array .int
  | 4 => .array .int
  | 5 => .array .int
  | 6 => .array .int
  | 7 => .object "UrnHeap$Row"
  | 8 => .object "UrnHeap$Row"
  | 9 => .int
  | 10 => .int
  | 11 => .int
  | 12 => .int
  | 13 => .int
  | 14 => .int
  | 15 => .int
  | _ => .int
abbrev wsX20 : List Cond := u_ws "UrnHeap$Heap" TX2 17
theorem nmX2 : ∀ a, a < 17 → ∀ b, b < 17 → a ≠ b → (TX2 a).2.1 ≠ (TX2 b).2.1 := by decide +kernel
theorem tyX2_ok : ∀ k, k < 17 → parseFieldDescriptor (TX2 k).2.2.1 = some (tyX2 k) := by decide +kernel
abbrev cX2_init : ByteArray := prog_4_method_1_code
def yX2_init : MethodName := ⟨"UrnHeap$Heap", "<init>", "()V"⟩
abbrev cX2_copyFrom : ByteArray := prog_4_method_2_code
def yX2_copyFrom : MethodName := ⟨"UrnHeap$Heap", "copyFrom", "(LUrnHeap$Heap;)V"⟩
abbrev cX2_hasUrn : ByteArray := prog_4_method_3_code
def yX2_hasUrn : MethodName := ⟨"UrnHeap$Heap", "hasUrn", "(I)Z"⟩
abbrev cX2_isWhite : ByteArray := prog_4_method_4_code
def yX2_isWhite : MethodName := ⟨"UrnHeap$Heap", "isWhite", "(I)Z"⟩
abbrev cX2_isToBeSwept : ByteArray := prog_4_method_5_code
def yX2_isToBeSwept : MethodName := ⟨"UrnHeap$Heap", "isToBeSwept", "(I)Z"⟩
abbrev cX2_target : ByteArray := prog_4_method_6_code
def yX2_target : MethodName := ⟨"UrnHeap$Heap", "target", "(II)I"⟩
abbrev cX2_urns : ByteArray := prog_4_method_7_code
def yX2_urns : MethodName := ⟨"UrnHeap$Heap", "urns", "()I"⟩
abbrev cX2_urnsOf : ByteArray := prog_4_method_8_code
def yX2_urnsOf : MethodName := ⟨"UrnHeap$Heap", "urnsOf", "(I)I"⟩
abbrev cX2_namesInUse : ByteArray := prog_4_method_9_code
def yX2_namesInUse : MethodName := ⟨"UrnHeap$Heap", "namesInUse", "()I"⟩
abbrev cX2_threadsFrom : ByteArray := prog_4_method_10_code
def yX2_threadsFrom : MethodName := ⟨"UrnHeap$Heap", "threadsFrom", "(I)I"⟩
abbrev cX2_holdersOf : ByteArray := prog_4_method_11_code
def yX2_holdersOf : MethodName := ⟨"UrnHeap$Heap", "holdersOf", "(I)I"⟩
abbrev cX2_holdersOfAll : ByteArray := prog_4_method_12_code
def yX2_holdersOfAll : MethodName := ⟨"UrnHeap$Heap", "holdersOfAll", "()I"⟩
abbrev cX2_freedLate : ByteArray := prog_4_method_13_code
def yX2_freedLate : MethodName := ⟨"UrnHeap$Heap", "freedLate", "(I)I"⟩
abbrev cX2_makeGrey : ByteArray := prog_4_method_14_code
def yX2_makeGrey : MethodName := ⟨"UrnHeap$Heap", "makeGrey", "(I)V"⟩
abbrev cX2_makeGreyInRound : ByteArray := prog_4_method_15_code
def yX2_makeGreyInRound : MethodName := ⟨"UrnHeap$Heap", "makeGreyInRound", "(I)V"⟩
abbrev cX2_free : ByteArray := prog_4_method_16_code
def yX2_free : MethodName := ⟨"UrnHeap$Heap", "free", "(I)V"⟩
abbrev cX2_isSound : ByteArray := prog_4_method_17_code
def yX2_isSound : MethodName := ⟨"UrnHeap$Heap", "isSound", "()Z"⟩
abbrev cX2_areUrns : ByteArray := prog_4_method_18_code
def yX2_areUrns : MethodName := ⟨"UrnHeap$Heap", "areUrns", "([I)Z"⟩
abbrev cX2_hasBlackToWhite : ByteArray := prog_4_method_19_code
def yX2_hasBlackToWhite : MethodName := ⟨"UrnHeap$Heap", "hasBlackToWhite", "()Z"⟩
def RX3 : String := "UrnHeap$History"
def TX3 : u_T := fun k => match k with
  | 0 => ("UrnHeap$History", "now", "LUrnHeap$Heap;", true)
  | 1 => ("UrnHeap$History", "past", "[LUrnHeap$Heap;", true)
  | 2 => ("UrnHeap$History", "saved", "LUrnHeap$Heap;", true)
  | 3 => ("UrnHeap$History", "isSaved", "Z", false)
  | 4 => ("UrnHeap$History", "next", "I", false)
  | _ => ("UrnHeap$History", "changes", "I", false)
def tyX3 : Nat → FieldType := fun k => match k with
  | 0 => .object "UrnHeap$Heap"
  | 1 => .array (.object "UrnHeap$Heap")
  | 2 => .object "UrnHeap$Heap"
  | 3 => .boolean
  | 4 => .int
  | _ => .int
abbrev wsX30 : List Cond := u_ws "UrnHeap$History" TX3 6
theorem nmX3 : ∀ a, a < 6 → ∀ b, b < 6 → a ≠ b → (TX3 a).2.1 ≠ (TX3 b).2.1 := by decide +kernel
theorem tyX3_ok : ∀ k, k < 6 → parseFieldDescriptor (TX3 k).2.2.1 = some (tyX3 k) := by decide +kernel
abbrev cX3_init : ByteArray := prog_5_method_1_code
def yX3_init : MethodName := ⟨"UrnHeap$History", "<init>", "(LUrnHeap$Heap;)V"⟩
abbrev cX3_isRefusal : ByteArray := prog_5_method_2_code
def yX3_isRefusal : MethodName := ⟨"UrnHeap$History", "isRefusal", "(I)Z"⟩
abbrev cX3_keepBefore : ByteArray := prog_5_method_3_code
def yX3_keepBefore : MethodName := ⟨"UrnHeap$History", "keepBefore", "()V"⟩
abbrev cX3_takeBack : ByteArray := prog_5_method_4_code
def yX3_takeBack : MethodName := ⟨"UrnHeap$History", "takeBack", "()V"⟩
abbrev cX3_settle : ByteArray := prog_5_method_5_code
def yX3_settle : MethodName := ⟨"UrnHeap$History", "settle", "(I)I"⟩
abbrev cX3_undoLatest : ByteArray := prog_5_method_6_code
def yX3_undoLatest : MethodName := ⟨"UrnHeap$History", "undoLatest", "()I"⟩
abbrev cX3_saveNow : ByteArray := prog_5_method_7_code
def yX3_saveNow : MethodName := ⟨"UrnHeap$History", "saveNow", "()I"⟩
abbrev cX3_restoreSaved : ByteArray := prog_5_method_8_code
def yX3_restoreSaved : MethodName := ⟨"UrnHeap$History", "restoreSaved", "()I"⟩
def RX4 : String := "UrnHeap$Kind"
def TX4 : u_T := fun k => match k with
  | _ => ("", "", "", false)
def tyX4 : Nat → FieldType := fun k => match k with
  | _ => .int
abbrev wsX40 : List Cond := u_ws "UrnHeap$Kind" TX4 0
theorem nmX4 : ∀ a, a < 0 → ∀ b, b < 0 → a ≠ b → (TX4 a).2.1 ≠ (TX4 b).2.1 := by decide +kernel
theorem tyX4_ok : ∀ k, k < 0 → parseFieldDescriptor (TX4 k).2.2.1 = some (tyX4 k) := by decide +kernel
def RX5 : String := "UrnHeap$Line"
def TX5 : u_T := fun k => match k with
  | _ => ("UrnHeap$Line", "signs", "Ljava/lang/StringBuilder;", true)
def tyX5 : Nat → FieldType := fun k => match k with
  | _ => .object "java/lang/StringBuilder"
abbrev wsX50 : List Cond := u_ws "UrnHeap$Line" TX5 1
theorem nmX5 : ∀ a, a < 1 → ∀ b, b < 1 → a ≠ b → (TX5 a).2.1 ≠ (TX5 b).2.1 := by decide +kernel
theorem tyX5_ok : ∀ k, k < 1 → parseFieldDescriptor (TX5 k).2.2.1 = some (tyX5 k) := by decide +kernel
abbrev cX5_init : ByteArray := prog_7_method_1_code
def yX5_init : MethodName := ⟨"UrnHeap$Line", "<init>", "()V"⟩
abbrev cX5_writeUrn : ByteArray := prog_7_method_2_code
def yX5_writeUrn : MethodName := ⟨"UrnHeap$Line", "writeUrn", "(LUrnHeap$Heap;I)I"⟩
abbrev cX5_writeHeap : ByteArray := prog_7_method_3_code
def yX5_writeHeap : MethodName := ⟨"UrnHeap$Line", "writeHeap", "(LUrnHeap$Heap;)I"⟩
abbrev cX5_signAt : ByteArray := prog_7_method_4_code
def yX5_signAt : MethodName := ⟨"UrnHeap$Line", "signAt", "(I)I"⟩
abbrev cX5_writeRite : ByteArray := prog_7_method_5_code
def yX5_writeRite : MethodName := ⟨"UrnHeap$Line", "writeRite", "(LUrnHeap$Heap;I)V"⟩
abbrev cX5_writeTarget : ByteArray := prog_7_method_6_code
def yX5_writeTarget : MethodName := ⟨"UrnHeap$Line", "writeTarget", "(I)V"⟩
abbrev cX5_letterOf : ByteArray := prog_7_method_7_code
def yX5_letterOf : MethodName := ⟨"UrnHeap$Line", "letterOf", "(I)C"⟩
def RX6 : String := "UrnHeap$Orders"
def TX6 : u_T := fun k => match k with
  | 0 => ("UrnHeap$Orders", "text", "Ljava/lang/StringBuilder;", true)
  | 1 => ("UrnHeap$Orders", "kinds", "[LUrnHeap$Kind;", true)
  | 2 => ("UrnHeap$Orders", "firsts", "[I", true)
  | 3 => ("UrnHeap$Orders", "seconds", "[I", true)
  | 4 => ("UrnHeap$Orders", "thirds", "[I", true)
  | 5 => ("UrnHeap$Orders", "count", "I", false)
  | 6 => ("UrnHeap$Orders", "numbers", "[I", true)
  | _ => ("UrnHeap$Orders", "at", "I", false)
def tyX6 : Nat → FieldType := fun k => match k with
  | 0 => .object "java/lang/StringBuilder"
  | 1 => .array (.object "UrnHeap$Kind")
  | 2 => .array .int
  | 3 => .array .int
  | 4 => .array .int
  | 5 => .int
  | 6 => .array .int
  | _ => .int
abbrev wsX60 : List Cond := u_ws "UrnHeap$Orders" TX6 8
theorem nmX6 : ∀ a, a < 8 → ∀ b, b < 8 → a ≠ b → (TX6 a).2.1 ≠ (TX6 b).2.1 := by decide +kernel
theorem tyX6_ok : ∀ k, k < 8 → parseFieldDescriptor (TX6 k).2.2.1 = some (tyX6 k) := by decide +kernel
abbrev cX6_init : ByteArray := prog_8_method_1_code
def yX6_init : MethodName := ⟨"UrnHeap$Orders", "<init>", "()V"⟩
abbrev cX6_addSign : ByteArray := prog_8_method_2_code
def yX6_addSign : MethodName := ⟨"UrnHeap$Orders", "addSign", "(I)I"⟩
abbrev cX6_signs : ByteArray := prog_8_method_3_code
def yX6_signs : MethodName := ⟨"UrnHeap$Orders", "signs", "()I"⟩
abbrev cX6_clearText : ByteArray := prog_8_method_4_code
def yX6_clearText : MethodName := ⟨"UrnHeap$Orders", "clearText", "()V"⟩
abbrev cX6_has : ByteArray := prog_8_method_5_code
def yX6_has : MethodName := ⟨"UrnHeap$Orders", "has", "(I)Z"⟩
abbrev cX6_read : ByteArray := prog_8_method_6_code
def yX6_read : MethodName := ⟨"UrnHeap$Orders", "read", "()I"⟩
abbrev cX6_readOrder : ByteArray := prog_8_method_7_code
def yX6_readOrder : MethodName := ⟨"UrnHeap$Orders", "readOrder", "(I)I"⟩
abbrev cX6_fits : ByteArray := prog_8_method_8_code
def yX6_fits : MethodName := ⟨"UrnHeap$Orders", "fits", "(Ljava/lang/String;)Z"⟩
abbrev cX6_isOrderEnd : ByteArray := prog_8_method_9_code
def yX6_isOrderEnd : MethodName := ⟨"UrnHeap$Orders", "isOrderEnd", "()Z"⟩
abbrev cX6_keep : ByteArray := prog_8_method_10_code
def yX6_keep : MethodName := ⟨"UrnHeap$Orders", "keep", "(LUrnHeap$Kind;)V"⟩
abbrev cX6_isForNumber : ByteArray := prog_8_method_11_code
def yX6_isForNumber : MethodName := ⟨"UrnHeap$Orders", "isForNumber", "(C)Z"⟩
abbrev cX6_readSign : ByteArray := prog_8_method_12_code
def yX6_readSign : MethodName := ⟨"UrnHeap$Orders", "readSign", "(C)I"⟩
abbrev cX6_valueAt : ByteArray := prog_8_method_13_code
def yX6_valueAt : MethodName := ⟨"UrnHeap$Orders", "valueAt", "(IC)I"⟩
def RX7 : String := "UrnHeap$Paths"
def TX7 : u_T := fun k => match k with
  | 0 => ("UrnHeap$Paths", "heap", "LUrnHeap$Heap;", true)
  | _ => ("UrnHeap$Paths", "weights", "[I", true)
def tyX7 : Nat → FieldType := fun k => match k with
  | 0 => .object "UrnHeap$Heap"
  | _ => .array .int
abbrev wsX70 : List Cond := u_ws "UrnHeap$Paths" TX7 2
theorem nmX7 : ∀ a, a < 2 → ∀ b, b < 2 → a ≠ b → (TX7 a).2.1 ≠ (TX7 b).2.1 := by decide +kernel
theorem tyX7_ok : ∀ k, k < 2 → parseFieldDescriptor (TX7 k).2.2.1 = some (tyX7 k) := by decide +kernel
abbrev cX7_init : ByteArray := prog_9_method_1_code
def yX7_init : MethodName := ⟨"UrnHeap$Paths", "<init>", "(LUrnHeap$Heap;)V"⟩
abbrev cX7_reach : ByteArray := prog_9_method_2_code
def yX7_reach : MethodName := ⟨"UrnHeap$Paths", "reach", "()I"⟩
abbrev cX7_roots : ByteArray := prog_9_method_3_code
def yX7_roots : MethodName := ⟨"UrnHeap$Paths", "roots", "(I)I"⟩
abbrev cX7_reachUrnByUrn : ByteArray := prog_9_method_4_code
def yX7_reachUrnByUrn : MethodName := ⟨"UrnHeap$Paths", "reachUrnByUrn", "()I"⟩
abbrev cX7_distance : ByteArray := prog_9_method_5_code
def yX7_distance : MethodName := ⟨"UrnHeap$Paths", "distance", "(II)I"⟩
abbrev cX7_neededNames : ByteArray := prog_9_method_6_code
def yX7_neededNames : MethodName := ⟨"UrnHeap$Paths", "neededNames", "(I)I"⟩
abbrev cX7_ringLength : ByteArray := prog_9_method_7_code
def yX7_ringLength : MethodName := ⟨"UrnHeap$Paths", "ringLength", "(I)I"⟩
abbrev cX7_leftOver : ByteArray := prog_9_method_8_code
def yX7_leftOver : MethodName := ⟨"UrnHeap$Paths", "leftOver", "()I"⟩
abbrev cX7_urnAtRank : ByteArray := prog_9_method_9_code
def yX7_urnAtRank : MethodName := ⟨"UrnHeap$Paths", "urnAtRank", "(I)I"⟩
abbrev cX7_weighAll : ByteArray := prog_9_method_10_code
def yX7_weighAll : MethodName := ⟨"UrnHeap$Paths", "weighAll", "()V"⟩
abbrev cX7_heavierThan : ByteArray := prog_9_method_11_code
def yX7_heavierThan : MethodName := ⟨"UrnHeap$Paths", "heavierThan", "(I)I"⟩
abbrev cX7_rootsByRite : ByteArray := prog_9_method_12_code
def yX7_rootsByRite : MethodName := ⟨"UrnHeap$Paths", "rootsByRite", "(I)I"⟩
abbrev cX7_reachFrom : ByteArray := prog_9_method_13_code
def yX7_reachFrom : MethodName := ⟨"UrnHeap$Paths", "reachFrom", "(I)I"⟩
abbrev cX7_targetsOfAll : ByteArray := prog_9_method_14_code
def yX7_targetsOfAll : MethodName := ⟨"UrnHeap$Paths", "targetsOfAll", "(I)I"⟩
abbrev cX7_targets : ByteArray := prog_9_method_15_code
def yX7_targets : MethodName := ⟨"UrnHeap$Paths", "targets", "(I)I"⟩
abbrev cX7_isHeldBySome : ByteArray := prog_9_method_16_code
def yX7_isHeldBySome : MethodName := ⟨"UrnHeap$Paths", "isHeldBySome", "(II)Z"⟩
abbrev cX7_bit : ByteArray := prog_9_method_17_code
def yX7_bit : MethodName := ⟨"UrnHeap$Paths", "bit", "(I)I"⟩
abbrev cX7_isIn : ByteArray := prog_9_method_18_code
def yX7_isIn : MethodName := ⟨"UrnHeap$Paths", "isIn", "(II)Z"⟩
def RX8 : String := "UrnHeap$Refusals"
def TX8 : u_T := fun k => match k with
  | 0 => ("UrnHeap$Refusals", "reason", "I", false)
  | _ => ("UrnHeap$Refusals", "detail", "I", false)
def tyX8 : Nat → FieldType := fun k => match k with
  | 0 => .int
  | _ => .int
abbrev wsX80 : List Cond := u_ws "UrnHeap$Refusals" TX8 2
theorem nmX8 : ∀ a, a < 2 → ∀ b, b < 2 → a ≠ b → (TX8 a).2.1 ≠ (TX8 b).2.1 := by decide +kernel
theorem tyX8_ok : ∀ k, k < 2 → parseFieldDescriptor (TX8 k).2.2.1 = some (tyX8 k) := by decide +kernel
abbrev cX8_init : ByteArray := prog_10_method_1_code
def yX8_init : MethodName := ⟨"UrnHeap$Refusals", "<init>", "()V"⟩
abbrev cX8_refuse : ByteArray := prog_10_method_2_code
def yX8_refuse : MethodName := ⟨"UrnHeap$Refusals", "refuse", "(II)I"⟩
def RX9 : String := "UrnHeap$Row"
def TX9 : u_T := fun k => match k with
  | 0 => ("UrnHeap$Row", "urns", "[I", true)
  | _ => ("UrnHeap$Row", "size", "I", false)
def tyX9 : Nat → FieldType := fun k => match k with
  | 0 => .array .int
  | _ => .int
abbrev wsX90 : List Cond := u_ws "UrnHeap$Row" TX9 2
theorem nmX9 : ∀ a, a < 2 → ∀ b, b < 2 → a ≠ b → (TX9 a).2.1 ≠ (TX9 b).2.1 := by decide +kernel
theorem tyX9_ok : ∀ k, k < 2 → parseFieldDescriptor (TX9 k).2.2.1 = some (tyX9 k) := by decide +kernel
abbrev cX9_init : ByteArray := prog_11_method_1_code
def yX9_init : MethodName := ⟨"UrnHeap$Row", "<init>", "()V"⟩
abbrev cX9_addLast : ByteArray := prog_11_method_2_code
def yX9_addLast : MethodName := ⟨"UrnHeap$Row", "addLast", "(I)V"⟩
abbrev cX9_takeFirst : ByteArray := prog_11_method_3_code
def yX9_takeFirst : MethodName := ⟨"UrnHeap$Row", "takeFirst", "()I"⟩
abbrev cX9_at : ByteArray := prog_11_method_4_code
def yX9_at : MethodName := ⟨"UrnHeap$Row", "at", "(I)I"⟩
abbrev cX9_copyFrom : ByteArray := prog_11_method_5_code
def yX9_copyFrom : MethodName := ⟨"UrnHeap$Row", "copyFrom", "(LUrnHeap$Row;)V"⟩
def RX10 : String := "UrnHeap$Sexton"
def TX10 : u_T := fun k => match k with
  | 0 => ("UrnHeap$Sexton", "heap", "LUrnHeap$Heap;", true)
  | _ => ("UrnHeap$Sexton", "refusals", "LUrnHeap$Refusals;", true)
def tyX10 : Nat → FieldType := fun k => match k with
  | 0 => .object "UrnHeap$Heap"
  | _ => .object "UrnHeap$Refusals"
abbrev wsX100 : List Cond := u_ws "UrnHeap$Sexton" TX10 2
theorem nmX10 : ∀ a, a < 2 → ∀ b, b < 2 → a ≠ b → (TX10 a).2.1 ≠ (TX10 b).2.1 := by decide +kernel
theorem tyX10_ok : ∀ k, k < 2 → parseFieldDescriptor (TX10 k).2.2.1 = some (tyX10 k) := by decide +kernel
abbrev cX10_init : ByteArray := prog_12_method_1_code
def yX10_init : MethodName := ⟨"UrnHeap$Sexton", "<init>", "(LUrnHeap$Heap;LUrnHeap$Refusals;)V"⟩
abbrev cX10_beginRound : ByteArray := prog_12_method_2_code
def yX10_beginRound : MethodName := ⟨"UrnHeap$Sexton", "beginRound", "()I"⟩
abbrev cX10_doParts : ByteArray := prog_12_method_3_code
def yX10_doParts : MethodName := ⟨"UrnHeap$Sexton", "doParts", "(I)I"⟩
abbrev cX10_endRound : ByteArray := prog_12_method_4_code
def yX10_endRound : MethodName := ⟨"UrnHeap$Sexton", "endRound", "()I"⟩
abbrev cX10_doRite : ByteArray := prog_12_method_5_code
def yX10_doRite : MethodName := ⟨"UrnHeap$Sexton", "doRite", "()I"⟩
abbrev cX10_markRoots : ByteArray := prog_12_method_6_code
def yX10_markRoots : MethodName := ⟨"UrnHeap$Sexton", "markRoots", "()V"⟩
abbrev cX10_doPartsUntilOver : ByteArray := prog_12_method_7_code
def yX10_doPartsUntilOver : MethodName := ⟨"UrnHeap$Sexton", "doPartsUntilOver", "(I)I"⟩
abbrev cX10_blackenFirst : ByteArray := prog_12_method_8_code
def yX10_blackenFirst : MethodName := ⟨"UrnHeap$Sexton", "blackenFirst", "()V"⟩
abbrev cX10_makeRitesDue : ByteArray := prog_12_method_9_code
def yX10_makeRitesDue : MethodName := ⟨"UrnHeap$Sexton", "makeRitesDue", "()Z"⟩
abbrev cX10_beginSweep : ByteArray := prog_12_method_10_code
def yX10_beginSweep : MethodName := ⟨"UrnHeap$Sexton", "beginSweep", "()V"⟩
abbrev cX10_sweepNext : ByteArray := prog_12_method_11_code
def yX10_sweepNext : MethodName := ⟨"UrnHeap$Sexton", "sweepNext", "()V"⟩
def RX11 : String := "UrnHeap"
def TX11 : u_T := fun k => match k with
  | 0 => ("UrnHeap", "heap", "LUrnHeap$Heap;", true)
  | 1 => ("UrnHeap", "refusals", "LUrnHeap$Refusals;", true)
  | 2 => ("UrnHeap", "hands", "LUrnHeap$Hands;", true)
  | 3 => ("UrnHeap", "sexton", "LUrnHeap$Sexton;", true)
  | 4 => ("UrnHeap", "paths", "LUrnHeap$Paths;", true)
  | 5 => ("UrnHeap", "history", "LUrnHeap$History;", true)
  | 6 => ("UrnHeap", "orders", "LUrnHeap$Orders;", true)
  | _ => ("UrnHeap", "line", "LUrnHeap$Line;", true)
def tyX11 : Nat → FieldType := fun k => match k with
  | 0 => .object "UrnHeap$Heap"
  | 1 => .object "UrnHeap$Refusals"
  | 2 => .object "UrnHeap$Hands"
  | 3 => .object "UrnHeap$Sexton"
  | 4 => .object "UrnHeap$Paths"
  | 5 => .object "UrnHeap$History"
  | 6 => .object "UrnHeap$Orders"
  | _ => .object "UrnHeap$Line"
abbrev wsX110 : List Cond := u_ws "UrnHeap" TX11 8
theorem nmX11 : ∀ a, a < 8 → ∀ b, b < 8 → a ≠ b → (TX11 a).2.1 ≠ (TX11 b).2.1 := by decide +kernel
theorem tyX11_ok : ∀ k, k < 8 → parseFieldDescriptor (TX11 k).2.2.1 = some (tyX11 k) := by decide +kernel
abbrev cX11_init : ByteArray := prog_1_method_1_code
def yX11_init : MethodName := ⟨"UrnHeap", "<init>", "()V"⟩
abbrev cX11_urn : ByteArray := prog_1_method_2_code
def yX11_urn : MethodName := ⟨"UrnHeap", "urn", "(Z)I"⟩
abbrev cX11_tie : ByteArray := prog_1_method_3_code
def yX11_tie : MethodName := ⟨"UrnHeap", "tie", "(III)I"⟩
abbrev cX11_untie : ByteArray := prog_1_method_4_code
def yX11_untie : MethodName := ⟨"UrnHeap", "untie", "(II)I"⟩
abbrev cX11_weak : ByteArray := prog_1_method_5_code
def yX11_weak : MethodName := ⟨"UrnHeap", "weak", "(II)I"⟩
abbrev cX11_unweak : ByteArray := prog_1_method_6_code
def yX11_unweak : MethodName := ⟨"UrnHeap", "unweak", "(I)I"⟩
abbrev cX11_name : ByteArray := prog_1_method_7_code
def yX11_name : MethodName := ⟨"UrnHeap", "name", "(II)I"⟩
abbrev cX11_drop : ByteArray := prog_1_method_8_code
def yX11_drop : MethodName := ⟨"UrnHeap", "drop", "(I)I"⟩
abbrev cX11_urnOf : ByteArray := prog_1_method_9_code
def yX11_urnOf : MethodName := ⟨"UrnHeap", "urnOf", "(II)I"⟩
abbrev cX11_threadOf : ByteArray := prog_1_method_10_code
def yX11_threadOf : MethodName := ⟨"UrnHeap", "threadOf", "(II)I"⟩
abbrev cX11_named : ByteArray := prog_1_method_11_code
def yX11_named : MethodName := ⟨"UrnHeap", "named", "(I)I"⟩
abbrev cX11_begin : ByteArray := prog_1_method_12_code
def yX11_begin : MethodName := ⟨"UrnHeap", "begin", "()I"⟩
abbrev cX11_step : ByteArray := prog_1_method_13_code
def yX11_step : MethodName := ⟨"UrnHeap", "step", "(I)I"⟩
abbrev cX11_round : ByteArray := prog_1_method_14_code
def yX11_round : MethodName := ⟨"UrnHeap", "round", "()I"⟩
abbrev cX11_rite : ByteArray := prog_1_method_15_code
def yX11_rite : MethodName := ⟨"UrnHeap", "rite", "()I"⟩
abbrev cX11_due : ByteArray := prog_1_method_16_code
def yX11_due : MethodName := ⟨"UrnHeap", "due", "(I)I"⟩
abbrev cX11_grey : ByteArray := prog_1_method_17_code
def yX11_grey : MethodName := ⟨"UrnHeap", "grey", "(I)I"⟩
abbrev cX11_freed : ByteArray := prog_1_method_18_code
def yX11_freed : MethodName := ⟨"UrnHeap", "freed", "(I)I"⟩
abbrev cX11_live : ByteArray := prog_1_method_19_code
def yX11_live : MethodName := ⟨"UrnHeap", "live", "()I"⟩
abbrev cX11_liveAgain : ByteArray := prog_1_method_20_code
def yX11_liveAgain : MethodName := ⟨"UrnHeap", "liveAgain", "()I"⟩
abbrev cX11_depth : ByteArray := prog_1_method_21_code
def yX11_depth : MethodName := ⟨"UrnHeap", "depth", "(I)I"⟩
abbrev cX11_keepers : ByteArray := prog_1_method_22_code
def yX11_keepers : MethodName := ⟨"UrnHeap", "keepers", "(I)I"⟩
abbrev cX11_ring : ByteArray := prog_1_method_23_code
def yX11_ring : MethodName := ⟨"UrnHeap", "ring", "(I)I"⟩
abbrev cX11_wouldFree : ByteArray := prog_1_method_24_code
def yX11_wouldFree : MethodName := ⟨"UrnHeap", "wouldFree", "()I"⟩
abbrev cX11_ranked : ByteArray := prog_1_method_25_code
def yX11_ranked : MethodName := ⟨"UrnHeap", "ranked", "(I)I"⟩
abbrev cX11_append : ByteArray := prog_1_method_26_code
def yX11_append : MethodName := ⟨"UrnHeap", "append", "(I)I"⟩
abbrev cX11_run : ByteArray := prog_1_method_27_code
def yX11_run : MethodName := ⟨"UrnHeap", "run", "()I"⟩
abbrev cX11_tell : ByteArray := prog_1_method_28_code
def yX11_tell : MethodName := ⟨"UrnHeap", "tell", "(I)I"⟩
abbrev cX11_tellHeap : ByteArray := prog_1_method_29_code
def yX11_tellHeap : MethodName := ⟨"UrnHeap", "tellHeap", "()I"⟩
abbrev cX11_character : ByteArray := prog_1_method_30_code
def yX11_character : MethodName := ⟨"UrnHeap", "character", "(I)I"⟩
abbrev cX11_reason : ByteArray := prog_1_method_31_code
def yX11_reason : MethodName := ⟨"UrnHeap", "reason", "(Z)I"⟩
abbrev cX11_account : ByteArray := prog_1_method_32_code
def yX11_account : MethodName := ⟨"UrnHeap", "account", "(I)I"⟩
abbrev cX11_isBalanced : ByteArray := prog_1_method_33_code
def yX11_isBalanced : MethodName := ⟨"UrnHeap", "isBalanced", "()I"⟩
abbrev cX11_meanHeld : ByteArray := prog_1_method_34_code
def yX11_meanHeld : MethodName := ⟨"UrnHeap", "meanHeld", "()D"⟩
abbrev cX11_liveShare : ByteArray := prog_1_method_35_code
def yX11_liveShare : MethodName := ⟨"UrnHeap", "liveShare", "()F"⟩
abbrev cX11_undo : ByteArray := prog_1_method_36_code
def yX11_undo : MethodName := ⟨"UrnHeap", "undo", "()I"⟩
abbrev cX11_save : ByteArray := prog_1_method_37_code
def yX11_save : MethodName := ⟨"UrnHeap", "save", "()I"⟩
abbrev cX11_restore : ByteArray := prog_1_method_38_code
def yX11_restore : MethodName := ⟨"UrnHeap", "restore", "()I"⟩
abbrev cX11_carryOut : ByteArray := prog_1_method_39_code
def yX11_carryOut : MethodName := ⟨"UrnHeap", "carryOut", "(I)I"⟩
abbrev cX11_isCell : ByteArray := prog_1_method_40_code
def yX11_isCell : MethodName := ⟨"UrnHeap", "isCell", "(I)Z"⟩
abbrev cX11_isSlot : ByteArray := prog_1_method_41_code
def yX11_isSlot : MethodName := ⟨"UrnHeap", "isSlot", "(I)Z"⟩
abbrev cX11_isName : ByteArray := prog_1_method_42_code
def yX11_isName : MethodName := ⟨"UrnHeap", "isName", "(I)Z"⟩
def RX12 : String := "UrnHeapModel"
def TX12 : u_T := fun k => match k with
  | 0 => ("UrnHeapModel", "s", "[I", true)
  | 1 => ("UrnHeapModel", "frame", "[I", true)
  | 2 => ("UrnHeapModel", "saved", "[I", true)
  | 3 => ("UrnHeapModel", "history", "[I", true)
  | 4 => ("UrnHeapModel", "kept", "I", false)
  | 5 => ("UrnHeapModel", "hasSaved", "Z", false)
  | 6 => ("UrnHeapModel", "text", "[I", true)
  | 7 => ("UrnHeapModel", "told", "[I", true)
  | 8 => ("UrnHeapModel", "line", "[I", true)
  | 9 => ("UrnHeapModel", "far", "[I", true)
  | 10 => ("UrnHeapModel", "length", "I", false)
  | 11 => ("UrnHeapModel", "lineLength", "I", false)
  | 12 => ("UrnHeapModel", "why", "I", false)
  | 13 => ("UrnHeapModel", "detail", "I", false)
  | 14 => ("UrnHeapModel", "about", "I", false)
  | 15 => ("UrnHeapModel", "answer", "I", false)
  | 16 => ("UrnHeapModel", "spot", "I", false)
  | 17 => ("UrnHeapModel", "end", "I", false)
  | 18 => ("UrnHeapModel", "orders", "I", false)
  | _ => ("UrnHeapModel", "isWrong", "Z", false)
def tyX12 : Nat → FieldType := fun k => match k with
  | 0 => .array .int
  | 1 => .array .int
  | 2 => .array .int
  | 3 => .array .int
  | 4 => .int
  | 5 => .boolean
  | 6 => .array .int
  | 7 => .array .int
  | 8 => .array .int
  | 9 => .array .int
  | 10 => .int
  | 11 => .int
  | 12 => .int
  | 13 => .int
  | 14 => .int
  | 15 => .int
  | 16 => .int
  | 17 => .int
  | 18 => .int
  | _ => .boolean
abbrev wsX120 : List Cond := u_ws "UrnHeapModel" TX12 20
theorem nmX12 : ∀ a, a < 20 → ∀ b, b < 20 → a ≠ b → (TX12 a).2.1 ≠ (TX12 b).2.1 := by decide +kernel
theorem tyX12_ok : ∀ k, k < 20 → parseFieldDescriptor (TX12 k).2.2.1 = some (tyX12 k) := by decide +kernel
abbrev cX12_init : ByteArray := prog_14_method_1_code
def yX12_init : MethodName := ⟨"UrnHeapModel", "<init>", "()V"⟩
abbrev cX12_in : ByteArray := prog_14_method_2_code
def yX12_in : MethodName := ⟨"UrnHeapModel", "in", "(III)Z"⟩
abbrev cX12_remembers : ByteArray := prog_14_method_3_code
def yX12_remembers : MethodName := ⟨"UrnHeapModel", "remembers", "()V"⟩
abbrev cX12_changed : ByteArray := prog_14_method_4_code
def yX12_changed : MethodName := ⟨"UrnHeapModel", "changed", "(I)I"⟩
abbrev cX12_refused : ByteArray := prog_14_method_5_code
def yX12_refused : MethodName := ⟨"UrnHeapModel", "refused", "(II)I"⟩
abbrev cX12_done : ByteArray := prog_14_method_6_code
def yX12_done : MethodName := ⟨"UrnHeapModel", "done", "(I)I"⟩
abbrev cX12_ends : ByteArray := prog_14_method_7_code
def yX12_ends : MethodName := ⟨"UrnHeapModel", "ends", "(I)I"⟩
abbrev cX12_isUrn : ByteArray := prog_14_method_8_code
def yX12_isUrn : MethodName := ⟨"UrnHeapModel", "isUrn", "(I)Z"⟩
abbrev cX12_at : ByteArray := prog_14_method_9_code
def yX12_at : MethodName := ⟨"UrnHeapModel", "at", "(II)I"⟩
abbrev cX12_empties : ByteArray := prog_14_method_10_code
def yX12_empties : MethodName := ⟨"UrnHeapModel", "empties", "(I)V"⟩
abbrev cX12_isDoomed : ByteArray := prog_14_method_11_code
def yX12_isDoomed : MethodName := ⟨"UrnHeapModel", "isDoomed", "(I)Z"⟩
abbrev cX12_greys : ByteArray := prog_14_method_12_code
def yX12_greys : MethodName := ⟨"UrnHeapModel", "greys", "(I)V"⟩
abbrev cX12_greysIfWhite : ByteArray := prog_14_method_13_code
def yX12_greysIfWhite : MethodName := ⟨"UrnHeapModel", "greysIfWhite", "(I)V"⟩
abbrev cX12_beginsRound : ByteArray := prog_14_method_14_code
def yX12_beginsRound : MethodName := ⟨"UrnHeapModel", "beginsRound", "()I"⟩
abbrev cX12_blackens : ByteArray := prog_14_method_15_code
def yX12_blackens : MethodName := ⟨"UrnHeapModel", "blackens", "()V"⟩
abbrev cX12_becomeDue : ByteArray := prog_14_method_16_code
def yX12_becomeDue : MethodName := ⟨"UrnHeapModel", "becomeDue", "()Z"⟩
abbrev cX12_cutsWeak : ByteArray := prog_14_method_17_code
def yX12_cutsWeak : MethodName := ⟨"UrnHeapModel", "cutsWeak", "()V"⟩
abbrev cX12_frees : ByteArray := prog_14_method_18_code
def yX12_frees : MethodName := ⟨"UrnHeapModel", "frees", "(I)V"⟩
abbrev cX12_sweeps : ByteArray := prog_14_method_19_code
def yX12_sweeps : MethodName := ⟨"UrnHeapModel", "sweeps", "()V"⟩
abbrev cX12_part : ByteArray := prog_14_method_20_code
def yX12_part : MethodName := ⟨"UrnHeapModel", "part", "()V"⟩
abbrev cX12_partsOn : ByteArray := prog_14_method_21_code
def yX12_partsOn : MethodName := ⟨"UrnHeapModel", "partsOn", "(I)I"⟩
abbrev cX12_makes : ByteArray := prog_14_method_22_code
def yX12_makes : MethodName := ⟨"UrnHeapModel", "makes", "(Z)I"⟩
abbrev cX12_ties : ByteArray := prog_14_method_23_code
def yX12_ties : MethodName := ⟨"UrnHeapModel", "ties", "(III)I"⟩
abbrev cX12_unties : ByteArray := prog_14_method_24_code
def yX12_unties : MethodName := ⟨"UrnHeapModel", "unties", "(II)I"⟩
abbrev cX12_weakens : ByteArray := prog_14_method_25_code
def yX12_weakens : MethodName := ⟨"UrnHeapModel", "weakens", "(II)I"⟩
abbrev cX12_names : ByteArray := prog_14_method_26_code
def yX12_names : MethodName := ⟨"UrnHeapModel", "names", "(II)I"⟩
abbrev cX12_drops : ByteArray := prog_14_method_27_code
def yX12_drops : MethodName := ⟨"UrnHeapModel", "drops", "(I)I"⟩
abbrev cX12_stepsOn : ByteArray := prog_14_method_28_code
def yX12_stepsOn : MethodName := ⟨"UrnHeapModel", "stepsOn", "(I)I"⟩
abbrev cX12_wholeRound : ByteArray := prog_14_method_29_code
def yX12_wholeRound : MethodName := ⟨"UrnHeapModel", "wholeRound", "()I"⟩
abbrev cX12_doesRite : ByteArray := prog_14_method_30_code
def yX12_doesRite : MethodName := ⟨"UrnHeapModel", "doesRite", "()I"⟩
abbrev cX12_urn : ByteArray := prog_14_method_31_code
def yX12_urn : MethodName := ⟨"UrnHeapModel", "urn", "(Z)I"⟩
abbrev cX12_tie : ByteArray := prog_14_method_32_code
def yX12_tie : MethodName := ⟨"UrnHeapModel", "tie", "(III)I"⟩
abbrev cX12_untie : ByteArray := prog_14_method_33_code
def yX12_untie : MethodName := ⟨"UrnHeapModel", "untie", "(II)I"⟩
abbrev cX12_weak : ByteArray := prog_14_method_34_code
def yX12_weak : MethodName := ⟨"UrnHeapModel", "weak", "(II)I"⟩
abbrev cX12_unweak : ByteArray := prog_14_method_35_code
def yX12_unweak : MethodName := ⟨"UrnHeapModel", "unweak", "(I)I"⟩
abbrev cX12_name : ByteArray := prog_14_method_36_code
def yX12_name : MethodName := ⟨"UrnHeapModel", "name", "(II)I"⟩
abbrev cX12_drop : ByteArray := prog_14_method_37_code
def yX12_drop : MethodName := ⟨"UrnHeapModel", "drop", "(I)I"⟩
abbrev cX12_holds : ByteArray := prog_14_method_38_code
def yX12_holds : MethodName := ⟨"UrnHeapModel", "holds", "(I)I"⟩
abbrev cX12_held : ByteArray := prog_14_method_39_code
def yX12_held : MethodName := ⟨"UrnHeapModel", "held", "(I)I"⟩
abbrev cX12_urnOf : ByteArray := prog_14_method_40_code
def yX12_urnOf : MethodName := ⟨"UrnHeapModel", "urnOf", "(II)I"⟩
abbrev cX12_threadOf : ByteArray := prog_14_method_41_code
def yX12_threadOf : MethodName := ⟨"UrnHeapModel", "threadOf", "(II)I"⟩
abbrev cX12_named : ByteArray := prog_14_method_42_code
def yX12_named : MethodName := ⟨"UrnHeapModel", "named", "(I)I"⟩
abbrev cX12_begin : ByteArray := prog_14_method_43_code
def yX12_begin : MethodName := ⟨"UrnHeapModel", "begin", "()I"⟩
abbrev cX12_step : ByteArray := prog_14_method_44_code
def yX12_step : MethodName := ⟨"UrnHeapModel", "step", "(I)I"⟩
abbrev cX12_round : ByteArray := prog_14_method_45_code
def yX12_round : MethodName := ⟨"UrnHeapModel", "round", "()I"⟩
abbrev cX12_rite : ByteArray := prog_14_method_46_code
def yX12_rite : MethodName := ⟨"UrnHeapModel", "rite", "()I"⟩
abbrev cX12_due : ByteArray := prog_14_method_47_code
def yX12_due : MethodName := ⟨"UrnHeapModel", "due", "(I)I"⟩
abbrev cX12_grey : ByteArray := prog_14_method_48_code
def yX12_grey : MethodName := ⟨"UrnHeapModel", "grey", "(I)I"⟩
abbrev cX12_freed : ByteArray := prog_14_method_49_code
def yX12_freed : MethodName := ⟨"UrnHeapModel", "freed", "(I)I"⟩
abbrev cX12_nears : ByteArray := prog_14_method_50_code
def yX12_nears : MethodName := ⟨"UrnHeapModel", "nears", "(II)V"⟩
abbrev cX12_measures : ByteArray := prog_14_method_51_code
def yX12_measures : MethodName := ⟨"UrnHeapModel", "measures", "(IZ)V"⟩
abbrev cX12_reached : ByteArray := prog_14_method_52_code
def yX12_reached : MethodName := ⟨"UrnHeapModel", "reached", "()I"⟩
abbrev cX12_live : ByteArray := prog_14_method_53_code
def yX12_live : MethodName := ⟨"UrnHeapModel", "live", "()I"⟩
abbrev cX12_liveAgain : ByteArray := prog_14_method_54_code
def yX12_liveAgain : MethodName := ⟨"UrnHeapModel", "liveAgain", "()I"⟩
abbrev cX12_depth : ByteArray := prog_14_method_55_code
def yX12_depth : MethodName := ⟨"UrnHeapModel", "depth", "(I)I"⟩
abbrev cX12_keepers : ByteArray := prog_14_method_56_code
def yX12_keepers : MethodName := ⟨"UrnHeapModel", "keepers", "(I)I"⟩
abbrev cX12_ring : ByteArray := prog_14_method_57_code
def yX12_ring : MethodName := ⟨"UrnHeapModel", "ring", "(I)I"⟩
abbrev cX12_urns : ByteArray := prog_14_method_58_code
def yX12_urns : MethodName := ⟨"UrnHeapModel", "urns", "()I"⟩
abbrev cX12_wouldFree : ByteArray := prog_14_method_59_code
def yX12_wouldFree : MethodName := ⟨"UrnHeapModel", "wouldFree", "()I"⟩
abbrev cX12_isAhead : ByteArray := prog_14_method_60_code
def yX12_isAhead : MethodName := ⟨"UrnHeapModel", "isAhead", "(II)Z"⟩
abbrev cX12_ranked : ByteArray := prog_14_method_61_code
def yX12_ranked : MethodName := ⟨"UrnHeapModel", "ranked", "(I)I"⟩
abbrev cX12_append : ByteArray := prog_14_method_62_code
def yX12_append : MethodName := ⟨"UrnHeapModel", "append", "(I)I"⟩
abbrev cX12_here : ByteArray := prog_14_method_63_code
def yX12_here : MethodName := ⟨"UrnHeapModel", "here", "()I"⟩
abbrev cX12_next : ByteArray := prog_14_method_64_code
def yX12_next : MethodName := ⟨"UrnHeapModel", "next", "()I"⟩
abbrev cX12_word : ByteArray := prog_14_method_65_code
def yX12_word : MethodName := ⟨"UrnHeapModel", "word", "(Ljava/lang/String;)V"⟩
abbrev cX12_tells : ByteArray := prog_14_method_66_code
def yX12_tells : MethodName := ⟨"UrnHeapModel", "tells", "(II)V"⟩
abbrev cX12_number : ByteArray := prog_14_method_67_code
def yX12_number : MethodName := ⟨"UrnHeapModel", "number", "(II)V"⟩
abbrev cX12_letter : ByteArray := prog_14_method_68_code
def yX12_letter : MethodName := ⟨"UrnHeapModel", "letter", "(I)V"⟩
abbrev cX12_slotOf : ByteArray := prog_14_method_69_code
def yX12_slotOf : MethodName := ⟨"UrnHeapModel", "slotOf", "(Ljava/lang/String;)V"⟩
abbrev cX12_readsOne : ByteArray := prog_14_method_70_code
def yX12_readsOne : MethodName := ⟨"UrnHeapModel", "readsOne", "()V"⟩
abbrev cX12_does : ByteArray := prog_14_method_71_code
def yX12_does : MethodName := ⟨"UrnHeapModel", "does", "(I)I"⟩
abbrev cX12_run : ByteArray := prog_14_method_72_code
def yX12_run : MethodName := ⟨"UrnHeapModel", "run", "()I"⟩
abbrev cX12_writes : ByteArray := prog_14_method_73_code
def yX12_writes : MethodName := ⟨"UrnHeapModel", "writes", "(I)V"⟩
abbrev cX12_writesNumber : ByteArray := prog_14_method_74_code
def yX12_writesNumber : MethodName := ⟨"UrnHeapModel", "writesNumber", "(I)V"⟩
abbrev cX12_tell : ByteArray := prog_14_method_75_code
def yX12_tell : MethodName := ⟨"UrnHeapModel", "tell", "(I)I"⟩
abbrev cX12_tellHeap : ByteArray := prog_14_method_76_code
def yX12_tellHeap : MethodName := ⟨"UrnHeapModel", "tellHeap", "()I"⟩
abbrev cX12_character : ByteArray := prog_14_method_77_code
def yX12_character : MethodName := ⟨"UrnHeapModel", "character", "(I)I"⟩
abbrev cX12_reason : ByteArray := prog_14_method_78_code
def yX12_reason : MethodName := ⟨"UrnHeapModel", "reason", "(Z)I"⟩
abbrev cX12_manyUrns : ByteArray := prog_14_method_79_code
def yX12_manyUrns : MethodName := ⟨"UrnHeapModel", "manyUrns", "()I"⟩
abbrev cX12_manyThat : ByteArray := prog_14_method_80_code
def yX12_manyThat : MethodName := ⟨"UrnHeapModel", "manyThat", "(I)I"⟩
abbrev cX12_namesUsed : ByteArray := prog_14_method_81_code
def yX12_namesUsed : MethodName := ⟨"UrnHeapModel", "namesUsed", "()I"⟩
abbrev cX12_account : ByteArray := prog_14_method_82_code
def yX12_account : MethodName := ⟨"UrnHeapModel", "account", "(I)I"⟩
abbrev cX12_isThere : ByteArray := prog_14_method_83_code
def yX12_isThere : MethodName := ⟨"UrnHeapModel", "isThere", "(I)Z"⟩
abbrev cX12_isFit : ByteArray := prog_14_method_84_code
def yX12_isFit : MethodName := ⟨"UrnHeapModel", "isFit", "(I)Z"⟩
abbrev cX12_isBalanced : ByteArray := prog_14_method_85_code
def yX12_isBalanced : MethodName := ⟨"UrnHeapModel", "isBalanced", "()I"⟩
abbrev cX12_meanHeld : ByteArray := prog_14_method_86_code
def yX12_meanHeld : MethodName := ⟨"UrnHeapModel", "meanHeld", "()D"⟩
abbrev cX12_liveShare : ByteArray := prog_14_method_87_code
def yX12_liveShare : MethodName := ⟨"UrnHeapModel", "liveShare", "()F"⟩
abbrev cX12_undo : ByteArray := prog_14_method_88_code
def yX12_undo : MethodName := ⟨"UrnHeapModel", "undo", "()I"⟩
abbrev cX12_save : ByteArray := prog_14_method_89_code
def yX12_save : MethodName := ⟨"UrnHeapModel", "save", "()I"⟩
abbrev cX12_restore : ByteArray := prog_14_method_90_code
def yX12_restore : MethodName := ⟨"UrnHeapModel", "restore", "()I"⟩
def RJx145de : String := "java/io/Serializable"
def TJx145de : u_T := fun k => match k with
  | _ => ("", "", "", false)
def tyJx145de : Nat → FieldType := fun k => match k with
  | _ => .int
abbrev wsJx145de0 : List Cond := u_ws "java/io/Serializable" TJx145de 0
theorem nmJx145de : ∀ a, a < 0 → ∀ b, b < 0 → a ≠ b → (TJx145de a).2.1 ≠ (TJx145de b).2.1 := by decide +kernel
theorem tyJx145de_ok : ∀ k, k < 0 → parseFieldDescriptor (TJx145de k).2.2.1 = some (tyJx145de k) := by decide +kernel
def RJ5 : String := "java/lang/AbstractStringBuilder"
def TJ5 : u_T := fun k => match k with
  | _ => ("", "", "", false)
def tyJ5 : Nat → FieldType := fun k => match k with
  | _ => .int
abbrev wsJ50 : List Cond := u_ws "java/lang/AbstractStringBuilder" TJ5 0
theorem nmJ5 : ∀ a, a < 0 → ∀ b, b < 0 → a ≠ b → (TJ5 a).2.1 ≠ (TJ5 b).2.1 := by decide +kernel
theorem tyJ5_ok : ∀ k, k < 0 → parseFieldDescriptor (TJ5 k).2.2.1 = some (tyJ5 k) := by decide +kernel
abbrev cJ5_init_d00df : ByteArray := prog_15_method_2_code
def yJ5_init_d00df : MethodName := ⟨"java/lang/AbstractStringBuilder", "<init>", "(I)V"⟩
abbrev cJ5_length_8abf5 : ByteArray := prog_15_method_6_code
def yJ5_length_8abf5 : MethodName := ⟨"java/lang/AbstractStringBuilder", "length", "()I"⟩
abbrev cJ5_ensureCapacityInternal_d00df : ByteArray := prog_15_method_9_code
def yJ5_ensureCapacityInternal_d00df : MethodName := ⟨"java/lang/AbstractStringBuilder", "ensureCapacityInternal", "(I)V"⟩
abbrev cJ5_newCapacity_0f7a4 : ByteArray := prog_15_method_10_code
def yJ5_newCapacity_0f7a4 : MethodName := ⟨"java/lang/AbstractStringBuilder", "newCapacity", "(I)I"⟩
abbrev cJ5_inflate_da8c8 : ByteArray := prog_15_method_11_code
def yJ5_inflate_da8c8 : MethodName := ⟨"java/lang/AbstractStringBuilder", "inflate", "()V"⟩
abbrev cJ5_setLength_d00df : ByteArray := prog_15_method_13_code
def yJ5_setLength_d00df : MethodName := ⟨"java/lang/AbstractStringBuilder", "setLength", "(I)V"⟩
abbrev cJ5_charAt_5068e : ByteArray := prog_15_method_14_code
def yJ5_charAt_5068e : MethodName := ⟨"java/lang/AbstractStringBuilder", "charAt", "(I)C"⟩
abbrev cJ5_append_3fe6f : ByteArray := prog_15_method_31_code
def yJ5_append_3fe6f : MethodName := ⟨"java/lang/AbstractStringBuilder", "append", "(C)Ljava/lang/AbstractStringBuilder;"⟩
abbrev cJ5_append_c97b9 : ByteArray := prog_15_method_32_code
def yJ5_append_c97b9 : MethodName := ⟨"java/lang/AbstractStringBuilder", "append", "(I)Ljava/lang/AbstractStringBuilder;"⟩
abbrev cJ5_isLatin1_aae02 : ByteArray := prog_15_method_68_code
def yJ5_isLatin1_aae02 : MethodName := ⟨"java/lang/AbstractStringBuilder", "isLatin1", "()Z"⟩
def RJx2cfe8 : String := "java/lang/Appendable"
def TJx2cfe8 : u_T := fun k => match k with
  | _ => ("", "", "", false)
def tyJx2cfe8 : Nat → FieldType := fun k => match k with
  | _ => .int
abbrev wsJx2cfe80 : List Cond := u_ws "java/lang/Appendable" TJx2cfe8 0
theorem nmJx2cfe8 : ∀ a, a < 0 → ∀ b, b < 0 → a ≠ b → (TJx2cfe8 a).2.1 ≠ (TJx2cfe8 b).2.1 := by decide +kernel
theorem tyJx2cfe8_ok : ∀ k, k < 0 → parseFieldDescriptor (TJx2cfe8 k).2.2.1 = some (tyJx2cfe8 k) := by decide +kernel
def RJx9f9b0 : String := "java/lang/CharSequence"
def TJx9f9b0 : u_T := fun k => match k with
  | _ => ("", "", "", false)
def tyJx9f9b0 : Nat → FieldType := fun k => match k with
  | _ => .int
abbrev wsJx9f9b00 : List Cond := u_ws "java/lang/CharSequence" TJx9f9b0 0
theorem nmJx9f9b0 : ∀ a, a < 0 → ∀ b, b < 0 → a ≠ b → (TJx9f9b0 a).2.1 ≠ (TJx9f9b0 b).2.1 := by decide +kernel
theorem tyJx9f9b0_ok : ∀ k, k < 0 → parseFieldDescriptor (TJx9f9b0 k).2.2.1 = some (tyJx9f9b0 k) := by decide +kernel
def RJx8e188 : String := "java/lang/Cloneable"
def TJx8e188 : u_T := fun k => match k with
  | _ => ("", "", "", false)
def tyJx8e188 : Nat → FieldType := fun k => match k with
  | _ => .int
abbrev wsJx8e1880 : List Cond := u_ws "java/lang/Cloneable" TJx8e188 0
theorem nmJx8e188 : ∀ a, a < 0 → ∀ b, b < 0 → a ≠ b → (TJx8e188 a).2.1 ≠ (TJx8e188 b).2.1 := by decide +kernel
theorem tyJx8e188_ok : ∀ k, k < 0 → parseFieldDescriptor (TJx8e188 k).2.2.1 = some (tyJx8e188 k) := by decide +kernel
def RJxb160c : String := "java/lang/Comparable"
def TJxb160c : u_T := fun k => match k with
  | _ => ("", "", "", false)
def tyJxb160c : Nat → FieldType := fun k => match k with
  | _ => .int
abbrev wsJxb160c0 : List Cond := u_ws "java/lang/Comparable" TJxb160c 0
theorem nmJxb160c : ∀ a, a < 0 → ∀ b, b < 0 → a ≠ b → (TJxb160c a).2.1 ≠ (TJxb160c b).2.1 := by decide +kernel
theorem tyJxb160c_ok : ∀ k, k < 0 → parseFieldDescriptor (TJxb160c k).2.2.1 = some (tyJxb160c k) := by decide +kernel
def RJx29ce0 : String := "java/lang/Enum"
def TJx29ce0 : u_T := fun k => match k with
  | _ => ("", "", "", false)
def tyJx29ce0 : Nat → FieldType := fun k => match k with
  | _ => .int
abbrev wsJx29ce00 : List Cond := u_ws "java/lang/Enum" TJx29ce0 0
theorem nmJx29ce0 : ∀ a, a < 0 → ∀ b, b < 0 → a ≠ b → (TJx29ce0 a).2.1 ≠ (TJx29ce0 b).2.1 := by decide +kernel
theorem tyJx29ce0_ok : ∀ k, k < 0 → parseFieldDescriptor (TJx29ce0 k).2.2.1 = some (tyJx29ce0 k) := by decide +kernel
abbrev cJx29ce0_ordinal_8abf5 : ByteArray := prog_17_method_2_code
def yJx29ce0_ordinal_8abf5 : MethodName := ⟨"java/lang/Enum", "ordinal", "()I"⟩
def RJ6 : String := "java/lang/Integer"
def TJ6 : u_T := fun k => match k with
  | _ => ("", "", "", false)
def tyJ6 : Nat → FieldType := fun k => match k with
  | _ => .int
abbrev wsJ60 : List Cond := u_ws "java/lang/Integer" TJ6 0
theorem nmJ6 : ∀ a, a < 0 → ∀ b, b < 0 → a ≠ b → (TJ6 a).2.1 ≠ (TJ6 b).2.1 := by decide +kernel
theorem tyJ6_ok : ∀ k, k < 0 → parseFieldDescriptor (TJ6 k).2.2.1 = some (tyJ6 k) := by decide +kernel
abbrev cJ6_getChars_ba4f3 : ByteArray := prog_18_method_12_code
def yJ6_getChars_ba4f3 : MethodName := ⟨"java/lang/Integer", "getChars", "(II[B)I"⟩
abbrev cJ6_stringSize_0f7a4 : ByteArray := prog_18_method_13_code
def yJ6_stringSize_0f7a4 : MethodName := ⟨"java/lang/Integer", "stringSize", "(I)I"⟩
abbrev cJ6_bitCount_0f7a4 : ByteArray := prog_18_method_49_code
def yJ6_bitCount_0f7a4 : MethodName := ⟨"java/lang/Integer", "bitCount", "(I)I"⟩
def RJ9 : String := "java/lang/Math"
def TJ9 : u_T := fun k => match k with
  | _ => ("", "", "", false)
def tyJ9 : Nat → FieldType := fun k => match k with
  | _ => .int
abbrev wsJ90 : List Cond := u_ws "java/lang/Math" TJ9 0
theorem nmJ9 : ∀ a, a < 0 → ∀ b, b < 0 → a ≠ b → (TJ9 a).2.1 ≠ (TJ9 b).2.1 := by decide +kernel
theorem tyJ9_ok : ∀ k, k < 0 → parseFieldDescriptor (TJ9 k).2.2.1 = some (tyJ9 k) := by decide +kernel
abbrev cJ9_max_7cf53 : ByteArray := prog_19_method_65_code
def yJ9_max_7cf53 : MethodName := ⟨"java/lang/Math", "max", "(II)I"⟩
abbrev cJ9_min_7cf53 : ByteArray := prog_19_method_69_code
def yJ9_min_7cf53 : MethodName := ⟨"java/lang/Math", "min", "(II)I"⟩
def RJxd2413 : String := "java/lang/Number"
def TJxd2413 : u_T := fun k => match k with
  | _ => ("", "", "", false)
def tyJxd2413 : Nat → FieldType := fun k => match k with
  | _ => .int
abbrev wsJxd24130 : List Cond := u_ws "java/lang/Number" TJxd2413 0
theorem nmJxd2413 : ∀ a, a < 0 → ∀ b, b < 0 → a ≠ b → (TJxd2413 a).2.1 ≠ (TJxd2413 b).2.1 := by decide +kernel
theorem tyJxd2413_ok : ∀ k, k < 0 → parseFieldDescriptor (TJxd2413 k).2.2.1 = some (tyJxd2413 k) := by decide +kernel
def RJ0 : String := "java/lang/String"
def TJ0 : u_T := fun k => match k with
  | _ => ("", "", "", false)
def tyJ0 : Nat → FieldType := fun k => match k with
  | _ => .int
abbrev wsJ00 : List Cond := u_ws "java/lang/String" TJ0 0
theorem nmJ0 : ∀ a, a < 0 → ∀ b, b < 0 → a ≠ b → (TJ0 a).2.1 ≠ (TJ0 b).2.1 := by decide +kernel
theorem tyJ0_ok : ∀ k, k < 0 → parseFieldDescriptor (TJ0 k).2.2.1 = some (tyJ0 k) := by decide +kernel
abbrev cJ0_length_8abf5 : ByteArray := prog_21_method_54_code
def yJ0_length_8abf5 : MethodName := ⟨"java/lang/String", "length", "()I"⟩
abbrev cJ0_charAt_5068e : ByteArray := prog_21_method_56_code
def yJ0_charAt_5068e : MethodName := ⟨"java/lang/String", "charAt", "(I)C"⟩
abbrev cJ0_coder_7d493 : ByteArray := prog_21_method_152_code
def yJ0_coder_7d493 : MethodName := ⟨"java/lang/String", "coder", "()B"⟩
abbrev cJ0_isLatin1_aae02 : ByteArray := prog_21_method_154_code
def yJ0_isLatin1_aae02 : MethodName := ⟨"java/lang/String", "isLatin1", "()Z"⟩
abbrev cJ0_checkIndex_df160 : ByteArray := prog_21_method_155_code
def yJ0_checkIndex_df160 : MethodName := ⟨"java/lang/String", "checkIndex", "(II)V"⟩
abbrev cJ0_checkBoundsOffCount_cabcc : ByteArray := prog_21_method_157_code
def yJ0_checkBoundsOffCount_cabcc : MethodName := ⟨"java/lang/String", "checkBoundsOffCount", "(III)I"⟩
abbrev cJ0_checkBoundsBeginEnd_23922 : ByteArray := prog_21_method_158_code
def yJ0_checkBoundsBeginEnd_23922 : MethodName := ⟨"java/lang/String", "checkBoundsBeginEnd", "(III)V"⟩
def RJ4 : String := "java/lang/StringBuilder"
def TJ4 : u_T := fun k => match k with
  | 0 => ("java/lang/AbstractStringBuilder", "value", "[B", false)
  | 1 => ("java/lang/AbstractStringBuilder", "coder", "B", false)
  | 2 => ("java/lang/AbstractStringBuilder", "maybeLatin1", "Z", false)
  | _ => ("java/lang/AbstractStringBuilder", "count", "I", false)
def tyJ4 : Nat → FieldType := fun k => match k with
  | 0 => .array .byte
  | 1 => .byte
  | 2 => .boolean
  | _ => .int
abbrev wsJ40 : List Cond := u_ws "java/lang/StringBuilder" TJ4 4
theorem nmJ4 : ∀ a, a < 4 → ∀ b, b < 4 → a ≠ b → (TJ4 a).2.1 ≠ (TJ4 b).2.1 := by decide +kernel
theorem tyJ4_ok : ∀ k, k < 4 → parseFieldDescriptor (TJ4 k).2.2.1 = some (tyJ4 k) := by decide +kernel
abbrev cJ4_init_da8c8 : ByteArray := prog_22_method_1_code
def yJ4_init_da8c8 : MethodName := ⟨"java/lang/StringBuilder", "<init>", "()V"⟩
abbrev cJ4_append_cf468 : ByteArray := prog_22_method_14_code
def yJ4_append_cf468 : MethodName := ⟨"java/lang/StringBuilder", "append", "(C)Ljava/lang/StringBuilder;"⟩
abbrev cJ4_append_bf812 : ByteArray := prog_22_method_15_code
def yJ4_append_bf812 : MethodName := ⟨"java/lang/StringBuilder", "append", "(I)Ljava/lang/StringBuilder;"⟩
abbrev cJ4_charAt_5068e : ByteArray := prog_22_method_88_code
def yJ4_charAt_5068e : MethodName := ⟨"java/lang/StringBuilder", "charAt", "(I)C"⟩
abbrev cJ4_setLength_d00df : ByteArray := prog_22_method_89_code
def yJ4_setLength_d00df : MethodName := ⟨"java/lang/StringBuilder", "setLength", "(I)V"⟩
abbrev cJ4_length_8abf5 : ByteArray := prog_22_method_93_code
def yJ4_length_8abf5 : MethodName := ⟨"java/lang/StringBuilder", "length", "()I"⟩
def RJ1 : String := "java/lang/StringLatin1"
def TJ1 : u_T := fun k => match k with
  | _ => ("", "", "", false)
def tyJ1 : Nat → FieldType := fun k => match k with
  | _ => .int
abbrev wsJ10 : List Cond := u_ws "java/lang/StringLatin1" TJ1 0
theorem nmJ1 : ∀ a, a < 0 → ∀ b, b < 0 → a ≠ b → (TJ1 a).2.1 ≠ (TJ1 b).2.1 := by decide +kernel
theorem tyJ1_ok : ∀ k, k < 0 → parseFieldDescriptor (TJ1 k).2.2.1 = some (tyJ1 k) := by decide +kernel
abbrev cJ1_charAt_3b067 : ByteArray := prog_23_method_2_code
def yJ1_charAt_3b067 : MethodName := ⟨"java/lang/StringLatin1", "charAt", "([BI)C"⟩
abbrev cJ1_canEncode_fc78d : ByteArray := prog_23_method_3_code
def yJ1_canEncode_fc78d : MethodName := ⟨"java/lang/StringLatin1", "canEncode", "(C)Z"⟩
abbrev cJ1_fillNull_b72d1 : ByteArray := prog_23_method_48_code
def yJ1_fillNull_b72d1 : MethodName := ⟨"java/lang/StringLatin1", "fillNull", "([BII)V"⟩
abbrev cJ1_inflate_0e8fd : ByteArray := prog_23_method_50_code
def yJ1_inflate_0e8fd : MethodName := ⟨"java/lang/StringLatin1", "inflate", "([BI[BII)V"⟩
def RJ2 : String := "java/lang/StringUTF16"
def TJ2 : u_T := fun k => match k with
  | _ => ("", "", "", false)
def tyJ2 : Nat → FieldType := fun k => match k with
  | _ => .int
abbrev wsJ20 : List Cond := u_ws "java/lang/StringUTF16" TJ2 0
theorem nmJ2 : ∀ a, a < 0 → ∀ b, b < 0 → a ≠ b → (TJ2 a).2.1 ≠ (TJ2 b).2.1 := by decide +kernel
theorem tyJ2_ok : ∀ k, k < 0 → parseFieldDescriptor (TJ2 k).2.2.1 = some (tyJ2 k) := by decide +kernel
abbrev cJ2_newBytesFor_77867 : ByteArray := prog_24_method_2_code
def yJ2_newBytesFor_77867 : MethodName := ⟨"java/lang/StringUTF16", "newBytesFor", "(I)[B"⟩
abbrev cJ2_newBytesLength_0f7a4 : ByteArray := prog_24_method_3_code
def yJ2_newBytesLength_0f7a4 : MethodName := ⟨"java/lang/StringUTF16", "newBytesLength", "(I)I"⟩
abbrev cJ2_putChar_b72d1 : ByteArray := prog_24_method_4_code
def yJ2_putChar_b72d1 : MethodName := ⟨"java/lang/StringUTF16", "putChar", "([BII)V"⟩
abbrev cJ2_getChar_3b067 : ByteArray := prog_24_method_5_code
def yJ2_getChar_3b067 : MethodName := ⟨"java/lang/StringUTF16", "getChar", "([BI)C"⟩
abbrev cJ2_length_9d52b : ByteArray := prog_24_method_6_code
def yJ2_length_9d52b : MethodName := ⟨"java/lang/StringUTF16", "length", "([B)I"⟩
abbrev cJ2_fillNull_b72d1 : ByteArray := prog_24_method_70_code
def yJ2_fillNull_b72d1 : MethodName := ⟨"java/lang/StringUTF16", "fillNull", "([BII)V"⟩
abbrev cJ2_putCharSB_b72d1 : ByteArray := prog_24_method_71_code
def yJ2_putCharSB_b72d1 : MethodName := ⟨"java/lang/StringUTF16", "putCharSB", "([BII)V"⟩
abbrev cJ2_getChars_46870 : ByteArray := prog_24_method_77_code
def yJ2_getChars_46870 : MethodName := ⟨"java/lang/StringUTF16", "getChars", "(III[B)I"⟩
abbrev cJ2_charAt_3b067 : ByteArray := prog_24_method_83_code
def yJ2_charAt_3b067 : MethodName := ⟨"java/lang/StringUTF16", "charAt", "([BI)C"⟩
abbrev cJ2_inflate_0e8fd : ByteArray := prog_24_method_86_code
def yJ2_inflate_0e8fd : MethodName := ⟨"java/lang/StringUTF16", "inflate", "([BI[BII)V"⟩
abbrev cJ2_getChars_ba4f3 : ByteArray := prog_24_method_89_code
def yJ2_getChars_ba4f3 : MethodName := ⟨"java/lang/StringUTF16", "getChars", "(II[B)I"⟩
abbrev cJ2_checkIndex_2214a : ByteArray := prog_24_method_91_code
def yJ2_checkIndex_2214a : MethodName := ⟨"java/lang/StringUTF16", "checkIndex", "(I[B)V"⟩
abbrev cJ2_checkBoundsBeginEnd_d044e : ByteArray := prog_24_method_93_code
def yJ2_checkBoundsBeginEnd_d044e : MethodName := ⟨"java/lang/StringUTF16", "checkBoundsBeginEnd", "(II[B)V"⟩
abbrev cJ2_checkBoundsOffCount_d044e : ByteArray := prog_24_method_94_code
def yJ2_checkBoundsOffCount_d044e : MethodName := ⟨"java/lang/StringUTF16", "checkBoundsOffCount", "(II[B)V"⟩
def RJ10 : String := "java/lang/System"
def TJ10 : u_T := fun k => match k with
  | _ => ("", "", "", false)
def tyJ10 : Nat → FieldType := fun k => match k with
  | _ => .int
abbrev wsJ100 : List Cond := u_ws "java/lang/System" TJ10 0
theorem nmJ10 : ∀ a, a < 0 → ∀ b, b < 0 → a ≠ b → (TJ10 a).2.1 ≠ (TJ10 b).2.1 := by decide +kernel
theorem tyJ10_ok : ∀ k, k < 0 → parseFieldDescriptor (TJ10 k).2.2.1 = some (tyJ10 k) := by decide +kernel
def RJxfd54e : String := "java/lang/constant/Constable"
def TJxfd54e : u_T := fun k => match k with
  | _ => ("", "", "", false)
def tyJxfd54e : Nat → FieldType := fun k => match k with
  | _ => .int
abbrev wsJxfd54e0 : List Cond := u_ws "java/lang/constant/Constable" TJxfd54e 0
theorem nmJxfd54e : ∀ a, a < 0 → ∀ b, b < 0 → a ≠ b → (TJxfd54e a).2.1 ≠ (TJxfd54e b).2.1 := by decide +kernel
theorem tyJxfd54e_ok : ∀ k, k < 0 → parseFieldDescriptor (TJxfd54e k).2.2.1 = some (tyJxfd54e k) := by decide +kernel
def RJx3cf43 : String := "java/lang/constant/ConstantDesc"
def TJx3cf43 : u_T := fun k => match k with
  | _ => ("", "", "", false)
def tyJx3cf43 : Nat → FieldType := fun k => match k with
  | _ => .int
abbrev wsJx3cf430 : List Cond := u_ws "java/lang/constant/ConstantDesc" TJx3cf43 0
theorem nmJx3cf43 : ∀ a, a < 0 → ∀ b, b < 0 → a ≠ b → (TJx3cf43 a).2.1 ≠ (TJx3cf43 b).2.1 := by decide +kernel
theorem tyJx3cf43_ok : ∀ k, k < 0 → parseFieldDescriptor (TJx3cf43 k).2.2.1 = some (tyJx3cf43 k) := by decide +kernel
def RJ7 : String := "java/util/Arrays"
def TJ7 : u_T := fun k => match k with
  | _ => ("", "", "", false)
def tyJ7 : Nat → FieldType := fun k => match k with
  | _ => .int
abbrev wsJ70 : List Cond := u_ws "java/util/Arrays" TJ7 0
theorem nmJ7 : ∀ a, a < 0 → ∀ b, b < 0 → a ≠ b → (TJ7 a).2.1 ≠ (TJ7 b).2.1 := by decide +kernel
theorem tyJ7_ok : ∀ k, k < 0 → parseFieldDescriptor (TJ7 k).2.2.1 = some (tyJ7 k) := by decide +kernel
abbrev cJ7_rangeCheck_23922 : ByteArray := prog_26_method_30_code
def yJ7_rangeCheck_23922 : MethodName := ⟨"java/util/Arrays", "rangeCheck", "(III)V"⟩
abbrev cJ7_fill_53178 : ByteArray := prog_26_method_103_code
def yJ7_fill_53178 : MethodName := ⟨"java/util/Arrays", "fill", "([II)V"⟩
abbrev cJ7_fill_eb02e : ByteArray := prog_26_method_110_code
def yJ7_fill_eb02e : MethodName := ⟨"java/util/Arrays", "fill", "([BIIB)V"⟩
abbrev cJ7_copyOf_9075b : ByteArray := prog_26_method_121_code
def yJ7_copyOf_9075b : MethodName := ⟨"java/util/Arrays", "copyOf", "([BI)[B"⟩
def RJ8 : String := "jdk/internal/util/ArraysSupport"
def TJ8 : u_T := fun k => match k with
  | _ => ("", "", "", false)
def tyJ8 : Nat → FieldType := fun k => match k with
  | _ => .int
abbrev wsJ80 : List Cond := u_ws "jdk/internal/util/ArraysSupport" TJ8 0
theorem nmJ8 : ∀ a, a < 0 → ∀ b, b < 0 → a ≠ b → (TJ8 a).2.1 ≠ (TJ8 b).2.1 := by decide +kernel
theorem tyJ8_ok : ∀ k, k < 0 → parseFieldDescriptor (TJ8 k).2.2.1 = some (tyJ8 k) := by decide +kernel
abbrev cJ8_newLength_cabcc : ByteArray := prog_27_method_27_code
def yJ8_newLength_cabcc : MethodName := ⟨"jdk/internal/util/ArraysSupport", "newLength", "(III)I"⟩
abbrev cJ8_hugeLength_7cf53 : ByteArray := prog_27_method_28_code
def yJ8_hugeLength_7cf53 : MethodName := ⟨"jdk/internal/util/ArraysSupport", "hugeLength", "(II)I"⟩
def RJ3 : String := "jdk/internal/util/Preconditions"
def TJ3 : u_T := fun k => match k with
  | _ => ("", "", "", false)
def tyJ3 : Nat → FieldType := fun k => match k with
  | _ => .int
abbrev wsJ30 : List Cond := u_ws "jdk/internal/util/Preconditions" TJ3 0
theorem nmJ3 : ∀ a, a < 0 → ∀ b, b < 0 → a ≠ b → (TJ3 a).2.1 ≠ (TJ3 b).2.1 := by decide +kernel
theorem tyJ3_ok : ∀ k, k < 0 → parseFieldDescriptor (TJ3 k).2.2.1 = some (tyJ3 k) := by decide +kernel
abbrev cJ3_checkIndex_8e157 : ByteArray := prog_28_method_11_code
def yJ3_checkIndex_8e157 : MethodName := ⟨"jdk/internal/util/Preconditions", "checkIndex", "(IILjava/util/function/BiFunction;)I"⟩
abbrev cJ3_checkFromToIndex_8c36e : ByteArray := prog_28_method_12_code
def yJ3_checkFromToIndex_8c36e : MethodName := ⟨"jdk/internal/util/Preconditions", "checkFromToIndex", "(IIILjava/util/function/BiFunction;)I"⟩
abbrev cJ3_checkFromIndexSize_8c36e : ByteArray := prog_28_method_13_code
def yJ3_checkFromIndexSize_8c36e : MethodName := ⟨"jdk/internal/util/Preconditions", "checkFromIndexSize", "(IIILjava/util/function/BiFunction;)I"⟩
def RL : String := "UrnHeapLaw"
abbrev cL_law : ByteArray := code
def yL_law : MethodName := ⟨"UrnHeapLaw", "law", "([I)Z"⟩
abbrev vwCl : List vw_C := [("java/lang/StringBuilder", TJ4, 4), ("UrnHeap$Hands", TX1, 2), ("UrnHeap$Heap", TX2, 17), ("UrnHeap$History", TX3, 6), ("UrnHeap$Line", TX5, 1), ("UrnHeap$Orders", TX6, 8), ("UrnHeap$Paths", TX7, 2), ("UrnHeap$Refusals", TX8, 2), ("UrnHeap$Row", TX9, 2), ("UrnHeap$Sexton", TX10, 2), ("UrnHeap", TX11, 8), ("UrnHeapModel", TX12, 20)]
end
section
/-! base: numbers, the memory, the bundle of a walk -/
abbrev mu_T : Type := Nat → Int → Int
def iI (x : Int) : Int32 := Int32.ofInt x
abbrev rg_ (x : Int) : Prop := -2147483648 ≤ x ∧ x ≤ 2147483647
theorem iI_add (a b : Int) : iI a + iI b = iI (a + b) := (Int32.ofInt_add a b).symm
theorem iI_sub (a b : Int) : iI a - iI b = iI (a - b) := (Int32.ofInt_sub a b).symm
theorem iI_mul (a b : Int) : iI a * iI b = iI (a * b) := (Int32.ofInt_mul a b).symm
theorem iI_neg (a : Int) : -iI a = iI (-a) := (Int32.ofInt_neg a).symm
theorem iI_toInt {a : Int} (h : rg_ a) : (iI a).toInt = a := Int32.toInt_ofInt_of_le (by omega) (by omega)
theorem iI_clamp {a : Int} (h : rg_ a) : (iI a).toNatClampNeg = a.toNat := Int32.toNatClampNeg_ofInt_of_le (by omega) (by omega)
theorem iI_lt {a b : Int} (ha : rg_ a) (hb : rg_ b) : iI a < iI b ↔ a < b := by rw [Int32.lt_iff_toInt_lt, iI_toInt ha, iI_toInt hb]
theorem iI_le {a b : Int} (ha : rg_ a) (hb : rg_ b) : iI a ≤ iI b ↔ a ≤ b := by rw [Int32.le_iff_toInt_le, iI_toInt ha, iI_toInt hb]
theorem iI_eq {a b : Int} (ha : rg_ a) (hb : rg_ b) : iI a = iI b ↔ a = b := by rw [← Int32.toInt_inj, iI_toInt ha, iI_toInt hb]
theorem iI_of (x : Int32) : iI x.toInt = x := Int32.ofInt_toInt x
theorem iI_rg (x : Int32) : rg_ x.toInt := ⟨Int32.le_toInt x, by have := Int32.toInt_lt x; omega⟩
theorem iI_in {i : Int} {n : Nat} (h0 : 0 ≤ i) (h1 : i < n) (hn : n < 2147483648) : vp_in (iI i) n := by
  rw [vp_in_iff, iI_toInt (by omega)]
  exact ⟨h0, h1⟩
theorem iI_nat (n : Nat) : Int32.ofNat n = iI n := rfl
-- the memory: a row of numbers for each object or array
def ur_ (f : Int → Int) (i v : Int) : Int → Int := fun j => if j = i then v else f j
def um_ (μ : mu_T) (k : Nat) (f : Int → Int) : mu_T := fun q => if q = k then f else μ q
def st_ (μ : mu_T) (k : Nat) (i v : Int) : mu_T := um_ μ k (ur_ (μ k) i v)
theorem um_self (μ : mu_T) (k : Nat) (f : Int → Int) : um_ μ k f k = f := if_pos rfl
theorem um_ne {μ : mu_T} {k q : Nat} {f : Int → Int} (h : q ≠ k) : um_ μ k f q = μ q := if_neg h
-- the words of a decompiled method
def lt_ {α : Type} (a b : Int) (t f : Option α) : Option α := if rg_ a ∧ rg_ b then (if a < b then t else f) else none
def eq_ {α : Type} (a b : Int) (t f : Option α) : Option α := if a = b then t else if rg_ a ∧ rg_ b then f else none
def rd_ {α : Type} (μ : mu_T) (k n : Nat) (i : Int) (f : Int → Option α) : Option α := if 0 ≤ i ∧ i < n then f (μ k i) else none
def wr_ {α : Type} (μ : mu_T) (k n : Nat) (i v : Int) (f : mu_T → Option α) : Option α := if 0 ≤ i ∧ i < n then f (st_ μ k i v) else none
def wf_ {α : Type} (μ : mu_T) (k : Nat) (i v : Int) (f : mu_T → Option α) : Option α := f (st_ μ k i v)
def wz_ {α : Type} (μ : mu_T) (k : Nat) (i v : Int) (f : mu_T → Option α) : Option α := if v = 0 ∨ v = 1 then f (st_ μ k i v) else none
def gd_ {α : Type} (c : Prop) [Decidable c] (x : Option α) : Option α := if c then x else none
def nm_ {α : Type} (v : Int) (f : Int → Option α) : Option α := f v
def dv_ {α : Type} (a b : Int) (f : Int → Option α) : Option α := if rg_ a ∧ rg_ b ∧ b ≠ 0 then f (a.tdiv b) else none
def rm_ {α : Type} (a b : Int) (f : Int → Option α) : Option α := if rg_ a ∧ rg_ b ∧ b ≠ 0 then f (a.tmod b) else none
def bd_ {α β : Type} (x : Option α) (f : α → Option β) : Option β := match x with
  | none => none
  | some a => f a
def bp_ {α β γ : Type} (x : Option (α × β)) (f : α → β → Option γ) : Option γ := match x with
  | none => none
  | some (a, b) => f a b
def rz_ (v : Int) (μ : mu_T) : Option (Int × mu_T) := if v = 0 ∨ v = 1 then some (v, μ) else none
def ry_ (v : Int) : Option Int := if v = 0 ∨ v = 1 then some v else none
def jn_ {φ β : Type} (f : φ) (k : φ → Option β) : Option β := k f
def an_ (a b : Int) : Int := (iI a &&& iI b).toInt
def or_ (a b : Int) : Int := (iI a ||| iI b).toInt
def xo_ (a b : Int) : Int := (iI a ^^^ iI b).toInt
def sl_ (a b : Int) : Int := (iI a <<< (iI b &&& 31)).toInt
def sr_ (a b : Int) : Int := (iI a >>> (iI b &&& 31)).toInt
def su_ (a b : Int) : Int := (((iI a).toUInt32 >>> ((iI b).toUInt32 &&& Int32.toUInt32 31)).toInt32).toInt
def i2c_ (a : Int) : Int := (((iI a).toUInt32 % 65536).toInt32).toInt
def i2b_ (a : Int) : Int := ((iI a).toInt8.toInt32).toInt
theorem iI_div {a b : Int} (ha : rg_ a) (hb : rg_ b) : iI (a.tdiv b) = iI a / iI b := by
  have h := Int32.ofInt_tdiv (a := a) (b := b) (by show Int32.minValue.toInt ≤ a; have : Int32.minValue.toInt = -2147483648 := rfl; omega) (by have : Int32.maxValue.toInt = 2147483647 := rfl; omega) (by have : Int32.minValue.toInt = -2147483648 := rfl; omega) (by have : Int32.maxValue.toInt = 2147483647 := rfl; omega)
  exact h
theorem iI_rem {a b : Int} (ha : rg_ a) (hb : rg_ b) : iI (a.tmod b) = iI a - iI a / iI b * iI b := by
  rw [← iI_div ha hb, iI_mul, iI_sub]
  congr 1
  have := Int.tmod_add_mul_tdiv a b
  have h2 : b * a.tdiv b = a.tdiv b * b := Int.mul_comm _ _
  omega
theorem lt_e {α : Type} {a b : Int} {t f : Option α} {r : α} (h : lt_ a b t f = some r) : (rg_ a ∧ rg_ b) ∧ ((a < b ∧ t = some r) ∨ (¬ a < b ∧ f = some r)) := by
  unfold lt_ at h
  split at h
  next hr =>
    refine ⟨hr, ?_⟩
    split at h
    next hc => exact Or.inl ⟨hc, h⟩
    next hc => exact Or.inr ⟨hc, h⟩
  next => cases h
theorem eq_e {α : Type} {a b : Int} {t f : Option α} {r : α} (h : eq_ a b t f = some r) : (a = b ∧ t = some r) ∨ ((iI a ≠ iI b) ∧ a ≠ b ∧ f = some r) := by
  unfold eq_ at h
  split at h
  next hc => exact Or.inl ⟨hc, h⟩
  next hc =>
    split at h
    next hr => exact Or.inr ⟨fun q => hc ((iI_eq hr.1 hr.2).mp q), hc, h⟩
    next => cases h
theorem ck_e {α : Type} {c : Prop} [Decidable c] {x : Option α} {r : α} (h : (if c then x else none) = some r) : c ∧ x = some r := by
  split at h
  next hc => exact ⟨hc, h⟩
  next => cases h
theorem bd_e {α β : Type} {x : Option α} {f : α → Option β} {r : β} (h : bd_ x f = some r) : ∃ a, x = some a ∧ f a = some r := by
  unfold bd_ at h
  split at h
  next => cases h
  next a => exact ⟨a, rfl, h⟩
theorem bp_e {α β γ : Type} {x : Option (α × β)} {f : α → β → Option γ} {r : γ} (h : bp_ x f = some r) : ∃ a b, x = some (a, b) ∧ f a b = some r := by
  unfold bp_ at h
  split at h
  next => cases h
  next a b => exact ⟨a, b, rfl, h⟩
-- the world: N cells, cell k at the address ad k, made of the row μ k
def wl_ (N : Nat) (ad : Nat → Nat) (ce : Nat → (Int → Int) → va_E) (μ : mu_T) : va_W := (List.range N).map (fun k => (ad k, ce k (μ k)))
theorem wl_get {N : Nat} {ad : Nat → Nat} {ce : Nat → (Int → Int) → va_E} {μ : mu_T} {k : Nat} (h : k < N) : (wl_ N ad ce μ)[k]? = some (ad k, ce k (μ k)) := by
  unfold wl_
  rw [List.getElem?_map, List.getElem?_range h]
  rfl
theorem wl_set {N : Nat} {ad : Nat → Nat} {ce : Nat → (Int → Int) → va_E} {μ : mu_T} {k : Nat} (f : Int → Int) : (wl_ N ad ce μ).set k (ad k, ce k f) = wl_ N ad ce (um_ μ k f) := by
  apply List.ext_getElem?
  intro i
  by_cases hi : i < N
  · rw [wl_get hi]
    by_cases hik : i = k
    · subst hik
      rw [List.getElem?_set_self (by unfold wl_; simpa using hi), um_self]
    · rw [List.getElem?_set_ne (Ne.symm hik), wl_get hi, um_ne hik]
  · rw [List.getElem?_eq_none (by unfold wl_; simp; omega), List.getElem?_eq_none (by unfold wl_; simp; omega)]
end
section
/-! the bundle of a walk, contracts, and a row for each instruction over a world of N cells -/
abbrev gp_ : Type := va_G × (Nat → Nat) × Nat
abbrev ct_ : Type := Program × Launch × Env × Room × State × MethodId × Array Value × List Frame × Method × Code × (State → Prop) × (Nat → Prop) × Nat
/-- two words more, of private methods of the superclass: shown at the start out of the tables' own -/
def gX9_ : List Cond := [Cond.selects "java/lang/StringBuilder" yJ5_ensureCapacityInternal_d00df yJ5_ensureCapacityInternal_d00df, Cond.selects "java/lang/StringBuilder" yJ5_newCapacity_0f7a4 yJ5_newCapacity_0f7a4]
def gT_ : List Cond := lw_tbl.filter goodWord ++ gX9_
theorem gX9_good : ∀ w ∈ gX9_, goodWord w = true := by
  intro w hw
  have h : gX9_.all goodWord = true := by decide +kernel
  exact List.all_eq_true.mp h w hw
theorem gx_e : Cond.selects "java/lang/StringBuilder" yJ5_ensureCapacityInternal_d00df yJ5_ensureCapacityInternal_d00df ∈ gT_ := List.mem_append_right _ List.mem_cons_self
theorem gx_n : Cond.selects "java/lang/StringBuilder" yJ5_newCapacity_0f7a4 yJ5_newCapacity_0f7a4 ∈ gT_ := List.mem_append_right _ (List.mem_cons_of_mem _ List.mem_cons_self)
theorem gm_ (i : Nat) {w : Cond} (h : (decide (lw_tbl[i]? = some w) && goodWord w) = true) : w ∈ gT_ := by
  simp only [Bool.and_eq_true, decide_eq_true_eq] at h
  exact List.mem_append_left _ (List.mem_filter.mpr ⟨List.mem_of_getElem? h.1, h.2⟩)
theorem gl_ {ws : List Cond} (h : ws.all (fun w => decide (w ∈ lw_tbl) && goodWord w) = true) : ∀ w ∈ ws, w ∈ gT_ := fun w hw => by
  have h1 := List.all_eq_true.mp h w hw
  simp only [Bool.and_eq_true, decide_eq_true_eq] at h1
  exact List.mem_append_left _ (List.mem_filter.mpr ⟨h1.1, h1.2⟩)
theorem gT_tbl {w : Cond} (h : w ∈ gT_) : w ∈ lw_tbl ∨ w ∈ gX9_ := (List.mem_append.mp h).imp (fun h => (List.mem_filter.mp h).1) id
theorem gT_good {w : Cond} (h : w ∈ gT_) : (w.onTables && w.keeps) = true ∨ ∃ ty, w = .arrayClass ty := by
  rcases List.mem_append.mp h with h | h
  · exact good_of_word (List.mem_filter.mp h).2
  · exact good_of_word (gX9_good _ h)
def tys_ (D : va_G) : List (ClassId × FieldType) := [(D.1 100, .int), (D.1 101, .byte), (D.1 102, .object "UrnHeap$Heap"), (D.1 103, .object "UrnHeap$Kind")]
/-- the String constants: the forms of the orders, then the reference's words -/
def skl_ : List (List Int) := [[117, 114, 110], [117, 114, 110, 33], [116, 105, 101, 32, 35, 46, 36, 61, 35], [117, 110, 116, 105, 101, 32, 35, 46, 36], [110, 97, 109, 101, 32, 64, 61, 35], [100, 114, 111, 112, 32, 64], [119, 101, 97, 107, 32, 35, 61, 35], [114, 111, 117, 110, 100], [115, 116, 101, 112, 32, 35], [114, 105, 116, 101], [117, 114, 110], [116, 105, 101, 32], [46], [61], [117, 110, 116, 105, 101, 32], [110, 97, 109, 101, 32], [100, 114, 111, 112, 32], [119, 101, 97, 107, 32], [114, 111, 117, 110, 100], [115, 116, 101, 112, 32], [114, 105, 116, 101]]
def swl_ : List (Nat × String) := [(215, "urn"), (217, "tie "), (210, "."), (222, "="), (224, "untie "), (226, "name "), (231, "drop "), (233, "weak "), (235, "round"), (237, "step "), (239, "rite")]
def nwl_ : List (String × Nat × MethodName) := [("UrnHeap$Heap", 35, ⟨"UrnHeap$Row", "<init>", "()V"⟩), ("UrnHeap", 12, ⟨"UrnHeap$Refusals", "<init>", "()V"⟩), ("UrnHeap", 57, ⟨"UrnHeap$Orders", "<init>", "()V"⟩), ("UrnHeap", 64, ⟨"UrnHeap$Line", "<init>", "()V"⟩), ("UrnHeap$Hands", 58, ⟨"UrnHeap", "isSlot", "(I)Z"⟩), ("UrnHeap$Heap", 88, ⟨"UrnHeap", "isCell", "(I)Z"⟩), ("UrnHeap$Heap", 91, ⟨"UrnHeap", "isSlot", "(I)Z"⟩), ("UrnHeap$Hands", 77, ⟨"UrnHeap", "isName", "(I)Z"⟩), ("UrnHeap$Sexton", 60, ⟨"UrnHeap", "isCell", "(I)Z"⟩), ("UrnHeap$Paths", 83, ⟨"UrnHeap", "isCell", "(I)Z"⟩), ("UrnHeap$Line", 42, ⟨"UrnHeap", "isCell", "(I)Z"⟩)]
/-- what no cell of the world is, and nobody writes: by the state U, with the heap H -/
def gkS_ (G : gp_) (U : State) (H : Heap) : Prop := ∀ i : Nat, i < 21 → vk_S 1 [(skl_.getD i []).length] [(skl_.getD i []).map iI] (fun _ => G.2.1 (200 + i)) (fun _ => G.2.1 (300 + i)) (fun q => G.2.2 ≤ q) U H
def gkE_ (G : gp_) (U : State) (H : Heap) : Prop := ∀ i : Nat, i < 10 → va_O "UrnHeap$Kind" (G.2.1 (100 + i)) (fun q => G.2.2 ≤ q) U H ∧ va_OF "java/lang/Enum" "ordinal" "I" (.int (iI i)) (G.2.1 (100 + i)) (fun q => G.2.2 ≤ q) U H ∧ va_OF "UrnHeap$Kind" "form" "Ljava/lang/String;" (.ref (G.2.1 (200 + i))) (G.2.1 (100 + i)) (fun q => G.2.2 ≤ q) U H
def gkZ_ (G : gp_) (U : State) (H : Heap) : Prop := va_Z "java/lang/String" "COMPACT_STRINGS" "Z" (.int (iI 1)) (fun q => G.2.2 ≤ q) U H ∧ va_Z "jdk/internal/util/Preconditions" "SIOOBE_FORMATTER" "Ljava/util/function/BiFunction;" (.ref (G.2.1 5)) (fun q => G.2.2 ≤ q) U H ∧ va_Z "UrnHeap$Kind" "ALL" "[LUrnHeap$Kind;" (.ref (G.2.1 2)) (fun q => G.2.2 ≤ q) U H ∧ va_Z "UrnHeap$1" "$SwitchMap$UrnHeap$Kind" "[I" (.ref (G.2.1 1)) (fun q => G.2.2 ≤ q) U H ∧ va_Z "java/lang/Integer" "DigitOnes" "[B" (.ref (G.2.1 3)) (fun q => G.2.2 ≤ q) U H ∧ va_Z "java/lang/Integer" "DigitTens" "[B" (.ref (G.2.1 4)) (fun q => G.2.2 ≤ q) U H
def gkT_ (G : gp_) (U : State) (H : Heap) : Prop := va_T (.object "UrnHeap$Kind") (G.2.1 2) 10 (fun i => .ref (G.2.1 (100 + i))) (fun q => G.2.2 ≤ q) U H ∧ va_T .int (G.2.1 1) 10 (fun i => .int (iI ((i : Int) + 1))) (fun q => G.2.2 ≤ q) U H ∧ va_T .byte (G.2.1 3) 100 (fun i => .int (iI (48 + (i : Int) % 10))) (fun q => G.2.2 ≤ q) U H ∧ va_T .byte (G.2.1 4) 100 (fun i => .int (iI (48 + (i : Int) / 10))) (fun q => G.2.2 ≤ q) U H
def gkN_ (G : gp_) (U : State) : Prop := (∀ w ∈ nwl_, va_Nw (.methodLinkNest w.1 w.2.1 w.2.2 "UrnHeap") U) ∧ va_Nw (.fieldLinkNest "UrnHeap$Orders" 60 "UrnHeap$Kind" "ALL" "[LUrnHeap$Kind;" "UrnHeap") U ∧ (∀ (i : Nat) (w : Nat × String), swl_[i]? = some w → vk_R "UrnHeapModel" w.1 w.2 (G.2.1 (210 + i)) U) ∧ va_AO "UrnHeap$Heap" U ∧ va_AO "UrnHeap$Kind" U
def gk_ (G : gp_) (U : State) (H : Heap) : Prop := gkS_ G U H ∧ gkE_ G U H ∧ gkZ_ G U H ∧ gkT_ G U H ∧ gkN_ G U
theorem gk_alike {G : gp_} {u U : State} {H : Heap} (hvm : u.vm.Alike U.vm) (hN : gkN_ G U) (h : gk_ G u H) : gk_ G U H :=
  ⟨fun i hi => vk_S.moved hvm (h.1 i hi), fun i hi => ⟨va_O.moved hvm (h.2.1 i hi).1, va_OF.moved hvm (h.2.1 i hi).2.1, va_OF.moved hvm (h.2.1 i hi).2.2⟩,
   ⟨va_Z.moved hvm h.2.2.1.1, va_Z.moved hvm h.2.2.1.2.1, va_Z.moved hvm h.2.2.1.2.2.1, va_Z.moved hvm h.2.2.1.2.2.2.1, va_Z.moved hvm h.2.2.1.2.2.2.2.1, va_Z.moved hvm h.2.2.1.2.2.2.2.2⟩,
   ⟨va_T.moved hvm h.2.2.2.1.1, va_T.moved hvm h.2.2.2.1.2.1, va_T.moved hvm h.2.2.2.1.2.2.1, va_T.moved hvm h.2.2.2.1.2.2.2⟩, hN⟩
theorem gk_warm {G : gp_} {u U : State} {H : Heap} (hW : u.WarmedH U.vm) (h : gk_ G u H) : gk_ G U H :=
  gk_alike hW.alike ⟨fun w hw => va_Nw.warmM hW (h.2.2.2.2.1 w hw), va_Nw.warmF hW h.2.2.2.2.2.1, fun i w hw => vk_R.warm hW (h.2.2.2.2.2.2.1 i w hw), va_AO.moved hW.alike h.2.2.2.2.2.2.2.1, va_AO.moved hW.alike h.2.2.2.2.2.2.2.2⟩ h
theorem gk_same {G : gp_} {u U : State} {H : Heap} (hv : U.vm = u.vm) (h : gk_ G u H) : gk_ G U H :=
  gk_alike (by rw [hv]; exact Vm.Alike.refl _) ⟨fun w hw => va_Nw.same rfl hv.symm (h.2.2.2.2.1 w hw), va_Nw.same rfl hv.symm h.2.2.2.2.2.1, fun i w hw => vk_R.same hv (h.2.2.2.2.2.2.1 i w hw), va_AO.moved (by rw [hv]; exact Vm.Alike.refl _) h.2.2.2.2.2.2.2.1, va_AO.moved (by rw [hv]; exact Vm.Alike.refl _) h.2.2.2.2.2.2.2.2⟩ h
theorem gk_kept {G : gp_} {U : State} {H H1 : Heap} (h : gk_ G U H) (hq : ∀ a : Nat, a < H.size → ¬ G.2.2 ≤ a → H1[a]? = H[a]?) : gk_ G U H1 :=
  ⟨fun i hi => vk_S.kept (h.1 i hi) hq, fun i hi => ⟨va_O.kept (h.2.1 i hi).1 hq, va_OF.kept (h.2.1 i hi).2.1 hq, va_OF.kept (h.2.1 i hi).2.2 hq⟩,
   ⟨va_Z.kept h.2.2.1.1 hq, va_Z.kept h.2.2.1.2.1 hq, va_Z.kept h.2.2.1.2.2.1 hq, va_Z.kept h.2.2.1.2.2.2.1 hq, va_Z.kept h.2.2.1.2.2.2.2.1 hq, va_Z.kept h.2.2.1.2.2.2.2.2 hq⟩,
   ⟨va_T.kept h.2.2.2.1.1 hq, va_T.kept h.2.2.2.1.2.1 hq, va_T.kept h.2.2.2.1.2.2.1 hq, va_T.kept h.2.2.2.1.2.2.2 hq⟩, h.2.2.2.2⟩
def cx_ (G : gp_) (X : ct_) (cc : ByteArray) (own : String) (rm : Room) (ret : Option FieldType) (nl : Nat) : Prop := match X with
  | (p, _, _, R, s, m, args, _, meth, c, _, A, nL) => p.tables.exec = Jvm.exec ∧ c.code = cc ∧ (∀ w ∈ gT_, w.before args s = true) ∧ s.vm.findClass own = some m.cls ∧ va_K G.1 vwCl (tys_ G.1) s ∧ (∀ q, s.heap.size ≤ q → A q) ∧ c.maxLocals = nL ∧ meth.locks = false ∧ (∀ q, A q → G.2.2 ≤ q) ∧ R = rm ∧ meth.sig.returnType = ret ∧ gk_ G s s.heap ∧ nL = nl
def wx_ (G : gp_) (X : ct_) (N : Nat) (ad : Nat → Nat) (ce : Nat → (Int → Int) → va_E) (μ : mu_T) (k n pc : Nat) (lv : List (Nat × Value)) (st : List Value) : Prop := match X with
  | (p, l, e, R, s, m, args, below, meth, c, Q, A, nL) => ∀ (H : Heap) (locs : List Loc) (ls : Array Slot), va_P G.1 vwCl (wl_ N ad ce μ) H → va_D A (wl_ N ad ce μ) → va_S A s.heap H locs → lv_has ls nL lv → W p l e R s m args below meth c H locs k n Q (F0 m pc ls st)
def po_ (G : gp_) (N : Nat) (ad : Nat → Nat) (ce : Nat → (Int → Int) → va_E) (A : Nat → Prop) (μ : mu_T) (t : State) : Prop := va_P G.1 vwCl (wl_ N ad ce μ) t.heap ∧ va_K G.1 vwCl (tys_ G.1) t ∧ va_D A (wl_ N ad ce μ)
def pr_ (G : gp_) (N : Nat) (ad : Nat → Nat) (ce : Nat → (Int → Int) → va_E) (μ : mu_T) (sz : Nat) (U : State) : Prop := U.heap.size = sz ∧ va_P G.1 vwCl (wl_ N ad ce μ) U.heap ∧ va_K G.1 vwCl (tys_ G.1) U ∧ va_D (fun q => G.2.2 ≤ q) (wl_ N ad ce μ) ∧ G.2.2 ≤ sz ∧ gk_ G U U.heap
def qi_ (G : gp_) (N : Nat) (ad : Nat → Nat) (ce : Nat → (Int → Int) → va_E) (A : Nat → Prop) (a : Int) (μ : mu_T) : Array Value → State → Outcome → State → Prop := va_Qi (fun (r : Int32) (_ : Unit) => r = iI a) (fun _ t => po_ G N ad ce A μ t) A
def qv_ (G : gp_) (N : Nat) (ad : Nat → Nat) (ce : Nat → (Int → Int) → va_E) (A : Nat → Prop) (μ : mu_T) : Array Value → State → Outcome → State → Prop := va_Qv (fun (_ : Unit) => True) (fun _ t => po_ G N ad ce A μ t) A
/-- a contract: int answers (boolean, char) -/
def mi_ (y : MethodName) (cc : ByteArray) (maxL : Nat) (ret : Option FieldType) (rm : Room) (G : gp_) (N : Nat) (ad : Nat → Nat) (ce : Nat → (Int → Int) → va_E) (av : List Value) (μ : mu_T) (a : Int) (μ' : mu_T) : Prop := ∀ (l : Launch) (sz : Nat), Met l y (Cond.code y cc maxL ret :: gT_) rm (va_Pc av (pr_ G N ad ce μ sz)) (qi_ G N ad ce (va_A (wl_ N ad ce μ) sz) a μ') rm.cells rm.slots (va_A (wl_ N ad ce μ) sz)
def mv_ (y : MethodName) (cc : ByteArray) (maxL : Nat) (rm : Room) (G : gp_) (N : Nat) (ad : Nat → Nat) (ce : Nat → (Int → Int) → va_E) (av : List Value) (μ : mu_T) (μ' : mu_T) : Prop := ∀ (l : Launch) (sz : Nat), Met l y (Cond.code y cc maxL none :: gT_) rm (va_Pc av (pr_ G N ad ce μ sz)) (qv_ G N ad ce (va_A (wl_ N ad ce μ) sz) μ') rm.cells rm.slots (va_A (wl_ N ad ce μ) sz)
def ei_ (G : gp_) (X : ct_) (N : Nat) (ad : Nat → Nat) (ce : Nat → (Int → Int) → va_E) (a : Int) (μ : mu_T) (rm : Room) : Prop := match X with
  | (_, _, _, _, s, _, args, below, _, _, Q, A, _) => Q = MQ below (qi_ G N ad ce A a μ) args s rm.cells rm.slots A
def ev_ (G : gp_) (X : ct_) (N : Nat) (ad : Nat → Nat) (ce : Nat → (Int → Int) → va_E) (μ : mu_T) (rm : Room) : Prop := match X with
  | (_, _, _, _, s, _, args, below, _, _, Q, A, _) => Q = MQ below (qv_ G N ad ce A μ) args s rm.cells rm.slots A
section MIN
variable {y : MethodName} {cc : ByteArray} {maxL : Nat} {ret : Option FieldType} {rm : Room} {G : gp_} {N : Nat} {ad : Nat → Nat} {ce : Nat → (Int → Int) → va_E} {av : List Value} {μ μ' : mu_T} {a : Int} {own : String} {lv : List (Nat × Value)}
theorem mi_in (hy : plainName y.cls = true) (hown : y.cls = own) (hlv : lv_args 0 av = lv) (hn : (lg_sl av).length ≤ maxL) (body : ∀ X : ct_, cx_ G X cc own rm ret maxL → ei_ G X N ad ce a μ' rm → wx_ G X N ad ce μ 0 0 0 lv []) : mi_ y cc maxL ret rm G N ad ce av μ a μ' := by
  intro l sz
  refine Met.ofW (cc := cc) (maxL := maxL) (ret := ret) hy rfl ?_
  intro p e s m args below meth c s₁ B hml hv
  obtain ⟨rfl, hsz, hP, hK, hD0, hbs, hg⟩ := hv
  subst hsz
  have hts := atoms_spec (ws := Cond.code y cc maxL ret :: gT_) B.pre
  have hfc : s.vm.findClass y.cls = some m.cls := findClass_of_methodNamed B.named
  rw [lg_entry_eq]
  have hl := lv_entry av hn
  rw [hlv] at hl
  have hAb : ∀ q, va_A (wl_ N ad ce μ) s.heap.size q → G.2.2 ≤ q := fun q h => by
    rcases h with ⟨k, e, h⟩ | h
    · exact hD0.2 k _ h
    · exact Nat.le_trans hbs h
  exact body (p, l, e, (headSpec (Cond.code y cc maxL ret :: gT_) rm).room, s, m, av.toArray, below, meth, c, _, va_A (wl_ N ad ce μ) s.heap.size, maxL)
    ⟨B.exec, B.bytes, fun w hw => hts w (List.mem_cons_of_mem _ hw), hown ▸ hfc, hK, fun q h => Or.inr h, hml, B.notSynchronized, hAb, rfl, B.returns, hg, rfl⟩ rfl s.heap [] _ hP (hD0.self (sz := s.heap.size)) va_S.rf hl
theorem mv_in (hy : plainName y.cls = true) (hown : y.cls = own) (hlv : lv_args 0 av = lv) (hn : (lg_sl av).length ≤ maxL) (body : ∀ X : ct_, cx_ G X cc own rm none maxL → ev_ G X N ad ce μ' rm → wx_ G X N ad ce μ 0 0 0 lv []) : mv_ y cc maxL rm G N ad ce av μ μ' := by
  intro l sz
  refine Met.ofW (cc := cc) (maxL := maxL) (ret := none) hy rfl ?_
  intro p e s m args below meth c s₁ B hml hv
  obtain ⟨rfl, hsz, hP, hK, hD0, hbs, hg⟩ := hv
  subst hsz
  have hts := atoms_spec (ws := Cond.code y cc maxL none :: gT_) B.pre
  have hfc : s.vm.findClass y.cls = some m.cls := findClass_of_methodNamed B.named
  rw [lg_entry_eq]
  have hl := lv_entry av hn
  rw [hlv] at hl
  have hAb : ∀ q, va_A (wl_ N ad ce μ) s.heap.size q → G.2.2 ≤ q := fun q h => by
    rcases h with ⟨k, e, h⟩ | h
    · exact hD0.2 k _ h
    · exact Nat.le_trans hbs h
  exact body (p, l, e, (headSpec (Cond.code y cc maxL none :: gT_) rm).room, s, m, av.toArray, below, meth, c, _, va_A (wl_ N ad ce μ) s.heap.size, maxL)
    ⟨B.exec, B.bytes, fun w hw => hts w (List.mem_cons_of_mem _ hw), hown ▸ hfc, hK, fun q h => Or.inr h, hml, B.notSynchronized, hAb, rfl, B.returns, hg, rfl⟩ rfl s.heap [] _ hP (hD0.self (sz := s.heap.size)) va_S.rf hl
end MIN
end
section
/-! rows over wx_ (written by wip/gen/rows.py) -/
/-- a switch on numbers: the branches by their values -/
def tw_ {α : Type} (a : Int) : List Int → List (Option α) → Option α → Option α
  | v :: vs, b :: bs, df => if a = v then b else tw_ a vs bs df
  | _, _, df => df
def ts_ {α : Type} (a : Int) (vs : List Int) (bs : List (Option α)) (df : Option α) : Option α := if rg_ a then tw_ a vs bs df else none
def ti_ (a : Int) : List Int → List Nat → Nat → Nat
  | v :: vs, t :: ts, tD => if a = v then t else ti_ a vs ts tD
  | _, _, tD => tD
def tk_ (pc : Nat) (dflt lo hi : Int) (offs : List Int) (vs : List Int) (ts : List Nat) (tD : Nat) : Bool :=
  decide ((pc : Int) + dflt = (tD : Int)) && decide (lo + offs.length = hi + 1) && decide (vs.length = ts.length) && (List.range offs.length).all (fun i => decide ((pc : Int) + offs.getD i 0 = ((ti_ (lo + i) vs ts tD : Nat) : Int))) && (List.range vs.length).all (fun i => decide (lo ≤ vs.getD i 0 ∧ vs.getD i 0 ≤ hi ∧ ti_ (vs.getD i 0) vs ts tD = ts.getD i 0))
theorem ti_no (a : Int) : ∀ (vs : List Int) (ts : List Nat) (tD : Nat), (∀ v ∈ vs, a ≠ v) → ti_ a vs ts tD = tD
  | [], _, _, _ => by unfold ti_; rfl
  | v :: vs, [], _, _ => by unfold ti_; rfl
  | v :: vs, t :: ts, tD, h => by
    unfold ti_
    rw [if_neg (h v List.mem_cons_self)]
    exact ti_no a vs ts tD (fun w hw => h w (List.mem_cons_of_mem _ hw))
theorem tk_p {pc : Nat} {dflt lo hi : Int} {offs vs : List Int} {ts : List Nat} {tD : Nat} (h : tk_ pc dflt lo hi offs vs ts tD = true) : (pc : Int) + dflt = (tD : Int) ∧ lo + offs.length = hi + 1 ∧ vs.length = ts.length ∧ (∀ i, i < offs.length → (pc : Int) + offs.getD i 0 = ((ti_ (lo + i) vs ts tD : Nat) : Int)) ∧ ∀ i, i < vs.length → lo ≤ vs.getD i 0 ∧ vs.getD i 0 ≤ hi ∧ ti_ (vs.getD i 0) vs ts tD = ts.getD i 0 := by
  simp only [tk_, Bool.and_eq_true, decide_eq_true_eq, List.all_eq_true, List.mem_range] at h
  exact ⟨h.1.1.1.1, h.1.1.1.2, h.1.1.2, h.1.2, h.2⟩
theorem tk_d {pc : Nat} {dflt lo hi : Int} {offs vs : List Int} {ts : List Nat} {tD : Nat} (h : tk_ pc dflt lo hi offs vs ts tD = true) : (pc : Int) + dflt = (tD : Int) := (tk_p h).1
theorem tk_o {pc : Nat} {dflt lo hi : Int} {offs vs : List Int} {ts : List Nat} {tD : Nat} (h : tk_ pc dflt lo hi offs vs ts tD = true) {a : Int} (ha : lo ≤ a ∧ a ≤ hi) (hno : ∀ v ∈ vs, a ≠ v) : ∃ off, offs[(a - lo).toNat]? = some off ∧ (pc : Int) + off = (tD : Int) := by
  obtain ⟨-, h2, -, h4, -⟩ := tk_p h
  have hi : (a - lo).toNat < offs.length := by omega
  refine ⟨offs.getD (a - lo).toNat 0, ?_, ?_⟩
  · rw [List.getD_eq_getElem?_getD, List.getElem?_eq_getElem hi]; rfl
  · rw [h4 _ hi, show lo + (((a - lo).toNat : Nat) : Int) = a by omega, ti_no a vs ts tD hno]
theorem tk_i {pc : Nat} {dflt lo hi : Int} {offs vs : List Int} {ts : List Nat} {tD : Nat} (h : tk_ pc dflt lo hi offs vs ts tD = true) {i : Nat} {a : Int} (ha : vs[i]? = some a) : ∃ t off, ts[i]? = some t ∧ offs[(a - lo).toNat]? = some off ∧ (pc : Int) + off = (t : Int) ∧ lo ≤ a ∧ a ≤ hi := by
  obtain ⟨-, h2, h3, h4, h5⟩ := tk_p h
  have hiv : i < vs.length := (List.getElem?_eq_some_iff.mp ha).1
  have hg : vs.getD i 0 = a := by rw [List.getD_eq_getElem?_getD, ha]; rfl
  obtain ⟨q1, q2, q3⟩ := h5 i hiv
  rw [hg] at q1 q2 q3
  have hi : (a - lo).toNat < offs.length := by omega
  refine ⟨ts.getD i 0, offs.getD (a - lo).toNat 0, ?_, ?_, ?_, q1, q2⟩
  · rw [List.getD_eq_getElem?_getD, List.getElem?_eq_getElem (by omega)]; rfl
  · rw [List.getD_eq_getElem?_getD, List.getElem?_eq_getElem hi]; rfl
  · rw [h4 _ hi, show lo + (((a - lo).toNat : Nat) : Int) = a by omega, q3]
theorem tw_e {α : Type} {a : Int} {r : α} {df : Option α} : ∀ (vs : List Int) (bs : List (Option α)), tw_ a vs bs df = some r → ((∀ v ∈ vs.take bs.length, a ≠ v) ∧ df = some r) ∨ ∃ (i : Nat) (b : Option α), vs[i]? = some a ∧ bs[i]? = some b ∧ b = some r
  | [], bs, h => Or.inl ⟨fun v hv => by simp at hv, by unfold tw_ at h; exact h⟩
  | v :: vs, [], h => Or.inl ⟨fun v hv => by simp at hv, by unfold tw_ at h; exact h⟩
  | v :: vs, b :: bs, h => by
    unfold tw_ at h
    split at h
    next hc => exact Or.inr ⟨0, b, by rw [hc]; rfl, rfl, h⟩
    next hc =>
      rcases tw_e vs bs h with ⟨h1, h2⟩ | ⟨i, b, h1, h2, h3⟩
      · refine Or.inl ⟨fun w hw => ?_, h2⟩
        rcases List.mem_cons.mp (by simpa using hw) with rfl | hw
        · exact hc
        · exact h1 w hw
      · exact Or.inr ⟨i + 1, b, h1, h2, h3⟩
theorem tw_e2 {α : Type} {a : Int} {r : α} {df : Option α} {vs : List Int} {bs : List (Option α)} (hl : vs.length = bs.length) (h : tw_ a vs bs df = some r) : ((∀ v ∈ vs, a ≠ v) ∧ df = some r) ∨ ∃ (i : Nat) (b : Option α), vs[i]? = some a ∧ bs[i]? = some b ∧ b = some r := by
  have h1 := tw_e vs bs h
  rw [← hl, List.take_length] at h1
  exact h1
section XR
variable {G : gp_} {X : ct_} {N : Nat} {ad : Nat → Nat} {ce : Nat → (Int → Int) → va_E} {μ : mu_T} {k n pc : Nat} {lv lv1 : List (Nat × Value)} {st stk : List Value} {cc : ByteArray} {own : String} {rm : Room} {ret : Option FieldType} {nl : Nat} {α : Type} {r : α}
theorem xx_iconst (C : cx_ G X cc own rm ret nl) (p1 : Nat) (hp : pc + 1 = p1) {v : Int} (d : decode cc pc = .ok (.iconst v, 1))  (h : wx_ G X N ad ce μ k n p1 lv (.int (iI v) :: st)) : wx_ G X N ad ce μ k n pc lv st := by
  obtain ⟨p, l, e, R, s, m, args, below, meth, c, Q, A, nL⟩ := X
  intro H locs ls hP hD hS hl
  subst hp
  refine lv_iconst C.1 C.2.1 d rfl ?_
  exact h H locs ls hP hD hS hl
theorem xx_bipush (C : cx_ G X cc own rm ret nl) (p1 : Nat) (hp : pc + 2 = p1) {v : Int} (d : decode cc pc = .ok (.bipush v, 2)) (hv : (Int8.ofInt v).toInt32 = iI v) (h : wx_ G X N ad ce μ k n p1 lv (.int (iI v) :: st)) : wx_ G X N ad ce μ k n pc lv st := by
  obtain ⟨p, l, e, R, s, m, args, below, meth, c, Q, A, nL⟩ := X
  intro H locs ls hP hD hS hl
  subst hp
  refine lv_bipush C.1 C.2.1 d hv ?_
  exact h H locs ls hP hD hS hl
theorem xx_sipush (C : cx_ G X cc own rm ret nl) (p1 : Nat) (hp : pc + 3 = p1) {v : Int} (d : decode cc pc = .ok (.sipush v, 3)) (hv : (Int16.ofInt v).toInt32 = iI v) (h : wx_ G X N ad ce μ k n p1 lv (.int (iI v) :: st)) : wx_ G X N ad ce μ k n pc lv st := by
  obtain ⟨p, l, e, R, s, m, args, below, meth, c, Q, A, nL⟩ := X
  intro H locs ls hP hD hS hl
  subst hp
  refine lv_sipush C.1 C.2.1 d hv ?_
  exact h H locs ls hP hD hS hl
theorem xx_iadd (C : cx_ G X cc own rm ret nl) (p1 : Nat) (hp : pc + 1 = p1) {a b : Int} (d : decode cc pc = .ok (.iadd, 1))  (h : wx_ G X N ad ce μ k n p1 lv (.int (iI (a + b)) :: st)) : wx_ G X N ad ce μ k n pc lv (.int (iI b) :: .int (iI a) :: st) := by
  obtain ⟨p, l, e, R, s, m, args, below, meth, c, Q, A, nL⟩ := X
  intro H locs ls hP hD hS hl
  subst hp
  refine lv_iadd C.1 C.2.1 d ?_
  rw [iI_add]
  exact h H locs ls hP hD hS hl
theorem xx_isub (C : cx_ G X cc own rm ret nl) (p1 : Nat) (hp : pc + 1 = p1) {a b : Int} (d : decode cc pc = .ok (.isub, 1))  (h : wx_ G X N ad ce μ k n p1 lv (.int (iI (a - b)) :: st)) : wx_ G X N ad ce μ k n pc lv (.int (iI b) :: .int (iI a) :: st) := by
  obtain ⟨p, l, e, R, s, m, args, below, meth, c, Q, A, nL⟩ := X
  intro H locs ls hP hD hS hl
  subst hp
  refine lv_isub C.1 C.2.1 d ?_
  rw [iI_sub]
  exact h H locs ls hP hD hS hl
theorem xx_imul (C : cx_ G X cc own rm ret nl) (p1 : Nat) (hp : pc + 1 = p1) {a b : Int} (d : decode cc pc = .ok (.imul, 1))  (h : wx_ G X N ad ce μ k n p1 lv (.int (iI (a * b)) :: st)) : wx_ G X N ad ce μ k n pc lv (.int (iI b) :: .int (iI a) :: st) := by
  obtain ⟨p, l, e, R, s, m, args, below, meth, c, Q, A, nL⟩ := X
  intro H locs ls hP hD hS hl
  subst hp
  refine lv_imul C.1 C.2.1 d ?_
  rw [iI_mul]
  exact h H locs ls hP hD hS hl
theorem xx_ineg (C : cx_ G X cc own rm ret nl) (p1 : Nat) (hp : pc + 1 = p1) {a : Int} (d : decode cc pc = .ok (.ineg, 1))  (h : wx_ G X N ad ce μ k n p1 lv (.int (iI (-a)) :: st)) : wx_ G X N ad ce μ k n pc lv (.int (iI a) :: st) := by
  obtain ⟨p, l, e, R, s, m, args, below, meth, c, Q, A, nL⟩ := X
  intro H locs ls hP hD hS hl
  subst hp
  refine lv_ineg C.1 C.2.1 d ?_
  rw [iI_neg]
  exact h H locs ls hP hD hS hl
theorem xx_iand (C : cx_ G X cc own rm ret nl) (p1 : Nat) (hp : pc + 1 = p1) {a b : Int} (d : decode cc pc = .ok (.iand, 1))  (h : wx_ G X N ad ce μ k n p1 lv (.int (iI (an_ a b)) :: st)) : wx_ G X N ad ce μ k n pc lv (.int (iI b) :: .int (iI a) :: st) := by
  obtain ⟨p, l, e, R, s, m, args, below, meth, c, Q, A, nL⟩ := X
  intro H locs ls hP hD hS hl
  subst hp
  refine lv_iand C.1 C.2.1 d ?_
  rw [show iI a &&& iI b = iI (an_ a b) from (iI_of _).symm]
  exact h H locs ls hP hD hS hl
theorem xx_ior (C : cx_ G X cc own rm ret nl) (p1 : Nat) (hp : pc + 1 = p1) {a b : Int} (d : decode cc pc = .ok (.ior, 1))  (h : wx_ G X N ad ce μ k n p1 lv (.int (iI (or_ a b)) :: st)) : wx_ G X N ad ce μ k n pc lv (.int (iI b) :: .int (iI a) :: st) := by
  obtain ⟨p, l, e, R, s, m, args, below, meth, c, Q, A, nL⟩ := X
  intro H locs ls hP hD hS hl
  subst hp
  refine lv_ior C.1 C.2.1 d ?_
  rw [show iI a ||| iI b = iI (or_ a b) from (iI_of _).symm]
  exact h H locs ls hP hD hS hl
theorem xx_ixor (C : cx_ G X cc own rm ret nl) (p1 : Nat) (hp : pc + 1 = p1) {a b : Int} (d : decode cc pc = .ok (.ixor, 1))  (h : wx_ G X N ad ce μ k n p1 lv (.int (iI (xo_ a b)) :: st)) : wx_ G X N ad ce μ k n pc lv (.int (iI b) :: .int (iI a) :: st) := by
  obtain ⟨p, l, e, R, s, m, args, below, meth, c, Q, A, nL⟩ := X
  intro H locs ls hP hD hS hl
  subst hp
  refine lv_ixor C.1 C.2.1 d ?_
  rw [show iI a ^^^ iI b = iI (xo_ a b) from (iI_of _).symm]
  exact h H locs ls hP hD hS hl
theorem xx_ishl (C : cx_ G X cc own rm ret nl) (p1 : Nat) (hp : pc + 1 = p1) {a b : Int} (d : decode cc pc = .ok (.ishl, 1))  (h : wx_ G X N ad ce μ k n p1 lv (.int (iI (sl_ a b)) :: st)) : wx_ G X N ad ce μ k n pc lv (.int (iI b) :: .int (iI a) :: st) := by
  obtain ⟨p, l, e, R, s, m, args, below, meth, c, Q, A, nL⟩ := X
  intro H locs ls hP hD hS hl
  subst hp
  refine lv_ishl C.1 C.2.1 d ?_
  rw [show iI a <<< (iI b &&& 31) = iI (sl_ a b) from (iI_of _).symm]
  exact h H locs ls hP hD hS hl
theorem xx_ishr (C : cx_ G X cc own rm ret nl) (p1 : Nat) (hp : pc + 1 = p1) {a b : Int} (d : decode cc pc = .ok (.ishr, 1))  (h : wx_ G X N ad ce μ k n p1 lv (.int (iI (sr_ a b)) :: st)) : wx_ G X N ad ce μ k n pc lv (.int (iI b) :: .int (iI a) :: st) := by
  obtain ⟨p, l, e, R, s, m, args, below, meth, c, Q, A, nL⟩ := X
  intro H locs ls hP hD hS hl
  subst hp
  refine lv_ishr C.1 C.2.1 d ?_
  rw [show iI a >>> (iI b &&& 31) = iI (sr_ a b) from (iI_of _).symm]
  exact h H locs ls hP hD hS hl
theorem xx_iushr (C : cx_ G X cc own rm ret nl) (p1 : Nat) (hp : pc + 1 = p1) {a b : Int} (d : decode cc pc = .ok (.iushr, 1))  (h : wx_ G X N ad ce μ k n p1 lv (.int (iI (su_ a b)) :: st)) : wx_ G X N ad ce μ k n pc lv (.int (iI b) :: .int (iI a) :: st) := by
  obtain ⟨p, l, e, R, s, m, args, below, meth, c, Q, A, nL⟩ := X
  intro H locs ls hP hD hS hl
  subst hp
  refine lv_iushr C.1 C.2.1 d (iI_of _).symm ?_
  exact h H locs ls hP hD hS hl
theorem xx_i2c (C : cx_ G X cc own rm ret nl) (p1 : Nat) (hp : pc + 1 = p1) {a : Int} (d : decode cc pc = .ok (.i2c, 1))  (h : wx_ G X N ad ce μ k n p1 lv (.int (iI (i2c_ a)) :: st)) : wx_ G X N ad ce μ k n pc lv (.int (iI a) :: st) := by
  obtain ⟨p, l, e, R, s, m, args, below, meth, c, Q, A, nL⟩ := X
  intro H locs ls hP hD hS hl
  subst hp
  refine lv_i2c C.1 C.2.1 d (iI_of _).symm ?_
  exact h H locs ls hP hD hS hl
theorem xx_i2b (C : cx_ G X cc own rm ret nl) (p1 : Nat) (hp : pc + 1 = p1) {a : Int} (d : decode cc pc = .ok (.i2b, 1))  (h : wx_ G X N ad ce μ k n p1 lv (.int (iI (i2b_ a)) :: st)) : wx_ G X N ad ce μ k n pc lv (.int (iI a) :: st) := by
  obtain ⟨p, l, e, R, s, m, args, below, meth, c, Q, A, nL⟩ := X
  intro H locs ls hP hD hS hl
  subst hp
  refine lv_i2b C.1 C.2.1 d (iI_of _).symm ?_
  exact h H locs ls hP hD hS hl
theorem xx_dup (C : cx_ G X cc own rm ret nl) (p1 : Nat) (hp : pc + 1 = p1) {va : Value} (d : decode cc pc = .ok (.dup, 1)) (hva : va.category = 1) (h : wx_ G X N ad ce μ k n p1 lv (va :: va :: st)) : wx_ G X N ad ce μ k n pc lv (va :: st) := by
  obtain ⟨p, l, e, R, s, m, args, below, meth, c, Q, A, nL⟩ := X
  intro H locs ls hP hD hS hl
  subst hp
  refine lv_dup C.1 C.2.1 d hva ?_
  exact h H locs ls hP hD hS hl
theorem xx_pop (C : cx_ G X cc own rm ret nl) (p1 : Nat) (hp : pc + 1 = p1) {va : Value} (d : decode cc pc = .ok (.pop, 1)) (hva : va.category = 1) (h : wx_ G X N ad ce μ k n p1 lv st) : wx_ G X N ad ce μ k n pc lv (va :: st) := by
  obtain ⟨p, l, e, R, s, m, args, below, meth, c, Q, A, nL⟩ := X
  intro H locs ls hP hD hS hl
  subst hp
  refine lv_pop C.1 C.2.1 d hva ?_
  exact h H locs ls hP hD hS hl
theorem xx_dup_x1 (C : cx_ G X cc own rm ret nl) (p1 : Nat) (hp : pc + 1 = p1) {va vb : Value} (d : decode cc pc = .ok (.dup_x1, 1)) (hva : va.category = 1) (hvb : vb.category = 1) (h : wx_ G X N ad ce μ k n p1 lv (va :: vb :: va :: st)) : wx_ G X N ad ce μ k n pc lv (va :: vb :: st) := by
  obtain ⟨p, l, e, R, s, m, args, below, meth, c, Q, A, nL⟩ := X
  intro H locs ls hP hD hS hl
  subst hp
  refine lv_dup_x1 C.1 C.2.1 d hva hvb ?_
  exact h H locs ls hP hD hS hl
theorem xx_dup2 (C : cx_ G X cc own rm ret nl) (p1 : Nat) (hp : pc + 1 = p1) {va vb : Value} (d : decode cc pc = .ok (.dup2, 1)) (hva : va.category = 1) (hvb : vb.category = 1) (h : wx_ G X N ad ce μ k n p1 lv (va :: vb :: va :: vb :: st)) : wx_ G X N ad ce μ k n pc lv (va :: vb :: st) := by
  obtain ⟨p, l, e, R, s, m, args, below, meth, c, Q, A, nL⟩ := X
  intro H locs ls hP hD hS hl
  subst hp
  refine lv_dup2_11 C.1 C.2.1 d hva hvb ?_
  exact h H locs ls hP hD hS hl
theorem xx_i2d (C : cx_ G X cc own rm ret nl) (p1 : Nat) (hp : pc + 1 = p1) {a : Int} (d : decode cc pc = .ok (.i2d, 1))  (h : wx_ G X N ad ce μ k n p1 lv (.double (FP.i2d (iI a)) :: st)) : wx_ G X N ad ce μ k n pc lv (.int (iI a) :: st) := by
  obtain ⟨p, l, e, R, s, m, args, below, meth, c, Q, A, nL⟩ := X
  intro H locs ls hP hD hS hl
  subst hp
  refine lv_i2d C.1 C.2.1 d ?_
  exact h H locs ls hP hD hS hl
theorem xx_i2f (C : cx_ G X cc own rm ret nl) (p1 : Nat) (hp : pc + 1 = p1) {a : Int} (d : decode cc pc = .ok (.i2f, 1))  (h : wx_ G X N ad ce μ k n p1 lv (.float (FP.i2f (iI a)) :: st)) : wx_ G X N ad ce μ k n pc lv (.int (iI a) :: st) := by
  obtain ⟨p, l, e, R, s, m, args, below, meth, c, Q, A, nL⟩ := X
  intro H locs ls hP hD hS hl
  subst hp
  refine lv_i2f C.1 C.2.1 d ?_
  exact h H locs ls hP hD hS hl
theorem xx_dconst0 (C : cx_ G X cc own rm ret nl) (p1 : Nat) (hp : pc + 1 = p1)  (d : decode cc pc = .ok (.dconst 0, 1))  (h : wx_ G X N ad ce μ k n p1 lv (.double FP.dconst0 :: st)) : wx_ G X N ad ce μ k n pc lv st := by
  obtain ⟨p, l, e, R, s, m, args, below, meth, c, Q, A, nL⟩ := X
  intro H locs ls hP hD hS hl
  subst hp
  refine lv_dconst0 C.1 C.2.1 d ?_
  exact h H locs ls hP hD hS hl
theorem xx_fconst0 (C : cx_ G X cc own rm ret nl) (p1 : Nat) (hp : pc + 1 = p1)  (d : decode cc pc = .ok (.fconst 0, 1))  (h : wx_ G X N ad ce μ k n p1 lv (.float FP.fconst0 :: st)) : wx_ G X N ad ce μ k n pc lv st := by
  obtain ⟨p, l, e, R, s, m, args, below, meth, c, Q, A, nL⟩ := X
  intro H locs ls hP hD hS hl
  subst hp
  refine lv_fconst0 C.1 C.2.1 d ?_
  exact h H locs ls hP hD hS hl
theorem xx_iload_n (C : cx_ G X cc own rm ret nl) (p1 : Nat) (hp : pc + 1 = p1) (q : Nat) {kf : Fin 4} {j : Nat} {x : Int32} (d : decode cc pc = .ok (.iload_n kf, 1)) (hi : (kf : Nat) = j) (hq : lv[q]? = some (j, .int x)) (h : wx_ G X N ad ce μ k n p1 lv (.int x :: st)) : wx_ G X N ad ce μ k n pc lv st := by
  obtain ⟨p, l, e, R, s, m, args, below, meth, c, Q, A, nL⟩ := X
  intro H locs ls hP hD hS hl
  subst hp
  exact lv_iload_n C.1 C.2.1 d hi (lv_at hl q hq) (h H locs ls hP hD hS hl)
theorem xx_iload (C : cx_ G X cc own rm ret nl) (p1 : Nat) (hp : pc + 2 = p1) (q : Nat) {j : Nat} {x : Int32} (d : decode cc pc = .ok (.iload j, 2)) (hq : lv[q]? = some (j, .int x)) (h : wx_ G X N ad ce μ k n p1 lv (.int x :: st)) : wx_ G X N ad ce μ k n pc lv st := by
  obtain ⟨p, l, e, R, s, m, args, below, meth, c, Q, A, nL⟩ := X
  intro H locs ls hP hD hS hl
  subst hp
  exact lv_iload C.1 C.2.1 d (lv_at hl q hq) (h H locs ls hP hD hS hl)
theorem xx_istore_n (C : cx_ G X cc own rm ret nl) (p1 : Nat) (hp : pc + 1 = p1) {kf : Fin 4} {j : Nat} {x : Int32} (hn : j < nl) (d : decode cc pc = .ok (.istore_n kf, 1)) (hi : (kf : Nat) = j) (hf : (j, Value.int x) :: lv.filter (fun q => !(q.1 == j) && !(q.1 + 1 == j && q.2.category == 2)) = lv1) (h : wx_ G X N ad ce μ k n p1 lv1 st) : wx_ G X N ad ce μ k n pc lv (.int x :: st) := by
  obtain ⟨p, l, e, R, s, m, args, below, meth, c, Q, A, nL⟩ := X
  intro H locs ls hP hD hS hl
  subst hp
  exact lv_istore_n C.1 C.2.1 d hi hl (C.2.2.2.2.2.2.2.2.2.2.2.2 ▸ hn) hf (fun ls hl => h H locs ls hP hD hS hl)
theorem xx_istore (C : cx_ G X cc own rm ret nl) (p1 : Nat) (hp : pc + 2 = p1) {j : Nat} {x : Int32} (hn : j < nl) (d : decode cc pc = .ok (.istore j, 2)) (hf : (j, Value.int x) :: lv.filter (fun q => !(q.1 == j) && !(q.1 + 1 == j && q.2.category == 2)) = lv1) (h : wx_ G X N ad ce μ k n p1 lv1 st) : wx_ G X N ad ce μ k n pc lv (.int x :: st) := by
  obtain ⟨p, l, e, R, s, m, args, below, meth, c, Q, A, nL⟩ := X
  intro H locs ls hP hD hS hl
  subst hp
  exact lv_istore C.1 C.2.1 d hl (C.2.2.2.2.2.2.2.2.2.2.2.2 ▸ hn) hf (fun ls hl => h H locs ls hP hD hS hl)
theorem xx_aload_n (C : cx_ G X cc own rm ret nl) (p1 : Nat) (hp : pc + 1 = p1) (q : Nat) {kf : Fin 4} {j : Nat} {x : Nat} (d : decode cc pc = .ok (.aload_n kf, 1)) (hi : (kf : Nat) = j) (hq : lv[q]? = some (j, .ref x)) (h : wx_ G X N ad ce μ k n p1 lv (.ref x :: st)) : wx_ G X N ad ce μ k n pc lv st := by
  obtain ⟨p, l, e, R, s, m, args, below, meth, c, Q, A, nL⟩ := X
  intro H locs ls hP hD hS hl
  subst hp
  exact lv_aload_n C.1 C.2.1 d hi (lv_at hl q hq) (h H locs ls hP hD hS hl)
theorem xx_aload (C : cx_ G X cc own rm ret nl) (p1 : Nat) (hp : pc + 2 = p1) (q : Nat) {j : Nat} {x : Nat} (d : decode cc pc = .ok (.aload j, 2)) (hq : lv[q]? = some (j, .ref x)) (h : wx_ G X N ad ce μ k n p1 lv (.ref x :: st)) : wx_ G X N ad ce μ k n pc lv st := by
  obtain ⟨p, l, e, R, s, m, args, below, meth, c, Q, A, nL⟩ := X
  intro H locs ls hP hD hS hl
  subst hp
  exact lv_aload C.1 C.2.1 d (lv_at hl q hq) (h H locs ls hP hD hS hl)
theorem xx_astore_n (C : cx_ G X cc own rm ret nl) (p1 : Nat) (hp : pc + 1 = p1) {kf : Fin 4} {j : Nat} {x : Nat} (hn : j < nl) (d : decode cc pc = .ok (.astore_n kf, 1)) (hi : (kf : Nat) = j) (hf : (j, Value.ref x) :: lv.filter (fun q => !(q.1 == j) && !(q.1 + 1 == j && q.2.category == 2)) = lv1) (h : wx_ G X N ad ce μ k n p1 lv1 st) : wx_ G X N ad ce μ k n pc lv (.ref x :: st) := by
  obtain ⟨p, l, e, R, s, m, args, below, meth, c, Q, A, nL⟩ := X
  intro H locs ls hP hD hS hl
  subst hp
  exact lv_astore_n C.1 C.2.1 d hi hl (C.2.2.2.2.2.2.2.2.2.2.2.2 ▸ hn) hf (fun ls hl => h H locs ls hP hD hS hl)
theorem xx_astore (C : cx_ G X cc own rm ret nl) (p1 : Nat) (hp : pc + 2 = p1) {j : Nat} {x : Nat} (hn : j < nl) (d : decode cc pc = .ok (.astore j, 2)) (hf : (j, Value.ref x) :: lv.filter (fun q => !(q.1 == j) && !(q.1 + 1 == j && q.2.category == 2)) = lv1) (h : wx_ G X N ad ce μ k n p1 lv1 st) : wx_ G X N ad ce μ k n pc lv (.ref x :: st) := by
  obtain ⟨p, l, e, R, s, m, args, below, meth, c, Q, A, nL⟩ := X
  intro H locs ls hP hD hS hl
  subst hp
  exact lv_astore C.1 C.2.1 d hl (C.2.2.2.2.2.2.2.2.2.2.2.2 ▸ hn) hf (fun ls hl => h H locs ls hP hD hS hl)
theorem xx_iinc (C : cx_ G X cc own rm ret nl) (p1 : Nat) (hp : pc + 3 = p1) (q : Nat) {j : Nat} {v x : Int} (hn : j < nl) (d : decode cc pc = .ok (.iinc j v, 3)) (hq : lv[q]? = some (j, .int (iI x))) (hf : (j, Value.int (iI (x + v))) :: lv.filter (fun q => !(q.1 == j) && !(q.1 + 1 == j && q.2.category == 2)) = lv1) (h : wx_ G X N ad ce μ k n p1 lv1 st) : wx_ G X N ad ce μ k n pc lv st := by
  obtain ⟨p, l, e, R, s, m, args, below, meth, c, Q, A, nL⟩ := X
  intro H locs ls hP hD hS hl
  subst hp
  exact lv_iinc C.1 C.2.1 d hl hq (by rw [← iI_add]; rfl) (C.2.2.2.2.2.2.2.2.2.2.2.2 ▸ hn) hf (fun ls hl => h H locs ls hP hD hS hl)
theorem xx_iincn (C : cx_ G X cc own rm ret nl) (p1 : Nat) (hp : pc + 3 = p1) (q : Nat) {j : Nat} {v x : Int} {f : Int → Option α} (hn : j < nl) (d : decode cc pc = .ok (.iinc j v, 3)) (hq : lv[q]? = some (j, .int (iI x))) (h : nm_ (x + v) f = some r) (kk : ∀ x1, f x1 = some r → wx_ G X N ad ce μ k n p1 ((j, Value.int (iI x1)) :: lv.filter (fun q => !(q.1 == j) && !(q.1 + 1 == j && q.2.category == 2))) st) : wx_ G X N ad ce μ k n pc lv st := by
  obtain ⟨p, l, e, R, s, m, args, below, meth, c, Q, A, nL⟩ := X
  intro H locs ls hP hD hS hl
  subst hp
  exact lv_iinc C.1 C.2.1 d hl hq (by rw [← iI_add]; rfl) (C.2.2.2.2.2.2.2.2.2.2.2.2 ▸ hn) rfl (fun ls hl => kk _ h H locs ls hP hD hS hl)
theorem xx_lv (e : lv = lv1) (h : wx_ G X N ad ce μ k n pc lv1 st) : wx_ G X N ad ce μ k n pc lv st := e ▸ h
theorem nn_ {P : Prop} (h : (none : Option α) = some r) : P := by cases h
theorem xx_nm (C : cx_ G X cc own rm ret nl) {v : Int} {f : Int → Option α} (h : nm_ v f = some r) (kk : ∀ x, f x = some r → wx_ G X N ad ce μ k n pc lv (.int (iI x) :: st)) : wx_ G X N ad ce μ k n pc lv (.int (iI v) :: st) := by
  obtain ⟨p, l, e, R, s, m, args, below, meth, c, Q, A, nL⟩ := X
  intro H locs ls hP hD hS hl
  exact kk v h H locs ls hP hD hS hl
theorem xx_sub (ks : List Nat) (hlv : lv_pick lv ks = lv1) (h : wx_ G X N ad ce μ k n pc lv1 st) : wx_ G X N ad ce μ k n pc lv st := by
  obtain ⟨p, l, e, R, s, m, args, below, meth, c, Q, A, nL⟩ := X
  intro H locs ls hP hD hS hl
  exact h H locs ls hP hD hS (lv_sub hl ks hlv)
theorem xx_goto (C : cx_ G X cc own rm ret nl) {off : Int} (tgt : Nat) (d : decode cc pc = .ok (.goto off, 3)) (ht : (pc : Int) + off = (tgt : Int)) (h : wx_ G X N ad ce μ k n tgt lv st) : wx_ G X N ad ce μ k n pc lv st := by
  obtain ⟨p, l, e, R, s, m, args, below, meth, c, Q, A, nL⟩ := X
  intro H locs ls hP hD hS hl
  exact lv_goto C.1 C.2.1 d ht (h H locs ls hP hD hS hl)
theorem xx_icmp_lt (C : cx_ G X cc own rm ret nl) (p1 : Nat) (hp : pc + 3 = p1) {a b : Int} {off : Int} {tgt : Nat} {t f : Option α} (d : decode cc pc = .ok (.if_icmp .lt off, 3)) (ht : (pc : Int) + off = (tgt : Int)) (h : lt_ a b t f = some r) (k1 : t = some r → wx_ G X N ad ce μ k n tgt lv st) (k2 : f = some r → wx_ G X N ad ce μ k n p1 lv st) : wx_ G X N ad ce μ k n pc lv (.int (iI b) :: .int (iI a) :: st) := by
  obtain ⟨p, l, e, R, s, m, args, below, meth, c, Q, A, nL⟩ := X
  intro H locs ls hP hD hS hl
  subst hp
  obtain ⟨hr, ⟨hc, hh⟩ | ⟨hc, hh⟩⟩ := lt_e h
  · exact lv_icmp_lt C.1 C.2.1 d ht (fun _ => k1 hh H locs ls hP hD hS hl) (fun q => absurd ((iI_lt hr.1 hr.2).mpr hc) q)
  · exact lv_icmp_lt C.1 C.2.1 d ht (fun q => absurd ((iI_lt hr.1 hr.2).mp q) hc) (fun _ => k2 hh H locs ls hP hD hS hl)
theorem xx_if_lt (C : cx_ G X cc own rm ret nl) (p1 : Nat) (hp : pc + 3 = p1) {a : Int} {off : Int} {tgt : Nat} {t f : Option α} (d : decode cc pc = .ok (.ifCond .lt off, 3)) (ht : (pc : Int) + off = (tgt : Int)) (h : lt_ a 0 t f = some r) (k1 : t = some r → wx_ G X N ad ce μ k n tgt lv st) (k2 : f = some r → wx_ G X N ad ce μ k n p1 lv st) : wx_ G X N ad ce μ k n pc lv (.int (iI a) :: st) := by
  obtain ⟨p, l, e, R, s, m, args, below, meth, c, Q, A, nL⟩ := X
  intro H locs ls hP hD hS hl
  subst hp
  obtain ⟨hr, ⟨hc, hh⟩ | ⟨hc, hh⟩⟩ := lt_e h
  · exact lv_if_lt C.1 C.2.1 d ht (fun _ => k1 hh H locs ls hP hD hS hl) (fun q => absurd ((iI_lt hr.1 hr.2).mpr hc) q)
  · exact lv_if_lt C.1 C.2.1 d ht (fun q => absurd ((iI_lt hr.1 hr.2).mp q) hc) (fun _ => k2 hh H locs ls hP hD hS hl)
theorem xx_icmp_ge (C : cx_ G X cc own rm ret nl) (p1 : Nat) (hp : pc + 3 = p1) {a b : Int} {off : Int} {tgt : Nat} {t f : Option α} (d : decode cc pc = .ok (.if_icmp .ge off, 3)) (ht : (pc : Int) + off = (tgt : Int)) (h : lt_ a b f t = some r) (k1 : t = some r → wx_ G X N ad ce μ k n tgt lv st) (k2 : f = some r → wx_ G X N ad ce μ k n p1 lv st) : wx_ G X N ad ce μ k n pc lv (.int (iI b) :: .int (iI a) :: st) := by
  obtain ⟨p, l, e, R, s, m, args, below, meth, c, Q, A, nL⟩ := X
  intro H locs ls hP hD hS hl
  subst hp
  obtain ⟨hr, ⟨hc, hh⟩ | ⟨hc, hh⟩⟩ := lt_e h
  · exact lv_icmp_ge C.1 C.2.1 d ht (fun q => absurd ((iI_le hr.2 hr.1).mp q) (by omega)) (fun _ => k2 hh H locs ls hP hD hS hl)
  · exact lv_icmp_ge C.1 C.2.1 d ht (fun _ => k1 hh H locs ls hP hD hS hl) (fun q => absurd ((iI_le hr.2 hr.1).mpr (by omega)) q)
theorem xx_if_ge (C : cx_ G X cc own rm ret nl) (p1 : Nat) (hp : pc + 3 = p1) {a : Int} {off : Int} {tgt : Nat} {t f : Option α} (d : decode cc pc = .ok (.ifCond .ge off, 3)) (ht : (pc : Int) + off = (tgt : Int)) (h : lt_ a 0 f t = some r) (k1 : t = some r → wx_ G X N ad ce μ k n tgt lv st) (k2 : f = some r → wx_ G X N ad ce μ k n p1 lv st) : wx_ G X N ad ce μ k n pc lv (.int (iI a) :: st) := by
  obtain ⟨p, l, e, R, s, m, args, below, meth, c, Q, A, nL⟩ := X
  intro H locs ls hP hD hS hl
  subst hp
  obtain ⟨hr, ⟨hc, hh⟩ | ⟨hc, hh⟩⟩ := lt_e h
  · exact lv_if_ge C.1 C.2.1 d ht (fun q => absurd ((iI_le hr.2 hr.1).mp q) (by omega)) (fun _ => k2 hh H locs ls hP hD hS hl)
  · exact lv_if_ge C.1 C.2.1 d ht (fun _ => k1 hh H locs ls hP hD hS hl) (fun q => absurd ((iI_le hr.2 hr.1).mpr (by omega)) q)
theorem xx_icmp_gt (C : cx_ G X cc own rm ret nl) (p1 : Nat) (hp : pc + 3 = p1) {a b : Int} {off : Int} {tgt : Nat} {t f : Option α} (d : decode cc pc = .ok (.if_icmp .gt off, 3)) (ht : (pc : Int) + off = (tgt : Int)) (h : lt_ b a t f = some r) (k1 : t = some r → wx_ G X N ad ce μ k n tgt lv st) (k2 : f = some r → wx_ G X N ad ce μ k n p1 lv st) : wx_ G X N ad ce μ k n pc lv (.int (iI b) :: .int (iI a) :: st) := by
  obtain ⟨p, l, e, R, s, m, args, below, meth, c, Q, A, nL⟩ := X
  intro H locs ls hP hD hS hl
  subst hp
  obtain ⟨hr, ⟨hc, hh⟩ | ⟨hc, hh⟩⟩ := lt_e h
  · exact lv_icmp_gt C.1 C.2.1 d ht (fun _ => k1 hh H locs ls hP hD hS hl) (fun q => absurd ((iI_lt hr.1 hr.2).mpr hc) q)
  · exact lv_icmp_gt C.1 C.2.1 d ht (fun q => absurd ((iI_lt hr.1 hr.2).mp q) hc) (fun _ => k2 hh H locs ls hP hD hS hl)
theorem xx_if_gt (C : cx_ G X cc own rm ret nl) (p1 : Nat) (hp : pc + 3 = p1) {a : Int} {off : Int} {tgt : Nat} {t f : Option α} (d : decode cc pc = .ok (.ifCond .gt off, 3)) (ht : (pc : Int) + off = (tgt : Int)) (h : lt_ 0 a t f = some r) (k1 : t = some r → wx_ G X N ad ce μ k n tgt lv st) (k2 : f = some r → wx_ G X N ad ce μ k n p1 lv st) : wx_ G X N ad ce μ k n pc lv (.int (iI a) :: st) := by
  obtain ⟨p, l, e, R, s, m, args, below, meth, c, Q, A, nL⟩ := X
  intro H locs ls hP hD hS hl
  subst hp
  obtain ⟨hr, ⟨hc, hh⟩ | ⟨hc, hh⟩⟩ := lt_e h
  · exact lv_if_gt C.1 C.2.1 d ht (fun _ => k1 hh H locs ls hP hD hS hl) (fun q => absurd ((iI_lt hr.1 hr.2).mpr hc) q)
  · exact lv_if_gt C.1 C.2.1 d ht (fun q => absurd ((iI_lt hr.1 hr.2).mp q) hc) (fun _ => k2 hh H locs ls hP hD hS hl)
theorem xx_icmp_le (C : cx_ G X cc own rm ret nl) (p1 : Nat) (hp : pc + 3 = p1) {a b : Int} {off : Int} {tgt : Nat} {t f : Option α} (d : decode cc pc = .ok (.if_icmp .le off, 3)) (ht : (pc : Int) + off = (tgt : Int)) (h : lt_ b a f t = some r) (k1 : t = some r → wx_ G X N ad ce μ k n tgt lv st) (k2 : f = some r → wx_ G X N ad ce μ k n p1 lv st) : wx_ G X N ad ce μ k n pc lv (.int (iI b) :: .int (iI a) :: st) := by
  obtain ⟨p, l, e, R, s, m, args, below, meth, c, Q, A, nL⟩ := X
  intro H locs ls hP hD hS hl
  subst hp
  obtain ⟨hr, ⟨hc, hh⟩ | ⟨hc, hh⟩⟩ := lt_e h
  · exact lv_icmp_le C.1 C.2.1 d ht (fun q => absurd ((iI_le hr.2 hr.1).mp q) (by omega)) (fun _ => k2 hh H locs ls hP hD hS hl)
  · exact lv_icmp_le C.1 C.2.1 d ht (fun _ => k1 hh H locs ls hP hD hS hl) (fun q => absurd ((iI_le hr.2 hr.1).mpr (by omega)) q)
theorem xx_if_le (C : cx_ G X cc own rm ret nl) (p1 : Nat) (hp : pc + 3 = p1) {a : Int} {off : Int} {tgt : Nat} {t f : Option α} (d : decode cc pc = .ok (.ifCond .le off, 3)) (ht : (pc : Int) + off = (tgt : Int)) (h : lt_ 0 a f t = some r) (k1 : t = some r → wx_ G X N ad ce μ k n tgt lv st) (k2 : f = some r → wx_ G X N ad ce μ k n p1 lv st) : wx_ G X N ad ce μ k n pc lv (.int (iI a) :: st) := by
  obtain ⟨p, l, e, R, s, m, args, below, meth, c, Q, A, nL⟩ := X
  intro H locs ls hP hD hS hl
  subst hp
  obtain ⟨hr, ⟨hc, hh⟩ | ⟨hc, hh⟩⟩ := lt_e h
  · exact lv_if_le C.1 C.2.1 d ht (fun q => absurd ((iI_le hr.2 hr.1).mp q) (by omega)) (fun _ => k2 hh H locs ls hP hD hS hl)
  · exact lv_if_le C.1 C.2.1 d ht (fun _ => k1 hh H locs ls hP hD hS hl) (fun q => absurd ((iI_le hr.2 hr.1).mpr (by omega)) q)
theorem xx_icmp_eq (C : cx_ G X cc own rm ret nl) (p1 : Nat) (hp : pc + 3 = p1) {a b : Int} {off : Int} {tgt : Nat} {t f : Option α} (d : decode cc pc = .ok (.if_icmp .eq off, 3)) (ht : (pc : Int) + off = (tgt : Int)) (h : eq_ a b t f = some r) (k1 : t = some r → wx_ G X N ad ce μ k n tgt lv st) (k2 : f = some r → wx_ G X N ad ce μ k n p1 lv st) : wx_ G X N ad ce μ k n pc lv (.int (iI b) :: .int (iI a) :: st) := by
  obtain ⟨p, l, e, R, s, m, args, below, meth, c, Q, A, nL⟩ := X
  intro H locs ls hP hD hS hl
  subst hp
  rcases eq_e h with ⟨hc, hh⟩ | ⟨hc, hc2, hh⟩
  · exact lv_icmp_eq C.1 C.2.1 d ht (fun _ => k1 hh H locs ls hP hD hS hl) (fun q => absurd (congrArg iI hc) q)
  · exact lv_icmp_eq C.1 C.2.1 d ht (fun q => absurd q hc) (fun _ => k2 hh H locs ls hP hD hS hl)
theorem xx_if_eq (C : cx_ G X cc own rm ret nl) (p1 : Nat) (hp : pc + 3 = p1) {a : Int} {off : Int} {tgt : Nat} {t f : Option α} (d : decode cc pc = .ok (.ifCond .eq off, 3)) (ht : (pc : Int) + off = (tgt : Int)) (h : eq_ a 0 t f = some r) (k1 : t = some r → wx_ G X N ad ce μ k n tgt lv st) (k2 : f = some r → wx_ G X N ad ce μ k n p1 lv st) : wx_ G X N ad ce μ k n pc lv (.int (iI a) :: st) := by
  obtain ⟨p, l, e, R, s, m, args, below, meth, c, Q, A, nL⟩ := X
  intro H locs ls hP hD hS hl
  subst hp
  rcases eq_e h with ⟨hc, hh⟩ | ⟨hc, hc2, hh⟩
  · exact lv_if_eq C.1 C.2.1 d ht (fun _ => k1 hh H locs ls hP hD hS hl) (fun q => absurd (congrArg iI hc) q)
  · exact lv_if_eq C.1 C.2.1 d ht (fun q => absurd q hc) (fun _ => k2 hh H locs ls hP hD hS hl)
theorem xx_icmp_ne (C : cx_ G X cc own rm ret nl) (p1 : Nat) (hp : pc + 3 = p1) {a b : Int} {off : Int} {tgt : Nat} {t f : Option α} (d : decode cc pc = .ok (.if_icmp .ne off, 3)) (ht : (pc : Int) + off = (tgt : Int)) (h : eq_ a b f t = some r) (k1 : t = some r → wx_ G X N ad ce μ k n tgt lv st) (k2 : f = some r → wx_ G X N ad ce μ k n p1 lv st) : wx_ G X N ad ce μ k n pc lv (.int (iI b) :: .int (iI a) :: st) := by
  obtain ⟨p, l, e, R, s, m, args, below, meth, c, Q, A, nL⟩ := X
  intro H locs ls hP hD hS hl
  subst hp
  rcases eq_e h with ⟨hc, hh⟩ | ⟨hc, hc2, hh⟩
  · exact lv_icmp_ne C.1 C.2.1 d ht (fun q => absurd (congrArg iI hc) q) (fun _ => k2 hh H locs ls hP hD hS hl)
  · exact lv_icmp_ne C.1 C.2.1 d ht (fun _ => k1 hh H locs ls hP hD hS hl) (fun q => (hc q).elim)
theorem xx_if_ne (C : cx_ G X cc own rm ret nl) (p1 : Nat) (hp : pc + 3 = p1) {a : Int} {off : Int} {tgt : Nat} {t f : Option α} (d : decode cc pc = .ok (.ifCond .ne off, 3)) (ht : (pc : Int) + off = (tgt : Int)) (h : eq_ a 0 f t = some r) (k1 : t = some r → wx_ G X N ad ce μ k n tgt lv st) (k2 : f = some r → wx_ G X N ad ce μ k n p1 lv st) : wx_ G X N ad ce μ k n pc lv (.int (iI a) :: st) := by
  obtain ⟨p, l, e, R, s, m, args, below, meth, c, Q, A, nL⟩ := X
  intro H locs ls hP hD hS hl
  subst hp
  rcases eq_e h with ⟨hc, hh⟩ | ⟨hc, hc2, hh⟩
  · exact lv_if_ne C.1 C.2.1 d ht (fun q => absurd (congrArg iI hc) q) (fun _ => k2 hh H locs ls hP hD hS hl)
  · exact lv_if_ne C.1 C.2.1 d ht (fun _ => k1 hh H locs ls hP hD hS hl) (fun q => (hc q).elim)
theorem xx_idiv (C : cx_ G X cc own rm ret nl) (p1 : Nat) (hp : pc + 1 = p1) {a b : Int} {f : Int → Option α} (d : decode cc pc = .ok (.idiv, 1)) (h : dv_ a b f = some r) (kk : ∀ v, f v = some r → wx_ G X N ad ce μ k n p1 lv (.int (iI v) :: st)) : wx_ G X N ad ce μ k n pc lv (.int (iI b) :: .int (iI a) :: st) := by
  obtain ⟨p, l, e, R, s, m, args, below, meth, c, Q, A, nL⟩ := X
  intro H locs ls hP hD hS hl
  subst hp
  obtain ⟨⟨ha, hb, h0⟩, hh⟩ := ck_e h
  have e0 : ¬ iI b = 0 := fun q => h0 ((iI_eq hb (by decide)).mp (q.trans rfl))
  refine lv_idiv C.1 C.2.1 d e0 ?_
  have hk := kk _ hh H locs ls hP hD hS hl
  rw [iI_div ha hb] at hk
  exact hk
theorem xx_irem (C : cx_ G X cc own rm ret nl) (p1 : Nat) (hp : pc + 1 = p1) {a b : Int} {f : Int → Option α} (d : decode cc pc = .ok (.irem, 1)) (h : rm_ a b f = some r) (kk : ∀ v, f v = some r → wx_ G X N ad ce μ k n p1 lv (.int (iI v) :: st)) : wx_ G X N ad ce μ k n pc lv (.int (iI b) :: .int (iI a) :: st) := by
  obtain ⟨p, l, e, R, s, m, args, below, meth, c, Q, A, nL⟩ := X
  intro H locs ls hP hD hS hl
  subst hp
  obtain ⟨⟨ha, hb, h0⟩, hh⟩ := ck_e h
  have e0 : ¬ iI b = 0 := fun q => h0 ((iI_eq hb (by decide)).mp (q.trans rfl))
  refine lv_irem C.1 C.2.1 d e0 ?_
  have hk := kk _ hh H locs ls hP hD hS hl
  rw [iI_rem ha hb] at hk
  exact hk
theorem xx_getr (C : cx_ G X cc own rm ret nl) (p1 : Nat) (hp : pc + 3 = p1) {fs : List Value} {ci : Nat} {Cn : String} {T : u_T} {NF index fi : Nat} {q : Nat} {v : Value} (hq : q < N) (he : ce q (μ q) = .inr (ci, fs)) (hc : vwCl[ci]? = some (Cn, T, NF)) (hin : ∀ w ∈ u_ws Cn T NF, w ∈ gT_) (hk : fi < NF) (hv : fs[fi]? = some v) (hlink : Cond.fieldLink own index (T fi).1 (T fi).2.1 (T fi).2.2.1 ∈ gT_) (d : decode cc pc = .ok (.getfield index, 3)) (h : wx_ G X N ad ce μ k n p1 lv (v :: st)) : wx_ G X N ad ce μ k n pc lv (.ref (ad q) :: st) := by
  obtain ⟨p, l, e, R, s, m, args, below, meth, c, Q, A, nL⟩ := X
  intro H locs ls hP hD hS hl
  subst hp
  exact va_get (C := Cn) (T := T) (N := NF) (ref := (T fi).1) C.1 C.2.1 C.2.2.1 hin C.2.2.2.1 C.2.2.2.2.1 hP q ((wl_get hq).trans (by rw [he])) hc fi hk (C.2.2.1 _ hlink) (fun x h9 => h9) hv d (h H locs ls hP hD hS hl)
theorem xx_geti (C : cx_ G X cc own rm ret nl) (p1 : Nat) (hp : pc + 3 = p1) {fs : List Value} {ci : Nat} {Cn : String} {T : u_T} {NF index fi : Nat} {q : Nat} {j : Int} {f : Int → Option α} (hq : q < N) (he : ce q (μ q) = .inr (ci, fs)) (hc : vwCl[ci]? = some (Cn, T, NF)) (hin : ∀ w ∈ u_ws Cn T NF, w ∈ gT_) (hk : fi < NF) (hv : fs[fi]? = some (.int (iI (μ q j)))) (hlink : Cond.fieldLink own index (T fi).1 (T fi).2.1 (T fi).2.2.1 ∈ gT_) (d : decode cc pc = .ok (.getfield index, 3)) (h : nm_ (μ q j) f = some r) (kk : ∀ v, f v = some r → wx_ G X N ad ce μ k n p1 lv (.int (iI v) :: st)) : wx_ G X N ad ce μ k n pc lv (.ref (ad q) :: st) := by
  obtain ⟨p, l, e, R, s, m, args, below, meth, c, Q, A, nL⟩ := X
  intro H locs ls hP hD hS hl
  subst hp
  exact va_get (C := Cn) (T := T) (N := NF) (ref := (T fi).1) C.1 C.2.1 C.2.2.1 hin C.2.2.2.1 C.2.2.2.2.1 hP q ((wl_get hq).trans (by rw [he])) hc fi hk (C.2.2.1 _ hlink) (fun x h9 => h9) hv d (kk _ h H locs ls hP hD hS hl)
theorem xx_puti (C : cx_ G X cc own rm ret nl) (p1 : Nat) (hp : pc + 3 = p1) {fs : List Value} {ci : Nat} {Cn : String} {T : u_T} {NF index fi : Nat} {q : Nat} {j v : Int} {f : mu_T → Option α} (hq : q < N) (he : ce q (μ q) = .inr (ci, fs)) (he2 : ce q (ur_ (μ q) j v) = .inr (ci, fs.set fi (.int (iI v)))) (hc : vwCl[ci]? = some (Cn, T, NF)) (hin : ∀ w ∈ u_ws Cn T NF, w ∈ gT_) (tyf : Nat → FieldType) (hty : ∀ k, k < NF → parseFieldDescriptor (T k).2.2.1 = some (tyf k)) (hnm : ∀ a, a < NF → ∀ b, b < NF → a ≠ b → (T a).2.1 ≠ (T b).2.1) (hk : fi < NF) (hl0 : fi < fs.length) (hT : (T fi).2.2.2 = false ∧ parseFieldDescriptor (T fi).2.2.1 = some .int) (hlink : Cond.fieldLink own index (T fi).1 (T fi).2.1 (T fi).2.2.1 ∈ gT_) (d : decode cc pc = .ok (.putfield index, 3)) (h : wf_ μ q j v f = some r) (kk : ∀ μ1, f μ1 = some r → wx_ G X N ad ce μ1 k n p1 lv st) : wx_ G X N ad ce μ k n pc lv (.int (iI v) :: .ref (ad q) :: st) := by
  obtain ⟨p, l, e, R, s, m, args, below, meth, c, Q, A, nL⟩ := X
  intro H locs ls hP hD hS hl
  subst hp
  refine va_put (C := Cn) (T := T) (N := NF) (ref := (T fi).1) (ty := .int) C.1 C.2.1 C.2.2.1 hin tyf hty hnm C.2.2.2.1 C.2.2.2.2.1 hP hD hS q ((wl_get hq).trans (by rw [he])) hc fi hk (C.2.2.1 _ hlink) (fun x h9 => h9) hT.1 hT.2 rfl (by first | rfl | (rcases hz with rfl | rfl <;> rfl)) hl0 d (fun H1 locs1 hP1 hD1 hS1 => ?_)
  rw [← he2, wl_set] at hP1 hD1
  exact kk _ h H1 locs1 ls hP1 hD1 hS1 hl
theorem xx_putz (C : cx_ G X cc own rm ret nl) (p1 : Nat) (hp : pc + 3 = p1) {fs : List Value} {ci : Nat} {Cn : String} {T : u_T} {NF index fi : Nat} {q : Nat} {j v : Int} {f : mu_T → Option α} (hq : q < N) (he : ce q (μ q) = .inr (ci, fs)) (he2 : ce q (ur_ (μ q) j v) = .inr (ci, fs.set fi (.int (iI v)))) (hc : vwCl[ci]? = some (Cn, T, NF)) (hin : ∀ w ∈ u_ws Cn T NF, w ∈ gT_) (tyf : Nat → FieldType) (hty : ∀ k, k < NF → parseFieldDescriptor (T k).2.2.1 = some (tyf k)) (hnm : ∀ a, a < NF → ∀ b, b < NF → a ≠ b → (T a).2.1 ≠ (T b).2.1) (hk : fi < NF) (hl0 : fi < fs.length) (hT : (T fi).2.2.2 = false ∧ parseFieldDescriptor (T fi).2.2.1 = some .boolean) (hlink : Cond.fieldLink own index (T fi).1 (T fi).2.1 (T fi).2.2.1 ∈ gT_) (d : decode cc pc = .ok (.putfield index, 3)) (h : wz_ μ q j v f = some r) (kk : ∀ μ1, f μ1 = some r → wx_ G X N ad ce μ1 k n p1 lv st) : wx_ G X N ad ce μ k n pc lv (.int (iI v) :: .ref (ad q) :: st) := by
  obtain ⟨p, l, e, R, s, m, args, below, meth, c, Q, A, nL⟩ := X
  intro H locs ls hP hD hS hl
  subst hp
  obtain ⟨hz, h⟩ := ck_e h
  refine va_put (C := Cn) (T := T) (N := NF) (ref := (T fi).1) (ty := .boolean) C.1 C.2.1 C.2.2.1 hin tyf hty hnm C.2.2.2.1 C.2.2.2.2.1 hP hD hS q ((wl_get hq).trans (by rw [he])) hc fi hk (C.2.2.1 _ hlink) (fun x h9 => h9) hT.1 hT.2 (by rcases hz with rfl | rfl <;> rfl) (by first | rfl | (rcases hz with rfl | rfl <;> rfl)) hl0 d (fun H1 locs1 hP1 hD1 hS1 => ?_)
  rw [← he2, wl_set] at hP1 hD1
  exact kk _ h H1 locs1 ls hP1 hD1 hS1 hl
theorem xx_iaload (C : cx_ G X cc own rm ret nl) (p1 : Nat) (hp : pc + 1 = p1) {nA : Nat} {q : Nat} {i : Int} {f : Int → Option α} (hq : q < N) (he : ∀ row, ce q row = .inl (G.1.1 100, nA, .inl (fun j => iI (row (j : Nat))))) (hn : nA < 2147483648) (d : decode cc pc = .ok (.iaload, 1)) (h : rd_ μ q nA i f = some r) (kk : ∀ v, f v = some r → wx_ G X N ad ce μ k n p1 lv (.int (iI v) :: st)) : wx_ G X N ad ce μ k n pc lv (.int (iI i) :: .ref (ad q) :: st) := by
  obtain ⟨p, l, e, R, s, m, args, below, meth, c, Q, A, nL⟩ := X
  intro H locs ls hP hD hS hl
  subst hp
  obtain ⟨⟨h0, h1⟩, h⟩ := ck_e h
  refine va_iald C.1 C.2.1 C.2.2.2.2.1 hP q 0 ((wl_get hq).trans (by rw [he])) rfl (iI_in h0 h1 hn) d ?_
  have e1 : (((iI i).toNatClampNeg : Nat) : Int) = i := by rw [iI_clamp (by omega)]; omega
  show W _ _ _ _ _ _ _ _ _ _ _ _ _ _ _ (F0 m (pc + 1) ls (.int (iI (μ q (((iI i).toNatClampNeg : Nat) : Int))) :: st))
  rw [e1]
  exact kk _ h H locs ls hP hD hS hl
theorem xx_iastore (C : cx_ G X cc own rm ret nl) (p1 : Nat) (hp : pc + 1 = p1) {nA : Nat} {q : Nat} {i v : Int} {f : mu_T → Option α} (hq : q < N) (he : ∀ row, ce q row = .inl (G.1.1 100, nA, .inl (fun j => iI (row (j : Nat))))) (hn : nA < 2147483648) (d : decode cc pc = .ok (.iastore, 1)) (h : wr_ μ q nA i v f = some r) (kk : ∀ μ1, f μ1 = some r → wx_ G X N ad ce μ1 k n p1 lv st) : wx_ G X N ad ce μ k n pc lv (.int (iI v) :: .int (iI i) :: .ref (ad q) :: st) := by
  obtain ⟨p, l, e, R, s, m, args, below, meth, c, Q, A, nL⟩ := X
  intro H locs ls hP hD hS hl
  subst hp
  obtain ⟨⟨h0, h1⟩, h⟩ := ck_e h
  refine va_iast C.1 C.2.1 C.2.2.2.2.1 hP hD hS q 0 ((wl_get hq).trans (by rw [he])) rfl (iI_in h0 h1 hn) d (fun H1 locs1 hP1 hD1 hS1 => ?_)
  have e1 : (upd (fun j : Nat => iI (μ q (j : Int))) (iI i).toNatClampNeg (iI v)) = fun j : Nat => iI (ur_ (μ q) i v (j : Int)) := by
    funext j
    rw [iI_clamp (by omega)]
    unfold upd ur_
    by_cases hj : j = i.toNat
    · rw [if_pos hj, if_pos (by omega)]
    · rw [if_neg hj, if_neg (by omega)]
  rw [e1, ← he, wl_set] at hP1 hD1
  exact kk _ h H1 locs1 ls hP1 hD1 hS1 hl
theorem xx_alen (C : cx_ G X cc own rm ret nl) (p1 : Nat) (hp : pc + 1 = p1) {nA : Nat} {q : Nat} (hq : q < N) (he : ∀ row, ce q row = .inl (G.1.1 100, nA, .inl (fun j => iI (row (j : Nat))))) (d : decode cc pc = .ok (.arraylength, 1)) (h : wx_ G X N ad ce μ k n p1 lv (.int (iI nA) :: st)) : wx_ G X N ad ce μ k n pc lv (.ref (ad q) :: st) := by
  obtain ⟨p, l, e, R, s, m, args, below, meth, c, Q, A, nL⟩ := X
  intro H locs ls hP hD hS hl
  subst hp
  exact va_alen C.1 C.2.1 C.2.2.2.2.1 hP q 0 ((wl_get hq).trans (by rw [he])) rfl (iI_nat nA) d (h H locs ls hP hD hS hl)
theorem xx_iret (C : cx_ G X cc own rm ret nl) {e0 a : Int} {μ2 : mu_T} (E : ei_ G X N ad ce a μ2 rm) (hr : ret = some .int) (hk : k ≤ rm.cells ∧ n ≤ rm.slots) (d : decode cc pc = .ok (.ireturn, 1)) (h : some (e0, μ) = some (a, μ2)) : wx_ G X N ad ce μ k n pc lv [.int (iI e0)] := by
  obtain ⟨p, l, e, R, s, m, args, below, meth, c, Q, A, nL⟩ := X
  intro H locs ls hP hD hS hl
  obtain ⟨rfl, rfl⟩ := Prod.mk.inj (Option.some.inj h)
  obtain ⟨hx, hb, -, -, hK, -, -, hlocks, -, -, hrt, -, -⟩ := C
  subst hr
  rw [show Q = _ from E]
  refine W.widen hk.1 hk.2 ?_
  exact W.iret hx hb hrt (fun t ht hW => ⟨⟨_, (), rfl, rfl, by rw [ht]; exact hP, va_K.moved hW.alike hK, hD⟩, hS.F ht⟩) hS.2.2 d hlocks
theorem xx_zret (C : cx_ G X cc own rm ret nl) {e0 a : Int} {μ2 : mu_T} {ty : FieldType} (E : ei_ G X N ad ce a μ2 rm) (hr : ret = some ty) (hz : narrow ty (.int (iI e0)) = .int (iI e0)) (hk : k ≤ rm.cells ∧ n ≤ rm.slots) (d : decode cc pc = .ok (.ireturn, 1)) (h : some (e0, μ) = some (a, μ2)) : wx_ G X N ad ce μ k n pc lv [.int (iI e0)] := by
  obtain ⟨p, l, e, R, s, m, args, below, meth, c, Q, A, nL⟩ := X
  intro H locs ls hP hD hS hl
  obtain ⟨rfl, rfl⟩ := Prod.mk.inj (Option.some.inj h)
  obtain ⟨hx, hb, -, -, hK, -, -, hlocks, -, -, hrt, -, -⟩ := C
  subst hr
  rw [show Q = _ from E]
  refine W.widen hk.1 hk.2 ?_
  exact W.zret hx hb hrt hz (fun t ht hW => ⟨⟨_, (), rfl, rfl, by rw [ht]; exact hP, va_K.moved hW.alike hK, hD⟩, hS.F ht⟩) hS.2.2 d hlocks
theorem xx_zretz (C : cx_ G X cc own rm ret nl) {e0 a : Int} {μ2 : mu_T} (E : ei_ G X N ad ce a μ2 rm) (hr : ret = some .boolean) (hk : k ≤ rm.cells ∧ n ≤ rm.slots) (d : decode cc pc = .ok (.ireturn, 1)) (h : rz_ e0 μ = some (a, μ2)) : wx_ G X N ad ce μ k n pc lv [.int (iI e0)] := by
  obtain ⟨hz, h⟩ := ck_e h
  exact xx_zret C E hr (by rcases hz with rfl | rfl <;> rfl) hk d h
theorem xx_iretp (C : cx_ G X cc own rm ret nl) {e0 a : Int} (E : ei_ G X N ad ce a μ rm) (hr : ret = some .int) (hk : k ≤ rm.cells ∧ n ≤ rm.slots) (d : decode cc pc = .ok (.ireturn, 1)) (h : some e0 = some a) : wx_ G X N ad ce μ k n pc lv [.int (iI e0)] := xx_iret C E hr hk d (by rw [Option.some.inj h])
theorem xx_zretp (C : cx_ G X cc own rm ret nl) {e0 a : Int} (E : ei_ G X N ad ce a μ rm) (hr : ret = some .boolean) (hk : k ≤ rm.cells ∧ n ≤ rm.slots) (d : decode cc pc = .ok (.ireturn, 1)) (h : ry_ e0 = some a) : wx_ G X N ad ce μ k n pc lv [.int (iI e0)] := by
  obtain ⟨hz, h⟩ := ck_e h
  exact xx_zret C E hr (by rcases hz with rfl | rfl <;> rfl) hk d (by rw [Option.some.inj h])
theorem xx_vret (C : cx_ G X cc own rm ret nl) {μ2 : mu_T} (E : ev_ G X N ad ce μ2 rm) (hr : ret = none) (hk : k ≤ rm.cells ∧ n ≤ rm.slots) (d : decode cc pc = .ok (.return_, 1)) (h : some μ = some μ2) : wx_ G X N ad ce μ k n pc lv [] := by
  obtain ⟨p, l, e, R, s, m, args, below, meth, c, Q, A, nL⟩ := X
  intro H locs ls hP hD hS hl
  obtain rfl := Option.some.inj h
  obtain ⟨hx, hb, -, -, hK, -, -, hlocks, -, -, hrt, -, -⟩ := C
  subst hr
  rw [show Q = _ from E]
  refine W.widen hk.1 hk.2 ?_
  exact W.vret hx hb hrt (fun t ht hW => ⟨⟨(), rfl, trivial, by rw [ht]; exact hP, va_K.moved hW.alike hK, hD⟩, hS.F ht⟩) hS.2.2 d hlocks
theorem xx_vretp (C : cx_ G X cc own rm ret nl) {u9 : Unit} (E : ev_ G X N ad ce μ rm) (hr : ret = none) (hk : k ≤ rm.cells ∧ n ≤ rm.slots) (d : decode cc pc = .ok (.return_, 1)) (h : some () = some u9) : wx_ G X N ad ce μ k n pc lv [] := by
  obtain ⟨p, l, e, R, s, m, args, below, meth, c, Q, A, nL⟩ := X
  intro H locs ls hP hD hS hl
  obtain ⟨hx, hb, -, -, hK, -, -, hlocks, -, -, hrt, -, -⟩ := C
  subst hr
  rw [show Q = _ from E]
  refine W.widen hk.1 hk.2 ?_
  exact W.vret hx hb hrt (fun t ht hW => ⟨⟨(), rfl, trivial, by rw [ht]; exact hP, va_K.moved hW.alike hK, hD⟩, hS.F ht⟩) hS.2.2 d hlocks
/-- what the tables say of a callee -/
def ca_ (y : MethodName) (bytes : ByteArray) (maxL : Nat) (ret2 : Option FieldType) (nA : Nat) : Prop := Cond.initialized y.cls ∈ gT_ ∧ Cond.code y bytes maxL ret2 ∈ gT_ ∧ (y.cls ≠ "java/lang/invoke/MethodHandle" ∧ y.cls ≠ "java/lang/invoke/VarHandle" ∧ (parseMethodDescriptor y.desc).map (fun d => d.parameters.length) = some nA)
def cv_ (y : MethodName) : Prop := Cond.instanceMethod y ∈ gT_ ∧ Cond.selects y.cls y y ∈ gT_
theorem gT_in {bytes : ByteArray} {y : MethodName} {maxL : Nat} {ret2 : Option FieldType} (h : Cond.code y bytes maxL ret2 ∈ gT_) : GoodIn gT_ (Cond.code y bytes maxL ret2 :: gT_) := fun w hw => by
  rcases List.mem_cons.mp hw with rfl | hw
  · exact ⟨h, gT_good h⟩
  · exact ⟨hw, gT_good hw⟩
theorem xx_cKip (C : cx_ G X cc own rm ret nl) (p1 : Nat) (hp : pc + 3 = p1) {F : Option Int} {f : Int → Option α} {y : MethodName} {bytes : ByteArray} {maxL nA index : Nat} {ret2 : Option FieldType} {rm2 : Room} {As : List Value} {z : Int} (hcl : "java/lang/String" = y.cls) (hca : ca_ y bytes maxL ret2 nA) (hcv : cv_ y) (m1 : Cond.methodLink own index y ∈ gT_) (hn : As.length = nA) (hR : rm2.frames + 1 ≤ rm.frames ∧ 8 + (maxL + 11) + rm2.locals ≤ rm.locals) (hf : k + rm2.cells ≤ rm.cells ∧ n + rm2.slots ≤ rm.slots) (hW : (st.map fun v => v.category).sum ≤ 8) (d : decode cc pc = .ok (.invokevirtual index, 3)) (hM : ∀ a, F = some a → mi_ y bytes maxL ret2 rm2 G N ad ce (.ref (G.2.1 (200 + (z : Int).toNat)) :: As) μ a μ) (h : gd_ (0 ≤ z ∧ z < 21) (bd_ F f) = some r) (kk : ∀ a, f a = some r → wx_ G X N ad ce μ (k + rm2.cells) (n + rm2.slots) p1 lv (.int (iI a) :: st)) (hst : stk = As.reverse ++ .ref (G.2.1 (200 + (z : Int).toNat)) :: st) : wx_ G X N ad ce μ k n pc lv stk := by
  obtain ⟨p, l, e, R, s, m, args, below, meth, c, Q, A, nL⟩ := X
  intro H locs ls hP hD hS hl
  subst hp
  have hts := C.2.2.1
  have hK := C.2.2.2.2.1
  have hA := C.2.2.2.2.2.1
  have hAb := C.2.2.2.2.2.2.2.2.1
  have hR' : R = rm := C.2.2.2.2.2.2.2.2.2.1
  have hg := C.2.2.2.2.2.2.2.2.2.2.2.1
  subst hR'
  have hsz : G.2.2 ≤ H.size := by
    have h1 := hAb s.heap.size (hA _ (Nat.le_refl _))
    exact Nat.le_trans h1 hS.1
  have hDb : va_D (fun q => G.2.2 ≤ q) (wl_ N ad ce μ) := hD.weaken (fun _ q _ h => hAb q.1 h)
  have hgH : gk_ G s H := gk_kept hg (fun a h1 h2 => hS.2.1 a h1 (fun q => h2 (hAb a q)))
  have hF : ∀ q, va_A (wl_ N ad ce μ) H.size q → A q := fun q h => by
    rcases h with ⟨j, e9, h⟩ | h
    · exact hD.2 j _ h
    · exact hA q (Nat.le_trans hS.1 h)
  have hpre : ∀ U : State, U.heap = H → s.WarmedH U.vm → pr_ G N ad ce μ H.size U := fun U hU hW9 => ⟨by rw [hU], by rw [hU]; exact hP, va_K.moved hW9.alike hK, hDb, hsz, by rw [hU]; exact gk_warm hW9 hgH⟩
  subst hst
  obtain ⟨⟨hz0, hz1⟩, h⟩ := ck_e h
  obtain ⟨a9, e9, h⟩ := bd_e h
  have hM9 := hM a9 e9 l H.size
  have hpreV : ∀ U : State, U.heap = H → s.WarmedH U.vm → va_Pc (.ref (G.2.1 (200 + (z : Int).toNat)) :: As) (pr_ G N ad ce μ H.size) (Value.ref (G.2.1 (200 + (z : Int).toNat)) :: As).toArray U := fun U hU hW9 => ⟨rfl, hpre U hU hW9⟩
  refine va_calli (va_runV (rest := st) ⟨C.1, C.2.1, C.2.2.2.2.2.2.1, C.2.2.2.1, hts⟩ hM9 ⟨callB_of nA hts (gT_in hca.2.1) rfl rfl rfl (hts _ hca.1) (hts _ m1) hca.2.2 hR, hts _ hcv.1, hts _ hcv.2⟩ ⟨(fun a U g mk q => by obtain ⟨q0, q1, qP, qK, qD, q2, q3⟩ := q; exact ⟨q0, q1, qP, va_K.moved (u := U) (U := U.calling g mk a) (Vm.Alike.refl U.vm) qK, qD, q2, gk_same (u := U) (U := U.calling g mk a) rfl q3⟩), (by have h9 := vk_recv ((hg.1 z.toNat (by omega)).narrow (B := A) hAb) (i := 0) (by decide) hS; rw [hcl] at h9; exact h9), hpreV⟩ rfl hn hl.1 rfl (lv_room hW) d hf) hS (fun q _ h => hF q h) hF (fun r9 u t H1 locs1 ht hvm hw hB hz1 hk1 hS1 => ?_)
  obtain ⟨hP1, hK1, hD1⟩ := hB
  rw [ht] at hP1
  rw [hw]
  exact kk a9 h H1 locs1 ls hP1 (hD1.weaken (fun _ q _ h => hF q.1 h)) hS1 hl
theorem xx_cSvp (C : cx_ G X cc own rm ret nl) (p1 : Nat) (hp : pc + 3 = p1) {F : Option Unit} {f : Unit → Option α} {y : MethodName} {bytes : ByteArray} {maxL nA index : Nat} {rm2 : Room} {As : List Value} (hca : ca_ y bytes maxL none nA) (hcv : Cond.static y ∈ gT_) (m1 : Cond.methodLink own index y ∈ gT_) (hn : As.length = nA) (hR : rm2.frames + 1 ≤ rm.frames ∧ 8 + (maxL + 11) + rm2.locals ≤ rm.locals) (hf : k + rm2.cells ≤ rm.cells ∧ n + rm2.slots ≤ rm.slots) (hW : (st.map fun v => v.category).sum ≤ 8) (d : decode cc pc = .ok (.invokestatic index, 3)) (hM : ∀ a, F = some a → mv_ y bytes maxL rm2 G N ad ce As μ μ) (h : bd_ F f = some r) (kk : ∀ a, f a = some r → wx_ G X N ad ce μ (k + rm2.cells) (n + rm2.slots) p1 lv st) (hst : stk = As.reverse ++ st) : wx_ G X N ad ce μ k n pc lv stk := by
  obtain ⟨p, l, e, R, s, m, args, below, meth, c, Q, A, nL⟩ := X
  intro H locs ls hP hD hS hl
  subst hp
  have hts := C.2.2.1
  have hK := C.2.2.2.2.1
  have hA := C.2.2.2.2.2.1
  have hAb := C.2.2.2.2.2.2.2.2.1
  have hR' : R = rm := C.2.2.2.2.2.2.2.2.2.1
  have hg := C.2.2.2.2.2.2.2.2.2.2.2.1
  subst hR'
  have hsz : G.2.2 ≤ H.size := by
    have h1 := hAb s.heap.size (hA _ (Nat.le_refl _))
    exact Nat.le_trans h1 hS.1
  have hDb : va_D (fun q => G.2.2 ≤ q) (wl_ N ad ce μ) := hD.weaken (fun _ q _ h => hAb q.1 h)
  have hgH : gk_ G s H := gk_kept hg (fun a h1 h2 => hS.2.1 a h1 (fun q => h2 (hAb a q)))
  have hF : ∀ q, va_A (wl_ N ad ce μ) H.size q → A q := fun q h => by
    rcases h with ⟨j, e9, h⟩ | h
    · exact hD.2 j _ h
    · exact hA q (Nat.le_trans hS.1 h)
  have hpre : ∀ U : State, U.heap = H → s.WarmedH U.vm → pr_ G N ad ce μ H.size U := fun U hU hW9 => ⟨by rw [hU], by rw [hU]; exact hP, va_K.moved hW9.alike hK, hDb, hsz, by rw [hU]; exact gk_warm hW9 hgH⟩
  subst hst
  obtain ⟨a9, e9, h⟩ := bd_e h
  have hM9 := hM a9 e9 l H.size
  have hpreV : ∀ U : State, U.heap = H → s.WarmedH U.vm → va_Pc As (pr_ G N ad ce μ H.size) (As).toArray U := fun U hU hW9 => ⟨rfl, hpre U hU hW9⟩
  refine va_callv (va_runS (rest := st) ⟨C.1, C.2.1, C.2.2.2.2.2.2.1, C.2.2.2.1, hts⟩ hM9 ⟨callB_of nA hts (gT_in hca.2.1) rfl rfl rfl (hts _ hca.1) (hts _ m1) hca.2.2 hR, hts _ hcv⟩ ⟨(fun a U g mk q => by obtain ⟨q0, q1, qP, qK, qD, q2, q3⟩ := q; exact ⟨q0, q1, qP, va_K.moved (u := U) (U := U.calling g mk a) (Vm.Alike.refl U.vm) qK, qD, q2, gk_same (u := U) (U := U.calling g mk a) rfl q3⟩), hpreV⟩ rfl hn hl.1 rfl (lv_room hW) d hf) hS (fun q _ h => hF q h) hF (fun u t H1 locs1 ht hvm hw hB hz1 hk1 hS1 => ?_)
  obtain ⟨hP1, hK1, hD1⟩ := hB
  rw [ht] at hP1
  exact kk a9 h H1 locs1 ls hP1 (hD1.weaken (fun _ q _ h => hF q.1 h)) hS1 hl
theorem xx_cVi (C : cx_ G X cc own rm ret nl) (p1 : Nat) (hp : pc + 3 = p1) {F : Option (Int × mu_T)} {f : Int → mu_T → Option α} {y : MethodName} {bytes : ByteArray} {maxL nA index : Nat} {ret2 : Option FieldType} {rm2 : Room} {As : List Value} {ci o : Nat} {fs : List Value} {qc : vw_C} (ho : o < N) (he : ce o (μ o) = .inr (ci, fs)) (hc : vwCl[ci]? = some qc) (hcl : qc.1 = y.cls) (hca : ca_ y bytes maxL ret2 nA) (hcv : cv_ y) (m1 : Cond.methodLink own index y ∈ gT_) (hn : As.length = nA) (hR : rm2.frames + 1 ≤ rm.frames ∧ 8 + (maxL + 11) + rm2.locals ≤ rm.locals) (hf : k + rm2.cells ≤ rm.cells ∧ n + rm2.slots ≤ rm.slots) (hW : (st.map fun v => v.category).sum ≤ 8) (d : decode cc pc = .ok (.invokevirtual index, 3)) (hM : ∀ a μ1, F = some (a, μ1) → mi_ y bytes maxL ret2 rm2 G N ad ce (.ref (ad o) :: As) μ a μ1) (h : bp_ F f = some r) (kk : ∀ a μ1, f a μ1 = some r → wx_ G X N ad ce μ1 (k + rm2.cells) (n + rm2.slots) p1 lv (.int (iI a) :: st)) (hst : stk = As.reverse ++ .ref (ad o) :: st) : wx_ G X N ad ce μ k n pc lv stk := by
  obtain ⟨p, l, e, R, s, m, args, below, meth, c, Q, A, nL⟩ := X
  intro H locs ls hP hD hS hl
  subst hp
  have hts := C.2.2.1
  have hK := C.2.2.2.2.1
  have hA := C.2.2.2.2.2.1
  have hAb := C.2.2.2.2.2.2.2.2.1
  have hR' : R = rm := C.2.2.2.2.2.2.2.2.2.1
  have hg := C.2.2.2.2.2.2.2.2.2.2.2.1
  subst hR'
  have hsz : G.2.2 ≤ H.size := by
    have h1 := hAb s.heap.size (hA _ (Nat.le_refl _))
    exact Nat.le_trans h1 hS.1
  have hDb : va_D (fun q => G.2.2 ≤ q) (wl_ N ad ce μ) := hD.weaken (fun _ q _ h => hAb q.1 h)
  have hgH : gk_ G s H := gk_kept hg (fun a h1 h2 => hS.2.1 a h1 (fun q => h2 (hAb a q)))
  have hF : ∀ q, va_A (wl_ N ad ce μ) H.size q → A q := fun q h => by
    rcases h with ⟨j, e9, h⟩ | h
    · exact hD.2 j _ h
    · exact hA q (Nat.le_trans hS.1 h)
  have hpre : ∀ U : State, U.heap = H → s.WarmedH U.vm → pr_ G N ad ce μ H.size U := fun U hU hW9 => ⟨by rw [hU], by rw [hU]; exact hP, va_K.moved hW9.alike hK, hDb, hsz, by rw [hU]; exact gk_warm hW9 hgH⟩
  subst hst
  obtain ⟨a9, μ9, e9, h⟩ := bp_e h
  have hM9 := hM a9 μ9 e9 l H.size
  have hpreV : ∀ U : State, U.heap = H → s.WarmedH U.vm → va_Pc (.ref (ad o) :: As) (pr_ G N ad ce μ H.size) (Value.ref (ad o) :: As).toArray U := fun U hU hW9 => ⟨rfl, hpre U hU hW9⟩
  refine va_calli (va_runV (rest := st) ⟨C.1, C.2.1, C.2.2.2.2.2.2.1, C.2.2.2.1, hts⟩ hM9 ⟨callB_of nA hts (gT_in hca.2.1) rfl rfl rfl (hts _ hca.1) (hts _ m1) hca.2.2 hR, hts _ hcv.1, hts _ hcv.2⟩ ⟨(fun a U g mk q => by obtain ⟨q0, q1, qP, qK, qD, q2, q3⟩ := q; exact ⟨q0, q1, qP, va_K.moved (u := U) (U := U.calling g mk a) (Vm.Alike.refl U.vm) qK, qD, q2, gk_same (u := U) (U := U.calling g mk a) rfl q3⟩), (by have h9 := va_recv hK hP hc ((wl_get ho).trans (by rw [he])); rw [hcl] at h9; exact h9), hpreV⟩ rfl hn hl.1 rfl (lv_room hW) d hf) hS (fun q _ h => hF q h) hF (fun r9 u t H1 locs1 ht hvm hw hB hz1 hk1 hS1 => ?_)
  obtain ⟨hP1, hK1, hD1⟩ := hB
  rw [ht] at hP1
  rw [hw]
  exact kk a9 μ9 h H1 locs1 ls hP1 (hD1.weaken (fun _ q _ h => hF q.1 h)) hS1 hl
theorem xx_cVip (C : cx_ G X cc own rm ret nl) (p1 : Nat) (hp : pc + 3 = p1) {F : Option Int} {f : Int → Option α} {y : MethodName} {bytes : ByteArray} {maxL nA index : Nat} {ret2 : Option FieldType} {rm2 : Room} {As : List Value} {ci o : Nat} {fs : List Value} {qc : vw_C} (ho : o < N) (he : ce o (μ o) = .inr (ci, fs)) (hc : vwCl[ci]? = some qc) (hcl : qc.1 = y.cls) (hca : ca_ y bytes maxL ret2 nA) (hcv : cv_ y) (m1 : Cond.methodLink own index y ∈ gT_) (hn : As.length = nA) (hR : rm2.frames + 1 ≤ rm.frames ∧ 8 + (maxL + 11) + rm2.locals ≤ rm.locals) (hf : k + rm2.cells ≤ rm.cells ∧ n + rm2.slots ≤ rm.slots) (hW : (st.map fun v => v.category).sum ≤ 8) (d : decode cc pc = .ok (.invokevirtual index, 3)) (hM : ∀ a, F = some a → mi_ y bytes maxL ret2 rm2 G N ad ce (.ref (ad o) :: As) μ a μ) (h : bd_ F f = some r) (kk : ∀ a, f a = some r → wx_ G X N ad ce μ (k + rm2.cells) (n + rm2.slots) p1 lv (.int (iI a) :: st)) (hst : stk = As.reverse ++ .ref (ad o) :: st) : wx_ G X N ad ce μ k n pc lv stk := by
  obtain ⟨p, l, e, R, s, m, args, below, meth, c, Q, A, nL⟩ := X
  intro H locs ls hP hD hS hl
  subst hp
  have hts := C.2.2.1
  have hK := C.2.2.2.2.1
  have hA := C.2.2.2.2.2.1
  have hAb := C.2.2.2.2.2.2.2.2.1
  have hR' : R = rm := C.2.2.2.2.2.2.2.2.2.1
  have hg := C.2.2.2.2.2.2.2.2.2.2.2.1
  subst hR'
  have hsz : G.2.2 ≤ H.size := by
    have h1 := hAb s.heap.size (hA _ (Nat.le_refl _))
    exact Nat.le_trans h1 hS.1
  have hDb : va_D (fun q => G.2.2 ≤ q) (wl_ N ad ce μ) := hD.weaken (fun _ q _ h => hAb q.1 h)
  have hgH : gk_ G s H := gk_kept hg (fun a h1 h2 => hS.2.1 a h1 (fun q => h2 (hAb a q)))
  have hF : ∀ q, va_A (wl_ N ad ce μ) H.size q → A q := fun q h => by
    rcases h with ⟨j, e9, h⟩ | h
    · exact hD.2 j _ h
    · exact hA q (Nat.le_trans hS.1 h)
  have hpre : ∀ U : State, U.heap = H → s.WarmedH U.vm → pr_ G N ad ce μ H.size U := fun U hU hW9 => ⟨by rw [hU], by rw [hU]; exact hP, va_K.moved hW9.alike hK, hDb, hsz, by rw [hU]; exact gk_warm hW9 hgH⟩
  subst hst
  obtain ⟨a9, e9, h⟩ := bd_e h
  have hM9 := hM a9 e9 l H.size
  have hpreV : ∀ U : State, U.heap = H → s.WarmedH U.vm → va_Pc (.ref (ad o) :: As) (pr_ G N ad ce μ H.size) (Value.ref (ad o) :: As).toArray U := fun U hU hW9 => ⟨rfl, hpre U hU hW9⟩
  refine va_calli (va_runV (rest := st) ⟨C.1, C.2.1, C.2.2.2.2.2.2.1, C.2.2.2.1, hts⟩ hM9 ⟨callB_of nA hts (gT_in hca.2.1) rfl rfl rfl (hts _ hca.1) (hts _ m1) hca.2.2 hR, hts _ hcv.1, hts _ hcv.2⟩ ⟨(fun a U g mk q => by obtain ⟨q0, q1, qP, qK, qD, q2, q3⟩ := q; exact ⟨q0, q1, qP, va_K.moved (u := U) (U := U.calling g mk a) (Vm.Alike.refl U.vm) qK, qD, q2, gk_same (u := U) (U := U.calling g mk a) rfl q3⟩), (by have h9 := va_recv hK hP hc ((wl_get ho).trans (by rw [he])); rw [hcl] at h9; exact h9), hpreV⟩ rfl hn hl.1 rfl (lv_room hW) d hf) hS (fun q _ h => hF q h) hF (fun r9 u t H1 locs1 ht hvm hw hB hz1 hk1 hS1 => ?_)
  obtain ⟨hP1, hK1, hD1⟩ := hB
  rw [ht] at hP1
  rw [hw]
  exact kk a9 h H1 locs1 ls hP1 (hD1.weaken (fun _ q _ h => hF q.1 h)) hS1 hl
theorem xx_cVv (C : cx_ G X cc own rm ret nl) (p1 : Nat) (hp : pc + 3 = p1) {F : Option mu_T} {f : mu_T → Option α} {y : MethodName} {bytes : ByteArray} {maxL nA index : Nat} {rm2 : Room} {As : List Value} {ci o : Nat} {fs : List Value} {qc : vw_C} (ho : o < N) (he : ce o (μ o) = .inr (ci, fs)) (hc : vwCl[ci]? = some qc) (hcl : qc.1 = y.cls) (hca : ca_ y bytes maxL none nA) (hcv : cv_ y) (m1 : Cond.methodLink own index y ∈ gT_) (hn : As.length = nA) (hR : rm2.frames + 1 ≤ rm.frames ∧ 8 + (maxL + 11) + rm2.locals ≤ rm.locals) (hf : k + rm2.cells ≤ rm.cells ∧ n + rm2.slots ≤ rm.slots) (hW : (st.map fun v => v.category).sum ≤ 8) (d : decode cc pc = .ok (.invokevirtual index, 3)) (hM : ∀ μ1, F = some μ1 → mv_ y bytes maxL rm2 G N ad ce (.ref (ad o) :: As) μ μ1) (h : bd_ F f = some r) (kk : ∀ μ1, f μ1 = some r → wx_ G X N ad ce μ1 (k + rm2.cells) (n + rm2.slots) p1 lv st) (hst : stk = As.reverse ++ .ref (ad o) :: st) : wx_ G X N ad ce μ k n pc lv stk := by
  obtain ⟨p, l, e, R, s, m, args, below, meth, c, Q, A, nL⟩ := X
  intro H locs ls hP hD hS hl
  subst hp
  have hts := C.2.2.1
  have hK := C.2.2.2.2.1
  have hA := C.2.2.2.2.2.1
  have hAb := C.2.2.2.2.2.2.2.2.1
  have hR' : R = rm := C.2.2.2.2.2.2.2.2.2.1
  have hg := C.2.2.2.2.2.2.2.2.2.2.2.1
  subst hR'
  have hsz : G.2.2 ≤ H.size := by
    have h1 := hAb s.heap.size (hA _ (Nat.le_refl _))
    exact Nat.le_trans h1 hS.1
  have hDb : va_D (fun q => G.2.2 ≤ q) (wl_ N ad ce μ) := hD.weaken (fun _ q _ h => hAb q.1 h)
  have hgH : gk_ G s H := gk_kept hg (fun a h1 h2 => hS.2.1 a h1 (fun q => h2 (hAb a q)))
  have hF : ∀ q, va_A (wl_ N ad ce μ) H.size q → A q := fun q h => by
    rcases h with ⟨j, e9, h⟩ | h
    · exact hD.2 j _ h
    · exact hA q (Nat.le_trans hS.1 h)
  have hpre : ∀ U : State, U.heap = H → s.WarmedH U.vm → pr_ G N ad ce μ H.size U := fun U hU hW9 => ⟨by rw [hU], by rw [hU]; exact hP, va_K.moved hW9.alike hK, hDb, hsz, by rw [hU]; exact gk_warm hW9 hgH⟩
  subst hst
  obtain ⟨a9, e9, h⟩ := bd_e h
  have hM9 := hM a9 e9 l H.size
  have hpreV : ∀ U : State, U.heap = H → s.WarmedH U.vm → va_Pc (.ref (ad o) :: As) (pr_ G N ad ce μ H.size) (Value.ref (ad o) :: As).toArray U := fun U hU hW9 => ⟨rfl, hpre U hU hW9⟩
  refine va_callv (va_runV (rest := st) ⟨C.1, C.2.1, C.2.2.2.2.2.2.1, C.2.2.2.1, hts⟩ hM9 ⟨callB_of nA hts (gT_in hca.2.1) rfl rfl rfl (hts _ hca.1) (hts _ m1) hca.2.2 hR, hts _ hcv.1, hts _ hcv.2⟩ ⟨(fun a U g mk q => by obtain ⟨q0, q1, qP, qK, qD, q2, q3⟩ := q; exact ⟨q0, q1, qP, va_K.moved (u := U) (U := U.calling g mk a) (Vm.Alike.refl U.vm) qK, qD, q2, gk_same (u := U) (U := U.calling g mk a) rfl q3⟩), (by have h9 := va_recv hK hP hc ((wl_get ho).trans (by rw [he])); rw [hcl] at h9; exact h9), hpreV⟩ rfl hn hl.1 rfl (lv_room hW) d hf) hS (fun q _ h => hF q h) hF (fun u t H1 locs1 ht hvm hw hB hz1 hk1 hS1 => ?_)
  obtain ⟨hP1, hK1, hD1⟩ := hB
  rw [ht] at hP1
  exact kk a9 h H1 locs1 ls hP1 (hD1.weaken (fun _ q _ h => hF q.1 h)) hS1 hl
theorem xx_cSi (C : cx_ G X cc own rm ret nl) (p1 : Nat) (hp : pc + 3 = p1) {F : Option (Int × mu_T)} {f : Int → mu_T → Option α} {y : MethodName} {bytes : ByteArray} {maxL nA index : Nat} {ret2 : Option FieldType} {rm2 : Room} {As : List Value} (hca : ca_ y bytes maxL ret2 nA) (hcv : Cond.static y ∈ gT_) (m1 : Cond.methodLink own index y ∈ gT_) (hn : As.length = nA) (hR : rm2.frames + 1 ≤ rm.frames ∧ 8 + (maxL + 11) + rm2.locals ≤ rm.locals) (hf : k + rm2.cells ≤ rm.cells ∧ n + rm2.slots ≤ rm.slots) (hW : (st.map fun v => v.category).sum ≤ 8) (d : decode cc pc = .ok (.invokestatic index, 3)) (hM : ∀ a μ1, F = some (a, μ1) → mi_ y bytes maxL ret2 rm2 G N ad ce As μ a μ1) (h : bp_ F f = some r) (kk : ∀ a μ1, f a μ1 = some r → wx_ G X N ad ce μ1 (k + rm2.cells) (n + rm2.slots) p1 lv (.int (iI a) :: st)) (hst : stk = As.reverse ++ st) : wx_ G X N ad ce μ k n pc lv stk := by
  obtain ⟨p, l, e, R, s, m, args, below, meth, c, Q, A, nL⟩ := X
  intro H locs ls hP hD hS hl
  subst hp
  have hts := C.2.2.1
  have hK := C.2.2.2.2.1
  have hA := C.2.2.2.2.2.1
  have hAb := C.2.2.2.2.2.2.2.2.1
  have hR' : R = rm := C.2.2.2.2.2.2.2.2.2.1
  have hg := C.2.2.2.2.2.2.2.2.2.2.2.1
  subst hR'
  have hsz : G.2.2 ≤ H.size := by
    have h1 := hAb s.heap.size (hA _ (Nat.le_refl _))
    exact Nat.le_trans h1 hS.1
  have hDb : va_D (fun q => G.2.2 ≤ q) (wl_ N ad ce μ) := hD.weaken (fun _ q _ h => hAb q.1 h)
  have hgH : gk_ G s H := gk_kept hg (fun a h1 h2 => hS.2.1 a h1 (fun q => h2 (hAb a q)))
  have hF : ∀ q, va_A (wl_ N ad ce μ) H.size q → A q := fun q h => by
    rcases h with ⟨j, e9, h⟩ | h
    · exact hD.2 j _ h
    · exact hA q (Nat.le_trans hS.1 h)
  have hpre : ∀ U : State, U.heap = H → s.WarmedH U.vm → pr_ G N ad ce μ H.size U := fun U hU hW9 => ⟨by rw [hU], by rw [hU]; exact hP, va_K.moved hW9.alike hK, hDb, hsz, by rw [hU]; exact gk_warm hW9 hgH⟩
  subst hst
  obtain ⟨a9, μ9, e9, h⟩ := bp_e h
  have hM9 := hM a9 μ9 e9 l H.size
  have hpreV : ∀ U : State, U.heap = H → s.WarmedH U.vm → va_Pc As (pr_ G N ad ce μ H.size) (As).toArray U := fun U hU hW9 => ⟨rfl, hpre U hU hW9⟩
  refine va_calli (va_runS (rest := st) ⟨C.1, C.2.1, C.2.2.2.2.2.2.1, C.2.2.2.1, hts⟩ hM9 ⟨callB_of nA hts (gT_in hca.2.1) rfl rfl rfl (hts _ hca.1) (hts _ m1) hca.2.2 hR, hts _ hcv⟩ ⟨(fun a U g mk q => by obtain ⟨q0, q1, qP, qK, qD, q2, q3⟩ := q; exact ⟨q0, q1, qP, va_K.moved (u := U) (U := U.calling g mk a) (Vm.Alike.refl U.vm) qK, qD, q2, gk_same (u := U) (U := U.calling g mk a) rfl q3⟩), hpreV⟩ rfl hn hl.1 rfl (lv_room hW) d hf) hS (fun q _ h => hF q h) hF (fun r9 u t H1 locs1 ht hvm hw hB hz1 hk1 hS1 => ?_)
  obtain ⟨hP1, hK1, hD1⟩ := hB
  rw [ht] at hP1
  rw [hw]
  exact kk a9 μ9 h H1 locs1 ls hP1 (hD1.weaken (fun _ q _ h => hF q.1 h)) hS1 hl
theorem xx_cSip (C : cx_ G X cc own rm ret nl) (p1 : Nat) (hp : pc + 3 = p1) {F : Option Int} {f : Int → Option α} {y : MethodName} {bytes : ByteArray} {maxL nA index : Nat} {ret2 : Option FieldType} {rm2 : Room} {As : List Value} (hca : ca_ y bytes maxL ret2 nA) (hcv : Cond.static y ∈ gT_) (m1 : Cond.methodLink own index y ∈ gT_) (hn : As.length = nA) (hR : rm2.frames + 1 ≤ rm.frames ∧ 8 + (maxL + 11) + rm2.locals ≤ rm.locals) (hf : k + rm2.cells ≤ rm.cells ∧ n + rm2.slots ≤ rm.slots) (hW : (st.map fun v => v.category).sum ≤ 8) (d : decode cc pc = .ok (.invokestatic index, 3)) (hM : ∀ a, F = some a → mi_ y bytes maxL ret2 rm2 G N ad ce As μ a μ) (h : bd_ F f = some r) (kk : ∀ a, f a = some r → wx_ G X N ad ce μ (k + rm2.cells) (n + rm2.slots) p1 lv (.int (iI a) :: st)) (hst : stk = As.reverse ++ st) : wx_ G X N ad ce μ k n pc lv stk := by
  obtain ⟨p, l, e, R, s, m, args, below, meth, c, Q, A, nL⟩ := X
  intro H locs ls hP hD hS hl
  subst hp
  have hts := C.2.2.1
  have hK := C.2.2.2.2.1
  have hA := C.2.2.2.2.2.1
  have hAb := C.2.2.2.2.2.2.2.2.1
  have hR' : R = rm := C.2.2.2.2.2.2.2.2.2.1
  have hg := C.2.2.2.2.2.2.2.2.2.2.2.1
  subst hR'
  have hsz : G.2.2 ≤ H.size := by
    have h1 := hAb s.heap.size (hA _ (Nat.le_refl _))
    exact Nat.le_trans h1 hS.1
  have hDb : va_D (fun q => G.2.2 ≤ q) (wl_ N ad ce μ) := hD.weaken (fun _ q _ h => hAb q.1 h)
  have hgH : gk_ G s H := gk_kept hg (fun a h1 h2 => hS.2.1 a h1 (fun q => h2 (hAb a q)))
  have hF : ∀ q, va_A (wl_ N ad ce μ) H.size q → A q := fun q h => by
    rcases h with ⟨j, e9, h⟩ | h
    · exact hD.2 j _ h
    · exact hA q (Nat.le_trans hS.1 h)
  have hpre : ∀ U : State, U.heap = H → s.WarmedH U.vm → pr_ G N ad ce μ H.size U := fun U hU hW9 => ⟨by rw [hU], by rw [hU]; exact hP, va_K.moved hW9.alike hK, hDb, hsz, by rw [hU]; exact gk_warm hW9 hgH⟩
  subst hst
  obtain ⟨a9, e9, h⟩ := bd_e h
  have hM9 := hM a9 e9 l H.size
  have hpreV : ∀ U : State, U.heap = H → s.WarmedH U.vm → va_Pc As (pr_ G N ad ce μ H.size) (As).toArray U := fun U hU hW9 => ⟨rfl, hpre U hU hW9⟩
  refine va_calli (va_runS (rest := st) ⟨C.1, C.2.1, C.2.2.2.2.2.2.1, C.2.2.2.1, hts⟩ hM9 ⟨callB_of nA hts (gT_in hca.2.1) rfl rfl rfl (hts _ hca.1) (hts _ m1) hca.2.2 hR, hts _ hcv⟩ ⟨(fun a U g mk q => by obtain ⟨q0, q1, qP, qK, qD, q2, q3⟩ := q; exact ⟨q0, q1, qP, va_K.moved (u := U) (U := U.calling g mk a) (Vm.Alike.refl U.vm) qK, qD, q2, gk_same (u := U) (U := U.calling g mk a) rfl q3⟩), hpreV⟩ rfl hn hl.1 rfl (lv_room hW) d hf) hS (fun q _ h => hF q h) hF (fun r9 u t H1 locs1 ht hvm hw hB hz1 hk1 hS1 => ?_)
  obtain ⟨hP1, hK1, hD1⟩ := hB
  rw [ht] at hP1
  rw [hw]
  exact kk a9 h H1 locs1 ls hP1 (hD1.weaken (fun _ q _ h => hF q.1 h)) hS1 hl
theorem xx_cSv (C : cx_ G X cc own rm ret nl) (p1 : Nat) (hp : pc + 3 = p1) {F : Option mu_T} {f : mu_T → Option α} {y : MethodName} {bytes : ByteArray} {maxL nA index : Nat} {rm2 : Room} {As : List Value} (hca : ca_ y bytes maxL none nA) (hcv : Cond.static y ∈ gT_) (m1 : Cond.methodLink own index y ∈ gT_) (hn : As.length = nA) (hR : rm2.frames + 1 ≤ rm.frames ∧ 8 + (maxL + 11) + rm2.locals ≤ rm.locals) (hf : k + rm2.cells ≤ rm.cells ∧ n + rm2.slots ≤ rm.slots) (hW : (st.map fun v => v.category).sum ≤ 8) (d : decode cc pc = .ok (.invokestatic index, 3)) (hM : ∀ μ1, F = some μ1 → mv_ y bytes maxL rm2 G N ad ce As μ μ1) (h : bd_ F f = some r) (kk : ∀ μ1, f μ1 = some r → wx_ G X N ad ce μ1 (k + rm2.cells) (n + rm2.slots) p1 lv st) (hst : stk = As.reverse ++ st) : wx_ G X N ad ce μ k n pc lv stk := by
  obtain ⟨p, l, e, R, s, m, args, below, meth, c, Q, A, nL⟩ := X
  intro H locs ls hP hD hS hl
  subst hp
  have hts := C.2.2.1
  have hK := C.2.2.2.2.1
  have hA := C.2.2.2.2.2.1
  have hAb := C.2.2.2.2.2.2.2.2.1
  have hR' : R = rm := C.2.2.2.2.2.2.2.2.2.1
  have hg := C.2.2.2.2.2.2.2.2.2.2.2.1
  subst hR'
  have hsz : G.2.2 ≤ H.size := by
    have h1 := hAb s.heap.size (hA _ (Nat.le_refl _))
    exact Nat.le_trans h1 hS.1
  have hDb : va_D (fun q => G.2.2 ≤ q) (wl_ N ad ce μ) := hD.weaken (fun _ q _ h => hAb q.1 h)
  have hgH : gk_ G s H := gk_kept hg (fun a h1 h2 => hS.2.1 a h1 (fun q => h2 (hAb a q)))
  have hF : ∀ q, va_A (wl_ N ad ce μ) H.size q → A q := fun q h => by
    rcases h with ⟨j, e9, h⟩ | h
    · exact hD.2 j _ h
    · exact hA q (Nat.le_trans hS.1 h)
  have hpre : ∀ U : State, U.heap = H → s.WarmedH U.vm → pr_ G N ad ce μ H.size U := fun U hU hW9 => ⟨by rw [hU], by rw [hU]; exact hP, va_K.moved hW9.alike hK, hDb, hsz, by rw [hU]; exact gk_warm hW9 hgH⟩
  subst hst
  obtain ⟨a9, e9, h⟩ := bd_e h
  have hM9 := hM a9 e9 l H.size
  have hpreV : ∀ U : State, U.heap = H → s.WarmedH U.vm → va_Pc As (pr_ G N ad ce μ H.size) (As).toArray U := fun U hU hW9 => ⟨rfl, hpre U hU hW9⟩
  refine va_callv (va_runS (rest := st) ⟨C.1, C.2.1, C.2.2.2.2.2.2.1, C.2.2.2.1, hts⟩ hM9 ⟨callB_of nA hts (gT_in hca.2.1) rfl rfl rfl (hts _ hca.1) (hts _ m1) hca.2.2 hR, hts _ hcv⟩ ⟨(fun a U g mk q => by obtain ⟨q0, q1, qP, qK, qD, q2, q3⟩ := q; exact ⟨q0, q1, qP, va_K.moved (u := U) (U := U.calling g mk a) (Vm.Alike.refl U.vm) qK, qD, q2, gk_same (u := U) (U := U.calling g mk a) rfl q3⟩), hpreV⟩ rfl hn hl.1 rfl (lv_room hW) d hf) hS (fun q _ h => hF q h) hF (fun u t H1 locs1 ht hvm hw hB hz1 hk1 hS1 => ?_)
  obtain ⟨hP1, hK1, hD1⟩ := hB
  rw [ht] at hP1
  exact kk a9 h H1 locs1 ls hP1 (hD1.weaken (fun _ q _ h => hF q.1 h)) hS1 hl
theorem xx_zretl (C : cx_ G X cc own rm ret nl) {e0 a : Int} {ty : FieldType} (E : ei_ G X N ad ce a μ rm) (hr : ret = some ty) (hz : narrow ty (.int (iI e0)) = .int (iI e0)) (hk : k ≤ rm.cells ∧ n ≤ rm.slots) (d : decode cc pc = .ok (.ireturn, 1)) (h : some e0 = some a) : wx_ G X N ad ce μ k n pc lv [.int (iI e0)] := xx_zret C E hr hz hk d (by rw [Option.some.inj h])
theorem jn_r {φ : Type} {f : φ} {kf : φ → Option α} {Z : Prop} (P : φ → Prop) (h : jn_ f kf = some r) (K : P f) (B : ∀ J, P J → kf J = some r → Z) : Z := B f K h
/-- the targets of a switch, one behind another -/
def al_ (G : gp_) (X : ct_) (N : Nat) (ad : Nat → Nat) (ce : Nat → (Int → Int) → va_E) (μ : mu_T) (k n : Nat) (lv : List (Nat × Value)) (st : List Value) (r : α) : List (Option α) → List Nat → Prop
  | b :: bs, t :: ts => (b = some r → wx_ G X N ad ce μ k n t lv st) ∧ al_ G X N ad ce μ k n lv st r bs ts
  | _, _ => True
theorem al_at (i : Nat) : ∀ {bs : List (Option α)} {ts : List Nat} {b : Option α} {t : Nat}, al_ G X N ad ce μ k n lv st r bs ts → bs[i]? = some b → ts[i]? = some t → b = some r → wx_ G X N ad ce μ k n t lv st := by
  induction i with
  | zero =>
    intro bs ts b t h hb ht hr
    cases bs with
    | nil => cases hb
    | cons b1 bs => cases ts with
      | nil => cases ht
      | cons t1 ts => cases hb; cases ht; exact h.1 hr
  | succ i ih =>
    intro bs ts b t h hb ht hr
    cases bs with
    | nil => cases hb
    | cons b1 bs => cases ts with
      | nil => cases ht
      | cons t1 ts => exact ih h.2 hb ht hr
theorem xx_tsw (C : cx_ G X cc own rm ret nl) {a dflt lo hi : Int} {offs : Array Int} {len : Nat} (vs : List Int) (bs : List (Option α)) (ts : List Nat) (tD : Nat) {df : Option α} (d : decode cc pc = .ok (.tableswitch dflt lo hi offs, len)) (hc : tk_ pc dflt lo hi offs.toList vs ts tD = true) (hl2 : vs.length = bs.length) (h : ts_ a vs bs df = some r) (kd : df = some r → wx_ G X N ad ce μ k n tD lv st) (kk : al_ G X N ad ce μ k n lv st r bs ts) : wx_ G X N ad ce μ k n pc lv (.int (iI a) :: st) := by
  obtain ⟨p, l, e, R, s, m, args, below, meth, c, Q, A, nL⟩ := X
  intro H locs ls hP hD hS hl
  obtain ⟨hr, h⟩ := ck_e h
  rcases tw_e2 hl2 h with ⟨hno, h⟩ | ⟨i, b, h1, h2, h3⟩
  · by_cases hlo : a < lo ∨ hi < a
    · exact lv_tableOut C.1 C.2.1 d (by rw [iI_toInt hr]; exact hlo) (tk_d hc) (kd h H locs ls hP hD hS hl)
    · obtain ⟨off, ho, he⟩ := tk_o hc (a := a) (by omega) hno
      exact lv_tableIn C.1 C.2.1 d (by rw [iI_toInt hr]; omega) (by rw [iI_toInt hr]; omega) (by rw [iI_toInt hr, ← Array.getElem?_toList]; exact ho) he (kd h H locs ls hP hD hS hl)
  · obtain ⟨t, off, ht, ho, he, h4, h5⟩ := tk_i hc h1
    exact lv_tableIn C.1 C.2.1 d (by rw [iI_toInt hr]; omega) (by rw [iI_toInt hr]; omega) (by rw [iI_toInt hr, ← Array.getElem?_toList]; exact ho) he (al_at i kk h2 ht h3 H locs ls hP hD hS hl)
end XR
end
section
/-! more rows over wx_ (written by wip/gen/rows2.py) -/
def sn_ (k : Int) : Int := ((skl_.getD k.toNat []).length : Nat)
def sc_ (k i : Int) : Int := (skl_.getD k.toNat []).getD i.toNat 0
def bl_ (μ : mu_T) (q : Nat) : Int := ((μ q (-1)).toNat : Int)
def rb_ {α : Type} (μ : mu_T) (q : Nat) (i : Int) (f : Int → Option α) : Option α := if (0 ≤ i ∧ i < bl_ μ q) ∧ bl_ μ q < 2147483648 then f (μ q i) else none
def wb_ {α : Type} (μ : mu_T) (q : Nat) (i v : Int) (f : mu_T → Option α) : Option α := if (0 ≤ i ∧ i < bl_ μ q) ∧ bl_ μ q < 2147483648 then f (st_ μ q i (i2b_ v)) else none
def kv_ (G : gp_) (x : Int) : Option Nat := if x < 0 then none else some (G.2.1 (100 + x.toNat))
def rs_ {α : Type} (k i : Int) (f : Int → Option α) : Option α := if (0 ≤ k ∧ k < 21) ∧ 0 ≤ i ∧ i < sn_ k then f (sc_ k i) else none
def ac_ {α : Type} (μ : mu_T) (q1 n1 : Nat) (p1 : Int) (q2 n2 : Nat) (p2 len : Int) (f : mu_T → Option α) : Option α := if 0 ≤ p1 ∧ 0 ≤ p2 ∧ 0 ≤ len ∧ p1 + len ≤ n1 ∧ p2 + len ≤ n2 then f (um_ μ q2 (fun j => if p2 ≤ j ∧ j < p2 + len then μ q1 (p1 + (j - p2)) else μ q2 j)) else none
def rc_ (v : Int) : Option Int := if 0 ≤ v ∧ v < 65536 then some v else none
def mn_ {α : Type} (a b : Int) (f : Int → Option α) : Option α := if rg_ a ∧ rg_ b then f (if b < a then b else a) else none
def mx_ {α : Type} (a b : Int) (f : Int → Option α) : Option α := if rg_ a ∧ rg_ b then f (if a < b then b else a) else none
def dd_ {α : Type} (x y : UInt64) (f : UInt64 → Option α) : Option α := if FP.ddiv x y &&& 0x7fffffffffffffff ≤ 0x7ff0000000000000 then f (FP.ddiv x y) else none
def fd_ {α : Type} (x y : UInt32) (f : UInt32 → Option α) : Option α := if FP.fdiv x y &&& 0x7fffffff ≤ 0x7f800000 then f (FP.fdiv x y) else none
theorem skl_len : ∀ i, i < 21 → (skl_.getD i []).length < 100 := by decide +kernel
section XR
variable {G : gp_} {X : ct_} {N : Nat} {ad : Nat → Nat} {ce : Nat → (Int → Int) → va_E} {μ : mu_T} {k n pc : Nat} {lv lv1 : List (Nat × Value)} {st stk : List Value} {cc : ByteArray} {own : String} {rm : Room} {ret : Option FieldType} {nl : Nat} {α : Type} {r : α}
theorem xx_strv (C : cx_ G X cc own rm ret nl) (p1 : Nat) (hp : pc + 3 = p1) {z : Int} {x : Option α} {index : Nat} (hlink : Cond.fieldLink own index "java/lang/String" "value" "[B" ∈ gT_) (d : decode cc pc = .ok (.getfield index, 3)) (h : gd_ (0 ≤ z ∧ z < 21) x = some r) (kk : x = some r → wx_ G X N ad ce μ k n p1 lv (.ref (G.2.1 (300 + (z : Int).toNat)) :: st)) : wx_ G X N ad ce μ k n pc lv (.ref (G.2.1 (200 + (z : Int).toNat)) :: st) := by
  obtain ⟨p, l, e, R, s, m, args, below, meth, c, Q, A, nL⟩ := X
  intro H locs ls hP hD hS hl
  subst hp
  obtain ⟨⟨hz0, hz1⟩, h⟩ := ck_e h
  have hAb := C.2.2.2.2.2.2.2.2.1
  have hg := C.2.2.2.2.2.2.2.2.2.2.2.1
  have hE := (hg.1 z.toNat (by omega)).narrow (B := A) hAb
  exact vk_getf (ref := "java/lang/String") C.1 C.2.1 (hE.1 0 (by decide)).2.2.1 hS C.2.2.2.1 (C.2.2.1 _ hlink) (fun _ h9 => h9) d (kk h H locs ls hP hD hS hl)
theorem xx_strc (C : cx_ G X cc own rm ret nl) (p1 : Nat) (hp : pc + 3 = p1) {z : Int} {x : Option α} {index : Nat} (hlink : Cond.fieldLink own index "java/lang/String" "coder" "B" ∈ gT_) (d : decode cc pc = .ok (.getfield index, 3)) (h : gd_ (0 ≤ z ∧ z < 21) x = some r) (kk : x = some r → wx_ G X N ad ce μ k n p1 lv (.int (iI 0) :: st)) : wx_ G X N ad ce μ k n pc lv (.ref (G.2.1 (200 + (z : Int).toNat)) :: st) := by
  obtain ⟨p, l, e, R, s, m, args, below, meth, c, Q, A, nL⟩ := X
  intro H locs ls hP hD hS hl
  subst hp
  obtain ⟨⟨hz0, hz1⟩, h⟩ := ck_e h
  have hAb := C.2.2.2.2.2.2.2.2.1
  have hg := C.2.2.2.2.2.2.2.2.2.2.2.1
  have hE := (hg.1 z.toNat (by omega)).narrow (B := A) hAb
  exact vk_getf (ref := "java/lang/String") C.1 C.2.1 (hE.1 0 (by decide)).2.1 hS C.2.2.2.1 (C.2.2.1 _ hlink) (fun _ h9 => h9) d (kk h H locs ls hP hD hS hl)
theorem xx_svlen (C : cx_ G X cc own rm ret nl) (p1 : Nat) (hp : pc + 1 = p1) {z : Int} {x : Option α} (d : decode cc pc = .ok (.arraylength, 1)) (h : gd_ (0 ≤ z ∧ z < 21) x = some r) (kk : x = some r → wx_ G X N ad ce μ k n p1 lv (.int (iI (sn_ z)) :: st)) : wx_ G X N ad ce μ k n pc lv (.ref (G.2.1 (300 + (z : Int).toNat)) :: st) := by
  obtain ⟨p, l, e, R, s, m, args, below, meth, c, Q, A, nL⟩ := X
  intro H locs ls hP hD hS hl
  subst hp
  obtain ⟨⟨hz0, hz1⟩, h⟩ := ck_e h
  have hAb := C.2.2.2.2.2.2.2.2.1
  have hg := C.2.2.2.2.2.2.2.2.2.2.2.1
  have hE := (hg.1 z.toNat (by omega)).narrow (B := A) hAb
  exact va_tlen C.1 C.2.1 (hE.1 0 (by decide)).2.2.2 hS (iI_nat _) d (kk h H locs ls hP hD hS hl)
theorem xx_svld (C : cx_ G X cc own rm ret nl) (p1 : Nat) (hp : pc + 1 = p1) {z i : Int} {f : Int → Option α} (d : decode cc pc = .ok (.baload, 1)) (h : rs_ z i f = some r) (kk : ∀ v, f v = some r → wx_ G X N ad ce μ k n p1 lv (.int (iI v) :: st)) : wx_ G X N ad ce μ k n pc lv (.int (iI i) :: .ref (G.2.1 (300 + (z : Int).toNat)) :: st) := by
  obtain ⟨p, l, e, R, s, m, args, below, meth, c, Q, A, nL⟩ := X
  intro H locs ls hP hD hS hl
  subst hp
  obtain ⟨⟨⟨hz0, hz1⟩, hi0, hi1⟩, h⟩ := ck_e h
  have hAb := C.2.2.2.2.2.2.2.2.1
  have hg := C.2.2.2.2.2.2.2.2.2.2.2.1
  have hE := (hg.1 z.toNat (by omega)).narrow (B := A) hAb
  have hlen : (skl_.getD z.toNat []).length < 100 := skl_len _ (by omega)
  have hi2 : i < ((skl_.getD z.toNat []).length : Nat) := hi1
  have hc : (iI i).toNatClampNeg = i.toNat := iI_clamp (by omega)
  refine va_tb C.1 C.2.1 (hE.1 0 (by decide)).2.2.2 hS (iI_in hi0 hi2 (by show (skl_.getD z.toNat []).length < 2147483648; omega)) (v := .int (iI (sc_ z i))) ?_ d (kk _ h H locs ls hP hD hS hl)
  show Value.int (((skl_.getD z.toNat []).map iI).getD (iI i).toNatClampNeg 0) = _
  rw [hc]
  unfold sc_
  generalize skl_.getD z.toNat [] = L9 at hi2 ⊢
  have h9 : i.toNat < L9.length := by omega
  rw [List.getD_eq_getElem?_getD, List.getElem?_map, List.getD_eq_getElem?_getD, List.getElem?_eq_getElem h9]
  rfl
theorem xx_gcs (C : cx_ G X cc own rm ret nl) (p1 : Nat) (hp : pc + 3 = p1) {index : Nat} (hlink : Cond.fieldLink own index "java/lang/String" "COMPACT_STRINGS" "Z" ∈ gT_) (d : decode cc pc = .ok (.getstatic index, 3)) (h : wx_ G X N ad ce μ k n p1 lv (.int (iI 1) :: st)) : wx_ G X N ad ce μ k n pc lv st := by
  obtain ⟨p, l, e, R, s, m, args, below, meth, c, Q, A, nL⟩ := X
  intro H locs ls hP hD hS hl
  subst hp
  have hAb := C.2.2.2.2.2.2.2.2.1
  have hg := C.2.2.2.2.2.2.2.2.2.2.2.1
  exact va_gets (ref := "java/lang/String") C.1 C.2.1 (va_Z.narrow (hg.2.2.1.1) hAb) hS C.2.2.2.1 (C.2.2.1 _ hlink) (fun _ h9 => h9) d (h H locs ls hP hD hS hl)
theorem xx_gsf (C : cx_ G X cc own rm ret nl) (p1 : Nat) (hp : pc + 3 = p1) {index : Nat} (hlink : Cond.fieldLink own index "jdk/internal/util/Preconditions" "SIOOBE_FORMATTER" "Ljava/util/function/BiFunction;" ∈ gT_) (d : decode cc pc = .ok (.getstatic index, 3)) (h : wx_ G X N ad ce μ k n p1 lv (.ref (G.2.1 5) :: st)) : wx_ G X N ad ce μ k n pc lv st := by
  obtain ⟨p, l, e, R, s, m, args, below, meth, c, Q, A, nL⟩ := X
  intro H locs ls hP hD hS hl
  subst hp
  have hAb := C.2.2.2.2.2.2.2.2.1
  have hg := C.2.2.2.2.2.2.2.2.2.2.2.1
  exact va_gets (ref := "jdk/internal/util/Preconditions") C.1 C.2.1 (va_Z.narrow (hg.2.2.1.2.1) hAb) hS C.2.2.2.1 (C.2.2.1 _ hlink) (fun _ h9 => h9) d (h H locs ls hP hD hS hl)
theorem xx_gsm (C : cx_ G X cc own rm ret nl) (p1 : Nat) (hp : pc + 3 = p1) {index : Nat} (hlink : Cond.fieldLink own index "UrnHeap$1" "$SwitchMap$UrnHeap$Kind" "[I" ∈ gT_) (d : decode cc pc = .ok (.getstatic index, 3)) (h : wx_ G X N ad ce μ k n p1 lv (.ref (G.2.1 1) :: st)) : wx_ G X N ad ce μ k n pc lv st := by
  obtain ⟨p, l, e, R, s, m, args, below, meth, c, Q, A, nL⟩ := X
  intro H locs ls hP hD hS hl
  subst hp
  have hAb := C.2.2.2.2.2.2.2.2.1
  have hg := C.2.2.2.2.2.2.2.2.2.2.2.1
  exact va_gets (ref := "UrnHeap$1") C.1 C.2.1 (va_Z.narrow (hg.2.2.1.2.2.2.1) hAb) hS C.2.2.2.1 (C.2.2.1 _ hlink) (fun _ h9 => h9) d (h H locs ls hP hD hS hl)
theorem xx_gd1 (C : cx_ G X cc own rm ret nl) (p1 : Nat) (hp : pc + 3 = p1) {index : Nat} (hlink : Cond.fieldLink own index "java/lang/Integer" "DigitOnes" "[B" ∈ gT_) (d : decode cc pc = .ok (.getstatic index, 3)) (h : wx_ G X N ad ce μ k n p1 lv (.ref (G.2.1 3) :: st)) : wx_ G X N ad ce μ k n pc lv st := by
  obtain ⟨p, l, e, R, s, m, args, below, meth, c, Q, A, nL⟩ := X
  intro H locs ls hP hD hS hl
  subst hp
  have hAb := C.2.2.2.2.2.2.2.2.1
  have hg := C.2.2.2.2.2.2.2.2.2.2.2.1
  exact va_gets (ref := "java/lang/Integer") C.1 C.2.1 (va_Z.narrow (hg.2.2.1.2.2.2.2.1) hAb) hS C.2.2.2.1 (C.2.2.1 _ hlink) (fun _ h9 => h9) d (h H locs ls hP hD hS hl)
theorem xx_gd0 (C : cx_ G X cc own rm ret nl) (p1 : Nat) (hp : pc + 3 = p1) {index : Nat} (hlink : Cond.fieldLink own index "java/lang/Integer" "DigitTens" "[B" ∈ gT_) (d : decode cc pc = .ok (.getstatic index, 3)) (h : wx_ G X N ad ce μ k n p1 lv (.ref (G.2.1 4) :: st)) : wx_ G X N ad ce μ k n pc lv st := by
  obtain ⟨p, l, e, R, s, m, args, below, meth, c, Q, A, nL⟩ := X
  intro H locs ls hP hD hS hl
  subst hp
  have hAb := C.2.2.2.2.2.2.2.2.1
  have hg := C.2.2.2.2.2.2.2.2.2.2.2.1
  exact va_gets (ref := "java/lang/Integer") C.1 C.2.1 (va_Z.narrow (hg.2.2.1.2.2.2.2.2) hAb) hS C.2.2.2.1 (C.2.2.1 _ hlink) (fun _ h9 => h9) d (h H locs ls hP hD hS hl)
theorem xx_gall (C : cx_ G X cc own rm ret nl) (p1 : Nat) (hp : pc + 3 = p1) (ho : own = "UrnHeap$Orders") (d : decode cc pc = .ok (.getstatic 60, 3)) (h : wx_ G X N ad ce μ k n p1 lv (.ref (G.2.1 2) :: st)) : wx_ G X N ad ce μ k n pc lv st := by
  obtain ⟨p, l, e, R, s, m, args, below, meth, c, Q, A, nL⟩ := X
  intro H locs ls hP hD hS hl
  subst hp
  have hAb := C.2.2.2.2.2.2.2.2.1
  have hg := C.2.2.2.2.2.2.2.2.2.2.2.1
  subst ho
  exact va_getsN (ref := "UrnHeap$Kind") (host := "UrnHeap") C.1 C.2.1 (va_Z.narrow hg.2.2.1.2.2.1 hAb) hS C.2.2.2.1 (va_Nw.use rfl hg.2.2.2.2.2.1) (fun _ h9 => h9) d (h H locs ls hP hD hS hl)
theorem xx_alllen (C : cx_ G X cc own rm ret nl) (p1 : Nat) (hp : pc + 1 = p1) (d : decode cc pc = .ok (.arraylength, 1)) (h : wx_ G X N ad ce μ k n p1 lv (.int (iI 10) :: st)) : wx_ G X N ad ce μ k n pc lv (.ref (G.2.1 2) :: st) := by
  obtain ⟨p, l, e, R, s, m, args, below, meth, c, Q, A, nL⟩ := X
  intro H locs ls hP hD hS hl
  subst hp
  have hAb := C.2.2.2.2.2.2.2.2.1
  have hg := C.2.2.2.2.2.2.2.2.2.2.2.1
  exact va_tlen C.1 C.2.1 (va_T.narrow hg.2.2.2.1.1 hAb) hS (iI_nat _) d (h H locs ls hP hD hS hl)
theorem xx_alda (C : cx_ G X cc own rm ret nl) (p1 : Nat) (hp : pc + 1 = p1) {i : Int} {x : Option α} (d : decode cc pc = .ok (.aaload, 1)) (h : gd_ (0 ≤ i ∧ i < 10) x = some r) (kk : x = some r → wx_ G X N ad ce μ k n p1 lv (.ref (G.2.1 (100 + (i : Int).toNat)) :: st)) : wx_ G X N ad ce μ k n pc lv (.int (iI i) :: .ref (G.2.1 2) :: st) := by
  obtain ⟨p, l, e, R, s, m, args, below, meth, c, Q, A, nL⟩ := X
  intro H locs ls hP hD hS hl
  subst hp
  obtain ⟨⟨h0, h1⟩, h⟩ := ck_e h
  have hAb := C.2.2.2.2.2.2.2.2.1
  have hg := C.2.2.2.2.2.2.2.2.2.2.2.1
  exact vb_tq C.1 C.2.1 (va_T.narrow hg.2.2.2.1.1 hAb) hS (iI_in h0 h1 (by decide)) (by rw [iI_clamp (by omega)]) d (kk h H locs ls hP hD hS hl)
theorem xx_smld (C : cx_ G X cc own rm ret nl) (p1 : Nat) (hp : pc + 1 = p1) {i : Int} {x : Option α} (d : decode cc pc = .ok (.iaload, 1)) (h : gd_ (0 ≤ i ∧ i < 10) x = some r) (kk : x = some r → wx_ G X N ad ce μ k n p1 lv (.int (iI (i + 1)) :: st)) : wx_ G X N ad ce μ k n pc lv (.int (iI i) :: .ref (G.2.1 1) :: st) := by
  obtain ⟨p, l, e, R, s, m, args, below, meth, c, Q, A, nL⟩ := X
  intro H locs ls hP hD hS hl
  subst hp
  obtain ⟨⟨h0, h1⟩, h⟩ := ck_e h
  have hAb := C.2.2.2.2.2.2.2.2.1
  have hg := C.2.2.2.2.2.2.2.2.2.2.2.1
  refine va_ti C.1 C.2.1 (va_T.narrow hg.2.2.2.1.2.1 hAb) hS (iI_in h0 h1 (by decide)) (v := .int (iI (i + 1))) (by rw [iI_clamp (by omega)]; congr 2; omega) d (kk h H locs ls hP hD hS hl)
theorem xx_d1ld (C : cx_ G X cc own rm ret nl) (p1 : Nat) (hp : pc + 1 = p1) {i : Int} {x : Option α} (d : decode cc pc = .ok (.baload, 1)) (h : gd_ (0 ≤ i ∧ i < 100) x = some r) (kk : x = some r → wx_ G X N ad ce μ k n p1 lv (.int (iI (48 + i % 10)) :: st)) : wx_ G X N ad ce μ k n pc lv (.int (iI i) :: .ref (G.2.1 3) :: st) := by
  obtain ⟨p, l, e, R, s, m, args, below, meth, c, Q, A, nL⟩ := X
  intro H locs ls hP hD hS hl
  subst hp
  obtain ⟨⟨h0, h1⟩, h⟩ := ck_e h
  have hAb := C.2.2.2.2.2.2.2.2.1
  have hg := C.2.2.2.2.2.2.2.2.2.2.2.1
  refine va_tb C.1 C.2.1 (va_T.narrow hg.2.2.2.1.2.2.1 hAb) hS (iI_in h0 h1 (by decide)) (v := .int (iI (48 + i % 10))) (by rw [iI_clamp (by omega)]; congr 2; omega) d (kk h H locs ls hP hD hS hl)
theorem xx_d0ld (C : cx_ G X cc own rm ret nl) (p1 : Nat) (hp : pc + 1 = p1) {i : Int} {x : Option α} (d : decode cc pc = .ok (.baload, 1)) (h : gd_ (0 ≤ i ∧ i < 100) x = some r) (kk : x = some r → wx_ G X N ad ce μ k n p1 lv (.int (iI (48 + i / 10)) :: st)) : wx_ G X N ad ce μ k n pc lv (.int (iI i) :: .ref (G.2.1 4) :: st) := by
  obtain ⟨p, l, e, R, s, m, args, below, meth, c, Q, A, nL⟩ := X
  intro H locs ls hP hD hS hl
  subst hp
  obtain ⟨⟨h0, h1⟩, h⟩ := ck_e h
  have hAb := C.2.2.2.2.2.2.2.2.1
  have hg := C.2.2.2.2.2.2.2.2.2.2.2.1
  refine va_tb C.1 C.2.1 (va_T.narrow hg.2.2.2.1.2.2.2 hAb) hS (iI_in h0 h1 (by decide)) (v := .int (iI (48 + i / 10))) (by rw [iI_clamp (by omega)]; congr 2; omega) d (kk h H locs ls hP hD hS hl)
theorem xx_form (C : cx_ G X cc own rm ret nl) (p1 : Nat) (hp : pc + 3 = p1) {z : Int} {x : Option α} {index : Nat} (hlink : Cond.fieldLink own index "UrnHeap$Kind" "form" "Ljava/lang/String;" ∈ gT_) (d : decode cc pc = .ok (.getfield index, 3)) (h : gd_ (0 ≤ z ∧ z < 10) x = some r) (kk : x = some r → wx_ G X N ad ce μ k n p1 lv (.ref (G.2.1 (200 + (z : Int).toNat)) :: st)) : wx_ G X N ad ce μ k n pc lv (.ref (G.2.1 (100 + (z : Int).toNat)) :: st) := by
  obtain ⟨p, l, e, R, s, m, args, below, meth, c, Q, A, nL⟩ := X
  intro H locs ls hP hD hS hl
  subst hp
  obtain ⟨⟨hz0, hz1⟩, h⟩ := ck_e h
  have hAb := C.2.2.2.2.2.2.2.2.1
  have hg := C.2.2.2.2.2.2.2.2.2.2.2.1
  have hE := hg.2.1 z.toNat (by omega)
  exact vk_getf (ref := "UrnHeap$Kind") C.1 C.2.1 (va_OF.narrow hE.2.2 hAb) hS C.2.2.2.1 (C.2.2.1 _ hlink) (fun _ h9 => h9) d (kk h H locs ls hP hD hS hl)
theorem xx_ord (C : cx_ G X cc own rm ret nl) (p1 : Nat) (hp : pc + 3 = p1) {z : Int} {x : Option α} {index : Nat} (hlink : Cond.fieldLink own index "java/lang/Enum" "ordinal" "I" ∈ gT_) (d : decode cc pc = .ok (.getfield index, 3)) (h : gd_ (0 ≤ z ∧ z < 10) x = some r) (kk : x = some r → wx_ G X N ad ce μ k n p1 lv (.int (iI z) :: st)) : wx_ G X N ad ce μ k n pc lv (.ref (G.2.1 (100 + (z : Int).toNat)) :: st) := by
  obtain ⟨p, l, e, R, s, m, args, below, meth, c, Q, A, nL⟩ := X
  intro H locs ls hP hD hS hl
  subst hp
  obtain ⟨⟨hz0, hz1⟩, h⟩ := ck_e h
  have hAb := C.2.2.2.2.2.2.2.2.1
  have hg := C.2.2.2.2.2.2.2.2.2.2.2.1
  have hE := hg.2.1 z.toNat (by omega)
  have hzz : ((z.toNat : Nat) : Int) = z := by omega
  have hE1 := hE.2.1
  rw [hzz] at hE1
  exact vk_getf (ref := "java/lang/Enum") C.1 C.2.1 (va_OF.narrow hE1 hAb) hS C.2.2.2.1 (C.2.2.1 _ hlink) (fun _ h9 => h9) d (kk h H locs ls hP hD hS hl)
theorem xx_ldcs (C : cx_ G X cc own rm ret nl) (p1 : Nat) (hp : pc + 2 = p1) (i : Nat) {tx : String} {index : Nat} (ho : own = "UrnHeapModel") (hw : swl_[i]? = some (index, tx)) (d : decode cc pc = .ok (.ldc index, 2)) (h : wx_ G X N ad ce μ k n p1 lv (.ref (G.2.1 (210 + i)) :: st)) : wx_ G X N ad ce μ k n pc lv st := by
  obtain ⟨p, l, e, R, s, m, args, below, meth, c, Q, A, nL⟩ := X
  intro H locs ls hP hD hS hl
  subst hp
  have hAb := C.2.2.2.2.2.2.2.2.1
  have hg := C.2.2.2.2.2.2.2.2.2.2.2.1
  subst ho
  exact va_ldcS C.1 C.2.1 C.2.2.2.1 (hg.2.2.2.2.2.2.1 i _ hw) d (h H locs ls hP hD hS hl)
theorem xx_ldci (C : cx_ G X cc own rm ret nl) (p1 : Nat) (hp : pc + 2 = p1) {v : Int} {index : Nat} (hw : Cond.constant own index (iI v) ∈ gT_) (d : decode cc pc = .ok (.ldc index, 2)) (h : wx_ G X N ad ce μ k n p1 lv (.int (iI v) :: st)) : wx_ G X N ad ce μ k n pc lv st := by
  obtain ⟨p, l, e, R, s, m, args, below, meth, c, Q, A, nL⟩ := X
  intro H locs ls hP hD hS hl
  subst hp
  exact lv_ldc C.1 C.2.1 C.2.2.2.1 (C.2.2.1 _ hw) d (h H locs ls hP hD hS hl)
theorem xx_ldcwi (C : cx_ G X cc own rm ret nl) (p1 : Nat) (hp : pc + 3 = p1) {v : Int} {index : Nat} (hw : Cond.constant own index (iI v) ∈ gT_) (d : decode cc pc = .ok (.ldc_w index, 3)) (h : wx_ G X N ad ce μ k n p1 lv (.int (iI v) :: st)) : wx_ G X N ad ce μ k n pc lv st := by
  obtain ⟨p, l, e, R, s, m, args, below, meth, c, Q, A, nL⟩ := X
  intro H locs ls hP hD hS hl
  subst hp
  exact lv_ldcw C.1 C.2.1 C.2.2.2.1 (C.2.2.1 _ hw) d (h H locs ls hP hD hS hl)
theorem xx_blen (C : cx_ G X cc own rm ret nl) (p1 : Nat) (hp : pc + 1 = p1) {q : Nat} {f : Int → Option α} (hq : q < N) (he : ∀ row, ce q row = .inl (G.1.1 101, (row (-1)).toNat, .inl (fun j => iI (row (j : Nat))))) (d : decode cc pc = .ok (.arraylength, 1)) (h : nm_ (bl_ μ q) f = some r) (kk : ∀ v, f v = some r → wx_ G X N ad ce μ k n p1 lv (.int (iI v) :: st)) : wx_ G X N ad ce μ k n pc lv (.ref (ad q) :: st) := by
  obtain ⟨p, l, e, R, s, m, args, below, meth, c, Q, A, nL⟩ := X
  intro H locs ls hP hD hS hl
  subst hp
  exact va_alen C.1 C.2.1 C.2.2.2.2.1 hP q 1 ((wl_get hq).trans (by rw [he])) rfl (iI_nat (μ q (-1)).toNat) d (kk _ h H locs ls hP hD hS hl)
theorem xx_baload (C : cx_ G X cc own rm ret nl) (p1 : Nat) (hp : pc + 1 = p1) {q : Nat} {i : Int} {f : Int → Option α} (hq : q < N) (he : ∀ row, ce q row = .inl (G.1.1 101, (row (-1)).toNat, .inl (fun j => iI (row (j : Nat))))) (d : decode cc pc = .ok (.baload, 1)) (h : rb_ μ q i f = some r) (kk : ∀ v, f v = some r → wx_ G X N ad ce μ k n p1 lv (.int (iI v) :: st)) : wx_ G X N ad ce μ k n pc lv (.int (iI i) :: .ref (ad q) :: st) := by
  obtain ⟨p, l, e, R, s, m, args, below, meth, c, Q, A, nL⟩ := X
  intro H locs ls hP hD hS hl
  subst hp
  obtain ⟨⟨⟨h0, h1⟩, h2⟩, h⟩ := ck_e h
  unfold bl_ at h1 h2
  refine va_bald C.1 C.2.1 C.2.2.2.2.1 hP q 1 ((wl_get hq).trans (by rw [he])) rfl (iI_in h0 h1 (by omega)) d ?_
  have e1 : (((iI i).toNatClampNeg : Nat) : Int) = i := by rw [iI_clamp (by omega)]; omega
  show W _ _ _ _ _ _ _ _ _ _ _ _ _ _ _ (F0 m (pc + 1) ls (.int (iI (μ q (((iI i).toNatClampNeg : Nat) : Int))) :: st))
  rw [e1]
  exact kk _ h H locs ls hP hD hS hl
theorem xx_bastore (C : cx_ G X cc own rm ret nl) (p1 : Nat) (hp : pc + 1 = p1) {q : Nat} {i v : Int} {f : mu_T → Option α} (hq : q < N) (he : ∀ row, ce q row = .inl (G.1.1 101, (row (-1)).toNat, .inl (fun j => iI (row (j : Nat))))) (d : decode cc pc = .ok (.bastore, 1)) (h : wb_ μ q i v f = some r) (kk : ∀ μ1, f μ1 = some r → wx_ G X N ad ce μ1 k n p1 lv st) : wx_ G X N ad ce μ k n pc lv (.int (iI v) :: .int (iI i) :: .ref (ad q) :: st) := by
  obtain ⟨p, l, e, R, s, m, args, below, meth, c, Q, A, nL⟩ := X
  intro H locs ls hP hD hS hl
  subst hp
  obtain ⟨⟨⟨h0, h1⟩, h2⟩, h⟩ := ck_e h
  have hb1 : i < ((μ q (-1)).toNat : Int) := h1
  have hb2 : ((μ q (-1)).toNat : Int) < 2147483648 := h2
  refine va_bast C.1 C.2.1 C.2.2.2.2.1 hP hD hS q 1 ((wl_get hq).trans (by rw [he])) rfl (iI_in h0 hb1 (by omega)) d (fun H1 locs1 hP1 hD1 hS1 => ?_)
  have e1 : (upd (fun j : Nat => iI (μ q (j : Int))) (iI i).toNatClampNeg (vp_nar .byte (iI v))) = fun j : Nat => iI (ur_ (μ q) i (i2b_ v) (j : Int)) := by
    funext j
    rw [iI_clamp (by omega), vp_nar_byte]
    unfold upd ur_
    by_cases hj : j = i.toNat
    · rw [if_pos hj, if_pos (by omega)]
      unfold i2b_
      exact (iI_of _).symm
    · rw [if_neg hj, if_neg (by omega)]
  have e2 : ur_ (μ q) i (i2b_ v) (-1) = μ q (-1) := if_neg (by omega)
  have e3 : ce q (ur_ (μ q) i (i2b_ v)) = .inl (G.1.1 101, (μ q (-1)).toNat, .inl (upd (fun j : Nat => iI (μ q (j : Int))) (iI i).toNatClampNeg (vp_nar .byte (iI v)))) := by rw [he, e1, e2]
  rw [← e3, wl_set] at hP1 hD1
  exact kk _ h H1 locs1 ls hP1 hD1 hS1 hl
theorem xx_ifnonnull (C : cx_ G X cc own rm ret nl) {x : Nat} {off : Int} (tgt : Nat) (d : decode cc pc = .ok (.ifnonnull off, 3)) (ht : (pc : Int) + off = (tgt : Int)) (h : wx_ G X N ad ce μ k n tgt lv st) : wx_ G X N ad ce μ k n pc lv (.ref x :: st) := by
  obtain ⟨p, l, e, R, s, m, args, below, meth, c, Q, A, nL⟩ := X
  intro H locs ls hP hD hS hl
  exact lv_ifnonnull C.1 C.2.1 d ht (h H locs ls hP hD hS hl)
theorem xx_ifnull (C : cx_ G X cc own rm ret nl) (p1 : Nat) (hp : pc + 3 = p1) {x : Nat} {off : Int} (d : decode cc pc = .ok (.ifnull off, 3)) (h : wx_ G X N ad ce μ k n p1 lv st) : wx_ G X N ad ce μ k n pc lv (.ref x :: st) := by
  obtain ⟨p, l, e, R, s, m, args, below, meth, c, Q, A, nL⟩ := X
  intro H locs ls hP hD hS hl
  subst hp
  exact lv_ifnull C.1 C.2.1 d (h H locs ls hP hD hS hl)
theorem xx_ifnullN (C : cx_ G X cc own rm ret nl) {off : Int} (tgt : Nat) (d : decode cc pc = .ok (.ifnull off, 3)) (ht : (pc : Int) + off = (tgt : Int)) (h : wx_ G X N ad ce μ k n tgt lv st) : wx_ G X N ad ce μ k n pc lv (.null :: st) := by
  obtain ⟨p, l, e, R, s, m, args, below, meth, c, Q, A, nL⟩ := X
  intro H locs ls hP hD hS hl
  exact lv_ifnullN C.1 C.2.1 d ht (h H locs ls hP hD hS hl)
theorem xx_ifnullK (C : cx_ G X cc own rm ret nl) (p1 : Nat) (hp : pc + 3 = p1) {z : Int} {off : Int} {t f : Option α} {tgt : Nat} (d : decode cc pc = .ok (.ifnull off, 3)) (ht : (pc : Int) + off = (tgt : Int)) (h : (if z < 0 then t else f) = some r) (k1 : t = some r → wx_ G X N ad ce μ k n tgt lv st) (k2 : f = some r → wx_ G X N ad ce μ k n p1 lv st) : wx_ G X N ad ce μ k n pc lv (va_rf (kv_ G z) :: st) := by
  obtain ⟨p, l, e, R, s, m, args, below, meth, c, Q, A, nL⟩ := X
  intro H locs ls hP hD hS hl
  subst hp
  unfold kv_
  split at h
  next hc => rw [if_pos hc]; exact lv_ifnullN C.1 C.2.1 d ht (k1 h H locs ls hP hD hS hl)
  next hc => rw [if_neg hc]; exact lv_ifnull C.1 C.2.1 d (k2 h H locs ls hP hD hS hl)
theorem xx_knn {z : Int} {x : Option α} (h : gd_ (0 ≤ z ∧ z < 10) x = some r) (kk : x = some r → wx_ G X N ad ce μ k n pc lv (.ref (G.2.1 (100 + (z : Int).toNat)) :: st)) : wx_ G X N ad ce μ k n pc lv (va_rf (kv_ G z) :: st) := by
  obtain ⟨hz, h⟩ := ck_e h
  have e : va_rf (kv_ G z) = .ref (G.2.1 (100 + (z : Int).toNat)) := by unfold kv_; rw [if_neg (by omega)]; rfl
  rw [e]
  exact kk h
theorem xx_aldk (C : cx_ G X cc own rm ret nl) (p1 : Nat) (hp : pc + 1 = p1) {q nA : Nat} {i : Int} {f : Int → Option α} (hq : q < N) (he : ∀ row, ce q row = .inl (G.1.1 103, nA, .inr (.inr (.inr (.inr (fun j => kv_ G (row (j : Nat)))))))) (hn : nA < 2147483648) (d : decode cc pc = .ok (.aaload, 1)) (h : rd_ μ q nA i f = some r) (kk : ∀ v, f v = some r → wx_ G X N ad ce μ k n p1 lv (va_rf (kv_ G v) :: st)) : wx_ G X N ad ce μ k n pc lv (.int (iI i) :: .ref (ad q) :: st) := by
  obtain ⟨p, l, e, R, s, m, args, below, meth, c, Q, A, nL⟩ := X
  intro H locs ls hP hD hS hl
  subst hp
  obtain ⟨⟨h0, h1⟩, h⟩ := ck_e h
  refine va_aldq C.1 C.2.1 C.2.2.2.2.1 hP q 3 ((wl_get hq).trans (by rw [he])) rfl (iI_in h0 h1 hn) d ?_
  have e1 : (((iI i).toNatClampNeg : Nat) : Int) = i := by rw [iI_clamp (by omega)]; omega
  show W _ _ _ _ _ _ _ _ _ _ _ _ _ _ _ (F0 m (pc + 1) ls (va_rf (kv_ G (μ q (((iI i).toNatClampNeg : Nat) : Int))) :: st))
  rw [e1]
  exact kk _ h H locs ls hP hD hS hl
theorem xx_astk (C : cx_ G X cc own rm ret nl) (p1 : Nat) (hp : pc + 1 = p1) {q nA : Nat} {i z : Int} {f : mu_T → Option α} (hq : q < N) (he : ∀ row, ce q row = .inl (G.1.1 103, nA, .inr (.inr (.inr (.inr (fun j => kv_ G (row (j : Nat)))))))) (hn : nA < 2147483648) (d : decode cc pc = .ok (.aastore, 1)) (h : gd_ (0 ≤ z ∧ z < 10) (wr_ μ q nA i z f) = some r) (kk : ∀ μ1, f μ1 = some r → wx_ G X N ad ce μ1 k n p1 lv st) : wx_ G X N ad ce μ k n pc lv (.ref (G.2.1 (100 + (z : Int).toNat)) :: .int (iI i) :: .ref (ad q) :: st) := by
  obtain ⟨p, l, e, R, s, m, args, below, meth, c, Q, A, nL⟩ := X
  intro H locs ls hP hD hS hl
  subst hp
  obtain ⟨⟨hz0, hz1⟩, h⟩ := ck_e h
  obtain ⟨⟨h0, h1⟩, h⟩ := ck_e h
  have hAb := C.2.2.2.2.2.2.2.2.1
  have hg := C.2.2.2.2.2.2.2.2.2.2.2.1
  have hany : va_Any "UrnHeap$Kind" s H (G.2.1 (100 + z.toNat)) := by
    obtain ⟨cell, g1, g2, g3, g4⟩ := (hg.2.1 z.toNat (by omega)).1
    have g5 : H[G.2.1 (100 + z.toNat)]? = some cell := by
      rw [hS.2.1 _ (Array.getElem?_eq_some_iff.mp g1).1 (fun q => g4 (hAb _ q))]
      exact g1
    obtain ⟨kC, hkC, hnm⟩ := Vm.findClass_spec g3
    refine ⟨cell, g5, g2, ⟨kC, hkC⟩, fun comp hcomp => ?_⟩
    have e9 : comp = cell.cls := Option.some.inj (hcomp.symm.trans g3)
    subst e9
    exact va_asg _ _
  refine va_astqM (E := "UrnHeap$Kind") C.1 C.2.1 C.2.2.2.2.1 hP hD hS q 3 ((wl_get hq).trans (by rw [he])) rfl hany (iI_in h0 h1 hn) d (fun H1 locs1 hP1 hD1 hS1 => ?_)
  have e1 : (va_up (fun j : Nat => kv_ G (μ q (j : Int))) (iI i).toNatClampNeg (some (G.2.1 (100 + z.toNat)))) = fun j : Nat => kv_ G (ur_ (μ q) i z (j : Int)) := by
    funext j
    rw [iI_clamp (by omega)]
    unfold va_up ur_
    by_cases hj : j = i.toNat
    · rw [if_pos hj, if_pos (by omega)]
      unfold kv_
      rw [if_neg (by omega)]
    · rw [if_neg hj, if_neg (by omega)]
  rw [e1, ← he, wl_set] at hP1 hD1
  exact kk _ h H1 locs1 ls hP1 hD1 hS1 hl
theorem xx_aldp (C : cx_ G X cc own rm ret nl) (p1 : Nat) (hp : pc + 1 = p1) {q nA : Nat} {i : Int} {x : Option α} (hq : q < N) (he : ∀ row, ce q row = .inl (G.1.1 102, nA, .inr (.inr (.inr (.inr (fun j => some (ad (12 * (j + 1))))))))) (hn : nA < 2147483648) (d : decode cc pc = .ok (.aaload, 1)) (h : gd_ (0 ≤ i ∧ i < (nA : Int)) x = some r) (kk : (0 ≤ i ∧ i < (nA : Int)) → x = some r → wx_ G X N ad ce μ k n p1 lv (.ref (ad (12 * (i.toNat + 1) + 0)) :: st)) : wx_ G X N ad ce μ k n pc lv (.int (iI i) :: .ref (ad q) :: st) := by
  obtain ⟨p, l, e, R, s, m, args, below, meth, c, Q, A, nL⟩ := X
  intro H locs ls hP hD hS hl
  subst hp
  obtain ⟨⟨h0, h1⟩, h⟩ := ck_e h
  refine va_aldq C.1 C.2.1 C.2.2.2.2.1 hP q 2 ((wl_get hq).trans (by rw [he])) rfl (iI_in h0 h1 hn) d ?_
  show W _ _ _ _ _ _ _ _ _ _ _ _ _ _ _ (F0 m (pc + 1) ls (.ref (ad (12 * ((iI i).toNatClampNeg + 1))) :: st))
  rw [iI_clamp (by omega)]
  exact kk ⟨h0, h1⟩ h H locs ls hP hD hS hl
theorem xx_plen (C : cx_ G X cc own rm ret nl) (p1 : Nat) (hp : pc + 1 = p1) {q nA : Nat} {f9 : Nat → Option Nat} (hq : q < N) (he : ∀ row, ce q row = .inl (G.1.1 102, nA, .inr (.inr (.inr (.inr f9))))) (d : decode cc pc = .ok (.arraylength, 1)) (h : wx_ G X N ad ce μ k n p1 lv (.int (iI nA) :: st)) : wx_ G X N ad ce μ k n pc lv (.ref (ad q) :: st) := by
  obtain ⟨p, l, e, R, s, m, args, below, meth, c, Q, A, nL⟩ := X
  intro H locs ls hP hD hS hl
  subst hp
  exact va_alen C.1 C.2.1 C.2.2.2.2.1 hP q 2 ((wl_get hq).trans (by rw [he])) rfl (iI_nat nA) d (h H locs ls hP hD hS hl)
theorem xx_klen (C : cx_ G X cc own rm ret nl) (p1 : Nat) (hp : pc + 1 = p1) {q nA : Nat} (hq : q < N) (he : ∀ row, ce q row = .inl (G.1.1 103, nA, .inr (.inr (.inr (.inr (fun j => kv_ G (row (j : Nat)))))))) (d : decode cc pc = .ok (.arraylength, 1)) (h : wx_ G X N ad ce μ k n p1 lv (.int (iI nA) :: st)) : wx_ G X N ad ce μ k n pc lv (.ref (ad q) :: st) := by
  obtain ⟨p, l, e, R, s, m, args, below, meth, c, Q, A, nL⟩ := X
  intro H locs ls hP hD hS hl
  subst hp
  exact va_alen C.1 C.2.1 C.2.2.2.2.1 hP q 3 ((wl_get hq).trans (by rw [he])) rfl (iI_nat nA) d (h H locs ls hP hD hS hl)
theorem xx_acopy (C : cx_ G X cc own rm ret nl) (p1 : Nat) (hp : pc + 3 = p1) {q1 q2 n1 n2 index : Nat} {a1 a2 len : Int} {f : mu_T → Option α} (hq1 : q1 < N) (he1 : ∀ row, ce q1 row = .inl (G.1.1 100, n1, .inl (fun j => iI (row (j : Nat))))) (hq2 : q2 < N) (he2 : ∀ row, ce q2 row = .inl (G.1.1 100, n2, .inl (fun j => iI (row (j : Nat))))) (hn : n1 < 2147483648 ∧ n2 < 2147483648) (hw : Cond.methodLink own index arraycopyName ∈ gT_ ∧ Cond.native arraycopyName ∈ gT_ ∧ Cond.static arraycopyName ∈ gT_ ∧ Cond.initialized "java/lang/System" ∈ gT_) (hR : 1 ≤ rm.frames ∧ (st.map fun v => v.category).sum + (nativeFrameWords "java/lang/System" "arraycopy" 5 + 11) ≤ rm.locals) (d : decode cc pc = .ok (.invokestatic index, 3)) (h : ac_ μ q1 n1 a1 q2 n2 a2 len f = some r) (kk : ∀ μ1, f μ1 = some r → wx_ G X N ad ce μ1 k n p1 lv st) : wx_ G X N ad ce μ k n pc lv (.int (iI len) :: .int (iI a2) :: .ref (ad q2) :: .int (iI a1) :: .ref (ad q1) :: st) := by
  obtain ⟨p, l, e, R, s, m, args, below, meth, c, Q, A, nL⟩ := X
  intro H locs ls hP hD hS hl
  subst hp
  obtain ⟨⟨g1, g2, g3, g4, g5⟩, h⟩ := ck_e h
  have hR' : R = rm := C.2.2.2.2.2.2.2.2.2.1
  have z0 : ∀ {z : Int}, 0 ≤ z → z ≤ 2147483647 → ¬ iI z < 0 := fun {z} h1 h2 q => by
    have := (iI_lt (a := z) (b := 0) (by omega) (by decide)).mp q
    omega
  have c1 : (iI a1).toNatClampNeg = a1.toNat := iI_clamp (by omega)
  have c2 : (iI a2).toNatClampNeg = a2.toNat := iI_clamp (by omega)
  have c3 : (iI len).toNatClampNeg = len.toNat := iI_clamp (by omega)
  refine va_copyi C.1 C.2.1 (C.2.2.2.2.2.2.1.trans hl.1.symm) C.2.2.2.1 (C.2.2.1 _ hw.1) (C.2.2.1 _ hw.2.1) (C.2.2.1 _ hw.2.2.1) (C.2.2.1 _ hw.2.2.2) C.2.2.2.2.1 hP hD hS q1 q2 0 0 ((wl_get hq1).trans (by rw [he1])) ((wl_get hq2).trans (by rw [he2])) rfl rfl rfl (z0 g1 (by omega)) (z0 g2 (by omega)) (z0 g3 (by omega)) (by rw [c1, c3]; omega) (by rw [c2, c3]; omega) (fun _ _ => rfl) (by rw [hR']; exact hR.1) (by rw [hR']; exact hR.2) d (fun H1 locs1 hP1 hD1 hS1 => ?_)
  have e1 : va_cpy (fun j : Nat => iI (μ q1 (j : Int))) (fun j : Nat => iI (μ q2 (j : Int))) (iI a1).toNatClampNeg (iI a2).toNatClampNeg (iI len).toNatClampNeg = fun j : Nat => iI ((fun j : Int => if a2 ≤ j ∧ j < a2 + len then μ q1 (a1 + (j - a2)) else μ q2 j) (j : Int)) := by
    funext j
    rw [c1, c2, c3]
    unfold va_cpy
    by_cases hj : a2.toNat ≤ j ∧ j < a2.toNat + len.toNat
    · rw [if_pos hj]
      show iI (μ q1 _) = iI (if _ then _ else _)
      rw [if_pos (by omega)]
      congr 2
      omega
    · rw [if_neg hj]
      show iI (μ q2 _) = iI (if _ then _ else _)
      rw [if_neg (by omega)]
  rw [e1, ← he2 (fun j : Int => if a2 ≤ j ∧ j < a2 + len then μ q1 (a1 + (j - a2)) else μ q2 j), wl_set] at hP1 hD1
  exact kk _ h H1 locs1 ls hP1 hD1 hS1 hl
theorem xx_mmin (C : cx_ G X cc own rm ret nl) (p1 : Nat) (hp : pc + 3 = p1) {index : Nat} {a b : Int} {f : Int → Option α} (hw : Cond.methodLink own index Lib.Math.min.name ∈ gT_ ∧ Cond.static Lib.Math.min.name ∈ gT_ ∧ Cond.initialized "java/lang/Math" ∈ gT_ ∧ Cond.code Lib.Math.min.name Lib.Math.min.code 2 (some .int) ∈ gT_) (hR : 1 ≤ rm.frames ∧ (st.map fun v => v.category).sum + 13 ≤ rm.locals) (hf : k ≤ rm.cells ∧ n ≤ rm.slots) (d : decode cc pc = .ok (.invokestatic index, 3)) (h : mn_ a b f = some r) (kk : ∀ v, f v = some r → wx_ G X N ad ce μ k n p1 lv (.int (iI v) :: st)) : wx_ G X N ad ce μ k n pc lv (.int (iI b) :: .int (iI a) :: st) := by
  obtain ⟨p, l, e, R, s, m, args, below, meth, c, Q, A, nL⟩ := X
  intro H locs ls hP hD hS hl
  subst hp
  obtain ⟨⟨ha, hb⟩, h⟩ := ck_e h
  have hR' : R = rm := C.2.2.2.2.2.2.2.2.2.1
  refine va_mmin C.1 C.2.1 (C.2.2.2.2.2.2.1.trans hl.1.symm) C.2.2.2.1 (C.2.2.1 _ hw.1) (C.2.2.1 _ hw.2.1) (C.2.2.1 _ hw.2.2.1) (C.2.2.1 _ hw.2.2.2) (by rw [hR']; exact hR.1) (by rw [hR']; exact hR.2) (by rw [hR']; exact hf.1) (by rw [hR']; exact hf.2) d ?_
  have hk := kk _ h H locs ls hP hD hS hl
  by_cases hc : b < a
  · rw [if_pos hc] at hk
    rw [show (if iI b < iI a then iI b else iI a) = iI b from if_pos ((iI_lt hb ha).mpr hc)]
    exact hk
  · rw [if_neg hc] at hk
    rw [show (if iI b < iI a then iI b else iI a) = iI a from if_neg (fun q => hc ((iI_lt hb ha).mp q))]
    exact hk
theorem xx_mmax (C : cx_ G X cc own rm ret nl) (p1 : Nat) (hp : pc + 3 = p1) {index : Nat} {a b : Int} {f : Int → Option α} (hw : Cond.methodLink own index Lib.Math.max.name ∈ gT_ ∧ Cond.static Lib.Math.max.name ∈ gT_ ∧ Cond.initialized "java/lang/Math" ∈ gT_ ∧ Cond.code Lib.Math.max.name Lib.Math.max.code 2 (some .int) ∈ gT_) (hR : 1 ≤ rm.frames ∧ (st.map fun v => v.category).sum + 13 ≤ rm.locals) (hf : k ≤ rm.cells ∧ n ≤ rm.slots) (d : decode cc pc = .ok (.invokestatic index, 3)) (h : mx_ a b f = some r) (kk : ∀ v, f v = some r → wx_ G X N ad ce μ k n p1 lv (.int (iI v) :: st)) : wx_ G X N ad ce μ k n pc lv (.int (iI b) :: .int (iI a) :: st) := by
  obtain ⟨p, l, e, R, s, m, args, below, meth, c, Q, A, nL⟩ := X
  intro H locs ls hP hD hS hl
  subst hp
  obtain ⟨⟨ha, hb⟩, h⟩ := ck_e h
  have hR' : R = rm := C.2.2.2.2.2.2.2.2.2.1
  refine va_mmax C.1 C.2.1 (C.2.2.2.2.2.2.1.trans hl.1.symm) C.2.2.2.1 (C.2.2.1 _ hw.1) (C.2.2.1 _ hw.2.1) (C.2.2.1 _ hw.2.2.1) (C.2.2.1 _ hw.2.2.2) (by rw [hR']; exact hR.1) (by rw [hR']; exact hR.2) (by rw [hR']; exact hf.1) (by rw [hR']; exact hf.2) d ?_
  have hk := kk _ h H locs ls hP hD hS hl
  by_cases hc : a < b
  · rw [if_pos hc] at hk
    rw [show (if iI a < iI b then iI b else iI a) = iI b from if_pos ((iI_lt ha hb).mpr hc)]
    exact hk
  · rw [if_neg hc] at hk
    rw [show (if iI a < iI b then iI b else iI a) = iI a from if_neg (fun q => hc ((iI_lt ha hb).mp q))]
    exact hk
theorem xx_ddiv (C : cx_ G X cc own rm ret nl) (p1 : Nat) (hp : pc + 1 = p1) {x y : UInt64} {f : UInt64 → Option α} (d : decode cc pc = .ok (.ddiv, 1)) (h : dd_ x y f = some r) (kk : ∀ v, f v = some r → wx_ G X N ad ce μ k n p1 lv (.double v :: st)) : wx_ G X N ad ce μ k n pc lv (.double y :: .double x :: st) := by
  obtain ⟨p, l, e, R, s, m, args, below, meth, c, Q, A, nL⟩ := X
  intro H locs ls hP hD hS hl
  subst hp
  obtain ⟨hn, h⟩ := ck_e h
  exact lv_ddiv C.1 C.2.1 d hn (kk _ h H locs ls hP hD hS hl)
theorem xx_fdiv (C : cx_ G X cc own rm ret nl) (p1 : Nat) (hp : pc + 1 = p1) {x y : UInt32} {f : UInt32 → Option α} (d : decode cc pc = .ok (.fdiv, 1)) (h : fd_ x y f = some r) (kk : ∀ v, f v = some r → wx_ G X N ad ce μ k n p1 lv (.float v :: st)) : wx_ G X N ad ce μ k n pc lv (.float y :: .float x :: st) := by
  obtain ⟨p, l, e, R, s, m, args, below, meth, c, Q, A, nL⟩ := X
  intro H locs ls hP hD hS hl
  subst hp
  obtain ⟨hn, h⟩ := ck_e h
  exact lv_fdiv C.1 C.2.1 d hn (kk _ h H locs ls hP hD hS hl)
end XR
def qd_ (G : gp_) (N : Nat) (ad : Nat → Nat) (ce : Nat → (Int → Int) → va_E) (A : Nat → Prop) (a : UInt64) (μ : mu_T) : Array Value → State → Outcome → State → Prop := va_Qd (fun (r : UInt64) (_ : Unit) => r = a) (fun _ t => po_ G N ad ce A μ t) A
def md_ (y : MethodName) (cc : ByteArray) (maxL : Nat) (ret : Option FieldType) (rm : Room) (G : gp_) (N : Nat) (ad : Nat → Nat) (ce : Nat → (Int → Int) → va_E) (av : List Value) (μ : mu_T) (a : UInt64) (μ1 : mu_T) : Prop := ∀ (l : Launch) (sz : Nat), Met l y (Cond.code y cc maxL ret :: gT_) rm (va_Pc av (pr_ G N ad ce μ sz)) (qd_ G N ad ce (va_A (wl_ N ad ce μ) sz) a μ1) rm.cells rm.slots (va_A (wl_ N ad ce μ) sz)
def ed_ (G : gp_) (X : ct_) (N : Nat) (ad : Nat → Nat) (ce : Nat → (Int → Int) → va_E) (a : UInt64) (μ : mu_T) (rm : Room) : Prop := match X with
  | (_, _, _, _, s, _, args, below, _, _, Q, A, _) => Q = MQ below (qd_ G N ad ce A a μ) args s rm.cells rm.slots A
def qf_ (G : gp_) (N : Nat) (ad : Nat → Nat) (ce : Nat → (Int → Int) → va_E) (A : Nat → Prop) (a : UInt32) (μ : mu_T) : Array Value → State → Outcome → State → Prop := va_Qf (fun (r : UInt32) (_ : Unit) => r = a) (fun _ t => po_ G N ad ce A μ t) A
def mf_ (y : MethodName) (cc : ByteArray) (maxL : Nat) (ret : Option FieldType) (rm : Room) (G : gp_) (N : Nat) (ad : Nat → Nat) (ce : Nat → (Int → Int) → va_E) (av : List Value) (μ : mu_T) (a : UInt32) (μ1 : mu_T) : Prop := ∀ (l : Launch) (sz : Nat), Met l y (Cond.code y cc maxL ret :: gT_) rm (va_Pc av (pr_ G N ad ce μ sz)) (qf_ G N ad ce (va_A (wl_ N ad ce μ) sz) a μ1) rm.cells rm.slots (va_A (wl_ N ad ce μ) sz)
def ef_ (G : gp_) (X : ct_) (N : Nat) (ad : Nat → Nat) (ce : Nat → (Int → Int) → va_E) (a : UInt32) (μ : mu_T) (rm : Room) : Prop := match X with
  | (_, _, _, _, s, _, args, below, _, _, Q, A, _) => Q = MQ below (qf_ G N ad ce A a μ) args s rm.cells rm.slots A
section MIN
variable {y : MethodName} {cc : ByteArray} {maxL : Nat} {ret : Option FieldType} {rm : Room} {G : gp_} {N : Nat} {ad : Nat → Nat} {ce : Nat → (Int → Int) → va_E} {av : List Value} {μ μ' : mu_T} {a : UInt64} {own : String} {lv : List (Nat × Value)}
theorem md_in (hy : plainName y.cls = true) (hown : y.cls = own) (hlv : lv_args 0 av = lv) (hn : (lg_sl av).length ≤ maxL) (body : ∀ X : ct_, cx_ G X cc own rm ret maxL → ed_ G X N ad ce a μ' rm → wx_ G X N ad ce μ 0 0 0 lv [])   : md_ y cc maxL ret rm G N ad ce av μ a μ' := by
  intro l sz
  refine Met.ofW (cc := cc) (maxL := maxL) (ret := ret) hy rfl ?_
  intro p e s m args below meth c s₁ B hml hv
  obtain ⟨rfl, hsz, hP, hK, hD0, hbs, hg⟩ := hv
  subst hsz
  have hts := atoms_spec (ws := Cond.code y cc maxL ret :: gT_) B.pre
  have hfc : s.vm.findClass y.cls = some m.cls := findClass_of_methodNamed B.named
  rw [lg_entry_eq]
  have hl := lv_entry av hn
  rw [hlv] at hl
  have hAb : ∀ q, va_A (wl_ N ad ce μ) s.heap.size q → G.2.2 ≤ q := fun q h => by
    rcases h with ⟨k, e, h⟩ | h
    · exact hD0.2 k _ h
    · exact Nat.le_trans hbs h
  exact body (p, l, e, (headSpec (Cond.code y cc maxL ret :: gT_) rm).room, s, m, av.toArray, below, meth, c, _, va_A (wl_ N ad ce μ) s.heap.size, maxL)
    ⟨B.exec, B.bytes, fun w hw => hts w (List.mem_cons_of_mem _ hw), hown ▸ hfc, hK, fun q h => Or.inr h, hml, B.notSynchronized, hAb, rfl, B.returns, hg, rfl⟩ rfl s.heap [] _ hP (hD0.self (sz := s.heap.size)) va_S.rf hl
end MIN
section MIN
variable {y : MethodName} {cc : ByteArray} {maxL : Nat} {ret : Option FieldType} {rm : Room} {G : gp_} {N : Nat} {ad : Nat → Nat} {ce : Nat → (Int → Int) → va_E} {av : List Value} {μ μ' : mu_T} {a : UInt32} {own : String} {lv : List (Nat × Value)}
theorem mf_in (hy : plainName y.cls = true) (hown : y.cls = own) (hlv : lv_args 0 av = lv) (hn : (lg_sl av).length ≤ maxL) (body : ∀ X : ct_, cx_ G X cc own rm ret maxL → ef_ G X N ad ce a μ' rm → wx_ G X N ad ce μ 0 0 0 lv [])   : mf_ y cc maxL ret rm G N ad ce av μ a μ' := by
  intro l sz
  refine Met.ofW (cc := cc) (maxL := maxL) (ret := ret) hy rfl ?_
  intro p e s m args below meth c s₁ B hml hv
  obtain ⟨rfl, hsz, hP, hK, hD0, hbs, hg⟩ := hv
  subst hsz
  have hts := atoms_spec (ws := Cond.code y cc maxL ret :: gT_) B.pre
  have hfc : s.vm.findClass y.cls = some m.cls := findClass_of_methodNamed B.named
  rw [lg_entry_eq]
  have hl := lv_entry av hn
  rw [hlv] at hl
  have hAb : ∀ q, va_A (wl_ N ad ce μ) s.heap.size q → G.2.2 ≤ q := fun q h => by
    rcases h with ⟨k, e, h⟩ | h
    · exact hD0.2 k _ h
    · exact Nat.le_trans hbs h
  exact body (p, l, e, (headSpec (Cond.code y cc maxL ret :: gT_) rm).room, s, m, av.toArray, below, meth, c, _, va_A (wl_ N ad ce μ) s.heap.size, maxL)
    ⟨B.exec, B.bytes, fun w hw => hts w (List.mem_cons_of_mem _ hw), hown ▸ hfc, hK, fun q h => Or.inr h, hml, B.notSynchronized, hAb, rfl, B.returns, hg, rfl⟩ rfl s.heap [] _ hP (hD0.self (sz := s.heap.size)) va_S.rf hl
end MIN
section XR
variable {G : gp_} {X : ct_} {N : Nat} {ad : Nat → Nat} {ce : Nat → (Int → Int) → va_E} {μ : mu_T} {k n pc : Nat} {lv lv1 : List (Nat × Value)} {st stk : List Value} {cc : ByteArray} {own : String} {rm : Room} {ret : Option FieldType} {nl : Nat} {α : Type} {r : α}
theorem xx_dret (C : cx_ G X cc own rm ret nl) {e0 a : UInt64} (E : ed_ G X N ad ce a μ rm) (hr : ret = some .double) (hk : k ≤ rm.cells ∧ n ≤ rm.slots) (d : decode cc pc = .ok (.dreturn, 1)) (h : some e0 = some a) : wx_ G X N ad ce μ k n pc lv [.double e0] := by
  obtain ⟨p, l, e, R, s, m, args, below, meth, c, Q, A, nL⟩ := X
  intro H locs ls hP hD hS hl
  obtain rfl := Option.some.inj h
  obtain ⟨hx, hb, -, -, hK, -, -, hlocks, -, -, hrt, -, -⟩ := C
  subst hr
  rw [show Q = _ from E]
  refine W.widen hk.1 hk.2 ?_
  exact W.dret hx hb hrt (fun t ht hW => ⟨⟨_, (), rfl, rfl, by rw [ht]; exact hP, va_K.moved hW.alike hK, hD⟩, hS.F ht⟩) hS.2.2 d hlocks
theorem xx_fret (C : cx_ G X cc own rm ret nl) {e0 a : UInt32} (E : ef_ G X N ad ce a μ rm) (hr : ret = some .float) (hk : k ≤ rm.cells ∧ n ≤ rm.slots) (d : decode cc pc = .ok (.freturn, 1)) (h : some e0 = some a) : wx_ G X N ad ce μ k n pc lv [.float e0] := by
  obtain ⟨p, l, e, R, s, m, args, below, meth, c, Q, A, nL⟩ := X
  intro H locs ls hP hD hS hl
  obtain rfl := Option.some.inj h
  obtain ⟨hx, hb, -, -, hK, -, -, hlocks, -, -, hrt, -, -⟩ := C
  subst hr
  rw [show Q = _ from E]
  refine W.widen hk.1 hk.2 ?_
  exact W.fret hx hb hrt (fun t ht hW => ⟨⟨_, (), rfl, rfl, by rw [ht]; exact hP, va_K.moved hW.alike hK, hD⟩, hS.F ht⟩) hS.2.2 d hlocks
theorem xx_dretm (C : cx_ G X cc own rm ret nl) {e0 a : UInt64} {μ2 : mu_T} (E : ed_ G X N ad ce a μ2 rm) (hr : ret = some .double) (hk : k ≤ rm.cells ∧ n ≤ rm.slots) (d : decode cc pc = .ok (.dreturn, 1)) (h : some (e0, μ) = some (a, μ2)) : wx_ G X N ad ce μ k n pc lv [.double e0] := by
  obtain ⟨p, l, e, R, s, m, args, below, meth, c, Q, A, nL⟩ := X
  intro H locs ls hP hD hS hl
  obtain ⟨rfl, rfl⟩ := Prod.mk.inj (Option.some.inj h)
  obtain ⟨hx, hb, -, -, hK, -, -, hlocks, -, -, hrt, -, -⟩ := C
  subst hr
  rw [show Q = _ from E]
  refine W.widen hk.1 hk.2 ?_
  exact W.dret hx hb hrt (fun t ht hW => ⟨⟨_, (), rfl, rfl, by rw [ht]; exact hP, va_K.moved hW.alike hK, hD⟩, hS.F ht⟩) hS.2.2 d hlocks
theorem xx_fretm (C : cx_ G X cc own rm ret nl) {e0 a : UInt32} {μ2 : mu_T} (E : ef_ G X N ad ce a μ2 rm) (hr : ret = some .float) (hk : k ≤ rm.cells ∧ n ≤ rm.slots) (d : decode cc pc = .ok (.freturn, 1)) (h : some (e0, μ) = some (a, μ2)) : wx_ G X N ad ce μ k n pc lv [.float e0] := by
  obtain ⟨p, l, e, R, s, m, args, below, meth, c, Q, A, nL⟩ := X
  intro H locs ls hP hD hS hl
  obtain ⟨rfl, rfl⟩ := Prod.mk.inj (Option.some.inj h)
  obtain ⟨hx, hb, -, -, hK, -, -, hlocks, -, -, hrt, -, -⟩ := C
  subst hr
  rw [show Q = _ from E]
  refine W.widen hk.1 hk.2 ?_
  exact W.fret hx hb hrt (fun t ht hW => ⟨⟨_, (), rfl, rfl, by rw [ht]; exact hP, va_K.moved hW.alike hK, hD⟩, hS.F ht⟩) hS.2.2 d hlocks
theorem nar_c {e : Int} (h : 0 ≤ e ∧ e < 65536) : narrow .char (.int (iI e)) = .int (iI e) := by
  have e1 : iI e = nI e.toNat := by rw [show nI e.toNat = iI ((e.toNat : Nat) : Int) from iI_nat _, show ((e.toNat : Nat) : Int) = e by omega]
  rw [e1]
  exact (pk_charN (by omega)).1
theorem xx_cretp (C : cx_ G X cc own rm ret nl) {e0 a : Int} (E : ei_ G X N ad ce a μ rm) (hr : ret = some .char) (hk : k ≤ rm.cells ∧ n ≤ rm.slots) (d : decode cc pc = .ok (.ireturn, 1)) (h : rc_ e0 = some a) : wx_ G X N ad ce μ k n pc lv [.int (iI e0)] := by
  obtain ⟨hz, h⟩ := ck_e h
  exact xx_zret C E hr (nar_c hz) hk d (by rw [Option.some.inj h])
theorem xx_cNip (C : cx_ G X cc own rm ret nl) (p1 : Nat) (hp : pc + 3 = p1) {F : Option Int} {f : Int → Option α} {y : MethodName} {bytes : ByteArray} {maxL nA index : Nat} {ret2 : Option FieldType} {rm2 : Room} {As : List Value} (hca : ca_ y bytes maxL ret2 nA) (hcs : Cond.static y ∈ gT_) (i9 : Nat) (m1 : nwl_[i9]? = some (own, index, y)) (hn : As.length = nA) (hR : rm2.frames + 1 ≤ rm.frames ∧ 8 + (maxL + 11) + rm2.locals ≤ rm.locals) (hf : k + rm2.cells ≤ rm.cells ∧ n + rm2.slots ≤ rm.slots) (hW : (st.map fun v => v.category).sum ≤ 8) (d : decode cc pc = .ok (.invokestatic index, 3)) (hM : ∀ a, F = some a → mi_ y bytes maxL ret2 rm2 G N ad ce As μ a μ) (h : bd_ F f = some r) (kk : ∀ a, f a = some r → wx_ G X N ad ce μ (k + rm2.cells) (n + rm2.slots) p1 lv (.int (iI a) :: st)) (hst : stk = As.reverse ++ st) : wx_ G X N ad ce μ k n pc lv stk := by
  obtain ⟨p, l, e, R, s, m, args, below, meth, c, Q, A, nL⟩ := X
  intro H locs ls hP hD hS hl
  subst hp
  have hts := C.2.2.1
  have hK := C.2.2.2.2.1
  have hA := C.2.2.2.2.2.1
  have hAb := C.2.2.2.2.2.2.2.2.1
  have hR' : R = rm := C.2.2.2.2.2.2.2.2.2.1
  have hg := C.2.2.2.2.2.2.2.2.2.2.2.1
  subst hR'
  have hsz : G.2.2 ≤ H.size := by
    have h1 := hAb s.heap.size (hA _ (Nat.le_refl _))
    exact Nat.le_trans h1 hS.1
  have hDb : va_D (fun q => G.2.2 ≤ q) (wl_ N ad ce μ) := hD.weaken (fun _ q _ h => hAb q.1 h)
  have hgH : gk_ G s H := gk_kept hg (fun a h1 h2 => hS.2.1 a h1 (fun q => h2 (hAb a q)))
  have hF : ∀ q, va_A (wl_ N ad ce μ) H.size q → A q := fun q h => by
    rcases h with ⟨j, e9, h⟩ | h
    · exact hD.2 j _ h
    · exact hA q (Nat.le_trans hS.1 h)
  have hpre : ∀ U : State, U.heap = H → s.WarmedH U.vm → pr_ G N ad ce μ H.size U := fun U hU hW9 => ⟨by rw [hU], by rw [hU]; exact hP, va_K.moved hW9.alike hK, hDb, hsz, by rw [hU]; exact gk_warm hW9 hgH⟩
  subst hst
  obtain ⟨a9, e9, h⟩ := bd_e h
  have hM9 := hM a9 e9 l H.size
  have hnw : va_Nw (.methodLinkNest own index y "UrnHeap") s := hg.2.2.2.2.1 _ (List.mem_of_getElem? m1)
  have hpreV : ∀ U : State, U.heap = H → s.WarmedH U.vm → va_Pc As (pr_ G N ad ce μ H.size) (As).toArray U := fun U hU hW9 => ⟨rfl, hpre U hU hW9⟩
  refine va_calli (va_runSN (host := "UrnHeap") (rest := st) ⟨C.1, C.2.1, C.2.2.2.2.2.2.1, C.2.2.2.1, hts⟩ hM9 ⟨va_cnB nA hts (gT_in hca.2.1) rfl rfl rfl hnw (hts _ hca.1) hca.2.2 hR, hts _ hcs, trivial⟩ ⟨(fun a U g mk q => by obtain ⟨q0, q1, qP, qK, qD, q2, q3⟩ := q; exact ⟨q0, q1, qP, va_K.moved (u := U) (U := U.calling g mk a) (Vm.Alike.refl U.vm) qK, qD, q2, gk_same (u := U) (U := U.calling g mk a) rfl q3⟩), hpreV⟩ rfl hn hl.1 rfl (lv_room hW) d hf) hS (fun q _ h => hF q h) hF (fun r9 u t H1 locs1 ht hvm hw hB hz1 hk1 hS1 => ?_)
  obtain ⟨hP1, hK1, hD1⟩ := hB
  rw [ht] at hP1
  rw [hw]
  exact kk a9 h H1 locs1 ls hP1 (hD1.weaken (fun _ q _ h => hF q.1 h)) hS1 hl
end XR
end
section
/-! calls up the superclass and of inherited methods (written by wip/gen/rows3.py) -/
def cu_ (y : MethodName) : Prop := Cond.sameMethod y.cls y.cls y.name y.desc ∈ gT_ ∧ Cond.instanceMethod y ∈ gT_ ∧ y.name ≠ "<init>"
/-- which method a class selects: by the words, or by gk_ -/
def se_ (G : gp_) (C : String) (x y : MethodName) : Prop := ∀ (s : State) (H : Heap) (args : Array Value), (∀ w ∈ gT_, w.before args s = true) → gk_ G s H → (Cond.selects C x y).before args s = true
theorem se_w {G : gp_} {C : String} {x y : MethodName} (h : Cond.selects C x y ∈ gT_) : se_ G C x y := fun _ _ _ ht _ => ht _ h
section XR
variable {G : gp_} {X : ct_} {N : Nat} {ad : Nat → Nat} {ce : Nat → (Int → Int) → va_E} {μ : mu_T} {k n pc : Nat} {lv lv1 : List (Nat × Value)} {st stk : List Value} {cc : ByteArray} {own : String} {rm : Room} {ret : Option FieldType} {nl : Nat} {α : Type} {r : α}
theorem xx_cPip (C : cx_ G X cc own rm ret nl) (p1 : Nat) (hp : pc + 3 = p1) {F : Option Int} {f : Int → Option α} {y : MethodName} {bytes : ByteArray} {maxL nA index : Nat} {ret2 : Option FieldType} {rm2 : Room} {As : List Value} {ci o : Nat} {fs : List Value} {qc : vw_C} (ho : o < N) (he : ce o (μ o) = .inr (ci, fs)) (hc : vwCl[ci]? = some qc) (hca : ca_ y bytes maxL ret2 nA) (hcu : cu_ y) (hsup : Cond.superclass own y.cls ∈ gT_) (m1 : Cond.methodLink own index y ∈ gT_) (hn : As.length = nA) (hR : rm2.frames + 1 ≤ rm.frames ∧ 8 + (maxL + 11) + rm2.locals ≤ rm.locals) (hf : k + rm2.cells ≤ rm.cells ∧ n + rm2.slots ≤ rm.slots) (hW : (st.map fun v => v.category).sum ≤ 8) (d : decode cc pc = .ok (.invokespecial index, 3)) (hM : ∀ a, F = some a → mi_ y bytes maxL ret2 rm2 G N ad ce (.ref (ad o) :: As) μ a μ) (h : bd_ F f = some r) (kk : ∀ a, f a = some r → wx_ G X N ad ce μ (k + rm2.cells) (n + rm2.slots) p1 lv (.int (iI a) :: st)) (hst : stk = As.reverse ++ .ref (ad o) :: st) : wx_ G X N ad ce μ k n pc lv stk := by
  obtain ⟨p, l, e, R, s, m, args, below, meth, c, Q, A, nL⟩ := X
  intro H locs ls hP hD hS hl
  subst hp
  have hts := C.2.2.1
  have hK := C.2.2.2.2.1
  have hA := C.2.2.2.2.2.1
  have hAb := C.2.2.2.2.2.2.2.2.1
  have hR' : R = rm := C.2.2.2.2.2.2.2.2.2.1
  have hg := C.2.2.2.2.2.2.2.2.2.2.2.1
  subst hR'
  have hsz : G.2.2 ≤ H.size := by
    have h1 := hAb s.heap.size (hA _ (Nat.le_refl _))
    exact Nat.le_trans h1 hS.1
  have hDb : va_D (fun q => G.2.2 ≤ q) (wl_ N ad ce μ) := hD.weaken (fun _ q _ h => hAb q.1 h)
  have hgH : gk_ G s H := gk_kept hg (fun a h1 h2 => hS.2.1 a h1 (fun q => h2 (hAb a q)))
  have hF : ∀ q, va_A (wl_ N ad ce μ) H.size q → A q := fun q h => by
    rcases h with ⟨j, e9, h⟩ | h
    · exact hD.2 j _ h
    · exact hA q (Nat.le_trans hS.1 h)
  have hpre : ∀ U : State, U.heap = H → s.WarmedH U.vm → pr_ G N ad ce μ H.size U := fun U hU hW9 => ⟨by rw [hU], by rw [hU]; exact hP, va_K.moved hW9.alike hK, hDb, hsz, by rw [hU]; exact gk_warm hW9 hgH⟩
  subst hst
  obtain ⟨a9, e9, h⟩ := bd_e h
  have hM9 := hM a9 e9 l H.size
  have hpreV : ∀ U : State, U.heap = H → s.WarmedH U.vm → va_Pc (.ref (ad o) :: As) (pr_ G N ad ce μ H.size) (Value.ref (ad o) :: As).toArray U := fun U hU hW9 => ⟨rfl, hpre U hU hW9⟩
  refine va_calli (va_runSU (hK.1 ci _ hc).2 (rest := st) ⟨C.1, C.2.1, C.2.2.2.2.2.2.1, C.2.2.2.1, hts⟩ hM9 ⟨⟨rfl, rfl, hR.1, hR.2, pay_in hts (gT_in hca.2.1), List.mem_cons_self⟩, hts _ m1, hts _ hcu.1, hts _ hsup, hts _ hcu.2.1, hts _ hca.1, hts _ hca.2.1, hcu.2.2, (fun sig h9 => by have h2 := hca.2.2.2.2; rw [h9] at h2; exact (Option.some.inj h2).symm)⟩ ⟨(fun a U g mk q => by obtain ⟨q0, q1, qP, qK, qD, q2, q3⟩ := q; exact ⟨q0, q1, qP, va_K.moved (u := U) (U := U.calling g mk a) (Vm.Alike.refl U.vm) qK, qD, q2, gk_same (u := U) (U := U.calling g mk a) rfl q3⟩), va_recv hK hP hc ((wl_get ho).trans (by rw [he])), hpreV⟩ rfl hn hl.1 rfl (lv_room hW) d hf) hS (fun q _ h => hF q h) hF (fun r9 u t H1 locs1 ht hvm hw hB hz1 hk1 hS1 => ?_)
  obtain ⟨hP1, hK1, hD1⟩ := hB
  rw [ht] at hP1
  rw [hw]
  exact kk a9 h H1 locs1 ls hP1 (hD1.weaken (fun _ q _ h => hF q.1 h)) hS1 hl
theorem xx_cPv (C : cx_ G X cc own rm ret nl) (p1 : Nat) (hp : pc + 3 = p1) {F : Option mu_T} {f : mu_T → Option α} {y : MethodName} {bytes : ByteArray} {maxL nA index : Nat} {rm2 : Room} {As : List Value} {ci o : Nat} {fs : List Value} {qc : vw_C} (ho : o < N) (he : ce o (μ o) = .inr (ci, fs)) (hc : vwCl[ci]? = some qc) (hca : ca_ y bytes maxL none nA) (hcu : cu_ y) (hsup : Cond.superclass own y.cls ∈ gT_) (m1 : Cond.methodLink own index y ∈ gT_) (hn : As.length = nA) (hR : rm2.frames + 1 ≤ rm.frames ∧ 8 + (maxL + 11) + rm2.locals ≤ rm.locals) (hf : k + rm2.cells ≤ rm.cells ∧ n + rm2.slots ≤ rm.slots) (hW : (st.map fun v => v.category).sum ≤ 8) (d : decode cc pc = .ok (.invokespecial index, 3)) (hM : ∀ μ1, F = some μ1 → mv_ y bytes maxL rm2 G N ad ce (.ref (ad o) :: As) μ μ1) (h : bd_ F f = some r) (kk : ∀ μ1, f μ1 = some r → wx_ G X N ad ce μ1 (k + rm2.cells) (n + rm2.slots) p1 lv st) (hst : stk = As.reverse ++ .ref (ad o) :: st) : wx_ G X N ad ce μ k n pc lv stk := by
  obtain ⟨p, l, e, R, s, m, args, below, meth, c, Q, A, nL⟩ := X
  intro H locs ls hP hD hS hl
  subst hp
  have hts := C.2.2.1
  have hK := C.2.2.2.2.1
  have hA := C.2.2.2.2.2.1
  have hAb := C.2.2.2.2.2.2.2.2.1
  have hR' : R = rm := C.2.2.2.2.2.2.2.2.2.1
  have hg := C.2.2.2.2.2.2.2.2.2.2.2.1
  subst hR'
  have hsz : G.2.2 ≤ H.size := by
    have h1 := hAb s.heap.size (hA _ (Nat.le_refl _))
    exact Nat.le_trans h1 hS.1
  have hDb : va_D (fun q => G.2.2 ≤ q) (wl_ N ad ce μ) := hD.weaken (fun _ q _ h => hAb q.1 h)
  have hgH : gk_ G s H := gk_kept hg (fun a h1 h2 => hS.2.1 a h1 (fun q => h2 (hAb a q)))
  have hF : ∀ q, va_A (wl_ N ad ce μ) H.size q → A q := fun q h => by
    rcases h with ⟨j, e9, h⟩ | h
    · exact hD.2 j _ h
    · exact hA q (Nat.le_trans hS.1 h)
  have hpre : ∀ U : State, U.heap = H → s.WarmedH U.vm → pr_ G N ad ce μ H.size U := fun U hU hW9 => ⟨by rw [hU], by rw [hU]; exact hP, va_K.moved hW9.alike hK, hDb, hsz, by rw [hU]; exact gk_warm hW9 hgH⟩
  subst hst
  obtain ⟨a9, e9, h⟩ := bd_e h
  have hM9 := hM a9 e9 l H.size
  have hpreV : ∀ U : State, U.heap = H → s.WarmedH U.vm → va_Pc (.ref (ad o) :: As) (pr_ G N ad ce μ H.size) (Value.ref (ad o) :: As).toArray U := fun U hU hW9 => ⟨rfl, hpre U hU hW9⟩
  refine va_callv (va_runSU (hK.1 ci _ hc).2 (rest := st) ⟨C.1, C.2.1, C.2.2.2.2.2.2.1, C.2.2.2.1, hts⟩ hM9 ⟨⟨rfl, rfl, hR.1, hR.2, pay_in hts (gT_in hca.2.1), List.mem_cons_self⟩, hts _ m1, hts _ hcu.1, hts _ hsup, hts _ hcu.2.1, hts _ hca.1, hts _ hca.2.1, hcu.2.2, (fun sig h9 => by have h2 := hca.2.2.2.2; rw [h9] at h2; exact (Option.some.inj h2).symm)⟩ ⟨(fun a U g mk q => by obtain ⟨q0, q1, qP, qK, qD, q2, q3⟩ := q; exact ⟨q0, q1, qP, va_K.moved (u := U) (U := U.calling g mk a) (Vm.Alike.refl U.vm) qK, qD, q2, gk_same (u := U) (U := U.calling g mk a) rfl q3⟩), va_recv hK hP hc ((wl_get ho).trans (by rw [he])), hpreV⟩ rfl hn hl.1 rfl (lv_room hW) d hf) hS (fun q _ h => hF q h) hF (fun u t H1 locs1 ht hvm hw hB hz1 hk1 hS1 => ?_)
  obtain ⟨hP1, hK1, hD1⟩ := hB
  rw [ht] at hP1
  exact kk a9 h H1 locs1 ls hP1 (hD1.weaken (fun _ q _ h => hF q.1 h)) hS1 hl
theorem xx_cPvp (C : cx_ G X cc own rm ret nl) (p1 : Nat) (hp : pc + 3 = p1) {F : Option Unit} {f : Unit → Option α} {y : MethodName} {bytes : ByteArray} {maxL nA index : Nat} {rm2 : Room} {As : List Value} {ci o : Nat} {fs : List Value} {qc : vw_C} (ho : o < N) (he : ce o (μ o) = .inr (ci, fs)) (hc : vwCl[ci]? = some qc) (hca : ca_ y bytes maxL none nA) (hcu : cu_ y) (hsup : Cond.superclass own y.cls ∈ gT_) (m1 : Cond.methodLink own index y ∈ gT_) (hn : As.length = nA) (hR : rm2.frames + 1 ≤ rm.frames ∧ 8 + (maxL + 11) + rm2.locals ≤ rm.locals) (hf : k + rm2.cells ≤ rm.cells ∧ n + rm2.slots ≤ rm.slots) (hW : (st.map fun v => v.category).sum ≤ 8) (d : decode cc pc = .ok (.invokespecial index, 3)) (hM : ∀ a, F = some a → mv_ y bytes maxL rm2 G N ad ce (.ref (ad o) :: As) μ μ) (h : bd_ F f = some r) (kk : ∀ a, f a = some r → wx_ G X N ad ce μ (k + rm2.cells) (n + rm2.slots) p1 lv st) (hst : stk = As.reverse ++ .ref (ad o) :: st) : wx_ G X N ad ce μ k n pc lv stk := by
  obtain ⟨p, l, e, R, s, m, args, below, meth, c, Q, A, nL⟩ := X
  intro H locs ls hP hD hS hl
  subst hp
  have hts := C.2.2.1
  have hK := C.2.2.2.2.1
  have hA := C.2.2.2.2.2.1
  have hAb := C.2.2.2.2.2.2.2.2.1
  have hR' : R = rm := C.2.2.2.2.2.2.2.2.2.1
  have hg := C.2.2.2.2.2.2.2.2.2.2.2.1
  subst hR'
  have hsz : G.2.2 ≤ H.size := by
    have h1 := hAb s.heap.size (hA _ (Nat.le_refl _))
    exact Nat.le_trans h1 hS.1
  have hDb : va_D (fun q => G.2.2 ≤ q) (wl_ N ad ce μ) := hD.weaken (fun _ q _ h => hAb q.1 h)
  have hgH : gk_ G s H := gk_kept hg (fun a h1 h2 => hS.2.1 a h1 (fun q => h2 (hAb a q)))
  have hF : ∀ q, va_A (wl_ N ad ce μ) H.size q → A q := fun q h => by
    rcases h with ⟨j, e9, h⟩ | h
    · exact hD.2 j _ h
    · exact hA q (Nat.le_trans hS.1 h)
  have hpre : ∀ U : State, U.heap = H → s.WarmedH U.vm → pr_ G N ad ce μ H.size U := fun U hU hW9 => ⟨by rw [hU], by rw [hU]; exact hP, va_K.moved hW9.alike hK, hDb, hsz, by rw [hU]; exact gk_warm hW9 hgH⟩
  subst hst
  obtain ⟨a9, e9, h⟩ := bd_e h
  have hM9 := hM a9 e9 l H.size
  have hpreV : ∀ U : State, U.heap = H → s.WarmedH U.vm → va_Pc (.ref (ad o) :: As) (pr_ G N ad ce μ H.size) (Value.ref (ad o) :: As).toArray U := fun U hU hW9 => ⟨rfl, hpre U hU hW9⟩
  refine va_callv (va_runSU (hK.1 ci _ hc).2 (rest := st) ⟨C.1, C.2.1, C.2.2.2.2.2.2.1, C.2.2.2.1, hts⟩ hM9 ⟨⟨rfl, rfl, hR.1, hR.2, pay_in hts (gT_in hca.2.1), List.mem_cons_self⟩, hts _ m1, hts _ hcu.1, hts _ hsup, hts _ hcu.2.1, hts _ hca.1, hts _ hca.2.1, hcu.2.2, (fun sig h9 => by have h2 := hca.2.2.2.2; rw [h9] at h2; exact (Option.some.inj h2).symm)⟩ ⟨(fun a U g mk q => by obtain ⟨q0, q1, qP, qK, qD, q2, q3⟩ := q; exact ⟨q0, q1, qP, va_K.moved (u := U) (U := U.calling g mk a) (Vm.Alike.refl U.vm) qK, qD, q2, gk_same (u := U) (U := U.calling g mk a) rfl q3⟩), va_recv hK hP hc ((wl_get ho).trans (by rw [he])), hpreV⟩ rfl hn hl.1 rfl (lv_room hW) d hf) hS (fun q _ h => hF q h) hF (fun u t H1 locs1 ht hvm hw hB hz1 hk1 hS1 => ?_)
  obtain ⟨hP1, hK1, hD1⟩ := hB
  rw [ht] at hP1
  exact kk a9 h H1 locs1 ls hP1 (hD1.weaken (fun _ q _ h => hF q.1 h)) hS1 hl
theorem xx_cUip (C : cx_ G X cc own rm ret nl) (p1 : Nat) (hp : pc + 3 = p1) {F : Option Int} {f : Int → Option α} {y : MethodName} {bytes : ByteArray} {maxL nA index : Nat} {ret2 : Option FieldType} {rm2 : Room} {As : List Value} {ci o : Nat} {fs : List Value} {qc : vw_C} (ho : o < N) (he : ce o (μ o) = .inr (ci, fs)) (hc : vwCl[ci]? = some qc) (hca : ca_ y bytes maxL ret2 nA) (hcu : cu_ y) (hse : se_ G qc.1 y y) (m1 : Cond.methodLink own index y ∈ gT_) (hn : As.length = nA) (hR : rm2.frames + 1 ≤ rm.frames ∧ 8 + (maxL + 11) + rm2.locals ≤ rm.locals) (hf : k + rm2.cells ≤ rm.cells ∧ n + rm2.slots ≤ rm.slots) (hW : (st.map fun v => v.category).sum ≤ 8) (d : decode cc pc = .ok (.invokevirtual index, 3)) (hM : ∀ a, F = some a → mi_ y bytes maxL ret2 rm2 G N ad ce (.ref (ad o) :: As) μ a μ) (h : bd_ F f = some r) (kk : ∀ a, f a = some r → wx_ G X N ad ce μ (k + rm2.cells) (n + rm2.slots) p1 lv (.int (iI a) :: st)) (hst : stk = As.reverse ++ .ref (ad o) :: st) : wx_ G X N ad ce μ k n pc lv stk := by
  obtain ⟨p, l, e, R, s, m, args, below, meth, c, Q, A, nL⟩ := X
  intro H locs ls hP hD hS hl
  subst hp
  have hts := C.2.2.1
  have hK := C.2.2.2.2.1
  have hA := C.2.2.2.2.2.1
  have hAb := C.2.2.2.2.2.2.2.2.1
  have hR' : R = rm := C.2.2.2.2.2.2.2.2.2.1
  have hg := C.2.2.2.2.2.2.2.2.2.2.2.1
  subst hR'
  have hsz : G.2.2 ≤ H.size := by
    have h1 := hAb s.heap.size (hA _ (Nat.le_refl _))
    exact Nat.le_trans h1 hS.1
  have hDb : va_D (fun q => G.2.2 ≤ q) (wl_ N ad ce μ) := hD.weaken (fun _ q _ h => hAb q.1 h)
  have hgH : gk_ G s H := gk_kept hg (fun a h1 h2 => hS.2.1 a h1 (fun q => h2 (hAb a q)))
  have hF : ∀ q, va_A (wl_ N ad ce μ) H.size q → A q := fun q h => by
    rcases h with ⟨j, e9, h⟩ | h
    · exact hD.2 j _ h
    · exact hA q (Nat.le_trans hS.1 h)
  have hpre : ∀ U : State, U.heap = H → s.WarmedH U.vm → pr_ G N ad ce μ H.size U := fun U hU hW9 => ⟨by rw [hU], by rw [hU]; exact hP, va_K.moved hW9.alike hK, hDb, hsz, by rw [hU]; exact gk_warm hW9 hgH⟩
  subst hst
  obtain ⟨a9, e9, h⟩ := bd_e h
  have hM9 := hM a9 e9 l H.size
  have hpreV : ∀ U : State, U.heap = H → s.WarmedH U.vm → va_Pc (.ref (ad o) :: As) (pr_ G N ad ce μ H.size) (Value.ref (ad o) :: As).toArray U := fun U hU hW9 => ⟨rfl, hpre U hU hW9⟩
  refine va_calli (va_runU (C := qc.1) (owner := y.cls) (rest := st) ⟨C.1, C.2.1, C.2.2.2.2.2.2.1, C.2.2.2.1, hts⟩ hM9 ⟨⟨rfl, rfl, hR.1, hR.2, pay_in hts (gT_in hca.2.1), List.mem_cons_self⟩, hts _ hca.2.1, hts _ hca.1, ⟨hca.2.2.1, hca.2.2.2.1⟩, (fun sig h9 => by have h2 := hca.2.2.2.2; rw [h9] at h2; exact (Option.some.inj h2).symm), hts _ m1, hts _ hcu.1, va_Decl.of (hts _ hcu.2.1) (hts _ hca.2.1), hse s s.heap args hts hg, hts _ hcu.2.1⟩ ⟨(fun a U g mk q => by obtain ⟨q0, q1, qP, qK, qD, q2, q3⟩ := q; exact ⟨q0, q1, qP, va_K.moved (u := U) (U := U.calling g mk a) (Vm.Alike.refl U.vm) qK, qD, q2, gk_same (u := U) (U := U.calling g mk a) rfl q3⟩), va_recv hK hP hc ((wl_get ho).trans (by rw [he])), hpreV⟩ rfl hn hl.1 rfl (lv_room hW) d hf) hS (fun q _ h => hF q h) hF (fun r9 u t H1 locs1 ht hvm hw hB hz1 hk1 hS1 => ?_)
  obtain ⟨hP1, hK1, hD1⟩ := hB
  rw [ht] at hP1
  rw [hw]
  exact kk a9 h H1 locs1 ls hP1 (hD1.weaken (fun _ q _ h => hF q.1 h)) hS1 hl
theorem xx_cUv (C : cx_ G X cc own rm ret nl) (p1 : Nat) (hp : pc + 3 = p1) {F : Option mu_T} {f : mu_T → Option α} {y : MethodName} {bytes : ByteArray} {maxL nA index : Nat} {rm2 : Room} {As : List Value} {ci o : Nat} {fs : List Value} {qc : vw_C} (ho : o < N) (he : ce o (μ o) = .inr (ci, fs)) (hc : vwCl[ci]? = some qc) (hca : ca_ y bytes maxL none nA) (hcu : cu_ y) (hse : se_ G qc.1 y y) (m1 : Cond.methodLink own index y ∈ gT_) (hn : As.length = nA) (hR : rm2.frames + 1 ≤ rm.frames ∧ 8 + (maxL + 11) + rm2.locals ≤ rm.locals) (hf : k + rm2.cells ≤ rm.cells ∧ n + rm2.slots ≤ rm.slots) (hW : (st.map fun v => v.category).sum ≤ 8) (d : decode cc pc = .ok (.invokevirtual index, 3)) (hM : ∀ μ1, F = some μ1 → mv_ y bytes maxL rm2 G N ad ce (.ref (ad o) :: As) μ μ1) (h : bd_ F f = some r) (kk : ∀ μ1, f μ1 = some r → wx_ G X N ad ce μ1 (k + rm2.cells) (n + rm2.slots) p1 lv st) (hst : stk = As.reverse ++ .ref (ad o) :: st) : wx_ G X N ad ce μ k n pc lv stk := by
  obtain ⟨p, l, e, R, s, m, args, below, meth, c, Q, A, nL⟩ := X
  intro H locs ls hP hD hS hl
  subst hp
  have hts := C.2.2.1
  have hK := C.2.2.2.2.1
  have hA := C.2.2.2.2.2.1
  have hAb := C.2.2.2.2.2.2.2.2.1
  have hR' : R = rm := C.2.2.2.2.2.2.2.2.2.1
  have hg := C.2.2.2.2.2.2.2.2.2.2.2.1
  subst hR'
  have hsz : G.2.2 ≤ H.size := by
    have h1 := hAb s.heap.size (hA _ (Nat.le_refl _))
    exact Nat.le_trans h1 hS.1
  have hDb : va_D (fun q => G.2.2 ≤ q) (wl_ N ad ce μ) := hD.weaken (fun _ q _ h => hAb q.1 h)
  have hgH : gk_ G s H := gk_kept hg (fun a h1 h2 => hS.2.1 a h1 (fun q => h2 (hAb a q)))
  have hF : ∀ q, va_A (wl_ N ad ce μ) H.size q → A q := fun q h => by
    rcases h with ⟨j, e9, h⟩ | h
    · exact hD.2 j _ h
    · exact hA q (Nat.le_trans hS.1 h)
  have hpre : ∀ U : State, U.heap = H → s.WarmedH U.vm → pr_ G N ad ce μ H.size U := fun U hU hW9 => ⟨by rw [hU], by rw [hU]; exact hP, va_K.moved hW9.alike hK, hDb, hsz, by rw [hU]; exact gk_warm hW9 hgH⟩
  subst hst
  obtain ⟨a9, e9, h⟩ := bd_e h
  have hM9 := hM a9 e9 l H.size
  have hpreV : ∀ U : State, U.heap = H → s.WarmedH U.vm → va_Pc (.ref (ad o) :: As) (pr_ G N ad ce μ H.size) (Value.ref (ad o) :: As).toArray U := fun U hU hW9 => ⟨rfl, hpre U hU hW9⟩
  refine va_callv (va_runU (C := qc.1) (owner := y.cls) (rest := st) ⟨C.1, C.2.1, C.2.2.2.2.2.2.1, C.2.2.2.1, hts⟩ hM9 ⟨⟨rfl, rfl, hR.1, hR.2, pay_in hts (gT_in hca.2.1), List.mem_cons_self⟩, hts _ hca.2.1, hts _ hca.1, ⟨hca.2.2.1, hca.2.2.2.1⟩, (fun sig h9 => by have h2 := hca.2.2.2.2; rw [h9] at h2; exact (Option.some.inj h2).symm), hts _ m1, hts _ hcu.1, va_Decl.of (hts _ hcu.2.1) (hts _ hca.2.1), hse s s.heap args hts hg, hts _ hcu.2.1⟩ ⟨(fun a U g mk q => by obtain ⟨q0, q1, qP, qK, qD, q2, q3⟩ := q; exact ⟨q0, q1, qP, va_K.moved (u := U) (U := U.calling g mk a) (Vm.Alike.refl U.vm) qK, qD, q2, gk_same (u := U) (U := U.calling g mk a) rfl q3⟩), va_recv hK hP hc ((wl_get ho).trans (by rw [he])), hpreV⟩ rfl hn hl.1 rfl (lv_room hW) d hf) hS (fun q _ h => hF q h) hF (fun u t H1 locs1 ht hvm hw hB hz1 hk1 hS1 => ?_)
  obtain ⟨hP1, hK1, hD1⟩ := hB
  rw [ht] at hP1
  exact kk a9 h H1 locs1 ls hP1 (hD1.weaken (fun _ q _ h => hF q.1 h)) hS1 hl
theorem xx_cUvp (C : cx_ G X cc own rm ret nl) (p1 : Nat) (hp : pc + 3 = p1) {F : Option Unit} {f : Unit → Option α} {y : MethodName} {bytes : ByteArray} {maxL nA index : Nat} {rm2 : Room} {As : List Value} {ci o : Nat} {fs : List Value} {qc : vw_C} (ho : o < N) (he : ce o (μ o) = .inr (ci, fs)) (hc : vwCl[ci]? = some qc) (hca : ca_ y bytes maxL none nA) (hcu : cu_ y) (hse : se_ G qc.1 y y) (m1 : Cond.methodLink own index y ∈ gT_) (hn : As.length = nA) (hR : rm2.frames + 1 ≤ rm.frames ∧ 8 + (maxL + 11) + rm2.locals ≤ rm.locals) (hf : k + rm2.cells ≤ rm.cells ∧ n + rm2.slots ≤ rm.slots) (hW : (st.map fun v => v.category).sum ≤ 8) (d : decode cc pc = .ok (.invokevirtual index, 3)) (hM : ∀ a, F = some a → mv_ y bytes maxL rm2 G N ad ce (.ref (ad o) :: As) μ μ) (h : bd_ F f = some r) (kk : ∀ a, f a = some r → wx_ G X N ad ce μ (k + rm2.cells) (n + rm2.slots) p1 lv st) (hst : stk = As.reverse ++ .ref (ad o) :: st) : wx_ G X N ad ce μ k n pc lv stk := by
  obtain ⟨p, l, e, R, s, m, args, below, meth, c, Q, A, nL⟩ := X
  intro H locs ls hP hD hS hl
  subst hp
  have hts := C.2.2.1
  have hK := C.2.2.2.2.1
  have hA := C.2.2.2.2.2.1
  have hAb := C.2.2.2.2.2.2.2.2.1
  have hR' : R = rm := C.2.2.2.2.2.2.2.2.2.1
  have hg := C.2.2.2.2.2.2.2.2.2.2.2.1
  subst hR'
  have hsz : G.2.2 ≤ H.size := by
    have h1 := hAb s.heap.size (hA _ (Nat.le_refl _))
    exact Nat.le_trans h1 hS.1
  have hDb : va_D (fun q => G.2.2 ≤ q) (wl_ N ad ce μ) := hD.weaken (fun _ q _ h => hAb q.1 h)
  have hgH : gk_ G s H := gk_kept hg (fun a h1 h2 => hS.2.1 a h1 (fun q => h2 (hAb a q)))
  have hF : ∀ q, va_A (wl_ N ad ce μ) H.size q → A q := fun q h => by
    rcases h with ⟨j, e9, h⟩ | h
    · exact hD.2 j _ h
    · exact hA q (Nat.le_trans hS.1 h)
  have hpre : ∀ U : State, U.heap = H → s.WarmedH U.vm → pr_ G N ad ce μ H.size U := fun U hU hW9 => ⟨by rw [hU], by rw [hU]; exact hP, va_K.moved hW9.alike hK, hDb, hsz, by rw [hU]; exact gk_warm hW9 hgH⟩
  subst hst
  obtain ⟨a9, e9, h⟩ := bd_e h
  have hM9 := hM a9 e9 l H.size
  have hpreV : ∀ U : State, U.heap = H → s.WarmedH U.vm → va_Pc (.ref (ad o) :: As) (pr_ G N ad ce μ H.size) (Value.ref (ad o) :: As).toArray U := fun U hU hW9 => ⟨rfl, hpre U hU hW9⟩
  refine va_callv (va_runU (C := qc.1) (owner := y.cls) (rest := st) ⟨C.1, C.2.1, C.2.2.2.2.2.2.1, C.2.2.2.1, hts⟩ hM9 ⟨⟨rfl, rfl, hR.1, hR.2, pay_in hts (gT_in hca.2.1), List.mem_cons_self⟩, hts _ hca.2.1, hts _ hca.1, ⟨hca.2.2.1, hca.2.2.2.1⟩, (fun sig h9 => by have h2 := hca.2.2.2.2; rw [h9] at h2; exact (Option.some.inj h2).symm), hts _ m1, hts _ hcu.1, va_Decl.of (hts _ hcu.2.1) (hts _ hca.2.1), hse s s.heap args hts hg, hts _ hcu.2.1⟩ ⟨(fun a U g mk q => by obtain ⟨q0, q1, qP, qK, qD, q2, q3⟩ := q; exact ⟨q0, q1, qP, va_K.moved (u := U) (U := U.calling g mk a) (Vm.Alike.refl U.vm) qK, qD, q2, gk_same (u := U) (U := U.calling g mk a) rfl q3⟩), va_recv hK hP hc ((wl_get ho).trans (by rw [he])), hpreV⟩ rfl hn hl.1 rfl (lv_room hW) d hf) hS (fun q _ h => hF q h) hF (fun u t H1 locs1 ht hvm hw hB hz1 hk1 hS1 => ?_)
  obtain ⟨hP1, hK1, hD1⟩ := hB
  rw [ht] at hP1
  exact kk a9 h H1 locs1 ls hP1 (hD1.weaken (fun _ q _ h => hF q.1 h)) hS1 hl
end XR
end
section
/-! the methods of the JDK that touch no world (written by wip/gen/jgen.py) -/
theorem w_901 : Cond.fieldLink "java/lang/String" 38 "java/lang/String" "COMPACT_STRINGS" "Z" ∈ gT_ := gm_ 901 (by decide +kernel)
theorem w_1603 : Cond.fieldLink "java/lang/String" 15 "java/lang/String" "coder" "B" ∈ gT_ := gm_ 1603 (by decide +kernel)
theorem w_897 : Cond.methodLink "java/lang/String" 335 yJ0_coder_7d493 ∈ gT_ := gm_ 897 (by decide +kernel)
theorem w_1602 : Cond.fieldLink "java/lang/String" 9 "java/lang/String" "value" "[B" ∈ gT_ := gm_ 1602 (by decide +kernel)
theorem w_849 : Cond.fieldLink "java/lang/String" 1053 "jdk/internal/util/Preconditions" "SIOOBE_FORMATTER" "Ljava/util/function/BiFunction;" ∈ gT_ := gm_ 849 (by decide +kernel)
theorem w_872 : Cond.methodLink "java/lang/String" 1059 yJ3_checkIndex_8e157 ∈ gT_ := gm_ 872 (by decide +kernel)
theorem w_913 : Cond.methodLink "java/lang/StringLatin1" 9 yJ0_checkIndex_df160 ∈ gT_ := gm_ 913 (by decide +kernel)
theorem w_910 : Cond.methodLink "java/lang/String" 495 yJ1_charAt_3b067 ∈ gT_ := gm_ 910 (by decide +kernel)
theorem w_906 : Cond.methodLink "java/lang/String" 492 yJ0_isLatin1_aae02 ∈ gT_ := gm_ 906 (by decide +kernel)
theorem w_1129 : Cond.constant "java/lang/Integer" 265 (1431655765) ∈ gT_ := gm_ 1129 (by decide +kernel)
theorem w_1130 : Cond.constant "java/lang/Integer" 266 (858993459) ∈ gT_ := gm_ 1130 (by decide +kernel)
theorem w_1131 : Cond.constant "java/lang/Integer" 267 (252645135) ∈ gT_ := gm_ 1131 (by decide +kernel)
theorem w_1604 : Cond.fieldLink "java/lang/Enum" 7 "java/lang/Enum" "ordinal" "I" ∈ gT_ := gm_ 1604 (by decide +kernel)
theorem w_88 : Cond.initialized "java/lang/String" ∈ gT_ := gm_ 88 (by decide +kernel)
theorem w_900 : Cond.code yJ0_coder_7d493 cJ0_coder_7d493 1 (some .byte) ∈ gT_ := gm_ 900 (by decide +kernel)
theorem w_898 : Cond.instanceMethod yJ0_coder_7d493 ∈ gT_ := gm_ 898 (by decide +kernel)
theorem w_899 : Cond.selects "java/lang/String" yJ0_coder_7d493 yJ0_coder_7d493 ∈ gT_ := gm_ 899 (by decide +kernel)
theorem w_896 : Cond.code yJ0_length_8abf5 cJ0_length_8abf5 1 (some .int) ∈ gT_ := gm_ 896 (by decide +kernel)
theorem w_894 : Cond.instanceMethod yJ0_length_8abf5 ∈ gT_ := gm_ 894 (by decide +kernel)
theorem w_895 : Cond.selects "java/lang/String" yJ0_length_8abf5 yJ0_length_8abf5 ∈ gT_ := gm_ 895 (by decide +kernel)
theorem w_909 : Cond.code yJ0_isLatin1_aae02 cJ0_isLatin1_aae02 1 (some .boolean) ∈ gT_ := gm_ 909 (by decide +kernel)
theorem w_907 : Cond.instanceMethod yJ0_isLatin1_aae02 ∈ gT_ := gm_ 907 (by decide +kernel)
theorem w_908 : Cond.selects "java/lang/String" yJ0_isLatin1_aae02 yJ0_isLatin1_aae02 ∈ gT_ := gm_ 908 (by decide +kernel)
theorem w_96 : Cond.initialized "jdk/internal/util/Preconditions" ∈ gT_ := gm_ 96 (by decide +kernel)
theorem w_874 : Cond.code yJ3_checkIndex_8e157 cJ3_checkIndex_8e157 3 (some .int) ∈ gT_ := gm_ 874 (by decide +kernel)
theorem w_873 : Cond.static yJ3_checkIndex_8e157 ∈ gT_ := gm_ 873 (by decide +kernel)
theorem w_871 : Cond.code yJ0_checkIndex_df160 cJ0_checkIndex_df160 2 none ∈ gT_ := gm_ 871 (by decide +kernel)
theorem w_870 : Cond.static yJ0_checkIndex_df160 ∈ gT_ := gm_ 870 (by decide +kernel)
theorem w_95 : Cond.initialized "java/lang/StringLatin1" ∈ gT_ := gm_ 95 (by decide +kernel)
theorem w_912 : Cond.code yJ1_charAt_3b067 cJ1_charAt_3b067 2 (some .char) ∈ gT_ := gm_ 912 (by decide +kernel)
theorem w_911 : Cond.static yJ1_charAt_3b067 ∈ gT_ := gm_ 911 (by decide +kernel)
theorem w_905 : Cond.code yJ0_charAt_5068e cJ0_charAt_5068e 2 (some .char) ∈ gT_ := gm_ 905 (by decide +kernel)
theorem w_903 : Cond.instanceMethod yJ0_charAt_5068e ∈ gT_ := gm_ 903 (by decide +kernel)
theorem w_904 : Cond.selects "java/lang/String" yJ0_charAt_5068e yJ0_charAt_5068e ∈ gT_ := gm_ 904 (by decide +kernel)
theorem w_101 : Cond.initialized "java/lang/Integer" ∈ gT_ := gm_ 101 (by decide +kernel)
theorem w_1128 : Cond.code yJ6_bitCount_0f7a4 cJ6_bitCount_0f7a4 1 (some .int) ∈ gT_ := gm_ 1128 (by decide +kernel)
theorem w_1127 : Cond.static yJ6_bitCount_0f7a4 ∈ gT_ := gm_ 1127 (by decide +kernel)
theorem w_1014 : Cond.code yJ6_stringSize_0f7a4 cJ6_stringSize_0f7a4 4 (some .int) ∈ gT_ := gm_ 1014 (by decide +kernel)
theorem w_1013 : Cond.static yJ6_stringSize_0f7a4 ∈ gT_ := gm_ 1013 (by decide +kernel)
theorem w_829 : Cond.code yJ1_canEncode_fc78d cJ1_canEncode_fc78d 1 (some .boolean) ∈ gT_ := gm_ 829 (by decide +kernel)
theorem w_828 : Cond.static yJ1_canEncode_fc78d ∈ gT_ := gm_ 828 (by decide +kernel)
theorem w_97 : Cond.initialized "java/lang/Enum" ∈ gT_ := gm_ 97 (by decide +kernel)
theorem w_989 : Cond.code yJx29ce0_ordinal_8abf5 cJx29ce0_ordinal_8abf5 1 (some .int) ∈ gT_ := gm_ 989 (by decide +kernel)
theorem ca_J0_coder_7d493 : ca_ yJ0_coder_7d493 cJ0_coder_7d493 1 (some .byte) 0 := ⟨w_88, w_900, by decide, by decide, by decide +kernel⟩
theorem cv_J0_coder_7d493 : cv_ yJ0_coder_7d493 := ⟨w_898, w_899⟩
theorem ca_J0_length_8abf5 : ca_ yJ0_length_8abf5 cJ0_length_8abf5 1 (some .int) 0 := ⟨w_88, w_896, by decide, by decide, by decide +kernel⟩
theorem cv_J0_length_8abf5 : cv_ yJ0_length_8abf5 := ⟨w_894, w_895⟩
theorem ca_J0_isLatin1_aae02 : ca_ yJ0_isLatin1_aae02 cJ0_isLatin1_aae02 1 (some .boolean) 0 := ⟨w_88, w_909, by decide, by decide, by decide +kernel⟩
theorem cv_J0_isLatin1_aae02 : cv_ yJ0_isLatin1_aae02 := ⟨w_907, w_908⟩
theorem ca_J3_checkIndex_8e157 : ca_ yJ3_checkIndex_8e157 cJ3_checkIndex_8e157 3 (some .int) 3 := ⟨w_96, w_874, by decide, by decide, by decide +kernel⟩
theorem cs_J3_checkIndex_8e157 : Cond.static yJ3_checkIndex_8e157 ∈ gT_ := w_873
theorem ca_J0_checkIndex_df160 : ca_ yJ0_checkIndex_df160 cJ0_checkIndex_df160 2 none 2 := ⟨w_88, w_871, by decide, by decide, by decide +kernel⟩
theorem cs_J0_checkIndex_df160 : Cond.static yJ0_checkIndex_df160 ∈ gT_ := w_870
theorem ca_J1_charAt_3b067 : ca_ yJ1_charAt_3b067 cJ1_charAt_3b067 2 (some .char) 2 := ⟨w_95, w_912, by decide, by decide, by decide +kernel⟩
theorem cs_J1_charAt_3b067 : Cond.static yJ1_charAt_3b067 ∈ gT_ := w_911
theorem ca_J0_charAt_5068e : ca_ yJ0_charAt_5068e cJ0_charAt_5068e 2 (some .char) 1 := ⟨w_88, w_905, by decide, by decide, by decide +kernel⟩
theorem cv_J0_charAt_5068e : cv_ yJ0_charAt_5068e := ⟨w_903, w_904⟩
theorem ca_J6_bitCount_0f7a4 : ca_ yJ6_bitCount_0f7a4 cJ6_bitCount_0f7a4 1 (some .int) 1 := ⟨w_101, w_1128, by decide, by decide, by decide +kernel⟩
theorem cs_J6_bitCount_0f7a4 : Cond.static yJ6_bitCount_0f7a4 ∈ gT_ := w_1127
theorem ca_J6_stringSize_0f7a4 : ca_ yJ6_stringSize_0f7a4 cJ6_stringSize_0f7a4 4 (some .int) 1 := ⟨w_101, w_1014, by decide, by decide, by decide +kernel⟩
theorem cs_J6_stringSize_0f7a4 : Cond.static yJ6_stringSize_0f7a4 ∈ gT_ := w_1013
theorem ca_J1_canEncode_fc78d : ca_ yJ1_canEncode_fc78d cJ1_canEncode_fc78d 1 (some .boolean) 1 := ⟨w_95, w_829, by decide, by decide, by decide +kernel⟩
theorem cs_J1_canEncode_fc78d : Cond.static yJ1_canEncode_fc78d ∈ gT_ := w_828
theorem ca_Jx29ce0_ordinal_8abf5 : ca_ yJx29ce0_ordinal_8abf5 cJx29ce0_ordinal_8abf5 1 (some .int) 0 := ⟨w_97, w_989, by decide, by decide, by decide +kernel⟩
end
section
theorem dJ0_coder_7d493_0 : decode cJ0_coder_7d493 0 = .ok (.getstatic 38, 3) := by decide +kernel
theorem dJ0_coder_7d493_3 : decode cJ0_coder_7d493 3 = .ok (.ifCond .eq 10, 3) := by decide +kernel
theorem dJ0_coder_7d493_6 : decode cJ0_coder_7d493 6 = .ok (.aload_n 0, 1) := by decide +kernel
theorem dJ0_coder_7d493_7 : decode cJ0_coder_7d493 7 = .ok (.getfield 15, 3) := by decide +kernel
theorem dJ0_coder_7d493_10 : decode cJ0_coder_7d493 10 = .ok (.goto 4, 3) := by decide +kernel
theorem dJ0_coder_7d493_13 : decode cJ0_coder_7d493 13 = .ok (.iconst 1, 1) := by decide +kernel
theorem dJ0_coder_7d493_14 : decode cJ0_coder_7d493 14 = .ok (.ireturn, 1) := by decide +kernel
theorem dJ0_length_8abf5_0 : decode cJ0_length_8abf5 0 = .ok (.aload_n 0, 1) := by decide +kernel
theorem dJ0_length_8abf5_1 : decode cJ0_length_8abf5 1 = .ok (.getfield 9, 3) := by decide +kernel
theorem dJ0_length_8abf5_4 : decode cJ0_length_8abf5 4 = .ok (.arraylength, 1) := by decide +kernel
theorem dJ0_length_8abf5_5 : decode cJ0_length_8abf5 5 = .ok (.aload_n 0, 1) := by decide +kernel
theorem dJ0_length_8abf5_6 : decode cJ0_length_8abf5 6 = .ok (.invokevirtual 335, 3) := by decide +kernel
theorem dJ0_length_8abf5_9 : decode cJ0_length_8abf5 9 = .ok (.ishr, 1) := by decide +kernel
theorem dJ0_length_8abf5_10 : decode cJ0_length_8abf5 10 = .ok (.ireturn, 1) := by decide +kernel
theorem dJ0_isLatin1_aae02_0 : decode cJ0_isLatin1_aae02 0 = .ok (.getstatic 38, 3) := by decide +kernel
theorem dJ0_isLatin1_aae02_3 : decode cJ0_isLatin1_aae02 3 = .ok (.ifCond .eq 14, 3) := by decide +kernel
theorem dJ0_isLatin1_aae02_6 : decode cJ0_isLatin1_aae02 6 = .ok (.aload_n 0, 1) := by decide +kernel
theorem dJ0_isLatin1_aae02_7 : decode cJ0_isLatin1_aae02 7 = .ok (.getfield 15, 3) := by decide +kernel
theorem dJ0_isLatin1_aae02_10 : decode cJ0_isLatin1_aae02 10 = .ok (.ifCond .ne 7, 3) := by decide +kernel
theorem dJ0_isLatin1_aae02_13 : decode cJ0_isLatin1_aae02 13 = .ok (.iconst 1, 1) := by decide +kernel
theorem dJ0_isLatin1_aae02_14 : decode cJ0_isLatin1_aae02 14 = .ok (.goto 4, 3) := by decide +kernel
theorem dJ0_isLatin1_aae02_17 : decode cJ0_isLatin1_aae02 17 = .ok (.iconst 0, 1) := by decide +kernel
theorem dJ0_isLatin1_aae02_18 : decode cJ0_isLatin1_aae02 18 = .ok (.ireturn, 1) := by decide +kernel
theorem dJ3_checkIndex_8e157_0 : decode cJ3_checkIndex_8e157 0 = .ok (.iload_n 0, 1) := by decide +kernel
theorem dJ3_checkIndex_8e157_1 : decode cJ3_checkIndex_8e157 1 = .ok (.ifCond .lt 8, 3) := by decide +kernel
theorem dJ3_checkIndex_8e157_4 : decode cJ3_checkIndex_8e157 4 = .ok (.iload_n 0, 1) := by decide +kernel
theorem dJ3_checkIndex_8e157_5 : decode cJ3_checkIndex_8e157 5 = .ok (.iload_n 1, 1) := by decide +kernel
theorem dJ3_checkIndex_8e157_6 : decode cJ3_checkIndex_8e157 6 = .ok (.if_icmp .lt 10, 3) := by decide +kernel
theorem dJ3_checkIndex_8e157_9 : decode cJ3_checkIndex_8e157 9 = .ok (.aload_n 2, 1) := by decide +kernel
theorem dJ3_checkIndex_8e157_10 : decode cJ3_checkIndex_8e157 10 = .ok (.iload_n 0, 1) := by decide +kernel
theorem dJ3_checkIndex_8e157_11 : decode cJ3_checkIndex_8e157 11 = .ok (.iload_n 1, 1) := by decide +kernel
theorem dJ3_checkIndex_8e157_12 : decode cJ3_checkIndex_8e157 12 = .ok (.invokestatic 95, 3) := by decide +kernel
theorem dJ3_checkIndex_8e157_15 : decode cJ3_checkIndex_8e157 15 = .ok (.athrow, 1) := by decide +kernel
theorem dJ3_checkIndex_8e157_16 : decode cJ3_checkIndex_8e157 16 = .ok (.iload_n 0, 1) := by decide +kernel
theorem dJ3_checkIndex_8e157_17 : decode cJ3_checkIndex_8e157 17 = .ok (.ireturn, 1) := by decide +kernel
theorem dJ0_checkIndex_df160_0 : decode cJ0_checkIndex_df160 0 = .ok (.iload_n 0, 1) := by decide +kernel
theorem dJ0_checkIndex_df160_1 : decode cJ0_checkIndex_df160 1 = .ok (.iload_n 1, 1) := by decide +kernel
theorem dJ0_checkIndex_df160_2 : decode cJ0_checkIndex_df160 2 = .ok (.getstatic 1053, 3) := by decide +kernel
theorem dJ0_checkIndex_df160_5 : decode cJ0_checkIndex_df160 5 = .ok (.invokestatic 1059, 3) := by decide +kernel
theorem dJ0_checkIndex_df160_8 : decode cJ0_checkIndex_df160 8 = .ok (.pop, 1) := by decide +kernel
theorem dJ0_checkIndex_df160_9 : decode cJ0_checkIndex_df160 9 = .ok (.return_, 1) := by decide +kernel
theorem dJ1_charAt_3b067_0 : decode cJ1_charAt_3b067 0 = .ok (.iload_n 1, 1) := by decide +kernel
theorem dJ1_charAt_3b067_1 : decode cJ1_charAt_3b067 1 = .ok (.aload_n 0, 1) := by decide +kernel
theorem dJ1_charAt_3b067_2 : decode cJ1_charAt_3b067 2 = .ok (.arraylength, 1) := by decide +kernel
theorem dJ1_charAt_3b067_3 : decode cJ1_charAt_3b067 3 = .ok (.invokestatic 9, 3) := by decide +kernel
theorem dJ1_charAt_3b067_6 : decode cJ1_charAt_3b067 6 = .ok (.aload_n 0, 1) := by decide +kernel
theorem dJ1_charAt_3b067_7 : decode cJ1_charAt_3b067 7 = .ok (.iload_n 1, 1) := by decide +kernel
theorem dJ1_charAt_3b067_8 : decode cJ1_charAt_3b067 8 = .ok (.baload, 1) := by decide +kernel
theorem dJ1_charAt_3b067_9 : decode cJ1_charAt_3b067 9 = .ok (.sipush 255, 3) := by decide +kernel
theorem dJ1_charAt_3b067_12 : decode cJ1_charAt_3b067 12 = .ok (.iand, 1) := by decide +kernel
theorem dJ1_charAt_3b067_13 : decode cJ1_charAt_3b067 13 = .ok (.i2c, 1) := by decide +kernel
theorem dJ1_charAt_3b067_14 : decode cJ1_charAt_3b067 14 = .ok (.ireturn, 1) := by decide +kernel
theorem dJ0_charAt_5068e_0 : decode cJ0_charAt_5068e 0 = .ok (.aload_n 0, 1) := by decide +kernel
theorem dJ0_charAt_5068e_1 : decode cJ0_charAt_5068e 1 = .ok (.invokevirtual 492, 3) := by decide +kernel
theorem dJ0_charAt_5068e_4 : decode cJ0_charAt_5068e 4 = .ok (.ifCond .eq 12, 3) := by decide +kernel
theorem dJ0_charAt_5068e_7 : decode cJ0_charAt_5068e 7 = .ok (.aload_n 0, 1) := by decide +kernel
theorem dJ0_charAt_5068e_8 : decode cJ0_charAt_5068e 8 = .ok (.getfield 9, 3) := by decide +kernel
theorem dJ0_charAt_5068e_11 : decode cJ0_charAt_5068e 11 = .ok (.iload_n 1, 1) := by decide +kernel
theorem dJ0_charAt_5068e_12 : decode cJ0_charAt_5068e 12 = .ok (.invokestatic 495, 3) := by decide +kernel
theorem dJ0_charAt_5068e_15 : decode cJ0_charAt_5068e 15 = .ok (.ireturn, 1) := by decide +kernel
theorem dJ0_charAt_5068e_16 : decode cJ0_charAt_5068e 16 = .ok (.aload_n 0, 1) := by decide +kernel
theorem dJ0_charAt_5068e_17 : decode cJ0_charAt_5068e 17 = .ok (.getfield 9, 3) := by decide +kernel
theorem dJ0_charAt_5068e_20 : decode cJ0_charAt_5068e 20 = .ok (.iload_n 1, 1) := by decide +kernel
theorem dJ0_charAt_5068e_21 : decode cJ0_charAt_5068e 21 = .ok (.invokestatic 498, 3) := by decide +kernel
theorem dJ0_charAt_5068e_24 : decode cJ0_charAt_5068e 24 = .ok (.ireturn, 1) := by decide +kernel
theorem dJ6_bitCount_0f7a4_0 : decode cJ6_bitCount_0f7a4 0 = .ok (.iload_n 0, 1) := by decide +kernel
theorem dJ6_bitCount_0f7a4_1 : decode cJ6_bitCount_0f7a4 1 = .ok (.iload_n 0, 1) := by decide +kernel
theorem dJ6_bitCount_0f7a4_2 : decode cJ6_bitCount_0f7a4 2 = .ok (.iconst 1, 1) := by decide +kernel
theorem dJ6_bitCount_0f7a4_3 : decode cJ6_bitCount_0f7a4 3 = .ok (.iushr, 1) := by decide +kernel
theorem dJ6_bitCount_0f7a4_4 : decode cJ6_bitCount_0f7a4 4 = .ok (.ldc_w 265, 3) := by decide +kernel
theorem dJ6_bitCount_0f7a4_7 : decode cJ6_bitCount_0f7a4 7 = .ok (.iand, 1) := by decide +kernel
theorem dJ6_bitCount_0f7a4_8 : decode cJ6_bitCount_0f7a4 8 = .ok (.isub, 1) := by decide +kernel
theorem dJ6_bitCount_0f7a4_9 : decode cJ6_bitCount_0f7a4 9 = .ok (.istore_n 0, 1) := by decide +kernel
theorem dJ6_bitCount_0f7a4_10 : decode cJ6_bitCount_0f7a4 10 = .ok (.iload_n 0, 1) := by decide +kernel
theorem dJ6_bitCount_0f7a4_11 : decode cJ6_bitCount_0f7a4 11 = .ok (.ldc_w 266, 3) := by decide +kernel
theorem dJ6_bitCount_0f7a4_14 : decode cJ6_bitCount_0f7a4 14 = .ok (.iand, 1) := by decide +kernel
theorem dJ6_bitCount_0f7a4_15 : decode cJ6_bitCount_0f7a4 15 = .ok (.iload_n 0, 1) := by decide +kernel
theorem dJ6_bitCount_0f7a4_16 : decode cJ6_bitCount_0f7a4 16 = .ok (.iconst 2, 1) := by decide +kernel
theorem dJ6_bitCount_0f7a4_17 : decode cJ6_bitCount_0f7a4 17 = .ok (.iushr, 1) := by decide +kernel
theorem dJ6_bitCount_0f7a4_18 : decode cJ6_bitCount_0f7a4 18 = .ok (.ldc_w 266, 3) := by decide +kernel
theorem dJ6_bitCount_0f7a4_21 : decode cJ6_bitCount_0f7a4 21 = .ok (.iand, 1) := by decide +kernel
theorem dJ6_bitCount_0f7a4_22 : decode cJ6_bitCount_0f7a4 22 = .ok (.iadd, 1) := by decide +kernel
theorem dJ6_bitCount_0f7a4_23 : decode cJ6_bitCount_0f7a4 23 = .ok (.istore_n 0, 1) := by decide +kernel
theorem dJ6_bitCount_0f7a4_24 : decode cJ6_bitCount_0f7a4 24 = .ok (.iload_n 0, 1) := by decide +kernel
theorem dJ6_bitCount_0f7a4_25 : decode cJ6_bitCount_0f7a4 25 = .ok (.iload_n 0, 1) := by decide +kernel
theorem dJ6_bitCount_0f7a4_26 : decode cJ6_bitCount_0f7a4 26 = .ok (.iconst 4, 1) := by decide +kernel
theorem dJ6_bitCount_0f7a4_27 : decode cJ6_bitCount_0f7a4 27 = .ok (.iushr, 1) := by decide +kernel
theorem dJ6_bitCount_0f7a4_28 : decode cJ6_bitCount_0f7a4 28 = .ok (.iadd, 1) := by decide +kernel
theorem dJ6_bitCount_0f7a4_29 : decode cJ6_bitCount_0f7a4 29 = .ok (.ldc_w 267, 3) := by decide +kernel
theorem dJ6_bitCount_0f7a4_32 : decode cJ6_bitCount_0f7a4 32 = .ok (.iand, 1) := by decide +kernel
theorem dJ6_bitCount_0f7a4_33 : decode cJ6_bitCount_0f7a4 33 = .ok (.istore_n 0, 1) := by decide +kernel
theorem dJ6_bitCount_0f7a4_34 : decode cJ6_bitCount_0f7a4 34 = .ok (.iload_n 0, 1) := by decide +kernel
theorem dJ6_bitCount_0f7a4_35 : decode cJ6_bitCount_0f7a4 35 = .ok (.iload_n 0, 1) := by decide +kernel
theorem dJ6_bitCount_0f7a4_36 : decode cJ6_bitCount_0f7a4 36 = .ok (.bipush 8, 2) := by decide +kernel
theorem dJ6_bitCount_0f7a4_38 : decode cJ6_bitCount_0f7a4 38 = .ok (.iushr, 1) := by decide +kernel
theorem dJ6_bitCount_0f7a4_39 : decode cJ6_bitCount_0f7a4 39 = .ok (.iadd, 1) := by decide +kernel
theorem dJ6_bitCount_0f7a4_40 : decode cJ6_bitCount_0f7a4 40 = .ok (.istore_n 0, 1) := by decide +kernel
theorem dJ6_bitCount_0f7a4_41 : decode cJ6_bitCount_0f7a4 41 = .ok (.iload_n 0, 1) := by decide +kernel
theorem dJ6_bitCount_0f7a4_42 : decode cJ6_bitCount_0f7a4 42 = .ok (.iload_n 0, 1) := by decide +kernel
theorem dJ6_bitCount_0f7a4_43 : decode cJ6_bitCount_0f7a4 43 = .ok (.bipush 16, 2) := by decide +kernel
theorem dJ6_bitCount_0f7a4_45 : decode cJ6_bitCount_0f7a4 45 = .ok (.iushr, 1) := by decide +kernel
theorem dJ6_bitCount_0f7a4_46 : decode cJ6_bitCount_0f7a4 46 = .ok (.iadd, 1) := by decide +kernel
theorem dJ6_bitCount_0f7a4_47 : decode cJ6_bitCount_0f7a4 47 = .ok (.istore_n 0, 1) := by decide +kernel
theorem dJ6_bitCount_0f7a4_48 : decode cJ6_bitCount_0f7a4 48 = .ok (.iload_n 0, 1) := by decide +kernel
theorem dJ6_bitCount_0f7a4_49 : decode cJ6_bitCount_0f7a4 49 = .ok (.bipush 63, 2) := by decide +kernel
theorem dJ6_bitCount_0f7a4_51 : decode cJ6_bitCount_0f7a4 51 = .ok (.iand, 1) := by decide +kernel
theorem dJ6_bitCount_0f7a4_52 : decode cJ6_bitCount_0f7a4 52 = .ok (.ireturn, 1) := by decide +kernel
theorem dJ6_stringSize_0f7a4_0 : decode cJ6_stringSize_0f7a4 0 = .ok (.iconst 1, 1) := by decide +kernel
theorem dJ6_stringSize_0f7a4_1 : decode cJ6_stringSize_0f7a4 1 = .ok (.istore_n 1, 1) := by decide +kernel
theorem dJ6_stringSize_0f7a4_2 : decode cJ6_stringSize_0f7a4 2 = .ok (.iload_n 0, 1) := by decide +kernel
theorem dJ6_stringSize_0f7a4_3 : decode cJ6_stringSize_0f7a4 3 = .ok (.ifCond .lt 8, 3) := by decide +kernel
theorem dJ6_stringSize_0f7a4_6 : decode cJ6_stringSize_0f7a4 6 = .ok (.iconst 0, 1) := by decide +kernel
theorem dJ6_stringSize_0f7a4_7 : decode cJ6_stringSize_0f7a4 7 = .ok (.istore_n 1, 1) := by decide +kernel
theorem dJ6_stringSize_0f7a4_8 : decode cJ6_stringSize_0f7a4 8 = .ok (.iload_n 0, 1) := by decide +kernel
theorem dJ6_stringSize_0f7a4_9 : decode cJ6_stringSize_0f7a4 9 = .ok (.ineg, 1) := by decide +kernel
theorem dJ6_stringSize_0f7a4_10 : decode cJ6_stringSize_0f7a4 10 = .ok (.istore_n 0, 1) := by decide +kernel
theorem dJ6_stringSize_0f7a4_11 : decode cJ6_stringSize_0f7a4 11 = .ok (.bipush (-10), 2) := by decide +kernel
theorem dJ6_stringSize_0f7a4_13 : decode cJ6_stringSize_0f7a4 13 = .ok (.istore_n 2, 1) := by decide +kernel
theorem dJ6_stringSize_0f7a4_14 : decode cJ6_stringSize_0f7a4 14 = .ok (.iconst 1, 1) := by decide +kernel
theorem dJ6_stringSize_0f7a4_15 : decode cJ6_stringSize_0f7a4 15 = .ok (.istore_n 3, 1) := by decide +kernel
theorem dJ6_stringSize_0f7a4_16 : decode cJ6_stringSize_0f7a4 16 = .ok (.iload_n 3, 1) := by decide +kernel
theorem dJ6_stringSize_0f7a4_17 : decode cJ6_stringSize_0f7a4 17 = .ok (.bipush 10, 2) := by decide +kernel
theorem dJ6_stringSize_0f7a4_19 : decode cJ6_stringSize_0f7a4 19 = .ok (.if_icmp .ge 23, 3) := by decide +kernel
theorem dJ6_stringSize_0f7a4_22 : decode cJ6_stringSize_0f7a4 22 = .ok (.iload_n 0, 1) := by decide +kernel
theorem dJ6_stringSize_0f7a4_23 : decode cJ6_stringSize_0f7a4 23 = .ok (.iload_n 2, 1) := by decide +kernel
theorem dJ6_stringSize_0f7a4_24 : decode cJ6_stringSize_0f7a4 24 = .ok (.if_icmp .le 7, 3) := by decide +kernel
theorem dJ6_stringSize_0f7a4_27 : decode cJ6_stringSize_0f7a4 27 = .ok (.iload_n 3, 1) := by decide +kernel
theorem dJ6_stringSize_0f7a4_28 : decode cJ6_stringSize_0f7a4 28 = .ok (.iload_n 1, 1) := by decide +kernel
theorem dJ6_stringSize_0f7a4_29 : decode cJ6_stringSize_0f7a4 29 = .ok (.iadd, 1) := by decide +kernel
theorem dJ6_stringSize_0f7a4_30 : decode cJ6_stringSize_0f7a4 30 = .ok (.ireturn, 1) := by decide +kernel
theorem dJ6_stringSize_0f7a4_31 : decode cJ6_stringSize_0f7a4 31 = .ok (.bipush 10, 2) := by decide +kernel
theorem dJ6_stringSize_0f7a4_33 : decode cJ6_stringSize_0f7a4 33 = .ok (.iload_n 2, 1) := by decide +kernel
theorem dJ6_stringSize_0f7a4_34 : decode cJ6_stringSize_0f7a4 34 = .ok (.imul, 1) := by decide +kernel
theorem dJ6_stringSize_0f7a4_35 : decode cJ6_stringSize_0f7a4 35 = .ok (.istore_n 2, 1) := by decide +kernel
theorem dJ6_stringSize_0f7a4_36 : decode cJ6_stringSize_0f7a4 36 = .ok (.iinc 3 1, 3) := by decide +kernel
theorem dJ6_stringSize_0f7a4_39 : decode cJ6_stringSize_0f7a4 39 = .ok (.goto (-23), 3) := by decide +kernel
theorem dJ6_stringSize_0f7a4_42 : decode cJ6_stringSize_0f7a4 42 = .ok (.bipush 10, 2) := by decide +kernel
theorem dJ6_stringSize_0f7a4_44 : decode cJ6_stringSize_0f7a4 44 = .ok (.iload_n 1, 1) := by decide +kernel
theorem dJ6_stringSize_0f7a4_45 : decode cJ6_stringSize_0f7a4 45 = .ok (.iadd, 1) := by decide +kernel
theorem dJ6_stringSize_0f7a4_46 : decode cJ6_stringSize_0f7a4 46 = .ok (.ireturn, 1) := by decide +kernel
theorem dJ1_canEncode_fc78d_0 : decode cJ1_canEncode_fc78d 0 = .ok (.iload_n 0, 1) := by decide +kernel
theorem dJ1_canEncode_fc78d_1 : decode cJ1_canEncode_fc78d 1 = .ok (.sipush 255, 3) := by decide +kernel
theorem dJ1_canEncode_fc78d_4 : decode cJ1_canEncode_fc78d 4 = .ok (.if_icmp .gt 7, 3) := by decide +kernel
theorem dJ1_canEncode_fc78d_7 : decode cJ1_canEncode_fc78d 7 = .ok (.iconst 1, 1) := by decide +kernel
theorem dJ1_canEncode_fc78d_8 : decode cJ1_canEncode_fc78d 8 = .ok (.goto 4, 3) := by decide +kernel
theorem dJ1_canEncode_fc78d_11 : decode cJ1_canEncode_fc78d 11 = .ok (.iconst 0, 1) := by decide +kernel
theorem dJ1_canEncode_fc78d_12 : decode cJ1_canEncode_fc78d 12 = .ok (.ireturn, 1) := by decide +kernel
theorem dJx29ce0_ordinal_8abf5_0 : decode cJx29ce0_ordinal_8abf5 0 = .ok (.aload_n 0, 1) := by decide +kernel
theorem dJx29ce0_ordinal_8abf5_1 : decode cJx29ce0_ordinal_8abf5 1 = .ok (.getfield 7, 3) := by decide +kernel
theorem dJx29ce0_ordinal_8abf5_4 : decode cJx29ce0_ordinal_8abf5 4 = .ok (.ireturn, 1) := by decide +kernel
def f_J0_coder_7d493 (μ : mu_T) (a0 : Int) : Option Int :=
  eq_ 1 0
      (some 1)
      (gd_ (0 ≤ a0 ∧ a0 < 21) (some 0))
set_option maxHeartbeats 4000000 in
set_option maxRecDepth 100000 in
theorem c_J0_coder_7d493 {G : gp_} {N : Nat} {ce : Nat → (Int → Int) → va_E} {ad : Nat → Nat} (μ : mu_T) (a0 : Int) (a : Int) (h : f_J0_coder_7d493 μ a0 = some a) : mi_ yJ0_coder_7d493 cJ0_coder_7d493 1 (some .byte) ({ frames := 0, cells := 0, slots := 0, locals := 0 } : Room) G N ad ce [.ref (G.2.1 (200 + (a0 : Int).toNat))] μ a μ := by
  refine mi_in (own := "java/lang/String") (lv := [(0, .ref (G.2.1 (200 + (a0 : Int).toNat)))]) (by decide) rfl rfl (Nat.le_of_ble_eq_true rfl) (fun X C E => ?_)
  unfold f_J0_coder_7d493 at h
  refine xx_gcs C 3 rfl w_901 dJ0_coder_7d493_0 ?_
  refine xx_if_eq (tgt := 13) C 6 rfl dJ0_coder_7d493_3 (by decide) h (fun h => ?_) (fun h => ?_)
  · refine xx_iconst C 14 rfl dJ0_coder_7d493_13 ?_
    exact xx_zretl C E rfl rfl ⟨Nat.le_of_ble_eq_true rfl, Nat.le_of_ble_eq_true rfl⟩ dJ0_coder_7d493_14 h
  · refine xx_aload_n C 7 rfl 0 dJ0_coder_7d493_6 rfl rfl ?_
    refine xx_strc C 10 rfl w_1603 dJ0_coder_7d493_7 h (fun h => ?_)
    refine xx_goto C 14 dJ0_coder_7d493_10 (by decide) ?_
    exact xx_zretl C E rfl rfl ⟨Nat.le_of_ble_eq_true rfl, Nat.le_of_ble_eq_true rfl⟩ dJ0_coder_7d493_14 h

def f_J0_length_8abf5 (μ : mu_T) (a0 : Int) : Option Int :=
  gd_ (0 ≤ a0 ∧ a0 < 21) (gd_ (0 ≤ a0 ∧ a0 < 21) (gd_ (0 ≤ a0 ∧ a0 < 21) (bd_ (f_J0_coder_7d493 μ a0) (fun v6 => some (sr_ (sn_ a0) v6)))))
set_option maxHeartbeats 4000000 in
set_option maxRecDepth 100000 in
theorem c_J0_length_8abf5 {G : gp_} {N : Nat} {ce : Nat → (Int → Int) → va_E} {ad : Nat → Nat} (μ : mu_T) (a0 : Int) (a : Int) (h : f_J0_length_8abf5 μ a0 = some a) : mi_ yJ0_length_8abf5 cJ0_length_8abf5 1 (some .int) ({ frames := 1, cells := 0, slots := 0, locals := 20 } : Room) G N ad ce [.ref (G.2.1 (200 + (a0 : Int).toNat))] μ a μ := by
  refine mi_in (own := "java/lang/String") (lv := [(0, .ref (G.2.1 (200 + (a0 : Int).toNat)))]) (by decide) rfl rfl (Nat.le_of_ble_eq_true rfl) (fun X C E => ?_)
  unfold f_J0_length_8abf5 at h
  refine xx_aload_n C 1 rfl 0 dJ0_length_8abf5_0 rfl rfl ?_
  refine xx_strv C 4 rfl w_1602 dJ0_length_8abf5_1 h (fun h => ?_)
  refine xx_svlen C 5 rfl dJ0_length_8abf5_4 h (fun h => ?_)
  refine xx_aload_n C 6 rfl 0 dJ0_length_8abf5_5 rfl rfl ?_
  refine xx_cKip (As := []) (st := [.int (iI (sn_ a0))]) (z := a0) C 9 rfl rfl ca_J0_coder_7d493 cv_J0_coder_7d493 w_897 rfl ⟨Nat.le_of_ble_eq_true rfl, Nat.le_of_ble_eq_true rfl⟩ ⟨Nat.le_of_ble_eq_true rfl, Nat.le_of_ble_eq_true rfl⟩ (Nat.le_of_ble_eq_true rfl) dJ0_length_8abf5_6 (fun v6 e9 => c_J0_coder_7d493 _ _ v6 e9) h (fun v6 h => ?_) rfl
  refine xx_ishr C 10 rfl dJ0_length_8abf5_9 ?_
  exact xx_iretp C E rfl ⟨Nat.le_of_ble_eq_true rfl, Nat.le_of_ble_eq_true rfl⟩ dJ0_length_8abf5_10 h

def f_J0_isLatin1_aae02 (μ : mu_T) (a0 : Int) : Option Int :=
  eq_ 1 0
      (some 0)
      (gd_ (0 ≤ a0 ∧ a0 < 21) (eq_ 0 0
      (some 1)
      (some 0)))
set_option maxHeartbeats 4000000 in
set_option maxRecDepth 100000 in
theorem c_J0_isLatin1_aae02 {G : gp_} {N : Nat} {ce : Nat → (Int → Int) → va_E} {ad : Nat → Nat} (μ : mu_T) (a0 : Int) (a : Int) (h : f_J0_isLatin1_aae02 μ a0 = some a) : mi_ yJ0_isLatin1_aae02 cJ0_isLatin1_aae02 1 (some .boolean) ({ frames := 0, cells := 0, slots := 0, locals := 0 } : Room) G N ad ce [.ref (G.2.1 (200 + (a0 : Int).toNat))] μ a μ := by
  refine mi_in (own := "java/lang/String") (lv := [(0, .ref (G.2.1 (200 + (a0 : Int).toNat)))]) (by decide) rfl rfl (Nat.le_of_ble_eq_true rfl) (fun X C E => ?_)
  unfold f_J0_isLatin1_aae02 at h
  refine xx_gcs C 3 rfl w_901 dJ0_isLatin1_aae02_0 ?_
  refine xx_if_eq (tgt := 17) C 6 rfl dJ0_isLatin1_aae02_3 (by decide) h (fun h => ?_) (fun h => ?_)
  · refine xx_iconst C 18 rfl dJ0_isLatin1_aae02_17 ?_
    exact xx_zretl C E rfl rfl ⟨Nat.le_of_ble_eq_true rfl, Nat.le_of_ble_eq_true rfl⟩ dJ0_isLatin1_aae02_18 h
  · refine xx_aload_n C 7 rfl 0 dJ0_isLatin1_aae02_6 rfl rfl ?_
    refine xx_strc C 10 rfl w_1603 dJ0_isLatin1_aae02_7 h (fun h => ?_)
    refine xx_if_ne (tgt := 17) C 13 rfl dJ0_isLatin1_aae02_10 (by decide) h (fun h => ?_) (fun h => ?_)
    · refine xx_iconst C 18 rfl dJ0_isLatin1_aae02_17 ?_
      exact xx_zretl C E rfl rfl ⟨Nat.le_of_ble_eq_true rfl, Nat.le_of_ble_eq_true rfl⟩ dJ0_isLatin1_aae02_18 h
    · refine xx_iconst C 14 rfl dJ0_isLatin1_aae02_13 ?_
      refine xx_goto C 18 dJ0_isLatin1_aae02_14 (by decide) ?_
      exact xx_zretl C E rfl rfl ⟨Nat.le_of_ble_eq_true rfl, Nat.le_of_ble_eq_true rfl⟩ dJ0_isLatin1_aae02_18 h

def f_J3_checkIndex_8e157 (μ : mu_T) (a0 : Int) (a1 : Int) : Option Int :=
  lt_ a0 0
      (none)
      (lt_ a0 a1
      (some a0)
      (none))
set_option maxHeartbeats 4000000 in
set_option maxRecDepth 100000 in
theorem c_J3_checkIndex_8e157 {G : gp_} {N : Nat} {ce : Nat → (Int → Int) → va_E} {ad : Nat → Nat} (μ : mu_T) (a0 : Int) (a1 : Int) (a : Int) (h : f_J3_checkIndex_8e157 μ a0 a1 = some a) : mi_ yJ3_checkIndex_8e157 cJ3_checkIndex_8e157 3 (some .int) ({ frames := 0, cells := 0, slots := 0, locals := 0 } : Room) G N ad ce [.int (iI a0), .int (iI a1), .ref (G.2.1 5)] μ a μ := by
  refine mi_in (own := "jdk/internal/util/Preconditions") (lv := [(0, .int (iI a0)), (1, .int (iI a1)), (2, .ref (G.2.1 5))]) (by decide) rfl rfl (Nat.le_of_ble_eq_true rfl) (fun X C E => ?_)
  unfold f_J3_checkIndex_8e157 at h
  refine xx_iload_n C 1 rfl 0 dJ3_checkIndex_8e157_0 rfl rfl ?_
  refine xx_if_lt (tgt := 9) C 4 rfl dJ3_checkIndex_8e157_1 (by decide) h (fun h => ?_) (fun h => ?_)
  · exact nn_ h
  · refine xx_iload_n C 5 rfl 0 dJ3_checkIndex_8e157_4 rfl rfl ?_
    refine xx_iload_n C 6 rfl 1 dJ3_checkIndex_8e157_5 rfl rfl ?_
    refine xx_icmp_lt (tgt := 16) C 9 rfl dJ3_checkIndex_8e157_6 (by decide) h (fun h => ?_) (fun h => ?_)
    · refine xx_iload_n C 17 rfl 0 dJ3_checkIndex_8e157_16 rfl rfl ?_
      exact xx_iretp C E rfl ⟨Nat.le_of_ble_eq_true rfl, Nat.le_of_ble_eq_true rfl⟩ dJ3_checkIndex_8e157_17 h
    · exact nn_ h

def f_J0_checkIndex_df160 (μ : mu_T) (a0 : Int) (a1 : Int) : Option Unit :=
  bd_ (f_J3_checkIndex_8e157 μ a0 a1) (fun v5 => some ())
set_option maxHeartbeats 4000000 in
set_option maxRecDepth 100000 in
theorem c_J0_checkIndex_df160 {G : gp_} {N : Nat} {ce : Nat → (Int → Int) → va_E} {ad : Nat → Nat} (μ : mu_T) (a0 : Int) (a1 : Int) (u9 : Unit) (h : f_J0_checkIndex_df160 μ a0 a1 = some u9) : mv_ yJ0_checkIndex_df160 cJ0_checkIndex_df160 2 ({ frames := 1, cells := 0, slots := 0, locals := 22 } : Room) G N ad ce [.int (iI a0), .int (iI a1)] μ μ := by
  refine mv_in (own := "java/lang/String") (lv := [(0, .int (iI a0)), (1, .int (iI a1))]) (by decide) rfl rfl (Nat.le_of_ble_eq_true rfl) (fun X C E => ?_)
  unfold f_J0_checkIndex_df160 at h
  refine xx_iload_n C 1 rfl 0 dJ0_checkIndex_df160_0 rfl rfl ?_
  refine xx_iload_n C 2 rfl 1 dJ0_checkIndex_df160_1 rfl rfl ?_
  refine xx_gsf C 5 rfl w_849 dJ0_checkIndex_df160_2 ?_
  refine xx_cSip (As := [.int (iI a0), .int (iI a1), .ref (G.2.1 5)]) (st := []) C 8 rfl  ca_J3_checkIndex_8e157 cs_J3_checkIndex_8e157 w_872 rfl ⟨Nat.le_of_ble_eq_true rfl, Nat.le_of_ble_eq_true rfl⟩ ⟨Nat.le_of_ble_eq_true rfl, Nat.le_of_ble_eq_true rfl⟩ (Nat.le_of_ble_eq_true rfl) dJ0_checkIndex_df160_5 (fun v5 e9 => c_J3_checkIndex_8e157 _ _ _ v5 e9) h (fun v5 h => ?_) rfl
  refine xx_pop C 9 rfl dJ0_checkIndex_df160_8 rfl ?_
  exact xx_vretp C E rfl ⟨Nat.le_of_ble_eq_true rfl, Nat.le_of_ble_eq_true rfl⟩ dJ0_checkIndex_df160_9 h

def f_J1_charAt_3b067 (μ : mu_T) (a0 : Int) (a1 : Int) : Option Int :=
  gd_ (0 ≤ a0 ∧ a0 < 21) (bd_ (f_J0_checkIndex_df160 μ a1 (sn_ a0)) (fun u3 => rs_ a0 a1 (fun v8 => rc_ (i2c_ (an_ v8 255)))))
set_option maxHeartbeats 4000000 in
set_option maxRecDepth 100000 in
theorem c_J1_charAt_3b067 {G : gp_} {N : Nat} {ce : Nat → (Int → Int) → va_E} {ad : Nat → Nat} (μ : mu_T) (a0 : Int) (a1 : Int) (a : Int) (h : f_J1_charAt_3b067 μ a0 a1 = some a) : mi_ yJ1_charAt_3b067 cJ1_charAt_3b067 2 (some .char) ({ frames := 2, cells := 0, slots := 0, locals := 43 } : Room) G N ad ce [.ref (G.2.1 (300 + (a0 : Int).toNat)), .int (iI a1)] μ a μ := by
  refine mi_in (own := "java/lang/StringLatin1") (lv := [(0, .ref (G.2.1 (300 + (a0 : Int).toNat))), (1, .int (iI a1))]) (by decide) rfl rfl (Nat.le_of_ble_eq_true rfl) (fun X C E => ?_)
  unfold f_J1_charAt_3b067 at h
  refine xx_iload_n C 1 rfl 1 dJ1_charAt_3b067_0 rfl rfl ?_
  refine xx_aload_n C 2 rfl 0 dJ1_charAt_3b067_1 rfl rfl ?_
  refine xx_svlen C 3 rfl dJ1_charAt_3b067_2 h (fun h => ?_)
  refine xx_cSvp (As := [.int (iI a1), .int (iI (sn_ a0))]) (st := []) C 6 rfl  ca_J0_checkIndex_df160 cs_J0_checkIndex_df160 w_913 rfl ⟨Nat.le_of_ble_eq_true rfl, Nat.le_of_ble_eq_true rfl⟩ ⟨Nat.le_of_ble_eq_true rfl, Nat.le_of_ble_eq_true rfl⟩ (Nat.le_of_ble_eq_true rfl) dJ1_charAt_3b067_3 (fun u3 e9 => c_J0_checkIndex_df160 _ _ _ u3 e9) h (fun u3 h => ?_) rfl
  refine xx_aload_n C 7 rfl 0 dJ1_charAt_3b067_6 rfl rfl ?_
  refine xx_iload_n C 8 rfl 1 dJ1_charAt_3b067_7 rfl rfl ?_
  refine xx_svld C 9 rfl dJ1_charAt_3b067_8 h (fun v8 h => ?_)
  refine xx_sipush C 12 rfl dJ1_charAt_3b067_9 (by decide) ?_
  refine xx_iand C 13 rfl dJ1_charAt_3b067_12 ?_
  refine xx_i2c C 14 rfl dJ1_charAt_3b067_13 ?_
  exact xx_cretp C E rfl ⟨Nat.le_of_ble_eq_true rfl, Nat.le_of_ble_eq_true rfl⟩ dJ1_charAt_3b067_14 h

def f_J0_charAt_5068e (μ : mu_T) (a0 : Int) (a1 : Int) : Option Int :=
  gd_ (0 ≤ a0 ∧ a0 < 21) (bd_ (f_J0_isLatin1_aae02 μ a0) (fun v1 => eq_ v1 0
      (gd_ (0 ≤ a0 ∧ a0 < 21) (none))
      (gd_ (0 ≤ a0 ∧ a0 < 21) (bd_ (f_J1_charAt_3b067 μ a0 a1) (fun v12 => rc_ v12)))))
set_option maxHeartbeats 4000000 in
set_option maxRecDepth 100000 in
theorem c_J0_charAt_5068e {G : gp_} {N : Nat} {ce : Nat → (Int → Int) → va_E} {ad : Nat → Nat} (μ : mu_T) (a0 : Int) (a1 : Int) (a : Int) (h : f_J0_charAt_5068e μ a0 a1 = some a) : mi_ yJ0_charAt_5068e cJ0_charAt_5068e 2 (some .char) ({ frames := 3, cells := 0, slots := 0, locals := 64 } : Room) G N ad ce [.ref (G.2.1 (200 + (a0 : Int).toNat)), .int (iI a1)] μ a μ := by
  refine mi_in (own := "java/lang/String") (lv := [(0, .ref (G.2.1 (200 + (a0 : Int).toNat))), (1, .int (iI a1))]) (by decide) rfl rfl (Nat.le_of_ble_eq_true rfl) (fun X C E => ?_)
  unfold f_J0_charAt_5068e at h
  refine xx_aload_n C 1 rfl 0 dJ0_charAt_5068e_0 rfl rfl ?_
  refine xx_cKip (As := []) (st := []) (z := a0) C 4 rfl rfl ca_J0_isLatin1_aae02 cv_J0_isLatin1_aae02 w_906 rfl ⟨Nat.le_of_ble_eq_true rfl, Nat.le_of_ble_eq_true rfl⟩ ⟨Nat.le_of_ble_eq_true rfl, Nat.le_of_ble_eq_true rfl⟩ (Nat.le_of_ble_eq_true rfl) dJ0_charAt_5068e_1 (fun v1 e9 => c_J0_isLatin1_aae02 _ _ v1 e9) h (fun v1 h => ?_) rfl
  refine xx_if_eq (tgt := 16) C 7 rfl dJ0_charAt_5068e_4 (by decide) h (fun h => ?_) (fun h => ?_)
  · refine xx_aload_n C 17 rfl 0 dJ0_charAt_5068e_16 rfl rfl ?_
    refine xx_strv C 20 rfl w_1602 dJ0_charAt_5068e_17 h (fun h => ?_)
    refine xx_iload_n C 21 rfl 1 dJ0_charAt_5068e_20 rfl rfl ?_
    exact nn_ h
  · refine xx_aload_n C 8 rfl 0 dJ0_charAt_5068e_7 rfl rfl ?_
    refine xx_strv C 11 rfl w_1602 dJ0_charAt_5068e_8 h (fun h => ?_)
    refine xx_iload_n C 12 rfl 1 dJ0_charAt_5068e_11 rfl rfl ?_
    refine xx_cSip (As := [.ref (G.2.1 (300 + (a0 : Int).toNat)), .int (iI a1)]) (st := []) C 15 rfl  ca_J1_charAt_3b067 cs_J1_charAt_3b067 w_910 rfl ⟨Nat.le_of_ble_eq_true rfl, Nat.le_of_ble_eq_true rfl⟩ ⟨Nat.le_of_ble_eq_true rfl, Nat.le_of_ble_eq_true rfl⟩ (Nat.le_of_ble_eq_true rfl) dJ0_charAt_5068e_12 (fun v12 e9 => c_J1_charAt_3b067 _ _ _ v12 e9) h (fun v12 h => ?_) rfl
    exact xx_cretp C E rfl ⟨Nat.le_of_ble_eq_true rfl, Nat.le_of_ble_eq_true rfl⟩ dJ0_charAt_5068e_15 h

def f_J6_bitCount_0f7a4 (μ : mu_T) (a0 : Int) : Option Int :=
  nm_ ((a0 - (an_ (su_ a0 1) 1431655765))) (fun n9 => nm_ (((an_ n9 858993459) + (an_ (su_ n9 2) 858993459))) (fun n23 => nm_ ((an_ (n23 + (su_ n23 4)) 252645135)) (fun n33 => nm_ ((n33 + (su_ n33 8))) (fun n40 => nm_ ((n40 + (su_ n40 16))) (fun n47 => some (an_ n47 63))))))
set_option maxHeartbeats 4000000 in
set_option maxRecDepth 100000 in
theorem c_J6_bitCount_0f7a4 {G : gp_} {N : Nat} {ce : Nat → (Int → Int) → va_E} {ad : Nat → Nat} (μ : mu_T) (a0 : Int) (a : Int) (h : f_J6_bitCount_0f7a4 μ a0 = some a) : mi_ yJ6_bitCount_0f7a4 cJ6_bitCount_0f7a4 1 (some .int) ({ frames := 0, cells := 0, slots := 0, locals := 0 } : Room) G N ad ce [.int (iI a0)] μ a μ := by
  refine mi_in (own := "java/lang/Integer") (lv := [(0, .int (iI a0))]) (by decide) rfl rfl (Nat.le_of_ble_eq_true rfl) (fun X C E => ?_)
  unfold f_J6_bitCount_0f7a4 at h
  refine xx_iload_n C 1 rfl 0 dJ6_bitCount_0f7a4_0 rfl rfl ?_
  refine xx_iload_n C 2 rfl 0 dJ6_bitCount_0f7a4_1 rfl rfl ?_
  refine xx_iconst C 3 rfl dJ6_bitCount_0f7a4_2 ?_
  refine xx_iushr C 4 rfl dJ6_bitCount_0f7a4_3 ?_
  refine xx_ldcwi C 7 rfl (v := 1431655765) w_1129 dJ6_bitCount_0f7a4_4 ?_
  refine xx_iand C 8 rfl dJ6_bitCount_0f7a4_7 ?_
  refine xx_isub C 9 rfl dJ6_bitCount_0f7a4_8 ?_
  refine xx_nm C h (fun n9 h => ?_)
  refine xx_istore_n (lv1 := [(0, .int (iI n9))]) C 10 rfl (by decide) dJ6_bitCount_0f7a4_9 rfl rfl ?_
  refine xx_iload_n C 11 rfl 0 dJ6_bitCount_0f7a4_10 rfl rfl ?_
  refine xx_ldcwi C 14 rfl (v := 858993459) w_1130 dJ6_bitCount_0f7a4_11 ?_
  refine xx_iand C 15 rfl dJ6_bitCount_0f7a4_14 ?_
  refine xx_iload_n C 16 rfl 0 dJ6_bitCount_0f7a4_15 rfl rfl ?_
  refine xx_iconst C 17 rfl dJ6_bitCount_0f7a4_16 ?_
  refine xx_iushr C 18 rfl dJ6_bitCount_0f7a4_17 ?_
  refine xx_ldcwi C 21 rfl (v := 858993459) w_1130 dJ6_bitCount_0f7a4_18 ?_
  refine xx_iand C 22 rfl dJ6_bitCount_0f7a4_21 ?_
  refine xx_iadd C 23 rfl dJ6_bitCount_0f7a4_22 ?_
  refine xx_nm C h (fun n23 h => ?_)
  refine xx_istore_n (lv1 := [(0, .int (iI n23))]) C 24 rfl (by decide) dJ6_bitCount_0f7a4_23 rfl rfl ?_
  refine xx_iload_n C 25 rfl 0 dJ6_bitCount_0f7a4_24 rfl rfl ?_
  refine xx_iload_n C 26 rfl 0 dJ6_bitCount_0f7a4_25 rfl rfl ?_
  refine xx_iconst C 27 rfl dJ6_bitCount_0f7a4_26 ?_
  refine xx_iushr C 28 rfl dJ6_bitCount_0f7a4_27 ?_
  refine xx_iadd C 29 rfl dJ6_bitCount_0f7a4_28 ?_
  refine xx_ldcwi C 32 rfl (v := 252645135) w_1131 dJ6_bitCount_0f7a4_29 ?_
  refine xx_iand C 33 rfl dJ6_bitCount_0f7a4_32 ?_
  refine xx_nm C h (fun n33 h => ?_)
  refine xx_istore_n (lv1 := [(0, .int (iI n33))]) C 34 rfl (by decide) dJ6_bitCount_0f7a4_33 rfl rfl ?_
  refine xx_iload_n C 35 rfl 0 dJ6_bitCount_0f7a4_34 rfl rfl ?_
  refine xx_iload_n C 36 rfl 0 dJ6_bitCount_0f7a4_35 rfl rfl ?_
  refine xx_bipush C 38 rfl dJ6_bitCount_0f7a4_36 (by decide) ?_
  refine xx_iushr C 39 rfl dJ6_bitCount_0f7a4_38 ?_
  refine xx_iadd C 40 rfl dJ6_bitCount_0f7a4_39 ?_
  refine xx_nm C h (fun n40 h => ?_)
  refine xx_istore_n (lv1 := [(0, .int (iI n40))]) C 41 rfl (by decide) dJ6_bitCount_0f7a4_40 rfl rfl ?_
  refine xx_iload_n C 42 rfl 0 dJ6_bitCount_0f7a4_41 rfl rfl ?_
  refine xx_iload_n C 43 rfl 0 dJ6_bitCount_0f7a4_42 rfl rfl ?_
  refine xx_bipush C 45 rfl dJ6_bitCount_0f7a4_43 (by decide) ?_
  refine xx_iushr C 46 rfl dJ6_bitCount_0f7a4_45 ?_
  refine xx_iadd C 47 rfl dJ6_bitCount_0f7a4_46 ?_
  refine xx_nm C h (fun n47 h => ?_)
  refine xx_istore_n (lv1 := [(0, .int (iI n47))]) C 48 rfl (by decide) dJ6_bitCount_0f7a4_47 rfl rfl ?_
  refine xx_iload_n C 49 rfl 0 dJ6_bitCount_0f7a4_48 rfl rfl ?_
  refine xx_bipush C 51 rfl dJ6_bitCount_0f7a4_49 (by decide) ?_
  refine xx_iand C 52 rfl dJ6_bitCount_0f7a4_51 ?_
  exact xx_iretp C E rfl ⟨Nat.le_of_ble_eq_true rfl, Nat.le_of_ble_eq_true rfl⟩ dJ6_bitCount_0f7a4_52 h

def f_J6_stringSize_0f7a4_L16 (J27 : Int → Option Int) (J42 : Unit → Option Int) (x0_11 : Int) : Nat → Int → Int → Option Int
  | 0, _, _ => none
  | fu16 + 1, x2_16, x3_16 => lt_ x3_16 10
      (lt_ x2_16 x0_11
      (J27 x3_16)
      (nm_ ((10 * x2_16)) (fun n35 => nm_ (x3_16 + 1) (fun n36 => (f_J6_stringSize_0f7a4_L16 J27 J42 x0_11 fu16) n35 n36))))
      (J42 ())
def f_J6_stringSize_0f7a4 (μ : mu_T) (a0 : Int) : Option Int :=
  jn_ (φ := Int → Int → Option Int) (fun x0_11 x1_11 => jn_ (φ := Unit → Option Int) (fun _ => some (10 + x1_11))
      (fun J42 => jn_ (φ := Int → Option Int) (fun x3_27 => some (x3_27 + x1_11))
      (fun J27 => f_J6_stringSize_0f7a4_L16 J27 J42 x0_11 20000 (-10) 1)))
      (fun J11 => lt_ a0 0
      (J11 a0 1)
      (nm_ ((-a0)) (fun n10 => J11 n10 0)))
set_option maxHeartbeats 4000000 in
set_option maxRecDepth 100000 in
theorem c_J6_stringSize_0f7a4 {G : gp_} {N : Nat} {ce : Nat → (Int → Int) → va_E} {ad : Nat → Nat} (μ : mu_T) (a0 : Int) (a : Int) (h : f_J6_stringSize_0f7a4 μ a0 = some a) : mi_ yJ6_stringSize_0f7a4 cJ6_stringSize_0f7a4 4 (some .int) ({ frames := 0, cells := 0, slots := 0, locals := 0 } : Room) G N ad ce [.int (iI a0)] μ a μ := by
  refine mi_in (own := "java/lang/Integer") (lv := [(0, .int (iI a0))]) (by decide) rfl rfl (Nat.le_of_ble_eq_true rfl) (fun X C E => ?_)
  unfold f_J6_stringSize_0f7a4 at h
  refine xx_iconst C 1 rfl dJ6_stringSize_0f7a4_0 ?_
  refine xx_istore_n (lv1 := [(1, .int (iI 1)), (0, .int (iI a0))]) C 2 rfl (by decide) dJ6_stringSize_0f7a4_1 rfl rfl ?_
  refine xx_iload_n C 3 rfl 1 dJ6_stringSize_0f7a4_2 rfl rfl ?_
  refine jn_r (fun J => ∀ (x0_11 : Int) (x1_11 : Int), J x0_11 x1_11 = some a → wx_ G X N ad ce μ 0 0 11 [(0, .int (iI x0_11)), (1, .int (iI x1_11))] []) h (fun x0_11 x1_11 h => ?_) (fun J11 K11 h => ?_)
  · refine xx_bipush C 13 rfl dJ6_stringSize_0f7a4_11 (by decide) ?_
    refine xx_istore_n (lv1 := [(2, .int (iI (-10))), (0, .int (iI x0_11)), (1, .int (iI x1_11))]) C 14 rfl (by decide) dJ6_stringSize_0f7a4_13 rfl rfl ?_
    refine xx_iconst C 15 rfl dJ6_stringSize_0f7a4_14 ?_
    refine xx_istore_n (lv1 := [(3, .int (iI 1)), (2, .int (iI (-10))), (0, .int (iI x0_11)), (1, .int (iI x1_11))]) C 16 rfl (by decide) dJ6_stringSize_0f7a4_15 rfl rfl ?_
    refine jn_r (fun J => ∀ (_u : Unit), J _u = some a → wx_ G X N ad ce μ 0 0 42 [(1, .int (iI x1_11))] []) h (fun _ h => ?_) (fun J42 K42 h => ?_)
    · refine xx_bipush C 44 rfl dJ6_stringSize_0f7a4_42 (by decide) ?_
      refine xx_iload_n C 45 rfl 0 dJ6_stringSize_0f7a4_44 rfl rfl ?_
      refine xx_iadd C 46 rfl dJ6_stringSize_0f7a4_45 ?_
      exact xx_iretp C E rfl ⟨Nat.le_of_ble_eq_true rfl, Nat.le_of_ble_eq_true rfl⟩ dJ6_stringSize_0f7a4_46 h
    · refine jn_r (fun J => ∀ (x3_27 : Int), J x3_27 = some a → wx_ G X N ad ce μ 0 0 27 [(1, .int (iI x1_11)), (3, .int (iI x3_27))] []) h (fun x3_27 h => ?_) (fun J27 K27 h => ?_)
      · refine xx_iload_n C 28 rfl 1 dJ6_stringSize_0f7a4_27 rfl rfl ?_
        refine xx_iload_n C 29 rfl 0 dJ6_stringSize_0f7a4_28 rfl rfl ?_
        refine xx_iadd C 30 rfl dJ6_stringSize_0f7a4_29 ?_
        exact xx_iretp C E rfl ⟨Nat.le_of_ble_eq_true rfl, Nat.le_of_ble_eq_true rfl⟩ dJ6_stringSize_0f7a4_30 h
      · have L16 : ∀ (fu16 : Nat) (x2_16 : Int) (x3_16 : Int), f_J6_stringSize_0f7a4_L16 J27 J42 x0_11 fu16 x2_16 x3_16 = some a → wx_ G X N ad ce μ 0 0 16 [(0, .int (iI x0_11)), (1, .int (iI x1_11)), (2, .int (iI x2_16)), (3, .int (iI x3_16))] [] := by
          intro fu16
          induction fu16 with
          | zero => intro x2_16 x3_16 h; exact nn_ h
          | succ fu16 K16 =>
            intro x2_16 x3_16 h
            rw [f_J6_stringSize_0f7a4_L16] at h
            generalize f_J6_stringSize_0f7a4_L16 J27 J42 x0_11 fu16 = R16 at K16 h
            refine xx_iload_n C 17 rfl 3 dJ6_stringSize_0f7a4_16 rfl rfl ?_
            refine xx_bipush C 19 rfl dJ6_stringSize_0f7a4_17 (by decide) ?_
            refine xx_icmp_ge (tgt := 42) C 22 rfl dJ6_stringSize_0f7a4_19 (by decide) h (fun h => ?_) (fun h => ?_)
            · refine xx_sub [1] rfl ?_
              exact K42 () h
            · refine xx_iload_n C 23 rfl 0 dJ6_stringSize_0f7a4_22 rfl rfl ?_
              refine xx_iload_n C 24 rfl 2 dJ6_stringSize_0f7a4_23 rfl rfl ?_
              refine xx_icmp_le (tgt := 31) C 27 rfl dJ6_stringSize_0f7a4_24 (by decide) h (fun h => ?_) (fun h => ?_)
              · refine xx_bipush C 33 rfl dJ6_stringSize_0f7a4_31 (by decide) ?_
                refine xx_iload_n C 34 rfl 2 dJ6_stringSize_0f7a4_33 rfl rfl ?_
                refine xx_imul C 35 rfl dJ6_stringSize_0f7a4_34 ?_
                refine xx_nm C h (fun n35 h => ?_)
                refine xx_istore_n (lv1 := [(2, .int (iI n35)), (0, .int (iI x0_11)), (1, .int (iI x1_11)), (3, .int (iI x3_16))]) C 36 rfl (by decide) dJ6_stringSize_0f7a4_35 rfl rfl ?_
                refine xx_iincn C 39 rfl 3 (by decide) dJ6_stringSize_0f7a4_36 rfl h (fun n36 h => ?_)
                refine xx_lv (lv1 := [(3, .int (iI n36)), (2, .int (iI n35)), (0, .int (iI x0_11)), (1, .int (iI x1_11))]) rfl ?_
                refine xx_goto C 16 dJ6_stringSize_0f7a4_39 (by decide) ?_
                refine xx_sub [2, 3, 1, 0] rfl ?_
                exact K16 n35 n36 h
              · refine xx_sub [1, 3] rfl ?_
                exact K27 x3_16 h
        refine xx_sub [2, 3, 1, 0] rfl ?_
        exact L16 _ _ _ h
  · refine xx_if_lt (tgt := 11) C 6 rfl dJ6_stringSize_0f7a4_3 (by decide) h (fun h => ?_) (fun h => ?_)
    · refine xx_sub [1, 0] rfl ?_
      exact K11 a0 1 h
    · refine xx_iconst C 7 rfl dJ6_stringSize_0f7a4_6 ?_
      refine xx_istore_n (lv1 := [(1, .int (iI 0)), (0, .int (iI a0))]) C 8 rfl (by decide) dJ6_stringSize_0f7a4_7 rfl rfl ?_
      refine xx_iload_n C 9 rfl 1 dJ6_stringSize_0f7a4_8 rfl rfl ?_
      refine xx_ineg C 10 rfl dJ6_stringSize_0f7a4_9 ?_
      refine xx_nm C h (fun n10 h => ?_)
      refine xx_istore_n (lv1 := [(0, .int (iI n10)), (1, .int (iI 0))]) C 11 rfl (by decide) dJ6_stringSize_0f7a4_10 rfl rfl ?_
      exact K11 n10 0 h

def f_J1_canEncode_fc78d (μ : mu_T) (a0 : Int) : Option Int :=
  lt_ 255 a0
      (some 0)
      (some 1)
set_option maxHeartbeats 4000000 in
set_option maxRecDepth 100000 in
theorem c_J1_canEncode_fc78d {G : gp_} {N : Nat} {ce : Nat → (Int → Int) → va_E} {ad : Nat → Nat} (μ : mu_T) (a0 : Int) (a : Int) (h : f_J1_canEncode_fc78d μ a0 = some a) : mi_ yJ1_canEncode_fc78d cJ1_canEncode_fc78d 1 (some .boolean) ({ frames := 0, cells := 0, slots := 0, locals := 0 } : Room) G N ad ce [.int (iI a0)] μ a μ := by
  refine mi_in (own := "java/lang/StringLatin1") (lv := [(0, .int (iI a0))]) (by decide) rfl rfl (Nat.le_of_ble_eq_true rfl) (fun X C E => ?_)
  unfold f_J1_canEncode_fc78d at h
  refine xx_iload_n C 1 rfl 0 dJ1_canEncode_fc78d_0 rfl rfl ?_
  refine xx_sipush C 4 rfl dJ1_canEncode_fc78d_1 (by decide) ?_
  refine xx_icmp_gt (tgt := 11) C 7 rfl dJ1_canEncode_fc78d_4 (by decide) h (fun h => ?_) (fun h => ?_)
  · refine xx_iconst C 12 rfl dJ1_canEncode_fc78d_11 ?_
    exact xx_zretl C E rfl rfl ⟨Nat.le_of_ble_eq_true rfl, Nat.le_of_ble_eq_true rfl⟩ dJ1_canEncode_fc78d_12 h
  · refine xx_iconst C 8 rfl dJ1_canEncode_fc78d_7 ?_
    refine xx_goto C 12 dJ1_canEncode_fc78d_8 (by decide) ?_
    exact xx_zretl C E rfl rfl ⟨Nat.le_of_ble_eq_true rfl, Nat.le_of_ble_eq_true rfl⟩ dJ1_canEncode_fc78d_12 h

def f_Jx29ce0_ordinal_8abf5 (μ : mu_T) (a0 : Int) : Option Int :=
  gd_ (0 ≤ a0 ∧ a0 < 10) (some a0)
set_option maxHeartbeats 4000000 in
set_option maxRecDepth 100000 in
theorem c_Jx29ce0_ordinal_8abf5 {G : gp_} {N : Nat} {ce : Nat → (Int → Int) → va_E} {ad : Nat → Nat} (μ : mu_T) (a0 : Int) (a : Int) (h : f_Jx29ce0_ordinal_8abf5 μ a0 = some a) : mi_ yJx29ce0_ordinal_8abf5 cJx29ce0_ordinal_8abf5 1 (some .int) ({ frames := 0, cells := 0, slots := 0, locals := 0 } : Room) G N ad ce [.ref (G.2.1 (100 + (a0 : Int).toNat))] μ a μ := by
  refine mi_in (own := "java/lang/Enum") (lv := [(0, .ref (G.2.1 (100 + (a0 : Int).toNat)))]) (by decide) rfl rfl (Nat.le_of_ble_eq_true rfl) (fun X C E => ?_)
  unfold f_Jx29ce0_ordinal_8abf5 at h
  refine xx_aload_n C 1 rfl 0 dJx29ce0_ordinal_8abf5_0 rfl rfl ?_
  refine xx_ord C 4 rfl w_1604 dJx29ce0_ordinal_8abf5_1 h (fun h => ?_)
  exact xx_iretp C E rfl ⟨Nat.le_of_ble_eq_true rfl, Nat.le_of_ble_eq_true rfl⟩ dJx29ce0_ordinal_8abf5_4 h
end
