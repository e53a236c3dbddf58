section
-- ===== PART A: goes FIRST, ahead of the names: the tables' words, and 'selects' of the private methods out of them =====
/-- a private method of a class that the tables say can be made, by its rows of tables_1 -/
def lw_okq (q : MethodName × Nat) : Prop := (q.1.cls ≠ "java/lang/invoke/MethodHandle" ∧ q.1.cls ≠ "java/lang/invoke/VarHandle") ∧ Cond.instantiable q.1.cls q.2 ∈ tables_1 ∧ Cond.privateMethod q.1 ∈ tables_1 ∧ Cond.instanceMethod q.1 ∈ tables_1
theorem lw_p0 : lw_okq (⟨"GlassWires", "renew", "()V"⟩, 11) := ⟨⟨by decide +kernel, by decide +kernel⟩, List.mem_of_getElem? (i := 17) (by decide +kernel), List.mem_of_getElem? (i := 299) (by decide +kernel), List.mem_of_getElem? (i := 300) (by decide +kernel)⟩
theorem lw_p1 : lw_okq (⟨"GlassWires$Net", "put", "(I)V"⟩, 11) := ⟨⟨by decide +kernel, by decide +kernel⟩, List.mem_of_getElem? (i := 94) (by decide +kernel), List.mem_of_getElem? (i := 318) (by decide +kernel), List.mem_of_getElem? (i := 319) (by decide +kernel)⟩
theorem lw_p2 : lw_okq (⟨"GlassWires$Net", "comeTo", "(II)V"⟩, 11) := ⟨⟨by decide +kernel, by decide +kernel⟩, List.mem_of_getElem? (i := 94) (by decide +kernel), List.mem_of_getElem? (i := 326) (by decide +kernel), List.mem_of_getElem? (i := 327) (by decide +kernel)⟩
theorem lw_p3 : lw_okq (⟨"GlassWires$Net", "goAlong", "(II)V"⟩, 11) := ⟨⟨by decide +kernel, by decide +kernel⟩, List.mem_of_getElem? (i := 94) (by decide +kernel), List.mem_of_getElem? (i := 338) (by decide +kernel), List.mem_of_getElem? (i := 339) (by decide +kernel)⟩
theorem lw_p4 : lw_okq (⟨"GlassWires$Net", "holdWires", "()V"⟩, 11) := ⟨⟨by decide +kernel, by decide +kernel⟩, List.mem_of_getElem? (i := 94) (by decide +kernel), List.mem_of_getElem? (i := 349) (by decide +kernel), List.mem_of_getElem? (i := 350) (by decide +kernel)⟩
theorem lw_p5 : lw_okq (⟨"GlassWires$Net", "isHeldNow", "(I)Z"⟩, 11) := ⟨⟨by decide +kernel, by decide +kernel⟩, List.mem_of_getElem? (i := 94) (by decide +kernel), List.mem_of_getElem? (i := 353) (by decide +kernel), List.mem_of_getElem? (i := 354) (by decide +kernel)⟩
theorem lw_p6 : lw_okq (⟨"GlassWires$Net", "hold", "(I)V"⟩, 11) := ⟨⟨by decide +kernel, by decide +kernel⟩, List.mem_of_getElem? (i := 94) (by decide +kernel), List.mem_of_getElem? (i := 361) (by decide +kernel), List.mem_of_getElem? (i := 362) (by decide +kernel)⟩
theorem lw_p7 : lw_okq (⟨"GlassWires$Cells", "spread", "(I)I"⟩, 6) := ⟨⟨by decide +kernel, by decide +kernel⟩, List.mem_of_getElem? (i := 134) (by decide +kernel), List.mem_of_getElem? (i := 374) (by decide +kernel), List.mem_of_getElem? (i := 375) (by decide +kernel)⟩
theorem lw_p8 : lw_okq (⟨"GlassWires$Wires", "trace", "(ILGlassWires$Page;II)V"⟩, 8) := ⟨⟨by decide +kernel, by decide +kernel⟩, List.mem_of_getElem? (i := 62) (by decide +kernel), List.mem_of_getElem? (i := 532) (by decide +kernel), List.mem_of_getElem? (i := 533) (by decide +kernel)⟩
theorem lw_p9 : lw_okq (⟨"GlassWires$Wires", "wentAlong", "(III)Z"⟩, 8) := ⟨⟨by decide +kernel, by decide +kernel⟩, List.mem_of_getElem? (i := 62) (by decide +kernel), List.mem_of_getElem? (i := 541) (by decide +kernel), List.mem_of_getElem? (i := 542) (by decide +kernel)⟩
theorem lw_p10 : lw_okq (⟨"GlassWires$Net", "isPlace", "(III)Z"⟩, 11) := ⟨⟨by decide +kernel, by decide +kernel⟩, List.mem_of_getElem? (i := 94) (by decide +kernel), List.mem_of_getElem? (i := 625) (by decide +kernel), List.mem_of_getElem? (i := 626) (by decide +kernel)⟩
theorem lw_p11 : lw_okq (⟨"GlassWires$Net", "edgesMeeting", "(II)I"⟩, 11) := ⟨⟨by decide +kernel, by decide +kernel⟩, List.mem_of_getElem? (i := 94) (by decide +kernel), List.mem_of_getElem? (i := 634) (by decide +kernel), List.mem_of_getElem? (i := 635) (by decide +kernel)⟩
theorem lw_p12 : lw_okq (⟨"GlassWires$Net", "isCovered", "(III)Z"⟩, 11) := ⟨⟨by decide +kernel, by decide +kernel⟩, List.mem_of_getElem? (i := 94) (by decide +kernel), List.mem_of_getElem? (i := 638) (by decide +kernel), List.mem_of_getElem? (i := 639) (by decide +kernel)⟩
theorem lw_p13 : lw_okq (⟨"GlassWires$Net", "oddPoints", "(II)I"⟩, 11) := ⟨⟨by decide +kernel, by decide +kernel⟩, List.mem_of_getElem? (i := 94) (by decide +kernel), List.mem_of_getElem? (i := 659) (by decide +kernel), List.mem_of_getElem? (i := 660) (by decide +kernel)⟩
theorem lw_p14 : lw_okq (⟨"GlassWires$Painter", "findNear", "()V"⟩, 5) := ⟨⟨by decide +kernel, by decide +kernel⟩, List.mem_of_getElem? (i := 159) (by decide +kernel), List.mem_of_getElem? (i := 720) (by decide +kernel), List.mem_of_getElem? (i := 721) (by decide +kernel)⟩
theorem lw_p15 : lw_okq (⟨"GlassWires$Glass", "ripen", "(II)Z"⟩, 10) := ⟨⟨by decide +kernel, by decide +kernel⟩, List.mem_of_getElem? (i := 199) (by decide +kernel), List.mem_of_getElem? (i := 842) (by decide +kernel), List.mem_of_getElem? (i := 843) (by decide +kernel)⟩
def lw_privs_1 : List (MethodName × Nat) := [(⟨"GlassWires", "renew", "()V"⟩, 11), (⟨"GlassWires$Net", "put", "(I)V"⟩, 11), (⟨"GlassWires$Net", "comeTo", "(II)V"⟩, 11), (⟨"GlassWires$Net", "goAlong", "(II)V"⟩, 11), (⟨"GlassWires$Net", "holdWires", "()V"⟩, 11), (⟨"GlassWires$Net", "isHeldNow", "(I)Z"⟩, 11), (⟨"GlassWires$Net", "hold", "(I)V"⟩, 11), (⟨"GlassWires$Cells", "spread", "(I)I"⟩, 6), (⟨"GlassWires$Wires", "trace", "(ILGlassWires$Page;II)V"⟩, 8), (⟨"GlassWires$Wires", "wentAlong", "(III)Z"⟩, 8), (⟨"GlassWires$Net", "isPlace", "(III)Z"⟩, 11), (⟨"GlassWires$Net", "edgesMeeting", "(II)I"⟩, 11), (⟨"GlassWires$Net", "isCovered", "(III)Z"⟩, 11), (⟨"GlassWires$Net", "oddPoints", "(II)I"⟩, 11), (⟨"GlassWires$Painter", "findNear", "()V"⟩, 5), (⟨"GlassWires$Glass", "ripen", "(II)Z"⟩, 10)]
theorem lw_r1 : ∀ q ∈ lw_privs_1, lw_okq q := List.forall_mem_cons.mpr ⟨lw_p0, List.forall_mem_cons.mpr ⟨lw_p1, List.forall_mem_cons.mpr ⟨lw_p2, List.forall_mem_cons.mpr ⟨lw_p3, List.forall_mem_cons.mpr ⟨lw_p4, List.forall_mem_cons.mpr ⟨lw_p5, List.forall_mem_cons.mpr ⟨lw_p6, List.forall_mem_cons.mpr ⟨lw_p7, List.forall_mem_cons.mpr ⟨lw_p8, List.forall_mem_cons.mpr ⟨lw_p9, List.forall_mem_cons.mpr ⟨lw_p10, List.forall_mem_cons.mpr ⟨lw_p11, List.forall_mem_cons.mpr ⟨lw_p12, List.forall_mem_cons.mpr ⟨lw_p13, List.forall_mem_cons.mpr ⟨lw_p14, List.forall_mem_cons.mpr ⟨lw_p15, fun _ h => absurd h List.not_mem_nil⟩⟩⟩⟩⟩⟩⟩⟩⟩⟩⟩⟩⟩⟩⟩⟩
theorem lw_p16 : lw_okq (⟨"GlassWires$Glass", "burn", "(II)V"⟩, 10) := ⟨⟨by decide +kernel, by decide +kernel⟩, List.mem_of_getElem? (i := 199) (by decide +kernel), List.mem_of_getElem? (i := 855) (by decide +kernel), List.mem_of_getElem? (i := 856) (by decide +kernel)⟩
theorem lw_p17 : lw_okq (⟨"GlassWires$Glass", "runOver", "()V"⟩, 10) := ⟨⟨by decide +kernel, by decide +kernel⟩, List.mem_of_getElem? (i := 199) (by decide +kernel), List.mem_of_getElem? (i := 864) (by decide +kernel), List.mem_of_getElem? (i := 865) (by decide +kernel)⟩
theorem lw_p18 : lw_okq (⟨"GlassWires$Glass", "canRunOver", "(I)Z"⟩, 10) := ⟨⟨by decide +kernel, by decide +kernel⟩, List.mem_of_getElem? (i := 199) (by decide +kernel), List.mem_of_getElem? (i := 873) (by decide +kernel), List.mem_of_getElem? (i := 874) (by decide +kernel)⟩
theorem lw_p19 : lw_okq (⟨"GlassWires$Glass", "takeFromUpmost", "(II)I"⟩, 10) := ⟨⟨by decide +kernel, by decide +kernel⟩, List.mem_of_getElem? (i := 199) (by decide +kernel), List.mem_of_getElem? (i := 880) (by decide +kernel), List.mem_of_getElem? (i := 881) (by decide +kernel)⟩
theorem lw_p20 : lw_okq (⟨"GlassWires$Glass", "upmost", "(I)I"⟩, 10) := ⟨⟨by decide +kernel, by decide +kernel⟩, List.mem_of_getElem? (i := 199) (by decide +kernel), List.mem_of_getElem? (i := 884) (by decide +kernel), List.mem_of_getElem? (i := 885) (by decide +kernel)⟩
theorem lw_p21 : lw_okq (⟨"GlassWires$Glass", "bleeds", "(II)Z"⟩, 10) := ⟨⟨by decide +kernel, by decide +kernel⟩, List.mem_of_getElem? (i := 199) (by decide +kernel), List.mem_of_getElem? (i := 913) (by decide +kernel), List.mem_of_getElem? (i := 914) (by decide +kernel)⟩
theorem lw_p22 : lw_okq (⟨"GlassWires$Plan", "coolest", "(I)I"⟩, 4) := ⟨⟨by decide +kernel, by decide +kernel⟩, List.mem_of_getElem? (i := 236) (by decide +kernel), List.mem_of_getElem? (i := 947) (by decide +kernel), List.mem_of_getElem? (i := 948) (by decide +kernel)⟩
theorem lw_p23 : lw_okq (⟨"GlassWires$Plan", "serve", "(II)V"⟩, 4) := ⟨⟨by decide +kernel, by decide +kernel⟩, List.mem_of_getElem? (i := 236) (by decide +kernel), List.mem_of_getElem? (i := 953) (by decide +kernel), List.mem_of_getElem? (i := 954) (by decide +kernel)⟩
theorem lw_p24 : lw_okq (⟨"GlassWires$Tension", "pullOfBack", "(II)I"⟩, 5) := ⟨⟨by decide +kernel, by decide +kernel⟩, List.mem_of_getElem? (i := 255) (by decide +kernel), List.mem_of_getElem? (i := 989) (by decide +kernel), List.mem_of_getElem? (i := 990) (by decide +kernel)⟩
theorem lw_p25 : lw_okq (⟨"GlassWires$Tension", "bowBetween", "(II)I"⟩, 5) := ⟨⟨by decide +kernel, by decide +kernel⟩, List.mem_of_getElem? (i := 255) (by decide +kernel), List.mem_of_getElem? (i := 1005) (by decide +kernel), List.mem_of_getElem? (i := 1006) (by decide +kernel)⟩
theorem lw_p26 : lw_okq (⟨"GlassWires$Tension", "longestStep", "(I)I"⟩, 5) := ⟨⟨by decide +kernel, by decide +kernel⟩, List.mem_of_getElem? (i := 255) (by decide +kernel), List.mem_of_getElem? (i := 1049) (by decide +kernel), List.mem_of_getElem? (i := 1050) (by decide +kernel)⟩
theorem lw_p27 : lw_okq (⟨"GlassWires$Glass", "bearableHeat", "(I)I"⟩, 10) := ⟨⟨by decide +kernel, by decide +kernel⟩, List.mem_of_getElem? (i := 199) (by decide +kernel), List.mem_of_getElem? (i := 1077) (by decide +kernel), List.mem_of_getElem? (i := 1078) (by decide +kernel)⟩
theorem lw_p28 : lw_okq (⟨"GlassWires$Rods", "leastCost", "(LGlassWires$Wires;)I"⟩, 5) := ⟨⟨by decide +kernel, by decide +kernel⟩, List.mem_of_getElem? (i := 277) (by decide +kernel), List.mem_of_getElem? (i := 1110) (by decide +kernel), List.mem_of_getElem? (i := 1111) (by decide +kernel)⟩
theorem lw_p29 : lw_okq (⟨"GlassWires$Rods", "addUpLengths", "(LGlassWires$Wires;)V"⟩, 5) := ⟨⟨by decide +kernel, by decide +kernel⟩, List.mem_of_getElem? (i := 277) (by decide +kernel), List.mem_of_getElem? (i := 1119) (by decide +kernel), List.mem_of_getElem? (i := 1120) (by decide +kernel)⟩
theorem lw_p30 : lw_okq (⟨"GlassWires$Rods", "useRod", "(II)Z"⟩, 5) := ⟨⟨by decide +kernel, by decide +kernel⟩, List.mem_of_getElem? (i := 277) (by decide +kernel), List.mem_of_getElem? (i := 1128) (by decide +kernel), List.mem_of_getElem? (i := 1129) (by decide +kernel)⟩
theorem lw_p31 : lw_okq (⟨"GlassWiresModel", "begin", "(II)V"⟩, 44) := ⟨⟨by decide +kernel, by decide +kernel⟩, List.mem_of_getElem? (i := 1197) (by decide +kernel), List.mem_of_getElem? (i := 1203) (by decide +kernel), List.mem_of_getElem? (i := 1204) (by decide +kernel)⟩
def lw_privs_2 : List (MethodName × Nat) := [(⟨"GlassWires$Glass", "burn", "(II)V"⟩, 10), (⟨"GlassWires$Glass", "runOver", "()V"⟩, 10), (⟨"GlassWires$Glass", "canRunOver", "(I)Z"⟩, 10), (⟨"GlassWires$Glass", "takeFromUpmost", "(II)I"⟩, 10), (⟨"GlassWires$Glass", "upmost", "(I)I"⟩, 10), (⟨"GlassWires$Glass", "bleeds", "(II)Z"⟩, 10), (⟨"GlassWires$Plan", "coolest", "(I)I"⟩, 4), (⟨"GlassWires$Plan", "serve", "(II)V"⟩, 4), (⟨"GlassWires$Tension", "pullOfBack", "(II)I"⟩, 5), (⟨"GlassWires$Tension", "bowBetween", "(II)I"⟩, 5), (⟨"GlassWires$Tension", "longestStep", "(I)I"⟩, 5), (⟨"GlassWires$Glass", "bearableHeat", "(I)I"⟩, 10), (⟨"GlassWires$Rods", "leastCost", "(LGlassWires$Wires;)I"⟩, 5), (⟨"GlassWires$Rods", "addUpLengths", "(LGlassWires$Wires;)V"⟩, 5), (⟨"GlassWires$Rods", "useRod", "(II)Z"⟩, 5), (⟨"GlassWiresModel", "begin", "(II)V"⟩, 44)]
theorem lw_r2 : ∀ q ∈ lw_privs_2, lw_okq q := List.forall_mem_cons.mpr ⟨lw_p16, List.forall_mem_cons.mpr ⟨lw_p17, List.forall_mem_cons.mpr ⟨lw_p18, List.forall_mem_cons.mpr ⟨lw_p19, List.forall_mem_cons.mpr ⟨lw_p20, List.forall_mem_cons.mpr ⟨lw_p21, List.forall_mem_cons.mpr ⟨lw_p22, List.forall_mem_cons.mpr ⟨lw_p23, List.forall_mem_cons.mpr ⟨lw_p24, List.forall_mem_cons.mpr ⟨lw_p25, List.forall_mem_cons.mpr ⟨lw_p26, List.forall_mem_cons.mpr ⟨lw_p27, List.forall_mem_cons.mpr ⟨lw_p28, List.forall_mem_cons.mpr ⟨lw_p29, List.forall_mem_cons.mpr ⟨lw_p30, List.forall_mem_cons.mpr ⟨lw_p31, fun _ h => absurd h List.not_mem_nil⟩⟩⟩⟩⟩⟩⟩⟩⟩⟩⟩⟩⟩⟩⟩⟩
theorem lw_p32 : lw_okq (⟨"GlassWiresModel", "isPoint", "(II)Z"⟩, 44) := ⟨⟨by decide +kernel, by decide +kernel⟩, List.mem_of_getElem? (i := 1197) (by decide +kernel), List.mem_of_getElem? (i := 1362) (by decide +kernel), List.mem_of_getElem? (i := 1363) (by decide +kernel)⟩
theorem lw_p33 : lw_okq (⟨"GlassWiresModel", "goodOf", "(II)I"⟩, 44) := ⟨⟨by decide +kernel, by decide +kernel⟩, List.mem_of_getElem? (i := 1197) (by decide +kernel), List.mem_of_getElem? (i := 1366) (by decide +kernel), List.mem_of_getElem? (i := 1367) (by decide +kernel)⟩
theorem lw_p34 : lw_okq (⟨"GlassWiresModel", "isWire", "(I)Z"⟩, 44) := ⟨⟨by decide +kernel, by decide +kernel⟩, List.mem_of_getElem? (i := 1197) (by decide +kernel), List.mem_of_getElem? (i := 1384) (by decide +kernel), List.mem_of_getElem? (i := 1385) (by decide +kernel)⟩
theorem lw_p35 : lw_okq (⟨"GlassWiresModel", "bendsOf", "(I)I"⟩, 44) := ⟨⟨by decide +kernel, by decide +kernel⟩, List.mem_of_getElem? (i := 1197) (by decide +kernel), List.mem_of_getElem? (i := 1396) (by decide +kernel), List.mem_of_getElem? (i := 1397) (by decide +kernel)⟩
theorem lw_p36 : lw_okq (⟨"GlassWiresModel", "stands", "(I)Z"⟩, 44) := ⟨⟨by decide +kernel, by decide +kernel⟩, List.mem_of_getElem? (i := 1197) (by decide +kernel), List.mem_of_getElem? (i := 1400) (by decide +kernel), List.mem_of_getElem? (i := 1401) (by decide +kernel)⟩
theorem lw_p37 : lw_okq (⟨"GlassWiresModel", "edgesOf", "(I)I"⟩, 44) := ⟨⟨by decide +kernel, by decide +kernel⟩, List.mem_of_getElem? (i := 1197) (by decide +kernel), List.mem_of_getElem? (i := 1404) (by decide +kernel), List.mem_of_getElem? (i := 1405) (by decide +kernel)⟩
theorem lw_p38 : lw_okq (⟨"GlassWiresModel", "hasEdge", "(II)Z"⟩, 44) := ⟨⟨by decide +kernel, by decide +kernel⟩, List.mem_of_getElem? (i := 1197) (by decide +kernel), List.mem_of_getElem? (i := 1408) (by decide +kernel), List.mem_of_getElem? (i := 1409) (by decide +kernel)⟩
theorem lw_p39 : lw_okq (⟨"GlassWiresModel", "edgeOf", "(II)I"⟩, 44) := ⟨⟨by decide +kernel, by decide +kernel⟩, List.mem_of_getElem? (i := 1197) (by decide +kernel), List.mem_of_getElem? (i := 1412) (by decide +kernel), List.mem_of_getElem? (i := 1413) (by decide +kernel)⟩
theorem lw_p40 : lw_okq (⟨"GlassWiresModel", "findHolds", "()V"⟩, 44) := ⟨⟨by decide +kernel, by decide +kernel⟩, List.mem_of_getElem? (i := 1197) (by decide +kernel), List.mem_of_getElem? (i := 1416) (by decide +kernel), List.mem_of_getElem? (i := 1417) (by decide +kernel)⟩
theorem lw_p41 : lw_okq (⟨"GlassWiresModel", "touch", "(II)Z"⟩, 44) := ⟨⟨by decide +kernel, by decide +kernel⟩, List.mem_of_getElem? (i := 1197) (by decide +kernel), List.mem_of_getElem? (i := 1420) (by decide +kernel), List.mem_of_getElem? (i := 1421) (by decide +kernel)⟩
theorem lw_p42 : lw_okq (⟨"GlassWiresModel", "comesTo", "(III)Z"⟩, 44) := ⟨⟨by decide +kernel, by decide +kernel⟩, List.mem_of_getElem? (i := 1197) (by decide +kernel), List.mem_of_getElem? (i := 1424) (by decide +kernel), List.mem_of_getElem? (i := 1425) (by decide +kernel)⟩
theorem lw_p43 : lw_okq (⟨"GlassWiresModel", "isEdge", "(III)Z"⟩, 44) := ⟨⟨by decide +kernel, by decide +kernel⟩, List.mem_of_getElem? (i := 1197) (by decide +kernel), List.mem_of_getElem? (i := 1436) (by decide +kernel), List.mem_of_getElem? (i := 1437) (by decide +kernel)⟩
theorem lw_p44 : lw_okq (⟨"GlassWiresModel", "coversOf", "(I)I"⟩, 44) := ⟨⟨by decide +kernel, by decide +kernel⟩, List.mem_of_getElem? (i := 1197) (by decide +kernel), List.mem_of_getElem? (i := 1443) (by decide +kernel), List.mem_of_getElem? (i := 1444) (by decide +kernel)⟩
theorem lw_p45 : lw_okq (⟨"GlassWiresModel", "findCells", "()V"⟩, 44) := ⟨⟨by decide +kernel, by decide +kernel⟩, List.mem_of_getElem? (i := 1197) (by decide +kernel), List.mem_of_getElem? (i := 1451) (by decide +kernel), List.mem_of_getElem? (i := 1452) (by decide +kernel)⟩
theorem lw_p46 : lw_okq (⟨"GlassWiresModel", "findCover", "()V"⟩, 44) := ⟨⟨by decide +kernel, by decide +kernel⟩, List.mem_of_getElem? (i := 1197) (by decide +kernel), List.mem_of_getElem? (i := 1455) (by decide +kernel), List.mem_of_getElem? (i := 1456) (by decide +kernel)⟩
theorem lw_p47 : lw_okq (⟨"GlassWiresModel", "fields", "()I"⟩, 44) := ⟨⟨by decide +kernel, by decide +kernel⟩, List.mem_of_getElem? (i := 1197) (by decide +kernel), List.mem_of_getElem? (i := 1459) (by decide +kernel), List.mem_of_getElem? (i := 1460) (by decide +kernel)⟩
def lw_privs_3 : List (MethodName × Nat) := [(⟨"GlassWiresModel", "isPoint", "(II)Z"⟩, 44), (⟨"GlassWiresModel", "goodOf", "(II)I"⟩, 44), (⟨"GlassWiresModel", "isWire", "(I)Z"⟩, 44), (⟨"GlassWiresModel", "bendsOf", "(I)I"⟩, 44), (⟨"GlassWiresModel", "stands", "(I)Z"⟩, 44), (⟨"GlassWiresModel", "edgesOf", "(I)I"⟩, 44), (⟨"GlassWiresModel", "hasEdge", "(II)Z"⟩, 44), (⟨"GlassWiresModel", "edgeOf", "(II)I"⟩, 44), (⟨"GlassWiresModel", "findHolds", "()V"⟩, 44), (⟨"GlassWiresModel", "touch", "(II)Z"⟩, 44), (⟨"GlassWiresModel", "comesTo", "(III)Z"⟩, 44), (⟨"GlassWiresModel", "isEdge", "(III)Z"⟩, 44), (⟨"GlassWiresModel", "coversOf", "(I)I"⟩, 44), (⟨"GlassWiresModel", "findCells", "()V"⟩, 44), (⟨"GlassWiresModel", "findCover", "()V"⟩, 44), (⟨"GlassWiresModel", "fields", "()I"⟩, 44)]
theorem lw_r3 : ∀ q ∈ lw_privs_3, lw_okq q := List.forall_mem_cons.mpr ⟨lw_p32, List.forall_mem_cons.mpr ⟨lw_p33, List.forall_mem_cons.mpr ⟨lw_p34, List.forall_mem_cons.mpr ⟨lw_p35, List.forall_mem_cons.mpr ⟨lw_p36, List.forall_mem_cons.mpr ⟨lw_p37, List.forall_mem_cons.mpr ⟨lw_p38, List.forall_mem_cons.mpr ⟨lw_p39, List.forall_mem_cons.mpr ⟨lw_p40, List.forall_mem_cons.mpr ⟨lw_p41, List.forall_mem_cons.mpr ⟨lw_p42, List.forall_mem_cons.mpr ⟨lw_p43, List.forall_mem_cons.mpr ⟨lw_p44, List.forall_mem_cons.mpr ⟨lw_p45, List.forall_mem_cons.mpr ⟨lw_p46, List.forall_mem_cons.mpr ⟨lw_p47, fun _ h => absurd h List.not_mem_nil⟩⟩⟩⟩⟩⟩⟩⟩⟩⟩⟩⟩⟩⟩⟩⟩
theorem lw_p48 : lw_okq (⟨"GlassWiresModel", "beside", "(II)I"⟩, 44) := ⟨⟨by decide +kernel, by decide +kernel⟩, List.mem_of_getElem? (i := 1197) (by decide +kernel), List.mem_of_getElem? (i := 1463) (by decide +kernel), List.mem_of_getElem? (i := 1464) (by decide +kernel)⟩
theorem lw_p49 : lw_okq (⟨"GlassWiresModel", "between", "(II)I"⟩, 44) := ⟨⟨by decide +kernel, by decide +kernel⟩, List.mem_of_getElem? (i := 1197) (by decide +kernel), List.mem_of_getElem? (i := 1467) (by decide +kernel), List.mem_of_getElem? (i := 1468) (by decide +kernel)⟩
theorem lw_p50 : lw_okq (⟨"GlassWiresModel", "isFree", "(II)Z"⟩, 44) := ⟨⟨by decide +kernel, by decide +kernel⟩, List.mem_of_getElem? (i := 1197) (by decide +kernel), List.mem_of_getElem? (i := 1471) (by decide +kernel), List.mem_of_getElem? (i := 1472) (by decide +kernel)⟩
theorem lw_p51 : lw_okq (⟨"GlassWiresModel", "meet", "(II)I"⟩, 44) := ⟨⟨by decide +kernel, by decide +kernel⟩, List.mem_of_getElem? (i := 1197) (by decide +kernel), List.mem_of_getElem? (i := 1475) (by decide +kernel), List.mem_of_getElem? (i := 1476) (by decide +kernel)⟩
theorem lw_p52 : lw_okq (⟨"GlassWiresModel", "coverAt", "(III)I"⟩, 44) := ⟨⟨by decide +kernel, by decide +kernel⟩, List.mem_of_getElem? (i := 1197) (by decide +kernel), List.mem_of_getElem? (i := 1479) (by decide +kernel), List.mem_of_getElem? (i := 1480) (by decide +kernel)⟩
theorem lw_p53 : lw_okq (⟨"GlassWiresModel", "isJoint", "(II)Z"⟩, 44) := ⟨⟨by decide +kernel, by decide +kernel⟩, List.mem_of_getElem? (i := 1197) (by decide +kernel), List.mem_of_getElem? (i := 1483) (by decide +kernel), List.mem_of_getElem? (i := 1484) (by decide +kernel)⟩
theorem lw_p54 : lw_okq (⟨"GlassWiresModel", "pieces", "()I"⟩, 44) := ⟨⟨by decide +kernel, by decide +kernel⟩, List.mem_of_getElem? (i := 1197) (by decide +kernel), List.mem_of_getElem? (i := 1487) (by decide +kernel), List.mem_of_getElem? (i := 1488) (by decide +kernel)⟩
theorem lw_p55 : lw_okq (⟨"GlassWiresModel", "sizeOf", "(I)I"⟩, 44) := ⟨⟨by decide +kernel, by decide +kernel⟩, List.mem_of_getElem? (i := 1197) (by decide +kernel), List.mem_of_getElem? (i := 1491) (by decide +kernel), List.mem_of_getElem? (i := 1492) (by decide +kernel)⟩
theorem lw_p56 : lw_okq (⟨"GlassWiresModel", "isField", "(II)Z"⟩, 44) := ⟨⟨by decide +kernel, by decide +kernel⟩, List.mem_of_getElem? (i := 1197) (by decide +kernel), List.mem_of_getElem? (i := 1503) (by decide +kernel), List.mem_of_getElem? (i := 1504) (by decide +kernel)⟩
theorem lw_p57 : lw_okq (⟨"GlassWiresModel", "isCell", "(I)Z"⟩, 44) := ⟨⟨by decide +kernel, by decide +kernel⟩, List.mem_of_getElem? (i := 1197) (by decide +kernel), List.mem_of_getElem? (i := 1511) (by decide +kernel), List.mem_of_getElem? (i := 1512) (by decide +kernel)⟩
theorem lw_p58 : lw_okq (⟨"GlassWiresModel", "listCells", "()V"⟩, 44) := ⟨⟨by decide +kernel, by decide +kernel⟩, List.mem_of_getElem? (i := 1197) (by decide +kernel), List.mem_of_getElem? (i := 1519) (by decide +kernel), List.mem_of_getElem? (i := 1520) (by decide +kernel)⟩
theorem lw_p59 : lw_okq (⟨"GlassWiresModel", "findPaints", "()I"⟩, 44) := ⟨⟨by decide +kernel, by decide +kernel⟩, List.mem_of_getElem? (i := 1197) (by decide +kernel), List.mem_of_getElem? (i := 1523) (by decide +kernel), List.mem_of_getElem? (i := 1524) (by decide +kernel)⟩
theorem lw_p60 : lw_okq (⟨"GlassWiresModel", "placeOf", "(I)I"⟩, 44) := ⟨⟨by decide +kernel, by decide +kernel⟩, List.mem_of_getElem? (i := 1197) (by decide +kernel), List.mem_of_getElem? (i := 1527) (by decide +kernel), List.mem_of_getElem? (i := 1528) (by decide +kernel)⟩
theorem lw_p61 : lw_okq (⟨"GlassWiresModel", "paintBy", "(I)Z"⟩, 44) := ⟨⟨by decide +kernel, by decide +kernel⟩, List.mem_of_getElem? (i := 1197) (by decide +kernel), List.mem_of_getElem? (i := 1531) (by decide +kernel), List.mem_of_getElem? (i := 1532) (by decide +kernel)⟩
theorem lw_p62 : lw_okq (⟨"GlassWiresModel", "clashes", "(I)Z"⟩, 44) := ⟨⟨by decide +kernel, by decide +kernel⟩, List.mem_of_getElem? (i := 1197) (by decide +kernel), List.mem_of_getElem? (i := 1535) (by decide +kernel), List.mem_of_getElem? (i := 1536) (by decide +kernel)⟩
theorem lw_p63 : lw_okq (⟨"GlassWiresModel", "highOf", "(I)I"⟩, 44) := ⟨⟨by decide +kernel, by decide +kernel⟩, List.mem_of_getElem? (i := 1197) (by decide +kernel), List.mem_of_getElem? (i := 1575) (by decide +kernel), List.mem_of_getElem? (i := 1576) (by decide +kernel)⟩
def lw_privs_4 : List (MethodName × Nat) := [(⟨"GlassWiresModel", "beside", "(II)I"⟩, 44), (⟨"GlassWiresModel", "between", "(II)I"⟩, 44), (⟨"GlassWiresModel", "isFree", "(II)Z"⟩, 44), (⟨"GlassWiresModel", "meet", "(II)I"⟩, 44), (⟨"GlassWiresModel", "coverAt", "(III)I"⟩, 44), (⟨"GlassWiresModel", "isJoint", "(II)Z"⟩, 44), (⟨"GlassWiresModel", "pieces", "()I"⟩, 44), (⟨"GlassWiresModel", "sizeOf", "(I)I"⟩, 44), (⟨"GlassWiresModel", "isField", "(II)Z"⟩, 44), (⟨"GlassWiresModel", "isCell", "(I)Z"⟩, 44), (⟨"GlassWiresModel", "listCells", "()V"⟩, 44), (⟨"GlassWiresModel", "findPaints", "()I"⟩, 44), (⟨"GlassWiresModel", "placeOf", "(I)I"⟩, 44), (⟨"GlassWiresModel", "paintBy", "(I)Z"⟩, 44), (⟨"GlassWiresModel", "clashes", "(I)Z"⟩, 44), (⟨"GlassWiresModel", "highOf", "(I)I"⟩, 44)]
theorem lw_r4 : ∀ q ∈ lw_privs_4, lw_okq q := List.forall_mem_cons.mpr ⟨lw_p48, List.forall_mem_cons.mpr ⟨lw_p49, List.forall_mem_cons.mpr ⟨lw_p50, List.forall_mem_cons.mpr ⟨lw_p51, List.forall_mem_cons.mpr ⟨lw_p52, List.forall_mem_cons.mpr ⟨lw_p53, List.forall_mem_cons.mpr ⟨lw_p54, List.forall_mem_cons.mpr ⟨lw_p55, List.forall_mem_cons.mpr ⟨lw_p56, List.forall_mem_cons.mpr ⟨lw_p57, List.forall_mem_cons.mpr ⟨lw_p58, List.forall_mem_cons.mpr ⟨lw_p59, List.forall_mem_cons.mpr ⟨lw_p60, List.forall_mem_cons.mpr ⟨lw_p61, List.forall_mem_cons.mpr ⟨lw_p62, List.forall_mem_cons.mpr ⟨lw_p63, fun _ h => absurd h List.not_mem_nil⟩⟩⟩⟩⟩⟩⟩⟩⟩⟩⟩⟩⟩⟩⟩⟩
theorem lw_p64 : lw_okq (⟨"GlassWiresModel", "runOver", "()V"⟩, 44) := ⟨⟨by decide +kernel, by decide +kernel⟩, List.mem_of_getElem? (i := 1197) (by decide +kernel), List.mem_of_getElem? (i := 1587) (by decide +kernel), List.mem_of_getElem? (i := 1588) (by decide +kernel)⟩
theorem lw_p65 : lw_okq (⟨"GlassWiresModel", "runsTo", "(III)Z"⟩, 44) := ⟨⟨by decide +kernel, by decide +kernel⟩, List.mem_of_getElem? (i := 1197) (by decide +kernel), List.mem_of_getElem? (i := 1591) (by decide +kernel), List.mem_of_getElem? (i := 1592) (by decide +kernel)⟩
theorem lw_p66 : lw_okq (⟨"GlassWiresModel", "takeOff", "(II)I"⟩, 44) := ⟨⟨by decide +kernel, by decide +kernel⟩, List.mem_of_getElem? (i := 1197) (by decide +kernel), List.mem_of_getElem? (i := 1595) (by decide +kernel), List.mem_of_getElem? (i := 1596) (by decide +kernel)⟩
theorem lw_p67 : lw_okq (⟨"GlassWiresModel", "bleeding", "()I"⟩, 44) := ⟨⟨by decide +kernel, by decide +kernel⟩, List.mem_of_getElem? (i := 1197) (by decide +kernel), List.mem_of_getElem? (i := 1607) (by decide +kernel), List.mem_of_getElem? (i := 1608) (by decide +kernel)⟩
theorem lw_p68 : lw_okq (⟨"GlassWiresModel", "top", "(I)I"⟩, 44) := ⟨⟨by decide +kernel, by decide +kernel⟩, List.mem_of_getElem? (i := 1197) (by decide +kernel), List.mem_of_getElem? (i := 1611) (by decide +kernel), List.mem_of_getElem? (i := 1612) (by decide +kernel)⟩
theorem lw_p69 : lw_okq (⟨"GlassWiresModel", "solders", "(I)Z"⟩, 44) := ⟨⟨by decide +kernel, by decide +kernel⟩, List.mem_of_getElem? (i := 1197) (by decide +kernel), List.mem_of_getElem? (i := 1615) (by decide +kernel), List.mem_of_getElem? (i := 1616) (by decide +kernel)⟩
theorem lw_p70 : lw_okq (⟨"GlassWiresModel", "fillsOf", "(I)I"⟩, 44) := ⟨⟨by decide +kernel, by decide +kernel⟩, List.mem_of_getElem? (i := 1197) (by decide +kernel), List.mem_of_getElem? (i := 1623) (by decide +kernel), List.mem_of_getElem? (i := 1624) (by decide +kernel)⟩
theorem lw_p71 : lw_okq (⟨"GlassWiresModel", "findPlan", "(I)V"⟩, 44) := ⟨⟨by decide +kernel, by decide +kernel⟩, List.mem_of_getElem? (i := 1197) (by decide +kernel), List.mem_of_getElem? (i := 1631) (by decide +kernel), List.mem_of_getElem? (i := 1632) (by decide +kernel)⟩
theorem lw_p72 : lw_okq (⟨"GlassWiresModel", "frontPull", "()I"⟩, 44) := ⟨⟨by decide +kernel, by decide +kernel⟩, List.mem_of_getElem? (i := 1197) (by decide +kernel), List.mem_of_getElem? (i := 1647) (by decide +kernel), List.mem_of_getElem? (i := 1648) (by decide +kernel)⟩
theorem lw_p73 : lw_okq (⟨"GlassWiresModel", "bowNow", "()I"⟩, 44) := ⟨⟨by decide +kernel, by decide +kernel⟩, List.mem_of_getElem? (i := 1197) (by decide +kernel), List.mem_of_getElem? (i := 1655) (by decide +kernel), List.mem_of_getElem? (i := 1656) (by decide +kernel)⟩
theorem lw_p74 : lw_okq (⟨"GlassWiresModel", "bowOf", "(II)I"⟩, 44) := ⟨⟨by decide +kernel, by decide +kernel⟩, List.mem_of_getElem? (i := 1197) (by decide +kernel), List.mem_of_getElem? (i := 1659) (by decide +kernel), List.mem_of_getElem? (i := 1660) (by decide +kernel)⟩
theorem lw_p75 : lw_okq (⟨"GlassWiresModel", "strainOf", "(I)I"⟩, 44) := ⟨⟨by decide +kernel, by decide +kernel⟩, List.mem_of_getElem? (i := 1197) (by decide +kernel), List.mem_of_getElem? (i := 1675) (by decide +kernel), List.mem_of_getElem? (i := 1676) (by decide +kernel)⟩
theorem lw_p76 : lw_okq (⟨"GlassWiresModel", "longest", "()I"⟩, 44) := ⟨⟨by decide +kernel, by decide +kernel⟩, List.mem_of_getElem? (i := 1197) (by decide +kernel), List.mem_of_getElem? (i := 1683) (by decide +kernel), List.mem_of_getElem? (i := 1684) (by decide +kernel)⟩
theorem lw_p77 : lw_okq (⟨"GlassWiresModel", "harmsOf", "(II)I"⟩, 44) := ⟨⟨by decide +kernel, by decide +kernel⟩, List.mem_of_getElem? (i := 1197) (by decide +kernel), List.mem_of_getElem? (i := 1695) (by decide +kernel), List.mem_of_getElem? (i := 1696) (by decide +kernel)⟩
theorem lw_p78 : lw_okq (⟨"GlassWiresModel", "isHarmed", "(II)Z"⟩, 44) := ⟨⟨by decide +kernel, by decide +kernel⟩, List.mem_of_getElem? (i := 1197) (by decide +kernel), List.mem_of_getElem? (i := 1699) (by decide +kernel), List.mem_of_getElem? (i := 1700) (by decide +kernel)⟩
theorem lw_p79 : lw_okq (⟨"GlassWiresModel", "laidWires", "()I"⟩, 44) := ⟨⟨by decide +kernel, by decide +kernel⟩, List.mem_of_getElem? (i := 1197) (by decide +kernel), List.mem_of_getElem? (i := 1716) (by decide +kernel), List.mem_of_getElem? (i := 1717) (by decide +kernel)⟩
def lw_privs_5 : List (MethodName × Nat) := [(⟨"GlassWiresModel", "runOver", "()V"⟩, 44), (⟨"GlassWiresModel", "runsTo", "(III)Z"⟩, 44), (⟨"GlassWiresModel", "takeOff", "(II)I"⟩, 44), (⟨"GlassWiresModel", "bleeding", "()I"⟩, 44), (⟨"GlassWiresModel", "top", "(I)I"⟩, 44), (⟨"GlassWiresModel", "solders", "(I)Z"⟩, 44), (⟨"GlassWiresModel", "fillsOf", "(I)I"⟩, 44), (⟨"GlassWiresModel", "findPlan", "(I)V"⟩, 44), (⟨"GlassWiresModel", "frontPull", "()I"⟩, 44), (⟨"GlassWiresModel", "bowNow", "()I"⟩, 44), (⟨"GlassWiresModel", "bowOf", "(II)I"⟩, 44), (⟨"GlassWiresModel", "strainOf", "(I)I"⟩, 44), (⟨"GlassWiresModel", "longest", "()I"⟩, 44), (⟨"GlassWiresModel", "harmsOf", "(II)I"⟩, 44), (⟨"GlassWiresModel", "isHarmed", "(II)Z"⟩, 44), (⟨"GlassWiresModel", "laidWires", "()I"⟩, 44)]
theorem lw_r5 : ∀ q ∈ lw_privs_5, lw_okq q := List.forall_mem_cons.mpr ⟨lw_p64, List.forall_mem_cons.mpr ⟨lw_p65, List.forall_mem_cons.mpr ⟨lw_p66, List.forall_mem_cons.mpr ⟨lw_p67, List.forall_mem_cons.mpr ⟨lw_p68, List.forall_mem_cons.mpr ⟨lw_p69, List.forall_mem_cons.mpr ⟨lw_p70, List.forall_mem_cons.mpr ⟨lw_p71, List.forall_mem_cons.mpr ⟨lw_p72, List.forall_mem_cons.mpr ⟨lw_p73, List.forall_mem_cons.mpr ⟨lw_p74, List.forall_mem_cons.mpr ⟨lw_p75, List.forall_mem_cons.mpr ⟨lw_p76, List.forall_mem_cons.mpr ⟨lw_p77, List.forall_mem_cons.mpr ⟨lw_p78, List.forall_mem_cons.mpr ⟨lw_p79, fun _ h => absurd h List.not_mem_nil⟩⟩⟩⟩⟩⟩⟩⟩⟩⟩⟩⟩⟩⟩⟩⟩
theorem lw_p80 : lw_okq (⟨"GlassWiresModel", "layGroups", "()I"⟩, 44) := ⟨⟨by decide +kernel, by decide +kernel⟩, List.mem_of_getElem? (i := 1197) (by decide +kernel), List.mem_of_getElem? (i := 1720) (by decide +kernel), List.mem_of_getElem? (i := 1721) (by decide +kernel)⟩
theorem lw_p81 : lw_okq (⟨"GlassWiresModel", "giveRods", "(I)I"⟩, 44) := ⟨⟨by decide +kernel, by decide +kernel⟩, List.mem_of_getElem? (i := 1197) (by decide +kernel), List.mem_of_getElem? (i := 1724) (by decide +kernel), List.mem_of_getElem? (i := 1725) (by decide +kernel)⟩
theorem lw_p82 : lw_okq (⟨"GlassWiresModel", "nextGroups", "()Z"⟩, 44) := ⟨⟨by decide +kernel, by decide +kernel⟩, List.mem_of_getElem? (i := 1197) (by decide +kernel), List.mem_of_getElem? (i := 1728) (by decide +kernel), List.mem_of_getElem? (i := 1729) (by decide +kernel)⟩
def lw_privs_6 : List (MethodName × Nat) := [(⟨"GlassWiresModel", "layGroups", "()I"⟩, 44), (⟨"GlassWiresModel", "giveRods", "(I)I"⟩, 44), (⟨"GlassWiresModel", "nextGroups", "()Z"⟩, 44)]
theorem lw_r6 : ∀ q ∈ lw_privs_6, lw_okq q := List.forall_mem_cons.mpr ⟨lw_p80, List.forall_mem_cons.mpr ⟨lw_p81, List.forall_mem_cons.mpr ⟨lw_p82, fun _ h => absurd h List.not_mem_nil⟩⟩⟩
def lw_privs : List (MethodName × Nat) := lw_privs_1 ++ (lw_privs_2 ++ (lw_privs_3 ++ (lw_privs_4 ++ (lw_privs_5 ++ (lw_privs_6)))))
def lw_tbl : List Cond := k2_sels lw_privs ++ tables_1
theorem lw_privs_ok : ∀ q ∈ lw_privs, lw_okq q := by
  show ∀ q ∈ lw_privs_1 ++ (lw_privs_2 ++ (lw_privs_3 ++ (lw_privs_4 ++ (lw_privs_5 ++ (lw_privs_6))))), lw_okq q
  exact List.forall_mem_append.mpr ⟨lw_r1, List.forall_mem_append.mpr ⟨lw_r2, List.forall_mem_append.mpr ⟨lw_r3, List.forall_mem_append.mpr ⟨lw_r4, List.forall_mem_append.mpr ⟨lw_r5, lw_r6⟩⟩⟩⟩⟩
end
section
/-! tables of the program, by program (wip/gen/tables.py) -/
def RX0 : String := "GlassWires$Cells"
def TX0 : u_T := fun k => match k with
  | 0 => ("GlassWires$Cells", "grid", "LGlassWires$Grid;", true)
  | 1 => ("GlassWires$Cells", "net", "LGlassWires$Net;", true)
  | 2 => ("GlassWires$Cells", "cellOf", "[I", true)
  | 3 => ("GlassWires$Cells", "sizes", "[I", true)
  | 4 => ("GlassWires$Cells", "queue", "[I", true)
  | _ => ("GlassWires$Cells", "total", "I", false)
def tyX0 : Nat → FieldType := fun k => match k with
  | 0 => .object "GlassWires$Grid"
  | 1 => .object "GlassWires$Net"
  | 2 => .array .int
  | 3 => .array .int
  | 4 => .array .int
  | _ => .int
theorem nmX0 : ∀ a, a < 6 → ∀ b, b < 6 → a ≠ b → (TX0 a).2.1 ≠ (TX0 b).2.1 := by decide +kernel
theorem tyX0_ok : ∀ k, k < 6 → parseFieldDescriptor (TX0 k).2.2.1 = some (tyX0 k) := by decide +kernel
def RX1 : String := "GlassWires$Glass"
def TX1 : u_T := fun k => match k with
  | 0 => ("GlassWires$Glass", "grid", "LGlassWires$Grid;", true)
  | 1 => ("GlassWires$Glass", "net", "LGlassWires$Net;", true)
  | 2 => ("GlassWires$Glass", "cells", "LGlassWires$Cells;", true)
  | 3 => ("GlassWires$Glass", "palette", "LGlassWires$Palette;", true)
  | 4 => ("GlassWires$Glass", "layers", "[I", true)
  | 5 => ("GlassWires$Glass", "colours", "[I", true)
  | 6 => ("GlassWires$Glass", "thicks", "[I", true)
  | 7 => ("GlassWires$Glass", "ripeness", "[I", true)
  | 8 => ("GlassWires$Glass", "highs", "[I", true)
  | _ => ("GlassWires$Glass", "firings", "I", false)
def tyX1 : Nat → FieldType := fun k => match k with
  | 0 => .object "GlassWires$Grid"
  | 1 => .object "GlassWires$Net"
  | 2 => .object "GlassWires$Cells"
  | 3 => .object "GlassWires$Palette"
  | 4 => .array .int
  | 5 => .array .int
  | 6 => .array .int
  | 7 => .array .int
  | 8 => .array .int
  | _ => .int
theorem nmX1 : ∀ a, a < 10 → ∀ b, b < 10 → a ≠ b → (TX1 a).2.1 ≠ (TX1 b).2.1 := by decide +kernel
theorem tyX1_ok : ∀ k, k < 10 → parseFieldDescriptor (TX1 k).2.2.1 = some (tyX1 k) := by decide +kernel
def RX2 : String := "GlassWires$Grid"
def TX2 : u_T := fun k => match k with
  | 0 => ("GlassWires$Grid", "columns", "[I", true)
  | 1 => ("GlassWires$Grid", "rows", "[I", true)
  | 2 => ("GlassWires$Grid", "wide", "I", false)
  | _ => ("GlassWires$Grid", "high", "I", false)
def tyX2 : Nat → FieldType := fun k => match k with
  | 0 => .array .int
  | 1 => .array .int
  | 2 => .int
  | _ => .int
theorem nmX2 : ∀ a, a < 4 → ∀ b, b < 4 → a ≠ b → (TX2 a).2.1 ≠ (TX2 b).2.1 := by decide +kernel
theorem tyX2_ok : ∀ k, k < 4 → parseFieldDescriptor (TX2 k).2.2.1 = some (tyX2 k) := by decide +kernel
def RX3 : String := "GlassWires$Net"
def TX3 : u_T := fun k => match k with
  | 0 => ("GlassWires$Net", "grid", "LGlassWires$Grid;", true)
  | 1 => ("GlassWires$Net", "wires", "LGlassWires$Wires;", true)
  | 2 => ("GlassWires$Net", "covers", "[I", true)
  | 3 => ("GlassWires$Net", "solderedCovers", "[I", true)
  | 4 => ("GlassWires$Net", "comers", "[I", true)
  | 5 => ("GlassWires$Net", "lastOn", "[I", true)
  | 6 => ("GlassWires$Net", "lastAt", "[I", true)
  | 7 => ("GlassWires$Net", "held", "[I", true)
  | 8 => ("GlassWires$Net", "heldPoints", "[I", true)
  | 9 => ("GlassWires$Net", "seen", "[I", true)
  | _ => ("GlassWires$Net", "queue", "[I", true)
def tyX3 : Nat → FieldType := fun k => match k with
  | 0 => .object "GlassWires$Grid"
  | 1 => .object "GlassWires$Wires"
  | 2 => .array .int
  | 3 => .array .int
  | 4 => .array .int
  | 5 => .array .int
  | 6 => .array .int
  | 7 => .array .int
  | 8 => .array .int
  | 9 => .array .int
  | _ => .array .int
theorem nmX3 : ∀ a, a < 11 → ∀ b, b < 11 → a ≠ b → (TX3 a).2.1 ≠ (TX3 b).2.1 := by decide +kernel
theorem tyX3_ok : ∀ k, k < 11 → parseFieldDescriptor (TX3 k).2.2.1 = some (tyX3 k) := by decide +kernel
def RX4 : String := "GlassWires$Page"
def TX4 : u_T := fun k => match k with
  | 0 => ("GlassWires$Page", "codes", "[I", true)
  | _ => ("GlassWires$Page", "length", "I", false)
def tyX4 : Nat → FieldType := fun k => match k with
  | 0 => .array .int
  | _ => .int
theorem nmX4 : ∀ a, a < 2 → ∀ b, b < 2 → a ≠ b → (TX4 a).2.1 ≠ (TX4 b).2.1 := by decide +kernel
theorem tyX4_ok : ∀ k, k < 2 → parseFieldDescriptor (TX4 k).2.2.1 = some (tyX4 k) := by decide +kernel
def RX5 : String := "GlassWires$Painter"
def TX5 : u_T := fun k => match k with
  | 0 => ("GlassWires$Painter", "grid", "LGlassWires$Grid;", true)
  | 1 => ("GlassWires$Painter", "cells", "LGlassWires$Cells;", true)
  | 2 => ("GlassWires$Painter", "placeOf", "[I", true)
  | 3 => ("GlassWires$Painter", "near", "[I", true)
  | _ => ("GlassWires$Painter", "paints", "[I", true)
def tyX5 : Nat → FieldType := fun k => match k with
  | 0 => .object "GlassWires$Grid"
  | 1 => .object "GlassWires$Cells"
  | 2 => .array .int
  | 3 => .array .int
  | _ => .array .int
theorem nmX5 : ∀ a, a < 5 → ∀ b, b < 5 → a ≠ b → (TX5 a).2.1 ≠ (TX5 b).2.1 := by decide +kernel
theorem tyX5_ok : ∀ k, k < 5 → parseFieldDescriptor (TX5 k).2.2.1 = some (tyX5 k) := by decide +kernel
def RX6 : String := "GlassWires$Palette"
def TX6 : u_T := fun k => match k with
  | 0 => ("GlassWires$Palette", "traits", "[I", true)
  | 1 => ("GlassWires$Palette", "foes", "[I", true)
  | _ => ("GlassWires$Palette", "rules", "[I", true)
def tyX6 : Nat → FieldType := fun k => match k with
  | 0 => .array .int
  | 1 => .array .int
  | _ => .array .int
theorem nmX6 : ∀ a, a < 3 → ∀ b, b < 3 → a ≠ b → (TX6 a).2.1 ≠ (TX6 b).2.1 := by decide +kernel
theorem tyX6_ok : ∀ k, k < 3 → parseFieldDescriptor (TX6 k).2.2.1 = some (tyX6 k) := by decide +kernel
def RX7 : String := "GlassWires$Plan"
def TX7 : u_T := fun k => match k with
  | 0 => ("GlassWires$Plan", "palette", "LGlassWires$Palette;", true)
  | 1 => ("GlassWires$Plan", "heats", "[I", true)
  | 2 => ("GlassWires$Plan", "times", "[I", true)
  | _ => ("GlassWires$Plan", "kinds", "I", false)
def tyX7 : Nat → FieldType := fun k => match k with
  | 0 => .object "GlassWires$Palette"
  | 1 => .array .int
  | 2 => .array .int
  | _ => .int
theorem nmX7 : ∀ a, a < 4 → ∀ b, b < 4 → a ≠ b → (TX7 a).2.1 ≠ (TX7 b).2.1 := by decide +kernel
theorem tyX7_ok : ∀ k, k < 4 → parseFieldDescriptor (TX7 k).2.2.1 = some (tyX7 k) := by decide +kernel
def RX8 : String := "GlassWires$Rods"
def TX8 : u_T := fun k => match k with
  | 0 => ("GlassWires$Rods", "lengths", "[I", true)
  | 1 => ("GlassWires$Rods", "numbers", "[I", true)
  | 2 => ("GlassWires$Rods", "sums", "[I", true)
  | 3 => ("GlassWires$Rods", "costs", "[I", true)
  | _ => ("GlassWires$Rods", "kinds", "I", false)
def tyX8 : Nat → FieldType := fun k => match k with
  | 0 => .array .int
  | 1 => .array .int
  | 2 => .array .int
  | 3 => .array .int
  | _ => .int
theorem nmX8 : ∀ a, a < 5 → ∀ b, b < 5 → a ≠ b → (TX8 a).2.1 ≠ (TX8 b).2.1 := by decide +kernel
theorem tyX8_ok : ∀ k, k < 5 → parseFieldDescriptor (TX8 k).2.2.1 = some (tyX8 k) := by decide +kernel
def RX9 : String := "GlassWires$Tension"
def TX9 : u_T := fun k => match k with
  | 0 => ("GlassWires$Tension", "grid", "LGlassWires$Grid;", true)
  | 1 => ("GlassWires$Tension", "palette", "LGlassWires$Palette;", true)
  | 2 => ("GlassWires$Tension", "glass", "LGlassWires$Glass;", true)
  | 3 => ("GlassWires$Tension", "backColour", "I", false)
  | _ => ("GlassWires$Tension", "backThick", "I", false)
def tyX9 : Nat → FieldType := fun k => match k with
  | 0 => .object "GlassWires$Grid"
  | 1 => .object "GlassWires$Palette"
  | 2 => .object "GlassWires$Glass"
  | 3 => .int
  | _ => .int
theorem nmX9 : ∀ a, a < 5 → ∀ b, b < 5 → a ≠ b → (TX9 a).2.1 ≠ (TX9 b).2.1 := by decide +kernel
theorem tyX9_ok : ∀ k, k < 5 → parseFieldDescriptor (TX9 k).2.2.1 = some (tyX9 k) := by decide +kernel
def RX10 : String := "GlassWires$Wires"
def TX10 : u_T := fun k => match k with
  | 0 => ("GlassWires$Wires", "laid", "[Z", true)
  | 1 => ("GlassWires$Wires", "soldered", "[Z", true)
  | 2 => ("GlassWires$Wires", "moves", "[I", true)
  | 3 => ("GlassWires$Wires", "bends", "[I", true)
  | 4 => ("GlassWires$Wires", "edges", "[I", true)
  | 5 => ("GlassWires$Wires", "pointRow", "[I", true)
  | 6 => ("GlassWires$Wires", "edgeRow", "[I", true)
  | _ => ("GlassWires$Wires", "total", "I", false)
def tyX10 : Nat → FieldType := fun k => match k with
  | 0 => .array .boolean
  | 1 => .array .boolean
  | 2 => .array .int
  | 3 => .array .int
  | 4 => .array .int
  | 5 => .array .int
  | 6 => .array .int
  | _ => .int
theorem nmX10 : ∀ a, a < 8 → ∀ b, b < 8 → a ≠ b → (TX10 a).2.1 ≠ (TX10 b).2.1 := by decide +kernel
theorem tyX10_ok : ∀ k, k < 8 → parseFieldDescriptor (TX10 k).2.2.1 = some (tyX10 k) := by decide +kernel
def RX11 : String := "GlassWires"
def TX11 : u_T := fun k => match k with
  | 0 => ("GlassWires", "grid", "LGlassWires$Grid;", true)
  | 1 => ("GlassWires", "page", "LGlassWires$Page;", true)
  | 2 => ("GlassWires", "wires", "LGlassWires$Wires;", true)
  | 3 => ("GlassWires", "net", "LGlassWires$Net;", true)
  | 4 => ("GlassWires", "cells", "LGlassWires$Cells;", true)
  | 5 => ("GlassWires", "painter", "LGlassWires$Painter;", true)
  | 6 => ("GlassWires", "palette", "LGlassWires$Palette;", true)
  | 7 => ("GlassWires", "glass", "LGlassWires$Glass;", true)
  | 8 => ("GlassWires", "plan", "LGlassWires$Plan;", true)
  | 9 => ("GlassWires", "tension", "LGlassWires$Tension;", true)
  | _ => ("GlassWires", "rods", "LGlassWires$Rods;", true)
def tyX11 : Nat → FieldType := fun k => match k with
  | 0 => .object "GlassWires$Grid"
  | 1 => .object "GlassWires$Page"
  | 2 => .object "GlassWires$Wires"
  | 3 => .object "GlassWires$Net"
  | 4 => .object "GlassWires$Cells"
  | 5 => .object "GlassWires$Painter"
  | 6 => .object "GlassWires$Palette"
  | 7 => .object "GlassWires$Glass"
  | 8 => .object "GlassWires$Plan"
  | 9 => .object "GlassWires$Tension"
  | _ => .object "GlassWires$Rods"
theorem nmX11 : ∀ a, a < 11 → ∀ b, b < 11 → a ≠ b → (TX11 a).2.1 ≠ (TX11 b).2.1 := by decide +kernel
theorem tyX11_ok : ∀ k, k < 11 → parseFieldDescriptor (TX11 k).2.2.1 = some (tyX11 k) := by decide +kernel
def RX12 : String := "GlassWiresModel"
def TX12 : u_T := fun k => match k with
  | 0 => ("GlassWiresModel", "wide", "I", false)
  | 1 => ("GlassWiresModel", "high", "I", false)
  | 2 => ("GlassWiresModel", "page", "[I", true)
  | 3 => ("GlassWiresModel", "pageMany", "I", false)
  | 4 => ("GlassWiresModel", "wires", "I", false)
  | 5 => ("GlassWiresModel", "pointX", "[I", true)
  | 6 => ("GlassWiresModel", "pointY", "[I", true)
  | 7 => ("GlassWiresModel", "moves", "[I", true)
  | 8 => ("GlassWiresModel", "isLaid", "[Z", true)
  | 9 => ("GlassWiresModel", "isSoldered", "[Z", true)
  | 10 => ("GlassWiresModel", "holds", "[Z", true)
  | 11 => ("GlassWiresModel", "cover", "[I", true)
  | 12 => ("GlassWiresModel", "sets", "[I", true)
  | 13 => ("GlassWiresModel", "cells", "[I", true)
  | 14 => ("GlassWiresModel", "listed", "[I", true)
  | 15 => ("GlassWiresModel", "listMany", "I", false)
  | 16 => ("GlassWiresModel", "meets", "[Z", true)
  | 17 => ("GlassWiresModel", "paints", "[I", true)
  | 18 => ("GlassWiresModel", "heats", "[I", true)
  | 19 => ("GlassWiresModel", "shrinks", "[I", true)
  | 20 => ("GlassWiresModel", "pulls", "[I", true)
  | 21 => ("GlassWiresModel", "areFoes", "[Z", true)
  | 22 => ("GlassWiresModel", "wall", "I", false)
  | 23 => ("GlassWiresModel", "stiff", "I", false)
  | 24 => ("GlassWiresModel", "bear", "I", false)
  | 25 => ("GlassWiresModel", "layers", "[I", true)
  | 26 => ("GlassWiresModel", "colours", "[I", true)
  | 27 => ("GlassWiresModel", "thicks", "[I", true)
  | 28 => ("GlassWiresModel", "states", "[I", true)
  | 29 => ("GlassWiresModel", "fires", "I", false)
  | 30 => ("GlassWiresModel", "highs", "[I", true)
  | 31 => ("GlassWiresModel", "runs", "[Z", true)
  | 32 => ("GlassWiresModel", "planned", "[I", true)
  | 33 => ("GlassWiresModel", "planMany", "I", false)
  | 34 => ("GlassWiresModel", "backColour", "I", false)
  | 35 => ("GlassWiresModel", "backThick", "I", false)
  | 36 => ("GlassWiresModel", "rods", "I", false)
  | 37 => ("GlassWiresModel", "rodLength", "[I", true)
  | 38 => ("GlassWiresModel", "rodMany", "[I", true)
  | 39 => ("GlassWiresModel", "lengths", "[I", true)
  | 40 => ("GlassWiresModel", "cutMany", "I", false)
  | 41 => ("GlassWiresModel", "group", "[I", true)
  | 42 => ("GlassWiresModel", "sums", "[I", true)
  | _ => ("GlassWiresModel", "left", "[I", true)
def tyX12 : Nat → FieldType := fun k => match k with
  | 0 => .int
  | 1 => .int
  | 2 => .array .int
  | 3 => .int
  | 4 => .int
  | 5 => .array .int
  | 6 => .array .int
  | 7 => .array .int
  | 8 => .array .boolean
  | 9 => .array .boolean
  | 10 => .array .boolean
  | 11 => .array .int
  | 12 => .array .int
  | 13 => .array .int
  | 14 => .array .int
  | 15 => .int
  | 16 => .array .boolean
  | 17 => .array .int
  | 18 => .array .int
  | 19 => .array .int
  | 20 => .array .int
  | 21 => .array .boolean
  | 22 => .int
  | 23 => .int
  | 24 => .int
  | 25 => .array .int
  | 26 => .array .int
  | 27 => .array .int
  | 28 => .array .int
  | 29 => .int
  | 30 => .array .int
  | 31 => .array .boolean
  | 32 => .array .int
  | 33 => .int
  | 34 => .int
  | 35 => .int
  | 36 => .int
  | 37 => .array .int
  | 38 => .array .int
  | 39 => .array .int
  | 40 => .int
  | 41 => .array .int
  | 42 => .array .int
  | _ => .array .int
theorem nmX12 : ∀ a, a < 44 → ∀ b, b < 44 → a ≠ b → (TX12 a).2.1 ≠ (TX12 b).2.1 := by decide +kernel
theorem tyX12_ok : ∀ k, k < 44 → parseFieldDescriptor (TX12 k).2.2.1 = some (tyX12 k) := by decide +kernel
abbrev vwCl : List vw_C := [(RX0, TX0, 6), (RX1, TX1, 10), (RX2, TX2, 4), (RX3, TX3, 11), (RX4, TX4, 2), (RX5, TX5, 5), (RX6, TX6, 3), (RX7, TX7, 4), (RX8, TX8, 5), (RX9, TX9, 5), (RX10, TX10, 8), (RX11, TX11, 11), (RX12, TX12, 44)]
abbrev gw_E : Type := Nat × Nat × Nat × Int64
abbrev gw_I : Type := Instr × Nat × Nat × Int32
abbrev gw_M : Type := Nat × MethodName × ByteArray × Nat × Option FieldType × Nat × Nat × Nat × List (Nat × gw_I)
def gw_cn : List String := ["GlassWires$Cells", "GlassWires$Glass", "GlassWires$Grid", "GlassWires$Net", "GlassWires$Page", "GlassWires$Painter", "GlassWires$Palette", "GlassWires$Plan", "GlassWires$Rods", "GlassWires$Tension", "GlassWires$Wires", "GlassWires", "GlassWiresModel", "GlassWiresLaw", "java/lang/Math", "java/util/Arrays"]
def gp_0 : List (Nat × gw_E) := [(3, 6, 0, 0, 0), (11, 0, 0, 2, 0), (17, 0, 0, 3, 0), (20, 0, 0, 4, 0), (23, 0, 0, 0, 0), (27, 0, 0, 1, 0), (31, 1, 313, 0, 0), (37, 0, 0, 5, 0), (41, 1, 40, 0, 0), (45, 1, 2, 0, 0), (49, 1, 46, 0, 0), (53, 1, 47, 0, 0), (56, 1, 67, 0, 0), (62, 1, 5, 0, 0), (65, 1, 311, 0, 0)]
def gp_1 : List (Nat × gw_E) := [(3, 6, 0, 0, 0), (11, 0, 1, 4, 0), (17, 0, 1, 5, 0), (20, 0, 1, 6, 0), (23, 0, 1, 7, 0), (26, 0, 1, 8, 0), (29, 0, 1, 0, 0), (33, 0, 1, 1, 0), (37, 0, 1, 2, 0), (41, 0, 1, 3, 0), (45, 1, 313, 0, 0), (51, 0, 1, 9, 0), (55, 1, 40, 0, 0), (59, 1, 4, 0, 0), (65, 1, 20, 0, 0), (69, 1, 206, 1, 0), (73, 1, 21, 0, 0), (77, 1, 22, 0, 0), (80, 1, 99, 0, 0), (85, 1, 102, 0, 0), (89, 1, 100, 0, 0), (92, 1, 13, 0, 0), (95, 1, 103, 0, 0), (98, 1, 23, 0, 0), (102, 1, 24, 0, 0), (105, 1, 46, 0, 0), (108, 1, 47, 0, 0), (111, 1, 67, 0, 0), (116, 1, 15, 0, 0), (119, 1, 312, 0, 0), (124, 1, 29, 0, 0), (127, 1, 106, 0, 0), (130, 1, 68, 0, 0), (133, 1, 101, 0, 0), (136, 1, 5, 0, 0), (139, 1, 33, 0, 0), (140, 1, 207, 1, 0)]
def gp_2 : List (Nat × gw_E) := [(5, 6, 0, 0, 0), (11, 0, 2, 0, 0), (15, 0, 2, 1, 0), (18, 1, 37, 0, 0), (22, 0, 2, 2, 0), (26, 0, 2, 3, 0), (29, 1, 41, 0, 0), (33, 1, 53, 0, 0), (37, 1, 54, 0, 0), (40, 1, 43, 0, 0), (43, 1, 45, 0, 0), (47, 1, 51, 0, 0), (51, 1, 48, 0, 0), (54, 1, 207, 1, 0)]
def gp_3 : List (Nat × gw_E) := [(3, 6, 0, 0, 0), (11, 0, 3, 2, 0), (17, 0, 3, 3, 0), (20, 0, 3, 4, 0), (23, 0, 3, 5, 0), (26, 0, 3, 6, 0), (31, 0, 3, 7, 0), (34, 0, 3, 8, 0), (37, 0, 3, 9, 0), (40, 0, 3, 10, 0), (43, 0, 3, 0, 0), (47, 0, 3, 1, 0), (51, 1, 313, 0, 0), (57, 1, 143, 0, 0), (61, 1, 145, 0, 0), (65, 1, 58, 0, 0), (69, 1, 61, 0, 0), (72, 1, 153, 0, 0), (76, 1, 59, 0, 0), (80, 1, 149, 0, 0), (84, 1, 154, 0, 0), (87, 1, 60, 0, 0), (90, 1, 147, 0, 0), (93, 1, 206, 1, 0), (97, 1, 62, 0, 0), (100, 1, 63, 0, 0), (103, 1, 152, 0, 0), (106, 1, 64, 0, 0), (109, 1, 39, 0, 0), (112, 1, 38, 0, 0), (115, 1, 72, 0, 0), (119, 1, 48, 0, 0), (122, 1, 42, 0, 0), (126, 1, 73, 0, 0), (129, 1, 74, 0, 0), (132, 1, 53, 0, 0), (135, 1, 54, 0, 0), (138, 1, 41, 0, 0), (141, 1, 52, 0, 0), (145, 1, 76, 0, 0), (148, 1, 311, 0, 0), (153, 1, 49, 0, 0), (156, 1, 50, 0, 0)]
def gp_4 : List (Nat × gw_E) := [(3, 6, 0, 0, 0), (11, 0, 4, 0, 0), (15, 0, 4, 1, 0), (19, 1, 81, 0, 0), (23, 1, 82, 0, 0), (27, 4, 0, 0, 255), (33, 1, 83, 0, 0), (37, 1, 53, 0, 0), (40, 1, 54, 0, 0), (43, 1, 41, 0, 0), (47, 1, 84, 0, 0), (51, 1, 207, 1, 0)]
def gp_5 : List (Nat × gw_E) := [(3, 6, 0, 0, 0), (11, 0, 5, 2, 0), (17, 0, 5, 3, 0), (20, 0, 5, 4, 0), (23, 0, 5, 0, 0), (27, 0, 5, 1, 0), (31, 1, 90, 0, 0), (34, 1, 3, 0, 0), (40, 1, 312, 0, 0), (46, 1, 91, 0, 0), (50, 1, 88, 0, 0), (53, 1, 313, 0, 0), (59, 1, 40, 0, 0), (62, 1, 5, 0, 0), (66, 1, 46, 0, 0), (69, 1, 4, 0, 0), (73, 1, 92, 0, 0)]
def gp_6 : List (Nat × gw_E) := [(3, 6, 0, 0, 0), (11, 0, 6, 0, 0), (15, 0, 6, 1, 0), (18, 0, 6, 2, 0), (21, 5, 3, 0, 0), (24, 5, 1, 0, 0), (27, 5, 2, 0, 0), (30, 5, 4, 0, 0), (33, 1, 99, 0, 0), (37, 1, 103, 0, 0), (41, 1, 102, 0, 0), (45, 1, 207, 1, 0), (49, 1, 106, 0, 0), (53, 1, 206, 1, 0)]
def gp_7 : List (Nat × gw_E) := [(3, 6, 0, 0, 0), (11, 0, 7, 1, 0), (17, 0, 7, 2, 0), (20, 0, 7, 0, 0), (24, 0, 7, 3, 0), (28, 1, 113, 0, 0), (32, 1, 99, 0, 0), (35, 1, 108, 0, 0), (38, 1, 114, 0, 0)]
def gp_8 : List (Nat × gw_E) := [(5, 6, 0, 0, 0), (11, 0, 8, 0, 0), (15, 0, 8, 1, 0), (18, 0, 8, 2, 0), (21, 0, 8, 3, 0), (24, 0, 8, 4, 0), (28, 1, 124, 0, 0), (32, 3, 0, 0, 1000000), (33, 1, 123, 0, 0), (36, 1, 155, 0, 0), (42, 1, 312, 0, 0), (48, 1, 125, 0, 0), (52, 1, 313, 0, 0), (58, 1, 126, 0, 0), (62, 1, 143, 0, 0), (65, 1, 145, 0, 0), (69, 1, 149, 0, 0), (73, 1, 207, 1, 0)]
def gp_9 : List (Nat × gw_E) := [(3, 6, 0, 0, 0), (9, 0, 9, 0, 0), (15, 0, 9, 1, 0), (19, 0, 9, 2, 0), (23, 0, 9, 3, 0), (27, 0, 9, 4, 0), (30, 1, 131, 0, 0), (34, 1, 40, 0, 0), (40, 1, 101, 0, 0), (46, 1, 30, 0, 0), (51, 1, 130, 0, 0), (54, 1, 133, 0, 0), (57, 1, 104, 0, 0), (60, 1, 132, 0, 0), (63, 1, 310, 0, 0), (68, 1, 105, 0, 0), (71, 1, 312, 0, 0), (74, 1, 137, 0, 0), (77, 1, 138, 0, 0), (80, 1, 311, 0, 0), (83, 1, 207, 1, 0)]
def gp_10 : List (Nat × gw_E) := [(5, 6, 0, 0, 0), (11, 0, 10, 0, 0), (15, 0, 10, 1, 0), (18, 0, 10, 2, 0), (22, 0, 10, 3, 0), (25, 0, 10, 4, 0), (28, 0, 10, 5, 0), (31, 0, 10, 6, 0), (34, 0, 10, 7, 0), (38, 1, 206, 1, 0), (42, 1, 78, 0, 0), (48, 1, 312, 0, 0), (54, 1, 157, 0, 0), (58, 1, 48, 0, 0), (63, 1, 83, 0, 0), (67, 1, 52, 0, 0), (71, 1, 158, 0, 0), (75, 1, 53, 0, 0), (78, 1, 54, 0, 0), (81, 1, 154, 0, 0), (84, 1, 207, 1, 0), (88, 1, 153, 0, 0)]
def gp_11 : List (Nat × gw_E) := [(1, 6, 0, 0, 0), (7, 2, 2, 0, 0), (9, 1, 35, 0, 0), (10, 0, 11, 0, 0), (16, 2, 4, 0, 0), (18, 1, 77, 1, 0), (19, 0, 11, 1, 0), (23, 2, 10, 0, 0), (25, 1, 141, 1, 0), (26, 0, 11, 2, 0), (30, 2, 3, 0, 0), (32, 1, 56, 0, 0), (35, 0, 11, 3, 0), (39, 2, 0, 0, 0), (41, 1, 0, 0, 0), (44, 0, 11, 4, 0), (48, 2, 5, 0, 0), (50, 1, 87, 0, 0), (53, 0, 11, 5, 0), (57, 2, 6, 0, 0), (59, 1, 93, 0, 0), (60, 0, 11, 6, 0), (64, 2, 1, 0, 0), (66, 1, 8, 0, 0), (69, 0, 11, 7, 0), (73, 2, 7, 0, 0), (75, 1, 110, 0, 0), (78, 0, 11, 8, 0), (82, 2, 9, 0, 0), (84, 1, 128, 0, 0), (87, 0, 11, 9, 0), (91, 2, 8, 0, 0), (93, 1, 117, 1, 0), (94, 0, 11, 10, 0), (98, 1, 203, 0, 0), (101, 1, 36, 0, 0), (105, 1, 37, 0, 0), (109, 1, 142, 0, 0), (112, 1, 9, 0, 0), (113, 1, 129, 0, 0), (116, 1, 118, 0, 0), (117, 1, 40, 0, 0), (121, 1, 80, 0, 0), (125, 1, 79, 0, 0), (127, 1, 41, 0, 0), (131, 1, 84, 0, 0), (135, 1, 85, 0, 0), (139, 1, 156, 0, 0), (142, 1, 144, 0, 0), (145, 1, 145, 0, 0), (148, 1, 206, 0, 0), (152, 1, 146, 0, 0), (156, 1, 147, 0, 0), (159, 1, 148, 0, 0), (162, 1, 149, 0, 0), (166, 1, 150, 0, 0), (169, 1, 152, 0, 0), (172, 1, 151, 0, 0), (175, 1, 64, 0, 0), (178, 1, 153, 0, 0), (182, 1, 44, 0, 0), (186, 1, 51, 0, 0), (190, 1, 66, 0, 0), (193, 1, 70, 0, 0), (196, 1, 69, 0, 0), (199, 1, 65, 0, 0), (202, 1, 75, 0, 0), (205, 1, 3, 0, 0), (208, 1, 7, 0, 0), (211, 1, 71, 0, 0), (214, 1, 43, 0, 0), (217, 1, 45, 0, 0), (220, 1, 4, 0, 0), (223, 1, 5, 0, 0), (224, 1, 6, 0, 0), (227, 1, 88, 0, 0), (230, 1, 89, 0, 0), (233, 1, 94, 0, 0), (234, 1, 95, 0, 0), (237, 1, 97, 0, 0), (240, 1, 106, 0, 0), (243, 1, 107, 0, 0), (247, 1, 96, 0, 0), (250, 1, 98, 0, 0), (253, 1, 16, 0, 0), (256, 1, 17, 0, 0), (259, 1, 18, 0, 0), (262, 1, 13, 0, 0), (265, 1, 11, 0, 0), (268, 1, 14, 0, 0), (271, 1, 204, 0, 0), (274, 1, 19, 0, 0), (277, 1, 25, 0, 0), (280, 1, 26, 0, 0), (283, 1, 27, 0, 0), (286, 1, 28, 0, 0), (289, 1, 10, 0, 0), (292, 1, 108, 0, 0), (295, 1, 111, 0, 0), (296, 1, 112, 0, 0), (300, 1, 115, 0, 0), (301, 1, 116, 0, 0), (304, 1, 30, 0, 0), (307, 1, 130, 0, 0), (310, 1, 132, 0, 0), (313, 1, 134, 0, 0), (316, 3, 0, 0, (-1000001)), (317, 1, 135, 0, 0), (320, 1, 205, 0, 0), (323, 1, 136, 0, 0), (326, 1, 138, 0, 0), (329, 1, 139, 0, 0), (332, 1, 31, 0, 0), (335, 1, 99, 0, 0), (338, 1, 32, 0, 0), (341, 1, 120, 0, 0), (343, 1, 155, 0, 0), (346, 1, 121, 0, 0), (349, 1, 122, 0, 0), (352, 1, 143, 0, 0), (353, 1, 78, 0, 0), (356, 1, 119, 0, 0), (359, 1, 12, 0, 0), (362, 4, 0, 0, 233), (364, 1, 55, 0, 0), (368, 1, 159, 0, 0), (369, 1, 109, 0, 0), (370, 1, 34, 0, 0), (373, 1, 140, 0, 0), (374, 1, 207, 0, 0), (378, 1, 127, 0, 0), (379, 1, 86, 0, 0), (380, 1, 57, 0, 0), (383, 1, 1, 0, 0), (386, 4, 0, 0, 31)]
def gp_12 : List (Nat × gw_E) := [(1, 6, 0, 0, 0), (7, 0, 12, 2, 0), (13, 0, 12, 5, 0), (16, 0, 12, 6, 0), (19, 0, 12, 7, 0), (22, 0, 12, 8, 0), (26, 0, 12, 9, 0), (29, 0, 12, 10, 0), (32, 0, 12, 11, 0), (35, 0, 12, 12, 0), (38, 0, 12, 13, 0), (41, 0, 12, 14, 0), (44, 0, 12, 16, 0), (47, 0, 12, 17, 0), (50, 0, 12, 18, 0), (53, 0, 12, 19, 0), (56, 0, 12, 20, 0), (59, 0, 12, 21, 0), (62, 0, 12, 25, 0), (65, 0, 12, 26, 0), (68, 0, 12, 27, 0), (71, 0, 12, 28, 0), (74, 0, 12, 30, 0), (77, 0, 12, 31, 0), (80, 0, 12, 32, 0), (83, 0, 12, 37, 0), (86, 0, 12, 38, 0), (89, 0, 12, 39, 0), (92, 0, 12, 41, 0), (95, 0, 12, 42, 0), (98, 0, 12, 43, 0), (101, 0, 12, 22, 0), (105, 0, 12, 23, 0), (108, 0, 12, 24, 0), (111, 1, 210, 0, 0), (115, 0, 12, 0, 0), (118, 0, 12, 1, 0), (121, 0, 12, 4, 0), (124, 0, 12, 34, 0), (127, 0, 12, 35, 0), (130, 0, 12, 29, 0), (133, 0, 12, 36, 0), (136, 4, 0, 0, 2), (138, 4, 0, 0, 8), (140, 1, 209, 0, 0), (144, 4, 0, 0, 255), (146, 0, 12, 3, 0), (149, 1, 215, 0, 0), (153, 1, 216, 0, 0), (156, 1, 214, 0, 0), (160, 1, 217, 0, 0), (164, 1, 220, 0, 0), (168, 1, 223, 0, 0), (171, 1, 224, 0, 0), (174, 1, 226, 0, 0), (177, 1, 228, 0, 0), (181, 1, 227, 0, 0), (184, 1, 229, 0, 0), (187, 1, 225, 0, 0), (190, 1, 230, 0, 0), (193, 1, 234, 0, 0), (196, 1, 235, 0, 0), (200, 1, 233, 0, 0), (203, 1, 238, 0, 0), (206, 1, 239, 0, 0), (209, 1, 237, 0, 0), (212, 1, 243, 0, 0), (216, 1, 245, 0, 0), (219, 1, 246, 0, 0), (222, 1, 247, 0, 0), (225, 1, 240, 0, 0), (228, 1, 241, 0, 0), (231, 1, 242, 0, 0), (234, 1, 249, 0, 0), (237, 1, 244, 0, 0), (240, 1, 248, 0, 0), (243, 0, 12, 15, 0), (246, 1, 256, 0, 0), (249, 1, 254, 0, 0), (252, 1, 257, 0, 0), (255, 1, 255, 0, 0), (258, 1, 258, 0, 0), (261, 4, 0, 0, 7), (263, 1, 261, 0, 0), (266, 4, 0, 0, 900), (268, 4, 0, 0, 9), (270, 4, 0, 0, 99), (272, 4, 0, 0, 999), (274, 1, 267, 0, 0), (277, 1, 270, 0, 0), (280, 1, 272, 0, 0), (283, 1, 271, 0, 0), (286, 1, 276, 0, 0), (289, 1, 275, 0, 0), (292, 1, 277, 0, 0), (295, 1, 279, 0, 0), (298, 0, 12, 33, 0), (301, 1, 281, 0, 0), (305, 1, 285, 0, 0), (308, 1, 287, 0, 0), (311, 1, 288, 0, 0), (314, 3, 0, 0, (-1000001)), (315, 1, 290, 0, 0), (318, 1, 292, 0, 0), (321, 1, 294, 0, 0), (324, 1, 297, 0, 0), (327, 1, 298, 0, 0), (330, 4, 0, 0, 20), (332, 0, 12, 40, 0), (335, 1, 305, 0, 0), (338, 1, 302, 0, 0), (341, 1, 303, 0, 0), (344, 1, 304, 0, 0), (348, 4, 0, 0, 7223), (350, 4, 0, 0, 31)]
def gp_13 : List (Nat × gw_E) := [(7, 2, 11, 0, 0), (9, 1, 160, 0, 0), (10, 2, 12, 0, 0), (12, 1, 208, 0, 0), (13, 1, 161, 0, 0), (17, 1, 211, 0, 0), (18, 4, 0, 0, 4294967295), (20, 1, 162, 0, 0), (24, 1, 212, 0, 0), (25, 1, 163, 0, 0), (29, 1, 213, 0, 0), (30, 1, 164, 0, 0), (33, 1, 218, 0, 0), (34, 1, 165, 0, 0), (37, 1, 219, 0, 0), (38, 1, 166, 0, 0), (42, 1, 221, 0, 0), (43, 1, 167, 0, 0), (46, 1, 222, 0, 0), (47, 1, 168, 0, 0), (50, 1, 231, 0, 0), (51, 1, 169, 0, 0), (54, 1, 232, 0, 0), (55, 1, 170, 0, 0), (59, 1, 236, 0, 0), (60, 1, 171, 0, 0), (64, 1, 250, 0, 0), (65, 1, 172, 0, 0), (68, 1, 251, 0, 0), (69, 1, 173, 0, 0), (72, 1, 252, 0, 0), (73, 1, 174, 0, 0), (76, 1, 253, 0, 0), (77, 1, 175, 0, 0), (80, 1, 259, 0, 0), (81, 1, 176, 0, 0), (84, 1, 260, 0, 0), (85, 1, 177, 0, 0), (88, 1, 262, 0, 0), (89, 1, 178, 0, 0), (93, 1, 263, 0, 0), (94, 1, 179, 0, 0), (97, 1, 264, 0, 0), (98, 1, 180, 0, 0), (101, 1, 265, 0, 0), (102, 1, 181, 0, 0), (105, 1, 266, 0, 0), (106, 1, 182, 0, 0), (109, 1, 268, 0, 0), (110, 1, 183, 0, 0), (114, 1, 269, 0, 0), (115, 1, 184, 0, 0), (118, 1, 273, 0, 0), (119, 1, 185, 0, 0), (122, 1, 274, 0, 0), (123, 1, 186, 0, 0), (126, 1, 278, 0, 0), (127, 1, 187, 0, 0), (130, 1, 280, 0, 0), (131, 1, 188, 0, 0), (134, 1, 282, 0, 0), (135, 1, 189, 0, 0), (138, 1, 283, 0, 0), (139, 1, 190, 0, 0), (142, 1, 284, 0, 0), (143, 1, 191, 0, 0), (146, 1, 286, 0, 0), (147, 1, 192, 0, 0), (150, 1, 289, 0, 0), (151, 1, 193, 0, 0), (154, 1, 291, 0, 0), (155, 1, 194, 0, 0), (158, 1, 293, 0, 0), (159, 1, 195, 0, 0), (162, 1, 295, 0, 0), (163, 1, 196, 0, 0), (166, 1, 296, 0, 0), (167, 1, 197, 0, 0), (170, 1, 299, 0, 0), (171, 1, 198, 0, 0), (174, 1, 300, 0, 0), (175, 1, 199, 0, 0), (178, 1, 301, 0, 0), (179, 1, 200, 0, 0), (182, 1, 306, 0, 0), (183, 1, 201, 0, 0), (186, 1, 307, 0, 0), (187, 1, 202, 0, 0), (191, 1, 308, 0, 0)]
def gp_14 : List (Nat × gw_E) := []
def gp_15 : List (Nat × gw_E) := []
def gw_poolL : List (List (Nat × gw_E)) := [gp_0, gp_1, gp_2, gp_3, gp_4, gp_5, gp_6, gp_7, gp_8, gp_9, gp_10, gp_11, gp_12, gp_13, gp_14, gp_15]
def gw_pool (c i : Nat) : Option gw_E := match gw_poolL[c]? with | some l => l.lookup i | none => none
def gk_0 : List (Nat × gw_I) := [(0, .aload_n 0, 1, 0, 0), (1, .invokespecial 3, 3, 0, 0), (4, .aload_n 0, 1, 0, 0), (5, .bipush 64, 2, 0, 64), (7, .newarray .int, 2, 0, 0), (9, .putfield 11, 3, 0, 0), (12, .aload_n 0, 1, 0, 0), (13, .bipush 64, 2, 0, 64), (15, .newarray .int, 2, 0, 0), (17, .putfield 17, 3, 0, 0), (20, .aload_n 0, 1, 0, 0), (21, .bipush 64, 2, 0, 64), (23, .newarray .int, 2, 0, 0), (25, .putfield 20, 3, 0, 0), (28, .aload_n 0, 1, 0, 0), (29, .aload_n 1, 1, 0, 0), (30, .putfield 23, 3, 0, 0), (33, .aload_n 0, 1, 0, 0), (34, .aload_n 2, 1, 0, 0), (35, .putfield 27, 3, 0, 0), (38, .return_, 1, 0, 0)]
def gm_0 : gw_M := (0, ⟨"GlassWires$Cells", "<init>", "(LGlassWires$Grid;LGlassWires$Net;)V"⟩, prog_2_method_1_code, 3, none, 2, 2, 1, gk_0)
def gk_1 : List (Nat × gw_I) := [(0, .aload_n 0, 1, 0, 0), (1, .getfield 11, 3, 0, 0), (4, .iconst (-1), 1, 0, (-1)), (5, .invokestatic 31, 3, 0, 0), (8, .aload_n 0, 1, 0, 0), (9, .iconst 0, 1, 0, 0), (10, .putfield 37, 3, 0, 0), (13, .iconst 0, 1, 0, 0), (14, .istore_n 1, 1, 0, 0), (15, .iload_n 1, 1, 0, 0), (16, .aload_n 0, 1, 0, 0), (17, .getfield 23, 3, 0, 0), (20, .invokevirtual 41, 3, 0, 0), (23, .if_icmp .ge 40, 3, 63, 0), (26, .aload_n 0, 1, 0, 0), (27, .getfield 11, 3, 0, 0), (30, .iload_n 1, 1, 0, 0), (31, .iaload, 1, 0, 0), (32, .iconst (-1), 1, 0, (-1)), (33, .if_icmp .ne 24, 3, 57, 0), (36, .aload_n 0, 1, 0, 0), (37, .getfield 17, 3, 0, 0), (40, .iload_n 1, 1, 0, 0), (41, .aload_n 0, 1, 0, 0), (42, .iload_n 1, 1, 0, 0), (43, .invokevirtual 45, 3, 0, 0), (46, .iastore, 1, 0, 0), (47, .aload_n 0, 1, 0, 0), (48, .dup, 1, 0, 0), (49, .getfield 37, 3, 0, 0), (52, .iconst 1, 1, 0, 1), (53, .iadd, 1, 0, 0), (54, .putfield 37, 3, 0, 0), (57, .iinc 1 1, 3, 0, 1), (60, .goto (-45), 3, 15, 0), (63, .return_, 1, 0, 0)]
def gm_1 : gw_M := (0, ⟨"GlassWires$Cells", "find", "()V"⟩, prog_2_method_2_code, 2, none, 0, 0, 5, gk_1)
def gk_2 : List (Nat × gw_I) := [(0, .aload_n 0, 1, 0, 0), (1, .getfield 11, 3, 0, 0), (4, .iload_n 1, 1, 0, 0), (5, .iload_n 1, 1, 0, 0), (6, .iastore, 1, 0, 0), (7, .aload_n 0, 1, 0, 0), (8, .getfield 20, 3, 0, 0), (11, .iconst 0, 1, 0, 0), (12, .iload_n 1, 1, 0, 0), (13, .iastore, 1, 0, 0), (14, .iconst 1, 1, 0, 1), (15, .istore_n 2, 1, 0, 0), (16, .iconst 0, 1, 0, 0), (17, .istore_n 3, 1, 0, 0), (18, .iload_n 3, 1, 0, 0), (19, .iload_n 2, 1, 0, 0), (20, .if_icmp .ge 114, 3, 134, 0), (23, .iload_n 3, 1, 0, 0), (24, .bipush 64, 2, 0, 64), (26, .if_icmp .ge 108, 3, 134, 0), (29, .iconst 0, 1, 0, 0), (30, .istore 4, 2, 0, 0), (32, .iload 4, 2, 0, 0), (34, .iconst 4, 1, 0, 4), (35, .if_icmp .ge 93, 3, 128, 0), (38, .aload_n 0, 1, 0, 0), (39, .getfield 23, 3, 0, 0), (42, .aload_n 0, 1, 0, 0), (43, .getfield 20, 3, 0, 0), (46, .iload_n 3, 1, 0, 0), (47, .iaload, 1, 0, 0), (48, .iload 4, 2, 0, 0), (50, .invokevirtual 49, 3, 0, 0), (53, .istore 5, 2, 0, 0), (55, .iload 5, 2, 0, 0), (57, .iconst (-1), 1, 0, (-1)), (58, .if_icmp .eq 64, 3, 122, 0), (61, .aload_n 0, 1, 0, 0), (62, .getfield 11, 3, 0, 0), (65, .iload 5, 2, 0, 0), (67, .iaload, 1, 0, 0), (68, .iconst (-1), 1, 0, (-1)), (69, .if_icmp .ne 53, 3, 122, 0), (72, .iload_n 2, 1, 0, 0), (73, .bipush 64, 2, 0, 64), (75, .if_icmp .ge 47, 3, 122, 0), (78, .aload_n 0, 1, 0, 0), (79, .getfield 27, 3, 0, 0), (82, .aload_n 0, 1, 0, 0), (83, .getfield 23, 3, 0, 0), (86, .aload_n 0, 1, 0, 0), (87, .getfield 20, 3, 0, 0), (90, .iload_n 3, 1, 0, 0), (91, .iaload, 1, 0, 0), (92, .iload 4, 2, 0, 0), (94, .invokevirtual 53, 3, 0, 0), (97, .invokevirtual 56, 3, 0, 0), (100, .ifCond .eq 22, 3, 122, 0), (103, .aload_n 0, 1, 0, 0), (104, .getfield 11, 3, 0, 0), (107, .iload 5, 2, 0, 0), (109, .iload_n 1, 1, 0, 0), (110, .iastore, 1, 0, 0), (111, .aload_n 0, 1, 0, 0), (112, .getfield 20, 3, 0, 0), (115, .iload_n 2, 1, 0, 0), (116, .iload 5, 2, 0, 0), (118, .iastore, 1, 0, 0), (119, .iinc 2 1, 3, 0, 1), (122, .iinc 4 1, 3, 0, 1), (125, .goto (-93), 3, 32, 0), (128, .iinc 3 1, 3, 0, 1), (131, .goto (-113), 3, 18, 0), (134, .iload_n 2, 1, 0, 0), (135, .ireturn, 1, 0, 0)]
def gm_2 : gw_M := (0, ⟨"GlassWires$Cells", "spread", "(I)I"⟩, prog_2_method_3_code, 6, (some .int), 1, 0, 4, gk_2)
def gk_3 : List (Nat × gw_I) := [(0, .aload_n 0, 1, 0, 0), (1, .getfield 37, 3, 0, 0), (4, .ireturn, 1, 0, 0)]
def gm_3 : gw_M := (0, ⟨"GlassWires$Cells", "total", "()I"⟩, prog_2_method_4_code, 1, (some .int), 0, 0, 1, gk_3)
def gk_4 : List (Nat × gw_I) := [(0, .aload_n 0, 1, 0, 0), (1, .getfield 11, 3, 0, 0), (4, .iload_n 1, 1, 0, 0), (5, .iaload, 1, 0, 0), (6, .ireturn, 1, 0, 0)]
def gm_4 : gw_M := (0, ⟨"GlassWires$Cells", "of", "(I)I"⟩, prog_2_method_5_code, 2, (some .int), 1, 0, 1, gk_4)
def gk_5 : List (Nat × gw_I) := [(0, .iload_n 1, 1, 0, 0), (1, .ifCond .lt 23, 3, 24, 0), (4, .iload_n 1, 1, 0, 0), (5, .bipush 64, 2, 0, 64), (7, .if_icmp .ge 17, 3, 24, 0), (10, .aload_n 0, 1, 0, 0), (11, .getfield 11, 3, 0, 0), (14, .iload_n 1, 1, 0, 0), (15, .iaload, 1, 0, 0), (16, .iload_n 1, 1, 0, 0), (17, .if_icmp .ne 7, 3, 24, 0), (20, .iconst 1, 1, 0, 1), (21, .goto 4, 3, 25, 0), (24, .iconst 0, 1, 0, 0), (25, .ireturn, 1, 0, 0)]
def gm_5 : gw_M := (0, ⟨"GlassWires$Cells", "has", "(I)Z"⟩, prog_2_method_6_code, 2, (some .boolean), 1, 0, 1, gk_5)
def gk_6 : List (Nat × gw_I) := [(0, .aload_n 0, 1, 0, 0), (1, .getfield 17, 3, 0, 0), (4, .iload_n 1, 1, 0, 0), (5, .iaload, 1, 0, 0), (6, .ireturn, 1, 0, 0)]
def gm_6 : gw_M := (0, ⟨"GlassWires$Cells", "fieldsOf", "(I)I"⟩, prog_2_method_7_code, 2, (some .int), 1, 0, 1, gk_6)
def gk_7 : List (Nat × gw_I) := [(0, .iconst 0, 1, 0, 0), (1, .istore_n 1, 1, 0, 0), (2, .iconst 0, 1, 0, 0), (3, .istore_n 2, 1, 0, 0), (4, .iload_n 2, 1, 0, 0), (5, .aload_n 0, 1, 0, 0), (6, .getfield 23, 3, 0, 0), (9, .invokevirtual 41, 3, 0, 0), (12, .if_icmp .ge 28, 3, 40, 0), (15, .aload_n 0, 1, 0, 0), (16, .iload_n 2, 1, 0, 0), (17, .invokevirtual 62, 3, 0, 0), (20, .ifCond .eq 14, 3, 34, 0), (23, .iload_n 1, 1, 0, 0), (24, .aload_n 0, 1, 0, 0), (25, .getfield 17, 3, 0, 0), (28, .iload_n 2, 1, 0, 0), (29, .iaload, 1, 0, 0), (30, .invokestatic 65, 3, 0, 0), (33, .istore_n 1, 1, 0, 0), (34, .iinc 2 1, 3, 0, 1), (37, .goto (-33), 3, 4, 0), (40, .iload_n 1, 1, 0, 0), (41, .ireturn, 1, 0, 0)]
def gm_7 : gw_M := (0, ⟨"GlassWires$Cells", "greatest", "()I"⟩, prog_2_method_8_code, 3, (some .int), 0, 0, 2, gk_7)
def gk_8 : List (Nat × gw_I) := [(0, .aload_n 0, 1, 0, 0), (1, .invokespecial 3, 3, 0, 0), (4, .aload_n 0, 1, 0, 0), (5, .bipush 64, 2, 0, 64), (7, .newarray .int, 2, 0, 0), (9, .putfield 11, 3, 0, 0), (12, .aload_n 0, 1, 0, 0), (13, .sipush 768, 3, 0, 768), (16, .newarray .int, 2, 0, 0), (18, .putfield 17, 3, 0, 0), (21, .aload_n 0, 1, 0, 0), (22, .sipush 768, 3, 0, 768), (25, .newarray .int, 2, 0, 0), (27, .putfield 20, 3, 0, 0), (30, .aload_n 0, 1, 0, 0), (31, .sipush 768, 3, 0, 768), (34, .newarray .int, 2, 0, 0), (36, .putfield 23, 3, 0, 0), (39, .aload_n 0, 1, 0, 0), (40, .bipush 64, 2, 0, 64), (42, .newarray .int, 2, 0, 0), (44, .putfield 26, 3, 0, 0), (47, .aload_n 0, 1, 0, 0), (48, .aload_n 1, 1, 0, 0), (49, .putfield 29, 3, 0, 0), (52, .aload_n 0, 1, 0, 0), (53, .aload_n 2, 1, 0, 0), (54, .putfield 33, 3, 0, 0), (57, .aload_n 0, 1, 0, 0), (58, .aload_n 3, 1, 0, 0), (59, .putfield 37, 3, 0, 0), (62, .aload_n 0, 1, 0, 0), (63, .aload 4, 2, 0, 0), (65, .putfield 41, 3, 0, 0), (68, .return_, 1, 0, 0)]
def gm_8 : gw_M := (1, ⟨"GlassWires$Glass", "<init>", "(LGlassWires$Grid;LGlassWires$Net;LGlassWires$Cells;LGlassWires$Palette;)V"⟩, prog_3_method_1_code, 5, none, 4, 2, 1, gk_8)
def gk_9 : List (Nat × gw_I) := [(0, .aload_n 0, 1, 0, 0), (1, .getfield 11, 3, 0, 0), (4, .iconst 0, 1, 0, 0), (5, .invokestatic 45, 3, 0, 0), (8, .aload_n 0, 1, 0, 0), (9, .iconst 0, 1, 0, 0), (10, .putfield 51, 3, 0, 0), (13, .return_, 1, 0, 0)]
def gm_9 : gw_M := (1, ⟨"GlassWires$Glass", "clear", "()V"⟩, prog_3_method_2_code, 1, none, 0, 0, 2, gk_9)
def gk_10 : List (Nat × gw_I) := [(0, .aload_n 0, 1, 0, 0), (1, .getfield 51, 3, 0, 0), (4, .ireturn, 1, 0, 0)]
def gm_10 : gw_M := (1, ⟨"GlassWires$Glass", "firings", "()I"⟩, prog_3_method_3_code, 1, (some .int), 0, 0, 1, gk_10)
def gk_11 : List (Nat × gw_I) := [(0, .aload_n 0, 1, 0, 0), (1, .getfield 11, 3, 0, 0), (4, .iload_n 1, 1, 0, 0), (5, .iaload, 1, 0, 0), (6, .ireturn, 1, 0, 0)]
def gm_11 : gw_M := (1, ⟨"GlassWires$Glass", "layersOn", "(I)I"⟩, prog_3_method_4_code, 2, (some .int), 1, 0, 1, gk_11)
def gk_12 : List (Nat × gw_I) := [(0, .iconst 0, 1, 0, 0), (1, .istore_n 1, 1, 0, 0), (2, .iconst 0, 1, 0, 0), (3, .istore_n 2, 1, 0, 0), (4, .iload_n 2, 1, 0, 0), (5, .aload_n 0, 1, 0, 0), (6, .getfield 29, 3, 0, 0), (9, .invokevirtual 55, 3, 0, 0), (12, .if_icmp .ge 18, 3, 30, 0), (15, .iload_n 1, 1, 0, 0), (16, .aload_n 0, 1, 0, 0), (17, .getfield 11, 3, 0, 0), (20, .iload_n 2, 1, 0, 0), (21, .iaload, 1, 0, 0), (22, .iadd, 1, 0, 0), (23, .istore_n 1, 1, 0, 0), (24, .iinc 2 1, 3, 0, 1), (27, .goto (-23), 3, 4, 0), (30, .iload_n 1, 1, 0, 0), (31, .ireturn, 1, 0, 0)]
def gm_12 : gw_M := (1, ⟨"GlassWires$Glass", "layersInAll", "()I"⟩, prog_3_method_5_code, 3, (some .int), 0, 0, 2, gk_12)
def gk_13 : List (Nat × gw_I) := [(0, .iconst 0, 1, 0, 0), (1, .istore_n 2, 1, 0, 0), (2, .iconst 0, 1, 0, 0), (3, .istore_n 3, 1, 0, 0), (4, .iload_n 3, 1, 0, 0), (5, .aload_n 0, 1, 0, 0), (6, .getfield 11, 3, 0, 0), (9, .iload_n 1, 1, 0, 0), (10, .iaload, 1, 0, 0), (11, .if_icmp .ge 23, 3, 34, 0), (14, .iload_n 2, 1, 0, 0), (15, .aload_n 0, 1, 0, 0), (16, .getfield 20, 3, 0, 0), (19, .bipush 12, 2, 0, 12), (21, .iload_n 1, 1, 0, 0), (22, .imul, 1, 0, 0), (23, .iload_n 3, 1, 0, 0), (24, .iadd, 1, 0, 0), (25, .iaload, 1, 0, 0), (26, .iadd, 1, 0, 0), (27, .istore_n 2, 1, 0, 0), (28, .iinc 3 1, 3, 0, 1), (31, .goto (-27), 3, 4, 0), (34, .iload_n 2, 1, 0, 0), (35, .ireturn, 1, 0, 0)]
def gm_13 : gw_M := (1, ⟨"GlassWires$Glass", "high", "(I)I"⟩, prog_3_method_6_code, 4, (some .int), 1, 0, 1, gk_13)
def gk_14 : List (Nat × gw_I) := [(0, .iload_n 2, 1, 0, 0), (1, .ifCond .lt 13, 3, 14, 0), (4, .iload_n 2, 1, 0, 0), (5, .aload_n 0, 1, 0, 0), (6, .getfield 11, 3, 0, 0), (9, .iload_n 1, 1, 0, 0), (10, .iaload, 1, 0, 0), (11, .if_icmp .lt 5, 3, 16, 0), (14, .iconst (-1), 1, 0, (-1)), (15, .ireturn, 1, 0, 0), (16, .bipush 12, 2, 0, 12), (18, .iload_n 1, 1, 0, 0), (19, .imul, 1, 0, 0), (20, .iload_n 2, 1, 0, 0), (21, .iadd, 1, 0, 0), (22, .istore 4, 2, 0, 0), (24, .iload_n 3, 1, 0, 0), (25, .lookupswitch 43 #[(0, 27), (1, 35)], 27, 0, 0), (52, .aload_n 0, 1, 0, 0), (53, .getfield 17, 3, 0, 0), (56, .iload 4, 2, 0, 0), (58, .iaload, 1, 0, 0), (59, .ireturn, 1, 0, 0), (60, .aload_n 0, 1, 0, 0), (61, .getfield 20, 3, 0, 0), (64, .iload 4, 2, 0, 0), (66, .iaload, 1, 0, 0), (67, .ireturn, 1, 0, 0), (68, .aload_n 0, 1, 0, 0), (69, .getfield 23, 3, 0, 0), (72, .iload 4, 2, 0, 0), (74, .iaload, 1, 0, 0), (75, .ireturn, 1, 0, 0)]
def gm_14 : gw_M := (1, ⟨"GlassWires$Glass", "aboutLayer", "(III)I"⟩, prog_3_method_7_code, 5, (some .int), 3, 0, 1, gk_14)
def gk_15 : List (Nat × gw_I) := [(0, .aload_n 0, 1, 0, 0), (1, .getfield 11, 3, 0, 0), (4, .iload_n 1, 1, 0, 0), (5, .iaload, 1, 0, 0), (6, .ifCond .le 19, 3, 25, 0), (9, .bipush 12, 2, 0, 12), (11, .iload_n 1, 1, 0, 0), (12, .imul, 1, 0, 0), (13, .aload_n 0, 1, 0, 0), (14, .getfield 11, 3, 0, 0), (17, .iload_n 1, 1, 0, 0), (18, .iaload, 1, 0, 0), (19, .iadd, 1, 0, 0), (20, .iconst 1, 1, 0, 1), (21, .isub, 1, 0, 0), (22, .goto 4, 3, 26, 0), (25, .iconst (-1), 1, 0, (-1)), (26, .ireturn, 1, 0, 0)]
def gm_15 : gw_M := (1, ⟨"GlassWires$Glass", "upmost", "(I)I"⟩, prog_3_method_8_code, 2, (some .int), 1, 0, 1, gk_15)
def gk_16 : List (Nat × gw_I) := [(0, .iconst 0, 1, 0, 0), (1, .istore_n 2, 1, 0, 0), (2, .iload_n 2, 1, 0, 0), (3, .aload_n 0, 1, 0, 0), (4, .getfield 29, 3, 0, 0), (7, .invokevirtual 55, 3, 0, 0), (10, .if_icmp .ge 34, 3, 44, 0), (13, .aload_n 0, 1, 0, 0), (14, .getfield 37, 3, 0, 0), (17, .iload_n 2, 1, 0, 0), (18, .invokevirtual 59, 3, 0, 0), (21, .iload_n 1, 1, 0, 0), (22, .if_icmp .ne 16, 3, 38, 0), (25, .aload_n 0, 1, 0, 0), (26, .getfield 11, 3, 0, 0), (29, .iload_n 2, 1, 0, 0), (30, .iaload, 1, 0, 0), (31, .bipush 12, 2, 0, 12), (33, .if_icmp .lt 5, 3, 38, 0), (36, .iconst 0, 1, 0, 0), (37, .ireturn, 1, 0, 0), (38, .iinc 2 1, 3, 0, 1), (41, .goto (-39), 3, 2, 0), (44, .iconst 1, 1, 0, 1), (45, .ireturn, 1, 0, 0)]
def gm_16 : gw_M := (1, ⟨"GlassWires$Glass", "hasRoom", "(I)Z"⟩, prog_3_method_9_code, 3, (some .boolean), 1, 0, 2, gk_16)
def gk_17 : List (Nat × gw_I) := [(0, .iconst 0, 1, 0, 0), (1, .istore 4, 2, 0, 0), (3, .iconst 0, 1, 0, 0), (4, .istore 5, 2, 0, 0), (6, .iload 5, 2, 0, 0), (8, .aload_n 0, 1, 0, 0), (9, .getfield 29, 3, 0, 0), (12, .invokevirtual 55, 3, 0, 0), (15, .if_icmp .ge 87, 3, 102, 0), (18, .aload_n 0, 1, 0, 0), (19, .getfield 37, 3, 0, 0), (22, .iload 5, 2, 0, 0), (24, .invokevirtual 59, 3, 0, 0), (27, .iload_n 1, 1, 0, 0), (28, .if_icmp .ne 68, 3, 96, 0), (31, .aload_n 0, 1, 0, 0), (32, .getfield 11, 3, 0, 0), (35, .iload 5, 2, 0, 0), (37, .iaload, 1, 0, 0), (38, .bipush 12, 2, 0, 12), (40, .if_icmp .ge 56, 3, 96, 0), (43, .bipush 12, 2, 0, 12), (45, .iload 5, 2, 0, 0), (47, .imul, 1, 0, 0), (48, .aload_n 0, 1, 0, 0), (49, .getfield 11, 3, 0, 0), (52, .iload 5, 2, 0, 0), (54, .iaload, 1, 0, 0), (55, .iadd, 1, 0, 0), (56, .istore 6, 2, 0, 0), (58, .aload_n 0, 1, 0, 0), (59, .getfield 17, 3, 0, 0), (62, .iload 6, 2, 0, 0), (64, .iload_n 2, 1, 0, 0), (65, .iastore, 1, 0, 0), (66, .aload_n 0, 1, 0, 0), (67, .getfield 20, 3, 0, 0), (70, .iload 6, 2, 0, 0), (72, .iload_n 3, 1, 0, 0), (73, .iastore, 1, 0, 0), (74, .aload_n 0, 1, 0, 0), (75, .getfield 23, 3, 0, 0), (78, .iload 6, 2, 0, 0), (80, .iconst 0, 1, 0, 0), (81, .iastore, 1, 0, 0), (82, .aload_n 0, 1, 0, 0), (83, .getfield 11, 3, 0, 0), (86, .iload 5, 2, 0, 0), (88, .dup2, 1, 0, 0), (89, .iaload, 1, 0, 0), (90, .iconst 1, 1, 0, 1), (91, .iadd, 1, 0, 0), (92, .iastore, 1, 0, 0), (93, .iinc 4 1, 3, 0, 1), (96, .iinc 5 1, 3, 0, 1), (99, .goto (-93), 3, 6, 0), (102, .iload 4, 2, 0, 0), (104, .ireturn, 1, 0, 0)]
def gm_17 : gw_M := (1, ⟨"GlassWires$Glass", "pour", "(III)I"⟩, prog_3_method_10_code, 7, (some .int), 3, 0, 2, gk_17)
def gk_18 : List (Nat × gw_I) := [(0, .iconst 0, 1, 0, 0), (1, .istore_n 2, 1, 0, 0), (2, .iconst 0, 1, 0, 0), (3, .istore_n 3, 1, 0, 0), (4, .iload_n 3, 1, 0, 0), (5, .aload_n 0, 1, 0, 0), (6, .getfield 29, 3, 0, 0), (9, .invokevirtual 55, 3, 0, 0), (12, .if_icmp .ge 37, 3, 49, 0), (15, .aload_n 0, 1, 0, 0), (16, .getfield 37, 3, 0, 0), (19, .iload_n 3, 1, 0, 0), (20, .invokevirtual 59, 3, 0, 0), (23, .iload_n 1, 1, 0, 0), (24, .if_icmp .ne 19, 3, 43, 0), (27, .iload_n 2, 1, 0, 0), (28, .aload_n 0, 1, 0, 0), (29, .getfield 11, 3, 0, 0), (32, .iload_n 3, 1, 0, 0), (33, .iaload, 1, 0, 0), (34, .iadd, 1, 0, 0), (35, .istore_n 2, 1, 0, 0), (36, .aload_n 0, 1, 0, 0), (37, .getfield 11, 3, 0, 0), (40, .iload_n 3, 1, 0, 0), (41, .iconst 0, 1, 0, 0), (42, .iastore, 1, 0, 0), (43, .iinc 3 1, 3, 0, 1), (46, .goto (-42), 3, 4, 0), (49, .iload_n 2, 1, 0, 0), (50, .ireturn, 1, 0, 0)]
def gm_18 : gw_M := (1, ⟨"GlassWires$Glass", "takeOut", "(I)I"⟩, prog_3_method_11_code, 4, (some .int), 1, 0, 2, gk_18)
def gk_19 : List (Nat × gw_I) := [(0, .iconst 0, 1, 0, 0), (1, .istore_n 2, 1, 0, 0), (2, .iconst 0, 1, 0, 0), (3, .istore_n 3, 1, 0, 0), (4, .iload_n 3, 1, 0, 0), (5, .aload_n 0, 1, 0, 0), (6, .getfield 29, 3, 0, 0), (9, .invokevirtual 55, 3, 0, 0), (12, .if_icmp .ge 59, 3, 71, 0), (15, .iconst 0, 1, 0, 0), (16, .istore 4, 2, 0, 0), (18, .iload 4, 2, 0, 0), (20, .aload_n 0, 1, 0, 0), (21, .getfield 11, 3, 0, 0), (24, .iload_n 3, 1, 0, 0), (25, .iaload, 1, 0, 0), (26, .if_icmp .ge 39, 3, 65, 0), (29, .iload_n 2, 1, 0, 0), (30, .aload_n 0, 1, 0, 0), (31, .bipush 12, 2, 0, 12), (33, .iload_n 3, 1, 0, 0), (34, .imul, 1, 0, 0), (35, .iload 4, 2, 0, 0), (37, .iadd, 1, 0, 0), (38, .iload_n 1, 1, 0, 0), (39, .invokevirtual 65, 3, 0, 0), (42, .invokestatic 69, 3, 0, 0), (45, .iadd, 1, 0, 0), (46, .istore_n 2, 1, 0, 0), (47, .aload_n 0, 1, 0, 0), (48, .bipush 12, 2, 0, 12), (50, .iload_n 3, 1, 0, 0), (51, .imul, 1, 0, 0), (52, .iload 4, 2, 0, 0), (54, .iadd, 1, 0, 0), (55, .iload_n 1, 1, 0, 0), (56, .invokevirtual 73, 3, 0, 0), (59, .iinc 4 1, 3, 0, 1), (62, .goto (-44), 3, 18, 0), (65, .iinc 3 1, 3, 0, 1), (68, .goto (-64), 3, 4, 0), (71, .aload_n 0, 1, 0, 0), (72, .invokevirtual 77, 3, 0, 0), (75, .aload_n 0, 1, 0, 0), (76, .dup, 1, 0, 0), (77, .getfield 51, 3, 0, 0), (80, .iconst 1, 1, 0, 1), (81, .iadd, 1, 0, 0), (82, .putfield 51, 3, 0, 0), (85, .iload_n 2, 1, 0, 0), (86, .ireturn, 1, 0, 0)]
def gm_19 : gw_M := (1, ⟨"GlassWires$Glass", "fireAt", "(I)I"⟩, prog_3_method_12_code, 5, (some .int), 1, 0, 6, gk_19)
def gk_20 : List (Nat × gw_I) := [(0, .aload_n 0, 1, 0, 0), (1, .getfield 23, 3, 0, 0), (4, .iload_n 1, 1, 0, 0), (5, .iaload, 1, 0, 0), (6, .ifCond .ne 20, 3, 26, 0), (9, .aload_n 0, 1, 0, 0), (10, .getfield 41, 3, 0, 0), (13, .aload_n 0, 1, 0, 0), (14, .getfield 17, 3, 0, 0), (17, .iload_n 1, 1, 0, 0), (18, .iaload, 1, 0, 0), (19, .invokevirtual 80, 3, 0, 0), (22, .iload_n 2, 1, 0, 0), (23, .if_icmp .le 5, 3, 28, 0), (26, .iconst 0, 1, 0, 0), (27, .ireturn, 1, 0, 0), (28, .aload_n 0, 1, 0, 0), (29, .getfield 23, 3, 0, 0), (32, .iload_n 1, 1, 0, 0), (33, .iconst 1, 1, 0, 1), (34, .iastore, 1, 0, 0), (35, .aload_n 0, 1, 0, 0), (36, .getfield 20, 3, 0, 0), (39, .iload_n 1, 1, 0, 0), (40, .aload_n 0, 1, 0, 0), (41, .getfield 41, 3, 0, 0), (44, .aload_n 0, 1, 0, 0), (45, .getfield 17, 3, 0, 0), (48, .iload_n 1, 1, 0, 0), (49, .iaload, 1, 0, 0), (50, .aload_n 0, 1, 0, 0), (51, .getfield 20, 3, 0, 0), (54, .iload_n 1, 1, 0, 0), (55, .iaload, 1, 0, 0), (56, .invokevirtual 85, 3, 0, 0), (59, .iastore, 1, 0, 0), (60, .iconst 1, 1, 0, 1), (61, .ireturn, 1, 0, 0)]
def gm_20 : gw_M := (1, ⟨"GlassWires$Glass", "ripen", "(II)Z"⟩, prog_3_method_13_code, 3, (some .boolean), 2, 0, 2, gk_20)
def gk_21 : List (Nat × gw_I) := [(0, .aload_n 0, 1, 0, 0), (1, .getfield 23, 3, 0, 0), (4, .iload_n 1, 1, 0, 0), (5, .iaload, 1, 0, 0), (6, .iconst 1, 1, 0, 1), (7, .if_icmp .ne 27, 3, 34, 0), (10, .aload_n 0, 1, 0, 0), (11, .getfield 41, 3, 0, 0), (14, .aload_n 0, 1, 0, 0), (15, .getfield 17, 3, 0, 0), (18, .iload_n 1, 1, 0, 0), (19, .iaload, 1, 0, 0), (20, .invokevirtual 89, 3, 0, 0), (23, .iload_n 2, 1, 0, 0), (24, .if_icmp .ge 10, 3, 34, 0), (27, .aload_n 0, 1, 0, 0), (28, .getfield 23, 3, 0, 0), (31, .iload_n 1, 1, 0, 0), (32, .iconst 2, 1, 0, 2), (33, .iastore, 1, 0, 0), (34, .return_, 1, 0, 0)]
def gm_21 : gw_M := (1, ⟨"GlassWires$Glass", "burn", "(II)V"⟩, prog_3_method_14_code, 3, none, 2, 0, 3, gk_21)
def gk_22 : List (Nat × gw_I) := [(0, .iconst 0, 1, 0, 0), (1, .istore_n 1, 1, 0, 0), (2, .iload_n 1, 1, 0, 0), (3, .aload_n 0, 1, 0, 0), (4, .getfield 29, 3, 0, 0), (7, .invokevirtual 55, 3, 0, 0), (10, .if_icmp .ge 20, 3, 30, 0), (13, .aload_n 0, 1, 0, 0), (14, .getfield 26, 3, 0, 0), (17, .iload_n 1, 1, 0, 0), (18, .aload_n 0, 1, 0, 0), (19, .iload_n 1, 1, 0, 0), (20, .invokevirtual 92, 3, 0, 0), (23, .iastore, 1, 0, 0), (24, .iinc 1 1, 3, 0, 1), (27, .goto (-25), 3, 2, 0), (30, .iconst 0, 1, 0, 0), (31, .istore_n 1, 1, 0, 0), (32, .iload_n 1, 1, 0, 0), (33, .aload_n 0, 1, 0, 0), (34, .getfield 29, 3, 0, 0), (37, .invokevirtual 55, 3, 0, 0), (40, .if_icmp .ge 53, 3, 93, 0), (43, .aload_n 0, 1, 0, 0), (44, .getfield 26, 3, 0, 0), (47, .iload_n 1, 1, 0, 0), (48, .iaload, 1, 0, 0), (49, .aload_n 0, 1, 0, 0), (50, .getfield 41, 3, 0, 0), (53, .invokevirtual 95, 3, 0, 0), (56, .if_icmp .le 31, 3, 87, 0), (59, .aload_n 0, 1, 0, 0), (60, .iload_n 1, 1, 0, 0), (61, .invokevirtual 98, 3, 0, 0), (64, .ifCond .eq 23, 3, 87, 0), (67, .aload_n 0, 1, 0, 0), (68, .iload_n 1, 1, 0, 0), (69, .aload_n 0, 1, 0, 0), (70, .getfield 26, 3, 0, 0), (73, .iload_n 1, 1, 0, 0), (74, .iaload, 1, 0, 0), (75, .aload_n 0, 1, 0, 0), (76, .getfield 41, 3, 0, 0), (79, .invokevirtual 95, 3, 0, 0), (82, .isub, 1, 0, 0), (83, .invokevirtual 102, 3, 0, 0), (86, .pop, 1, 0, 0), (87, .iinc 1 1, 3, 0, 1), (90, .goto (-58), 3, 32, 0), (93, .return_, 1, 0, 0)]
def gm_22 : gw_M := (1, ⟨"GlassWires$Glass", "runOver", "()V"⟩, prog_3_method_15_code, 2, none, 0, 0, 5, gk_22)
def gk_23 : List (Nat × gw_I) := [(0, .iconst 0, 1, 0, 0), (1, .istore_n 2, 1, 0, 0), (2, .iload_n 2, 1, 0, 0), (3, .iconst 4, 1, 0, 4), (4, .if_icmp .ge 61, 3, 65, 0), (7, .aload_n 0, 1, 0, 0), (8, .getfield 29, 3, 0, 0), (11, .iload_n 1, 1, 0, 0), (12, .iload_n 2, 1, 0, 0), (13, .invokevirtual 105, 3, 0, 0), (16, .istore_n 3, 1, 0, 0), (17, .iload_n 3, 1, 0, 0), (18, .iconst (-1), 1, 0, (-1)), (19, .if_icmp .eq 40, 3, 59, 0), (22, .aload_n 0, 1, 0, 0), (23, .getfield 26, 3, 0, 0), (26, .iload_n 3, 1, 0, 0), (27, .iaload, 1, 0, 0), (28, .aload_n 0, 1, 0, 0), (29, .getfield 41, 3, 0, 0), (32, .invokevirtual 95, 3, 0, 0), (35, .if_icmp .ge 24, 3, 59, 0), (38, .aload_n 0, 1, 0, 0), (39, .getfield 33, 3, 0, 0), (42, .aload_n 0, 1, 0, 0), (43, .getfield 29, 3, 0, 0), (46, .iload_n 1, 1, 0, 0), (47, .iload_n 2, 1, 0, 0), (48, .invokevirtual 108, 3, 0, 0), (51, .invokevirtual 111, 3, 0, 0), (54, .ifCond .ne 5, 3, 59, 0), (57, .iconst 1, 1, 0, 1), (58, .ireturn, 1, 0, 0), (59, .iinc 2 1, 3, 0, 1), (62, .goto (-60), 3, 2, 0), (65, .iconst 0, 1, 0, 0), (66, .ireturn, 1, 0, 0)]
def gm_23 : gw_M := (1, ⟨"GlassWires$Glass", "canRunOver", "(I)Z"⟩, prog_3_method_16_code, 4, (some .boolean), 1, 0, 4, gk_23)
def gk_24 : List (Nat × gw_I) := [(0, .aload_n 0, 1, 0, 0), (1, .iload_n 1, 1, 0, 0), (2, .invokevirtual 116, 3, 0, 0), (5, .istore_n 3, 1, 0, 0), (6, .iload_n 3, 1, 0, 0), (7, .iconst (-1), 1, 0, (-1)), (8, .if_icmp .ne 5, 3, 13, 0), (11, .iconst 0, 1, 0, 0), (12, .ireturn, 1, 0, 0), (13, .iload_n 2, 1, 0, 0), (14, .aload_n 0, 1, 0, 0), (15, .getfield 20, 3, 0, 0), (18, .iload_n 3, 1, 0, 0), (19, .iaload, 1, 0, 0), (20, .invokestatic 119, 3, 0, 0), (23, .istore 4, 2, 0, 0), (25, .aload_n 0, 1, 0, 0), (26, .getfield 20, 3, 0, 0), (29, .iload_n 3, 1, 0, 0), (30, .dup2, 1, 0, 0), (31, .iaload, 1, 0, 0), (32, .iload 4, 2, 0, 0), (34, .isub, 1, 0, 0), (35, .iastore, 1, 0, 0), (36, .aload_n 0, 1, 0, 0), (37, .getfield 20, 3, 0, 0), (40, .iload_n 3, 1, 0, 0), (41, .iaload, 1, 0, 0), (42, .ifCond .ne 13, 3, 55, 0), (45, .aload_n 0, 1, 0, 0), (46, .getfield 11, 3, 0, 0), (49, .iload_n 1, 1, 0, 0), (50, .dup2, 1, 0, 0), (51, .iaload, 1, 0, 0), (52, .iconst 1, 1, 0, 1), (53, .isub, 1, 0, 0), (54, .iastore, 1, 0, 0), (55, .iload 4, 2, 0, 0), (57, .ireturn, 1, 0, 0)]
def gm_24 : gw_M := (1, ⟨"GlassWires$Glass", "takeFromUpmost", "(II)I"⟩, prog_3_method_17_code, 5, (some .int), 2, 0, 2, gk_24)
def gk_25 : List (Nat × gw_I) := [(0, .iconst 0, 1, 0, 0), (1, .istore_n 1, 1, 0, 0), (2, .iconst 0, 1, 0, 0), (3, .istore_n 2, 1, 0, 0), (4, .iload_n 2, 1, 0, 0), (5, .aload_n 0, 1, 0, 0), (6, .getfield 29, 3, 0, 0), (9, .invokevirtual 55, 3, 0, 0), (12, .if_icmp .ge 61, 3, 73, 0), (15, .aload_n 0, 1, 0, 0), (16, .iload_n 2, 1, 0, 0), (17, .invokevirtual 92, 3, 0, 0), (20, .aload_n 0, 1, 0, 0), (21, .getfield 41, 3, 0, 0), (24, .invokevirtual 95, 3, 0, 0), (27, .isub, 1, 0, 0), (28, .istore_n 3, 1, 0, 0), (29, .iconst 0, 1, 0, 0), (30, .istore 4, 2, 0, 0), (32, .iload_n 3, 1, 0, 0), (33, .ifCond .le 34, 3, 67, 0), (36, .iload 4, 2, 0, 0), (38, .bipush 12, 2, 0, 12), (40, .if_icmp .ge 27, 3, 67, 0), (43, .aload_n 0, 1, 0, 0), (44, .iload_n 2, 1, 0, 0), (45, .iload_n 3, 1, 0, 0), (46, .invokevirtual 102, 3, 0, 0), (49, .istore 5, 2, 0, 0), (51, .iload_n 3, 1, 0, 0), (52, .iload 5, 2, 0, 0), (54, .isub, 1, 0, 0), (55, .istore_n 3, 1, 0, 0), (56, .iload_n 1, 1, 0, 0), (57, .iload 5, 2, 0, 0), (59, .iadd, 1, 0, 0), (60, .istore_n 1, 1, 0, 0), (61, .iinc 4 1, 3, 0, 1), (64, .goto (-32), 3, 32, 0), (67, .iinc 2 1, 3, 0, 1), (70, .goto (-66), 3, 4, 0), (73, .iload_n 1, 1, 0, 0), (74, .ireturn, 1, 0, 0)]
def gm_25 : gw_M := (1, ⟨"GlassWires$Glass", "polishAll", "()I"⟩, prog_3_method_18_code, 6, (some .int), 0, 0, 3, gk_25)
def gk_26 : List (Nat × gw_I) := [(0, .iconst 0, 1, 0, 0), (1, .istore_n 2, 1, 0, 0), (2, .iconst 0, 1, 0, 0), (3, .istore_n 3, 1, 0, 0), (4, .iload_n 3, 1, 0, 0), (5, .aload_n 0, 1, 0, 0), (6, .getfield 29, 3, 0, 0), (9, .invokevirtual 55, 3, 0, 0), (12, .if_icmp .ge 56, 3, 68, 0), (15, .iconst 0, 1, 0, 0), (16, .istore 4, 2, 0, 0), (18, .iload 4, 2, 0, 0), (20, .aload_n 0, 1, 0, 0), (21, .getfield 11, 3, 0, 0), (24, .iload_n 3, 1, 0, 0), (25, .iaload, 1, 0, 0), (26, .if_icmp .ge 36, 3, 62, 0), (29, .iload_n 2, 1, 0, 0), (30, .aload_n 0, 1, 0, 0), (31, .getfield 23, 3, 0, 0), (34, .bipush 12, 2, 0, 12), (36, .iload_n 3, 1, 0, 0), (37, .imul, 1, 0, 0), (38, .iload 4, 2, 0, 0), (40, .iadd, 1, 0, 0), (41, .iaload, 1, 0, 0), (42, .iload_n 1, 1, 0, 0), (43, .if_icmp .ne 7, 3, 50, 0), (46, .iconst 1, 1, 0, 1), (47, .goto 4, 3, 51, 0), (50, .iconst 0, 1, 0, 0), (51, .invokestatic 69, 3, 0, 0), (54, .iadd, 1, 0, 0), (55, .istore_n 2, 1, 0, 0), (56, .iinc 4 1, 3, 0, 1), (59, .goto (-41), 3, 18, 0), (62, .iinc 3 1, 3, 0, 1), (65, .goto (-61), 3, 4, 0), (68, .iload_n 2, 1, 0, 0), (69, .ireturn, 1, 0, 0)]
def gm_26 : gw_M := (1, ⟨"GlassWires$Glass", "layersThatAre", "(I)I"⟩, prog_3_method_19_code, 5, (some .int), 1, 0, 2, gk_26)
def gk_27 : List (Nat × gw_I) := [(0, .iconst 0, 1, 0, 0), (1, .istore_n 1, 1, 0, 0), (2, .iconst 0, 1, 0, 0), (3, .istore_n 2, 1, 0, 0), (4, .iload_n 2, 1, 0, 0), (5, .aload_n 0, 1, 0, 0), (6, .getfield 29, 3, 0, 0), (9, .invokevirtual 55, 3, 0, 0), (12, .if_icmp .ge 35, 3, 47, 0), (15, .iload_n 1, 1, 0, 0), (16, .aload_n 0, 1, 0, 0), (17, .iload_n 2, 1, 0, 0), (18, .invokevirtual 92, 3, 0, 0), (21, .aload_n 0, 1, 0, 0), (22, .getfield 41, 3, 0, 0), (25, .invokevirtual 95, 3, 0, 0), (28, .if_icmp .lt 7, 3, 35, 0), (31, .iconst 1, 1, 0, 1), (32, .goto 4, 3, 36, 0), (35, .iconst 0, 1, 0, 0), (36, .invokestatic 69, 3, 0, 0), (39, .iadd, 1, 0, 0), (40, .istore_n 1, 1, 0, 0), (41, .iinc 2 1, 3, 0, 1), (44, .goto (-40), 3, 4, 0), (47, .iload_n 1, 1, 0, 0), (48, .ireturn, 1, 0, 0)]
def gm_27 : gw_M := (1, ⟨"GlassWires$Glass", "fieldsAtWall", "()I"⟩, prog_3_method_20_code, 3, (some .int), 0, 0, 2, gk_27)
def gk_28 : List (Nat × gw_I) := [(0, .iconst 0, 1, 0, 0), (1, .istore_n 1, 1, 0, 0), (2, .iconst 0, 1, 0, 0), (3, .istore_n 2, 1, 0, 0), (4, .iload_n 2, 1, 0, 0), (5, .aload_n 0, 1, 0, 0), (6, .getfield 29, 3, 0, 0), (9, .invokevirtual 55, 3, 0, 0), (12, .if_icmp .ge 31, 3, 43, 0), (15, .iload_n 1, 1, 0, 0), (16, .aload_n 0, 1, 0, 0), (17, .iload_n 2, 1, 0, 0), (18, .iconst 0, 1, 0, 0), (19, .invokevirtual 124, 3, 0, 0), (22, .invokestatic 69, 3, 0, 0), (25, .aload_n 0, 1, 0, 0), (26, .iload_n 2, 1, 0, 0), (27, .iconst 1, 1, 0, 1), (28, .invokevirtual 124, 3, 0, 0), (31, .invokestatic 69, 3, 0, 0), (34, .iadd, 1, 0, 0), (35, .iadd, 1, 0, 0), (36, .istore_n 1, 1, 0, 0), (37, .iinc 2 1, 3, 0, 1), (40, .goto (-36), 3, 4, 0), (43, .iload_n 1, 1, 0, 0), (44, .ireturn, 1, 0, 0)]
def gm_28 : gw_M := (1, ⟨"GlassWires$Glass", "bleedingEdges", "()I"⟩, prog_3_method_21_code, 3, (some .int), 0, 0, 5, gk_28)
def gk_29 : List (Nat × gw_I) := [(0, .aload_n 0, 1, 0, 0), (1, .getfield 29, 3, 0, 0), (4, .iload_n 1, 1, 0, 0), (5, .iload_n 2, 1, 0, 0), (6, .invokevirtual 105, 3, 0, 0), (9, .istore_n 3, 1, 0, 0), (10, .iload_n 3, 1, 0, 0), (11, .iconst (-1), 1, 0, (-1)), (12, .if_icmp .eq 21, 3, 33, 0), (15, .aload_n 0, 1, 0, 0), (16, .iload_n 1, 1, 0, 0), (17, .invokevirtual 116, 3, 0, 0), (20, .iconst (-1), 1, 0, (-1)), (21, .if_icmp .eq 12, 3, 33, 0), (24, .aload_n 0, 1, 0, 0), (25, .iload_n 3, 1, 0, 0), (26, .invokevirtual 116, 3, 0, 0), (29, .iconst (-1), 1, 0, (-1)), (30, .if_icmp .ne 5, 3, 35, 0), (33, .iconst 0, 1, 0, 0), (34, .ireturn, 1, 0, 0), (35, .aload_n 0, 1, 0, 0), (36, .getfield 41, 3, 0, 0), (39, .aload_n 0, 1, 0, 0), (40, .getfield 17, 3, 0, 0), (43, .aload_n 0, 1, 0, 0), (44, .iload_n 1, 1, 0, 0), (45, .invokevirtual 116, 3, 0, 0), (48, .iaload, 1, 0, 0), (49, .aload_n 0, 1, 0, 0), (50, .getfield 17, 3, 0, 0), (53, .aload_n 0, 1, 0, 0), (54, .iload_n 3, 1, 0, 0), (55, .invokevirtual 116, 3, 0, 0), (58, .iaload, 1, 0, 0), (59, .invokevirtual 127, 3, 0, 0), (62, .ifCond .eq 26, 3, 88, 0), (65, .aload_n 0, 1, 0, 0), (66, .getfield 33, 3, 0, 0), (69, .aload_n 0, 1, 0, 0), (70, .getfield 29, 3, 0, 0), (73, .iload_n 1, 1, 0, 0), (74, .iload_n 2, 1, 0, 0), (75, .invokevirtual 108, 3, 0, 0), (78, .invokevirtual 130, 3, 0, 0), (81, .ifCond .ne 7, 3, 88, 0), (84, .iconst 1, 1, 0, 1), (85, .goto 4, 3, 89, 0), (88, .iconst 0, 1, 0, 0), (89, .ireturn, 1, 0, 0)]
def gm_29 : gw_M := (1, ⟨"GlassWires$Glass", "bleeds", "(II)Z"⟩, prog_3_method_22_code, 4, (some .boolean), 2, 0, 4, gk_29)
def gk_30 : List (Nat × gw_I) := [(0, .iconst 0, 1, 0, 0), (1, .istore_n 1, 1, 0, 0), (2, .iconst 0, 1, 0, 0), (3, .istore_n 2, 1, 0, 0), (4, .iload_n 2, 1, 0, 0), (5, .aload_n 0, 1, 0, 0), (6, .getfield 29, 3, 0, 0), (9, .invokevirtual 55, 3, 0, 0), (12, .if_icmp .ge 70, 3, 82, 0), (15, .iconst 0, 1, 0, 0), (16, .istore_n 3, 1, 0, 0), (17, .iload_n 3, 1, 0, 0), (18, .aload_n 0, 1, 0, 0), (19, .getfield 11, 3, 0, 0), (22, .iload_n 2, 1, 0, 0), (23, .iaload, 1, 0, 0), (24, .if_icmp .ge 52, 3, 76, 0), (27, .bipush 12, 2, 0, 12), (29, .iload_n 2, 1, 0, 0), (30, .imul, 1, 0, 0), (31, .iload_n 3, 1, 0, 0), (32, .iadd, 1, 0, 0), (33, .istore 4, 2, 0, 0), (35, .aload_n 0, 1, 0, 0), (36, .getfield 23, 3, 0, 0), (39, .iload 4, 2, 0, 0), (41, .iaload, 1, 0, 0), (42, .ifCond .eq 28, 3, 70, 0), (45, .iload_n 1, 1, 0, 0), (46, .aload_n 0, 1, 0, 0), (47, .getfield 20, 3, 0, 0), (50, .iload 4, 2, 0, 0), (52, .iaload, 1, 0, 0), (53, .aload_n 0, 1, 0, 0), (54, .getfield 41, 3, 0, 0), (57, .aload_n 0, 1, 0, 0), (58, .getfield 17, 3, 0, 0), (61, .iload 4, 2, 0, 0), (63, .iaload, 1, 0, 0), (64, .invokevirtual 133, 3, 0, 0), (67, .imul, 1, 0, 0), (68, .iadd, 1, 0, 0), (69, .istore_n 1, 1, 0, 0), (70, .iinc 3 1, 3, 0, 1), (73, .goto (-56), 3, 17, 0), (76, .iinc 2 1, 3, 0, 1), (79, .goto (-75), 3, 4, 0), (82, .iload_n 1, 1, 0, 0), (83, .ireturn, 1, 0, 0)]
def gm_30 : gw_M := (1, ⟨"GlassWires$Glass", "frontPull", "()I"⟩, prog_3_method_23_code, 5, (some .int), 0, 0, 2, gk_30)
def gk_31 : List (Nat × gw_I) := [(0, .iconst 0, 1, 0, 0), (1, .istore_n 3, 1, 0, 0), (2, .iconst 0, 1, 0, 0), (3, .istore 4, 2, 0, 0), (5, .iload 4, 2, 0, 0), (7, .aload_n 0, 1, 0, 0), (8, .getfield 29, 3, 0, 0), (11, .invokevirtual 55, 3, 0, 0), (14, .if_icmp .ge 48, 3, 62, 0), (17, .aload_n 0, 1, 0, 0), (18, .getfield 37, 3, 0, 0), (21, .iload 4, 2, 0, 0), (23, .invokevirtual 136, 3, 0, 0), (26, .ifCond .eq 30, 3, 56, 0), (29, .iload 4, 2, 0, 0), (31, .iload_n 1, 1, 0, 0), (32, .if_icmp .eq 24, 3, 56, 0), (35, .iload_n 3, 1, 0, 0), (36, .aload_n 0, 1, 0, 0), (37, .iload 4, 2, 0, 0), (39, .invokevirtual 139, 3, 0, 0), (42, .iload_n 2, 1, 0, 0), (43, .if_icmp .ge 7, 3, 50, 0), (46, .iconst 1, 1, 0, 1), (47, .goto 4, 3, 51, 0), (50, .iconst 0, 1, 0, 0), (51, .invokestatic 69, 3, 0, 0), (54, .iadd, 1, 0, 0), (55, .istore_n 3, 1, 0, 0), (56, .iinc 4 1, 3, 0, 1), (59, .goto (-54), 3, 5, 0), (62, .iload_n 3, 1, 0, 0), (63, .ireturn, 1, 0, 0)]
def gm_31 : gw_M := (1, ⟨"GlassWires$Glass", "harmedCells", "(II)I"⟩, prog_3_method_24_code, 5, (some .int), 2, 0, 4, gk_31)
def gk_32 : List (Nat × gw_I) := [(0, .sipush 999, 3, 0, 999), (3, .istore_n 2, 1, 0, 0), (4, .iconst 0, 1, 0, 0), (5, .istore_n 3, 1, 0, 0), (6, .iload_n 3, 1, 0, 0), (7, .aload_n 0, 1, 0, 0), (8, .getfield 29, 3, 0, 0), (11, .invokevirtual 55, 3, 0, 0), (14, .if_icmp .ge 35, 3, 49, 0), (17, .aload_n 0, 1, 0, 0), (18, .getfield 37, 3, 0, 0), (21, .iload_n 3, 1, 0, 0), (22, .invokevirtual 136, 3, 0, 0), (25, .ifCond .eq 18, 3, 43, 0), (28, .iload_n 3, 1, 0, 0), (29, .iload_n 1, 1, 0, 0), (30, .if_icmp .eq 13, 3, 43, 0), (33, .iload_n 2, 1, 0, 0), (34, .aload_n 0, 1, 0, 0), (35, .iload_n 3, 1, 0, 0), (36, .invokevirtual 139, 3, 0, 0), (39, .invokestatic 119, 3, 0, 0), (42, .istore_n 2, 1, 0, 0), (43, .iinc 3 1, 3, 0, 1), (46, .goto (-40), 3, 6, 0), (49, .iload_n 2, 1, 0, 0), (50, .ireturn, 1, 0, 0)]
def gm_32 : gw_M := (1, ⟨"GlassWires$Glass", "harmlessHeat", "(I)I"⟩, prog_3_method_25_code, 4, (some .int), 1, 0, 4, gk_32)
def gk_33 : List (Nat × gw_I) := [(0, .sipush 999, 3, 0, 999), (3, .istore_n 2, 1, 0, 0), (4, .iconst 0, 1, 0, 0), (5, .istore_n 3, 1, 0, 0), (6, .iload_n 3, 1, 0, 0), (7, .aload_n 0, 1, 0, 0), (8, .getfield 29, 3, 0, 0), (11, .invokevirtual 55, 3, 0, 0), (14, .if_icmp .ge 64, 3, 78, 0), (17, .aload_n 0, 1, 0, 0), (18, .iload_n 3, 1, 0, 0), (19, .invokevirtual 116, 3, 0, 0), (22, .istore 4, 2, 0, 0), (24, .aload_n 0, 1, 0, 0), (25, .getfield 37, 3, 0, 0), (28, .iload_n 3, 1, 0, 0), (29, .invokevirtual 59, 3, 0, 0), (32, .iload_n 1, 1, 0, 0), (33, .if_icmp .ne 39, 3, 72, 0), (36, .iload 4, 2, 0, 0), (38, .iconst (-1), 1, 0, (-1)), (39, .if_icmp .eq 33, 3, 72, 0), (42, .aload_n 0, 1, 0, 0), (43, .getfield 23, 3, 0, 0), (46, .iload 4, 2, 0, 0), (48, .iaload, 1, 0, 0), (49, .iconst 1, 1, 0, 1), (50, .if_icmp .ne 22, 3, 72, 0), (53, .iload_n 2, 1, 0, 0), (54, .aload_n 0, 1, 0, 0), (55, .getfield 41, 3, 0, 0), (58, .aload_n 0, 1, 0, 0), (59, .getfield 17, 3, 0, 0), (62, .iload 4, 2, 0, 0), (64, .iaload, 1, 0, 0), (65, .invokevirtual 89, 3, 0, 0), (68, .invokestatic 119, 3, 0, 0), (71, .istore_n 2, 1, 0, 0), (72, .iinc 3 1, 3, 0, 1), (75, .goto (-69), 3, 6, 0), (78, .iload_n 2, 1, 0, 0), (79, .ireturn, 1, 0, 0)]
def gm_33 : gw_M := (1, ⟨"GlassWires$Glass", "bearableHeat", "(I)I"⟩, prog_3_method_26_code, 5, (some .int), 1, 0, 3, gk_33)
def gk_34 : List (Nat × gw_I) := [(0, .lload_n 1, 1, 0, 0), (1, .lstore_n 3, 1, 0, 0), (2, .iconst 0, 1, 0, 0), (3, .istore 5, 2, 0, 0), (5, .iload 5, 2, 0, 0), (7, .aload_n 0, 1, 0, 0), (8, .getfield 29, 3, 0, 0), (11, .invokevirtual 55, 3, 0, 0), (14, .if_icmp .ge 75, 3, 89, 0), (17, .iconst 0, 1, 0, 0), (18, .istore 6, 2, 0, 0), (20, .iload 6, 2, 0, 0), (22, .aload_n 0, 1, 0, 0), (23, .getfield 11, 3, 0, 0), (26, .iload 5, 2, 0, 0), (28, .iaload, 1, 0, 0), (29, .if_icmp .ge 54, 3, 83, 0), (32, .bipush 12, 2, 0, 12), (34, .iload 5, 2, 0, 0), (36, .imul, 1, 0, 0), (37, .iload 6, 2, 0, 0), (39, .iadd, 1, 0, 0), (40, .istore 7, 2, 0, 0), (42, .lload_n 3, 1, 0, 0), (43, .aload_n 0, 1, 0, 0), (44, .getfield 17, 3, 0, 0), (47, .iload 7, 2, 0, 0), (49, .iaload, 1, 0, 0), (50, .i2l, 1, 0, 0), (51, .invokestatic 140, 3, 0, 0), (54, .aload_n 0, 1, 0, 0), (55, .getfield 20, 3, 0, 0), (58, .iload 7, 2, 0, 0), (60, .iaload, 1, 0, 0), (61, .i2l, 1, 0, 0), (62, .invokestatic 140, 3, 0, 0), (65, .aload_n 0, 1, 0, 0), (66, .getfield 23, 3, 0, 0), (69, .iload 7, 2, 0, 0), (71, .iaload, 1, 0, 0), (72, .i2l, 1, 0, 0), (73, .invokestatic 140, 3, 0, 0), (76, .lstore_n 3, 1, 0, 0), (77, .iinc 6 1, 3, 0, 1), (80, .goto (-60), 3, 20, 0), (83, .iinc 5 1, 3, 0, 1), (86, .goto (-81), 3, 5, 0), (89, .lload_n 3, 1, 0, 0), (90, .lreturn, 1, 0, 0)]
def gm_34 : gw_M := (1, ⟨"GlassWires$Glass", "digestLayersOn", "(J)J"⟩, prog_3_method_27_code, 8, (some .long), 1, 0, 2, gk_34)
def gk_35 : List (Nat × gw_I) := [(0, .aload_n 0, 1, 0, 0), (1, .invokespecial 5, 3, 0, 0), (4, .aload_n 0, 1, 0, 0), (5, .bipush 64, 2, 0, 64), (7, .newarray .int, 2, 0, 0), (9, .putfield 11, 3, 0, 0), (12, .aload_n 0, 1, 0, 0), (13, .bipush 64, 2, 0, 64), (15, .newarray .int, 2, 0, 0), (17, .putfield 15, 3, 0, 0), (20, .aload_n 0, 1, 0, 0), (21, .iconst 4, 1, 0, 4), (22, .iconst 4, 1, 0, 4), (23, .invokevirtual 18, 3, 0, 0), (26, .return_, 1, 0, 0)]
def gm_35 : gw_M := (2, ⟨"GlassWires$Grid", "<init>", "()V"⟩, prog_4_method_1_code, 1, none, 0, 2, 2, gk_35)
def gk_36 : List (Nat × gw_I) := [(0, .iload_n 0, 1, 0, 0), (1, .iconst 2, 1, 0, 2), (2, .if_icmp .lt 13, 3, 15, 0), (5, .iload_n 0, 1, 0, 0), (6, .bipush 8, 2, 0, 8), (8, .if_icmp .gt 7, 3, 15, 0), (11, .iconst 1, 1, 0, 1), (12, .goto 4, 3, 16, 0), (15, .iconst 0, 1, 0, 0), (16, .ireturn, 1, 0, 0)]
def gm_36 : gw_M := (2, ⟨"GlassWires$Grid", "allows", "(I)Z"⟩, prog_4_method_2_code, 1, (some .boolean), 1, 1, 1, gk_36)
def gk_37 : List (Nat × gw_I) := [(0, .aload_n 0, 1, 0, 0), (1, .iload_n 1, 1, 0, 0), (2, .putfield 22, 3, 0, 0), (5, .aload_n 0, 1, 0, 0), (6, .iload_n 2, 1, 0, 0), (7, .putfield 26, 3, 0, 0), (10, .iconst 0, 1, 0, 0), (11, .istore_n 3, 1, 0, 0), (12, .iload_n 3, 1, 0, 0), (13, .iload_n 2, 1, 0, 0), (14, .if_icmp .ge 62, 3, 76, 0), (17, .iload_n 3, 1, 0, 0), (18, .bipush 8, 2, 0, 8), (20, .if_icmp .ge 56, 3, 76, 0), (23, .iconst 0, 1, 0, 0), (24, .istore 4, 2, 0, 0), (26, .iload 4, 2, 0, 0), (28, .iload_n 1, 1, 0, 0), (29, .if_icmp .ge 41, 3, 70, 0), (32, .iload 4, 2, 0, 0), (34, .bipush 8, 2, 0, 8), (36, .if_icmp .ge 34, 3, 70, 0), (39, .aload_n 0, 1, 0, 0), (40, .getfield 11, 3, 0, 0), (43, .iload_n 1, 1, 0, 0), (44, .iload_n 3, 1, 0, 0), (45, .imul, 1, 0, 0), (46, .iload 4, 2, 0, 0), (48, .iadd, 1, 0, 0), (49, .iload 4, 2, 0, 0), (51, .iastore, 1, 0, 0), (52, .aload_n 0, 1, 0, 0), (53, .getfield 15, 3, 0, 0), (56, .iload_n 1, 1, 0, 0), (57, .iload_n 3, 1, 0, 0), (58, .imul, 1, 0, 0), (59, .iload 4, 2, 0, 0), (61, .iadd, 1, 0, 0), (62, .iload_n 3, 1, 0, 0), (63, .iastore, 1, 0, 0), (64, .iinc 4 1, 3, 0, 1), (67, .goto (-41), 3, 26, 0), (70, .iinc 3 1, 3, 0, 1), (73, .goto (-61), 3, 12, 0), (76, .return_, 1, 0, 0)]
def gm_37 : gw_M := (2, ⟨"GlassWires$Grid", "resize", "(II)V"⟩, prog_4_method_3_code, 5, none, 2, 0, 1, gk_37)
def gk_38 : List (Nat × gw_I) := [(0, .aload_n 0, 1, 0, 0), (1, .getfield 22, 3, 0, 0), (4, .ireturn, 1, 0, 0)]
def gm_38 : gw_M := (2, ⟨"GlassWires$Grid", "wide", "()I"⟩, prog_4_method_4_code, 1, (some .int), 0, 0, 1, gk_38)
def gk_39 : List (Nat × gw_I) := [(0, .aload_n 0, 1, 0, 0), (1, .getfield 26, 3, 0, 0), (4, .ireturn, 1, 0, 0)]
def gm_39 : gw_M := (2, ⟨"GlassWires$Grid", "high", "()I"⟩, prog_4_method_5_code, 1, (some .int), 0, 0, 1, gk_39)
def gk_40 : List (Nat × gw_I) := [(0, .aload_n 0, 1, 0, 0), (1, .getfield 22, 3, 0, 0), (4, .aload_n 0, 1, 0, 0), (5, .getfield 26, 3, 0, 0), (8, .imul, 1, 0, 0), (9, .ireturn, 1, 0, 0)]
def gm_40 : gw_M := (2, ⟨"GlassWires$Grid", "fields", "()I"⟩, prog_4_method_6_code, 1, (some .int), 0, 0, 1, gk_40)
def gk_41 : List (Nat × gw_I) := [(0, .iload_n 1, 1, 0, 0), (1, .ifCond .lt 27, 3, 28, 0), (4, .iload_n 1, 1, 0, 0), (5, .aload_n 0, 1, 0, 0), (6, .getfield 22, 3, 0, 0), (9, .if_icmp .gt 19, 3, 28, 0), (12, .iload_n 2, 1, 0, 0), (13, .ifCond .lt 15, 3, 28, 0), (16, .iload_n 2, 1, 0, 0), (17, .aload_n 0, 1, 0, 0), (18, .getfield 26, 3, 0, 0), (21, .if_icmp .gt 7, 3, 28, 0), (24, .iconst 1, 1, 0, 1), (25, .goto 4, 3, 29, 0), (28, .iconst 0, 1, 0, 0), (29, .ireturn, 1, 0, 0)]
def gm_41 : gw_M := (2, ⟨"GlassWires$Grid", "hasPoint", "(II)Z"⟩, prog_4_method_7_code, 3, (some .boolean), 2, 0, 1, gk_41)
def gk_42 : List (Nat × gw_I) := [(0, .iload_n 1, 1, 0, 0), (1, .ifCond .eq 23, 3, 24, 0), (4, .iload_n 1, 1, 0, 0), (5, .aload_n 0, 1, 0, 0), (6, .getfield 22, 3, 0, 0), (9, .if_icmp .eq 15, 3, 24, 0), (12, .iload_n 2, 1, 0, 0), (13, .ifCond .eq 11, 3, 24, 0), (16, .iload_n 2, 1, 0, 0), (17, .aload_n 0, 1, 0, 0), (18, .getfield 26, 3, 0, 0), (21, .if_icmp .ne 7, 3, 28, 0), (24, .iconst 1, 1, 0, 1), (25, .goto 4, 3, 29, 0), (28, .iconst 0, 1, 0, 0), (29, .ireturn, 1, 0, 0)]
def gm_42 : gw_M := (2, ⟨"GlassWires$Grid", "isAtRim", "(II)Z"⟩, prog_4_method_8_code, 3, (some .boolean), 2, 0, 1, gk_42)
def gk_43 : List (Nat × gw_I) := [(0, .iload_n 1, 1, 0, 0), (1, .ifCond .lt 27, 3, 28, 0), (4, .iload_n 1, 1, 0, 0), (5, .aload_n 0, 1, 0, 0), (6, .getfield 22, 3, 0, 0), (9, .if_icmp .ge 19, 3, 28, 0), (12, .iload_n 2, 1, 0, 0), (13, .ifCond .lt 15, 3, 28, 0), (16, .iload_n 2, 1, 0, 0), (17, .aload_n 0, 1, 0, 0), (18, .getfield 26, 3, 0, 0), (21, .if_icmp .ge 7, 3, 28, 0), (24, .iconst 1, 1, 0, 1), (25, .goto 4, 3, 29, 0), (28, .iconst 0, 1, 0, 0), (29, .ireturn, 1, 0, 0)]
def gm_43 : gw_M := (2, ⟨"GlassWires$Grid", "hasField", "(II)Z"⟩, prog_4_method_9_code, 3, (some .boolean), 2, 0, 1, gk_43)
def gk_44 : List (Nat × gw_I) := [(0, .iload_n 3, 1, 0, 0), (1, .ifCond .eq 10, 3, 11, 0), (4, .iload_n 3, 1, 0, 0), (5, .iconst 1, 1, 0, 1), (6, .if_icmp .eq 5, 3, 11, 0), (9, .iconst 0, 1, 0, 0), (10, .ireturn, 1, 0, 0), (11, .aload_n 0, 1, 0, 0), (12, .iload_n 1, 1, 0, 0), (13, .iload_n 2, 1, 0, 0), (14, .invokevirtual 29, 3, 0, 0), (17, .ifCond .eq 26, 3, 43, 0), (20, .aload_n 0, 1, 0, 0), (21, .iload_n 1, 1, 0, 0), (22, .iload_n 3, 1, 0, 0), (23, .invokestatic 33, 3, 0, 0), (26, .iadd, 1, 0, 0), (27, .iload_n 2, 1, 0, 0), (28, .iload_n 3, 1, 0, 0), (29, .invokestatic 37, 3, 0, 0), (32, .iadd, 1, 0, 0), (33, .invokevirtual 29, 3, 0, 0), (36, .ifCond .eq 7, 3, 43, 0), (39, .iconst 1, 1, 0, 1), (40, .goto 4, 3, 44, 0), (43, .iconst 0, 1, 0, 0), (44, .ireturn, 1, 0, 0)]
def gm_44 : gw_M := (2, ⟨"GlassWires$Grid", "hasEdge", "(III)Z"⟩, prog_4_method_10_code, 4, (some .boolean), 3, 0, 2, gk_44)
def gk_45 : List (Nat × gw_I) := [(0, .aload_n 0, 1, 0, 0), (1, .getfield 22, 3, 0, 0), (4, .iload_n 2, 1, 0, 0), (5, .imul, 1, 0, 0), (6, .iload_n 1, 1, 0, 0), (7, .iadd, 1, 0, 0), (8, .ireturn, 1, 0, 0)]
def gm_45 : gw_M := (2, ⟨"GlassWires$Grid", "fieldNumber", "(II)I"⟩, prog_4_method_11_code, 3, (some .int), 2, 0, 1, gk_45)
def gk_46 : List (Nat × gw_I) := [(0, .aload_n 0, 1, 0, 0), (1, .getfield 11, 3, 0, 0), (4, .iload_n 1, 1, 0, 0), (5, .iaload, 1, 0, 0), (6, .iload_n 2, 1, 0, 0), (7, .invokestatic 33, 3, 0, 0), (10, .iadd, 1, 0, 0), (11, .istore_n 3, 1, 0, 0), (12, .aload_n 0, 1, 0, 0), (13, .getfield 15, 3, 0, 0), (16, .iload_n 1, 1, 0, 0), (17, .iaload, 1, 0, 0), (18, .iload_n 2, 1, 0, 0), (19, .invokestatic 37, 3, 0, 0), (22, .iadd, 1, 0, 0), (23, .istore 4, 2, 0, 0), (25, .aload_n 0, 1, 0, 0), (26, .iload_n 3, 1, 0, 0), (27, .iload 4, 2, 0, 0), (29, .invokevirtual 40, 3, 0, 0), (32, .ifCond .eq 13, 3, 45, 0), (35, .aload_n 0, 1, 0, 0), (36, .iload_n 3, 1, 0, 0), (37, .iload 4, 2, 0, 0), (39, .invokevirtual 43, 3, 0, 0), (42, .goto 4, 3, 46, 0), (45, .iconst (-1), 1, 0, (-1)), (46, .ireturn, 1, 0, 0)]
def gm_46 : gw_M := (2, ⟨"GlassWires$Grid", "beside", "(II)I"⟩, prog_4_method_12_code, 5, (some .int), 2, 0, 2, gk_46)
def gk_47 : List (Nat × gw_I) := [(0, .aload_n 0, 1, 0, 0), (1, .getfield 11, 3, 0, 0), (4, .iload_n 1, 1, 0, 0), (5, .iaload, 1, 0, 0), (6, .iload_n 2, 1, 0, 0), (7, .ifCond .ne 7, 3, 14, 0), (10, .iconst 1, 1, 0, 1), (11, .goto 4, 3, 15, 0), (14, .iconst 0, 1, 0, 0), (15, .iadd, 1, 0, 0), (16, .istore_n 3, 1, 0, 0), (17, .aload_n 0, 1, 0, 0), (18, .getfield 15, 3, 0, 0), (21, .iload_n 1, 1, 0, 0), (22, .iaload, 1, 0, 0), (23, .iload_n 2, 1, 0, 0), (24, .iconst 1, 1, 0, 1), (25, .if_icmp .ne 7, 3, 32, 0), (28, .iconst 1, 1, 0, 1), (29, .goto 4, 3, 33, 0), (32, .iconst 0, 1, 0, 0), (33, .iadd, 1, 0, 0), (34, .istore 4, 2, 0, 0), (36, .iload_n 3, 1, 0, 0), (37, .iload 4, 2, 0, 0), (39, .iload_n 2, 1, 0, 0), (40, .ifCond .eq 8, 3, 48, 0), (43, .iload_n 2, 1, 0, 0), (44, .iconst 2, 1, 0, 2), (45, .if_icmp .ne 7, 3, 52, 0), (48, .iconst 1, 1, 0, 1), (49, .goto 4, 3, 53, 0), (52, .iconst 0, 1, 0, 0), (53, .invokestatic 47, 3, 0, 0), (56, .ireturn, 1, 0, 0)]
def gm_47 : gw_M := (2, ⟨"GlassWires$Grid", "between", "(II)I"⟩, prog_4_method_13_code, 5, (some .int), 2, 0, 3, gk_47)
def gk_48 : List (Nat × gw_I) := [(0, .bipush 10, 2, 0, 10), (2, .iload_n 1, 1, 0, 0), (3, .imul, 1, 0, 0), (4, .iload_n 0, 1, 0, 0), (5, .iadd, 1, 0, 0), (6, .ireturn, 1, 0, 0)]
def gm_48 : gw_M := (2, ⟨"GlassWires$Grid", "pointNumber", "(II)I"⟩, prog_4_method_14_code, 2, (some .int), 2, 1, 1, gk_48)
def gk_49 : List (Nat × gw_I) := [(0, .iload_n 0, 1, 0, 0), (1, .bipush 10, 2, 0, 10), (3, .irem, 1, 0, 0), (4, .ireturn, 1, 0, 0)]
def gm_49 : gw_M := (2, ⟨"GlassWires$Grid", "columnOf", "(I)I"⟩, prog_4_method_15_code, 1, (some .int), 1, 1, 1, gk_49)
def gk_50 : List (Nat × gw_I) := [(0, .iload_n 0, 1, 0, 0), (1, .bipush 10, 2, 0, 10), (3, .idiv, 1, 0, 0), (4, .ireturn, 1, 0, 0)]
def gm_50 : gw_M := (2, ⟨"GlassWires$Grid", "rowOf", "(I)I"⟩, prog_4_method_16_code, 1, (some .int), 1, 1, 1, gk_50)
def gk_51 : List (Nat × gw_I) := [(0, .bipush 89, 2, 0, 89), (2, .iload_n 2, 1, 0, 0), (3, .imul, 1, 0, 0), (4, .iload_n 0, 1, 0, 0), (5, .iload_n 1, 1, 0, 0), (6, .invokestatic 51, 3, 0, 0), (9, .iadd, 1, 0, 0), (10, .ireturn, 1, 0, 0)]
def gm_51 : gw_M := (2, ⟨"GlassWires$Grid", "edgeNumber", "(III)I"⟩, prog_4_method_17_code, 3, (some .int), 3, 1, 2, gk_51)
def gk_52 : List (Nat × gw_I) := [(0, .iload_n 2, 1, 0, 0), (1, .lookupswitch 45 #[(2, 27), (3, 36)], 27, 0, 0), (28, .iload_n 0, 1, 0, 0), (29, .iconst 1, 1, 0, 1), (30, .isub, 1, 0, 0), (31, .iload_n 1, 1, 0, 0), (32, .iconst 0, 1, 0, 0), (33, .invokestatic 47, 3, 0, 0), (36, .ireturn, 1, 0, 0), (37, .iload_n 0, 1, 0, 0), (38, .iload_n 1, 1, 0, 0), (39, .iconst 1, 1, 0, 1), (40, .isub, 1, 0, 0), (41, .iconst 1, 1, 0, 1), (42, .invokestatic 47, 3, 0, 0), (45, .ireturn, 1, 0, 0), (46, .iload_n 0, 1, 0, 0), (47, .iload_n 1, 1, 0, 0), (48, .iload_n 2, 1, 0, 0), (49, .invokestatic 47, 3, 0, 0), (52, .ireturn, 1, 0, 0)]
def gm_52 : gw_M := (2, ⟨"GlassWires$Grid", "edgeOfMove", "(III)I"⟩, prog_4_method_18_code, 3, (some .int), 3, 1, 3, gk_52)
def gk_53 : List (Nat × gw_I) := [(0, .iload_n 0, 1, 0, 0), (1, .ifCond .ne 7, 3, 8, 0), (4, .iconst 1, 1, 0, 1), (5, .goto 13, 3, 18, 0), (8, .iload_n 0, 1, 0, 0), (9, .iconst 2, 1, 0, 2), (10, .if_icmp .ne 7, 3, 17, 0), (13, .iconst (-1), 1, 0, (-1)), (14, .goto 4, 3, 18, 0), (17, .iconst 0, 1, 0, 0), (18, .ireturn, 1, 0, 0)]
def gm_53 : gw_M := (2, ⟨"GlassWires$Grid", "stepRight", "(I)I"⟩, prog_4_method_19_code, 1, (some .int), 1, 1, 1, gk_53)
def gk_54 : List (Nat × gw_I) := [(0, .iload_n 0, 1, 0, 0), (1, .iconst 1, 1, 0, 1), (2, .if_icmp .ne 7, 3, 9, 0), (5, .iconst 1, 1, 0, 1), (6, .goto 13, 3, 19, 0), (9, .iload_n 0, 1, 0, 0), (10, .iconst 3, 1, 0, 3), (11, .if_icmp .ne 7, 3, 18, 0), (14, .iconst (-1), 1, 0, (-1)), (15, .goto 4, 3, 19, 0), (18, .iconst 0, 1, 0, 0), (19, .ireturn, 1, 0, 0)]
def gm_54 : gw_M := (2, ⟨"GlassWires$Grid", "stepUp", "(I)I"⟩, prog_4_method_20_code, 1, (some .int), 1, 1, 1, gk_54)
def gk_55 : List (Nat × gw_I) := [(0, .lload_n 1, 1, 0, 0), (1, .aload_n 0, 1, 0, 0), (2, .getfield 22, 3, 0, 0), (5, .i2l, 1, 0, 0), (6, .invokestatic 54, 3, 0, 0), (9, .aload_n 0, 1, 0, 0), (10, .getfield 26, 3, 0, 0), (13, .i2l, 1, 0, 0), (14, .invokestatic 54, 3, 0, 0), (17, .lreturn, 1, 0, 0)]
def gm_55 : gw_M := (2, ⟨"GlassWires$Grid", "digestOn", "(J)J"⟩, prog_4_method_21_code, 3, (some .long), 1, 0, 2, gk_55)
def gk_56 : List (Nat × gw_I) := [(0, .aload_n 0, 1, 0, 0), (1, .invokespecial 3, 3, 0, 0), (4, .aload_n 0, 1, 0, 0), (5, .sipush 178, 3, 0, 178), (8, .newarray .int, 2, 0, 0), (10, .putfield 11, 3, 0, 0), (13, .aload_n 0, 1, 0, 0), (14, .sipush 178, 3, 0, 178), (17, .newarray .int, 2, 0, 0), (19, .putfield 17, 3, 0, 0), (22, .aload_n 0, 1, 0, 0), (23, .bipush 89, 2, 0, 89), (25, .newarray .int, 2, 0, 0), (27, .putfield 20, 3, 0, 0), (30, .aload_n 0, 1, 0, 0), (31, .sipush 178, 3, 0, 178), (34, .newarray .int, 2, 0, 0), (36, .putfield 23, 3, 0, 0), (39, .aload_n 0, 1, 0, 0), (40, .bipush 89, 2, 0, 89), (42, .newarray .int, 2, 0, 0), (44, .putfield 26, 3, 0, 0), (47, .aload_n 0, 1, 0, 0), (48, .bipush 30, 2, 0, 30), (50, .newarray .int, 2, 0, 0), (52, .putfield 31, 3, 0, 0), (55, .aload_n 0, 1, 0, 0), (56, .bipush 89, 2, 0, 89), (58, .newarray .int, 2, 0, 0), (60, .putfield 34, 3, 0, 0), (63, .aload_n 0, 1, 0, 0), (64, .bipush 89, 2, 0, 89), (66, .newarray .int, 2, 0, 0), (68, .putfield 37, 3, 0, 0), (71, .aload_n 0, 1, 0, 0), (72, .bipush 89, 2, 0, 89), (74, .newarray .int, 2, 0, 0), (76, .putfield 40, 3, 0, 0), (79, .aload_n 0, 1, 0, 0), (80, .aload_n 1, 1, 0, 0), (81, .putfield 43, 3, 0, 0), (84, .aload_n 0, 1, 0, 0), (85, .aload_n 2, 1, 0, 0), (86, .putfield 47, 3, 0, 0), (89, .return_, 1, 0, 0)]
def gm_56 : gw_M := (3, ⟨"GlassWires$Net", "<init>", "(LGlassWires$Grid;LGlassWires$Wires;)V"⟩, prog_5_method_1_code, 3, none, 2, 2, 1, gk_56)
def gk_57 : List (Nat × gw_I) := [(0, .aload_n 0, 1, 0, 0), (1, .getfield 11, 3, 0, 0), (4, .iconst 0, 1, 0, 0), (5, .invokestatic 51, 3, 0, 0), (8, .aload_n 0, 1, 0, 0), (9, .getfield 17, 3, 0, 0), (12, .iconst 0, 1, 0, 0), (13, .invokestatic 51, 3, 0, 0), (16, .aload_n 0, 1, 0, 0), (17, .getfield 20, 3, 0, 0), (20, .iconst 0, 1, 0, 0), (21, .invokestatic 51, 3, 0, 0), (24, .aload_n 0, 1, 0, 0), (25, .getfield 23, 3, 0, 0), (28, .iconst (-1), 1, 0, (-1)), (29, .invokestatic 51, 3, 0, 0), (32, .aload_n 0, 1, 0, 0), (33, .getfield 26, 3, 0, 0), (36, .iconst (-1), 1, 0, (-1)), (37, .invokestatic 51, 3, 0, 0), (40, .iconst 0, 1, 0, 0), (41, .istore_n 1, 1, 0, 0), (42, .iload_n 1, 1, 0, 0), (43, .aload_n 0, 1, 0, 0), (44, .getfield 47, 3, 0, 0), (47, .invokevirtual 57, 3, 0, 0), (50, .if_icmp .ge 25, 3, 75, 0), (53, .aload_n 0, 1, 0, 0), (54, .getfield 47, 3, 0, 0), (57, .iload_n 1, 1, 0, 0), (58, .invokevirtual 61, 3, 0, 0), (61, .ifCond .eq 8, 3, 69, 0), (64, .aload_n 0, 1, 0, 0), (65, .iload_n 1, 1, 0, 0), (66, .invokevirtual 65, 3, 0, 0), (69, .iinc 1 1, 3, 0, 1), (72, .goto (-30), 3, 42, 0), (75, .aload_n 0, 1, 0, 0), (76, .invokevirtual 69, 3, 0, 0), (79, .return_, 1, 0, 0)]
def gm_57 : gw_M := (3, ⟨"GlassWires$Net", "read", "()V"⟩, prog_5_method_2_code, 2, none, 0, 0, 4, gk_57)
def gk_58 : List (Nat × gw_I) := [(0, .aload_n 0, 1, 0, 0), (1, .iload_n 1, 1, 0, 0), (2, .aload_n 0, 1, 0, 0), (3, .getfield 47, 3, 0, 0), (6, .iload_n 1, 1, 0, 0), (7, .iconst 0, 1, 0, 0), (8, .invokevirtual 72, 3, 0, 0), (11, .invokevirtual 76, 3, 0, 0), (14, .iconst 0, 1, 0, 0), (15, .istore_n 2, 1, 0, 0), (16, .iload_n 2, 1, 0, 0), (17, .aload_n 0, 1, 0, 0), (18, .getfield 47, 3, 0, 0), (21, .iload_n 1, 1, 0, 0), (22, .invokevirtual 80, 3, 0, 0), (25, .if_icmp .ge 39, 3, 64, 0), (28, .aload_n 0, 1, 0, 0), (29, .iload_n 1, 1, 0, 0), (30, .aload_n 0, 1, 0, 0), (31, .getfield 47, 3, 0, 0), (34, .iload_n 1, 1, 0, 0), (35, .iload_n 2, 1, 0, 0), (36, .iconst 1, 1, 0, 1), (37, .iadd, 1, 0, 0), (38, .invokevirtual 72, 3, 0, 0), (41, .invokevirtual 76, 3, 0, 0), (44, .aload_n 0, 1, 0, 0), (45, .iload_n 1, 1, 0, 0), (46, .aload_n 0, 1, 0, 0), (47, .getfield 47, 3, 0, 0), (50, .iload_n 1, 1, 0, 0), (51, .iload_n 2, 1, 0, 0), (52, .invokevirtual 84, 3, 0, 0), (55, .invokevirtual 87, 3, 0, 0), (58, .iinc 2 1, 3, 0, 1), (61, .goto (-45), 3, 16, 0), (64, .return_, 1, 0, 0)]
def gm_58 : gw_M := (3, ⟨"GlassWires$Net", "put", "(I)V"⟩, prog_5_method_3_code, 3, none, 1, 0, 3, gk_58)
def gk_59 : List (Nat × gw_I) := [(0, .aload_n 0, 1, 0, 0), (1, .getfield 26, 3, 0, 0), (4, .iload_n 2, 1, 0, 0), (5, .iaload, 1, 0, 0), (6, .iload_n 1, 1, 0, 0), (7, .if_icmp .eq 20, 3, 27, 0), (10, .aload_n 0, 1, 0, 0), (11, .getfield 26, 3, 0, 0), (14, .iload_n 2, 1, 0, 0), (15, .iload_n 1, 1, 0, 0), (16, .iastore, 1, 0, 0), (17, .aload_n 0, 1, 0, 0), (18, .getfield 20, 3, 0, 0), (21, .iload_n 2, 1, 0, 0), (22, .dup2, 1, 0, 0), (23, .iaload, 1, 0, 0), (24, .iconst 1, 1, 0, 1), (25, .iadd, 1, 0, 0), (26, .iastore, 1, 0, 0), (27, .return_, 1, 0, 0)]
def gm_59 : gw_M := (3, ⟨"GlassWires$Net", "comeTo", "(II)V"⟩, prog_5_method_4_code, 3, none, 2, 0, 1, gk_59)
def gk_60 : List (Nat × gw_I) := [(0, .aload_n 0, 1, 0, 0), (1, .getfield 23, 3, 0, 0), (4, .iload_n 2, 1, 0, 0), (5, .iaload, 1, 0, 0), (6, .iload_n 1, 1, 0, 0), (7, .if_icmp .eq 40, 3, 47, 0), (10, .aload_n 0, 1, 0, 0), (11, .getfield 23, 3, 0, 0), (14, .iload_n 2, 1, 0, 0), (15, .iload_n 1, 1, 0, 0), (16, .iastore, 1, 0, 0), (17, .aload_n 0, 1, 0, 0), (18, .getfield 11, 3, 0, 0), (21, .iload_n 2, 1, 0, 0), (22, .dup2, 1, 0, 0), (23, .iaload, 1, 0, 0), (24, .iconst 1, 1, 0, 1), (25, .iadd, 1, 0, 0), (26, .iastore, 1, 0, 0), (27, .aload_n 0, 1, 0, 0), (28, .getfield 17, 3, 0, 0), (31, .iload_n 2, 1, 0, 0), (32, .dup2, 1, 0, 0), (33, .iaload, 1, 0, 0), (34, .aload_n 0, 1, 0, 0), (35, .getfield 47, 3, 0, 0), (38, .iload_n 1, 1, 0, 0), (39, .invokevirtual 90, 3, 0, 0), (42, .invokestatic 93, 3, 0, 0), (45, .iadd, 1, 0, 0), (46, .iastore, 1, 0, 0), (47, .return_, 1, 0, 0)]
def gm_60 : gw_M := (3, ⟨"GlassWires$Net", "goAlong", "(II)V"⟩, prog_5_method_5_code, 3, none, 2, 0, 2, gk_60)
def gk_61 : List (Nat × gw_I) := [(0, .aload_n 0, 1, 0, 0), (1, .getfield 31, 3, 0, 0), (4, .iconst 0, 1, 0, 0), (5, .invokestatic 51, 3, 0, 0), (8, .aload_n 0, 1, 0, 0), (9, .getfield 34, 3, 0, 0), (12, .iconst 0, 1, 0, 0), (13, .invokestatic 51, 3, 0, 0), (16, .iconst 1, 1, 0, 1), (17, .istore_n 1, 1, 0, 0), (18, .iconst 0, 1, 0, 0), (19, .istore_n 2, 1, 0, 0), (20, .iload_n 1, 1, 0, 0), (21, .ifCond .eq 71, 3, 92, 0), (24, .iload_n 2, 1, 0, 0), (25, .bipush 30, 2, 0, 30), (27, .if_icmp .gt 65, 3, 92, 0), (30, .iconst 0, 1, 0, 0), (31, .istore_n 1, 1, 0, 0), (32, .iconst 0, 1, 0, 0), (33, .istore_n 3, 1, 0, 0), (34, .iload_n 3, 1, 0, 0), (35, .aload_n 0, 1, 0, 0), (36, .getfield 47, 3, 0, 0), (39, .invokevirtual 57, 3, 0, 0), (42, .if_icmp .ge 44, 3, 86, 0), (45, .aload_n 0, 1, 0, 0), (46, .getfield 47, 3, 0, 0), (49, .iload_n 3, 1, 0, 0), (50, .invokevirtual 61, 3, 0, 0), (53, .ifCond .eq 27, 3, 80, 0), (56, .aload_n 0, 1, 0, 0), (57, .getfield 31, 3, 0, 0), (60, .iload_n 3, 1, 0, 0), (61, .iaload, 1, 0, 0), (62, .ifCond .ne 18, 3, 80, 0), (65, .aload_n 0, 1, 0, 0), (66, .iload_n 3, 1, 0, 0), (67, .invokevirtual 97, 3, 0, 0), (70, .ifCond .eq 10, 3, 80, 0), (73, .aload_n 0, 1, 0, 0), (74, .iload_n 3, 1, 0, 0), (75, .invokevirtual 100, 3, 0, 0), (78, .iconst 1, 1, 0, 1), (79, .istore_n 1, 1, 0, 0), (80, .iinc 3 1, 3, 0, 1), (83, .goto (-49), 3, 34, 0), (86, .iinc 2 1, 3, 0, 1), (89, .goto (-69), 3, 20, 0), (92, .return_, 1, 0, 0)]
def gm_61 : gw_M := (3, ⟨"GlassWires$Net", "holdWires", "()V"⟩, prog_5_method_6_code, 4, none, 0, 0, 3, gk_61)
def gk_62 : List (Nat × gw_I) := [(0, .aload_n 0, 1, 0, 0), (1, .getfield 47, 3, 0, 0), (4, .iload_n 1, 1, 0, 0), (5, .invokevirtual 103, 3, 0, 0), (8, .ifCond .eq 5, 3, 13, 0), (11, .iconst 1, 1, 0, 1), (12, .ireturn, 1, 0, 0), (13, .iconst 0, 1, 0, 0), (14, .istore_n 2, 1, 0, 0), (15, .iload_n 2, 1, 0, 0), (16, .aload_n 0, 1, 0, 0), (17, .getfield 47, 3, 0, 0), (20, .iload_n 1, 1, 0, 0), (21, .invokevirtual 80, 3, 0, 0), (24, .if_icmp .gt 28, 3, 52, 0), (27, .aload_n 0, 1, 0, 0), (28, .getfield 34, 3, 0, 0), (31, .aload_n 0, 1, 0, 0), (32, .getfield 47, 3, 0, 0), (35, .iload_n 1, 1, 0, 0), (36, .iload_n 2, 1, 0, 0), (37, .invokevirtual 72, 3, 0, 0), (40, .iaload, 1, 0, 0), (41, .ifCond .eq 5, 3, 46, 0), (44, .iconst 1, 1, 0, 1), (45, .ireturn, 1, 0, 0), (46, .iinc 2 1, 3, 0, 1), (49, .goto (-34), 3, 15, 0), (52, .iconst 0, 1, 0, 0), (53, .ireturn, 1, 0, 0)]
def gm_62 : gw_M := (3, ⟨"GlassWires$Net", "isHeldNow", "(I)Z"⟩, prog_5_method_7_code, 3, (some .boolean), 1, 0, 2, gk_62)
def gk_63 : List (Nat × gw_I) := [(0, .aload_n 0, 1, 0, 0), (1, .getfield 31, 3, 0, 0), (4, .iload_n 1, 1, 0, 0), (5, .iconst 1, 1, 0, 1), (6, .iastore, 1, 0, 0), (7, .iconst 0, 1, 0, 0), (8, .istore_n 2, 1, 0, 0), (9, .iload_n 2, 1, 0, 0), (10, .aload_n 0, 1, 0, 0), (11, .getfield 47, 3, 0, 0), (14, .iload_n 1, 1, 0, 0), (15, .invokevirtual 80, 3, 0, 0), (18, .if_icmp .gt 24, 3, 42, 0), (21, .aload_n 0, 1, 0, 0), (22, .getfield 34, 3, 0, 0), (25, .aload_n 0, 1, 0, 0), (26, .getfield 47, 3, 0, 0), (29, .iload_n 1, 1, 0, 0), (30, .iload_n 2, 1, 0, 0), (31, .invokevirtual 72, 3, 0, 0), (34, .iconst 1, 1, 0, 1), (35, .iastore, 1, 0, 0), (36, .iinc 2 1, 3, 0, 1), (39, .goto (-30), 3, 9, 0), (42, .return_, 1, 0, 0)]
def gm_63 : gw_M := (3, ⟨"GlassWires$Net", "hold", "(I)V"⟩, prog_5_method_8_code, 3, none, 1, 0, 2, gk_63)
def gk_64 : List (Nat × gw_I) := [(0, .aload_n 0, 1, 0, 0), (1, .getfield 47, 3, 0, 0), (4, .iload_n 1, 1, 0, 0), (5, .invokevirtual 61, 3, 0, 0), (8, .ifCond .eq 16, 3, 24, 0), (11, .aload_n 0, 1, 0, 0), (12, .getfield 31, 3, 0, 0), (15, .iload_n 1, 1, 0, 0), (16, .iaload, 1, 0, 0), (17, .ifCond .ne 7, 3, 24, 0), (20, .iconst 1, 1, 0, 1), (21, .goto 4, 3, 25, 0), (24, .iconst 0, 1, 0, 0), (25, .ireturn, 1, 0, 0)]
def gm_64 : gw_M := (3, ⟨"GlassWires$Net", "floats", "(I)Z"⟩, prog_5_method_9_code, 2, (some .boolean), 1, 0, 2, gk_64)
def gk_65 : List (Nat × gw_I) := [(0, .iconst 0, 1, 0, 0), (1, .istore_n 1, 1, 0, 0), (2, .iconst 0, 1, 0, 0), (3, .istore_n 2, 1, 0, 0), (4, .iload_n 2, 1, 0, 0), (5, .aload_n 0, 1, 0, 0), (6, .getfield 47, 3, 0, 0), (9, .invokevirtual 57, 3, 0, 0), (12, .if_icmp .ge 20, 3, 32, 0), (15, .iload_n 1, 1, 0, 0), (16, .aload_n 0, 1, 0, 0), (17, .iload_n 2, 1, 0, 0), (18, .invokevirtual 106, 3, 0, 0), (21, .invokestatic 93, 3, 0, 0), (24, .iadd, 1, 0, 0), (25, .istore_n 1, 1, 0, 0), (26, .iinc 2 1, 3, 0, 1), (29, .goto (-25), 3, 4, 0), (32, .iload_n 1, 1, 0, 0), (33, .ireturn, 1, 0, 0)]
def gm_65 : gw_M := (3, ⟨"GlassWires$Net", "floating", "()I"⟩, prog_5_method_10_code, 3, (some .int), 0, 0, 3, gk_65)
def gk_66 : List (Nat × gw_I) := [(0, .aload_n 0, 1, 0, 0), (1, .getfield 11, 3, 0, 0), (4, .iload_n 1, 1, 0, 0), (5, .iaload, 1, 0, 0), (6, .ireturn, 1, 0, 0)]
def gm_66 : gw_M := (3, ⟨"GlassWires$Net", "wiresOn", "(I)I"⟩, prog_5_method_11_code, 2, (some .int), 1, 0, 1, gk_66)
def gk_67 : List (Nat × gw_I) := [(0, .aload_n 0, 1, 0, 0), (1, .getfield 11, 3, 0, 0), (4, .iload_n 1, 1, 0, 0), (5, .iaload, 1, 0, 0), (6, .ifCond .ne 7, 3, 13, 0), (9, .iconst 1, 1, 0, 1), (10, .goto 4, 3, 14, 0), (13, .iconst 0, 1, 0, 0), (14, .ireturn, 1, 0, 0)]
def gm_67 : gw_M := (3, ⟨"GlassWires$Net", "isOpen", "(I)Z"⟩, prog_5_method_12_code, 2, (some .boolean), 1, 0, 1, gk_67)
def gk_68 : List (Nat × gw_I) := [(0, .aload_n 0, 1, 0, 0), (1, .getfield 17, 3, 0, 0), (4, .iload_n 1, 1, 0, 0), (5, .iaload, 1, 0, 0), (6, .ifCond .le 7, 3, 13, 0), (9, .iconst 1, 1, 0, 1), (10, .goto 4, 3, 14, 0), (13, .iconst 0, 1, 0, 0), (14, .ireturn, 1, 0, 0)]
def gm_68 : gw_M := (3, ⟨"GlassWires$Net", "isSoldered", "(I)Z"⟩, prog_5_method_13_code, 2, (some .boolean), 1, 0, 1, gk_68)
def gk_69 : List (Nat × gw_I) := [(0, .iconst 0, 1, 0, 0), (1, .istore_n 2, 1, 0, 0), (2, .iconst 0, 1, 0, 0), (3, .istore_n 3, 1, 0, 0), (4, .iload_n 3, 1, 0, 0), (5, .sipush 178, 3, 0, 178), (8, .if_icmp .ge 30, 3, 38, 0), (11, .iload_n 2, 1, 0, 0), (12, .aload_n 0, 1, 0, 0), (13, .getfield 11, 3, 0, 0), (16, .iload_n 3, 1, 0, 0), (17, .iaload, 1, 0, 0), (18, .iload_n 1, 1, 0, 0), (19, .if_icmp .lt 7, 3, 26, 0), (22, .iconst 1, 1, 0, 1), (23, .goto 4, 3, 27, 0), (26, .iconst 0, 1, 0, 0), (27, .invokestatic 93, 3, 0, 0), (30, .iadd, 1, 0, 0), (31, .istore_n 2, 1, 0, 0), (32, .iinc 3 1, 3, 0, 1), (35, .goto (-31), 3, 4, 0), (38, .iload_n 2, 1, 0, 0), (39, .ireturn, 1, 0, 0)]
def gm_69 : gw_M := (3, ⟨"GlassWires$Net", "edgesUnder", "(I)I"⟩, prog_5_method_14_code, 4, (some .int), 1, 0, 2, gk_69)
def gk_70 : List (Nat × gw_I) := [(0, .iconst 0, 1, 0, 0), (1, .istore_n 2, 1, 0, 0), (2, .iconst 0, 1, 0, 0), (3, .istore_n 3, 1, 0, 0), (4, .iload_n 3, 1, 0, 0), (5, .aload_n 0, 1, 0, 0), (6, .getfield 43, 3, 0, 0), (9, .invokevirtual 109, 3, 0, 0), (12, .if_icmp .gt 44, 3, 56, 0), (15, .iconst 0, 1, 0, 0), (16, .istore 4, 2, 0, 0), (18, .iload 4, 2, 0, 0), (20, .aload_n 0, 1, 0, 0), (21, .getfield 43, 3, 0, 0), (24, .invokevirtual 112, 3, 0, 0), (27, .if_icmp .gt 23, 3, 50, 0), (30, .iload_n 2, 1, 0, 0), (31, .aload_n 0, 1, 0, 0), (32, .iload_n 1, 1, 0, 0), (33, .iload 4, 2, 0, 0), (35, .iload_n 3, 1, 0, 0), (36, .invokevirtual 115, 3, 0, 0), (39, .invokestatic 93, 3, 0, 0), (42, .iadd, 1, 0, 0), (43, .istore_n 2, 1, 0, 0), (44, .iinc 4 1, 3, 0, 1), (47, .goto (-29), 3, 18, 0), (50, .iinc 3 1, 3, 0, 1), (53, .goto (-49), 3, 4, 0), (56, .iload_n 2, 1, 0, 0), (57, .ireturn, 1, 0, 0)]
def gm_70 : gw_M := (3, ⟨"GlassWires$Net", "places", "(I)I"⟩, prog_5_method_15_code, 5, (some .int), 1, 0, 7, gk_70)
def gk_71 : List (Nat × gw_I) := [(0, .iload_n 2, 1, 0, 0), (1, .istore_n 3, 1, 0, 0), (2, .iconst 0, 1, 0, 0), (3, .istore 4, 2, 0, 0), (5, .iload 4, 2, 0, 0), (7, .aload_n 0, 1, 0, 0), (8, .getfield 43, 3, 0, 0), (11, .invokevirtual 109, 3, 0, 0), (14, .if_icmp .gt 57, 3, 71, 0), (17, .iconst 0, 1, 0, 0), (18, .istore 5, 2, 0, 0), (20, .iload 5, 2, 0, 0), (22, .aload_n 0, 1, 0, 0), (23, .getfield 43, 3, 0, 0), (26, .invokevirtual 112, 3, 0, 0), (29, .if_icmp .gt 36, 3, 65, 0), (32, .aload_n 0, 1, 0, 0), (33, .iload_n 1, 1, 0, 0), (34, .iload 5, 2, 0, 0), (36, .iload 4, 2, 0, 0), (38, .invokevirtual 115, 3, 0, 0), (41, .ifCond .eq 18, 3, 59, 0), (44, .iload_n 3, 1, 0, 0), (45, .ifCond .ne 11, 3, 56, 0), (48, .iload 5, 2, 0, 0), (50, .iload 4, 2, 0, 0), (52, .invokestatic 119, 3, 0, 0), (55, .ireturn, 1, 0, 0), (56, .iinc 3 (-1), 3, 0, (-1)), (59, .iinc 5 1, 3, 0, 1), (62, .goto (-42), 3, 20, 0), (65, .iinc 4 1, 3, 0, 1), (68, .goto (-63), 3, 5, 0), (71, .iconst (-1), 1, 0, (-1)), (72, .ireturn, 1, 0, 0)]
def gm_71 : gw_M := (3, ⟨"GlassWires$Net", "place", "(II)I"⟩, prog_5_method_16_code, 6, (some .int), 2, 0, 7, gk_71)
def gk_72 : List (Nat × gw_I) := [(0, .iload_n 1, 1, 0, 0), (1, .iconst 1, 1, 0, 1), (2, .if_icmp .ne 23, 3, 25, 0), (5, .aload_n 0, 1, 0, 0), (6, .getfield 20, 3, 0, 0), (9, .iload_n 2, 1, 0, 0), (10, .iload_n 3, 1, 0, 0), (11, .invokestatic 119, 3, 0, 0), (14, .iaload, 1, 0, 0), (15, .iconst 2, 1, 0, 2), (16, .if_icmp .lt 7, 3, 23, 0), (19, .iconst 1, 1, 0, 1), (20, .goto 4, 3, 24, 0), (23, .iconst 0, 1, 0, 0), (24, .ireturn, 1, 0, 0), (25, .aload_n 0, 1, 0, 0), (26, .getfield 43, 3, 0, 0), (29, .iload_n 2, 1, 0, 0), (30, .iload_n 3, 1, 0, 0), (31, .invokevirtual 122, 3, 0, 0), (34, .ifCond .ne 17, 3, 51, 0), (37, .aload_n 0, 1, 0, 0), (38, .iload_n 2, 1, 0, 0), (39, .iload_n 3, 1, 0, 0), (40, .invokevirtual 126, 3, 0, 0), (43, .iconst 1, 1, 0, 1), (44, .if_icmp .ne 7, 3, 51, 0), (47, .iconst 1, 1, 0, 1), (48, .goto 4, 3, 52, 0), (51, .iconst 0, 1, 0, 0), (52, .ireturn, 1, 0, 0)]
def gm_72 : gw_M := (3, ⟨"GlassWires$Net", "isPlace", "(III)Z"⟩, prog_5_method_17_code, 4, (some .boolean), 3, 0, 6, gk_72)
def gk_73 : List (Nat × gw_I) := [(0, .iconst 0, 1, 0, 0), (1, .istore_n 3, 1, 0, 0), (2, .iconst 0, 1, 0, 0), (3, .istore 4, 2, 0, 0), (5, .iload 4, 2, 0, 0), (7, .iconst 4, 1, 0, 4), (8, .if_icmp .ge 23, 3, 31, 0), (11, .iload_n 3, 1, 0, 0), (12, .aload_n 0, 1, 0, 0), (13, .iload_n 1, 1, 0, 0), (14, .iload_n 2, 1, 0, 0), (15, .iload 4, 2, 0, 0), (17, .invokevirtual 129, 3, 0, 0), (20, .invokestatic 93, 3, 0, 0), (23, .iadd, 1, 0, 0), (24, .istore_n 3, 1, 0, 0), (25, .iinc 4 1, 3, 0, 1), (28, .goto (-23), 3, 5, 0), (31, .iload_n 3, 1, 0, 0), (32, .ireturn, 1, 0, 0)]
def gm_73 : gw_M := (3, ⟨"GlassWires$Net", "edgesMeeting", "(II)I"⟩, prog_5_method_18_code, 5, (some .int), 2, 0, 5, gk_73)
def gk_74 : List (Nat × gw_I) := [(0, .aload_n 0, 1, 0, 0), (1, .getfield 43, 3, 0, 0), (4, .iload_n 1, 1, 0, 0), (5, .iload_n 3, 1, 0, 0), (6, .invokestatic 132, 3, 0, 0), (9, .iadd, 1, 0, 0), (10, .iload_n 2, 1, 0, 0), (11, .iload_n 3, 1, 0, 0), (12, .invokestatic 135, 3, 0, 0), (15, .iadd, 1, 0, 0), (16, .invokevirtual 138, 3, 0, 0), (19, .ifCond .eq 21, 3, 40, 0), (22, .aload_n 0, 1, 0, 0), (23, .getfield 11, 3, 0, 0), (26, .iload_n 1, 1, 0, 0), (27, .iload_n 2, 1, 0, 0), (28, .iload_n 3, 1, 0, 0), (29, .invokestatic 141, 3, 0, 0), (32, .iaload, 1, 0, 0), (33, .ifCond .le 7, 3, 40, 0), (36, .iconst 1, 1, 0, 1), (37, .goto 4, 3, 41, 0), (40, .iconst 0, 1, 0, 0), (41, .ireturn, 1, 0, 0)]
def gm_74 : gw_M := (3, ⟨"GlassWires$Net", "isCovered", "(III)Z"⟩, prog_5_method_19_code, 4, (some .boolean), 3, 0, 4, gk_74)
def gk_75 : List (Nat × gw_I) := [(0, .aload_n 0, 1, 0, 0), (1, .getfield 37, 3, 0, 0), (4, .iconst 0, 1, 0, 0), (5, .invokestatic 51, 3, 0, 0), (8, .iconst 0, 1, 0, 0), (9, .istore_n 1, 1, 0, 0), (10, .iconst 0, 1, 0, 0), (11, .istore_n 2, 1, 0, 0), (12, .iload_n 2, 1, 0, 0), (13, .aload_n 0, 1, 0, 0), (14, .getfield 43, 3, 0, 0), (17, .invokevirtual 109, 3, 0, 0), (20, .if_icmp .gt 65, 3, 85, 0), (23, .iconst 0, 1, 0, 0), (24, .istore_n 3, 1, 0, 0), (25, .iload_n 3, 1, 0, 0), (26, .aload_n 0, 1, 0, 0), (27, .getfield 43, 3, 0, 0), (30, .invokevirtual 112, 3, 0, 0), (33, .if_icmp .gt 46, 3, 79, 0), (36, .aload_n 0, 1, 0, 0), (37, .getfield 37, 3, 0, 0), (40, .iload_n 3, 1, 0, 0), (41, .iload_n 2, 1, 0, 0), (42, .invokestatic 119, 3, 0, 0), (45, .iaload, 1, 0, 0), (46, .ifCond .ne 27, 3, 73, 0), (49, .aload_n 0, 1, 0, 0), (50, .iload_n 3, 1, 0, 0), (51, .iload_n 2, 1, 0, 0), (52, .invokevirtual 126, 3, 0, 0), (55, .ifCond .le 18, 3, 73, 0), (58, .iload_n 1, 1, 0, 0), (59, .iconst 1, 1, 0, 1), (60, .aload_n 0, 1, 0, 0), (61, .iload_n 3, 1, 0, 0), (62, .iload_n 2, 1, 0, 0), (63, .invokevirtual 145, 3, 0, 0), (66, .iconst 2, 1, 0, 2), (67, .idiv, 1, 0, 0), (68, .invokestatic 148, 3, 0, 0), (71, .iadd, 1, 0, 0), (72, .istore_n 1, 1, 0, 0), (73, .iinc 3 1, 3, 0, 1), (76, .goto (-51), 3, 25, 0), (79, .iinc 2 1, 3, 0, 1), (82, .goto (-70), 3, 12, 0), (85, .iload_n 1, 1, 0, 0), (86, .ireturn, 1, 0, 0)]
def gm_75 : gw_M := (3, ⟨"GlassWires$Net", "pieces", "()I"⟩, prog_5_method_20_code, 4, (some .int), 0, 0, 7, gk_75)
def gk_76 : List (Nat × gw_I) := [(0, .iconst 0, 1, 0, 0), (1, .istore_n 3, 1, 0, 0), (2, .aload_n 0, 1, 0, 0), (3, .getfield 40, 3, 0, 0), (6, .iconst 0, 1, 0, 0), (7, .iload_n 1, 1, 0, 0), (8, .iload_n 2, 1, 0, 0), (9, .invokestatic 119, 3, 0, 0), (12, .iastore, 1, 0, 0), (13, .aload_n 0, 1, 0, 0), (14, .getfield 37, 3, 0, 0), (17, .aload_n 0, 1, 0, 0), (18, .getfield 40, 3, 0, 0), (21, .iconst 0, 1, 0, 0), (22, .iaload, 1, 0, 0), (23, .iconst 1, 1, 0, 1), (24, .iastore, 1, 0, 0), (25, .iconst 1, 1, 0, 1), (26, .istore 4, 2, 0, 0), (28, .iconst 0, 1, 0, 0), (29, .istore 5, 2, 0, 0), (31, .iload 5, 2, 0, 0), (33, .iload 4, 2, 0, 0), (35, .if_icmp .ge 139, 3, 174, 0), (38, .iload 5, 2, 0, 0), (40, .bipush 89, 2, 0, 89), (42, .if_icmp .ge 132, 3, 174, 0), (45, .aload_n 0, 1, 0, 0), (46, .getfield 40, 3, 0, 0), (49, .iload 5, 2, 0, 0), (51, .iaload, 1, 0, 0), (52, .invokestatic 153, 3, 0, 0), (55, .istore 6, 2, 0, 0), (57, .aload_n 0, 1, 0, 0), (58, .getfield 40, 3, 0, 0), (61, .iload 5, 2, 0, 0), (63, .iaload, 1, 0, 0), (64, .invokestatic 156, 3, 0, 0), (67, .istore 7, 2, 0, 0), (69, .iload_n 3, 1, 0, 0), (70, .aload_n 0, 1, 0, 0), (71, .iload 6, 2, 0, 0), (73, .iload 7, 2, 0, 0), (75, .invokevirtual 126, 3, 0, 0), (78, .iconst 1, 1, 0, 1), (79, .iand, 1, 0, 0), (80, .iadd, 1, 0, 0), (81, .istore_n 3, 1, 0, 0), (82, .iconst 0, 1, 0, 0), (83, .istore 8, 2, 0, 0), (85, .iload 8, 2, 0, 0), (87, .iconst 4, 1, 0, 4), (88, .if_icmp .ge 80, 3, 168, 0), (91, .iload 6, 2, 0, 0), (93, .iload 8, 2, 0, 0), (95, .invokestatic 132, 3, 0, 0), (98, .iadd, 1, 0, 0), (99, .iload 7, 2, 0, 0), (101, .iload 8, 2, 0, 0), (103, .invokestatic 135, 3, 0, 0), (106, .iadd, 1, 0, 0), (107, .invokestatic 119, 3, 0, 0), (110, .istore 9, 2, 0, 0), (112, .aload_n 0, 1, 0, 0), (113, .iload 6, 2, 0, 0), (115, .iload 7, 2, 0, 0), (117, .iload 8, 2, 0, 0), (119, .invokevirtual 129, 3, 0, 0), (122, .ifCond .eq 40, 3, 162, 0), (125, .aload_n 0, 1, 0, 0), (126, .getfield 37, 3, 0, 0), (129, .iload 9, 2, 0, 0), (131, .iaload, 1, 0, 0), (132, .ifCond .ne 30, 3, 162, 0), (135, .iload 4, 2, 0, 0), (137, .bipush 89, 2, 0, 89), (139, .if_icmp .ge 23, 3, 162, 0), (142, .aload_n 0, 1, 0, 0), (143, .getfield 37, 3, 0, 0), (146, .iload 9, 2, 0, 0), (148, .iconst 1, 1, 0, 1), (149, .iastore, 1, 0, 0), (150, .aload_n 0, 1, 0, 0), (151, .getfield 40, 3, 0, 0), (154, .iload 4, 2, 0, 0), (156, .iload 9, 2, 0, 0), (158, .iastore, 1, 0, 0), (159, .iinc 4 1, 3, 0, 1), (162, .iinc 8 1, 3, 0, 1), (165, .goto (-80), 3, 85, 0), (168, .iinc 5 1, 3, 0, 1), (171, .goto (-140), 3, 31, 0), (174, .iload_n 3, 1, 0, 0), (175, .ireturn, 1, 0, 0)]
def gm_76 : gw_M := (3, ⟨"GlassWires$Net", "oddPoints", "(II)I"⟩, prog_5_method_21_code, 10, (some .int), 2, 0, 6, gk_76)
def gk_77 : List (Nat × gw_I) := [(0, .aload_n 0, 1, 0, 0), (1, .invokespecial 3, 3, 0, 0), (4, .aload_n 0, 1, 0, 0), (5, .bipush 40, 2, 0, 40), (7, .newarray .int, 2, 0, 0), (9, .putfield 11, 3, 0, 0), (12, .return_, 1, 0, 0)]
def gm_77 : gw_M := (4, ⟨"GlassWires$Page", "<init>", "()V"⟩, prog_6_method_1_code, 1, none, 0, 2, 1, gk_77)
def gk_78 : List (Nat × gw_I) := [(0, .aload_n 0, 1, 0, 0), (1, .getfield 15, 3, 0, 0), (4, .ireturn, 1, 0, 0)]
def gm_78 : gw_M := (4, ⟨"GlassWires$Page", "length", "()I"⟩, prog_6_method_2_code, 1, (some .int), 0, 0, 1, gk_78)
def gk_79 : List (Nat × gw_I) := [(0, .aload_n 0, 1, 0, 0), (1, .getfield 15, 3, 0, 0), (4, .istore_n 1, 1, 0, 0), (5, .aload_n 0, 1, 0, 0), (6, .iconst 0, 1, 0, 0), (7, .putfield 15, 3, 0, 0), (10, .iload_n 1, 1, 0, 0), (11, .ireturn, 1, 0, 0)]
def gm_79 : gw_M := (4, ⟨"GlassWires$Page", "clear", "()I"⟩, prog_6_method_3_code, 2, (some .int), 0, 0, 1, gk_79)
def gk_80 : List (Nat × gw_I) := [(0, .lload_n 1, 1, 0, 0), (1, .invokestatic 19, 3, 0, 0), (4, .istore_n 3, 1, 0, 0), (5, .iload_n 3, 1, 0, 0), (6, .iconst (-1), 1, 0, (-1)), (7, .if_icmp .ne 6, 3, 13, 0), (10, .bipush (-102), 2, 0, (-102)), (12, .ireturn, 1, 0, 0), (13, .aload_n 0, 1, 0, 0), (14, .getfield 15, 3, 0, 0), (17, .iload_n 3, 1, 0, 0), (18, .iadd, 1, 0, 0), (19, .bipush 40, 2, 0, 40), (21, .if_icmp .le 6, 3, 27, 0), (24, .bipush (-104), 2, 0, (-104)), (26, .ireturn, 1, 0, 0), (27, .iconst 0, 1, 0, 0), (28, .istore 4, 2, 0, 0), (30, .iload 4, 2, 0, 0), (32, .iload_n 3, 1, 0, 0), (33, .if_icmp .ge 27, 3, 60, 0), (36, .aload_n 0, 1, 0, 0), (37, .getfield 11, 3, 0, 0), (40, .aload_n 0, 1, 0, 0), (41, .getfield 15, 3, 0, 0), (44, .iload 4, 2, 0, 0), (46, .iadd, 1, 0, 0), (47, .lload_n 1, 1, 0, 0), (48, .iload 4, 2, 0, 0), (50, .invokestatic 23, 3, 0, 0), (53, .iastore, 1, 0, 0), (54, .iinc 4 1, 3, 0, 1), (57, .goto (-27), 3, 30, 0), (60, .aload_n 0, 1, 0, 0), (61, .dup, 1, 0, 0), (62, .getfield 15, 3, 0, 0), (65, .iload_n 3, 1, 0, 0), (66, .iadd, 1, 0, 0), (67, .putfield 15, 3, 0, 0), (70, .aload_n 0, 1, 0, 0), (71, .getfield 15, 3, 0, 0), (74, .ireturn, 1, 0, 0)]
def gm_80 : gw_M := (4, ⟨"GlassWires$Page", "add", "(J)I"⟩, prog_6_method_4_code, 5, (some .int), 1, 0, 3, gk_80)
def gk_81 : List (Nat × gw_I) := [(0, .iconst 0, 1, 0, 0), (1, .istore_n 2, 1, 0, 0), (2, .iconst 0, 1, 0, 0), (3, .istore_n 3, 1, 0, 0), (4, .iload_n 3, 1, 0, 0), (5, .bipush 8, 2, 0, 8), (7, .if_icmp .ge 43, 3, 50, 0), (10, .lload_n 0, 1, 0, 0), (11, .iload_n 3, 1, 0, 0), (12, .invokestatic 23, 3, 0, 0), (15, .istore 4, 2, 0, 0), (17, .iload 4, 2, 0, 0), (19, .bipush 126, 2, 0, 126), (21, .if_icmp .gt 13, 3, 34, 0), (24, .iload 4, 2, 0, 0), (26, .ifCond .eq 10, 3, 36, 0), (29, .iload_n 2, 1, 0, 0), (30, .iload_n 3, 1, 0, 0), (31, .if_icmp .ge 5, 3, 36, 0), (34, .iconst (-1), 1, 0, (-1)), (35, .ireturn, 1, 0, 0), (36, .iload 4, 2, 0, 0), (38, .ifCond .eq 6, 3, 44, 0), (41, .iinc 2 1, 3, 0, 1), (44, .iinc 3 1, 3, 0, 1), (47, .goto (-43), 3, 4, 0), (50, .iload_n 2, 1, 0, 0), (51, .ireturn, 1, 0, 0)]
def gm_81 : gw_M := (4, ⟨"GlassWires$Page", "lettersIn", "(J)I"⟩, prog_6_method_5_code, 5, (some .int), 1, 1, 2, gk_81)
def gk_82 : List (Nat × gw_I) := [(0, .lload_n 0, 1, 0, 0), (1, .bipush 8, 2, 0, 8), (3, .iload_n 2, 1, 0, 0), (4, .imul, 1, 0, 0), (5, .lushr, 1, 0, 0), (6, .ldc2_w 27, 3, 0, 0), (9, .land, 1, 0, 0), (10, .l2i, 1, 0, 0), (11, .ireturn, 1, 0, 0)]
def gm_82 : gw_M := (4, ⟨"GlassWires$Page", "byteOf", "(JI)I"⟩, prog_6_method_6_code, 3, (some .int), 2, 1, 1, gk_82)
def gk_83 : List (Nat × gw_I) := [(0, .iload_n 1, 1, 0, 0), (1, .ifCond .lt 11, 3, 12, 0), (4, .iload_n 1, 1, 0, 0), (5, .aload_n 0, 1, 0, 0), (6, .getfield 15, 3, 0, 0), (9, .if_icmp .lt 5, 3, 14, 0), (12, .iconst (-1), 1, 0, (-1)), (13, .ireturn, 1, 0, 0), (14, .aload_n 0, 1, 0, 0), (15, .getfield 11, 3, 0, 0), (18, .iload_n 1, 1, 0, 0), (19, .iaload, 1, 0, 0), (20, .lookupswitch 52 #[(100, 50), (108, 48), (114, 44), (117, 46)], 44, 0, 0), (64, .iconst 0, 1, 0, 0), (65, .ireturn, 1, 0, 0), (66, .iconst 1, 1, 0, 1), (67, .ireturn, 1, 0, 0), (68, .iconst 2, 1, 0, 2), (69, .ireturn, 1, 0, 0), (70, .iconst 3, 1, 0, 3), (71, .ireturn, 1, 0, 0), (72, .iconst (-1), 1, 0, (-1)), (73, .ireturn, 1, 0, 0)]
def gm_83 : gw_M := (4, ⟨"GlassWires$Page", "wayAt", "(I)I"⟩, prog_6_method_7_code, 2, (some .int), 1, 0, 1, gk_83)
def gk_84 : List (Nat × gw_I) := [(0, .iload_n 2, 1, 0, 0), (1, .istore 4, 2, 0, 0), (3, .iload_n 3, 1, 0, 0), (4, .istore 5, 2, 0, 0), (6, .iconst 0, 1, 0, 0), (7, .istore 6, 2, 0, 0), (9, .iload 6, 2, 0, 0), (11, .bipush 24, 2, 0, 24), (13, .if_icmp .ge 57, 3, 70, 0), (16, .aload_n 0, 1, 0, 0), (17, .iload 6, 2, 0, 0), (19, .invokevirtual 33, 3, 0, 0), (22, .istore 7, 2, 0, 0), (24, .iload 4, 2, 0, 0), (26, .iload 7, 2, 0, 0), (28, .invokestatic 37, 3, 0, 0), (31, .iadd, 1, 0, 0), (32, .istore 4, 2, 0, 0), (34, .iload 5, 2, 0, 0), (36, .iload 7, 2, 0, 0), (38, .invokestatic 40, 3, 0, 0), (41, .iadd, 1, 0, 0), (42, .istore 5, 2, 0, 0), (44, .iload 7, 2, 0, 0), (46, .iconst (-1), 1, 0, (-1)), (47, .if_icmp .eq 14, 3, 61, 0), (50, .aload_n 1, 1, 0, 0), (51, .iload 4, 2, 0, 0), (53, .iload 5, 2, 0, 0), (55, .invokevirtual 43, 3, 0, 0), (58, .ifCond .ne 6, 3, 64, 0), (61, .iload 6, 2, 0, 0), (63, .ireturn, 1, 0, 0), (64, .iinc 6 1, 3, 0, 1), (67, .goto (-58), 3, 9, 0), (70, .bipush 24, 2, 0, 24), (72, .ireturn, 1, 0, 0)]
def gm_84 : gw_M := (4, ⟨"GlassWires$Page", "goodMoves", "(LGlassWires$Grid;II)I"⟩, prog_6_method_8_code, 8, (some .int), 3, 0, 2, gk_84)
def gk_85 : List (Nat × gw_I) := [(0, .aload_n 0, 1, 0, 0), (1, .getfield 15, 3, 0, 0), (4, .ifCond .le 21, 3, 25, 0), (7, .aload_n 0, 1, 0, 0), (8, .aload_n 1, 1, 0, 0), (9, .iload_n 2, 1, 0, 0), (10, .iload_n 3, 1, 0, 0), (11, .invokevirtual 47, 3, 0, 0), (14, .aload_n 0, 1, 0, 0), (15, .getfield 15, 3, 0, 0), (18, .if_icmp .ne 7, 3, 25, 0), (21, .iconst 1, 1, 0, 1), (22, .goto 4, 3, 26, 0), (25, .iconst 0, 1, 0, 0), (26, .ireturn, 1, 0, 0)]
def gm_85 : gw_M := (4, ⟨"GlassWires$Page", "isWire", "(LGlassWires$Grid;II)Z"⟩, prog_6_method_9_code, 4, (some .boolean), 3, 0, 3, gk_85)
def gk_86 : List (Nat × gw_I) := [(0, .lload_n 1, 1, 0, 0), (1, .lstore_n 3, 1, 0, 0), (2, .iconst 0, 1, 0, 0), (3, .istore 5, 2, 0, 0), (5, .iload 5, 2, 0, 0), (7, .aload_n 0, 1, 0, 0), (8, .getfield 15, 3, 0, 0), (11, .if_icmp .ge 22, 3, 33, 0), (14, .lload_n 3, 1, 0, 0), (15, .aload_n 0, 1, 0, 0), (16, .getfield 11, 3, 0, 0), (19, .iload 5, 2, 0, 0), (21, .iaload, 1, 0, 0), (22, .i2l, 1, 0, 0), (23, .invokestatic 51, 3, 0, 0), (26, .lstore_n 3, 1, 0, 0), (27, .iinc 5 1, 3, 0, 1), (30, .goto (-25), 3, 5, 0), (33, .lload_n 3, 1, 0, 0), (34, .lreturn, 1, 0, 0)]
def gm_86 : gw_M := (4, ⟨"GlassWires$Page", "digestOn", "(J)J"⟩, prog_6_method_10_code, 6, (some .long), 1, 0, 2, gk_86)
def gk_87 : List (Nat × gw_I) := [(0, .aload_n 0, 1, 0, 0), (1, .invokespecial 3, 3, 0, 0), (4, .aload_n 0, 1, 0, 0), (5, .bipush 64, 2, 0, 64), (7, .newarray .int, 2, 0, 0), (9, .putfield 11, 3, 0, 0), (12, .aload_n 0, 1, 0, 0), (13, .bipush 10, 2, 0, 10), (15, .newarray .int, 2, 0, 0), (17, .putfield 17, 3, 0, 0), (20, .aload_n 0, 1, 0, 0), (21, .bipush 10, 2, 0, 10), (23, .newarray .int, 2, 0, 0), (25, .putfield 20, 3, 0, 0), (28, .aload_n 0, 1, 0, 0), (29, .aload_n 1, 1, 0, 0), (30, .putfield 23, 3, 0, 0), (33, .aload_n 0, 1, 0, 0), (34, .aload_n 2, 1, 0, 0), (35, .putfield 27, 3, 0, 0), (38, .return_, 1, 0, 0)]
def gm_87 : gw_M := (5, ⟨"GlassWires$Painter", "<init>", "(LGlassWires$Grid;LGlassWires$Cells;)V"⟩, prog_7_method_1_code, 3, none, 2, 2, 1, gk_87)
def gk_88 : List (Nat × gw_I) := [(0, .aload_n 0, 1, 0, 0), (1, .invokevirtual 31, 3, 0, 0), (4, .aload_n 0, 1, 0, 0), (5, .getfield 27, 3, 0, 0), (8, .invokevirtual 34, 3, 0, 0), (11, .bipush 10, 2, 0, 10), (13, .invokestatic 40, 3, 0, 0), (16, .istore_n 1, 1, 0, 0), (17, .iconst 1, 1, 0, 1), (18, .istore_n 2, 1, 0, 0), (19, .iload_n 2, 1, 0, 0), (20, .bipush 10, 2, 0, 10), (22, .if_icmp .gt 28, 3, 50, 0), (25, .aload_n 0, 1, 0, 0), (26, .getfield 17, 3, 0, 0), (29, .aload_n 0, 1, 0, 0), (30, .getfield 20, 3, 0, 0), (33, .iconst 0, 1, 0, 0), (34, .iload_n 1, 1, 0, 0), (35, .iload_n 2, 1, 0, 0), (36, .invokestatic 46, 3, 0, 0), (39, .ifCond .eq 5, 3, 44, 0), (42, .iload_n 2, 1, 0, 0), (43, .ireturn, 1, 0, 0), (44, .iinc 2 1, 3, 0, 1), (47, .goto (-28), 3, 19, 0), (50, .bipush 10, 2, 0, 10), (52, .ireturn, 1, 0, 0)]
def gm_88 : gw_M := (5, ⟨"GlassWires$Painter", "fewest", "()I"⟩, prog_7_method_2_code, 3, (some .int), 0, 0, 21, gk_88)
def gk_89 : List (Nat × gw_I) := [(0, .aload_n 0, 1, 0, 0), (1, .invokevirtual 50, 3, 0, 0), (4, .pop, 1, 0, 0), (5, .aload_n 0, 1, 0, 0), (6, .getfield 20, 3, 0, 0), (9, .aload_n 0, 1, 0, 0), (10, .getfield 11, 3, 0, 0), (13, .iload_n 1, 1, 0, 0), (14, .iaload, 1, 0, 0), (15, .iaload, 1, 0, 0), (16, .ireturn, 1, 0, 0)]
def gm_89 : gw_M := (5, ⟨"GlassWires$Painter", "firstPaint", "(I)I"⟩, prog_7_method_3_code, 2, (some .int), 1, 0, 22, gk_89)
def gk_90 : List (Nat × gw_I) := [(0, .aload_n 0, 1, 0, 0), (1, .getfield 17, 3, 0, 0), (4, .iconst 0, 1, 0, 0), (5, .invokestatic 53, 3, 0, 0), (8, .iconst 0, 1, 0, 0), (9, .istore_n 1, 1, 0, 0), (10, .iconst 0, 1, 0, 0), (11, .istore_n 2, 1, 0, 0), (12, .iload_n 2, 1, 0, 0), (13, .aload_n 0, 1, 0, 0), (14, .getfield 23, 3, 0, 0), (17, .invokevirtual 59, 3, 0, 0), (20, .if_icmp .ge 36, 3, 56, 0), (23, .aload_n 0, 1, 0, 0), (24, .getfield 27, 3, 0, 0), (27, .iload_n 2, 1, 0, 0), (28, .invokevirtual 62, 3, 0, 0), (31, .ifCond .eq 19, 3, 50, 0), (34, .iload_n 1, 1, 0, 0), (35, .bipush 10, 2, 0, 10), (37, .if_icmp .ge 13, 3, 50, 0), (40, .aload_n 0, 1, 0, 0), (41, .getfield 11, 3, 0, 0), (44, .iload_n 2, 1, 0, 0), (45, .iload_n 1, 1, 0, 0), (46, .iastore, 1, 0, 0), (47, .iinc 1 1, 3, 0, 1), (50, .iinc 2 1, 3, 0, 1), (53, .goto (-41), 3, 12, 0), (56, .iconst 0, 1, 0, 0), (57, .istore_n 2, 1, 0, 0), (58, .iload_n 2, 1, 0, 0), (59, .aload_n 0, 1, 0, 0), (60, .getfield 23, 3, 0, 0), (63, .invokevirtual 59, 3, 0, 0), (66, .if_icmp .ge 96, 3, 162, 0), (69, .iconst 0, 1, 0, 0), (70, .istore_n 3, 1, 0, 0), (71, .iload_n 3, 1, 0, 0), (72, .iconst 4, 1, 0, 4), (73, .if_icmp .ge 83, 3, 156, 0), (76, .aload_n 0, 1, 0, 0), (77, .getfield 23, 3, 0, 0), (80, .iload_n 2, 1, 0, 0), (81, .iload_n 3, 1, 0, 0), (82, .invokevirtual 66, 3, 0, 0), (85, .istore 4, 2, 0, 0), (87, .iload 4, 2, 0, 0), (89, .iconst (-1), 1, 0, (-1)), (90, .if_icmp .eq 60, 3, 150, 0), (93, .aload_n 0, 1, 0, 0), (94, .getfield 27, 3, 0, 0), (97, .iload 4, 2, 0, 0), (99, .invokevirtual 69, 3, 0, 0), (102, .aload_n 0, 1, 0, 0), (103, .getfield 27, 3, 0, 0), (106, .iload_n 2, 1, 0, 0), (107, .invokevirtual 69, 3, 0, 0), (110, .if_icmp .eq 40, 3, 150, 0), (113, .aload_n 0, 1, 0, 0), (114, .getfield 17, 3, 0, 0), (117, .aload_n 0, 1, 0, 0), (118, .getfield 11, 3, 0, 0), (121, .aload_n 0, 1, 0, 0), (122, .getfield 27, 3, 0, 0), (125, .iload_n 2, 1, 0, 0), (126, .invokevirtual 69, 3, 0, 0), (129, .iaload, 1, 0, 0), (130, .dup2, 1, 0, 0), (131, .iaload, 1, 0, 0), (132, .iconst 1, 1, 0, 1), (133, .aload_n 0, 1, 0, 0), (134, .getfield 11, 3, 0, 0), (137, .aload_n 0, 1, 0, 0), (138, .getfield 27, 3, 0, 0), (141, .iload 4, 2, 0, 0), (143, .invokevirtual 69, 3, 0, 0), (146, .iaload, 1, 0, 0), (147, .ishl, 1, 0, 0), (148, .ior, 1, 0, 0), (149, .iastore, 1, 0, 0), (150, .iinc 3 1, 3, 0, 1), (153, .goto (-82), 3, 71, 0), (156, .iinc 2 1, 3, 0, 1), (159, .goto (-101), 3, 58, 0), (162, .return_, 1, 0, 0)]
def gm_90 : gw_M := (5, ⟨"GlassWires$Painter", "findNear", "()V"⟩, prog_7_method_4_code, 5, none, 0, 0, 3, gk_90)
def gk_91 : List (Nat × gw_I) := [(0, .iload_n 2, 1, 0, 0), (1, .iload_n 3, 1, 0, 0), (2, .if_icmp .ge 9, 3, 11, 0), (5, .iload_n 2, 1, 0, 0), (6, .bipush 10, 2, 0, 10), (8, .if_icmp .lt 5, 3, 13, 0), (11, .iconst 1, 1, 0, 1), (12, .ireturn, 1, 0, 0), (13, .iconst 0, 1, 0, 0), (14, .istore 5, 2, 0, 0), (16, .iload 5, 2, 0, 0), (18, .iload 4, 2, 0, 0), (20, .if_icmp .ge 43, 3, 63, 0), (23, .aload_n 0, 1, 0, 0), (24, .iload_n 2, 1, 0, 0), (25, .iaload, 1, 0, 0), (26, .aload_n 1, 1, 0, 0), (27, .iload_n 2, 1, 0, 0), (28, .iload 5, 2, 0, 0), (30, .invokestatic 73, 3, 0, 0), (33, .ifCond .eq 24, 3, 57, 0), (36, .aload_n 1, 1, 0, 0), (37, .iload_n 2, 1, 0, 0), (38, .iload 5, 2, 0, 0), (40, .iastore, 1, 0, 0), (41, .aload_n 0, 1, 0, 0), (42, .aload_n 1, 1, 0, 0), (43, .iload_n 2, 1, 0, 0), (44, .iconst 1, 1, 0, 1), (45, .iadd, 1, 0, 0), (46, .iload_n 3, 1, 0, 0), (47, .iload 4, 2, 0, 0), (49, .invokestatic 46, 3, 0, 0), (52, .ifCond .eq 5, 3, 57, 0), (55, .iconst 1, 1, 0, 1), (56, .ireturn, 1, 0, 0), (57, .iinc 5 1, 3, 0, 1), (60, .goto (-44), 3, 16, 0), (63, .iconst 0, 1, 0, 0), (64, .ireturn, 1, 0, 0)]
def gm_91 : gw_M := (5, ⟨"GlassWires$Painter", "canPaint", "([I[IIII)Z"⟩, prog_7_method_5_code, 6, (some .boolean), 5, 1, 2, gk_91)
def gk_92 : List (Nat × gw_I) := [(0, .iconst 0, 1, 0, 0), (1, .istore 4, 2, 0, 0), (3, .iload 4, 2, 0, 0), (5, .iload_n 2, 1, 0, 0), (6, .if_icmp .ge 29, 3, 35, 0), (9, .iload_n 0, 1, 0, 0), (10, .iload 4, 2, 0, 0), (12, .ishr, 1, 0, 0), (13, .iconst 1, 1, 0, 1), (14, .iand, 1, 0, 0), (15, .iconst 1, 1, 0, 1), (16, .if_icmp .ne 13, 3, 29, 0), (19, .aload_n 1, 1, 0, 0), (20, .iload 4, 2, 0, 0), (22, .iaload, 1, 0, 0), (23, .iload_n 3, 1, 0, 0), (24, .if_icmp .ne 5, 3, 29, 0), (27, .iconst 0, 1, 0, 0), (28, .ireturn, 1, 0, 0), (29, .iinc 4 1, 3, 0, 1), (32, .goto (-29), 3, 3, 0), (35, .iconst 1, 1, 0, 1), (36, .ireturn, 1, 0, 0)]
def gm_92 : gw_M := (5, ⟨"GlassWires$Painter", "isFree", "(I[III)Z"⟩, prog_7_method_6_code, 5, (some .boolean), 4, 1, 1, gk_92)
def gk_93 : List (Nat × gw_I) := [(0, .aload_n 0, 1, 0, 0), (1, .invokespecial 3, 3, 0, 0), (4, .aload_n 0, 1, 0, 0), (5, .bipush 24, 2, 0, 24), (7, .newarray .int, 2, 0, 0), (9, .putfield 11, 3, 0, 0), (12, .aload_n 0, 1, 0, 0), (13, .bipush 8, 2, 0, 8), (15, .newarray .int, 2, 0, 0), (17, .putfield 15, 3, 0, 0), (20, .aload_n 0, 1, 0, 0), (21, .iconst 3, 1, 0, 3), (22, .newarray .int, 2, 0, 0), (24, .dup, 1, 0, 0), (25, .iconst 0, 1, 0, 0), (26, .bipush 20, 2, 0, 20), (28, .iastore, 1, 0, 0), (29, .dup, 1, 0, 0), (30, .iconst 1, 1, 0, 1), (31, .bipush 20, 2, 0, 20), (33, .iastore, 1, 0, 0), (34, .dup, 1, 0, 0), (35, .iconst 2, 1, 0, 2), (36, .bipush 50, 2, 0, 50), (38, .iastore, 1, 0, 0), (39, .putfield 18, 3, 0, 0), (42, .iconst 0, 1, 0, 0), (43, .istore_n 1, 1, 0, 0), (44, .iload_n 1, 1, 0, 0), (45, .bipush 8, 2, 0, 8), (47, .if_icmp .ge 37, 3, 84, 0), (50, .iconst 0, 1, 0, 0), (51, .istore_n 2, 1, 0, 0), (52, .iload_n 2, 1, 0, 0), (53, .iconst 3, 1, 0, 3), (54, .if_icmp .ge 24, 3, 78, 0), (57, .aload_n 0, 1, 0, 0), (58, .getfield 11, 3, 0, 0), (61, .iconst 3, 1, 0, 3), (62, .iload_n 1, 1, 0, 0), (63, .imul, 1, 0, 0), (64, .iload_n 2, 1, 0, 0), (65, .iadd, 1, 0, 0), (66, .getstatic 21, 3, 0, 0), (69, .iload_n 2, 1, 0, 0), (70, .iaload, 1, 0, 0), (71, .iastore, 1, 0, 0), (72, .iinc 2 1, 3, 0, 1), (75, .goto (-23), 3, 52, 0), (78, .iinc 1 1, 3, 0, 1), (81, .goto (-37), 3, 44, 0), (84, .return_, 1, 0, 0)]
def gm_93 : gw_M := (6, ⟨"GlassWires$Palette", "<init>", "()V"⟩, prog_8_method_1_code, 3, none, 0, 2, 1, gk_93)
def gk_94 : List (Nat × gw_I) := [(0, .iload_n 0, 1, 0, 0), (1, .ifCond .lt 13, 3, 14, 0), (4, .iload_n 0, 1, 0, 0), (5, .bipush 8, 2, 0, 8), (7, .if_icmp .ge 7, 3, 14, 0), (10, .iconst 1, 1, 0, 1), (11, .goto 4, 3, 15, 0), (14, .iconst 0, 1, 0, 0), (15, .ireturn, 1, 0, 0)]
def gm_94 : gw_M := (6, ⟨"GlassWires$Palette", "has", "(I)Z"⟩, prog_8_method_2_code, 1, (some .boolean), 1, 1, 1, gk_94)
def gk_95 : List (Nat × gw_I) := [(0, .iload_n 0, 1, 0, 0), (1, .ifCond .lt 12, 3, 13, 0), (4, .iload_n 0, 1, 0, 0), (5, .iconst 3, 1, 0, 3), (6, .if_icmp .ge 7, 3, 13, 0), (9, .iconst 1, 1, 0, 1), (10, .goto 4, 3, 14, 0), (13, .iconst 0, 1, 0, 0), (14, .ireturn, 1, 0, 0)]
def gm_95 : gw_M := (6, ⟨"GlassWires$Palette", "hasTrait", "(I)Z"⟩, prog_8_method_3_code, 1, (some .boolean), 1, 1, 1, gk_95)
def gk_96 : List (Nat × gw_I) := [(0, .iload_n 0, 1, 0, 0), (1, .ifCond .lt 12, 3, 13, 0), (4, .iload_n 0, 1, 0, 0), (5, .iconst 3, 1, 0, 3), (6, .if_icmp .ge 7, 3, 13, 0), (9, .iconst 1, 1, 0, 1), (10, .goto 4, 3, 14, 0), (13, .iconst 0, 1, 0, 0), (14, .ireturn, 1, 0, 0)]
def gm_96 : gw_M := (6, ⟨"GlassWires$Palette", "hasRule", "(I)Z"⟩, prog_8_method_4_code, 1, (some .boolean), 1, 1, 1, gk_96)
def gk_97 : List (Nat × gw_I) := [(0, .iload_n 3, 1, 0, 0), (1, .getstatic 24, 3, 0, 0), (4, .iload_n 2, 1, 0, 0), (5, .iaload, 1, 0, 0), (6, .if_icmp .lt 12, 3, 18, 0), (9, .iload_n 3, 1, 0, 0), (10, .getstatic 27, 3, 0, 0), (13, .iload_n 2, 1, 0, 0), (14, .iaload, 1, 0, 0), (15, .if_icmp .le 6, 3, 21, 0), (18, .bipush (-102), 2, 0, (-102)), (20, .ireturn, 1, 0, 0), (21, .aload_n 0, 1, 0, 0), (22, .getfield 11, 3, 0, 0), (25, .iconst 3, 1, 0, 3), (26, .iload_n 1, 1, 0, 0), (27, .imul, 1, 0, 0), (28, .iload_n 2, 1, 0, 0), (29, .iadd, 1, 0, 0), (30, .iaload, 1, 0, 0), (31, .istore 4, 2, 0, 0), (33, .aload_n 0, 1, 0, 0), (34, .getfield 11, 3, 0, 0), (37, .iconst 3, 1, 0, 3), (38, .iload_n 1, 1, 0, 0), (39, .imul, 1, 0, 0), (40, .iload_n 2, 1, 0, 0), (41, .iadd, 1, 0, 0), (42, .iload_n 3, 1, 0, 0), (43, .iastore, 1, 0, 0), (44, .iload 4, 2, 0, 0), (46, .ireturn, 1, 0, 0)]
def gm_97 : gw_M := (6, ⟨"GlassWires$Palette", "setTrait", "(III)I"⟩, prog_8_method_5_code, 5, (some .int), 3, 0, 1, gk_97)
def gk_98 : List (Nat × gw_I) := [(0, .iload_n 2, 1, 0, 0), (1, .iconst 1, 1, 0, 1), (2, .if_icmp .lt 12, 3, 14, 0), (5, .iload_n 2, 1, 0, 0), (6, .getstatic 30, 3, 0, 0), (9, .iload_n 1, 1, 0, 0), (10, .iaload, 1, 0, 0), (11, .if_icmp .le 6, 3, 17, 0), (14, .bipush (-102), 2, 0, (-102)), (16, .ireturn, 1, 0, 0), (17, .aload_n 0, 1, 0, 0), (18, .getfield 18, 3, 0, 0), (21, .iload_n 1, 1, 0, 0), (22, .iaload, 1, 0, 0), (23, .istore_n 3, 1, 0, 0), (24, .aload_n 0, 1, 0, 0), (25, .getfield 18, 3, 0, 0), (28, .iload_n 1, 1, 0, 0), (29, .iload_n 2, 1, 0, 0), (30, .iastore, 1, 0, 0), (31, .iload_n 3, 1, 0, 0), (32, .ireturn, 1, 0, 0)]
def gm_98 : gw_M := (6, ⟨"GlassWires$Palette", "setRule", "(II)I"⟩, prog_8_method_6_code, 4, (some .int), 2, 0, 1, gk_98)
def gk_99 : List (Nat × gw_I) := [(0, .aload_n 0, 1, 0, 0), (1, .getfield 11, 3, 0, 0), (4, .iconst 3, 1, 0, 3), (5, .iload_n 1, 1, 0, 0), (6, .imul, 1, 0, 0), (7, .iconst 0, 1, 0, 0), (8, .iadd, 1, 0, 0), (9, .iaload, 1, 0, 0), (10, .ireturn, 1, 0, 0)]
def gm_99 : gw_M := (6, ⟨"GlassWires$Palette", "heatOf", "(I)I"⟩, prog_8_method_7_code, 2, (some .int), 1, 0, 1, gk_99)
def gk_100 : List (Nat × gw_I) := [(0, .aload_n 0, 1, 0, 0), (1, .iload_n 1, 1, 0, 0), (2, .invokevirtual 33, 3, 0, 0), (5, .bipush 50, 2, 0, 50), (7, .iadd, 1, 0, 0), (8, .ireturn, 1, 0, 0)]
def gm_100 : gw_M := (6, ⟨"GlassWires$Palette", "bearableHeat", "(I)I"⟩, prog_8_method_8_code, 2, (some .int), 1, 0, 2, gk_100)
def gk_101 : List (Nat × gw_I) := [(0, .aload_n 0, 1, 0, 0), (1, .getfield 11, 3, 0, 0), (4, .iconst 3, 1, 0, 3), (5, .iload_n 1, 1, 0, 0), (6, .imul, 1, 0, 0), (7, .iconst 2, 1, 0, 2), (8, .iadd, 1, 0, 0), (9, .iaload, 1, 0, 0), (10, .ireturn, 1, 0, 0)]
def gm_101 : gw_M := (6, ⟨"GlassWires$Palette", "pullOf", "(I)I"⟩, prog_8_method_9_code, 2, (some .int), 1, 0, 1, gk_101)
def gk_102 : List (Nat × gw_I) := [(0, .iload_n 2, 1, 0, 0), (1, .iload_n 2, 1, 0, 0), (2, .aload_n 0, 1, 0, 0), (3, .getfield 11, 3, 0, 0), (6, .iconst 3, 1, 0, 3), (7, .iload_n 1, 1, 0, 0), (8, .imul, 1, 0, 0), (9, .iconst 1, 1, 0, 1), (10, .iadd, 1, 0, 0), (11, .iaload, 1, 0, 0), (12, .imul, 1, 0, 0), (13, .bipush 10, 2, 0, 10), (15, .idiv, 1, 0, 0), (16, .isub, 1, 0, 0), (17, .ireturn, 1, 0, 0)]
def gm_102 : gw_M := (6, ⟨"GlassWires$Palette", "shrunk", "(II)I"⟩, prog_8_method_10_code, 3, (some .int), 2, 0, 1, gk_102)
def gk_103 : List (Nat × gw_I) := [(0, .aload_n 0, 1, 0, 0), (1, .getfield 18, 3, 0, 0), (4, .iconst 0, 1, 0, 0), (5, .iaload, 1, 0, 0), (6, .ireturn, 1, 0, 0)]
def gm_103 : gw_M := (6, ⟨"GlassWires$Palette", "wall", "()I"⟩, prog_8_method_11_code, 1, (some .int), 0, 0, 1, gk_103)
def gk_104 : List (Nat × gw_I) := [(0, .aload_n 0, 1, 0, 0), (1, .getfield 18, 3, 0, 0), (4, .iconst 1, 1, 0, 1), (5, .iaload, 1, 0, 0), (6, .ireturn, 1, 0, 0)]
def gm_104 : gw_M := (6, ⟨"GlassWires$Palette", "stiff", "()I"⟩, prog_8_method_12_code, 1, (some .int), 0, 0, 1, gk_104)
def gk_105 : List (Nat × gw_I) := [(0, .aload_n 0, 1, 0, 0), (1, .getfield 18, 3, 0, 0), (4, .iconst 2, 1, 0, 2), (5, .iaload, 1, 0, 0), (6, .ireturn, 1, 0, 0)]
def gm_105 : gw_M := (6, ⟨"GlassWires$Palette", "bear", "()I"⟩, prog_8_method_13_code, 1, (some .int), 0, 0, 1, gk_105)
def gk_106 : List (Nat × gw_I) := [(0, .aload_n 0, 1, 0, 0), (1, .getfield 15, 3, 0, 0), (4, .iload_n 1, 1, 0, 0), (5, .iaload, 1, 0, 0), (6, .iload_n 2, 1, 0, 0), (7, .ishr, 1, 0, 0), (8, .iconst 1, 1, 0, 1), (9, .iand, 1, 0, 0), (10, .iconst 1, 1, 0, 1), (11, .if_icmp .ne 7, 3, 18, 0), (14, .iconst 1, 1, 0, 1), (15, .goto 4, 3, 19, 0), (18, .iconst 0, 1, 0, 0), (19, .ireturn, 1, 0, 0)]
def gm_106 : gw_M := (6, ⟨"GlassWires$Palette", "areFoes", "(II)Z"⟩, prog_8_method_14_code, 3, (some .boolean), 2, 0, 1, gk_106)
def gk_107 : List (Nat × gw_I) := [(0, .aload_n 0, 1, 0, 0), (1, .getfield 15, 3, 0, 0), (4, .iload_n 1, 1, 0, 0), (5, .iload_n 3, 1, 0, 0), (6, .ifCond .eq 16, 3, 22, 0), (9, .aload_n 0, 1, 0, 0), (10, .getfield 15, 3, 0, 0), (13, .iload_n 1, 1, 0, 0), (14, .iaload, 1, 0, 0), (15, .iconst 1, 1, 0, 1), (16, .iload_n 2, 1, 0, 0), (17, .ishl, 1, 0, 0), (18, .ior, 1, 0, 0), (19, .goto 15, 3, 34, 0), (22, .aload_n 0, 1, 0, 0), (23, .getfield 15, 3, 0, 0), (26, .iload_n 1, 1, 0, 0), (27, .iaload, 1, 0, 0), (28, .iconst 1, 1, 0, 1), (29, .iload_n 2, 1, 0, 0), (30, .ishl, 1, 0, 0), (31, .iconst (-1), 1, 0, (-1)), (32, .ixor, 1, 0, 0), (33, .iand, 1, 0, 0), (34, .iastore, 1, 0, 0), (35, .aload_n 0, 1, 0, 0), (36, .getfield 15, 3, 0, 0), (39, .iload_n 2, 1, 0, 0), (40, .iload_n 3, 1, 0, 0), (41, .ifCond .eq 16, 3, 57, 0), (44, .aload_n 0, 1, 0, 0), (45, .getfield 15, 3, 0, 0), (48, .iload_n 2, 1, 0, 0), (49, .iaload, 1, 0, 0), (50, .iconst 1, 1, 0, 1), (51, .iload_n 1, 1, 0, 0), (52, .ishl, 1, 0, 0), (53, .ior, 1, 0, 0), (54, .goto 15, 3, 69, 0), (57, .aload_n 0, 1, 0, 0), (58, .getfield 15, 3, 0, 0), (61, .iload_n 2, 1, 0, 0), (62, .iaload, 1, 0, 0), (63, .iconst 1, 1, 0, 1), (64, .iload_n 1, 1, 0, 0), (65, .ishl, 1, 0, 0), (66, .iconst (-1), 1, 0, (-1)), (67, .ixor, 1, 0, 0), (68, .iand, 1, 0, 0), (69, .iastore, 1, 0, 0), (70, .return_, 1, 0, 0)]
def gm_107 : gw_M := (6, ⟨"GlassWires$Palette", "setFoes", "(IIZ)V"⟩, prog_8_method_15_code, 4, none, 3, 0, 1, gk_107)
def gk_108 : List (Nat × gw_I) := [(0, .iconst 0, 1, 0, 0), (1, .istore_n 2, 1, 0, 0), (2, .iconst 0, 1, 0, 0), (3, .istore_n 3, 1, 0, 0), (4, .iload_n 2, 1, 0, 0), (5, .aload_n 0, 1, 0, 0), (6, .invokevirtual 37, 3, 0, 0), (9, .iconst 1, 1, 0, 1), (10, .isub, 1, 0, 0), (11, .if_icmp .ge 31, 3, 42, 0), (14, .iload_n 3, 1, 0, 0), (15, .aload_n 0, 1, 0, 0), (16, .invokevirtual 37, 3, 0, 0), (19, .if_icmp .ge 23, 3, 42, 0), (22, .iload_n 2, 1, 0, 0), (23, .aload_n 0, 1, 0, 0), (24, .iload_n 1, 1, 0, 0), (25, .aload_n 0, 1, 0, 0), (26, .invokevirtual 37, 3, 0, 0), (29, .iload_n 2, 1, 0, 0), (30, .isub, 1, 0, 0), (31, .invokevirtual 41, 3, 0, 0), (34, .iadd, 1, 0, 0), (35, .istore_n 2, 1, 0, 0), (36, .iinc 3 1, 3, 0, 1), (39, .goto (-35), 3, 4, 0), (42, .iload_n 3, 1, 0, 0), (43, .ireturn, 1, 0, 0)]
def gm_108 : gw_M := (6, ⟨"GlassWires$Palette", "fillsOf", "(I)I"⟩, prog_8_method_16_code, 4, (some .int), 1, 0, 2, gk_108)
def gk_109 : List (Nat × gw_I) := [(0, .lload_n 1, 1, 0, 0), (1, .lstore_n 3, 1, 0, 0), (2, .iconst 0, 1, 0, 0), (3, .istore 5, 2, 0, 0), (5, .iload 5, 2, 0, 0), (7, .bipush 24, 2, 0, 24), (9, .if_icmp .ge 22, 3, 31, 0), (12, .lload_n 3, 1, 0, 0), (13, .aload_n 0, 1, 0, 0), (14, .getfield 11, 3, 0, 0), (17, .iload 5, 2, 0, 0), (19, .iaload, 1, 0, 0), (20, .i2l, 1, 0, 0), (21, .invokestatic 45, 3, 0, 0), (24, .lstore_n 3, 1, 0, 0), (25, .iinc 5 1, 3, 0, 1), (28, .goto (-23), 3, 5, 0), (31, .iconst 0, 1, 0, 0), (32, .istore 5, 2, 0, 0), (34, .iload 5, 2, 0, 0), (36, .bipush 8, 2, 0, 8), (38, .if_icmp .ge 45, 3, 83, 0), (41, .iload 5, 2, 0, 0), (43, .iconst 1, 1, 0, 1), (44, .iadd, 1, 0, 0), (45, .istore 6, 2, 0, 0), (47, .iload 6, 2, 0, 0), (49, .bipush 8, 2, 0, 8), (51, .if_icmp .ge 26, 3, 77, 0), (54, .lload_n 3, 1, 0, 0), (55, .aload_n 0, 1, 0, 0), (56, .iload 5, 2, 0, 0), (58, .iload 6, 2, 0, 0), (60, .invokevirtual 49, 3, 0, 0), (63, .invokestatic 53, 3, 0, 0), (66, .i2l, 1, 0, 0), (67, .invokestatic 45, 3, 0, 0), (70, .lstore_n 3, 1, 0, 0), (71, .iinc 6 1, 3, 0, 1), (74, .goto (-27), 3, 47, 0), (77, .iinc 5 1, 3, 0, 1), (80, .goto (-46), 3, 34, 0), (83, .iconst 0, 1, 0, 0), (84, .istore 5, 2, 0, 0), (86, .iload 5, 2, 0, 0), (88, .iconst 3, 1, 0, 3), (89, .if_icmp .ge 22, 3, 111, 0), (92, .lload_n 3, 1, 0, 0), (93, .aload_n 0, 1, 0, 0), (94, .getfield 18, 3, 0, 0), (97, .iload 5, 2, 0, 0), (99, .iaload, 1, 0, 0), (100, .i2l, 1, 0, 0), (101, .invokestatic 45, 3, 0, 0), (104, .lstore_n 3, 1, 0, 0), (105, .iinc 5 1, 3, 0, 1), (108, .goto (-22), 3, 86, 0), (111, .lload_n 3, 1, 0, 0), (112, .lreturn, 1, 0, 0)]
def gm_109 : gw_M := (6, ⟨"GlassWires$Palette", "digestOn", "(J)J"⟩, prog_8_method_17_code, 7, (some .long), 1, 0, 2, gk_109)
def gk_110 : List (Nat × gw_I) := [(0, .aload_n 0, 1, 0, 0), (1, .invokespecial 3, 3, 0, 0), (4, .aload_n 0, 1, 0, 0), (5, .bipush 8, 2, 0, 8), (7, .newarray .int, 2, 0, 0), (9, .putfield 11, 3, 0, 0), (12, .aload_n 0, 1, 0, 0), (13, .bipush 8, 2, 0, 8), (15, .newarray .int, 2, 0, 0), (17, .putfield 17, 3, 0, 0), (20, .aload_n 0, 1, 0, 0), (21, .aload_n 1, 1, 0, 0), (22, .putfield 20, 3, 0, 0), (25, .return_, 1, 0, 0)]
def gm_110 : gw_M := (7, ⟨"GlassWires$Plan", "<init>", "(LGlassWires$Palette;)V"⟩, prog_9_method_1_code, 2, none, 1, 2, 1, gk_110)
def gk_111 : List (Nat × gw_I) := [(0, .iload_n 0, 1, 0, 0), (1, .ifCond .lt 14, 3, 15, 0), (4, .iload_n 0, 1, 0, 0), (5, .sipush 255, 3, 0, 255), (8, .if_icmp .gt 7, 3, 15, 0), (11, .iconst 1, 1, 0, 1), (12, .goto 4, 3, 16, 0), (15, .iconst 0, 1, 0, 0), (16, .ireturn, 1, 0, 0)]
def gm_111 : gw_M := (7, ⟨"GlassWires$Plan", "allows", "(I)Z"⟩, prog_9_method_2_code, 1, (some .boolean), 1, 1, 1, gk_111)
def gk_112 : List (Nat × gw_I) := [(0, .aload_n 0, 1, 0, 0), (1, .iconst 0, 1, 0, 0), (2, .putfield 24, 3, 0, 0), (5, .iload_n 1, 1, 0, 0), (6, .istore_n 2, 1, 0, 0), (7, .iconst 0, 1, 0, 0), (8, .istore_n 3, 1, 0, 0), (9, .iload_n 3, 1, 0, 0), (10, .bipush 8, 2, 0, 8), (12, .if_icmp .ge 51, 3, 63, 0), (15, .iload_n 2, 1, 0, 0), (16, .ifCond .eq 47, 3, 63, 0), (19, .aload_n 0, 1, 0, 0), (20, .iload_n 2, 1, 0, 0), (21, .invokevirtual 28, 3, 0, 0), (24, .istore 4, 2, 0, 0), (26, .iload_n 2, 1, 0, 0), (27, .iconst 1, 1, 0, 1), (28, .iload 4, 2, 0, 0), (30, .ishl, 1, 0, 0), (31, .iconst (-1), 1, 0, (-1)), (32, .ixor, 1, 0, 0), (33, .iand, 1, 0, 0), (34, .istore_n 2, 1, 0, 0), (35, .aload_n 0, 1, 0, 0), (36, .aload_n 0, 1, 0, 0), (37, .getfield 20, 3, 0, 0), (40, .iload 4, 2, 0, 0), (42, .invokevirtual 32, 3, 0, 0), (45, .aload_n 0, 1, 0, 0), (46, .getfield 20, 3, 0, 0), (49, .iload 4, 2, 0, 0), (51, .invokevirtual 35, 3, 0, 0), (54, .invokevirtual 38, 3, 0, 0), (57, .iinc 3 1, 3, 0, 1), (60, .goto (-51), 3, 9, 0), (63, .return_, 1, 0, 0)]
def gm_112 : gw_M := (7, ⟨"GlassWires$Plan", "make", "(I)V"⟩, prog_9_method_3_code, 5, none, 1, 0, 3, gk_112)
def gk_113 : List (Nat × gw_I) := [(0, .iconst 0, 1, 0, 0), (1, .istore_n 2, 1, 0, 0), (2, .sipush 999, 3, 0, 999), (5, .istore_n 3, 1, 0, 0), (6, .iconst 0, 1, 0, 0), (7, .istore 4, 2, 0, 0), (9, .iload 4, 2, 0, 0), (11, .bipush 8, 2, 0, 8), (13, .if_icmp .ge 45, 3, 58, 0), (16, .iload_n 1, 1, 0, 0), (17, .iload 4, 2, 0, 0), (19, .ishr, 1, 0, 0), (20, .iconst 1, 1, 0, 1), (21, .iand, 1, 0, 0), (22, .iconst 1, 1, 0, 1), (23, .if_icmp .ne 29, 3, 52, 0), (26, .aload_n 0, 1, 0, 0), (27, .getfield 20, 3, 0, 0), (30, .iload 4, 2, 0, 0), (32, .invokevirtual 32, 3, 0, 0), (35, .iload_n 3, 1, 0, 0), (36, .if_icmp .ge 16, 3, 52, 0), (39, .iload 4, 2, 0, 0), (41, .istore_n 2, 1, 0, 0), (42, .aload_n 0, 1, 0, 0), (43, .getfield 20, 3, 0, 0), (46, .iload 4, 2, 0, 0), (48, .invokevirtual 32, 3, 0, 0), (51, .istore_n 3, 1, 0, 0), (52, .iinc 4 1, 3, 0, 1), (55, .goto (-46), 3, 9, 0), (58, .iload_n 2, 1, 0, 0), (59, .ireturn, 1, 0, 0)]
def gm_113 : gw_M := (7, ⟨"GlassWires$Plan", "coolest", "(I)I"⟩, prog_9_method_4_code, 5, (some .int), 1, 0, 2, gk_113)
def gk_114 : List (Nat × gw_I) := [(0, .iload_n 2, 1, 0, 0), (1, .istore_n 3, 1, 0, 0), (2, .iconst 0, 1, 0, 0), (3, .istore 4, 2, 0, 0), (5, .iload 4, 2, 0, 0), (7, .aload_n 0, 1, 0, 0), (8, .getfield 24, 3, 0, 0), (11, .if_icmp .ge 30, 3, 41, 0), (14, .aload_n 0, 1, 0, 0), (15, .getfield 11, 3, 0, 0), (18, .iload 4, 2, 0, 0), (20, .iaload, 1, 0, 0), (21, .iload_n 1, 1, 0, 0), (22, .if_icmp .lt 13, 3, 35, 0), (25, .iload_n 3, 1, 0, 0), (26, .aload_n 0, 1, 0, 0), (27, .getfield 17, 3, 0, 0), (30, .iload 4, 2, 0, 0), (32, .iaload, 1, 0, 0), (33, .isub, 1, 0, 0), (34, .istore_n 3, 1, 0, 0), (35, .iinc 4 1, 3, 0, 1), (38, .goto (-33), 3, 5, 0), (41, .iload_n 3, 1, 0, 0), (42, .ifCond .le 45, 3, 87, 0), (45, .aload_n 0, 1, 0, 0), (46, .getfield 24, 3, 0, 0), (49, .bipush 8, 2, 0, 8), (51, .if_icmp .ge 36, 3, 87, 0), (54, .aload_n 0, 1, 0, 0), (55, .getfield 11, 3, 0, 0), (58, .aload_n 0, 1, 0, 0), (59, .getfield 24, 3, 0, 0), (62, .iload_n 1, 1, 0, 0), (63, .bipush 50, 2, 0, 50), (65, .iadd, 1, 0, 0), (66, .iastore, 1, 0, 0), (67, .aload_n 0, 1, 0, 0), (68, .getfield 17, 3, 0, 0), (71, .aload_n 0, 1, 0, 0), (72, .getfield 24, 3, 0, 0), (75, .iload_n 3, 1, 0, 0), (76, .iastore, 1, 0, 0), (77, .aload_n 0, 1, 0, 0), (78, .dup, 1, 0, 0), (79, .getfield 24, 3, 0, 0), (82, .iconst 1, 1, 0, 1), (83, .iadd, 1, 0, 0), (84, .putfield 24, 3, 0, 0), (87, .return_, 1, 0, 0)]
def gm_114 : gw_M := (7, ⟨"GlassWires$Plan", "serve", "(II)V"⟩, prog_9_method_5_code, 5, none, 2, 0, 1, gk_114)
def gk_115 : List (Nat × gw_I) := [(0, .iconst 0, 1, 0, 0), (1, .istore_n 1, 1, 0, 0), (2, .iconst 0, 1, 0, 0), (3, .istore_n 2, 1, 0, 0), (4, .iload_n 2, 1, 0, 0), (5, .aload_n 0, 1, 0, 0), (6, .getfield 24, 3, 0, 0), (9, .if_icmp .ge 18, 3, 27, 0), (12, .iload_n 1, 1, 0, 0), (13, .aload_n 0, 1, 0, 0), (14, .getfield 17, 3, 0, 0), (17, .iload_n 2, 1, 0, 0), (18, .iaload, 1, 0, 0), (19, .iadd, 1, 0, 0), (20, .istore_n 1, 1, 0, 0), (21, .iinc 2 1, 3, 0, 1), (24, .goto (-20), 3, 4, 0), (27, .iload_n 1, 1, 0, 0), (28, .ireturn, 1, 0, 0)]
def gm_115 : gw_M := (7, ⟨"GlassWires$Plan", "total", "()I"⟩, prog_9_method_6_code, 3, (some .int), 0, 0, 1, gk_115)
def gk_116 : List (Nat × gw_I) := [(0, .iload_n 1, 1, 0, 0), (1, .ifCond .ge 5, 3, 6, 0), (4, .iconst (-1), 1, 0, (-1)), (5, .ireturn, 1, 0, 0), (6, .iload_n 1, 1, 0, 0), (7, .istore_n 2, 1, 0, 0), (8, .aload_n 0, 1, 0, 0), (9, .getfield 24, 3, 0, 0), (12, .iconst 1, 1, 0, 1), (13, .isub, 1, 0, 0), (14, .istore_n 3, 1, 0, 0), (15, .iload_n 3, 1, 0, 0), (16, .ifCond .lt 35, 3, 51, 0), (19, .iload_n 2, 1, 0, 0), (20, .aload_n 0, 1, 0, 0), (21, .getfield 17, 3, 0, 0), (24, .iload_n 3, 1, 0, 0), (25, .iaload, 1, 0, 0), (26, .if_icmp .ge 10, 3, 36, 0), (29, .aload_n 0, 1, 0, 0), (30, .getfield 11, 3, 0, 0), (33, .iload_n 3, 1, 0, 0), (34, .iaload, 1, 0, 0), (35, .ireturn, 1, 0, 0), (36, .iload_n 2, 1, 0, 0), (37, .aload_n 0, 1, 0, 0), (38, .getfield 17, 3, 0, 0), (41, .iload_n 3, 1, 0, 0), (42, .iaload, 1, 0, 0), (43, .isub, 1, 0, 0), (44, .istore_n 2, 1, 0, 0), (45, .iinc 3 (-1), 3, 0, (-1)), (48, .goto (-33), 3, 15, 0), (51, .iconst (-1), 1, 0, (-1)), (52, .ireturn, 1, 0, 0)]
def gm_116 : gw_M := (7, ⟨"GlassWires$Plan", "heatAt", "(I)I"⟩, prog_9_method_7_code, 4, (some .int), 1, 0, 1, gk_116)
def gk_117 : List (Nat × gw_I) := [(0, .aload_n 0, 1, 0, 0), (1, .invokespecial 5, 3, 0, 0), (4, .aload_n 0, 1, 0, 0), (5, .bipush 8, 2, 0, 8), (7, .newarray .int, 2, 0, 0), (9, .putfield 11, 3, 0, 0), (12, .aload_n 0, 1, 0, 0), (13, .bipush 8, 2, 0, 8), (15, .newarray .int, 2, 0, 0), (17, .putfield 15, 3, 0, 0), (20, .aload_n 0, 1, 0, 0), (21, .sipush 256, 3, 0, 256), (24, .newarray .int, 2, 0, 0), (26, .putfield 18, 3, 0, 0), (29, .aload_n 0, 1, 0, 0), (30, .sipush 256, 3, 0, 256), (33, .newarray .int, 2, 0, 0), (35, .putfield 21, 3, 0, 0), (38, .return_, 1, 0, 0)]
def gm_117 : gw_M := (8, ⟨"GlassWires$Rods", "<init>", "()V"⟩, prog_10_method_1_code, 1, none, 0, 2, 1, gk_117)
def gk_118 : List (Nat × gw_I) := [(0, .aload_n 0, 1, 0, 0), (1, .iconst 0, 1, 0, 0), (2, .putfield 24, 3, 0, 0), (5, .return_, 1, 0, 0)]
def gm_118 : gw_M := (8, ⟨"GlassWires$Rods", "clear", "()V"⟩, prog_10_method_2_code, 1, none, 0, 0, 1, gk_118)
def gk_119 : List (Nat × gw_I) := [(0, .aload_n 0, 1, 0, 0), (1, .getfield 24, 3, 0, 0), (4, .ireturn, 1, 0, 0)]
def gm_119 : gw_M := (8, ⟨"GlassWires$Rods", "kinds", "()I"⟩, prog_10_method_3_code, 1, (some .int), 0, 0, 1, gk_119)
def gk_120 : List (Nat × gw_I) := [(0, .iload_n 1, 1, 0, 0), (1, .iconst 1, 1, 0, 1), (2, .if_icmp .lt 19, 3, 21, 0), (5, .iload_n 1, 1, 0, 0), (6, .bipush 99, 2, 0, 99), (8, .if_icmp .gt 13, 3, 21, 0), (11, .iload_n 2, 1, 0, 0), (12, .ifCond .lt 9, 3, 21, 0), (15, .iload_n 2, 1, 0, 0), (16, .bipush 20, 2, 0, 20), (18, .if_icmp .le 6, 3, 24, 0), (21, .bipush (-102), 2, 0, (-102)), (23, .ireturn, 1, 0, 0), (24, .aload_n 0, 1, 0, 0), (25, .getfield 24, 3, 0, 0), (28, .bipush 8, 2, 0, 8), (30, .if_icmp .lt 6, 3, 36, 0), (33, .bipush (-104), 2, 0, (-104)), (35, .ireturn, 1, 0, 0), (36, .aload_n 0, 1, 0, 0), (37, .getfield 11, 3, 0, 0), (40, .aload_n 0, 1, 0, 0), (41, .getfield 24, 3, 0, 0), (44, .iload_n 1, 1, 0, 0), (45, .iastore, 1, 0, 0), (46, .aload_n 0, 1, 0, 0), (47, .getfield 15, 3, 0, 0), (50, .aload_n 0, 1, 0, 0), (51, .getfield 24, 3, 0, 0), (54, .iload_n 2, 1, 0, 0), (55, .iastore, 1, 0, 0), (56, .aload_n 0, 1, 0, 0), (57, .dup, 1, 0, 0), (58, .getfield 24, 3, 0, 0), (61, .iconst 1, 1, 0, 1), (62, .iadd, 1, 0, 0), (63, .putfield 24, 3, 0, 0), (66, .aload_n 0, 1, 0, 0), (67, .getfield 24, 3, 0, 0), (70, .iconst 1, 1, 0, 1), (71, .isub, 1, 0, 0), (72, .ireturn, 1, 0, 0)]
def gm_120 : gw_M := (8, ⟨"GlassWires$Rods", "add", "(II)I"⟩, prog_10_method_4_code, 3, (some .int), 2, 0, 1, gk_120)
def gk_121 : List (Nat × gw_I) := [(0, .aload_n 0, 1, 0, 0), (1, .aload_n 1, 1, 0, 0), (2, .invokevirtual 28, 3, 0, 0), (5, .istore_n 2, 1, 0, 0), (6, .iload_n 2, 1, 0, 0), (7, .ldc 32, 2, 1125, 1000000), (9, .if_icmp .ge 11, 3, 20, 0), (12, .iload_n 2, 1, 0, 0), (13, .sipush 1000, 3, 0, 1000), (16, .idiv, 1, 0, 0), (17, .goto 4, 3, 21, 0), (20, .iconst (-1), 1, 0, (-1)), (21, .ireturn, 1, 0, 0)]
def gm_121 : gw_M := (8, ⟨"GlassWires$Rods", "fewest", "(LGlassWires$Wires;)I"⟩, prog_10_method_5_code, 3, (some .int), 1, 0, 5, gk_121)
def gk_122 : List (Nat × gw_I) := [(0, .aload_n 0, 1, 0, 0), (1, .aload_n 1, 1, 0, 0), (2, .invokevirtual 28, 3, 0, 0), (5, .istore_n 2, 1, 0, 0), (6, .iload_n 2, 1, 0, 0), (7, .ldc 32, 2, 1125, 1000000), (9, .if_icmp .ge 21, 3, 30, 0), (12, .iload_n 2, 1, 0, 0), (13, .sipush 1000, 3, 0, 1000), (16, .irem, 1, 0, 0), (17, .aload_n 0, 1, 0, 0), (18, .getfield 18, 3, 0, 0), (21, .aload_n 1, 1, 0, 0), (22, .invokestatic 33, 3, 0, 0), (25, .iaload, 1, 0, 0), (26, .isub, 1, 0, 0), (27, .goto 4, 3, 31, 0), (30, .iconst (-1), 1, 0, (-1)), (31, .ireturn, 1, 0, 0)]
def gm_122 : gw_M := (8, ⟨"GlassWires$Rods", "waste", "(LGlassWires$Wires;)I"⟩, prog_10_method_6_code, 3, (some .int), 1, 0, 5, gk_122)
def gk_123 : List (Nat × gw_I) := [(0, .iconst 1, 1, 0, 1), (1, .aload_n 0, 1, 0, 0), (2, .invokevirtual 36, 3, 0, 0), (5, .bipush 8, 2, 0, 8), (7, .invokestatic 42, 3, 0, 0), (10, .ishl, 1, 0, 0), (11, .iconst 1, 1, 0, 1), (12, .isub, 1, 0, 0), (13, .ireturn, 1, 0, 0)]
def gm_123 : gw_M := (8, ⟨"GlassWires$Rods", "setOfAll", "(LGlassWires$Wires;)I"⟩, prog_10_method_7_code, 1, (some .int), 1, 1, 3, gk_123)
def gk_124 : List (Nat × gw_I) := [(0, .aload_n 1, 1, 0, 0), (1, .invokestatic 33, 3, 0, 0), (4, .istore_n 2, 1, 0, 0), (5, .aload_n 0, 1, 0, 0), (6, .aload_n 1, 1, 0, 0), (7, .invokevirtual 48, 3, 0, 0), (10, .aload_n 0, 1, 0, 0), (11, .getfield 21, 3, 0, 0), (14, .ldc 32, 2, 1125, 1000000), (16, .invokestatic 52, 3, 0, 0), (19, .aload_n 0, 1, 0, 0), (20, .getfield 21, 3, 0, 0), (23, .iconst 0, 1, 0, 0), (24, .iconst 0, 1, 0, 0), (25, .iastore, 1, 0, 0), (26, .iconst 0, 1, 0, 0), (27, .istore_n 3, 1, 0, 0), (28, .iload_n 3, 1, 0, 0), (29, .aload_n 0, 1, 0, 0), (30, .getfield 24, 3, 0, 0), (33, .if_icmp .ge 59, 3, 92, 0), (36, .aload_n 0, 1, 0, 0), (37, .getfield 15, 3, 0, 0), (40, .iload_n 3, 1, 0, 0), (41, .iaload, 1, 0, 0), (42, .bipush 8, 2, 0, 8), (44, .invokestatic 42, 3, 0, 0), (47, .istore 4, 2, 0, 0), (49, .iconst 1, 1, 0, 1), (50, .istore 5, 2, 0, 0), (52, .iconst 0, 1, 0, 0), (53, .istore 6, 2, 0, 0), (55, .iload 5, 2, 0, 0), (57, .ifCond .eq 29, 3, 86, 0), (60, .iload 6, 2, 0, 0), (62, .iload 4, 2, 0, 0), (64, .if_icmp .ge 22, 3, 86, 0), (67, .aload_n 0, 1, 0, 0), (68, .aload_n 0, 1, 0, 0), (69, .getfield 11, 3, 0, 0), (72, .iload_n 3, 1, 0, 0), (73, .iaload, 1, 0, 0), (74, .iload_n 2, 1, 0, 0), (75, .invokevirtual 58, 3, 0, 0), (78, .istore 5, 2, 0, 0), (80, .iinc 6 1, 3, 0, 1), (83, .goto (-28), 3, 55, 0), (86, .iinc 3 1, 3, 0, 1), (89, .goto (-61), 3, 28, 0), (92, .aload_n 0, 1, 0, 0), (93, .getfield 21, 3, 0, 0), (96, .iload_n 2, 1, 0, 0), (97, .iaload, 1, 0, 0), (98, .ireturn, 1, 0, 0)]
def gm_124 : gw_M := (8, ⟨"GlassWires$Rods", "leastCost", "(LGlassWires$Wires;)I"⟩, prog_10_method_8_code, 7, (some .int), 1, 0, 4, gk_124)
def gk_125 : List (Nat × gw_I) := [(0, .iconst 1, 1, 0, 1), (1, .istore_n 2, 1, 0, 0), (2, .aload_n 0, 1, 0, 0), (3, .getfield 18, 3, 0, 0), (6, .iconst 0, 1, 0, 0), (7, .iconst 0, 1, 0, 0), (8, .iastore, 1, 0, 0), (9, .iconst 0, 1, 0, 0), (10, .istore_n 3, 1, 0, 0), (11, .iload_n 3, 1, 0, 0), (12, .aload_n 1, 1, 0, 0), (13, .invokevirtual 62, 3, 0, 0), (16, .if_icmp .ge 65, 3, 81, 0), (19, .aload_n 1, 1, 0, 0), (20, .iload_n 3, 1, 0, 0), (21, .invokevirtual 65, 3, 0, 0), (24, .ifCond .eq 51, 3, 75, 0), (27, .iload_n 2, 1, 0, 0), (28, .sipush 256, 3, 0, 256), (31, .if_icmp .ge 44, 3, 75, 0), (34, .iconst 0, 1, 0, 0), (35, .istore 4, 2, 0, 0), (37, .iload 4, 2, 0, 0), (39, .iload_n 2, 1, 0, 0), (40, .if_icmp .ge 31, 3, 71, 0), (43, .aload_n 0, 1, 0, 0), (44, .getfield 18, 3, 0, 0), (47, .iload_n 2, 1, 0, 0), (48, .iload 4, 2, 0, 0), (50, .iadd, 1, 0, 0), (51, .aload_n 0, 1, 0, 0), (52, .getfield 18, 3, 0, 0), (55, .iload 4, 2, 0, 0), (57, .iaload, 1, 0, 0), (58, .aload_n 1, 1, 0, 0), (59, .iload_n 3, 1, 0, 0), (60, .invokevirtual 69, 3, 0, 0), (63, .iadd, 1, 0, 0), (64, .iastore, 1, 0, 0), (65, .iinc 4 1, 3, 0, 1), (68, .goto (-31), 3, 37, 0), (71, .iload_n 2, 1, 0, 0), (72, .iconst 2, 1, 0, 2), (73, .imul, 1, 0, 0), (74, .istore_n 2, 1, 0, 0), (75, .iinc 3 1, 3, 0, 1), (78, .goto (-67), 3, 11, 0), (81, .return_, 1, 0, 0)]
def gm_125 : gw_M := (8, ⟨"GlassWires$Rods", "addUpLengths", "(LGlassWires$Wires;)V"⟩, prog_10_method_9_code, 5, none, 1, 0, 2, gk_125)
def gk_126 : List (Nat × gw_I) := [(0, .iconst 0, 1, 0, 0), (1, .istore_n 3, 1, 0, 0), (2, .iload_n 2, 1, 0, 0), (3, .istore 4, 2, 0, 0), (5, .iload 4, 2, 0, 0), (7, .ifCond .le 82, 3, 89, 0), (10, .iload 4, 2, 0, 0), (12, .istore 5, 2, 0, 0), (14, .iload 5, 2, 0, 0), (16, .ifCond .le 67, 3, 83, 0), (19, .aload_n 0, 1, 0, 0), (20, .getfield 21, 3, 0, 0), (23, .iload 4, 2, 0, 0), (25, .iload 5, 2, 0, 0), (27, .ixor, 1, 0, 0), (28, .iaload, 1, 0, 0), (29, .sipush 1000, 3, 0, 1000), (32, .iadd, 1, 0, 0), (33, .iload_n 1, 1, 0, 0), (34, .iadd, 1, 0, 0), (35, .istore 6, 2, 0, 0), (37, .aload_n 0, 1, 0, 0), (38, .getfield 18, 3, 0, 0), (41, .iload 5, 2, 0, 0), (43, .iaload, 1, 0, 0), (44, .iload_n 1, 1, 0, 0), (45, .if_icmp .gt 26, 3, 71, 0), (48, .iload 6, 2, 0, 0), (50, .aload_n 0, 1, 0, 0), (51, .getfield 21, 3, 0, 0), (54, .iload 4, 2, 0, 0), (56, .iaload, 1, 0, 0), (57, .if_icmp .ge 14, 3, 71, 0), (60, .aload_n 0, 1, 0, 0), (61, .getfield 21, 3, 0, 0), (64, .iload 4, 2, 0, 0), (66, .iload 6, 2, 0, 0), (68, .iastore, 1, 0, 0), (69, .iconst 1, 1, 0, 1), (70, .istore_n 3, 1, 0, 0), (71, .iload 5, 2, 0, 0), (73, .iconst 1, 1, 0, 1), (74, .isub, 1, 0, 0), (75, .iload 4, 2, 0, 0), (77, .iand, 1, 0, 0), (78, .istore 5, 2, 0, 0), (80, .goto (-66), 3, 14, 0), (83, .iinc 4 (-1), 3, 0, (-1)), (86, .goto (-81), 3, 5, 0), (89, .iload_n 3, 1, 0, 0), (90, .ireturn, 1, 0, 0)]
def gm_126 : gw_M := (8, ⟨"GlassWires$Rods", "useRod", "(II)Z"⟩, prog_10_method_10_code, 7, (some .boolean), 2, 0, 1, gk_126)
def gk_127 : List (Nat × gw_I) := [(0, .lload_n 1, 1, 0, 0), (1, .lstore_n 3, 1, 0, 0), (2, .iconst 0, 1, 0, 0), (3, .istore 5, 2, 0, 0), (5, .iload 5, 2, 0, 0), (7, .aload_n 0, 1, 0, 0), (8, .getfield 24, 3, 0, 0), (11, .if_icmp .ge 33, 3, 44, 0), (14, .lload_n 3, 1, 0, 0), (15, .aload_n 0, 1, 0, 0), (16, .getfield 11, 3, 0, 0), (19, .iload 5, 2, 0, 0), (21, .iaload, 1, 0, 0), (22, .i2l, 1, 0, 0), (23, .invokestatic 73, 3, 0, 0), (26, .aload_n 0, 1, 0, 0), (27, .getfield 15, 3, 0, 0), (30, .iload 5, 2, 0, 0), (32, .iaload, 1, 0, 0), (33, .i2l, 1, 0, 0), (34, .invokestatic 73, 3, 0, 0), (37, .lstore_n 3, 1, 0, 0), (38, .iinc 5 1, 3, 0, 1), (41, .goto (-36), 3, 5, 0), (44, .lload_n 3, 1, 0, 0), (45, .lreturn, 1, 0, 0)]
def gm_127 : gw_M := (8, ⟨"GlassWires$Rods", "digestOn", "(J)J"⟩, prog_10_method_11_code, 6, (some .long), 1, 0, 2, gk_127)
def gk_128 : List (Nat × gw_I) := [(0, .aload_n 0, 1, 0, 0), (1, .invokespecial 3, 3, 0, 0), (4, .aload_n 0, 1, 0, 0), (5, .aload_n 1, 1, 0, 0), (6, .putfield 9, 3, 0, 0), (9, .aload_n 0, 1, 0, 0), (10, .aload_n 2, 1, 0, 0), (11, .putfield 15, 3, 0, 0), (14, .aload_n 0, 1, 0, 0), (15, .aload_n 3, 1, 0, 0), (16, .putfield 19, 3, 0, 0), (19, .return_, 1, 0, 0)]
def gm_128 : gw_M := (9, ⟨"GlassWires$Tension", "<init>", "(LGlassWires$Grid;LGlassWires$Palette;LGlassWires$Glass;)V"⟩, prog_11_method_1_code, 4, none, 3, 2, 1, gk_128)
def gk_129 : List (Nat × gw_I) := [(0, .aload_n 0, 1, 0, 0), (1, .iload_n 1, 1, 0, 0), (2, .putfield 23, 3, 0, 0), (5, .aload_n 0, 1, 0, 0), (6, .iload_n 2, 1, 0, 0), (7, .putfield 27, 3, 0, 0), (10, .return_, 1, 0, 0)]
def gm_129 : gw_M := (9, ⟨"GlassWires$Tension", "setBack", "(II)V"⟩, prog_11_method_2_code, 3, none, 2, 0, 1, gk_129)
def gk_130 : List (Nat × gw_I) := [(0, .aload_n 0, 1, 0, 0), (1, .aload_n 0, 1, 0, 0), (2, .getfield 23, 3, 0, 0), (5, .aload_n 0, 1, 0, 0), (6, .getfield 27, 3, 0, 0), (9, .invokevirtual 30, 3, 0, 0), (12, .ireturn, 1, 0, 0)]
def gm_130 : gw_M := (9, ⟨"GlassWires$Tension", "backPull", "()I"⟩, prog_11_method_3_code, 1, (some .int), 0, 0, 3, gk_130)
def gk_131 : List (Nat × gw_I) := [(0, .aload_n 0, 1, 0, 0), (1, .getfield 9, 3, 0, 0), (4, .invokevirtual 34, 3, 0, 0), (7, .iload_n 2, 1, 0, 0), (8, .imul, 1, 0, 0), (9, .aload_n 0, 1, 0, 0), (10, .getfield 15, 3, 0, 0), (13, .iload_n 1, 1, 0, 0), (14, .invokevirtual 40, 3, 0, 0), (17, .imul, 1, 0, 0), (18, .ireturn, 1, 0, 0)]
def gm_131 : gw_M := (9, ⟨"GlassWires$Tension", "pullOfBack", "(II)I"⟩, prog_11_method_4_code, 3, (some .int), 2, 0, 2, gk_131)
def gk_132 : List (Nat × gw_I) := [(0, .aload_n 0, 1, 0, 0), (1, .aload_n 0, 1, 0, 0), (2, .getfield 19, 3, 0, 0), (5, .invokevirtual 46, 3, 0, 0), (8, .aload_n 0, 1, 0, 0), (9, .invokevirtual 51, 3, 0, 0), (12, .invokevirtual 54, 3, 0, 0), (15, .ireturn, 1, 0, 0)]
def gm_132 : gw_M := (9, ⟨"GlassWires$Tension", "bowNow", "()I"⟩, prog_11_method_5_code, 1, (some .int), 0, 0, 4, gk_132)
def gk_133 : List (Nat × gw_I) := [(0, .aload_n 0, 1, 0, 0), (1, .getfield 9, 3, 0, 0), (4, .invokevirtual 34, 3, 0, 0), (7, .istore_n 3, 1, 0, 0), (8, .iload_n 3, 1, 0, 0), (9, .ifCond .le 11, 3, 20, 0), (12, .iload_n 1, 1, 0, 0), (13, .iload_n 2, 1, 0, 0), (14, .isub, 1, 0, 0), (15, .iload_n 3, 1, 0, 0), (16, .idiv, 1, 0, 0), (17, .goto 4, 3, 21, 0), (20, .iconst 0, 1, 0, 0), (21, .ireturn, 1, 0, 0)]
def gm_133 : gw_M := (9, ⟨"GlassWires$Tension", "bowBetween", "(II)I"⟩, prog_11_method_6_code, 4, (some .int), 2, 0, 2, gk_133)
def gk_134 : List (Nat × gw_I) := [(0, .aload_n 0, 1, 0, 0), (1, .getfield 15, 3, 0, 0), (4, .invokevirtual 57, 3, 0, 0), (7, .istore_n 1, 1, 0, 0), (8, .iload_n 1, 1, 0, 0), (9, .ifCond .le 12, 3, 21, 0), (12, .aload_n 0, 1, 0, 0), (13, .invokevirtual 60, 3, 0, 0), (16, .iload_n 1, 1, 0, 0), (17, .idiv, 1, 0, 0), (18, .goto 4, 3, 22, 0), (21, .iconst 0, 1, 0, 0), (22, .ireturn, 1, 0, 0)]
def gm_134 : gw_M := (9, ⟨"GlassWires$Tension", "bent", "()I"⟩, prog_11_method_7_code, 2, (some .int), 0, 0, 5, gk_134)
def gk_135 : List (Nat × gw_I) := [(0, .aload_n 0, 1, 0, 0), (1, .getfield 19, 3, 0, 0), (4, .invokevirtual 46, 3, 0, 0), (7, .istore_n 2, 1, 0, 0), (8, .iconst 0, 1, 0, 0), (9, .istore_n 3, 1, 0, 0), (10, .aload_n 0, 1, 0, 0), (11, .iload_n 2, 1, 0, 0), (12, .iconst 0, 1, 0, 0), (13, .invokevirtual 54, 3, 0, 0), (16, .invokestatic 63, 3, 0, 0), (19, .istore 4, 2, 0, 0), (21, .iconst 1, 1, 0, 1), (22, .istore 5, 2, 0, 0), (24, .iload 5, 2, 0, 0), (26, .bipush 99, 2, 0, 99), (28, .if_icmp .gt 40, 3, 68, 0), (31, .aload_n 0, 1, 0, 0), (32, .iload_n 2, 1, 0, 0), (33, .aload_n 0, 1, 0, 0), (34, .iload_n 1, 1, 0, 0), (35, .iload 5, 2, 0, 0), (37, .invokevirtual 30, 3, 0, 0), (40, .invokevirtual 54, 3, 0, 0), (43, .invokestatic 63, 3, 0, 0), (46, .istore 6, 2, 0, 0), (48, .iload 6, 2, 0, 0), (50, .iload 4, 2, 0, 0), (52, .if_icmp .ge 10, 3, 62, 0), (55, .iload 5, 2, 0, 0), (57, .istore_n 3, 1, 0, 0), (58, .iload 6, 2, 0, 0), (60, .istore 4, 2, 0, 0), (62, .iinc 5 1, 3, 0, 1), (65, .goto (-41), 3, 24, 0), (68, .iload_n 3, 1, 0, 0), (69, .ireturn, 1, 0, 0)]
def gm_135 : gw_M := (9, ⟨"GlassWires$Tension", "straightThick", "(I)I"⟩, prog_11_method_8_code, 7, (some .int), 1, 0, 3, gk_135)
def gk_136 : List (Nat × gw_I) := [(0, .iload_n 1, 1, 0, 0), (1, .aload_n 0, 1, 0, 0), (2, .invokevirtual 60, 3, 0, 0), (5, .invokestatic 63, 3, 0, 0), (8, .imul, 1, 0, 0), (9, .sipush 1000, 3, 0, 1000), (12, .idiv, 1, 0, 0), (13, .ireturn, 1, 0, 0)]
def gm_136 : gw_M := (9, ⟨"GlassWires$Tension", "strainOf", "(I)I"⟩, prog_11_method_9_code, 2, (some .int), 1, 0, 5, gk_136)
def gk_137 : List (Nat × gw_I) := [(0, .aload_n 0, 1, 0, 0), (1, .invokevirtual 60, 3, 0, 0), (4, .invokestatic 63, 3, 0, 0), (7, .istore_n 2, 1, 0, 0), (8, .iload_n 2, 1, 0, 0), (9, .ifCond .ne 5, 3, 14, 0), (12, .iload_n 1, 1, 0, 0), (13, .ireturn, 1, 0, 0), (14, .iload_n 1, 1, 0, 0), (15, .sipush 1000, 3, 0, 1000), (18, .aload_n 0, 1, 0, 0), (19, .getfield 15, 3, 0, 0), (22, .invokevirtual 68, 3, 0, 0), (25, .iconst 1, 1, 0, 1), (26, .iadd, 1, 0, 0), (27, .imul, 1, 0, 0), (28, .iconst 1, 1, 0, 1), (29, .isub, 1, 0, 0), (30, .iload_n 2, 1, 0, 0), (31, .idiv, 1, 0, 0), (32, .invokestatic 71, 3, 0, 0), (35, .ireturn, 1, 0, 0)]
def gm_137 : gw_M := (9, ⟨"GlassWires$Tension", "longestStep", "(I)I"⟩, prog_11_method_10_code, 3, (some .int), 1, 0, 5, gk_137)
def gk_138 : List (Nat × gw_I) := [(0, .iload_n 1, 1, 0, 0), (1, .ifCond .ne 5, 3, 6, 0), (4, .iconst 0, 1, 0, 0), (5, .ireturn, 1, 0, 0), (6, .aload_n 0, 1, 0, 0), (7, .iload_n 1, 1, 0, 0), (8, .invokevirtual 74, 3, 0, 0), (11, .istore_n 2, 1, 0, 0), (12, .iload_n 2, 1, 0, 0), (13, .ifCond .le 13, 3, 26, 0), (16, .iload_n 1, 1, 0, 0), (17, .iload_n 2, 1, 0, 0), (18, .iadd, 1, 0, 0), (19, .iconst 1, 1, 0, 1), (20, .isub, 1, 0, 0), (21, .iload_n 2, 1, 0, 0), (22, .idiv, 1, 0, 0), (23, .goto 4, 3, 27, 0), (26, .iconst (-1), 1, 0, (-1)), (27, .ireturn, 1, 0, 0)]
def gm_138 : gw_M := (9, ⟨"GlassWires$Tension", "coolingSteps", "(I)I"⟩, prog_11_method_11_code, 3, (some .int), 1, 0, 6, gk_138)
def gk_139 : List (Nat × gw_I) := [(0, .iload_n 2, 1, 0, 0), (1, .ifCond .ne 5, 3, 6, 0), (4, .iload_n 1, 1, 0, 0), (5, .ireturn, 1, 0, 0), (6, .iload_n 2, 1, 0, 0), (7, .ifCond .lt 12, 3, 19, 0), (10, .iload_n 2, 1, 0, 0), (11, .aload_n 0, 1, 0, 0), (12, .iload_n 1, 1, 0, 0), (13, .invokevirtual 77, 3, 0, 0), (16, .if_icmp .le 5, 3, 21, 0), (19, .iconst (-1), 1, 0, (-1)), (20, .ireturn, 1, 0, 0), (21, .iconst 0, 1, 0, 0), (22, .iload_n 1, 1, 0, 0), (23, .iload_n 2, 1, 0, 0), (24, .aload_n 0, 1, 0, 0), (25, .iload_n 1, 1, 0, 0), (26, .invokevirtual 74, 3, 0, 0), (29, .imul, 1, 0, 0), (30, .isub, 1, 0, 0), (31, .invokestatic 80, 3, 0, 0), (34, .ireturn, 1, 0, 0)]
def gm_139 : gw_M := (9, ⟨"GlassWires$Tension", "heatBehind", "(II)I"⟩, prog_11_method_12_code, 3, (some .int), 2, 0, 7, gk_139)
def gk_140 : List (Nat × gw_I) := [(0, .lload_n 1, 1, 0, 0), (1, .aload_n 0, 1, 0, 0), (2, .getfield 23, 3, 0, 0), (5, .i2l, 1, 0, 0), (6, .invokestatic 83, 3, 0, 0), (9, .aload_n 0, 1, 0, 0), (10, .getfield 27, 3, 0, 0), (13, .i2l, 1, 0, 0), (14, .invokestatic 83, 3, 0, 0), (17, .lreturn, 1, 0, 0)]
def gm_140 : gw_M := (9, ⟨"GlassWires$Tension", "digestOn", "(J)J"⟩, prog_11_method_13_code, 3, (some .long), 1, 0, 2, gk_140)
def gk_141 : List (Nat × gw_I) := [(0, .aload_n 0, 1, 0, 0), (1, .invokespecial 5, 3, 0, 0), (4, .aload_n 0, 1, 0, 0), (5, .bipush 30, 2, 0, 30), (7, .newarray .boolean, 2, 0, 0), (9, .putfield 11, 3, 0, 0), (12, .aload_n 0, 1, 0, 0), (13, .bipush 30, 2, 0, 30), (15, .newarray .boolean, 2, 0, 0), (17, .putfield 15, 3, 0, 0), (20, .aload_n 0, 1, 0, 0), (21, .bipush 30, 2, 0, 30), (23, .newarray .int, 2, 0, 0), (25, .putfield 18, 3, 0, 0), (28, .aload_n 0, 1, 0, 0), (29, .bipush 30, 2, 0, 30), (31, .newarray .int, 2, 0, 0), (33, .putfield 22, 3, 0, 0), (36, .aload_n 0, 1, 0, 0), (37, .bipush 30, 2, 0, 30), (39, .newarray .int, 2, 0, 0), (41, .putfield 25, 3, 0, 0), (44, .aload_n 0, 1, 0, 0), (45, .sipush 750, 3, 0, 750), (48, .newarray .int, 2, 0, 0), (50, .putfield 28, 3, 0, 0), (53, .aload_n 0, 1, 0, 0), (54, .sipush 720, 3, 0, 720), (57, .newarray .int, 2, 0, 0), (59, .putfield 31, 3, 0, 0), (62, .return_, 1, 0, 0)]
def gm_141 : gw_M := (10, ⟨"GlassWires$Wires", "<init>", "()V"⟩, prog_12_method_1_code, 1, none, 0, 2, 1, gk_141)
def gk_142 : List (Nat × gw_I) := [(0, .aload_n 0, 1, 0, 0), (1, .iconst 0, 1, 0, 0), (2, .putfield 34, 3, 0, 0), (5, .return_, 1, 0, 0)]
def gm_142 : gw_M := (10, ⟨"GlassWires$Wires", "clear", "()V"⟩, prog_12_method_2_code, 1, none, 0, 0, 1, gk_142)
def gk_143 : List (Nat × gw_I) := [(0, .aload_n 0, 1, 0, 0), (1, .getfield 34, 3, 0, 0), (4, .ireturn, 1, 0, 0)]
def gm_143 : gw_M := (10, ⟨"GlassWires$Wires", "total", "()I"⟩, prog_12_method_3_code, 1, (some .int), 0, 0, 1, gk_143)
def gk_144 : List (Nat × gw_I) := [(0, .iload_n 1, 1, 0, 0), (1, .ifCond .lt 15, 3, 16, 0), (4, .iload_n 1, 1, 0, 0), (5, .aload_n 0, 1, 0, 0), (6, .getfield 34, 3, 0, 0), (9, .if_icmp .ge 7, 3, 16, 0), (12, .iconst 1, 1, 0, 1), (13, .goto 4, 3, 17, 0), (16, .iconst 0, 1, 0, 0), (17, .ireturn, 1, 0, 0)]
def gm_144 : gw_M := (10, ⟨"GlassWires$Wires", "has", "(I)Z"⟩, prog_12_method_4_code, 2, (some .boolean), 1, 0, 1, gk_144)
def gk_145 : List (Nat × gw_I) := [(0, .aload_n 0, 1, 0, 0), (1, .getfield 11, 3, 0, 0), (4, .iload_n 1, 1, 0, 0), (5, .baload, 1, 0, 0), (6, .ireturn, 1, 0, 0)]
def gm_145 : gw_M := (10, ⟨"GlassWires$Wires", "isLaid", "(I)Z"⟩, prog_12_method_5_code, 2, (some .boolean), 1, 0, 1, gk_145)
def gk_146 : List (Nat × gw_I) := [(0, .aload_n 0, 1, 0, 0), (1, .getfield 11, 3, 0, 0), (4, .iload_n 1, 1, 0, 0), (5, .iload_n 2, 1, 0, 0), (6, .bastore, 1, 0, 0), (7, .return_, 1, 0, 0)]
def gm_146 : gw_M := (10, ⟨"GlassWires$Wires", "setLaid", "(IZ)V"⟩, prog_12_method_6_code, 3, none, 2, 0, 1, gk_146)
def gk_147 : List (Nat × gw_I) := [(0, .aload_n 0, 1, 0, 0), (1, .getfield 15, 3, 0, 0), (4, .iload_n 1, 1, 0, 0), (5, .baload, 1, 0, 0), (6, .ireturn, 1, 0, 0)]
def gm_147 : gw_M := (10, ⟨"GlassWires$Wires", "isSoldered", "(I)Z"⟩, prog_12_method_7_code, 2, (some .boolean), 1, 0, 1, gk_147)
def gk_148 : List (Nat × gw_I) := [(0, .aload_n 0, 1, 0, 0), (1, .getfield 15, 3, 0, 0), (4, .iload_n 1, 1, 0, 0), (5, .iload_n 2, 1, 0, 0), (6, .bastore, 1, 0, 0), (7, .return_, 1, 0, 0)]
def gm_148 : gw_M := (10, ⟨"GlassWires$Wires", "setSoldered", "(IZ)V"⟩, prog_12_method_8_code, 3, none, 2, 0, 1, gk_148)
def gk_149 : List (Nat × gw_I) := [(0, .aload_n 0, 1, 0, 0), (1, .getfield 18, 3, 0, 0), (4, .iload_n 1, 1, 0, 0), (5, .iaload, 1, 0, 0), (6, .ireturn, 1, 0, 0)]
def gm_149 : gw_M := (10, ⟨"GlassWires$Wires", "movesOf", "(I)I"⟩, prog_12_method_9_code, 2, (some .int), 1, 0, 1, gk_149)
def gk_150 : List (Nat × gw_I) := [(0, .aload_n 0, 1, 0, 0), (1, .getfield 22, 3, 0, 0), (4, .iload_n 1, 1, 0, 0), (5, .iaload, 1, 0, 0), (6, .ireturn, 1, 0, 0)]
def gm_150 : gw_M := (10, ⟨"GlassWires$Wires", "bendsOf", "(I)I"⟩, prog_12_method_10_code, 2, (some .int), 1, 0, 1, gk_150)
def gk_151 : List (Nat × gw_I) := [(0, .aload_n 0, 1, 0, 0), (1, .getfield 25, 3, 0, 0), (4, .iload_n 1, 1, 0, 0), (5, .iaload, 1, 0, 0), (6, .ireturn, 1, 0, 0)]
def gm_151 : gw_M := (10, ⟨"GlassWires$Wires", "edgesOf", "(I)I"⟩, prog_12_method_11_code, 2, (some .int), 1, 0, 1, gk_151)
def gk_152 : List (Nat × gw_I) := [(0, .aload_n 0, 1, 0, 0), (1, .getfield 22, 3, 0, 0), (4, .iload_n 1, 1, 0, 0), (5, .iaload, 1, 0, 0), (6, .ifCond .le 7, 3, 13, 0), (9, .iconst 1, 1, 0, 1), (10, .goto 4, 3, 14, 0), (13, .iconst 0, 1, 0, 0), (14, .ireturn, 1, 0, 0)]
def gm_152 : gw_M := (10, ⟨"GlassWires$Wires", "stands", "(I)Z"⟩, prog_12_method_12_code, 2, (some .boolean), 1, 0, 1, gk_152)
def gk_153 : List (Nat × gw_I) := [(0, .aload_n 0, 1, 0, 0), (1, .getfield 28, 3, 0, 0), (4, .bipush 25, 2, 0, 25), (6, .iload_n 1, 1, 0, 0), (7, .imul, 1, 0, 0), (8, .iload_n 2, 1, 0, 0), (9, .iadd, 1, 0, 0), (10, .iaload, 1, 0, 0), (11, .ireturn, 1, 0, 0)]
def gm_153 : gw_M := (10, ⟨"GlassWires$Wires", "pointAt", "(II)I"⟩, prog_12_method_13_code, 3, (some .int), 2, 0, 1, gk_153)
def gk_154 : List (Nat × gw_I) := [(0, .aload_n 0, 1, 0, 0), (1, .getfield 31, 3, 0, 0), (4, .bipush 24, 2, 0, 24), (6, .iload_n 1, 1, 0, 0), (7, .imul, 1, 0, 0), (8, .iload_n 2, 1, 0, 0), (9, .iadd, 1, 0, 0), (10, .iaload, 1, 0, 0), (11, .ireturn, 1, 0, 0)]
def gm_154 : gw_M := (10, ⟨"GlassWires$Wires", "edgeAt", "(II)I"⟩, prog_12_method_14_code, 3, (some .int), 2, 0, 1, gk_154)
def gk_155 : List (Nat × gw_I) := [(0, .iconst 0, 1, 0, 0), (1, .istore_n 1, 1, 0, 0), (2, .iconst 0, 1, 0, 0), (3, .istore_n 2, 1, 0, 0), (4, .iload_n 2, 1, 0, 0), (5, .aload_n 0, 1, 0, 0), (6, .getfield 34, 3, 0, 0), (9, .if_icmp .ge 21, 3, 30, 0), (12, .iload_n 1, 1, 0, 0), (13, .aload_n 0, 1, 0, 0), (14, .getfield 11, 3, 0, 0), (17, .iload_n 2, 1, 0, 0), (18, .baload, 1, 0, 0), (19, .invokestatic 38, 3, 0, 0), (22, .iadd, 1, 0, 0), (23, .istore_n 1, 1, 0, 0), (24, .iinc 2 1, 3, 0, 1), (27, .goto (-23), 3, 4, 0), (30, .iload_n 1, 1, 0, 0), (31, .ireturn, 1, 0, 0)]
def gm_155 : gw_M := (10, ⟨"GlassWires$Wires", "laidOnes", "()I"⟩, prog_12_method_15_code, 3, (some .int), 0, 0, 2, gk_155)
def gk_156 : List (Nat × gw_I) := [(0, .aload_n 0, 1, 0, 0), (1, .getfield 34, 3, 0, 0), (4, .bipush 30, 2, 0, 30), (6, .if_icmp .lt 6, 3, 12, 0), (9, .bipush (-104), 2, 0, (-104)), (11, .ireturn, 1, 0, 0), (12, .aload_n 0, 1, 0, 0), (13, .getfield 34, 3, 0, 0), (16, .istore 4, 2, 0, 0), (18, .aload_n 0, 1, 0, 0), (19, .dup, 1, 0, 0), (20, .getfield 34, 3, 0, 0), (23, .iconst 1, 1, 0, 1), (24, .iadd, 1, 0, 0), (25, .putfield 34, 3, 0, 0), (28, .aload_n 0, 1, 0, 0), (29, .getfield 11, 3, 0, 0), (32, .iload 4, 2, 0, 0), (34, .iconst 1, 1, 0, 1), (35, .bastore, 1, 0, 0), (36, .aload_n 0, 1, 0, 0), (37, .getfield 15, 3, 0, 0), (40, .iload 4, 2, 0, 0), (42, .iconst 0, 1, 0, 0), (43, .bastore, 1, 0, 0), (44, .aload_n 0, 1, 0, 0), (45, .getfield 18, 3, 0, 0), (48, .iload 4, 2, 0, 0), (50, .aload_n 1, 1, 0, 0), (51, .invokevirtual 42, 3, 0, 0), (54, .bipush 24, 2, 0, 24), (56, .invokestatic 48, 3, 0, 0), (59, .iastore, 1, 0, 0), (60, .aload_n 0, 1, 0, 0), (61, .getfield 22, 3, 0, 0), (64, .iload 4, 2, 0, 0), (66, .iconst 0, 1, 0, 0), (67, .iastore, 1, 0, 0), (68, .aload_n 0, 1, 0, 0), (69, .getfield 25, 3, 0, 0), (72, .iload 4, 2, 0, 0), (74, .iconst 0, 1, 0, 0), (75, .iastore, 1, 0, 0), (76, .aload_n 0, 1, 0, 0), (77, .iload 4, 2, 0, 0), (79, .aload_n 1, 1, 0, 0), (80, .iload_n 2, 1, 0, 0), (81, .iload_n 3, 1, 0, 0), (82, .invokevirtual 54, 3, 0, 0), (85, .iload 4, 2, 0, 0), (87, .ireturn, 1, 0, 0)]
def gm_156 : gw_M := (10, ⟨"GlassWires$Wires", "add", "(LGlassWires$Page;II)I"⟩, prog_12_method_16_code, 5, (some .int), 3, 0, 5, gk_156)
def gk_157 : List (Nat × gw_I) := [(0, .iload_n 3, 1, 0, 0), (1, .istore 5, 2, 0, 0), (3, .iload 4, 2, 0, 0), (5, .istore 6, 2, 0, 0), (7, .aload_n 0, 1, 0, 0), (8, .getfield 28, 3, 0, 0), (11, .bipush 25, 2, 0, 25), (13, .iload_n 1, 1, 0, 0), (14, .imul, 1, 0, 0), (15, .iload_n 3, 1, 0, 0), (16, .iload 4, 2, 0, 0), (18, .invokestatic 58, 3, 0, 0), (21, .iastore, 1, 0, 0), (22, .iconst 0, 1, 0, 0), (23, .istore 7, 2, 0, 0), (25, .iload 7, 2, 0, 0), (27, .aload_n 0, 1, 0, 0), (28, .getfield 18, 3, 0, 0), (31, .iload_n 1, 1, 0, 0), (32, .iaload, 1, 0, 0), (33, .if_icmp .ge 147, 3, 180, 0), (36, .aload_n 2, 1, 0, 0), (37, .iload 7, 2, 0, 0), (39, .invokevirtual 63, 3, 0, 0), (42, .istore 8, 2, 0, 0), (44, .iload 5, 2, 0, 0), (46, .iload 6, 2, 0, 0), (48, .iload 8, 2, 0, 0), (50, .invokestatic 67, 3, 0, 0), (53, .istore 9, 2, 0, 0), (55, .aload_n 0, 1, 0, 0), (56, .getfield 25, 3, 0, 0), (59, .iload_n 1, 1, 0, 0), (60, .dup2, 1, 0, 0), (61, .iaload, 1, 0, 0), (62, .aload_n 0, 1, 0, 0), (63, .iload_n 1, 1, 0, 0), (64, .iload 7, 2, 0, 0), (66, .iload 9, 2, 0, 0), (68, .invokevirtual 71, 3, 0, 0), (71, .ifCond .ne 7, 3, 78, 0), (74, .iconst 1, 1, 0, 1), (75, .goto 4, 3, 79, 0), (78, .iconst 0, 1, 0, 0), (79, .invokestatic 38, 3, 0, 0), (82, .iadd, 1, 0, 0), (83, .iastore, 1, 0, 0), (84, .aload_n 0, 1, 0, 0), (85, .getfield 22, 3, 0, 0), (88, .iload_n 1, 1, 0, 0), (89, .dup2, 1, 0, 0), (90, .iaload, 1, 0, 0), (91, .iload 7, 2, 0, 0), (93, .ifCond .le 20, 3, 113, 0), (96, .iload 8, 2, 0, 0), (98, .aload_n 2, 1, 0, 0), (99, .iload 7, 2, 0, 0), (101, .iconst 1, 1, 0, 1), (102, .isub, 1, 0, 0), (103, .invokevirtual 63, 3, 0, 0), (106, .if_icmp .eq 7, 3, 113, 0), (109, .iconst 1, 1, 0, 1), (110, .goto 4, 3, 114, 0), (113, .iconst 0, 1, 0, 0), (114, .invokestatic 38, 3, 0, 0), (117, .iadd, 1, 0, 0), (118, .iastore, 1, 0, 0), (119, .aload_n 0, 1, 0, 0), (120, .getfield 31, 3, 0, 0), (123, .bipush 24, 2, 0, 24), (125, .iload_n 1, 1, 0, 0), (126, .imul, 1, 0, 0), (127, .iload 7, 2, 0, 0), (129, .iadd, 1, 0, 0), (130, .iload 9, 2, 0, 0), (132, .iastore, 1, 0, 0), (133, .iload 5, 2, 0, 0), (135, .iload 8, 2, 0, 0), (137, .invokestatic 75, 3, 0, 0), (140, .iadd, 1, 0, 0), (141, .istore 5, 2, 0, 0), (143, .iload 6, 2, 0, 0), (145, .iload 8, 2, 0, 0), (147, .invokestatic 78, 3, 0, 0), (150, .iadd, 1, 0, 0), (151, .istore 6, 2, 0, 0), (153, .aload_n 0, 1, 0, 0), (154, .getfield 28, 3, 0, 0), (157, .bipush 25, 2, 0, 25), (159, .iload_n 1, 1, 0, 0), (160, .imul, 1, 0, 0), (161, .iload 7, 2, 0, 0), (163, .iadd, 1, 0, 0), (164, .iconst 1, 1, 0, 1), (165, .iadd, 1, 0, 0), (166, .iload 5, 2, 0, 0), (168, .iload 6, 2, 0, 0), (170, .invokestatic 58, 3, 0, 0), (173, .iastore, 1, 0, 0), (174, .iinc 7 1, 3, 0, 1), (177, .goto (-152), 3, 25, 0), (180, .return_, 1, 0, 0)]
def gm_157 : gw_M := (10, ⟨"GlassWires$Wires", "trace", "(ILGlassWires$Page;II)V"⟩, prog_12_method_17_code, 10, none, 4, 0, 4, gk_157)
def gk_158 : List (Nat × gw_I) := [(0, .iconst 0, 1, 0, 0), (1, .istore 4, 2, 0, 0), (3, .iload 4, 2, 0, 0), (5, .iload_n 2, 1, 0, 0), (6, .if_icmp .ge 22, 3, 28, 0), (9, .aload_n 0, 1, 0, 0), (10, .iload_n 1, 1, 0, 0), (11, .iload 4, 2, 0, 0), (13, .invokevirtual 81, 3, 0, 0), (16, .iload_n 3, 1, 0, 0), (17, .if_icmp .ne 5, 3, 22, 0), (20, .iconst 1, 1, 0, 1), (21, .ireturn, 1, 0, 0), (22, .iinc 4 1, 3, 0, 1), (25, .goto (-22), 3, 3, 0), (28, .iconst 0, 1, 0, 0), (29, .ireturn, 1, 0, 0)]
def gm_158 : gw_M := (10, ⟨"GlassWires$Wires", "wentAlong", "(III)Z"⟩, prog_12_method_18_code, 5, (some .boolean), 3, 0, 2, gk_158)
def gk_159 : List (Nat × gw_I) := [(0, .lload_n 1, 1, 0, 0), (1, .lstore_n 3, 1, 0, 0), (2, .iconst 0, 1, 0, 0), (3, .istore 5, 2, 0, 0), (5, .iload 5, 2, 0, 0), (7, .aload_n 0, 1, 0, 0), (8, .getfield 34, 3, 0, 0), (11, .if_icmp .ge 74, 3, 85, 0), (14, .lload_n 3, 1, 0, 0), (15, .aload_n 0, 1, 0, 0), (16, .getfield 11, 3, 0, 0), (19, .iload 5, 2, 0, 0), (21, .baload, 1, 0, 0), (22, .invokestatic 38, 3, 0, 0), (25, .i2l, 1, 0, 0), (26, .invokestatic 84, 3, 0, 0), (29, .aload_n 0, 1, 0, 0), (30, .getfield 15, 3, 0, 0), (33, .iload 5, 2, 0, 0), (35, .baload, 1, 0, 0), (36, .invokestatic 38, 3, 0, 0), (39, .i2l, 1, 0, 0), (40, .invokestatic 84, 3, 0, 0), (43, .lstore_n 3, 1, 0, 0), (44, .iconst 0, 1, 0, 0), (45, .istore 6, 2, 0, 0), (47, .iload 6, 2, 0, 0), (49, .aload_n 0, 1, 0, 0), (50, .getfield 18, 3, 0, 0), (53, .iload 5, 2, 0, 0), (55, .iaload, 1, 0, 0), (56, .if_icmp .gt 23, 3, 79, 0), (59, .lload_n 3, 1, 0, 0), (60, .aload_n 0, 1, 0, 0), (61, .iload 5, 2, 0, 0), (63, .iload 6, 2, 0, 0), (65, .invokevirtual 88, 3, 0, 0), (68, .i2l, 1, 0, 0), (69, .invokestatic 84, 3, 0, 0), (72, .lstore_n 3, 1, 0, 0), (73, .iinc 6 1, 3, 0, 1), (76, .goto (-29), 3, 47, 0), (79, .iinc 5 1, 3, 0, 1), (82, .goto (-77), 3, 5, 0), (85, .lload_n 3, 1, 0, 0), (86, .lreturn, 1, 0, 0)]
def gm_159 : gw_M := (10, ⟨"GlassWires$Wires", "digestOn", "(J)J"⟩, prog_12_method_19_code, 7, (some .long), 1, 0, 2, gk_159)
def gk_160 : List (Nat × gw_I) := [(0, .aload_n 0, 1, 0, 0), (1, .invokespecial 1, 3, 0, 0), (4, .aload_n 0, 1, 0, 0), (5, .new 7, 3, 0, 0), (8, .dup, 1, 0, 0), (9, .invokespecial 9, 3, 0, 0), (12, .putfield 10, 3, 0, 0), (15, .aload_n 0, 1, 0, 0), (16, .new 16, 3, 0, 0), (19, .dup, 1, 0, 0), (20, .invokespecial 18, 3, 0, 0), (23, .putfield 19, 3, 0, 0), (26, .aload_n 0, 1, 0, 0), (27, .new 23, 3, 0, 0), (30, .dup, 1, 0, 0), (31, .invokespecial 25, 3, 0, 0), (34, .putfield 26, 3, 0, 0), (37, .aload_n 0, 1, 0, 0), (38, .new 30, 3, 0, 0), (41, .dup, 1, 0, 0), (42, .aload_n 0, 1, 0, 0), (43, .getfield 10, 3, 0, 0), (46, .aload_n 0, 1, 0, 0), (47, .getfield 26, 3, 0, 0), (50, .invokespecial 32, 3, 0, 0), (53, .putfield 35, 3, 0, 0), (56, .aload_n 0, 1, 0, 0), (57, .new 39, 3, 0, 0), (60, .dup, 1, 0, 0), (61, .aload_n 0, 1, 0, 0), (62, .getfield 10, 3, 0, 0), (65, .aload_n 0, 1, 0, 0), (66, .getfield 35, 3, 0, 0), (69, .invokespecial 41, 3, 0, 0), (72, .putfield 44, 3, 0, 0), (75, .aload_n 0, 1, 0, 0), (76, .new 48, 3, 0, 0), (79, .dup, 1, 0, 0), (80, .aload_n 0, 1, 0, 0), (81, .getfield 10, 3, 0, 0), (84, .aload_n 0, 1, 0, 0), (85, .getfield 44, 3, 0, 0), (88, .invokespecial 50, 3, 0, 0), (91, .putfield 53, 3, 0, 0), (94, .aload_n 0, 1, 0, 0), (95, .new 57, 3, 0, 0), (98, .dup, 1, 0, 0), (99, .invokespecial 59, 3, 0, 0), (102, .putfield 60, 3, 0, 0), (105, .aload_n 0, 1, 0, 0), (106, .new 64, 3, 0, 0), (109, .dup, 1, 0, 0), (110, .aload_n 0, 1, 0, 0), (111, .getfield 10, 3, 0, 0), (114, .aload_n 0, 1, 0, 0), (115, .getfield 35, 3, 0, 0), (118, .aload_n 0, 1, 0, 0), (119, .getfield 44, 3, 0, 0), (122, .aload_n 0, 1, 0, 0), (123, .getfield 60, 3, 0, 0), (126, .invokespecial 66, 3, 0, 0), (129, .putfield 69, 3, 0, 0), (132, .aload_n 0, 1, 0, 0), (133, .new 73, 3, 0, 0), (136, .dup, 1, 0, 0), (137, .aload_n 0, 1, 0, 0), (138, .getfield 60, 3, 0, 0), (141, .invokespecial 75, 3, 0, 0), (144, .putfield 78, 3, 0, 0), (147, .aload_n 0, 1, 0, 0), (148, .new 82, 3, 0, 0), (151, .dup, 1, 0, 0), (152, .aload_n 0, 1, 0, 0), (153, .getfield 10, 3, 0, 0), (156, .aload_n 0, 1, 0, 0), (157, .getfield 60, 3, 0, 0), (160, .aload_n 0, 1, 0, 0), (161, .getfield 69, 3, 0, 0), (164, .invokespecial 84, 3, 0, 0), (167, .putfield 87, 3, 0, 0), (170, .aload_n 0, 1, 0, 0), (171, .new 91, 3, 0, 0), (174, .dup, 1, 0, 0), (175, .invokespecial 93, 3, 0, 0), (178, .putfield 94, 3, 0, 0), (181, .aload_n 0, 1, 0, 0), (182, .invokevirtual 98, 3, 0, 0), (185, .return_, 1, 0, 0)]
def gm_160 : gw_M := (11, ⟨"GlassWires", "<init>", "()V"⟩, prog_1_method_1_code, 1, none, 0, 2, 7, gk_160)
def gk_161 : List (Nat × gw_I) := [(0, .iload_n 1, 1, 0, 0), (1, .invokestatic 101, 3, 0, 0), (4, .ifCond .eq 10, 3, 14, 0), (7, .iload_n 2, 1, 0, 0), (8, .invokestatic 101, 3, 0, 0), (11, .ifCond .ne 6, 3, 17, 0), (14, .bipush (-102), 2, 0, (-102)), (16, .ireturn, 1, 0, 0), (17, .aload_n 0, 1, 0, 0), (18, .getfield 10, 3, 0, 0), (21, .iload_n 1, 1, 0, 0), (22, .iload_n 2, 1, 0, 0), (23, .invokevirtual 105, 3, 0, 0), (26, .aload_n 0, 1, 0, 0), (27, .getfield 26, 3, 0, 0), (30, .invokevirtual 109, 3, 0, 0), (33, .aload_n 0, 1, 0, 0), (34, .getfield 69, 3, 0, 0), (37, .invokevirtual 112, 3, 0, 0), (40, .aload_n 0, 1, 0, 0), (41, .getfield 87, 3, 0, 0), (44, .iconst 0, 1, 0, 0), (45, .iconst 0, 1, 0, 0), (46, .invokevirtual 113, 3, 0, 0), (49, .aload_n 0, 1, 0, 0), (50, .getfield 94, 3, 0, 0), (53, .invokevirtual 116, 3, 0, 0), (56, .aload_n 0, 1, 0, 0), (57, .invokevirtual 98, 3, 0, 0), (60, .aload_n 0, 1, 0, 0), (61, .getfield 10, 3, 0, 0), (64, .invokevirtual 117, 3, 0, 0), (67, .ireturn, 1, 0, 0)]
def gm_161 : gw_M := (11, ⟨"GlassWires", "plate", "(II)I"⟩, prog_1_method_2_code, 3, (some .int), 2, 0, 7, gk_161)
def gk_162 : List (Nat × gw_I) := [(0, .aload_n 0, 1, 0, 0), (1, .getfield 19, 3, 0, 0), (4, .lload_n 1, 1, 0, 0), (5, .invokevirtual 121, 3, 0, 0), (8, .ireturn, 1, 0, 0)]
def gm_162 : gw_M := (11, ⟨"GlassWires", "letters", "(J)I"⟩, prog_1_method_3_code, 3, (some .int), 1, 0, 4, gk_162)
def gk_163 : List (Nat × gw_I) := [(0, .aload_n 0, 1, 0, 0), (1, .getfield 19, 3, 0, 0), (4, .invokevirtual 125, 3, 0, 0), (7, .ireturn, 1, 0, 0)]
def gm_163 : gw_M := (11, ⟨"GlassWires", "blank", "()I"⟩, prog_1_method_4_code, 1, (some .int), 0, 0, 2, gk_163)
def gk_164 : List (Nat × gw_I) := [(0, .aload_n 0, 1, 0, 0), (1, .getfield 10, 3, 0, 0), (4, .iload_n 1, 1, 0, 0), (5, .iload_n 2, 1, 0, 0), (6, .invokevirtual 127, 3, 0, 0), (9, .ifCond .eq 19, 3, 28, 0), (12, .aload_n 0, 1, 0, 0), (13, .getfield 19, 3, 0, 0), (16, .aload_n 0, 1, 0, 0), (17, .getfield 10, 3, 0, 0), (20, .iload_n 1, 1, 0, 0), (21, .iload_n 2, 1, 0, 0), (22, .invokevirtual 131, 3, 0, 0), (25, .goto 5, 3, 30, 0), (28, .bipush (-101), 2, 0, (-101)), (30, .ireturn, 1, 0, 0)]
def gm_164 : gw_M := (11, ⟨"GlassWires", "good", "(II)I"⟩, prog_1_method_5_code, 3, (some .int), 2, 0, 3, gk_164)
def gk_165 : List (Nat × gw_I) := [(0, .aload_n 0, 1, 0, 0), (1, .getfield 10, 3, 0, 0), (4, .iload_n 1, 1, 0, 0), (5, .iload_n 2, 1, 0, 0), (6, .invokevirtual 127, 3, 0, 0), (9, .ifCond .ne 6, 3, 15, 0), (12, .bipush (-101), 2, 0, (-101)), (14, .ireturn, 1, 0, 0), (15, .aload_n 0, 1, 0, 0), (16, .getfield 19, 3, 0, 0), (19, .aload_n 0, 1, 0, 0), (20, .getfield 10, 3, 0, 0), (23, .iload_n 1, 1, 0, 0), (24, .iload_n 2, 1, 0, 0), (25, .invokevirtual 135, 3, 0, 0), (28, .ifCond .ne 6, 3, 34, 0), (31, .bipush (-103), 2, 0, (-103)), (33, .ireturn, 1, 0, 0), (34, .aload_n 0, 1, 0, 0), (35, .getfield 26, 3, 0, 0), (38, .aload_n 0, 1, 0, 0), (39, .getfield 19, 3, 0, 0), (42, .iload_n 1, 1, 0, 0), (43, .iload_n 2, 1, 0, 0), (44, .invokevirtual 139, 3, 0, 0), (47, .istore_n 3, 1, 0, 0), (48, .iload_n 3, 1, 0, 0), (49, .ifCond .lt 15, 3, 64, 0), (52, .aload_n 0, 1, 0, 0), (53, .getfield 19, 3, 0, 0), (56, .invokevirtual 125, 3, 0, 0), (59, .pop, 1, 0, 0), (60, .aload_n 0, 1, 0, 0), (61, .invokevirtual 98, 3, 0, 0), (64, .iload_n 3, 1, 0, 0), (65, .ireturn, 1, 0, 0)]
def gm_165 : gw_M := (11, ⟨"GlassWires", "wire", "(II)I"⟩, prog_1_method_6_code, 4, (some .int), 2, 0, 7, gk_165)
def gk_166 : List (Nat × gw_I) := [(0, .aload_n 0, 1, 0, 0), (1, .getfield 26, 3, 0, 0), (4, .iload_n 1, 1, 0, 0), (5, .invokevirtual 142, 3, 0, 0), (8, .ifCond .ne 6, 3, 14, 0), (11, .bipush (-101), 2, 0, (-101)), (13, .ireturn, 1, 0, 0), (14, .aload_n 0, 1, 0, 0), (15, .getfield 26, 3, 0, 0), (18, .iload_n 1, 1, 0, 0), (19, .invokevirtual 145, 3, 0, 0), (22, .invokestatic 148, 3, 0, 0), (25, .istore_n 3, 1, 0, 0), (26, .aload_n 0, 1, 0, 0), (27, .getfield 26, 3, 0, 0), (30, .iload_n 1, 1, 0, 0), (31, .iload_n 2, 1, 0, 0), (32, .invokevirtual 152, 3, 0, 0), (35, .aload_n 0, 1, 0, 0), (36, .invokevirtual 98, 3, 0, 0), (39, .iload_n 3, 1, 0, 0), (40, .ireturn, 1, 0, 0)]
def gm_166 : gw_M := (11, ⟨"GlassWires", "lay", "(IZ)I"⟩, prog_1_method_7_code, 4, (some .int), 2, 0, 7, gk_166)
def gk_167 : List (Nat × gw_I) := [(0, .aload_n 0, 1, 0, 0), (1, .getfield 26, 3, 0, 0), (4, .iload_n 1, 1, 0, 0), (5, .invokevirtual 142, 3, 0, 0), (8, .ifCond .ne 6, 3, 14, 0), (11, .bipush (-101), 2, 0, (-101)), (13, .ireturn, 1, 0, 0), (14, .aload_n 0, 1, 0, 0), (15, .getfield 26, 3, 0, 0), (18, .iload_n 1, 1, 0, 0), (19, .invokevirtual 156, 3, 0, 0), (22, .invokestatic 148, 3, 0, 0), (25, .istore_n 3, 1, 0, 0), (26, .aload_n 0, 1, 0, 0), (27, .getfield 26, 3, 0, 0), (30, .iload_n 1, 1, 0, 0), (31, .iload_n 2, 1, 0, 0), (32, .invokevirtual 159, 3, 0, 0), (35, .aload_n 0, 1, 0, 0), (36, .invokevirtual 98, 3, 0, 0), (39, .iload_n 3, 1, 0, 0), (40, .ireturn, 1, 0, 0)]
def gm_167 : gw_M := (11, ⟨"GlassWires", "solder", "(IZ)I"⟩, prog_1_method_8_code, 4, (some .int), 2, 0, 7, gk_167)
def gk_168 : List (Nat × gw_I) := [(0, .aload_n 0, 1, 0, 0), (1, .getfield 26, 3, 0, 0), (4, .iload_n 1, 1, 0, 0), (5, .invokevirtual 142, 3, 0, 0), (8, .ifCond .ne 6, 3, 14, 0), (11, .bipush (-101), 2, 0, (-101)), (13, .ireturn, 1, 0, 0), (14, .iload_n 2, 1, 0, 0), (15, .tableswitch 84 0 4 #[33, 42, 51, 63, 72], 33, 0, 0), (48, .aload_n 0, 1, 0, 0), (49, .getfield 26, 3, 0, 0), (52, .iload_n 1, 1, 0, 0), (53, .invokevirtual 162, 3, 0, 0), (56, .ireturn, 1, 0, 0), (57, .aload_n 0, 1, 0, 0), (58, .getfield 26, 3, 0, 0), (61, .iload_n 1, 1, 0, 0), (62, .invokevirtual 166, 3, 0, 0), (65, .ireturn, 1, 0, 0), (66, .aload_n 0, 1, 0, 0), (67, .getfield 26, 3, 0, 0), (70, .iload_n 1, 1, 0, 0), (71, .invokevirtual 169, 3, 0, 0), (74, .invokestatic 148, 3, 0, 0), (77, .ireturn, 1, 0, 0), (78, .aload_n 0, 1, 0, 0), (79, .getfield 26, 3, 0, 0), (82, .iload_n 1, 1, 0, 0), (83, .invokevirtual 172, 3, 0, 0), (86, .ireturn, 1, 0, 0), (87, .aload_n 0, 1, 0, 0), (88, .getfield 35, 3, 0, 0), (91, .iload_n 1, 1, 0, 0), (92, .invokevirtual 175, 3, 0, 0), (95, .invokestatic 148, 3, 0, 0), (98, .ireturn, 1, 0, 0), (99, .bipush (-102), 2, 0, (-102)), (101, .ireturn, 1, 0, 0)]
def gm_168 : gw_M := (11, ⟨"GlassWires", "about", "(II)I"⟩, prog_1_method_9_code, 3, (some .int), 2, 0, 3, gk_168)
def gk_169 : List (Nat × gw_I) := [(0, .aload_n 0, 1, 0, 0), (1, .getfield 26, 3, 0, 0), (4, .iload_n 1, 1, 0, 0), (5, .invokevirtual 142, 3, 0, 0), (8, .ifCond .ne 6, 3, 14, 0), (11, .bipush (-101), 2, 0, (-101)), (13, .ireturn, 1, 0, 0), (14, .iload_n 2, 1, 0, 0), (15, .ifCond .lt 27, 3, 42, 0), (18, .iload_n 2, 1, 0, 0), (19, .aload_n 0, 1, 0, 0), (20, .getfield 26, 3, 0, 0), (23, .iload_n 1, 1, 0, 0), (24, .invokevirtual 162, 3, 0, 0), (27, .if_icmp .gt 15, 3, 42, 0), (30, .aload_n 0, 1, 0, 0), (31, .getfield 26, 3, 0, 0), (34, .iload_n 1, 1, 0, 0), (35, .iload_n 2, 1, 0, 0), (36, .invokevirtual 178, 3, 0, 0), (39, .goto 4, 3, 43, 0), (42, .iconst (-1), 1, 0, (-1)), (43, .ireturn, 1, 0, 0)]
def gm_169 : gw_M := (11, ⟨"GlassWires", "point", "(II)I"⟩, prog_1_method_10_code, 3, (some .int), 2, 0, 2, gk_169)
def gk_170 : List (Nat × gw_I) := [(0, .aload_n 0, 1, 0, 0), (1, .getfield 10, 3, 0, 0), (4, .iload_n 1, 1, 0, 0), (5, .iload_n 2, 1, 0, 0), (6, .iload_n 3, 1, 0, 0), (7, .invokevirtual 182, 3, 0, 0), (10, .ifCond .eq 19, 3, 29, 0), (13, .aload_n 0, 1, 0, 0), (14, .getfield 35, 3, 0, 0), (17, .iload_n 1, 1, 0, 0), (18, .iload_n 2, 1, 0, 0), (19, .iload_n 3, 1, 0, 0), (20, .invokestatic 186, 3, 0, 0), (23, .invokevirtual 190, 3, 0, 0), (26, .goto 5, 3, 31, 0), (29, .bipush (-101), 2, 0, (-101)), (31, .ireturn, 1, 0, 0)]
def gm_170 : gw_M := (11, ⟨"GlassWires", "covers", "(III)I"⟩, prog_1_method_11_code, 4, (some .int), 3, 0, 3, gk_170)
def gk_171 : List (Nat × gw_I) := [(0, .iload_n 1, 1, 0, 0), (1, .tableswitch 115 0 7 #[47, 56, 65, 74, 82, 91, 99, 107], 47, 0, 0), (48, .aload_n 0, 1, 0, 0), (49, .getfield 35, 3, 0, 0), (52, .iconst 0, 1, 0, 0), (53, .invokevirtual 193, 3, 0, 0), (56, .ireturn, 1, 0, 0), (57, .aload_n 0, 1, 0, 0), (58, .getfield 35, 3, 0, 0), (61, .iconst 1, 1, 0, 1), (62, .invokevirtual 193, 3, 0, 0), (65, .ireturn, 1, 0, 0), (66, .aload_n 0, 1, 0, 0), (67, .getfield 35, 3, 0, 0), (70, .iconst 2, 1, 0, 2), (71, .invokevirtual 196, 3, 0, 0), (74, .ireturn, 1, 0, 0), (75, .aload_n 0, 1, 0, 0), (76, .getfield 35, 3, 0, 0), (79, .invokevirtual 199, 3, 0, 0), (82, .ireturn, 1, 0, 0), (83, .aload_n 0, 1, 0, 0), (84, .getfield 35, 3, 0, 0), (87, .iconst 1, 1, 0, 1), (88, .invokevirtual 196, 3, 0, 0), (91, .ireturn, 1, 0, 0), (92, .aload_n 0, 1, 0, 0), (93, .getfield 35, 3, 0, 0), (96, .invokevirtual 202, 3, 0, 0), (99, .ireturn, 1, 0, 0), (100, .aload_n 0, 1, 0, 0), (101, .getfield 44, 3, 0, 0), (104, .invokevirtual 205, 3, 0, 0), (107, .ireturn, 1, 0, 0), (108, .aload_n 0, 1, 0, 0), (109, .getfield 44, 3, 0, 0), (112, .invokevirtual 208, 3, 0, 0), (115, .ireturn, 1, 0, 0), (116, .bipush (-102), 2, 0, (-102)), (118, .ireturn, 1, 0, 0)]
def gm_171 : gw_M := (11, ⟨"GlassWires", "many", "(I)I"⟩, prog_1_method_12_code, 2, (some .int), 1, 0, 8, gk_171)
def gk_172 : List (Nat × gw_I) := [(0, .iload_n 1, 1, 0, 0), (1, .ifCond .eq 8, 3, 9, 0), (4, .iload_n 1, 1, 0, 0), (5, .iconst 1, 1, 0, 1), (6, .if_icmp .ne 15, 3, 21, 0), (9, .aload_n 0, 1, 0, 0), (10, .getfield 35, 3, 0, 0), (13, .iload_n 1, 1, 0, 0), (14, .iload_n 2, 1, 0, 0), (15, .invokevirtual 211, 3, 0, 0), (18, .goto 5, 3, 23, 0), (21, .bipush (-102), 2, 0, (-102)), (23, .ireturn, 1, 0, 0)]
def gm_172 : gw_M := (11, ⟨"GlassWires", "end", "(II)I"⟩, prog_1_method_13_code, 3, (some .int), 2, 0, 8, gk_172)
def gk_173 : List (Nat × gw_I) := [(0, .aload_n 0, 1, 0, 0), (1, .getfield 10, 3, 0, 0), (4, .iload_n 1, 1, 0, 0), (5, .iload_n 2, 1, 0, 0), (6, .invokevirtual 214, 3, 0, 0), (9, .ifCond .eq 22, 3, 31, 0), (12, .aload_n 0, 1, 0, 0), (13, .getfield 44, 3, 0, 0), (16, .aload_n 0, 1, 0, 0), (17, .getfield 10, 3, 0, 0), (20, .iload_n 1, 1, 0, 0), (21, .iload_n 2, 1, 0, 0), (22, .invokevirtual 217, 3, 0, 0), (25, .invokevirtual 220, 3, 0, 0), (28, .goto 5, 3, 33, 0), (31, .bipush (-101), 2, 0, (-101)), (33, .ireturn, 1, 0, 0)]
def gm_173 : gw_M := (11, ⟨"GlassWires", "cell", "(II)I"⟩, prog_1_method_14_code, 3, (some .int), 2, 0, 2, gk_173)
def gk_174 : List (Nat × gw_I) := [(0, .aload_n 0, 1, 0, 0), (1, .getfield 44, 3, 0, 0), (4, .iload_n 1, 1, 0, 0), (5, .invokevirtual 223, 3, 0, 0), (8, .ifCond .eq 14, 3, 22, 0), (11, .aload_n 0, 1, 0, 0), (12, .getfield 44, 3, 0, 0), (15, .iload_n 1, 1, 0, 0), (16, .invokevirtual 224, 3, 0, 0), (19, .goto 5, 3, 24, 0), (22, .bipush (-101), 2, 0, (-101)), (24, .ireturn, 1, 0, 0)]
def gm_174 : gw_M := (11, ⟨"GlassWires", "size", "(I)I"⟩, prog_1_method_15_code, 2, (some .int), 1, 0, 2, gk_174)
def gk_175 : List (Nat × gw_I) := [(0, .aload_n 0, 1, 0, 0), (1, .getfield 44, 3, 0, 0), (4, .invokevirtual 205, 3, 0, 0), (7, .bipush 10, 2, 0, 10), (9, .if_icmp .gt 13, 3, 22, 0), (12, .aload_n 0, 1, 0, 0), (13, .getfield 53, 3, 0, 0), (16, .invokevirtual 227, 3, 0, 0), (19, .goto 5, 3, 24, 0), (22, .bipush (-103), 2, 0, (-103)), (24, .ireturn, 1, 0, 0)]
def gm_175 : gw_M := (11, ⟨"GlassWires", "paints", "()I"⟩, prog_1_method_16_code, 1, (some .int), 0, 0, 22, gk_175)
def gk_176 : List (Nat × gw_I) := [(0, .aload_n 0, 1, 0, 0), (1, .getfield 44, 3, 0, 0), (4, .iload_n 1, 1, 0, 0), (5, .invokevirtual 223, 3, 0, 0), (8, .ifCond .ne 6, 3, 14, 0), (11, .bipush (-101), 2, 0, (-101)), (13, .ireturn, 1, 0, 0), (14, .aload_n 0, 1, 0, 0), (15, .getfield 44, 3, 0, 0), (18, .invokevirtual 205, 3, 0, 0), (21, .bipush 10, 2, 0, 10), (23, .if_icmp .gt 14, 3, 37, 0), (26, .aload_n 0, 1, 0, 0), (27, .getfield 53, 3, 0, 0), (30, .iload_n 1, 1, 0, 0), (31, .invokevirtual 230, 3, 0, 0), (34, .goto 5, 3, 39, 0), (37, .bipush (-103), 2, 0, (-103)), (39, .ireturn, 1, 0, 0)]
def gm_176 : gw_M := (11, ⟨"GlassWires", "paint", "(I)I"⟩, prog_1_method_17_code, 2, (some .int), 1, 0, 23, gk_176)
def gk_177 : List (Nat × gw_I) := [(0, .iload_n 1, 1, 0, 0), (1, .invokestatic 233, 3, 0, 0), (4, .ifCond .eq 10, 3, 14, 0), (7, .iload_n 2, 1, 0, 0), (8, .invokestatic 234, 3, 0, 0), (11, .ifCond .ne 6, 3, 17, 0), (14, .bipush (-101), 2, 0, (-101)), (16, .ireturn, 1, 0, 0), (17, .aload_n 0, 1, 0, 0), (18, .getfield 60, 3, 0, 0), (21, .iload_n 1, 1, 0, 0), (22, .iload_n 2, 1, 0, 0), (23, .iload_n 3, 1, 0, 0), (24, .invokevirtual 237, 3, 0, 0), (27, .ireturn, 1, 0, 0)]
def gm_177 : gw_M := (11, ⟨"GlassWires", "colour", "(III)I"⟩, prog_1_method_18_code, 4, (some .int), 3, 0, 2, gk_177)
def gk_178 : List (Nat × gw_I) := [(0, .iload_n 1, 1, 0, 0), (1, .invokestatic 233, 3, 0, 0), (4, .ifCond .eq 10, 3, 14, 0), (7, .iload_n 2, 1, 0, 0), (8, .invokestatic 233, 3, 0, 0), (11, .ifCond .ne 6, 3, 17, 0), (14, .bipush (-101), 2, 0, (-101)), (16, .ireturn, 1, 0, 0), (17, .iload_n 1, 1, 0, 0), (18, .iload_n 2, 1, 0, 0), (19, .if_icmp .ne 6, 3, 25, 0), (22, .bipush (-102), 2, 0, (-102)), (24, .ireturn, 1, 0, 0), (25, .aload_n 0, 1, 0, 0), (26, .getfield 60, 3, 0, 0), (29, .iload_n 1, 1, 0, 0), (30, .iload_n 2, 1, 0, 0), (31, .invokevirtual 240, 3, 0, 0), (34, .invokestatic 148, 3, 0, 0), (37, .istore 4, 2, 0, 0), (39, .aload_n 0, 1, 0, 0), (40, .getfield 60, 3, 0, 0), (43, .iload_n 1, 1, 0, 0), (44, .iload_n 2, 1, 0, 0), (45, .iload_n 3, 1, 0, 0), (46, .invokevirtual 243, 3, 0, 0), (49, .iload 4, 2, 0, 0), (51, .ireturn, 1, 0, 0)]
def gm_178 : gw_M := (11, ⟨"GlassWires", "foes", "(IIZ)I"⟩, prog_1_method_19_code, 5, (some .int), 3, 0, 2, gk_178)
def gk_179 : List (Nat × gw_I) := [(0, .iload_n 1, 1, 0, 0), (1, .invokestatic 247, 3, 0, 0), (4, .ifCond .eq 15, 3, 19, 0), (7, .aload_n 0, 1, 0, 0), (8, .getfield 60, 3, 0, 0), (11, .iload_n 1, 1, 0, 0), (12, .iload_n 2, 1, 0, 0), (13, .invokevirtual 250, 3, 0, 0), (16, .goto 5, 3, 21, 0), (19, .bipush (-101), 2, 0, (-101)), (21, .ireturn, 1, 0, 0)]
def gm_179 : gw_M := (11, ⟨"GlassWires", "rule", "(II)I"⟩, prog_1_method_20_code, 3, (some .int), 2, 0, 2, gk_179)
def gk_180 : List (Nat × gw_I) := [(0, .aload_n 0, 1, 0, 0), (1, .getfield 44, 3, 0, 0), (4, .iload_n 1, 1, 0, 0), (5, .invokevirtual 223, 3, 0, 0), (8, .ifCond .eq 10, 3, 18, 0), (11, .iload_n 2, 1, 0, 0), (12, .invokestatic 233, 3, 0, 0), (15, .ifCond .ne 6, 3, 21, 0), (18, .bipush (-101), 2, 0, (-101)), (20, .ireturn, 1, 0, 0), (21, .iload_n 3, 1, 0, 0), (22, .iconst 1, 1, 0, 1), (23, .if_icmp .lt 9, 3, 32, 0), (26, .iload_n 3, 1, 0, 0), (27, .bipush 99, 2, 0, 99), (29, .if_icmp .le 6, 3, 35, 0), (32, .bipush (-102), 2, 0, (-102)), (34, .ireturn, 1, 0, 0), (35, .aload_n 0, 1, 0, 0), (36, .getfield 69, 3, 0, 0), (39, .iload_n 1, 1, 0, 0), (40, .invokevirtual 253, 3, 0, 0), (43, .ifCond .eq 16, 3, 59, 0), (46, .aload_n 0, 1, 0, 0), (47, .getfield 69, 3, 0, 0), (50, .iload_n 1, 1, 0, 0), (51, .iload_n 2, 1, 0, 0), (52, .iload_n 3, 1, 0, 0), (53, .invokevirtual 256, 3, 0, 0), (56, .goto 5, 3, 61, 0), (59, .bipush (-104), 2, 0, (-104)), (61, .ireturn, 1, 0, 0)]
def gm_180 : gw_M := (11, ⟨"GlassWires", "fill", "(III)I"⟩, prog_1_method_21_code, 4, (some .int), 3, 0, 3, gk_180)
def gk_181 : List (Nat × gw_I) := [(0, .aload_n 0, 1, 0, 0), (1, .getfield 44, 3, 0, 0), (4, .iload_n 1, 1, 0, 0), (5, .invokevirtual 223, 3, 0, 0), (8, .ifCond .eq 14, 3, 22, 0), (11, .aload_n 0, 1, 0, 0), (12, .getfield 69, 3, 0, 0), (15, .iload_n 1, 1, 0, 0), (16, .invokevirtual 259, 3, 0, 0), (19, .goto 5, 3, 24, 0), (22, .bipush (-101), 2, 0, (-101)), (24, .ireturn, 1, 0, 0)]
def gm_181 : gw_M := (11, ⟨"GlassWires", "empty", "(I)I"⟩, prog_1_method_22_code, 2, (some .int), 1, 0, 3, gk_181)
def gk_182 : List (Nat × gw_I) := [(0, .aload_n 0, 1, 0, 0), (1, .getfield 10, 3, 0, 0), (4, .iload_n 1, 1, 0, 0), (5, .iload_n 2, 1, 0, 0), (6, .invokevirtual 214, 3, 0, 0), (9, .ifCond .ne 6, 3, 15, 0), (12, .bipush (-101), 2, 0, (-101)), (14, .ireturn, 1, 0, 0), (15, .aload_n 0, 1, 0, 0), (16, .getfield 10, 3, 0, 0), (19, .iload_n 1, 1, 0, 0), (20, .iload_n 2, 1, 0, 0), (21, .invokevirtual 217, 3, 0, 0), (24, .istore 4, 2, 0, 0), (26, .iload_n 3, 1, 0, 0), (27, .lookupswitch 45 #[(0, 25), (1, 35)], 25, 0, 0), (52, .aload_n 0, 1, 0, 0), (53, .getfield 69, 3, 0, 0), (56, .iload 4, 2, 0, 0), (58, .invokevirtual 262, 3, 0, 0), (61, .ireturn, 1, 0, 0), (62, .aload_n 0, 1, 0, 0), (63, .getfield 69, 3, 0, 0), (66, .iload 4, 2, 0, 0), (68, .invokevirtual 265, 3, 0, 0), (71, .ireturn, 1, 0, 0), (72, .bipush (-102), 2, 0, (-102)), (74, .ireturn, 1, 0, 0)]
def gm_182 : gw_M := (11, ⟨"GlassWires", "field", "(III)I"⟩, prog_1_method_23_code, 5, (some .int), 3, 0, 2, gk_182)
def gk_183 : List (Nat × gw_I) := [(0, .aload_n 0, 1, 0, 0), (1, .getfield 10, 3, 0, 0), (4, .iload_n 1, 1, 0, 0), (5, .iload_n 2, 1, 0, 0), (6, .invokevirtual 214, 3, 0, 0), (9, .ifCond .ne 6, 3, 15, 0), (12, .bipush (-101), 2, 0, (-101)), (14, .ireturn, 1, 0, 0), (15, .iload 4, 2, 0, 0), (17, .ifCond .lt 9, 3, 26, 0), (20, .iload 4, 2, 0, 0), (22, .iconst 2, 1, 0, 2), (23, .if_icmp .le 6, 3, 29, 0), (26, .bipush (-102), 2, 0, (-102)), (28, .ireturn, 1, 0, 0), (29, .aload_n 0, 1, 0, 0), (30, .getfield 69, 3, 0, 0), (33, .aload_n 0, 1, 0, 0), (34, .getfield 10, 3, 0, 0), (37, .iload_n 1, 1, 0, 0), (38, .iload_n 2, 1, 0, 0), (39, .invokevirtual 217, 3, 0, 0), (42, .iload_n 3, 1, 0, 0), (43, .iload 4, 2, 0, 0), (45, .invokevirtual 268, 3, 0, 0), (48, .ireturn, 1, 0, 0)]
def gm_183 : gw_M := (11, ⟨"GlassWires", "layer", "(IIII)I"⟩, prog_1_method_24_code, 5, (some .int), 4, 0, 2, gk_183)
def gk_184 : List (Nat × gw_I) := [(0, .iload_n 1, 1, 0, 0), (1, .invokestatic 271, 3, 0, 0), (4, .ifCond .eq 14, 3, 18, 0), (7, .aload_n 0, 1, 0, 0), (8, .getfield 69, 3, 0, 0), (11, .iload_n 1, 1, 0, 0), (12, .invokevirtual 274, 3, 0, 0), (15, .goto 5, 3, 20, 0), (18, .bipush (-102), 2, 0, (-102)), (20, .ireturn, 1, 0, 0)]
def gm_184 : gw_M := (11, ⟨"GlassWires", "fire", "(I)I"⟩, prog_1_method_25_code, 2, (some .int), 1, 0, 7, gk_184)
def gk_185 : List (Nat × gw_I) := [(0, .aload_n 0, 1, 0, 0), (1, .getfield 69, 3, 0, 0), (4, .invokevirtual 277, 3, 0, 0), (7, .ireturn, 1, 0, 0)]
def gm_185 : gw_M := (11, ⟨"GlassWires", "polish", "()I"⟩, prog_1_method_26_code, 1, (some .int), 0, 0, 4, gk_185)
def gk_186 : List (Nat × gw_I) := [(0, .iload_n 1, 1, 0, 0), (1, .tableswitch 90 0 5 #[39, 48, 57, 66, 74, 82], 39, 0, 0), (40, .aload_n 0, 1, 0, 0), (41, .getfield 69, 3, 0, 0), (44, .iconst 0, 1, 0, 0), (45, .invokevirtual 280, 3, 0, 0), (48, .ireturn, 1, 0, 0), (49, .aload_n 0, 1, 0, 0), (50, .getfield 69, 3, 0, 0), (53, .iconst 1, 1, 0, 1), (54, .invokevirtual 280, 3, 0, 0), (57, .ireturn, 1, 0, 0), (58, .aload_n 0, 1, 0, 0), (59, .getfield 69, 3, 0, 0), (62, .iconst 2, 1, 0, 2), (63, .invokevirtual 280, 3, 0, 0), (66, .ireturn, 1, 0, 0), (67, .aload_n 0, 1, 0, 0), (68, .getfield 69, 3, 0, 0), (71, .invokevirtual 283, 3, 0, 0), (74, .ireturn, 1, 0, 0), (75, .aload_n 0, 1, 0, 0), (76, .getfield 69, 3, 0, 0), (79, .invokevirtual 286, 3, 0, 0), (82, .ireturn, 1, 0, 0), (83, .aload_n 0, 1, 0, 0), (84, .getfield 69, 3, 0, 0), (87, .invokevirtual 289, 3, 0, 0), (90, .ireturn, 1, 0, 0), (91, .bipush (-102), 2, 0, (-102)), (93, .ireturn, 1, 0, 0)]
def gm_186 : gw_M := (11, ⟨"GlassWires", "state", "(I)I"⟩, prog_1_method_27_code, 2, (some .int), 1, 0, 6, gk_186)
def gk_187 : List (Nat × gw_I) := [(0, .iload_n 1, 1, 0, 0), (1, .invokestatic 233, 3, 0, 0), (4, .ifCond .eq 14, 3, 18, 0), (7, .aload_n 0, 1, 0, 0), (8, .getfield 60, 3, 0, 0), (11, .iload_n 1, 1, 0, 0), (12, .invokevirtual 292, 3, 0, 0), (15, .goto 5, 3, 20, 0), (18, .bipush (-101), 2, 0, (-101)), (20, .ireturn, 1, 0, 0)]
def gm_187 : gw_M := (11, ⟨"GlassWires", "fills", "(I)I"⟩, prog_1_method_28_code, 2, (some .int), 1, 0, 3, gk_187)
def gk_188 : List (Nat × gw_I) := [(0, .iload_n 1, 1, 0, 0), (1, .invokestatic 295, 3, 0, 0), (4, .ifCond .ne 6, 3, 10, 0), (7, .bipush (-102), 2, 0, (-102)), (9, .ireturn, 1, 0, 0), (10, .aload_n 0, 1, 0, 0), (11, .getfield 78, 3, 0, 0), (14, .iload_n 1, 1, 0, 0), (15, .invokevirtual 296, 3, 0, 0), (18, .aload_n 0, 1, 0, 0), (19, .getfield 78, 3, 0, 0), (22, .invokevirtual 300, 3, 0, 0), (25, .ireturn, 1, 0, 0)]
def gm_188 : gw_M := (11, ⟨"GlassWires", "plan", "(I)I"⟩, prog_1_method_29_code, 2, (some .int), 1, 0, 4, gk_188)
def gk_189 : List (Nat × gw_I) := [(0, .iload_n 1, 1, 0, 0), (1, .invokestatic 295, 3, 0, 0), (4, .ifCond .ne 6, 3, 10, 0), (7, .bipush (-102), 2, 0, (-102)), (9, .ireturn, 1, 0, 0), (10, .aload_n 0, 1, 0, 0), (11, .getfield 78, 3, 0, 0), (14, .iload_n 1, 1, 0, 0), (15, .invokevirtual 296, 3, 0, 0), (18, .aload_n 0, 1, 0, 0), (19, .getfield 78, 3, 0, 0), (22, .iload_n 2, 1, 0, 0), (23, .invokevirtual 301, 3, 0, 0), (26, .ireturn, 1, 0, 0)]
def gm_189 : gw_M := (11, ⟨"GlassWires", "heat", "(II)I"⟩, prog_1_method_30_code, 3, (some .int), 2, 0, 4, gk_189)
def gk_190 : List (Nat × gw_I) := [(0, .iload_n 1, 1, 0, 0), (1, .invokestatic 233, 3, 0, 0), (4, .ifCond .ne 6, 3, 10, 0), (7, .bipush (-101), 2, 0, (-101)), (9, .ireturn, 1, 0, 0), (10, .iload_n 2, 1, 0, 0), (11, .ifCond .lt 9, 3, 20, 0), (14, .iload_n 2, 1, 0, 0), (15, .bipush 99, 2, 0, 99), (17, .if_icmp .le 6, 3, 23, 0), (20, .bipush (-102), 2, 0, (-102)), (22, .ireturn, 1, 0, 0), (23, .aload_n 0, 1, 0, 0), (24, .getfield 87, 3, 0, 0), (27, .iload_n 1, 1, 0, 0), (28, .iload_n 2, 1, 0, 0), (29, .invokevirtual 113, 3, 0, 0), (32, .iconst 1, 1, 0, 1), (33, .ireturn, 1, 0, 0)]
def gm_190 : gw_M := (11, ⟨"GlassWires", "back", "(II)I"⟩, prog_1_method_31_code, 3, (some .int), 2, 0, 2, gk_190)
def gk_191 : List (Nat × gw_I) := [(0, .iload_n 1, 1, 0, 0), (1, .lookupswitch 43 #[(0, 27), (1, 35)], 27, 0, 0), (28, .aload_n 0, 1, 0, 0), (29, .getfield 69, 3, 0, 0), (32, .invokevirtual 304, 3, 0, 0), (35, .ireturn, 1, 0, 0), (36, .aload_n 0, 1, 0, 0), (37, .getfield 87, 3, 0, 0), (40, .invokevirtual 307, 3, 0, 0), (43, .ireturn, 1, 0, 0), (44, .bipush (-102), 2, 0, (-102)), (46, .ireturn, 1, 0, 0)]
def gm_191 : gw_M := (11, ⟨"GlassWires", "pull", "(I)I"⟩, prog_1_method_32_code, 2, (some .int), 1, 0, 4, gk_191)
def gk_192 : List (Nat × gw_I) := [(0, .iload_n 1, 1, 0, 0), (1, .lookupswitch 43 #[(0, 27), (1, 35)], 27, 0, 0), (28, .aload_n 0, 1, 0, 0), (29, .getfield 87, 3, 0, 0), (32, .invokevirtual 310, 3, 0, 0), (35, .ireturn, 1, 0, 0), (36, .aload_n 0, 1, 0, 0), (37, .getfield 87, 3, 0, 0), (40, .invokevirtual 313, 3, 0, 0), (43, .ireturn, 1, 0, 0), (44, .ldc_w 316, 3, 1017, (-1000001)), (47, .ireturn, 1, 0, 0)]
def gm_192 : gw_M := (11, ⟨"GlassWires", "bow", "(I)I"⟩, prog_1_method_33_code, 2, (some .int), 1, 0, 6, gk_192)
def gk_193 : List (Nat × gw_I) := [(0, .iload_n 1, 1, 0, 0), (1, .invokestatic 233, 3, 0, 0), (4, .ifCond .eq 14, 3, 18, 0), (7, .aload_n 0, 1, 0, 0), (8, .getfield 87, 3, 0, 0), (11, .iload_n 1, 1, 0, 0), (12, .invokevirtual 317, 3, 0, 0), (15, .goto 5, 3, 20, 0), (18, .bipush (-101), 2, 0, (-101)), (20, .ireturn, 1, 0, 0)]
def gm_193 : gw_M := (11, ⟨"GlassWires", "straight", "(I)I"⟩, prog_1_method_34_code, 2, (some .int), 1, 0, 4, gk_193)
def gk_194 : List (Nat × gw_I) := [(0, .iload_n 1, 1, 0, 0), (1, .invokestatic 320, 3, 0, 0), (4, .ifCond .eq 28, 3, 32, 0), (7, .iload_n 2, 1, 0, 0), (8, .invokestatic 320, 3, 0, 0), (11, .ifCond .eq 21, 3, 32, 0), (14, .iload_n 2, 1, 0, 0), (15, .iload_n 1, 1, 0, 0), (16, .if_icmp .gt 16, 3, 32, 0), (19, .aload_n 0, 1, 0, 0), (20, .getfield 87, 3, 0, 0), (23, .iload_n 1, 1, 0, 0), (24, .iload_n 2, 1, 0, 0), (25, .isub, 1, 0, 0), (26, .invokevirtual 323, 3, 0, 0), (29, .goto 5, 3, 34, 0), (32, .bipush (-102), 2, 0, (-102)), (34, .ireturn, 1, 0, 0)]
def gm_194 : gw_M := (11, ⟨"GlassWires", "strain", "(II)I"⟩, prog_1_method_35_code, 3, (some .int), 2, 0, 6, gk_194)
def gk_195 : List (Nat × gw_I) := [(0, .iload_n 1, 1, 0, 0), (1, .invokestatic 320, 3, 0, 0), (4, .ifCond .eq 14, 3, 18, 0), (7, .aload_n 0, 1, 0, 0), (8, .getfield 87, 3, 0, 0), (11, .iload_n 1, 1, 0, 0), (12, .invokevirtual 326, 3, 0, 0), (15, .goto 5, 3, 20, 0), (18, .bipush (-102), 2, 0, (-102)), (20, .ireturn, 1, 0, 0)]
def gm_195 : gw_M := (11, ⟨"GlassWires", "cooling", "(I)I"⟩, prog_1_method_36_code, 2, (some .int), 1, 0, 7, gk_195)
def gk_196 : List (Nat × gw_I) := [(0, .iload_n 1, 1, 0, 0), (1, .invokestatic 320, 3, 0, 0), (4, .ifCond .eq 15, 3, 19, 0), (7, .aload_n 0, 1, 0, 0), (8, .getfield 87, 3, 0, 0), (11, .iload_n 1, 1, 0, 0), (12, .iload_n 2, 1, 0, 0), (13, .invokevirtual 329, 3, 0, 0), (16, .goto 5, 3, 21, 0), (19, .bipush (-102), 2, 0, (-102)), (21, .ireturn, 1, 0, 0)]
def gm_196 : gw_M := (11, ⟨"GlassWires", "cool", "(II)I"⟩, prog_1_method_37_code, 3, (some .int), 2, 0, 8, gk_196)
def gk_197 : List (Nat × gw_I) := [(0, .aload_n 0, 1, 0, 0), (1, .getfield 44, 3, 0, 0), (4, .iload_n 1, 1, 0, 0), (5, .invokevirtual 223, 3, 0, 0), (8, .ifCond .ne 6, 3, 14, 0), (11, .bipush (-101), 2, 0, (-101)), (13, .ireturn, 1, 0, 0), (14, .iload_n 2, 1, 0, 0), (15, .invokestatic 271, 3, 0, 0), (18, .ifCond .eq 15, 3, 33, 0), (21, .aload_n 0, 1, 0, 0), (22, .getfield 69, 3, 0, 0), (25, .iload_n 1, 1, 0, 0), (26, .iload_n 2, 1, 0, 0), (27, .invokevirtual 332, 3, 0, 0), (30, .goto 5, 3, 35, 0), (33, .bipush (-102), 2, 0, (-102)), (35, .ireturn, 1, 0, 0)]
def gm_197 : gw_M := (11, ⟨"GlassWires", "harms", "(II)I"⟩, prog_1_method_38_code, 3, (some .int), 2, 0, 5, gk_197)
def gk_198 : List (Nat × gw_I) := [(0, .aload_n 0, 1, 0, 0), (1, .getfield 44, 3, 0, 0), (4, .iload_n 1, 1, 0, 0), (5, .invokevirtual 223, 3, 0, 0), (8, .ifCond .eq 10, 3, 18, 0), (11, .iload_n 2, 1, 0, 0), (12, .invokestatic 233, 3, 0, 0), (15, .ifCond .ne 6, 3, 21, 0), (18, .bipush (-101), 2, 0, (-101)), (20, .ireturn, 1, 0, 0), (21, .iload_n 3, 1, 0, 0), (22, .ifCond .eq 11, 3, 33, 0), (25, .iload_n 3, 1, 0, 0), (26, .iconst 1, 1, 0, 1), (27, .if_icmp .eq 6, 3, 33, 0), (30, .bipush (-102), 2, 0, (-102)), (32, .ireturn, 1, 0, 0), (33, .aload_n 0, 1, 0, 0), (34, .getfield 60, 3, 0, 0), (37, .iload_n 2, 1, 0, 0), (38, .invokevirtual 335, 3, 0, 0), (41, .istore 4, 2, 0, 0), (43, .aload_n 0, 1, 0, 0), (44, .getfield 69, 3, 0, 0), (47, .iload_n 1, 1, 0, 0), (48, .invokevirtual 338, 3, 0, 0), (51, .istore 5, 2, 0, 0), (53, .iload 5, 2, 0, 0), (55, .iload 4, 2, 0, 0), (57, .if_icmp .ge 5, 3, 62, 0), (60, .iconst (-1), 1, 0, (-1)), (61, .ireturn, 1, 0, 0), (62, .iload_n 3, 1, 0, 0), (63, .ifCond .ne 8, 3, 71, 0), (66, .iload 4, 2, 0, 0), (68, .goto 5, 3, 73, 0), (71, .iload 5, 2, 0, 0), (73, .ireturn, 1, 0, 0)]
def gm_198 : gw_M := (11, ⟨"GlassWires", "safe", "(III)I"⟩, prog_1_method_39_code, 6, (some .int), 3, 0, 5, gk_198)
def gk_199 : List (Nat × gw_I) := [(0, .aload_n 0, 1, 0, 0), (1, .getfield 94, 3, 0, 0), (4, .iload_n 1, 1, 0, 0), (5, .iload_n 2, 1, 0, 0), (6, .invokevirtual 341, 3, 0, 0), (9, .ireturn, 1, 0, 0)]
def gm_199 : gw_M := (11, ⟨"GlassWires", "rod", "(II)I"⟩, prog_1_method_40_code, 3, (some .int), 2, 0, 2, gk_199)
def gk_200 : List (Nat × gw_I) := [(0, .iload_n 1, 1, 0, 0), (1, .ifCond .eq 11, 3, 12, 0), (4, .iload_n 1, 1, 0, 0), (5, .iconst 1, 1, 0, 1), (6, .if_icmp .eq 6, 3, 12, 0), (9, .bipush (-102), 2, 0, (-102)), (11, .ireturn, 1, 0, 0), (12, .aload_n 0, 1, 0, 0), (13, .getfield 26, 3, 0, 0), (16, .invokevirtual 343, 3, 0, 0), (19, .bipush 8, 2, 0, 8), (21, .if_icmp .le 6, 3, 27, 0), (24, .bipush (-103), 2, 0, (-103)), (26, .ireturn, 1, 0, 0), (27, .iload_n 1, 1, 0, 0), (28, .ifCond .ne 17, 3, 45, 0), (31, .aload_n 0, 1, 0, 0), (32, .getfield 94, 3, 0, 0), (35, .aload_n 0, 1, 0, 0), (36, .getfield 26, 3, 0, 0), (39, .invokevirtual 346, 3, 0, 0), (42, .goto 14, 3, 56, 0), (45, .aload_n 0, 1, 0, 0), (46, .getfield 94, 3, 0, 0), (49, .aload_n 0, 1, 0, 0), (50, .getfield 26, 3, 0, 0), (53, .invokevirtual 349, 3, 0, 0), (56, .ireturn, 1, 0, 0)]
def gm_200 : gw_M := (11, ⟨"GlassWires", "cut", "(I)I"⟩, prog_1_method_41_code, 2, (some .int), 1, 0, 6, gk_200)
def gk_201 : List (Nat × gw_I) := [(0, .iload_n 1, 1, 0, 0), (1, .tableswitch 87 0 5 #[39, 47, 55, 63, 71, 79], 39, 0, 0), (40, .aload_n 0, 1, 0, 0), (41, .getfield 10, 3, 0, 0), (44, .invokevirtual 117, 3, 0, 0), (47, .ireturn, 1, 0, 0), (48, .aload_n 0, 1, 0, 0), (49, .getfield 26, 3, 0, 0), (52, .invokevirtual 352, 3, 0, 0), (55, .ireturn, 1, 0, 0), (56, .aload_n 0, 1, 0, 0), (57, .getfield 26, 3, 0, 0), (60, .invokevirtual 343, 3, 0, 0), (63, .ireturn, 1, 0, 0), (64, .aload_n 0, 1, 0, 0), (65, .getfield 19, 3, 0, 0), (68, .invokevirtual 353, 3, 0, 0), (71, .ireturn, 1, 0, 0), (72, .aload_n 0, 1, 0, 0), (73, .getfield 94, 3, 0, 0), (76, .invokevirtual 356, 3, 0, 0), (79, .ireturn, 1, 0, 0), (80, .aload_n 0, 1, 0, 0), (81, .getfield 69, 3, 0, 0), (84, .invokevirtual 359, 3, 0, 0), (87, .ireturn, 1, 0, 0), (88, .bipush (-102), 2, 0, (-102)), (90, .ireturn, 1, 0, 0)]
def gm_201 : gw_M := (11, ⟨"GlassWires", "count", "(I)I"⟩, prog_1_method_42_code, 2, (some .int), 1, 0, 3, gk_201)
def gk_202 : List (Nat × gw_I) := [(0, .aload_n 0, 1, 0, 0), (1, .getfield 10, 3, 0, 0), (4, .ldc2_w 362, 3, 0, 0), (7, .invokevirtual 364, 3, 0, 0), (10, .lstore_n 1, 1, 0, 0), (11, .aload_n 0, 1, 0, 0), (12, .getfield 26, 3, 0, 0), (15, .lload_n 1, 1, 0, 0), (16, .invokevirtual 368, 3, 0, 0), (19, .lstore_n 1, 1, 0, 0), (20, .aload_n 0, 1, 0, 0), (21, .getfield 60, 3, 0, 0), (24, .lload_n 1, 1, 0, 0), (25, .invokevirtual 369, 3, 0, 0), (28, .lstore_n 1, 1, 0, 0), (29, .aload_n 0, 1, 0, 0), (30, .getfield 69, 3, 0, 0), (33, .lload_n 1, 1, 0, 0), (34, .invokevirtual 370, 3, 0, 0), (37, .lstore_n 1, 1, 0, 0), (38, .aload_n 0, 1, 0, 0), (39, .getfield 87, 3, 0, 0), (42, .lload_n 1, 1, 0, 0), (43, .invokevirtual 373, 3, 0, 0), (46, .lstore_n 1, 1, 0, 0), (47, .lload_n 1, 1, 0, 0), (48, .aload_n 0, 1, 0, 0), (49, .getfield 69, 3, 0, 0), (52, .invokevirtual 289, 3, 0, 0), (55, .i2l, 1, 0, 0), (56, .invokestatic 374, 3, 0, 0), (59, .lstore_n 1, 1, 0, 0), (60, .aload_n 0, 1, 0, 0), (61, .getfield 94, 3, 0, 0), (64, .lload_n 1, 1, 0, 0), (65, .invokevirtual 378, 3, 0, 0), (68, .lstore_n 1, 1, 0, 0), (69, .aload_n 0, 1, 0, 0), (70, .getfield 19, 3, 0, 0), (73, .lload_n 1, 1, 0, 0), (74, .invokevirtual 379, 3, 0, 0), (77, .lreturn, 1, 0, 0)]
def gm_202 : gw_M := (11, ⟨"GlassWires", "digest", "()J"⟩, prog_1_method_43_code, 3, (some .long), 0, 0, 3, gk_202)
def gk_203 : List (Nat × gw_I) := [(0, .aload_n 0, 1, 0, 0), (1, .getfield 35, 3, 0, 0), (4, .invokevirtual 380, 3, 0, 0), (7, .aload_n 0, 1, 0, 0), (8, .getfield 44, 3, 0, 0), (11, .invokevirtual 383, 3, 0, 0), (14, .return_, 1, 0, 0)]
def gm_203 : gw_M := (11, ⟨"GlassWires", "renew", "()V"⟩, prog_1_method_44_code, 1, none, 0, 0, 6, gk_203)
def gk_204 : List (Nat × gw_I) := [(0, .iload_n 0, 1, 0, 0), (1, .iconst 1, 1, 0, 1), (2, .if_icmp .lt 14, 3, 16, 0), (5, .iload_n 0, 1, 0, 0), (6, .sipush 999, 3, 0, 999), (9, .if_icmp .gt 7, 3, 16, 0), (12, .iconst 1, 1, 0, 1), (13, .goto 4, 3, 17, 0), (16, .iconst 0, 1, 0, 0), (17, .ireturn, 1, 0, 0)]
def gm_204 : gw_M := (11, ⟨"GlassWires", "isFireHeat", "(I)Z"⟩, prog_1_method_45_code, 1, (some .boolean), 1, 1, 1, gk_204)
def gk_205 : List (Nat × gw_I) := [(0, .iload_n 0, 1, 0, 0), (1, .ifCond .lt 14, 3, 15, 0), (4, .iload_n 0, 1, 0, 0), (5, .sipush 999, 3, 0, 999), (8, .if_icmp .gt 7, 3, 15, 0), (11, .iconst 1, 1, 0, 1), (12, .goto 4, 3, 16, 0), (15, .iconst 0, 1, 0, 0), (16, .ireturn, 1, 0, 0)]
def gm_205 : gw_M := (11, ⟨"GlassWires", "isCoolHeat", "(I)Z"⟩, prog_1_method_46_code, 1, (some .boolean), 1, 1, 1, gk_205)
def gk_206 : List (Nat × gw_I) := [(0, .iload_n 0, 1, 0, 0), (1, .ifCond .eq 7, 3, 8, 0), (4, .iconst 1, 1, 0, 1), (5, .goto 4, 3, 9, 0), (8, .iconst 0, 1, 0, 0), (9, .ireturn, 1, 0, 0)]
def gm_206 : gw_M := (11, ⟨"GlassWires", "bit", "(Z)I"⟩, prog_1_method_47_code, 1, (some .int), 1, 1, 1, gk_206)
def gk_207 : List (Nat × gw_I) := [(0, .ldc2_w 386, 3, 0, 0), (3, .lload_n 0, 1, 0, 0), (4, .lmul, 1, 0, 0), (5, .lload_n 2, 1, 0, 0), (6, .ladd, 1, 0, 0), (7, .lreturn, 1, 0, 0)]
def gm_207 : gw_M := (11, ⟨"GlassWires", "mix", "(JJ)J"⟩, prog_1_method_48_code, 4, (some .long), 2, 1, 1, gk_207)
def gk_208 : List (Nat × gw_I) := [(0, .aload_n 0, 1, 0, 0), (1, .invokespecial 1, 3, 0, 0), (4, .aload_n 0, 1, 0, 0), (5, .bipush 40, 2, 0, 40), (7, .newarray .int, 2, 0, 0), (9, .putfield 7, 3, 0, 0), (12, .aload_n 0, 1, 0, 0), (13, .sipush 750, 3, 0, 750), (16, .newarray .int, 2, 0, 0), (18, .putfield 13, 3, 0, 0), (21, .aload_n 0, 1, 0, 0), (22, .sipush 750, 3, 0, 750), (25, .newarray .int, 2, 0, 0), (27, .putfield 16, 3, 0, 0), (30, .aload_n 0, 1, 0, 0), (31, .bipush 30, 2, 0, 30), (33, .newarray .int, 2, 0, 0), (35, .putfield 19, 3, 0, 0), (38, .aload_n 0, 1, 0, 0), (39, .bipush 30, 2, 0, 30), (41, .newarray .boolean, 2, 0, 0), (43, .putfield 22, 3, 0, 0), (46, .aload_n 0, 1, 0, 0), (47, .bipush 30, 2, 0, 30), (49, .newarray .boolean, 2, 0, 0), (51, .putfield 26, 3, 0, 0), (54, .aload_n 0, 1, 0, 0), (55, .bipush 30, 2, 0, 30), (57, .newarray .boolean, 2, 0, 0), (59, .putfield 29, 3, 0, 0), (62, .aload_n 0, 1, 0, 0), (63, .sipush 162, 3, 0, 162), (66, .newarray .int, 2, 0, 0), (68, .putfield 32, 3, 0, 0), (71, .aload_n 0, 1, 0, 0), (72, .bipush 81, 2, 0, 81), (74, .newarray .int, 2, 0, 0), (76, .putfield 35, 3, 0, 0), (79, .aload_n 0, 1, 0, 0), (80, .bipush 64, 2, 0, 64), (82, .newarray .int, 2, 0, 0), (84, .putfield 38, 3, 0, 0), (87, .aload_n 0, 1, 0, 0), (88, .bipush 64, 2, 0, 64), (90, .newarray .int, 2, 0, 0), (92, .putfield 41, 3, 0, 0), (95, .aload_n 0, 1, 0, 0), (96, .bipush 100, 2, 0, 100), (98, .newarray .boolean, 2, 0, 0), (100, .putfield 44, 3, 0, 0), (103, .aload_n 0, 1, 0, 0), (104, .bipush 10, 2, 0, 10), (106, .newarray .int, 2, 0, 0), (108, .putfield 47, 3, 0, 0), (111, .aload_n 0, 1, 0, 0), (112, .bipush 8, 2, 0, 8), (114, .newarray .int, 2, 0, 0), (116, .putfield 50, 3, 0, 0), (119, .aload_n 0, 1, 0, 0), (120, .bipush 8, 2, 0, 8), (122, .newarray .int, 2, 0, 0), (124, .putfield 53, 3, 0, 0), (127, .aload_n 0, 1, 0, 0), (128, .bipush 8, 2, 0, 8), (130, .newarray .int, 2, 0, 0), (132, .putfield 56, 3, 0, 0), (135, .aload_n 0, 1, 0, 0), (136, .bipush 64, 2, 0, 64), (138, .newarray .boolean, 2, 0, 0), (140, .putfield 59, 3, 0, 0), (143, .aload_n 0, 1, 0, 0), (144, .bipush 64, 2, 0, 64), (146, .newarray .int, 2, 0, 0), (148, .putfield 62, 3, 0, 0), (151, .aload_n 0, 1, 0, 0), (152, .sipush 768, 3, 0, 768), (155, .newarray .int, 2, 0, 0), (157, .putfield 65, 3, 0, 0), (160, .aload_n 0, 1, 0, 0), (161, .sipush 768, 3, 0, 768), (164, .newarray .int, 2, 0, 0), (166, .putfield 68, 3, 0, 0), (169, .aload_n 0, 1, 0, 0), (170, .sipush 768, 3, 0, 768), (173, .newarray .int, 2, 0, 0), (175, .putfield 71, 3, 0, 0), (178, .aload_n 0, 1, 0, 0), (179, .bipush 64, 2, 0, 64), (181, .newarray .int, 2, 0, 0), (183, .putfield 74, 3, 0, 0), (186, .aload_n 0, 1, 0, 0), (187, .bipush 64, 2, 0, 64), (189, .newarray .boolean, 2, 0, 0), (191, .putfield 77, 3, 0, 0), (194, .aload_n 0, 1, 0, 0), (195, .sipush 900, 3, 0, 900), (198, .newarray .int, 2, 0, 0), (200, .putfield 80, 3, 0, 0), (203, .aload_n 0, 1, 0, 0), (204, .bipush 8, 2, 0, 8), (206, .newarray .int, 2, 0, 0), (208, .putfield 83, 3, 0, 0), (211, .aload_n 0, 1, 0, 0), (212, .bipush 8, 2, 0, 8), (214, .newarray .int, 2, 0, 0), (216, .putfield 86, 3, 0, 0), (219, .aload_n 0, 1, 0, 0), (220, .bipush 8, 2, 0, 8), (222, .newarray .int, 2, 0, 0), (224, .putfield 89, 3, 0, 0), (227, .aload_n 0, 1, 0, 0), (228, .bipush 8, 2, 0, 8), (230, .newarray .int, 2, 0, 0), (232, .putfield 92, 3, 0, 0), (235, .aload_n 0, 1, 0, 0), (236, .bipush 8, 2, 0, 8), (238, .newarray .int, 2, 0, 0), (240, .putfield 95, 3, 0, 0), (243, .aload_n 0, 1, 0, 0), (244, .bipush 8, 2, 0, 8), (246, .newarray .int, 2, 0, 0), (248, .putfield 98, 3, 0, 0), (251, .iconst 0, 1, 0, 0), (252, .istore_n 1, 1, 0, 0), (253, .iload_n 1, 1, 0, 0), (254, .bipush 8, 2, 0, 8), (256, .if_icmp .ge 33, 3, 289, 0), (259, .aload_n 0, 1, 0, 0), (260, .getfield 50, 3, 0, 0), (263, .iload_n 1, 1, 0, 0), (264, .sipush 700, 3, 0, 700), (267, .iastore, 1, 0, 0), (268, .aload_n 0, 1, 0, 0), (269, .getfield 53, 3, 0, 0), (272, .iload_n 1, 1, 0, 0), (273, .iconst 3, 1, 0, 3), (274, .iastore, 1, 0, 0), (275, .aload_n 0, 1, 0, 0), (276, .getfield 56, 3, 0, 0), (279, .iload_n 1, 1, 0, 0), (280, .bipush 10, 2, 0, 10), (282, .iastore, 1, 0, 0), (283, .iinc 1 1, 3, 0, 1), (286, .goto (-33), 3, 253, 0), (289, .aload_n 0, 1, 0, 0), (290, .bipush 20, 2, 0, 20), (292, .putfield 101, 3, 0, 0), (295, .aload_n 0, 1, 0, 0), (296, .bipush 20, 2, 0, 20), (298, .putfield 105, 3, 0, 0), (301, .aload_n 0, 1, 0, 0), (302, .bipush 50, 2, 0, 50), (304, .putfield 108, 3, 0, 0), (307, .aload_n 0, 1, 0, 0), (308, .iconst 4, 1, 0, 4), (309, .iconst 4, 1, 0, 4), (310, .invokevirtual 111, 3, 0, 0), (313, .return_, 1, 0, 0)]
def gm_208 : gw_M := (12, ⟨"GlassWiresModel", "<init>", "()V"⟩, prog_14_method_1_code, 2, none, 0, 2, 2, gk_208)
def gk_209 : List (Nat × gw_I) := [(0, .lload_n 0, 1, 0, 0), (1, .lload_n 2, 1, 0, 0), (2, .lcmp, 1, 0, 0), (3, .ifCond .lt 14, 3, 17, 0), (6, .lload_n 0, 1, 0, 0), (7, .lload 4, 2, 0, 0), (9, .lcmp, 1, 0, 0), (10, .ifCond .gt 7, 3, 17, 0), (13, .iconst 1, 1, 0, 1), (14, .goto 4, 3, 18, 0), (17, .iconst 0, 1, 0, 0), (18, .ireturn, 1, 0, 0)]
def gm_209 : gw_M := (12, ⟨"GlassWiresModel", "in", "(JJJ)Z"⟩, prog_14_method_2_code, 6, (some .boolean), 3, 1, 1, gk_209)
def gk_210 : List (Nat × gw_I) := [(0, .aload_n 0, 1, 0, 0), (1, .iload_n 1, 1, 0, 0), (2, .putfield 115, 3, 0, 0), (5, .aload_n 0, 1, 0, 0), (6, .iload_n 2, 1, 0, 0), (7, .putfield 118, 3, 0, 0), (10, .aload_n 0, 1, 0, 0), (11, .iconst 0, 1, 0, 0), (12, .putfield 121, 3, 0, 0), (15, .iconst 0, 1, 0, 0), (16, .istore_n 3, 1, 0, 0), (17, .iload_n 3, 1, 0, 0), (18, .bipush 64, 2, 0, 64), (20, .if_icmp .ge 16, 3, 36, 0), (23, .aload_n 0, 1, 0, 0), (24, .getfield 62, 3, 0, 0), (27, .iload_n 3, 1, 0, 0), (28, .iconst 0, 1, 0, 0), (29, .iastore, 1, 0, 0), (30, .iinc 3 1, 3, 0, 1), (33, .goto (-16), 3, 17, 0), (36, .aload_n 0, 1, 0, 0), (37, .iconst 0, 1, 0, 0), (38, .putfield 124, 3, 0, 0), (41, .aload_n 0, 1, 0, 0), (42, .iconst 0, 1, 0, 0), (43, .putfield 127, 3, 0, 0), (46, .aload_n 0, 1, 0, 0), (47, .iconst 0, 1, 0, 0), (48, .putfield 130, 3, 0, 0), (51, .aload_n 0, 1, 0, 0), (52, .iconst 0, 1, 0, 0), (53, .putfield 133, 3, 0, 0), (56, .return_, 1, 0, 0)]
def gm_210 : gw_M := (12, ⟨"GlassWiresModel", "begin", "(II)V"⟩, prog_14_method_3_code, 4, none, 2, 0, 1, gk_210)
def gk_211 : List (Nat × gw_I) := [(0, .iload_n 1, 1, 0, 0), (1, .i2l, 1, 0, 0), (2, .ldc2_w 136, 3, 0, 0), (5, .ldc2_w 138, 3, 0, 0), (8, .invokestatic 140, 3, 0, 0), (11, .ifCond .eq 17, 3, 28, 0), (14, .iload_n 2, 1, 0, 0), (15, .i2l, 1, 0, 0), (16, .ldc2_w 136, 3, 0, 0), (19, .ldc2_w 138, 3, 0, 0), (22, .invokestatic 140, 3, 0, 0), (25, .ifCond .ne 6, 3, 31, 0), (28, .bipush (-102), 2, 0, (-102)), (30, .ireturn, 1, 0, 0), (31, .aload_n 0, 1, 0, 0), (32, .iload_n 1, 1, 0, 0), (33, .iload_n 2, 1, 0, 0), (34, .invokevirtual 111, 3, 0, 0), (37, .iload_n 1, 1, 0, 0), (38, .iload_n 2, 1, 0, 0), (39, .imul, 1, 0, 0), (40, .ireturn, 1, 0, 0)]
def gm_211 : gw_M := (12, ⟨"GlassWiresModel", "plate", "(II)I"⟩, prog_14_method_4_code, 3, (some .int), 2, 0, 2, gk_211)
def gk_212 : List (Nat × gw_I) := [(0, .iconst 0, 1, 0, 0), (1, .istore_n 3, 1, 0, 0), (2, .iconst 1, 1, 0, 1), (3, .istore 4, 2, 0, 0), (5, .lload_n 1, 1, 0, 0), (6, .lstore 5, 2, 0, 0), (8, .iconst 0, 1, 0, 0), (9, .istore 7, 2, 0, 0), (11, .iload 7, 2, 0, 0), (13, .bipush 8, 2, 0, 8), (15, .if_icmp .ge 68, 3, 83, 0), (18, .lload 5, 2, 0, 0), (20, .ldc2_w 144, 3, 0, 0), (23, .land, 1, 0, 0), (24, .l2i, 1, 0, 0), (25, .istore 8, 2, 0, 0), (27, .lload 5, 2, 0, 0), (29, .bipush 8, 2, 0, 8), (31, .lushr, 1, 0, 0), (32, .lstore 5, 2, 0, 0), (34, .iload 4, 2, 0, 0), (36, .ifCond .eq 25, 3, 61, 0), (39, .iload 8, 2, 0, 0), (41, .bipush 126, 2, 0, 126), (43, .if_icmp .gt 18, 3, 61, 0), (46, .iload 8, 2, 0, 0), (48, .ifCond .eq 9, 3, 57, 0), (51, .iload_n 3, 1, 0, 0), (52, .iload 7, 2, 0, 0), (54, .if_icmp .ne 7, 3, 61, 0), (57, .iconst 1, 1, 0, 1), (58, .goto 4, 3, 62, 0), (61, .iconst 0, 1, 0, 0), (62, .istore 4, 2, 0, 0), (64, .iload_n 3, 1, 0, 0), (65, .iload 8, 2, 0, 0), (67, .ifCond .le 7, 3, 74, 0), (70, .iconst 1, 1, 0, 1), (71, .goto 4, 3, 75, 0), (74, .iconst 0, 1, 0, 0), (75, .iadd, 1, 0, 0), (76, .istore_n 3, 1, 0, 0), (77, .iinc 7 1, 3, 0, 1), (80, .goto (-69), 3, 11, 0), (83, .iload 4, 2, 0, 0), (85, .ifCond .ne 6, 3, 91, 0), (88, .bipush (-102), 2, 0, (-102)), (90, .ireturn, 1, 0, 0), (91, .aload_n 0, 1, 0, 0), (92, .getfield 146, 3, 0, 0), (95, .iload_n 3, 1, 0, 0), (96, .iadd, 1, 0, 0), (97, .bipush 40, 2, 0, 40), (99, .if_icmp .le 6, 3, 105, 0), (102, .bipush (-104), 2, 0, (-104)), (104, .ireturn, 1, 0, 0), (105, .iconst 0, 1, 0, 0), (106, .istore 7, 2, 0, 0), (108, .iload 7, 2, 0, 0), (110, .iload_n 3, 1, 0, 0), (111, .if_icmp .ge 40, 3, 151, 0), (114, .aload_n 0, 1, 0, 0), (115, .getfield 7, 3, 0, 0), (118, .aload_n 0, 1, 0, 0), (119, .getfield 146, 3, 0, 0), (122, .lload_n 1, 1, 0, 0), (123, .bipush 8, 2, 0, 8), (125, .iload 7, 2, 0, 0), (127, .imul, 1, 0, 0), (128, .lushr, 1, 0, 0), (129, .ldc2_w 144, 3, 0, 0), (132, .land, 1, 0, 0), (133, .l2i, 1, 0, 0), (134, .iastore, 1, 0, 0), (135, .aload_n 0, 1, 0, 0), (136, .dup, 1, 0, 0), (137, .getfield 146, 3, 0, 0), (140, .iconst 1, 1, 0, 1), (141, .iadd, 1, 0, 0), (142, .putfield 146, 3, 0, 0), (145, .iinc 7 1, 3, 0, 1), (148, .goto (-40), 3, 108, 0), (151, .aload_n 0, 1, 0, 0), (152, .getfield 146, 3, 0, 0), (155, .ireturn, 1, 0, 0)]
def gm_212 : gw_M := (12, ⟨"GlassWiresModel", "letters", "(J)I"⟩, prog_14_method_5_code, 9, (some .int), 1, 0, 1, gk_212)
def gk_213 : List (Nat × gw_I) := [(0, .aload_n 0, 1, 0, 0), (1, .getfield 146, 3, 0, 0), (4, .istore_n 1, 1, 0, 0), (5, .aload_n 0, 1, 0, 0), (6, .iconst 0, 1, 0, 0), (7, .putfield 146, 3, 0, 0), (10, .iload_n 1, 1, 0, 0), (11, .ireturn, 1, 0, 0)]
def gm_213 : gw_M := (12, ⟨"GlassWiresModel", "blank", "()I"⟩, prog_14_method_6_code, 2, (some .int), 0, 0, 1, gk_213)
def gk_214 : List (Nat × gw_I) := [(0, .iload_n 1, 1, 0, 0), (1, .i2l, 1, 0, 0), (2, .lconst 0, 1, 0, 0), (3, .aload_n 0, 1, 0, 0), (4, .getfield 115, 3, 0, 0), (7, .i2l, 1, 0, 0), (8, .invokestatic 140, 3, 0, 0), (11, .ifCond .eq 21, 3, 32, 0), (14, .iload_n 2, 1, 0, 0), (15, .i2l, 1, 0, 0), (16, .lconst 0, 1, 0, 0), (17, .aload_n 0, 1, 0, 0), (18, .getfield 118, 3, 0, 0), (21, .i2l, 1, 0, 0), (22, .invokestatic 140, 3, 0, 0), (25, .ifCond .eq 7, 3, 32, 0), (28, .iconst 1, 1, 0, 1), (29, .goto 4, 3, 33, 0), (32, .iconst 0, 1, 0, 0), (33, .ireturn, 1, 0, 0)]
def gm_214 : gw_M := (12, ⟨"GlassWiresModel", "isPoint", "(II)Z"⟩, prog_14_method_7_code, 3, (some .boolean), 2, 0, 2, gk_214)
def gk_215 : List (Nat × gw_I) := [(0, .iload_n 0, 1, 0, 0), (1, .bipush 114, 2, 0, 114), (3, .if_icmp .ne 7, 3, 10, 0), (6, .iconst 1, 1, 0, 1), (7, .goto 14, 3, 21, 0), (10, .iload_n 0, 1, 0, 0), (11, .bipush 108, 2, 0, 108), (13, .if_icmp .ne 7, 3, 20, 0), (16, .iconst (-1), 1, 0, (-1)), (17, .goto 4, 3, 21, 0), (20, .iconst 0, 1, 0, 0), (21, .ireturn, 1, 0, 0)]
def gm_215 : gw_M := (12, ⟨"GlassWiresModel", "stepX", "(I)I"⟩, prog_14_method_8_code, 1, (some .int), 1, 1, 1, gk_215)
def gk_216 : List (Nat × gw_I) := [(0, .iload_n 0, 1, 0, 0), (1, .bipush 117, 2, 0, 117), (3, .if_icmp .ne 7, 3, 10, 0), (6, .iconst 1, 1, 0, 1), (7, .goto 14, 3, 21, 0), (10, .iload_n 0, 1, 0, 0), (11, .bipush 100, 2, 0, 100), (13, .if_icmp .ne 7, 3, 20, 0), (16, .iconst (-1), 1, 0, (-1)), (17, .goto 4, 3, 21, 0), (20, .iconst 0, 1, 0, 0), (21, .ireturn, 1, 0, 0)]
def gm_216 : gw_M := (12, ⟨"GlassWiresModel", "stepY", "(I)I"⟩, prog_14_method_9_code, 1, (some .int), 1, 1, 1, gk_216)
def gk_217 : List (Nat × gw_I) := [(0, .iconst 0, 1, 0, 0), (1, .istore_n 3, 1, 0, 0), (2, .iload_n 1, 1, 0, 0), (3, .istore 4, 2, 0, 0), (5, .iload_n 2, 1, 0, 0), (6, .istore 5, 2, 0, 0), (8, .iconst 1, 1, 0, 1), (9, .istore 6, 2, 0, 0), (11, .iload 6, 2, 0, 0), (13, .ifCond .eq 98, 3, 111, 0), (16, .iload_n 3, 1, 0, 0), (17, .aload_n 0, 1, 0, 0), (18, .getfield 146, 3, 0, 0), (21, .if_icmp .ge 90, 3, 111, 0), (24, .iload_n 3, 1, 0, 0), (25, .bipush 24, 2, 0, 24), (27, .if_icmp .ge 84, 3, 111, 0), (30, .aload_n 0, 1, 0, 0), (31, .getfield 7, 3, 0, 0), (34, .iload_n 3, 1, 0, 0), (35, .iaload, 1, 0, 0), (36, .invokestatic 149, 3, 0, 0), (39, .istore 7, 2, 0, 0), (41, .aload_n 0, 1, 0, 0), (42, .getfield 7, 3, 0, 0), (45, .iload_n 3, 1, 0, 0), (46, .iaload, 1, 0, 0), (47, .invokestatic 153, 3, 0, 0), (50, .istore 8, 2, 0, 0), (52, .iload 7, 2, 0, 0), (54, .ifCond .ne 8, 3, 62, 0), (57, .iload 8, 2, 0, 0), (59, .ifCond .eq 24, 3, 83, 0), (62, .aload_n 0, 1, 0, 0), (63, .iload 4, 2, 0, 0), (65, .iload 7, 2, 0, 0), (67, .iadd, 1, 0, 0), (68, .iload 5, 2, 0, 0), (70, .iload 8, 2, 0, 0), (72, .iadd, 1, 0, 0), (73, .invokevirtual 156, 3, 0, 0), (76, .ifCond .eq 7, 3, 83, 0), (79, .iconst 1, 1, 0, 1), (80, .goto 4, 3, 84, 0), (83, .iconst 0, 1, 0, 0), (84, .istore 6, 2, 0, 0), (86, .iload 6, 2, 0, 0), (88, .ifCond .eq 20, 3, 108, 0), (91, .iload 4, 2, 0, 0), (93, .iload 7, 2, 0, 0), (95, .iadd, 1, 0, 0), (96, .istore 4, 2, 0, 0), (98, .iload 5, 2, 0, 0), (100, .iload 8, 2, 0, 0), (102, .iadd, 1, 0, 0), (103, .istore 5, 2, 0, 0), (105, .iinc 3 1, 3, 0, 1), (108, .goto (-97), 3, 11, 0), (111, .iload_n 3, 1, 0, 0), (112, .ireturn, 1, 0, 0)]
def gm_217 : gw_M := (12, ⟨"GlassWiresModel", "goodOf", "(II)I"⟩, prog_14_method_10_code, 9, (some .int), 2, 0, 3, gk_217)
def gk_218 : List (Nat × gw_I) := [(0, .aload_n 0, 1, 0, 0), (1, .iload_n 1, 1, 0, 0), (2, .iload_n 2, 1, 0, 0), (3, .invokevirtual 156, 3, 0, 0), (6, .ifCond .eq 12, 3, 18, 0), (9, .aload_n 0, 1, 0, 0), (10, .iload_n 1, 1, 0, 0), (11, .iload_n 2, 1, 0, 0), (12, .invokevirtual 160, 3, 0, 0), (15, .goto 5, 3, 20, 0), (18, .bipush (-101), 2, 0, (-101)), (20, .ireturn, 1, 0, 0)]
def gm_218 : gw_M := (12, ⟨"GlassWiresModel", "good", "(II)I"⟩, prog_14_method_11_code, 3, (some .int), 2, 0, 4, gk_218)
def gk_219 : List (Nat × gw_I) := [(0, .aload_n 0, 1, 0, 0), (1, .iload_n 1, 1, 0, 0), (2, .iload_n 2, 1, 0, 0), (3, .invokevirtual 156, 3, 0, 0), (6, .ifCond .ne 6, 3, 12, 0), (9, .bipush (-101), 2, 0, (-101)), (11, .ireturn, 1, 0, 0), (12, .aload_n 0, 1, 0, 0), (13, .getfield 146, 3, 0, 0), (16, .ifCond .eq 16, 3, 32, 0), (19, .aload_n 0, 1, 0, 0), (20, .iload_n 1, 1, 0, 0), (21, .iload_n 2, 1, 0, 0), (22, .invokevirtual 160, 3, 0, 0), (25, .aload_n 0, 1, 0, 0), (26, .getfield 146, 3, 0, 0), (29, .if_icmp .ge 6, 3, 35, 0), (32, .bipush (-103), 2, 0, (-103)), (34, .ireturn, 1, 0, 0), (35, .aload_n 0, 1, 0, 0), (36, .getfield 121, 3, 0, 0), (39, .bipush 30, 2, 0, 30), (41, .if_icmp .ne 6, 3, 47, 0), (44, .bipush (-104), 2, 0, (-104)), (46, .ireturn, 1, 0, 0), (47, .bipush 25, 2, 0, 25), (49, .aload_n 0, 1, 0, 0), (50, .getfield 121, 3, 0, 0), (53, .imul, 1, 0, 0), (54, .istore_n 3, 1, 0, 0), (55, .aload_n 0, 1, 0, 0), (56, .getfield 13, 3, 0, 0), (59, .iload_n 3, 1, 0, 0), (60, .iload_n 1, 1, 0, 0), (61, .iastore, 1, 0, 0), (62, .aload_n 0, 1, 0, 0), (63, .getfield 16, 3, 0, 0), (66, .iload_n 3, 1, 0, 0), (67, .iload_n 2, 1, 0, 0), (68, .iastore, 1, 0, 0), (69, .iconst 0, 1, 0, 0), (70, .istore 4, 2, 0, 0), (72, .iload 4, 2, 0, 0), (74, .aload_n 0, 1, 0, 0), (75, .getfield 146, 3, 0, 0), (78, .if_icmp .ge 71, 3, 149, 0), (81, .aload_n 0, 1, 0, 0), (82, .getfield 13, 3, 0, 0), (85, .iload_n 3, 1, 0, 0), (86, .iload 4, 2, 0, 0), (88, .iadd, 1, 0, 0), (89, .iconst 1, 1, 0, 1), (90, .iadd, 1, 0, 0), (91, .aload_n 0, 1, 0, 0), (92, .getfield 13, 3, 0, 0), (95, .iload_n 3, 1, 0, 0), (96, .iload 4, 2, 0, 0), (98, .iadd, 1, 0, 0), (99, .iaload, 1, 0, 0), (100, .aload_n 0, 1, 0, 0), (101, .getfield 7, 3, 0, 0), (104, .iload 4, 2, 0, 0), (106, .iaload, 1, 0, 0), (107, .invokestatic 149, 3, 0, 0), (110, .iadd, 1, 0, 0), (111, .iastore, 1, 0, 0), (112, .aload_n 0, 1, 0, 0), (113, .getfield 16, 3, 0, 0), (116, .iload_n 3, 1, 0, 0), (117, .iload 4, 2, 0, 0), (119, .iadd, 1, 0, 0), (120, .iconst 1, 1, 0, 1), (121, .iadd, 1, 0, 0), (122, .aload_n 0, 1, 0, 0), (123, .getfield 16, 3, 0, 0), (126, .iload_n 3, 1, 0, 0), (127, .iload 4, 2, 0, 0), (129, .iadd, 1, 0, 0), (130, .iaload, 1, 0, 0), (131, .aload_n 0, 1, 0, 0), (132, .getfield 7, 3, 0, 0), (135, .iload 4, 2, 0, 0), (137, .iaload, 1, 0, 0), (138, .invokestatic 153, 3, 0, 0), (141, .iadd, 1, 0, 0), (142, .iastore, 1, 0, 0), (143, .iinc 4 1, 3, 0, 1), (146, .goto (-74), 3, 72, 0), (149, .aload_n 0, 1, 0, 0), (150, .getfield 19, 3, 0, 0), (153, .aload_n 0, 1, 0, 0), (154, .getfield 121, 3, 0, 0), (157, .aload_n 0, 1, 0, 0), (158, .getfield 146, 3, 0, 0), (161, .iastore, 1, 0, 0), (162, .aload_n 0, 1, 0, 0), (163, .getfield 22, 3, 0, 0), (166, .aload_n 0, 1, 0, 0), (167, .getfield 121, 3, 0, 0), (170, .iconst 1, 1, 0, 1), (171, .bastore, 1, 0, 0), (172, .aload_n 0, 1, 0, 0), (173, .getfield 26, 3, 0, 0), (176, .aload_n 0, 1, 0, 0), (177, .getfield 121, 3, 0, 0), (180, .iconst 0, 1, 0, 0), (181, .bastore, 1, 0, 0), (182, .aload_n 0, 1, 0, 0), (183, .iconst 0, 1, 0, 0), (184, .putfield 146, 3, 0, 0), (187, .aload_n 0, 1, 0, 0), (188, .dup, 1, 0, 0), (189, .getfield 121, 3, 0, 0), (192, .iconst 1, 1, 0, 1), (193, .iadd, 1, 0, 0), (194, .putfield 121, 3, 0, 0), (197, .aload_n 0, 1, 0, 0), (198, .getfield 121, 3, 0, 0), (201, .iconst 1, 1, 0, 1), (202, .isub, 1, 0, 0), (203, .ireturn, 1, 0, 0)]
def gm_219 : gw_M := (12, ⟨"GlassWiresModel", "wire", "(II)I"⟩, prog_14_method_12_code, 5, (some .int), 2, 0, 4, gk_219)
def gk_220 : List (Nat × gw_I) := [(0, .iload_n 1, 1, 0, 0), (1, .i2l, 1, 0, 0), (2, .lconst 0, 1, 0, 0), (3, .aload_n 0, 1, 0, 0), (4, .getfield 121, 3, 0, 0), (7, .iconst 1, 1, 0, 1), (8, .isub, 1, 0, 0), (9, .i2l, 1, 0, 0), (10, .invokestatic 140, 3, 0, 0), (13, .ireturn, 1, 0, 0)]
def gm_220 : gw_M := (12, ⟨"GlassWiresModel", "isWire", "(I)Z"⟩, prog_14_method_13_code, 2, (some .boolean), 1, 0, 2, gk_220)
def gk_221 : List (Nat × gw_I) := [(0, .aload_n 0, 1, 0, 0), (1, .iload_n 1, 1, 0, 0), (2, .invokevirtual 164, 3, 0, 0), (5, .ifCond .ne 6, 3, 11, 0), (8, .bipush (-101), 2, 0, (-101)), (10, .ireturn, 1, 0, 0), (11, .aload_n 0, 1, 0, 0), (12, .getfield 22, 3, 0, 0), (15, .iload_n 1, 1, 0, 0), (16, .baload, 1, 0, 0), (17, .ifCond .eq 7, 3, 24, 0), (20, .iconst 1, 1, 0, 1), (21, .goto 4, 3, 25, 0), (24, .iconst 0, 1, 0, 0), (25, .istore_n 3, 1, 0, 0), (26, .aload_n 0, 1, 0, 0), (27, .getfield 22, 3, 0, 0), (30, .iload_n 1, 1, 0, 0), (31, .iload_n 2, 1, 0, 0), (32, .bastore, 1, 0, 0), (33, .iload_n 3, 1, 0, 0), (34, .ireturn, 1, 0, 0)]
def gm_221 : gw_M := (12, ⟨"GlassWiresModel", "lay", "(IZ)I"⟩, prog_14_method_14_code, 4, (some .int), 2, 0, 3, gk_221)
def gk_222 : List (Nat × gw_I) := [(0, .aload_n 0, 1, 0, 0), (1, .iload_n 1, 1, 0, 0), (2, .invokevirtual 164, 3, 0, 0), (5, .ifCond .ne 6, 3, 11, 0), (8, .bipush (-101), 2, 0, (-101)), (10, .ireturn, 1, 0, 0), (11, .aload_n 0, 1, 0, 0), (12, .getfield 26, 3, 0, 0), (15, .iload_n 1, 1, 0, 0), (16, .baload, 1, 0, 0), (17, .ifCond .eq 7, 3, 24, 0), (20, .iconst 1, 1, 0, 1), (21, .goto 4, 3, 25, 0), (24, .iconst 0, 1, 0, 0), (25, .istore_n 3, 1, 0, 0), (26, .aload_n 0, 1, 0, 0), (27, .getfield 26, 3, 0, 0), (30, .iload_n 1, 1, 0, 0), (31, .iload_n 2, 1, 0, 0), (32, .bastore, 1, 0, 0), (33, .iload_n 3, 1, 0, 0), (34, .ireturn, 1, 0, 0)]
def gm_222 : gw_M := (12, ⟨"GlassWiresModel", "solder", "(IZ)I"⟩, prog_14_method_15_code, 4, (some .int), 2, 0, 3, gk_222)
def gk_223 : List (Nat × gw_I) := [(0, .bipush 25, 2, 0, 25), (2, .iload_n 1, 1, 0, 0), (3, .imul, 1, 0, 0), (4, .iload_n 2, 1, 0, 0), (5, .iadd, 1, 0, 0), (6, .istore_n 3, 1, 0, 0), (7, .aload_n 0, 1, 0, 0), (8, .getfield 13, 3, 0, 0), (11, .iload_n 3, 1, 0, 0), (12, .iaload, 1, 0, 0), (13, .aload_n 0, 1, 0, 0), (14, .getfield 13, 3, 0, 0), (17, .iload_n 3, 1, 0, 0), (18, .iconst 1, 1, 0, 1), (19, .iadd, 1, 0, 0), (20, .iaload, 1, 0, 0), (21, .if_icmp .ge 12, 3, 33, 0), (24, .aload_n 0, 1, 0, 0), (25, .getfield 13, 3, 0, 0), (28, .iload_n 3, 1, 0, 0), (29, .iaload, 1, 0, 0), (30, .goto 11, 3, 41, 0), (33, .aload_n 0, 1, 0, 0), (34, .getfield 13, 3, 0, 0), (37, .iload_n 3, 1, 0, 0), (38, .iconst 1, 1, 0, 1), (39, .iadd, 1, 0, 0), (40, .iaload, 1, 0, 0), (41, .istore 4, 2, 0, 0), (43, .aload_n 0, 1, 0, 0), (44, .getfield 16, 3, 0, 0), (47, .iload_n 3, 1, 0, 0), (48, .iaload, 1, 0, 0), (49, .aload_n 0, 1, 0, 0), (50, .getfield 16, 3, 0, 0), (53, .iload_n 3, 1, 0, 0), (54, .iconst 1, 1, 0, 1), (55, .iadd, 1, 0, 0), (56, .iaload, 1, 0, 0), (57, .if_icmp .ge 12, 3, 69, 0), (60, .aload_n 0, 1, 0, 0), (61, .getfield 16, 3, 0, 0), (64, .iload_n 3, 1, 0, 0), (65, .iaload, 1, 0, 0), (66, .goto 11, 3, 77, 0), (69, .aload_n 0, 1, 0, 0), (70, .getfield 16, 3, 0, 0), (73, .iload_n 3, 1, 0, 0), (74, .iconst 1, 1, 0, 1), (75, .iadd, 1, 0, 0), (76, .iaload, 1, 0, 0), (77, .istore 5, 2, 0, 0), (79, .aload_n 0, 1, 0, 0), (80, .getfield 13, 3, 0, 0), (83, .iload_n 3, 1, 0, 0), (84, .iaload, 1, 0, 0), (85, .aload_n 0, 1, 0, 0), (86, .getfield 13, 3, 0, 0), (89, .iload_n 3, 1, 0, 0), (90, .iconst 1, 1, 0, 1), (91, .iadd, 1, 0, 0), (92, .iaload, 1, 0, 0), (93, .if_icmp .ne 8, 3, 101, 0), (96, .bipush 81, 2, 0, 81), (98, .goto 4, 3, 102, 0), (101, .iconst 0, 1, 0, 0), (102, .bipush 9, 2, 0, 9), (104, .iload 5, 2, 0, 0), (106, .imul, 1, 0, 0), (107, .iadd, 1, 0, 0), (108, .iload 4, 2, 0, 0), (110, .iadd, 1, 0, 0), (111, .ireturn, 1, 0, 0)]
def gm_223 : gw_M := (12, ⟨"GlassWiresModel", "edgeOf", "(II)I"⟩, prog_14_method_16_code, 6, (some .int), 2, 0, 1, gk_223)
def gk_224 : List (Nat × gw_I) := [(0, .iconst 0, 1, 0, 0), (1, .istore_n 3, 1, 0, 0), (2, .iconst 0, 1, 0, 0), (3, .istore 4, 2, 0, 0), (5, .iload 4, 2, 0, 0), (7, .aload_n 0, 1, 0, 0), (8, .getfield 19, 3, 0, 0), (11, .iload_n 1, 1, 0, 0), (12, .iaload, 1, 0, 0), (13, .if_icmp .ge 30, 3, 43, 0), (16, .iload_n 3, 1, 0, 0), (17, .ifCond .ne 14, 3, 31, 0), (20, .aload_n 0, 1, 0, 0), (21, .iload_n 1, 1, 0, 0), (22, .iload 4, 2, 0, 0), (24, .invokevirtual 168, 3, 0, 0), (27, .iload_n 2, 1, 0, 0), (28, .if_icmp .ne 7, 3, 35, 0), (31, .iconst 1, 1, 0, 1), (32, .goto 4, 3, 36, 0), (35, .iconst 0, 1, 0, 0), (36, .istore_n 3, 1, 0, 0), (37, .iinc 4 1, 3, 0, 1), (40, .goto (-35), 3, 5, 0), (43, .iload_n 3, 1, 0, 0), (44, .ireturn, 1, 0, 0)]
def gm_224 : gw_M := (12, ⟨"GlassWiresModel", "hasEdge", "(II)Z"⟩, prog_14_method_17_code, 5, (some .boolean), 2, 0, 2, gk_224)
def gk_225 : List (Nat × gw_I) := [(0, .iconst 0, 1, 0, 0), (1, .istore_n 2, 1, 0, 0), (2, .iconst 0, 1, 0, 0), (3, .istore_n 3, 1, 0, 0), (4, .iload_n 3, 1, 0, 0), (5, .sipush 162, 3, 0, 162), (8, .if_icmp .ge 26, 3, 34, 0), (11, .iload_n 2, 1, 0, 0), (12, .aload_n 0, 1, 0, 0), (13, .iload_n 1, 1, 0, 0), (14, .iload_n 3, 1, 0, 0), (15, .invokevirtual 171, 3, 0, 0), (18, .ifCond .eq 7, 3, 25, 0), (21, .iconst 1, 1, 0, 1), (22, .goto 4, 3, 26, 0), (25, .iconst 0, 1, 0, 0), (26, .iadd, 1, 0, 0), (27, .istore_n 2, 1, 0, 0), (28, .iinc 3 1, 3, 0, 1), (31, .goto (-27), 3, 4, 0), (34, .iload_n 2, 1, 0, 0), (35, .ireturn, 1, 0, 0)]
def gm_225 : gw_M := (12, ⟨"GlassWiresModel", "edgesOf", "(I)I"⟩, prog_14_method_18_code, 4, (some .int), 1, 0, 3, gk_225)
def gk_226 : List (Nat × gw_I) := [(0, .iconst 0, 1, 0, 0), (1, .istore_n 2, 1, 0, 0), (2, .iconst 1, 1, 0, 1), (3, .istore_n 3, 1, 0, 0), (4, .iload_n 3, 1, 0, 0), (5, .aload_n 0, 1, 0, 0), (6, .getfield 19, 3, 0, 0), (9, .iload_n 1, 1, 0, 0), (10, .iaload, 1, 0, 0), (11, .if_icmp .ge 111, 3, 122, 0), (14, .bipush 25, 2, 0, 25), (16, .iload_n 1, 1, 0, 0), (17, .imul, 1, 0, 0), (18, .iload_n 3, 1, 0, 0), (19, .iadd, 1, 0, 0), (20, .istore 4, 2, 0, 0), (22, .aload_n 0, 1, 0, 0), (23, .getfield 13, 3, 0, 0), (26, .iload 4, 2, 0, 0), (28, .iconst 1, 1, 0, 1), (29, .iadd, 1, 0, 0), (30, .iaload, 1, 0, 0), (31, .aload_n 0, 1, 0, 0), (32, .getfield 13, 3, 0, 0), (35, .iload 4, 2, 0, 0), (37, .iaload, 1, 0, 0), (38, .isub, 1, 0, 0), (39, .aload_n 0, 1, 0, 0), (40, .getfield 13, 3, 0, 0), (43, .iload 4, 2, 0, 0), (45, .iaload, 1, 0, 0), (46, .aload_n 0, 1, 0, 0), (47, .getfield 13, 3, 0, 0), (50, .iload 4, 2, 0, 0), (52, .iconst 1, 1, 0, 1), (53, .isub, 1, 0, 0), (54, .iaload, 1, 0, 0), (55, .isub, 1, 0, 0), (56, .if_icmp .ne 44, 3, 100, 0), (59, .aload_n 0, 1, 0, 0), (60, .getfield 16, 3, 0, 0), (63, .iload 4, 2, 0, 0), (65, .iconst 1, 1, 0, 1), (66, .iadd, 1, 0, 0), (67, .iaload, 1, 0, 0), (68, .aload_n 0, 1, 0, 0), (69, .getfield 16, 3, 0, 0), (72, .iload 4, 2, 0, 0), (74, .iaload, 1, 0, 0), (75, .isub, 1, 0, 0), (76, .aload_n 0, 1, 0, 0), (77, .getfield 16, 3, 0, 0), (80, .iload 4, 2, 0, 0), (82, .iaload, 1, 0, 0), (83, .aload_n 0, 1, 0, 0), (84, .getfield 16, 3, 0, 0), (87, .iload 4, 2, 0, 0), (89, .iconst 1, 1, 0, 1), (90, .isub, 1, 0, 0), (91, .iaload, 1, 0, 0), (92, .isub, 1, 0, 0), (93, .if_icmp .ne 7, 3, 100, 0), (96, .iconst 1, 1, 0, 1), (97, .goto 4, 3, 101, 0), (100, .iconst 0, 1, 0, 0), (101, .istore 5, 2, 0, 0), (103, .iload_n 2, 1, 0, 0), (104, .iload 5, 2, 0, 0), (106, .ifCond .eq 7, 3, 113, 0), (109, .iconst 0, 1, 0, 0), (110, .goto 4, 3, 114, 0), (113, .iconst 1, 1, 0, 1), (114, .iadd, 1, 0, 0), (115, .istore_n 2, 1, 0, 0), (116, .iinc 3 1, 3, 0, 1), (119, .goto (-115), 3, 4, 0), (122, .iload_n 2, 1, 0, 0), (123, .ireturn, 1, 0, 0)]
def gm_226 : gw_M := (12, ⟨"GlassWiresModel", "bendsOf", "(I)I"⟩, prog_14_method_19_code, 6, (some .int), 1, 0, 1, gk_226)
def gk_227 : List (Nat × gw_I) := [(0, .aload_n 0, 1, 0, 0), (1, .iload_n 1, 1, 0, 0), (2, .invokevirtual 174, 3, 0, 0), (5, .ifCond .le 7, 3, 12, 0), (8, .iconst 1, 1, 0, 1), (9, .goto 4, 3, 13, 0), (12, .iconst 0, 1, 0, 0), (13, .istore_n 2, 1, 0, 0), (14, .iconst 0, 1, 0, 0), (15, .istore_n 3, 1, 0, 0), (16, .iload_n 3, 1, 0, 0), (17, .aload_n 0, 1, 0, 0), (18, .getfield 19, 3, 0, 0), (21, .iload_n 1, 1, 0, 0), (22, .iaload, 1, 0, 0), (23, .if_icmp .gt 86, 3, 109, 0), (26, .iconst 0, 1, 0, 0), (27, .istore 4, 2, 0, 0), (29, .iload 4, 2, 0, 0), (31, .iload_n 3, 1, 0, 0), (32, .if_icmp .ge 71, 3, 103, 0), (35, .iload_n 2, 1, 0, 0), (36, .ifCond .ne 55, 3, 91, 0), (39, .aload_n 0, 1, 0, 0), (40, .getfield 13, 3, 0, 0), (43, .bipush 25, 2, 0, 25), (45, .iload_n 1, 1, 0, 0), (46, .imul, 1, 0, 0), (47, .iload_n 3, 1, 0, 0), (48, .iadd, 1, 0, 0), (49, .iaload, 1, 0, 0), (50, .aload_n 0, 1, 0, 0), (51, .getfield 13, 3, 0, 0), (54, .bipush 25, 2, 0, 25), (56, .iload_n 1, 1, 0, 0), (57, .imul, 1, 0, 0), (58, .iload 4, 2, 0, 0), (60, .iadd, 1, 0, 0), (61, .iaload, 1, 0, 0), (62, .if_icmp .ne 33, 3, 95, 0), (65, .aload_n 0, 1, 0, 0), (66, .getfield 16, 3, 0, 0), (69, .bipush 25, 2, 0, 25), (71, .iload_n 1, 1, 0, 0), (72, .imul, 1, 0, 0), (73, .iload_n 3, 1, 0, 0), (74, .iadd, 1, 0, 0), (75, .iaload, 1, 0, 0), (76, .aload_n 0, 1, 0, 0), (77, .getfield 16, 3, 0, 0), (80, .bipush 25, 2, 0, 25), (82, .iload_n 1, 1, 0, 0), (83, .imul, 1, 0, 0), (84, .iload 4, 2, 0, 0), (86, .iadd, 1, 0, 0), (87, .iaload, 1, 0, 0), (88, .if_icmp .ne 7, 3, 95, 0), (91, .iconst 1, 1, 0, 1), (92, .goto 4, 3, 96, 0), (95, .iconst 0, 1, 0, 0), (96, .istore_n 2, 1, 0, 0), (97, .iinc 4 1, 3, 0, 1), (100, .goto (-71), 3, 29, 0), (103, .iinc 3 1, 3, 0, 1), (106, .goto (-90), 3, 16, 0), (109, .iload_n 2, 1, 0, 0), (110, .ireturn, 1, 0, 0)]
def gm_227 : gw_M := (12, ⟨"GlassWiresModel", "stands", "(I)Z"⟩, prog_14_method_20_code, 5, (some .boolean), 1, 0, 2, gk_227)
def gk_228 : List (Nat × gw_I) := [(0, .iconst 0, 1, 0, 0), (1, .istore 4, 2, 0, 0), (3, .iconst 0, 1, 0, 0), (4, .istore 5, 2, 0, 0), (6, .iload 5, 2, 0, 0), (8, .aload_n 0, 1, 0, 0), (9, .getfield 19, 3, 0, 0), (12, .iload_n 1, 1, 0, 0), (13, .iaload, 1, 0, 0), (14, .if_icmp .gt 53, 3, 67, 0), (17, .iload 4, 2, 0, 0), (19, .ifCond .ne 35, 3, 54, 0), (22, .aload_n 0, 1, 0, 0), (23, .getfield 13, 3, 0, 0), (26, .bipush 25, 2, 0, 25), (28, .iload_n 1, 1, 0, 0), (29, .imul, 1, 0, 0), (30, .iload 5, 2, 0, 0), (32, .iadd, 1, 0, 0), (33, .iaload, 1, 0, 0), (34, .iload_n 2, 1, 0, 0), (35, .if_icmp .ne 23, 3, 58, 0), (38, .aload_n 0, 1, 0, 0), (39, .getfield 16, 3, 0, 0), (42, .bipush 25, 2, 0, 25), (44, .iload_n 1, 1, 0, 0), (45, .imul, 1, 0, 0), (46, .iload 5, 2, 0, 0), (48, .iadd, 1, 0, 0), (49, .iaload, 1, 0, 0), (50, .iload_n 3, 1, 0, 0), (51, .if_icmp .ne 7, 3, 58, 0), (54, .iconst 1, 1, 0, 1), (55, .goto 4, 3, 59, 0), (58, .iconst 0, 1, 0, 0), (59, .istore 4, 2, 0, 0), (61, .iinc 5 1, 3, 0, 1), (64, .goto (-58), 3, 6, 0), (67, .iload 4, 2, 0, 0), (69, .ireturn, 1, 0, 0)]
def gm_228 : gw_M := (12, ⟨"GlassWiresModel", "comesTo", "(III)Z"⟩, prog_14_method_21_code, 6, (some .boolean), 3, 0, 1, gk_228)
def gk_229 : List (Nat × gw_I) := [(0, .iconst 0, 1, 0, 0), (1, .istore_n 3, 1, 0, 0), (2, .iconst 0, 1, 0, 0), (3, .istore 4, 2, 0, 0), (5, .iload 4, 2, 0, 0), (7, .aload_n 0, 1, 0, 0), (8, .getfield 19, 3, 0, 0), (11, .iload_n 1, 1, 0, 0), (12, .iaload, 1, 0, 0), (13, .if_icmp .gt 51, 3, 64, 0), (16, .iload_n 3, 1, 0, 0), (17, .ifCond .ne 35, 3, 52, 0), (20, .aload_n 0, 1, 0, 0), (21, .iload_n 2, 1, 0, 0), (22, .aload_n 0, 1, 0, 0), (23, .getfield 13, 3, 0, 0), (26, .bipush 25, 2, 0, 25), (28, .iload_n 1, 1, 0, 0), (29, .imul, 1, 0, 0), (30, .iload 4, 2, 0, 0), (32, .iadd, 1, 0, 0), (33, .iaload, 1, 0, 0), (34, .aload_n 0, 1, 0, 0), (35, .getfield 16, 3, 0, 0), (38, .bipush 25, 2, 0, 25), (40, .iload_n 1, 1, 0, 0), (41, .imul, 1, 0, 0), (42, .iload 4, 2, 0, 0), (44, .iadd, 1, 0, 0), (45, .iaload, 1, 0, 0), (46, .invokevirtual 177, 3, 0, 0), (49, .ifCond .eq 7, 3, 56, 0), (52, .iconst 1, 1, 0, 1), (53, .goto 4, 3, 57, 0), (56, .iconst 0, 1, 0, 0), (57, .istore_n 3, 1, 0, 0), (58, .iinc 4 1, 3, 0, 1), (61, .goto (-56), 3, 5, 0), (64, .iload_n 3, 1, 0, 0), (65, .ireturn, 1, 0, 0)]
def gm_229 : gw_M := (12, ⟨"GlassWiresModel", "touch", "(II)Z"⟩, prog_14_method_22_code, 5, (some .boolean), 2, 0, 2, gk_229)
def gk_230 : List (Nat × gw_I) := [(0, .iconst 0, 1, 0, 0), (1, .istore_n 1, 1, 0, 0), (2, .iload_n 1, 1, 0, 0), (3, .aload_n 0, 1, 0, 0), (4, .getfield 121, 3, 0, 0), (7, .if_icmp .ge 37, 3, 44, 0), (10, .aload_n 0, 1, 0, 0), (11, .getfield 29, 3, 0, 0), (14, .iload_n 1, 1, 0, 0), (15, .aload_n 0, 1, 0, 0), (16, .getfield 22, 3, 0, 0), (19, .iload_n 1, 1, 0, 0), (20, .baload, 1, 0, 0), (21, .ifCond .eq 15, 3, 36, 0), (24, .aload_n 0, 1, 0, 0), (25, .iload_n 1, 1, 0, 0), (26, .invokevirtual 181, 3, 0, 0), (29, .ifCond .eq 7, 3, 36, 0), (32, .iconst 1, 1, 0, 1), (33, .goto 4, 3, 37, 0), (36, .iconst 0, 1, 0, 0), (37, .bastore, 1, 0, 0), (38, .iinc 1 1, 3, 0, 1), (41, .goto (-39), 3, 2, 0), (44, .iconst 1, 1, 0, 1), (45, .istore_n 1, 1, 0, 0), (46, .iload_n 1, 1, 0, 0), (47, .ifCond .eq 94, 3, 141, 0), (50, .iconst 0, 1, 0, 0), (51, .istore_n 1, 1, 0, 0), (52, .iconst 0, 1, 0, 0), (53, .istore_n 2, 1, 0, 0), (54, .iload_n 2, 1, 0, 0), (55, .aload_n 0, 1, 0, 0), (56, .getfield 121, 3, 0, 0), (59, .if_icmp .ge 79, 3, 138, 0), (62, .iconst 0, 1, 0, 0), (63, .istore_n 3, 1, 0, 0), (64, .iload_n 3, 1, 0, 0), (65, .aload_n 0, 1, 0, 0), (66, .getfield 121, 3, 0, 0), (69, .if_icmp .ge 63, 3, 132, 0), (72, .aload_n 0, 1, 0, 0), (73, .getfield 22, 3, 0, 0), (76, .iload_n 2, 1, 0, 0), (77, .baload, 1, 0, 0), (78, .ifCond .eq 48, 3, 126, 0), (81, .aload_n 0, 1, 0, 0), (82, .getfield 22, 3, 0, 0), (85, .iload_n 3, 1, 0, 0), (86, .baload, 1, 0, 0), (87, .ifCond .eq 39, 3, 126, 0), (90, .aload_n 0, 1, 0, 0), (91, .getfield 29, 3, 0, 0), (94, .iload_n 2, 1, 0, 0), (95, .baload, 1, 0, 0), (96, .ifCond .eq 30, 3, 126, 0), (99, .aload_n 0, 1, 0, 0), (100, .getfield 29, 3, 0, 0), (103, .iload_n 3, 1, 0, 0), (104, .baload, 1, 0, 0), (105, .ifCond .ne 21, 3, 126, 0), (108, .aload_n 0, 1, 0, 0), (109, .iload_n 2, 1, 0, 0), (110, .iload_n 3, 1, 0, 0), (111, .invokevirtual 184, 3, 0, 0), (114, .ifCond .eq 12, 3, 126, 0), (117, .aload_n 0, 1, 0, 0), (118, .getfield 29, 3, 0, 0), (121, .iload_n 3, 1, 0, 0), (122, .iconst 1, 1, 0, 1), (123, .bastore, 1, 0, 0), (124, .iconst 1, 1, 0, 1), (125, .istore_n 1, 1, 0, 0), (126, .iinc 3 1, 3, 0, 1), (129, .goto (-65), 3, 64, 0), (132, .iinc 2 1, 3, 0, 1), (135, .goto (-81), 3, 54, 0), (138, .goto (-92), 3, 46, 0), (141, .return_, 1, 0, 0)]
def gm_230 : gw_M := (12, ⟨"GlassWiresModel", "findHolds", "()V"⟩, prog_14_method_23_code, 4, none, 0, 0, 3, gk_230)
def gk_231 : List (Nat × gw_I) := [(0, .aload_n 0, 1, 0, 0), (1, .iload_n 1, 1, 0, 0), (2, .invokevirtual 164, 3, 0, 0), (5, .ifCond .ne 6, 3, 11, 0), (8, .bipush (-101), 2, 0, (-101)), (10, .ireturn, 1, 0, 0), (11, .iload_n 2, 1, 0, 0), (12, .tableswitch 97 0 4 #[36, 43, 49, 63, 69], 36, 0, 0), (48, .aload_n 0, 1, 0, 0), (49, .getfield 19, 3, 0, 0), (52, .iload_n 1, 1, 0, 0), (53, .iaload, 1, 0, 0), (54, .ireturn, 1, 0, 0), (55, .aload_n 0, 1, 0, 0), (56, .iload_n 1, 1, 0, 0), (57, .invokevirtual 174, 3, 0, 0), (60, .ireturn, 1, 0, 0), (61, .aload_n 0, 1, 0, 0), (62, .iload_n 1, 1, 0, 0), (63, .invokevirtual 181, 3, 0, 0), (66, .ifCond .eq 7, 3, 73, 0), (69, .iconst 1, 1, 0, 1), (70, .goto 4, 3, 74, 0), (73, .iconst 0, 1, 0, 0), (74, .ireturn, 1, 0, 0), (75, .aload_n 0, 1, 0, 0), (76, .iload_n 1, 1, 0, 0), (77, .invokevirtual 187, 3, 0, 0), (80, .ireturn, 1, 0, 0), (81, .aload_n 0, 1, 0, 0), (82, .invokevirtual 190, 3, 0, 0), (85, .aload_n 0, 1, 0, 0), (86, .getfield 22, 3, 0, 0), (89, .iload_n 1, 1, 0, 0), (90, .baload, 1, 0, 0), (91, .ifCond .eq 16, 3, 107, 0), (94, .aload_n 0, 1, 0, 0), (95, .getfield 29, 3, 0, 0), (98, .iload_n 1, 1, 0, 0), (99, .baload, 1, 0, 0), (100, .ifCond .ne 7, 3, 107, 0), (103, .iconst 1, 1, 0, 1), (104, .goto 4, 3, 108, 0), (107, .iconst 0, 1, 0, 0), (108, .ireturn, 1, 0, 0), (109, .bipush (-102), 2, 0, (-102)), (111, .ireturn, 1, 0, 0)]
def gm_231 : gw_M := (12, ⟨"GlassWiresModel", "about", "(II)I"⟩, prog_14_method_24_code, 3, (some .int), 2, 0, 4, gk_231)
def gk_232 : List (Nat × gw_I) := [(0, .aload_n 0, 1, 0, 0), (1, .iload_n 1, 1, 0, 0), (2, .invokevirtual 164, 3, 0, 0), (5, .ifCond .ne 6, 3, 11, 0), (8, .bipush (-101), 2, 0, (-101)), (10, .ireturn, 1, 0, 0), (11, .iload_n 2, 1, 0, 0), (12, .i2l, 1, 0, 0), (13, .lconst 0, 1, 0, 0), (14, .aload_n 0, 1, 0, 0), (15, .getfield 19, 3, 0, 0), (18, .iload_n 1, 1, 0, 0), (19, .iaload, 1, 0, 0), (20, .i2l, 1, 0, 0), (21, .invokestatic 140, 3, 0, 0), (24, .ifCond .eq 32, 3, 56, 0), (27, .bipush 10, 2, 0, 10), (29, .aload_n 0, 1, 0, 0), (30, .getfield 16, 3, 0, 0), (33, .bipush 25, 2, 0, 25), (35, .iload_n 1, 1, 0, 0), (36, .imul, 1, 0, 0), (37, .iload_n 2, 1, 0, 0), (38, .iadd, 1, 0, 0), (39, .iaload, 1, 0, 0), (40, .imul, 1, 0, 0), (41, .aload_n 0, 1, 0, 0), (42, .getfield 13, 3, 0, 0), (45, .bipush 25, 2, 0, 25), (47, .iload_n 1, 1, 0, 0), (48, .imul, 1, 0, 0), (49, .iload_n 2, 1, 0, 0), (50, .iadd, 1, 0, 0), (51, .iaload, 1, 0, 0), (52, .iadd, 1, 0, 0), (53, .goto 4, 3, 57, 0), (56, .iconst (-1), 1, 0, (-1)), (57, .ireturn, 1, 0, 0)]
def gm_232 : gw_M := (12, ⟨"GlassWiresModel", "point", "(II)I"⟩, prog_14_method_25_code, 3, (some .int), 2, 0, 3, gk_232)
def gk_233 : List (Nat × gw_I) := [(0, .iconst 0, 1, 0, 0), (1, .istore_n 2, 1, 0, 0), (2, .iconst 0, 1, 0, 0), (3, .istore_n 3, 1, 0, 0), (4, .iload_n 3, 1, 0, 0), (5, .aload_n 0, 1, 0, 0), (6, .getfield 121, 3, 0, 0), (9, .if_icmp .ge 35, 3, 44, 0), (12, .iload_n 2, 1, 0, 0), (13, .aload_n 0, 1, 0, 0), (14, .getfield 22, 3, 0, 0), (17, .iload_n 3, 1, 0, 0), (18, .baload, 1, 0, 0), (19, .ifCond .eq 16, 3, 35, 0), (22, .aload_n 0, 1, 0, 0), (23, .iload_n 3, 1, 0, 0), (24, .iload_n 1, 1, 0, 0), (25, .invokevirtual 171, 3, 0, 0), (28, .ifCond .eq 7, 3, 35, 0), (31, .iconst 1, 1, 0, 1), (32, .goto 4, 3, 36, 0), (35, .iconst 0, 1, 0, 0), (36, .iadd, 1, 0, 0), (37, .istore_n 2, 1, 0, 0), (38, .iinc 3 1, 3, 0, 1), (41, .goto (-37), 3, 4, 0), (44, .iload_n 2, 1, 0, 0), (45, .ireturn, 1, 0, 0)]
def gm_233 : gw_M := (12, ⟨"GlassWiresModel", "coversOf", "(I)I"⟩, prog_14_method_26_code, 4, (some .int), 1, 0, 3, gk_233)
def gk_234 : List (Nat × gw_I) := [(0, .iload_n 3, 1, 0, 0), (1, .ifCond .ne 33, 3, 34, 0), (4, .iload_n 1, 1, 0, 0), (5, .i2l, 1, 0, 0), (6, .lconst 0, 1, 0, 0), (7, .aload_n 0, 1, 0, 0), (8, .getfield 115, 3, 0, 0), (11, .iconst 1, 1, 0, 1), (12, .isub, 1, 0, 0), (13, .i2l, 1, 0, 0), (14, .invokestatic 140, 3, 0, 0), (17, .ifCond .eq 17, 3, 34, 0), (20, .iload_n 2, 1, 0, 0), (21, .i2l, 1, 0, 0), (22, .lconst 0, 1, 0, 0), (23, .aload_n 0, 1, 0, 0), (24, .getfield 118, 3, 0, 0), (27, .i2l, 1, 0, 0), (28, .invokestatic 140, 3, 0, 0), (31, .ifCond .ne 38, 3, 69, 0), (34, .iload_n 3, 1, 0, 0), (35, .iconst 1, 1, 0, 1), (36, .if_icmp .ne 37, 3, 73, 0), (39, .iload_n 1, 1, 0, 0), (40, .i2l, 1, 0, 0), (41, .lconst 0, 1, 0, 0), (42, .aload_n 0, 1, 0, 0), (43, .getfield 115, 3, 0, 0), (46, .i2l, 1, 0, 0), (47, .invokestatic 140, 3, 0, 0), (50, .ifCond .eq 23, 3, 73, 0), (53, .iload_n 2, 1, 0, 0), (54, .i2l, 1, 0, 0), (55, .lconst 0, 1, 0, 0), (56, .aload_n 0, 1, 0, 0), (57, .getfield 118, 3, 0, 0), (60, .iconst 1, 1, 0, 1), (61, .isub, 1, 0, 0), (62, .i2l, 1, 0, 0), (63, .invokestatic 140, 3, 0, 0), (66, .ifCond .eq 7, 3, 73, 0), (69, .iconst 1, 1, 0, 1), (70, .goto 4, 3, 74, 0), (73, .iconst 0, 1, 0, 0), (74, .ireturn, 1, 0, 0)]
def gm_234 : gw_M := (12, ⟨"GlassWiresModel", "isEdge", "(III)Z"⟩, prog_14_method_27_code, 4, (some .boolean), 3, 0, 2, gk_234)
def gk_235 : List (Nat × gw_I) := [(0, .bipush 81, 2, 0, 81), (2, .iload_n 2, 1, 0, 0), (3, .imul, 1, 0, 0), (4, .bipush 9, 2, 0, 9), (6, .iload_n 1, 1, 0, 0), (7, .imul, 1, 0, 0), (8, .iadd, 1, 0, 0), (9, .iload_n 0, 1, 0, 0), (10, .iadd, 1, 0, 0), (11, .ireturn, 1, 0, 0)]
def gm_235 : gw_M := (12, ⟨"GlassWiresModel", "edge", "(III)I"⟩, prog_14_method_28_code, 3, (some .int), 3, 1, 1, gk_235)
def gk_236 : List (Nat × gw_I) := [(0, .aload_n 0, 1, 0, 0), (1, .iload_n 1, 1, 0, 0), (2, .iload_n 2, 1, 0, 0), (3, .iload_n 3, 1, 0, 0), (4, .invokevirtual 193, 3, 0, 0), (7, .ifCond .eq 16, 3, 23, 0), (10, .aload_n 0, 1, 0, 0), (11, .iload_n 1, 1, 0, 0), (12, .iload_n 2, 1, 0, 0), (13, .iload_n 3, 1, 0, 0), (14, .invokestatic 196, 3, 0, 0), (17, .invokevirtual 200, 3, 0, 0), (20, .goto 5, 3, 25, 0), (23, .bipush (-101), 2, 0, (-101)), (25, .ireturn, 1, 0, 0)]
def gm_236 : gw_M := (12, ⟨"GlassWiresModel", "covers", "(III)I"⟩, prog_14_method_29_code, 4, (some .int), 3, 0, 4, gk_236)
def gk_237 : List (Nat × gw_I) := [(0, .iconst 0, 1, 0, 0), (1, .istore_n 1, 1, 0, 0), (2, .iload_n 1, 1, 0, 0), (3, .sipush 162, 3, 0, 162), (6, .if_icmp .ge 16, 3, 22, 0), (9, .aload_n 0, 1, 0, 0), (10, .getfield 32, 3, 0, 0), (13, .iload_n 1, 1, 0, 0), (14, .iconst 0, 1, 0, 0), (15, .iastore, 1, 0, 0), (16, .iinc 1 1, 3, 0, 1), (19, .goto (-17), 3, 2, 0), (22, .iconst 0, 1, 0, 0), (23, .istore_n 1, 1, 0, 0), (24, .iload_n 1, 1, 0, 0), (25, .aload_n 0, 1, 0, 0), (26, .getfield 121, 3, 0, 0), (29, .if_icmp .ge 102, 3, 131, 0), (32, .iconst 0, 1, 0, 0), (33, .istore_n 2, 1, 0, 0), (34, .iload_n 2, 1, 0, 0), (35, .aload_n 0, 1, 0, 0), (36, .getfield 19, 3, 0, 0), (39, .iload_n 1, 1, 0, 0), (40, .iaload, 1, 0, 0), (41, .if_icmp .ge 84, 3, 125, 0), (44, .aload_n 0, 1, 0, 0), (45, .getfield 22, 3, 0, 0), (48, .iload_n 1, 1, 0, 0), (49, .baload, 1, 0, 0), (50, .ifCond .eq 75, 3, 125, 0), (53, .iconst 1, 1, 0, 1), (54, .istore_n 3, 1, 0, 0), (55, .iconst 0, 1, 0, 0), (56, .istore 4, 2, 0, 0), (58, .iload 4, 2, 0, 0), (60, .iload_n 2, 1, 0, 0), (61, .if_icmp .ge 35, 3, 96, 0), (64, .iload_n 3, 1, 0, 0), (65, .ifCond .eq 23, 3, 88, 0), (68, .aload_n 0, 1, 0, 0), (69, .iload_n 1, 1, 0, 0), (70, .iload 4, 2, 0, 0), (72, .invokevirtual 168, 3, 0, 0), (75, .aload_n 0, 1, 0, 0), (76, .iload_n 1, 1, 0, 0), (77, .iload_n 2, 1, 0, 0), (78, .invokevirtual 168, 3, 0, 0), (81, .if_icmp .eq 7, 3, 88, 0), (84, .iconst 1, 1, 0, 1), (85, .goto 4, 3, 89, 0), (88, .iconst 0, 1, 0, 0), (89, .istore_n 3, 1, 0, 0), (90, .iinc 4 1, 3, 0, 1), (93, .goto (-35), 3, 58, 0), (96, .aload_n 0, 1, 0, 0), (97, .getfield 32, 3, 0, 0), (100, .aload_n 0, 1, 0, 0), (101, .iload_n 1, 1, 0, 0), (102, .iload_n 2, 1, 0, 0), (103, .invokevirtual 168, 3, 0, 0), (106, .dup2, 1, 0, 0), (107, .iaload, 1, 0, 0), (108, .iload_n 3, 1, 0, 0), (109, .ifCond .eq 7, 3, 116, 0), (112, .iconst 1, 1, 0, 1), (113, .goto 4, 3, 117, 0), (116, .iconst 0, 1, 0, 0), (117, .iadd, 1, 0, 0), (118, .iastore, 1, 0, 0), (119, .iinc 2 1, 3, 0, 1), (122, .goto (-88), 3, 34, 0), (125, .iinc 1 1, 3, 0, 1), (128, .goto (-104), 3, 24, 0), (131, .return_, 1, 0, 0)]
def gm_237 : gw_M := (12, ⟨"GlassWiresModel", "findCover", "()V"⟩, prog_14_method_30_code, 5, none, 0, 0, 2, gk_237)
def gk_238 : List (Nat × gw_I) := [(0, .aload_n 0, 1, 0, 0), (1, .iload_n 1, 1, 0, 0), (2, .iload_n 2, 1, 0, 0), (3, .iload_n 3, 1, 0, 0), (4, .invokevirtual 193, 3, 0, 0), (7, .ifCond .eq 17, 3, 24, 0), (10, .aload_n 0, 1, 0, 0), (11, .getfield 32, 3, 0, 0), (14, .iload_n 1, 1, 0, 0), (15, .iload_n 2, 1, 0, 0), (16, .iload_n 3, 1, 0, 0), (17, .invokestatic 196, 3, 0, 0), (20, .iaload, 1, 0, 0), (21, .goto 4, 3, 25, 0), (24, .iconst 0, 1, 0, 0), (25, .ireturn, 1, 0, 0)]
def gm_238 : gw_M := (12, ⟨"GlassWiresModel", "coverAt", "(III)I"⟩, prog_14_method_31_code, 4, (some .int), 3, 0, 3, gk_238)
def gk_239 : List (Nat × gw_I) := [(0, .aload_n 0, 1, 0, 0), (1, .iload_n 1, 1, 0, 0), (2, .iload_n 2, 1, 0, 0), (3, .iconst 0, 1, 0, 0), (4, .invokevirtual 203, 3, 0, 0), (7, .ifCond .le 7, 3, 14, 0), (10, .iconst 1, 1, 0, 1), (11, .goto 4, 3, 15, 0), (14, .iconst 0, 1, 0, 0), (15, .istore_n 3, 1, 0, 0), (16, .iload_n 3, 1, 0, 0), (17, .aload_n 0, 1, 0, 0), (18, .iload_n 1, 1, 0, 0), (19, .iconst 1, 1, 0, 1), (20, .isub, 1, 0, 0), (21, .iload_n 2, 1, 0, 0), (22, .iconst 0, 1, 0, 0), (23, .invokevirtual 203, 3, 0, 0), (26, .ifCond .le 7, 3, 33, 0), (29, .iconst 1, 1, 0, 1), (30, .goto 4, 3, 34, 0), (33, .iconst 0, 1, 0, 0), (34, .iadd, 1, 0, 0), (35, .istore_n 3, 1, 0, 0), (36, .iload_n 3, 1, 0, 0), (37, .aload_n 0, 1, 0, 0), (38, .iload_n 1, 1, 0, 0), (39, .iload_n 2, 1, 0, 0), (40, .iconst 1, 1, 0, 1), (41, .invokevirtual 203, 3, 0, 0), (44, .ifCond .le 7, 3, 51, 0), (47, .iconst 1, 1, 0, 1), (48, .goto 4, 3, 52, 0), (51, .iconst 0, 1, 0, 0), (52, .iadd, 1, 0, 0), (53, .istore_n 3, 1, 0, 0), (54, .iload_n 3, 1, 0, 0), (55, .aload_n 0, 1, 0, 0), (56, .iload_n 1, 1, 0, 0), (57, .iload_n 2, 1, 0, 0), (58, .iconst 1, 1, 0, 1), (59, .isub, 1, 0, 0), (60, .iconst 1, 1, 0, 1), (61, .invokevirtual 203, 3, 0, 0), (64, .ifCond .le 7, 3, 71, 0), (67, .iconst 1, 1, 0, 1), (68, .goto 4, 3, 72, 0), (71, .iconst 0, 1, 0, 0), (72, .iadd, 1, 0, 0), (73, .istore_n 3, 1, 0, 0), (74, .iload_n 3, 1, 0, 0), (75, .ireturn, 1, 0, 0)]
def gm_239 : gw_M := (12, ⟨"GlassWiresModel", "meet", "(II)I"⟩, prog_14_method_32_code, 4, (some .int), 2, 0, 4, gk_239)
def gk_240 : List (Nat × gw_I) := [(0, .iload_n 1, 1, 0, 0), (1, .ifCond .le 37, 3, 38, 0), (4, .iload_n 1, 1, 0, 0), (5, .aload_n 0, 1, 0, 0), (6, .getfield 115, 3, 0, 0), (9, .if_icmp .ge 29, 3, 38, 0), (12, .iload_n 2, 1, 0, 0), (13, .ifCond .le 25, 3, 38, 0), (16, .iload_n 2, 1, 0, 0), (17, .aload_n 0, 1, 0, 0), (18, .getfield 118, 3, 0, 0), (21, .if_icmp .ge 17, 3, 38, 0), (24, .aload_n 0, 1, 0, 0), (25, .iload_n 1, 1, 0, 0), (26, .iload_n 2, 1, 0, 0), (27, .invokevirtual 206, 3, 0, 0), (30, .iconst 1, 1, 0, 1), (31, .if_icmp .ne 7, 3, 38, 0), (34, .iconst 1, 1, 0, 1), (35, .goto 4, 3, 39, 0), (38, .iconst 0, 1, 0, 0), (39, .ireturn, 1, 0, 0)]
def gm_240 : gw_M := (12, ⟨"GlassWiresModel", "isFree", "(II)Z"⟩, prog_14_method_33_code, 3, (some .boolean), 2, 0, 5, gk_240)
def gk_241 : List (Nat × gw_I) := [(0, .iconst 0, 1, 0, 0), (1, .istore_n 3, 1, 0, 0), (2, .iconst 0, 1, 0, 0), (3, .istore 4, 2, 0, 0), (5, .iload 4, 2, 0, 0), (7, .aload_n 0, 1, 0, 0), (8, .getfield 121, 3, 0, 0), (11, .if_icmp .ge 38, 3, 49, 0), (14, .iload_n 3, 1, 0, 0), (15, .aload_n 0, 1, 0, 0), (16, .getfield 22, 3, 0, 0), (19, .iload 4, 2, 0, 0), (21, .baload, 1, 0, 0), (22, .ifCond .eq 18, 3, 40, 0), (25, .aload_n 0, 1, 0, 0), (26, .iload 4, 2, 0, 0), (28, .iload_n 1, 1, 0, 0), (29, .iload_n 2, 1, 0, 0), (30, .invokevirtual 177, 3, 0, 0), (33, .ifCond .eq 7, 3, 40, 0), (36, .iconst 1, 1, 0, 1), (37, .goto 4, 3, 41, 0), (40, .iconst 0, 1, 0, 0), (41, .iadd, 1, 0, 0), (42, .istore_n 3, 1, 0, 0), (43, .iinc 4 1, 3, 0, 1), (46, .goto (-41), 3, 5, 0), (49, .iload_n 3, 1, 0, 0), (50, .iconst 1, 1, 0, 1), (51, .if_icmp .le 7, 3, 58, 0), (54, .iconst 1, 1, 0, 1), (55, .goto 4, 3, 59, 0), (58, .iconst 0, 1, 0, 0), (59, .ireturn, 1, 0, 0)]
def gm_241 : gw_M := (12, ⟨"GlassWiresModel", "isJoint", "(II)Z"⟩, prog_14_method_34_code, 5, (some .boolean), 2, 0, 2, gk_241)
def gk_242 : List (Nat × gw_I) := [(0, .iconst 0, 1, 0, 0), (1, .istore_n 1, 1, 0, 0), (2, .iload_n 1, 1, 0, 0), (3, .bipush 81, 2, 0, 81), (5, .if_icmp .ge 16, 3, 21, 0), (8, .aload_n 0, 1, 0, 0), (9, .getfield 35, 3, 0, 0), (12, .iload_n 1, 1, 0, 0), (13, .iload_n 1, 1, 0, 0), (14, .iastore, 1, 0, 0), (15, .iinc 1 1, 3, 0, 1), (18, .goto (-16), 3, 2, 0), (21, .iconst 1, 1, 0, 1), (22, .istore_n 1, 1, 0, 0), (23, .iload_n 1, 1, 0, 0), (24, .ifCond .eq 124, 3, 148, 0), (27, .iconst 0, 1, 0, 0), (28, .istore_n 1, 1, 0, 0), (29, .iconst 0, 1, 0, 0), (30, .istore_n 2, 1, 0, 0), (31, .iload_n 2, 1, 0, 0), (32, .sipush 162, 3, 0, 162), (35, .if_icmp .ge 110, 3, 145, 0), (38, .iload_n 2, 1, 0, 0), (39, .bipush 81, 2, 0, 81), (41, .irem, 1, 0, 0), (42, .istore_n 3, 1, 0, 0), (43, .iload_n 2, 1, 0, 0), (44, .bipush 81, 2, 0, 81), (46, .if_icmp .ge 9, 3, 55, 0), (49, .iload_n 3, 1, 0, 0), (50, .iconst 1, 1, 0, 1), (51, .iadd, 1, 0, 0), (52, .goto 7, 3, 59, 0), (55, .iload_n 3, 1, 0, 0), (56, .bipush 9, 2, 0, 9), (58, .iadd, 1, 0, 0), (59, .istore 4, 2, 0, 0), (61, .aload_n 0, 1, 0, 0), (62, .getfield 32, 3, 0, 0), (65, .iload_n 2, 1, 0, 0), (66, .iaload, 1, 0, 0), (67, .ifCond .le 72, 3, 139, 0), (70, .aload_n 0, 1, 0, 0), (71, .getfield 35, 3, 0, 0), (74, .iload_n 3, 1, 0, 0), (75, .iaload, 1, 0, 0), (76, .aload_n 0, 1, 0, 0), (77, .getfield 35, 3, 0, 0), (80, .iload 4, 2, 0, 0), (82, .iaload, 1, 0, 0), (83, .if_icmp .eq 56, 3, 139, 0), (86, .aload_n 0, 1, 0, 0), (87, .getfield 35, 3, 0, 0), (90, .iload_n 3, 1, 0, 0), (91, .iaload, 1, 0, 0), (92, .aload_n 0, 1, 0, 0), (93, .getfield 35, 3, 0, 0), (96, .iload 4, 2, 0, 0), (98, .iaload, 1, 0, 0), (99, .if_icmp .ge 12, 3, 111, 0), (102, .aload_n 0, 1, 0, 0), (103, .getfield 35, 3, 0, 0), (106, .iload_n 3, 1, 0, 0), (107, .iaload, 1, 0, 0), (108, .goto 10, 3, 118, 0), (111, .aload_n 0, 1, 0, 0), (112, .getfield 35, 3, 0, 0), (115, .iload 4, 2, 0, 0), (117, .iaload, 1, 0, 0), (118, .istore 5, 2, 0, 0), (120, .aload_n 0, 1, 0, 0), (121, .getfield 35, 3, 0, 0), (124, .iload_n 3, 1, 0, 0), (125, .iload 5, 2, 0, 0), (127, .iastore, 1, 0, 0), (128, .aload_n 0, 1, 0, 0), (129, .getfield 35, 3, 0, 0), (132, .iload 4, 2, 0, 0), (134, .iload 5, 2, 0, 0), (136, .iastore, 1, 0, 0), (137, .iconst 1, 1, 0, 1), (138, .istore_n 1, 1, 0, 0), (139, .iinc 2 1, 3, 0, 1), (142, .goto (-111), 3, 31, 0), (145, .goto (-122), 3, 23, 0), (148, .iconst 0, 1, 0, 0), (149, .istore_n 2, 1, 0, 0), (150, .iconst 0, 1, 0, 0), (151, .istore_n 3, 1, 0, 0), (152, .iload_n 3, 1, 0, 0), (153, .bipush 81, 2, 0, 81), (155, .if_icmp .ge 132, 3, 287, 0), (158, .iconst 0, 1, 0, 0), (159, .istore 4, 2, 0, 0), (161, .iconst 0, 1, 0, 0), (162, .istore 5, 2, 0, 0), (164, .iconst 0, 1, 0, 0), (165, .istore 6, 2, 0, 0), (167, .iload 6, 2, 0, 0), (169, .bipush 81, 2, 0, 81), (171, .if_icmp .ge 85, 3, 256, 0), (174, .aload_n 0, 1, 0, 0), (175, .getfield 35, 3, 0, 0), (178, .iload 6, 2, 0, 0), (180, .iaload, 1, 0, 0), (181, .iload_n 3, 1, 0, 0), (182, .if_icmp .ne 68, 3, 250, 0), (185, .aload_n 0, 1, 0, 0), (186, .iload 6, 2, 0, 0), (188, .bipush 9, 2, 0, 9), (190, .irem, 1, 0, 0), (191, .iload 6, 2, 0, 0), (193, .bipush 9, 2, 0, 9), (195, .idiv, 1, 0, 0), (196, .invokevirtual 156, 3, 0, 0), (199, .ifCond .eq 51, 3, 250, 0), (202, .iload 4, 2, 0, 0), (204, .aload_n 0, 1, 0, 0), (205, .iload 6, 2, 0, 0), (207, .bipush 9, 2, 0, 9), (209, .irem, 1, 0, 0), (210, .iload 6, 2, 0, 0), (212, .bipush 9, 2, 0, 9), (214, .idiv, 1, 0, 0), (215, .invokevirtual 206, 3, 0, 0), (218, .iconst 2, 1, 0, 2), (219, .irem, 1, 0, 0), (220, .iadd, 1, 0, 0), (221, .istore 4, 2, 0, 0), (223, .iload 5, 2, 0, 0), (225, .aload_n 0, 1, 0, 0), (226, .iload 6, 2, 0, 0), (228, .bipush 9, 2, 0, 9), (230, .irem, 1, 0, 0), (231, .iload 6, 2, 0, 0), (233, .bipush 9, 2, 0, 9), (235, .idiv, 1, 0, 0), (236, .invokevirtual 206, 3, 0, 0), (239, .ifCond .le 7, 3, 246, 0), (242, .iconst 1, 1, 0, 1), (243, .goto 4, 3, 247, 0), (246, .iconst 0, 1, 0, 0), (247, .iadd, 1, 0, 0), (248, .istore 5, 2, 0, 0), (250, .iinc 6 1, 3, 0, 1), (253, .goto (-86), 3, 167, 0), (256, .iload_n 2, 1, 0, 0), (257, .iload 5, 2, 0, 0), (259, .ifCond .ne 7, 3, 266, 0), (262, .iconst 0, 1, 0, 0), (263, .goto 16, 3, 279, 0), (266, .iload 4, 2, 0, 0), (268, .ifCond .ne 7, 3, 275, 0), (271, .iconst 1, 1, 0, 1), (272, .goto 7, 3, 279, 0), (275, .iload 4, 2, 0, 0), (277, .iconst 2, 1, 0, 2), (278, .idiv, 1, 0, 0), (279, .iadd, 1, 0, 0), (280, .istore_n 2, 1, 0, 0), (281, .iinc 3 1, 3, 0, 1), (284, .goto (-132), 3, 152, 0), (287, .iload_n 2, 1, 0, 0), (288, .ireturn, 1, 0, 0)]
def gm_242 : gw_M := (12, ⟨"GlassWiresModel", "pieces", "()I"⟩, prog_14_method_35_code, 7, (some .int), 0, 0, 5, gk_242)
def gk_243 : List (Nat × gw_I) := [(0, .aload_n 0, 1, 0, 0), (1, .getfield 115, 3, 0, 0), (4, .aload_n 0, 1, 0, 0), (5, .getfield 118, 3, 0, 0), (8, .imul, 1, 0, 0), (9, .ireturn, 1, 0, 0)]
def gm_243 : gw_M := (12, ⟨"GlassWiresModel", "fields", "()I"⟩, prog_14_method_36_code, 1, (some .int), 0, 0, 1, gk_243)
def gk_244 : List (Nat × gw_I) := [(0, .iload_n 1, 1, 0, 0), (1, .i2l, 1, 0, 0), (2, .lconst 0, 1, 0, 0), (3, .aload_n 0, 1, 0, 0), (4, .getfield 115, 3, 0, 0), (7, .iconst 1, 1, 0, 1), (8, .isub, 1, 0, 0), (9, .i2l, 1, 0, 0), (10, .invokestatic 140, 3, 0, 0), (13, .ifCond .eq 23, 3, 36, 0), (16, .iload_n 2, 1, 0, 0), (17, .i2l, 1, 0, 0), (18, .lconst 0, 1, 0, 0), (19, .aload_n 0, 1, 0, 0), (20, .getfield 118, 3, 0, 0), (23, .iconst 1, 1, 0, 1), (24, .isub, 1, 0, 0), (25, .i2l, 1, 0, 0), (26, .invokestatic 140, 3, 0, 0), (29, .ifCond .eq 7, 3, 36, 0), (32, .iconst 1, 1, 0, 1), (33, .goto 4, 3, 37, 0), (36, .iconst 0, 1, 0, 0), (37, .ireturn, 1, 0, 0)]
def gm_244 : gw_M := (12, ⟨"GlassWiresModel", "isField", "(II)Z"⟩, prog_14_method_37_code, 3, (some .boolean), 2, 0, 2, gk_244)
def gk_245 : List (Nat × gw_I) := [(0, .iload_n 2, 1, 0, 0), (1, .ifCond .ne 26, 3, 27, 0), (4, .iload_n 1, 1, 0, 0), (5, .aload_n 0, 1, 0, 0), (6, .getfield 115, 3, 0, 0), (9, .irem, 1, 0, 0), (10, .iconst 1, 1, 0, 1), (11, .iadd, 1, 0, 0), (12, .aload_n 0, 1, 0, 0), (13, .getfield 115, 3, 0, 0), (16, .if_icmp .ge 9, 3, 25, 0), (19, .iload_n 1, 1, 0, 0), (20, .iconst 1, 1, 0, 1), (21, .iadd, 1, 0, 0), (22, .goto 4, 3, 26, 0), (25, .iconst (-1), 1, 0, (-1)), (26, .ireturn, 1, 0, 0), (27, .iload_n 1, 1, 0, 0), (28, .aload_n 0, 1, 0, 0), (29, .getfield 115, 3, 0, 0), (32, .idiv, 1, 0, 0), (33, .iconst 1, 1, 0, 1), (34, .iadd, 1, 0, 0), (35, .aload_n 0, 1, 0, 0), (36, .getfield 118, 3, 0, 0), (39, .if_icmp .ge 12, 3, 51, 0), (42, .iload_n 1, 1, 0, 0), (43, .aload_n 0, 1, 0, 0), (44, .getfield 115, 3, 0, 0), (47, .iadd, 1, 0, 0), (48, .goto 4, 3, 52, 0), (51, .iconst (-1), 1, 0, (-1)), (52, .ireturn, 1, 0, 0)]
def gm_245 : gw_M := (12, ⟨"GlassWiresModel", "beside", "(II)I"⟩, prog_14_method_38_code, 3, (some .int), 2, 0, 1, gk_245)
def gk_246 : List (Nat × gw_I) := [(0, .iload_n 2, 1, 0, 0), (1, .ifCond .ne 24, 3, 25, 0), (4, .iload_n 1, 1, 0, 0), (5, .aload_n 0, 1, 0, 0), (6, .getfield 115, 3, 0, 0), (9, .irem, 1, 0, 0), (10, .iconst 1, 1, 0, 1), (11, .iadd, 1, 0, 0), (12, .iload_n 1, 1, 0, 0), (13, .aload_n 0, 1, 0, 0), (14, .getfield 115, 3, 0, 0), (17, .idiv, 1, 0, 0), (18, .iconst 1, 1, 0, 1), (19, .invokestatic 196, 3, 0, 0), (22, .goto 21, 3, 43, 0), (25, .iload_n 1, 1, 0, 0), (26, .aload_n 0, 1, 0, 0), (27, .getfield 115, 3, 0, 0), (30, .irem, 1, 0, 0), (31, .iload_n 1, 1, 0, 0), (32, .aload_n 0, 1, 0, 0), (33, .getfield 115, 3, 0, 0), (36, .idiv, 1, 0, 0), (37, .iconst 1, 1, 0, 1), (38, .iadd, 1, 0, 0), (39, .iconst 0, 1, 0, 0), (40, .invokestatic 196, 3, 0, 0), (43, .ireturn, 1, 0, 0)]
def gm_246 : gw_M := (12, ⟨"GlassWiresModel", "between", "(II)I"⟩, prog_14_method_39_code, 3, (some .int), 2, 0, 2, gk_246)
def gk_247 : List (Nat × gw_I) := [(0, .aload_n 0, 1, 0, 0), (1, .invokevirtual 209, 3, 0, 0), (4, .iconst 0, 1, 0, 0), (5, .istore_n 1, 1, 0, 0), (6, .iload_n 1, 1, 0, 0), (7, .aload_n 0, 1, 0, 0), (8, .invokevirtual 212, 3, 0, 0), (11, .if_icmp .ge 16, 3, 27, 0), (14, .aload_n 0, 1, 0, 0), (15, .getfield 38, 3, 0, 0), (18, .iload_n 1, 1, 0, 0), (19, .iload_n 1, 1, 0, 0), (20, .iastore, 1, 0, 0), (21, .iinc 1 1, 3, 0, 1), (24, .goto (-18), 3, 6, 0), (27, .iconst 1, 1, 0, 1), (28, .istore_n 1, 1, 0, 0), (29, .iload_n 1, 1, 0, 0), (30, .ifCond .eq 134, 3, 164, 0), (33, .iconst 0, 1, 0, 0), (34, .istore_n 1, 1, 0, 0), (35, .iconst 0, 1, 0, 0), (36, .istore_n 2, 1, 0, 0), (37, .iload_n 2, 1, 0, 0), (38, .aload_n 0, 1, 0, 0), (39, .invokevirtual 212, 3, 0, 0), (42, .if_icmp .ge 119, 3, 161, 0), (45, .iconst 0, 1, 0, 0), (46, .istore_n 3, 1, 0, 0), (47, .iload_n 3, 1, 0, 0), (48, .iconst 2, 1, 0, 2), (49, .if_icmp .ge 106, 3, 155, 0), (52, .aload_n 0, 1, 0, 0), (53, .iload_n 2, 1, 0, 0), (54, .iload_n 3, 1, 0, 0), (55, .invokevirtual 216, 3, 0, 0), (58, .istore 4, 2, 0, 0), (60, .iload 4, 2, 0, 0), (62, .iconst (-1), 1, 0, (-1)), (63, .if_icmp .eq 86, 3, 149, 0), (66, .aload_n 0, 1, 0, 0), (67, .getfield 32, 3, 0, 0), (70, .aload_n 0, 1, 0, 0), (71, .iload_n 2, 1, 0, 0), (72, .iload_n 3, 1, 0, 0), (73, .invokevirtual 219, 3, 0, 0), (76, .iaload, 1, 0, 0), (77, .ifCond .ne 72, 3, 149, 0), (80, .aload_n 0, 1, 0, 0), (81, .getfield 38, 3, 0, 0), (84, .iload_n 2, 1, 0, 0), (85, .iaload, 1, 0, 0), (86, .aload_n 0, 1, 0, 0), (87, .getfield 38, 3, 0, 0), (90, .iload 4, 2, 0, 0), (92, .iaload, 1, 0, 0), (93, .if_icmp .eq 56, 3, 149, 0), (96, .aload_n 0, 1, 0, 0), (97, .getfield 38, 3, 0, 0), (100, .iload_n 2, 1, 0, 0), (101, .iaload, 1, 0, 0), (102, .aload_n 0, 1, 0, 0), (103, .getfield 38, 3, 0, 0), (106, .iload 4, 2, 0, 0), (108, .iaload, 1, 0, 0), (109, .if_icmp .ge 12, 3, 121, 0), (112, .aload_n 0, 1, 0, 0), (113, .getfield 38, 3, 0, 0), (116, .iload_n 2, 1, 0, 0), (117, .iaload, 1, 0, 0), (118, .goto 10, 3, 128, 0), (121, .aload_n 0, 1, 0, 0), (122, .getfield 38, 3, 0, 0), (125, .iload 4, 2, 0, 0), (127, .iaload, 1, 0, 0), (128, .istore 5, 2, 0, 0), (130, .aload_n 0, 1, 0, 0), (131, .getfield 38, 3, 0, 0), (134, .iload_n 2, 1, 0, 0), (135, .iload 5, 2, 0, 0), (137, .iastore, 1, 0, 0), (138, .aload_n 0, 1, 0, 0), (139, .getfield 38, 3, 0, 0), (142, .iload 4, 2, 0, 0), (144, .iload 5, 2, 0, 0), (146, .iastore, 1, 0, 0), (147, .iconst 1, 1, 0, 1), (148, .istore_n 1, 1, 0, 0), (149, .iinc 3 1, 3, 0, 1), (152, .goto (-105), 3, 47, 0), (155, .iinc 2 1, 3, 0, 1), (158, .goto (-121), 3, 37, 0), (161, .goto (-132), 3, 29, 0), (164, .return_, 1, 0, 0)]
def gm_247 : gw_M := (12, ⟨"GlassWiresModel", "findCells", "()V"⟩, prog_14_method_40_code, 6, none, 0, 0, 3, gk_247)
def gk_248 : List (Nat × gw_I) := [(0, .aload_n 0, 1, 0, 0), (1, .invokevirtual 222, 3, 0, 0), (4, .iload_n 1, 1, 0, 0), (5, .i2l, 1, 0, 0), (6, .lconst 0, 1, 0, 0), (7, .aload_n 0, 1, 0, 0), (8, .invokevirtual 212, 3, 0, 0), (11, .iconst 1, 1, 0, 1), (12, .isub, 1, 0, 0), (13, .i2l, 1, 0, 0), (14, .invokestatic 140, 3, 0, 0), (17, .ifCond .eq 17, 3, 34, 0), (20, .aload_n 0, 1, 0, 0), (21, .getfield 38, 3, 0, 0), (24, .iload_n 1, 1, 0, 0), (25, .iaload, 1, 0, 0), (26, .iload_n 1, 1, 0, 0), (27, .if_icmp .ne 7, 3, 34, 0), (30, .iconst 1, 1, 0, 1), (31, .goto 4, 3, 35, 0), (34, .iconst 0, 1, 0, 0), (35, .ireturn, 1, 0, 0)]
def gm_248 : gw_M := (12, ⟨"GlassWiresModel", "isCell", "(I)Z"⟩, prog_14_method_41_code, 2, (some .boolean), 1, 0, 4, gk_248)
def gk_249 : List (Nat × gw_I) := [(0, .iconst 0, 1, 0, 0), (1, .istore_n 2, 1, 0, 0), (2, .iconst 0, 1, 0, 0), (3, .istore_n 3, 1, 0, 0), (4, .iload_n 3, 1, 0, 0), (5, .aload_n 0, 1, 0, 0), (6, .invokevirtual 212, 3, 0, 0), (9, .if_icmp .ge 27, 3, 36, 0), (12, .iload_n 2, 1, 0, 0), (13, .aload_n 0, 1, 0, 0), (14, .getfield 38, 3, 0, 0), (17, .iload_n 3, 1, 0, 0), (18, .iaload, 1, 0, 0), (19, .iload_n 1, 1, 0, 0), (20, .if_icmp .ne 7, 3, 27, 0), (23, .iconst 1, 1, 0, 1), (24, .goto 4, 3, 28, 0), (27, .iconst 0, 1, 0, 0), (28, .iadd, 1, 0, 0), (29, .istore_n 2, 1, 0, 0), (30, .iinc 3 1, 3, 0, 1), (33, .goto (-29), 3, 4, 0), (36, .iload_n 2, 1, 0, 0), (37, .ireturn, 1, 0, 0)]
def gm_249 : gw_M := (12, ⟨"GlassWiresModel", "sizeOf", "(I)I"⟩, prog_14_method_42_code, 4, (some .int), 1, 0, 2, gk_249)
def gk_250 : List (Nat × gw_I) := [(0, .aload_n 0, 1, 0, 0), (1, .invokevirtual 222, 3, 0, 0), (4, .aload_n 0, 1, 0, 0), (5, .invokevirtual 190, 3, 0, 0), (8, .iconst 0, 1, 0, 0), (9, .istore_n 2, 1, 0, 0), (10, .iload_n 1, 1, 0, 0), (11, .tableswitch 299 0 7 #[45, 45, 133, 177, 133, 221, 226, 262], 45, 0, 0), (56, .iconst 0, 1, 0, 0), (57, .istore_n 3, 1, 0, 0), (58, .iload_n 3, 1, 0, 0), (59, .bipush 81, 2, 0, 81), (61, .if_icmp .ge 81, 3, 142, 0), (64, .aload_n 0, 1, 0, 0), (65, .iload_n 3, 1, 0, 0), (66, .bipush 9, 2, 0, 9), (68, .irem, 1, 0, 0), (69, .iload_n 3, 1, 0, 0), (70, .bipush 9, 2, 0, 9), (72, .idiv, 1, 0, 0), (73, .invokevirtual 156, 3, 0, 0), (76, .ifCond .eq 44, 3, 120, 0), (79, .iload_n 1, 1, 0, 0), (80, .ifCond .ne 21, 3, 101, 0), (83, .aload_n 0, 1, 0, 0), (84, .iload_n 3, 1, 0, 0), (85, .bipush 9, 2, 0, 9), (87, .irem, 1, 0, 0), (88, .iload_n 3, 1, 0, 0), (89, .bipush 9, 2, 0, 9), (91, .idiv, 1, 0, 0), (92, .invokevirtual 225, 3, 0, 0), (95, .ifCond .eq 25, 3, 120, 0), (98, .goto 18, 3, 116, 0), (101, .aload_n 0, 1, 0, 0), (102, .iload_n 3, 1, 0, 0), (103, .bipush 9, 2, 0, 9), (105, .irem, 1, 0, 0), (106, .iload_n 3, 1, 0, 0), (107, .bipush 9, 2, 0, 9), (109, .idiv, 1, 0, 0), (110, .invokevirtual 228, 3, 0, 0), (113, .ifCond .eq 7, 3, 120, 0), (116, .iconst 1, 1, 0, 1), (117, .goto 4, 3, 121, 0), (120, .iconst 0, 1, 0, 0), (121, .istore 4, 2, 0, 0), (123, .iload_n 2, 1, 0, 0), (124, .iload 4, 2, 0, 0), (126, .ifCond .eq 7, 3, 133, 0), (129, .iconst 1, 1, 0, 1), (130, .goto 4, 3, 134, 0), (133, .iconst 0, 1, 0, 0), (134, .iadd, 1, 0, 0), (135, .istore_n 2, 1, 0, 0), (136, .iinc 3 1, 3, 0, 1), (139, .goto (-81), 3, 58, 0), (142, .iload_n 2, 1, 0, 0), (143, .ireturn, 1, 0, 0), (144, .iconst 0, 1, 0, 0), (145, .istore_n 3, 1, 0, 0), (146, .iload_n 3, 1, 0, 0), (147, .sipush 162, 3, 0, 162), (150, .if_icmp .ge 36, 3, 186, 0), (153, .iload_n 2, 1, 0, 0), (154, .aload_n 0, 1, 0, 0), (155, .getfield 32, 3, 0, 0), (158, .iload_n 3, 1, 0, 0), (159, .iaload, 1, 0, 0), (160, .iload_n 1, 1, 0, 0), (161, .iconst 2, 1, 0, 2), (162, .if_icmp .ne 7, 3, 169, 0), (165, .iconst 1, 1, 0, 1), (166, .goto 4, 3, 170, 0), (169, .iconst 0, 1, 0, 0), (170, .if_icmp .le 7, 3, 177, 0), (173, .iconst 1, 1, 0, 1), (174, .goto 4, 3, 178, 0), (177, .iconst 0, 1, 0, 0), (178, .iadd, 1, 0, 0), (179, .istore_n 2, 1, 0, 0), (180, .iinc 3 1, 3, 0, 1), (183, .goto (-37), 3, 146, 0), (186, .iload_n 2, 1, 0, 0), (187, .ireturn, 1, 0, 0), (188, .iconst 0, 1, 0, 0), (189, .istore_n 3, 1, 0, 0), (190, .iload_n 3, 1, 0, 0), (191, .aload_n 0, 1, 0, 0), (192, .getfield 121, 3, 0, 0), (195, .if_icmp .ge 35, 3, 230, 0), (198, .iload_n 2, 1, 0, 0), (199, .aload_n 0, 1, 0, 0), (200, .getfield 22, 3, 0, 0), (203, .iload_n 3, 1, 0, 0), (204, .baload, 1, 0, 0), (205, .ifCond .eq 16, 3, 221, 0), (208, .aload_n 0, 1, 0, 0), (209, .getfield 29, 3, 0, 0), (212, .iload_n 3, 1, 0, 0), (213, .baload, 1, 0, 0), (214, .ifCond .ne 7, 3, 221, 0), (217, .iconst 1, 1, 0, 1), (218, .goto 4, 3, 222, 0), (221, .iconst 0, 1, 0, 0), (222, .iadd, 1, 0, 0), (223, .istore_n 2, 1, 0, 0), (224, .iinc 3 1, 3, 0, 1), (227, .goto (-37), 3, 190, 0), (230, .iload_n 2, 1, 0, 0), (231, .ireturn, 1, 0, 0), (232, .aload_n 0, 1, 0, 0), (233, .invokevirtual 231, 3, 0, 0), (236, .ireturn, 1, 0, 0), (237, .iconst 0, 1, 0, 0), (238, .istore_n 3, 1, 0, 0), (239, .iload_n 3, 1, 0, 0), (240, .aload_n 0, 1, 0, 0), (241, .invokevirtual 212, 3, 0, 0), (244, .if_icmp .ge 27, 3, 271, 0), (247, .iload_n 2, 1, 0, 0), (248, .aload_n 0, 1, 0, 0), (249, .getfield 38, 3, 0, 0), (252, .iload_n 3, 1, 0, 0), (253, .iaload, 1, 0, 0), (254, .iload_n 3, 1, 0, 0), (255, .if_icmp .ne 7, 3, 262, 0), (258, .iconst 1, 1, 0, 1), (259, .goto 4, 3, 263, 0), (262, .iconst 0, 1, 0, 0), (263, .iadd, 1, 0, 0), (264, .istore_n 2, 1, 0, 0), (265, .iinc 3 1, 3, 0, 1), (268, .goto (-29), 3, 239, 0), (271, .iload_n 2, 1, 0, 0), (272, .ireturn, 1, 0, 0), (273, .iconst 0, 1, 0, 0), (274, .istore_n 3, 1, 0, 0), (275, .iload_n 3, 1, 0, 0), (276, .aload_n 0, 1, 0, 0), (277, .invokevirtual 212, 3, 0, 0), (280, .if_icmp .ge 28, 3, 308, 0), (283, .aload_n 0, 1, 0, 0), (284, .iload_n 3, 1, 0, 0), (285, .invokevirtual 234, 3, 0, 0), (288, .iload_n 2, 1, 0, 0), (289, .if_icmp .le 11, 3, 300, 0), (292, .aload_n 0, 1, 0, 0), (293, .iload_n 3, 1, 0, 0), (294, .invokevirtual 234, 3, 0, 0), (297, .goto 4, 3, 301, 0), (300, .iload_n 2, 1, 0, 0), (301, .istore_n 2, 1, 0, 0), (302, .iinc 3 1, 3, 0, 1), (305, .goto (-30), 3, 275, 0), (308, .iload_n 2, 1, 0, 0), (309, .ireturn, 1, 0, 0), (310, .bipush (-102), 2, 0, (-102)), (312, .ireturn, 1, 0, 0)]
def gm_250 : gw_M := (12, ⟨"GlassWiresModel", "many", "(I)I"⟩, prog_14_method_43_code, 5, (some .int), 1, 0, 6, gk_250)
def gk_251 : List (Nat × gw_I) := [(0, .iload_n 1, 1, 0, 0), (1, .i2l, 1, 0, 0), (2, .lconst 0, 1, 0, 0), (3, .lconst 1, 1, 0, 0), (4, .invokestatic 140, 3, 0, 0), (7, .ifCond .ne 6, 3, 13, 0), (10, .bipush (-102), 2, 0, (-102)), (12, .ireturn, 1, 0, 0), (13, .aload_n 0, 1, 0, 0), (14, .invokevirtual 209, 3, 0, 0), (17, .iconst 0, 1, 0, 0), (18, .istore_n 3, 1, 0, 0), (19, .iconst 0, 1, 0, 0), (20, .istore 4, 2, 0, 0), (22, .iload 4, 2, 0, 0), (24, .bipush 81, 2, 0, 81), (26, .if_icmp .ge 90, 3, 116, 0), (29, .aload_n 0, 1, 0, 0), (30, .iload 4, 2, 0, 0), (32, .bipush 9, 2, 0, 9), (34, .irem, 1, 0, 0), (35, .iload 4, 2, 0, 0), (37, .bipush 9, 2, 0, 9), (39, .idiv, 1, 0, 0), (40, .invokevirtual 156, 3, 0, 0), (43, .ifCond .eq 67, 3, 110, 0), (46, .iload_n 1, 1, 0, 0), (47, .ifCond .ne 23, 3, 70, 0), (50, .aload_n 0, 1, 0, 0), (51, .iload 4, 2, 0, 0), (53, .bipush 9, 2, 0, 9), (55, .irem, 1, 0, 0), (56, .iload 4, 2, 0, 0), (58, .bipush 9, 2, 0, 9), (60, .idiv, 1, 0, 0), (61, .invokevirtual 225, 3, 0, 0), (64, .ifCond .eq 46, 3, 110, 0), (67, .goto 20, 3, 87, 0), (70, .aload_n 0, 1, 0, 0), (71, .iload 4, 2, 0, 0), (73, .bipush 9, 2, 0, 9), (75, .irem, 1, 0, 0), (76, .iload 4, 2, 0, 0), (78, .bipush 9, 2, 0, 9), (80, .idiv, 1, 0, 0), (81, .invokevirtual 228, 3, 0, 0), (84, .ifCond .eq 26, 3, 110, 0), (87, .iload_n 3, 1, 0, 0), (88, .iload_n 2, 1, 0, 0), (89, .if_icmp .ne 18, 3, 107, 0), (92, .bipush 10, 2, 0, 10), (94, .iload 4, 2, 0, 0), (96, .bipush 9, 2, 0, 9), (98, .idiv, 1, 0, 0), (99, .imul, 1, 0, 0), (100, .iload 4, 2, 0, 0), (102, .bipush 9, 2, 0, 9), (104, .irem, 1, 0, 0), (105, .iadd, 1, 0, 0), (106, .ireturn, 1, 0, 0), (107, .iinc 3 1, 3, 0, 1), (110, .iinc 4 1, 3, 0, 1), (113, .goto (-91), 3, 22, 0), (116, .iconst (-1), 1, 0, (-1)), (117, .ireturn, 1, 0, 0)]
def gm_251 : gw_M := (12, ⟨"GlassWiresModel", "end", "(II)I"⟩, prog_14_method_44_code, 5, (some .int), 2, 0, 6, gk_251)
def gk_252 : List (Nat × gw_I) := [(0, .aload_n 0, 1, 0, 0), (1, .iload_n 1, 1, 0, 0), (2, .iload_n 2, 1, 0, 0), (3, .invokevirtual 237, 3, 0, 0), (6, .ifCond .ne 6, 3, 12, 0), (9, .bipush (-101), 2, 0, (-101)), (11, .ireturn, 1, 0, 0), (12, .aload_n 0, 1, 0, 0), (13, .invokevirtual 222, 3, 0, 0), (16, .aload_n 0, 1, 0, 0), (17, .getfield 38, 3, 0, 0), (20, .aload_n 0, 1, 0, 0), (21, .getfield 115, 3, 0, 0), (24, .iload_n 2, 1, 0, 0), (25, .imul, 1, 0, 0), (26, .iload_n 1, 1, 0, 0), (27, .iadd, 1, 0, 0), (28, .iaload, 1, 0, 0), (29, .ireturn, 1, 0, 0)]
def gm_252 : gw_M := (12, ⟨"GlassWiresModel", "cell", "(II)I"⟩, prog_14_method_45_code, 3, (some .int), 2, 0, 4, gk_252)
def gk_253 : List (Nat × gw_I) := [(0, .aload_n 0, 1, 0, 0), (1, .iload_n 1, 1, 0, 0), (2, .invokevirtual 240, 3, 0, 0), (5, .ifCond .eq 11, 3, 16, 0), (8, .aload_n 0, 1, 0, 0), (9, .iload_n 1, 1, 0, 0), (10, .invokevirtual 234, 3, 0, 0), (13, .goto 5, 3, 18, 0), (16, .bipush (-101), 2, 0, (-101)), (18, .ireturn, 1, 0, 0)]
def gm_253 : gw_M := (12, ⟨"GlassWiresModel", "size", "(I)I"⟩, prog_14_method_46_code, 2, (some .int), 1, 0, 5, gk_253)
def gk_254 : List (Nat × gw_I) := [(0, .iconst 0, 1, 0, 0), (1, .istore_n 2, 1, 0, 0), (2, .aload_n 0, 1, 0, 0), (3, .getfield 41, 3, 0, 0), (6, .iload_n 2, 1, 0, 0), (7, .iaload, 1, 0, 0), (8, .iload_n 1, 1, 0, 0), (9, .if_icmp .eq 9, 3, 18, 0), (12, .iinc 2 1, 3, 0, 1), (15, .goto (-13), 3, 2, 0), (18, .iload_n 2, 1, 0, 0), (19, .ireturn, 1, 0, 0)]
def gm_254 : gw_M := (12, ⟨"GlassWiresModel", "placeOf", "(I)I"⟩, prog_14_method_47_code, 3, (some .int), 1, 0, 1, gk_254)
def gk_255 : List (Nat × gw_I) := [(0, .aload_n 0, 1, 0, 0), (1, .invokevirtual 222, 3, 0, 0), (4, .aload_n 0, 1, 0, 0), (5, .iconst 0, 1, 0, 0), (6, .putfield 243, 3, 0, 0), (9, .iconst 0, 1, 0, 0), (10, .istore_n 1, 1, 0, 0), (11, .iload_n 1, 1, 0, 0), (12, .aload_n 0, 1, 0, 0), (13, .invokevirtual 212, 3, 0, 0), (16, .if_icmp .ge 39, 3, 55, 0), (19, .aload_n 0, 1, 0, 0), (20, .getfield 38, 3, 0, 0), (23, .iload_n 1, 1, 0, 0), (24, .iaload, 1, 0, 0), (25, .iload_n 1, 1, 0, 0), (26, .if_icmp .ne 23, 3, 49, 0), (29, .aload_n 0, 1, 0, 0), (30, .getfield 41, 3, 0, 0), (33, .aload_n 0, 1, 0, 0), (34, .getfield 243, 3, 0, 0), (37, .iload_n 1, 1, 0, 0), (38, .iastore, 1, 0, 0), (39, .aload_n 0, 1, 0, 0), (40, .dup, 1, 0, 0), (41, .getfield 243, 3, 0, 0), (44, .iconst 1, 1, 0, 1), (45, .iadd, 1, 0, 0), (46, .putfield 243, 3, 0, 0), (49, .iinc 1 1, 3, 0, 1), (52, .goto (-41), 3, 11, 0), (55, .return_, 1, 0, 0)]
def gm_255 : gw_M := (12, ⟨"GlassWiresModel", "listCells", "()V"⟩, prog_14_method_48_code, 2, none, 0, 0, 4, gk_255)
def gk_256 : List (Nat × gw_I) := [(0, .iconst 0, 1, 0, 0), (1, .istore_n 2, 1, 0, 0), (2, .iconst 0, 1, 0, 0), (3, .istore_n 3, 1, 0, 0), (4, .iload_n 3, 1, 0, 0), (5, .iload_n 1, 1, 0, 0), (6, .if_icmp .ge 48, 3, 54, 0), (9, .iload_n 2, 1, 0, 0), (10, .ifCond .ne 32, 3, 42, 0), (13, .aload_n 0, 1, 0, 0), (14, .getfield 44, 3, 0, 0), (17, .bipush 10, 2, 0, 10), (19, .iload_n 1, 1, 0, 0), (20, .imul, 1, 0, 0), (21, .iload_n 3, 1, 0, 0), (22, .iadd, 1, 0, 0), (23, .baload, 1, 0, 0), (24, .ifCond .eq 22, 3, 46, 0), (27, .aload_n 0, 1, 0, 0), (28, .getfield 47, 3, 0, 0), (31, .iload_n 3, 1, 0, 0), (32, .iaload, 1, 0, 0), (33, .aload_n 0, 1, 0, 0), (34, .getfield 47, 3, 0, 0), (37, .iload_n 1, 1, 0, 0), (38, .iaload, 1, 0, 0), (39, .if_icmp .ne 7, 3, 46, 0), (42, .iconst 1, 1, 0, 1), (43, .goto 4, 3, 47, 0), (46, .iconst 0, 1, 0, 0), (47, .istore_n 2, 1, 0, 0), (48, .iinc 3 1, 3, 0, 1), (51, .goto (-47), 3, 4, 0), (54, .iload_n 2, 1, 0, 0), (55, .ireturn, 1, 0, 0)]
def gm_256 : gw_M := (12, ⟨"GlassWiresModel", "clashes", "(I)Z"⟩, prog_14_method_49_code, 4, (some .boolean), 1, 0, 1, gk_256)
def gk_257 : List (Nat × gw_I) := [(0, .iconst 0, 1, 0, 0), (1, .istore_n 2, 1, 0, 0), (2, .aload_n 0, 1, 0, 0), (3, .getfield 47, 3, 0, 0), (6, .iconst 0, 1, 0, 0), (7, .iconst 0, 1, 0, 0), (8, .iastore, 1, 0, 0), (9, .iload_n 2, 1, 0, 0), (10, .ifCond .lt 93, 3, 103, 0), (13, .iload_n 2, 1, 0, 0), (14, .aload_n 0, 1, 0, 0), (15, .getfield 243, 3, 0, 0), (18, .if_icmp .ge 85, 3, 103, 0), (21, .aload_n 0, 1, 0, 0), (22, .getfield 47, 3, 0, 0), (25, .iload_n 2, 1, 0, 0), (26, .iaload, 1, 0, 0), (27, .iload_n 1, 1, 0, 0), (28, .if_icmp .ge 24, 3, 52, 0), (31, .aload_n 0, 1, 0, 0), (32, .iload_n 2, 1, 0, 0), (33, .invokevirtual 246, 3, 0, 0), (36, .ifCond .eq 16, 3, 52, 0), (39, .aload_n 0, 1, 0, 0), (40, .getfield 47, 3, 0, 0), (43, .iload_n 2, 1, 0, 0), (44, .dup2, 1, 0, 0), (45, .iaload, 1, 0, 0), (46, .iconst 1, 1, 0, 1), (47, .iadd, 1, 0, 0), (48, .iastore, 1, 0, 0), (49, .goto (-28), 3, 21, 0), (52, .aload_n 0, 1, 0, 0), (53, .getfield 47, 3, 0, 0), (56, .iload_n 2, 1, 0, 0), (57, .iaload, 1, 0, 0), (58, .iload_n 1, 1, 0, 0), (59, .if_icmp .ge 24, 3, 83, 0), (62, .iinc 2 1, 3, 0, 1), (65, .iload_n 2, 1, 0, 0), (66, .aload_n 0, 1, 0, 0), (67, .getfield 243, 3, 0, 0), (70, .if_icmp .ge (-61), 3, 9, 0), (73, .aload_n 0, 1, 0, 0), (74, .getfield 47, 3, 0, 0), (77, .iload_n 2, 1, 0, 0), (78, .iconst 0, 1, 0, 0), (79, .iastore, 1, 0, 0), (80, .goto (-71), 3, 9, 0), (83, .iinc 2 (-1), 3, 0, (-1)), (86, .iload_n 2, 1, 0, 0), (87, .ifCond .lt (-78), 3, 9, 0), (90, .aload_n 0, 1, 0, 0), (91, .getfield 47, 3, 0, 0), (94, .iload_n 2, 1, 0, 0), (95, .dup2, 1, 0, 0), (96, .iaload, 1, 0, 0), (97, .iconst 1, 1, 0, 1), (98, .iadd, 1, 0, 0), (99, .iastore, 1, 0, 0), (100, .goto (-91), 3, 9, 0), (103, .iload_n 2, 1, 0, 0), (104, .ifCond .lt 7, 3, 111, 0), (107, .iconst 1, 1, 0, 1), (108, .goto 4, 3, 112, 0), (111, .iconst 0, 1, 0, 0), (112, .ireturn, 1, 0, 0)]
def gm_257 : gw_M := (12, ⟨"GlassWiresModel", "paintBy", "(I)Z"⟩, prog_14_method_50_code, 3, (some .boolean), 1, 0, 2, gk_257)
def gk_258 : List (Nat × gw_I) := [(0, .iconst 0, 1, 0, 0), (1, .istore_n 1, 1, 0, 0), (2, .iload_n 1, 1, 0, 0), (3, .bipush 100, 2, 0, 100), (5, .if_icmp .ge 16, 3, 21, 0), (8, .aload_n 0, 1, 0, 0), (9, .getfield 44, 3, 0, 0), (12, .iload_n 1, 1, 0, 0), (13, .iconst 0, 1, 0, 0), (14, .bastore, 1, 0, 0), (15, .iinc 1 1, 3, 0, 1), (18, .goto (-16), 3, 2, 0), (21, .iconst 0, 1, 0, 0), (22, .istore_n 1, 1, 0, 0), (23, .iload_n 1, 1, 0, 0), (24, .aload_n 0, 1, 0, 0), (25, .invokevirtual 212, 3, 0, 0), (28, .if_icmp .ge 101, 3, 129, 0), (31, .iconst 0, 1, 0, 0), (32, .istore_n 2, 1, 0, 0), (33, .iload_n 2, 1, 0, 0), (34, .iconst 2, 1, 0, 2), (35, .if_icmp .ge 88, 3, 123, 0), (38, .aload_n 0, 1, 0, 0), (39, .iload_n 1, 1, 0, 0), (40, .iload_n 2, 1, 0, 0), (41, .invokevirtual 216, 3, 0, 0), (44, .istore_n 3, 1, 0, 0), (45, .iload_n 3, 1, 0, 0), (46, .iconst (-1), 1, 0, (-1)), (47, .if_icmp .eq 70, 3, 117, 0), (50, .aload_n 0, 1, 0, 0), (51, .getfield 38, 3, 0, 0), (54, .iload_n 1, 1, 0, 0), (55, .iaload, 1, 0, 0), (56, .aload_n 0, 1, 0, 0), (57, .getfield 38, 3, 0, 0), (60, .iload_n 3, 1, 0, 0), (61, .iaload, 1, 0, 0), (62, .if_icmp .eq 55, 3, 117, 0), (65, .aload_n 0, 1, 0, 0), (66, .aload_n 0, 1, 0, 0), (67, .getfield 38, 3, 0, 0), (70, .iload_n 1, 1, 0, 0), (71, .iaload, 1, 0, 0), (72, .invokevirtual 249, 3, 0, 0), (75, .istore 4, 2, 0, 0), (77, .aload_n 0, 1, 0, 0), (78, .aload_n 0, 1, 0, 0), (79, .getfield 38, 3, 0, 0), (82, .iload_n 3, 1, 0, 0), (83, .iaload, 1, 0, 0), (84, .invokevirtual 249, 3, 0, 0), (87, .istore 5, 2, 0, 0), (89, .aload_n 0, 1, 0, 0), (90, .getfield 44, 3, 0, 0), (93, .bipush 10, 2, 0, 10), (95, .iload 4, 2, 0, 0), (97, .imul, 1, 0, 0), (98, .iload 5, 2, 0, 0), (100, .iadd, 1, 0, 0), (101, .iconst 1, 1, 0, 1), (102, .bastore, 1, 0, 0), (103, .aload_n 0, 1, 0, 0), (104, .getfield 44, 3, 0, 0), (107, .bipush 10, 2, 0, 10), (109, .iload 5, 2, 0, 0), (111, .imul, 1, 0, 0), (112, .iload 4, 2, 0, 0), (114, .iadd, 1, 0, 0), (115, .iconst 1, 1, 0, 1), (116, .bastore, 1, 0, 0), (117, .iinc 2 1, 3, 0, 1), (120, .goto (-87), 3, 33, 0), (123, .iinc 1 1, 3, 0, 1), (126, .goto (-103), 3, 23, 0), (129, .iconst 1, 1, 0, 1), (130, .istore_n 1, 1, 0, 0), (131, .aload_n 0, 1, 0, 0), (132, .iload_n 1, 1, 0, 0), (133, .invokevirtual 252, 3, 0, 0), (136, .ifCond .ne 9, 3, 145, 0), (139, .iinc 1 1, 3, 0, 1), (142, .goto (-11), 3, 131, 0), (145, .iload_n 1, 1, 0, 0), (146, .ireturn, 1, 0, 0)]
def gm_258 : gw_M := (12, ⟨"GlassWiresModel", "findPaints", "()I"⟩, prog_14_method_51_code, 6, (some .int), 0, 0, 3, gk_258)
def gk_259 : List (Nat × gw_I) := [(0, .aload_n 0, 1, 0, 0), (1, .invokevirtual 255, 3, 0, 0), (4, .aload_n 0, 1, 0, 0), (5, .getfield 243, 3, 0, 0), (8, .bipush 10, 2, 0, 10), (10, .if_icmp .le 8, 3, 18, 0), (13, .bipush (-103), 2, 0, (-103)), (15, .goto 7, 3, 22, 0), (18, .aload_n 0, 1, 0, 0), (19, .invokevirtual 258, 3, 0, 0), (22, .ireturn, 1, 0, 0)]
def gm_259 : gw_M := (12, ⟨"GlassWiresModel", "paints", "()I"⟩, prog_14_method_52_code, 1, (some .int), 0, 0, 5, gk_259)
def gk_260 : List (Nat × gw_I) := [(0, .aload_n 0, 1, 0, 0), (1, .iload_n 1, 1, 0, 0), (2, .invokevirtual 240, 3, 0, 0), (5, .ifCond .ne 6, 3, 11, 0), (8, .bipush (-101), 2, 0, (-101)), (10, .ireturn, 1, 0, 0), (11, .aload_n 0, 1, 0, 0), (12, .invokevirtual 255, 3, 0, 0), (15, .aload_n 0, 1, 0, 0), (16, .getfield 243, 3, 0, 0), (19, .bipush 10, 2, 0, 10), (21, .if_icmp .le 6, 3, 27, 0), (24, .bipush (-103), 2, 0, (-103)), (26, .ireturn, 1, 0, 0), (27, .aload_n 0, 1, 0, 0), (28, .invokevirtual 258, 3, 0, 0), (31, .pop, 1, 0, 0), (32, .aload_n 0, 1, 0, 0), (33, .getfield 47, 3, 0, 0), (36, .aload_n 0, 1, 0, 0), (37, .iload_n 1, 1, 0, 0), (38, .invokevirtual 249, 3, 0, 0), (41, .iaload, 1, 0, 0), (42, .ireturn, 1, 0, 0)]
def gm_260 : gw_M := (12, ⟨"GlassWiresModel", "paint", "(I)I"⟩, prog_14_method_53_code, 2, (some .int), 1, 0, 5, gk_260)
def gk_261 : List (Nat × gw_I) := [(0, .iload_n 0, 1, 0, 0), (1, .i2l, 1, 0, 0), (2, .lconst 0, 1, 0, 0), (3, .ldc2_w 261, 3, 0, 0), (6, .invokestatic 140, 3, 0, 0), (9, .ireturn, 1, 0, 0)]
def gm_261 : gw_M := (12, ⟨"GlassWiresModel", "isColour", "(I)Z"⟩, prog_14_method_54_code, 1, (some .boolean), 1, 1, 2, gk_261)
def gk_262 : List (Nat × gw_I) := [(0, .iload_n 1, 1, 0, 0), (1, .invokestatic 263, 3, 0, 0), (4, .ifCond .eq 15, 3, 19, 0), (7, .iload_n 2, 1, 0, 0), (8, .i2l, 1, 0, 0), (9, .lconst 0, 1, 0, 0), (10, .ldc2_w 136, 3, 0, 0), (13, .invokestatic 140, 3, 0, 0), (16, .ifCond .ne 6, 3, 22, 0), (19, .bipush (-101), 2, 0, (-101)), (21, .ireturn, 1, 0, 0), (22, .iload_n 3, 1, 0, 0), (23, .i2l, 1, 0, 0), (24, .iload_n 2, 1, 0, 0), (25, .ifCond .ne 7, 3, 32, 0), (28, .lconst 1, 1, 0, 0), (29, .goto 4, 3, 33, 0), (32, .lconst 0, 1, 0, 0), (33, .iload_n 2, 1, 0, 0), (34, .ifCond .ne 9, 3, 43, 0), (37, .ldc2_w 266, 3, 0, 0), (40, .goto 17, 3, 57, 0), (43, .iload_n 2, 1, 0, 0), (44, .iconst 1, 1, 0, 1), (45, .if_icmp .ne 9, 3, 54, 0), (48, .ldc2_w 268, 3, 0, 0), (51, .goto 6, 3, 57, 0), (54, .ldc2_w 270, 3, 0, 0), (57, .invokestatic 140, 3, 0, 0), (60, .ifCond .ne 6, 3, 66, 0), (63, .bipush (-102), 2, 0, (-102)), (65, .ireturn, 1, 0, 0), (66, .iload_n 2, 1, 0, 0), (67, .ifCond .ne 12, 3, 79, 0), (70, .aload_n 0, 1, 0, 0), (71, .getfield 50, 3, 0, 0), (74, .iload_n 1, 1, 0, 0), (75, .iaload, 1, 0, 0), (76, .goto 23, 3, 99, 0), (79, .iload_n 2, 1, 0, 0), (80, .iconst 1, 1, 0, 1), (81, .if_icmp .ne 12, 3, 93, 0), (84, .aload_n 0, 1, 0, 0), (85, .getfield 53, 3, 0, 0), (88, .iload_n 1, 1, 0, 0), (89, .iaload, 1, 0, 0), (90, .goto 9, 3, 99, 0), (93, .aload_n 0, 1, 0, 0), (94, .getfield 56, 3, 0, 0), (97, .iload_n 1, 1, 0, 0), (98, .iaload, 1, 0, 0), (99, .istore 4, 2, 0, 0), (101, .aload_n 0, 1, 0, 0), (102, .getfield 50, 3, 0, 0), (105, .iload_n 1, 1, 0, 0), (106, .iload_n 2, 1, 0, 0), (107, .ifCond .ne 7, 3, 114, 0), (110, .iload_n 3, 1, 0, 0), (111, .goto 9, 3, 120, 0), (114, .aload_n 0, 1, 0, 0), (115, .getfield 50, 3, 0, 0), (118, .iload_n 1, 1, 0, 0), (119, .iaload, 1, 0, 0), (120, .iastore, 1, 0, 0), (121, .aload_n 0, 1, 0, 0), (122, .getfield 53, 3, 0, 0), (125, .iload_n 1, 1, 0, 0), (126, .iload_n 2, 1, 0, 0), (127, .iconst 1, 1, 0, 1), (128, .if_icmp .ne 7, 3, 135, 0), (131, .iload_n 3, 1, 0, 0), (132, .goto 9, 3, 141, 0), (135, .aload_n 0, 1, 0, 0), (136, .getfield 53, 3, 0, 0), (139, .iload_n 1, 1, 0, 0), (140, .iaload, 1, 0, 0), (141, .iastore, 1, 0, 0), (142, .aload_n 0, 1, 0, 0), (143, .getfield 56, 3, 0, 0), (146, .iload_n 1, 1, 0, 0), (147, .iload_n 2, 1, 0, 0), (148, .iconst 2, 1, 0, 2), (149, .if_icmp .ne 7, 3, 156, 0), (152, .iload_n 3, 1, 0, 0), (153, .goto 9, 3, 162, 0), (156, .aload_n 0, 1, 0, 0), (157, .getfield 56, 3, 0, 0), (160, .iload_n 1, 1, 0, 0), (161, .iaload, 1, 0, 0), (162, .iastore, 1, 0, 0), (163, .iload 4, 2, 0, 0), (165, .ireturn, 1, 0, 0)]
def gm_262 : gw_M := (12, ⟨"GlassWiresModel", "colour", "(III)I"⟩, prog_14_method_55_code, 5, (some .int), 3, 0, 3, gk_262)
def gk_263 : List (Nat × gw_I) := [(0, .iload_n 1, 1, 0, 0), (1, .invokestatic 263, 3, 0, 0), (4, .ifCond .eq 10, 3, 14, 0), (7, .iload_n 2, 1, 0, 0), (8, .invokestatic 263, 3, 0, 0), (11, .ifCond .ne 6, 3, 17, 0), (14, .bipush (-101), 2, 0, (-101)), (16, .ireturn, 1, 0, 0), (17, .iload_n 1, 1, 0, 0), (18, .iload_n 2, 1, 0, 0), (19, .if_icmp .ne 6, 3, 25, 0), (22, .bipush (-102), 2, 0, (-102)), (24, .ireturn, 1, 0, 0), (25, .aload_n 0, 1, 0, 0), (26, .getfield 59, 3, 0, 0), (29, .bipush 8, 2, 0, 8), (31, .iload_n 1, 1, 0, 0), (32, .imul, 1, 0, 0), (33, .iload_n 2, 1, 0, 0), (34, .iadd, 1, 0, 0), (35, .baload, 1, 0, 0), (36, .ifCond .eq 7, 3, 43, 0), (39, .iconst 1, 1, 0, 1), (40, .goto 4, 3, 44, 0), (43, .iconst 0, 1, 0, 0), (44, .istore 4, 2, 0, 0), (46, .aload_n 0, 1, 0, 0), (47, .getfield 59, 3, 0, 0), (50, .bipush 8, 2, 0, 8), (52, .iload_n 1, 1, 0, 0), (53, .imul, 1, 0, 0), (54, .iload_n 2, 1, 0, 0), (55, .iadd, 1, 0, 0), (56, .iload_n 3, 1, 0, 0), (57, .bastore, 1, 0, 0), (58, .aload_n 0, 1, 0, 0), (59, .getfield 59, 3, 0, 0), (62, .bipush 8, 2, 0, 8), (64, .iload_n 2, 1, 0, 0), (65, .imul, 1, 0, 0), (66, .iload_n 1, 1, 0, 0), (67, .iadd, 1, 0, 0), (68, .iload_n 3, 1, 0, 0), (69, .bastore, 1, 0, 0), (70, .iload 4, 2, 0, 0), (72, .ireturn, 1, 0, 0)]
def gm_263 : gw_M := (12, ⟨"GlassWiresModel", "foes", "(IIZ)I"⟩, prog_14_method_56_code, 5, (some .int), 3, 0, 3, gk_263)
def gk_264 : List (Nat × gw_I) := [(0, .iload_n 1, 1, 0, 0), (1, .i2l, 1, 0, 0), (2, .lconst 0, 1, 0, 0), (3, .ldc2_w 136, 3, 0, 0), (6, .invokestatic 140, 3, 0, 0), (9, .ifCond .ne 6, 3, 15, 0), (12, .bipush (-101), 2, 0, (-101)), (14, .ireturn, 1, 0, 0), (15, .iload_n 2, 1, 0, 0), (16, .i2l, 1, 0, 0), (17, .lconst 1, 1, 0, 0), (18, .iload_n 1, 1, 0, 0), (19, .iconst 2, 1, 0, 2), (20, .if_icmp .ne 9, 3, 29, 0), (23, .ldc2_w 272, 3, 0, 0), (26, .goto 6, 3, 32, 0), (29, .ldc2_w 270, 3, 0, 0), (32, .invokestatic 140, 3, 0, 0), (35, .ifCond .ne 6, 3, 41, 0), (38, .bipush (-102), 2, 0, (-102)), (40, .ireturn, 1, 0, 0), (41, .iload_n 1, 1, 0, 0), (42, .ifCond .ne 10, 3, 52, 0), (45, .aload_n 0, 1, 0, 0), (46, .getfield 101, 3, 0, 0), (49, .goto 19, 3, 68, 0), (52, .iload_n 1, 1, 0, 0), (53, .iconst 1, 1, 0, 1), (54, .if_icmp .ne 10, 3, 64, 0), (57, .aload_n 0, 1, 0, 0), (58, .getfield 105, 3, 0, 0), (61, .goto 7, 3, 68, 0), (64, .aload_n 0, 1, 0, 0), (65, .getfield 108, 3, 0, 0), (68, .istore_n 3, 1, 0, 0), (69, .aload_n 0, 1, 0, 0), (70, .iload_n 1, 1, 0, 0), (71, .ifCond .ne 7, 3, 78, 0), (74, .iload_n 2, 1, 0, 0), (75, .goto 7, 3, 82, 0), (78, .aload_n 0, 1, 0, 0), (79, .getfield 101, 3, 0, 0), (82, .putfield 101, 3, 0, 0), (85, .aload_n 0, 1, 0, 0), (86, .iload_n 1, 1, 0, 0), (87, .iconst 1, 1, 0, 1), (88, .if_icmp .ne 7, 3, 95, 0), (91, .iload_n 2, 1, 0, 0), (92, .goto 7, 3, 99, 0), (95, .aload_n 0, 1, 0, 0), (96, .getfield 105, 3, 0, 0), (99, .putfield 105, 3, 0, 0), (102, .aload_n 0, 1, 0, 0), (103, .iload_n 1, 1, 0, 0), (104, .iconst 2, 1, 0, 2), (105, .if_icmp .ne 7, 3, 112, 0), (108, .iload_n 2, 1, 0, 0), (109, .goto 7, 3, 116, 0), (112, .aload_n 0, 1, 0, 0), (113, .getfield 108, 3, 0, 0), (116, .putfield 108, 3, 0, 0), (119, .iload_n 3, 1, 0, 0), (120, .ireturn, 1, 0, 0)]
def gm_264 : gw_M := (12, ⟨"GlassWiresModel", "rule", "(II)I"⟩, prog_14_method_57_code, 4, (some .int), 2, 0, 2, gk_264)
def gk_265 : List (Nat × gw_I) := [(0, .aload_n 0, 1, 0, 0), (1, .iload_n 1, 1, 0, 0), (2, .invokevirtual 240, 3, 0, 0), (5, .ifCond .eq 10, 3, 15, 0), (8, .iload_n 2, 1, 0, 0), (9, .invokestatic 263, 3, 0, 0), (12, .ifCond .ne 6, 3, 18, 0), (15, .bipush (-101), 2, 0, (-101)), (17, .ireturn, 1, 0, 0), (18, .iload_n 3, 1, 0, 0), (19, .i2l, 1, 0, 0), (20, .lconst 1, 1, 0, 0), (21, .ldc2_w 270, 3, 0, 0), (24, .invokestatic 140, 3, 0, 0), (27, .ifCond .ne 6, 3, 33, 0), (30, .bipush (-102), 2, 0, (-102)), (32, .ireturn, 1, 0, 0), (33, .iconst 0, 1, 0, 0), (34, .istore 4, 2, 0, 0), (36, .iload 4, 2, 0, 0), (38, .aload_n 0, 1, 0, 0), (39, .invokevirtual 212, 3, 0, 0), (42, .if_icmp .ge 35, 3, 77, 0), (45, .aload_n 0, 1, 0, 0), (46, .getfield 38, 3, 0, 0), (49, .iload 4, 2, 0, 0), (51, .iaload, 1, 0, 0), (52, .iload_n 1, 1, 0, 0), (53, .if_icmp .ne 18, 3, 71, 0), (56, .aload_n 0, 1, 0, 0), (57, .getfield 62, 3, 0, 0), (60, .iload 4, 2, 0, 0), (62, .iaload, 1, 0, 0), (63, .bipush 12, 2, 0, 12), (65, .if_icmp .ne 6, 3, 71, 0), (68, .bipush (-104), 2, 0, (-104)), (70, .ireturn, 1, 0, 0), (71, .iinc 4 1, 3, 0, 1), (74, .goto (-38), 3, 36, 0), (77, .iconst 0, 1, 0, 0), (78, .istore 4, 2, 0, 0), (80, .iload 4, 2, 0, 0), (82, .aload_n 0, 1, 0, 0), (83, .invokevirtual 212, 3, 0, 0), (86, .if_icmp .ge 70, 3, 156, 0), (89, .aload_n 0, 1, 0, 0), (90, .getfield 38, 3, 0, 0), (93, .iload 4, 2, 0, 0), (95, .iaload, 1, 0, 0), (96, .iload_n 1, 1, 0, 0), (97, .if_icmp .ne 53, 3, 150, 0), (100, .bipush 12, 2, 0, 12), (102, .iload 4, 2, 0, 0), (104, .imul, 1, 0, 0), (105, .aload_n 0, 1, 0, 0), (106, .getfield 62, 3, 0, 0), (109, .iload 4, 2, 0, 0), (111, .iaload, 1, 0, 0), (112, .iadd, 1, 0, 0), (113, .istore 5, 2, 0, 0), (115, .aload_n 0, 1, 0, 0), (116, .getfield 65, 3, 0, 0), (119, .iload 5, 2, 0, 0), (121, .iload_n 2, 1, 0, 0), (122, .iastore, 1, 0, 0), (123, .aload_n 0, 1, 0, 0), (124, .getfield 68, 3, 0, 0), (127, .iload 5, 2, 0, 0), (129, .iload_n 3, 1, 0, 0), (130, .iastore, 1, 0, 0), (131, .aload_n 0, 1, 0, 0), (132, .getfield 71, 3, 0, 0), (135, .iload 5, 2, 0, 0), (137, .iconst 0, 1, 0, 0), (138, .iastore, 1, 0, 0), (139, .aload_n 0, 1, 0, 0), (140, .getfield 62, 3, 0, 0), (143, .iload 4, 2, 0, 0), (145, .dup2, 1, 0, 0), (146, .iaload, 1, 0, 0), (147, .iconst 1, 1, 0, 1), (148, .iadd, 1, 0, 0), (149, .iastore, 1, 0, 0), (150, .iinc 4 1, 3, 0, 1), (153, .goto (-73), 3, 80, 0), (156, .aload_n 0, 1, 0, 0), (157, .iload_n 1, 1, 0, 0), (158, .invokevirtual 234, 3, 0, 0), (161, .ireturn, 1, 0, 0)]
def gm_265 : gw_M := (12, ⟨"GlassWiresModel", "fill", "(III)I"⟩, prog_14_method_58_code, 6, (some .int), 3, 0, 5, gk_265)
def gk_266 : List (Nat × gw_I) := [(0, .aload_n 0, 1, 0, 0), (1, .iload_n 1, 1, 0, 0), (2, .invokevirtual 240, 3, 0, 0), (5, .ifCond .ne 6, 3, 11, 0), (8, .bipush (-101), 2, 0, (-101)), (10, .ireturn, 1, 0, 0), (11, .iconst 0, 1, 0, 0), (12, .istore_n 2, 1, 0, 0), (13, .iconst 0, 1, 0, 0), (14, .istore_n 3, 1, 0, 0), (15, .iload_n 3, 1, 0, 0), (16, .aload_n 0, 1, 0, 0), (17, .invokevirtual 212, 3, 0, 0), (20, .if_icmp .ge 35, 3, 55, 0), (23, .aload_n 0, 1, 0, 0), (24, .getfield 38, 3, 0, 0), (27, .iload_n 3, 1, 0, 0), (28, .iaload, 1, 0, 0), (29, .iload_n 1, 1, 0, 0), (30, .if_icmp .ne 19, 3, 49, 0), (33, .iload_n 2, 1, 0, 0), (34, .aload_n 0, 1, 0, 0), (35, .getfield 62, 3, 0, 0), (38, .iload_n 3, 1, 0, 0), (39, .iaload, 1, 0, 0), (40, .iadd, 1, 0, 0), (41, .istore_n 2, 1, 0, 0), (42, .aload_n 0, 1, 0, 0), (43, .getfield 62, 3, 0, 0), (46, .iload_n 3, 1, 0, 0), (47, .iconst 0, 1, 0, 0), (48, .iastore, 1, 0, 0), (49, .iinc 3 1, 3, 0, 1), (52, .goto (-37), 3, 15, 0), (55, .iload_n 2, 1, 0, 0), (56, .ireturn, 1, 0, 0)]
def gm_266 : gw_M := (12, ⟨"GlassWiresModel", "empty", "(I)I"⟩, prog_14_method_59_code, 4, (some .int), 1, 0, 5, gk_266)
def gk_267 : List (Nat × gw_I) := [(0, .iconst 0, 1, 0, 0), (1, .istore_n 2, 1, 0, 0), (2, .iconst 0, 1, 0, 0), (3, .istore_n 3, 1, 0, 0), (4, .iload_n 3, 1, 0, 0), (5, .aload_n 0, 1, 0, 0), (6, .getfield 62, 3, 0, 0), (9, .iload_n 1, 1, 0, 0), (10, .iaload, 1, 0, 0), (11, .if_icmp .ge 23, 3, 34, 0), (14, .iload_n 2, 1, 0, 0), (15, .aload_n 0, 1, 0, 0), (16, .getfield 68, 3, 0, 0), (19, .bipush 12, 2, 0, 12), (21, .iload_n 1, 1, 0, 0), (22, .imul, 1, 0, 0), (23, .iload_n 3, 1, 0, 0), (24, .iadd, 1, 0, 0), (25, .iaload, 1, 0, 0), (26, .iadd, 1, 0, 0), (27, .istore_n 2, 1, 0, 0), (28, .iinc 3 1, 3, 0, 1), (31, .goto (-27), 3, 4, 0), (34, .iload_n 2, 1, 0, 0), (35, .ireturn, 1, 0, 0)]
def gm_267 : gw_M := (12, ⟨"GlassWiresModel", "highOf", "(I)I"⟩, prog_14_method_60_code, 4, (some .int), 1, 0, 1, gk_267)
def gk_268 : List (Nat × gw_I) := [(0, .aload_n 0, 1, 0, 0), (1, .iload_n 1, 1, 0, 0), (2, .iload_n 2, 1, 0, 0), (3, .invokevirtual 237, 3, 0, 0), (6, .ifCond .ne 6, 3, 12, 0), (9, .bipush (-101), 2, 0, (-101)), (11, .ireturn, 1, 0, 0), (12, .aload_n 0, 1, 0, 0), (13, .getfield 115, 3, 0, 0), (16, .iload_n 2, 1, 0, 0), (17, .imul, 1, 0, 0), (18, .iload_n 1, 1, 0, 0), (19, .iadd, 1, 0, 0), (20, .istore 4, 2, 0, 0), (22, .iload_n 3, 1, 0, 0), (23, .ifCond .ne 12, 3, 35, 0), (26, .aload_n 0, 1, 0, 0), (27, .iload 4, 2, 0, 0), (29, .invokevirtual 274, 3, 0, 0), (32, .goto 20, 3, 52, 0), (35, .iload_n 3, 1, 0, 0), (36, .iconst 1, 1, 0, 1), (37, .if_icmp .ne 13, 3, 50, 0), (40, .aload_n 0, 1, 0, 0), (41, .getfield 62, 3, 0, 0), (44, .iload 4, 2, 0, 0), (46, .iaload, 1, 0, 0), (47, .goto 5, 3, 52, 0), (50, .bipush (-102), 2, 0, (-102)), (52, .ireturn, 1, 0, 0)]
def gm_268 : gw_M := (12, ⟨"GlassWiresModel", "field", "(III)I"⟩, prog_14_method_61_code, 5, (some .int), 3, 0, 3, gk_268)
def gk_269 : List (Nat × gw_I) := [(0, .aload_n 0, 1, 0, 0), (1, .iload_n 1, 1, 0, 0), (2, .iload_n 2, 1, 0, 0), (3, .invokevirtual 237, 3, 0, 0), (6, .ifCond .ne 6, 3, 12, 0), (9, .bipush (-101), 2, 0, (-101)), (11, .ireturn, 1, 0, 0), (12, .iload 4, 2, 0, 0), (14, .i2l, 1, 0, 0), (15, .lconst 0, 1, 0, 0), (16, .ldc2_w 136, 3, 0, 0), (19, .invokestatic 140, 3, 0, 0), (22, .ifCond .ne 6, 3, 28, 0), (25, .bipush (-102), 2, 0, (-102)), (27, .ireturn, 1, 0, 0), (28, .aload_n 0, 1, 0, 0), (29, .getfield 115, 3, 0, 0), (32, .iload_n 2, 1, 0, 0), (33, .imul, 1, 0, 0), (34, .iload_n 1, 1, 0, 0), (35, .iadd, 1, 0, 0), (36, .istore 5, 2, 0, 0), (38, .iload_n 3, 1, 0, 0), (39, .i2l, 1, 0, 0), (40, .lconst 0, 1, 0, 0), (41, .aload_n 0, 1, 0, 0), (42, .getfield 62, 3, 0, 0), (45, .iload 5, 2, 0, 0), (47, .iaload, 1, 0, 0), (48, .iconst 1, 1, 0, 1), (49, .isub, 1, 0, 0), (50, .i2l, 1, 0, 0), (51, .invokestatic 140, 3, 0, 0), (54, .ifCond .ne 5, 3, 59, 0), (57, .iconst (-1), 1, 0, (-1)), (58, .ireturn, 1, 0, 0), (59, .bipush 12, 2, 0, 12), (61, .iload 5, 2, 0, 0), (63, .imul, 1, 0, 0), (64, .iload_n 3, 1, 0, 0), (65, .iadd, 1, 0, 0), (66, .istore 6, 2, 0, 0), (68, .iload 4, 2, 0, 0), (70, .ifCond .ne 13, 3, 83, 0), (73, .aload_n 0, 1, 0, 0), (74, .getfield 65, 3, 0, 0), (77, .iload 6, 2, 0, 0), (79, .iaload, 1, 0, 0), (80, .goto 26, 3, 106, 0), (83, .iload 4, 2, 0, 0), (85, .iconst 1, 1, 0, 1), (86, .if_icmp .ne 13, 3, 99, 0), (89, .aload_n 0, 1, 0, 0), (90, .getfield 68, 3, 0, 0), (93, .iload 6, 2, 0, 0), (95, .iaload, 1, 0, 0), (96, .goto 10, 3, 106, 0), (99, .aload_n 0, 1, 0, 0), (100, .getfield 71, 3, 0, 0), (103, .iload 6, 2, 0, 0), (105, .iaload, 1, 0, 0), (106, .ireturn, 1, 0, 0)]
def gm_269 : gw_M := (12, ⟨"GlassWiresModel", "layer", "(IIII)I"⟩, prog_14_method_62_code, 7, (some .int), 4, 0, 3, gk_269)
def gk_270 : List (Nat × gw_I) := [(0, .aload_n 0, 1, 0, 0), (1, .getfield 32, 3, 0, 0), (4, .iload_n 3, 1, 0, 0), (5, .iaload, 1, 0, 0), (6, .ifCond .le 33, 3, 39, 0), (9, .aload_n 0, 1, 0, 0), (10, .getfield 74, 3, 0, 0), (13, .iload_n 1, 1, 0, 0), (14, .iaload, 1, 0, 0), (15, .aload_n 0, 1, 0, 0), (16, .getfield 101, 3, 0, 0), (19, .if_icmp .le 20, 3, 39, 0), (22, .aload_n 0, 1, 0, 0), (23, .getfield 74, 3, 0, 0), (26, .iload_n 2, 1, 0, 0), (27, .iaload, 1, 0, 0), (28, .aload_n 0, 1, 0, 0), (29, .getfield 101, 3, 0, 0), (32, .if_icmp .ge 7, 3, 39, 0), (35, .iconst 1, 1, 0, 1), (36, .goto 4, 3, 40, 0), (39, .iconst 0, 1, 0, 0), (40, .ireturn, 1, 0, 0)]
def gm_270 : gw_M := (12, ⟨"GlassWiresModel", "runsTo", "(III)Z"⟩, prog_14_method_63_code, 4, (some .boolean), 3, 0, 1, gk_270)
def gk_271 : List (Nat × gw_I) := [(0, .aload_n 0, 1, 0, 0), (1, .invokevirtual 222, 3, 0, 0), (4, .iconst 0, 1, 0, 0), (5, .istore_n 1, 1, 0, 0), (6, .iload_n 1, 1, 0, 0), (7, .aload_n 0, 1, 0, 0), (8, .invokevirtual 212, 3, 0, 0), (11, .if_icmp .ge 27, 3, 38, 0), (14, .aload_n 0, 1, 0, 0), (15, .getfield 74, 3, 0, 0), (18, .iload_n 1, 1, 0, 0), (19, .aload_n 0, 1, 0, 0), (20, .iload_n 1, 1, 0, 0), (21, .invokevirtual 274, 3, 0, 0), (24, .iastore, 1, 0, 0), (25, .aload_n 0, 1, 0, 0), (26, .getfield 77, 3, 0, 0), (29, .iload_n 1, 1, 0, 0), (30, .iconst 0, 1, 0, 0), (31, .bastore, 1, 0, 0), (32, .iinc 1 1, 3, 0, 1), (35, .goto (-29), 3, 6, 0), (38, .iconst 0, 1, 0, 0), (39, .istore_n 1, 1, 0, 0), (40, .iload_n 1, 1, 0, 0), (41, .aload_n 0, 1, 0, 0), (42, .invokevirtual 212, 3, 0, 0), (45, .if_icmp .ge 104, 3, 149, 0), (48, .iconst 0, 1, 0, 0), (49, .istore_n 2, 1, 0, 0), (50, .iload_n 2, 1, 0, 0), (51, .iconst 2, 1, 0, 2), (52, .if_icmp .ge 91, 3, 143, 0), (55, .aload_n 0, 1, 0, 0), (56, .iload_n 1, 1, 0, 0), (57, .iload_n 2, 1, 0, 0), (58, .invokevirtual 216, 3, 0, 0), (61, .istore_n 3, 1, 0, 0), (62, .iload_n 3, 1, 0, 0), (63, .iconst (-1), 1, 0, (-1)), (64, .if_icmp .eq 73, 3, 137, 0), (67, .aload_n 0, 1, 0, 0), (68, .iload_n 1, 1, 0, 0), (69, .iload_n 2, 1, 0, 0), (70, .invokevirtual 219, 3, 0, 0), (73, .istore 4, 2, 0, 0), (75, .aload_n 0, 1, 0, 0), (76, .getfield 77, 3, 0, 0), (79, .iload_n 1, 1, 0, 0), (80, .aload_n 0, 1, 0, 0), (81, .getfield 77, 3, 0, 0), (84, .iload_n 1, 1, 0, 0), (85, .baload, 1, 0, 0), (86, .ifCond .ne 14, 3, 100, 0), (89, .aload_n 0, 1, 0, 0), (90, .iload_n 1, 1, 0, 0), (91, .iload_n 3, 1, 0, 0), (92, .iload 4, 2, 0, 0), (94, .invokevirtual 277, 3, 0, 0), (97, .ifCond .eq 7, 3, 104, 0), (100, .iconst 1, 1, 0, 1), (101, .goto 4, 3, 105, 0), (104, .iconst 0, 1, 0, 0), (105, .bastore, 1, 0, 0), (106, .aload_n 0, 1, 0, 0), (107, .getfield 77, 3, 0, 0), (110, .iload_n 3, 1, 0, 0), (111, .aload_n 0, 1, 0, 0), (112, .getfield 77, 3, 0, 0), (115, .iload_n 3, 1, 0, 0), (116, .baload, 1, 0, 0), (117, .ifCond .ne 14, 3, 131, 0), (120, .aload_n 0, 1, 0, 0), (121, .iload_n 3, 1, 0, 0), (122, .iload_n 1, 1, 0, 0), (123, .iload 4, 2, 0, 0), (125, .invokevirtual 277, 3, 0, 0), (128, .ifCond .eq 7, 3, 135, 0), (131, .iconst 1, 1, 0, 1), (132, .goto 4, 3, 136, 0), (135, .iconst 0, 1, 0, 0), (136, .bastore, 1, 0, 0), (137, .iinc 2 1, 3, 0, 1), (140, .goto (-90), 3, 50, 0), (143, .iinc 1 1, 3, 0, 1), (146, .goto (-106), 3, 40, 0), (149, .iconst 0, 1, 0, 0), (150, .istore_n 1, 1, 0, 0), (151, .iload_n 1, 1, 0, 0), (152, .aload_n 0, 1, 0, 0), (153, .invokevirtual 212, 3, 0, 0), (156, .if_icmp .ge 35, 3, 191, 0), (159, .aload_n 0, 1, 0, 0), (160, .getfield 77, 3, 0, 0), (163, .iload_n 1, 1, 0, 0), (164, .baload, 1, 0, 0), (165, .ifCond .eq 20, 3, 185, 0), (168, .aload_n 0, 1, 0, 0), (169, .iload_n 1, 1, 0, 0), (170, .aload_n 0, 1, 0, 0), (171, .getfield 74, 3, 0, 0), (174, .iload_n 1, 1, 0, 0), (175, .iaload, 1, 0, 0), (176, .aload_n 0, 1, 0, 0), (177, .getfield 101, 3, 0, 0), (180, .isub, 1, 0, 0), (181, .invokevirtual 280, 3, 0, 0), (184, .pop, 1, 0, 0), (185, .iinc 1 1, 3, 0, 1), (188, .goto (-37), 3, 151, 0), (191, .return_, 1, 0, 0)]
def gm_271 : gw_M := (12, ⟨"GlassWiresModel", "runOver", "()V"⟩, prog_14_method_64_code, 5, none, 0, 0, 4, gk_271)
def gk_272 : List (Nat × gw_I) := [(0, .bipush 12, 2, 0, 12), (2, .iload_n 1, 1, 0, 0), (3, .imul, 1, 0, 0), (4, .aload_n 0, 1, 0, 0), (5, .getfield 62, 3, 0, 0), (8, .iload_n 1, 1, 0, 0), (9, .iaload, 1, 0, 0), (10, .iadd, 1, 0, 0), (11, .iconst 1, 1, 0, 1), (12, .isub, 1, 0, 0), (13, .istore_n 3, 1, 0, 0), (14, .iload_n 2, 1, 0, 0), (15, .aload_n 0, 1, 0, 0), (16, .getfield 68, 3, 0, 0), (19, .iload_n 3, 1, 0, 0), (20, .iaload, 1, 0, 0), (21, .if_icmp .ge 7, 3, 28, 0), (24, .iload_n 2, 1, 0, 0), (25, .goto 9, 3, 34, 0), (28, .aload_n 0, 1, 0, 0), (29, .getfield 68, 3, 0, 0), (32, .iload_n 3, 1, 0, 0), (33, .iaload, 1, 0, 0), (34, .istore 4, 2, 0, 0), (36, .aload_n 0, 1, 0, 0), (37, .getfield 68, 3, 0, 0), (40, .iload_n 3, 1, 0, 0), (41, .dup2, 1, 0, 0), (42, .iaload, 1, 0, 0), (43, .iload 4, 2, 0, 0), (45, .isub, 1, 0, 0), (46, .iastore, 1, 0, 0), (47, .aload_n 0, 1, 0, 0), (48, .getfield 62, 3, 0, 0), (51, .iload_n 1, 1, 0, 0), (52, .dup2, 1, 0, 0), (53, .iaload, 1, 0, 0), (54, .aload_n 0, 1, 0, 0), (55, .getfield 68, 3, 0, 0), (58, .iload_n 3, 1, 0, 0), (59, .iaload, 1, 0, 0), (60, .ifCond .ne 7, 3, 67, 0), (63, .iconst 1, 1, 0, 1), (64, .goto 4, 3, 68, 0), (67, .iconst 0, 1, 0, 0), (68, .isub, 1, 0, 0), (69, .iastore, 1, 0, 0), (70, .iload 4, 2, 0, 0), (72, .ireturn, 1, 0, 0)]
def gm_272 : gw_M := (12, ⟨"GlassWiresModel", "takeOff", "(II)I"⟩, prog_14_method_65_code, 5, (some .int), 2, 0, 1, gk_272)
def gk_273 : List (Nat × gw_I) := [(0, .iload_n 1, 1, 0, 0), (1, .i2l, 1, 0, 0), (2, .lconst 1, 1, 0, 0), (3, .ldc2_w 272, 3, 0, 0), (6, .invokestatic 140, 3, 0, 0), (9, .ifCond .ne 6, 3, 15, 0), (12, .bipush (-102), 2, 0, (-102)), (14, .ireturn, 1, 0, 0), (15, .iconst 0, 1, 0, 0), (16, .istore_n 2, 1, 0, 0), (17, .iconst 0, 1, 0, 0), (18, .istore_n 3, 1, 0, 0), (19, .iload_n 3, 1, 0, 0), (20, .aload_n 0, 1, 0, 0), (21, .invokevirtual 212, 3, 0, 0), (24, .if_icmp .ge 140, 3, 164, 0), (27, .iconst 0, 1, 0, 0), (28, .istore 4, 2, 0, 0), (30, .iload 4, 2, 0, 0), (32, .aload_n 0, 1, 0, 0), (33, .getfield 62, 3, 0, 0), (36, .iload_n 3, 1, 0, 0), (37, .iaload, 1, 0, 0), (38, .if_icmp .ge 120, 3, 158, 0), (41, .bipush 12, 2, 0, 12), (43, .iload_n 3, 1, 0, 0), (44, .imul, 1, 0, 0), (45, .iload 4, 2, 0, 0), (47, .iadd, 1, 0, 0), (48, .istore 5, 2, 0, 0), (50, .aload_n 0, 1, 0, 0), (51, .getfield 65, 3, 0, 0), (54, .iload 5, 2, 0, 0), (56, .iaload, 1, 0, 0), (57, .istore 6, 2, 0, 0), (59, .aload_n 0, 1, 0, 0), (60, .getfield 71, 3, 0, 0), (63, .iload 5, 2, 0, 0), (65, .iaload, 1, 0, 0), (66, .ifCond .ne 53, 3, 119, 0), (69, .aload_n 0, 1, 0, 0), (70, .getfield 50, 3, 0, 0), (73, .iload 6, 2, 0, 0), (75, .iaload, 1, 0, 0), (76, .iload_n 1, 1, 0, 0), (77, .if_icmp .gt 42, 3, 119, 0), (80, .aload_n 0, 1, 0, 0), (81, .getfield 71, 3, 0, 0), (84, .iload 5, 2, 0, 0), (86, .iconst 1, 1, 0, 1), (87, .iastore, 1, 0, 0), (88, .aload_n 0, 1, 0, 0), (89, .getfield 68, 3, 0, 0), (92, .iload 5, 2, 0, 0), (94, .dup2, 1, 0, 0), (95, .iaload, 1, 0, 0), (96, .aload_n 0, 1, 0, 0), (97, .getfield 68, 3, 0, 0), (100, .iload 5, 2, 0, 0), (102, .iaload, 1, 0, 0), (103, .aload_n 0, 1, 0, 0), (104, .getfield 53, 3, 0, 0), (107, .iload 6, 2, 0, 0), (109, .iaload, 1, 0, 0), (110, .imul, 1, 0, 0), (111, .bipush 10, 2, 0, 10), (113, .idiv, 1, 0, 0), (114, .isub, 1, 0, 0), (115, .iastore, 1, 0, 0), (116, .iinc 2 1, 3, 0, 1), (119, .aload_n 0, 1, 0, 0), (120, .getfield 71, 3, 0, 0), (123, .iload 5, 2, 0, 0), (125, .iaload, 1, 0, 0), (126, .iconst 1, 1, 0, 1), (127, .if_icmp .ne 25, 3, 152, 0), (130, .aload_n 0, 1, 0, 0), (131, .getfield 50, 3, 0, 0), (134, .iload 6, 2, 0, 0), (136, .iaload, 1, 0, 0), (137, .bipush 50, 2, 0, 50), (139, .iadd, 1, 0, 0), (140, .iload_n 1, 1, 0, 0), (141, .if_icmp .ge 11, 3, 152, 0), (144, .aload_n 0, 1, 0, 0), (145, .getfield 71, 3, 0, 0), (148, .iload 5, 2, 0, 0), (150, .iconst 2, 1, 0, 2), (151, .iastore, 1, 0, 0), (152, .iinc 4 1, 3, 0, 1), (155, .goto (-125), 3, 30, 0), (158, .iinc 3 1, 3, 0, 1), (161, .goto (-142), 3, 19, 0), (164, .aload_n 0, 1, 0, 0), (165, .invokevirtual 283, 3, 0, 0), (168, .aload_n 0, 1, 0, 0), (169, .dup, 1, 0, 0), (170, .getfield 130, 3, 0, 0), (173, .iconst 1, 1, 0, 1), (174, .iadd, 1, 0, 0), (175, .putfield 130, 3, 0, 0), (178, .iload_n 2, 1, 0, 0), (179, .ireturn, 1, 0, 0)]
def gm_273 : gw_M := (12, ⟨"GlassWiresModel", "fire", "(I)I"⟩, prog_14_method_66_code, 7, (some .int), 1, 0, 5, gk_273)
def gk_274 : List (Nat × gw_I) := [(0, .iconst 0, 1, 0, 0), (1, .istore_n 1, 1, 0, 0), (2, .iconst 0, 1, 0, 0), (3, .istore_n 2, 1, 0, 0), (4, .iload_n 2, 1, 0, 0), (5, .aload_n 0, 1, 0, 0), (6, .invokevirtual 212, 3, 0, 0), (9, .if_icmp .ge 45, 3, 54, 0), (12, .aload_n 0, 1, 0, 0), (13, .iload_n 2, 1, 0, 0), (14, .invokevirtual 274, 3, 0, 0), (17, .aload_n 0, 1, 0, 0), (18, .getfield 101, 3, 0, 0), (21, .isub, 1, 0, 0), (22, .istore_n 3, 1, 0, 0), (23, .iload_n 3, 1, 0, 0), (24, .ifCond .le 24, 3, 48, 0), (27, .aload_n 0, 1, 0, 0), (28, .iload_n 2, 1, 0, 0), (29, .iload_n 3, 1, 0, 0), (30, .invokevirtual 280, 3, 0, 0), (33, .istore 4, 2, 0, 0), (35, .iload_n 3, 1, 0, 0), (36, .iload 4, 2, 0, 0), (38, .isub, 1, 0, 0), (39, .istore_n 3, 1, 0, 0), (40, .iload_n 1, 1, 0, 0), (41, .iload 4, 2, 0, 0), (43, .iadd, 1, 0, 0), (44, .istore_n 1, 1, 0, 0), (45, .goto (-22), 3, 23, 0), (48, .iinc 2 1, 3, 0, 1), (51, .goto (-47), 3, 4, 0), (54, .iload_n 1, 1, 0, 0), (55, .ireturn, 1, 0, 0)]
def gm_274 : gw_M := (12, ⟨"GlassWiresModel", "polish", "()I"⟩, prog_14_method_67_code, 5, (some .int), 0, 0, 2, gk_274)
def gk_275 : List (Nat × gw_I) := [(0, .iconst 0, 1, 0, 0), (1, .istore_n 2, 1, 0, 0), (2, .iconst 0, 1, 0, 0), (3, .istore_n 3, 1, 0, 0), (4, .iload_n 3, 1, 0, 0), (5, .aload_n 0, 1, 0, 0), (6, .getfield 121, 3, 0, 0), (9, .if_icmp .ge 46, 3, 55, 0), (12, .iload_n 2, 1, 0, 0), (13, .ifCond .ne 30, 3, 43, 0), (16, .aload_n 0, 1, 0, 0), (17, .getfield 22, 3, 0, 0), (20, .iload_n 3, 1, 0, 0), (21, .baload, 1, 0, 0), (22, .ifCond .eq 25, 3, 47, 0), (25, .aload_n 0, 1, 0, 0), (26, .getfield 26, 3, 0, 0), (29, .iload_n 3, 1, 0, 0), (30, .baload, 1, 0, 0), (31, .ifCond .eq 16, 3, 47, 0), (34, .aload_n 0, 1, 0, 0), (35, .iload_n 3, 1, 0, 0), (36, .iload_n 1, 1, 0, 0), (37, .invokevirtual 171, 3, 0, 0), (40, .ifCond .eq 7, 3, 47, 0), (43, .iconst 1, 1, 0, 1), (44, .goto 4, 3, 48, 0), (47, .iconst 0, 1, 0, 0), (48, .istore_n 2, 1, 0, 0), (49, .iinc 3 1, 3, 0, 1), (52, .goto (-48), 3, 4, 0), (55, .iload_n 2, 1, 0, 0), (56, .ireturn, 1, 0, 0)]
def gm_275 : gw_M := (12, ⟨"GlassWiresModel", "solders", "(I)Z"⟩, prog_14_method_68_code, 4, (some .boolean), 1, 0, 3, gk_275)
def gk_276 : List (Nat × gw_I) := [(0, .bipush 12, 2, 0, 12), (2, .iload_n 1, 1, 0, 0), (3, .imul, 1, 0, 0), (4, .aload_n 0, 1, 0, 0), (5, .getfield 62, 3, 0, 0), (8, .iload_n 1, 1, 0, 0), (9, .iaload, 1, 0, 0), (10, .iadd, 1, 0, 0), (11, .iconst 1, 1, 0, 1), (12, .isub, 1, 0, 0), (13, .ireturn, 1, 0, 0)]
def gm_276 : gw_M := (12, ⟨"GlassWiresModel", "top", "(I)I"⟩, prog_14_method_69_code, 2, (some .int), 1, 0, 1, gk_276)
def gk_277 : List (Nat × gw_I) := [(0, .iconst 0, 1, 0, 0), (1, .istore_n 1, 1, 0, 0), (2, .iconst 0, 1, 0, 0), (3, .istore_n 2, 1, 0, 0), (4, .iload_n 2, 1, 0, 0), (5, .aload_n 0, 1, 0, 0), (6, .invokevirtual 212, 3, 0, 0), (9, .if_icmp .ge 104, 3, 113, 0), (12, .iconst 0, 1, 0, 0), (13, .istore_n 3, 1, 0, 0), (14, .iload_n 3, 1, 0, 0), (15, .iconst 2, 1, 0, 2), (16, .if_icmp .ge 91, 3, 107, 0), (19, .aload_n 0, 1, 0, 0), (20, .iload_n 2, 1, 0, 0), (21, .iload_n 3, 1, 0, 0), (22, .invokevirtual 216, 3, 0, 0), (25, .istore 4, 2, 0, 0), (27, .iload 4, 2, 0, 0), (29, .iconst (-1), 1, 0, (-1)), (30, .if_icmp .eq 71, 3, 101, 0), (33, .aload_n 0, 1, 0, 0), (34, .getfield 62, 3, 0, 0), (37, .iload_n 2, 1, 0, 0), (38, .iaload, 1, 0, 0), (39, .ifCond .le 62, 3, 101, 0), (42, .aload_n 0, 1, 0, 0), (43, .getfield 62, 3, 0, 0), (46, .iload 4, 2, 0, 0), (48, .iaload, 1, 0, 0), (49, .ifCond .le 52, 3, 101, 0), (52, .aload_n 0, 1, 0, 0), (53, .getfield 59, 3, 0, 0), (56, .bipush 8, 2, 0, 8), (58, .aload_n 0, 1, 0, 0), (59, .getfield 65, 3, 0, 0), (62, .aload_n 0, 1, 0, 0), (63, .iload_n 2, 1, 0, 0), (64, .invokevirtual 286, 3, 0, 0), (67, .iaload, 1, 0, 0), (68, .imul, 1, 0, 0), (69, .aload_n 0, 1, 0, 0), (70, .getfield 65, 3, 0, 0), (73, .aload_n 0, 1, 0, 0), (74, .iload 4, 2, 0, 0), (76, .invokevirtual 286, 3, 0, 0), (79, .iaload, 1, 0, 0), (80, .iadd, 1, 0, 0), (81, .baload, 1, 0, 0), (82, .ifCond .eq 19, 3, 101, 0), (85, .aload_n 0, 1, 0, 0), (86, .aload_n 0, 1, 0, 0), (87, .iload_n 2, 1, 0, 0), (88, .iload_n 3, 1, 0, 0), (89, .invokevirtual 219, 3, 0, 0), (92, .invokevirtual 289, 3, 0, 0), (95, .ifCond .ne 6, 3, 101, 0), (98, .iinc 1 1, 3, 0, 1), (101, .iinc 3 1, 3, 0, 1), (104, .goto (-90), 3, 14, 0), (107, .iinc 2 1, 3, 0, 1), (110, .goto (-106), 3, 4, 0), (113, .iload_n 1, 1, 0, 0), (114, .ireturn, 1, 0, 0)]
def gm_277 : gw_M := (12, ⟨"GlassWiresModel", "bleeding", "()I"⟩, prog_14_method_70_code, 5, (some .int), 0, 0, 4, gk_277)
def gk_278 : List (Nat × gw_I) := [(0, .iconst 0, 1, 0, 0), (1, .istore_n 2, 1, 0, 0), (2, .iload_n 1, 1, 0, 0), (3, .tableswitch 147 0 5 #[37, 37, 37, 99, 137, 142], 37, 0, 0), (40, .iconst 0, 1, 0, 0), (41, .istore_n 3, 1, 0, 0), (42, .iload_n 3, 1, 0, 0), (43, .aload_n 0, 1, 0, 0), (44, .invokevirtual 212, 3, 0, 0), (47, .if_icmp .ge 53, 3, 100, 0), (50, .iconst 0, 1, 0, 0), (51, .istore 4, 2, 0, 0), (53, .iload 4, 2, 0, 0), (55, .aload_n 0, 1, 0, 0), (56, .getfield 62, 3, 0, 0), (59, .iload_n 3, 1, 0, 0), (60, .iaload, 1, 0, 0), (61, .if_icmp .ge 33, 3, 94, 0), (64, .iload_n 2, 1, 0, 0), (65, .aload_n 0, 1, 0, 0), (66, .getfield 71, 3, 0, 0), (69, .bipush 12, 2, 0, 12), (71, .iload_n 3, 1, 0, 0), (72, .imul, 1, 0, 0), (73, .iload 4, 2, 0, 0), (75, .iadd, 1, 0, 0), (76, .iaload, 1, 0, 0), (77, .iload_n 1, 1, 0, 0), (78, .if_icmp .ne 7, 3, 85, 0), (81, .iconst 1, 1, 0, 1), (82, .goto 4, 3, 86, 0), (85, .iconst 0, 1, 0, 0), (86, .iadd, 1, 0, 0), (87, .istore_n 2, 1, 0, 0), (88, .iinc 4 1, 3, 0, 1), (91, .goto (-38), 3, 53, 0), (94, .iinc 3 1, 3, 0, 1), (97, .goto (-55), 3, 42, 0), (100, .iload_n 2, 1, 0, 0), (101, .ireturn, 1, 0, 0), (102, .iconst 0, 1, 0, 0), (103, .istore_n 3, 1, 0, 0), (104, .iload_n 3, 1, 0, 0), (105, .aload_n 0, 1, 0, 0), (106, .invokevirtual 212, 3, 0, 0), (109, .if_icmp .ge 29, 3, 138, 0), (112, .iload_n 2, 1, 0, 0), (113, .aload_n 0, 1, 0, 0), (114, .iload_n 3, 1, 0, 0), (115, .invokevirtual 274, 3, 0, 0), (118, .aload_n 0, 1, 0, 0), (119, .getfield 101, 3, 0, 0), (122, .if_icmp .lt 7, 3, 129, 0), (125, .iconst 1, 1, 0, 1), (126, .goto 4, 3, 130, 0), (129, .iconst 0, 1, 0, 0), (130, .iadd, 1, 0, 0), (131, .istore_n 2, 1, 0, 0), (132, .iinc 3 1, 3, 0, 1), (135, .goto (-31), 3, 104, 0), (138, .iload_n 2, 1, 0, 0), (139, .ireturn, 1, 0, 0), (140, .aload_n 0, 1, 0, 0), (141, .invokevirtual 292, 3, 0, 0), (144, .ireturn, 1, 0, 0), (145, .aload_n 0, 1, 0, 0), (146, .getfield 130, 3, 0, 0), (149, .ireturn, 1, 0, 0), (150, .bipush (-102), 2, 0, (-102)), (152, .ireturn, 1, 0, 0)]
def gm_278 : gw_M := (12, ⟨"GlassWiresModel", "state", "(I)I"⟩, prog_14_method_71_code, 5, (some .int), 1, 0, 5, gk_278)
def gk_279 : List (Nat × gw_I) := [(0, .iconst 0, 1, 0, 0), (1, .istore_n 2, 1, 0, 0), (2, .iconst 0, 1, 0, 0), (3, .istore_n 3, 1, 0, 0), (4, .iload_n 3, 1, 0, 0), (5, .aload_n 0, 1, 0, 0), (6, .getfield 101, 3, 0, 0), (9, .iconst 1, 1, 0, 1), (10, .isub, 1, 0, 0), (11, .if_icmp .ge 35, 3, 46, 0), (14, .aload_n 0, 1, 0, 0), (15, .getfield 101, 3, 0, 0), (18, .iload_n 3, 1, 0, 0), (19, .isub, 1, 0, 0), (20, .istore 4, 2, 0, 0), (22, .iload_n 3, 1, 0, 0), (23, .iload 4, 2, 0, 0), (25, .iload 4, 2, 0, 0), (27, .aload_n 0, 1, 0, 0), (28, .getfield 53, 3, 0, 0), (31, .iload_n 1, 1, 0, 0), (32, .iaload, 1, 0, 0), (33, .imul, 1, 0, 0), (34, .bipush 10, 2, 0, 10), (36, .idiv, 1, 0, 0), (37, .isub, 1, 0, 0), (38, .iadd, 1, 0, 0), (39, .istore_n 3, 1, 0, 0), (40, .iinc 2 1, 3, 0, 1), (43, .goto (-39), 3, 4, 0), (46, .iload_n 2, 1, 0, 0), (47, .ireturn, 1, 0, 0)]
def gm_279 : gw_M := (12, ⟨"GlassWiresModel", "fillsOf", "(I)I"⟩, prog_14_method_72_code, 5, (some .int), 1, 0, 1, gk_279)
def gk_280 : List (Nat × gw_I) := [(0, .iload_n 1, 1, 0, 0), (1, .invokestatic 263, 3, 0, 0), (4, .ifCond .eq 11, 3, 15, 0), (7, .aload_n 0, 1, 0, 0), (8, .iload_n 1, 1, 0, 0), (9, .invokevirtual 295, 3, 0, 0), (12, .goto 5, 3, 17, 0), (15, .bipush (-101), 2, 0, (-101)), (17, .ireturn, 1, 0, 0)]
def gm_280 : gw_M := (12, ⟨"GlassWiresModel", "fills", "(I)I"⟩, prog_14_method_73_code, 2, (some .int), 1, 0, 3, gk_280)
def gk_281 : List (Nat × gw_I) := [(0, .aload_n 0, 1, 0, 0), (1, .iconst 0, 1, 0, 0), (2, .putfield 298, 3, 0, 0), (5, .iconst 0, 1, 0, 0), (6, .istore_n 2, 1, 0, 0), (7, .iconst 0, 1, 0, 0), (8, .istore_n 3, 1, 0, 0), (9, .iload_n 3, 1, 0, 0), (10, .bipush 8, 2, 0, 8), (12, .if_icmp .ge 217, 3, 229, 0), (15, .iconst (-1), 1, 0, (-1)), (16, .istore 4, 2, 0, 0), (18, .bipush 7, 2, 0, 7), (20, .istore 5, 2, 0, 0), (22, .iload 5, 2, 0, 0), (24, .ifCond .lt 72, 3, 96, 0), (27, .iload_n 1, 1, 0, 0), (28, .iload 5, 2, 0, 0), (30, .ishr, 1, 0, 0), (31, .iconst 1, 1, 0, 1), (32, .iand, 1, 0, 0), (33, .iconst 1, 1, 0, 1), (34, .if_icmp .ne 16, 3, 50, 0), (37, .iload_n 2, 1, 0, 0), (38, .iload 5, 2, 0, 0), (40, .ishr, 1, 0, 0), (41, .iconst 1, 1, 0, 1), (42, .iand, 1, 0, 0), (43, .ifCond .ne 7, 3, 50, 0), (46, .iconst 1, 1, 0, 1), (47, .goto 4, 3, 51, 0), (50, .iconst 0, 1, 0, 0), (51, .istore 6, 2, 0, 0), (53, .iload 6, 2, 0, 0), (55, .ifCond .eq 31, 3, 86, 0), (58, .iload 4, 2, 0, 0), (60, .iconst (-1), 1, 0, (-1)), (61, .if_icmp .eq 20, 3, 81, 0), (64, .aload_n 0, 1, 0, 0), (65, .getfield 50, 3, 0, 0), (68, .iload 5, 2, 0, 0), (70, .iaload, 1, 0, 0), (71, .aload_n 0, 1, 0, 0), (72, .getfield 50, 3, 0, 0), (75, .iload 4, 2, 0, 0), (77, .iaload, 1, 0, 0), (78, .if_icmp .gt 8, 3, 86, 0), (81, .iload 5, 2, 0, 0), (83, .goto 5, 3, 88, 0), (86, .iload 4, 2, 0, 0), (88, .istore 4, 2, 0, 0), (90, .iinc 5 (-1), 3, 0, (-1)), (93, .goto (-71), 3, 22, 0), (96, .iload 4, 2, 0, 0), (98, .iconst (-1), 1, 0, (-1)), (99, .if_icmp .eq 124, 3, 223, 0), (102, .iload_n 2, 1, 0, 0), (103, .iconst 1, 1, 0, 1), (104, .iload 4, 2, 0, 0), (106, .ishl, 1, 0, 0), (107, .ior, 1, 0, 0), (108, .istore_n 2, 1, 0, 0), (109, .iconst 0, 1, 0, 0), (110, .istore 5, 2, 0, 0), (112, .iconst 0, 1, 0, 0), (113, .istore 6, 2, 0, 0), (115, .iload 6, 2, 0, 0), (117, .aload_n 0, 1, 0, 0), (118, .getfield 298, 3, 0, 0), (121, .if_icmp .ge 52, 3, 173, 0), (124, .iload 5, 2, 0, 0), (126, .aload_n 0, 1, 0, 0), (127, .getfield 80, 3, 0, 0), (130, .iload 6, 2, 0, 0), (132, .iaload, 1, 0, 0), (133, .i2l, 1, 0, 0), (134, .aload_n 0, 1, 0, 0), (135, .getfield 50, 3, 0, 0), (138, .iload 4, 2, 0, 0), (140, .iaload, 1, 0, 0), (141, .i2l, 1, 0, 0), (142, .aload_n 0, 1, 0, 0), (143, .getfield 50, 3, 0, 0), (146, .iload 4, 2, 0, 0), (148, .iaload, 1, 0, 0), (149, .bipush 50, 2, 0, 50), (151, .iadd, 1, 0, 0), (152, .i2l, 1, 0, 0), (153, .invokestatic 140, 3, 0, 0), (156, .ifCond .eq 7, 3, 163, 0), (159, .iconst 1, 1, 0, 1), (160, .goto 4, 3, 164, 0), (163, .iconst 0, 1, 0, 0), (164, .iadd, 1, 0, 0), (165, .istore 5, 2, 0, 0), (167, .iinc 6 1, 3, 0, 1), (170, .goto (-55), 3, 115, 0), (173, .iload 5, 2, 0, 0), (175, .istore 6, 2, 0, 0), (177, .iload 6, 2, 0, 0), (179, .aload_n 0, 1, 0, 0), (180, .iload 4, 2, 0, 0), (182, .invokevirtual 295, 3, 0, 0), (185, .if_icmp .ge 38, 3, 223, 0), (188, .aload_n 0, 1, 0, 0), (189, .getfield 80, 3, 0, 0), (192, .aload_n 0, 1, 0, 0), (193, .getfield 298, 3, 0, 0), (196, .aload_n 0, 1, 0, 0), (197, .getfield 50, 3, 0, 0), (200, .iload 4, 2, 0, 0), (202, .iaload, 1, 0, 0), (203, .bipush 50, 2, 0, 50), (205, .iadd, 1, 0, 0), (206, .iastore, 1, 0, 0), (207, .aload_n 0, 1, 0, 0), (208, .dup, 1, 0, 0), (209, .getfield 298, 3, 0, 0), (212, .iconst 1, 1, 0, 1), (213, .iadd, 1, 0, 0), (214, .putfield 298, 3, 0, 0), (217, .iinc 6 1, 3, 0, 1), (220, .goto (-43), 3, 177, 0), (223, .iinc 3 1, 3, 0, 1), (226, .goto (-217), 3, 9, 0), (229, .return_, 1, 0, 0)]
def gm_281 : gw_M := (12, ⟨"GlassWiresModel", "findPlan", "(I)V"⟩, prog_14_method_74_code, 7, none, 1, 0, 2, gk_281)
def gk_282 : List (Nat × gw_I) := [(0, .iload_n 1, 1, 0, 0), (1, .i2l, 1, 0, 0), (2, .lconst 0, 1, 0, 0), (3, .ldc2_w 144, 3, 0, 0), (6, .invokestatic 140, 3, 0, 0), (9, .ifCond .ne 6, 3, 15, 0), (12, .bipush (-102), 2, 0, (-102)), (14, .ireturn, 1, 0, 0), (15, .aload_n 0, 1, 0, 0), (16, .iload_n 1, 1, 0, 0), (17, .invokevirtual 301, 3, 0, 0), (20, .aload_n 0, 1, 0, 0), (21, .getfield 298, 3, 0, 0), (24, .ireturn, 1, 0, 0)]
def gm_282 : gw_M := (12, ⟨"GlassWiresModel", "plan", "(I)I"⟩, prog_14_method_75_code, 2, (some .int), 1, 0, 3, gk_282)
def gk_283 : List (Nat × gw_I) := [(0, .iload_n 1, 1, 0, 0), (1, .i2l, 1, 0, 0), (2, .lconst 0, 1, 0, 0), (3, .ldc2_w 144, 3, 0, 0), (6, .invokestatic 140, 3, 0, 0), (9, .ifCond .ne 6, 3, 15, 0), (12, .bipush (-102), 2, 0, (-102)), (14, .ireturn, 1, 0, 0), (15, .aload_n 0, 1, 0, 0), (16, .iload_n 1, 1, 0, 0), (17, .invokevirtual 301, 3, 0, 0), (20, .iload_n 2, 1, 0, 0), (21, .i2l, 1, 0, 0), (22, .lconst 0, 1, 0, 0), (23, .aload_n 0, 1, 0, 0), (24, .getfield 298, 3, 0, 0), (27, .iconst 1, 1, 0, 1), (28, .isub, 1, 0, 0), (29, .i2l, 1, 0, 0), (30, .invokestatic 140, 3, 0, 0), (33, .ifCond .eq 19, 3, 52, 0), (36, .aload_n 0, 1, 0, 0), (37, .getfield 80, 3, 0, 0), (40, .aload_n 0, 1, 0, 0), (41, .getfield 298, 3, 0, 0), (44, .iconst 1, 1, 0, 1), (45, .isub, 1, 0, 0), (46, .iload_n 2, 1, 0, 0), (47, .isub, 1, 0, 0), (48, .iaload, 1, 0, 0), (49, .goto 4, 3, 53, 0), (52, .iconst (-1), 1, 0, (-1)), (53, .ireturn, 1, 0, 0)]
def gm_283 : gw_M := (12, ⟨"GlassWiresModel", "heat", "(II)I"⟩, prog_14_method_76_code, 3, (some .int), 2, 0, 3, gk_283)
def gk_284 : List (Nat × gw_I) := [(0, .iload_n 1, 1, 0, 0), (1, .invokestatic 263, 3, 0, 0), (4, .ifCond .ne 6, 3, 10, 0), (7, .bipush (-101), 2, 0, (-101)), (9, .ireturn, 1, 0, 0), (10, .iload_n 2, 1, 0, 0), (11, .i2l, 1, 0, 0), (12, .lconst 0, 1, 0, 0), (13, .ldc2_w 270, 3, 0, 0), (16, .invokestatic 140, 3, 0, 0), (19, .ifCond .ne 6, 3, 25, 0), (22, .bipush (-102), 2, 0, (-102)), (24, .ireturn, 1, 0, 0), (25, .aload_n 0, 1, 0, 0), (26, .iload_n 1, 1, 0, 0), (27, .putfield 124, 3, 0, 0), (30, .aload_n 0, 1, 0, 0), (31, .iload_n 2, 1, 0, 0), (32, .putfield 127, 3, 0, 0), (35, .iconst 1, 1, 0, 1), (36, .ireturn, 1, 0, 0)]
def gm_284 : gw_M := (12, ⟨"GlassWiresModel", "back", "(II)I"⟩, prog_14_method_77_code, 3, (some .int), 2, 0, 3, gk_284)
def gk_285 : List (Nat × gw_I) := [(0, .iconst 0, 1, 0, 0), (1, .istore_n 1, 1, 0, 0), (2, .iconst 0, 1, 0, 0), (3, .istore_n 2, 1, 0, 0), (4, .iload_n 2, 1, 0, 0), (5, .aload_n 0, 1, 0, 0), (6, .invokevirtual 212, 3, 0, 0), (9, .if_icmp .ge 72, 3, 81, 0), (12, .iconst 0, 1, 0, 0), (13, .istore_n 3, 1, 0, 0), (14, .iload_n 3, 1, 0, 0), (15, .aload_n 0, 1, 0, 0), (16, .getfield 62, 3, 0, 0), (19, .iload_n 2, 1, 0, 0), (20, .iaload, 1, 0, 0), (21, .if_icmp .ge 54, 3, 75, 0), (24, .bipush 12, 2, 0, 12), (26, .iload_n 2, 1, 0, 0), (27, .imul, 1, 0, 0), (28, .iload_n 3, 1, 0, 0), (29, .iadd, 1, 0, 0), (30, .istore 4, 2, 0, 0), (32, .iload_n 1, 1, 0, 0), (33, .aload_n 0, 1, 0, 0), (34, .getfield 71, 3, 0, 0), (37, .iload 4, 2, 0, 0), (39, .iaload, 1, 0, 0), (40, .ifCond .le 26, 3, 66, 0), (43, .aload_n 0, 1, 0, 0), (44, .getfield 68, 3, 0, 0), (47, .iload 4, 2, 0, 0), (49, .iaload, 1, 0, 0), (50, .aload_n 0, 1, 0, 0), (51, .getfield 56, 3, 0, 0), (54, .aload_n 0, 1, 0, 0), (55, .getfield 65, 3, 0, 0), (58, .iload 4, 2, 0, 0), (60, .iaload, 1, 0, 0), (61, .iaload, 1, 0, 0), (62, .imul, 1, 0, 0), (63, .goto 4, 3, 67, 0), (66, .iconst 0, 1, 0, 0), (67, .iadd, 1, 0, 0), (68, .istore_n 1, 1, 0, 0), (69, .iinc 3 1, 3, 0, 1), (72, .goto (-58), 3, 14, 0), (75, .iinc 2 1, 3, 0, 1), (78, .goto (-74), 3, 4, 0), (81, .iload_n 1, 1, 0, 0), (82, .ireturn, 1, 0, 0)]
def gm_285 : gw_M := (12, ⟨"GlassWiresModel", "frontPull", "()I"⟩, prog_14_method_78_code, 5, (some .int), 0, 0, 2, gk_285)
def gk_286 : List (Nat × gw_I) := [(0, .iload_n 1, 1, 0, 0), (1, .ifCond .ne 10, 3, 11, 0), (4, .aload_n 0, 1, 0, 0), (5, .invokevirtual 305, 3, 0, 0), (8, .goto 32, 3, 40, 0), (11, .iload_n 1, 1, 0, 0), (12, .iconst 1, 1, 0, 1), (13, .if_icmp .ne 25, 3, 38, 0), (16, .aload_n 0, 1, 0, 0), (17, .invokevirtual 212, 3, 0, 0), (20, .aload_n 0, 1, 0, 0), (21, .getfield 127, 3, 0, 0), (24, .imul, 1, 0, 0), (25, .aload_n 0, 1, 0, 0), (26, .getfield 56, 3, 0, 0), (29, .aload_n 0, 1, 0, 0), (30, .getfield 124, 3, 0, 0), (33, .iaload, 1, 0, 0), (34, .imul, 1, 0, 0), (35, .goto 5, 3, 40, 0), (38, .bipush (-102), 2, 0, (-102)), (40, .ireturn, 1, 0, 0)]
def gm_286 : gw_M := (12, ⟨"GlassWiresModel", "pull", "(I)I"⟩, prog_14_method_79_code, 2, (some .int), 1, 0, 3, gk_286)
def gk_287 : List (Nat × gw_I) := [(0, .aload_n 0, 1, 0, 0), (1, .invokevirtual 305, 3, 0, 0), (4, .aload_n 0, 1, 0, 0), (5, .invokevirtual 212, 3, 0, 0), (8, .iload_n 2, 1, 0, 0), (9, .imul, 1, 0, 0), (10, .aload_n 0, 1, 0, 0), (11, .getfield 56, 3, 0, 0), (14, .iload_n 1, 1, 0, 0), (15, .iaload, 1, 0, 0), (16, .imul, 1, 0, 0), (17, .isub, 1, 0, 0), (18, .aload_n 0, 1, 0, 0), (19, .invokevirtual 212, 3, 0, 0), (22, .idiv, 1, 0, 0), (23, .ireturn, 1, 0, 0)]
def gm_287 : gw_M := (12, ⟨"GlassWiresModel", "bowOf", "(II)I"⟩, prog_14_method_80_code, 3, (some .int), 2, 0, 3, gk_287)
def gk_288 : List (Nat × gw_I) := [(0, .aload_n 0, 1, 0, 0), (1, .aload_n 0, 1, 0, 0), (2, .getfield 124, 3, 0, 0), (5, .aload_n 0, 1, 0, 0), (6, .getfield 127, 3, 0, 0), (9, .invokevirtual 308, 3, 0, 0), (12, .ireturn, 1, 0, 0)]
def gm_288 : gw_M := (12, ⟨"GlassWiresModel", "bowNow", "()I"⟩, prog_14_method_81_code, 1, (some .int), 0, 0, 4, gk_288)
def gk_289 : List (Nat × gw_I) := [(0, .iload_n 1, 1, 0, 0), (1, .ifCond .ne 10, 3, 11, 0), (4, .aload_n 0, 1, 0, 0), (5, .invokevirtual 311, 3, 0, 0), (8, .goto 23, 3, 31, 0), (11, .iload_n 1, 1, 0, 0), (12, .iconst 1, 1, 0, 1), (13, .if_icmp .ne 15, 3, 28, 0), (16, .aload_n 0, 1, 0, 0), (17, .invokevirtual 311, 3, 0, 0), (20, .aload_n 0, 1, 0, 0), (21, .getfield 105, 3, 0, 0), (24, .idiv, 1, 0, 0), (25, .goto 6, 3, 31, 0), (28, .ldc_w 314, 3, 1662, (-1000001)), (31, .ireturn, 1, 0, 0)]
def gm_289 : gw_M := (12, ⟨"GlassWiresModel", "bow", "(I)I"⟩, prog_14_method_82_code, 2, (some .int), 1, 0, 5, gk_289)
def gk_290 : List (Nat × gw_I) := [(0, .iload_n 0, 1, 0, 0), (1, .ifCond .ge 8, 3, 9, 0), (4, .iload_n 0, 1, 0, 0), (5, .ineg, 1, 0, 0), (6, .goto 4, 3, 10, 0), (9, .iload_n 0, 1, 0, 0), (10, .ireturn, 1, 0, 0)]
def gm_290 : gw_M := (12, ⟨"GlassWiresModel", "plain", "(I)I"⟩, prog_14_method_83_code, 1, (some .int), 1, 1, 1, gk_290)
def gk_291 : List (Nat × gw_I) := [(0, .iload_n 1, 1, 0, 0), (1, .invokestatic 263, 3, 0, 0), (4, .ifCond .ne 6, 3, 10, 0), (7, .bipush (-101), 2, 0, (-101)), (9, .ireturn, 1, 0, 0), (10, .iconst 0, 1, 0, 0), (11, .istore_n 2, 1, 0, 0), (12, .iconst 1, 1, 0, 1), (13, .istore_n 3, 1, 0, 0), (14, .iload_n 3, 1, 0, 0), (15, .bipush 100, 2, 0, 100), (17, .if_icmp .ge 36, 3, 53, 0), (20, .aload_n 0, 1, 0, 0), (21, .iload_n 1, 1, 0, 0), (22, .iload_n 3, 1, 0, 0), (23, .invokevirtual 308, 3, 0, 0), (26, .invokestatic 315, 3, 0, 0), (29, .aload_n 0, 1, 0, 0), (30, .iload_n 1, 1, 0, 0), (31, .iload_n 2, 1, 0, 0), (32, .invokevirtual 308, 3, 0, 0), (35, .invokestatic 315, 3, 0, 0), (38, .if_icmp .ge 7, 3, 45, 0), (41, .iload_n 3, 1, 0, 0), (42, .goto 4, 3, 46, 0), (45, .iload_n 2, 1, 0, 0), (46, .istore_n 2, 1, 0, 0), (47, .iinc 3 1, 3, 0, 1), (50, .goto (-36), 3, 14, 0), (53, .iload_n 2, 1, 0, 0), (54, .ireturn, 1, 0, 0)]
def gm_291 : gw_M := (12, ⟨"GlassWiresModel", "straight", "(I)I"⟩, prog_14_method_84_code, 4, (some .int), 1, 0, 4, gk_291)
def gk_292 : List (Nat × gw_I) := [(0, .iload_n 1, 1, 0, 0), (1, .aload_n 0, 1, 0, 0), (2, .invokevirtual 311, 3, 0, 0), (5, .invokestatic 315, 3, 0, 0), (8, .imul, 1, 0, 0), (9, .sipush 1000, 3, 0, 1000), (12, .idiv, 1, 0, 0), (13, .ireturn, 1, 0, 0)]
def gm_292 : gw_M := (12, ⟨"GlassWiresModel", "strainOf", "(I)I"⟩, prog_14_method_85_code, 2, (some .int), 1, 0, 5, gk_292)
def gk_293 : List (Nat × gw_I) := [(0, .iload_n 1, 1, 0, 0), (1, .i2l, 1, 0, 0), (2, .lconst 0, 1, 0, 0), (3, .ldc2_w 272, 3, 0, 0), (6, .invokestatic 140, 3, 0, 0), (9, .ifCond .eq 24, 3, 33, 0), (12, .iload_n 2, 1, 0, 0), (13, .i2l, 1, 0, 0), (14, .lconst 0, 1, 0, 0), (15, .iload_n 1, 1, 0, 0), (16, .i2l, 1, 0, 0), (17, .invokestatic 140, 3, 0, 0), (20, .ifCond .eq 13, 3, 33, 0), (23, .aload_n 0, 1, 0, 0), (24, .iload_n 1, 1, 0, 0), (25, .iload_n 2, 1, 0, 0), (26, .isub, 1, 0, 0), (27, .invokevirtual 318, 3, 0, 0), (30, .goto 5, 3, 35, 0), (33, .bipush (-102), 2, 0, (-102)), (35, .ireturn, 1, 0, 0)]
def gm_293 : gw_M := (12, ⟨"GlassWiresModel", "strain", "(II)I"⟩, prog_14_method_86_code, 3, (some .int), 2, 0, 6, gk_293)
def gk_294 : List (Nat × gw_I) := [(0, .iconst 0, 1, 0, 0), (1, .istore_n 1, 1, 0, 0), (2, .iload_n 1, 1, 0, 0), (3, .sipush 999, 3, 0, 999), (6, .if_icmp .ge 23, 3, 29, 0), (9, .aload_n 0, 1, 0, 0), (10, .iload_n 1, 1, 0, 0), (11, .iconst 1, 1, 0, 1), (12, .iadd, 1, 0, 0), (13, .invokevirtual 318, 3, 0, 0), (16, .aload_n 0, 1, 0, 0), (17, .getfield 108, 3, 0, 0), (20, .if_icmp .gt 9, 3, 29, 0), (23, .iinc 1 1, 3, 0, 1), (26, .goto (-24), 3, 2, 0), (29, .iload_n 1, 1, 0, 0), (30, .ireturn, 1, 0, 0)]
def gm_294 : gw_M := (12, ⟨"GlassWiresModel", "longest", "()I"⟩, prog_14_method_87_code, 2, (some .int), 0, 0, 6, gk_294)
def gk_295 : List (Nat × gw_I) := [(0, .iload_n 1, 1, 0, 0), (1, .i2l, 1, 0, 0), (2, .lconst 0, 1, 0, 0), (3, .ldc2_w 272, 3, 0, 0), (6, .invokestatic 140, 3, 0, 0), (9, .ifCond .ne 6, 3, 15, 0), (12, .bipush (-102), 2, 0, (-102)), (14, .ireturn, 1, 0, 0), (15, .iload_n 1, 1, 0, 0), (16, .ifCond .ne 5, 3, 21, 0), (19, .iconst 0, 1, 0, 0), (20, .ireturn, 1, 0, 0), (21, .aload_n 0, 1, 0, 0), (22, .invokevirtual 321, 3, 0, 0), (25, .istore_n 2, 1, 0, 0), (26, .iload_n 2, 1, 0, 0), (27, .ifCond .ne 7, 3, 34, 0), (30, .iconst (-1), 1, 0, (-1)), (31, .goto 10, 3, 41, 0), (34, .iload_n 1, 1, 0, 0), (35, .iload_n 2, 1, 0, 0), (36, .iadd, 1, 0, 0), (37, .iconst 1, 1, 0, 1), (38, .isub, 1, 0, 0), (39, .iload_n 2, 1, 0, 0), (40, .idiv, 1, 0, 0), (41, .ireturn, 1, 0, 0)]
def gm_295 : gw_M := (12, ⟨"GlassWiresModel", "cooling", "(I)I"⟩, prog_14_method_88_code, 3, (some .int), 1, 0, 7, gk_295)
def gk_296 : List (Nat × gw_I) := [(0, .iload_n 1, 1, 0, 0), (1, .i2l, 1, 0, 0), (2, .lconst 0, 1, 0, 0), (3, .ldc2_w 272, 3, 0, 0), (6, .invokestatic 140, 3, 0, 0), (9, .ifCond .ne 6, 3, 15, 0), (12, .bipush (-102), 2, 0, (-102)), (14, .ireturn, 1, 0, 0), (15, .iload_n 2, 1, 0, 0), (16, .ifCond .ne 5, 3, 21, 0), (19, .iload_n 1, 1, 0, 0), (20, .ireturn, 1, 0, 0), (21, .aload_n 0, 1, 0, 0), (22, .invokevirtual 321, 3, 0, 0), (25, .istore_n 3, 1, 0, 0), (26, .iload_n 2, 1, 0, 0), (27, .ifCond .lt 22, 3, 49, 0), (30, .iload_n 1, 1, 0, 0), (31, .ifCond .eq 18, 3, 49, 0), (34, .iload_n 3, 1, 0, 0), (35, .ifCond .eq 14, 3, 49, 0), (38, .iload_n 2, 1, 0, 0), (39, .iload_n 1, 1, 0, 0), (40, .iload_n 3, 1, 0, 0), (41, .iadd, 1, 0, 0), (42, .iconst 1, 1, 0, 1), (43, .isub, 1, 0, 0), (44, .iload_n 3, 1, 0, 0), (45, .idiv, 1, 0, 0), (46, .if_icmp .le 5, 3, 51, 0), (49, .iconst (-1), 1, 0, (-1)), (50, .ireturn, 1, 0, 0), (51, .iload_n 1, 1, 0, 0), (52, .iload_n 2, 1, 0, 0), (53, .iload_n 3, 1, 0, 0), (54, .imul, 1, 0, 0), (55, .isub, 1, 0, 0), (56, .istore 4, 2, 0, 0), (58, .iload 4, 2, 0, 0), (60, .ifCond .ge 7, 3, 67, 0), (63, .iconst 0, 1, 0, 0), (64, .goto 5, 3, 69, 0), (67, .iload 4, 2, 0, 0), (69, .ireturn, 1, 0, 0)]
def gm_296 : gw_M := (12, ⟨"GlassWiresModel", "cool", "(II)I"⟩, prog_14_method_89_code, 5, (some .int), 2, 0, 7, gk_296)
def gk_297 : List (Nat × gw_I) := [(0, .iconst 0, 1, 0, 0), (1, .istore_n 3, 1, 0, 0), (2, .iconst 0, 1, 0, 0), (3, .istore 4, 2, 0, 0), (5, .iload 4, 2, 0, 0), (7, .aload_n 0, 1, 0, 0), (8, .invokevirtual 212, 3, 0, 0), (11, .if_icmp .ge 78, 3, 89, 0), (14, .iload_n 3, 1, 0, 0), (15, .ifCond .ne 62, 3, 77, 0), (18, .aload_n 0, 1, 0, 0), (19, .getfield 38, 3, 0, 0), (22, .iload 4, 2, 0, 0), (24, .iaload, 1, 0, 0), (25, .iload_n 1, 1, 0, 0), (26, .if_icmp .ne 55, 3, 81, 0), (29, .aload_n 0, 1, 0, 0), (30, .getfield 62, 3, 0, 0), (33, .iload 4, 2, 0, 0), (35, .iaload, 1, 0, 0), (36, .ifCond .le 45, 3, 81, 0), (39, .aload_n 0, 1, 0, 0), (40, .getfield 71, 3, 0, 0), (43, .aload_n 0, 1, 0, 0), (44, .iload 4, 2, 0, 0), (46, .invokevirtual 286, 3, 0, 0), (49, .iaload, 1, 0, 0), (50, .iconst 1, 1, 0, 1), (51, .if_icmp .ne 30, 3, 81, 0), (54, .aload_n 0, 1, 0, 0), (55, .getfield 50, 3, 0, 0), (58, .aload_n 0, 1, 0, 0), (59, .getfield 65, 3, 0, 0), (62, .aload_n 0, 1, 0, 0), (63, .iload 4, 2, 0, 0), (65, .invokevirtual 286, 3, 0, 0), (68, .iaload, 1, 0, 0), (69, .iaload, 1, 0, 0), (70, .bipush 50, 2, 0, 50), (72, .iadd, 1, 0, 0), (73, .iload_n 2, 1, 0, 0), (74, .if_icmp .ge 7, 3, 81, 0), (77, .iconst 1, 1, 0, 1), (78, .goto 4, 3, 82, 0), (81, .iconst 0, 1, 0, 0), (82, .istore_n 3, 1, 0, 0), (83, .iinc 4 1, 3, 0, 1), (86, .goto (-81), 3, 5, 0), (89, .iload_n 3, 1, 0, 0), (90, .ireturn, 1, 0, 0)]
def gm_297 : gw_M := (12, ⟨"GlassWiresModel", "isHarmed", "(II)Z"⟩, prog_14_method_90_code, 5, (some .boolean), 2, 0, 2, gk_297)
def gk_298 : List (Nat × gw_I) := [(0, .iconst 0, 1, 0, 0), (1, .istore_n 3, 1, 0, 0), (2, .iconst 0, 1, 0, 0), (3, .istore 4, 2, 0, 0), (5, .iload 4, 2, 0, 0), (7, .aload_n 0, 1, 0, 0), (8, .invokevirtual 212, 3, 0, 0), (11, .if_icmp .ge 45, 3, 56, 0), (14, .iload_n 3, 1, 0, 0), (15, .aload_n 0, 1, 0, 0), (16, .getfield 38, 3, 0, 0), (19, .iload 4, 2, 0, 0), (21, .iaload, 1, 0, 0), (22, .iload 4, 2, 0, 0), (24, .if_icmp .ne 23, 3, 47, 0), (27, .iload 4, 2, 0, 0), (29, .iload_n 1, 1, 0, 0), (30, .if_icmp .eq 17, 3, 47, 0), (33, .aload_n 0, 1, 0, 0), (34, .iload 4, 2, 0, 0), (36, .iload_n 2, 1, 0, 0), (37, .invokevirtual 324, 3, 0, 0), (40, .ifCond .eq 7, 3, 47, 0), (43, .iconst 1, 1, 0, 1), (44, .goto 4, 3, 48, 0), (47, .iconst 0, 1, 0, 0), (48, .iadd, 1, 0, 0), (49, .istore_n 3, 1, 0, 0), (50, .iinc 4 1, 3, 0, 1), (53, .goto (-48), 3, 5, 0), (56, .iload_n 3, 1, 0, 0), (57, .ireturn, 1, 0, 0)]
def gm_298 : gw_M := (12, ⟨"GlassWiresModel", "harmsOf", "(II)I"⟩, prog_14_method_91_code, 5, (some .int), 2, 0, 3, gk_298)
def gk_299 : List (Nat × gw_I) := [(0, .aload_n 0, 1, 0, 0), (1, .iload_n 1, 1, 0, 0), (2, .invokevirtual 240, 3, 0, 0), (5, .ifCond .ne 6, 3, 11, 0), (8, .bipush (-101), 2, 0, (-101)), (10, .ireturn, 1, 0, 0), (11, .iload_n 2, 1, 0, 0), (12, .i2l, 1, 0, 0), (13, .lconst 1, 1, 0, 0), (14, .ldc2_w 272, 3, 0, 0), (17, .invokestatic 140, 3, 0, 0), (20, .ifCond .eq 12, 3, 32, 0), (23, .aload_n 0, 1, 0, 0), (24, .iload_n 1, 1, 0, 0), (25, .iload_n 2, 1, 0, 0), (26, .invokevirtual 327, 3, 0, 0), (29, .goto 5, 3, 34, 0), (32, .bipush (-102), 2, 0, (-102)), (34, .ireturn, 1, 0, 0)]
def gm_299 : gw_M := (12, ⟨"GlassWiresModel", "harms", "(II)I"⟩, prog_14_method_92_code, 3, (some .int), 2, 0, 5, gk_299)
def gk_300 : List (Nat × gw_I) := [(0, .aload_n 0, 1, 0, 0), (1, .iload_n 1, 1, 0, 0), (2, .invokevirtual 240, 3, 0, 0), (5, .ifCond .eq 10, 3, 15, 0), (8, .iload_n 2, 1, 0, 0), (9, .invokestatic 263, 3, 0, 0), (12, .ifCond .ne 6, 3, 18, 0), (15, .bipush (-101), 2, 0, (-101)), (17, .ireturn, 1, 0, 0), (18, .iload_n 3, 1, 0, 0), (19, .i2l, 1, 0, 0), (20, .lconst 0, 1, 0, 0), (21, .lconst 1, 1, 0, 0), (22, .invokestatic 140, 3, 0, 0), (25, .ifCond .ne 6, 3, 31, 0), (28, .bipush (-102), 2, 0, (-102)), (30, .ireturn, 1, 0, 0), (31, .aload_n 0, 1, 0, 0), (32, .getfield 50, 3, 0, 0), (35, .iload_n 2, 1, 0, 0), (36, .iaload, 1, 0, 0), (37, .istore 4, 2, 0, 0), (39, .aload_n 0, 1, 0, 0), (40, .iload_n 1, 1, 0, 0), (41, .iload 4, 2, 0, 0), (43, .invokevirtual 327, 3, 0, 0), (46, .ifCond .le 5, 3, 51, 0), (49, .iconst (-1), 1, 0, (-1)), (50, .ireturn, 1, 0, 0), (51, .iload_n 3, 1, 0, 0), (52, .iconst 1, 1, 0, 1), (53, .if_icmp .ne 29, 3, 82, 0), (56, .iload 4, 2, 0, 0), (58, .sipush 999, 3, 0, 999), (61, .if_icmp .ge 21, 3, 82, 0), (64, .aload_n 0, 1, 0, 0), (65, .iload_n 1, 1, 0, 0), (66, .iload 4, 2, 0, 0), (68, .iconst 1, 1, 0, 1), (69, .iadd, 1, 0, 0), (70, .invokevirtual 327, 3, 0, 0), (73, .ifCond .ne 9, 3, 82, 0), (76, .iinc 4 1, 3, 0, 1), (79, .goto (-28), 3, 51, 0), (82, .iload 4, 2, 0, 0), (84, .ireturn, 1, 0, 0)]
def gm_300 : gw_M := (12, ⟨"GlassWiresModel", "safe", "(III)I"⟩, prog_14_method_93_code, 5, (some .int), 3, 0, 5, gk_300)
def gk_301 : List (Nat × gw_I) := [(0, .iload_n 1, 1, 0, 0), (1, .i2l, 1, 0, 0), (2, .lconst 1, 1, 0, 0), (3, .ldc2_w 270, 3, 0, 0), (6, .invokestatic 140, 3, 0, 0), (9, .ifCond .eq 15, 3, 24, 0), (12, .iload_n 2, 1, 0, 0), (13, .i2l, 1, 0, 0), (14, .lconst 0, 1, 0, 0), (15, .ldc2_w 330, 3, 0, 0), (18, .invokestatic 140, 3, 0, 0), (21, .ifCond .ne 6, 3, 27, 0), (24, .bipush (-102), 2, 0, (-102)), (26, .ireturn, 1, 0, 0), (27, .aload_n 0, 1, 0, 0), (28, .getfield 133, 3, 0, 0), (31, .bipush 8, 2, 0, 8), (33, .if_icmp .ne 6, 3, 39, 0), (36, .bipush (-104), 2, 0, (-104)), (38, .ireturn, 1, 0, 0), (39, .aload_n 0, 1, 0, 0), (40, .getfield 83, 3, 0, 0), (43, .aload_n 0, 1, 0, 0), (44, .getfield 133, 3, 0, 0), (47, .iload_n 1, 1, 0, 0), (48, .iastore, 1, 0, 0), (49, .aload_n 0, 1, 0, 0), (50, .getfield 86, 3, 0, 0), (53, .aload_n 0, 1, 0, 0), (54, .getfield 133, 3, 0, 0), (57, .iload_n 2, 1, 0, 0), (58, .iastore, 1, 0, 0), (59, .aload_n 0, 1, 0, 0), (60, .dup, 1, 0, 0), (61, .getfield 133, 3, 0, 0), (64, .iconst 1, 1, 0, 1), (65, .iadd, 1, 0, 0), (66, .putfield 133, 3, 0, 0), (69, .aload_n 0, 1, 0, 0), (70, .getfield 133, 3, 0, 0), (73, .iconst 1, 1, 0, 1), (74, .isub, 1, 0, 0), (75, .ireturn, 1, 0, 0)]
def gm_301 : gw_M := (12, ⟨"GlassWiresModel", "rod", "(II)I"⟩, prog_14_method_94_code, 3, (some .int), 2, 0, 2, gk_301)
def gk_302 : List (Nat × gw_I) := [(0, .iconst 0, 1, 0, 0), (1, .istore_n 1, 1, 0, 0), (2, .iconst 0, 1, 0, 0), (3, .istore_n 2, 1, 0, 0), (4, .iload_n 2, 1, 0, 0), (5, .bipush 8, 2, 0, 8), (7, .if_icmp .ge 16, 3, 23, 0), (10, .aload_n 0, 1, 0, 0), (11, .getfield 95, 3, 0, 0), (14, .iload_n 2, 1, 0, 0), (15, .iconst 0, 1, 0, 0), (16, .iastore, 1, 0, 0), (17, .iinc 2 1, 3, 0, 1), (20, .goto (-16), 3, 4, 0), (23, .iconst 0, 1, 0, 0), (24, .istore_n 2, 1, 0, 0), (25, .iload_n 2, 1, 0, 0), (26, .aload_n 0, 1, 0, 0), (27, .getfield 332, 3, 0, 0), (30, .if_icmp .ge 54, 3, 84, 0), (33, .aload_n 0, 1, 0, 0), (34, .getfield 95, 3, 0, 0), (37, .aload_n 0, 1, 0, 0), (38, .getfield 92, 3, 0, 0), (41, .iload_n 2, 1, 0, 0), (42, .iaload, 1, 0, 0), (43, .dup2, 1, 0, 0), (44, .iaload, 1, 0, 0), (45, .aload_n 0, 1, 0, 0), (46, .getfield 89, 3, 0, 0), (49, .iload_n 2, 1, 0, 0), (50, .iaload, 1, 0, 0), (51, .iadd, 1, 0, 0), (52, .iastore, 1, 0, 0), (53, .aload_n 0, 1, 0, 0), (54, .getfield 92, 3, 0, 0), (57, .iload_n 2, 1, 0, 0), (58, .iaload, 1, 0, 0), (59, .iconst 1, 1, 0, 1), (60, .iadd, 1, 0, 0), (61, .iload_n 1, 1, 0, 0), (62, .if_icmp .le 14, 3, 76, 0), (65, .aload_n 0, 1, 0, 0), (66, .getfield 92, 3, 0, 0), (69, .iload_n 2, 1, 0, 0), (70, .iaload, 1, 0, 0), (71, .iconst 1, 1, 0, 1), (72, .iadd, 1, 0, 0), (73, .goto 4, 3, 77, 0), (76, .iload_n 1, 1, 0, 0), (77, .istore_n 1, 1, 0, 0), (78, .iinc 2 1, 3, 0, 1), (81, .goto (-56), 3, 25, 0), (84, .iload_n 1, 1, 0, 0), (85, .ireturn, 1, 0, 0)]
def gm_302 : gw_M := (12, ⟨"GlassWiresModel", "layGroups", "()I"⟩, prog_14_method_95_code, 3, (some .int), 0, 0, 1, gk_302)
def gk_303 : List (Nat × gw_I) := [(0, .iconst 0, 1, 0, 0), (1, .istore_n 2, 1, 0, 0), (2, .iload_n 2, 1, 0, 0), (3, .aload_n 0, 1, 0, 0), (4, .getfield 133, 3, 0, 0), (7, .if_icmp .ge 21, 3, 28, 0), (10, .aload_n 0, 1, 0, 0), (11, .getfield 98, 3, 0, 0), (14, .iload_n 2, 1, 0, 0), (15, .aload_n 0, 1, 0, 0), (16, .getfield 86, 3, 0, 0), (19, .iload_n 2, 1, 0, 0), (20, .iaload, 1, 0, 0), (21, .iastore, 1, 0, 0), (22, .iinc 2 1, 3, 0, 1), (25, .goto (-23), 3, 2, 0), (28, .iconst 0, 1, 0, 0), (29, .istore_n 2, 1, 0, 0), (30, .iconst 0, 1, 0, 0), (31, .istore_n 3, 1, 0, 0), (32, .iconst 0, 1, 0, 0), (33, .istore 4, 2, 0, 0), (35, .iload 4, 2, 0, 0), (37, .iload_n 1, 1, 0, 0), (38, .if_icmp .ge 196, 3, 234, 0), (41, .iconst (-1), 1, 0, (-1)), (42, .istore 5, 2, 0, 0), (44, .iconst 0, 1, 0, 0), (45, .istore 6, 2, 0, 0), (47, .iload 6, 2, 0, 0), (49, .iload_n 1, 1, 0, 0), (50, .if_icmp .ge 50, 3, 100, 0), (53, .iload_n 3, 1, 0, 0), (54, .iload 6, 2, 0, 0), (56, .ishr, 1, 0, 0), (57, .iconst 1, 1, 0, 1), (58, .iand, 1, 0, 0), (59, .ifCond .ne 31, 3, 90, 0), (62, .iload 5, 2, 0, 0), (64, .iconst (-1), 1, 0, (-1)), (65, .if_icmp .eq 20, 3, 85, 0), (68, .aload_n 0, 1, 0, 0), (69, .getfield 95, 3, 0, 0), (72, .iload 6, 2, 0, 0), (74, .iaload, 1, 0, 0), (75, .aload_n 0, 1, 0, 0), (76, .getfield 95, 3, 0, 0), (79, .iload 5, 2, 0, 0), (81, .iaload, 1, 0, 0), (82, .if_icmp .le 8, 3, 90, 0), (85, .iload 6, 2, 0, 0), (87, .goto 5, 3, 92, 0), (90, .iload 5, 2, 0, 0), (92, .istore 5, 2, 0, 0), (94, .iinc 6 1, 3, 0, 1), (97, .goto (-50), 3, 47, 0), (100, .iload_n 3, 1, 0, 0), (101, .iconst 1, 1, 0, 1), (102, .iload 5, 2, 0, 0), (104, .ishl, 1, 0, 0), (105, .ior, 1, 0, 0), (106, .istore_n 3, 1, 0, 0), (107, .iconst (-1), 1, 0, (-1)), (108, .istore 6, 2, 0, 0), (110, .iconst 0, 1, 0, 0), (111, .istore 7, 2, 0, 0), (113, .iload 7, 2, 0, 0), (115, .aload_n 0, 1, 0, 0), (116, .getfield 133, 3, 0, 0), (119, .if_icmp .ge 80, 3, 199, 0), (122, .aload_n 0, 1, 0, 0), (123, .getfield 98, 3, 0, 0), (126, .iload 7, 2, 0, 0), (128, .iaload, 1, 0, 0), (129, .ifCond .le 24, 3, 153, 0), (132, .aload_n 0, 1, 0, 0), (133, .getfield 83, 3, 0, 0), (136, .iload 7, 2, 0, 0), (138, .iaload, 1, 0, 0), (139, .aload_n 0, 1, 0, 0), (140, .getfield 95, 3, 0, 0), (143, .iload 5, 2, 0, 0), (145, .iaload, 1, 0, 0), (146, .if_icmp .lt 7, 3, 153, 0), (149, .iconst 1, 1, 0, 1), (150, .goto 4, 3, 154, 0), (153, .iconst 0, 1, 0, 0), (154, .istore 8, 2, 0, 0), (156, .iload 8, 2, 0, 0), (158, .ifCond .eq 31, 3, 189, 0), (161, .iload 6, 2, 0, 0), (163, .iconst (-1), 1, 0, (-1)), (164, .if_icmp .eq 20, 3, 184, 0), (167, .aload_n 0, 1, 0, 0), (168, .getfield 83, 3, 0, 0), (171, .iload 7, 2, 0, 0), (173, .iaload, 1, 0, 0), (174, .aload_n 0, 1, 0, 0), (175, .getfield 83, 3, 0, 0), (178, .iload 6, 2, 0, 0), (180, .iaload, 1, 0, 0), (181, .if_icmp .ge 8, 3, 189, 0), (184, .iload 7, 2, 0, 0), (186, .goto 5, 3, 191, 0), (189, .iload 6, 2, 0, 0), (191, .istore 6, 2, 0, 0), (193, .iinc 7 1, 3, 0, 1), (196, .goto (-83), 3, 113, 0), (199, .iload 6, 2, 0, 0), (201, .iconst (-1), 1, 0, (-1)), (202, .if_icmp .ne 5, 3, 207, 0), (205, .iconst (-1), 1, 0, (-1)), (206, .ireturn, 1, 0, 0), (207, .aload_n 0, 1, 0, 0), (208, .getfield 98, 3, 0, 0), (211, .iload 6, 2, 0, 0), (213, .dup2, 1, 0, 0), (214, .iaload, 1, 0, 0), (215, .iconst 1, 1, 0, 1), (216, .isub, 1, 0, 0), (217, .iastore, 1, 0, 0), (218, .iload_n 2, 1, 0, 0), (219, .aload_n 0, 1, 0, 0), (220, .getfield 83, 3, 0, 0), (223, .iload 6, 2, 0, 0), (225, .iaload, 1, 0, 0), (226, .iadd, 1, 0, 0), (227, .istore_n 2, 1, 0, 0), (228, .iinc 4 1, 3, 0, 1), (231, .goto (-196), 3, 35, 0), (234, .iload_n 2, 1, 0, 0), (235, .ireturn, 1, 0, 0)]
def gm_303 : gw_M := (12, ⟨"GlassWiresModel", "giveRods", "(I)I"⟩, prog_14_method_96_code, 9, (some .int), 1, 0, 1, gk_303)
def gk_304 : List (Nat × gw_I) := [(0, .aload_n 0, 1, 0, 0), (1, .getfield 332, 3, 0, 0), (4, .iconst 1, 1, 0, 1), (5, .isub, 1, 0, 0), (6, .istore_n 1, 1, 0, 0), (7, .iload_n 1, 1, 0, 0), (8, .ifCond .le 92, 3, 100, 0), (11, .iconst 0, 1, 0, 0), (12, .istore_n 2, 1, 0, 0), (13, .iconst 0, 1, 0, 0), (14, .istore_n 3, 1, 0, 0), (15, .iload_n 3, 1, 0, 0), (16, .iload_n 1, 1, 0, 0), (17, .if_icmp .ge 30, 3, 47, 0), (20, .aload_n 0, 1, 0, 0), (21, .getfield 92, 3, 0, 0), (24, .iload_n 3, 1, 0, 0), (25, .iaload, 1, 0, 0), (26, .iload_n 2, 1, 0, 0), (27, .if_icmp .le 12, 3, 39, 0), (30, .aload_n 0, 1, 0, 0), (31, .getfield 92, 3, 0, 0), (34, .iload_n 3, 1, 0, 0), (35, .iaload, 1, 0, 0), (36, .goto 4, 3, 40, 0), (39, .iload_n 2, 1, 0, 0), (40, .istore_n 2, 1, 0, 0), (41, .iinc 3 1, 3, 0, 1), (44, .goto (-29), 3, 15, 0), (47, .aload_n 0, 1, 0, 0), (48, .getfield 92, 3, 0, 0), (51, .iload_n 1, 1, 0, 0), (52, .iaload, 1, 0, 0), (53, .iload_n 2, 1, 0, 0), (54, .if_icmp .gt 40, 3, 94, 0), (57, .aload_n 0, 1, 0, 0), (58, .getfield 92, 3, 0, 0), (61, .iload_n 1, 1, 0, 0), (62, .dup2, 1, 0, 0), (63, .iaload, 1, 0, 0), (64, .iconst 1, 1, 0, 1), (65, .iadd, 1, 0, 0), (66, .iastore, 1, 0, 0), (67, .iload_n 1, 1, 0, 0), (68, .iconst 1, 1, 0, 1), (69, .iadd, 1, 0, 0), (70, .istore_n 3, 1, 0, 0), (71, .iload_n 3, 1, 0, 0), (72, .aload_n 0, 1, 0, 0), (73, .getfield 332, 3, 0, 0), (76, .if_icmp .ge 16, 3, 92, 0), (79, .aload_n 0, 1, 0, 0), (80, .getfield 92, 3, 0, 0), (83, .iload_n 3, 1, 0, 0), (84, .iconst 0, 1, 0, 0), (85, .iastore, 1, 0, 0), (86, .iinc 3 1, 3, 0, 1), (89, .goto (-18), 3, 71, 0), (92, .iconst 1, 1, 0, 1), (93, .ireturn, 1, 0, 0), (94, .iinc 1 (-1), 3, 0, (-1)), (97, .goto (-90), 3, 7, 0), (100, .iconst 0, 1, 0, 0), (101, .ireturn, 1, 0, 0)]
def gm_304 : gw_M := (12, ⟨"GlassWiresModel", "nextGroups", "()Z"⟩, prog_14_method_97_code, 4, (some .boolean), 0, 0, 1, gk_304)
def gk_305 : List (Nat × gw_I) := [(0, .iconst 0, 1, 0, 0), (1, .istore_n 1, 1, 0, 0), (2, .iconst 0, 1, 0, 0), (3, .istore_n 2, 1, 0, 0), (4, .iload_n 2, 1, 0, 0), (5, .aload_n 0, 1, 0, 0), (6, .getfield 121, 3, 0, 0), (9, .if_icmp .ge 26, 3, 35, 0), (12, .iload_n 1, 1, 0, 0), (13, .aload_n 0, 1, 0, 0), (14, .getfield 22, 3, 0, 0), (17, .iload_n 2, 1, 0, 0), (18, .baload, 1, 0, 0), (19, .ifCond .eq 7, 3, 26, 0), (22, .iconst 1, 1, 0, 1), (23, .goto 4, 3, 27, 0), (26, .iconst 0, 1, 0, 0), (27, .iadd, 1, 0, 0), (28, .istore_n 1, 1, 0, 0), (29, .iinc 2 1, 3, 0, 1), (32, .goto (-28), 3, 4, 0), (35, .iload_n 1, 1, 0, 0), (36, .ireturn, 1, 0, 0)]
def gm_305 : gw_M := (12, ⟨"GlassWiresModel", "laidWires", "()I"⟩, prog_14_method_98_code, 3, (some .int), 0, 0, 1, gk_305)
def gk_306 : List (Nat × gw_I) := [(0, .iload_n 1, 1, 0, 0), (1, .i2l, 1, 0, 0), (2, .lconst 0, 1, 0, 0), (3, .lconst 1, 1, 0, 0), (4, .invokestatic 140, 3, 0, 0), (7, .ifCond .ne 6, 3, 13, 0), (10, .bipush (-102), 2, 0, (-102)), (12, .ireturn, 1, 0, 0), (13, .aload_n 0, 1, 0, 0), (14, .invokevirtual 335, 3, 0, 0), (17, .bipush 8, 2, 0, 8), (19, .if_icmp .le 6, 3, 25, 0), (22, .bipush (-103), 2, 0, (-103)), (24, .ireturn, 1, 0, 0), (25, .aload_n 0, 1, 0, 0), (26, .iconst 0, 1, 0, 0), (27, .putfield 332, 3, 0, 0), (30, .iconst 0, 1, 0, 0), (31, .istore_n 2, 1, 0, 0), (32, .iconst 0, 1, 0, 0), (33, .istore_n 3, 1, 0, 0), (34, .iload_n 3, 1, 0, 0), (35, .aload_n 0, 1, 0, 0), (36, .getfield 121, 3, 0, 0), (39, .if_icmp .ge 62, 3, 101, 0), (42, .aload_n 0, 1, 0, 0), (43, .getfield 22, 3, 0, 0), (46, .iload_n 3, 1, 0, 0), (47, .baload, 1, 0, 0), (48, .ifCond .eq 47, 3, 95, 0), (51, .aload_n 0, 1, 0, 0), (52, .getfield 89, 3, 0, 0), (55, .aload_n 0, 1, 0, 0), (56, .getfield 332, 3, 0, 0), (59, .aload_n 0, 1, 0, 0), (60, .getfield 19, 3, 0, 0), (63, .iload_n 3, 1, 0, 0), (64, .iaload, 1, 0, 0), (65, .iastore, 1, 0, 0), (66, .aload_n 0, 1, 0, 0), (67, .getfield 92, 3, 0, 0), (70, .aload_n 0, 1, 0, 0), (71, .getfield 332, 3, 0, 0), (74, .iconst 0, 1, 0, 0), (75, .iastore, 1, 0, 0), (76, .aload_n 0, 1, 0, 0), (77, .dup, 1, 0, 0), (78, .getfield 332, 3, 0, 0), (81, .iconst 1, 1, 0, 1), (82, .iadd, 1, 0, 0), (83, .putfield 332, 3, 0, 0), (86, .iload_n 2, 1, 0, 0), (87, .aload_n 0, 1, 0, 0), (88, .getfield 19, 3, 0, 0), (91, .iload_n 3, 1, 0, 0), (92, .iaload, 1, 0, 0), (93, .iadd, 1, 0, 0), (94, .istore_n 2, 1, 0, 0), (95, .iinc 3 1, 3, 0, 1), (98, .goto (-64), 3, 34, 0), (101, .aload_n 0, 1, 0, 0), (102, .getfield 332, 3, 0, 0), (105, .ifCond .ne 5, 3, 110, 0), (108, .iconst 0, 1, 0, 0), (109, .ireturn, 1, 0, 0), (110, .iconst (-1), 1, 0, (-1)), (111, .istore_n 3, 1, 0, 0), (112, .iconst 0, 1, 0, 0), (113, .istore 4, 2, 0, 0), (115, .iconst 1, 1, 0, 1), (116, .istore 5, 2, 0, 0), (118, .iload 5, 2, 0, 0), (120, .ifCond .eq 63, 3, 183, 0), (123, .aload_n 0, 1, 0, 0), (124, .invokevirtual 338, 3, 0, 0), (127, .istore 6, 2, 0, 0), (129, .aload_n 0, 1, 0, 0), (130, .iload 6, 2, 0, 0), (132, .invokevirtual 341, 3, 0, 0), (135, .istore 7, 2, 0, 0), (137, .iload 7, 2, 0, 0), (139, .iconst (-1), 1, 0, (-1)), (140, .if_icmp .eq 34, 3, 174, 0), (143, .iload_n 3, 1, 0, 0), (144, .iconst (-1), 1, 0, (-1)), (145, .if_icmp .eq 22, 3, 167, 0), (148, .iload 6, 2, 0, 0), (150, .iload_n 3, 1, 0, 0), (151, .if_icmp .lt 16, 3, 167, 0), (154, .iload 6, 2, 0, 0), (156, .iload_n 3, 1, 0, 0), (157, .if_icmp .ne 17, 3, 174, 0), (160, .iload 7, 2, 0, 0), (162, .iload 4, 2, 0, 0), (164, .if_icmp .ge 10, 3, 174, 0), (167, .iload 6, 2, 0, 0), (169, .istore_n 3, 1, 0, 0), (170, .iload 7, 2, 0, 0), (172, .istore 4, 2, 0, 0), (174, .aload_n 0, 1, 0, 0), (175, .invokevirtual 344, 3, 0, 0), (178, .istore 5, 2, 0, 0), (180, .goto (-62), 3, 118, 0), (183, .iload_n 3, 1, 0, 0), (184, .iconst (-1), 1, 0, (-1)), (185, .if_icmp .ne 7, 3, 192, 0), (188, .iconst (-1), 1, 0, (-1)), (189, .goto 15, 3, 204, 0), (192, .iload_n 1, 1, 0, 0), (193, .ifCond .ne 7, 3, 200, 0), (196, .iload_n 3, 1, 0, 0), (197, .goto 7, 3, 204, 0), (200, .iload 4, 2, 0, 0), (202, .iload_n 2, 1, 0, 0), (203, .isub, 1, 0, 0), (204, .ireturn, 1, 0, 0)]
def gm_306 : gw_M := (12, ⟨"GlassWiresModel", "cut", "(I)I"⟩, prog_14_method_99_code, 8, (some .int), 1, 0, 2, gk_306)
def gk_307 : List (Nat × gw_I) := [(0, .iconst 0, 1, 0, 0), (1, .istore_n 2, 1, 0, 0), (2, .iload_n 1, 1, 0, 0), (3, .tableswitch 89 0 5 #[37, 42, 47, 52, 57, 62], 37, 0, 0), (40, .aload_n 0, 1, 0, 0), (41, .invokevirtual 212, 3, 0, 0), (44, .ireturn, 1, 0, 0), (45, .aload_n 0, 1, 0, 0), (46, .getfield 121, 3, 0, 0), (49, .ireturn, 1, 0, 0), (50, .aload_n 0, 1, 0, 0), (51, .invokevirtual 335, 3, 0, 0), (54, .ireturn, 1, 0, 0), (55, .aload_n 0, 1, 0, 0), (56, .getfield 146, 3, 0, 0), (59, .ireturn, 1, 0, 0), (60, .aload_n 0, 1, 0, 0), (61, .getfield 133, 3, 0, 0), (64, .ireturn, 1, 0, 0), (65, .iconst 0, 1, 0, 0), (66, .istore_n 3, 1, 0, 0), (67, .iload_n 3, 1, 0, 0), (68, .aload_n 0, 1, 0, 0), (69, .invokevirtual 212, 3, 0, 0), (72, .if_icmp .ge 18, 3, 90, 0), (75, .iload_n 2, 1, 0, 0), (76, .aload_n 0, 1, 0, 0), (77, .getfield 62, 3, 0, 0), (80, .iload_n 3, 1, 0, 0), (81, .iaload, 1, 0, 0), (82, .iadd, 1, 0, 0), (83, .istore_n 2, 1, 0, 0), (84, .iinc 3 1, 3, 0, 1), (87, .goto (-20), 3, 67, 0), (90, .iload_n 2, 1, 0, 0), (91, .ireturn, 1, 0, 0), (92, .bipush (-102), 2, 0, (-102)), (94, .ireturn, 1, 0, 0)]
def gm_307 : gw_M := (12, ⟨"GlassWiresModel", "count", "(I)I"⟩, prog_14_method_100_code, 4, (some .int), 1, 0, 2, gk_307)
def gk_308 : List (Nat × gw_I) := [(0, .ldc2_w 348, 3, 0, 0), (3, .aload_n 0, 1, 0, 0), (4, .getfield 115, 3, 0, 0), (7, .i2l, 1, 0, 0), (8, .ladd, 1, 0, 0), (9, .lstore_n 1, 1, 0, 0), (10, .ldc2_w 350, 3, 0, 0), (13, .lload_n 1, 1, 0, 0), (14, .lmul, 1, 0, 0), (15, .aload_n 0, 1, 0, 0), (16, .getfield 118, 3, 0, 0), (19, .i2l, 1, 0, 0), (20, .ladd, 1, 0, 0), (21, .lstore_n 1, 1, 0, 0), (22, .iconst 0, 1, 0, 0), (23, .istore_n 3, 1, 0, 0), (24, .iload_n 3, 1, 0, 0), (25, .aload_n 0, 1, 0, 0), (26, .getfield 121, 3, 0, 0), (29, .if_icmp .ge 109, 3, 138, 0), (32, .ldc2_w 350, 3, 0, 0), (35, .lload_n 1, 1, 0, 0), (36, .lmul, 1, 0, 0), (37, .aload_n 0, 1, 0, 0), (38, .getfield 22, 3, 0, 0), (41, .iload_n 3, 1, 0, 0), (42, .baload, 1, 0, 0), (43, .ifCond .eq 7, 3, 50, 0), (46, .iconst 1, 1, 0, 1), (47, .goto 4, 3, 51, 0), (50, .iconst 0, 1, 0, 0), (51, .i2l, 1, 0, 0), (52, .ladd, 1, 0, 0), (53, .lstore_n 1, 1, 0, 0), (54, .ldc2_w 350, 3, 0, 0), (57, .lload_n 1, 1, 0, 0), (58, .lmul, 1, 0, 0), (59, .aload_n 0, 1, 0, 0), (60, .getfield 26, 3, 0, 0), (63, .iload_n 3, 1, 0, 0), (64, .baload, 1, 0, 0), (65, .ifCond .eq 7, 3, 72, 0), (68, .iconst 1, 1, 0, 1), (69, .goto 4, 3, 73, 0), (72, .iconst 0, 1, 0, 0), (73, .i2l, 1, 0, 0), (74, .ladd, 1, 0, 0), (75, .lstore_n 1, 1, 0, 0), (76, .iconst 0, 1, 0, 0), (77, .istore 4, 2, 0, 0), (79, .iload 4, 2, 0, 0), (81, .aload_n 0, 1, 0, 0), (82, .getfield 19, 3, 0, 0), (85, .iload_n 3, 1, 0, 0), (86, .iaload, 1, 0, 0), (87, .if_icmp .gt 45, 3, 132, 0), (90, .ldc2_w 350, 3, 0, 0), (93, .lload_n 1, 1, 0, 0), (94, .lmul, 1, 0, 0), (95, .bipush 10, 2, 0, 10), (97, .aload_n 0, 1, 0, 0), (98, .getfield 16, 3, 0, 0), (101, .bipush 25, 2, 0, 25), (103, .iload_n 3, 1, 0, 0), (104, .imul, 1, 0, 0), (105, .iload 4, 2, 0, 0), (107, .iadd, 1, 0, 0), (108, .iaload, 1, 0, 0), (109, .imul, 1, 0, 0), (110, .aload_n 0, 1, 0, 0), (111, .getfield 13, 3, 0, 0), (114, .bipush 25, 2, 0, 25), (116, .iload_n 3, 1, 0, 0), (117, .imul, 1, 0, 0), (118, .iload 4, 2, 0, 0), (120, .iadd, 1, 0, 0), (121, .iaload, 1, 0, 0), (122, .iadd, 1, 0, 0), (123, .i2l, 1, 0, 0), (124, .ladd, 1, 0, 0), (125, .lstore_n 1, 1, 0, 0), (126, .iinc 4 1, 3, 0, 1), (129, .goto (-50), 3, 79, 0), (132, .iinc 3 1, 3, 0, 1), (135, .goto (-111), 3, 24, 0), (138, .iconst 0, 1, 0, 0), (139, .istore_n 3, 1, 0, 0), (140, .iload_n 3, 1, 0, 0), (141, .bipush 8, 2, 0, 8), (143, .if_icmp .ge 51, 3, 194, 0), (146, .ldc2_w 350, 3, 0, 0), (149, .lload_n 1, 1, 0, 0), (150, .lmul, 1, 0, 0), (151, .aload_n 0, 1, 0, 0), (152, .getfield 50, 3, 0, 0), (155, .iload_n 3, 1, 0, 0), (156, .iaload, 1, 0, 0), (157, .i2l, 1, 0, 0), (158, .ladd, 1, 0, 0), (159, .lstore_n 1, 1, 0, 0), (160, .ldc2_w 350, 3, 0, 0), (163, .lload_n 1, 1, 0, 0), (164, .lmul, 1, 0, 0), (165, .aload_n 0, 1, 0, 0), (166, .getfield 53, 3, 0, 0), (169, .iload_n 3, 1, 0, 0), (170, .iaload, 1, 0, 0), (171, .i2l, 1, 0, 0), (172, .ladd, 1, 0, 0), (173, .lstore_n 1, 1, 0, 0), (174, .ldc2_w 350, 3, 0, 0), (177, .lload_n 1, 1, 0, 0), (178, .lmul, 1, 0, 0), (179, .aload_n 0, 1, 0, 0), (180, .getfield 56, 3, 0, 0), (183, .iload_n 3, 1, 0, 0), (184, .iaload, 1, 0, 0), (185, .i2l, 1, 0, 0), (186, .ladd, 1, 0, 0), (187, .lstore_n 1, 1, 0, 0), (188, .iinc 3 1, 3, 0, 1), (191, .goto (-51), 3, 140, 0), (194, .iconst 0, 1, 0, 0), (195, .istore_n 3, 1, 0, 0), (196, .iload_n 3, 1, 0, 0), (197, .bipush 8, 2, 0, 8), (199, .if_icmp .ge 55, 3, 254, 0), (202, .iload_n 3, 1, 0, 0), (203, .iconst 1, 1, 0, 1), (204, .iadd, 1, 0, 0), (205, .istore 4, 2, 0, 0), (207, .iload 4, 2, 0, 0), (209, .bipush 8, 2, 0, 8), (211, .if_icmp .ge 37, 3, 248, 0), (214, .ldc2_w 350, 3, 0, 0), (217, .lload_n 1, 1, 0, 0), (218, .lmul, 1, 0, 0), (219, .aload_n 0, 1, 0, 0), (220, .getfield 59, 3, 0, 0), (223, .bipush 8, 2, 0, 8), (225, .iload_n 3, 1, 0, 0), (226, .imul, 1, 0, 0), (227, .iload 4, 2, 0, 0), (229, .iadd, 1, 0, 0), (230, .baload, 1, 0, 0), (231, .ifCond .eq 7, 3, 238, 0), (234, .iconst 1, 1, 0, 1), (235, .goto 4, 3, 239, 0), (238, .iconst 0, 1, 0, 0), (239, .i2l, 1, 0, 0), (240, .ladd, 1, 0, 0), (241, .lstore_n 1, 1, 0, 0), (242, .iinc 4 1, 3, 0, 1), (245, .goto (-38), 3, 207, 0), (248, .iinc 3 1, 3, 0, 1), (251, .goto (-55), 3, 196, 0), (254, .ldc2_w 350, 3, 0, 0), (257, .lload_n 1, 1, 0, 0), (258, .lmul, 1, 0, 0), (259, .aload_n 0, 1, 0, 0), (260, .getfield 101, 3, 0, 0), (263, .i2l, 1, 0, 0), (264, .ladd, 1, 0, 0), (265, .lstore_n 1, 1, 0, 0), (266, .ldc2_w 350, 3, 0, 0), (269, .lload_n 1, 1, 0, 0), (270, .lmul, 1, 0, 0), (271, .aload_n 0, 1, 0, 0), (272, .getfield 105, 3, 0, 0), (275, .i2l, 1, 0, 0), (276, .ladd, 1, 0, 0), (277, .lstore_n 1, 1, 0, 0), (278, .ldc2_w 350, 3, 0, 0), (281, .lload_n 1, 1, 0, 0), (282, .lmul, 1, 0, 0), (283, .aload_n 0, 1, 0, 0), (284, .getfield 108, 3, 0, 0), (287, .i2l, 1, 0, 0), (288, .ladd, 1, 0, 0), (289, .lstore_n 1, 1, 0, 0), (290, .iconst 0, 1, 0, 0), (291, .istore_n 3, 1, 0, 0), (292, .iload_n 3, 1, 0, 0), (293, .aload_n 0, 1, 0, 0), (294, .invokevirtual 212, 3, 0, 0), (297, .if_icmp .ge 89, 3, 386, 0), (300, .iconst 0, 1, 0, 0), (301, .istore 4, 2, 0, 0), (303, .iload 4, 2, 0, 0), (305, .aload_n 0, 1, 0, 0), (306, .getfield 62, 3, 0, 0), (309, .iload_n 3, 1, 0, 0), (310, .iaload, 1, 0, 0), (311, .if_icmp .ge 69, 3, 380, 0), (314, .ldc2_w 350, 3, 0, 0), (317, .lload_n 1, 1, 0, 0), (318, .lmul, 1, 0, 0), (319, .aload_n 0, 1, 0, 0), (320, .getfield 65, 3, 0, 0), (323, .bipush 12, 2, 0, 12), (325, .iload_n 3, 1, 0, 0), (326, .imul, 1, 0, 0), (327, .iload 4, 2, 0, 0), (329, .iadd, 1, 0, 0), (330, .iaload, 1, 0, 0), (331, .i2l, 1, 0, 0), (332, .ladd, 1, 0, 0), (333, .lstore_n 1, 1, 0, 0), (334, .ldc2_w 350, 3, 0, 0), (337, .lload_n 1, 1, 0, 0), (338, .lmul, 1, 0, 0), (339, .aload_n 0, 1, 0, 0), (340, .getfield 68, 3, 0, 0), (343, .bipush 12, 2, 0, 12), (345, .iload_n 3, 1, 0, 0), (346, .imul, 1, 0, 0), (347, .iload 4, 2, 0, 0), (349, .iadd, 1, 0, 0), (350, .iaload, 1, 0, 0), (351, .i2l, 1, 0, 0), (352, .ladd, 1, 0, 0), (353, .lstore_n 1, 1, 0, 0), (354, .ldc2_w 350, 3, 0, 0), (357, .lload_n 1, 1, 0, 0), (358, .lmul, 1, 0, 0), (359, .aload_n 0, 1, 0, 0), (360, .getfield 71, 3, 0, 0), (363, .bipush 12, 2, 0, 12), (365, .iload_n 3, 1, 0, 0), (366, .imul, 1, 0, 0), (367, .iload 4, 2, 0, 0), (369, .iadd, 1, 0, 0), (370, .iaload, 1, 0, 0), (371, .i2l, 1, 0, 0), (372, .ladd, 1, 0, 0), (373, .lstore_n 1, 1, 0, 0), (374, .iinc 4 1, 3, 0, 1), (377, .goto (-74), 3, 303, 0), (380, .iinc 3 1, 3, 0, 1), (383, .goto (-91), 3, 292, 0), (386, .ldc2_w 350, 3, 0, 0), (389, .lload_n 1, 1, 0, 0), (390, .lmul, 1, 0, 0), (391, .aload_n 0, 1, 0, 0), (392, .getfield 124, 3, 0, 0), (395, .i2l, 1, 0, 0), (396, .ladd, 1, 0, 0), (397, .lstore_n 1, 1, 0, 0), (398, .ldc2_w 350, 3, 0, 0), (401, .lload_n 1, 1, 0, 0), (402, .lmul, 1, 0, 0), (403, .aload_n 0, 1, 0, 0), (404, .getfield 127, 3, 0, 0), (407, .i2l, 1, 0, 0), (408, .ladd, 1, 0, 0), (409, .lstore_n 1, 1, 0, 0), (410, .ldc2_w 350, 3, 0, 0), (413, .lload_n 1, 1, 0, 0), (414, .lmul, 1, 0, 0), (415, .aload_n 0, 1, 0, 0), (416, .getfield 130, 3, 0, 0), (419, .i2l, 1, 0, 0), (420, .ladd, 1, 0, 0), (421, .lstore_n 1, 1, 0, 0), (422, .iconst 0, 1, 0, 0), (423, .istore_n 3, 1, 0, 0), (424, .iload_n 3, 1, 0, 0), (425, .aload_n 0, 1, 0, 0), (426, .getfield 133, 3, 0, 0), (429, .if_icmp .ge 37, 3, 466, 0), (432, .ldc2_w 350, 3, 0, 0), (435, .lload_n 1, 1, 0, 0), (436, .lmul, 1, 0, 0), (437, .aload_n 0, 1, 0, 0), (438, .getfield 83, 3, 0, 0), (441, .iload_n 3, 1, 0, 0), (442, .iaload, 1, 0, 0), (443, .i2l, 1, 0, 0), (444, .ladd, 1, 0, 0), (445, .lstore_n 1, 1, 0, 0), (446, .ldc2_w 350, 3, 0, 0), (449, .lload_n 1, 1, 0, 0), (450, .lmul, 1, 0, 0), (451, .aload_n 0, 1, 0, 0), (452, .getfield 86, 3, 0, 0), (455, .iload_n 3, 1, 0, 0), (456, .iaload, 1, 0, 0), (457, .i2l, 1, 0, 0), (458, .ladd, 1, 0, 0), (459, .lstore_n 1, 1, 0, 0), (460, .iinc 3 1, 3, 0, 1), (463, .goto (-39), 3, 424, 0), (466, .iconst 0, 1, 0, 0), (467, .istore_n 3, 1, 0, 0), (468, .iload_n 3, 1, 0, 0), (469, .aload_n 0, 1, 0, 0), (470, .getfield 146, 3, 0, 0), (473, .if_icmp .ge 23, 3, 496, 0), (476, .ldc2_w 350, 3, 0, 0), (479, .lload_n 1, 1, 0, 0), (480, .lmul, 1, 0, 0), (481, .aload_n 0, 1, 0, 0), (482, .getfield 7, 3, 0, 0), (485, .iload_n 3, 1, 0, 0), (486, .iaload, 1, 0, 0), (487, .i2l, 1, 0, 0), (488, .ladd, 1, 0, 0), (489, .lstore_n 1, 1, 0, 0), (490, .iinc 3 1, 3, 0, 1), (493, .goto (-25), 3, 468, 0), (496, .lload_n 1, 1, 0, 0), (497, .lreturn, 1, 0, 0)]
def gm_308 : gw_M := (12, ⟨"GlassWiresModel", "digest", "()J"⟩, prog_14_method_101_code, 5, (some .long), 0, 0, 2, gk_308)
def gk_309 : List (Nat × gw_I) := [(0, .new 7, 3, 0, 0), (3, .dup, 1, 0, 0), (4, .invokespecial 9, 3, 0, 0), (7, .astore_n 1, 1, 0, 0), (8, .new 10, 3, 0, 0), (11, .dup, 1, 0, 0), (12, .invokespecial 12, 3, 0, 0), (15, .astore_n 2, 1, 0, 0), (16, .iconst 0, 1, 0, 0), (17, .istore_n 3, 1, 0, 0), (18, .iload_n 3, 1, 0, 0), (19, .aload_n 0, 1, 0, 0), (20, .arraylength, 1, 0, 0), (21, .iconst 5, 1, 0, 5), (22, .isub, 1, 0, 0), (23, .if_icmp .gt 1514, 3, 1537, 0), (26, .aload_n 0, 1, 0, 0), (27, .iload_n 3, 1, 0, 0), (28, .iaload, 1, 0, 0), (29, .bipush 63, 2, 0, 63), (31, .iand, 1, 0, 0), (32, .tableswitch 1499 0 41 #[184, 217, 270, 283, 316, 349, 398, 447, 480, 513, 556, 579, 612, 645, 668, 681, 704, 747, 806, 839, 882, 905, 948, 1001, 1024, 1037, 1060, 1083, 1106, 1139, 1172, 1195, 1218, 1241, 1274, 1297, 1330, 1363, 1406, 1439, 1462, 1485], 184, 0, 0), (216, .aload_n 1, 1, 0, 0), (217, .aload_n 0, 1, 0, 0), (218, .iload_n 3, 1, 0, 0), (219, .iconst 1, 1, 0, 1), (220, .iadd, 1, 0, 0), (221, .iaload, 1, 0, 0), (222, .aload_n 0, 1, 0, 0), (223, .iload_n 3, 1, 0, 0), (224, .iconst 2, 1, 0, 2), (225, .iadd, 1, 0, 0), (226, .iaload, 1, 0, 0), (227, .invokevirtual 13, 3, 0, 0), (230, .aload_n 2, 1, 0, 0), (231, .aload_n 0, 1, 0, 0), (232, .iload_n 3, 1, 0, 0), (233, .iconst 1, 1, 0, 1), (234, .iadd, 1, 0, 0), (235, .iaload, 1, 0, 0), (236, .aload_n 0, 1, 0, 0), (237, .iload_n 3, 1, 0, 0), (238, .iconst 2, 1, 0, 2), (239, .iadd, 1, 0, 0), (240, .iaload, 1, 0, 0), (241, .invokevirtual 17, 3, 0, 0), (244, .if_icmp .eq 1287, 3, 1531, 0), (247, .iconst 0, 1, 0, 0), (248, .ireturn, 1, 0, 0), (249, .aload_n 1, 1, 0, 0), (250, .aload_n 0, 1, 0, 0), (251, .iload_n 3, 1, 0, 0), (252, .iconst 1, 1, 0, 1), (253, .iadd, 1, 0, 0), (254, .iaload, 1, 0, 0), (255, .i2l, 1, 0, 0), (256, .bipush 32, 2, 0, 32), (258, .lshl, 1, 0, 0), (259, .aload_n 0, 1, 0, 0), (260, .iload_n 3, 1, 0, 0), (261, .iconst 2, 1, 0, 2), (262, .iadd, 1, 0, 0), (263, .iaload, 1, 0, 0), (264, .i2l, 1, 0, 0), (265, .ldc2_w 18, 3, 0, 0), (268, .land, 1, 0, 0), (269, .lor, 1, 0, 0), (270, .invokevirtual 20, 3, 0, 0), (273, .aload_n 2, 1, 0, 0), (274, .aload_n 0, 1, 0, 0), (275, .iload_n 3, 1, 0, 0), (276, .iconst 1, 1, 0, 1), (277, .iadd, 1, 0, 0), (278, .iaload, 1, 0, 0), (279, .i2l, 1, 0, 0), (280, .bipush 32, 2, 0, 32), (282, .lshl, 1, 0, 0), (283, .aload_n 0, 1, 0, 0), (284, .iload_n 3, 1, 0, 0), (285, .iconst 2, 1, 0, 2), (286, .iadd, 1, 0, 0), (287, .iaload, 1, 0, 0), (288, .i2l, 1, 0, 0), (289, .ldc2_w 18, 3, 0, 0), (292, .land, 1, 0, 0), (293, .lor, 1, 0, 0), (294, .invokevirtual 24, 3, 0, 0), (297, .if_icmp .eq 1234, 3, 1531, 0), (300, .iconst 0, 1, 0, 0), (301, .ireturn, 1, 0, 0), (302, .aload_n 1, 1, 0, 0), (303, .invokevirtual 25, 3, 0, 0), (306, .aload_n 2, 1, 0, 0), (307, .invokevirtual 29, 3, 0, 0), (310, .if_icmp .eq 1221, 3, 1531, 0), (313, .iconst 0, 1, 0, 0), (314, .ireturn, 1, 0, 0), (315, .aload_n 1, 1, 0, 0), (316, .aload_n 0, 1, 0, 0), (317, .iload_n 3, 1, 0, 0), (318, .iconst 1, 1, 0, 1), (319, .iadd, 1, 0, 0), (320, .iaload, 1, 0, 0), (321, .aload_n 0, 1, 0, 0), (322, .iload_n 3, 1, 0, 0), (323, .iconst 2, 1, 0, 2), (324, .iadd, 1, 0, 0), (325, .iaload, 1, 0, 0), (326, .invokevirtual 30, 3, 0, 0), (329, .aload_n 2, 1, 0, 0), (330, .aload_n 0, 1, 0, 0), (331, .iload_n 3, 1, 0, 0), (332, .iconst 1, 1, 0, 1), (333, .iadd, 1, 0, 0), (334, .iaload, 1, 0, 0), (335, .aload_n 0, 1, 0, 0), (336, .iload_n 3, 1, 0, 0), (337, .iconst 2, 1, 0, 2), (338, .iadd, 1, 0, 0), (339, .iaload, 1, 0, 0), (340, .invokevirtual 33, 3, 0, 0), (343, .if_icmp .eq 1188, 3, 1531, 0), (346, .iconst 0, 1, 0, 0), (347, .ireturn, 1, 0, 0), (348, .aload_n 1, 1, 0, 0), (349, .aload_n 0, 1, 0, 0), (350, .iload_n 3, 1, 0, 0), (351, .iconst 1, 1, 0, 1), (352, .iadd, 1, 0, 0), (353, .iaload, 1, 0, 0), (354, .aload_n 0, 1, 0, 0), (355, .iload_n 3, 1, 0, 0), (356, .iconst 2, 1, 0, 2), (357, .iadd, 1, 0, 0), (358, .iaload, 1, 0, 0), (359, .invokevirtual 34, 3, 0, 0), (362, .aload_n 2, 1, 0, 0), (363, .aload_n 0, 1, 0, 0), (364, .iload_n 3, 1, 0, 0), (365, .iconst 1, 1, 0, 1), (366, .iadd, 1, 0, 0), (367, .iaload, 1, 0, 0), (368, .aload_n 0, 1, 0, 0), (369, .iload_n 3, 1, 0, 0), (370, .iconst 2, 1, 0, 2), (371, .iadd, 1, 0, 0), (372, .iaload, 1, 0, 0), (373, .invokevirtual 37, 3, 0, 0), (376, .if_icmp .eq 1155, 3, 1531, 0), (379, .iconst 0, 1, 0, 0), (380, .ireturn, 1, 0, 0), (381, .aload_n 1, 1, 0, 0), (382, .aload_n 0, 1, 0, 0), (383, .iload_n 3, 1, 0, 0), (384, .iconst 1, 1, 0, 1), (385, .iadd, 1, 0, 0), (386, .iaload, 1, 0, 0), (387, .aload_n 0, 1, 0, 0), (388, .iload_n 3, 1, 0, 0), (389, .iconst 2, 1, 0, 2), (390, .iadd, 1, 0, 0), (391, .iaload, 1, 0, 0), (392, .ifCond .eq 7, 3, 399, 0), (395, .iconst 1, 1, 0, 1), (396, .goto 4, 3, 400, 0), (399, .iconst 0, 1, 0, 0), (400, .invokevirtual 38, 3, 0, 0), (403, .aload_n 2, 1, 0, 0), (404, .aload_n 0, 1, 0, 0), (405, .iload_n 3, 1, 0, 0), (406, .iconst 1, 1, 0, 1), (407, .iadd, 1, 0, 0), (408, .iaload, 1, 0, 0), (409, .aload_n 0, 1, 0, 0), (410, .iload_n 3, 1, 0, 0), (411, .iconst 2, 1, 0, 2), (412, .iadd, 1, 0, 0), (413, .iaload, 1, 0, 0), (414, .ifCond .eq 7, 3, 421, 0), (417, .iconst 1, 1, 0, 1), (418, .goto 4, 3, 422, 0), (421, .iconst 0, 1, 0, 0), (422, .invokevirtual 42, 3, 0, 0), (425, .if_icmp .eq 1106, 3, 1531, 0), (428, .iconst 0, 1, 0, 0), (429, .ireturn, 1, 0, 0), (430, .aload_n 1, 1, 0, 0), (431, .aload_n 0, 1, 0, 0), (432, .iload_n 3, 1, 0, 0), (433, .iconst 1, 1, 0, 1), (434, .iadd, 1, 0, 0), (435, .iaload, 1, 0, 0), (436, .aload_n 0, 1, 0, 0), (437, .iload_n 3, 1, 0, 0), (438, .iconst 2, 1, 0, 2), (439, .iadd, 1, 0, 0), (440, .iaload, 1, 0, 0), (441, .ifCond .eq 7, 3, 448, 0), (444, .iconst 1, 1, 0, 1), (445, .goto 4, 3, 449, 0), (448, .iconst 0, 1, 0, 0), (449, .invokevirtual 43, 3, 0, 0), (452, .aload_n 2, 1, 0, 0), (453, .aload_n 0, 1, 0, 0), (454, .iload_n 3, 1, 0, 0), (455, .iconst 1, 1, 0, 1), (456, .iadd, 1, 0, 0), (457, .iaload, 1, 0, 0), (458, .aload_n 0, 1, 0, 0), (459, .iload_n 3, 1, 0, 0), (460, .iconst 2, 1, 0, 2), (461, .iadd, 1, 0, 0), (462, .iaload, 1, 0, 0), (463, .ifCond .eq 7, 3, 470, 0), (466, .iconst 1, 1, 0, 1), (467, .goto 4, 3, 471, 0), (470, .iconst 0, 1, 0, 0), (471, .invokevirtual 46, 3, 0, 0), (474, .if_icmp .eq 1057, 3, 1531, 0), (477, .iconst 0, 1, 0, 0), (478, .ireturn, 1, 0, 0), (479, .aload_n 1, 1, 0, 0), (480, .aload_n 0, 1, 0, 0), (481, .iload_n 3, 1, 0, 0), (482, .iconst 1, 1, 0, 1), (483, .iadd, 1, 0, 0), (484, .iaload, 1, 0, 0), (485, .aload_n 0, 1, 0, 0), (486, .iload_n 3, 1, 0, 0), (487, .iconst 2, 1, 0, 2), (488, .iadd, 1, 0, 0), (489, .iaload, 1, 0, 0), (490, .invokevirtual 47, 3, 0, 0), (493, .aload_n 2, 1, 0, 0), (494, .aload_n 0, 1, 0, 0), (495, .iload_n 3, 1, 0, 0), (496, .iconst 1, 1, 0, 1), (497, .iadd, 1, 0, 0), (498, .iaload, 1, 0, 0), (499, .aload_n 0, 1, 0, 0), (500, .iload_n 3, 1, 0, 0), (501, .iconst 2, 1, 0, 2), (502, .iadd, 1, 0, 0), (503, .iaload, 1, 0, 0), (504, .invokevirtual 50, 3, 0, 0), (507, .if_icmp .eq 1024, 3, 1531, 0), (510, .iconst 0, 1, 0, 0), (511, .ireturn, 1, 0, 0), (512, .aload_n 1, 1, 0, 0), (513, .aload_n 0, 1, 0, 0), (514, .iload_n 3, 1, 0, 0), (515, .iconst 1, 1, 0, 1), (516, .iadd, 1, 0, 0), (517, .iaload, 1, 0, 0), (518, .aload_n 0, 1, 0, 0), (519, .iload_n 3, 1, 0, 0), (520, .iconst 2, 1, 0, 2), (521, .iadd, 1, 0, 0), (522, .iaload, 1, 0, 0), (523, .invokevirtual 51, 3, 0, 0), (526, .aload_n 2, 1, 0, 0), (527, .aload_n 0, 1, 0, 0), (528, .iload_n 3, 1, 0, 0), (529, .iconst 1, 1, 0, 1), (530, .iadd, 1, 0, 0), (531, .iaload, 1, 0, 0), (532, .aload_n 0, 1, 0, 0), (533, .iload_n 3, 1, 0, 0), (534, .iconst 2, 1, 0, 2), (535, .iadd, 1, 0, 0), (536, .iaload, 1, 0, 0), (537, .invokevirtual 54, 3, 0, 0), (540, .if_icmp .eq 991, 3, 1531, 0), (543, .iconst 0, 1, 0, 0), (544, .ireturn, 1, 0, 0), (545, .aload_n 1, 1, 0, 0), (546, .aload_n 0, 1, 0, 0), (547, .iload_n 3, 1, 0, 0), (548, .iconst 1, 1, 0, 1), (549, .iadd, 1, 0, 0), (550, .iaload, 1, 0, 0), (551, .aload_n 0, 1, 0, 0), (552, .iload_n 3, 1, 0, 0), (553, .iconst 2, 1, 0, 2), (554, .iadd, 1, 0, 0), (555, .iaload, 1, 0, 0), (556, .aload_n 0, 1, 0, 0), (557, .iload_n 3, 1, 0, 0), (558, .iconst 3, 1, 0, 3), (559, .iadd, 1, 0, 0), (560, .iaload, 1, 0, 0), (561, .invokevirtual 55, 3, 0, 0), (564, .aload_n 2, 1, 0, 0), (565, .aload_n 0, 1, 0, 0), (566, .iload_n 3, 1, 0, 0), (567, .iconst 1, 1, 0, 1), (568, .iadd, 1, 0, 0), (569, .iaload, 1, 0, 0), (570, .aload_n 0, 1, 0, 0), (571, .iload_n 3, 1, 0, 0), (572, .iconst 2, 1, 0, 2), (573, .iadd, 1, 0, 0), (574, .iaload, 1, 0, 0), (575, .aload_n 0, 1, 0, 0), (576, .iload_n 3, 1, 0, 0), (577, .iconst 3, 1, 0, 3), (578, .iadd, 1, 0, 0), (579, .iaload, 1, 0, 0), (580, .invokevirtual 59, 3, 0, 0), (583, .if_icmp .eq 948, 3, 1531, 0), (586, .iconst 0, 1, 0, 0), (587, .ireturn, 1, 0, 0), (588, .aload_n 1, 1, 0, 0), (589, .aload_n 0, 1, 0, 0), (590, .iload_n 3, 1, 0, 0), (591, .iconst 1, 1, 0, 1), (592, .iadd, 1, 0, 0), (593, .iaload, 1, 0, 0), (594, .invokevirtual 60, 3, 0, 0), (597, .aload_n 2, 1, 0, 0), (598, .aload_n 0, 1, 0, 0), (599, .iload_n 3, 1, 0, 0), (600, .iconst 1, 1, 0, 1), (601, .iadd, 1, 0, 0), (602, .iaload, 1, 0, 0), (603, .invokevirtual 64, 3, 0, 0), (606, .if_icmp .eq 925, 3, 1531, 0), (609, .iconst 0, 1, 0, 0), (610, .ireturn, 1, 0, 0), (611, .aload_n 1, 1, 0, 0), (612, .aload_n 0, 1, 0, 0), (613, .iload_n 3, 1, 0, 0), (614, .iconst 1, 1, 0, 1), (615, .iadd, 1, 0, 0), (616, .iaload, 1, 0, 0), (617, .aload_n 0, 1, 0, 0), (618, .iload_n 3, 1, 0, 0), (619, .iconst 2, 1, 0, 2), (620, .iadd, 1, 0, 0), (621, .iaload, 1, 0, 0), (622, .invokevirtual 65, 3, 0, 0), (625, .aload_n 2, 1, 0, 0), (626, .aload_n 0, 1, 0, 0), (627, .iload_n 3, 1, 0, 0), (628, .iconst 1, 1, 0, 1), (629, .iadd, 1, 0, 0), (630, .iaload, 1, 0, 0), (631, .aload_n 0, 1, 0, 0), (632, .iload_n 3, 1, 0, 0), (633, .iconst 2, 1, 0, 2), (634, .iadd, 1, 0, 0), (635, .iaload, 1, 0, 0), (636, .invokevirtual 68, 3, 0, 0), (639, .if_icmp .eq 892, 3, 1531, 0), (642, .iconst 0, 1, 0, 0), (643, .ireturn, 1, 0, 0), (644, .aload_n 1, 1, 0, 0), (645, .aload_n 0, 1, 0, 0), (646, .iload_n 3, 1, 0, 0), (647, .iconst 1, 1, 0, 1), (648, .iadd, 1, 0, 0), (649, .iaload, 1, 0, 0), (650, .aload_n 0, 1, 0, 0), (651, .iload_n 3, 1, 0, 0), (652, .iconst 2, 1, 0, 2), (653, .iadd, 1, 0, 0), (654, .iaload, 1, 0, 0), (655, .invokevirtual 69, 3, 0, 0), (658, .aload_n 2, 1, 0, 0), (659, .aload_n 0, 1, 0, 0), (660, .iload_n 3, 1, 0, 0), (661, .iconst 1, 1, 0, 1), (662, .iadd, 1, 0, 0), (663, .iaload, 1, 0, 0), (664, .aload_n 0, 1, 0, 0), (665, .iload_n 3, 1, 0, 0), (666, .iconst 2, 1, 0, 2), (667, .iadd, 1, 0, 0), (668, .iaload, 1, 0, 0), (669, .invokevirtual 72, 3, 0, 0), (672, .if_icmp .eq 859, 3, 1531, 0), (675, .iconst 0, 1, 0, 0), (676, .ireturn, 1, 0, 0), (677, .aload_n 1, 1, 0, 0), (678, .aload_n 0, 1, 0, 0), (679, .iload_n 3, 1, 0, 0), (680, .iconst 1, 1, 0, 1), (681, .iadd, 1, 0, 0), (682, .iaload, 1, 0, 0), (683, .invokevirtual 73, 3, 0, 0), (686, .aload_n 2, 1, 0, 0), (687, .aload_n 0, 1, 0, 0), (688, .iload_n 3, 1, 0, 0), (689, .iconst 1, 1, 0, 1), (690, .iadd, 1, 0, 0), (691, .iaload, 1, 0, 0), (692, .invokevirtual 76, 3, 0, 0), (695, .if_icmp .eq 836, 3, 1531, 0), (698, .iconst 0, 1, 0, 0), (699, .ireturn, 1, 0, 0), (700, .aload_n 1, 1, 0, 0), (701, .invokevirtual 77, 3, 0, 0), (704, .aload_n 2, 1, 0, 0), (705, .invokevirtual 80, 3, 0, 0), (708, .if_icmp .eq 823, 3, 1531, 0), (711, .iconst 0, 1, 0, 0), (712, .ireturn, 1, 0, 0), (713, .aload_n 1, 1, 0, 0), (714, .aload_n 0, 1, 0, 0), (715, .iload_n 3, 1, 0, 0), (716, .iconst 1, 1, 0, 1), (717, .iadd, 1, 0, 0), (718, .iaload, 1, 0, 0), (719, .invokevirtual 81, 3, 0, 0), (722, .aload_n 2, 1, 0, 0), (723, .aload_n 0, 1, 0, 0), (724, .iload_n 3, 1, 0, 0), (725, .iconst 1, 1, 0, 1), (726, .iadd, 1, 0, 0), (727, .iaload, 1, 0, 0), (728, .invokevirtual 84, 3, 0, 0), (731, .if_icmp .eq 800, 3, 1531, 0), (734, .iconst 0, 1, 0, 0), (735, .ireturn, 1, 0, 0), (736, .aload_n 1, 1, 0, 0), (737, .aload_n 0, 1, 0, 0), (738, .iload_n 3, 1, 0, 0), (739, .iconst 1, 1, 0, 1), (740, .iadd, 1, 0, 0), (741, .iaload, 1, 0, 0), (742, .aload_n 0, 1, 0, 0), (743, .iload_n 3, 1, 0, 0), (744, .iconst 2, 1, 0, 2), (745, .iadd, 1, 0, 0), (746, .iaload, 1, 0, 0), (747, .aload_n 0, 1, 0, 0), (748, .iload_n 3, 1, 0, 0), (749, .iconst 3, 1, 0, 3), (750, .iadd, 1, 0, 0), (751, .iaload, 1, 0, 0), (752, .invokevirtual 85, 3, 0, 0), (755, .aload_n 2, 1, 0, 0), (756, .aload_n 0, 1, 0, 0), (757, .iload_n 3, 1, 0, 0), (758, .iconst 1, 1, 0, 1), (759, .iadd, 1, 0, 0), (760, .iaload, 1, 0, 0), (761, .aload_n 0, 1, 0, 0), (762, .iload_n 3, 1, 0, 0), (763, .iconst 2, 1, 0, 2), (764, .iadd, 1, 0, 0), (765, .iaload, 1, 0, 0), (766, .aload_n 0, 1, 0, 0), (767, .iload_n 3, 1, 0, 0), (768, .iconst 3, 1, 0, 3), (769, .iadd, 1, 0, 0), (770, .iaload, 1, 0, 0), (771, .invokevirtual 88, 3, 0, 0), (774, .if_icmp .eq 757, 3, 1531, 0), (777, .iconst 0, 1, 0, 0), (778, .ireturn, 1, 0, 0), (779, .aload_n 1, 1, 0, 0), (780, .aload_n 0, 1, 0, 0), (781, .iload_n 3, 1, 0, 0), (782, .iconst 1, 1, 0, 1), (783, .iadd, 1, 0, 0), (784, .iaload, 1, 0, 0), (785, .aload_n 0, 1, 0, 0), (786, .iload_n 3, 1, 0, 0), (787, .iconst 2, 1, 0, 2), (788, .iadd, 1, 0, 0), (789, .iaload, 1, 0, 0), (790, .aload_n 0, 1, 0, 0), (791, .iload_n 3, 1, 0, 0), (792, .iconst 3, 1, 0, 3), (793, .iadd, 1, 0, 0), (794, .iaload, 1, 0, 0), (795, .ifCond .eq 7, 3, 802, 0), (798, .iconst 1, 1, 0, 1), (799, .goto 4, 3, 803, 0), (802, .iconst 0, 1, 0, 0), (803, .invokevirtual 89, 3, 0, 0), (806, .aload_n 2, 1, 0, 0), (807, .aload_n 0, 1, 0, 0), (808, .iload_n 3, 1, 0, 0), (809, .iconst 1, 1, 0, 1), (810, .iadd, 1, 0, 0), (811, .iaload, 1, 0, 0), (812, .aload_n 0, 1, 0, 0), (813, .iload_n 3, 1, 0, 0), (814, .iconst 2, 1, 0, 2), (815, .iadd, 1, 0, 0), (816, .iaload, 1, 0, 0), (817, .aload_n 0, 1, 0, 0), (818, .iload_n 3, 1, 0, 0), (819, .iconst 3, 1, 0, 3), (820, .iadd, 1, 0, 0), (821, .iaload, 1, 0, 0), (822, .ifCond .eq 7, 3, 829, 0), (825, .iconst 1, 1, 0, 1), (826, .goto 4, 3, 830, 0), (829, .iconst 0, 1, 0, 0), (830, .invokevirtual 93, 3, 0, 0), (833, .if_icmp .eq 698, 3, 1531, 0), (836, .iconst 0, 1, 0, 0), (837, .ireturn, 1, 0, 0), (838, .aload_n 1, 1, 0, 0), (839, .aload_n 0, 1, 0, 0), (840, .iload_n 3, 1, 0, 0), (841, .iconst 1, 1, 0, 1), (842, .iadd, 1, 0, 0), (843, .iaload, 1, 0, 0), (844, .aload_n 0, 1, 0, 0), (845, .iload_n 3, 1, 0, 0), (846, .iconst 2, 1, 0, 2), (847, .iadd, 1, 0, 0), (848, .iaload, 1, 0, 0), (849, .invokevirtual 94, 3, 0, 0), (852, .aload_n 2, 1, 0, 0), (853, .aload_n 0, 1, 0, 0), (854, .iload_n 3, 1, 0, 0), (855, .iconst 1, 1, 0, 1), (856, .iadd, 1, 0, 0), (857, .iaload, 1, 0, 0), (858, .aload_n 0, 1, 0, 0), (859, .iload_n 3, 1, 0, 0), (860, .iconst 2, 1, 0, 2), (861, .iadd, 1, 0, 0), (862, .iaload, 1, 0, 0), (863, .invokevirtual 97, 3, 0, 0), (866, .if_icmp .eq 665, 3, 1531, 0), (869, .iconst 0, 1, 0, 0), (870, .ireturn, 1, 0, 0), (871, .aload_n 1, 1, 0, 0), (872, .aload_n 0, 1, 0, 0), (873, .iload_n 3, 1, 0, 0), (874, .iconst 1, 1, 0, 1), (875, .iadd, 1, 0, 0), (876, .iaload, 1, 0, 0), (877, .aload_n 0, 1, 0, 0), (878, .iload_n 3, 1, 0, 0), (879, .iconst 2, 1, 0, 2), (880, .iadd, 1, 0, 0), (881, .iaload, 1, 0, 0), (882, .aload_n 0, 1, 0, 0), (883, .iload_n 3, 1, 0, 0), (884, .iconst 3, 1, 0, 3), (885, .iadd, 1, 0, 0), (886, .iaload, 1, 0, 0), (887, .invokevirtual 98, 3, 0, 0), (890, .aload_n 2, 1, 0, 0), (891, .aload_n 0, 1, 0, 0), (892, .iload_n 3, 1, 0, 0), (893, .iconst 1, 1, 0, 1), (894, .iadd, 1, 0, 0), (895, .iaload, 1, 0, 0), (896, .aload_n 0, 1, 0, 0), (897, .iload_n 3, 1, 0, 0), (898, .iconst 2, 1, 0, 2), (899, .iadd, 1, 0, 0), (900, .iaload, 1, 0, 0), (901, .aload_n 0, 1, 0, 0), (902, .iload_n 3, 1, 0, 0), (903, .iconst 3, 1, 0, 3), (904, .iadd, 1, 0, 0), (905, .iaload, 1, 0, 0), (906, .invokevirtual 101, 3, 0, 0), (909, .if_icmp .eq 622, 3, 1531, 0), (912, .iconst 0, 1, 0, 0), (913, .ireturn, 1, 0, 0), (914, .aload_n 1, 1, 0, 0), (915, .aload_n 0, 1, 0, 0), (916, .iload_n 3, 1, 0, 0), (917, .iconst 1, 1, 0, 1), (918, .iadd, 1, 0, 0), (919, .iaload, 1, 0, 0), (920, .invokevirtual 102, 3, 0, 0), (923, .aload_n 2, 1, 0, 0), (924, .aload_n 0, 1, 0, 0), (925, .iload_n 3, 1, 0, 0), (926, .iconst 1, 1, 0, 1), (927, .iadd, 1, 0, 0), (928, .iaload, 1, 0, 0), (929, .invokevirtual 105, 3, 0, 0), (932, .if_icmp .eq 599, 3, 1531, 0), (935, .iconst 0, 1, 0, 0), (936, .ireturn, 1, 0, 0), (937, .aload_n 1, 1, 0, 0), (938, .aload_n 0, 1, 0, 0), (939, .iload_n 3, 1, 0, 0), (940, .iconst 1, 1, 0, 1), (941, .iadd, 1, 0, 0), (942, .iaload, 1, 0, 0), (943, .aload_n 0, 1, 0, 0), (944, .iload_n 3, 1, 0, 0), (945, .iconst 2, 1, 0, 2), (946, .iadd, 1, 0, 0), (947, .iaload, 1, 0, 0), (948, .aload_n 0, 1, 0, 0), (949, .iload_n 3, 1, 0, 0), (950, .iconst 3, 1, 0, 3), (951, .iadd, 1, 0, 0), (952, .iaload, 1, 0, 0), (953, .invokevirtual 106, 3, 0, 0), (956, .aload_n 2, 1, 0, 0), (957, .aload_n 0, 1, 0, 0), (958, .iload_n 3, 1, 0, 0), (959, .iconst 1, 1, 0, 1), (960, .iadd, 1, 0, 0), (961, .iaload, 1, 0, 0), (962, .aload_n 0, 1, 0, 0), (963, .iload_n 3, 1, 0, 0), (964, .iconst 2, 1, 0, 2), (965, .iadd, 1, 0, 0), (966, .iaload, 1, 0, 0), (967, .aload_n 0, 1, 0, 0), (968, .iload_n 3, 1, 0, 0), (969, .iconst 3, 1, 0, 3), (970, .iadd, 1, 0, 0), (971, .iaload, 1, 0, 0), (972, .invokevirtual 109, 3, 0, 0), (975, .if_icmp .eq 556, 3, 1531, 0), (978, .iconst 0, 1, 0, 0), (979, .ireturn, 1, 0, 0), (980, .aload_n 1, 1, 0, 0), (981, .aload_n 0, 1, 0, 0), (982, .iload_n 3, 1, 0, 0), (983, .iconst 1, 1, 0, 1), (984, .iadd, 1, 0, 0), (985, .iaload, 1, 0, 0), (986, .aload_n 0, 1, 0, 0), (987, .iload_n 3, 1, 0, 0), (988, .iconst 2, 1, 0, 2), (989, .iadd, 1, 0, 0), (990, .iaload, 1, 0, 0), (991, .aload_n 0, 1, 0, 0), (992, .iload_n 3, 1, 0, 0), (993, .iconst 3, 1, 0, 3), (994, .iadd, 1, 0, 0), (995, .iaload, 1, 0, 0), (996, .aload_n 0, 1, 0, 0), (997, .iload_n 3, 1, 0, 0), (998, .iconst 4, 1, 0, 4), (999, .iadd, 1, 0, 0), (1000, .iaload, 1, 0, 0), (1001, .invokevirtual 110, 3, 0, 0), (1004, .aload_n 2, 1, 0, 0), (1005, .aload_n 0, 1, 0, 0), (1006, .iload_n 3, 1, 0, 0), (1007, .iconst 1, 1, 0, 1), (1008, .iadd, 1, 0, 0), (1009, .iaload, 1, 0, 0), (1010, .aload_n 0, 1, 0, 0), (1011, .iload_n 3, 1, 0, 0), (1012, .iconst 2, 1, 0, 2), (1013, .iadd, 1, 0, 0), (1014, .iaload, 1, 0, 0), (1015, .aload_n 0, 1, 0, 0), (1016, .iload_n 3, 1, 0, 0), (1017, .iconst 3, 1, 0, 3), (1018, .iadd, 1, 0, 0), (1019, .iaload, 1, 0, 0), (1020, .aload_n 0, 1, 0, 0), (1021, .iload_n 3, 1, 0, 0), (1022, .iconst 4, 1, 0, 4), (1023, .iadd, 1, 0, 0), (1024, .iaload, 1, 0, 0), (1025, .invokevirtual 114, 3, 0, 0), (1028, .if_icmp .eq 503, 3, 1531, 0), (1031, .iconst 0, 1, 0, 0), (1032, .ireturn, 1, 0, 0), (1033, .aload_n 1, 1, 0, 0), (1034, .aload_n 0, 1, 0, 0), (1035, .iload_n 3, 1, 0, 0), (1036, .iconst 1, 1, 0, 1), (1037, .iadd, 1, 0, 0), (1038, .iaload, 1, 0, 0), (1039, .invokevirtual 115, 3, 0, 0), (1042, .aload_n 2, 1, 0, 0), (1043, .aload_n 0, 1, 0, 0), (1044, .iload_n 3, 1, 0, 0), (1045, .iconst 1, 1, 0, 1), (1046, .iadd, 1, 0, 0), (1047, .iaload, 1, 0, 0), (1048, .invokevirtual 118, 3, 0, 0), (1051, .if_icmp .eq 480, 3, 1531, 0), (1054, .iconst 0, 1, 0, 0), (1055, .ireturn, 1, 0, 0), (1056, .aload_n 1, 1, 0, 0), (1057, .invokevirtual 119, 3, 0, 0), (1060, .aload_n 2, 1, 0, 0), (1061, .invokevirtual 122, 3, 0, 0), (1064, .if_icmp .eq 467, 3, 1531, 0), (1067, .iconst 0, 1, 0, 0), (1068, .ireturn, 1, 0, 0), (1069, .aload_n 1, 1, 0, 0), (1070, .aload_n 0, 1, 0, 0), (1071, .iload_n 3, 1, 0, 0), (1072, .iconst 1, 1, 0, 1), (1073, .iadd, 1, 0, 0), (1074, .iaload, 1, 0, 0), (1075, .invokevirtual 123, 3, 0, 0), (1078, .aload_n 2, 1, 0, 0), (1079, .aload_n 0, 1, 0, 0), (1080, .iload_n 3, 1, 0, 0), (1081, .iconst 1, 1, 0, 1), (1082, .iadd, 1, 0, 0), (1083, .iaload, 1, 0, 0), (1084, .invokevirtual 126, 3, 0, 0), (1087, .if_icmp .eq 444, 3, 1531, 0), (1090, .iconst 0, 1, 0, 0), (1091, .ireturn, 1, 0, 0), (1092, .aload_n 1, 1, 0, 0), (1093, .aload_n 0, 1, 0, 0), (1094, .iload_n 3, 1, 0, 0), (1095, .iconst 1, 1, 0, 1), (1096, .iadd, 1, 0, 0), (1097, .iaload, 1, 0, 0), (1098, .invokevirtual 127, 3, 0, 0), (1101, .aload_n 2, 1, 0, 0), (1102, .aload_n 0, 1, 0, 0), (1103, .iload_n 3, 1, 0, 0), (1104, .iconst 1, 1, 0, 1), (1105, .iadd, 1, 0, 0), (1106, .iaload, 1, 0, 0), (1107, .invokevirtual 130, 3, 0, 0), (1110, .if_icmp .eq 421, 3, 1531, 0), (1113, .iconst 0, 1, 0, 0), (1114, .ireturn, 1, 0, 0), (1115, .aload_n 1, 1, 0, 0), (1116, .aload_n 0, 1, 0, 0), (1117, .iload_n 3, 1, 0, 0), (1118, .iconst 1, 1, 0, 1), (1119, .iadd, 1, 0, 0), (1120, .iaload, 1, 0, 0), (1121, .invokevirtual 131, 3, 0, 0), (1124, .aload_n 2, 1, 0, 0), (1125, .aload_n 0, 1, 0, 0), (1126, .iload_n 3, 1, 0, 0), (1127, .iconst 1, 1, 0, 1), (1128, .iadd, 1, 0, 0), (1129, .iaload, 1, 0, 0), (1130, .invokevirtual 134, 3, 0, 0), (1133, .if_icmp .eq 398, 3, 1531, 0), (1136, .iconst 0, 1, 0, 0), (1137, .ireturn, 1, 0, 0), (1138, .aload_n 1, 1, 0, 0), (1139, .aload_n 0, 1, 0, 0), (1140, .iload_n 3, 1, 0, 0), (1141, .iconst 1, 1, 0, 1), (1142, .iadd, 1, 0, 0), (1143, .iaload, 1, 0, 0), (1144, .aload_n 0, 1, 0, 0), (1145, .iload_n 3, 1, 0, 0), (1146, .iconst 2, 1, 0, 2), (1147, .iadd, 1, 0, 0), (1148, .iaload, 1, 0, 0), (1149, .invokevirtual 135, 3, 0, 0), (1152, .aload_n 2, 1, 0, 0), (1153, .aload_n 0, 1, 0, 0), (1154, .iload_n 3, 1, 0, 0), (1155, .iconst 1, 1, 0, 1), (1156, .iadd, 1, 0, 0), (1157, .iaload, 1, 0, 0), (1158, .aload_n 0, 1, 0, 0), (1159, .iload_n 3, 1, 0, 0), (1160, .iconst 2, 1, 0, 2), (1161, .iadd, 1, 0, 0), (1162, .iaload, 1, 0, 0), (1163, .invokevirtual 138, 3, 0, 0), (1166, .if_icmp .eq 365, 3, 1531, 0), (1169, .iconst 0, 1, 0, 0), (1170, .ireturn, 1, 0, 0), (1171, .aload_n 1, 1, 0, 0), (1172, .aload_n 0, 1, 0, 0), (1173, .iload_n 3, 1, 0, 0), (1174, .iconst 1, 1, 0, 1), (1175, .iadd, 1, 0, 0), (1176, .iaload, 1, 0, 0), (1177, .aload_n 0, 1, 0, 0), (1178, .iload_n 3, 1, 0, 0), (1179, .iconst 2, 1, 0, 2), (1180, .iadd, 1, 0, 0), (1181, .iaload, 1, 0, 0), (1182, .invokevirtual 139, 3, 0, 0), (1185, .aload_n 2, 1, 0, 0), (1186, .aload_n 0, 1, 0, 0), (1187, .iload_n 3, 1, 0, 0), (1188, .iconst 1, 1, 0, 1), (1189, .iadd, 1, 0, 0), (1190, .iaload, 1, 0, 0), (1191, .aload_n 0, 1, 0, 0), (1192, .iload_n 3, 1, 0, 0), (1193, .iconst 2, 1, 0, 2), (1194, .iadd, 1, 0, 0), (1195, .iaload, 1, 0, 0), (1196, .invokevirtual 142, 3, 0, 0), (1199, .if_icmp .eq 332, 3, 1531, 0), (1202, .iconst 0, 1, 0, 0), (1203, .ireturn, 1, 0, 0), (1204, .aload_n 1, 1, 0, 0), (1205, .aload_n 0, 1, 0, 0), (1206, .iload_n 3, 1, 0, 0), (1207, .iconst 1, 1, 0, 1), (1208, .iadd, 1, 0, 0), (1209, .iaload, 1, 0, 0), (1210, .invokevirtual 143, 3, 0, 0), (1213, .aload_n 2, 1, 0, 0), (1214, .aload_n 0, 1, 0, 0), (1215, .iload_n 3, 1, 0, 0), (1216, .iconst 1, 1, 0, 1), (1217, .iadd, 1, 0, 0), (1218, .iaload, 1, 0, 0), (1219, .invokevirtual 146, 3, 0, 0), (1222, .if_icmp .eq 309, 3, 1531, 0), (1225, .iconst 0, 1, 0, 0), (1226, .ireturn, 1, 0, 0), (1227, .aload_n 1, 1, 0, 0), (1228, .aload_n 0, 1, 0, 0), (1229, .iload_n 3, 1, 0, 0), (1230, .iconst 1, 1, 0, 1), (1231, .iadd, 1, 0, 0), (1232, .iaload, 1, 0, 0), (1233, .invokevirtual 147, 3, 0, 0), (1236, .aload_n 2, 1, 0, 0), (1237, .aload_n 0, 1, 0, 0), (1238, .iload_n 3, 1, 0, 0), (1239, .iconst 1, 1, 0, 1), (1240, .iadd, 1, 0, 0), (1241, .iaload, 1, 0, 0), (1242, .invokevirtual 150, 3, 0, 0), (1245, .if_icmp .eq 286, 3, 1531, 0), (1248, .iconst 0, 1, 0, 0), (1249, .ireturn, 1, 0, 0), (1250, .aload_n 1, 1, 0, 0), (1251, .aload_n 0, 1, 0, 0), (1252, .iload_n 3, 1, 0, 0), (1253, .iconst 1, 1, 0, 1), (1254, .iadd, 1, 0, 0), (1255, .iaload, 1, 0, 0), (1256, .invokevirtual 151, 3, 0, 0), (1259, .aload_n 2, 1, 0, 0), (1260, .aload_n 0, 1, 0, 0), (1261, .iload_n 3, 1, 0, 0), (1262, .iconst 1, 1, 0, 1), (1263, .iadd, 1, 0, 0), (1264, .iaload, 1, 0, 0), (1265, .invokevirtual 154, 3, 0, 0), (1268, .if_icmp .eq 263, 3, 1531, 0), (1271, .iconst 0, 1, 0, 0), (1272, .ireturn, 1, 0, 0), (1273, .aload_n 1, 1, 0, 0), (1274, .aload_n 0, 1, 0, 0), (1275, .iload_n 3, 1, 0, 0), (1276, .iconst 1, 1, 0, 1), (1277, .iadd, 1, 0, 0), (1278, .iaload, 1, 0, 0), (1279, .aload_n 0, 1, 0, 0), (1280, .iload_n 3, 1, 0, 0), (1281, .iconst 2, 1, 0, 2), (1282, .iadd, 1, 0, 0), (1283, .iaload, 1, 0, 0), (1284, .invokevirtual 155, 3, 0, 0), (1287, .aload_n 2, 1, 0, 0), (1288, .aload_n 0, 1, 0, 0), (1289, .iload_n 3, 1, 0, 0), (1290, .iconst 1, 1, 0, 1), (1291, .iadd, 1, 0, 0), (1292, .iaload, 1, 0, 0), (1293, .aload_n 0, 1, 0, 0), (1294, .iload_n 3, 1, 0, 0), (1295, .iconst 2, 1, 0, 2), (1296, .iadd, 1, 0, 0), (1297, .iaload, 1, 0, 0), (1298, .invokevirtual 158, 3, 0, 0), (1301, .if_icmp .eq 230, 3, 1531, 0), (1304, .iconst 0, 1, 0, 0), (1305, .ireturn, 1, 0, 0), (1306, .aload_n 1, 1, 0, 0), (1307, .aload_n 0, 1, 0, 0), (1308, .iload_n 3, 1, 0, 0), (1309, .iconst 1, 1, 0, 1), (1310, .iadd, 1, 0, 0), (1311, .iaload, 1, 0, 0), (1312, .invokevirtual 159, 3, 0, 0), (1315, .aload_n 2, 1, 0, 0), (1316, .aload_n 0, 1, 0, 0), (1317, .iload_n 3, 1, 0, 0), (1318, .iconst 1, 1, 0, 1), (1319, .iadd, 1, 0, 0), (1320, .iaload, 1, 0, 0), (1321, .invokevirtual 162, 3, 0, 0), (1324, .if_icmp .eq 207, 3, 1531, 0), (1327, .iconst 0, 1, 0, 0), (1328, .ireturn, 1, 0, 0), (1329, .aload_n 1, 1, 0, 0), (1330, .aload_n 0, 1, 0, 0), (1331, .iload_n 3, 1, 0, 0), (1332, .iconst 1, 1, 0, 1), (1333, .iadd, 1, 0, 0), (1334, .iaload, 1, 0, 0), (1335, .aload_n 0, 1, 0, 0), (1336, .iload_n 3, 1, 0, 0), (1337, .iconst 2, 1, 0, 2), (1338, .iadd, 1, 0, 0), (1339, .iaload, 1, 0, 0), (1340, .invokevirtual 163, 3, 0, 0), (1343, .aload_n 2, 1, 0, 0), (1344, .aload_n 0, 1, 0, 0), (1345, .iload_n 3, 1, 0, 0), (1346, .iconst 1, 1, 0, 1), (1347, .iadd, 1, 0, 0), (1348, .iaload, 1, 0, 0), (1349, .aload_n 0, 1, 0, 0), (1350, .iload_n 3, 1, 0, 0), (1351, .iconst 2, 1, 0, 2), (1352, .iadd, 1, 0, 0), (1353, .iaload, 1, 0, 0), (1354, .invokevirtual 166, 3, 0, 0), (1357, .if_icmp .eq 174, 3, 1531, 0), (1360, .iconst 0, 1, 0, 0), (1361, .ireturn, 1, 0, 0), (1362, .aload_n 1, 1, 0, 0), (1363, .aload_n 0, 1, 0, 0), (1364, .iload_n 3, 1, 0, 0), (1365, .iconst 1, 1, 0, 1), (1366, .iadd, 1, 0, 0), (1367, .iaload, 1, 0, 0), (1368, .aload_n 0, 1, 0, 0), (1369, .iload_n 3, 1, 0, 0), (1370, .iconst 2, 1, 0, 2), (1371, .iadd, 1, 0, 0), (1372, .iaload, 1, 0, 0), (1373, .invokevirtual 167, 3, 0, 0), (1376, .aload_n 2, 1, 0, 0), (1377, .aload_n 0, 1, 0, 0), (1378, .iload_n 3, 1, 0, 0), (1379, .iconst 1, 1, 0, 1), (1380, .iadd, 1, 0, 0), (1381, .iaload, 1, 0, 0), (1382, .aload_n 0, 1, 0, 0), (1383, .iload_n 3, 1, 0, 0), (1384, .iconst 2, 1, 0, 2), (1385, .iadd, 1, 0, 0), (1386, .iaload, 1, 0, 0), (1387, .invokevirtual 170, 3, 0, 0), (1390, .if_icmp .eq 141, 3, 1531, 0), (1393, .iconst 0, 1, 0, 0), (1394, .ireturn, 1, 0, 0), (1395, .aload_n 1, 1, 0, 0), (1396, .aload_n 0, 1, 0, 0), (1397, .iload_n 3, 1, 0, 0), (1398, .iconst 1, 1, 0, 1), (1399, .iadd, 1, 0, 0), (1400, .iaload, 1, 0, 0), (1401, .aload_n 0, 1, 0, 0), (1402, .iload_n 3, 1, 0, 0), (1403, .iconst 2, 1, 0, 2), (1404, .iadd, 1, 0, 0), (1405, .iaload, 1, 0, 0), (1406, .aload_n 0, 1, 0, 0), (1407, .iload_n 3, 1, 0, 0), (1408, .iconst 3, 1, 0, 3), (1409, .iadd, 1, 0, 0), (1410, .iaload, 1, 0, 0), (1411, .invokevirtual 171, 3, 0, 0), (1414, .aload_n 2, 1, 0, 0), (1415, .aload_n 0, 1, 0, 0), (1416, .iload_n 3, 1, 0, 0), (1417, .iconst 1, 1, 0, 1), (1418, .iadd, 1, 0, 0), (1419, .iaload, 1, 0, 0), (1420, .aload_n 0, 1, 0, 0), (1421, .iload_n 3, 1, 0, 0), (1422, .iconst 2, 1, 0, 2), (1423, .iadd, 1, 0, 0), (1424, .iaload, 1, 0, 0), (1425, .aload_n 0, 1, 0, 0), (1426, .iload_n 3, 1, 0, 0), (1427, .iconst 3, 1, 0, 3), (1428, .iadd, 1, 0, 0), (1429, .iaload, 1, 0, 0), (1430, .invokevirtual 174, 3, 0, 0), (1433, .if_icmp .eq 98, 3, 1531, 0), (1436, .iconst 0, 1, 0, 0), (1437, .ireturn, 1, 0, 0), (1438, .aload_n 1, 1, 0, 0), (1439, .aload_n 0, 1, 0, 0), (1440, .iload_n 3, 1, 0, 0), (1441, .iconst 1, 1, 0, 1), (1442, .iadd, 1, 0, 0), (1443, .iaload, 1, 0, 0), (1444, .aload_n 0, 1, 0, 0), (1445, .iload_n 3, 1, 0, 0), (1446, .iconst 2, 1, 0, 2), (1447, .iadd, 1, 0, 0), (1448, .iaload, 1, 0, 0), (1449, .invokevirtual 175, 3, 0, 0), (1452, .aload_n 2, 1, 0, 0), (1453, .aload_n 0, 1, 0, 0), (1454, .iload_n 3, 1, 0, 0), (1455, .iconst 1, 1, 0, 1), (1456, .iadd, 1, 0, 0), (1457, .iaload, 1, 0, 0), (1458, .aload_n 0, 1, 0, 0), (1459, .iload_n 3, 1, 0, 0), (1460, .iconst 2, 1, 0, 2), (1461, .iadd, 1, 0, 0), (1462, .iaload, 1, 0, 0), (1463, .invokevirtual 178, 3, 0, 0), (1466, .if_icmp .eq 65, 3, 1531, 0), (1469, .iconst 0, 1, 0, 0), (1470, .ireturn, 1, 0, 0), (1471, .aload_n 1, 1, 0, 0), (1472, .aload_n 0, 1, 0, 0), (1473, .iload_n 3, 1, 0, 0), (1474, .iconst 1, 1, 0, 1), (1475, .iadd, 1, 0, 0), (1476, .iaload, 1, 0, 0), (1477, .invokevirtual 179, 3, 0, 0), (1480, .aload_n 2, 1, 0, 0), (1481, .aload_n 0, 1, 0, 0), (1482, .iload_n 3, 1, 0, 0), (1483, .iconst 1, 1, 0, 1), (1484, .iadd, 1, 0, 0), (1485, .iaload, 1, 0, 0), (1486, .invokevirtual 182, 3, 0, 0), (1489, .if_icmp .eq 42, 3, 1531, 0), (1492, .iconst 0, 1, 0, 0), (1493, .ireturn, 1, 0, 0), (1494, .aload_n 1, 1, 0, 0), (1495, .aload_n 0, 1, 0, 0), (1496, .iload_n 3, 1, 0, 0), (1497, .iconst 1, 1, 0, 1), (1498, .iadd, 1, 0, 0), (1499, .iaload, 1, 0, 0), (1500, .invokevirtual 183, 3, 0, 0), (1503, .aload_n 2, 1, 0, 0), (1504, .aload_n 0, 1, 0, 0), (1505, .iload_n 3, 1, 0, 0), (1506, .iconst 1, 1, 0, 1), (1507, .iadd, 1, 0, 0), (1508, .iaload, 1, 0, 0), (1509, .invokevirtual 186, 3, 0, 0), (1512, .if_icmp .eq 19, 3, 1531, 0), (1515, .iconst 0, 1, 0, 0), (1516, .ireturn, 1, 0, 0), (1517, .aload_n 1, 1, 0, 0), (1518, .invokevirtual 187, 3, 0, 0), (1521, .aload_n 2, 1, 0, 0), (1522, .invokevirtual 191, 3, 0, 0), (1525, .lcmp, 1, 0, 0), (1526, .ifCond .eq 5, 3, 1531, 0), (1529, .iconst 0, 1, 0, 0), (1530, .ireturn, 1, 0, 0), (1531, .iinc 3 5, 3, 0, 5), (1534, .goto (-1516), 3, 18, 0), (1537, .iconst 1, 1, 0, 1), (1538, .ireturn, 1, 0, 0)]
def gm_309 : gw_M := (13, ⟨"GlassWiresLaw", "law", "([I)Z"⟩, code, 4, (some .boolean), 1, 1, 24, gk_309)
def gk_310 : List (Nat × gw_I) := [(0, .iload_n 0, 1, 0, 0), (1, .ifCond .ge 8, 3, 9, 0), (4, .iload_n 0, 1, 0, 0), (5, .ineg, 1, 0, 0), (6, .goto 4, 3, 10, 0), (9, .iload_n 0, 1, 0, 0), (10, .ireturn, 1, 0, 0)]
def gm_310 : gw_M := (14, ⟨"java/lang/Math", "abs", "(I)I"⟩, prog_15_method_59_code, 1, (some .int), 1, 1, 1, gk_310)
def gk_311 : List (Nat × gw_I) := [(0, .iload_n 0, 1, 0, 0), (1, .iload_n 1, 1, 0, 0), (2, .if_icmp .lt 7, 3, 9, 0), (5, .iload_n 0, 1, 0, 0), (6, .goto 4, 3, 10, 0), (9, .iload_n 1, 1, 0, 0), (10, .ireturn, 1, 0, 0)]
def gm_311 : gw_M := (14, ⟨"java/lang/Math", "max", "(II)I"⟩, prog_15_method_65_code, 2, (some .int), 2, 1, 1, gk_311)
def gk_312 : List (Nat × gw_I) := [(0, .iload_n 0, 1, 0, 0), (1, .iload_n 1, 1, 0, 0), (2, .if_icmp .gt 7, 3, 9, 0), (5, .iload_n 0, 1, 0, 0), (6, .goto 4, 3, 10, 0), (9, .iload_n 1, 1, 0, 0), (10, .ireturn, 1, 0, 0)]
def gm_312 : gw_M := (14, ⟨"java/lang/Math", "min", "(II)I"⟩, prog_15_method_69_code, 2, (some .int), 2, 1, 1, gk_312)
def gk_313 : List (Nat × gw_I) := [(0, .iconst 0, 1, 0, 0), (1, .istore_n 2, 1, 0, 0), (2, .aload_n 0, 1, 0, 0), (3, .arraylength, 1, 0, 0), (4, .istore_n 3, 1, 0, 0), (5, .iload_n 2, 1, 0, 0), (6, .iload_n 3, 1, 0, 0), (7, .if_icmp .ge 13, 3, 20, 0), (10, .aload_n 0, 1, 0, 0), (11, .iload_n 2, 1, 0, 0), (12, .iload_n 1, 1, 0, 0), (13, .iastore, 1, 0, 0), (14, .iinc 2 1, 3, 0, 1), (17, .goto (-12), 3, 5, 0), (20, .return_, 1, 0, 0)]
def gm_313 : gw_M := (15, ⟨"java/util/Arrays", "fill", "([II)V"⟩, prog_16_method_103_code, 4, none, 2, 1, 1, gk_313)
def gw_ML_0 : List gw_M := [gm_0, gm_1, gm_2, gm_3, gm_4, gm_5, gm_6, gm_7, gm_8, gm_9, gm_10, gm_11, gm_12, gm_13, gm_14, gm_15]
def gw_ML_1 : List gw_M := [gm_16, gm_17, gm_18, gm_19, gm_20, gm_21, gm_22, gm_23, gm_24, gm_25, gm_26, gm_27, gm_28, gm_29, gm_30, gm_31]
def gw_ML_2 : List gw_M := [gm_32, gm_33, gm_34, gm_35, gm_36, gm_37, gm_38, gm_39, gm_40, gm_41, gm_42, gm_43, gm_44, gm_45, gm_46, gm_47]
def gw_ML_3 : List gw_M := [gm_48, gm_49, gm_50, gm_51, gm_52, gm_53, gm_54, gm_55, gm_56, gm_57, gm_58, gm_59, gm_60, gm_61, gm_62, gm_63]
def gw_ML_4 : List gw_M := [gm_64, gm_65, gm_66, gm_67, gm_68, gm_69, gm_70, gm_71, gm_72, gm_73, gm_74, gm_75, gm_76, gm_77, gm_78, gm_79]
def gw_ML_5 : List gw_M := [gm_80, gm_81, gm_82, gm_83, gm_84, gm_85, gm_86, gm_87, gm_88, gm_89, gm_90, gm_91, gm_92, gm_93, gm_94, gm_95]
def gw_ML_6 : List gw_M := [gm_96, gm_97, gm_98, gm_99, gm_100, gm_101, gm_102, gm_103, gm_104, gm_105, gm_106, gm_107, gm_108, gm_109, gm_110, gm_111]
def gw_ML_7 : List gw_M := [gm_112, gm_113, gm_114, gm_115, gm_116, gm_117, gm_118, gm_119, gm_120, gm_121, gm_122, gm_123, gm_124, gm_125, gm_126, gm_127]
def gw_ML_8 : List gw_M := [gm_128, gm_129, gm_130, gm_131, gm_132, gm_133, gm_134, gm_135, gm_136, gm_137, gm_138, gm_139, gm_140, gm_141, gm_142, gm_143]
def gw_ML_9 : List gw_M := [gm_144, gm_145, gm_146, gm_147, gm_148, gm_149, gm_150, gm_151, gm_152, gm_153, gm_154, gm_155, gm_156, gm_157, gm_158, gm_159]
def gw_ML_10 : List gw_M := [gm_160, gm_161, gm_162, gm_163, gm_164, gm_165, gm_166, gm_167, gm_168, gm_169, gm_170, gm_171, gm_172, gm_173, gm_174, gm_175]
def gw_ML_11 : List gw_M := [gm_176, gm_177, gm_178, gm_179, gm_180, gm_181, gm_182, gm_183, gm_184, gm_185, gm_186, gm_187, gm_188, gm_189, gm_190, gm_191]
def gw_ML_12 : List gw_M := [gm_192, gm_193, gm_194, gm_195, gm_196, gm_197, gm_198, gm_199, gm_200, gm_201, gm_202, gm_203, gm_204, gm_205, gm_206, gm_207]
def gw_ML_13 : List gw_M := [gm_208, gm_209, gm_210, gm_211, gm_212, gm_213, gm_214, gm_215, gm_216, gm_217, gm_218, gm_219, gm_220, gm_221, gm_222, gm_223]
def gw_ML_14 : List gw_M := [gm_224, gm_225, gm_226, gm_227, gm_228, gm_229, gm_230, gm_231, gm_232, gm_233, gm_234, gm_235, gm_236, gm_237, gm_238, gm_239]
def gw_ML_15 : List gw_M := [gm_240, gm_241, gm_242, gm_243, gm_244, gm_245, gm_246, gm_247, gm_248, gm_249, gm_250, gm_251, gm_252, gm_253, gm_254, gm_255]
def gw_ML_16 : List gw_M := [gm_256, gm_257, gm_258, gm_259, gm_260, gm_261, gm_262, gm_263, gm_264, gm_265, gm_266, gm_267, gm_268, gm_269, gm_270, gm_271]
def gw_ML_17 : List gw_M := [gm_272, gm_273, gm_274, gm_275, gm_276, gm_277, gm_278, gm_279, gm_280, gm_281, gm_282, gm_283, gm_284, gm_285, gm_286, gm_287]
def gw_ML_18 : List gw_M := [gm_288, gm_289, gm_290, gm_291, gm_292, gm_293, gm_294, gm_295, gm_296, gm_297, gm_298, gm_299, gm_300, gm_301, gm_302, gm_303]
def gw_ML_19 : List gw_M := [gm_304, gm_305, gm_306, gm_307, gm_308, gm_309, gm_310, gm_311, gm_312, gm_313]
def gw_ML : List (List gw_M) := [gw_ML_0, gw_ML_1, gw_ML_2, gw_ML_3, gw_ML_4, gw_ML_5, gw_ML_6, gw_ML_7, gw_ML_8, gw_ML_9, gw_ML_10, gw_ML_11, gw_ML_12, gw_ML_13, gw_ML_14, gw_ML_15, gw_ML_16, gw_ML_17, gw_ML_18, gw_ML_19]
def gw_mi (n : Nat) : Option gw_M := match gw_ML[n / 16]? with | some l => l[n % 16]? | none => none
def gw_CP : Nat := 91
def gw_LAW : Nat := 309
end
section
/-! the interpreter: a program's step over cells that are counted (own work) -/
abbrev gw_C : Type := (Nat × Nat × (Nat → Int32)) ⊕ (Nat × List Value)
abbrev gw_H : Type := (Nat → gw_C) × Nat × Nat
abbrev gw_L : Type := List (Option Value)
abbrev gw_S : Type := Nat × gw_L × List Value × gw_H
def gw_up (h : Nat → gw_C) (a : Nat) (c : gw_C) : Nat → gw_C := fun b => if b = a then c else h b
def gw_i1 (st : List Value) (k : Int32 → List Value → Option gw_S) : Option gw_S := match st with
  | .int x :: r => k x r
  | _ => none
def gw_ii (st : List Value) (k : Int32 → Int32 → List Value → Option gw_S) : Option gw_S := match st with
  | .int y :: .int x :: r => k x y r
  | _ => none
def gw_l1 (st : List Value) (k : Int64 → List Value → Option gw_S) : Option gw_S := match st with
  | .long x :: r => k x r
  | _ => none
def gw_ll (st : List Value) (k : Int64 → Int64 → List Value → Option gw_S) : Option gw_S := match st with
  | .long y :: .long x :: r => k x y r
  | _ => none
def gw_li (st : List Value) (k : Int64 → Int32 → List Value → Option gw_S) : Option gw_S := match st with
  | .int y :: .long x :: r => k x y r
  | _ => none
def gw_r1 (st : List Value) (k : Nat → List Value → Option gw_S) : Option gw_S := match st with
  | .ref a :: r => k a r
  | _ => none
def gw_ri (st : List Value) (k : Nat → Int32 → List Value → Option gw_S) : Option gw_S := match st with
  | .int i :: .ref a :: r => k a i r
  | _ => none
def gw_rii (st : List Value) (k : Nat → Int32 → Int32 → List Value → Option gw_S) : Option gw_S := match st with
  | .int x :: .int i :: .ref a :: r => k a i x r
  | _ => none
def gw_cut (L : gw_L) (i : Nat) : gw_L := match i with
  | 0 => L
  | j + 1 => match L[j]? with
    | some (some v) => if v.category = 2 then L.set j none else L
    | _ => L
def gw_st1 (L : gw_L) (i : Nat) (v : Value) : Option gw_L := if i < L.length then some ((gw_cut L i).set i (some v)) else none
def gw_st2 (L : gw_L) (i : Nat) (v : Value) : Option gw_L := if i + 1 < L.length then some (((gw_cut L i).set i (some v)).set (i + 1) none) else none
def gw_ldi (L : gw_L) (i : Nat) (k : Int32 → Option gw_S) : Option gw_S := match L[i]? with
  | some (some (.int x)) => k x
  | _ => none
def gw_ldl (L : gw_L) (i : Nat) (k : Int64 → Option gw_S) : Option gw_S := match L[i]? with
  | some (some (.long x)) => k x
  | _ => none
def gw_lda (L : gw_L) (i : Nat) (k : Nat → Option gw_S) : Option gw_S := match L[i]? with
  | some (some (.ref x)) => k x
  | _ => none
def gw_tyL : List (Nat → FieldType) := [tyX0, tyX1, tyX2, tyX3, tyX4, tyX5, tyX6, tyX7, tyX8, tyX9, tyX10, tyX11, tyX12]
def gw_ty (ci k : Nat) : FieldType := match gw_tyL[ci]? with
  | some f => f k
  | none => .int
def gw_fit (t : FieldType) (v : Value) : Bool := match t, v with
  | .int, .int _ => true
  | .object _, .ref _ => true
  | .array _, .ref _ => true
  | _, _ => false
def gw_dv (t : FieldType) : Value := match t with
  | .int => .int 0
  | _ => .null
def gw_tsw (pc : Nat) (d lo hi : Int) (offs : Array Int) (x : Int32) : Nat := if x.toInt < lo ∨ hi < x.toInt then ((pc : Int) + d).toNat else match offs[(x.toInt - lo).toNat]? with
  | some off => ((pc : Int) + off).toNat
  | none => 0
def gw_obj (h : gw_H) (a ci : Nat) (k : List Value → Option gw_S) : Option gw_S := match h.1 a with
  | .inr (c, fs) => if c = ci then k fs else none
  | .inl _ => none
def gw_arr (h : gw_H) (a kd : Nat) (k : Nat → (Nat → Int32) → Option gw_S) : Option gw_S := match h.1 a with
  | .inl (c, n, f) => if c = kd then k n f else none
  | .inr _ => none
def gw_fld (own idx : Nat) (k : Nat → Nat → Option gw_S) : Option gw_S := match gw_pool own idx with
  | some (0, ci, j, _) => k ci j
  | _ => none
def gw_new (h : gw_H) (c : gw_C) (n : Nat) : gw_H := (gw_up h.1 h.2.1 c, h.2.1 + 1, h.2.2 + n)
def gw_set (h : gw_H) (a : Nat) (c : gw_C) : gw_H := (gw_up h.1 a c, h.2)
/-- what an instruction that neither calls nor ends does -/
def gw_ins (own kind : Nat) (i : Instr) (t : Nat) (c : Int32) (pc : Nat) (L : gw_L) (st : List Value) (h : gw_H) : Option gw_S := match i with
  | .iload_n k => gw_ldi L k fun x => some (pc + 1, L, .int x :: st, h)
  | .iload k => gw_ldi L k fun x => some (pc + 2, L, .int x :: st, h)
  | .lload_n k => gw_ldl L k fun x => some (pc + 1, L, .long x :: st, h)
  | .lload k => gw_ldl L k fun x => some (pc + 2, L, .long x :: st, h)
  | .aload_n k => gw_lda L k fun x => some (pc + 1, L, .ref x :: st, h)
  | .aload k => gw_lda L k fun x => some (pc + 2, L, .ref x :: st, h)
  | .istore_n k => gw_i1 st fun x r => (gw_st1 L k (.int x)).map fun L' => (pc + 1, L', r, h)
  | .istore k => gw_i1 st fun x r => (gw_st1 L k (.int x)).map fun L' => (pc + 2, L', r, h)
  | .lstore_n k => gw_l1 st fun x r => (gw_st2 L k (.long x)).map fun L' => (pc + 1, L', r, h)
  | .lstore k => gw_l1 st fun x r => (gw_st2 L k (.long x)).map fun L' => (pc + 2, L', r, h)
  | .astore_n k => gw_r1 st fun x r => (gw_st1 L k (.ref x)).map fun L' => (pc + 1, L', r, h)
  | .iinc k _ => gw_ldi L k fun x => (gw_st1 L k (.int (x + c))).map fun L' => (pc + 3, L', st, h)
  | .iconst _ => some (pc + 1, L, .int c :: st, h)
  | .bipush _ => some (pc + 2, L, .int c :: st, h)
  | .sipush _ => some (pc + 3, L, .int c :: st, h)
  | .ldc _ => some (pc + 2, L, .int c :: st, h)
  | .ldc_w _ => some (pc + 3, L, .int c :: st, h)
  | .ldc2_w idx => match gw_pool own idx with
    | some (4, _, _, v) => some (pc + 3, L, .long v :: st, h)
    | _ => none
  | .lconst n => some (pc + 1, L, .long (if n = 0 then 0 else 1) :: st, h)
  | .iadd => gw_ii st fun x y r => some (pc + 1, L, .int (x + y) :: r, h)
  | .isub => gw_ii st fun x y r => some (pc + 1, L, .int (x - y) :: r, h)
  | .imul => gw_ii st fun x y r => some (pc + 1, L, .int (x * y) :: r, h)
  | .iand => gw_ii st fun x y r => some (pc + 1, L, .int (x &&& y) :: r, h)
  | .ior => gw_ii st fun x y r => some (pc + 1, L, .int (x ||| y) :: r, h)
  | .ixor => gw_ii st fun x y r => some (pc + 1, L, .int (x ^^^ y) :: r, h)
  | .ishl => gw_ii st fun x y r => some (pc + 1, L, .int (x <<< (y &&& 31)) :: r, h)
  | .ishr => gw_ii st fun x y r => some (pc + 1, L, .int (x >>> (y &&& 31)) :: r, h)
  | .idiv => gw_ii st fun x y r => if y = 0 then none else some (pc + 1, L, .int (x / y) :: r, h)
  | .irem => gw_ii st fun x y r => if y = 0 then none else some (pc + 1, L, .int (x - x / y * y) :: r, h)
  | .ineg => gw_i1 st fun x r => some (pc + 1, L, .int (-x) :: r, h)
  | .ladd => gw_ll st fun x y r => some (pc + 1, L, .long (x + y) :: r, h)
  | .lmul => gw_ll st fun x y r => some (pc + 1, L, .long (x * y) :: r, h)
  | .land => gw_ll st fun x y r => some (pc + 1, L, .long (x &&& y) :: r, h)
  | .lor => gw_ll st fun x y r => some (pc + 1, L, .long (x ||| y) :: r, h)
  | .lushr => gw_li st fun x y r => some (pc + 1, L, .long ((x.toUInt64 >>> (y.toInt64.toUInt64 &&& Int64.toUInt64 63)).toInt64) :: r, h)
  | .lshl => gw_li st fun x y r => some (pc + 1, L, .long (x <<< (y.toInt64 &&& 63)) :: r, h)
  | .lcmp => gw_ll st fun x y r => some (pc + 1, L, .int (lg_cmp x y) :: r, h)
  | .i2l => gw_i1 st fun x r => some (pc + 1, L, .long x.toInt64 :: r, h)
  | .l2i => gw_l1 st fun x r => some (pc + 1, L, .int x.toInt32 :: r, h)
  | .goto _ => some (t, L, st, h)
  | .ifCond .eq _ => gw_i1 st fun x r => some (if x = 0 then t else pc + 3, L, r, h)
  | .ifCond .ne _ => gw_i1 st fun x r => some (if x = 0 then pc + 3 else t, L, r, h)
  | .ifCond .lt _ => gw_i1 st fun x r => some (if x < 0 then t else pc + 3, L, r, h)
  | .ifCond .ge _ => gw_i1 st fun x r => some (if 0 ≤ x then t else pc + 3, L, r, h)
  | .ifCond .gt _ => gw_i1 st fun x r => some (if 0 < x then t else pc + 3, L, r, h)
  | .ifCond .le _ => gw_i1 st fun x r => some (if x ≤ 0 then t else pc + 3, L, r, h)
  | .if_icmp .eq _ => gw_ii st fun x y r => some (if x = y then t else pc + 3, L, r, h)
  | .if_icmp .ne _ => gw_ii st fun x y r => some (if x = y then pc + 3 else t, L, r, h)
  | .if_icmp .lt _ => gw_ii st fun x y r => some (if x < y then t else pc + 3, L, r, h)
  | .if_icmp .ge _ => gw_ii st fun x y r => some (if y ≤ x then t else pc + 3, L, r, h)
  | .if_icmp .gt _ => gw_ii st fun x y r => some (if y < x then t else pc + 3, L, r, h)
  | .if_icmp .le _ => gw_ii st fun x y r => some (if x ≤ y then t else pc + 3, L, r, h)
  | .tableswitch d lo hi offs => gw_i1 st fun x r => some (gw_tsw pc d lo hi offs x, L, r, h)
  | .lookupswitch d ps => gw_i1 st fun x r => some (((pc : Int) + Op.lookupswitch.offset ps.toList d x.toInt).toNat, L, r, h)
  | .dup => match st with
    | v :: r => if v.category = 1 then some (pc + 1, L, v :: v :: r, h) else none
    | _ => none
  | .dup2 => match st with
    | v :: w :: r => if v.category = 1 ∧ w.category = 1 then some (pc + 1, L, v :: w :: v :: w :: r, h) else none
    | _ => none
  | .pop => match st with
    | v :: r => if v.category = 1 then some (pc + 1, L, r, h) else none
    | _ => none
  | .getfield idx => gw_fld own idx fun ci k => gw_r1 st fun a r => gw_obj h a ci fun fs => match fs[k]? with
    | some v => if 8 ≤ a then some (pc + 3, L, v :: r, h) else none
    | none => none
  | .putfield idx => gw_fld own idx fun ci k => match st with
    | v :: .ref a :: r => gw_obj h a ci fun fs => match vwCl[ci]? with
      | some (_, T, _) => if 8 ≤ a ∧ k < fs.length ∧ gw_fit (gw_ty ci k) v = true ∧ ((T k).2.2.2 = true → kind = 2 ∧ own = ci) then some (pc + 3, L, r, gw_set h a (.inr (ci, fs.set k v))) else none
      | none => none
    | _ => none
  | .getstatic idx => match gw_pool own idx with
    | some (5, j, _, _) => some (pc + 3, L, .ref j :: st, h)
    | _ => none
  | .iaload => gw_ri st fun a i r => gw_arr h a 0 fun n f => if i < 0 ∨ n ≤ i.toNatClampNeg then none else some (pc + 1, L, .int (f i.toNatClampNeg) :: r, h)
  | .baload => gw_ri st fun a i r => gw_arr h a 1 fun n f => if i < 0 ∨ n ≤ i.toNatClampNeg then none else if 8 ≤ a then some (pc + 1, L, .int (f i.toNatClampNeg) :: r, h) else none
  | .iastore => gw_rii st fun a i x r => gw_arr h a 0 fun n f => if i < 0 ∨ n ≤ i.toNatClampNeg then none else if 8 ≤ a then some (pc + 1, L, r, gw_set h a (.inl (0, n, upd f i.toNatClampNeg x))) else none
  | .bastore => gw_rii st fun a i x r => gw_arr h a 1 fun n f => if i < 0 ∨ n ≤ i.toNatClampNeg then none else if 8 ≤ a then some (pc + 1, L, r, gw_set h a (.inl (1, n, upd f i.toNatClampNeg (x &&& 1)))) else none
  | .arraylength => gw_r1 st fun a r => gw_arr h a 0 fun n _ => some (pc + 1, L, .int (Int32.ofNat n) :: r, h)
  | .new idx => match gw_pool own idx with
    | some (2, ci, _, _) => match vwCl[ci]? with
      | some (_, _, N) => some (pc + 3, L, .ref h.2.1 :: st, gw_new h (.inr (ci, (List.range N).map fun k => gw_dv (gw_ty ci k))) N)
      | none => none
    | _ => none
  | .newarray .int => gw_i1 st fun x r => if x < 0 ∨ 100000 < x.toNatClampNeg then none else some (pc + 2, L, .ref h.2.1 :: r, gw_new h (.inl (0, x.toNatClampNeg, fun _ => 0)) x.toNatClampNeg)
  | .newarray .boolean => gw_i1 st fun x r => if x < 0 ∨ 100000 < x.toNatClampNeg then none else some (pc + 2, L, .ref h.2.1 :: r, gw_new h (.inl (1, x.toNatClampNeg, fun _ => 0)) x.toNatClampNeg)
  | .invokespecial idx => match gw_pool own idx with
    | some (6, _, _, _) => gw_r1 st fun _ r => if (r.map fun v => v.category).sum ≤ 8 then some (pc + 3, L, r, h) else none
    | _ => none
  | _ => none
def gw_at (m pc : Nat) : Option (gw_M × gw_I) := match gw_mi m with
  | some M => match M.2.2.2.2.2.2.2.2.lookup pc with
    | some I => some (M, I)
    | none => none
  | none => none
def gw_stp (m pc : Nat) (L : gw_L) (st : List Value) (h : gw_H) : Option gw_S := match gw_at m pc with
  | some (M, I) => gw_ins M.1 M.2.2.2.2.2.2.1 I.1 I.2.2.1 I.2.2.2 pc L st h
  | none => none
def gw_rtv (rt : Option FieldType) (i : Instr) (st : List Value) : Option (Option Value) := match rt, i, st with
  | some .int, .ireturn, [.int x] => some (some (.int x))
  | some .boolean, .ireturn, [.int x] => if x &&& 1 = x then some (some (.int x)) else none
  | some .long, .lreturn, [.long x] => some (some (.long x))
  | none, .return_, [] => some none
  | _, _, _ => none
def gw_ret (m pc : Nat) (st : List Value) : Option (Option Value) := match gw_at m pc with
  | some (M, I) => gw_rtv M.2.2.2.2.1 I.1 st
  | none => none
/-- how many frames a call may take -/
def gw_bd (m : Nat) (args : List Value) : Nat := if m = gw_CP then (match args with
  | [_, _, .int x, _, _] => 3 + (11 - x.toNatClampNeg)
  | _ => 14) else match gw_mi m with
  | some M => M.2.2.2.2.2.2.2.1
  | none => 0
def gw_slots (args : List Value) : gw_L := args.flatMap fun v => if v.category = 2 then [some v, none] else [some v]
def gw_ent (m : Nat) (args : List Value) : gw_L := match gw_mi m with
  | some M => gw_slots args ++ List.replicate (M.2.2.2.1 - (gw_slots args).length) none
  | none => []
/-- which kind of call an instruction is: 0 virtual, 1 static, 2 constructor -/
def gw_ck (i : Instr) : Option (Nat × Nat) := match i with
  | .invokevirtual k => some (0, k)
  | .invokestatic k => some (1, k)
  | .invokespecial k => some (2, k)
  | _ => none
def gw_rcv (y kd : Nat) (args : List Value) (h : gw_H) : Bool := match kd with
  | 0 => match args with
    | .ref a :: _ => match h.1 a with
      | .inr (c, _) => decide (8 ≤ a) && (match gw_mi y with | some Y => c == Y.1 | none => false)
      | .inl _ => false
    | _ => false
  | 2 => match args with
    | .ref _ :: _ => true
    | _ => false
  | _ => true
/-- a call: the method, its arguments, what stays on the stack -/
def gw_call (b m pc : Nat) (st : List Value) (h : gw_H) : Option (Nat × List Value × List Value) := match gw_at m pc with
  | some (M, I) => match gw_ck I.1 with
    | some (kd, idx) => match gw_pool M.1 idx with
      | some (1, y, _, _) => match gw_mi y with
        | some Y =>
          let n := Y.2.2.2.2.2.1 + (if kd = 1 then 0 else 1)
          let args := (st.take n).reverse
          let rest := st.drop n
          if Y.2.2.2.2.2.2.1 = kd ∧ n ≤ st.length ∧ (rest.map fun v => v.category).sum ≤ 8 ∧ gw_bd y args < b ∧ (gw_slots args).length ≤ Y.2.2.2.1 ∧ gw_rcv y kd args h = true then some (y, args, rest) else none
        | none => none
      | _ => none
    | none => none
  | none => none
def gw_le (L2 L : gw_L) : Prop := L2.length = L.length ∧ ∀ (i : Nat) (v : Value), L2[i]? = some (some v) → L[i]? = some (some v)
def gw_Go : Nat → Nat → Nat → Nat → gw_L → List Value → gw_H → Option Value × gw_H → Prop
  | 0 => fun _ _ _ _ _ _ _ => False
  | n + 1 => fun b m pc L st h res =>
    (∃ L2, gw_le L2 L ∧ gw_Go n b m pc L2 st h res) ∨
    (∃ s' : gw_S, gw_stp m pc L st h = some s' ∧ gw_Go n b m s'.1 s'.2.1 s'.2.2.1 s'.2.2.2 res) ∨
    (∃ r, gw_ret m pc st = some r ∧ res = (r, h)) ∨
    (∃ (y : Nat) (args rest : List Value) (r : Option Value) (h1 : gw_H), gw_call b m pc st h = some (y, args, rest) ∧ gw_Go n (gw_bd y args) y 0 (gw_ent y args) [] h (r, h1) ∧ gw_Go n b m (pc + 3) L (r.toList ++ rest) h1 res)
theorem gw_Go.mono {n : Nat} : ∀ {n' b m pc : Nat} {L : gw_L} {st : List Value} {h : gw_H} {res : Option Value × gw_H}, n ≤ n' → gw_Go n b m pc L st h res → gw_Go n' b m pc L st h res := by
  induction n with
  | zero => intro n' b m pc L st h res _ hg; exact hg.elim
  | succ n ih =>
    intro n' b m pc L st h res hn hg
    obtain ⟨k, rfl⟩ : ∃ k, n' = k + 1 := ⟨n' - 1, by omega⟩
    have hk : n ≤ k := by omega
    rcases hg with ⟨L2, h1, h2⟩ | ⟨s', h1, h2⟩ | h1 | ⟨y, args, rest, r, h1, h2, h3, h4⟩
    · exact Or.inl ⟨L2, h1, ih hk h2⟩
    · exact Or.inr (Or.inl ⟨s', h1, ih hk h2⟩)
    · exact Or.inr (Or.inr (Or.inl h1))
    · exact Or.inr (Or.inr (Or.inr ⟨y, args, rest, r, h1, h2, ih hk h3, ih hk h4⟩))
def Ev (b m pc : Nat) (L : gw_L) (st : List Value) (h : gw_H) (res : Option Value × gw_H) : Prop := ∃ n, gw_Go n b m pc L st h res
/-- a whole call -/
def Rn (m : Nat) (args : List Value) (h : gw_H) (r : Option Value) (h1 : gw_H) : Prop := Ev (gw_bd m args) m 0 (gw_ent m args) [] h (r, h1)
section EV
variable {b m pc : Nat} {L : gw_L} {st : List Value} {h : gw_H} {res : Option Value × gw_H}
theorem Ev.weak (L2 : gw_L) (h1 : gw_le L2 L) (k : Ev b m pc L2 st h res) : Ev b m pc L st h res := by
  obtain ⟨n, hn⟩ := k
  exact ⟨n + 1, Or.inl ⟨L2, h1, hn⟩⟩
theorem Ev.step {pc' : Nat} {L' : gw_L} {st' : List Value} {h' : gw_H} (h1 : gw_stp m pc L st h = some (pc', L', st', h')) (k : Ev b m pc' L' st' h' res) : Ev b m pc L st h res := by
  obtain ⟨n, hn⟩ := k
  exact ⟨n + 1, Or.inr (Or.inl ⟨_, h1, hn⟩)⟩
theorem Ev.ret {r : Option Value} (h1 : gw_ret m pc st = some r) : Ev b m pc L st h (r, h) := ⟨1, Or.inr (Or.inr (Or.inl ⟨r, h1, rfl⟩))⟩
theorem Ev.call {y : Nat} {args rest : List Value} {r : Option Value} {h1 : gw_H} (hc : gw_call b m pc st h = some (y, args, rest)) (hr : Rn y args h r h1) (k : Ev b m (pc + 3) L (r.toList ++ rest) h1 res) : Ev b m pc L st h res := by
  obtain ⟨n1, hn1⟩ := hr
  obtain ⟨n2, hn2⟩ := k
  exact ⟨max n1 n2 + 1, Or.inr (Or.inr (Or.inr ⟨y, args, rest, r, h1, hc, hn1.mono (Nat.le_max_left _ _), hn2.mono (Nat.le_max_right _ _)⟩))⟩
end EV
def gw_stps : Nat → Nat → gw_S → Option gw_S
  | 0, _, s => some s
  | n + 1, m, s => match gw_stp m s.1 s.2.1 s.2.2.1 s.2.2.2 with
    | some s' => gw_stps n m s'
    | none => none
theorem Ev.steps (n : Nat) {b m pc : Nat} {L : gw_L} {st : List Value} {h : gw_H} {res : Option Value × gw_H} {pc' : Nat} {L' : gw_L} {st' : List Value} {h' : gw_H} (h1 : gw_stps n m (pc, L, st, h) = some (pc', L', st', h')) (k : Ev b m pc' L' st' h' res) : Ev b m pc L st h res := by
  induction n generalizing pc L st h with
  | zero => cases h1; exact k
  | succ n ih =>
    unfold gw_stps at h1
    cases hs : gw_stp m pc L st h with
    | none => simp [hs] at h1
    | some s' =>
      simp only [hs] at h1
      exact Ev.step (L' := s'.2.1) (st' := s'.2.2.1) (h' := s'.2.2.2) hs (ih h1)
end
section
/-! the tables are the program's: decided by the kernel -/
def gw_cnm (c : Nat) : String := match gw_cn[c]? with
  | some s => s
  | none => ""
def gw_sn (j : Nat) : String := match j with
  | 1 => "LEAST_TRAIT"
  | 2 => "MOST_TRAIT"
  | 3 => "FIRST_TRAIT"
  | _ => "MOST_RULE"
def gw_ti (i : Nat) (w : Jvm.Cond) : Bool := decide (tables_1[i]? = some w)
def gw_len (i : Instr) : Nat := match i with
  | .iload _ => 2
  | .lload _ => 2
  | .aload _ => 2
  | .istore _ => 2
  | .lstore _ => 2
  | .bipush _ => 2
  | .ldc _ => 2
  | .newarray _ => 2
  | .iinc _ _ => 3
  | .sipush _ => 3
  | .ldc_w _ => 3
  | .ldc2_w _ => 3
  | .goto _ => 3
  | .ifCond _ _ => 3
  | .if_icmp _ _ => 3
  | .getfield _ => 3
  | .putfield _ => 3
  | .getstatic _ => 3
  | .new _ => 3
  | .invokevirtual _ => 3
  | .invokestatic _ => 3
  | .invokespecial _ => 3
  | .tableswitch _ _ _ _ => 0
  | .lookupswitch _ _ => 0
  | _ => 1
def gw_okT (own pc : Nat) (i : Instr) (t : Nat) (c : Int32) : Bool := match i with
  | .goto off => decide ((pc : Int) + off = (t : Int))
  | .ifCond _ off => decide ((pc : Int) + off = (t : Int))
  | .if_icmp _ off => decide ((pc : Int) + off = (t : Int))
  | .iconst n => decide (Int32.ofInt n = c)
  | .bipush n => decide ((Int8.ofInt n).toInt32 = c)
  | .sipush n => decide ((Int16.ofInt n).toInt32 = c)
  | .iinc _ n => decide (Int32.ofInt n = c)
  | .ldc idx => gw_ti t (Jvm.Cond.constant (gw_cnm own) idx c)
  | .ldc_w idx => gw_ti t (Jvm.Cond.constant (gw_cnm own) idx c)
  | .tableswitch d lo hi offs => decide (0 ≤ (pc : Int) + d) && offs.toList.all (fun x => decide (0 ≤ (pc : Int) + x)) && decide ((offs.size : Int) = hi - lo + 1)
  | .lookupswitch d ps => decide (0 ≤ (pc : Int) + d) && ps.toList.all (fun x => decide (0 ≤ (pc : Int) + x.2)) && (ps.toList.zip (ps.toList.drop 1)).all (fun (a, next) => a.1 < next.1)
  | _ => true
def gw_okI (own : Nat) (byt : ByteArray) (q : Nat × gw_I) : Bool := decide (decode byt q.1 = .ok (q.2.1, q.2.2.1)) && (gw_len q.2.1 == 0 || gw_len q.2.1 == q.2.2.1) && gw_okT own q.1 q.2.1 q.2.2.2.1 q.2.2.2.2
def gw_okW (ix : Nat × Nat × Nat × Nat) (y : MethodName) (byt : ByteArray) (maxL : Nat) (ret : Option FieldType) (np kind : Nat) : Bool :=
  gw_ti ix.1 (Jvm.Cond.code y byt maxL ret) && gw_ti ix.2.1 (Jvm.Cond.initialized y.cls) && (if kind = 1 then gw_ti ix.2.2.1 (Jvm.Cond.static y) else gw_ti ix.2.2.1 (Jvm.Cond.instanceMethod y)) && (if kind = 0 then (gw_ti ix.2.2.2 (Jvm.Cond.selects y.cls y y) || decide ((k2_sels lw_privs)[ix.2.2.2]? = some (Jvm.Cond.selects y.cls y y))) else true) && (if kind = 2 then y.name == "<init>" && ret == none else true)
  && decide (y.cls ≠ "java/lang/invoke/MethodHandle" ∧ y.cls ≠ "java/lang/invoke/VarHandle" ∧ (parseMethodDescriptor y.desc).map (fun d => d.parameters.length) = some np) && plainName y.cls && decide (maxL ≤ 40)
def gw_okM (M : gw_M) (ix : Nat × Nat × Nat × Nat) : Bool := (M.2.1.cls == gw_cnm M.1) && (M.1 == 13 || gw_okW ix M.2.1 M.2.2.1 M.2.2.2.1 M.2.2.2.2.1 M.2.2.2.2.2.1 M.2.2.2.2.2.2.1)
def gw_okP (c : Nat) (q : Nat × gw_E) (ix : Nat × Nat × Nat) : Bool := match q.2 with
  | (0, ci, k, _) => match vwCl[ci]? with
    | some (C, T, N) => decide (k < N) && decide ((T k).1 = C) && gw_ti ix.1 (Jvm.Cond.fieldLink (gw_cnm c) q.1 C (T k).2.1 (T k).2.2.1)
    | none => false
  | (1, y, nest, _) => match gw_mi y with
    | some Y => decide (Y.1 ≠ 13) && (if nest = 0 then gw_ti ix.1 (Jvm.Cond.methodLink (gw_cnm c) q.1 Y.2.1) else gw_ti ix.1 (Jvm.Cond.methodLinkNest (gw_cnm c) q.1 Y.2.1 "GlassWires"))
    | none => false
  | (2, ci, _, _) => match vwCl[ci]? with
    | some (C, _, N) => gw_ti ix.1 (Jvm.Cond.classLink (gw_cnm c) q.1 C) && gw_ti ix.2.1 (Jvm.Cond.instantiable C N) && gw_ti ix.2.2 (Jvm.Cond.initialized C)
    | none => false
  | (3, _, _, _) => true
  | (4, _, _, v) => gw_ti ix.1 (Jvm.Cond.constantLong (gw_cnm c) q.1 v)
  | (5, j, _, _) => decide (1 ≤ j ∧ j ≤ 4) && gw_ti ix.1 (Jvm.Cond.fieldLink (gw_cnm c) q.1 "GlassWires$Palette" (gw_sn j) "[I")
  | (6, _, _, _) => gw_ti ix.1 (Jvm.Cond.methodLink (gw_cnm c) q.1 objectInit)
  | _ => false
def gw_all2 {α β : Type} (f : α → β → Bool) : List α → List β → Bool
  | [], _ => true
  | a :: l, b :: r => f a b && gw_all2 f l r
  | _ :: _, [] => false
def gw_okC (M : gw_M) : Bool := M.2.2.2.2.2.2.2.2.all (gw_okI M.1 M.2.2.1)
theorem gw_splitC {α : Type} {l : List α} {f : α → Bool} (k : Nat) (h1 : (l.take k).all f = true) (h2 : (l.drop k).all f = true) : l.all f = true := by
  rw [← List.take_append_drop k l, List.all_append, h1, h2]
  rfl
end
section
def gx_0 : List (Nat × Nat × Nat) := [(138, 0, 0), (141, 0, 0), (142, 0, 0), (143, 0, 0), (139, 0, 0), (140, 0, 0), (368, 0, 0), (144, 0, 0), (369, 0, 0), (373, 0, 0), (377, 0, 0), (395, 0, 0), (405, 0, 0), (679, 0, 0), (683, 0, 0)]
theorem gp_ok_0 : gw_all2 (gw_okP 0) gp_0 gx_0 = true := sorry
def gx_1 : List (Nat × Nat × Nat) := [(203, 0, 0), (208, 0, 0), (209, 0, 0), (210, 0, 0), (211, 0, 0), (212, 0, 0), (204, 0, 0), (205, 0, 0), (206, 0, 0), (207, 0, 0), (459, 0, 0), (213, 0, 0), (796, 0, 0), (797, 0, 0), (841, 0, 0), (853, 0, 0), (854, 0, 0), (863, 0, 0), (845, 0, 0), (849, 0, 0), (858, 0, 0), (867, 0, 0), (868, 0, 0), (872, 0, 0), (879, 0, 0), (876, 0, 0), (877, 0, 0), (878, 0, 0), (883, 0, 0), (887, 0, 0), (912, 0, 0), (916, 0, 0), (917, 0, 0), (980, 0, 0), (1075, 0, 0), (1076, 0, 0), (1179, 0, 0)]
theorem gp_ok_1 : gw_all2 (gw_okP 1) gp_1 gx_1 = true := sorry
def gx_2 : List (Nat × Nat × Nat) := [(29, 0, 0), (34, 0, 0), (35, 0, 0), (30, 0, 0), (36, 0, 0), (37, 0, 0), (602, 0, 0), (381, 0, 0), (384, 0, 0), (387, 0, 0), (391, 0, 0), (399, 0, 0), (402, 0, 0), (1158, 0, 0)]
theorem gp_ok_2 : gw_all2 (gw_okP 2) gp_2 gx_2 = true := sorry
def gx_3 : List (Nat × Nat × Nat) := [(98, 0, 0), (101, 0, 0), (102, 0, 0), (103, 0, 0), (104, 0, 0), (105, 0, 0), (106, 0, 0), (107, 0, 0), (108, 0, 0), (109, 0, 0), (99, 0, 0), (100, 0, 0), (306, 0, 0), (309, 0, 0), (313, 0, 0), (317, 0, 0), (348, 0, 0), (321, 0, 0), (325, 0, 0), (329, 0, 0), (333, 0, 0), (337, 0, 0), (341, 0, 0), (345, 0, 0), (352, 0, 0), (360, 0, 0), (356, 0, 0), (653, 0, 0), (616, 0, 0), (620, 0, 0), (624, 0, 0), (628, 0, 0), (629, 0, 0), (633, 0, 0), (637, 0, 0), (641, 0, 0), (642, 0, 0), (643, 0, 0), (644, 0, 0), (658, 0, 0), (668, 0, 0), (662, 0, 0), (665, 0, 0)]
theorem gp_ok_3 : gw_all2 (gw_okP 3) gp_3 gx_3 = true := sorry
def gx_4 : List (Nat × Nat × Nat) := [(53, 0, 0), (54, 0, 0), (55, 0, 0), (477, 0, 0), (480, 0, 0), (483, 0, 0), (504, 0, 0), (508, 0, 0), (509, 0, 0), (510, 0, 0), (519, 0, 0), (1195, 0, 0)]
theorem gp_ok_4 : gw_all2 (gw_okP 4) gp_4 gx_4 = true := sorry
def gx_5 : List (Nat × Nat × Nat) := [(163, 0, 0), (166, 0, 0), (167, 0, 0), (168, 0, 0), (164, 0, 0), (165, 0, 0), (719, 0, 0), (728, 0, 0), (729, 0, 0), (730, 0, 0), (744, 0, 0), (723, 0, 0), (724, 0, 0), (725, 0, 0), (726, 0, 0), (727, 0, 0), (733, 0, 0)]
theorem gp_ok_5 : gw_all2 (gw_okP 5) gp_5 gx_5 = true := sorry
def gx_6 : List (Nat × Nat × Nat) := [(185, 0, 0), (188, 0, 0), (189, 0, 0), (190, 0, 0), (186, 0, 0), (759, 0, 0), (761, 0, 0), (786, 0, 0), (862, 0, 0), (933, 0, 0), (934, 0, 0), (1172, 0, 0), (1173, 0, 0), (1174, 0, 0)]
theorem gp_ok_6 : gw_all2 (gw_okP 6) gp_6 gx_6 = true := sorry
def gx_7 : List (Nat × Nat × Nat) := [(240, 0, 0), (242, 0, 0), (243, 0, 0), (241, 0, 0), (244, 0, 0), (946, 0, 0), (950, 0, 0), (951, 0, 0), (952, 0, 0)]
theorem gp_ok_7 : gw_all2 (gw_okP 7) gp_7 gx_7 = true := sorry
def gx_8 : List (Nat × Nat × Nat) := [(281, 0, 0), (282, 0, 0), (283, 0, 0), (284, 0, 0), (285, 0, 0), (286, 0, 0), (1109, 0, 0), (0, 0, 0), (1113, 0, 0), (1116, 0, 0), (1117, 0, 0), (1118, 0, 0), (1126, 0, 0), (1127, 0, 0), (1122, 0, 0), (1123, 0, 0), (1124, 0, 0), (1190, 0, 0)]
theorem gp_ok_8 : gw_all2 (gw_okP 8) gp_8 gx_8 = true := sorry
def gx_9 : List (Nat × Nat × Nat) := [(259, 0, 0), (260, 0, 0), (261, 0, 0), (262, 0, 0), (263, 0, 0), (264, 0, 0), (988, 0, 0), (992, 0, 0), (993, 0, 0), (1002, 0, 0), (1003, 0, 0), (1004, 0, 0), (1012, 0, 0), (1016, 0, 0), (1026, 0, 0), (1052, 0, 0), (1056, 0, 0), (1048, 0, 0), (1065, 0, 0), (1066, 0, 0), (1184, 0, 0)]
theorem gp_ok_9 : gw_all2 (gw_okP 9) gp_9 gx_9 = true := sorry
def gx_10 : List (Nat × Nat × Nat) := [(66, 0, 0), (67, 0, 0), (68, 0, 0), (69, 0, 0), (70, 0, 0), (71, 0, 0), (72, 0, 0), (73, 0, 0), (74, 0, 0), (545, 0, 0), (524, 0, 0), (528, 0, 0), (531, 0, 0), (535, 0, 0), (536, 0, 0), (537, 0, 0), (540, 0, 0), (546, 0, 0), (547, 0, 0), (544, 0, 0), (1166, 0, 0), (1167, 0, 0)]
theorem gp_ok_10 : gw_all2 (gw_okP 10) gp_10 gx_10 = true := sorry
def gx_11 : List (Nat × Nat × Nat) := [(21, 0, 0), (24, 25, 2), (26, 0, 0), (409, 0, 0), (48, 49, 3), (50, 0, 0), (410, 0, 0), (61, 62, 4), (63, 0, 0), (411, 0, 0), (93, 94, 5), (95, 0, 0), (412, 0, 0), (133, 134, 6), (135, 0, 0), (413, 0, 0), (158, 159, 7), (160, 0, 0), (414, 0, 0), (180, 181, 8), (182, 0, 0), (415, 0, 0), (198, 199, 9), (200, 0, 0), (416, 0, 0), (235, 236, 10), (237, 0, 0), (417, 0, 0), (254, 255, 11), (256, 0, 0), (418, 0, 0), (276, 277, 12), (278, 0, 0), (419, 0, 0), (298, 0, 0), (447, 0, 0), (450, 0, 0), (451, 0, 0), (455, 0, 0), (460, 0, 0), (464, 0, 0), (468, 0, 0), (473, 0, 0), (488, 0, 0), (496, 0, 0), (500, 0, 0), (515, 0, 0), (520, 0, 0), (552, 0, 0), (556, 0, 0), (557, 0, 0), (558, 0, 0), (566, 0, 0), (567, 0, 0), (575, 0, 0), (576, 0, 0), (580, 0, 0), (581, 0, 0), (585, 0, 0), (593, 0, 0), (598, 0, 0), (603, 0, 0), (604, 0, 0), (612, 0, 0), (645, 0, 0), (649, 0, 0), (654, 0, 0), (671, 0, 0), (675, 0, 0), (688, 0, 0), (696, 0, 0), (697, 0, 0), (698, 0, 0), (706, 0, 0), (707, 0, 0), (715, 0, 0), (740, 0, 0), (749, 0, 0), (752, 0, 0), (755, 0, 0), (767, 0, 0), (771, 0, 0), (779, 0, 0), (782, 0, 0), (792, 0, 0), (798, 0, 0), (806, 0, 0), (814, 0, 0), (818, 0, 0), (826, 0, 0), (834, 0, 0), (837, 0, 0), (892, 0, 0), (900, 0, 0), (904, 0, 0), (908, 0, 0), (921, 0, 0), (929, 0, 0), (939, 0, 0), (942, 0, 0), (956, 0, 0), (964, 0, 0), (976, 0, 0), (984, 0, 0), (998, 0, 0), (1008, 0, 0), (0, 0, 0), (1022, 0, 0), (1033, 0, 0), (1036, 0, 0), (1044, 0, 0), (1061, 0, 0), (1071, 0, 0), (1084, 0, 0), (1085, 0, 0), (1093, 0, 0), (1101, 0, 0), (1105, 0, 0), (1131, 0, 0), (1139, 0, 0), (1140, 0, 0), (1141, 0, 0), (1145, 0, 0), (1153, 0, 0), (1154, 0, 0), (1162, 0, 0), (1168, 0, 0), (1175, 0, 0), (1180, 0, 0), (1185, 0, 0), (1186, 0, 0), (1191, 0, 0), (302, 0, 0), (364, 0, 0), (1161, 0, 0)]
theorem gp_ok_11 : gw_all2 (gw_okP 11) gp_11 gx_11 = true := sorry
def gx_12 : List (Nat × Nat × Nat) := [(1201, 0, 0), (1208, 0, 0), (1211, 0, 0), (1212, 0, 0), (1213, 0, 0), (1214, 0, 0), (1215, 0, 0), (1216, 0, 0), (1217, 0, 0), (1218, 0, 0), (1219, 0, 0), (1220, 0, 0), (1222, 0, 0), (1223, 0, 0), (1224, 0, 0), (1225, 0, 0), (1226, 0, 0), (1227, 0, 0), (1231, 0, 0), (1232, 0, 0), (1233, 0, 0), (1234, 0, 0), (1236, 0, 0), (1237, 0, 0), (1238, 0, 0), (1243, 0, 0), (1244, 0, 0), (1245, 0, 0), (1247, 0, 0), (1248, 0, 0), (1249, 0, 0), (1228, 0, 0), (1229, 0, 0), (1230, 0, 0), (1202, 0, 0), (1206, 0, 0), (1207, 0, 0), (1210, 0, 0), (1240, 0, 0), (1241, 0, 0), (1235, 0, 0), (1242, 0, 0), (1343, 0, 0), (1344, 0, 0), (1345, 0, 0), (1352, 0, 0), (1209, 0, 0), (1369, 0, 0), (1372, 0, 0), (1361, 0, 0), (1365, 0, 0), (1383, 0, 0), (1411, 0, 0), (1407, 0, 0), (1395, 0, 0), (1423, 0, 0), (1399, 0, 0), (1419, 0, 0), (1403, 0, 0), (1415, 0, 0), (1435, 0, 0), (1439, 0, 0), (1442, 0, 0), (1478, 0, 0), (1474, 0, 0), (1454, 0, 0), (1458, 0, 0), (1462, 0, 0), (1466, 0, 0), (1450, 0, 0), (1470, 0, 0), (1482, 0, 0), (1486, 0, 0), (1490, 0, 0), (1502, 0, 0), (1510, 0, 0), (1221, 0, 0), (1534, 0, 0), (1526, 0, 0), (1530, 0, 0), (1518, 0, 0), (1522, 0, 0), (1549, 0, 0), (1546, 0, 0), (1550, 0, 0), (1551, 0, 0), (1552, 0, 0), (1561, 0, 0), (1574, 0, 0), (1590, 0, 0), (1594, 0, 0), (1586, 0, 0), (1610, 0, 0), (1614, 0, 0), (1606, 0, 0), (1622, 0, 0), (1239, 0, 0), (1630, 0, 0), (1646, 0, 0), (1658, 0, 0), (1654, 0, 0), (0, 0, 0), (1667, 0, 0), (1674, 0, 0), (1682, 0, 0), (1698, 0, 0), (1694, 0, 0), (1710, 0, 0), (1246, 0, 0), (1715, 0, 0), (1719, 0, 0), (1723, 0, 0), (1727, 0, 0), (1739, 0, 0), (1740, 0, 0)]
theorem gp_ok_12 : gw_all2 (gw_okP 12) gp_12 gx_12 = true := sorry
def gx_13 : List (Nat × Nat × Nat) := [(16, 17, 1), (18, 0, 0), (1196, 1197, 14), (1198, 0, 0), (443, 0, 0), (1339, 0, 0), (1741, 0, 0), (469, 0, 0), (1348, 0, 0), (484, 0, 0), (1353, 0, 0), (492, 0, 0), (1357, 0, 0), (511, 0, 0), (1375, 0, 0), (548, 0, 0), (1379, 0, 0), (562, 0, 0), (1387, 0, 0), (571, 0, 0), (1391, 0, 0), (589, 0, 0), (1427, 0, 0), (594, 0, 0), (1431, 0, 0), (608, 0, 0), (1446, 0, 0), (684, 0, 0), (1494, 0, 0), (692, 0, 0), (1498, 0, 0), (702, 0, 0), (1506, 0, 0), (711, 0, 0), (1514, 0, 0), (736, 0, 0), (1538, 0, 0), (745, 0, 0), (1542, 0, 0), (763, 0, 0), (1553, 0, 0), (775, 0, 0), (1557, 0, 0), (788, 0, 0), (1562, 0, 0), (802, 0, 0), (1566, 0, 0), (810, 0, 0), (1570, 0, 0), (822, 0, 0), (1578, 0, 0), (830, 0, 0), (1582, 0, 0), (888, 0, 0), (1598, 0, 0), (896, 0, 0), (1602, 0, 0), (925, 0, 0), (1618, 0, 0), (935, 0, 0), (1626, 0, 0), (960, 0, 0), (1634, 0, 0), (968, 0, 0), (1638, 0, 0), (972, 0, 0), (1642, 0, 0), (994, 0, 0), (1650, 0, 0), (1018, 0, 0), (1663, 0, 0), (1029, 0, 0), (1670, 0, 0), (1040, 0, 0), (1678, 0, 0), (1057, 0, 0), (1686, 0, 0), (1067, 0, 0), (1690, 0, 0), (1080, 0, 0), (1702, 0, 0), (1089, 0, 0), (1706, 0, 0), (1097, 0, 0), (1711, 0, 0), (1135, 0, 0), (1731, 0, 0), (1149, 0, 0), (1735, 0, 0)]
theorem gp_ok_13 : gw_all2 (gw_okP 13) gp_13 gx_13 = true := sorry
def gx_14 : List (Nat × Nat × Nat) := []
theorem gp_ok_14 : gw_all2 (gw_okP 14) gp_14 gx_14 = true := sorry
def gx_15 : List (Nat × Nat × Nat) := []
theorem gp_ok_15 : gw_all2 (gw_okP 15) gp_15 gx_15 = true := sorry
theorem gu_ok_0 : gw_all2 (fun w i => gw_ti i w) (u_ws RX0 TX0 6) [145, 147, 149, 151, 153, 155] = true := sorry
theorem gu_ok_1 : gw_all2 (fun w i => gw_ti i w) (u_ws RX1 TX1 10) [214, 216, 218, 220, 222, 224, 226, 228, 230, 232] = true := sorry
theorem gu_ok_2 : gw_all2 (fun w i => gw_ti i w) (u_ws RX2 TX2 4) [38, 40, 42, 44] = true := sorry
theorem gu_ok_3 : gw_all2 (fun w i => gw_ti i w) (u_ws RX3 TX3 11) [110, 112, 114, 116, 118, 120, 122, 124, 126, 128, 130] = true := sorry
theorem gu_ok_4 : gw_all2 (fun w i => gw_ti i w) (u_ws RX4 TX4 2) [56, 58] = true := sorry
theorem gu_ok_5 : gw_all2 (fun w i => gw_ti i w) (u_ws RX5 TX5 5) [169, 171, 173, 175, 177] = true := sorry
theorem gu_ok_6 : gw_all2 (fun w i => gw_ti i w) (u_ws RX6 TX6 3) [191, 193, 195] = true := sorry
theorem gu_ok_7 : gw_all2 (fun w i => gw_ti i w) (u_ws RX7 TX7 4) [245, 247, 249, 251] = true := sorry
theorem gu_ok_8 : gw_all2 (fun w i => gw_ti i w) (u_ws RX8 TX8 5) [287, 289, 291, 293, 295] = true := sorry
theorem gu_ok_9 : gw_all2 (fun w i => gw_ti i w) (u_ws RX9 TX9 5) [265, 267, 269, 271, 273] = true := sorry
theorem gu_ok_10 : gw_all2 (fun w i => gw_ti i w) (u_ws RX10 TX10 8) [75, 77, 79, 81, 83, 85, 87, 89] = true := sorry
theorem gu_ok_11 : gw_all2 (fun w i => gw_ti i w) (u_ws RX11 TX11 11) [420, 422, 424, 426, 428, 430, 432, 434, 436, 438, 440] = true := sorry
theorem gu_ok_12 : gw_all2 (fun w i => gw_ti i w) (u_ws RX12 TX12 44) [1250, 1252, 1254, 1256, 1258, 1260, 1262, 1264, 1266, 1268, 1270, 1272, 1274, 1276, 1278, 1280, 1282, 1284, 1286, 1288, 1290, 1292, 1294, 1296, 1298, 1300, 1302, 1304, 1306, 1308, 1310, 1312, 1314, 1316, 1318, 1320, 1322, 1324, 1326, 1328, 1330, 1332, 1334, 1336] = true := sorry
end
section
def gy_0 : List (Nat × Nat × Nat × Nat) := [(137, 6, 136, 0), (367, 6, 365, 366), (376, 6, 375, 7), (674, 6, 672, 673), (701, 6, 699, 700), (682, 6, 680, 681), (710, 6, 708, 709), (678, 6, 676, 677), (202, 9, 201, 0), (458, 9, 456, 457), (924, 9, 922, 923), (821, 9, 819, 820), (1148, 9, 1146, 1147), (817, 9, 815, 816), (829, 9, 827, 828), (886, 9, 885, 20)]
theorem gm_ok_0 : gw_all2 gw_okM gw_ML_0 gy_0 = true := sorry
def gy_1 : List (Nat × Nat × Nat × Nat) := [(795, 9, 793, 794), (801, 9, 799, 800), (809, 9, 807, 808), (840, 9, 838, 839), (844, 9, 843, 15), (857, 9, 856, 16), (866, 9, 865, 17), (875, 9, 874, 18), (882, 9, 881, 19), (895, 9, 893, 894), (903, 9, 901, 902), (907, 9, 905, 906), (911, 9, 909, 910), (915, 9, 914, 21), (979, 9, 977, 978), (1074, 9, 1072, 1073)]
theorem gm_ok_1 : gw_all2 gw_okM gw_ML_1 gy_1 = true := sorry
def gy_2 : List (Nat × Nat × Nat × Nat) := [(1088, 9, 1086, 1087), (1079, 9, 1078, 27), (1178, 9, 1176, 1177), (28, 2, 27, 0), (449, 2, 448, 0), (33, 2, 31, 32), (623, 2, 621, 622), (619, 2, 617, 618), (372, 2, 370, 371), (499, 2, 497, 498), (632, 2, 630, 631), (390, 2, 388, 389), (601, 2, 599, 600), (394, 2, 392, 393), (380, 2, 378, 379), (398, 2, 396, 397)]
theorem gm_ok_2 : gw_all2 gw_okM gw_ML_2 gy_2 = true := sorry
def gy_3 : List (Nat × Nat × Nat × Nat) := [(404, 2, 403, 0), (664, 2, 663, 0), (667, 2, 666, 0), (401, 2, 400, 0), (539, 2, 538, 0), (383, 2, 382, 0), (386, 2, 385, 0), (1157, 2, 1155, 1156), (97, 5, 96, 0), (305, 5, 303, 304), (320, 5, 319, 1), (328, 5, 327, 2), (340, 5, 339, 3), (351, 5, 350, 4), (355, 5, 354, 5), (363, 5, 362, 6)]
theorem gm_ok_3 : gw_all2 gw_okM gw_ML_3 gy_3 = true := sorry
def gy_4 : List (Nat × Nat × Nat × Nat) := [(588, 5, 586, 587), (652, 5, 650, 651), (607, 5, 605, 606), (408, 5, 406, 407), (920, 5, 918, 919), (648, 5, 646, 647), (615, 5, 613, 614), (691, 5, 689, 690), (627, 5, 626, 10), (636, 5, 635, 11), (640, 5, 639, 12), (657, 5, 655, 656), (661, 5, 660, 13), (52, 3, 51, 0), (527, 3, 525, 526), (491, 3, 489, 490)]
theorem gm_ok_4 : gw_all2 gw_okM gw_ML_4 gy_4 = true := sorry
def gy_5 : List (Nat × Nat × Nat × Nat) := [(476, 3, 474, 475), (479, 3, 478, 0), (482, 3, 481, 0), (507, 3, 505, 506), (503, 3, 501, 502), (518, 3, 516, 517), (1194, 3, 1192, 1193), (162, 7, 161, 0), (718, 7, 716, 717), (743, 7, 741, 742), (722, 7, 721, 14), (732, 7, 731, 0), (735, 7, 734, 0), (184, 8, 183, 0), (751, 8, 750, 0), (754, 8, 753, 0)]
theorem gm_ok_5 : gw_all2 gw_okM gw_ML_5 gy_5 = true := sorry
def gy_6 : List (Nat × Nat × Nat × Nat) := [(781, 8, 780, 0), (758, 8, 756, 757), (785, 8, 783, 784), (848, 8, 846, 847), (861, 8, 859, 860), (983, 8, 981, 982), (852, 8, 850, 851), (871, 8, 869, 870), (1015, 8, 1013, 1014), (1055, 8, 1053, 1054), (770, 8, 768, 769), (774, 8, 772, 773), (932, 8, 930, 931), (1171, 8, 1169, 1170), (239, 10, 238, 0), (941, 10, 940, 0)]
theorem gm_ok_6 : gw_all2 gw_okM gw_ML_6 gy_6 = true := sorry
end
section
def gy_7 : List (Nat × Nat × Nat × Nat) := [(945, 10, 943, 944), (949, 10, 948, 22), (955, 10, 954, 23), (959, 10, 957, 958), (967, 10, 965, 966), (280, 12, 279, 0), (467, 12, 465, 466), (1144, 12, 1142, 1143), (1096, 12, 1094, 1095), (1108, 12, 1106, 1107), (1134, 12, 1132, 1133), (1115, 12, 1114, 0), (1112, 12, 1111, 28), (1121, 12, 1120, 29), (1130, 12, 1129, 30), (1189, 12, 1187, 1188)]
theorem gm_ok_7 : gw_all2 gw_okM gw_ML_7 gy_7 = true := sorry
def gy_8 : List (Nat × Nat × Nat × Nat) := [(258, 11, 257, 0), (463, 11, 461, 462), (987, 11, 985, 986), (991, 11, 990, 24), (1001, 11, 999, 1000), (1007, 11, 1006, 25), (1011, 11, 1009, 1010), (1025, 11, 1023, 1024), (1039, 11, 1037, 1038), (1051, 11, 1050, 26), (1047, 11, 1045, 1046), (1064, 11, 1062, 1063), (1183, 11, 1181, 1182), (65, 4, 64, 0), (454, 4, 452, 453), (312, 4, 310, 311)]
theorem gm_ok_8 : gw_all2 gw_okM gw_ML_8 gy_8 = true := sorry
def gy_9 : List (Nat × Nat × Nat × Nat) := [(555, 4, 553, 554), (316, 4, 314, 315), (561, 4, 559, 560), (344, 4, 342, 343), (570, 4, 568, 569), (332, 4, 330, 331), (579, 4, 577, 578), (584, 4, 582, 583), (359, 4, 357, 358), (324, 4, 322, 323), (336, 4, 334, 335), (1104, 4, 1102, 1103), (523, 4, 521, 522), (534, 4, 533, 8), (543, 4, 542, 9), (1165, 4, 1163, 1164)]
theorem gm_ok_9 : gw_all2 gw_okM gw_ML_9 gy_9 = true := sorry
def gy_10 : List (Nat × Nat × Nat × Nat) := [(20, 1, 19, 0), (446, 1, 444, 445), (472, 1, 470, 471), (487, 1, 485, 486), (495, 1, 493, 494), (514, 1, 512, 513), (551, 1, 549, 550), (565, 1, 563, 564), (574, 1, 572, 573), (592, 1, 590, 591), (597, 1, 595, 596), (611, 1, 609, 610), (687, 1, 685, 686), (695, 1, 693, 694), (705, 1, 703, 704), (714, 1, 712, 713)]
theorem gm_ok_10 : gw_all2 gw_okM gw_ML_10 gy_10 = true := sorry
def gy_11 : List (Nat × Nat × Nat × Nat) := [(739, 1, 737, 738), (748, 1, 746, 747), (766, 1, 764, 765), (778, 1, 776, 777), (791, 1, 789, 790), (805, 1, 803, 804), (813, 1, 811, 812), (825, 1, 823, 824), (833, 1, 831, 832), (891, 1, 889, 890), (899, 1, 897, 898), (928, 1, 926, 927), (938, 1, 936, 937), (963, 1, 961, 962), (971, 1, 969, 970), (975, 1, 973, 974)]
theorem gm_ok_11 : gw_all2 gw_okM gw_ML_11 gy_11 = true := sorry
def gy_12 : List (Nat × Nat × Nat × Nat) := [(997, 1, 995, 996), (1021, 1, 1019, 1020), (1032, 1, 1030, 1031), (1043, 1, 1041, 1042), (1060, 1, 1058, 1059), (1070, 1, 1068, 1069), (1083, 1, 1081, 1082), (1092, 1, 1090, 1091), (1100, 1, 1098, 1099), (1138, 1, 1136, 1137), (1152, 1, 1150, 1151), (301, 1, 300, 0), (836, 1, 835, 0), (1035, 1, 1034, 0), (347, 1, 346, 0), (1160, 1, 1159, 0)]
theorem gm_ok_12 : gw_all2 gw_okM gw_ML_12 gy_12 = true := sorry
def gy_13 : List (Nat × Nat × Nat × Nat) := [(1200, 14, 1199, 0), (1347, 14, 1346, 0), (1205, 14, 1204, 31), (1342, 14, 1340, 1341), (1351, 14, 1349, 1350), (1356, 14, 1354, 1355), (1364, 14, 1363, 32), (1371, 14, 1370, 0), (1374, 14, 1373, 0), (1368, 14, 1367, 33), (1360, 14, 1358, 1359), (1378, 14, 1376, 1377), (1386, 14, 1385, 34), (1382, 14, 1380, 1381), (1390, 14, 1388, 1389), (1414, 14, 1413, 39)]
theorem gm_ok_13 : gw_all2 gw_okM gw_ML_13 gy_13 = true := sorry
end
section
def gy_14 : List (Nat × Nat × Nat × Nat) := [(1410, 14, 1409, 38), (1406, 14, 1405, 37), (1398, 14, 1397, 35), (1402, 14, 1401, 36), (1426, 14, 1425, 42), (1422, 14, 1421, 41), (1418, 14, 1417, 40), (1394, 14, 1392, 1393), (1430, 14, 1428, 1429), (1445, 14, 1444, 44), (1438, 14, 1437, 43), (1441, 14, 1440, 0), (1434, 14, 1432, 1433), (1457, 14, 1456, 46), (1481, 14, 1480, 52), (1477, 14, 1476, 51)]
theorem gm_ok_14 : gw_all2 gw_okM gw_ML_14 gy_14 = true := sorry
def gy_15 : List (Nat × Nat × Nat × Nat) := [(1473, 14, 1472, 50), (1485, 14, 1484, 53), (1489, 14, 1488, 54), (1461, 14, 1460, 47), (1505, 14, 1504, 56), (1465, 14, 1464, 48), (1469, 14, 1468, 49), (1453, 14, 1452, 45), (1513, 14, 1512, 57), (1493, 14, 1492, 55), (1449, 14, 1447, 1448), (1497, 14, 1495, 1496), (1501, 14, 1499, 1500), (1509, 14, 1507, 1508), (1529, 14, 1528, 60), (1521, 14, 1520, 58)]
theorem gm_ok_15 : gw_all2 gw_okM gw_ML_15 gy_15 = true := sorry
def gy_16 : List (Nat × Nat × Nat × Nat) := [(1537, 14, 1536, 62), (1533, 14, 1532, 61), (1525, 14, 1524, 59), (1517, 14, 1515, 1516), (1541, 14, 1539, 1540), (1548, 14, 1547, 0), (1545, 14, 1543, 1544), (1556, 14, 1554, 1555), (1560, 14, 1558, 1559), (1565, 14, 1563, 1564), (1569, 14, 1567, 1568), (1577, 14, 1576, 63), (1573, 14, 1571, 1572), (1581, 14, 1579, 1580), (1593, 14, 1592, 65), (1589, 14, 1588, 64)]
theorem gm_ok_16 : gw_all2 gw_okM gw_ML_16 gy_16 = true := sorry
def gy_17 : List (Nat × Nat × Nat × Nat) := [(1597, 14, 1596, 66), (1585, 14, 1583, 1584), (1601, 14, 1599, 1600), (1617, 14, 1616, 69), (1613, 14, 1612, 68), (1609, 14, 1608, 67), (1605, 14, 1603, 1604), (1625, 14, 1624, 70), (1621, 14, 1619, 1620), (1633, 14, 1632, 71), (1629, 14, 1627, 1628), (1637, 14, 1635, 1636), (1641, 14, 1639, 1640), (1649, 14, 1648, 72), (1645, 14, 1643, 1644), (1661, 14, 1660, 74)]
theorem gm_ok_17 : gw_all2 gw_okM gw_ML_17 gy_17 = true := sorry
def gy_18 : List (Nat × Nat × Nat × Nat) := [(1657, 14, 1656, 73), (1653, 14, 1651, 1652), (1669, 14, 1668, 0), (1666, 14, 1664, 1665), (1677, 14, 1676, 75), (1673, 14, 1671, 1672), (1685, 14, 1684, 76), (1681, 14, 1679, 1680), (1689, 14, 1687, 1688), (1701, 14, 1700, 78), (1697, 14, 1696, 77), (1693, 14, 1691, 1692), (1705, 14, 1703, 1704), (1709, 14, 1707, 1708), (1722, 14, 1721, 80), (1726, 14, 1725, 81)]
theorem gm_ok_18 : gw_all2 gw_okM gw_ML_18 gy_18 = true := sorry
def gy_19 : List (Nat × Nat × Nat × Nat) := [(1730, 14, 1729, 82), (1718, 14, 1717, 79), (1714, 14, 1712, 1713), (1734, 14, 1732, 1733), (1738, 14, 1736, 1737), (0, 0, 0, 0), (1028, 15, 1027, 0), (670, 15, 669, 0), (530, 15, 529, 0), (308, 13, 307, 0)]
theorem gm_ok_19 : gw_all2 gw_okM gw_ML_19 gy_19 = true := sorry
end
section
theorem gk_ok_0 : gw_okC gm_0 = true := sorry
theorem gk_ok_1 : gw_okC gm_1 = true := sorry
theorem gk_ok_2_0 : (gk_2.take 50).all (gw_okI gm_2.1 gm_2.2.2.1) = true := sorry
theorem gk_ok_2_1 : (gk_2.drop 50).all (gw_okI gm_2.1 gm_2.2.2.1) = true := sorry
theorem gk_ok_2 : gw_okC gm_2 = true := gw_splitC 50 gk_ok_2_0 (gk_ok_2_1)
theorem gk_ok_3 : gw_okC gm_3 = true := sorry
theorem gk_ok_4 : gw_okC gm_4 = true := sorry
theorem gk_ok_5 : gw_okC gm_5 = true := sorry
theorem gk_ok_6 : gw_okC gm_6 = true := sorry
theorem gk_ok_7 : gw_okC gm_7 = true := sorry
theorem gk_ok_8 : gw_okC gm_8 = true := sorry
theorem gk_ok_9 : gw_okC gm_9 = true := sorry
theorem gk_ok_10 : gw_okC gm_10 = true := sorry
theorem gk_ok_11 : gw_okC gm_11 = true := sorry
theorem gk_ok_12 : gw_okC gm_12 = true := sorry
theorem gk_ok_13 : gw_okC gm_13 = true := sorry
theorem gk_ok_14 : gw_okC gm_14 = true := sorry
theorem gk_ok_15 : gw_okC gm_15 = true := sorry
theorem gk_ok_16 : gw_okC gm_16 = true := sorry
theorem gk_ok_17 : gw_okC gm_17 = true := sorry
theorem gk_ok_18 : gw_okC gm_18 = true := sorry
theorem gk_ok_19 : gw_okC gm_19 = true := sorry
theorem gk_ok_20 : gw_okC gm_20 = true := sorry
theorem gk_ok_21 : gw_okC gm_21 = true := sorry
theorem gk_ok_22 : gw_okC gm_22 = true := sorry
theorem gk_ok_23 : gw_okC gm_23 = true := sorry
theorem gk_ok_24 : gw_okC gm_24 = true := sorry
theorem gk_ok_25 : gw_okC gm_25 = true := sorry
theorem gk_ok_26 : gw_okC gm_26 = true := sorry
theorem gk_ok_27 : gw_okC gm_27 = true := sorry
theorem gk_ok_28 : gw_okC gm_28 = true := sorry
theorem gk_ok_29 : gw_okC gm_29 = true := sorry
theorem gk_ok_30 : gw_okC gm_30 = true := sorry
theorem gk_ok_31 : gw_okC gm_31 = true := sorry
theorem gk_ok_32 : gw_okC gm_32 = true := sorry
theorem gk_ok_33 : gw_okC gm_33 = true := sorry
theorem gk_ok_34 : gw_okC gm_34 = true := sorry
theorem gk_ok_35 : gw_okC gm_35 = true := sorry
theorem gk_ok_36 : gw_okC gm_36 = true := sorry
theorem gk_ok_37 : gw_okC gm_37 = true := sorry
theorem gk_ok_38 : gw_okC gm_38 = true := sorry
theorem gk_ok_39 : gw_okC gm_39 = true := sorry
theorem gk_ok_40 : gw_okC gm_40 = true := sorry
theorem gk_ok_41 : gw_okC gm_41 = true := sorry
theorem gk_ok_42 : gw_okC gm_42 = true := sorry
theorem gk_ok_43 : gw_okC gm_43 = true := sorry
theorem gk_ok_44 : gw_okC gm_44 = true := sorry
theorem gk_ok_45 : gw_okC gm_45 = true := sorry
theorem gk_ok_46 : gw_okC gm_46 = true := sorry
theorem gk_ok_47 : gw_okC gm_47 = true := sorry
theorem gk_ok_48 : gw_okC gm_48 = true := sorry
theorem gk_ok_49 : gw_okC gm_49 = true := sorry
theorem gk_ok_50 : gw_okC gm_50 = true := sorry
theorem gk_ok_51 : gw_okC gm_51 = true := sorry
theorem gk_ok_52 : gw_okC gm_52 = true := sorry
theorem gk_ok_53 : gw_okC gm_53 = true := sorry
theorem gk_ok_54 : gw_okC gm_54 = true := sorry
theorem gk_ok_55 : gw_okC gm_55 = true := sorry
theorem gk_ok_56 : gw_okC gm_56 = true := sorry
theorem gk_ok_57 : gw_okC gm_57 = true := sorry
theorem gk_ok_58 : gw_okC gm_58 = true := sorry
theorem gk_ok_59 : gw_okC gm_59 = true := sorry
theorem gk_ok_60 : gw_okC gm_60 = true := sorry
theorem gk_ok_61 : gw_okC gm_61 = true := sorry
theorem gk_ok_62 : gw_okC gm_62 = true := sorry
theorem gk_ok_63 : gw_okC gm_63 = true := sorry
theorem gk_ok_64 : gw_okC gm_64 = true := sorry
theorem gk_ok_65 : gw_okC gm_65 = true := sorry
theorem gk_ok_66 : gw_okC gm_66 = true := sorry
theorem gk_ok_67 : gw_okC gm_67 = true := sorry
theorem gk_ok_68 : gw_okC gm_68 = true := sorry
theorem gk_ok_69 : gw_okC gm_69 = true := sorry
theorem gk_ok_70 : gw_okC gm_70 = true := sorry
theorem gk_ok_71 : gw_okC gm_71 = true := sorry
theorem gk_ok_72 : gw_okC gm_72 = true := sorry
end
section
theorem gk_ok_73 : gw_okC gm_73 = true := sorry
theorem gk_ok_74 : gw_okC gm_74 = true := sorry
theorem gk_ok_75 : gw_okC gm_75 = true := sorry
theorem gk_ok_76_0 : (gk_76.take 50).all (gw_okI gm_76.1 gm_76.2.2.1) = true := sorry
theorem gk_ok_76_1 : (gk_76.drop 50).all (gw_okI gm_76.1 gm_76.2.2.1) = true := sorry
theorem gk_ok_76 : gw_okC gm_76 = true := gw_splitC 50 gk_ok_76_0 (gk_ok_76_1)
theorem gk_ok_77 : gw_okC gm_77 = true := sorry
theorem gk_ok_78 : gw_okC gm_78 = true := sorry
theorem gk_ok_79 : gw_okC gm_79 = true := sorry
theorem gk_ok_80 : gw_okC gm_80 = true := sorry
theorem gk_ok_81 : gw_okC gm_81 = true := sorry
theorem gk_ok_82 : gw_okC gm_82 = true := sorry
theorem gk_ok_83 : gw_okC gm_83 = true := sorry
theorem gk_ok_84 : gw_okC gm_84 = true := sorry
theorem gk_ok_85 : gw_okC gm_85 = true := sorry
theorem gk_ok_86 : gw_okC gm_86 = true := sorry
theorem gk_ok_87 : gw_okC gm_87 = true := sorry
theorem gk_ok_88 : gw_okC gm_88 = true := sorry
theorem gk_ok_89 : gw_okC gm_89 = true := sorry
theorem gk_ok_90_0 : (gk_90.take 50).all (gw_okI gm_90.1 gm_90.2.2.1) = true := sorry
theorem gk_ok_90_1 : (gk_90.drop 50).all (gw_okI gm_90.1 gm_90.2.2.1) = true := sorry
theorem gk_ok_90 : gw_okC gm_90 = true := gw_splitC 50 gk_ok_90_0 (gk_ok_90_1)
theorem gk_ok_91 : gw_okC gm_91 = true := sorry
theorem gk_ok_92 : gw_okC gm_92 = true := sorry
theorem gk_ok_93 : gw_okC gm_93 = true := sorry
theorem gk_ok_94 : gw_okC gm_94 = true := sorry
theorem gk_ok_95 : gw_okC gm_95 = true := sorry
theorem gk_ok_96 : gw_okC gm_96 = true := sorry
theorem gk_ok_97 : gw_okC gm_97 = true := sorry
theorem gk_ok_98 : gw_okC gm_98 = true := sorry
theorem gk_ok_99 : gw_okC gm_99 = true := sorry
theorem gk_ok_100 : gw_okC gm_100 = true := sorry
theorem gk_ok_101 : gw_okC gm_101 = true := sorry
theorem gk_ok_102 : gw_okC gm_102 = true := sorry
theorem gk_ok_103 : gw_okC gm_103 = true := sorry
theorem gk_ok_104 : gw_okC gm_104 = true := sorry
theorem gk_ok_105 : gw_okC gm_105 = true := sorry
theorem gk_ok_106 : gw_okC gm_106 = true := sorry
theorem gk_ok_107 : gw_okC gm_107 = true := sorry
theorem gk_ok_108 : gw_okC gm_108 = true := sorry
theorem gk_ok_109 : gw_okC gm_109 = true := sorry
theorem gk_ok_110 : gw_okC gm_110 = true := sorry
theorem gk_ok_111 : gw_okC gm_111 = true := sorry
theorem gk_ok_112 : gw_okC gm_112 = true := sorry
theorem gk_ok_113 : gw_okC gm_113 = true := sorry
theorem gk_ok_114 : gw_okC gm_114 = true := sorry
theorem gk_ok_115 : gw_okC gm_115 = true := sorry
theorem gk_ok_116 : gw_okC gm_116 = true := sorry
theorem gk_ok_117 : gw_okC gm_117 = true := sorry
theorem gk_ok_118 : gw_okC gm_118 = true := sorry
theorem gk_ok_119 : gw_okC gm_119 = true := sorry
theorem gk_ok_120 : gw_okC gm_120 = true := sorry
theorem gk_ok_121 : gw_okC gm_121 = true := sorry
theorem gk_ok_122 : gw_okC gm_122 = true := sorry
theorem gk_ok_123 : gw_okC gm_123 = true := sorry
theorem gk_ok_124 : gw_okC gm_124 = true := sorry
theorem gk_ok_125 : gw_okC gm_125 = true := sorry
theorem gk_ok_126 : gw_okC gm_126 = true := sorry
theorem gk_ok_127 : gw_okC gm_127 = true := sorry
theorem gk_ok_128 : gw_okC gm_128 = true := sorry
theorem gk_ok_129 : gw_okC gm_129 = true := sorry
theorem gk_ok_130 : gw_okC gm_130 = true := sorry
theorem gk_ok_131 : gw_okC gm_131 = true := sorry
theorem gk_ok_132 : gw_okC gm_132 = true := sorry
theorem gk_ok_133 : gw_okC gm_133 = true := sorry
theorem gk_ok_134 : gw_okC gm_134 = true := sorry
theorem gk_ok_135 : gw_okC gm_135 = true := sorry
theorem gk_ok_136 : gw_okC gm_136 = true := sorry
theorem gk_ok_137 : gw_okC gm_137 = true := sorry
theorem gk_ok_138 : gw_okC gm_138 = true := sorry
theorem gk_ok_139 : gw_okC gm_139 = true := sorry
theorem gk_ok_140 : gw_okC gm_140 = true := sorry
theorem gk_ok_141 : gw_okC gm_141 = true := sorry
theorem gk_ok_142 : gw_okC gm_142 = true := sorry
theorem gk_ok_143 : gw_okC gm_143 = true := sorry
theorem gk_ok_144 : gw_okC gm_144 = true := sorry
theorem gk_ok_145 : gw_okC gm_145 = true := sorry
theorem gk_ok_146 : gw_okC gm_146 = true := sorry
theorem gk_ok_147 : gw_okC gm_147 = true := sorry
theorem gk_ok_148 : gw_okC gm_148 = true := sorry
theorem gk_ok_149 : gw_okC gm_149 = true := sorry
theorem gk_ok_150 : gw_okC gm_150 = true := sorry
theorem gk_ok_151 : gw_okC gm_151 = true := sorry
theorem gk_ok_152 : gw_okC gm_152 = true := sorry
theorem gk_ok_153 : gw_okC gm_153 = true := sorry
theorem gk_ok_154 : gw_okC gm_154 = true := sorry
theorem gk_ok_155 : gw_okC gm_155 = true := sorry
theorem gk_ok_156 : gw_okC gm_156 = true := sorry
theorem gk_ok_157_0 : (gk_157.take 50).all (gw_okI gm_157.1 gm_157.2.2.1) = true := sorry
theorem gk_ok_157_1 : ((gk_157.drop 50).take 50).all (gw_okI gm_157.1 gm_157.2.2.1) = true := sorry
theorem gk_ok_157_2 : ((gk_157.drop 50).drop 50).all (gw_okI gm_157.1 gm_157.2.2.1) = true := sorry
theorem gk_ok_157 : gw_okC gm_157 = true := gw_splitC 50 gk_ok_157_0 (gw_splitC 50 gk_ok_157_1 (gk_ok_157_2))
end
section
theorem gk_ok_158 : gw_okC gm_158 = true := sorry
theorem gk_ok_159 : gw_okC gm_159 = true := sorry
theorem gk_ok_160_0 : (gk_160.take 50).all (gw_okI gm_160.1 gm_160.2.2.1) = true := sorry
theorem gk_ok_160_1 : (gk_160.drop 50).all (gw_okI gm_160.1 gm_160.2.2.1) = true := sorry
theorem gk_ok_160 : gw_okC gm_160 = true := gw_splitC 50 gk_ok_160_0 (gk_ok_160_1)
theorem gk_ok_161 : gw_okC gm_161 = true := sorry
theorem gk_ok_162 : gw_okC gm_162 = true := sorry
theorem gk_ok_163 : gw_okC gm_163 = true := sorry
theorem gk_ok_164 : gw_okC gm_164 = true := sorry
theorem gk_ok_165 : gw_okC gm_165 = true := sorry
theorem gk_ok_166 : gw_okC gm_166 = true := sorry
theorem gk_ok_167 : gw_okC gm_167 = true := sorry
theorem gk_ok_168 : gw_okC gm_168 = true := sorry
theorem gk_ok_169 : gw_okC gm_169 = true := sorry
theorem gk_ok_170 : gw_okC gm_170 = true := sorry
theorem gk_ok_171 : gw_okC gm_171 = true := sorry
theorem gk_ok_172 : gw_okC gm_172 = true := sorry
theorem gk_ok_173 : gw_okC gm_173 = true := sorry
theorem gk_ok_174 : gw_okC gm_174 = true := sorry
theorem gk_ok_175 : gw_okC gm_175 = true := sorry
theorem gk_ok_176 : gw_okC gm_176 = true := sorry
theorem gk_ok_177 : gw_okC gm_177 = true := sorry
theorem gk_ok_178 : gw_okC gm_178 = true := sorry
theorem gk_ok_179 : gw_okC gm_179 = true := sorry
theorem gk_ok_180 : gw_okC gm_180 = true := sorry
theorem gk_ok_181 : gw_okC gm_181 = true := sorry
theorem gk_ok_182 : gw_okC gm_182 = true := sorry
theorem gk_ok_183 : gw_okC gm_183 = true := sorry
theorem gk_ok_184 : gw_okC gm_184 = true := sorry
theorem gk_ok_185 : gw_okC gm_185 = true := sorry
theorem gk_ok_186 : gw_okC gm_186 = true := sorry
theorem gk_ok_187 : gw_okC gm_187 = true := sorry
theorem gk_ok_188 : gw_okC gm_188 = true := sorry
theorem gk_ok_189 : gw_okC gm_189 = true := sorry
theorem gk_ok_190 : gw_okC gm_190 = true := sorry
theorem gk_ok_191 : gw_okC gm_191 = true := sorry
theorem gk_ok_192 : gw_okC gm_192 = true := sorry
theorem gk_ok_193 : gw_okC gm_193 = true := sorry
theorem gk_ok_194 : gw_okC gm_194 = true := sorry
theorem gk_ok_195 : gw_okC gm_195 = true := sorry
theorem gk_ok_196 : gw_okC gm_196 = true := sorry
theorem gk_ok_197 : gw_okC gm_197 = true := sorry
theorem gk_ok_198 : gw_okC gm_198 = true := sorry
theorem gk_ok_199 : gw_okC gm_199 = true := sorry
theorem gk_ok_200 : gw_okC gm_200 = true := sorry
theorem gk_ok_201 : gw_okC gm_201 = true := sorry
theorem gk_ok_202 : gw_okC gm_202 = true := sorry
theorem gk_ok_203 : gw_okC gm_203 = true := sorry
theorem gk_ok_204 : gw_okC gm_204 = true := sorry
theorem gk_ok_205 : gw_okC gm_205 = true := sorry
theorem gk_ok_206 : gw_okC gm_206 = true := sorry
theorem gk_ok_207 : gw_okC gm_207 = true := sorry
theorem gk_ok_208_0 : (gk_208.take 50).all (gw_okI gm_208.1 gm_208.2.2.1) = true := sorry
theorem gk_ok_208_1 : ((gk_208.drop 50).take 50).all (gw_okI gm_208.1 gm_208.2.2.1) = true := sorry
theorem gk_ok_208_2 : (((gk_208.drop 50).drop 50).take 50).all (gw_okI gm_208.1 gm_208.2.2.1) = true := sorry
theorem gk_ok_208_3 : (((gk_208.drop 50).drop 50).drop 50).all (gw_okI gm_208.1 gm_208.2.2.1) = true := sorry
theorem gk_ok_208 : gw_okC gm_208 = true := gw_splitC 50 gk_ok_208_0 (gw_splitC 50 gk_ok_208_1 (gw_splitC 50 gk_ok_208_2 (gk_ok_208_3)))
theorem gk_ok_209 : gw_okC gm_209 = true := sorry
theorem gk_ok_210 : gw_okC gm_210 = true := sorry
theorem gk_ok_211 : gw_okC gm_211 = true := sorry
theorem gk_ok_212_0 : (gk_212.take 50).all (gw_okI gm_212.1 gm_212.2.2.1) = true := sorry
theorem gk_ok_212_1 : (gk_212.drop 50).all (gw_okI gm_212.1 gm_212.2.2.1) = true := sorry
theorem gk_ok_212 : gw_okC gm_212 = true := gw_splitC 50 gk_ok_212_0 (gk_ok_212_1)
theorem gk_ok_213 : gw_okC gm_213 = true := sorry
theorem gk_ok_214 : gw_okC gm_214 = true := sorry
theorem gk_ok_215 : gw_okC gm_215 = true := sorry
theorem gk_ok_216 : gw_okC gm_216 = true := sorry
theorem gk_ok_217 : gw_okC gm_217 = true := sorry
theorem gk_ok_218 : gw_okC gm_218 = true := sorry
theorem gk_ok_219_0 : (gk_219.take 50).all (gw_okI gm_219.1 gm_219.2.2.1) = true := sorry
theorem gk_ok_219_1 : ((gk_219.drop 50).take 50).all (gw_okI gm_219.1 gm_219.2.2.1) = true := sorry
theorem gk_ok_219_2 : ((gk_219.drop 50).drop 50).all (gw_okI gm_219.1 gm_219.2.2.1) = true := sorry
theorem gk_ok_219 : gw_okC gm_219 = true := gw_splitC 50 gk_ok_219_0 (gw_splitC 50 gk_ok_219_1 (gk_ok_219_2))
theorem gk_ok_220 : gw_okC gm_220 = true := sorry
theorem gk_ok_221 : gw_okC gm_221 = true := sorry
theorem gk_ok_222 : gw_okC gm_222 = true := sorry
theorem gk_ok_223_0 : (gk_223.take 50).all (gw_okI gm_223.1 gm_223.2.2.1) = true := sorry
theorem gk_ok_223_1 : (gk_223.drop 50).all (gw_okI gm_223.1 gm_223.2.2.1) = true := sorry
theorem gk_ok_223 : gw_okC gm_223 = true := gw_splitC 50 gk_ok_223_0 (gk_ok_223_1)
theorem gk_ok_224 : gw_okC gm_224 = true := sorry
theorem gk_ok_225 : gw_okC gm_225 = true := sorry
theorem gk_ok_226_0 : (gk_226.take 50).all (gw_okI gm_226.1 gm_226.2.2.1) = true := sorry
theorem gk_ok_226_1 : (gk_226.drop 50).all (gw_okI gm_226.1 gm_226.2.2.1) = true := sorry
theorem gk_ok_226 : gw_okC gm_226 = true := gw_splitC 50 gk_ok_226_0 (gk_ok_226_1)
end
section
theorem gk_ok_227_0 : (gk_227.take 50).all (gw_okI gm_227.1 gm_227.2.2.1) = true := sorry
theorem gk_ok_227_1 : (gk_227.drop 50).all (gw_okI gm_227.1 gm_227.2.2.1) = true := sorry
theorem gk_ok_227 : gw_okC gm_227 = true := gw_splitC 50 gk_ok_227_0 (gk_ok_227_1)
theorem gk_ok_228 : gw_okC gm_228 = true := sorry
theorem gk_ok_229 : gw_okC gm_229 = true := sorry
theorem gk_ok_230_0 : (gk_230.take 50).all (gw_okI gm_230.1 gm_230.2.2.1) = true := sorry
theorem gk_ok_230_1 : (gk_230.drop 50).all (gw_okI gm_230.1 gm_230.2.2.1) = true := sorry
theorem gk_ok_230 : gw_okC gm_230 = true := gw_splitC 50 gk_ok_230_0 (gk_ok_230_1)
theorem gk_ok_231 : gw_okC gm_231 = true := sorry
theorem gk_ok_232 : gw_okC gm_232 = true := sorry
theorem gk_ok_233 : gw_okC gm_233 = true := sorry
theorem gk_ok_234 : gw_okC gm_234 = true := sorry
theorem gk_ok_235 : gw_okC gm_235 = true := sorry
theorem gk_ok_236 : gw_okC gm_236 = true := sorry
theorem gk_ok_237_0 : (gk_237.take 50).all (gw_okI gm_237.1 gm_237.2.2.1) = true := sorry
theorem gk_ok_237_1 : (gk_237.drop 50).all (gw_okI gm_237.1 gm_237.2.2.1) = true := sorry
theorem gk_ok_237 : gw_okC gm_237 = true := gw_splitC 50 gk_ok_237_0 (gk_ok_237_1)
theorem gk_ok_238 : gw_okC gm_238 = true := sorry
theorem gk_ok_239 : gw_okC gm_239 = true := sorry
theorem gk_ok_240 : gw_okC gm_240 = true := sorry
theorem gk_ok_241 : gw_okC gm_241 = true := sorry
theorem gk_ok_242_0 : (gk_242.take 50).all (gw_okI gm_242.1 gm_242.2.2.1) = true := sorry
theorem gk_ok_242_1 : ((gk_242.drop 50).take 50).all (gw_okI gm_242.1 gm_242.2.2.1) = true := sorry
theorem gk_ok_242_2 : (((gk_242.drop 50).drop 50).take 50).all (gw_okI gm_242.1 gm_242.2.2.1) = true := sorry
theorem gk_ok_242_3 : (((gk_242.drop 50).drop 50).drop 50).all (gw_okI gm_242.1 gm_242.2.2.1) = true := sorry
theorem gk_ok_242 : gw_okC gm_242 = true := gw_splitC 50 gk_ok_242_0 (gw_splitC 50 gk_ok_242_1 (gw_splitC 50 gk_ok_242_2 (gk_ok_242_3)))
theorem gk_ok_243 : gw_okC gm_243 = true := sorry
theorem gk_ok_244 : gw_okC gm_244 = true := sorry
theorem gk_ok_245 : gw_okC gm_245 = true := sorry
theorem gk_ok_246 : gw_okC gm_246 = true := sorry
theorem gk_ok_247_0 : (gk_247.take 50).all (gw_okI gm_247.1 gm_247.2.2.1) = true := sorry
theorem gk_ok_247_1 : (gk_247.drop 50).all (gw_okI gm_247.1 gm_247.2.2.1) = true := sorry
theorem gk_ok_247 : gw_okC gm_247 = true := gw_splitC 50 gk_ok_247_0 (gk_ok_247_1)
theorem gk_ok_248 : gw_okC gm_248 = true := sorry
theorem gk_ok_249 : gw_okC gm_249 = true := sorry
theorem gk_ok_250_0 : (gk_250.take 50).all (gw_okI gm_250.1 gm_250.2.2.1) = true := sorry
theorem gk_ok_250_1 : ((gk_250.drop 50).take 50).all (gw_okI gm_250.1 gm_250.2.2.1) = true := sorry
theorem gk_ok_250_2 : (((gk_250.drop 50).drop 50).take 50).all (gw_okI gm_250.1 gm_250.2.2.1) = true := sorry
theorem gk_ok_250_3 : (((gk_250.drop 50).drop 50).drop 50).all (gw_okI gm_250.1 gm_250.2.2.1) = true := sorry
theorem gk_ok_250 : gw_okC gm_250 = true := gw_splitC 50 gk_ok_250_0 (gw_splitC 50 gk_ok_250_1 (gw_splitC 50 gk_ok_250_2 (gk_ok_250_3)))
theorem gk_ok_251_0 : (gk_251.take 50).all (gw_okI gm_251.1 gm_251.2.2.1) = true := sorry
theorem gk_ok_251_1 : (gk_251.drop 50).all (gw_okI gm_251.1 gm_251.2.2.1) = true := sorry
theorem gk_ok_251 : gw_okC gm_251 = true := gw_splitC 50 gk_ok_251_0 (gk_ok_251_1)
theorem gk_ok_252 : gw_okC gm_252 = true := sorry
theorem gk_ok_253 : gw_okC gm_253 = true := sorry
theorem gk_ok_254 : gw_okC gm_254 = true := sorry
theorem gk_ok_255 : gw_okC gm_255 = true := sorry
theorem gk_ok_256 : gw_okC gm_256 = true := sorry
theorem gk_ok_257_0 : (gk_257.take 50).all (gw_okI gm_257.1 gm_257.2.2.1) = true := sorry
theorem gk_ok_257_1 : (gk_257.drop 50).all (gw_okI gm_257.1 gm_257.2.2.1) = true := sorry
theorem gk_ok_257 : gw_okC gm_257 = true := gw_splitC 50 gk_ok_257_0 (gk_ok_257_1)
theorem gk_ok_258_0 : (gk_258.take 50).all (gw_okI gm_258.1 gm_258.2.2.1) = true := sorry
theorem gk_ok_258_1 : (gk_258.drop 50).all (gw_okI gm_258.1 gm_258.2.2.1) = true := sorry
theorem gk_ok_258 : gw_okC gm_258 = true := gw_splitC 50 gk_ok_258_0 (gk_ok_258_1)
theorem gk_ok_259 : gw_okC gm_259 = true := sorry
theorem gk_ok_260 : gw_okC gm_260 = true := sorry
theorem gk_ok_261 : gw_okC gm_261 = true := sorry
theorem gk_ok_262_0 : (gk_262.take 50).all (gw_okI gm_262.1 gm_262.2.2.1) = true := sorry
theorem gk_ok_262_1 : (gk_262.drop 50).all (gw_okI gm_262.1 gm_262.2.2.1) = true := sorry
theorem gk_ok_262 : gw_okC gm_262 = true := gw_splitC 50 gk_ok_262_0 (gk_ok_262_1)
theorem gk_ok_263 : gw_okC gm_263 = true := sorry
theorem gk_ok_264_0 : (gk_264.take 50).all (gw_okI gm_264.1 gm_264.2.2.1) = true := sorry
theorem gk_ok_264_1 : (gk_264.drop 50).all (gw_okI gm_264.1 gm_264.2.2.1) = true := sorry
theorem gk_ok_264 : gw_okC gm_264 = true := gw_splitC 50 gk_ok_264_0 (gk_ok_264_1)
theorem gk_ok_265_0 : (gk_265.take 50).all (gw_okI gm_265.1 gm_265.2.2.1) = true := sorry
theorem gk_ok_265_1 : (gk_265.drop 50).all (gw_okI gm_265.1 gm_265.2.2.1) = true := sorry
theorem gk_ok_265 : gw_okC gm_265 = true := gw_splitC 50 gk_ok_265_0 (gk_ok_265_1)
end
section
theorem gk_ok_266 : gw_okC gm_266 = true := sorry
theorem gk_ok_267 : gw_okC gm_267 = true := sorry
theorem gk_ok_268 : gw_okC gm_268 = true := sorry
theorem gk_ok_269_0 : (gk_269.take 50).all (gw_okI gm_269.1 gm_269.2.2.1) = true := sorry
theorem gk_ok_269_1 : (gk_269.drop 50).all (gw_okI gm_269.1 gm_269.2.2.1) = true := sorry
theorem gk_ok_269 : gw_okC gm_269 = true := gw_splitC 50 gk_ok_269_0 (gk_ok_269_1)
theorem gk_ok_270 : gw_okC gm_270 = true := sorry
theorem gk_ok_271_0 : (gk_271.take 50).all (gw_okI gm_271.1 gm_271.2.2.1) = true := sorry
theorem gk_ok_271_1 : ((gk_271.drop 50).take 50).all (gw_okI gm_271.1 gm_271.2.2.1) = true := sorry
theorem gk_ok_271_2 : ((gk_271.drop 50).drop 50).all (gw_okI gm_271.1 gm_271.2.2.1) = true := sorry
theorem gk_ok_271 : gw_okC gm_271 = true := gw_splitC 50 gk_ok_271_0 (gw_splitC 50 gk_ok_271_1 (gk_ok_271_2))
theorem gk_ok_272 : gw_okC gm_272 = true := sorry
theorem gk_ok_273_0 : (gk_273.take 50).all (gw_okI gm_273.1 gm_273.2.2.1) = true := sorry
theorem gk_ok_273_1 : ((gk_273.drop 50).take 50).all (gw_okI gm_273.1 gm_273.2.2.1) = true := sorry
theorem gk_ok_273_2 : ((gk_273.drop 50).drop 50).all (gw_okI gm_273.1 gm_273.2.2.1) = true := sorry
theorem gk_ok_273 : gw_okC gm_273 = true := gw_splitC 50 gk_ok_273_0 (gw_splitC 50 gk_ok_273_1 (gk_ok_273_2))
theorem gk_ok_274 : gw_okC gm_274 = true := sorry
theorem gk_ok_275 : gw_okC gm_275 = true := sorry
theorem gk_ok_276 : gw_okC gm_276 = true := sorry
theorem gk_ok_277_0 : (gk_277.take 50).all (gw_okI gm_277.1 gm_277.2.2.1) = true := sorry
theorem gk_ok_277_1 : (gk_277.drop 50).all (gw_okI gm_277.1 gm_277.2.2.1) = true := sorry
theorem gk_ok_277 : gw_okC gm_277 = true := gw_splitC 50 gk_ok_277_0 (gk_ok_277_1)
theorem gk_ok_278_0 : (gk_278.take 50).all (gw_okI gm_278.1 gm_278.2.2.1) = true := sorry
theorem gk_ok_278_1 : (gk_278.drop 50).all (gw_okI gm_278.1 gm_278.2.2.1) = true := sorry
theorem gk_ok_278 : gw_okC gm_278 = true := gw_splitC 50 gk_ok_278_0 (gk_ok_278_1)
theorem gk_ok_279 : gw_okC gm_279 = true := sorry
theorem gk_ok_280 : gw_okC gm_280 = true := sorry
theorem gk_ok_281_0 : (gk_281.take 50).all (gw_okI gm_281.1 gm_281.2.2.1) = true := sorry
theorem gk_ok_281_1 : ((gk_281.drop 50).take 50).all (gw_okI gm_281.1 gm_281.2.2.1) = true := sorry
theorem gk_ok_281_2 : ((gk_281.drop 50).drop 50).all (gw_okI gm_281.1 gm_281.2.2.1) = true := sorry
theorem gk_ok_281 : gw_okC gm_281 = true := gw_splitC 50 gk_ok_281_0 (gw_splitC 50 gk_ok_281_1 (gk_ok_281_2))
theorem gk_ok_282 : gw_okC gm_282 = true := sorry
theorem gk_ok_283 : gw_okC gm_283 = true := sorry
theorem gk_ok_284 : gw_okC gm_284 = true := sorry
theorem gk_ok_285 : gw_okC gm_285 = true := sorry
theorem gk_ok_286 : gw_okC gm_286 = true := sorry
theorem gk_ok_287 : gw_okC gm_287 = true := sorry
theorem gk_ok_288 : gw_okC gm_288 = true := sorry
theorem gk_ok_289 : gw_okC gm_289 = true := sorry
theorem gk_ok_290 : gw_okC gm_290 = true := sorry
theorem gk_ok_291 : gw_okC gm_291 = true := sorry
theorem gk_ok_292 : gw_okC gm_292 = true := sorry
theorem gk_ok_293 : gw_okC gm_293 = true := sorry
theorem gk_ok_294 : gw_okC gm_294 = true := sorry
theorem gk_ok_295 : gw_okC gm_295 = true := sorry
theorem gk_ok_296 : gw_okC gm_296 = true := sorry
theorem gk_ok_297 : gw_okC gm_297 = true := sorry
theorem gk_ok_298 : gw_okC gm_298 = true := sorry
theorem gk_ok_299 : gw_okC gm_299 = true := sorry
theorem gk_ok_300 : gw_okC gm_300 = true := sorry
theorem gk_ok_301 : gw_okC gm_301 = true := sorry
theorem gk_ok_302 : gw_okC gm_302 = true := sorry
theorem gk_ok_303_0 : (gk_303.take 50).all (gw_okI gm_303.1 gm_303.2.2.1) = true := sorry
theorem gk_ok_303_1 : ((gk_303.drop 50).take 50).all (gw_okI gm_303.1 gm_303.2.2.1) = true := sorry
theorem gk_ok_303_2 : ((gk_303.drop 50).drop 50).all (gw_okI gm_303.1 gm_303.2.2.1) = true := sorry
theorem gk_ok_303 : gw_okC gm_303 = true := gw_splitC 50 gk_ok_303_0 (gw_splitC 50 gk_ok_303_1 (gk_ok_303_2))
theorem gk_ok_304_0 : (gk_304.take 50).all (gw_okI gm_304.1 gm_304.2.2.1) = true := sorry
theorem gk_ok_304_1 : (gk_304.drop 50).all (gw_okI gm_304.1 gm_304.2.2.1) = true := sorry
theorem gk_ok_304 : gw_okC gm_304 = true := gw_splitC 50 gk_ok_304_0 (gk_ok_304_1)
theorem gk_ok_305 : gw_okC gm_305 = true := sorry
theorem gk_ok_306_0 : (gk_306.take 50).all (gw_okI gm_306.1 gm_306.2.2.1) = true := sorry
theorem gk_ok_306_1 : ((gk_306.drop 50).take 50).all (gw_okI gm_306.1 gm_306.2.2.1) = true := sorry
theorem gk_ok_306_2 : ((gk_306.drop 50).drop 50).all (gw_okI gm_306.1 gm_306.2.2.1) = true := sorry
theorem gk_ok_306 : gw_okC gm_306 = true := gw_splitC 50 gk_ok_306_0 (gw_splitC 50 gk_ok_306_1 (gk_ok_306_2))
theorem gk_ok_307 : gw_okC gm_307 = true := sorry
theorem gk_ok_308_0 : (gk_308.take 50).all (gw_okI gm_308.1 gm_308.2.2.1) = true := sorry
theorem gk_ok_308_1 : ((gk_308.drop 50).take 50).all (gw_okI gm_308.1 gm_308.2.2.1) = true := sorry
theorem gk_ok_308_2 : (((gk_308.drop 50).drop 50).take 50).all (gw_okI gm_308.1 gm_308.2.2.1) = true := sorry
theorem gk_ok_308_3 : ((((gk_308.drop 50).drop 50).drop 50).take 50).all (gw_okI gm_308.1 gm_308.2.2.1) = true := sorry
theorem gk_ok_308_4 : (((((gk_308.drop 50).drop 50).drop 50).drop 50).take 50).all (gw_okI gm_308.1 gm_308.2.2.1) = true := sorry
theorem gk_ok_308_5 : ((((((gk_308.drop 50).drop 50).drop 50).drop 50).drop 50).take 50).all (gw_okI gm_308.1 gm_308.2.2.1) = true := sorry
theorem gk_ok_308_6 : ((((((gk_308.drop 50).drop 50).drop 50).drop 50).drop 50).drop 50).all (gw_okI gm_308.1 gm_308.2.2.1) = true := sorry
theorem gk_ok_308 : gw_okC gm_308 = true := gw_splitC 50 gk_ok_308_0 (gw_splitC 50 gk_ok_308_1 (gw_splitC 50 gk_ok_308_2 (gw_splitC 50 gk_ok_308_3 (gw_splitC 50 gk_ok_308_4 (gw_splitC 50 gk_ok_308_5 (gk_ok_308_6))))))
end
section
theorem gk_ok_309_0 : (gk_309.take 50).all (gw_okI gm_309.1 gm_309.2.2.1) = true := sorry
theorem gk_ok_309_1 : ((gk_309.drop 50).take 50).all (gw_okI gm_309.1 gm_309.2.2.1) = true := sorry
theorem gk_ok_309_2 : (((gk_309.drop 50).drop 50).take 50).all (gw_okI gm_309.1 gm_309.2.2.1) = true := sorry
theorem gk_ok_309_3 : ((((gk_309.drop 50).drop 50).drop 50).take 50).all (gw_okI gm_309.1 gm_309.2.2.1) = true := sorry
theorem gk_ok_309_4 : (((((gk_309.drop 50).drop 50).drop 50).drop 50).take 50).all (gw_okI gm_309.1 gm_309.2.2.1) = true := sorry
theorem gk_ok_309_5 : ((((((gk_309.drop 50).drop 50).drop 50).drop 50).drop 50).take 50).all (gw_okI gm_309.1 gm_309.2.2.1) = true := sorry
theorem gk_ok_309_6 : (((((((gk_309.drop 50).drop 50).drop 50).drop 50).drop 50).drop 50).take 50).all (gw_okI gm_309.1 gm_309.2.2.1) = true := sorry
theorem gk_ok_309_7 : ((((((((gk_309.drop 50).drop 50).drop 50).drop 50).drop 50).drop 50).drop 50).take 50).all (gw_okI gm_309.1 gm_309.2.2.1) = true := sorry
theorem gk_ok_309_8 : (((((((((gk_309.drop 50).drop 50).drop 50).drop 50).drop 50).drop 50).drop 50).drop 50).take 50).all (gw_okI gm_309.1 gm_309.2.2.1) = true := sorry
theorem gk_ok_309_9 : ((((((((((gk_309.drop 50).drop 50).drop 50).drop 50).drop 50).drop 50).drop 50).drop 50).drop 50).take 50).all (gw_okI gm_309.1 gm_309.2.2.1) = true := sorry
theorem gk_ok_309_10 : (((((((((((gk_309.drop 50).drop 50).drop 50).drop 50).drop 50).drop 50).drop 50).drop 50).drop 50).drop 50).take 50).all (gw_okI gm_309.1 gm_309.2.2.1) = true := sorry
theorem gk_ok_309_11 : ((((((((((((gk_309.drop 50).drop 50).drop 50).drop 50).drop 50).drop 50).drop 50).drop 50).drop 50).drop 50).drop 50).take 50).all (gw_okI gm_309.1 gm_309.2.2.1) = true := sorry
theorem gk_ok_309_12 : (((((((((((((gk_309.drop 50).drop 50).drop 50).drop 50).drop 50).drop 50).drop 50).drop 50).drop 50).drop 50).drop 50).drop 50).take 50).all (gw_okI gm_309.1 gm_309.2.2.1) = true := sorry
theorem gk_ok_309_13 : ((((((((((((((gk_309.drop 50).drop 50).drop 50).drop 50).drop 50).drop 50).drop 50).drop 50).drop 50).drop 50).drop 50).drop 50).drop 50).take 50).all (gw_okI gm_309.1 gm_309.2.2.1) = true := sorry
theorem gk_ok_309_14 : (((((((((((((((gk_309.drop 50).drop 50).drop 50).drop 50).drop 50).drop 50).drop 50).drop 50).drop 50).drop 50).drop 50).drop 50).drop 50).drop 50).take 50).all (gw_okI gm_309.1 gm_309.2.2.1) = true := sorry
theorem gk_ok_309_15 : ((((((((((((((((gk_309.drop 50).drop 50).drop 50).drop 50).drop 50).drop 50).drop 50).drop 50).drop 50).drop 50).drop 50).drop 50).drop 50).drop 50).drop 50).take 50).all (gw_okI gm_309.1 gm_309.2.2.1) = true := sorry
theorem gk_ok_309_16 : (((((((((((((((((gk_309.drop 50).drop 50).drop 50).drop 50).drop 50).drop 50).drop 50).drop 50).drop 50).drop 50).drop 50).drop 50).drop 50).drop 50).drop 50).drop 50).take 50).all (gw_okI gm_309.1 gm_309.2.2.1) = true := sorry
theorem gk_ok_309_17 : ((((((((((((((((((gk_309.drop 50).drop 50).drop 50).drop 50).drop 50).drop 50).drop 50).drop 50).drop 50).drop 50).drop 50).drop 50).drop 50).drop 50).drop 50).drop 50).drop 50).take 50).all (gw_okI gm_309.1 gm_309.2.2.1) = true := sorry
theorem gk_ok_309_18 : (((((((((((((((((((gk_309.drop 50).drop 50).drop 50).drop 50).drop 50).drop 50).drop 50).drop 50).drop 50).drop 50).drop 50).drop 50).drop 50).drop 50).drop 50).drop 50).drop 50).drop 50).take 50).all (gw_okI gm_309.1 gm_309.2.2.1) = true := sorry
theorem gk_ok_309_19 : ((((((((((((((((((((gk_309.drop 50).drop 50).drop 50).drop 50).drop 50).drop 50).drop 50).drop 50).drop 50).drop 50).drop 50).drop 50).drop 50).drop 50).drop 50).drop 50).drop 50).drop 50).drop 50).take 50).all (gw_okI gm_309.1 gm_309.2.2.1) = true := sorry
theorem gk_ok_309_20 : (((((((((((((((((((((gk_309.drop 50).drop 50).drop 50).drop 50).drop 50).drop 50).drop 50).drop 50).drop 50).drop 50).drop 50).drop 50).drop 50).drop 50).drop 50).drop 50).drop 50).drop 50).drop 50).drop 50).take 50).all (gw_okI gm_309.1 gm_309.2.2.1) = true := sorry
theorem gk_ok_309_21 : (((((((((((((((((((((gk_309.drop 50).drop 50).drop 50).drop 50).drop 50).drop 50).drop 50).drop 50).drop 50).drop 50).drop 50).drop 50).drop 50).drop 50).drop 50).drop 50).drop 50).drop 50).drop 50).drop 50).drop 50).all (gw_okI gm_309.1 gm_309.2.2.1) = true := sorry
theorem gk_ok_309 : gw_okC gm_309 = true := gw_splitC 50 gk_ok_309_0 (gw_splitC 50 gk_ok_309_1 (gw_splitC 50 gk_ok_309_2 (gw_splitC 50 gk_ok_309_3 (gw_splitC 50 gk_ok_309_4 (gw_splitC 50 gk_ok_309_5 (gw_splitC 50 gk_ok_309_6 (gw_splitC 50 gk_ok_309_7 (gw_splitC 50 gk_ok_309_8 (gw_splitC 50 gk_ok_309_9 (gw_splitC 50 gk_ok_309_10 (gw_splitC 50 gk_ok_309_11 (gw_splitC 50 gk_ok_309_12 (gw_splitC 50 gk_ok_309_13 (gw_splitC 50 gk_ok_309_14 (gw_splitC 50 gk_ok_309_15 (gw_splitC 50 gk_ok_309_16 (gw_splitC 50 gk_ok_309_17 (gw_splitC 50 gk_ok_309_18 (gw_splitC 50 gk_ok_309_19 (gw_splitC 50 gk_ok_309_20 (gk_ok_309_21)))))))))))))))))))))
theorem gk_ok_310 : gw_okC gm_310 = true := sorry
theorem gk_ok_311 : gw_okC gm_311 = true := sorry
theorem gk_ok_312 : gw_okC gm_312 = true := sorry
theorem gk_ok_313 : gw_okC gm_313 = true := sorry
end
section
/-! what the checks say, as facts -/
theorem gw_ti_in {i : Nat} {w : Jvm.Cond} (h : gw_ti i w = true) : w ∈ lw_tbl := by
  unfold gw_ti at h
  exact List.mem_append_right _ (List.mem_of_getElem? (of_decide_eq_true h))
def gw_tb : List Jvm.Cond := lw_tbl.filter goodWord
theorem gw_tb_in {w : Jvm.Cond} (h : w ∈ lw_tbl) (g : goodWord w = true) : w ∈ gw_tb := List.mem_filter.mpr ⟨h, g⟩
theorem gw_all2_of {α β : Type} {f : α → β → Bool} {l : List α} : ∀ {r : List β}, gw_all2 f l r = true → ∀ a ∈ l, ∃ b, f a b = true := by
  induction l with
  | nil => intro r _ a ha; cases ha
  | cons x l ih =>
    intro r h a ha
    cases r with
    | nil => cases h
    | cons y r =>
      simp only [gw_all2, Bool.and_eq_true] at h
      rcases List.mem_cons.mp ha with rfl | ha
      · exact ⟨y, h.1⟩
      · exact ih h.2 a ha
theorem gw_lookup_mem {α : Type} {l : List (Nat × α)} {i : Nat} {x : α} (h : l.lookup i = some x) : (i, x) ∈ l := by
  induction l with
  | nil => cases h
  | cons a l ih =>
    obtain ⟨k, y⟩ := a
    rw [List.lookup_cons] at h
    by_cases hk : i = k
    · subst hk
      simp at h
      subst h
      exact List.mem_cons_self
    · have : (i == k) = false := by simp [hk]
      rw [this] at h
      exact List.mem_cons_of_mem _ (ih h)
theorem gw_MLok : ∀ l ∈ gw_ML, ∀ M ∈ l, ∃ ix, gw_okM M ix = true := by
  unfold gw_ML
  exact List.forall_mem_cons.mpr ⟨gw_all2_of gm_ok_0, List.forall_mem_cons.mpr ⟨gw_all2_of gm_ok_1, List.forall_mem_cons.mpr ⟨gw_all2_of gm_ok_2, List.forall_mem_cons.mpr ⟨gw_all2_of gm_ok_3, List.forall_mem_cons.mpr ⟨gw_all2_of gm_ok_4, List.forall_mem_cons.mpr ⟨gw_all2_of gm_ok_5, List.forall_mem_cons.mpr ⟨gw_all2_of gm_ok_6, List.forall_mem_cons.mpr ⟨gw_all2_of gm_ok_7, List.forall_mem_cons.mpr ⟨gw_all2_of gm_ok_8, List.forall_mem_cons.mpr ⟨gw_all2_of gm_ok_9, List.forall_mem_cons.mpr ⟨gw_all2_of gm_ok_10, List.forall_mem_cons.mpr ⟨gw_all2_of gm_ok_11, List.forall_mem_cons.mpr ⟨gw_all2_of gm_ok_12, List.forall_mem_cons.mpr ⟨gw_all2_of gm_ok_13, List.forall_mem_cons.mpr ⟨gw_all2_of gm_ok_14, List.forall_mem_cons.mpr ⟨gw_all2_of gm_ok_15, List.forall_mem_cons.mpr ⟨gw_all2_of gm_ok_16, List.forall_mem_cons.mpr ⟨gw_all2_of gm_ok_17, List.forall_mem_cons.mpr ⟨gw_all2_of gm_ok_18, List.forall_mem_cons.mpr ⟨gw_all2_of gm_ok_19, fun _ h => absurd h List.not_mem_nil⟩⟩⟩⟩⟩⟩⟩⟩⟩⟩⟩⟩⟩⟩⟩⟩⟩⟩⟩⟩
theorem gw_MKok : ∀ l ∈ gw_ML, ∀ M ∈ l, gw_okC M = true := by
  unfold gw_ML
  exact List.forall_mem_cons.mpr ⟨(by
    unfold gw_ML_0
    exact List.forall_mem_cons.mpr ⟨gk_ok_0, List.forall_mem_cons.mpr ⟨gk_ok_1, List.forall_mem_cons.mpr ⟨gk_ok_2, List.forall_mem_cons.mpr ⟨gk_ok_3, List.forall_mem_cons.mpr ⟨gk_ok_4, List.forall_mem_cons.mpr ⟨gk_ok_5, List.forall_mem_cons.mpr ⟨gk_ok_6, List.forall_mem_cons.mpr ⟨gk_ok_7, List.forall_mem_cons.mpr ⟨gk_ok_8, List.forall_mem_cons.mpr ⟨gk_ok_9, List.forall_mem_cons.mpr ⟨gk_ok_10, List.forall_mem_cons.mpr ⟨gk_ok_11, List.forall_mem_cons.mpr ⟨gk_ok_12, List.forall_mem_cons.mpr ⟨gk_ok_13, List.forall_mem_cons.mpr ⟨gk_ok_14, List.forall_mem_cons.mpr ⟨gk_ok_15, fun _ h => absurd h List.not_mem_nil⟩⟩⟩⟩⟩⟩⟩⟩⟩⟩⟩⟩⟩⟩⟩⟩), List.forall_mem_cons.mpr ⟨(by
    unfold gw_ML_1
    exact List.forall_mem_cons.mpr ⟨gk_ok_16, List.forall_mem_cons.mpr ⟨gk_ok_17, List.forall_mem_cons.mpr ⟨gk_ok_18, List.forall_mem_cons.mpr ⟨gk_ok_19, List.forall_mem_cons.mpr ⟨gk_ok_20, List.forall_mem_cons.mpr ⟨gk_ok_21, List.forall_mem_cons.mpr ⟨gk_ok_22, List.forall_mem_cons.mpr ⟨gk_ok_23, List.forall_mem_cons.mpr ⟨gk_ok_24, List.forall_mem_cons.mpr ⟨gk_ok_25, List.forall_mem_cons.mpr ⟨gk_ok_26, List.forall_mem_cons.mpr ⟨gk_ok_27, List.forall_mem_cons.mpr ⟨gk_ok_28, List.forall_mem_cons.mpr ⟨gk_ok_29, List.forall_mem_cons.mpr ⟨gk_ok_30, List.forall_mem_cons.mpr ⟨gk_ok_31, fun _ h => absurd h List.not_mem_nil⟩⟩⟩⟩⟩⟩⟩⟩⟩⟩⟩⟩⟩⟩⟩⟩), List.forall_mem_cons.mpr ⟨(by
    unfold gw_ML_2
    exact List.forall_mem_cons.mpr ⟨gk_ok_32, List.forall_mem_cons.mpr ⟨gk_ok_33, List.forall_mem_cons.mpr ⟨gk_ok_34, List.forall_mem_cons.mpr ⟨gk_ok_35, List.forall_mem_cons.mpr ⟨gk_ok_36, List.forall_mem_cons.mpr ⟨gk_ok_37, List.forall_mem_cons.mpr ⟨gk_ok_38, List.forall_mem_cons.mpr ⟨gk_ok_39, List.forall_mem_cons.mpr ⟨gk_ok_40, List.forall_mem_cons.mpr ⟨gk_ok_41, List.forall_mem_cons.mpr ⟨gk_ok_42, List.forall_mem_cons.mpr ⟨gk_ok_43, List.forall_mem_cons.mpr ⟨gk_ok_44, List.forall_mem_cons.mpr ⟨gk_ok_45, List.forall_mem_cons.mpr ⟨gk_ok_46, List.forall_mem_cons.mpr ⟨gk_ok_47, fun _ h => absurd h List.not_mem_nil⟩⟩⟩⟩⟩⟩⟩⟩⟩⟩⟩⟩⟩⟩⟩⟩), List.forall_mem_cons.mpr ⟨(by
    unfold gw_ML_3
    exact List.forall_mem_cons.mpr ⟨gk_ok_48, List.forall_mem_cons.mpr ⟨gk_ok_49, List.forall_mem_cons.mpr ⟨gk_ok_50, List.forall_mem_cons.mpr ⟨gk_ok_51, List.forall_mem_cons.mpr ⟨gk_ok_52, List.forall_mem_cons.mpr ⟨gk_ok_53, List.forall_mem_cons.mpr ⟨gk_ok_54, List.forall_mem_cons.mpr ⟨gk_ok_55, List.forall_mem_cons.mpr ⟨gk_ok_56, List.forall_mem_cons.mpr ⟨gk_ok_57, List.forall_mem_cons.mpr ⟨gk_ok_58, List.forall_mem_cons.mpr ⟨gk_ok_59, List.forall_mem_cons.mpr ⟨gk_ok_60, List.forall_mem_cons.mpr ⟨gk_ok_61, List.forall_mem_cons.mpr ⟨gk_ok_62, List.forall_mem_cons.mpr ⟨gk_ok_63, fun _ h => absurd h List.not_mem_nil⟩⟩⟩⟩⟩⟩⟩⟩⟩⟩⟩⟩⟩⟩⟩⟩), List.forall_mem_cons.mpr ⟨(by
    unfold gw_ML_4
    exact List.forall_mem_cons.mpr ⟨gk_ok_64, List.forall_mem_cons.mpr ⟨gk_ok_65, List.forall_mem_cons.mpr ⟨gk_ok_66, List.forall_mem_cons.mpr ⟨gk_ok_67, List.forall_mem_cons.mpr ⟨gk_ok_68, List.forall_mem_cons.mpr ⟨gk_ok_69, List.forall_mem_cons.mpr ⟨gk_ok_70, List.forall_mem_cons.mpr ⟨gk_ok_71, List.forall_mem_cons.mpr ⟨gk_ok_72, List.forall_mem_cons.mpr ⟨gk_ok_73, List.forall_mem_cons.mpr ⟨gk_ok_74, List.forall_mem_cons.mpr ⟨gk_ok_75, List.forall_mem_cons.mpr ⟨gk_ok_76, List.forall_mem_cons.mpr ⟨gk_ok_77, List.forall_mem_cons.mpr ⟨gk_ok_78, List.forall_mem_cons.mpr ⟨gk_ok_79, fun _ h => absurd h List.not_mem_nil⟩⟩⟩⟩⟩⟩⟩⟩⟩⟩⟩⟩⟩⟩⟩⟩), List.forall_mem_cons.mpr ⟨(by
    unfold gw_ML_5
    exact List.forall_mem_cons.mpr ⟨gk_ok_80, List.forall_mem_cons.mpr ⟨gk_ok_81, List.forall_mem_cons.mpr ⟨gk_ok_82, List.forall_mem_cons.mpr ⟨gk_ok_83, List.forall_mem_cons.mpr ⟨gk_ok_84, List.forall_mem_cons.mpr ⟨gk_ok_85, List.forall_mem_cons.mpr ⟨gk_ok_86, List.forall_mem_cons.mpr ⟨gk_ok_87, List.forall_mem_cons.mpr ⟨gk_ok_88, List.forall_mem_cons.mpr ⟨gk_ok_89, List.forall_mem_cons.mpr ⟨gk_ok_90, List.forall_mem_cons.mpr ⟨gk_ok_91, List.forall_mem_cons.mpr ⟨gk_ok_92, List.forall_mem_cons.mpr ⟨gk_ok_93, List.forall_mem_cons.mpr ⟨gk_ok_94, List.forall_mem_cons.mpr ⟨gk_ok_95, fun _ h => absurd h List.not_mem_nil⟩⟩⟩⟩⟩⟩⟩⟩⟩⟩⟩⟩⟩⟩⟩⟩), List.forall_mem_cons.mpr ⟨(by
    unfold gw_ML_6
    exact List.forall_mem_cons.mpr ⟨gk_ok_96, List.forall_mem_cons.mpr ⟨gk_ok_97, List.forall_mem_cons.mpr ⟨gk_ok_98, List.forall_mem_cons.mpr ⟨gk_ok_99, List.forall_mem_cons.mpr ⟨gk_ok_100, List.forall_mem_cons.mpr ⟨gk_ok_101, List.forall_mem_cons.mpr ⟨gk_ok_102, List.forall_mem_cons.mpr ⟨gk_ok_103, List.forall_mem_cons.mpr ⟨gk_ok_104, List.forall_mem_cons.mpr ⟨gk_ok_105, List.forall_mem_cons.mpr ⟨gk_ok_106, List.forall_mem_cons.mpr ⟨gk_ok_107, List.forall_mem_cons.mpr ⟨gk_ok_108, List.forall_mem_cons.mpr ⟨gk_ok_109, List.forall_mem_cons.mpr ⟨gk_ok_110, List.forall_mem_cons.mpr ⟨gk_ok_111, fun _ h => absurd h List.not_mem_nil⟩⟩⟩⟩⟩⟩⟩⟩⟩⟩⟩⟩⟩⟩⟩⟩), List.forall_mem_cons.mpr ⟨(by
    unfold gw_ML_7
    exact List.forall_mem_cons.mpr ⟨gk_ok_112, List.forall_mem_cons.mpr ⟨gk_ok_113, List.forall_mem_cons.mpr ⟨gk_ok_114, List.forall_mem_cons.mpr ⟨gk_ok_115, List.forall_mem_cons.mpr ⟨gk_ok_116, List.forall_mem_cons.mpr ⟨gk_ok_117, List.forall_mem_cons.mpr ⟨gk_ok_118, List.forall_mem_cons.mpr ⟨gk_ok_119, List.forall_mem_cons.mpr ⟨gk_ok_120, List.forall_mem_cons.mpr ⟨gk_ok_121, List.forall_mem_cons.mpr ⟨gk_ok_122, List.forall_mem_cons.mpr ⟨gk_ok_123, List.forall_mem_cons.mpr ⟨gk_ok_124, List.forall_mem_cons.mpr ⟨gk_ok_125, List.forall_mem_cons.mpr ⟨gk_ok_126, List.forall_mem_cons.mpr ⟨gk_ok_127, fun _ h => absurd h List.not_mem_nil⟩⟩⟩⟩⟩⟩⟩⟩⟩⟩⟩⟩⟩⟩⟩⟩), List.forall_mem_cons.mpr ⟨(by
    unfold gw_ML_8
    exact List.forall_mem_cons.mpr ⟨gk_ok_128, List.forall_mem_cons.mpr ⟨gk_ok_129, List.forall_mem_cons.mpr ⟨gk_ok_130, List.forall_mem_cons.mpr ⟨gk_ok_131, List.forall_mem_cons.mpr ⟨gk_ok_132, List.forall_mem_cons.mpr ⟨gk_ok_133, List.forall_mem_cons.mpr ⟨gk_ok_134, List.forall_mem_cons.mpr ⟨gk_ok_135, List.forall_mem_cons.mpr ⟨gk_ok_136, List.forall_mem_cons.mpr ⟨gk_ok_137, List.forall_mem_cons.mpr ⟨gk_ok_138, List.forall_mem_cons.mpr ⟨gk_ok_139, List.forall_mem_cons.mpr ⟨gk_ok_140, List.forall_mem_cons.mpr ⟨gk_ok_141, List.forall_mem_cons.mpr ⟨gk_ok_142, List.forall_mem_cons.mpr ⟨gk_ok_143, fun _ h => absurd h List.not_mem_nil⟩⟩⟩⟩⟩⟩⟩⟩⟩⟩⟩⟩⟩⟩⟩⟩), List.forall_mem_cons.mpr ⟨(by
    unfold gw_ML_9
    exact List.forall_mem_cons.mpr ⟨gk_ok_144, List.forall_mem_cons.mpr ⟨gk_ok_145, List.forall_mem_cons.mpr ⟨gk_ok_146, List.forall_mem_cons.mpr ⟨gk_ok_147, List.forall_mem_cons.mpr ⟨gk_ok_148, List.forall_mem_cons.mpr ⟨gk_ok_149, List.forall_mem_cons.mpr ⟨gk_ok_150, List.forall_mem_cons.mpr ⟨gk_ok_151, List.forall_mem_cons.mpr ⟨gk_ok_152, List.forall_mem_cons.mpr ⟨gk_ok_153, List.forall_mem_cons.mpr ⟨gk_ok_154, List.forall_mem_cons.mpr ⟨gk_ok_155, List.forall_mem_cons.mpr ⟨gk_ok_156, List.forall_mem_cons.mpr ⟨gk_ok_157, List.forall_mem_cons.mpr ⟨gk_ok_158, List.forall_mem_cons.mpr ⟨gk_ok_159, fun _ h => absurd h List.not_mem_nil⟩⟩⟩⟩⟩⟩⟩⟩⟩⟩⟩⟩⟩⟩⟩⟩), List.forall_mem_cons.mpr ⟨(by
    unfold gw_ML_10
    exact List.forall_mem_cons.mpr ⟨gk_ok_160, List.forall_mem_cons.mpr ⟨gk_ok_161, List.forall_mem_cons.mpr ⟨gk_ok_162, List.forall_mem_cons.mpr ⟨gk_ok_163, List.forall_mem_cons.mpr ⟨gk_ok_164, List.forall_mem_cons.mpr ⟨gk_ok_165, List.forall_mem_cons.mpr ⟨gk_ok_166, List.forall_mem_cons.mpr ⟨gk_ok_167, List.forall_mem_cons.mpr ⟨gk_ok_168, List.forall_mem_cons.mpr ⟨gk_ok_169, List.forall_mem_cons.mpr ⟨gk_ok_170, List.forall_mem_cons.mpr ⟨gk_ok_171, List.forall_mem_cons.mpr ⟨gk_ok_172, List.forall_mem_cons.mpr ⟨gk_ok_173, List.forall_mem_cons.mpr ⟨gk_ok_174, List.forall_mem_cons.mpr ⟨gk_ok_175, fun _ h => absurd h List.not_mem_nil⟩⟩⟩⟩⟩⟩⟩⟩⟩⟩⟩⟩⟩⟩⟩⟩), List.forall_mem_cons.mpr ⟨(by
    unfold gw_ML_11
    exact List.forall_mem_cons.mpr ⟨gk_ok_176, List.forall_mem_cons.mpr ⟨gk_ok_177, List.forall_mem_cons.mpr ⟨gk_ok_178, List.forall_mem_cons.mpr ⟨gk_ok_179, List.forall_mem_cons.mpr ⟨gk_ok_180, List.forall_mem_cons.mpr ⟨gk_ok_181, List.forall_mem_cons.mpr ⟨gk_ok_182, List.forall_mem_cons.mpr ⟨gk_ok_183, List.forall_mem_cons.mpr ⟨gk_ok_184, List.forall_mem_cons.mpr ⟨gk_ok_185, List.forall_mem_cons.mpr ⟨gk_ok_186, List.forall_mem_cons.mpr ⟨gk_ok_187, List.forall_mem_cons.mpr ⟨gk_ok_188, List.forall_mem_cons.mpr ⟨gk_ok_189, List.forall_mem_cons.mpr ⟨gk_ok_190, List.forall_mem_cons.mpr ⟨gk_ok_191, fun _ h => absurd h List.not_mem_nil⟩⟩⟩⟩⟩⟩⟩⟩⟩⟩⟩⟩⟩⟩⟩⟩), List.forall_mem_cons.mpr ⟨(by
    unfold gw_ML_12
    exact List.forall_mem_cons.mpr ⟨gk_ok_192, List.forall_mem_cons.mpr ⟨gk_ok_193, List.forall_mem_cons.mpr ⟨gk_ok_194, List.forall_mem_cons.mpr ⟨gk_ok_195, List.forall_mem_cons.mpr ⟨gk_ok_196, List.forall_mem_cons.mpr ⟨gk_ok_197, List.forall_mem_cons.mpr ⟨gk_ok_198, List.forall_mem_cons.mpr ⟨gk_ok_199, List.forall_mem_cons.mpr ⟨gk_ok_200, List.forall_mem_cons.mpr ⟨gk_ok_201, List.forall_mem_cons.mpr ⟨gk_ok_202, List.forall_mem_cons.mpr ⟨gk_ok_203, List.forall_mem_cons.mpr ⟨gk_ok_204, List.forall_mem_cons.mpr ⟨gk_ok_205, List.forall_mem_cons.mpr ⟨gk_ok_206, List.forall_mem_cons.mpr ⟨gk_ok_207, fun _ h => absurd h List.not_mem_nil⟩⟩⟩⟩⟩⟩⟩⟩⟩⟩⟩⟩⟩⟩⟩⟩), List.forall_mem_cons.mpr ⟨(by
    unfold gw_ML_13
    exact List.forall_mem_cons.mpr ⟨gk_ok_208, List.forall_mem_cons.mpr ⟨gk_ok_209, List.forall_mem_cons.mpr ⟨gk_ok_210, List.forall_mem_cons.mpr ⟨gk_ok_211, List.forall_mem_cons.mpr ⟨gk_ok_212, List.forall_mem_cons.mpr ⟨gk_ok_213, List.forall_mem_cons.mpr ⟨gk_ok_214, List.forall_mem_cons.mpr ⟨gk_ok_215, List.forall_mem_cons.mpr ⟨gk_ok_216, List.forall_mem_cons.mpr ⟨gk_ok_217, List.forall_mem_cons.mpr ⟨gk_ok_218, List.forall_mem_cons.mpr ⟨gk_ok_219, List.forall_mem_cons.mpr ⟨gk_ok_220, List.forall_mem_cons.mpr ⟨gk_ok_221, List.forall_mem_cons.mpr ⟨gk_ok_222, List.forall_mem_cons.mpr ⟨gk_ok_223, fun _ h => absurd h List.not_mem_nil⟩⟩⟩⟩⟩⟩⟩⟩⟩⟩⟩⟩⟩⟩⟩⟩), List.forall_mem_cons.mpr ⟨(by
    unfold gw_ML_14
    exact List.forall_mem_cons.mpr ⟨gk_ok_224, List.forall_mem_cons.mpr ⟨gk_ok_225, List.forall_mem_cons.mpr ⟨gk_ok_226, List.forall_mem_cons.mpr ⟨gk_ok_227, List.forall_mem_cons.mpr ⟨gk_ok_228, List.forall_mem_cons.mpr ⟨gk_ok_229, List.forall_mem_cons.mpr ⟨gk_ok_230, List.forall_mem_cons.mpr ⟨gk_ok_231, List.forall_mem_cons.mpr ⟨gk_ok_232, List.forall_mem_cons.mpr ⟨gk_ok_233, List.forall_mem_cons.mpr ⟨gk_ok_234, List.forall_mem_cons.mpr ⟨gk_ok_235, List.forall_mem_cons.mpr ⟨gk_ok_236, List.forall_mem_cons.mpr ⟨gk_ok_237, List.forall_mem_cons.mpr ⟨gk_ok_238, List.forall_mem_cons.mpr ⟨gk_ok_239, fun _ h => absurd h List.not_mem_nil⟩⟩⟩⟩⟩⟩⟩⟩⟩⟩⟩⟩⟩⟩⟩⟩), List.forall_mem_cons.mpr ⟨(by
    unfold gw_ML_15
    exact List.forall_mem_cons.mpr ⟨gk_ok_240, List.forall_mem_cons.mpr ⟨gk_ok_241, List.forall_mem_cons.mpr ⟨gk_ok_242, List.forall_mem_cons.mpr ⟨gk_ok_243, List.forall_mem_cons.mpr ⟨gk_ok_244, List.forall_mem_cons.mpr ⟨gk_ok_245, List.forall_mem_cons.mpr ⟨gk_ok_246, List.forall_mem_cons.mpr ⟨gk_ok_247, List.forall_mem_cons.mpr ⟨gk_ok_248, List.forall_mem_cons.mpr ⟨gk_ok_249, List.forall_mem_cons.mpr ⟨gk_ok_250, List.forall_mem_cons.mpr ⟨gk_ok_251, List.forall_mem_cons.mpr ⟨gk_ok_252, List.forall_mem_cons.mpr ⟨gk_ok_253, List.forall_mem_cons.mpr ⟨gk_ok_254, List.forall_mem_cons.mpr ⟨gk_ok_255, fun _ h => absurd h List.not_mem_nil⟩⟩⟩⟩⟩⟩⟩⟩⟩⟩⟩⟩⟩⟩⟩⟩), List.forall_mem_cons.mpr ⟨(by
    unfold gw_ML_16
    exact List.forall_mem_cons.mpr ⟨gk_ok_256, List.forall_mem_cons.mpr ⟨gk_ok_257, List.forall_mem_cons.mpr ⟨gk_ok_258, List.forall_mem_cons.mpr ⟨gk_ok_259, List.forall_mem_cons.mpr ⟨gk_ok_260, List.forall_mem_cons.mpr ⟨gk_ok_261, List.forall_mem_cons.mpr ⟨gk_ok_262, List.forall_mem_cons.mpr ⟨gk_ok_263, List.forall_mem_cons.mpr ⟨gk_ok_264, List.forall_mem_cons.mpr ⟨gk_ok_265, List.forall_mem_cons.mpr ⟨gk_ok_266, List.forall_mem_cons.mpr ⟨gk_ok_267, List.forall_mem_cons.mpr ⟨gk_ok_268, List.forall_mem_cons.mpr ⟨gk_ok_269, List.forall_mem_cons.mpr ⟨gk_ok_270, List.forall_mem_cons.mpr ⟨gk_ok_271, fun _ h => absurd h List.not_mem_nil⟩⟩⟩⟩⟩⟩⟩⟩⟩⟩⟩⟩⟩⟩⟩⟩), List.forall_mem_cons.mpr ⟨(by
    unfold gw_ML_17
    exact List.forall_mem_cons.mpr ⟨gk_ok_272, List.forall_mem_cons.mpr ⟨gk_ok_273, List.forall_mem_cons.mpr ⟨gk_ok_274, List.forall_mem_cons.mpr ⟨gk_ok_275, List.forall_mem_cons.mpr ⟨gk_ok_276, List.forall_mem_cons.mpr ⟨gk_ok_277, List.forall_mem_cons.mpr ⟨gk_ok_278, List.forall_mem_cons.mpr ⟨gk_ok_279, List.forall_mem_cons.mpr ⟨gk_ok_280, List.forall_mem_cons.mpr ⟨gk_ok_281, List.forall_mem_cons.mpr ⟨gk_ok_282, List.forall_mem_cons.mpr ⟨gk_ok_283, List.forall_mem_cons.mpr ⟨gk_ok_284, List.forall_mem_cons.mpr ⟨gk_ok_285, List.forall_mem_cons.mpr ⟨gk_ok_286, List.forall_mem_cons.mpr ⟨gk_ok_287, fun _ h => absurd h List.not_mem_nil⟩⟩⟩⟩⟩⟩⟩⟩⟩⟩⟩⟩⟩⟩⟩⟩), List.forall_mem_cons.mpr ⟨(by
    unfold gw_ML_18
    exact List.forall_mem_cons.mpr ⟨gk_ok_288, List.forall_mem_cons.mpr ⟨gk_ok_289, List.forall_mem_cons.mpr ⟨gk_ok_290, List.forall_mem_cons.mpr ⟨gk_ok_291, List.forall_mem_cons.mpr ⟨gk_ok_292, List.forall_mem_cons.mpr ⟨gk_ok_293, List.forall_mem_cons.mpr ⟨gk_ok_294, List.forall_mem_cons.mpr ⟨gk_ok_295, List.forall_mem_cons.mpr ⟨gk_ok_296, List.forall_mem_cons.mpr ⟨gk_ok_297, List.forall_mem_cons.mpr ⟨gk_ok_298, List.forall_mem_cons.mpr ⟨gk_ok_299, List.forall_mem_cons.mpr ⟨gk_ok_300, List.forall_mem_cons.mpr ⟨gk_ok_301, List.forall_mem_cons.mpr ⟨gk_ok_302, List.forall_mem_cons.mpr ⟨gk_ok_303, fun _ h => absurd h List.not_mem_nil⟩⟩⟩⟩⟩⟩⟩⟩⟩⟩⟩⟩⟩⟩⟩⟩), List.forall_mem_cons.mpr ⟨(by
    unfold gw_ML_19
    exact List.forall_mem_cons.mpr ⟨gk_ok_304, List.forall_mem_cons.mpr ⟨gk_ok_305, List.forall_mem_cons.mpr ⟨gk_ok_306, List.forall_mem_cons.mpr ⟨gk_ok_307, List.forall_mem_cons.mpr ⟨gk_ok_308, List.forall_mem_cons.mpr ⟨gk_ok_309, List.forall_mem_cons.mpr ⟨gk_ok_310, List.forall_mem_cons.mpr ⟨gk_ok_311, List.forall_mem_cons.mpr ⟨gk_ok_312, List.forall_mem_cons.mpr ⟨gk_ok_313, fun _ h => absurd h List.not_mem_nil⟩⟩⟩⟩⟩⟩⟩⟩⟩⟩), fun _ h => absurd h List.not_mem_nil⟩⟩⟩⟩⟩⟩⟩⟩⟩⟩⟩⟩⟩⟩⟩⟩⟩⟩⟩⟩
theorem gw_fact_K {m : Nat} {M : gw_M} (h : gw_mi m = some M) : gw_okC M = true := by
  unfold gw_mi at h
  split at h
  · rename_i l hl
    exact gw_MKok l (List.mem_of_getElem? hl) M (List.mem_of_getElem? h)
  · cases h
theorem gw_fact_M {m : Nat} {M : gw_M} (h : gw_mi m = some M) : ∃ ix, gw_okM M ix = true := by
  unfold gw_mi at h
  split at h
  · rename_i l hl
    exact gw_MLok l (List.mem_of_getElem? hl) M (List.mem_of_getElem? h)
  · cases h
theorem gw_fact_P {c i : Nat} {e : gw_E} (h : gw_pool c i = some e) : ∃ ix, gw_okP c (i, e) ix = true := by
  unfold gw_pool at h
  split at h
  · rename_i l hl
    have hm := gw_lookup_mem h
    have hc : c < 16 := (List.getElem?_eq_some_iff.mp hl).1
    match c, hc, hl with
    | 0, _, hl => cases hl; exact gw_all2_of gp_ok_0 _ hm
    | 1, _, hl => cases hl; exact gw_all2_of gp_ok_1 _ hm
    | 2, _, hl => cases hl; exact gw_all2_of gp_ok_2 _ hm
    | 3, _, hl => cases hl; exact gw_all2_of gp_ok_3 _ hm
    | 4, _, hl => cases hl; exact gw_all2_of gp_ok_4 _ hm
    | 5, _, hl => cases hl; exact gw_all2_of gp_ok_5 _ hm
    | 6, _, hl => cases hl; exact gw_all2_of gp_ok_6 _ hm
    | 7, _, hl => cases hl; exact gw_all2_of gp_ok_7 _ hm
    | 8, _, hl => cases hl; exact gw_all2_of gp_ok_8 _ hm
    | 9, _, hl => cases hl; exact gw_all2_of gp_ok_9 _ hm
    | 10, _, hl => cases hl; exact gw_all2_of gp_ok_10 _ hm
    | 11, _, hl => cases hl; exact gw_all2_of gp_ok_11 _ hm
    | 12, _, hl => cases hl; exact gw_all2_of gp_ok_12 _ hm
    | 13, _, hl => cases hl; exact gw_all2_of gp_ok_13 _ hm
    | 14, _, hl => cases hl; exact gw_all2_of gp_ok_14 _ hm
    | 15, _, hl => cases hl; exact gw_all2_of gp_ok_15 _ hm
  · cases h
theorem gw_lay_good {C : String} {T : u_T} {N : Nat} {w : Jvm.Cond} (h : w ∈ u_ws C T N) : goodWord w = true := by
  obtain ⟨k, -, rfl⟩ := List.mem_map.mp h
  unfold u_lay
  split <;> rfl
theorem gw_fact_C {ci N : Nat} {C : String} {T : u_T} (h : vwCl[ci]? = some (C, T, N)) : (∀ w ∈ u_ws C T N, w ∈ gw_tb) ∧ (∀ k, k < N → parseFieldDescriptor (T k).2.2.1 = some (gw_ty ci k)) ∧ ∀ a, a < N → ∀ b, b < N → a ≠ b → (T a).2.1 ≠ (T b).2.1 := by
  have hc : ci < 13 := (List.getElem?_eq_some_iff.mp h).1
  have key : ∀ {C : String} {T : u_T} {N : Nat} {r : List Nat}, gw_all2 (fun w i => gw_ti i w) (u_ws C T N) r = true → ∀ w ∈ u_ws C T N, w ∈ gw_tb := fun h w hw => by
    obtain ⟨i, hi⟩ := gw_all2_of h w hw
    exact gw_tb_in (gw_ti_in hi) (gw_lay_good hw)
  match ci, hc, h with
  | 0, _, h => cases h; exact ⟨key gu_ok_0, tyX0_ok, nmX0⟩
  | 1, _, h => cases h; exact ⟨key gu_ok_1, tyX1_ok, nmX1⟩
  | 2, _, h => cases h; exact ⟨key gu_ok_2, tyX2_ok, nmX2⟩
  | 3, _, h => cases h; exact ⟨key gu_ok_3, tyX3_ok, nmX3⟩
  | 4, _, h => cases h; exact ⟨key gu_ok_4, tyX4_ok, nmX4⟩
  | 5, _, h => cases h; exact ⟨key gu_ok_5, tyX5_ok, nmX5⟩
  | 6, _, h => cases h; exact ⟨key gu_ok_6, tyX6_ok, nmX6⟩
  | 7, _, h => cases h; exact ⟨key gu_ok_7, tyX7_ok, nmX7⟩
  | 8, _, h => cases h; exact ⟨key gu_ok_8, tyX8_ok, nmX8⟩
  | 9, _, h => cases h; exact ⟨key gu_ok_9, tyX9_ok, nmX9⟩
  | 10, _, h => cases h; exact ⟨key gu_ok_10, tyX10_ok, nmX10⟩
  | 11, _, h => cases h; exact ⟨key gu_ok_11, tyX11_ok, nmX11⟩
  | 12, _, h => cases h; exact ⟨key gu_ok_12, tyX12_ok, nmX12⟩
theorem gw_at_spec {m pc : Nat} {M : gw_M} {I : gw_I} (h : gw_at m pc = some (M, I)) : gw_mi m = some M ∧ gw_okI M.1 M.2.2.1 (pc, I) = true := by
  unfold gw_at at h
  cases hm : gw_mi m with
  | none => simp [hm] at h
  | some M' =>
    simp only [hm] at h
    cases hl : M'.2.2.2.2.2.2.2.2.lookup pc with
    | none => simp [hl] at h
    | some I' =>
      simp only [hl, Option.some.injEq, Prod.mk.injEq] at h
      obtain ⟨rfl, rfl⟩ := h
      refine ⟨rfl, ?_⟩
      exact List.all_eq_true.mp (gw_fact_K hm) _ (gw_lookup_mem hl)
end
section
/-! the counted cells and the machine's heap -/
def gw_rho (z0 : Nat) (ro : Nat → Nat) (a : Nat) : Nat := if a < 8 then ro a else z0 + (a - 8)
def gw_rv (ρ : Nat → Nat) (v : Value) : Value := match v with
  | .ref a => .ref (ρ a)
  | w => w
def gw_rc (ρ : Nat → Nat) (ca : Nat → ClassId) (c : gw_C) : va_E := match c with
  | .inl x => .inl (ca x.1, x.2.1, .inl x.2.2)
  | .inr x => .inr (x.1, x.2.map (gw_rv ρ))
def gw_ok (n : Nat) (v : Value) : Prop := ∀ a, v = .ref a → a < n
def gw_okS (n : Nat) (st : List Value) : Prop := ∀ v ∈ st, gw_ok n v
def gw_okL (n : Nat) (L : gw_L) : Prop := ∀ (i : Nat) (v : Value), L[i]? = some (some v) → gw_ok n v
def gw_okc (n : Nat) (c : gw_C) : Prop := match c with
  | .inl _ => True
  | .inr x => gw_okS n x.2
def gw_HR (D : va_G) (ca : Nat → ClassId) (z0 : Nat) (ro : Nat → Nat) (rc : Nat → Nat × (Nat → Int32)) (h : gw_H) (H : Heap) : Prop :=
  8 ≤ h.2.1 ∧ H.size = z0 + (h.2.1 - 8) ∧ (∀ a, 8 ≤ a → a < h.2.1 → va_at D vwCl (z0 + (a - 8), gw_rc (gw_rho z0 ro) ca (h.1 a)) H ∧ gw_okc h.2.1 (h.1 a)) ∧ ∀ a, a < 8 → h.1 a = .inl (0, rc a)
def gw_A (z0 : Nat) : Nat → Prop := fun q => z0 ≤ q
def gw_SR (D : va_G) (ca : Nat → ClassId) (z0 : Nat) (ro : Nat → Nat) (rc : Nat → Nat × (Nat → Int32)) (U : State) : Prop :=
  va_K D vwCl [(ca 0, .int), (ca 1, .boolean)] U ∧ (∀ a, a < 8 → va_T .int (ro a) (rc a).1 (fun j => .int ((rc a).2 j)) (gw_A z0) U U.heap) ∧ (∀ j, 1 ≤ j → j ≤ 4 → va_Z "GlassWires$Palette" (gw_sn j) "[I" (.ref (ro j)) (gw_A z0) U U.heap) ∧ z0 ≤ U.heap.size ∧ ∀ (a : String) (i : Nat) (y : MethodName), Jvm.Cond.methodLinkNest a i y "GlassWires" ∈ lw_tbl → va_Nw (.methodLinkNest a i y "GlassWires") U
def gw_LH (ρ : Nat → Nat) (ls : Array Slot) (nL : Nat) (L : gw_L) : Prop := ls.size = nL ∧ lv_wf ls ∧ L.length = nL ∧ ∀ (i : Nat) (v : Value), L[i]? = some (some v) → ls[i]? = some (.val (gw_rv ρ v))
def gw_lv (ρ : Nat → Nat) (L : gw_L) : List (Nat × Value) := (List.range L.length).filterMap fun i => match L[i]? with
  | some (some v) => some (i, gw_rv ρ v)
  | _ => none
theorem gw_rv_cat (ρ : Nat → Nat) (v : Value) : (gw_rv ρ v).category = v.category := by cases v <;> rfl
theorem gw_lv_mem {ρ : Nat → Nat} {L : gw_L} {i : Nat} {v : Value} (h : L[i]? = some (some v)) : (i, gw_rv ρ v) ∈ gw_lv ρ L := by
  unfold gw_lv
  refine List.mem_filterMap.mpr ⟨i, List.mem_range.mpr ?_, ?_⟩
  · exact (List.getElem?_eq_some_iff.mp h).1
  · rw [h]
theorem gw_lv_of {ρ : Nat → Nat} {L : gw_L} {q : Nat × Value} (h : q ∈ gw_lv ρ L) : ∃ v, L[q.1]? = some (some v) ∧ q.2 = gw_rv ρ v := by
  unfold gw_lv at h
  obtain ⟨i, -, hi⟩ := List.mem_filterMap.mp h
  split at hi
  · rename_i v hv
    cases hi
    exact ⟨v, hv, rfl⟩
  · cases hi
theorem gw_LH.has {ρ : Nat → Nat} {ls : Array Slot} {nL : Nat} {L : gw_L} (h : gw_LH ρ ls nL L) : lv_has ls nL (gw_lv ρ L) := by
  refine ⟨h.1, h.2.1, fun q hq => ?_⟩
  obtain ⟨v, h1, h2⟩ := gw_lv_of hq
  rw [h2]
  exact h.2.2.2 _ _ h1
theorem gw_cut_len (L : gw_L) (i : Nat) : (gw_cut L i).length = L.length := by
  unfold gw_cut
  split
  · rfl
  · split
    · split <;> simp
    · rfl
theorem gw_cut_get {L : gw_L} {i j : Nat} {w : Value} (h : (gw_cut L i)[j]? = some (some w)) : L[j]? = some (some w) ∧ ¬ (j + 1 = i ∧ w.category = 2) := by
  unfold gw_cut at h
  split at h
  · exact ⟨h, fun q => by omega⟩
  · rename_i k
    split at h
    · rename_i v hv
      split at h
      · rename_i hc
        by_cases hjk : j = k
        · subst hjk
          rw [List.getElem?_set_self (List.getElem?_eq_some_iff.mp hv).1] at h
          cases h
        · rw [List.getElem?_set_ne (fun q => hjk q.symm)] at h
          exact ⟨h, fun q => hjk (by omega)⟩
      · rename_i hc
        refine ⟨h, fun q => ?_⟩
        have hjk : j = k := by omega
        subst hjk
        rw [hv] at h
        cases h
        exact hc q.2
    · rename_i hne
      refine ⟨h, fun q => ?_⟩
      have hjk : j = k := by omega
      subst hjk
      exact hne _ h
theorem gw_LH.st1 {ρ : Nat → Nat} {ls ls' : Array Slot} {nL i : Nat} {L L' : gw_L} {v : Value} (h : gw_LH ρ ls nL L) (hL : gw_st1 L i v = some L')
    (h' : lv_has ls' nL ((i, gw_rv ρ v) :: (gw_lv ρ L).filter (fun q => !(q.1 == i) && !(q.1 + 1 == i && q.2.category == 2)))) : gw_LH ρ ls' nL L' := by
  unfold gw_st1 at hL
  split at hL
  · rename_i hi
    cases hL
    refine ⟨h'.1, h'.2.1, by rw [List.length_set, gw_cut_len]; exact h.2.2.1, fun j w hj => ?_⟩
    by_cases hji : j = i
    · subst hji
      rw [List.getElem?_set_self (by rw [gw_cut_len]; exact hi)] at hj
      cases hj
      exact h'.2.2 _ List.mem_cons_self
    · rw [List.getElem?_set_ne (fun q => hji q.symm)] at hj
      obtain ⟨h1, h2⟩ := gw_cut_get hj
      refine h'.2.2 (j, gw_rv ρ w) (List.mem_cons_of_mem _ (List.mem_filter.mpr ⟨gw_lv_mem h1, ?_⟩))
      simp only [gw_rv_cat, Bool.and_eq_true, Bool.not_eq_true', beq_eq_false_iff_ne, ne_eq, Bool.and_eq_false_imp, beq_iff_eq]
      exact ⟨hji, fun q1 q2 => h2 ⟨q1, q2⟩⟩
  · cases hL
theorem gw_LH.st2 {ρ : Nat → Nat} {ls ls' : Array Slot} {nL i : Nat} {L L' : gw_L} {v : Value} (h : gw_LH ρ ls nL L) (hL : gw_st2 L i v = some L')
    (h' : lv_has ls' nL ((i, gw_rv ρ v) :: (gw_lv ρ L).filter (fun q => !(q.1 == i) && (!(q.1 == i + 1) && !(q.1 + 1 == i && q.2.category == 2))))) : gw_LH ρ ls' nL L' := by
  unfold gw_st2 at hL
  split at hL
  · rename_i hi
    cases hL
    refine ⟨h'.1, h'.2.1, by rw [List.length_set, List.length_set, gw_cut_len]; exact h.2.2.1, fun j w hj => ?_⟩
    by_cases hji1 : j = i + 1
    · subst hji1
      rw [List.getElem?_set_self (by rw [List.length_set, gw_cut_len]; exact hi)] at hj
      cases hj
    · rw [List.getElem?_set_ne (fun q => hji1 q.symm)] at hj
      by_cases hji : j = i
      · subst hji
        rw [List.getElem?_set_self (by rw [gw_cut_len]; omega)] at hj
        cases hj
        exact h'.2.2 _ List.mem_cons_self
      · rw [List.getElem?_set_ne (fun q => hji q.symm)] at hj
        obtain ⟨h1, h2⟩ := gw_cut_get hj
        refine h'.2.2 (j, gw_rv ρ w) (List.mem_cons_of_mem _ (List.mem_filter.mpr ⟨gw_lv_mem h1, ?_⟩))
        simp only [gw_rv_cat, Bool.and_eq_true, Bool.not_eq_true', beq_eq_false_iff_ne, ne_eq, Bool.and_eq_false_imp, beq_iff_eq]
        exact ⟨hji, hji1, fun q1 q2 => h2 ⟨q1, q2⟩⟩
  · cases hL
theorem gw_st1_get {L L' : gw_L} {i j : Nat} {v w : Value} (hL : gw_st1 L i v = some L') (h : L'[j]? = some (some w)) : w = v ∨ L[j]? = some (some w) := by
  unfold gw_st1 at hL
  split at hL
  · rename_i hi
    cases hL
    by_cases hji : j = i
    · subst hji
      rw [List.getElem?_set_self (by rw [gw_cut_len]; exact hi)] at h
      cases h
      exact Or.inl rfl
    · rw [List.getElem?_set_ne (fun q => hji q.symm)] at h
      exact Or.inr (gw_cut_get h).1
  · cases hL
theorem gw_st2_get {L L' : gw_L} {i j : Nat} {v w : Value} (hL : gw_st2 L i v = some L') (h : L'[j]? = some (some w)) : w = v ∨ L[j]? = some (some w) := by
  unfold gw_st2 at hL
  split at hL
  · rename_i hi
    cases hL
    by_cases hji1 : j = i + 1
    · subst hji1
      rw [List.getElem?_set_self (by rw [List.length_set, gw_cut_len]; exact hi)] at h
      cases h
    · rw [List.getElem?_set_ne (fun q => hji1 q.symm)] at h
      by_cases hji : j = i
      · subst hji
        rw [List.getElem?_set_self (by rw [gw_cut_len]; omega)] at h
        cases h
        exact Or.inl rfl
      · rw [List.getElem?_set_ne (fun q => hji q.symm)] at h
        exact Or.inr (gw_cut_get h).1
  · cases hL
theorem gw_st1_lt {L L' : gw_L} {i : Nat} {v : Value} (hL : gw_st1 L i v = some L') : i < L.length := by
  unfold gw_st1 at hL
  split at hL
  · assumption
  · cases hL
theorem gw_st2_lt {L L' : gw_L} {i : Nat} {v : Value} (hL : gw_st2 L i v = some L') : i + 1 < L.length := by
  unfold gw_st2 at hL
  split at hL
  · assumption
  · cases hL
theorem gw_okS_tl {n : Nat} {v : Value} {r : List Value} (h : gw_okS n (v :: r)) : gw_okS n r := fun w hw => h w (List.mem_cons_of_mem _ hw)
theorem gw_okS_hd {n : Nat} {v : Value} {r : List Value} (h : gw_okS n (v :: r)) : gw_ok n v := h v List.mem_cons_self
theorem gw_okS_c {n : Nat} {v : Value} {r : List Value} (h1 : gw_ok n v) (h : gw_okS n r) : gw_okS n (v :: r) := fun w hw => by
  rcases List.mem_cons.mp hw with rfl | hw
  · exact h1
  · exact h w hw
theorem gw_ok_i {n : Nat} {x : Int32} : gw_ok n (.int x) := fun a h => by cases h
theorem gw_ok_l {n : Nat} {x : Int64} : gw_ok n (.long x) := fun a h => by cases h
theorem gw_ok_mono {n n' : Nat} {v : Value} (hn : n ≤ n') (h : gw_ok n v) : gw_ok n' v := fun a ha => Nat.lt_of_lt_of_le (h a ha) hn
theorem gw_okS_mono {n n' : Nat} {st : List Value} (hn : n ≤ n') (h : gw_okS n st) : gw_okS n' st := fun v hv => gw_ok_mono hn (h v hv)
theorem gw_okL_mono {n n' : Nat} {L : gw_L} (hn : n ≤ n') (h : gw_okL n L) : gw_okL n' L := fun i v hv => gw_ok_mono hn (h i v hv)
theorem gw_okc_mono {n n' : Nat} {c : gw_C} (hn : n ≤ n') (h : gw_okc n c) : gw_okc n' c := by
  cases c with
  | inl x => trivial
  | inr x => exact gw_okS_mono hn h
theorem gw_i1_some {st : List Value} {k : Int32 → List Value → Option gw_S} {s : gw_S} (h : gw_i1 st k = some s) : ∃ x r, st = .int x :: r ∧ k x r = some s := by
  unfold gw_i1 at h
  split at h
  · exact ⟨_, _, rfl, h⟩
  · cases h
theorem gw_l1_some {st : List Value} {k : Int64 → List Value → Option gw_S} {s : gw_S} (h : gw_l1 st k = some s) : ∃ x r, st = .long x :: r ∧ k x r = some s := by
  unfold gw_l1 at h
  split at h
  · exact ⟨_, _, rfl, h⟩
  · cases h
theorem gw_r1_some {st : List Value} {k : Nat → List Value → Option gw_S} {s : gw_S} (h : gw_r1 st k = some s) : ∃ x r, st = .ref x :: r ∧ k x r = some s := by
  unfold gw_r1 at h
  split at h
  · exact ⟨_, _, rfl, h⟩
  · cases h
theorem gw_ii_some {st : List Value} {k : Int32 → Int32 → List Value → Option gw_S} {s : gw_S} (h : gw_ii st k = some s) : ∃ x y r, st = .int y :: .int x :: r ∧ k x y r = some s := by
  unfold gw_ii at h
  split at h
  · exact ⟨_, _, _, rfl, h⟩
  · cases h
theorem gw_ll_some {st : List Value} {k : Int64 → Int64 → List Value → Option gw_S} {s : gw_S} (h : gw_ll st k = some s) : ∃ x y r, st = .long y :: .long x :: r ∧ k x y r = some s := by
  unfold gw_ll at h
  split at h
  · exact ⟨_, _, _, rfl, h⟩
  · cases h
theorem gw_li_some {st : List Value} {k : Int64 → Int32 → List Value → Option gw_S} {s : gw_S} (h : gw_li st k = some s) : ∃ x y r, st = .int y :: .long x :: r ∧ k x y r = some s := by
  unfold gw_li at h
  split at h
  · exact ⟨_, _, _, rfl, h⟩
  · cases h
theorem gw_ri_some {st : List Value} {k : Nat → Int32 → List Value → Option gw_S} {s : gw_S} (h : gw_ri st k = some s) : ∃ a i r, st = .int i :: .ref a :: r ∧ k a i r = some s := by
  unfold gw_ri at h
  split at h
  · exact ⟨_, _, _, rfl, h⟩
  · cases h
theorem gw_rii_some {st : List Value} {k : Nat → Int32 → Int32 → List Value → Option gw_S} {s : gw_S} (h : gw_rii st k = some s) : ∃ a i x r, st = .int x :: .int i :: .ref a :: r ∧ k a i x r = some s := by
  unfold gw_rii at h
  split at h
  · exact ⟨_, _, _, _, rfl, h⟩
  · cases h
theorem gw_ldi_some {L : gw_L} {i : Nat} {k : Int32 → Option gw_S} {s : gw_S} (h : gw_ldi L i k = some s) : ∃ x, L[i]? = some (some (.int x)) ∧ k x = some s := by
  unfold gw_ldi at h
  split at h
  · rename_i x hx
    exact ⟨x, hx, h⟩
  · cases h
theorem gw_ldl_some {L : gw_L} {i : Nat} {k : Int64 → Option gw_S} {s : gw_S} (h : gw_ldl L i k = some s) : ∃ x, L[i]? = some (some (.long x)) ∧ k x = some s := by
  unfold gw_ldl at h
  split at h
  · rename_i x hx
    exact ⟨x, hx, h⟩
  · cases h
theorem gw_lda_some {L : gw_L} {i : Nat} {k : Nat → Option gw_S} {s : gw_S} (h : gw_lda L i k = some s) : ∃ x, L[i]? = some (some (.ref x)) ∧ k x = some s := by
  unfold gw_lda at h
  split at h
  · rename_i x hx
    exact ⟨x, hx, h⟩
  · cases h
theorem gw_obj_some {h : gw_H} {a ci : Nat} {k : List Value → Option gw_S} {s : gw_S} (hs : gw_obj h a ci k = some s) : ∃ fs, h.1 a = .inr (ci, fs) ∧ k fs = some s := by
  unfold gw_obj at hs
  split at hs
  · rename_i c fs hc
    split at hs
    · rename_i he
      subst he
      exact ⟨fs, hc, hs⟩
    · cases hs
  · cases hs
theorem gw_arr_some {h : gw_H} {a kd : Nat} {k : Nat → (Nat → Int32) → Option gw_S} {s : gw_S} (hs : gw_arr h a kd k = some s) : ∃ n f, h.1 a = .inl (kd, n, f) ∧ k n f = some s := by
  unfold gw_arr at hs
  split at hs
  · rename_i c n f hc
    split at hs
    · rename_i he
      subst he
      exact ⟨n, f, hc, hs⟩
    · cases hs
  · cases hs
theorem gw_fld_some {own idx : Nat} {k : Nat → Nat → Option gw_S} {s : gw_S} (hs : gw_fld own idx k = some s) : ∃ ci j v, gw_pool own idx = some (0, ci, j, v) ∧ k ci j = some s := by
  unfold gw_fld at hs
  split at hs
  · rename_i ci j v hp
    exact ⟨ci, j, v, hp, hs⟩
  · cases hs
end
section
theorem gw_lsw_off {pc : Nat} {df x : Int} {l : List (Int × Int)} (t1 : 0 ≤ (pc : Int) + df) (t2 : ∀ q ∈ l, 0 ≤ (pc : Int) + q.2) : 0 ≤ (pc : Int) + Op.lookupswitch.offset l df x := by
  induction l with
  | nil => exact t1
  | cons q l ih =>
    obtain ⟨a, b⟩ := q
    rw [lookupswitch.offset_cons]
    split
    · exact t2 _ List.mem_cons_self
    · exact ih fun q hq => t2 q (List.mem_cons_of_mem _ hq)
theorem gw_fit_rv {ρ : Nat → Nat} {t : FieldType} {v : Value} : gw_fit t (gw_rv ρ v) = gw_fit t v := by cases t <;> cases v <;> rfl
theorem gw_cn_t : ∀ c, c < 13 → (vwCl[c]?).map (fun q => q.1) = gw_cn[c]? := by decide +kernel
theorem gw_cn_n : ∀ c, c < 13 → (vwCl[c]?).map (fun q => decide (q.2.2 ≤ 44)) = some true := by decide +kernel
def gw_tyk (t : FieldType) : Bool := match t with
  | .int => true
  | .object _ => true
  | .array _ => true
  | _ => false
theorem gw_ty_t : ∀ c, c < 13 → ∀ k, k < 44 → gw_tyk (gw_ty c k) = true := by decide +kernel
theorem gw_cn_cl {C : String} {T : u_T} {N : Nat} (c0 : Nat) (h : vwCl[c0]? = some (C, T, N)) : gw_cnm c0 = C := by
  have hlt : c0 < 13 := (List.getElem?_eq_some_iff.mp h).1
  have h1 := gw_cn_t c0 hlt
  rw [h] at h1
  unfold gw_cnm
  rw [← h1]
  rfl
theorem gw_dv_def {ci k N : Nat} {C : String} {T : u_T} {ρ : Nat → Nat} (h : parseFieldDescriptor (T k).2.2.1 = some (gw_ty ci k)) (hc : vwCl[ci]? = some (C, T, N)) (hk : k < N) : defaultValue (gw_ty ci k) = gw_rv ρ (gw_dv (gw_ty ci k)) := by
  have hlt : ci < 13 := (List.getElem?_eq_some_iff.mp hc).1
  have h1 := gw_cn_n ci hlt
  rw [hc] at h1
  have h2 : N ≤ 44 := of_decide_eq_true (Option.some.inj h1)
  have h3 := gw_ty_t ci hlt k (by omega)
  revert h3
  cases gw_ty ci k <;> simp [gw_tyk, defaultValue, gw_dv, gw_rv]
theorem gw_fact_P0 {c i ci k : Nat} {v : Int64} (h : gw_pool c i = some (0, ci, k, v)) : ∃ C T N, vwCl[ci]? = some (C, T, N) ∧ k < N ∧ (T k).1 = C ∧ Jvm.Cond.fieldLink (gw_cnm c) i C (T k).2.1 (T k).2.2.1 ∈ lw_tbl := by
  obtain ⟨ix, hP⟩ := gw_fact_P h
  have hP : (match vwCl[ci]? with
    | some (C, T, N) => decide (k < N) && decide ((T k).1 = C) && gw_ti ix.1 (Jvm.Cond.fieldLink (gw_cnm c) i C (T k).2.1 (T k).2.2.1)
    | none => false) = true := hP
  split at hP
  · rename_i C T N hc
    simp only [Bool.and_eq_true, decide_eq_true_eq] at hP
    exact ⟨C, T, N, hc, hP.1.1, hP.1.2, gw_ti_in hP.2⟩
  · cases hP
theorem gw_fact_P2 {c i ci k : Nat} {v : Int64} (h : gw_pool c i = some (2, ci, k, v)) : ∃ C T N, vwCl[ci]? = some (C, T, N) ∧ Jvm.Cond.classLink (gw_cnm c) i C ∈ lw_tbl ∧ Jvm.Cond.instantiable C N ∈ lw_tbl ∧ Jvm.Cond.initialized C ∈ lw_tbl := by
  obtain ⟨ix, hP⟩ := gw_fact_P h
  have hP : (match vwCl[ci]? with
    | some (C, _, N) => gw_ti ix.1 (Jvm.Cond.classLink (gw_cnm c) i C) && gw_ti ix.2.1 (Jvm.Cond.instantiable C N) && gw_ti ix.2.2 (Jvm.Cond.initialized C)
    | none => false) = true := hP
  split at hP
  · rename_i C T N hc
    simp only [Bool.and_eq_true] at hP
    exact ⟨C, T, N, hc, gw_ti_in hP.1.1, gw_ti_in hP.1.2, gw_ti_in hP.2⟩
  · cases hP
theorem gw_obi : Jvm.Cond.instanceMethod objectInit ∈ lw_tbl ∧ Jvm.Cond.code objectInit ⟨#[0xb1]⟩ 1 none ∈ lw_tbl := by decide +kernel
theorem gw_arw : Jvm.Cond.arrayClass .int ∈ lw_tbl ∧ Jvm.Cond.arrayClass .boolean ∈ lw_tbl := by decide +kernel
/-! each instruction's step, over the machine -/
def gw_Cx (D : va_G) (ca : Nat → ClassId) (z0 : Nat) (ro : Nat → Nat) (rc : Nat → Nat × (Nat → Int32)) (M : gw_M) (p : Program) (s : State) (mm : MethodId) (args : Array Value) (meth : Method) (c : Code) : Prop :=
  p.tables.exec = Jvm.exec ∧ c.code = M.2.2.1 ∧ c.maxLocals = M.2.2.2.1 ∧ s.vm.findClass (gw_cnm M.1) = some mm.cls ∧ (∀ w ∈ gw_tb, w.before args s = true) ∧ (M.2.2.2.2.2.2.1 = 2 → meth.name = "<init>") ∧ gw_SR D ca z0 ro rc s
def gw_Dy (D : va_G) (ca : Nat → ClassId) (z0 : Nat) (ro : Nat → Nat) (rc : Nat → Nat × (Nat → Int32)) (nL nb zb : Nat) (s : State) (L : gw_L) (st : List Value) (h : gw_H) (ls : Array Slot) (H : Heap) (locs : List Loc) (cells slots : Nat) : Prop :=
  gw_LH (gw_rho z0 ro) ls nL L ∧ gw_HR D ca z0 ro rc h H ∧ va_S (gw_A z0) s.heap H locs ∧ gw_okS h.2.1 st ∧ gw_okL h.2.1 L ∧ cells + nb = h.2.1 ∧ slots + zb = h.2.2
theorem gw_len_of {i : Instr} {len : Nat} (k : Nat) (h : gw_len i = 0 ∨ gw_len i = len) (hk : gw_len i = k + 1) : len = k + 1 := by omega
theorem gw_P1 {D : va_G} {cl : List vw_C} {q : Nat × va_E} {H : Heap} (h : va_at D cl q H) : va_P D cl [q] H := fun k x hx => by
  have hz : k < 1 := (List.getElem?_eq_some_iff.mp hx).1
  rw [show k = 0 by omega] at hx
  cases hx
  exact h
theorem gw_rho_hi {z0 : Nat} {ro : Nat → Nat} {a : Nat} (h : 8 ≤ a) : gw_rho z0 ro a = z0 + (a - 8) := if_neg (by omega)
theorem gw_rho_lo {z0 : Nat} {ro : Nat → Nat} {a : Nat} (h : a < 8) : gw_rho z0 ro a = ro a := if_pos h
section INS
variable {D : va_G} {ca : Nat → ClassId} {z0 : Nat} {ro : Nat → Nat} {rc : Nat → Nat × (Nat → Int32)} {M : gw_M} {nb zb : Nat}
variable {p : Program} {l : Launch} {e : Env} {R : Room} {s : State} {mm : MethodId} {args : Array Value} {below : List Frame} {meth : Method} {c : Code} {H : Heap} {locs : List Loc} {cells slots : Nat} {Q : State → Prop} {ls : Array Slot}
/-- a field is written: what else there is stays -/
theorem gw_put (cx : gw_Cx D ca z0 ro rc M p s mm args meth c) {pc idx ci k N a : Nat} {C : String} {T : u_T} {fs rest : List Value} {v : Value} (hd : decode M.2.2.1 pc = .ok (.putfield idx, 3)) (hc : vwCl[ci]? = some (C, T, N)) (hk : k < N) (hC : (T k).1 = C) (hlink : Jvm.Cond.fieldLink (gw_cnm M.1) idx C (T k).2.1 (T k).2.2.1 ∈ lw_tbl)
    (hat : va_at D vwCl (a, .inr (ci, fs)) H) (hl : k < fs.length) (hfit : gw_fit (gw_ty ci k) v = true) (hfin : (T k).2.2.2 = true → M.2.2.2.2.2.2.1 = 2 ∧ gw_cnm M.1 = C)
    (kk : ∀ (H' : Heap) (q : Loc), q.base = a → va_at D vwCl (a, .inr (ci, fs.set k v)) H' → H'.size = H.size → (∀ x : Nat, x ≠ a → H'[x]? = H[x]?) → W p l e R s mm args below meth c H' (locs ++ [q]) cells slots Q (F0 mm (pc + 3) ls rest)) :
    W p l e R s mm args below meth c H locs cells slots Q (F0 mm pc ls (v :: .ref a :: rest)) := by
  obtain ⟨hx, hb, hml, hown, hts, hinit, hK, hX, hZ, hz, -⟩ := cx
  obtain ⟨hin, hty, hnm⟩ := gw_fact_C hc
  have hd0 := hty k hk
  have hn : narrow (gw_ty ci k) v = v ∧ fits (gw_ty ci k) v = true := by
    revert hfit
    cases gw_ty ci k <;> cases v <;> simp [gw_fit, narrow, fits]
  have hap := va_apart (own := gw_cnm M.1) hts hin (gw_ty ci) hty hnm hK hc
  obtain ⟨r, h1, cell, q1, q2, q3, q4⟩ := hat
  have hr : r = (C, T, N) := Option.some.inj (h1.symm.trans hc)
  subst hr
  obtain ⟨hS, hfc, kC, hkC, hkind⟩ := hK.1 ci _ hc
  obtain ⟨cf, kf, fi, f, hi, hsl⟩ := hS k hk
  have hlay := hts _ (hin _ (u_in_lay hk))
  unfold u_lay at hlay
  have hst := (u_facts hfc hkC (u_lays hts hin hk) hi).1
  have hlk := hts _ (gw_tb_in hlink rfl)
  have new : ∀ H' : Heap, H'[a]? = some (cell.setSlot (D.2 ci k) v) → va_at D vwCl (a, .inr (ci, fs.set k v)) H' := fun H' e1 => ⟨_, hc, t_OB.to (V := updV (vp_V fs) k v) ⟨_, e1, q2, q3, t_set q4 hap hk v⟩ (fun j _ => vp_updV_set hl v j)⟩
  by_cases hf : (T k).2.2.2 = true
  · rw [if_pos hf] at hlay
    obtain ⟨f1, f2⟩ := hfin hf
    have hcf : mm.cls = cf := by
      obtain ⟨_, _, c', _, _, _, -, -, hf', -, -, -, hown2, -⟩ := Cond.laysFinal_spec hlay
      have e1 : c' = cf := by have := hi.symm.trans hf'; simp at this; exact this.1.symm
      rw [hC, ← f2] at hown2
      rw [← e1]; exact Option.some.inj (hown.symm.trans hown2)
    have h6 := u_fits hfc hkC hkind (Or.inr hlay) hi hd0 hn.1 hn.2
    refine W.putFinK hx hb hown hlk (by rw [← hC]; exact hi) hst hcf (hinit f1) (by rw [q2]; exact h6) q1 q3 (by rw [hsl]; exact k2_hasslot (q4 k hk)) rfl rfl hd fun H' e1 e2 e3 => ?_
    rw [hsl] at e1
    exact kk H' _ rfl (new H' e1) e2 e3
  · rw [if_neg hf] at hlay
    have h6 := u_store hfc hkC hkind hlay hi hd0 hn.1 hn.2
    refine W.putK hx hb (f := f) ⟨hown, hlk, ⟨_, _, _, by rw [← hC]; exact hi⟩, hst⟩ (by rw [q2]; exact h6) q1 q3 (by rw [hsl]; exact k2_hasslot (q4 k hk)) rfl rfl hd fun H' e1 e2 e3 => ?_
    rw [hsl] at e1
    exact kk H' _ rfl (new H' e1) e2 e3
/-- the heap relation behind a write of one cell -/
theorem gw_HR.put {h : gw_H} {H' : Heap} {a : Nat} {x : gw_C} (hh : gw_HR D ca z0 ro rc h H) (ha : 8 ≤ a) (hx : gw_okc h.2.1 x) (hn : va_at D vwCl (z0 + (a - 8), gw_rc (gw_rho z0 ro) ca x) H') (hz : H'.size = H.size) (ho : ∀ q : Nat, q ≠ z0 + (a - 8) → H'[q]? = H[q]?) : gw_HR D ca z0 ro rc (gw_set h a x) H' := by
  obtain ⟨h1, h2, h3, h4⟩ := hh
  refine ⟨h1, hz.trans h2, fun q hq1 hq2 => ?_, fun q hq => ?_⟩
  · show va_at D vwCl (z0 + (q - 8), gw_rc (gw_rho z0 ro) ca (if q = a then x else h.1 q)) H' ∧ gw_okc h.2.1 (if q = a then x else h.1 q)
    by_cases hqa : q = a
    · rw [if_pos hqa]
      subst hqa
      exact ⟨hn, hx⟩
    · rw [if_neg hqa]
      exact ⟨(h3 q hq1 hq2).1.kept (ho _ (show z0 + (q - 8) ≠ z0 + (a - 8) by omega)), (h3 q hq1 hq2).2⟩
  · show (if q = a then x else h.1 q) = _
    rw [if_neg (by omega)]
    exact h4 q hq
/-- the heap relation behind a new cell -/
theorem gw_HR.new {h : gw_H} {H' : Heap} {x : gw_C} {n : Nat} (hh : gw_HR D ca z0 ro rc h H) (hx : gw_okc (h.2.1 + 1) x) (hn : va_at D vwCl (H.size, gw_rc (gw_rho z0 ro) ca x) H') (hz : H'.size = H.size + 1) (ho : ∀ q : Nat, q < H.size → H'[q]? = H[q]?) : gw_HR D ca z0 ro rc (gw_new h x n) H' := by
  obtain ⟨h1, h2, h3, h4⟩ := hh
  refine ⟨Nat.le_succ_of_le h1, by show H'.size = z0 + (h.2.1 + 1 - 8); omega, fun q hq1 hq2 => ?_, fun q hq => ?_⟩
  · show va_at D vwCl (z0 + (q - 8), gw_rc (gw_rho z0 ro) ca (if q = h.2.1 then x else h.1 q)) H' ∧ gw_okc (h.2.1 + 1) (if q = h.2.1 then x else h.1 q)
    by_cases hqa : q = h.2.1
    · rw [if_pos hqa]
      subst hqa
      rw [h2] at hn
      exact ⟨hn, hx⟩
    · have hlt : q < h.2.1 := by have : q < h.2.1 + 1 := hq2; omega
      rw [if_neg hqa]
      exact ⟨(h3 q hq1 hlt).1.kept (ho _ (h3 q hq1 hlt).1.lt), gw_okc_mono (Nat.le_succ _) (h3 q hq1 hlt).2⟩
  · show (if q = h.2.1 then x else h.1 q) = _
    rw [if_neg (by omega)]
    exact h4 q hq
theorem gw_S_put {H' : Heap} {q : Loc} {a : Nat} (hS : va_S (gw_A z0) s.heap H locs) (hq : q.base = z0 + a) (hz : H'.size = H.size) (ho : ∀ x : Nat, x ≠ z0 + a → H'[x]? = H[x]?) : va_S (gw_A z0) s.heap H' (locs ++ [q]) := by
  obtain ⟨h1, h2, h3⟩ := hS
  refine ⟨by omega, fun x hx1 hx2 => ?_, fun y hy => ?_⟩
  · rw [ho x (fun e => hx2 (by rw [e]; exact Nat.le_add_right _ _))]
    exact h2 x hx1 hx2
  · rcases List.mem_append.mp hy with h | h
    · exact h3 y h
    · rw [List.mem_singleton.mp h, hq]
      exact Nat.le_add_right _ _
theorem gw_S_new {H' : Heap} (hS : va_S (gw_A z0) s.heap H locs) (hz : H'.size = H.size + 1) (ho : ∀ x : Nat, x < H.size → H'[x]? = H[x]?) : va_S (gw_A z0) s.heap H' locs := by
  obtain ⟨h1, h2, h3⟩ := hS
  exact ⟨by omega, fun x hx1 hx2 => (ho x (by omega)).trans (h2 x hx1 hx2), h3⟩
theorem gw_dv_ok {n : Nat} {l : List Nat} {f : Nat → FieldType} : gw_okS n (l.map fun k => gw_dv (f k)) := by
  intro v hv
  obtain ⟨k, -, rfl⟩ := List.mem_map.mp hv
  intro a ha
  unfold gw_dv at ha
  split at ha <;> cases ha
set_option maxHeartbeats 4000000 in
theorem gs_iload_n (cx : gw_Cx D ca z0 ro rc M p s mm args meth c) {pc len t : Nat} {k : Fin 4} {cs : Int32} (hd : decode M.2.2.1 pc = .ok (.iload_n k, len)) (hlen : gw_len (.iload_n k) = 0 ∨ gw_len (.iload_n k) = len) (hT : gw_okT M.1 pc (.iload_n k) t cs = true) {L : gw_L} {st : List Value} {h : gw_H} {s' : gw_S} (hs : gw_ins M.1 M.2.2.2.2.2.2.1 (.iload_n k) t cs pc L st h = some s')
    (d : gw_Dy D ca z0 ro rc M.2.2.2.1 nb zb s L st h ls H locs cells slots) (hfr : 1 ≤ R.frames ∧ 64 ≤ R.locals) (hrc : s'.2.2.2.2.1 ≤ nb + R.cells) (hrs : s'.2.2.2.2.2 ≤ zb + R.slots)
    (kk : ∀ (ls' : Array Slot) (H' : Heap) (locs' : List Loc) (cells' slots' : Nat), gw_Dy D ca z0 ro rc M.2.2.2.1 nb zb s s'.2.1 s'.2.2.1 s'.2.2.2 ls' H' locs' cells' slots' → W p l e R s mm args below meth c H' locs' cells' slots' Q (F0 mm s'.1 ls' (s'.2.2.1.map (gw_rv (gw_rho z0 ro))))) :
    W p l e R s mm args below meth c H locs cells slots Q (F0 mm pc ls (st.map (gw_rv (gw_rho z0 ro)))) := by
  obtain ⟨hx, hb, hml, hown, hts, hinit, hSR⟩ := cx
  obtain ⟨d1, d2, d3, d4, d5, d6, d7⟩ := d
  have hl := gw_len_of 0 hlen rfl
  subst hl
  obtain ⟨x, hv, hs⟩ := gw_ldi_some hs
  cases hs
  exact lv_iload_n hx hb hd rfl (d1.2.2.2 _ _ hv) (kk _ _ _ _ _ ⟨d1, d2, d3, gw_okS_c gw_ok_i d4, d5, d6, d7⟩)
set_option maxHeartbeats 4000000 in
theorem gs_iload (cx : gw_Cx D ca z0 ro rc M p s mm args meth c) {pc len t : Nat} {k : Nat} {cs : Int32} (hd : decode M.2.2.1 pc = .ok (.iload k, len)) (hlen : gw_len (.iload k) = 0 ∨ gw_len (.iload k) = len) (hT : gw_okT M.1 pc (.iload k) t cs = true) {L : gw_L} {st : List Value} {h : gw_H} {s' : gw_S} (hs : gw_ins M.1 M.2.2.2.2.2.2.1 (.iload k) t cs pc L st h = some s')
    (d : gw_Dy D ca z0 ro rc M.2.2.2.1 nb zb s L st h ls H locs cells slots) (hfr : 1 ≤ R.frames ∧ 64 ≤ R.locals) (hrc : s'.2.2.2.2.1 ≤ nb + R.cells) (hrs : s'.2.2.2.2.2 ≤ zb + R.slots)
    (kk : ∀ (ls' : Array Slot) (H' : Heap) (locs' : List Loc) (cells' slots' : Nat), gw_Dy D ca z0 ro rc M.2.2.2.1 nb zb s s'.2.1 s'.2.2.1 s'.2.2.2 ls' H' locs' cells' slots' → W p l e R s mm args below meth c H' locs' cells' slots' Q (F0 mm s'.1 ls' (s'.2.2.1.map (gw_rv (gw_rho z0 ro))))) :
    W p l e R s mm args below meth c H locs cells slots Q (F0 mm pc ls (st.map (gw_rv (gw_rho z0 ro)))) := by
  obtain ⟨hx, hb, hml, hown, hts, hinit, hSR⟩ := cx
  obtain ⟨d1, d2, d3, d4, d5, d6, d7⟩ := d
  have hl := gw_len_of 1 hlen rfl
  subst hl
  obtain ⟨x, hv, hs⟩ := gw_ldi_some hs
  cases hs
  exact lv_iload hx hb hd (d1.2.2.2 _ _ hv) (kk _ _ _ _ _ ⟨d1, d2, d3, gw_okS_c gw_ok_i d4, d5, d6, d7⟩)
set_option maxHeartbeats 4000000 in
theorem gs_lload_n (cx : gw_Cx D ca z0 ro rc M p s mm args meth c) {pc len t : Nat} {k : Fin 4} {cs : Int32} (hd : decode M.2.2.1 pc = .ok (.lload_n k, len)) (hlen : gw_len (.lload_n k) = 0 ∨ gw_len (.lload_n k) = len) (hT : gw_okT M.1 pc (.lload_n k) t cs = true) {L : gw_L} {st : List Value} {h : gw_H} {s' : gw_S} (hs : gw_ins M.1 M.2.2.2.2.2.2.1 (.lload_n k) t cs pc L st h = some s')
    (d : gw_Dy D ca z0 ro rc M.2.2.2.1 nb zb s L st h ls H locs cells slots) (hfr : 1 ≤ R.frames ∧ 64 ≤ R.locals) (hrc : s'.2.2.2.2.1 ≤ nb + R.cells) (hrs : s'.2.2.2.2.2 ≤ zb + R.slots)
    (kk : ∀ (ls' : Array Slot) (H' : Heap) (locs' : List Loc) (cells' slots' : Nat), gw_Dy D ca z0 ro rc M.2.2.2.1 nb zb s s'.2.1 s'.2.2.1 s'.2.2.2 ls' H' locs' cells' slots' → W p l e R s mm args below meth c H' locs' cells' slots' Q (F0 mm s'.1 ls' (s'.2.2.1.map (gw_rv (gw_rho z0 ro))))) :
    W p l e R s mm args below meth c H locs cells slots Q (F0 mm pc ls (st.map (gw_rv (gw_rho z0 ro)))) := by
  obtain ⟨hx, hb, hml, hown, hts, hinit, hSR⟩ := cx
  obtain ⟨d1, d2, d3, d4, d5, d6, d7⟩ := d
  have hl := gw_len_of 0 hlen rfl
  subst hl
  obtain ⟨x, hv, hs⟩ := gw_ldl_some hs
  cases hs
  exact lv_lload_n hx hb hd rfl (d1.2.2.2 _ _ hv) (kk _ _ _ _ _ ⟨d1, d2, d3, gw_okS_c gw_ok_l d4, d5, d6, d7⟩)
set_option maxHeartbeats 4000000 in
theorem gs_lload (cx : gw_Cx D ca z0 ro rc M p s mm args meth c) {pc len t : Nat} {k : Nat} {cs : Int32} (hd : decode M.2.2.1 pc = .ok (.lload k, len)) (hlen : gw_len (.lload k) = 0 ∨ gw_len (.lload k) = len) (hT : gw_okT M.1 pc (.lload k) t cs = true) {L : gw_L} {st : List Value} {h : gw_H} {s' : gw_S} (hs : gw_ins M.1 M.2.2.2.2.2.2.1 (.lload k) t cs pc L st h = some s')
    (d : gw_Dy D ca z0 ro rc M.2.2.2.1 nb zb s L st h ls H locs cells slots) (hfr : 1 ≤ R.frames ∧ 64 ≤ R.locals) (hrc : s'.2.2.2.2.1 ≤ nb + R.cells) (hrs : s'.2.2.2.2.2 ≤ zb + R.slots)
    (kk : ∀ (ls' : Array Slot) (H' : Heap) (locs' : List Loc) (cells' slots' : Nat), gw_Dy D ca z0 ro rc M.2.2.2.1 nb zb s s'.2.1 s'.2.2.1 s'.2.2.2 ls' H' locs' cells' slots' → W p l e R s mm args below meth c H' locs' cells' slots' Q (F0 mm s'.1 ls' (s'.2.2.1.map (gw_rv (gw_rho z0 ro))))) :
    W p l e R s mm args below meth c H locs cells slots Q (F0 mm pc ls (st.map (gw_rv (gw_rho z0 ro)))) := by
  obtain ⟨hx, hb, hml, hown, hts, hinit, hSR⟩ := cx
  obtain ⟨d1, d2, d3, d4, d5, d6, d7⟩ := d
  have hl := gw_len_of 1 hlen rfl
  subst hl
  obtain ⟨x, hv, hs⟩ := gw_ldl_some hs
  cases hs
  exact lv_lload hx hb hd (d1.2.2.2 _ _ hv) (kk _ _ _ _ _ ⟨d1, d2, d3, gw_okS_c gw_ok_l d4, d5, d6, d7⟩)
set_option maxHeartbeats 4000000 in
theorem gs_aload_n (cx : gw_Cx D ca z0 ro rc M p s mm args meth c) {pc len t : Nat} {k : Fin 4} {cs : Int32} (hd : decode M.2.2.1 pc = .ok (.aload_n k, len)) (hlen : gw_len (.aload_n k) = 0 ∨ gw_len (.aload_n k) = len) (hT : gw_okT M.1 pc (.aload_n k) t cs = true) {L : gw_L} {st : List Value} {h : gw_H} {s' : gw_S} (hs : gw_ins M.1 M.2.2.2.2.2.2.1 (.aload_n k) t cs pc L st h = some s')
    (d : gw_Dy D ca z0 ro rc M.2.2.2.1 nb zb s L st h ls H locs cells slots) (hfr : 1 ≤ R.frames ∧ 64 ≤ R.locals) (hrc : s'.2.2.2.2.1 ≤ nb + R.cells) (hrs : s'.2.2.2.2.2 ≤ zb + R.slots)
    (kk : ∀ (ls' : Array Slot) (H' : Heap) (locs' : List Loc) (cells' slots' : Nat), gw_Dy D ca z0 ro rc M.2.2.2.1 nb zb s s'.2.1 s'.2.2.1 s'.2.2.2 ls' H' locs' cells' slots' → W p l e R s mm args below meth c H' locs' cells' slots' Q (F0 mm s'.1 ls' (s'.2.2.1.map (gw_rv (gw_rho z0 ro))))) :
    W p l e R s mm args below meth c H locs cells slots Q (F0 mm pc ls (st.map (gw_rv (gw_rho z0 ro)))) := by
  obtain ⟨hx, hb, hml, hown, hts, hinit, hSR⟩ := cx
  obtain ⟨d1, d2, d3, d4, d5, d6, d7⟩ := d
  have hl := gw_len_of 0 hlen rfl
  subst hl
  obtain ⟨x, hv, hs⟩ := gw_lda_some hs
  cases hs
  exact lv_aload_n hx hb hd rfl (d1.2.2.2 _ _ hv) (kk _ _ _ _ _ ⟨d1, d2, d3, gw_okS_c (d5 _ _ hv) d4, d5, d6, d7⟩)
set_option maxHeartbeats 4000000 in
theorem gs_aload (cx : gw_Cx D ca z0 ro rc M p s mm args meth c) {pc len t : Nat} {k : Nat} {cs : Int32} (hd : decode M.2.2.1 pc = .ok (.aload k, len)) (hlen : gw_len (.aload k) = 0 ∨ gw_len (.aload k) = len) (hT : gw_okT M.1 pc (.aload k) t cs = true) {L : gw_L} {st : List Value} {h : gw_H} {s' : gw_S} (hs : gw_ins M.1 M.2.2.2.2.2.2.1 (.aload k) t cs pc L st h = some s')
    (d : gw_Dy D ca z0 ro rc M.2.2.2.1 nb zb s L st h ls H locs cells slots) (hfr : 1 ≤ R.frames ∧ 64 ≤ R.locals) (hrc : s'.2.2.2.2.1 ≤ nb + R.cells) (hrs : s'.2.2.2.2.2 ≤ zb + R.slots)
    (kk : ∀ (ls' : Array Slot) (H' : Heap) (locs' : List Loc) (cells' slots' : Nat), gw_Dy D ca z0 ro rc M.2.2.2.1 nb zb s s'.2.1 s'.2.2.1 s'.2.2.2 ls' H' locs' cells' slots' → W p l e R s mm args below meth c H' locs' cells' slots' Q (F0 mm s'.1 ls' (s'.2.2.1.map (gw_rv (gw_rho z0 ro))))) :
    W p l e R s mm args below meth c H locs cells slots Q (F0 mm pc ls (st.map (gw_rv (gw_rho z0 ro)))) := by
  obtain ⟨hx, hb, hml, hown, hts, hinit, hSR⟩ := cx
  obtain ⟨d1, d2, d3, d4, d5, d6, d7⟩ := d
  have hl := gw_len_of 1 hlen rfl
  subst hl
  obtain ⟨x, hv, hs⟩ := gw_lda_some hs
  cases hs
  exact lv_aload hx hb hd (d1.2.2.2 _ _ hv) (kk _ _ _ _ _ ⟨d1, d2, d3, gw_okS_c (d5 _ _ hv) d4, d5, d6, d7⟩)
set_option maxHeartbeats 4000000 in
theorem gs_istore_n (cx : gw_Cx D ca z0 ro rc M p s mm args meth c) {pc len t : Nat} {k : Fin 4} {cs : Int32} (hd : decode M.2.2.1 pc = .ok (.istore_n k, len)) (hlen : gw_len (.istore_n k) = 0 ∨ gw_len (.istore_n k) = len) (hT : gw_okT M.1 pc (.istore_n k) t cs = true) {L : gw_L} {st : List Value} {h : gw_H} {s' : gw_S} (hs : gw_ins M.1 M.2.2.2.2.2.2.1 (.istore_n k) t cs pc L st h = some s')
    (d : gw_Dy D ca z0 ro rc M.2.2.2.1 nb zb s L st h ls H locs cells slots) (hfr : 1 ≤ R.frames ∧ 64 ≤ R.locals) (hrc : s'.2.2.2.2.1 ≤ nb + R.cells) (hrs : s'.2.2.2.2.2 ≤ zb + R.slots)
    (kk : ∀ (ls' : Array Slot) (H' : Heap) (locs' : List Loc) (cells' slots' : Nat), gw_Dy D ca z0 ro rc M.2.2.2.1 nb zb s s'.2.1 s'.2.2.1 s'.2.2.2 ls' H' locs' cells' slots' → W p l e R s mm args below meth c H' locs' cells' slots' Q (F0 mm s'.1 ls' (s'.2.2.1.map (gw_rv (gw_rho z0 ro))))) :
    W p l e R s mm args below meth c H locs cells slots Q (F0 mm pc ls (st.map (gw_rv (gw_rho z0 ro)))) := by
  obtain ⟨hx, hb, hml, hown, hts, hinit, hSR⟩ := cx
  obtain ⟨d1, d2, d3, d4, d5, d6, d7⟩ := d
  have hl := gw_len_of 0 hlen rfl
  subst hl
  obtain ⟨x, r, rfl, hs⟩ := gw_i1_some hs
  obtain ⟨L', hL, hs⟩ := Option.map_eq_some_iff.mp hs
  cases hs
  refine lv_istore_n hx hb hd rfl d1.has (d1.2.2.1 ▸ gw_st1_lt hL) rfl fun ls' h' => ?_
  refine kk ls' H locs cells slots ⟨d1.st1 hL h', d2, d3, gw_okS_tl d4, fun i v hv => ?_, d6, d7⟩
  rcases gw_st1_get hL hv with rfl | hv
  · exact gw_ok_i
  · exact d5 i v hv
set_option maxHeartbeats 4000000 in
theorem gs_istore (cx : gw_Cx D ca z0 ro rc M p s mm args meth c) {pc len t : Nat} {k : Nat} {cs : Int32} (hd : decode M.2.2.1 pc = .ok (.istore k, len)) (hlen : gw_len (.istore k) = 0 ∨ gw_len (.istore k) = len) (hT : gw_okT M.1 pc (.istore k) t cs = true) {L : gw_L} {st : List Value} {h : gw_H} {s' : gw_S} (hs : gw_ins M.1 M.2.2.2.2.2.2.1 (.istore k) t cs pc L st h = some s')
    (d : gw_Dy D ca z0 ro rc M.2.2.2.1 nb zb s L st h ls H locs cells slots) (hfr : 1 ≤ R.frames ∧ 64 ≤ R.locals) (hrc : s'.2.2.2.2.1 ≤ nb + R.cells) (hrs : s'.2.2.2.2.2 ≤ zb + R.slots)
    (kk : ∀ (ls' : Array Slot) (H' : Heap) (locs' : List Loc) (cells' slots' : Nat), gw_Dy D ca z0 ro rc M.2.2.2.1 nb zb s s'.2.1 s'.2.2.1 s'.2.2.2 ls' H' locs' cells' slots' → W p l e R s mm args below meth c H' locs' cells' slots' Q (F0 mm s'.1 ls' (s'.2.2.1.map (gw_rv (gw_rho z0 ro))))) :
    W p l e R s mm args below meth c H locs cells slots Q (F0 mm pc ls (st.map (gw_rv (gw_rho z0 ro)))) := by
  obtain ⟨hx, hb, hml, hown, hts, hinit, hSR⟩ := cx
  obtain ⟨d1, d2, d3, d4, d5, d6, d7⟩ := d
  have hl := gw_len_of 1 hlen rfl
  subst hl
  obtain ⟨x, r, rfl, hs⟩ := gw_i1_some hs
  obtain ⟨L', hL, hs⟩ := Option.map_eq_some_iff.mp hs
  cases hs
  refine lv_istore hx hb hd d1.has (d1.2.2.1 ▸ gw_st1_lt hL) rfl fun ls' h' => ?_
  refine kk ls' H locs cells slots ⟨d1.st1 hL h', d2, d3, gw_okS_tl d4, fun i v hv => ?_, d6, d7⟩
  rcases gw_st1_get hL hv with rfl | hv
  · exact gw_ok_i
  · exact d5 i v hv
set_option maxHeartbeats 4000000 in
theorem gs_lstore_n (cx : gw_Cx D ca z0 ro rc M p s mm args meth c) {pc len t : Nat} {k : Fin 4} {cs : Int32} (hd : decode M.2.2.1 pc = .ok (.lstore_n k, len)) (hlen : gw_len (.lstore_n k) = 0 ∨ gw_len (.lstore_n k) = len) (hT : gw_okT M.1 pc (.lstore_n k) t cs = true) {L : gw_L} {st : List Value} {h : gw_H} {s' : gw_S} (hs : gw_ins M.1 M.2.2.2.2.2.2.1 (.lstore_n k) t cs pc L st h = some s')
    (d : gw_Dy D ca z0 ro rc M.2.2.2.1 nb zb s L st h ls H locs cells slots) (hfr : 1 ≤ R.frames ∧ 64 ≤ R.locals) (hrc : s'.2.2.2.2.1 ≤ nb + R.cells) (hrs : s'.2.2.2.2.2 ≤ zb + R.slots)
    (kk : ∀ (ls' : Array Slot) (H' : Heap) (locs' : List Loc) (cells' slots' : Nat), gw_Dy D ca z0 ro rc M.2.2.2.1 nb zb s s'.2.1 s'.2.2.1 s'.2.2.2 ls' H' locs' cells' slots' → W p l e R s mm args below meth c H' locs' cells' slots' Q (F0 mm s'.1 ls' (s'.2.2.1.map (gw_rv (gw_rho z0 ro))))) :
    W p l e R s mm args below meth c H locs cells slots Q (F0 mm pc ls (st.map (gw_rv (gw_rho z0 ro)))) := by
  obtain ⟨hx, hb, hml, hown, hts, hinit, hSR⟩ := cx
  obtain ⟨d1, d2, d3, d4, d5, d6, d7⟩ := d
  have hl := gw_len_of 0 hlen rfl
  subst hl
  obtain ⟨x, r, rfl, hs⟩ := gw_l1_some hs
  obtain ⟨L', hL, hs⟩ := Option.map_eq_some_iff.mp hs
  cases hs
  refine lv_lstore_n hx hb hd rfl d1.has (d1.2.2.1 ▸ gw_st2_lt hL) rfl fun ls' h' => ?_
  refine kk ls' H locs cells slots ⟨d1.st2 hL h', d2, d3, gw_okS_tl d4, fun i v hv => ?_, d6, d7⟩
  rcases gw_st2_get hL hv with rfl | hv
  · exact gw_ok_l
  · exact d5 i v hv
set_option maxHeartbeats 4000000 in
theorem gs_lstore (cx : gw_Cx D ca z0 ro rc M p s mm args meth c) {pc len t : Nat} {k : Nat} {cs : Int32} (hd : decode M.2.2.1 pc = .ok (.lstore k, len)) (hlen : gw_len (.lstore k) = 0 ∨ gw_len (.lstore k) = len) (hT : gw_okT M.1 pc (.lstore k) t cs = true) {L : gw_L} {st : List Value} {h : gw_H} {s' : gw_S} (hs : gw_ins M.1 M.2.2.2.2.2.2.1 (.lstore k) t cs pc L st h = some s')
    (d : gw_Dy D ca z0 ro rc M.2.2.2.1 nb zb s L st h ls H locs cells slots) (hfr : 1 ≤ R.frames ∧ 64 ≤ R.locals) (hrc : s'.2.2.2.2.1 ≤ nb + R.cells) (hrs : s'.2.2.2.2.2 ≤ zb + R.slots)
    (kk : ∀ (ls' : Array Slot) (H' : Heap) (locs' : List Loc) (cells' slots' : Nat), gw_Dy D ca z0 ro rc M.2.2.2.1 nb zb s s'.2.1 s'.2.2.1 s'.2.2.2 ls' H' locs' cells' slots' → W p l e R s mm args below meth c H' locs' cells' slots' Q (F0 mm s'.1 ls' (s'.2.2.1.map (gw_rv (gw_rho z0 ro))))) :
    W p l e R s mm args below meth c H locs cells slots Q (F0 mm pc ls (st.map (gw_rv (gw_rho z0 ro)))) := by
  obtain ⟨hx, hb, hml, hown, hts, hinit, hSR⟩ := cx
  obtain ⟨d1, d2, d3, d4, d5, d6, d7⟩ := d
  have hl := gw_len_of 1 hlen rfl
  subst hl
  obtain ⟨x, r, rfl, hs⟩ := gw_l1_some hs
  obtain ⟨L', hL, hs⟩ := Option.map_eq_some_iff.mp hs
  cases hs
  refine lv_lstore hx hb hd d1.has (d1.2.2.1 ▸ gw_st2_lt hL) rfl fun ls' h' => ?_
  refine kk ls' H locs cells slots ⟨d1.st2 hL h', d2, d3, gw_okS_tl d4, fun i v hv => ?_, d6, d7⟩
  rcases gw_st2_get hL hv with rfl | hv
  · exact gw_ok_l
  · exact d5 i v hv
set_option maxHeartbeats 4000000 in
theorem gs_astore_n (cx : gw_Cx D ca z0 ro rc M p s mm args meth c) {pc len t : Nat} {k : Fin 4} {cs : Int32} (hd : decode M.2.2.1 pc = .ok (.astore_n k, len)) (hlen : gw_len (.astore_n k) = 0 ∨ gw_len (.astore_n k) = len) (hT : gw_okT M.1 pc (.astore_n k) t cs = true) {L : gw_L} {st : List Value} {h : gw_H} {s' : gw_S} (hs : gw_ins M.1 M.2.2.2.2.2.2.1 (.astore_n k) t cs pc L st h = some s')
    (d : gw_Dy D ca z0 ro rc M.2.2.2.1 nb zb s L st h ls H locs cells slots) (hfr : 1 ≤ R.frames ∧ 64 ≤ R.locals) (hrc : s'.2.2.2.2.1 ≤ nb + R.cells) (hrs : s'.2.2.2.2.2 ≤ zb + R.slots)
    (kk : ∀ (ls' : Array Slot) (H' : Heap) (locs' : List Loc) (cells' slots' : Nat), gw_Dy D ca z0 ro rc M.2.2.2.1 nb zb s s'.2.1 s'.2.2.1 s'.2.2.2 ls' H' locs' cells' slots' → W p l e R s mm args below meth c H' locs' cells' slots' Q (F0 mm s'.1 ls' (s'.2.2.1.map (gw_rv (gw_rho z0 ro))))) :
    W p l e R s mm args below meth c H locs cells slots Q (F0 mm pc ls (st.map (gw_rv (gw_rho z0 ro)))) := by
  obtain ⟨hx, hb, hml, hown, hts, hinit, hSR⟩ := cx
  obtain ⟨d1, d2, d3, d4, d5, d6, d7⟩ := d
  have hl := gw_len_of 0 hlen rfl
  subst hl
  obtain ⟨x, r, rfl, hs⟩ := gw_r1_some hs
  obtain ⟨L', hL, hs⟩ := Option.map_eq_some_iff.mp hs
  cases hs
  refine lv_astore_n hx hb hd rfl d1.has (d1.2.2.1 ▸ gw_st1_lt hL) rfl fun ls' h' => ?_
  refine kk ls' H locs cells slots ⟨d1.st1 hL h', d2, d3, gw_okS_tl d4, fun i v hv => ?_, d6, d7⟩
  rcases gw_st1_get hL hv with rfl | hv
  · exact (gw_okS_hd d4)
  · exact d5 i v hv
set_option maxHeartbeats 4000000 in
theorem gs_iinc (cx : gw_Cx D ca z0 ro rc M p s mm args meth c) {pc len t : Nat} {k : Nat} {z : Int} {cs : Int32} (hd : decode M.2.2.1 pc = .ok (.iinc k z, len)) (hlen : gw_len (.iinc k z) = 0 ∨ gw_len (.iinc k z) = len) (hT : gw_okT M.1 pc (.iinc k z) t cs = true) {L : gw_L} {st : List Value} {h : gw_H} {s' : gw_S} (hs : gw_ins M.1 M.2.2.2.2.2.2.1 (.iinc k z) t cs pc L st h = some s')
    (d : gw_Dy D ca z0 ro rc M.2.2.2.1 nb zb s L st h ls H locs cells slots) (hfr : 1 ≤ R.frames ∧ 64 ≤ R.locals) (hrc : s'.2.2.2.2.1 ≤ nb + R.cells) (hrs : s'.2.2.2.2.2 ≤ zb + R.slots)
    (kk : ∀ (ls' : Array Slot) (H' : Heap) (locs' : List Loc) (cells' slots' : Nat), gw_Dy D ca z0 ro rc M.2.2.2.1 nb zb s s'.2.1 s'.2.2.1 s'.2.2.2 ls' H' locs' cells' slots' → W p l e R s mm args below meth c H' locs' cells' slots' Q (F0 mm s'.1 ls' (s'.2.2.1.map (gw_rv (gw_rho z0 ro))))) :
    W p l e R s mm args below meth c H locs cells slots Q (F0 mm pc ls (st.map (gw_rv (gw_rho z0 ro)))) := by
  obtain ⟨hx, hb, hml, hown, hts, hinit, hSR⟩ := cx
  obtain ⟨d1, d2, d3, d4, d5, d6, d7⟩ := d
  have hl := gw_len_of 2 hlen rfl
  subst hl
  obtain ⟨x, hv, hs⟩ := gw_ldi_some hs
  obtain ⟨L', hL, hs⟩ := Option.map_eq_some_iff.mp hs
  cases hs
  obtain ⟨j, hj⟩ := List.getElem?_of_mem (gw_lv_mem (ρ := gw_rho z0 ro) hv)
  refine lv_iinc hx hb hd d1.has hj (by rw [of_decide_eq_true hT]) (d1.2.2.1 ▸ gw_st1_lt hL) rfl fun ls' h' => ?_
  refine kk ls' H locs cells slots ⟨d1.st1 hL h', d2, d3, d4, fun i v hv => ?_, d6, d7⟩
  rcases gw_st1_get hL hv with rfl | hv
  · exact gw_ok_i
  · exact d5 i v hv
set_option maxHeartbeats 4000000 in
theorem gs_iconst (cx : gw_Cx D ca z0 ro rc M p s mm args meth c) {pc len t : Nat} {z : Int} {cs : Int32} (hd : decode M.2.2.1 pc = .ok (.iconst z, len)) (hlen : gw_len (.iconst z) = 0 ∨ gw_len (.iconst z) = len) (hT : gw_okT M.1 pc (.iconst z) t cs = true) {L : gw_L} {st : List Value} {h : gw_H} {s' : gw_S} (hs : gw_ins M.1 M.2.2.2.2.2.2.1 (.iconst z) t cs pc L st h = some s')
    (d : gw_Dy D ca z0 ro rc M.2.2.2.1 nb zb s L st h ls H locs cells slots) (hfr : 1 ≤ R.frames ∧ 64 ≤ R.locals) (hrc : s'.2.2.2.2.1 ≤ nb + R.cells) (hrs : s'.2.2.2.2.2 ≤ zb + R.slots)
    (kk : ∀ (ls' : Array Slot) (H' : Heap) (locs' : List Loc) (cells' slots' : Nat), gw_Dy D ca z0 ro rc M.2.2.2.1 nb zb s s'.2.1 s'.2.2.1 s'.2.2.2 ls' H' locs' cells' slots' → W p l e R s mm args below meth c H' locs' cells' slots' Q (F0 mm s'.1 ls' (s'.2.2.1.map (gw_rv (gw_rho z0 ro))))) :
    W p l e R s mm args below meth c H locs cells slots Q (F0 mm pc ls (st.map (gw_rv (gw_rho z0 ro)))) := by
  obtain ⟨hx, hb, hml, hown, hts, hinit, hSR⟩ := cx
  obtain ⟨d1, d2, d3, d4, d5, d6, d7⟩ := d
  have hl := gw_len_of 0 hlen rfl
  subst hl
  cases hs
  exact lv_iconst hx hb hd (of_decide_eq_true hT) (kk _ _ _ _ _ ⟨d1, d2, d3, gw_okS_c gw_ok_i d4, d5, d6, d7⟩)
set_option maxHeartbeats 4000000 in
theorem gs_bipush (cx : gw_Cx D ca z0 ro rc M p s mm args meth c) {pc len t : Nat} {z : Int} {cs : Int32} (hd : decode M.2.2.1 pc = .ok (.bipush z, len)) (hlen : gw_len (.bipush z) = 0 ∨ gw_len (.bipush z) = len) (hT : gw_okT M.1 pc (.bipush z) t cs = true) {L : gw_L} {st : List Value} {h : gw_H} {s' : gw_S} (hs : gw_ins M.1 M.2.2.2.2.2.2.1 (.bipush z) t cs pc L st h = some s')
    (d : gw_Dy D ca z0 ro rc M.2.2.2.1 nb zb s L st h ls H locs cells slots) (hfr : 1 ≤ R.frames ∧ 64 ≤ R.locals) (hrc : s'.2.2.2.2.1 ≤ nb + R.cells) (hrs : s'.2.2.2.2.2 ≤ zb + R.slots)
    (kk : ∀ (ls' : Array Slot) (H' : Heap) (locs' : List Loc) (cells' slots' : Nat), gw_Dy D ca z0 ro rc M.2.2.2.1 nb zb s s'.2.1 s'.2.2.1 s'.2.2.2 ls' H' locs' cells' slots' → W p l e R s mm args below meth c H' locs' cells' slots' Q (F0 mm s'.1 ls' (s'.2.2.1.map (gw_rv (gw_rho z0 ro))))) :
    W p l e R s mm args below meth c H locs cells slots Q (F0 mm pc ls (st.map (gw_rv (gw_rho z0 ro)))) := by
  obtain ⟨hx, hb, hml, hown, hts, hinit, hSR⟩ := cx
  obtain ⟨d1, d2, d3, d4, d5, d6, d7⟩ := d
  have hl := gw_len_of 1 hlen rfl
  subst hl
  cases hs
  exact lv_bipush hx hb hd (of_decide_eq_true hT) (kk _ _ _ _ _ ⟨d1, d2, d3, gw_okS_c gw_ok_i d4, d5, d6, d7⟩)
set_option maxHeartbeats 4000000 in
theorem gs_sipush (cx : gw_Cx D ca z0 ro rc M p s mm args meth c) {pc len t : Nat} {z : Int} {cs : Int32} (hd : decode M.2.2.1 pc = .ok (.sipush z, len)) (hlen : gw_len (.sipush z) = 0 ∨ gw_len (.sipush z) = len) (hT : gw_okT M.1 pc (.sipush z) t cs = true) {L : gw_L} {st : List Value} {h : gw_H} {s' : gw_S} (hs : gw_ins M.1 M.2.2.2.2.2.2.1 (.sipush z) t cs pc L st h = some s')
    (d : gw_Dy D ca z0 ro rc M.2.2.2.1 nb zb s L st h ls H locs cells slots) (hfr : 1 ≤ R.frames ∧ 64 ≤ R.locals) (hrc : s'.2.2.2.2.1 ≤ nb + R.cells) (hrs : s'.2.2.2.2.2 ≤ zb + R.slots)
    (kk : ∀ (ls' : Array Slot) (H' : Heap) (locs' : List Loc) (cells' slots' : Nat), gw_Dy D ca z0 ro rc M.2.2.2.1 nb zb s s'.2.1 s'.2.2.1 s'.2.2.2 ls' H' locs' cells' slots' → W p l e R s mm args below meth c H' locs' cells' slots' Q (F0 mm s'.1 ls' (s'.2.2.1.map (gw_rv (gw_rho z0 ro))))) :
    W p l e R s mm args below meth c H locs cells slots Q (F0 mm pc ls (st.map (gw_rv (gw_rho z0 ro)))) := by
  obtain ⟨hx, hb, hml, hown, hts, hinit, hSR⟩ := cx
  obtain ⟨d1, d2, d3, d4, d5, d6, d7⟩ := d
  have hl := gw_len_of 2 hlen rfl
  subst hl
  cases hs
  exact lv_sipush hx hb hd (of_decide_eq_true hT) (kk _ _ _ _ _ ⟨d1, d2, d3, gw_okS_c gw_ok_i d4, d5, d6, d7⟩)
set_option maxHeartbeats 4000000 in
theorem gs_ldc (cx : gw_Cx D ca z0 ro rc M p s mm args meth c) {pc len t : Nat} {idx : Nat} {cs : Int32} (hd : decode M.2.2.1 pc = .ok (.ldc idx, len)) (hlen : gw_len (.ldc idx) = 0 ∨ gw_len (.ldc idx) = len) (hT : gw_okT M.1 pc (.ldc idx) t cs = true) {L : gw_L} {st : List Value} {h : gw_H} {s' : gw_S} (hs : gw_ins M.1 M.2.2.2.2.2.2.1 (.ldc idx) t cs pc L st h = some s')
    (d : gw_Dy D ca z0 ro rc M.2.2.2.1 nb zb s L st h ls H locs cells slots) (hfr : 1 ≤ R.frames ∧ 64 ≤ R.locals) (hrc : s'.2.2.2.2.1 ≤ nb + R.cells) (hrs : s'.2.2.2.2.2 ≤ zb + R.slots)
    (kk : ∀ (ls' : Array Slot) (H' : Heap) (locs' : List Loc) (cells' slots' : Nat), gw_Dy D ca z0 ro rc M.2.2.2.1 nb zb s s'.2.1 s'.2.2.1 s'.2.2.2 ls' H' locs' cells' slots' → W p l e R s mm args below meth c H' locs' cells' slots' Q (F0 mm s'.1 ls' (s'.2.2.1.map (gw_rv (gw_rho z0 ro))))) :
    W p l e R s mm args below meth c H locs cells slots Q (F0 mm pc ls (st.map (gw_rv (gw_rho z0 ro)))) := by
  obtain ⟨hx, hb, hml, hown, hts, hinit, hSR⟩ := cx
  obtain ⟨d1, d2, d3, d4, d5, d6, d7⟩ := d
  have hl := gw_len_of 1 hlen rfl
  subst hl
  cases hs
  exact lv_ldc hx hb hown (hts _ (gw_tb_in (gw_ti_in hT) rfl)) hd (kk _ _ _ _ _ ⟨d1, d2, d3, gw_okS_c gw_ok_i d4, d5, d6, d7⟩)
set_option maxHeartbeats 4000000 in
theorem gs_ldc_w (cx : gw_Cx D ca z0 ro rc M p s mm args meth c) {pc len t : Nat} {idx : Nat} {cs : Int32} (hd : decode M.2.2.1 pc = .ok (.ldc_w idx, len)) (hlen : gw_len (.ldc_w idx) = 0 ∨ gw_len (.ldc_w idx) = len) (hT : gw_okT M.1 pc (.ldc_w idx) t cs = true) {L : gw_L} {st : List Value} {h : gw_H} {s' : gw_S} (hs : gw_ins M.1 M.2.2.2.2.2.2.1 (.ldc_w idx) t cs pc L st h = some s')
    (d : gw_Dy D ca z0 ro rc M.2.2.2.1 nb zb s L st h ls H locs cells slots) (hfr : 1 ≤ R.frames ∧ 64 ≤ R.locals) (hrc : s'.2.2.2.2.1 ≤ nb + R.cells) (hrs : s'.2.2.2.2.2 ≤ zb + R.slots)
    (kk : ∀ (ls' : Array Slot) (H' : Heap) (locs' : List Loc) (cells' slots' : Nat), gw_Dy D ca z0 ro rc M.2.2.2.1 nb zb s s'.2.1 s'.2.2.1 s'.2.2.2 ls' H' locs' cells' slots' → W p l e R s mm args below meth c H' locs' cells' slots' Q (F0 mm s'.1 ls' (s'.2.2.1.map (gw_rv (gw_rho z0 ro))))) :
    W p l e R s mm args below meth c H locs cells slots Q (F0 mm pc ls (st.map (gw_rv (gw_rho z0 ro)))) := by
  obtain ⟨hx, hb, hml, hown, hts, hinit, hSR⟩ := cx
  obtain ⟨d1, d2, d3, d4, d5, d6, d7⟩ := d
  have hl := gw_len_of 2 hlen rfl
  subst hl
  cases hs
  exact lv_ldcw hx hb hown (hts _ (gw_tb_in (gw_ti_in hT) rfl)) hd (kk _ _ _ _ _ ⟨d1, d2, d3, gw_okS_c gw_ok_i d4, d5, d6, d7⟩)
set_option maxHeartbeats 4000000 in
theorem gs_ldc2_w (cx : gw_Cx D ca z0 ro rc M p s mm args meth c) {pc len t : Nat} {idx : Nat} {cs : Int32} (hd : decode M.2.2.1 pc = .ok (.ldc2_w idx, len)) (hlen : gw_len (.ldc2_w idx) = 0 ∨ gw_len (.ldc2_w idx) = len) (hT : gw_okT M.1 pc (.ldc2_w idx) t cs = true) {L : gw_L} {st : List Value} {h : gw_H} {s' : gw_S} (hs : gw_ins M.1 M.2.2.2.2.2.2.1 (.ldc2_w idx) t cs pc L st h = some s')
    (d : gw_Dy D ca z0 ro rc M.2.2.2.1 nb zb s L st h ls H locs cells slots) (hfr : 1 ≤ R.frames ∧ 64 ≤ R.locals) (hrc : s'.2.2.2.2.1 ≤ nb + R.cells) (hrs : s'.2.2.2.2.2 ≤ zb + R.slots)
    (kk : ∀ (ls' : Array Slot) (H' : Heap) (locs' : List Loc) (cells' slots' : Nat), gw_Dy D ca z0 ro rc M.2.2.2.1 nb zb s s'.2.1 s'.2.2.1 s'.2.2.2 ls' H' locs' cells' slots' → W p l e R s mm args below meth c H' locs' cells' slots' Q (F0 mm s'.1 ls' (s'.2.2.1.map (gw_rv (gw_rho z0 ro))))) :
    W p l e R s mm args below meth c H locs cells slots Q (F0 mm pc ls (st.map (gw_rv (gw_rho z0 ro)))) := by
  obtain ⟨hx, hb, hml, hown, hts, hinit, hSR⟩ := cx
  obtain ⟨d1, d2, d3, d4, d5, d6, d7⟩ := d
  have hl := gw_len_of 2 hlen rfl
  subst hl
  dsimp only [gw_ins] at hs
  split at hs
  · rename_i v hp
    cases hs
    obtain ⟨ix, hP⟩ := gw_fact_P hp
    exact lv_ldc2 hx hb hown (hts _ (gw_tb_in (gw_ti_in hP) rfl)) hd (kk _ _ _ _ _ ⟨d1, d2, d3, gw_okS_c gw_ok_l d4, d5, d6, d7⟩)
  · cases hs
set_option maxHeartbeats 4000000 in
theorem gs_lconst (cx : gw_Cx D ca z0 ro rc M p s mm args meth c) {pc len t : Nat} {n : Fin 2} {cs : Int32} (hd : decode M.2.2.1 pc = .ok (.lconst n, len)) (hlen : gw_len (.lconst n) = 0 ∨ gw_len (.lconst n) = len) (hT : gw_okT M.1 pc (.lconst n) t cs = true) {L : gw_L} {st : List Value} {h : gw_H} {s' : gw_S} (hs : gw_ins M.1 M.2.2.2.2.2.2.1 (.lconst n) t cs pc L st h = some s')
    (d : gw_Dy D ca z0 ro rc M.2.2.2.1 nb zb s L st h ls H locs cells slots) (hfr : 1 ≤ R.frames ∧ 64 ≤ R.locals) (hrc : s'.2.2.2.2.1 ≤ nb + R.cells) (hrs : s'.2.2.2.2.2 ≤ zb + R.slots)
    (kk : ∀ (ls' : Array Slot) (H' : Heap) (locs' : List Loc) (cells' slots' : Nat), gw_Dy D ca z0 ro rc M.2.2.2.1 nb zb s s'.2.1 s'.2.2.1 s'.2.2.2 ls' H' locs' cells' slots' → W p l e R s mm args below meth c H' locs' cells' slots' Q (F0 mm s'.1 ls' (s'.2.2.1.map (gw_rv (gw_rho z0 ro))))) :
    W p l e R s mm args below meth c H locs cells slots Q (F0 mm pc ls (st.map (gw_rv (gw_rho z0 ro)))) := by
  obtain ⟨hx, hb, hml, hown, hts, hinit, hSR⟩ := cx
  obtain ⟨d1, d2, d3, d4, d5, d6, d7⟩ := d
  have hl := gw_len_of 0 hlen rfl
  subst hl
  cases hs
  refine lv_lconst (v := if n = 0 then 0 else 1) hx hb hd ?_ (kk _ _ _ _ _ ⟨d1, d2, d3, gw_okS_c gw_ok_l d4, d5, d6, d7⟩)
  match n with
  | 0 => rfl
  | 1 => rfl
set_option maxHeartbeats 4000000 in
theorem gs_iadd (cx : gw_Cx D ca z0 ro rc M p s mm args meth c) {pc len t : Nat} {cs : Int32} (hd : decode M.2.2.1 pc = .ok (.iadd, len)) (hlen : gw_len (.iadd) = 0 ∨ gw_len (.iadd) = len) (hT : gw_okT M.1 pc (.iadd) t cs = true) {L : gw_L} {st : List Value} {h : gw_H} {s' : gw_S} (hs : gw_ins M.1 M.2.2.2.2.2.2.1 (.iadd) t cs pc L st h = some s')
    (d : gw_Dy D ca z0 ro rc M.2.2.2.1 nb zb s L st h ls H locs cells slots) (hfr : 1 ≤ R.frames ∧ 64 ≤ R.locals) (hrc : s'.2.2.2.2.1 ≤ nb + R.cells) (hrs : s'.2.2.2.2.2 ≤ zb + R.slots)
    (kk : ∀ (ls' : Array Slot) (H' : Heap) (locs' : List Loc) (cells' slots' : Nat), gw_Dy D ca z0 ro rc M.2.2.2.1 nb zb s s'.2.1 s'.2.2.1 s'.2.2.2 ls' H' locs' cells' slots' → W p l e R s mm args below meth c H' locs' cells' slots' Q (F0 mm s'.1 ls' (s'.2.2.1.map (gw_rv (gw_rho z0 ro))))) :
    W p l e R s mm args below meth c H locs cells slots Q (F0 mm pc ls (st.map (gw_rv (gw_rho z0 ro)))) := by
  obtain ⟨hx, hb, hml, hown, hts, hinit, hSR⟩ := cx
  obtain ⟨d1, d2, d3, d4, d5, d6, d7⟩ := d
  have hl := gw_len_of 0 hlen rfl
  subst hl
  obtain ⟨x, y, r, hst, hq⟩ := gw_ii_some hs
  clear hs
  subst hst
  have hs := hq
  clear hq
  cases hs
  exact lv_iadd hx hb hd (kk _ _ _ _ _ ⟨d1, d2, d3, gw_okS_c gw_ok_i (gw_okS_tl (gw_okS_tl d4)), d5, d6, d7⟩)
set_option maxHeartbeats 4000000 in
theorem gs_isub (cx : gw_Cx D ca z0 ro rc M p s mm args meth c) {pc len t : Nat} {cs : Int32} (hd : decode M.2.2.1 pc = .ok (.isub, len)) (hlen : gw_len (.isub) = 0 ∨ gw_len (.isub) = len) (hT : gw_okT M.1 pc (.isub) t cs = true) {L : gw_L} {st : List Value} {h : gw_H} {s' : gw_S} (hs : gw_ins M.1 M.2.2.2.2.2.2.1 (.isub) t cs pc L st h = some s')
    (d : gw_Dy D ca z0 ro rc M.2.2.2.1 nb zb s L st h ls H locs cells slots) (hfr : 1 ≤ R.frames ∧ 64 ≤ R.locals) (hrc : s'.2.2.2.2.1 ≤ nb + R.cells) (hrs : s'.2.2.2.2.2 ≤ zb + R.slots)
    (kk : ∀ (ls' : Array Slot) (H' : Heap) (locs' : List Loc) (cells' slots' : Nat), gw_Dy D ca z0 ro rc M.2.2.2.1 nb zb s s'.2.1 s'.2.2.1 s'.2.2.2 ls' H' locs' cells' slots' → W p l e R s mm args below meth c H' locs' cells' slots' Q (F0 mm s'.1 ls' (s'.2.2.1.map (gw_rv (gw_rho z0 ro))))) :
    W p l e R s mm args below meth c H locs cells slots Q (F0 mm pc ls (st.map (gw_rv (gw_rho z0 ro)))) := by
  obtain ⟨hx, hb, hml, hown, hts, hinit, hSR⟩ := cx
  obtain ⟨d1, d2, d3, d4, d5, d6, d7⟩ := d
  have hl := gw_len_of 0 hlen rfl
  subst hl
  obtain ⟨x, y, r, hst, hq⟩ := gw_ii_some hs
  clear hs
  subst hst
  have hs := hq
  clear hq
  cases hs
  exact lv_isub hx hb hd (kk _ _ _ _ _ ⟨d1, d2, d3, gw_okS_c gw_ok_i (gw_okS_tl (gw_okS_tl d4)), d5, d6, d7⟩)
set_option maxHeartbeats 4000000 in
theorem gs_imul (cx : gw_Cx D ca z0 ro rc M p s mm args meth c) {pc len t : Nat} {cs : Int32} (hd : decode M.2.2.1 pc = .ok (.imul, len)) (hlen : gw_len (.imul) = 0 ∨ gw_len (.imul) = len) (hT : gw_okT M.1 pc (.imul) t cs = true) {L : gw_L} {st : List Value} {h : gw_H} {s' : gw_S} (hs : gw_ins M.1 M.2.2.2.2.2.2.1 (.imul) t cs pc L st h = some s')
    (d : gw_Dy D ca z0 ro rc M.2.2.2.1 nb zb s L st h ls H locs cells slots) (hfr : 1 ≤ R.frames ∧ 64 ≤ R.locals) (hrc : s'.2.2.2.2.1 ≤ nb + R.cells) (hrs : s'.2.2.2.2.2 ≤ zb + R.slots)
    (kk : ∀ (ls' : Array Slot) (H' : Heap) (locs' : List Loc) (cells' slots' : Nat), gw_Dy D ca z0 ro rc M.2.2.2.1 nb zb s s'.2.1 s'.2.2.1 s'.2.2.2 ls' H' locs' cells' slots' → W p l e R s mm args below meth c H' locs' cells' slots' Q (F0 mm s'.1 ls' (s'.2.2.1.map (gw_rv (gw_rho z0 ro))))) :
    W p l e R s mm args below meth c H locs cells slots Q (F0 mm pc ls (st.map (gw_rv (gw_rho z0 ro)))) := by
  obtain ⟨hx, hb, hml, hown, hts, hinit, hSR⟩ := cx
  obtain ⟨d1, d2, d3, d4, d5, d6, d7⟩ := d
  have hl := gw_len_of 0 hlen rfl
  subst hl
  obtain ⟨x, y, r, hst, hq⟩ := gw_ii_some hs
  clear hs
  subst hst
  have hs := hq
  clear hq
  cases hs
  exact lv_imul hx hb hd (kk _ _ _ _ _ ⟨d1, d2, d3, gw_okS_c gw_ok_i (gw_okS_tl (gw_okS_tl d4)), d5, d6, d7⟩)
set_option maxHeartbeats 4000000 in
theorem gs_iand (cx : gw_Cx D ca z0 ro rc M p s mm args meth c) {pc len t : Nat} {cs : Int32} (hd : decode M.2.2.1 pc = .ok (.iand, len)) (hlen : gw_len (.iand) = 0 ∨ gw_len (.iand) = len) (hT : gw_okT M.1 pc (.iand) t cs = true) {L : gw_L} {st : List Value} {h : gw_H} {s' : gw_S} (hs : gw_ins M.1 M.2.2.2.2.2.2.1 (.iand) t cs pc L st h = some s')
    (d : gw_Dy D ca z0 ro rc M.2.2.2.1 nb zb s L st h ls H locs cells slots) (hfr : 1 ≤ R.frames ∧ 64 ≤ R.locals) (hrc : s'.2.2.2.2.1 ≤ nb + R.cells) (hrs : s'.2.2.2.2.2 ≤ zb + R.slots)
    (kk : ∀ (ls' : Array Slot) (H' : Heap) (locs' : List Loc) (cells' slots' : Nat), gw_Dy D ca z0 ro rc M.2.2.2.1 nb zb s s'.2.1 s'.2.2.1 s'.2.2.2 ls' H' locs' cells' slots' → W p l e R s mm args below meth c H' locs' cells' slots' Q (F0 mm s'.1 ls' (s'.2.2.1.map (gw_rv (gw_rho z0 ro))))) :
    W p l e R s mm args below meth c H locs cells slots Q (F0 mm pc ls (st.map (gw_rv (gw_rho z0 ro)))) := by
  obtain ⟨hx, hb, hml, hown, hts, hinit, hSR⟩ := cx
  obtain ⟨d1, d2, d3, d4, d5, d6, d7⟩ := d
  have hl := gw_len_of 0 hlen rfl
  subst hl
  obtain ⟨x, y, r, hst, hq⟩ := gw_ii_some hs
  clear hs
  subst hst
  have hs := hq
  clear hq
  cases hs
  exact lv_iand hx hb hd (kk _ _ _ _ _ ⟨d1, d2, d3, gw_okS_c gw_ok_i (gw_okS_tl (gw_okS_tl d4)), d5, d6, d7⟩)
set_option maxHeartbeats 4000000 in
theorem gs_ior (cx : gw_Cx D ca z0 ro rc M p s mm args meth c) {pc len t : Nat} {cs : Int32} (hd : decode M.2.2.1 pc = .ok (.ior, len)) (hlen : gw_len (.ior) = 0 ∨ gw_len (.ior) = len) (hT : gw_okT M.1 pc (.ior) t cs = true) {L : gw_L} {st : List Value} {h : gw_H} {s' : gw_S} (hs : gw_ins M.1 M.2.2.2.2.2.2.1 (.ior) t cs pc L st h = some s')
    (d : gw_Dy D ca z0 ro rc M.2.2.2.1 nb zb s L st h ls H locs cells slots) (hfr : 1 ≤ R.frames ∧ 64 ≤ R.locals) (hrc : s'.2.2.2.2.1 ≤ nb + R.cells) (hrs : s'.2.2.2.2.2 ≤ zb + R.slots)
    (kk : ∀ (ls' : Array Slot) (H' : Heap) (locs' : List Loc) (cells' slots' : Nat), gw_Dy D ca z0 ro rc M.2.2.2.1 nb zb s s'.2.1 s'.2.2.1 s'.2.2.2 ls' H' locs' cells' slots' → W p l e R s mm args below meth c H' locs' cells' slots' Q (F0 mm s'.1 ls' (s'.2.2.1.map (gw_rv (gw_rho z0 ro))))) :
    W p l e R s mm args below meth c H locs cells slots Q (F0 mm pc ls (st.map (gw_rv (gw_rho z0 ro)))) := by
  obtain ⟨hx, hb, hml, hown, hts, hinit, hSR⟩ := cx
  obtain ⟨d1, d2, d3, d4, d5, d6, d7⟩ := d
  have hl := gw_len_of 0 hlen rfl
  subst hl
  obtain ⟨x, y, r, hst, hq⟩ := gw_ii_some hs
  clear hs
  subst hst
  have hs := hq
  clear hq
  cases hs
  exact lv_ior hx hb hd (kk _ _ _ _ _ ⟨d1, d2, d3, gw_okS_c gw_ok_i (gw_okS_tl (gw_okS_tl d4)), d5, d6, d7⟩)
set_option maxHeartbeats 4000000 in
theorem gs_ixor (cx : gw_Cx D ca z0 ro rc M p s mm args meth c) {pc len t : Nat} {cs : Int32} (hd : decode M.2.2.1 pc = .ok (.ixor, len)) (hlen : gw_len (.ixor) = 0 ∨ gw_len (.ixor) = len) (hT : gw_okT M.1 pc (.ixor) t cs = true) {L : gw_L} {st : List Value} {h : gw_H} {s' : gw_S} (hs : gw_ins M.1 M.2.2.2.2.2.2.1 (.ixor) t cs pc L st h = some s')
    (d : gw_Dy D ca z0 ro rc M.2.2.2.1 nb zb s L st h ls H locs cells slots) (hfr : 1 ≤ R.frames ∧ 64 ≤ R.locals) (hrc : s'.2.2.2.2.1 ≤ nb + R.cells) (hrs : s'.2.2.2.2.2 ≤ zb + R.slots)
    (kk : ∀ (ls' : Array Slot) (H' : Heap) (locs' : List Loc) (cells' slots' : Nat), gw_Dy D ca z0 ro rc M.2.2.2.1 nb zb s s'.2.1 s'.2.2.1 s'.2.2.2 ls' H' locs' cells' slots' → W p l e R s mm args below meth c H' locs' cells' slots' Q (F0 mm s'.1 ls' (s'.2.2.1.map (gw_rv (gw_rho z0 ro))))) :
    W p l e R s mm args below meth c H locs cells slots Q (F0 mm pc ls (st.map (gw_rv (gw_rho z0 ro)))) := by
  obtain ⟨hx, hb, hml, hown, hts, hinit, hSR⟩ := cx
  obtain ⟨d1, d2, d3, d4, d5, d6, d7⟩ := d
  have hl := gw_len_of 0 hlen rfl
  subst hl
  obtain ⟨x, y, r, hst, hq⟩ := gw_ii_some hs
  clear hs
  subst hst
  have hs := hq
  clear hq
  cases hs
  exact lv_ixor hx hb hd (kk _ _ _ _ _ ⟨d1, d2, d3, gw_okS_c gw_ok_i (gw_okS_tl (gw_okS_tl d4)), d5, d6, d7⟩)
set_option maxHeartbeats 4000000 in
theorem gs_ishl (cx : gw_Cx D ca z0 ro rc M p s mm args meth c) {pc len t : Nat} {cs : Int32} (hd : decode M.2.2.1 pc = .ok (.ishl, len)) (hlen : gw_len (.ishl) = 0 ∨ gw_len (.ishl) = len) (hT : gw_okT M.1 pc (.ishl) t cs = true) {L : gw_L} {st : List Value} {h : gw_H} {s' : gw_S} (hs : gw_ins M.1 M.2.2.2.2.2.2.1 (.ishl) t cs pc L st h = some s')
    (d : gw_Dy D ca z0 ro rc M.2.2.2.1 nb zb s L st h ls H locs cells slots) (hfr : 1 ≤ R.frames ∧ 64 ≤ R.locals) (hrc : s'.2.2.2.2.1 ≤ nb + R.cells) (hrs : s'.2.2.2.2.2 ≤ zb + R.slots)
    (kk : ∀ (ls' : Array Slot) (H' : Heap) (locs' : List Loc) (cells' slots' : Nat), gw_Dy D ca z0 ro rc M.2.2.2.1 nb zb s s'.2.1 s'.2.2.1 s'.2.2.2 ls' H' locs' cells' slots' → W p l e R s mm args below meth c H' locs' cells' slots' Q (F0 mm s'.1 ls' (s'.2.2.1.map (gw_rv (gw_rho z0 ro))))) :
    W p l e R s mm args below meth c H locs cells slots Q (F0 mm pc ls (st.map (gw_rv (gw_rho z0 ro)))) := by
  obtain ⟨hx, hb, hml, hown, hts, hinit, hSR⟩ := cx
  obtain ⟨d1, d2, d3, d4, d5, d6, d7⟩ := d
  have hl := gw_len_of 0 hlen rfl
  subst hl
  obtain ⟨x, y, r, hst, hq⟩ := gw_ii_some hs
  clear hs
  subst hst
  have hs := hq
  clear hq
  cases hs
  exact lv_ishl hx hb hd (kk _ _ _ _ _ ⟨d1, d2, d3, gw_okS_c gw_ok_i (gw_okS_tl (gw_okS_tl d4)), d5, d6, d7⟩)
set_option maxHeartbeats 4000000 in
theorem gs_ishr (cx : gw_Cx D ca z0 ro rc M p s mm args meth c) {pc len t : Nat} {cs : Int32} (hd : decode M.2.2.1 pc = .ok (.ishr, len)) (hlen : gw_len (.ishr) = 0 ∨ gw_len (.ishr) = len) (hT : gw_okT M.1 pc (.ishr) t cs = true) {L : gw_L} {st : List Value} {h : gw_H} {s' : gw_S} (hs : gw_ins M.1 M.2.2.2.2.2.2.1 (.ishr) t cs pc L st h = some s')
    (d : gw_Dy D ca z0 ro rc M.2.2.2.1 nb zb s L st h ls H locs cells slots) (hfr : 1 ≤ R.frames ∧ 64 ≤ R.locals) (hrc : s'.2.2.2.2.1 ≤ nb + R.cells) (hrs : s'.2.2.2.2.2 ≤ zb + R.slots)
    (kk : ∀ (ls' : Array Slot) (H' : Heap) (locs' : List Loc) (cells' slots' : Nat), gw_Dy D ca z0 ro rc M.2.2.2.1 nb zb s s'.2.1 s'.2.2.1 s'.2.2.2 ls' H' locs' cells' slots' → W p l e R s mm args below meth c H' locs' cells' slots' Q (F0 mm s'.1 ls' (s'.2.2.1.map (gw_rv (gw_rho z0 ro))))) :
    W p l e R s mm args below meth c H locs cells slots Q (F0 mm pc ls (st.map (gw_rv (gw_rho z0 ro)))) := by
  obtain ⟨hx, hb, hml, hown, hts, hinit, hSR⟩ := cx
  obtain ⟨d1, d2, d3, d4, d5, d6, d7⟩ := d
  have hl := gw_len_of 0 hlen rfl
  subst hl
  obtain ⟨x, y, r, hst, hq⟩ := gw_ii_some hs
  clear hs
  subst hst
  have hs := hq
  clear hq
  cases hs
  exact lv_ishr hx hb hd (kk _ _ _ _ _ ⟨d1, d2, d3, gw_okS_c gw_ok_i (gw_okS_tl (gw_okS_tl d4)), d5, d6, d7⟩)
set_option maxHeartbeats 4000000 in
theorem gs_idiv (cx : gw_Cx D ca z0 ro rc M p s mm args meth c) {pc len t : Nat} {cs : Int32} (hd : decode M.2.2.1 pc = .ok (.idiv, len)) (hlen : gw_len (.idiv) = 0 ∨ gw_len (.idiv) = len) (hT : gw_okT M.1 pc (.idiv) t cs = true) {L : gw_L} {st : List Value} {h : gw_H} {s' : gw_S} (hs : gw_ins M.1 M.2.2.2.2.2.2.1 (.idiv) t cs pc L st h = some s')
    (d : gw_Dy D ca z0 ro rc M.2.2.2.1 nb zb s L st h ls H locs cells slots) (hfr : 1 ≤ R.frames ∧ 64 ≤ R.locals) (hrc : s'.2.2.2.2.1 ≤ nb + R.cells) (hrs : s'.2.2.2.2.2 ≤ zb + R.slots)
    (kk : ∀ (ls' : Array Slot) (H' : Heap) (locs' : List Loc) (cells' slots' : Nat), gw_Dy D ca z0 ro rc M.2.2.2.1 nb zb s s'.2.1 s'.2.2.1 s'.2.2.2 ls' H' locs' cells' slots' → W p l e R s mm args below meth c H' locs' cells' slots' Q (F0 mm s'.1 ls' (s'.2.2.1.map (gw_rv (gw_rho z0 ro))))) :
    W p l e R s mm args below meth c H locs cells slots Q (F0 mm pc ls (st.map (gw_rv (gw_rho z0 ro)))) := by
  obtain ⟨hx, hb, hml, hown, hts, hinit, hSR⟩ := cx
  obtain ⟨d1, d2, d3, d4, d5, d6, d7⟩ := d
  have hl := gw_len_of 0 hlen rfl
  subst hl
  obtain ⟨x, y, r, hst, hq⟩ := gw_ii_some hs
  clear hs
  subst hst
  have hs := hq
  clear hq
  split at hs
  · cases hs
  · rename_i hy
    cases hs
    exact lv_idiv hx hb hd hy (kk _ _ _ _ _ ⟨d1, d2, d3, gw_okS_c gw_ok_i (gw_okS_tl (gw_okS_tl d4)), d5, d6, d7⟩)
set_option maxHeartbeats 4000000 in
theorem gs_irem (cx : gw_Cx D ca z0 ro rc M p s mm args meth c) {pc len t : Nat} {cs : Int32} (hd : decode M.2.2.1 pc = .ok (.irem, len)) (hlen : gw_len (.irem) = 0 ∨ gw_len (.irem) = len) (hT : gw_okT M.1 pc (.irem) t cs = true) {L : gw_L} {st : List Value} {h : gw_H} {s' : gw_S} (hs : gw_ins M.1 M.2.2.2.2.2.2.1 (.irem) t cs pc L st h = some s')
    (d : gw_Dy D ca z0 ro rc M.2.2.2.1 nb zb s L st h ls H locs cells slots) (hfr : 1 ≤ R.frames ∧ 64 ≤ R.locals) (hrc : s'.2.2.2.2.1 ≤ nb + R.cells) (hrs : s'.2.2.2.2.2 ≤ zb + R.slots)
    (kk : ∀ (ls' : Array Slot) (H' : Heap) (locs' : List Loc) (cells' slots' : Nat), gw_Dy D ca z0 ro rc M.2.2.2.1 nb zb s s'.2.1 s'.2.2.1 s'.2.2.2 ls' H' locs' cells' slots' → W p l e R s mm args below meth c H' locs' cells' slots' Q (F0 mm s'.1 ls' (s'.2.2.1.map (gw_rv (gw_rho z0 ro))))) :
    W p l e R s mm args below meth c H locs cells slots Q (F0 mm pc ls (st.map (gw_rv (gw_rho z0 ro)))) := by
  obtain ⟨hx, hb, hml, hown, hts, hinit, hSR⟩ := cx
  obtain ⟨d1, d2, d3, d4, d5, d6, d7⟩ := d
  have hl := gw_len_of 0 hlen rfl
  subst hl
  obtain ⟨x, y, r, hst, hq⟩ := gw_ii_some hs
  clear hs
  subst hst
  have hs := hq
  clear hq
  split at hs
  · cases hs
  · rename_i hy
    cases hs
    exact lv_irem hx hb hd hy (kk _ _ _ _ _ ⟨d1, d2, d3, gw_okS_c gw_ok_i (gw_okS_tl (gw_okS_tl d4)), d5, d6, d7⟩)
set_option maxHeartbeats 4000000 in
theorem gs_ineg (cx : gw_Cx D ca z0 ro rc M p s mm args meth c) {pc len t : Nat} {cs : Int32} (hd : decode M.2.2.1 pc = .ok (.ineg, len)) (hlen : gw_len (.ineg) = 0 ∨ gw_len (.ineg) = len) (hT : gw_okT M.1 pc (.ineg) t cs = true) {L : gw_L} {st : List Value} {h : gw_H} {s' : gw_S} (hs : gw_ins M.1 M.2.2.2.2.2.2.1 (.ineg) t cs pc L st h = some s')
    (d : gw_Dy D ca z0 ro rc M.2.2.2.1 nb zb s L st h ls H locs cells slots) (hfr : 1 ≤ R.frames ∧ 64 ≤ R.locals) (hrc : s'.2.2.2.2.1 ≤ nb + R.cells) (hrs : s'.2.2.2.2.2 ≤ zb + R.slots)
    (kk : ∀ (ls' : Array Slot) (H' : Heap) (locs' : List Loc) (cells' slots' : Nat), gw_Dy D ca z0 ro rc M.2.2.2.1 nb zb s s'.2.1 s'.2.2.1 s'.2.2.2 ls' H' locs' cells' slots' → W p l e R s mm args below meth c H' locs' cells' slots' Q (F0 mm s'.1 ls' (s'.2.2.1.map (gw_rv (gw_rho z0 ro))))) :
    W p l e R s mm args below meth c H locs cells slots Q (F0 mm pc ls (st.map (gw_rv (gw_rho z0 ro)))) := by
  obtain ⟨hx, hb, hml, hown, hts, hinit, hSR⟩ := cx
  obtain ⟨d1, d2, d3, d4, d5, d6, d7⟩ := d
  have hl := gw_len_of 0 hlen rfl
  subst hl
  obtain ⟨x, r, hst, hq⟩ := gw_i1_some hs
  clear hs
  subst hst
  have hs := hq
  clear hq
  cases hs
  exact lv_ineg hx hb hd (kk _ _ _ _ _ ⟨d1, d2, d3, gw_okS_c gw_ok_i (gw_okS_tl d4), d5, d6, d7⟩)
set_option maxHeartbeats 4000000 in
theorem gs_ladd (cx : gw_Cx D ca z0 ro rc M p s mm args meth c) {pc len t : Nat} {cs : Int32} (hd : decode M.2.2.1 pc = .ok (.ladd, len)) (hlen : gw_len (.ladd) = 0 ∨ gw_len (.ladd) = len) (hT : gw_okT M.1 pc (.ladd) t cs = true) {L : gw_L} {st : List Value} {h : gw_H} {s' : gw_S} (hs : gw_ins M.1 M.2.2.2.2.2.2.1 (.ladd) t cs pc L st h = some s')
    (d : gw_Dy D ca z0 ro rc M.2.2.2.1 nb zb s L st h ls H locs cells slots) (hfr : 1 ≤ R.frames ∧ 64 ≤ R.locals) (hrc : s'.2.2.2.2.1 ≤ nb + R.cells) (hrs : s'.2.2.2.2.2 ≤ zb + R.slots)
    (kk : ∀ (ls' : Array Slot) (H' : Heap) (locs' : List Loc) (cells' slots' : Nat), gw_Dy D ca z0 ro rc M.2.2.2.1 nb zb s s'.2.1 s'.2.2.1 s'.2.2.2 ls' H' locs' cells' slots' → W p l e R s mm args below meth c H' locs' cells' slots' Q (F0 mm s'.1 ls' (s'.2.2.1.map (gw_rv (gw_rho z0 ro))))) :
    W p l e R s mm args below meth c H locs cells slots Q (F0 mm pc ls (st.map (gw_rv (gw_rho z0 ro)))) := by
  obtain ⟨hx, hb, hml, hown, hts, hinit, hSR⟩ := cx
  obtain ⟨d1, d2, d3, d4, d5, d6, d7⟩ := d
  have hl := gw_len_of 0 hlen rfl
  subst hl
  obtain ⟨x, y, r, hst, hq⟩ := gw_ll_some hs
  clear hs
  subst hst
  have hs := hq
  clear hq
  cases hs
  exact lv_ladd hx hb hd (kk _ _ _ _ _ ⟨d1, d2, d3, gw_okS_c gw_ok_l (gw_okS_tl (gw_okS_tl d4)), d5, d6, d7⟩)
set_option maxHeartbeats 4000000 in
theorem gs_lmul (cx : gw_Cx D ca z0 ro rc M p s mm args meth c) {pc len t : Nat} {cs : Int32} (hd : decode M.2.2.1 pc = .ok (.lmul, len)) (hlen : gw_len (.lmul) = 0 ∨ gw_len (.lmul) = len) (hT : gw_okT M.1 pc (.lmul) t cs = true) {L : gw_L} {st : List Value} {h : gw_H} {s' : gw_S} (hs : gw_ins M.1 M.2.2.2.2.2.2.1 (.lmul) t cs pc L st h = some s')
    (d : gw_Dy D ca z0 ro rc M.2.2.2.1 nb zb s L st h ls H locs cells slots) (hfr : 1 ≤ R.frames ∧ 64 ≤ R.locals) (hrc : s'.2.2.2.2.1 ≤ nb + R.cells) (hrs : s'.2.2.2.2.2 ≤ zb + R.slots)
    (kk : ∀ (ls' : Array Slot) (H' : Heap) (locs' : List Loc) (cells' slots' : Nat), gw_Dy D ca z0 ro rc M.2.2.2.1 nb zb s s'.2.1 s'.2.2.1 s'.2.2.2 ls' H' locs' cells' slots' → W p l e R s mm args below meth c H' locs' cells' slots' Q (F0 mm s'.1 ls' (s'.2.2.1.map (gw_rv (gw_rho z0 ro))))) :
    W p l e R s mm args below meth c H locs cells slots Q (F0 mm pc ls (st.map (gw_rv (gw_rho z0 ro)))) := by
  obtain ⟨hx, hb, hml, hown, hts, hinit, hSR⟩ := cx
  obtain ⟨d1, d2, d3, d4, d5, d6, d7⟩ := d
  have hl := gw_len_of 0 hlen rfl
  subst hl
  obtain ⟨x, y, r, hst, hq⟩ := gw_ll_some hs
  clear hs
  subst hst
  have hs := hq
  clear hq
  cases hs
  exact lv_lmul hx hb hd (kk _ _ _ _ _ ⟨d1, d2, d3, gw_okS_c gw_ok_l (gw_okS_tl (gw_okS_tl d4)), d5, d6, d7⟩)
set_option maxHeartbeats 4000000 in
theorem gs_land (cx : gw_Cx D ca z0 ro rc M p s mm args meth c) {pc len t : Nat} {cs : Int32} (hd : decode M.2.2.1 pc = .ok (.land, len)) (hlen : gw_len (.land) = 0 ∨ gw_len (.land) = len) (hT : gw_okT M.1 pc (.land) t cs = true) {L : gw_L} {st : List Value} {h : gw_H} {s' : gw_S} (hs : gw_ins M.1 M.2.2.2.2.2.2.1 (.land) t cs pc L st h = some s')
    (d : gw_Dy D ca z0 ro rc M.2.2.2.1 nb zb s L st h ls H locs cells slots) (hfr : 1 ≤ R.frames ∧ 64 ≤ R.locals) (hrc : s'.2.2.2.2.1 ≤ nb + R.cells) (hrs : s'.2.2.2.2.2 ≤ zb + R.slots)
    (kk : ∀ (ls' : Array Slot) (H' : Heap) (locs' : List Loc) (cells' slots' : Nat), gw_Dy D ca z0 ro rc M.2.2.2.1 nb zb s s'.2.1 s'.2.2.1 s'.2.2.2 ls' H' locs' cells' slots' → W p l e R s mm args below meth c H' locs' cells' slots' Q (F0 mm s'.1 ls' (s'.2.2.1.map (gw_rv (gw_rho z0 ro))))) :
    W p l e R s mm args below meth c H locs cells slots Q (F0 mm pc ls (st.map (gw_rv (gw_rho z0 ro)))) := by
  obtain ⟨hx, hb, hml, hown, hts, hinit, hSR⟩ := cx
  obtain ⟨d1, d2, d3, d4, d5, d6, d7⟩ := d
  have hl := gw_len_of 0 hlen rfl
  subst hl
  obtain ⟨x, y, r, hst, hq⟩ := gw_ll_some hs
  clear hs
  subst hst
  have hs := hq
  clear hq
  cases hs
  exact lv_land hx hb hd (kk _ _ _ _ _ ⟨d1, d2, d3, gw_okS_c gw_ok_l (gw_okS_tl (gw_okS_tl d4)), d5, d6, d7⟩)
set_option maxHeartbeats 4000000 in
theorem gs_lor (cx : gw_Cx D ca z0 ro rc M p s mm args meth c) {pc len t : Nat} {cs : Int32} (hd : decode M.2.2.1 pc = .ok (.lor, len)) (hlen : gw_len (.lor) = 0 ∨ gw_len (.lor) = len) (hT : gw_okT M.1 pc (.lor) t cs = true) {L : gw_L} {st : List Value} {h : gw_H} {s' : gw_S} (hs : gw_ins M.1 M.2.2.2.2.2.2.1 (.lor) t cs pc L st h = some s')
    (d : gw_Dy D ca z0 ro rc M.2.2.2.1 nb zb s L st h ls H locs cells slots) (hfr : 1 ≤ R.frames ∧ 64 ≤ R.locals) (hrc : s'.2.2.2.2.1 ≤ nb + R.cells) (hrs : s'.2.2.2.2.2 ≤ zb + R.slots)
    (kk : ∀ (ls' : Array Slot) (H' : Heap) (locs' : List Loc) (cells' slots' : Nat), gw_Dy D ca z0 ro rc M.2.2.2.1 nb zb s s'.2.1 s'.2.2.1 s'.2.2.2 ls' H' locs' cells' slots' → W p l e R s mm args below meth c H' locs' cells' slots' Q (F0 mm s'.1 ls' (s'.2.2.1.map (gw_rv (gw_rho z0 ro))))) :
    W p l e R s mm args below meth c H locs cells slots Q (F0 mm pc ls (st.map (gw_rv (gw_rho z0 ro)))) := by
  obtain ⟨hx, hb, hml, hown, hts, hinit, hSR⟩ := cx
  obtain ⟨d1, d2, d3, d4, d5, d6, d7⟩ := d
  have hl := gw_len_of 0 hlen rfl
  subst hl
  obtain ⟨x, y, r, hst, hq⟩ := gw_ll_some hs
  clear hs
  subst hst
  have hs := hq
  clear hq
  cases hs
  exact lv_lor hx hb hd (kk _ _ _ _ _ ⟨d1, d2, d3, gw_okS_c gw_ok_l (gw_okS_tl (gw_okS_tl d4)), d5, d6, d7⟩)
set_option maxHeartbeats 4000000 in
theorem gs_lushr (cx : gw_Cx D ca z0 ro rc M p s mm args meth c) {pc len t : Nat} {cs : Int32} (hd : decode M.2.2.1 pc = .ok (.lushr, len)) (hlen : gw_len (.lushr) = 0 ∨ gw_len (.lushr) = len) (hT : gw_okT M.1 pc (.lushr) t cs = true) {L : gw_L} {st : List Value} {h : gw_H} {s' : gw_S} (hs : gw_ins M.1 M.2.2.2.2.2.2.1 (.lushr) t cs pc L st h = some s')
    (d : gw_Dy D ca z0 ro rc M.2.2.2.1 nb zb s L st h ls H locs cells slots) (hfr : 1 ≤ R.frames ∧ 64 ≤ R.locals) (hrc : s'.2.2.2.2.1 ≤ nb + R.cells) (hrs : s'.2.2.2.2.2 ≤ zb + R.slots)
    (kk : ∀ (ls' : Array Slot) (H' : Heap) (locs' : List Loc) (cells' slots' : Nat), gw_Dy D ca z0 ro rc M.2.2.2.1 nb zb s s'.2.1 s'.2.2.1 s'.2.2.2 ls' H' locs' cells' slots' → W p l e R s mm args below meth c H' locs' cells' slots' Q (F0 mm s'.1 ls' (s'.2.2.1.map (gw_rv (gw_rho z0 ro))))) :
    W p l e R s mm args below meth c H locs cells slots Q (F0 mm pc ls (st.map (gw_rv (gw_rho z0 ro)))) := by
  obtain ⟨hx, hb, hml, hown, hts, hinit, hSR⟩ := cx
  obtain ⟨d1, d2, d3, d4, d5, d6, d7⟩ := d
  have hl := gw_len_of 0 hlen rfl
  subst hl
  obtain ⟨x, y, r, hst, hq⟩ := gw_li_some hs
  clear hs
  subst hst
  have hs := hq
  clear hq
  cases hs
  exact lv_lushr hx hb hd rfl (kk _ _ _ _ _ ⟨d1, d2, d3, gw_okS_c gw_ok_l (gw_okS_tl (gw_okS_tl d4)), d5, d6, d7⟩)
set_option maxHeartbeats 4000000 in
theorem gs_lshl (cx : gw_Cx D ca z0 ro rc M p s mm args meth c) {pc len t : Nat} {cs : Int32} (hd : decode M.2.2.1 pc = .ok (.lshl, len)) (hlen : gw_len (.lshl) = 0 ∨ gw_len (.lshl) = len) (hT : gw_okT M.1 pc (.lshl) t cs = true) {L : gw_L} {st : List Value} {h : gw_H} {s' : gw_S} (hs : gw_ins M.1 M.2.2.2.2.2.2.1 (.lshl) t cs pc L st h = some s')
    (d : gw_Dy D ca z0 ro rc M.2.2.2.1 nb zb s L st h ls H locs cells slots) (hfr : 1 ≤ R.frames ∧ 64 ≤ R.locals) (hrc : s'.2.2.2.2.1 ≤ nb + R.cells) (hrs : s'.2.2.2.2.2 ≤ zb + R.slots)
    (kk : ∀ (ls' : Array Slot) (H' : Heap) (locs' : List Loc) (cells' slots' : Nat), gw_Dy D ca z0 ro rc M.2.2.2.1 nb zb s s'.2.1 s'.2.2.1 s'.2.2.2 ls' H' locs' cells' slots' → W p l e R s mm args below meth c H' locs' cells' slots' Q (F0 mm s'.1 ls' (s'.2.2.1.map (gw_rv (gw_rho z0 ro))))) :
    W p l e R s mm args below meth c H locs cells slots Q (F0 mm pc ls (st.map (gw_rv (gw_rho z0 ro)))) := by
  obtain ⟨hx, hb, hml, hown, hts, hinit, hSR⟩ := cx
  obtain ⟨d1, d2, d3, d4, d5, d6, d7⟩ := d
  have hl := gw_len_of 0 hlen rfl
  subst hl
  obtain ⟨x, y, r, hst, hq⟩ := gw_li_some hs
  clear hs
  subst hst
  have hs := hq
  clear hq
  cases hs
  exact lv_lshl hx hb hd rfl (kk _ _ _ _ _ ⟨d1, d2, d3, gw_okS_c gw_ok_l (gw_okS_tl (gw_okS_tl d4)), d5, d6, d7⟩)
set_option maxHeartbeats 4000000 in
theorem gs_lcmp (cx : gw_Cx D ca z0 ro rc M p s mm args meth c) {pc len t : Nat} {cs : Int32} (hd : decode M.2.2.1 pc = .ok (.lcmp, len)) (hlen : gw_len (.lcmp) = 0 ∨ gw_len (.lcmp) = len) (hT : gw_okT M.1 pc (.lcmp) t cs = true) {L : gw_L} {st : List Value} {h : gw_H} {s' : gw_S} (hs : gw_ins M.1 M.2.2.2.2.2.2.1 (.lcmp) t cs pc L st h = some s')
    (d : gw_Dy D ca z0 ro rc M.2.2.2.1 nb zb s L st h ls H locs cells slots) (hfr : 1 ≤ R.frames ∧ 64 ≤ R.locals) (hrc : s'.2.2.2.2.1 ≤ nb + R.cells) (hrs : s'.2.2.2.2.2 ≤ zb + R.slots)
    (kk : ∀ (ls' : Array Slot) (H' : Heap) (locs' : List Loc) (cells' slots' : Nat), gw_Dy D ca z0 ro rc M.2.2.2.1 nb zb s s'.2.1 s'.2.2.1 s'.2.2.2 ls' H' locs' cells' slots' → W p l e R s mm args below meth c H' locs' cells' slots' Q (F0 mm s'.1 ls' (s'.2.2.1.map (gw_rv (gw_rho z0 ro))))) :
    W p l e R s mm args below meth c H locs cells slots Q (F0 mm pc ls (st.map (gw_rv (gw_rho z0 ro)))) := by
  obtain ⟨hx, hb, hml, hown, hts, hinit, hSR⟩ := cx
  obtain ⟨d1, d2, d3, d4, d5, d6, d7⟩ := d
  have hl := gw_len_of 0 hlen rfl
  subst hl
  obtain ⟨x, y, r, hst, hq⟩ := gw_ll_some hs
  clear hs
  subst hst
  have hs := hq
  clear hq
  cases hs
  exact W.lcmp hx hb hd (kk _ _ _ _ _ ⟨d1, d2, d3, gw_okS_c gw_ok_i (gw_okS_tl (gw_okS_tl d4)), d5, d6, d7⟩)
set_option maxHeartbeats 4000000 in
theorem gs_i2l (cx : gw_Cx D ca z0 ro rc M p s mm args meth c) {pc len t : Nat} {cs : Int32} (hd : decode M.2.2.1 pc = .ok (.i2l, len)) (hlen : gw_len (.i2l) = 0 ∨ gw_len (.i2l) = len) (hT : gw_okT M.1 pc (.i2l) t cs = true) {L : gw_L} {st : List Value} {h : gw_H} {s' : gw_S} (hs : gw_ins M.1 M.2.2.2.2.2.2.1 (.i2l) t cs pc L st h = some s')
    (d : gw_Dy D ca z0 ro rc M.2.2.2.1 nb zb s L st h ls H locs cells slots) (hfr : 1 ≤ R.frames ∧ 64 ≤ R.locals) (hrc : s'.2.2.2.2.1 ≤ nb + R.cells) (hrs : s'.2.2.2.2.2 ≤ zb + R.slots)
    (kk : ∀ (ls' : Array Slot) (H' : Heap) (locs' : List Loc) (cells' slots' : Nat), gw_Dy D ca z0 ro rc M.2.2.2.1 nb zb s s'.2.1 s'.2.2.1 s'.2.2.2 ls' H' locs' cells' slots' → W p l e R s mm args below meth c H' locs' cells' slots' Q (F0 mm s'.1 ls' (s'.2.2.1.map (gw_rv (gw_rho z0 ro))))) :
    W p l e R s mm args below meth c H locs cells slots Q (F0 mm pc ls (st.map (gw_rv (gw_rho z0 ro)))) := by
  obtain ⟨hx, hb, hml, hown, hts, hinit, hSR⟩ := cx
  obtain ⟨d1, d2, d3, d4, d5, d6, d7⟩ := d
  have hl := gw_len_of 0 hlen rfl
  subst hl
  obtain ⟨x, r, hst, hq⟩ := gw_i1_some hs
  clear hs
  subst hst
  have hs := hq
  clear hq
  cases hs
  exact lv_i2l hx hb hd rfl (kk _ _ _ _ _ ⟨d1, d2, d3, gw_okS_c gw_ok_l (gw_okS_tl d4), d5, d6, d7⟩)
set_option maxHeartbeats 4000000 in
theorem gs_l2i (cx : gw_Cx D ca z0 ro rc M p s mm args meth c) {pc len t : Nat} {cs : Int32} (hd : decode M.2.2.1 pc = .ok (.l2i, len)) (hlen : gw_len (.l2i) = 0 ∨ gw_len (.l2i) = len) (hT : gw_okT M.1 pc (.l2i) t cs = true) {L : gw_L} {st : List Value} {h : gw_H} {s' : gw_S} (hs : gw_ins M.1 M.2.2.2.2.2.2.1 (.l2i) t cs pc L st h = some s')
    (d : gw_Dy D ca z0 ro rc M.2.2.2.1 nb zb s L st h ls H locs cells slots) (hfr : 1 ≤ R.frames ∧ 64 ≤ R.locals) (hrc : s'.2.2.2.2.1 ≤ nb + R.cells) (hrs : s'.2.2.2.2.2 ≤ zb + R.slots)
    (kk : ∀ (ls' : Array Slot) (H' : Heap) (locs' : List Loc) (cells' slots' : Nat), gw_Dy D ca z0 ro rc M.2.2.2.1 nb zb s s'.2.1 s'.2.2.1 s'.2.2.2 ls' H' locs' cells' slots' → W p l e R s mm args below meth c H' locs' cells' slots' Q (F0 mm s'.1 ls' (s'.2.2.1.map (gw_rv (gw_rho z0 ro))))) :
    W p l e R s mm args below meth c H locs cells slots Q (F0 mm pc ls (st.map (gw_rv (gw_rho z0 ro)))) := by
  obtain ⟨hx, hb, hml, hown, hts, hinit, hSR⟩ := cx
  obtain ⟨d1, d2, d3, d4, d5, d6, d7⟩ := d
  have hl := gw_len_of 0 hlen rfl
  subst hl
  obtain ⟨x, r, hst, hq⟩ := gw_l1_some hs
  clear hs
  subst hst
  have hs := hq
  clear hq
  cases hs
  exact lv_l2i hx hb hd rfl (kk _ _ _ _ _ ⟨d1, d2, d3, gw_okS_c gw_ok_i (gw_okS_tl d4), d5, d6, d7⟩)
set_option maxHeartbeats 4000000 in
theorem gs_goto (cx : gw_Cx D ca z0 ro rc M p s mm args meth c) {pc len t : Nat} {z : Int} {cs : Int32} (hd : decode M.2.2.1 pc = .ok (.goto z, len)) (hlen : gw_len (.goto z) = 0 ∨ gw_len (.goto z) = len) (hT : gw_okT M.1 pc (.goto z) t cs = true) {L : gw_L} {st : List Value} {h : gw_H} {s' : gw_S} (hs : gw_ins M.1 M.2.2.2.2.2.2.1 (.goto z) t cs pc L st h = some s')
    (d : gw_Dy D ca z0 ro rc M.2.2.2.1 nb zb s L st h ls H locs cells slots) (hfr : 1 ≤ R.frames ∧ 64 ≤ R.locals) (hrc : s'.2.2.2.2.1 ≤ nb + R.cells) (hrs : s'.2.2.2.2.2 ≤ zb + R.slots)
    (kk : ∀ (ls' : Array Slot) (H' : Heap) (locs' : List Loc) (cells' slots' : Nat), gw_Dy D ca z0 ro rc M.2.2.2.1 nb zb s s'.2.1 s'.2.2.1 s'.2.2.2 ls' H' locs' cells' slots' → W p l e R s mm args below meth c H' locs' cells' slots' Q (F0 mm s'.1 ls' (s'.2.2.1.map (gw_rv (gw_rho z0 ro))))) :
    W p l e R s mm args below meth c H locs cells slots Q (F0 mm pc ls (st.map (gw_rv (gw_rho z0 ro)))) := by
  obtain ⟨hx, hb, hml, hown, hts, hinit, hSR⟩ := cx
  obtain ⟨d1, d2, d3, d4, d5, d6, d7⟩ := d
  have hl := gw_len_of 2 hlen rfl
  subst hl
  cases hs
  exact lv_goto hx hb hd (of_decide_eq_true hT) (kk _ _ _ _ _ ⟨d1, d2, d3, d4, d5, d6, d7⟩)
set_option maxHeartbeats 4000000 in
theorem gs_if_eq (cx : gw_Cx D ca z0 ro rc M p s mm args meth c) {pc len t : Nat} {z : Int} {cs : Int32} (hd : decode M.2.2.1 pc = .ok (.ifCond .eq z, len)) (hlen : gw_len (.ifCond .eq z) = 0 ∨ gw_len (.ifCond .eq z) = len) (hT : gw_okT M.1 pc (.ifCond .eq z) t cs = true) {L : gw_L} {st : List Value} {h : gw_H} {s' : gw_S} (hs : gw_ins M.1 M.2.2.2.2.2.2.1 (.ifCond .eq z) t cs pc L st h = some s')
    (d : gw_Dy D ca z0 ro rc M.2.2.2.1 nb zb s L st h ls H locs cells slots) (hfr : 1 ≤ R.frames ∧ 64 ≤ R.locals) (hrc : s'.2.2.2.2.1 ≤ nb + R.cells) (hrs : s'.2.2.2.2.2 ≤ zb + R.slots)
    (kk : ∀ (ls' : Array Slot) (H' : Heap) (locs' : List Loc) (cells' slots' : Nat), gw_Dy D ca z0 ro rc M.2.2.2.1 nb zb s s'.2.1 s'.2.2.1 s'.2.2.2 ls' H' locs' cells' slots' → W p l e R s mm args below meth c H' locs' cells' slots' Q (F0 mm s'.1 ls' (s'.2.2.1.map (gw_rv (gw_rho z0 ro))))) :
    W p l e R s mm args below meth c H locs cells slots Q (F0 mm pc ls (st.map (gw_rv (gw_rho z0 ro)))) := by
  obtain ⟨hx, hb, hml, hown, hts, hinit, hSR⟩ := cx
  obtain ⟨d1, d2, d3, d4, d5, d6, d7⟩ := d
  have hl := gw_len_of 2 hlen rfl
  subst hl
  obtain ⟨x, r, hst, hq⟩ := gw_i1_some hs
  clear hs
  subst hst
  have hs := hq
  clear hq
  cases hs
  have k := kk ls H locs cells slots ⟨d1, d2, d3, gw_okS_tl d4, d5, d6, d7⟩
  exact lv_if_eq hx hb hd (of_decide_eq_true hT) (fun hp => by simp only [if_pos hp] at k; exact k) (fun hp => by simp only [if_neg hp] at k; exact k)
set_option maxHeartbeats 4000000 in
theorem gs_icmp_eq (cx : gw_Cx D ca z0 ro rc M p s mm args meth c) {pc len t : Nat} {z : Int} {cs : Int32} (hd : decode M.2.2.1 pc = .ok (.if_icmp .eq z, len)) (hlen : gw_len (.if_icmp .eq z) = 0 ∨ gw_len (.if_icmp .eq z) = len) (hT : gw_okT M.1 pc (.if_icmp .eq z) t cs = true) {L : gw_L} {st : List Value} {h : gw_H} {s' : gw_S} (hs : gw_ins M.1 M.2.2.2.2.2.2.1 (.if_icmp .eq z) t cs pc L st h = some s')
    (d : gw_Dy D ca z0 ro rc M.2.2.2.1 nb zb s L st h ls H locs cells slots) (hfr : 1 ≤ R.frames ∧ 64 ≤ R.locals) (hrc : s'.2.2.2.2.1 ≤ nb + R.cells) (hrs : s'.2.2.2.2.2 ≤ zb + R.slots)
    (kk : ∀ (ls' : Array Slot) (H' : Heap) (locs' : List Loc) (cells' slots' : Nat), gw_Dy D ca z0 ro rc M.2.2.2.1 nb zb s s'.2.1 s'.2.2.1 s'.2.2.2 ls' H' locs' cells' slots' → W p l e R s mm args below meth c H' locs' cells' slots' Q (F0 mm s'.1 ls' (s'.2.2.1.map (gw_rv (gw_rho z0 ro))))) :
    W p l e R s mm args below meth c H locs cells slots Q (F0 mm pc ls (st.map (gw_rv (gw_rho z0 ro)))) := by
  obtain ⟨hx, hb, hml, hown, hts, hinit, hSR⟩ := cx
  obtain ⟨d1, d2, d3, d4, d5, d6, d7⟩ := d
  have hl := gw_len_of 2 hlen rfl
  subst hl
  obtain ⟨x, y, r, hst, hq⟩ := gw_ii_some hs
  clear hs
  subst hst
  have hs := hq
  clear hq
  cases hs
  have k := kk ls H locs cells slots ⟨d1, d2, d3, gw_okS_tl (gw_okS_tl d4), d5, d6, d7⟩
  exact lv_icmp_eq hx hb hd (of_decide_eq_true hT) (fun hp => by simp only [if_pos hp] at k; exact k) (fun hp => by simp only [if_neg hp] at k; exact k)
set_option maxHeartbeats 4000000 in
theorem gs_if_ne (cx : gw_Cx D ca z0 ro rc M p s mm args meth c) {pc len t : Nat} {z : Int} {cs : Int32} (hd : decode M.2.2.1 pc = .ok (.ifCond .ne z, len)) (hlen : gw_len (.ifCond .ne z) = 0 ∨ gw_len (.ifCond .ne z) = len) (hT : gw_okT M.1 pc (.ifCond .ne z) t cs = true) {L : gw_L} {st : List Value} {h : gw_H} {s' : gw_S} (hs : gw_ins M.1 M.2.2.2.2.2.2.1 (.ifCond .ne z) t cs pc L st h = some s')
    (d : gw_Dy D ca z0 ro rc M.2.2.2.1 nb zb s L st h ls H locs cells slots) (hfr : 1 ≤ R.frames ∧ 64 ≤ R.locals) (hrc : s'.2.2.2.2.1 ≤ nb + R.cells) (hrs : s'.2.2.2.2.2 ≤ zb + R.slots)
    (kk : ∀ (ls' : Array Slot) (H' : Heap) (locs' : List Loc) (cells' slots' : Nat), gw_Dy D ca z0 ro rc M.2.2.2.1 nb zb s s'.2.1 s'.2.2.1 s'.2.2.2 ls' H' locs' cells' slots' → W p l e R s mm args below meth c H' locs' cells' slots' Q (F0 mm s'.1 ls' (s'.2.2.1.map (gw_rv (gw_rho z0 ro))))) :
    W p l e R s mm args below meth c H locs cells slots Q (F0 mm pc ls (st.map (gw_rv (gw_rho z0 ro)))) := by
  obtain ⟨hx, hb, hml, hown, hts, hinit, hSR⟩ := cx
  obtain ⟨d1, d2, d3, d4, d5, d6, d7⟩ := d
  have hl := gw_len_of 2 hlen rfl
  subst hl
  obtain ⟨x, r, hst, hq⟩ := gw_i1_some hs
  clear hs
  subst hst
  have hs := hq
  clear hq
  cases hs
  have k := kk ls H locs cells slots ⟨d1, d2, d3, gw_okS_tl d4, d5, d6, d7⟩
  exact lv_if_ne hx hb hd (of_decide_eq_true hT) (fun hp => by simp only [if_neg hp] at k; exact k) (fun hp => by simp only [if_pos hp] at k; exact k)
set_option maxHeartbeats 4000000 in
theorem gs_icmp_ne (cx : gw_Cx D ca z0 ro rc M p s mm args meth c) {pc len t : Nat} {z : Int} {cs : Int32} (hd : decode M.2.2.1 pc = .ok (.if_icmp .ne z, len)) (hlen : gw_len (.if_icmp .ne z) = 0 ∨ gw_len (.if_icmp .ne z) = len) (hT : gw_okT M.1 pc (.if_icmp .ne z) t cs = true) {L : gw_L} {st : List Value} {h : gw_H} {s' : gw_S} (hs : gw_ins M.1 M.2.2.2.2.2.2.1 (.if_icmp .ne z) t cs pc L st h = some s')
    (d : gw_Dy D ca z0 ro rc M.2.2.2.1 nb zb s L st h ls H locs cells slots) (hfr : 1 ≤ R.frames ∧ 64 ≤ R.locals) (hrc : s'.2.2.2.2.1 ≤ nb + R.cells) (hrs : s'.2.2.2.2.2 ≤ zb + R.slots)
    (kk : ∀ (ls' : Array Slot) (H' : Heap) (locs' : List Loc) (cells' slots' : Nat), gw_Dy D ca z0 ro rc M.2.2.2.1 nb zb s s'.2.1 s'.2.2.1 s'.2.2.2 ls' H' locs' cells' slots' → W p l e R s mm args below meth c H' locs' cells' slots' Q (F0 mm s'.1 ls' (s'.2.2.1.map (gw_rv (gw_rho z0 ro))))) :
    W p l e R s mm args below meth c H locs cells slots Q (F0 mm pc ls (st.map (gw_rv (gw_rho z0 ro)))) := by
  obtain ⟨hx, hb, hml, hown, hts, hinit, hSR⟩ := cx
  obtain ⟨d1, d2, d3, d4, d5, d6, d7⟩ := d
  have hl := gw_len_of 2 hlen rfl
  subst hl
  obtain ⟨x, y, r, hst, hq⟩ := gw_ii_some hs
  clear hs
  subst hst
  have hs := hq
  clear hq
  cases hs
  have k := kk ls H locs cells slots ⟨d1, d2, d3, gw_okS_tl (gw_okS_tl d4), d5, d6, d7⟩
  exact lv_icmp_ne hx hb hd (of_decide_eq_true hT) (fun hp => by simp only [if_neg hp] at k; exact k) (fun hp => by simp only [if_pos hp] at k; exact k)
set_option maxHeartbeats 4000000 in
theorem gs_if_lt (cx : gw_Cx D ca z0 ro rc M p s mm args meth c) {pc len t : Nat} {z : Int} {cs : Int32} (hd : decode M.2.2.1 pc = .ok (.ifCond .lt z, len)) (hlen : gw_len (.ifCond .lt z) = 0 ∨ gw_len (.ifCond .lt z) = len) (hT : gw_okT M.1 pc (.ifCond .lt z) t cs = true) {L : gw_L} {st : List Value} {h : gw_H} {s' : gw_S} (hs : gw_ins M.1 M.2.2.2.2.2.2.1 (.ifCond .lt z) t cs pc L st h = some s')
    (d : gw_Dy D ca z0 ro rc M.2.2.2.1 nb zb s L st h ls H locs cells slots) (hfr : 1 ≤ R.frames ∧ 64 ≤ R.locals) (hrc : s'.2.2.2.2.1 ≤ nb + R.cells) (hrs : s'.2.2.2.2.2 ≤ zb + R.slots)
    (kk : ∀ (ls' : Array Slot) (H' : Heap) (locs' : List Loc) (cells' slots' : Nat), gw_Dy D ca z0 ro rc M.2.2.2.1 nb zb s s'.2.1 s'.2.2.1 s'.2.2.2 ls' H' locs' cells' slots' → W p l e R s mm args below meth c H' locs' cells' slots' Q (F0 mm s'.1 ls' (s'.2.2.1.map (gw_rv (gw_rho z0 ro))))) :
    W p l e R s mm args below meth c H locs cells slots Q (F0 mm pc ls (st.map (gw_rv (gw_rho z0 ro)))) := by
  obtain ⟨hx, hb, hml, hown, hts, hinit, hSR⟩ := cx
  obtain ⟨d1, d2, d3, d4, d5, d6, d7⟩ := d
  have hl := gw_len_of 2 hlen rfl
  subst hl
  obtain ⟨x, r, hst, hq⟩ := gw_i1_some hs
  clear hs
  subst hst
  have hs := hq
  clear hq
  cases hs
  have k := kk ls H locs cells slots ⟨d1, d2, d3, gw_okS_tl d4, d5, d6, d7⟩
  exact lv_if_lt hx hb hd (of_decide_eq_true hT) (fun hp => by simp only [if_pos hp] at k; exact k) (fun hp => by simp only [if_neg hp] at k; exact k)
set_option maxHeartbeats 4000000 in
theorem gs_icmp_lt (cx : gw_Cx D ca z0 ro rc M p s mm args meth c) {pc len t : Nat} {z : Int} {cs : Int32} (hd : decode M.2.2.1 pc = .ok (.if_icmp .lt z, len)) (hlen : gw_len (.if_icmp .lt z) = 0 ∨ gw_len (.if_icmp .lt z) = len) (hT : gw_okT M.1 pc (.if_icmp .lt z) t cs = true) {L : gw_L} {st : List Value} {h : gw_H} {s' : gw_S} (hs : gw_ins M.1 M.2.2.2.2.2.2.1 (.if_icmp .lt z) t cs pc L st h = some s')
    (d : gw_Dy D ca z0 ro rc M.2.2.2.1 nb zb s L st h ls H locs cells slots) (hfr : 1 ≤ R.frames ∧ 64 ≤ R.locals) (hrc : s'.2.2.2.2.1 ≤ nb + R.cells) (hrs : s'.2.2.2.2.2 ≤ zb + R.slots)
    (kk : ∀ (ls' : Array Slot) (H' : Heap) (locs' : List Loc) (cells' slots' : Nat), gw_Dy D ca z0 ro rc M.2.2.2.1 nb zb s s'.2.1 s'.2.2.1 s'.2.2.2 ls' H' locs' cells' slots' → W p l e R s mm args below meth c H' locs' cells' slots' Q (F0 mm s'.1 ls' (s'.2.2.1.map (gw_rv (gw_rho z0 ro))))) :
    W p l e R s mm args below meth c H locs cells slots Q (F0 mm pc ls (st.map (gw_rv (gw_rho z0 ro)))) := by
  obtain ⟨hx, hb, hml, hown, hts, hinit, hSR⟩ := cx
  obtain ⟨d1, d2, d3, d4, d5, d6, d7⟩ := d
  have hl := gw_len_of 2 hlen rfl
  subst hl
  obtain ⟨x, y, r, hst, hq⟩ := gw_ii_some hs
  clear hs
  subst hst
  have hs := hq
  clear hq
  cases hs
  have k := kk ls H locs cells slots ⟨d1, d2, d3, gw_okS_tl (gw_okS_tl d4), d5, d6, d7⟩
  exact lv_icmp_lt hx hb hd (of_decide_eq_true hT) (fun hp => by simp only [if_pos hp] at k; exact k) (fun hp => by simp only [if_neg hp] at k; exact k)
set_option maxHeartbeats 4000000 in
theorem gs_if_ge (cx : gw_Cx D ca z0 ro rc M p s mm args meth c) {pc len t : Nat} {z : Int} {cs : Int32} (hd : decode M.2.2.1 pc = .ok (.ifCond .ge z, len)) (hlen : gw_len (.ifCond .ge z) = 0 ∨ gw_len (.ifCond .ge z) = len) (hT : gw_okT M.1 pc (.ifCond .ge z) t cs = true) {L : gw_L} {st : List Value} {h : gw_H} {s' : gw_S} (hs : gw_ins M.1 M.2.2.2.2.2.2.1 (.ifCond .ge z) t cs pc L st h = some s')
    (d : gw_Dy D ca z0 ro rc M.2.2.2.1 nb zb s L st h ls H locs cells slots) (hfr : 1 ≤ R.frames ∧ 64 ≤ R.locals) (hrc : s'.2.2.2.2.1 ≤ nb + R.cells) (hrs : s'.2.2.2.2.2 ≤ zb + R.slots)
    (kk : ∀ (ls' : Array Slot) (H' : Heap) (locs' : List Loc) (cells' slots' : Nat), gw_Dy D ca z0 ro rc M.2.2.2.1 nb zb s s'.2.1 s'.2.2.1 s'.2.2.2 ls' H' locs' cells' slots' → W p l e R s mm args below meth c H' locs' cells' slots' Q (F0 mm s'.1 ls' (s'.2.2.1.map (gw_rv (gw_rho z0 ro))))) :
    W p l e R s mm args below meth c H locs cells slots Q (F0 mm pc ls (st.map (gw_rv (gw_rho z0 ro)))) := by
  obtain ⟨hx, hb, hml, hown, hts, hinit, hSR⟩ := cx
  obtain ⟨d1, d2, d3, d4, d5, d6, d7⟩ := d
  have hl := gw_len_of 2 hlen rfl
  subst hl
  obtain ⟨x, r, hst, hq⟩ := gw_i1_some hs
  clear hs
  subst hst
  have hs := hq
  clear hq
  cases hs
  have k := kk ls H locs cells slots ⟨d1, d2, d3, gw_okS_tl d4, d5, d6, d7⟩
  exact lv_if_ge hx hb hd (of_decide_eq_true hT) (fun hp => by simp only [if_pos hp] at k; exact k) (fun hp => by simp only [if_neg hp] at k; exact k)
set_option maxHeartbeats 4000000 in
theorem gs_icmp_ge (cx : gw_Cx D ca z0 ro rc M p s mm args meth c) {pc len t : Nat} {z : Int} {cs : Int32} (hd : decode M.2.2.1 pc = .ok (.if_icmp .ge z, len)) (hlen : gw_len (.if_icmp .ge z) = 0 ∨ gw_len (.if_icmp .ge z) = len) (hT : gw_okT M.1 pc (.if_icmp .ge z) t cs = true) {L : gw_L} {st : List Value} {h : gw_H} {s' : gw_S} (hs : gw_ins M.1 M.2.2.2.2.2.2.1 (.if_icmp .ge z) t cs pc L st h = some s')
    (d : gw_Dy D ca z0 ro rc M.2.2.2.1 nb zb s L st h ls H locs cells slots) (hfr : 1 ≤ R.frames ∧ 64 ≤ R.locals) (hrc : s'.2.2.2.2.1 ≤ nb + R.cells) (hrs : s'.2.2.2.2.2 ≤ zb + R.slots)
    (kk : ∀ (ls' : Array Slot) (H' : Heap) (locs' : List Loc) (cells' slots' : Nat), gw_Dy D ca z0 ro rc M.2.2.2.1 nb zb s s'.2.1 s'.2.2.1 s'.2.2.2 ls' H' locs' cells' slots' → W p l e R s mm args below meth c H' locs' cells' slots' Q (F0 mm s'.1 ls' (s'.2.2.1.map (gw_rv (gw_rho z0 ro))))) :
    W p l e R s mm args below meth c H locs cells slots Q (F0 mm pc ls (st.map (gw_rv (gw_rho z0 ro)))) := by
  obtain ⟨hx, hb, hml, hown, hts, hinit, hSR⟩ := cx
  obtain ⟨d1, d2, d3, d4, d5, d6, d7⟩ := d
  have hl := gw_len_of 2 hlen rfl
  subst hl
  obtain ⟨x, y, r, hst, hq⟩ := gw_ii_some hs
  clear hs
  subst hst
  have hs := hq
  clear hq
  cases hs
  have k := kk ls H locs cells slots ⟨d1, d2, d3, gw_okS_tl (gw_okS_tl d4), d5, d6, d7⟩
  exact lv_icmp_ge hx hb hd (of_decide_eq_true hT) (fun hp => by simp only [if_pos hp] at k; exact k) (fun hp => by simp only [if_neg hp] at k; exact k)
set_option maxHeartbeats 4000000 in
theorem gs_if_gt (cx : gw_Cx D ca z0 ro rc M p s mm args meth c) {pc len t : Nat} {z : Int} {cs : Int32} (hd : decode M.2.2.1 pc = .ok (.ifCond .gt z, len)) (hlen : gw_len (.ifCond .gt z) = 0 ∨ gw_len (.ifCond .gt z) = len) (hT : gw_okT M.1 pc (.ifCond .gt z) t cs = true) {L : gw_L} {st : List Value} {h : gw_H} {s' : gw_S} (hs : gw_ins M.1 M.2.2.2.2.2.2.1 (.ifCond .gt z) t cs pc L st h = some s')
    (d : gw_Dy D ca z0 ro rc M.2.2.2.1 nb zb s L st h ls H locs cells slots) (hfr : 1 ≤ R.frames ∧ 64 ≤ R.locals) (hrc : s'.2.2.2.2.1 ≤ nb + R.cells) (hrs : s'.2.2.2.2.2 ≤ zb + R.slots)
    (kk : ∀ (ls' : Array Slot) (H' : Heap) (locs' : List Loc) (cells' slots' : Nat), gw_Dy D ca z0 ro rc M.2.2.2.1 nb zb s s'.2.1 s'.2.2.1 s'.2.2.2 ls' H' locs' cells' slots' → W p l e R s mm args below meth c H' locs' cells' slots' Q (F0 mm s'.1 ls' (s'.2.2.1.map (gw_rv (gw_rho z0 ro))))) :
    W p l e R s mm args below meth c H locs cells slots Q (F0 mm pc ls (st.map (gw_rv (gw_rho z0 ro)))) := by
  obtain ⟨hx, hb, hml, hown, hts, hinit, hSR⟩ := cx
  obtain ⟨d1, d2, d3, d4, d5, d6, d7⟩ := d
  have hl := gw_len_of 2 hlen rfl
  subst hl
  obtain ⟨x, r, hst, hq⟩ := gw_i1_some hs
  clear hs
  subst hst
  have hs := hq
  clear hq
  cases hs
  have k := kk ls H locs cells slots ⟨d1, d2, d3, gw_okS_tl d4, d5, d6, d7⟩
  exact lv_if_gt hx hb hd (of_decide_eq_true hT) (fun hp => by simp only [if_pos hp] at k; exact k) (fun hp => by simp only [if_neg hp] at k; exact k)
set_option maxHeartbeats 4000000 in
theorem gs_icmp_gt (cx : gw_Cx D ca z0 ro rc M p s mm args meth c) {pc len t : Nat} {z : Int} {cs : Int32} (hd : decode M.2.2.1 pc = .ok (.if_icmp .gt z, len)) (hlen : gw_len (.if_icmp .gt z) = 0 ∨ gw_len (.if_icmp .gt z) = len) (hT : gw_okT M.1 pc (.if_icmp .gt z) t cs = true) {L : gw_L} {st : List Value} {h : gw_H} {s' : gw_S} (hs : gw_ins M.1 M.2.2.2.2.2.2.1 (.if_icmp .gt z) t cs pc L st h = some s')
    (d : gw_Dy D ca z0 ro rc M.2.2.2.1 nb zb s L st h ls H locs cells slots) (hfr : 1 ≤ R.frames ∧ 64 ≤ R.locals) (hrc : s'.2.2.2.2.1 ≤ nb + R.cells) (hrs : s'.2.2.2.2.2 ≤ zb + R.slots)
    (kk : ∀ (ls' : Array Slot) (H' : Heap) (locs' : List Loc) (cells' slots' : Nat), gw_Dy D ca z0 ro rc M.2.2.2.1 nb zb s s'.2.1 s'.2.2.1 s'.2.2.2 ls' H' locs' cells' slots' → W p l e R s mm args below meth c H' locs' cells' slots' Q (F0 mm s'.1 ls' (s'.2.2.1.map (gw_rv (gw_rho z0 ro))))) :
    W p l e R s mm args below meth c H locs cells slots Q (F0 mm pc ls (st.map (gw_rv (gw_rho z0 ro)))) := by
  obtain ⟨hx, hb, hml, hown, hts, hinit, hSR⟩ := cx
  obtain ⟨d1, d2, d3, d4, d5, d6, d7⟩ := d
  have hl := gw_len_of 2 hlen rfl
  subst hl
  obtain ⟨x, y, r, hst, hq⟩ := gw_ii_some hs
  clear hs
  subst hst
  have hs := hq
  clear hq
  cases hs
  have k := kk ls H locs cells slots ⟨d1, d2, d3, gw_okS_tl (gw_okS_tl d4), d5, d6, d7⟩
  exact lv_icmp_gt hx hb hd (of_decide_eq_true hT) (fun hp => by simp only [if_pos hp] at k; exact k) (fun hp => by simp only [if_neg hp] at k; exact k)
set_option maxHeartbeats 4000000 in
theorem gs_if_le (cx : gw_Cx D ca z0 ro rc M p s mm args meth c) {pc len t : Nat} {z : Int} {cs : Int32} (hd : decode M.2.2.1 pc = .ok (.ifCond .le z, len)) (hlen : gw_len (.ifCond .le z) = 0 ∨ gw_len (.ifCond .le z) = len) (hT : gw_okT M.1 pc (.ifCond .le z) t cs = true) {L : gw_L} {st : List Value} {h : gw_H} {s' : gw_S} (hs : gw_ins M.1 M.2.2.2.2.2.2.1 (.ifCond .le z) t cs pc L st h = some s')
    (d : gw_Dy D ca z0 ro rc M.2.2.2.1 nb zb s L st h ls H locs cells slots) (hfr : 1 ≤ R.frames ∧ 64 ≤ R.locals) (hrc : s'.2.2.2.2.1 ≤ nb + R.cells) (hrs : s'.2.2.2.2.2 ≤ zb + R.slots)
    (kk : ∀ (ls' : Array Slot) (H' : Heap) (locs' : List Loc) (cells' slots' : Nat), gw_Dy D ca z0 ro rc M.2.2.2.1 nb zb s s'.2.1 s'.2.2.1 s'.2.2.2 ls' H' locs' cells' slots' → W p l e R s mm args below meth c H' locs' cells' slots' Q (F0 mm s'.1 ls' (s'.2.2.1.map (gw_rv (gw_rho z0 ro))))) :
    W p l e R s mm args below meth c H locs cells slots Q (F0 mm pc ls (st.map (gw_rv (gw_rho z0 ro)))) := by
  obtain ⟨hx, hb, hml, hown, hts, hinit, hSR⟩ := cx
  obtain ⟨d1, d2, d3, d4, d5, d6, d7⟩ := d
  have hl := gw_len_of 2 hlen rfl
  subst hl
  obtain ⟨x, r, hst, hq⟩ := gw_i1_some hs
  clear hs
  subst hst
  have hs := hq
  clear hq
  cases hs
  have k := kk ls H locs cells slots ⟨d1, d2, d3, gw_okS_tl d4, d5, d6, d7⟩
  exact lv_if_le hx hb hd (of_decide_eq_true hT) (fun hp => by simp only [if_pos hp] at k; exact k) (fun hp => by simp only [if_neg hp] at k; exact k)
set_option maxHeartbeats 4000000 in
theorem gs_icmp_le (cx : gw_Cx D ca z0 ro rc M p s mm args meth c) {pc len t : Nat} {z : Int} {cs : Int32} (hd : decode M.2.2.1 pc = .ok (.if_icmp .le z, len)) (hlen : gw_len (.if_icmp .le z) = 0 ∨ gw_len (.if_icmp .le z) = len) (hT : gw_okT M.1 pc (.if_icmp .le z) t cs = true) {L : gw_L} {st : List Value} {h : gw_H} {s' : gw_S} (hs : gw_ins M.1 M.2.2.2.2.2.2.1 (.if_icmp .le z) t cs pc L st h = some s')
    (d : gw_Dy D ca z0 ro rc M.2.2.2.1 nb zb s L st h ls H locs cells slots) (hfr : 1 ≤ R.frames ∧ 64 ≤ R.locals) (hrc : s'.2.2.2.2.1 ≤ nb + R.cells) (hrs : s'.2.2.2.2.2 ≤ zb + R.slots)
    (kk : ∀ (ls' : Array Slot) (H' : Heap) (locs' : List Loc) (cells' slots' : Nat), gw_Dy D ca z0 ro rc M.2.2.2.1 nb zb s s'.2.1 s'.2.2.1 s'.2.2.2 ls' H' locs' cells' slots' → W p l e R s mm args below meth c H' locs' cells' slots' Q (F0 mm s'.1 ls' (s'.2.2.1.map (gw_rv (gw_rho z0 ro))))) :
    W p l e R s mm args below meth c H locs cells slots Q (F0 mm pc ls (st.map (gw_rv (gw_rho z0 ro)))) := by
  obtain ⟨hx, hb, hml, hown, hts, hinit, hSR⟩ := cx
  obtain ⟨d1, d2, d3, d4, d5, d6, d7⟩ := d
  have hl := gw_len_of 2 hlen rfl
  subst hl
  obtain ⟨x, y, r, hst, hq⟩ := gw_ii_some hs
  clear hs
  subst hst
  have hs := hq
  clear hq
  cases hs
  have k := kk ls H locs cells slots ⟨d1, d2, d3, gw_okS_tl (gw_okS_tl d4), d5, d6, d7⟩
  exact lv_icmp_le hx hb hd (of_decide_eq_true hT) (fun hp => by simp only [if_pos hp] at k; exact k) (fun hp => by simp only [if_neg hp] at k; exact k)
set_option maxHeartbeats 4000000 in
theorem gs_tsw (cx : gw_Cx D ca z0 ro rc M p s mm args meth c) {pc len t : Nat} {df : Int} {lo : Int} {hi : Int} {offs : Array Int} {cs : Int32} (hd : decode M.2.2.1 pc = .ok (.tableswitch df lo hi offs, len)) (hlen : gw_len (.tableswitch df lo hi offs) = 0 ∨ gw_len (.tableswitch df lo hi offs) = len) (hT : gw_okT M.1 pc (.tableswitch df lo hi offs) t cs = true) {L : gw_L} {st : List Value} {h : gw_H} {s' : gw_S} (hs : gw_ins M.1 M.2.2.2.2.2.2.1 (.tableswitch df lo hi offs) t cs pc L st h = some s')
    (d : gw_Dy D ca z0 ro rc M.2.2.2.1 nb zb s L st h ls H locs cells slots) (hfr : 1 ≤ R.frames ∧ 64 ≤ R.locals) (hrc : s'.2.2.2.2.1 ≤ nb + R.cells) (hrs : s'.2.2.2.2.2 ≤ zb + R.slots)
    (kk : ∀ (ls' : Array Slot) (H' : Heap) (locs' : List Loc) (cells' slots' : Nat), gw_Dy D ca z0 ro rc M.2.2.2.1 nb zb s s'.2.1 s'.2.2.1 s'.2.2.2 ls' H' locs' cells' slots' → W p l e R s mm args below meth c H' locs' cells' slots' Q (F0 mm s'.1 ls' (s'.2.2.1.map (gw_rv (gw_rho z0 ro))))) :
    W p l e R s mm args below meth c H locs cells slots Q (F0 mm pc ls (st.map (gw_rv (gw_rho z0 ro)))) := by
  obtain ⟨hx, hb, hml, hown, hts, hinit, hSR⟩ := cx
  obtain ⟨d1, d2, d3, d4, d5, d6, d7⟩ := d
  obtain ⟨x, r, hst, hq⟩ := gw_i1_some hs
  clear hs
  subst hst
  have hs := hq
  clear hq
  cases hs
  have k := kk ls H locs cells slots ⟨d1, d2, d3, gw_okS_tl d4, d5, d6, d7⟩
  simp only [gw_okT, Bool.and_eq_true, decide_eq_true_eq, List.all_eq_true] at hT
  obtain ⟨⟨t1, t2⟩, t3⟩ := hT
  dsimp only [gw_tsw] at k
  by_cases ho : x.toInt < lo ∨ hi < x.toInt
  · rw [if_pos ho] at k
    exact lv_tableOut hx hb hd ho (by omega) k
  · rw [if_neg ho] at k
    have hlt : (x.toInt - lo).toNat < offs.size := by omega
    rw [Array.getElem?_eq_getElem hlt] at k
    dsimp only at k
    have t4 := t2 _ (Array.getElem_mem_toList hlt)
    exact lv_tableIn hx hb hd (fun q => ho (Or.inl q)) (fun q => ho (Or.inr q)) (Array.getElem?_eq_getElem hlt) (by omega) k
set_option maxHeartbeats 4000000 in
theorem gs_lsw (cx : gw_Cx D ca z0 ro rc M p s mm args meth c) {pc len t : Nat} {df : Int} {ps : Array (Int × Int)} {cs : Int32} (hd : decode M.2.2.1 pc = .ok (.lookupswitch df ps, len)) (hlen : gw_len (.lookupswitch df ps) = 0 ∨ gw_len (.lookupswitch df ps) = len) (hT : gw_okT M.1 pc (.lookupswitch df ps) t cs = true) {L : gw_L} {st : List Value} {h : gw_H} {s' : gw_S} (hs : gw_ins M.1 M.2.2.2.2.2.2.1 (.lookupswitch df ps) t cs pc L st h = some s')
    (d : gw_Dy D ca z0 ro rc M.2.2.2.1 nb zb s L st h ls H locs cells slots) (hfr : 1 ≤ R.frames ∧ 64 ≤ R.locals) (hrc : s'.2.2.2.2.1 ≤ nb + R.cells) (hrs : s'.2.2.2.2.2 ≤ zb + R.slots)
    (kk : ∀ (ls' : Array Slot) (H' : Heap) (locs' : List Loc) (cells' slots' : Nat), gw_Dy D ca z0 ro rc M.2.2.2.1 nb zb s s'.2.1 s'.2.2.1 s'.2.2.2 ls' H' locs' cells' slots' → W p l e R s mm args below meth c H' locs' cells' slots' Q (F0 mm s'.1 ls' (s'.2.2.1.map (gw_rv (gw_rho z0 ro))))) :
    W p l e R s mm args below meth c H locs cells slots Q (F0 mm pc ls (st.map (gw_rv (gw_rho z0 ro)))) := by
  obtain ⟨hx, hb, hml, hown, hts, hinit, hSR⟩ := cx
  obtain ⟨d1, d2, d3, d4, d5, d6, d7⟩ := d
  obtain ⟨x, r, hst, hq⟩ := gw_i1_some hs
  clear hs
  subst hst
  have hs := hq
  clear hq
  cases hs
  have k := kk ls H locs cells slots ⟨d1, d2, d3, gw_okS_tl d4, d5, d6, d7⟩
  simp only [gw_okT, Bool.and_eq_true, decide_eq_true_eq, List.all_eq_true (p := fun x : Int × Int => decide (0 ≤ (pc : Int) + x.2))] at hT
  obtain ⟨⟨t1, t2⟩, t3⟩ := hT
  have t4 : 0 ≤ (pc : Int) + Op.lookupswitch.offset ps.toList df x.toInt := gw_lsw_off t1 t2
  exact lv_lookup hx hb hd t3 rfl (by omega) k
set_option maxHeartbeats 4000000 in
theorem gs_dup (cx : gw_Cx D ca z0 ro rc M p s mm args meth c) {pc len t : Nat} {cs : Int32} (hd : decode M.2.2.1 pc = .ok (.dup, len)) (hlen : gw_len (.dup) = 0 ∨ gw_len (.dup) = len) (hT : gw_okT M.1 pc (.dup) t cs = true) {L : gw_L} {st : List Value} {h : gw_H} {s' : gw_S} (hs : gw_ins M.1 M.2.2.2.2.2.2.1 (.dup) t cs pc L st h = some s')
    (d : gw_Dy D ca z0 ro rc M.2.2.2.1 nb zb s L st h ls H locs cells slots) (hfr : 1 ≤ R.frames ∧ 64 ≤ R.locals) (hrc : s'.2.2.2.2.1 ≤ nb + R.cells) (hrs : s'.2.2.2.2.2 ≤ zb + R.slots)
    (kk : ∀ (ls' : Array Slot) (H' : Heap) (locs' : List Loc) (cells' slots' : Nat), gw_Dy D ca z0 ro rc M.2.2.2.1 nb zb s s'.2.1 s'.2.2.1 s'.2.2.2 ls' H' locs' cells' slots' → W p l e R s mm args below meth c H' locs' cells' slots' Q (F0 mm s'.1 ls' (s'.2.2.1.map (gw_rv (gw_rho z0 ro))))) :
    W p l e R s mm args below meth c H locs cells slots Q (F0 mm pc ls (st.map (gw_rv (gw_rho z0 ro)))) := by
  obtain ⟨hx, hb, hml, hown, hts, hinit, hSR⟩ := cx
  obtain ⟨d1, d2, d3, d4, d5, d6, d7⟩ := d
  have hl := gw_len_of 0 hlen rfl
  subst hl
  dsimp only [gw_ins] at hs
  split at hs
  · rename_i v r
    split at hs
    · rename_i hc
      cases hs
      exact lv_dup hx hb hd ((gw_rv_cat _ v).trans hc) (kk _ _ _ _ _ ⟨d1, d2, d3, gw_okS_c (gw_okS_hd d4) d4, d5, d6, d7⟩)
    · cases hs
  · cases hs
set_option maxHeartbeats 4000000 in
theorem gs_dup2 (cx : gw_Cx D ca z0 ro rc M p s mm args meth c) {pc len t : Nat} {cs : Int32} (hd : decode M.2.2.1 pc = .ok (.dup2, len)) (hlen : gw_len (.dup2) = 0 ∨ gw_len (.dup2) = len) (hT : gw_okT M.1 pc (.dup2) t cs = true) {L : gw_L} {st : List Value} {h : gw_H} {s' : gw_S} (hs : gw_ins M.1 M.2.2.2.2.2.2.1 (.dup2) t cs pc L st h = some s')
    (d : gw_Dy D ca z0 ro rc M.2.2.2.1 nb zb s L st h ls H locs cells slots) (hfr : 1 ≤ R.frames ∧ 64 ≤ R.locals) (hrc : s'.2.2.2.2.1 ≤ nb + R.cells) (hrs : s'.2.2.2.2.2 ≤ zb + R.slots)
    (kk : ∀ (ls' : Array Slot) (H' : Heap) (locs' : List Loc) (cells' slots' : Nat), gw_Dy D ca z0 ro rc M.2.2.2.1 nb zb s s'.2.1 s'.2.2.1 s'.2.2.2 ls' H' locs' cells' slots' → W p l e R s mm args below meth c H' locs' cells' slots' Q (F0 mm s'.1 ls' (s'.2.2.1.map (gw_rv (gw_rho z0 ro))))) :
    W p l e R s mm args below meth c H locs cells slots Q (F0 mm pc ls (st.map (gw_rv (gw_rho z0 ro)))) := by
  obtain ⟨hx, hb, hml, hown, hts, hinit, hSR⟩ := cx
  obtain ⟨d1, d2, d3, d4, d5, d6, d7⟩ := d
  have hl := gw_len_of 0 hlen rfl
  subst hl
  dsimp only [gw_ins] at hs
  split at hs
  · rename_i v w r
    split at hs
    · rename_i hc
      cases hs
      exact lv_dup2_11 hx hb hd ((gw_rv_cat _ v).trans hc.1) ((gw_rv_cat _ w).trans hc.2) (kk _ _ _ _ _ ⟨d1, d2, d3, gw_okS_c (gw_okS_hd d4) (gw_okS_c (gw_okS_hd (gw_okS_tl d4)) d4), d5, d6, d7⟩)
    · cases hs
  · cases hs
set_option maxHeartbeats 4000000 in
theorem gs_pop (cx : gw_Cx D ca z0 ro rc M p s mm args meth c) {pc len t : Nat} {cs : Int32} (hd : decode M.2.2.1 pc = .ok (.pop, len)) (hlen : gw_len (.pop) = 0 ∨ gw_len (.pop) = len) (hT : gw_okT M.1 pc (.pop) t cs = true) {L : gw_L} {st : List Value} {h : gw_H} {s' : gw_S} (hs : gw_ins M.1 M.2.2.2.2.2.2.1 (.pop) t cs pc L st h = some s')
    (d : gw_Dy D ca z0 ro rc M.2.2.2.1 nb zb s L st h ls H locs cells slots) (hfr : 1 ≤ R.frames ∧ 64 ≤ R.locals) (hrc : s'.2.2.2.2.1 ≤ nb + R.cells) (hrs : s'.2.2.2.2.2 ≤ zb + R.slots)
    (kk : ∀ (ls' : Array Slot) (H' : Heap) (locs' : List Loc) (cells' slots' : Nat), gw_Dy D ca z0 ro rc M.2.2.2.1 nb zb s s'.2.1 s'.2.2.1 s'.2.2.2 ls' H' locs' cells' slots' → W p l e R s mm args below meth c H' locs' cells' slots' Q (F0 mm s'.1 ls' (s'.2.2.1.map (gw_rv (gw_rho z0 ro))))) :
    W p l e R s mm args below meth c H locs cells slots Q (F0 mm pc ls (st.map (gw_rv (gw_rho z0 ro)))) := by
  obtain ⟨hx, hb, hml, hown, hts, hinit, hSR⟩ := cx
  obtain ⟨d1, d2, d3, d4, d5, d6, d7⟩ := d
  have hl := gw_len_of 0 hlen rfl
  subst hl
  dsimp only [gw_ins] at hs
  split at hs
  · rename_i v r
    split at hs
    · rename_i hc
      cases hs
      exact lv_pop hx hb hd ((gw_rv_cat _ v).trans hc) (kk _ _ _ _ _ ⟨d1, d2, d3, gw_okS_tl d4, d5, d6, d7⟩)
    · cases hs
  · cases hs
set_option maxHeartbeats 4000000 in
theorem gs_getfield (cx : gw_Cx D ca z0 ro rc M p s mm args meth c) {pc len t : Nat} {idx : Nat} {cs : Int32} (hd : decode M.2.2.1 pc = .ok (.getfield idx, len)) (hlen : gw_len (.getfield idx) = 0 ∨ gw_len (.getfield idx) = len) (hT : gw_okT M.1 pc (.getfield idx) t cs = true) {L : gw_L} {st : List Value} {h : gw_H} {s' : gw_S} (hs : gw_ins M.1 M.2.2.2.2.2.2.1 (.getfield idx) t cs pc L st h = some s')
    (d : gw_Dy D ca z0 ro rc M.2.2.2.1 nb zb s L st h ls H locs cells slots) (hfr : 1 ≤ R.frames ∧ 64 ≤ R.locals) (hrc : s'.2.2.2.2.1 ≤ nb + R.cells) (hrs : s'.2.2.2.2.2 ≤ zb + R.slots)
    (kk : ∀ (ls' : Array Slot) (H' : Heap) (locs' : List Loc) (cells' slots' : Nat), gw_Dy D ca z0 ro rc M.2.2.2.1 nb zb s s'.2.1 s'.2.2.1 s'.2.2.2 ls' H' locs' cells' slots' → W p l e R s mm args below meth c H' locs' cells' slots' Q (F0 mm s'.1 ls' (s'.2.2.1.map (gw_rv (gw_rho z0 ro))))) :
    W p l e R s mm args below meth c H locs cells slots Q (F0 mm pc ls (st.map (gw_rv (gw_rho z0 ro)))) := by
  obtain ⟨hx, hb, hml, hown, hts, hinit, hSR⟩ := cx
  obtain ⟨d1, d2, d3, d4, d5, d6, d7⟩ := d
  have hl := gw_len_of 2 hlen rfl
  subst hl
  obtain ⟨ci, k, v0, hp, hs⟩ := gw_fld_some hs
  obtain ⟨a, r, hst, hq⟩ := gw_r1_some hs
  clear hs
  subst hst
  have hs := hq
  clear hq
  obtain ⟨fs, ho, hs⟩ := gw_obj_some hs
  split at hs
  · rename_i v hv
    split at hs
    · rename_i ha
      cases hs
      obtain ⟨C, T, N, hc, hk, hC, hlk⟩ := gw_fact_P0 hp
      obtain ⟨hK, -⟩ := hSR
      have hlt : a < h.2.1 := gw_okS_hd d4 a rfl
      obtain ⟨hat, hok⟩ := d2.2.2.1 a ha hlt
      rw [ho] at hat hok
      have hg : gw_rv (gw_rho z0 ro) (.ref a) = .ref (z0 + (a - 8)) := by show Value.ref (gw_rho z0 ro a) = _; rw [gw_rho_hi ha]
      show W _ _ _ _ _ _ _ _ _ _ _ _ _ _ _ (F0 mm pc ls (gw_rv (gw_rho z0 ro) (.ref a) :: r.map (gw_rv (gw_rho z0 ro))))
      rw [hg]
      exact va_get hx hb hts (gw_fact_C hc).1 hown hK (gw_P1 hat) 0 rfl hc k hk (hts _ (gw_tb_in hlk rfl)) (fun x h9 => by rw [hC] at h9; exact h9) (by rw [List.getElem?_map, hv]; rfl) hd (kk _ _ _ _ _ ⟨d1, d2, d3, gw_okS_c (hok v (List.mem_of_getElem? hv)) (gw_okS_tl d4), d5, d6, d7⟩)
    · cases hs
  · cases hs
set_option maxHeartbeats 4000000 in
theorem gs_putfield (cx : gw_Cx D ca z0 ro rc M p s mm args meth c) {pc len t : Nat} {idx : Nat} {cs : Int32} (hd : decode M.2.2.1 pc = .ok (.putfield idx, len)) (hlen : gw_len (.putfield idx) = 0 ∨ gw_len (.putfield idx) = len) (hT : gw_okT M.1 pc (.putfield idx) t cs = true) {L : gw_L} {st : List Value} {h : gw_H} {s' : gw_S} (hs : gw_ins M.1 M.2.2.2.2.2.2.1 (.putfield idx) t cs pc L st h = some s')
    (d : gw_Dy D ca z0 ro rc M.2.2.2.1 nb zb s L st h ls H locs cells slots) (hfr : 1 ≤ R.frames ∧ 64 ≤ R.locals) (hrc : s'.2.2.2.2.1 ≤ nb + R.cells) (hrs : s'.2.2.2.2.2 ≤ zb + R.slots)
    (kk : ∀ (ls' : Array Slot) (H' : Heap) (locs' : List Loc) (cells' slots' : Nat), gw_Dy D ca z0 ro rc M.2.2.2.1 nb zb s s'.2.1 s'.2.2.1 s'.2.2.2 ls' H' locs' cells' slots' → W p l e R s mm args below meth c H' locs' cells' slots' Q (F0 mm s'.1 ls' (s'.2.2.1.map (gw_rv (gw_rho z0 ro))))) :
    W p l e R s mm args below meth c H locs cells slots Q (F0 mm pc ls (st.map (gw_rv (gw_rho z0 ro)))) := by
  obtain ⟨hx, hb, hml, hown, hts, hinit, hSR⟩ := cx
  obtain ⟨d1, d2, d3, d4, d5, d6, d7⟩ := d
  have hl := gw_len_of 2 hlen rfl
  subst hl
  obtain ⟨ci, k, v0, hp, hs⟩ := gw_fld_some hs
  split at hs
  · rename_i v a r z9
    obtain ⟨fs, ho, hs⟩ := gw_obj_some hs
    split at hs
    · rename_i C T N hc
      split at hs
      · rename_i hcnd
        obtain ⟨ha, hkl, hfit, hfin⟩ := hcnd
        cases hs
        obtain ⟨C', T', N', hc', hk, hC, hlk⟩ := gw_fact_P0 hp
        cases hc.symm.trans hc'
        have hlt : a < h.2.1 := gw_okS_hd (gw_okS_tl d4) a rfl
        obtain ⟨hat, hok⟩ := d2.2.2.1 a ha hlt
        rw [ho] at hat hok
        have hg : gw_rv (gw_rho z0 ro) (.ref a) = .ref (z0 + (a - 8)) := by show Value.ref (gw_rho z0 ro a) = _; rw [gw_rho_hi ha]
        show W _ _ _ _ _ _ _ _ _ _ _ _ _ _ _ (F0 mm pc ls (gw_rv (gw_rho z0 ro) v :: gw_rv (gw_rho z0 ro) (.ref a) :: r.map (gw_rv (gw_rho z0 ro))))
        rw [hg]
        have hcn : ∀ c0, vwCl[c0]? = some (C, T, N) → gw_cnm c0 = C := gw_cn_cl
        refine gw_put (M := M) (D := D) (ca := ca) (z0 := z0) (ro := ro) (rc := rc) ⟨hx, hb, hml, hown, hts, hinit, hSR⟩ hd hc hk hC hlk hat (by rw [List.length_map]; exact hkl) (by rw [gw_fit_rv]; exact hfit) (fun hf => ⟨(hfin hf).1, by rw [(hfin hf).2]; exact hcn ci hc⟩) fun H' q hq hn hz ho2 => ?_
        rw [← List.map_set] at hn
        exact kk ls H' _ cells slots ⟨d1, d2.put ha (fun w hw => by
          rcases List.mem_or_eq_of_mem_set hw with hw | rfl
          · exact hok w hw
          · exact gw_okS_hd d4) hn hz ho2, gw_S_put d3 hq hz ho2, gw_okS_tl (gw_okS_tl d4), d5, d6, d7⟩
      · cases hs
    · cases hs
  · cases hs
set_option maxHeartbeats 4000000 in
theorem gs_getstatic (cx : gw_Cx D ca z0 ro rc M p s mm args meth c) {pc len t : Nat} {idx : Nat} {cs : Int32} (hd : decode M.2.2.1 pc = .ok (.getstatic idx, len)) (hlen : gw_len (.getstatic idx) = 0 ∨ gw_len (.getstatic idx) = len) (hT : gw_okT M.1 pc (.getstatic idx) t cs = true) {L : gw_L} {st : List Value} {h : gw_H} {s' : gw_S} (hs : gw_ins M.1 M.2.2.2.2.2.2.1 (.getstatic idx) t cs pc L st h = some s')
    (d : gw_Dy D ca z0 ro rc M.2.2.2.1 nb zb s L st h ls H locs cells slots) (hfr : 1 ≤ R.frames ∧ 64 ≤ R.locals) (hrc : s'.2.2.2.2.1 ≤ nb + R.cells) (hrs : s'.2.2.2.2.2 ≤ zb + R.slots)
    (kk : ∀ (ls' : Array Slot) (H' : Heap) (locs' : List Loc) (cells' slots' : Nat), gw_Dy D ca z0 ro rc M.2.2.2.1 nb zb s s'.2.1 s'.2.2.1 s'.2.2.2 ls' H' locs' cells' slots' → W p l e R s mm args below meth c H' locs' cells' slots' Q (F0 mm s'.1 ls' (s'.2.2.1.map (gw_rv (gw_rho z0 ro))))) :
    W p l e R s mm args below meth c H locs cells slots Q (F0 mm pc ls (st.map (gw_rv (gw_rho z0 ro)))) := by
  obtain ⟨hx, hb, hml, hown, hts, hinit, hSR⟩ := cx
  obtain ⟨d1, d2, d3, d4, d5, d6, d7⟩ := d
  have hl := gw_len_of 2 hlen rfl
  subst hl
  dsimp only [gw_ins] at hs
  split at hs
  · rename_i j v1 v2 hp
    cases hs
    obtain ⟨ix, hP⟩ := gw_fact_P hp
    dsimp only [gw_okP] at hP
    simp only [Bool.and_eq_true, decide_eq_true_eq] at hP
    obtain ⟨hj, hlk⟩ := hP
    obtain ⟨hK, hX, hZ, hz, -⟩ := hSR
    have k := kk ls H locs cells slots ⟨d1, d2, d3, gw_okS_c (fun a ha => by cases ha; exact Nat.lt_of_lt_of_le (by omega) d2.1) d4, d5, d6, d7⟩
    have hg : gw_rv (gw_rho z0 ro) (.ref j) = .ref (ro j) := by show Value.ref (gw_rho z0 ro j) = _; rw [gw_rho_lo (by omega)]
    simp only [List.map_cons, hg] at k
    exact va_gets hx hb (hZ j hj.1 hj.2) d3 hown (hts _ (gw_tb_in (gw_ti_in hlk) rfl)) (fun x h9 => h9) hd k
  · cases hs
set_option maxHeartbeats 4000000 in
theorem gs_iaload (cx : gw_Cx D ca z0 ro rc M p s mm args meth c) {pc len t : Nat} {cs : Int32} (hd : decode M.2.2.1 pc = .ok (.iaload, len)) (hlen : gw_len (.iaload) = 0 ∨ gw_len (.iaload) = len) (hT : gw_okT M.1 pc (.iaload) t cs = true) {L : gw_L} {st : List Value} {h : gw_H} {s' : gw_S} (hs : gw_ins M.1 M.2.2.2.2.2.2.1 (.iaload) t cs pc L st h = some s')
    (d : gw_Dy D ca z0 ro rc M.2.2.2.1 nb zb s L st h ls H locs cells slots) (hfr : 1 ≤ R.frames ∧ 64 ≤ R.locals) (hrc : s'.2.2.2.2.1 ≤ nb + R.cells) (hrs : s'.2.2.2.2.2 ≤ zb + R.slots)
    (kk : ∀ (ls' : Array Slot) (H' : Heap) (locs' : List Loc) (cells' slots' : Nat), gw_Dy D ca z0 ro rc M.2.2.2.1 nb zb s s'.2.1 s'.2.2.1 s'.2.2.2 ls' H' locs' cells' slots' → W p l e R s mm args below meth c H' locs' cells' slots' Q (F0 mm s'.1 ls' (s'.2.2.1.map (gw_rv (gw_rho z0 ro))))) :
    W p l e R s mm args below meth c H locs cells slots Q (F0 mm pc ls (st.map (gw_rv (gw_rho z0 ro)))) := by
  obtain ⟨hx, hb, hml, hown, hts, hinit, hSR⟩ := cx
  obtain ⟨d1, d2, d3, d4, d5, d6, d7⟩ := d
  have hl := gw_len_of 0 hlen rfl
  subst hl
  obtain ⟨a, i, r, hst, hq⟩ := gw_ri_some hs
  clear hs
  subst hst
  have hs := hq
  clear hq
  obtain ⟨n, f, ho, hs⟩ := gw_arr_some hs
  split at hs
  · cases hs
  · rename_i hin
    cases hs
    obtain ⟨hK, hX, hZ, hz, -⟩ := hSR
    have k := kk ls H locs cells slots ⟨d1, d2, d3, gw_okS_c gw_ok_i (gw_okS_tl (gw_okS_tl d4)), d5, d6, d7⟩
    have hlt : a < h.2.1 := gw_okS_hd (gw_okS_tl d4) a rfl
    by_cases ha : 8 ≤ a
    · obtain ⟨hat, hok⟩ := d2.2.2.1 a ha hlt
      rw [ho] at hat
      have hg : gw_rv (gw_rho z0 ro) (.ref a) = .ref (z0 + (a - 8)) := by show Value.ref (gw_rho z0 ro a) = _; rw [gw_rho_hi ha]
      show W _ _ _ _ _ _ _ _ _ _ _ _ _ _ _ (F0 mm pc ls (.int i :: gw_rv (gw_rho z0 ro) (.ref a) :: r.map (gw_rv (gw_rho z0 ro))))
      rw [hg]
      exact va_iald hx hb hK (gw_P1 hat) 0 0 rfl rfl hin hd k
    · have ha : a < 8 := Nat.lt_of_not_le ha
      have hr := d2.2.2.2 a ha
      rw [ho] at hr
      simp only [Sum.inl.injEq, Prod.mk.injEq, true_and] at hr
      have hX1 := hX a ha
      rw [← hr] at hX1
      have hg : gw_rv (gw_rho z0 ro) (.ref a) = .ref (ro a) := by show Value.ref (gw_rho z0 ro a) = _; rw [gw_rho_lo ha]
      show W _ _ _ _ _ _ _ _ _ _ _ _ _ _ _ (F0 mm pc ls (.int i :: gw_rv (gw_rho z0 ro) (.ref a) :: r.map (gw_rv (gw_rho z0 ro))))
      rw [hg]
      exact va_ti hx hb hX1 d3 hin rfl hd k
set_option maxHeartbeats 4000000 in
theorem gs_baload (cx : gw_Cx D ca z0 ro rc M p s mm args meth c) {pc len t : Nat} {cs : Int32} (hd : decode M.2.2.1 pc = .ok (.baload, len)) (hlen : gw_len (.baload) = 0 ∨ gw_len (.baload) = len) (hT : gw_okT M.1 pc (.baload) t cs = true) {L : gw_L} {st : List Value} {h : gw_H} {s' : gw_S} (hs : gw_ins M.1 M.2.2.2.2.2.2.1 (.baload) t cs pc L st h = some s')
    (d : gw_Dy D ca z0 ro rc M.2.2.2.1 nb zb s L st h ls H locs cells slots) (hfr : 1 ≤ R.frames ∧ 64 ≤ R.locals) (hrc : s'.2.2.2.2.1 ≤ nb + R.cells) (hrs : s'.2.2.2.2.2 ≤ zb + R.slots)
    (kk : ∀ (ls' : Array Slot) (H' : Heap) (locs' : List Loc) (cells' slots' : Nat), gw_Dy D ca z0 ro rc M.2.2.2.1 nb zb s s'.2.1 s'.2.2.1 s'.2.2.2 ls' H' locs' cells' slots' → W p l e R s mm args below meth c H' locs' cells' slots' Q (F0 mm s'.1 ls' (s'.2.2.1.map (gw_rv (gw_rho z0 ro))))) :
    W p l e R s mm args below meth c H locs cells slots Q (F0 mm pc ls (st.map (gw_rv (gw_rho z0 ro)))) := by
  obtain ⟨hx, hb, hml, hown, hts, hinit, hSR⟩ := cx
  obtain ⟨d1, d2, d3, d4, d5, d6, d7⟩ := d
  have hl := gw_len_of 0 hlen rfl
  subst hl
  obtain ⟨a, i, r, hst, hq⟩ := gw_ri_some hs
  clear hs
  subst hst
  have hs := hq
  clear hq
  obtain ⟨n, f, ho, hs⟩ := gw_arr_some hs
  split at hs
  · cases hs
  · rename_i hin
    split at hs
    · rename_i ha
      cases hs
      obtain ⟨hK, hX, hZ, hz, -⟩ := hSR
      have k := kk ls H locs cells slots ⟨d1, d2, d3, gw_okS_c gw_ok_i (gw_okS_tl (gw_okS_tl d4)), d5, d6, d7⟩
      have hlt : a < h.2.1 := gw_okS_hd (gw_okS_tl d4) a rfl
      obtain ⟨hat, hok⟩ := d2.2.2.1 a ha hlt
      rw [ho] at hat
      have hg : gw_rv (gw_rho z0 ro) (.ref a) = .ref (z0 + (a - 8)) := by show Value.ref (gw_rho z0 ro a) = _; rw [gw_rho_hi ha]
      show W _ _ _ _ _ _ _ _ _ _ _ _ _ _ _ (F0 mm pc ls (.int i :: gw_rv (gw_rho z0 ro) (.ref a) :: r.map (gw_rv (gw_rho z0 ro))))
      rw [hg]
      exact va_zald hx hb hK (gw_P1 hat) 0 1 rfl rfl hin hd k
    · cases hs
set_option maxHeartbeats 4000000 in
theorem gs_iastore (cx : gw_Cx D ca z0 ro rc M p s mm args meth c) {pc len t : Nat} {cs : Int32} (hd : decode M.2.2.1 pc = .ok (.iastore, len)) (hlen : gw_len (.iastore) = 0 ∨ gw_len (.iastore) = len) (hT : gw_okT M.1 pc (.iastore) t cs = true) {L : gw_L} {st : List Value} {h : gw_H} {s' : gw_S} (hs : gw_ins M.1 M.2.2.2.2.2.2.1 (.iastore) t cs pc L st h = some s')
    (d : gw_Dy D ca z0 ro rc M.2.2.2.1 nb zb s L st h ls H locs cells slots) (hfr : 1 ≤ R.frames ∧ 64 ≤ R.locals) (hrc : s'.2.2.2.2.1 ≤ nb + R.cells) (hrs : s'.2.2.2.2.2 ≤ zb + R.slots)
    (kk : ∀ (ls' : Array Slot) (H' : Heap) (locs' : List Loc) (cells' slots' : Nat), gw_Dy D ca z0 ro rc M.2.2.2.1 nb zb s s'.2.1 s'.2.2.1 s'.2.2.2 ls' H' locs' cells' slots' → W p l e R s mm args below meth c H' locs' cells' slots' Q (F0 mm s'.1 ls' (s'.2.2.1.map (gw_rv (gw_rho z0 ro))))) :
    W p l e R s mm args below meth c H locs cells slots Q (F0 mm pc ls (st.map (gw_rv (gw_rho z0 ro)))) := by
  obtain ⟨hx, hb, hml, hown, hts, hinit, hSR⟩ := cx
  obtain ⟨d1, d2, d3, d4, d5, d6, d7⟩ := d
  have hl := gw_len_of 0 hlen rfl
  subst hl
  obtain ⟨a, i, x, r, hst, hq⟩ := gw_rii_some hs
  clear hs
  subst hst
  have hs := hq
  clear hq
  obtain ⟨n, f, ho, hs⟩ := gw_arr_some hs
  split at hs
  · cases hs
  · rename_i hin
    split at hs
    · rename_i ha
      cases hs
      obtain ⟨hK, hX, hZ, hz, -⟩ := hSR
      have hlt : a < h.2.1 := gw_okS_hd (gw_okS_tl (gw_okS_tl d4)) a rfl
      obtain ⟨hat, hok⟩ := d2.2.2.1 a ha hlt
      rw [ho] at hat
      have hat' : H[z0 + (a - 8)]? = some (vp_cell (ca 0) (n, .inl f)) := hat
      have hg : gw_rv (gw_rho z0 ro) (.ref a) = .ref (z0 + (a - 8)) := by show Value.ref (gw_rho z0 ro a) = _; rw [gw_rho_hi ha]
      show W _ _ _ _ _ _ _ _ _ _ _ _ _ _ _ (F0 mm pc ls (.int x :: .int i :: gw_rv (gw_rho z0 ro) (.ref a) :: r.map (gw_rv (gw_rho z0 ro))))
      rw [hg]
      refine W.iast hx hb hat' ((hK.2 0 _ rfl).1 n (fun j => .int (f j))) (fun q => by cases q) (by show ¬ (i < 0 ∨ (arrV _ _ _).slots.size ≤ _); rw [arrV_size]; exact hin) rfl rfl hd fun H1 e1 z1 oq => ?_
      have hn : va_at D vwCl (z0 + (a - 8), gw_rc (gw_rho z0 ro) ca (.inl (0, n, upd f i.toNatClampNeg x))) H1 := by
        show H1[_]? = some (vp_cell _ _)
        rw [e1, vp_cell_i, vp_cell_i, arrV_store]
        congr 2
        funext q
        by_cases hq : q = i.toNatClampNeg
        · subst hq
          simp [updV, upd, narrow]
        · simp [updV, upd, hq]
      exact kk ls H1 _ cells slots ⟨d1, d2.put ha trivial hn z1 oq, gw_S_put d3 rfl z1 oq, gw_okS_tl (gw_okS_tl (gw_okS_tl d4)), d5, d6, d7⟩
    · cases hs
set_option maxHeartbeats 4000000 in
theorem gs_bastore (cx : gw_Cx D ca z0 ro rc M p s mm args meth c) {pc len t : Nat} {cs : Int32} (hd : decode M.2.2.1 pc = .ok (.bastore, len)) (hlen : gw_len (.bastore) = 0 ∨ gw_len (.bastore) = len) (hT : gw_okT M.1 pc (.bastore) t cs = true) {L : gw_L} {st : List Value} {h : gw_H} {s' : gw_S} (hs : gw_ins M.1 M.2.2.2.2.2.2.1 (.bastore) t cs pc L st h = some s')
    (d : gw_Dy D ca z0 ro rc M.2.2.2.1 nb zb s L st h ls H locs cells slots) (hfr : 1 ≤ R.frames ∧ 64 ≤ R.locals) (hrc : s'.2.2.2.2.1 ≤ nb + R.cells) (hrs : s'.2.2.2.2.2 ≤ zb + R.slots)
    (kk : ∀ (ls' : Array Slot) (H' : Heap) (locs' : List Loc) (cells' slots' : Nat), gw_Dy D ca z0 ro rc M.2.2.2.1 nb zb s s'.2.1 s'.2.2.1 s'.2.2.2 ls' H' locs' cells' slots' → W p l e R s mm args below meth c H' locs' cells' slots' Q (F0 mm s'.1 ls' (s'.2.2.1.map (gw_rv (gw_rho z0 ro))))) :
    W p l e R s mm args below meth c H locs cells slots Q (F0 mm pc ls (st.map (gw_rv (gw_rho z0 ro)))) := by
  obtain ⟨hx, hb, hml, hown, hts, hinit, hSR⟩ := cx
  obtain ⟨d1, d2, d3, d4, d5, d6, d7⟩ := d
  have hl := gw_len_of 0 hlen rfl
  subst hl
  obtain ⟨a, i, x, r, hst, hq⟩ := gw_rii_some hs
  clear hs
  subst hst
  have hs := hq
  clear hq
  obtain ⟨n, f, ho, hs⟩ := gw_arr_some hs
  split at hs
  · cases hs
  · rename_i hin
    split at hs
    · rename_i ha
      cases hs
      obtain ⟨hK, hX, hZ, hz, -⟩ := hSR
      have hlt : a < h.2.1 := gw_okS_hd (gw_okS_tl (gw_okS_tl d4)) a rfl
      obtain ⟨hat, hok⟩ := d2.2.2.1 a ha hlt
      rw [ho] at hat
      have hat' : H[z0 + (a - 8)]? = some (vp_cell (ca 1) (n, .inl f)) := hat
      have hg : gw_rv (gw_rho z0 ro) (.ref a) = .ref (z0 + (a - 8)) := by show Value.ref (gw_rho z0 ro a) = _; rw [gw_rho_hi ha]
      show W _ _ _ _ _ _ _ _ _ _ _ _ _ _ _ (F0 mm pc ls (.int x :: .int i :: gw_rv (gw_rho z0 ro) (.ref a) :: r.map (gw_rv (gw_rho z0 ro))))
      rw [hg]
      refine W.zast hx hb hat' ((hK.2 1 _ rfl).1 n (fun j => .int (f j))) (fun q => by cases q) (by show ¬ (i < 0 ∨ (arrV _ _ _).slots.size ≤ _); rw [arrV_size]; exact hin) rfl rfl hd fun H1 e1 z1 oq => ?_
      have hn : va_at D vwCl (z0 + (a - 8), gw_rc (gw_rho z0 ro) ca (.inl (1, n, upd f i.toNatClampNeg (x &&& 1)))) H1 := by
        show H1[_]? = some (vp_cell _ _)
        rw [e1, vp_cell_i, vp_cell_i, arrV_store]
        congr 2
        funext q
        by_cases hq : q = i.toNatClampNeg
        · subst hq
          simp [updV, upd, narrow]
        · simp [updV, upd, hq]
      exact kk ls H1 _ cells slots ⟨d1, d2.put ha trivial hn z1 oq, gw_S_put d3 rfl z1 oq, gw_okS_tl (gw_okS_tl (gw_okS_tl d4)), d5, d6, d7⟩
    · cases hs
set_option maxHeartbeats 4000000 in
theorem gs_alen (cx : gw_Cx D ca z0 ro rc M p s mm args meth c) {pc len t : Nat} {cs : Int32} (hd : decode M.2.2.1 pc = .ok (.arraylength, len)) (hlen : gw_len (.arraylength) = 0 ∨ gw_len (.arraylength) = len) (hT : gw_okT M.1 pc (.arraylength) t cs = true) {L : gw_L} {st : List Value} {h : gw_H} {s' : gw_S} (hs : gw_ins M.1 M.2.2.2.2.2.2.1 (.arraylength) t cs pc L st h = some s')
    (d : gw_Dy D ca z0 ro rc M.2.2.2.1 nb zb s L st h ls H locs cells slots) (hfr : 1 ≤ R.frames ∧ 64 ≤ R.locals) (hrc : s'.2.2.2.2.1 ≤ nb + R.cells) (hrs : s'.2.2.2.2.2 ≤ zb + R.slots)
    (kk : ∀ (ls' : Array Slot) (H' : Heap) (locs' : List Loc) (cells' slots' : Nat), gw_Dy D ca z0 ro rc M.2.2.2.1 nb zb s s'.2.1 s'.2.2.1 s'.2.2.2 ls' H' locs' cells' slots' → W p l e R s mm args below meth c H' locs' cells' slots' Q (F0 mm s'.1 ls' (s'.2.2.1.map (gw_rv (gw_rho z0 ro))))) :
    W p l e R s mm args below meth c H locs cells slots Q (F0 mm pc ls (st.map (gw_rv (gw_rho z0 ro)))) := by
  obtain ⟨hx, hb, hml, hown, hts, hinit, hSR⟩ := cx
  obtain ⟨d1, d2, d3, d4, d5, d6, d7⟩ := d
  have hl := gw_len_of 0 hlen rfl
  subst hl
  obtain ⟨a, r, hst, hq⟩ := gw_r1_some hs
  clear hs
  subst hst
  have hs := hq
  clear hq
  obtain ⟨n, f, ho, hs⟩ := gw_arr_some hs
  cases hs
  obtain ⟨hK, hX, hZ, hz, -⟩ := hSR
  have k := kk ls H locs cells slots ⟨d1, d2, d3, gw_okS_c gw_ok_i (gw_okS_tl d4), d5, d6, d7⟩
  have hlt : a < h.2.1 := gw_okS_hd d4 a rfl
  by_cases ha : 8 ≤ a
  · obtain ⟨hat, hok⟩ := d2.2.2.1 a ha hlt
    rw [ho] at hat
    have hg : gw_rv (gw_rho z0 ro) (.ref a) = .ref (z0 + (a - 8)) := by show Value.ref (gw_rho z0 ro a) = _; rw [gw_rho_hi ha]
    show W _ _ _ _ _ _ _ _ _ _ _ _ _ _ _ (F0 mm pc ls (gw_rv (gw_rho z0 ro) (.ref a) :: r.map (gw_rv (gw_rho z0 ro))))
    rw [hg]
    exact va_alen hx hb hK (gw_P1 hat) 0 0 rfl rfl rfl hd k
  · have ha : a < 8 := Nat.lt_of_not_le ha
    have hr := d2.2.2.2 a ha
    rw [ho] at hr
    simp only [Sum.inl.injEq, Prod.mk.injEq, true_and] at hr
    have hX1 := hX a ha
    rw [← hr] at hX1
    have hg : gw_rv (gw_rho z0 ro) (.ref a) = .ref (ro a) := by show Value.ref (gw_rho z0 ro a) = _; rw [gw_rho_lo ha]
    show W _ _ _ _ _ _ _ _ _ _ _ _ _ _ _ (F0 mm pc ls (gw_rv (gw_rho z0 ro) (.ref a) :: r.map (gw_rv (gw_rho z0 ro))))
    rw [hg]
    exact va_tlen hx hb hX1 d3 rfl hd k
set_option maxHeartbeats 4000000 in
theorem gs_new (cx : gw_Cx D ca z0 ro rc M p s mm args meth c) {pc len t : Nat} {idx : Nat} {cs : Int32} (hd : decode M.2.2.1 pc = .ok (.new idx, len)) (hlen : gw_len (.new idx) = 0 ∨ gw_len (.new idx) = len) (hT : gw_okT M.1 pc (.new idx) t cs = true) {L : gw_L} {st : List Value} {h : gw_H} {s' : gw_S} (hs : gw_ins M.1 M.2.2.2.2.2.2.1 (.new idx) t cs pc L st h = some s')
    (d : gw_Dy D ca z0 ro rc M.2.2.2.1 nb zb s L st h ls H locs cells slots) (hfr : 1 ≤ R.frames ∧ 64 ≤ R.locals) (hrc : s'.2.2.2.2.1 ≤ nb + R.cells) (hrs : s'.2.2.2.2.2 ≤ zb + R.slots)
    (kk : ∀ (ls' : Array Slot) (H' : Heap) (locs' : List Loc) (cells' slots' : Nat), gw_Dy D ca z0 ro rc M.2.2.2.1 nb zb s s'.2.1 s'.2.2.1 s'.2.2.2 ls' H' locs' cells' slots' → W p l e R s mm args below meth c H' locs' cells' slots' Q (F0 mm s'.1 ls' (s'.2.2.1.map (gw_rv (gw_rho z0 ro))))) :
    W p l e R s mm args below meth c H locs cells slots Q (F0 mm pc ls (st.map (gw_rv (gw_rho z0 ro)))) := by
  obtain ⟨hx, hb, hml, hown, hts, hinit, hSR⟩ := cx
  obtain ⟨d1, d2, d3, d4, d5, d6, d7⟩ := d
  have hl := gw_len_of 2 hlen rfl
  subst hl
  dsimp only [gw_ins] at hs
  split at hs
  · rename_i ci v1 v2 hp
    split at hs
    · rename_i C T N hc
      cases hs
      obtain ⟨C', T', N', hc', p1, p2, p3⟩ := gw_fact_P2 hp
      cases hc.symm.trans hc'
      obtain ⟨hK, hX, hZ, hz, -⟩ := hSR
      obtain ⟨hin, hty, hnm⟩ := gw_fact_C hc
      have hKn := hK.1 ci _ hc
      have hr1 : h.2.1 + 1 ≤ nb + R.cells := hrc
      have hr2 : h.2.2 + N ≤ zb + R.slots := hrs
      refine W.newcK hx hb hown (hts _ (gw_tb_in p1 rfl)) (hts _ (gw_tb_in p2 rfl)) (hts _ (gw_tb_in p3 rfl)) rfl hd (by omega) (by omega) hKn.2.1 rfl fun H1 kC hkC e1 z1 o1 => ?_
      have hn : va_at D vwCl (H.size, gw_rc (gw_rho z0 ro) ca (.inr (ci, (List.range N).map fun k => gw_dv (gw_ty ci k)))) H1 := by
        refine ⟨_, hc, (u_born (gw_ty ci) hts hin hKn hkC e1 hty).to fun k hk => ?_⟩
        show defaultValue (gw_ty ci k) = vp_V (((List.range N).map fun k => gw_dv (gw_ty ci k)).map (gw_rv (gw_rho z0 ro))) k
        have hlt : k < ((((List.range N).map fun k => gw_dv (gw_ty ci k)).map (gw_rv (gw_rho z0 ro)))).length := by simp [hk]
        have hge : ((((List.range N).map fun k => gw_dv (gw_ty ci k)).map (gw_rv (gw_rho z0 ro))))[k]? = some (gw_rv (gw_rho z0 ro) (gw_dv (gw_ty ci k))) := by simp [hk]
        simp only [vp_V, List.getD_eq_getElem?_getD, hge, Option.getD_some]
        exact gw_dv_def (hty k hk) hc hk
      have k := kk ls H1 locs (cells + 1) (slots + N) ⟨d1, d2.new gw_dv_ok hn z1 o1, gw_S_new d3 z1 o1, gw_okS_c (fun a ha => by cases ha; exact Nat.lt_succ_self _) (gw_okS_mono (Nat.le_succ _) d4), gw_okL_mono (Nat.le_succ _) d5, by show cells + 1 + nb = h.2.1 + 1; omega, by show slots + N + zb = h.2.2 + N; omega⟩
      have hg : gw_rv (gw_rho z0 ro) (.ref h.2.1) = .ref H.size := by show Value.ref (gw_rho z0 ro h.2.1) = _; rw [gw_rho_hi d2.1, d2.2.1]
      simp only [List.map_cons, hg] at k
      exact k
    · cases hs
  · cases hs
set_option maxHeartbeats 4000000 in
theorem gs_newarray_int (cx : gw_Cx D ca z0 ro rc M p s mm args meth c) {pc len t : Nat} {cs : Int32} (hd : decode M.2.2.1 pc = .ok (.newarray .int, len)) (hlen : gw_len (.newarray .int) = 0 ∨ gw_len (.newarray .int) = len) (hT : gw_okT M.1 pc (.newarray .int) t cs = true) {L : gw_L} {st : List Value} {h : gw_H} {s' : gw_S} (hs : gw_ins M.1 M.2.2.2.2.2.2.1 (.newarray .int) t cs pc L st h = some s')
    (d : gw_Dy D ca z0 ro rc M.2.2.2.1 nb zb s L st h ls H locs cells slots) (hfr : 1 ≤ R.frames ∧ 64 ≤ R.locals) (hrc : s'.2.2.2.2.1 ≤ nb + R.cells) (hrs : s'.2.2.2.2.2 ≤ zb + R.slots)
    (kk : ∀ (ls' : Array Slot) (H' : Heap) (locs' : List Loc) (cells' slots' : Nat), gw_Dy D ca z0 ro rc M.2.2.2.1 nb zb s s'.2.1 s'.2.2.1 s'.2.2.2 ls' H' locs' cells' slots' → W p l e R s mm args below meth c H' locs' cells' slots' Q (F0 mm s'.1 ls' (s'.2.2.1.map (gw_rv (gw_rho z0 ro))))) :
    W p l e R s mm args below meth c H locs cells slots Q (F0 mm pc ls (st.map (gw_rv (gw_rho z0 ro)))) := by
  obtain ⟨hx, hb, hml, hown, hts, hinit, hSR⟩ := cx
  obtain ⟨d1, d2, d3, d4, d5, d6, d7⟩ := d
  have hl := gw_len_of 1 hlen rfl
  subst hl
  obtain ⟨x, r, hst, hq⟩ := gw_i1_some hs
  clear hs
  subst hst
  have hs := hq
  clear hq
  split at hs
  · cases hs
  · rename_i hin
    cases hs
    obtain ⟨hK, hX, hZ, hz, -⟩ := hSR
    have hr1 : h.2.1 + 1 ≤ nb + R.cells := hrc
    have hr2 : h.2.2 + x.toNatClampNeg ≤ zb + R.slots := hrs
    refine va_newaK (atype := .int) hx hb (hts _ (gw_tb_in gw_arw.1 rfl)) rfl hd rfl (fun q => hin (Or.inl q)) rfl (by have : ¬ 100000 < x.toNatClampNeg := fun q => hin (Or.inr q); simp only [newarray.typeOf, componentBytes]; omega) (by omega) (by omega) rfl fun H1 cA e1 z1 o1 hAr hNm => ?_
    have hca : cA = ca 0 := by
      have h9 : s.vm.findClass ("[" ++ (newarray.typeOf .int).toString) = some (ca 0) := (hK.2 0 _ rfl).2
      exact Option.some.inj (hNm.symm.trans h9)
    subst hca
    have hn : va_at D vwCl (H.size, gw_rc (gw_rho z0 ro) ca (.inl (0, x.toNatClampNeg, fun _ => 0))) H1 := e1
    have k := kk ls H1 locs (cells + 1) (slots + x.toNatClampNeg) ⟨d1, d2.new trivial hn z1 o1, gw_S_new d3 z1 o1, gw_okS_c (fun a ha => by cases ha; exact Nat.lt_succ_self _) (gw_okS_mono (Nat.le_succ _) (gw_okS_tl d4)), gw_okL_mono (Nat.le_succ _) d5, by show cells + 1 + nb = h.2.1 + 1; omega, by show slots + x.toNatClampNeg + zb = h.2.2 + x.toNatClampNeg; omega⟩
    have hg : gw_rv (gw_rho z0 ro) (.ref h.2.1) = .ref H.size := by show Value.ref (gw_rho z0 ro h.2.1) = _; rw [gw_rho_hi d2.1, d2.2.1]
    simp only [List.map_cons, hg] at k
    exact k
set_option maxHeartbeats 4000000 in
theorem gs_newarray_boolean (cx : gw_Cx D ca z0 ro rc M p s mm args meth c) {pc len t : Nat} {cs : Int32} (hd : decode M.2.2.1 pc = .ok (.newarray .boolean, len)) (hlen : gw_len (.newarray .boolean) = 0 ∨ gw_len (.newarray .boolean) = len) (hT : gw_okT M.1 pc (.newarray .boolean) t cs = true) {L : gw_L} {st : List Value} {h : gw_H} {s' : gw_S} (hs : gw_ins M.1 M.2.2.2.2.2.2.1 (.newarray .boolean) t cs pc L st h = some s')
    (d : gw_Dy D ca z0 ro rc M.2.2.2.1 nb zb s L st h ls H locs cells slots) (hfr : 1 ≤ R.frames ∧ 64 ≤ R.locals) (hrc : s'.2.2.2.2.1 ≤ nb + R.cells) (hrs : s'.2.2.2.2.2 ≤ zb + R.slots)
    (kk : ∀ (ls' : Array Slot) (H' : Heap) (locs' : List Loc) (cells' slots' : Nat), gw_Dy D ca z0 ro rc M.2.2.2.1 nb zb s s'.2.1 s'.2.2.1 s'.2.2.2 ls' H' locs' cells' slots' → W p l e R s mm args below meth c H' locs' cells' slots' Q (F0 mm s'.1 ls' (s'.2.2.1.map (gw_rv (gw_rho z0 ro))))) :
    W p l e R s mm args below meth c H locs cells slots Q (F0 mm pc ls (st.map (gw_rv (gw_rho z0 ro)))) := by
  obtain ⟨hx, hb, hml, hown, hts, hinit, hSR⟩ := cx
  obtain ⟨d1, d2, d3, d4, d5, d6, d7⟩ := d
  have hl := gw_len_of 1 hlen rfl
  subst hl
  obtain ⟨x, r, hst, hq⟩ := gw_i1_some hs
  clear hs
  subst hst
  have hs := hq
  clear hq
  split at hs
  · cases hs
  · rename_i hin
    cases hs
    obtain ⟨hK, hX, hZ, hz, -⟩ := hSR
    have hr1 : h.2.1 + 1 ≤ nb + R.cells := hrc
    have hr2 : h.2.2 + x.toNatClampNeg ≤ zb + R.slots := hrs
    refine va_newaK (atype := .boolean) hx hb (hts _ (gw_tb_in gw_arw.2 rfl)) rfl hd rfl (fun q => hin (Or.inl q)) rfl (by have : ¬ 100000 < x.toNatClampNeg := fun q => hin (Or.inr q); simp only [newarray.typeOf, componentBytes]; omega) (by omega) (by omega) rfl fun H1 cA e1 z1 o1 hAr hNm => ?_
    have hca : cA = ca 1 := by
      have h9 : s.vm.findClass ("[" ++ (newarray.typeOf .boolean).toString) = some (ca 1) := (hK.2 1 _ rfl).2
      exact Option.some.inj (hNm.symm.trans h9)
    subst hca
    have hn : va_at D vwCl (H.size, gw_rc (gw_rho z0 ro) ca (.inl (1, x.toNatClampNeg, fun _ => 0))) H1 := e1
    have k := kk ls H1 locs (cells + 1) (slots + x.toNatClampNeg) ⟨d1, d2.new trivial hn z1 o1, gw_S_new d3 z1 o1, gw_okS_c (fun a ha => by cases ha; exact Nat.lt_succ_self _) (gw_okS_mono (Nat.le_succ _) (gw_okS_tl d4)), gw_okL_mono (Nat.le_succ _) d5, by show cells + 1 + nb = h.2.1 + 1; omega, by show slots + x.toNatClampNeg + zb = h.2.2 + x.toNatClampNeg; omega⟩
    have hg : gw_rv (gw_rho z0 ro) (.ref h.2.1) = .ref H.size := by show Value.ref (gw_rho z0 ro h.2.1) = _; rw [gw_rho_hi d2.1, d2.2.1]
    simp only [List.map_cons, hg] at k
    exact k
set_option maxHeartbeats 4000000 in
theorem gs_objinit (cx : gw_Cx D ca z0 ro rc M p s mm args meth c) {pc len t : Nat} {idx : Nat} {cs : Int32} (hd : decode M.2.2.1 pc = .ok (.invokespecial idx, len)) (hlen : gw_len (.invokespecial idx) = 0 ∨ gw_len (.invokespecial idx) = len) (hT : gw_okT M.1 pc (.invokespecial idx) t cs = true) {L : gw_L} {st : List Value} {h : gw_H} {s' : gw_S} (hs : gw_ins M.1 M.2.2.2.2.2.2.1 (.invokespecial idx) t cs pc L st h = some s')
    (d : gw_Dy D ca z0 ro rc M.2.2.2.1 nb zb s L st h ls H locs cells slots) (hfr : 1 ≤ R.frames ∧ 64 ≤ R.locals) (hrc : s'.2.2.2.2.1 ≤ nb + R.cells) (hrs : s'.2.2.2.2.2 ≤ zb + R.slots)
    (kk : ∀ (ls' : Array Slot) (H' : Heap) (locs' : List Loc) (cells' slots' : Nat), gw_Dy D ca z0 ro rc M.2.2.2.1 nb zb s s'.2.1 s'.2.2.1 s'.2.2.2 ls' H' locs' cells' slots' → W p l e R s mm args below meth c H' locs' cells' slots' Q (F0 mm s'.1 ls' (s'.2.2.1.map (gw_rv (gw_rho z0 ro))))) :
    W p l e R s mm args below meth c H locs cells slots Q (F0 mm pc ls (st.map (gw_rv (gw_rho z0 ro)))) := by
  obtain ⟨hx, hb, hml, hown, hts, hinit, hSR⟩ := cx
  obtain ⟨d1, d2, d3, d4, d5, d6, d7⟩ := d
  have hl := gw_len_of 2 hlen rfl
  subst hl
  dsimp only [gw_ins] at hs
  split at hs
  · rename_i v1 v2 v3 hp
    obtain ⟨a, r, hst, hq⟩ := gw_r1_some hs
    clear hs
    subst hst
    have hs := hq
    clear hq
    split at hs
    · rename_i hsum
      cases hs
      obtain ⟨ix, hP⟩ := gw_fact_P hp
      have hcat : ((r.map (gw_rv (gw_rho z0 ro))).map fun v => v.category).sum ≤ 8 := by
        rw [List.map_map, show ((fun v : Value => v.category) ∘ gw_rv (gw_rho z0 ro)) = fun v => v.category from funext fun v => gw_rv_cat _ v]
        exact hsum
      have hroom := lv_room (m := mm) (pc := pc) (ls := ls) (rest := []) hcat
      exact W.objInit (g := F0 mm pc ls _) hx hb hown (hts _ (gw_tb_in (gw_ti_in hP) rfl)) (hts _ (gw_tb_in gw_obi.1 rfl)) (hts _ (gw_tb_in gw_obi.2 rfl)) rfl (d1.1.trans hml.symm) rfl hd hfr.1 (Nat.le_trans (Nat.add_le_add_right hroom 12) (by omega)) (kk _ _ _ _ _ ⟨d1, d2, d3, gw_okS_tl d4, d5, d6, d7⟩)
    · cases hs
  · cases hs
end INS
end
section
/-! the interpreter's runs are the machine's -/
section SND
variable {D : va_G} {ca : Nat → ClassId} {z0 : Nat} {ro : Nat → Nat} {rc : Nat → Nat × (Nat → Int32)} {M : gw_M} {nb zb : Nat}
variable {p : Program} {l : Launch} {e : Env} {R : Room} {s : State} {mm : MethodId} {args : Array Value} {below : List Frame} {meth : Method} {c : Code} {H : Heap} {locs : List Loc} {cells slots : Nat} {Q : State → Prop} {ls : Array Slot}
set_option maxHeartbeats 4000000 in
theorem gw_step (cx : gw_Cx D ca z0 ro rc M p s mm args meth c) {pc len t : Nat} {i : Instr} {cs : Int32} (hd : decode M.2.2.1 pc = .ok (i, len)) (hlen : gw_len i = 0 ∨ gw_len i = len) (hT : gw_okT M.1 pc i t cs = true) {L : gw_L} {st : List Value} {h : gw_H} {s' : gw_S} (hs : gw_ins M.1 M.2.2.2.2.2.2.1 i t cs pc L st h = some s')
    (d : gw_Dy D ca z0 ro rc M.2.2.2.1 nb zb s L st h ls H locs cells slots) (hfr : 1 ≤ R.frames ∧ 64 ≤ R.locals) (hrc : s'.2.2.2.2.1 ≤ nb + R.cells) (hrs : s'.2.2.2.2.2 ≤ zb + R.slots)
    (kk : ∀ (ls' : Array Slot) (H' : Heap) (locs' : List Loc) (cells' slots' : Nat), gw_Dy D ca z0 ro rc M.2.2.2.1 nb zb s s'.2.1 s'.2.2.1 s'.2.2.2 ls' H' locs' cells' slots' → W p l e R s mm args below meth c H' locs' cells' slots' Q (F0 mm s'.1 ls' (s'.2.2.1.map (gw_rv (gw_rho z0 ro))))) :
    W p l e R s mm args below meth c H locs cells slots Q (F0 mm pc ls (st.map (gw_rv (gw_rho z0 ro)))) := by
  cases i with
  | iload_n k => exact gs_iload_n cx hd hlen hT hs d hfr hrc hrs kk
  | iload k => exact gs_iload cx hd hlen hT hs d hfr hrc hrs kk
  | lload_n k => exact gs_lload_n cx hd hlen hT hs d hfr hrc hrs kk
  | lload k => exact gs_lload cx hd hlen hT hs d hfr hrc hrs kk
  | aload_n k => exact gs_aload_n cx hd hlen hT hs d hfr hrc hrs kk
  | aload k => exact gs_aload cx hd hlen hT hs d hfr hrc hrs kk
  | istore_n k => exact gs_istore_n cx hd hlen hT hs d hfr hrc hrs kk
  | istore k => exact gs_istore cx hd hlen hT hs d hfr hrc hrs kk
  | lstore_n k => exact gs_lstore_n cx hd hlen hT hs d hfr hrc hrs kk
  | lstore k => exact gs_lstore cx hd hlen hT hs d hfr hrc hrs kk
  | astore_n k => exact gs_astore_n cx hd hlen hT hs d hfr hrc hrs kk
  | iinc k z => exact gs_iinc cx hd hlen hT hs d hfr hrc hrs kk
  | iconst z => exact gs_iconst cx hd hlen hT hs d hfr hrc hrs kk
  | bipush z => exact gs_bipush cx hd hlen hT hs d hfr hrc hrs kk
  | sipush z => exact gs_sipush cx hd hlen hT hs d hfr hrc hrs kk
  | ldc idx => exact gs_ldc cx hd hlen hT hs d hfr hrc hrs kk
  | ldc_w idx => exact gs_ldc_w cx hd hlen hT hs d hfr hrc hrs kk
  | ldc2_w idx => exact gs_ldc2_w cx hd hlen hT hs d hfr hrc hrs kk
  | lconst n => exact gs_lconst cx hd hlen hT hs d hfr hrc hrs kk
  | iadd => exact gs_iadd cx hd hlen hT hs d hfr hrc hrs kk
  | isub => exact gs_isub cx hd hlen hT hs d hfr hrc hrs kk
  | imul => exact gs_imul cx hd hlen hT hs d hfr hrc hrs kk
  | iand => exact gs_iand cx hd hlen hT hs d hfr hrc hrs kk
  | ior => exact gs_ior cx hd hlen hT hs d hfr hrc hrs kk
  | ixor => exact gs_ixor cx hd hlen hT hs d hfr hrc hrs kk
  | ishl => exact gs_ishl cx hd hlen hT hs d hfr hrc hrs kk
  | ishr => exact gs_ishr cx hd hlen hT hs d hfr hrc hrs kk
  | idiv => exact gs_idiv cx hd hlen hT hs d hfr hrc hrs kk
  | irem => exact gs_irem cx hd hlen hT hs d hfr hrc hrs kk
  | ineg => exact gs_ineg cx hd hlen hT hs d hfr hrc hrs kk
  | ladd => exact gs_ladd cx hd hlen hT hs d hfr hrc hrs kk
  | lmul => exact gs_lmul cx hd hlen hT hs d hfr hrc hrs kk
  | land => exact gs_land cx hd hlen hT hs d hfr hrc hrs kk
  | lor => exact gs_lor cx hd hlen hT hs d hfr hrc hrs kk
  | lushr => exact gs_lushr cx hd hlen hT hs d hfr hrc hrs kk
  | lshl => exact gs_lshl cx hd hlen hT hs d hfr hrc hrs kk
  | lcmp => exact gs_lcmp cx hd hlen hT hs d hfr hrc hrs kk
  | i2l => exact gs_i2l cx hd hlen hT hs d hfr hrc hrs kk
  | l2i => exact gs_l2i cx hd hlen hT hs d hfr hrc hrs kk
  | goto z => exact gs_goto cx hd hlen hT hs d hfr hrc hrs kk
  | tableswitch df lo hi offs => exact gs_tsw cx hd hlen hT hs d hfr hrc hrs kk
  | lookupswitch df ps => exact gs_lsw cx hd hlen hT hs d hfr hrc hrs kk
  | dup => exact gs_dup cx hd hlen hT hs d hfr hrc hrs kk
  | dup2 => exact gs_dup2 cx hd hlen hT hs d hfr hrc hrs kk
  | pop => exact gs_pop cx hd hlen hT hs d hfr hrc hrs kk
  | getfield idx => exact gs_getfield cx hd hlen hT hs d hfr hrc hrs kk
  | putfield idx => exact gs_putfield cx hd hlen hT hs d hfr hrc hrs kk
  | getstatic idx => exact gs_getstatic cx hd hlen hT hs d hfr hrc hrs kk
  | iaload => exact gs_iaload cx hd hlen hT hs d hfr hrc hrs kk
  | baload => exact gs_baload cx hd hlen hT hs d hfr hrc hrs kk
  | iastore => exact gs_iastore cx hd hlen hT hs d hfr hrc hrs kk
  | bastore => exact gs_bastore cx hd hlen hT hs d hfr hrc hrs kk
  | arraylength => exact gs_alen cx hd hlen hT hs d hfr hrc hrs kk
  | new idx => exact gs_new cx hd hlen hT hs d hfr hrc hrs kk
  | invokespecial idx => exact gs_objinit cx hd hlen hT hs d hfr hrc hrs kk
  | ifCond cd z =>
    cases cd with
    | eq => exact gs_if_eq cx hd hlen hT hs d hfr hrc hrs kk
    | ne => exact gs_if_ne cx hd hlen hT hs d hfr hrc hrs kk
    | lt => exact gs_if_lt cx hd hlen hT hs d hfr hrc hrs kk
    | ge => exact gs_if_ge cx hd hlen hT hs d hfr hrc hrs kk
    | gt => exact gs_if_gt cx hd hlen hT hs d hfr hrc hrs kk
    | le => exact gs_if_le cx hd hlen hT hs d hfr hrc hrs kk
  | if_icmp cd z =>
    cases cd with
    | eq => exact gs_icmp_eq cx hd hlen hT hs d hfr hrc hrs kk
    | ne => exact gs_icmp_ne cx hd hlen hT hs d hfr hrc hrs kk
    | lt => exact gs_icmp_lt cx hd hlen hT hs d hfr hrc hrs kk
    | ge => exact gs_icmp_ge cx hd hlen hT hs d hfr hrc hrs kk
    | gt => exact gs_icmp_gt cx hd hlen hT hs d hfr hrc hrs kk
    | le => exact gs_icmp_le cx hd hlen hT hs d hfr hrc hrs kk
  | newarray ty =>
    cases ty with
    | int => exact gs_newarray_int cx hd hlen hT hs d hfr hrc hrs kk
    | boolean => exact gs_newarray_boolean cx hd hlen hT hs d hfr hrc hrs kk
    | _ => cases hs
  | _ => cases hs
theorem gw_ins_mono {own kind t pc : Nat} {i : Instr} {cs : Int32} {L : gw_L} {st : List Value} {h : gw_H} {s' : gw_S} (hs : gw_ins own kind i t cs pc L st h = some s') : h.2.1 ≤ s'.2.2.2.2.1 ∧ h.2.2 ≤ s'.2.2.2.2.2 := by
  unfold gw_ins at hs
  split at hs <;> (try simp only [gw_i1, gw_ii, gw_l1, gw_ll, gw_li, gw_r1, gw_ri, gw_rii, gw_ldi, gw_ldl, gw_lda, gw_obj, gw_arr, gw_fld] at hs) <;> (repeat' split at hs) <;> first
    | (cases hs; done)
    | (cases hs; exact ⟨Nat.le_refl _, Nat.le_refl _⟩)
    | (cases hs; exact ⟨Nat.le_succ _, Nat.le_add_right _ _⟩)
    | (obtain ⟨_, _, rfl⟩ := Option.map_eq_some_iff.mp hs; exact ⟨Nat.le_refl _, Nat.le_refl _⟩)
theorem gw_Go.grow {n : Nat} : ∀ {b m pc : Nat} {L : gw_L} {st : List Value} {h : gw_H} {res : Option Value × gw_H}, gw_Go n b m pc L st h res → h.2.1 ≤ res.2.2.1 ∧ h.2.2 ≤ res.2.2.2 := by
  induction n with
  | zero => intro b m pc L st h res hg; exact hg.elim
  | succ n ih =>
    intro b m pc L st h res hg
    rcases hg with ⟨L2, h1, h2⟩ | ⟨s', h1, h2⟩ | ⟨r, h1, h2⟩ | ⟨y, args, rest, r, h1, h2, h3, h4⟩
    · exact ih h2
    · have a := ih h2
      unfold gw_stp at h1
      split at h1
      · have b := gw_ins_mono h1
        exact ⟨Nat.le_trans b.1 a.1, Nat.le_trans b.2 a.2⟩
      · cases h1
    · subst h2
      exact ⟨Nat.le_refl _, Nat.le_refl _⟩
    · have a := ih h3
      have b := ih h4
      exact ⟨Nat.le_trans a.1 b.1, Nat.le_trans a.2 b.2⟩
/-- what a method's call leaves -/
def gw_Qc (D : va_G) (ca : Nat → ClassId) (z0 : Nat) (ro : Nat → Nat) (rc : Nat → Nat × (Nat → Int32)) (r : Option Value) (h1 : gw_H) : Array Value → State → Outcome → State → Prop := fun _ st oc t =>
  (oc = .returned (r.map (gw_rv (gw_rho z0 ro))) ∧ gw_HR D ca z0 ro rc h1 t.heap) ∧ va_F (gw_A z0) st t
def gw_Pc (D : va_G) (ca : Nat → ClassId) (z0 : Nat) (ro : Nat → Nat) (rc : Nat → Nat × (Nat → Int32)) (vs : List Value) (h : gw_H) : Array Value → State → Prop := fun a U =>
  a = (vs.map (gw_rv (gw_rho z0 ro))).toArray ∧ gw_SR D ca z0 ro rc U ∧ gw_HR D ca z0 ro rc h U.heap
def gw_rm (b mc ms : Nat) : Room := { frames := b, cells := mc, slots := ms, locals := 64 * b }
theorem gw_callk {r : Option Value} {h1 : gw_H} {pc mc ms : Nat} {st0 rest : List Value} {a : Array Value} {free : Addr → Prop} (hr : va_Run p l e R s mm args below meth c H locs cells slots mc ms (F0 mm pc ls st0) rest (gw_Qc D ca z0 ro rc r h1 a) free) (hS : va_S (gw_A z0) s.heap H locs) (hf : ∀ q, free q → gw_A z0 q)
    (kk : ∀ (H1 : Heap) (locs1 : List Loc), gw_HR D ca z0 ro rc h1 H1 → va_S (gw_A z0) s.heap H1 locs1 → W p l e R s mm args below meth c H1 locs1 (cells + mc) (slots + ms) Q (F0 mm (pc + 3) ls ((r.map (gw_rv (gw_rho z0 ro))).toList ++ rest))) : W p l e R s mm args below meth c H locs cells slots Q (F0 mm pc ls st0) := by
  intro T hT X
  obtain ⟨v, st₀, t, T', L, h0, X', hL, e1, e2, ⟨⟨hv, hb⟩, hz, hk⟩, st⟩ := hr T hT X
  cases hv
  rw [h0] at hz hk
  obtain ⟨t2, a1, b1⟩ := kk T'.heap (locs ++ L) (by rw [e1]; exact hb)
    ⟨Nat.le_trans hS.1 (by rw [e1]; exact hz), fun q h1 h2 => by rw [e1, hk q (Nat.lt_of_lt_of_le h1 hS.1) h2]; exact hS.2.1 q h1 h2, fun q hq => by
      rcases List.mem_append.mp hq with h | h
      · exact hS.2.2 q h
      · exact hf _ (hL q h)⟩ T' rfl X'
  exact ⟨t2, st t2 a1, b1⟩
theorem gw_SR.at {U : State} (h : gw_SR D ca z0 ro rc s) (hS : va_S (gw_A z0) s.heap H locs) (hU : U.heap = H) (hWH : s.WarmedH U.vm) : gw_SR D ca z0 ro rc U := by
  have hW := hWH.alike
  obtain ⟨h1, h2, h3, h4, h5⟩ := h
  subst hU
  refine ⟨va_K.moved hW h1, fun a ha => ?_, fun j hj1 hj2 => ?_, Nat.le_trans h4 hS.1, fun a i y hy => va_Nw.warmM hWH (h5 a i y hy)⟩
  · exact (va_T.moved hW (h2 a ha)).kept fun q hq1 hq2 => hS.2.1 q hq1 hq2
  · exact (va_Z.moved hW (h3 j hj1 hj2)).kept fun q hq1 hq2 => hS.2.1 q hq1 hq2
theorem gw_goodT {y : MethodName} {byt : ByteArray} {maxL : Nat} {ret : Option FieldType} (h : Jvm.Cond.code y byt maxL ret ∈ lw_tbl) : GoodIn gw_tb (Jvm.Cond.code y byt maxL ret :: gw_tb) := by
  intro w hw
  rcases List.mem_cons.mp hw with rfl | hw
  · exact ⟨gw_tb_in h rfl, good_of_word rfl⟩
  · exact ⟨hw, good_of_word (List.mem_filter.mp hw).2⟩
theorem gw_Go.val {n : Nat} : ∀ {b m pc : Nat} {L : gw_L} {st : List Value} {h : gw_H} {res : Option Value × gw_H}, gw_Go n b m pc L st h res → ∀ (v : Value) (k : Nat), res.1 = some v → gw_ok k v := by
  induction n with
  | zero => intro b m pc L st h res hg; exact hg.elim
  | succ n ih =>
    intro b m pc L st h res hg
    rcases hg with ⟨L2, h1, h2⟩ | ⟨s', h1, h2⟩ | ⟨r, h1, h2⟩ | ⟨y, args, rest, r, h1, h2, h3, h4⟩
    · exact ih h2
    · exact ih h2
    · subst h2
      intro v k hv
      unfold gw_ret at h1
      split at h1
      · unfold gw_rtv at h1
        split at h1
        · cases h1; cases hv; exact gw_ok_i
        · split at h1
          · cases h1; cases hv; exact gw_ok_i
          · cases h1
        · cases h1; cases hv; exact gw_ok_l
        · cases h1; cases hv
        · cases h1
      · cases h1
    · exact ih h4
theorem gw_slots_at (ρ : Nat → Nat) (vs : List Value) : (gw_slots vs).length = (lg_sl (vs.map (gw_rv ρ))).length ∧ ∀ (i : Nat) (v : Value), (gw_slots vs)[i]? = some (some v) → (lg_sl (vs.map (gw_rv ρ)))[i]? = some (.val (gw_rv ρ v)) := by
  induction vs with
  | nil => exact ⟨rfl, fun i v h => by simp [gw_slots] at h⟩
  | cons a l ih =>
    obtain ⟨i1, i2⟩ := ih
    have hc := gw_rv_cat ρ a
    by_cases h2 : a.category = 2
    · have e1 : gw_slots (a :: l) = some a :: none :: gw_slots l := by simp [gw_slots, h2]
      have e2 : lg_sl ((a :: l).map (gw_rv ρ)) = .val (gw_rv ρ a) :: .second :: lg_sl (l.map (gw_rv ρ)) := by simp [lg_sl, hc, h2]
      rw [e1, e2]
      refine ⟨by simp [i1], fun i v h => ?_⟩
      match i with
      | 0 => cases h; rfl
      | 1 => cases h
      | j + 2 => exact i2 j v h
    · have e1 : gw_slots (a :: l) = some a :: gw_slots l := by simp [gw_slots, h2]
      have e2 : lg_sl ((a :: l).map (gw_rv ρ)) = .val (gw_rv ρ a) :: lg_sl (l.map (gw_rv ρ)) := by simp [lg_sl, hc, h2]
      rw [e1, e2]
      refine ⟨by simp [i1], fun i v h => ?_⟩
      match i with
      | 0 => cases h; rfl
      | j + 1 => exact i2 j v h
theorem gw_slots_ok {n : Nat} {vs : List Value} (h : gw_okS n vs) : gw_okL n (gw_slots vs) := by
  intro i v hv
  have hm := List.mem_of_getElem? hv
  unfold gw_slots at hm
  obtain ⟨w, h1, h2⟩ := List.mem_flatMap.mp hm
  split at h2
  · simp at h2
    rw [h2]; exact h w h1
  · simp at h2
    rw [h2]; exact h w h1
theorem gw_ent_LH {ρ : Nat → Nat} {m : Nat} {vs : List Value} (hM : gw_mi m = some M) (hl : (gw_slots vs).length ≤ M.2.2.2.1) : gw_LH ρ ((lg_sl (vs.map (gw_rv ρ)) ++ List.replicate (M.2.2.2.1 - (lg_sl (vs.map (gw_rv ρ))).length) Slot.unset).toArray) M.2.2.2.1 (gw_ent m vs) := by
  obtain ⟨i1, i2⟩ := gw_slots_at ρ vs
  have h := lv_entry (vs.map (gw_rv ρ)) (n := M.2.2.2.1) (by rw [← i1]; exact hl)
  have e : gw_ent m vs = gw_slots vs ++ List.replicate (M.2.2.2.1 - (gw_slots vs).length) none := by
    unfold gw_ent
    rw [hM]
  rw [e]
  refine ⟨h.1, h.2.1, by simp; omega, fun i v hv => ?_⟩
  have hlt : i < (gw_slots vs).length := by
    apply Nat.lt_of_not_le
    intro hge
    rw [List.getElem?_append_right hge] at hv
    have := List.mem_of_getElem? hv
    simp at this
  rw [List.getElem?_append_left hlt] at hv
  have h3 := i2 i v hv
  simp only [List.getElem?_toArray]
  rw [List.getElem?_append_left (by rw [← i1]; exact hlt)]
  exact h3
theorem gw_ent_ok {n m : Nat} {vs : List Value} (hM : gw_mi m = some M) (h : gw_okS n vs) : gw_okL n (gw_ent m vs) := by
  intro i v hv
  have e : gw_ent m vs = gw_slots vs ++ List.replicate (M.2.2.2.1 - (gw_slots vs).length) none := by
    unfold gw_ent
    rw [hM]
  rw [e] at hv
  by_cases hlt : i < (gw_slots vs).length
  · rw [List.getElem?_append_left hlt] at hv
    exact gw_slots_ok h i v hv
  · rw [List.getElem?_append_right (by omega)] at hv
    have := List.mem_of_getElem? hv
    simp at this
theorem gw_call_spec {b m pc y : Nat} {st vargs rest : List Value} {h : gw_H} (hM : gw_mi m = some M) (hc : gw_call b m pc st h = some (y, vargs, rest)) : ∃ (I : gw_I) (kd idx nest : Nat) (v : Int64) (Y : gw_M), gw_at m pc = some (M, I) ∧ gw_ck I.1 = some (kd, idx) ∧ gw_pool M.1 idx = some (1, y, nest, v) ∧ gw_mi y = some Y ∧ Y.2.2.2.2.2.2.1 = kd ∧ st = vargs.reverse ++ rest ∧ vargs.length = Y.2.2.2.2.2.1 + (if kd = 1 then 0 else 1) ∧ (rest.map fun v => v.category).sum ≤ 8 ∧ gw_bd y vargs < b ∧ (gw_slots vargs).length ≤ Y.2.2.2.1 ∧ gw_rcv y kd vargs h = true := by
  unfold gw_call at hc
  split at hc
  · rename_i M' I hat
    have hM' := (gw_at_spec hat).1
    cases hM.symm.trans hM'
    split at hc
    · rename_i kd idx hck
      split at hc
      · rename_i y' nest v hp
        split at hc
        · rename_i Y hY
          dsimp only at hc
          generalize hn : Y.2.2.2.2.2.1 + (if kd = 1 then 0 else 1) = n at hc
          split at hc
          · rename_i hcond
            obtain ⟨c1, c2, c3, c4, c5, c6⟩ := hcond
            simp only [Option.some.injEq, Prod.mk.injEq] at hc
            obtain ⟨rfl, rfl, rfl⟩ := hc
            refine ⟨I, kd, idx, nest, v, Y, hat, hck, hp, hY, c1, ?_, ?_, c3, c4, c5, c6⟩
            · rw [List.reverse_reverse, List.take_append_drop]
            · rw [hn, List.length_reverse, List.length_take]
              omega
          · cases hc
        · cases hc
      · cases hc
    · cases hc
  · cases hc

theorem gw_fact_W {y : Nat} {Y : gw_M} (hY : gw_mi y = some Y) (h13 : Y.1 ≠ 13) : Y.2.1.cls = gw_cnm Y.1 ∧ Jvm.Cond.code Y.2.1 Y.2.2.1 Y.2.2.2.1 Y.2.2.2.2.1 ∈ lw_tbl ∧ Jvm.Cond.initialized Y.2.1.cls ∈ lw_tbl ∧ (Y.2.2.2.2.2.2.1 = 1 → Jvm.Cond.static Y.2.1 ∈ lw_tbl) ∧ (Y.2.2.2.2.2.2.1 ≠ 1 → Jvm.Cond.instanceMethod Y.2.1 ∈ lw_tbl) ∧ (Y.2.2.2.2.2.2.1 = 0 → Jvm.Cond.selects Y.2.1.cls Y.2.1 Y.2.1 ∈ lw_tbl) ∧ (Y.2.2.2.2.2.2.1 = 2 → Y.2.1.name = "<init>" ∧ Y.2.2.2.2.1 = none) ∧
    (Y.2.1.cls ≠ "java/lang/invoke/MethodHandle" ∧ Y.2.1.cls ≠ "java/lang/invoke/VarHandle" ∧ (parseMethodDescriptor Y.2.1.desc).map (fun d => d.parameters.length) = some Y.2.2.2.2.2.1) ∧ plainName Y.2.1.cls = true ∧ Y.2.2.2.1 ≤ 40 := by
  obtain ⟨ix, h⟩ := gw_fact_M hY
  unfold gw_okM at h
  simp only [Bool.and_eq_true, Bool.or_eq_true, beq_iff_eq] at h
  obtain ⟨h1, h2⟩ := h
  have h2 := h2.resolve_left h13
  unfold gw_okW at h2
  simp only [Bool.and_eq_true, decide_eq_true_eq] at h2
  obtain ⟨⟨⟨⟨⟨⟨⟨a1, a2⟩, a3⟩, a4⟩, a5⟩, a6⟩, a7⟩, a8⟩ := h2
  refine ⟨h1, gw_ti_in a1, gw_ti_in a2, fun k => ?_, fun k => ?_, fun k => ?_, fun k => ?_, a6, a7, a8⟩
  · rw [if_pos k] at a3
    exact gw_ti_in a3
  · rw [if_neg k] at a3
    exact gw_ti_in a3
  · rw [if_pos k] at a4
    simp only [Bool.or_eq_true, decide_eq_true_eq] at a4
    rcases a4 with a4 | a4
    · exact gw_ti_in a4
    · exact List.mem_append_left _ (List.mem_of_getElem? a4)
  · rw [if_pos k] at a5
    simp only [Bool.and_eq_true, beq_iff_eq] at a5
    exact a5
theorem gw_fact_P1 {c i y nest : Nat} {v : Int64} (h : gw_pool c i = some (1, y, nest, v)) : ∃ Y, gw_mi y = some Y ∧ Y.1 ≠ 13 ∧ (nest = 0 → Jvm.Cond.methodLink (gw_cnm c) i Y.2.1 ∈ lw_tbl) ∧ (nest ≠ 0 → Jvm.Cond.methodLinkNest (gw_cnm c) i Y.2.1 "GlassWires" ∈ lw_tbl) := by
  obtain ⟨ix, hP⟩ := gw_fact_P h
  have hP : (match gw_mi y with
    | some Y => decide (Y.1 ≠ 13) && (if nest = 0 then gw_ti ix.1 (Jvm.Cond.methodLink (gw_cnm c) i Y.2.1) else gw_ti ix.1 (Jvm.Cond.methodLinkNest (gw_cnm c) i Y.2.1 "GlassWires"))
    | none => false) = true := hP
  split at hP
  · rename_i Y hY
    simp only [Bool.and_eq_true, decide_eq_true_eq] at hP
    refine ⟨Y, hY, hP.1, fun k => ?_, fun k => ?_⟩
    · have h2 := hP.2
      rw [if_pos k] at h2
      exact gw_ti_in h2
    · have h2 := hP.2
      rw [if_neg k] at h2
      exact gw_ti_in h2
  · cases hP
theorem gw_rcv0 {y : Nat} {vs : List Value} {h : gw_H} {Y : gw_M} (hY : gw_mi y = some Y) (c : gw_rcv y 0 vs h = true) : ∃ a As fs, vs = .ref a :: As ∧ h.1 a = .inr (Y.1, fs) ∧ 8 ≤ a := by
  have c : (match (generalizing := false) vs with
    | .ref a :: _ => (match h.1 a with
      | .inr (c, _) => decide (8 ≤ a) && (match gw_mi y with | some Y => c == Y.1 | none => false)
      | .inl _ => false)
    | _ => false) = true := c
  split at c
  · rename_i a As
    split at c
    · rename_i cc fs hcell
      rw [hY] at c
      simp only [Bool.and_eq_true, decide_eq_true_eq, beq_iff_eq] at c
      obtain ⟨ha, rfl⟩ := c
      exact ⟨_, _, fs, rfl, hcell, ha⟩
    · cases c
  · cases c
theorem gw_rcv2 {y : Nat} {vs : List Value} {h : gw_H} (c : gw_rcv y 2 vs h = true) : ∃ a As, vs = .ref a :: As := by
  have c : (match (generalizing := false) vs with
    | .ref _ :: _ => true
    | _ => false) = true := c
  split at c
  · exact ⟨_, _, rfl⟩
  · cases c
theorem gw_Pc_blind {vs : List Value} {h : gw_H} : FrameBlind (gw_Pc D ca z0 ro rc vs h) := by
  intro a U g mk q
  obtain ⟨q0, ⟨q1, q2, q3, q4, q5⟩, q6⟩ := q
  refine ⟨q0, ⟨va_K.moved (u := U) (U := U.calling g mk a) (Vm.Alike.refl U.vm) q1, fun x hx => ?_, fun j h1 h2 => ?_, q4, fun x i y hy => va_Nw.same rfl (u := U) (U := U.calling g mk a) rfl (q5 x i y hy)⟩, q6⟩
  · exact va_T.moved (u := U) (U := U.calling g mk a) (Vm.Alike.refl U.vm) (q2 x hx)
  · exact va_Z.moved (u := U) (U := U.calling g mk a) (Vm.Alike.refl U.vm) (q3 j h1 h2)
/-- a run of the interpreter is a walk of the machine; what it calls is met -/
def gw_Walks (l : Launch) (D : va_G) (ca : Nat → ClassId) (z0 : Nat) (ro : Nat → Nat) (rc : Nat → Nat × (Nat → Int32)) (n : Nat) : Prop :=
  ∀ (b m pc : Nat) (L : gw_L) (st : List Value) (h : gw_H) (res : Option Value × gw_H), gw_Go n b m pc L st h res → ∀ (M : gw_M), gw_mi m = some M →
    ∀ (p : Program) (e : Env) (R : Room) (s : State) (mm : MethodId) (args : Array Value) (below : List Frame) (meth : Method) (c : Code) (H : Heap) (locs : List Loc) (cells slots : Nat) (Q : State → Prop) (ls : Array Slot) (nb zb : Nat),
      gw_Cx D ca z0 ro rc M p s mm args meth c → gw_Dy D ca z0 ro rc M.2.2.2.1 nb zb s L st h ls H locs cells slots → b + 1 ≤ R.frames → 64 * (b + 1) ≤ R.locals → res.2.2.1 ≤ nb + R.cells → res.2.2.2 ≤ zb + R.slots →
      (∀ (pc' len : Nat) (I : Instr) (st' : List Value) (ls' : Array Slot) (H' : Heap) (locs' : List Loc), decode M.2.2.1 pc' = .ok (I, len) → (gw_len I = 0 ∨ gw_len I = len) → gw_rtv M.2.2.2.2.1 I st' = some res.1 → gw_HR D ca z0 ro rc res.2 H' → va_S (gw_A z0) s.heap H' locs' → W p l e R s mm args below meth c H' locs' (res.2.2.1 - nb) (res.2.2.2 - zb) Q (F0 mm pc' ls' (st'.map (gw_rv (gw_rho z0 ro))))) →
      W p l e R s mm args below meth c H locs cells slots Q (F0 mm pc ls (st.map (gw_rv (gw_rho z0 ro))))
theorem gw_met {n : Nat} (IH : gw_Walks l D ca z0 ro rc n) {y : Nat} {Y : gw_M} (hY : gw_mi y = some Y) (h13 : Y.1 ≠ 13) {vs : List Value} {h h1 : gw_H} {r : Option Value} (hg : gw_Go n (gw_bd y vs) y 0 (gw_ent y vs) [] h (r, h1)) (hl : (gw_slots vs).length ≤ Y.2.2.2.1) (hvs : gw_okS h.2.1 vs) :
    Met l Y.2.1 (Jvm.Cond.code Y.2.1 Y.2.2.1 Y.2.2.2.1 Y.2.2.2.2.1 :: gw_tb) (gw_rm (gw_bd y vs + 1) (h1.2.1 - h.2.1) (h1.2.2 - h.2.2)) (gw_Pc D ca z0 ro rc vs h) (gw_Qc D ca z0 ro rc r h1) (h1.2.1 - h.2.1) (h1.2.2 - h.2.2) (gw_A z0) := by
  obtain ⟨w1, w2, w3, w4, w5, w6, w7, w8, w9, w10⟩ := gw_fact_W hY h13
  obtain ⟨g1, g2⟩ := hg.grow
  dsimp only at g1 g2
  refine Met.ofW (cc := Y.2.2.1) (maxL := Y.2.2.2.1) (ret := Y.2.2.2.2.1) w9 rfl ?_
  intro p e s m args below meth c s₁ B hml hv
  obtain ⟨rfl, hSR, hHR⟩ := hv
  have hx := B.exec
  have hb := B.bytes
  have hr := B.returns
  have hts0 := atoms_spec (ws := Jvm.Cond.code Y.2.1 Y.2.2.1 Y.2.2.2.1 Y.2.2.2.2.1 :: gw_tb) B.pre
  have hts : ∀ w ∈ gw_tb, w.before (vs.map (gw_rv (gw_rho z0 ro))).toArray s = true := fun w hw => hts0 w (List.mem_cons_of_mem _ hw)
  have hown : s.vm.findClass (gw_cnm Y.1) = some m.cls := by rw [← w1]; exact findClass_of_methodNamed B.named
  have hlocks := B.notSynchronized
  have hin : Y.2.2.2.2.2.2.1 = 2 → meth.name = "<init>" := fun k => by rw [(name_of_methodNamed B.named B.method).1]; exact (w7 k).1
  rw [lg_entry_eq]
  refine IH (gw_bd y vs) y 0 (gw_ent y vs) [] h (r, h1) hg Y hY p e _ s m _ below meth c s.heap [] 0 0 _ _ h.2.1 h.2.2 ⟨hx, hb, hml, hown, hts, hin, hSR⟩ ⟨gw_ent_LH hY hl, hHR, va_S.rf, (fun v hv => by cases hv), gw_ent_ok hY hvs, Nat.zero_add _, Nat.zero_add _⟩ (Nat.le_refl _) (Nat.le_refl _) (by show h1.2.1 ≤ h.2.1 + (h1.2.1 - h.2.1); omega) (by show h1.2.2 ≤ h.2.2 + (h1.2.2 - h.2.2); omega) ?_
  intro pc' len I st' ls' H' locs' hd hlen hrt hHR' hS'
  have fin : ∀ t : State, t.heap = H' → s.WarmedH t.vm → gw_Qc D ca z0 ro rc r h1 (vs.map (gw_rv (gw_rho z0 ro))).toArray s (.returned (r.map (gw_rv (gw_rho z0 ro)))) t := fun t ht hW => ⟨⟨rfl, by rw [ht]; exact hHR'⟩, hS'.F ht⟩
  unfold gw_rtv at hrt
  split at hrt
  · rename_i h9
    cases hrt
    have hl := gw_len_of 0 hlen rfl
    subst hl
    exact W.iret hx hb (hr.trans h9) fin hS'.2.2 hd
  · rename_i h9
    split at hrt
    · rename_i h8
      cases hrt
      have hl := gw_len_of 0 hlen rfl
      subst hl
      exact W.zret hx hb (hr.trans h9) (by show Value.int _ = _; rw [h8]) fin hS'.2.2 hd
    · cases hrt
  · rename_i h9
    cases hrt
    have hl := gw_len_of 0 hlen rfl
    subst hl
    exact W.lret hx hb (hr.trans h9) fin hS'.2.2 hd
  · rename_i h9
    cases hrt
    have hl := gw_len_of 0 hlen rfl
    subst hl
    exact W.vret hx hb (hr.trans h9) fin hS'.2.2 hd
  · cases hrt

set_option maxHeartbeats 4000000 in
theorem gw_walks (l : Launch) (D : va_G) (ca : Nat → ClassId) (z0 : Nat) (ro : Nat → Nat) (rc : Nat → Nat × (Nat → Int32)) : ∀ n, gw_Walks l D ca z0 ro rc n := by
  intro n
  induction n with
  | zero => intro b m pc L st h res hg; exact hg.elim
  | succ n IH =>
    intro b m pc L st h res hg M hM p e R s mm args below meth c H locs cells slots Q ls nb zb cx d hb1 hb2 hr1 hr2 hret
    rcases hg with ⟨L2, h1, h2⟩ | ⟨s', h1, h2⟩ | ⟨r, h1, h2⟩ | ⟨y, vs, rest, r, hq, hc, hg3, hg4⟩
    · refine IH b m pc L2 st h res h2 M hM p e R s mm args below meth c H locs cells slots Q ls nb zb cx ?_ hb1 hb2 hr1 hr2 hret
      obtain ⟨d1, d2, d3, d4, d5, d6, d7⟩ := d
      exact ⟨⟨d1.1, d1.2.1, h1.1.trans d1.2.2.1, fun i v hv => d1.2.2.2 i v (h1.2 i v hv)⟩, d2, d3, d4, fun i v hv => d5 i v (h1.2 i v hv), d6, d7⟩
    · unfold gw_stp at h1
      split at h1
      · rename_i M' I hat
        obtain ⟨a1, a2⟩ := gw_at_spec hat
        cases hM.symm.trans a1
        unfold gw_okI at a2
        simp only [Bool.and_eq_true, Bool.or_eq_true, beq_iff_eq, decide_eq_true_eq] at a2
        obtain ⟨⟨a2, a3⟩, a4⟩ := a2
        obtain ⟨g1, g2⟩ := h2.grow
        exact gw_step cx a2 a3 a4 h1 d ⟨by omega, by omega⟩ (Nat.le_trans g1 hr1) (Nat.le_trans g2 hr2) fun ls' H' locs' cells' slots' d' => IH b m _ _ _ _ res h2 M hM p e R s mm args below meth c H' locs' cells' slots' Q ls' nb zb cx d' hb1 hb2 hr1 hr2 hret
      · cases h1
    · subst h2
      unfold gw_ret at h1
      split at h1
      · rename_i M' I hat
        obtain ⟨a1, a2⟩ := gw_at_spec hat
        cases hM.symm.trans a1
        unfold gw_okI at a2
        simp only [Bool.and_eq_true, Bool.or_eq_true, beq_iff_eq, decide_eq_true_eq] at a2
        obtain ⟨⟨a2, a3⟩, a4⟩ := a2
        have k := hret pc I.2.1 I.1 st ls H locs a2 a3 h1 d.2.1 d.2.2.1
        have e1 : cells = h.2.1 - nb := by have := d.2.2.2.2.2.1; omega
        have e2 : slots = h.2.2 - zb := by have := d.2.2.2.2.2.2; omega
        rw [e1, e2]
        exact k
      · cases h1
    · obtain ⟨I, kd, idx, nest, v0, Y, hat, hck, hp, hY, c1, c2, c3, c4, c5, c6, c7⟩ := gw_call_spec hM hc
      obtain ⟨a1, a2⟩ := gw_at_spec hat
      unfold gw_okI at a2
      simp only [Bool.and_eq_true, Bool.or_eq_true, beq_iff_eq, decide_eq_true_eq] at a2
      obtain ⟨⟨a2, a3⟩, a4⟩ := a2
      obtain ⟨Y', hY', h13, lk0, lk1⟩ := gw_fact_P1 hp
      cases hY.symm.trans hY'
      obtain ⟨w1, w2, w3, w4, w5, w6, w7, w8, w9, w10⟩ := gw_fact_W hY h13
      obtain ⟨g1, g2⟩ := hg3.grow
      obtain ⟨g3, g4⟩ := hg4.grow
      dsimp only at g1 g2
      obtain ⟨hx, hb, hml, hown, hts, hinit, hSR⟩ := cx
      obtain ⟨d1, d2, d3, d4, d5, d6, d7⟩ := d
      have hvs : gw_okS h.2.1 vs := fun v hv => d4 v (by rw [c2]; exact List.mem_append_left _ (List.mem_reverse.mpr hv))
      have hrest : gw_okS h.2.1 rest := fun v hv => d4 v (by rw [c2]; exact List.mem_append_right _ hv)
      have hmet := gw_met IH hY h13 hg3 c6 hvs
      have hcat : ((rest.map (gw_rv (gw_rho z0 ro))).map fun v => v.category).sum ≤ 8 := by
        rw [List.map_map, show ((fun v : Value => v.category) ∘ gw_rv (gw_rho z0 ro)) = fun v => v.category from funext fun v => gw_rv_cat _ v]
        exact c4
      have hroom := lv_room (m := mm) (pc := pc) (ls := ls) (rest := st.map (gw_rv (gw_rho z0 ro))) hcat
      have hbl : gw_rm (gw_bd y vs + 1) (hq.2.1 - h.2.1) (hq.2.2 - h.2.2) = ⟨gw_bd y vs + 1, hq.2.1 - h.2.1, hq.2.2 - h.2.2, 64 * (gw_bd y vs + 1)⟩ := rfl
      have hR : (gw_rm (gw_bd y vs + 1) (hq.2.1 - h.2.1) (hq.2.2 - h.2.2)).frames + 1 ≤ R.frames ∧ 8 + (Y.2.2.2.1 + 11) + (gw_rm (gw_bd y vs + 1) (hq.2.1 - h.2.1) (hq.2.2 - h.2.2)).locals ≤ R.locals := by
        show gw_bd y vs + 1 + 1 ≤ R.frames ∧ 8 + (Y.2.2.2.1 + 11) + 64 * (gw_bd y vs + 1) ≤ R.locals
        omega
      have hf : cells + (hq.2.1 - h.2.1) ≤ R.cells ∧ slots + (hq.2.2 - h.2.2) ≤ R.slots := by omega
      have K : ∀ (H1 : Heap) (locs1 : List Loc), gw_HR D ca z0 ro rc hq H1 → va_S (gw_A z0) s.heap H1 locs1 → W p l e R s mm args below meth c H1 locs1 (cells + (hq.2.1 - h.2.1)) (slots + (hq.2.2 - h.2.2)) Q (F0 mm (pc + 3) ls ((r.map (gw_rv (gw_rho z0 ro))).toList ++ rest.map (gw_rv (gw_rho z0 ro)))) := by
        intro H1 locs1 hh1 hs1
        have k := IH b m (pc + 3) L (r.toList ++ rest) hq res hg4 M hM p e R s mm args below meth c H1 locs1 (cells + (hq.2.1 - h.2.1)) (slots + (hq.2.2 - h.2.2)) Q ls nb zb ⟨hx, hb, hml, hown, hts, hinit, hSR⟩ ⟨d1, hh1, hs1, (fun v hv => by
          rcases List.mem_append.mp hv with hv | hv
          · exact hg3.val v _ (by cases r with | none => cases hv | some w => rw [List.mem_singleton.mp hv])
          · exact gw_ok_mono g1 (hrest v hv)), gw_okL_mono g1 d5, by omega, by omega⟩ hb1 hb2 hr1 hr2 hret
        have e1 : (r.toList ++ rest).map (gw_rv (gw_rho z0 ro)) = (r.map (gw_rv (gw_rho z0 ro))).toList ++ rest.map (gw_rv (gw_rho z0 ro)) := by cases r <;> simp
        rw [e1] at k
        exact k
      have hPc : ∀ U : State, U.heap = H → s.WarmedH U.vm → gw_Pc D ca z0 ro rc vs h (vs.map (gw_rv (gw_rho z0 ro))).toArray U := fun U hU hW => ⟨rfl, hSR.at d3 hU hW, by rw [hU]; exact d2⟩
      have hini : (Jvm.Cond.initialized Y.2.1.cls).before args s = true := hts _ (gw_tb_in w3 rfl)
      have hcode : (Jvm.Cond.code Y.2.1 Y.2.2.1 Y.2.2.2.1 Y.2.2.2.2.1).before args s = true := hts _ (gw_tb_in w2 rfl)
      have hSf : CallFix p mm c M.2.2.1 M.2.2.2.1 s args gw_tb (gw_cnm M.1) := ⟨hx, hb, hml, hown, hts⟩
      unfold gw_ck at hck
      split at hck
      · rename_i i0 k0 hi0
        cases hck
        rw [hi0] at a2 a3
        have hl3 := gw_len_of 2 a3 rfl
        rw [hl3] at a2
        obtain ⟨a, As, fs, hvs0, hcell, ha⟩ := gw_rcv0 hY c7
        subst hvs0
        have hlt : a < h.2.1 := hvs (.ref a) List.mem_cons_self a rfl
        obtain ⟨hatc, -⟩ := d2.2.2.1 a ha hlt
        rw [hcell] at hatc
        obtain ⟨⟨C, T, N⟩, hcl, -⟩ := id hatc
        have hCn := gw_cn_cl Y.1 hcl
        obtain ⟨cellB, b1, b2, b3⟩ := va_recv (q0 := 0) hSR.1 (gw_P1 hatc) hcl rfl
        have hg : gw_rho z0 ro a = z0 + (a - 8) := gw_rho_hi ha
        have hst : st.map (gw_rv (gw_rho z0 ro)) = (As.map (gw_rv (gw_rho z0 ro))).reverse ++ .ref (gw_rho z0 ro a) :: rest.map (gw_rv (gw_rho z0 ro)) := by rw [c2]; simp [gw_rv]
        have hn : (As.map (gw_rv (gw_rho z0 ro))).length = Y.2.2.2.2.2.1 := by simp at c3; simpa using c3
        have pv : PreV s H Y.2.1.cls (gw_rho z0 ro a) (gw_Pc D ca z0 ro rc (.ref a :: As) h) (As.map (gw_rv (gw_rho z0 ro))) := ⟨gw_Pc_blind, ⟨cellB, by rw [hg]; exact b1, b2, by rw [w1, hCn]; exact b3⟩, hPc⟩
        have hin := hts _ (gw_tb_in (w5 (by rw [c1]; decide)) rfl)
        have hse := hts _ (gw_tb_in (w6 c1) rfl)
        by_cases hne : nest = 0
        · exact gw_callk (va_runV hSf hmet ⟨callB_of _ hts (gw_goodT w2) rfl rfl rfl hini (hts _ (gw_tb_in (lk0 hne) rfl)) w8 hR, hin, hse⟩ pv rfl hn d1.1 hst hroom a2 hf) d3 (fun q h => h) K
        · exact gw_callk (va_runVN hSf hmet ⟨va_cnB _ hts (gw_goodT w2) rfl rfl rfl (hSR.2.2.2.2 _ _ _ (lk1 hne)) hini w8 hR, hin, hse⟩ pv rfl hn d1.1 hst hroom a2 hf) d3 (fun q h => h) K
      · rename_i i0 k0 hi0
        cases hck
        rw [hi0] at a2 a3
        have hl3 := gw_len_of 2 a3 rfl
        rw [hl3] at a2
        have hst : st.map (gw_rv (gw_rho z0 ro)) = (vs.map (gw_rv (gw_rho z0 ro))).reverse ++ rest.map (gw_rv (gw_rho z0 ro)) := by rw [c2]; simp
        have hn : (vs.map (gw_rv (gw_rho z0 ro))).length = Y.2.2.2.2.2.1 := by simp at c3; simpa using c3
        have hstt := hts _ (gw_tb_in (w4 c1) rfl)
        by_cases hne : nest = 0
        · exact gw_callk (va_runS hSf hmet ⟨callB_of _ hts (gw_goodT w2) rfl rfl rfl hini (hts _ (gw_tb_in (lk0 hne) rfl)) w8 hR, hstt⟩ ⟨gw_Pc_blind, hPc⟩ rfl hn d1.1 hst hroom a2 hf) d3 (fun q h => h) K
        · exact gw_callk (va_runSN hSf hmet ⟨va_cnB _ hts (gw_goodT w2) rfl rfl rfl (hSR.2.2.2.2 _ _ _ (lk1 hne)) hini w8 hR, hstt, trivial⟩ ⟨gw_Pc_blind, hPc⟩ rfl hn d1.1 hst hroom a2 hf) d3 (fun q h => h) K
      · rename_i i0 k0 hi0
        cases hck
        rw [hi0] at a2 a3
        have hl3 := gw_len_of 2 a3 rfl
        rw [hl3] at a2
        obtain ⟨a, As, hvs0⟩ := gw_rcv2 c7
        subst hvs0
        have hst : st.map (gw_rv (gw_rho z0 ro)) = (As.map (gw_rv (gw_rho z0 ro))).reverse ++ .ref (gw_rho z0 ro a) :: rest.map (gw_rv (gw_rho z0 ro)) := by rw [c2]; simp [gw_rv]
        have hn : (As.map (gw_rv (gw_rho z0 ro))).length = Y.2.2.2.2.2.1 := by simp at c3; simpa using c3
        have hin := hts _ (gw_tb_in (w5 (by rw [c1]; decide)) rfl)
        obtain ⟨w71, w72⟩ := w7 c1
        by_cases hne : nest = 0
        · have cb := callB_of _ hts (gw_goodT w2) rfl rfl rfl hini (hts _ (gw_tb_in (lk0 hne) rfl)) w8 hR
          rw [w72] at cb hmet
          exact gw_callk (va_runI hSf hmet ⟨cb, w71, hin⟩ ⟨gw_Pc_blind, hPc⟩ rfl hn d1.1 hst hroom a2 hf) d3 (fun q h => h) K
        · have cb := va_cnB _ hts (gw_goodT w2) rfl rfl rfl (hSR.2.2.2.2 _ _ _ (lk1 hne)) hini w8 hR
          rw [w72] at cb hmet
          exact gw_callk (va_runIN hSf hmet ⟨cb, w71, hin⟩ ⟨gw_Pc_blind, hPc⟩ rfl hn d1.1 hst hroom a2 hf) d3 (fun q h => h) K
      · cases hck

end SND
end
section
/-! THE CLAIM OUT OF ONE WALK OF THE LAW'S BODY. Your part is whole_start (and what it stands on); all else here is the same for every law, but numbers. -/
def R_law : String := "GlassWiresLaw"
def lw_P (b : Addr) (xs : List Int32) (args : Array Value) (s : State) : Prop := args = #[.ref b] ∧ s.IntsAt b xs ∧ xs.length ≤ 2560 ∧ (Jvm.Cond.and given_1 narrow_1).before args s = true
def lw_Q (_ : Array Value) (s : State) (o : Outcome) (t : State) : Prop := o = .returned (some (.int 1)) ∧ Framed s o t [] 600000 7302250
def lw_Z (below : List Frame) (a : Array Value) (s : State) : State → Prop := fun t => ∃ o, t.status = .running ∧ Ended t below o ∧ lw_Q a s o t
/-- the law's own end, with 1 on the stack, nothing written that was there before, its room as the claim has it -/
theorem lw_ret {p : Program} {l : Launch} {e : Env} {s : State} {m : MethodId} {below : List Frame} {meth : Method} {c : Code} {b : Nat} (hx : p.tables.exec = Jvm.exec) (hb : c.code = code) (hr : meth.sig.returnType = ret) (hlocks : meth.locks = false) {pc : Nat} {H : Heap} {ls : Array Slot} (hdg : decode code pc = .ok (.ireturn, 1)) : W p l e room_1 s m #[Value.ref b] below meth c H [] 600000 7302250 (lw_Z below #[Value.ref b] s) (F0 m pc ls [.int 1]) := by
  intro T hT X
  obtain ⟨fs, hret, hrun, hended, hW, hframe⟩ := X.leave (v := some (.int 1)) (hlocks := hlocks) (fun h => by rw [hr] at h; cases h)
  have hmeth' : T.vm.method? m = some meth := X.method'
  refine ⟨T.setFrames fs, ?_, .returned (some (.int 1)), hrun, hended, rfl, ⟨_, rfl⟩, hW, hframe⟩
  jvm_step X.here [X.here.top, hx, hb, hdg, hmeth', hr, ret, narrow_b1]
  (try refine ⟨rfl, ?_⟩); (try refine ⟨rfl, ?_⟩)
  first | (intro acts; rw [hret _ acts rfl rfl rfl]) | rw [hret _ _ rfl rfl rfl]
  exact Steps.refl _
/-- what holds at the law's entry: the machine, the code, the tables' words (any of lw_tbl by 'hts w (by decide +kernel)'), the script of L ints xs at the cell b, what the Statement gives of the start (any of its parts by flat_of_before) -/
def lw_At (p : Program) (s : State) (m : MethodId) (meth : Method) (c : Code) (b L : Nat) (xs : Nat → Int32) : Prop :=
  p.tables.exec = Jvm.exec ∧ c.code = code ∧ meth.sig.returnType = ret ∧ c.maxLocals = 4 ∧ s.vm.findClass R_law = some m.cls ∧ (∀ w ∈ lw_tbl, w.before #[Value.ref b] s = true) ∧ va_X b L xs s s.heap ∧ b < s.heap.size ∧ meth.locks = false ∧ (Jvm.Cond.and given_1 narrow_1).before #[Value.ref b] s = true
theorem gw_fact_I {ci N : Nat} {C : String} {T : u_T} (h : vwCl[ci]? = some (C, T, N)) : Jvm.Cond.instantiable C N ∈ lw_tbl := by
  have hlt : ci < 13 := (List.getElem?_eq_some_iff.mp h).1
  obtain ⟨i, hi⟩ : ∃ i, (gw_pool 11 i).map (fun e => (e.1, e.2.1)) = some (2, ci) ∨ (gw_pool 13 i).map (fun e => (e.1, e.2.1)) = some (2, ci) := by
    have H : ∀ c, c < 13 → ([7, 16, 23, 30, 39, 48, 57, 64, 73, 82, 91, 10].any fun i => decide ((gw_pool 11 i).map (fun e => (e.1, e.2.1)) = some (2, c)) || decide ((gw_pool 13 i).map (fun e => (e.1, e.2.1)) = some (2, c))) = true := by decide +kernel
    have h1 := H ci hlt
    simp only [List.any_eq_true, Bool.or_eq_true, decide_eq_true_eq] at h1
    obtain ⟨i, -, hi⟩ := h1
    exact ⟨i, hi⟩
  have fin : ∀ c, (gw_pool c i).map (fun e => (e.1, e.2.1)) = some (2, ci) → Jvm.Cond.instantiable C N ∈ lw_tbl := by
    intro c hc
    obtain ⟨⟨e1, e2, e3, e4⟩, h1, h2⟩ := Option.map_eq_some_iff.mp hc
    simp only [Prod.mk.injEq] at h2
    obtain ⟨rfl, rfl⟩ := h2
    obtain ⟨C', T', N', q1, -, q3, -⟩ := gw_fact_P2 h1
    cases h.symm.trans q1
    exact q3
  rcases hi with hi | hi
  · exact fin _ hi
  · exact fin _ hi
def gw_rcL (L : Nat) (xs : Nat → Int32) (a : Nat) : Nat × (Nat → Int32) := match a with
  | 1 => (3, fun j => match j with | 0 => 1 | 1 => 0 | _ => 0)
  | 2 => (3, fun j => match j with | 0 => 900 | 1 => 9 | _ => 99)
  | 3 => (3, fun j => match j with | 0 => 700 | 1 => 3 | _ => 10)
  | 4 => (3, fun j => match j with | 0 => 99 | 1 => 99 | _ => 999)
  | _ => (L, xs)
def gw_h0 (L : Nat) (xs : Nat → Int32) : gw_H := (fun a => .inl (0, gw_rcL L xs a), 8, 0)
theorem gw_lt3 {P : Nat → Prop} (h0 : P 0) (h1 : P 1) (h2 : P 2) : ∀ j, j < 3 → P j := fun j hj => by
  match j with
  | 0 => exact h0
  | 1 => exact h1
  | 2 => exact h2
/-- a static row of three ints, as the statement gives it -/
theorem gw_stat {args : Array Value} {s : State} {A : Nat → Prop} (n : String) (f : Nat → Int32) (hts : ∀ w ∈ lw_tbl, w.before args s = true) (hg : ∀ c ∈ flatC (Jvm.Cond.and given_1 narrow_1), c.before args s = true)
    (hw : Jvm.Cond.laysStatic "GlassWires$Palette" n "[I" ∈ lw_tbl) (hi : Jvm.Cond.initialized "GlassWires$Palette" ∈ lw_tbl)
    (harr : Jvm.Cond.arrayOf (.static "GlassWires$Palette" n "[I") .int ∈ flatC (Jvm.Cond.and given_1 narrow_1)) (hlen : Jvm.Cond.eq (.length (.static "GlassWires$Palette" n "[I")) (.int 3) ∈ flatC (Jvm.Cond.and given_1 narrow_1))
    (h0 : Jvm.Cond.eq (.elem (.static "GlassWires$Palette" n "[I") (.int 0)) (.int (f 0)) ∈ flatC (Jvm.Cond.and given_1 narrow_1)) (h1 : Jvm.Cond.eq (.elem (.static "GlassWires$Palette" n "[I") (.int 1)) (.int (f 1)) ∈ flatC (Jvm.Cond.and given_1 narrow_1)) (h2 : Jvm.Cond.eq (.elem (.static "GlassWires$Palette" n "[I") (.int 2)) (.int (f 2)) ∈ flatC (Jvm.Cond.and given_1 narrow_1))
    (hA : ∀ a : Nat, a < s.heap.size → ¬ A a) : ∃ t : Nat, va_T .int t 3 (fun j => .int (f j)) A s s.heap ∧ va_Z "GlassWires$Palette" n "[I" (.ref t) A s s.heap := by
  obtain ⟨t, q1, q2⟩ := va_Tof (N := 3) (f := fun j => .int (f j)) (A := A) (by decide) (hg _ harr) (va_eqv (hg _ hlen) rfl) (gw_lt3 (va_eqv (hg _ h0) rfl) (va_eqv (hg _ h1) rfl) (va_eqv (hg _ h2) rfl)) hA
  exact ⟨t, q2, va_Zof (hts _ hw) (hts _ hi) q1 hA⟩
theorem gw_arr0 {args : Array Value} {s : State} {ty : FieldType} (h : (Jvm.Cond.arrayClass ty).before args s = true) : ∃ cA, ArrOfT s cA ty ∧ s.vm.findClass ("[" ++ ty.toString) = some cA := by
  obtain ⟨cA, kA, comp, h1, h2, h3⟩ := Cond.arrayClass_spec h
  exact ⟨cA, fun n z => ⟨fun k h => (by cases h), kA, h2, comp, h3⟩, h1⟩
set_option maxRecDepth 100000 in
theorem gw_SR0 {p : Program} {s : State} {m : MethodId} {meth : Method} {c : Code} {b L : Nat} {xs : Nat → Int32} (C0 : lw_At p s m meth c b L xs) : ∃ (D : va_G) (ca : Nat → ClassId) (ro : Nat → Nat), gw_SR D ca s.heap.size ro (gw_rcL L xs) s ∧ ro 0 = b := by
  obtain ⟨hx, hb, hr, hml, hown, hts, hX, hbl, hlocks, hgv⟩ := C0
  have hg := flat_of_before _ hgv
  have hK : ∀ ci : Nat, ∃ (cC : ClassId) (iS : Nat → Nat), ∀ (C : String) (T : u_T) (N : Nat), vwCl[ci]? = some (C, T, N) → u_Kn s C T N cC iS := by
    intro ci
    cases hc : vwCl[ci]? with
    | none => exact ⟨0, fun _ => 0, fun C T N h => by cases h⟩
    | some q =>
      obtain ⟨C, T, N⟩ := q
      obtain ⟨cC, iS, h⟩ := u_known (ws := lw_tbl) hts (fun w hw => (List.mem_filter.mp ((gw_fact_C hc).1 w hw)).1) (hts _ (gw_fact_I hc))
      exact ⟨cC, iS, fun C' T' N' h' => by cases h'; exact h⟩
  obtain ⟨aI, aI1, aI2⟩ := gw_arr0 (hts _ gw_arw.1)
  obtain ⟨aZ, aZ1, aZ2⟩ := gw_arr0 (hts _ gw_arw.2)
  have hA : ∀ a : Nat, a < s.heap.size → ¬ gw_A s.heap.size a := fun a ha => by unfold gw_A; omega
  obtain ⟨t1, x1, z1⟩ := gw_stat (A := gw_A s.heap.size) "LEAST_TRAIT" (gw_rcL 0 (fun _ => 0) 1).2 hts hg (by decide +kernel) (by decide +kernel) (by decide +kernel) (by decide +kernel) (by decide +kernel) (by decide +kernel) (by decide +kernel) hA
  obtain ⟨t2, x2, z2⟩ := gw_stat (A := gw_A s.heap.size) "MOST_TRAIT" (gw_rcL 0 (fun _ => 0) 2).2 hts hg (by decide +kernel) (by decide +kernel) (by decide +kernel) (by decide +kernel) (by decide +kernel) (by decide +kernel) (by decide +kernel) hA
  obtain ⟨t3, x3, z3⟩ := gw_stat (A := gw_A s.heap.size) "FIRST_TRAIT" (gw_rcL 0 (fun _ => 0) 3).2 hts hg (by decide +kernel) (by decide +kernel) (by decide +kernel) (by decide +kernel) (by decide +kernel) (by decide +kernel) (by decide +kernel) hA
  obtain ⟨t4, x4, z4⟩ := gw_stat (A := gw_A s.heap.size) "MOST_RULE" (gw_rcL 0 (fun _ => 0) 4).2 hts hg (by decide +kernel) (by decide +kernel) (by decide +kernel) (by decide +kernel) (by decide +kernel) (by decide +kernel) (by decide +kernel) hA
  have x0 : va_T .int b L (fun j => .int (xs j)) (gw_A s.heap.size) s s.heap := by
    obtain ⟨scr, q1, q2, q3, q4, q5⟩ := hX
    exact ⟨scr, q1, q2, q3, Nat.le_of_eq q4.symm, (by rw [q4] <;> rfl), q5, hA b hbl⟩
  refine ⟨(fun ci => Classical.choose (hK ci), fun ci => Classical.choose (Classical.choose_spec (hK ci))), (fun k => if k = 0 then aI else aZ), (fun a => match a with | 1 => t1 | 2 => t2 | 3 => t3 | 4 => t4 | _ => b), ⟨⟨fun ci q hq => ?_, fun k q hq => ?_⟩, fun a ha => ?_, fun j hj1 hj2 => ?_, Nat.le_refl _, fun a i y hy => va_Nw.of rfl (hts _ hy)⟩, rfl⟩
  · exact Classical.choose_spec (Classical.choose_spec (hK ci)) q.1 q.2.1 q.2.2 hq
  · match k with
    | 0 => cases hq; exact ⟨aI1, aI2⟩
    | 1 => cases hq; exact ⟨aZ1, aZ2⟩
    | k + 2 => cases hq
  · match a, ha with
    | 0, _ => exact x0
    | 1, _ => exact x1
    | 2, _ => exact x2
    | 3, _ => exact x3
    | 4, _ => exact x4
    | 5, _ => exact x0
    | 6, _ => exact x0
    | 7, _ => exact x0
  · match j, hj1, hj2 with
    | 1, _, _ => exact z1
    | 2, _, _ => exact z2
    | 3, _, _ => exact z3
    | 4, _, _ => exact z4
theorem gw_lawM : ∃ k, gw_mi gw_LAW = some (13, ⟨"GlassWiresLaw", "law", "([I)Z"⟩, code, 4, some .boolean, 1, 1, k, gk_309) := ⟨_, rfl⟩
/-- the law's walk out of a run of the interpreter -/
theorem gw_law {p : Program} {e : Env} {s : State} {m : MethodId} {below : List Frame} {meth : Method} {c : Code} (l : Launch) {b L : Nat} {xs : Nat → Int32} (C0 : lw_At p s m meth c b L xs) {h' : gw_H} (hEv : Ev 40 gw_LAW 0 [some (.ref 0), none, none, none] [] (gw_h0 L xs) (some (.int 1), h')) (hc : h'.2.1 ≤ 600000) (hz : h'.2.2 ≤ 7302250) :
    W p l e room_1 s m #[Value.ref b] below meth c s.heap [] 0 0 (lw_Z below #[Value.ref b] s) (entryFrame m ([Value.ref b] : List Value).toArray 4) := by
  obtain ⟨D, ca, ro, hSR, hro⟩ := gw_SR0 C0
  obtain ⟨hx, hb, hr, hml, hown, hts, hX, hbl, hlocks, hgv⟩ := C0
  obtain ⟨k, hM⟩ := gw_lawM
  obtain ⟨n, hn⟩ := hEv
  rw [lg_entry_eq]
  have he := lv_entry ([Value.ref b]) (n := 4) (Nat.le_of_ble_eq_true rfl)
  have hHR : gw_HR D ca s.heap.size ro (gw_rcL L xs) (gw_h0 L xs) s.heap := ⟨Nat.le_refl _, rfl, fun a h1 h2 => absurd h2 (by show ¬ a < 8; omega), fun a ha => rfl⟩
  refine gw_walks l D ca s.heap.size ro (gw_rcL L xs) n 40 gw_LAW 0 _ [] _ _ hn _ hM p e room_1 s m #[Value.ref b] below meth c s.heap [] 0 0 _ _ 8 0 ⟨hx, hb, hml, hown, fun w hw => hts w (List.mem_filter.mp hw).1, (fun h => by cases h), hSR⟩ ⟨⟨he.1, he.2.1, rfl, fun i v hv => ?_⟩, hHR, va_S.rf, (fun v hv => by cases hv), fun i v hv => ?_, rfl, rfl⟩ (by decide) (by decide) (by show h'.2.1 ≤ 8 + 600000; omega) (by show h'.2.2 ≤ 0 + 7302250; omega) ?_
  · match i with
    | 0 =>
      cases hv
      have hg : gw_rv (gw_rho s.heap.size ro) (.ref 0) = .ref b := by show Value.ref (gw_rho s.heap.size ro 0) = _; rw [gw_rho_lo (by omega), hro]
      rw [hg]
      rfl
    | 1 => cases hv
    | 2 => cases hv
    | 3 => cases hv
    | i + 4 => cases hv
  · match i with
    | 0 => cases hv; intro a ha; cases ha; exact Nat.lt_of_lt_of_le (by decide) (Nat.le_refl 8)
    | 1 => cases hv
    | 2 => cases hv
    | 3 => cases hv
    | i + 4 => cases hv
  · intro pc' len I st' ls' H' locs' hd hlen hrt hHR' hS'
    dsimp only [gw_rtv] at hrt
    split at hrt
    · rename_i h9; cases h9
    · split at hrt
      · cases hrt
        have hl := gw_len_of 0 hlen rfl
        subst hl
        refine va_forget (fun q hq => hS'.2.2 q hq) ?_
        refine W.widen (k := 600000) (n := 7302250) (by show h'.2.1 - 8 ≤ 600000; omega) (by show h'.2.2 - 0 ≤ 7302250; omega) ?_
        exact lw_ret hx hb hr hlocks hd
      · cases hrt
    · rename_i h9; cases h9
    · rename_i h9; cases h9
    · cases hrt
end
section
/-! the memory: every cell's ints, by its number; the cells' forms are fixed -/
abbrev Mem : Type := Nat → Nat → Int32
abbrev gw_N : Type := (Nat × (Nat → Int32)) × Nat × Nat
abbrev gw_D : Type := (Nat × Nat) ⊕ (Nat × List (Option Nat))
def gw_shL : List gw_D := [.inl (0, 0), .inl (0, 0), .inl (0, 0), .inl (0, 0), .inl (0, 0), .inl (0, 0), .inl (0, 0), .inl (0, 0), .inr (11, [some 9, some 12, some 14, some 22, some 32, some 36, some 40, some 44, some 50, some 53, some 54]), .inr (2, [some 10, some 11, none, none]), .inl (0, 64), .inl (0, 64), .inr (4, [some 13, none]), .inl (0, 40), .inr (10, [some 15, some 16, some 17, some 18, some 19, some 20, some 21, none]), .inl (1, 30), .inl (1, 30), .inl (0, 30), .inl (0, 30), .inl (0, 30), .inl (0, 750), .inl (0, 720), .inr (3, [some 9, some 14, some 23, some 24, some 25, some 26, some 27, some 28, some 29, some 30, some 31]), .inl (0, 178), .inl (0, 178), .inl (0, 89), .inl (0, 178), .inl (0, 89), .inl (0, 30), .inl (0, 89), .inl (0, 89), .inl (0, 89), .inr (0, [some 9, some 22, some 33, some 34, some 35, none]), .inl (0, 64), .inl (0, 64), .inl (0, 64), .inr (5, [some 9, some 32, some 37, some 38, some 39]), .inl (0, 64), .inl (0, 10), .inl (0, 10), .inr (6, [some 41, some 42, some 43]), .inl (0, 24), .inl (0, 8), .inl (0, 3), .inr (1, [some 9, some 22, some 32, some 40, some 45, some 46, some 47, some 48, some 49, none]), .inl (0, 64), .inl (0, 768), .inl (0, 768), .inl (0, 768), .inl (0, 64), .inr (7, [some 40, some 51, some 52, none]), .inl (0, 8), .inl (0, 8), .inr (9, [some 9, some 40, some 44, none, none]), .inr (8, [some 55, some 56, some 57, some 58, none]), .inl (0, 8), .inl (0, 8), .inl (0, 256), .inl (0, 256), .inr (12, [none, none, some 60, none, none, some 61, some 62, some 63, some 64, some 65, some 66, some 67, some 68, some 69, some 70, none, some 71, some 72, some 73, some 74, some 75, some 76, none, none, none, some 77, some 78, some 79, some 80, none, some 81, some 82, some 83, none, none, none, none, some 84, some 85, some 86, none, some 87, some 88, some 89]), .inl (0, 40), .inl (0, 750), .inl (0, 750), .inl (0, 30), .inl (1, 30), .inl (1, 30), .inl (1, 30), .inl (0, 162), .inl (0, 81), .inl (0, 64), .inl (0, 64), .inl (1, 100), .inl (0, 10), .inl (0, 8), .inl (0, 8), .inl (0, 8), .inl (1, 64), .inl (0, 64), .inl (0, 768), .inl (0, 768), .inl (0, 768), .inl (0, 64), .inl (1, 64), .inl (0, 900), .inl (0, 8), .inl (0, 8), .inl (0, 8), .inl (0, 8), .inl (0, 8), .inl (0, 8)]
def gw_fv (f : Nat → Int32) : Nat → List (Option Nat) → List Value
  | _, [] => []
  | k, some t :: r => .ref t :: gw_fv f (k + 1) r
  | k, none :: r => .int (f k) :: gw_fv f (k + 1) r
def hpc (a : Nat) (f : Nat → Int32) : gw_C := match gw_shL[a]? with
  | some (.inl q) => .inl (q.1, q.2, f)
  | some (.inr q) => .inr (q.1, gw_fv f 0 q.2)
  | none => .inl (0, 0, f)
def hs (E : gw_N) (M : Mem) : gw_H := (fun a => if a < 8 then .inl (0, gw_rcL E.1.1 E.1.2 a) else hpc a (M a), E.2.1, E.2.2)
def up (M : Mem) (a : Nat) (g : Nat → Int32) : Mem := fun b => if b = a then g else M b
def inb (i : Int32) (n : Nat) : Prop := ¬ (i < 0 ∨ n ≤ i.toNatClampNeg)
theorem hs_set {E : gw_N} {M : Mem} {a : Nat} {g : Nat → Int32} (ha : 8 ≤ a) : gw_set (hs E M) a (hpc a g) = hs E (up M a g) := by
  unfold gw_set hs
  refine Prod.ext ?_ rfl
  funext q
  show (if q = a then hpc a g else (if q < 8 then _ else hpc q (M q))) = (if q < 8 then _ else hpc q (if q = a then g else M q))
  by_cases h : q = a
  · subst h
    rw [if_pos rfl, if_neg (by omega), if_pos rfl]
  · rw [if_neg h, if_neg h]
def gw_leb : gw_L → gw_L → Prop
  | [], [] => True
  | none :: a, _ :: b => gw_leb a b
  | some v :: a, w :: b => w = some v ∧ gw_leb a b
  | _, _ => False
theorem gw_leb_le {a : gw_L} : ∀ {b : gw_L}, gw_leb a b → gw_le a b := by
  induction a with
  | nil =>
    intro b h
    cases b with
    | nil => exact ⟨rfl, fun i v h => by cases h⟩
    | cons x y => exact h.elim
  | cons x a ih =>
    intro b h
    cases b with
    | nil => cases x <;> exact h.elim
    | cons y b =>
      cases x with
      | none =>
        obtain ⟨q1, q2⟩ := ih (b := b) h
        refine ⟨by simp [q1], fun i v hv => ?_⟩
        match i with
        | 0 => cases hv
        | i + 1 => exact q2 i v hv
      | some w =>
        obtain ⟨h1, h2⟩ := h
        obtain ⟨q1, q2⟩ := ih (b := b) h2
        refine ⟨by simp [q1], fun i v hv => ?_⟩
        match i with
        | 0 => cases hv; rw [h1]; rfl
        | i + 1 => exact q2 i v hv
section EVM
variable {b m pc : Nat} {L : gw_L} {st : List Value} {h : gw_H} {res : Option Value × gw_H} {E : gw_N} {M : Mem}
theorem Ev_ite {c : Prop} [Decidable c] {p q : Nat} (kt : c → Ev b m p L st h res) (kf : ¬ c → Ev b m q L st h res) : Ev b m (if c then p else q) L st h res := by
  by_cases hc : c
  · rw [if_pos hc]; exact kt hc
  · rw [if_neg hc]; exact kf hc
theorem Ev.rd {i : Int32} {n : Nat} {pc' : Nat} {L' : gw_L} {st' : List Value} {h' : gw_H} (hi : inb i n) (h1 : gw_stp m pc L st h = if i < 0 ∨ n ≤ i.toNatClampNeg then none else some (pc', L', st', h')) (k : Ev b m pc' L' st' h' res) : Ev b m pc L st h res := Ev.step (h1.trans (if_neg hi)) k
theorem Ev.dv {y : Int32} {pc' : Nat} {L' : gw_L} {st' : List Value} {h' : gw_H} (hy : ¬ y = 0) (h1 : gw_stp m pc L st h = if y = 0 then none else some (pc', L', st', h')) (k : Ev b m pc' L' st' h' res) : Ev b m pc L st h res := Ev.step (h1.trans (if_neg hy)) k
theorem Ev.mem {a : Nat} {g : Nat → Int32} {pc' : Nat} {L' : gw_L} {st' : List Value} (ha : 8 ≤ a) (h1 : gw_stp m pc L st (hs E M) = some (pc', L', st', gw_set (hs E M) a (hpc a g))) (k : Ev b m pc' L' st' (hs E (up M a g)) res) : Ev b m pc L st (hs E M) res := Ev.step h1 (by rw [hs_set ha]; exact k)
theorem Ev.wr {a : Nat} {g : Nat → Int32} {i : Int32} {n : Nat} {pc' : Nat} {L' : gw_L} {st' : List Value} (ha : 8 ≤ a) (hi : inb i n) (h1 : gw_stp m pc L st (hs E M) = if i < 0 ∨ n ≤ i.toNatClampNeg then none else some (pc', L', st', gw_set (hs E M) a (hpc a g))) (k : Ev b m pc' L' st' (hs E (up M a g)) res) : Ev b m pc L st (hs E M) res := Ev.mem ha (h1.trans (if_neg hi)) k
theorem Ev.sw {p : Nat} {pc' : Nat} {L' : gw_L} {st' : List Value} {h' : gw_H} (h1 : gw_stp m pc L st h = some (p, L', st', h')) (hp : p = pc') (k : Ev b m pc' L' st' h' res) : Ev b m pc L st h res := Ev.step h1 (by rw [hp]; exact k)
theorem Ev.mto {M' : Mem} (hM : M = M') (k : Ev b m pc L st (hs E M') res) : Ev b m pc L st (hs E M) res := hM ▸ k
end EVM
theorem gw_ts_df {pc : Nat} {d lo hi : Int} {offs : Array Int} {x : Int32} {t : Nat} (ht : ((pc : Int) + d).toNat = t) (h : ∀ k : Int, lo ≤ k → k ≤ hi → x ≠ Int32.ofInt k) : gw_tsw pc d lo hi offs x = t := by
  unfold gw_tsw
  rw [if_pos]
  · exact ht
  · apply Classical.byContradiction
    intro hn
    exact h x.toInt (by omega) (by omega) (by simp)
theorem gw_ls_ne {x : Int32} {v : Int32} {k : Int} (hv : v.toInt = k) (h : ¬ x = v) : ¬ k = x.toInt := fun e => h (Int32.toInt_inj.mp (by rw [hv, e]))
theorem up_self {M : Mem} {a : Nat} {g : Nat → Int32} : up M a g a = g := if_pos rfl
theorem up_ne {M : Mem} {a c : Nat} {g : Nat → Int32} (h : c ≠ a) : up M a g c = M c := if_neg h
theorem up_up {M : Mem} {a : Nat} {g g' : Nat → Int32} : up (up M a g) a g' = up M a g' := by
  funext q
  unfold up
  split <;> rfl
theorem up_comm {M : Mem} {a c : Nat} {g g' : Nat → Int32} (h : a ≠ c) : up (up M a g) c g' = up (up M c g') a g := by
  funext q
  unfold up
  by_cases h1 : q = a
  · subst h1
    rw [if_neg h, if_pos rfl, if_pos rfl]
  · rw [if_neg h1, if_neg h1]
end
section
/-! by program (wp.py): formulas that are enough -/
-- 37 GlassWires$Grid resize (II)V
theorem w37_0 {E : gw_N} {M : Mem} {res : Option Value × gw_H} {x1 : Int32} {x2 : Int32} (H : Ev 1 37 12 [some (.ref 9), some (.int x1), some (.int x2), some (.int 0), none] [] (hs E (up M 9 (upd (upd (M 9) 2 x1) 3 x2))) res) : Ev 1 37 0 [some (.ref 9), some (.int x1), some (.int x2), none, none] [] (hs E M) res := by
  refine Ev.steps 2 (pc' := 2) (L' := [some (.ref 9), some (.int x1), some (.int x2), none, none]) (st' := [.int x1, .ref 9]) rfl ?_
  refine Ev.mem (a := 9) (g := (upd (M 9) 2 x1)) (pc' := 5) (L' := [some (.ref 9), some (.int x1), some (.int x2), none, none]) (st' := []) (by decide) rfl ?_
  refine Ev.steps 2 (pc' := 7) (L' := [some (.ref 9), some (.int x1), some (.int x2), none, none]) (st' := [.int x2, .ref 9]) rfl ?_
  refine Ev.mem (a := 9) (g := (upd (upd (M 9) 2 x1) 3 x2)) (pc' := 10) (L' := [some (.ref 9), some (.int x1), some (.int x2), none, none]) (st' := []) (by decide) rfl ?_
  refine Ev.mto (M' := (up M 9 (upd (upd (M 9) 2 x1) 3 x2))) (by funext q9; unfold up; by_cases e9 : q9 = 9 <;> simp [e9]) ?_
  refine Ev.steps 2 (pc' := 12) (L' := [some (.ref 9), some (.int x1), some (.int x2), some (.int 0), none]) (st' := []) rfl ?_
  exact Ev.weak [some (.ref 9), some (.int x1), some (.int x2), some (.int 0), none] (gw_leb_le ⟨rfl, rfl, rfl, rfl, trivial⟩) H

theorem w37_12 {E : gw_N} {M : Mem} {res : Option Value × gw_H} {x1 : Int32} {x2 : Int32} {x3 : Int32} (H : ((x2 ≤ x3 → res = (none, hs E M)) ∧ (¬ x2 ≤ x3 → ((8 ≤ x3 → res = (none, hs E M)) ∧ (¬ 8 ≤ x3 → Ev 1 37 26 [some (.ref 9), some (.int x1), some (.int x2), some (.int x3), some (.int 0)] [] (hs E M) res))))) : Ev 1 37 12 [some (.ref 9), some (.int x1), some (.int x2), some (.int x3), none] [] (hs E M) res := by
  refine Ev.steps 3 (pc' := if x2 ≤ x3 then 76 else 17) (L' := [some (.ref 9), some (.int x1), some (.int x2), some (.int x3), none]) (st' := []) rfl ?_
  refine Ev_ite (fun hc => ?_) (fun hc => ?_)
  · replace H := H.1 hc
    subst H
    exact Ev.ret rfl
  · replace H := H.2 hc
    refine Ev.steps 3 (pc' := if 8 ≤ x3 then 76 else 23) (L' := [some (.ref 9), some (.int x1), some (.int x2), some (.int x3), none]) (st' := []) rfl ?_
    refine Ev_ite (fun hc => ?_) (fun hc => ?_)
    · replace H := H.1 hc
      subst H
      exact Ev.ret rfl
    · replace H := H.2 hc
      refine Ev.steps 2 (pc' := 26) (L' := [some (.ref 9), some (.int x1), some (.int x2), some (.int x3), some (.int 0)]) (st' := []) rfl ?_
      exact Ev.weak [some (.ref 9), some (.int x1), some (.int x2), some (.int x3), some (.int 0)] (gw_leb_le ⟨rfl, rfl, rfl, rfl, rfl, trivial⟩) H

theorem w37_26 {E : gw_N} {M : Mem} {res : Option Value × gw_H} {x1 : Int32} {x2 : Int32} {x3 : Int32} {x4 : Int32} (H : ((x1 ≤ x4 → Ev 1 37 12 [some (.ref 9), some (.int x1), some (.int x2), some (.int (x3 + 1)), none] [] (hs E M) res) ∧ (¬ x1 ≤ x4 → ((8 ≤ x4 → Ev 1 37 12 [some (.ref 9), some (.int x1), some (.int x2), some (.int (x3 + 1)), none] [] (hs E M) res) ∧ (¬ 8 ≤ x4 → (inb ((x1 * x3) + x4) 64 ∧ (inb ((x1 * x3) + x4) 64 ∧ Ev 1 37 26 [some (.ref 9), some (.int x1), some (.int x2), some (.int x3), some (.int (x4 + 1))] [] (hs E (up (up M 10 (upd (M 10) (((x1 * x3) + x4) : Int32).toNatClampNeg x4)) 11 (upd (M 11) (((x1 * x3) + x4) : Int32).toNatClampNeg x3))) res))))))) : Ev 1 37 26 [some (.ref 9), some (.int x1), some (.int x2), some (.int x3), some (.int x4)] [] (hs E M) res := by
  refine Ev.steps 3 (pc' := if x1 ≤ x4 then 70 else 32) (L' := [some (.ref 9), some (.int x1), some (.int x2), some (.int x3), some (.int x4)]) (st' := []) rfl ?_
  refine Ev_ite (fun hc => ?_) (fun hc => ?_)
  · replace H := H.1 hc
    refine Ev.steps 2 (pc' := 12) (L' := [some (.ref 9), some (.int x1), some (.int x2), some (.int (x3 + 1)), some (.int x4)]) (st' := []) rfl ?_
    exact Ev.weak [some (.ref 9), some (.int x1), some (.int x2), some (.int (x3 + 1)), none] (gw_leb_le ⟨rfl, rfl, rfl, rfl, trivial⟩) H
  · replace H := H.2 hc
    refine Ev.steps 3 (pc' := if 8 ≤ x4 then 70 else 39) (L' := [some (.ref 9), some (.int x1), some (.int x2), some (.int x3), some (.int x4)]) (st' := []) rfl ?_
    refine Ev_ite (fun hc => ?_) (fun hc => ?_)
    · replace H := H.1 hc
      refine Ev.steps 2 (pc' := 12) (L' := [some (.ref 9), some (.int x1), some (.int x2), some (.int (x3 + 1)), some (.int x4)]) (st' := []) rfl ?_
      exact Ev.weak [some (.ref 9), some (.int x1), some (.int x2), some (.int (x3 + 1)), none] (gw_leb_le ⟨rfl, rfl, rfl, rfl, trivial⟩) H
    · replace H := H.2 hc
      refine Ev.steps 8 (pc' := 51) (L' := [some (.ref 9), some (.int x1), some (.int x2), some (.int x3), some (.int x4)]) (st' := [.int x4, .int ((x1 * x3) + x4), .ref 10]) rfl ?_
      refine Ev.wr (a := 10) (g := (upd (M 10) (((x1 * x3) + x4) : Int32).toNatClampNeg x4)) (i := ((x1 * x3) + x4)) (n := 64) (pc' := 52) (L' := [some (.ref 9), some (.int x1), some (.int x2), some (.int x3), some (.int x4)]) (st' := []) (by decide) H.1 rfl ?_
      replace H := H.2
      refine Ev.steps 8 (pc' := 63) (L' := [some (.ref 9), some (.int x1), some (.int x2), some (.int x3), some (.int x4)]) (st' := [.int x3, .int ((x1 * x3) + x4), .ref 11]) rfl ?_
      refine Ev.wr (a := 11) (g := (upd (M 11) (((x1 * x3) + x4) : Int32).toNatClampNeg x3)) (i := ((x1 * x3) + x4)) (n := 64) (pc' := 64) (L' := [some (.ref 9), some (.int x1), some (.int x2), some (.int x3), some (.int x4)]) (st' := []) (by decide) H.1 rfl ?_
      replace H := H.2
      refine Ev.steps 2 (pc' := 26) (L' := [some (.ref 9), some (.int x1), some (.int x2), some (.int x3), some (.int (x4 + 1))]) (st' := []) rfl ?_
      exact Ev.weak [some (.ref 9), some (.int x1), some (.int x2), some (.int x3), some (.int (x4 + 1))] (gw_leb_le ⟨rfl, rfl, rfl, rfl, rfl, trivial⟩) H

-- 69 GlassWires$Net edgesUnder (I)I
theorem w69_0 {E : gw_N} {M : Mem} {res : Option Value × gw_H} {x1 : Int32} (H : Ev 2 69 4 [some (.ref 22), some (.int x1), some (.int 0), some (.int 0)] [] (hs E M) res) : Ev 2 69 0 [some (.ref 22), some (.int x1), none, none] [] (hs E M) res := by
  refine Ev.steps 4 (pc' := 4) (L' := [some (.ref 22), some (.int x1), some (.int 0), some (.int 0)]) (st' := []) rfl ?_
  exact Ev.weak [some (.ref 22), some (.int x1), some (.int 0), some (.int 0)] (gw_leb_le ⟨rfl, rfl, rfl, rfl, trivial⟩) H

theorem w69_4 {E : gw_N} {M : Mem} {res : Option Value × gw_H} {x1 : Int32} {x2 : Int32} {x3 : Int32} (H : ((178 ≤ x3 → res = (some (.int x2), hs E M)) ∧ (¬ 178 ≤ x3 → (inb x3 178 ∧ ((((M 23) (x3 : Int32).toNatClampNeg) < x1 → (∃ (r1 : Int32), Rn 206 [.int 0] (hs E M) (some (.int r1)) (hs E M) ∧ Ev 2 69 4 [some (.ref 22), some (.int x1), some (.int (x2 + r1)), some (.int (x3 + 1))] [] (hs E M) res)) ∧ (¬ ((M 23) (x3 : Int32).toNatClampNeg) < x1 → (∃ (r2 : Int32), Rn 206 [.int 1] (hs E M) (some (.int r2)) (hs E M) ∧ Ev 2 69 4 [some (.ref 22), some (.int x1), some (.int (x2 + r2)), some (.int (x3 + 1))] [] (hs E M) res))))))) : Ev 2 69 4 [some (.ref 22), some (.int x1), some (.int x2), some (.int x3)] [] (hs E M) res := by
  refine Ev.steps 3 (pc' := if 178 ≤ x3 then 38 else 11) (L' := [some (.ref 22), some (.int x1), some (.int x2), some (.int x3)]) (st' := []) rfl ?_
  refine Ev_ite (fun hc => ?_) (fun hc => ?_)
  · replace H := H.1 hc
    refine Ev.steps 1 (pc' := 39) (L' := [some (.ref 22), some (.int x1), some (.int x2), some (.int x3)]) (st' := [.int x2]) rfl ?_
    subst H
    exact Ev.ret rfl
  · replace H := H.2 hc
    refine Ev.steps 4 (pc' := 17) (L' := [some (.ref 22), some (.int x1), some (.int x2), some (.int x3)]) (st' := [.int x3, .ref 23, .int x2]) rfl ?_
    refine Ev.rd (i := x3) (n := 178) (pc' := 18) (L' := [some (.ref 22), some (.int x1), some (.int x2), some (.int x3)]) (st' := [.int ((M 23) (x3 : Int32).toNatClampNeg), .int x2]) H.1 rfl ?_
    replace H := H.2
    refine Ev.steps 2 (pc' := if ((M 23) (x3 : Int32).toNatClampNeg) < x1 then 26 else 22) (L' := [some (.ref 22), some (.int x1), some (.int x2), some (.int x3)]) (st' := [.int x2]) rfl ?_
    refine Ev_ite (fun hc => ?_) (fun hc => ?_)
    · replace H := H.1 hc
      refine Ev.steps 1 (pc' := 27) (L' := [some (.ref 22), some (.int x1), some (.int x2), some (.int x3)]) (st' := [.int 0, .int x2]) rfl ?_
      obtain ⟨r1, hr1, H⟩ := H
      refine Ev.call (y := 206) (args := [.int 0]) (rest := [.int x2]) (r := (some (.int r1))) rfl hr1 ?_
      show Ev 2 69 30 [some (.ref 22), some (.int x1), some (.int x2), some (.int x3)] [.int r1, .int x2] _ _
      refine Ev.steps 4 (pc' := 4) (L' := [some (.ref 22), some (.int x1), some (.int (x2 + r1)), some (.int (x3 + 1))]) (st' := []) rfl ?_
      exact Ev.weak [some (.ref 22), some (.int x1), some (.int (x2 + r1)), some (.int (x3 + 1))] (gw_leb_le ⟨rfl, rfl, rfl, rfl, trivial⟩) H
    · replace H := H.2 hc
      refine Ev.steps 2 (pc' := 27) (L' := [some (.ref 22), some (.int x1), some (.int x2), some (.int x3)]) (st' := [.int 1, .int x2]) rfl ?_
      obtain ⟨r2, hr2, H⟩ := H
      refine Ev.call (y := 206) (args := [.int 1]) (rest := [.int x2]) (r := (some (.int r2))) rfl hr2 ?_
      show Ev 2 69 30 [some (.ref 22), some (.int x1), some (.int x2), some (.int x3)] [.int r2, .int x2] _ _
      refine Ev.steps 4 (pc' := 4) (L' := [some (.ref 22), some (.int x1), some (.int (x2 + r2)), some (.int (x3 + 1))]) (st' := []) rfl ?_
      exact Ev.weak [some (.ref 22), some (.int x1), some (.int (x2 + r2)), some (.int (x3 + 1))] (gw_leb_le ⟨rfl, rfl, rfl, rfl, trivial⟩) H

-- 74 GlassWires$Net isCovered (III)Z
theorem w74_0 {E : gw_N} {M : Mem} {res : Option Value × gw_H} {x1 : Int32} {x2 : Int32} {x3 : Int32} (H : (∃ (r1 : Int32), Rn 53 [.int x3] (hs E M) (some (.int r1)) (hs E M) ∧ (∃ (r2 : Int32), Rn 54 [.int x3] (hs E M) (some (.int r2)) (hs E M) ∧ (∃ (r3 : Int32), Rn 41 [.ref 9, .int (x1 + r1), .int (x2 + r2)] (hs E M) (some (.int r3)) (hs E M) ∧ ((r3 = 0 → res = (some (.int 0), hs E M)) ∧ (¬ r3 = 0 → (∃ (r4 : Int32), Rn 52 [.int x1, .int x2, .int x3] (hs E M) (some (.int r4)) (hs E M) ∧ (inb r4 178 ∧ ((((M 23) (r4 : Int32).toNatClampNeg) ≤ 0 → res = (some (.int 0), hs E M)) ∧ (¬ ((M 23) (r4 : Int32).toNatClampNeg) ≤ 0 → res = (some (.int 1), hs E M))))))))))) : Ev 4 74 0 [some (.ref 22), some (.int x1), some (.int x2), some (.int x3)] [] (hs E M) res := by
  refine Ev.steps 4 (pc' := 6) (L' := [some (.ref 22), some (.int x1), some (.int x2), some (.int x3)]) (st' := [.int x3, .int x1, .ref 9]) rfl ?_
  obtain ⟨r1, hr1, H⟩ := H
  refine Ev.call (y := 53) (args := [.int x3]) (rest := [.int x1, .ref 9]) (r := (some (.int r1))) rfl hr1 ?_
  show Ev 4 74 9 [some (.ref 22), some (.int x1), some (.int x2), some (.int x3)] [.int r1, .int x1, .ref 9] _ _
  refine Ev.steps 3 (pc' := 12) (L' := [some (.ref 22), some (.int x1), some (.int x2), some (.int x3)]) (st' := [.int x3, .int x2, .int (x1 + r1), .ref 9]) rfl ?_
  obtain ⟨r2, hr2, H⟩ := H
  refine Ev.call (y := 54) (args := [.int x3]) (rest := [.int x2, .int (x1 + r1), .ref 9]) (r := (some (.int r2))) rfl hr2 ?_
  show Ev 4 74 15 [some (.ref 22), some (.int x1), some (.int x2), some (.int x3)] [.int r2, .int x2, .int (x1 + r1), .ref 9] _ _
  refine Ev.steps 1 (pc' := 16) (L' := [some (.ref 22), some (.int x1), some (.int x2), some (.int x3)]) (st' := [.int (x2 + r2), .int (x1 + r1), .ref 9]) rfl ?_
  obtain ⟨r3, hr3, H⟩ := H
  refine Ev.call (y := 41) (args := [.ref 9, .int (x1 + r1), .int (x2 + r2)]) (rest := []) (r := (some (.int r3))) rfl hr3 ?_
  show Ev 4 74 19 [some (.ref 22), some (.int x1), some (.int x2), some (.int x3)] [.int r3] _ _
  refine Ev.steps 1 (pc' := if r3 = 0 then 40 else 22) (L' := [some (.ref 22), some (.int x1), some (.int x2), some (.int x3)]) (st' := []) rfl ?_
  refine Ev_ite (fun hc => ?_) (fun hc => ?_)
  · replace H := H.1 hc
    refine Ev.steps 1 (pc' := 41) (L' := [some (.ref 22), some (.int x1), some (.int x2), some (.int x3)]) (st' := [.int 0]) rfl ?_
    subst H
    exact Ev.ret rfl
  · replace H := H.2 hc
    refine Ev.steps 5 (pc' := 29) (L' := [some (.ref 22), some (.int x1), some (.int x2), some (.int x3)]) (st' := [.int x3, .int x2, .int x1, .ref 23]) rfl ?_
    obtain ⟨r4, hr4, H⟩ := H
    refine Ev.call (y := 52) (args := [.int x1, .int x2, .int x3]) (rest := [.ref 23]) (r := (some (.int r4))) rfl hr4 ?_
    show Ev 4 74 32 [some (.ref 22), some (.int x1), some (.int x2), some (.int x3)] [.int r4, .ref 23] _ _
    refine Ev.rd (i := r4) (n := 178) (pc' := 33) (L' := [some (.ref 22), some (.int x1), some (.int x2), some (.int x3)]) (st' := [.int ((M 23) (r4 : Int32).toNatClampNeg)]) H.1 rfl ?_
    replace H := H.2
    refine Ev.steps 1 (pc' := if ((M 23) (r4 : Int32).toNatClampNeg) ≤ 0 then 40 else 36) (L' := [some (.ref 22), some (.int x1), some (.int x2), some (.int x3)]) (st' := []) rfl ?_
    refine Ev_ite (fun hc => ?_) (fun hc => ?_)
    · replace H := H.1 hc
      refine Ev.steps 1 (pc' := 41) (L' := [some (.ref 22), some (.int x1), some (.int x2), some (.int x3)]) (st' := [.int 0]) rfl ?_
      subst H
      exact Ev.ret rfl
    · replace H := H.2 hc
      refine Ev.steps 2 (pc' := 41) (L' := [some (.ref 22), some (.int x1), some (.int x2), some (.int x3)]) (st' := [.int 1]) rfl ?_
      subst H
      exact Ev.ret rfl

-- 83 GlassWires$Page wayAt (I)I
theorem w83_0 {E : gw_N} {M : Mem} {res : Option Value × gw_H} {x1 : Int32} (H : ((x1 < 0 → res = (some (.int (-1)), hs E M)) ∧ (¬ x1 < 0 → ((x1 < ((M 12) 1) → (inb x1 40 ∧ ((((M 13) (x1 : Int32).toNatClampNeg) = 100 → res = (some (.int 3), hs E M)) ∧ (((M 13) (x1 : Int32).toNatClampNeg) = 108 → res = (some (.int 2), hs E M)) ∧ (((M 13) (x1 : Int32).toNatClampNeg) = 114 → res = (some (.int 0), hs E M)) ∧ (((M 13) (x1 : Int32).toNatClampNeg) = 117 → res = (some (.int 1), hs E M)) ∧ (¬ ((M 13) (x1 : Int32).toNatClampNeg) = 100 → ¬ ((M 13) (x1 : Int32).toNatClampNeg) = 108 → ¬ ((M 13) (x1 : Int32).toNatClampNeg) = 114 → ¬ ((M 13) (x1 : Int32).toNatClampNeg) = 117 → res = (some (.int (-1)), hs E M))))) ∧ (¬ x1 < ((M 12) 1) → res = (some (.int (-1)), hs E M)))))) : Ev 1 83 0 [some (.ref 12), some (.int x1)] [] (hs E M) res := by
  refine Ev.steps 2 (pc' := if x1 < 0 then 12 else 4) (L' := [some (.ref 12), some (.int x1)]) (st' := []) rfl ?_
  refine Ev_ite (fun hc => ?_) (fun hc => ?_)
  · replace H := H.1 hc
    refine Ev.steps 1 (pc' := 13) (L' := [some (.ref 12), some (.int x1)]) (st' := [.int (-1)]) rfl ?_
    subst H
    exact Ev.ret rfl
  · replace H := H.2 hc
    refine Ev.steps 4 (pc' := if x1 < ((M 12) 1) then 14 else 12) (L' := [some (.ref 12), some (.int x1)]) (st' := []) rfl ?_
    refine Ev_ite (fun hc => ?_) (fun hc => ?_)
    · replace H := H.1 hc
      refine Ev.steps 3 (pc' := 19) (L' := [some (.ref 12), some (.int x1)]) (st' := [.int x1, .ref 13]) rfl ?_
      refine Ev.rd (i := x1) (n := 40) (pc' := 20) (L' := [some (.ref 12), some (.int x1)]) (st' := [.int ((M 13) (x1 : Int32).toNatClampNeg)]) H.1 rfl ?_
      replace H := H.2
      by_cases hw0 : ((M 13) (x1 : Int32).toNatClampNeg) = 100
      · replace H := H.1 hw0
        refine Ev.sw (p := ((20 : Nat) + Op.lookupswitch.offset [(100, 50), (108, 48), (114, 44), (117, 46)] 52 (((M 13) (x1 : Int32).toNatClampNeg) : Int32).toInt : Int).toNat) (pc' := 70) (L' := [some (.ref 12), some (.int x1)]) (st' := []) rfl (by rw [hw0]; decide +kernel) ?_
        refine Ev.steps 1 (pc' := 71) (L' := [some (.ref 12), some (.int x1)]) (st' := [.int 3]) rfl ?_
        subst H
        exact Ev.ret rfl
      replace H := H.2
      by_cases hw1 : ((M 13) (x1 : Int32).toNatClampNeg) = 108
      · replace H := H.1 hw1
        refine Ev.sw (p := ((20 : Nat) + Op.lookupswitch.offset [(100, 50), (108, 48), (114, 44), (117, 46)] 52 (((M 13) (x1 : Int32).toNatClampNeg) : Int32).toInt : Int).toNat) (pc' := 68) (L' := [some (.ref 12), some (.int x1)]) (st' := []) rfl (by rw [hw1]; decide +kernel) ?_
        refine Ev.steps 1 (pc' := 69) (L' := [some (.ref 12), some (.int x1)]) (st' := [.int 2]) rfl ?_
        subst H
        exact Ev.ret rfl
      replace H := H.2
      by_cases hw2 : ((M 13) (x1 : Int32).toNatClampNeg) = 114
      · replace H := H.1 hw2
        refine Ev.sw (p := ((20 : Nat) + Op.lookupswitch.offset [(100, 50), (108, 48), (114, 44), (117, 46)] 52 (((M 13) (x1 : Int32).toNatClampNeg) : Int32).toInt : Int).toNat) (pc' := 64) (L' := [some (.ref 12), some (.int x1)]) (st' := []) rfl (by rw [hw2]; decide +kernel) ?_
        refine Ev.steps 1 (pc' := 65) (L' := [some (.ref 12), some (.int x1)]) (st' := [.int 0]) rfl ?_
        subst H
        exact Ev.ret rfl
      replace H := H.2
      by_cases hw3 : ((M 13) (x1 : Int32).toNatClampNeg) = 117
      · replace H := H.1 hw3
        refine Ev.sw (p := ((20 : Nat) + Op.lookupswitch.offset [(100, 50), (108, 48), (114, 44), (117, 46)] 52 (((M 13) (x1 : Int32).toNatClampNeg) : Int32).toInt : Int).toNat) (pc' := 66) (L' := [some (.ref 12), some (.int x1)]) (st' := []) rfl (by rw [hw3]; decide +kernel) ?_
        refine Ev.steps 1 (pc' := 67) (L' := [some (.ref 12), some (.int x1)]) (st' := [.int 1]) rfl ?_
        subst H
        exact Ev.ret rfl
      replace H := H.2
      replace H := H hw0 hw1 hw2 hw3
      refine Ev.sw (p := ((20 : Nat) + Op.lookupswitch.offset [(100, 50), (108, 48), (114, 44), (117, 46)] 52 (((M 13) (x1 : Int32).toNatClampNeg) : Int32).toInt : Int).toNat) (pc' := 72) (L' := [some (.ref 12), some (.int x1)]) (st' := []) rfl ((by rw [lookupswitch.offset_cons, if_neg (gw_ls_ne (v := 100) (by decide +kernel) hw0), lookupswitch.offset_cons, if_neg (gw_ls_ne (v := 108) (by decide +kernel) hw1), lookupswitch.offset_cons, if_neg (gw_ls_ne (v := 114) (by decide +kernel) hw2), lookupswitch.offset_cons, if_neg (gw_ls_ne (v := 117) (by decide +kernel) hw3), lookupswitch.offset_nil]; decide +kernel)) ?_
      refine Ev.steps 1 (pc' := 73) (L' := [some (.ref 12), some (.int x1)]) (st' := [.int (-1)]) rfl ?_
      subst H
      exact Ev.ret rfl
    · replace H := H.2 hc
      refine Ev.steps 1 (pc' := 13) (L' := [some (.ref 12), some (.int x1)]) (st' := [.int (-1)]) rfl ?_
      subst H
      exact Ev.ret rfl

-- 98 GlassWires$Palette setRule (II)I
theorem w98_0 {E : gw_N} {M : Mem} {res : Option Value × gw_H} {x1 : Int32} {x2 : Int32} (H : ((x2 < 1 → res = (some (.int (-102)), hs E M)) ∧ (¬ x2 < 1 → (inb x1 3 ∧ ((x2 ≤ ((gw_rcL E.1.1 E.1.2 4).2 (x1 : Int32).toNatClampNeg) → (inb x1 3 ∧ (inb x1 3 ∧ res = (some (.int ((M 43) (x1 : Int32).toNatClampNeg)), hs E (up M 43 (upd (M 43) (x1 : Int32).toNatClampNeg x2)))))) ∧ (¬ x2 ≤ ((gw_rcL E.1.1 E.1.2 4).2 (x1 : Int32).toNatClampNeg) → res = (some (.int (-102)), hs E M))))))) : Ev 1 98 0 [some (.ref 40), some (.int x1), some (.int x2), none] [] (hs E M) res := by
  refine Ev.steps 3 (pc' := if x2 < 1 then 14 else 5) (L' := [some (.ref 40), some (.int x1), some (.int x2), none]) (st' := []) rfl ?_
  refine Ev_ite (fun hc => ?_) (fun hc => ?_)
  · replace H := H.1 hc
    refine Ev.steps 1 (pc' := 16) (L' := [some (.ref 40), some (.int x1), some (.int x2), none]) (st' := [.int (-102)]) rfl ?_
    subst H
    exact Ev.ret rfl
  · replace H := H.2 hc
    refine Ev.steps 3 (pc' := 10) (L' := [some (.ref 40), some (.int x1), some (.int x2), none]) (st' := [.int x1, .ref 4, .int x2]) rfl ?_
    refine Ev.rd (i := x1) (n := 3) (pc' := 11) (L' := [some (.ref 40), some (.int x1), some (.int x2), none]) (st' := [.int ((gw_rcL E.1.1 E.1.2 4).2 (x1 : Int32).toNatClampNeg), .int x2]) H.1 rfl ?_
    replace H := H.2
    refine Ev.steps 1 (pc' := if x2 ≤ ((gw_rcL E.1.1 E.1.2 4).2 (x1 : Int32).toNatClampNeg) then 17 else 14) (L' := [some (.ref 40), some (.int x1), some (.int x2), none]) (st' := []) rfl ?_
    refine Ev_ite (fun hc => ?_) (fun hc => ?_)
    · replace H := H.1 hc
      refine Ev.steps 3 (pc' := 22) (L' := [some (.ref 40), some (.int x1), some (.int x2), none]) (st' := [.int x1, .ref 43]) rfl ?_
      refine Ev.rd (i := x1) (n := 3) (pc' := 23) (L' := [some (.ref 40), some (.int x1), some (.int x2), none]) (st' := [.int ((M 43) (x1 : Int32).toNatClampNeg)]) H.1 rfl ?_
      replace H := H.2
      refine Ev.steps 5 (pc' := 30) (L' := [some (.ref 40), some (.int x1), some (.int x2), some (.int ((M 43) (x1 : Int32).toNatClampNeg))]) (st' := [.int x2, .int x1, .ref 43]) rfl ?_
      refine Ev.wr (a := 43) (g := (upd (M 43) (x1 : Int32).toNatClampNeg x2)) (i := x1) (n := 3) (pc' := 31) (L' := [some (.ref 40), some (.int x1), some (.int x2), some (.int ((M 43) (x1 : Int32).toNatClampNeg))]) (st' := []) (by decide) H.1 rfl ?_
      replace H := H.2
      refine Ev.steps 1 (pc' := 32) (L' := [some (.ref 40), some (.int x1), some (.int x2), some (.int ((M 43) (x1 : Int32).toNatClampNeg))]) (st' := [.int ((M 43) (x1 : Int32).toNatClampNeg)]) rfl ?_
      subst H
      exact Ev.ret rfl
    · replace H := H.2 hc
      refine Ev.steps 1 (pc' := 16) (L' := [some (.ref 40), some (.int x1), some (.int x2), none]) (st' := [.int (-102)]) rfl ?_
      subst H
      exact Ev.ret rfl

-- 161 GlassWires plate (II)I
theorem w161_0 {E : gw_N} {M : Mem} {res : Option Value × gw_H} {x1 : Int32} {x2 : Int32} (H : (∃ (r1 : Int32), Rn 36 [.int x1] (hs E M) (some (.int r1)) (hs E M) ∧ ((r1 = 0 → res = (some (.int (-102)), hs E M)) ∧ (¬ r1 = 0 → (∃ (r2 : Int32), Rn 36 [.int x2] (hs E M) (some (.int r2)) (hs E M) ∧ ((r2 = 0 → res = (some (.int (-102)), hs E M)) ∧ (¬ r2 = 0 → (∃ (M3 : Mem), Rn 37 [.ref 9, .int x1, .int x2] (hs E M) none (hs E M3) ∧ (∃ (M4 : Mem), Rn 142 [.ref 14] (hs E M3) none (hs E M4) ∧ (∃ (M5 : Mem), Rn 9 [.ref 44] (hs E M4) none (hs E M5) ∧ (∃ (M6 : Mem), Rn 129 [.ref 53, .int 0, .int 0] (hs E M5) none (hs E M6) ∧ (∃ (M7 : Mem), Rn 118 [.ref 54] (hs E M6) none (hs E M7) ∧ (∃ (M8 : Mem), Rn 203 [.ref 8] (hs E M7) none (hs E M8) ∧ (∃ (r9 : Int32), Rn 40 [.ref 9] (hs E M8) (some (.int r9)) (hs E M8) ∧ res = (some (.int r9), hs E M8))))))))))))))) : Ev 7 161 0 [some (.ref 8), some (.int x1), some (.int x2)] [] (hs E M) res := by
  refine Ev.steps 1 (pc' := 1) (L' := [some (.ref 8), some (.int x1), some (.int x2)]) (st' := [.int x1]) rfl ?_
  obtain ⟨r1, hr1, H⟩ := H
  refine Ev.call (y := 36) (args := [.int x1]) (rest := []) (r := (some (.int r1))) rfl hr1 ?_
  show Ev 7 161 4 [some (.ref 8), some (.int x1), some (.int x2)] [.int r1] _ _
  refine Ev.steps 1 (pc' := if r1 = 0 then 14 else 7) (L' := [some (.ref 8), some (.int x1), some (.int x2)]) (st' := []) rfl ?_
  refine Ev_ite (fun hc => ?_) (fun hc => ?_)
  · replace H := H.1 hc
    refine Ev.steps 1 (pc' := 16) (L' := [some (.ref 8), some (.int x1), some (.int x2)]) (st' := [.int (-102)]) rfl ?_
    subst H
    exact Ev.ret rfl
  · replace H := H.2 hc
    refine Ev.steps 1 (pc' := 8) (L' := [some (.ref 8), some (.int x1), some (.int x2)]) (st' := [.int x2]) rfl ?_
    obtain ⟨r2, hr2, H⟩ := H
    refine Ev.call (y := 36) (args := [.int x2]) (rest := []) (r := (some (.int r2))) rfl hr2 ?_
    show Ev 7 161 11 [some (.ref 8), some (.int x1), some (.int x2)] [.int r2] _ _
    refine Ev.steps 1 (pc' := if r2 = 0 then 14 else 17) (L' := [some (.ref 8), some (.int x1), some (.int x2)]) (st' := []) rfl ?_
    refine Ev_ite (fun hc => ?_) (fun hc => ?_)
    · replace H := H.1 hc
      refine Ev.steps 1 (pc' := 16) (L' := [some (.ref 8), some (.int x1), some (.int x2)]) (st' := [.int (-102)]) rfl ?_
      subst H
      exact Ev.ret rfl
    · replace H := H.2 hc
      refine Ev.steps 4 (pc' := 23) (L' := [some (.ref 8), some (.int x1), some (.int x2)]) (st' := [.int x2, .int x1, .ref 9]) rfl ?_
      obtain ⟨M3, hr3, H⟩ := H
      refine Ev.call (y := 37) (args := [.ref 9, .int x1, .int x2]) (rest := []) (r := none) rfl hr3 ?_
      show Ev 7 161 26 [some (.ref 8), some (.int x1), some (.int x2)] [] _ _
      refine Ev.steps 2 (pc' := 30) (L' := [some (.ref 8), some (.int x1), some (.int x2)]) (st' := [.ref 14]) rfl ?_
      obtain ⟨M4, hr4, H⟩ := H
      refine Ev.call (y := 142) (args := [.ref 14]) (rest := []) (r := none) rfl hr4 ?_
      show Ev 7 161 33 [some (.ref 8), some (.int x1), some (.int x2)] [] _ _
      refine Ev.steps 2 (pc' := 37) (L' := [some (.ref 8), some (.int x1), some (.int x2)]) (st' := [.ref 44]) rfl ?_
      obtain ⟨M5, hr5, H⟩ := H
      refine Ev.call (y := 9) (args := [.ref 44]) (rest := []) (r := none) rfl hr5 ?_
      show Ev 7 161 40 [some (.ref 8), some (.int x1), some (.int x2)] [] _ _
      refine Ev.steps 4 (pc' := 46) (L' := [some (.ref 8), some (.int x1), some (.int x2)]) (st' := [.int 0, .int 0, .ref 53]) rfl ?_
      obtain ⟨M6, hr6, H⟩ := H
      refine Ev.call (y := 129) (args := [.ref 53, .int 0, .int 0]) (rest := []) (r := none) rfl hr6 ?_
      show Ev 7 161 49 [some (.ref 8), some (.int x1), some (.int x2)] [] _ _
      refine Ev.steps 2 (pc' := 53) (L' := [some (.ref 8), some (.int x1), some (.int x2)]) (st' := [.ref 54]) rfl ?_
      obtain ⟨M7, hr7, H⟩ := H
      refine Ev.call (y := 118) (args := [.ref 54]) (rest := []) (r := none) rfl hr7 ?_
      show Ev 7 161 56 [some (.ref 8), some (.int x1), some (.int x2)] [] _ _
      refine Ev.steps 1 (pc' := 57) (L' := [some (.ref 8), some (.int x1), some (.int x2)]) (st' := [.ref 8]) rfl ?_
      obtain ⟨M8, hr8, H⟩ := H
      refine Ev.call (y := 203) (args := [.ref 8]) (rest := []) (r := none) rfl hr8 ?_
      show Ev 7 161 60 [some (.ref 8), some (.int x1), some (.int x2)] [] _ _
      refine Ev.steps 2 (pc' := 64) (L' := [some (.ref 8), some (.int x1), some (.int x2)]) (st' := [.ref 9]) rfl ?_
      obtain ⟨r9, hr9, H⟩ := H
      refine Ev.call (y := 40) (args := [.ref 9]) (rest := []) (r := (some (.int r9))) rfl hr9 ?_
      show Ev 7 161 67 [some (.ref 8), some (.int x1), some (.int x2)] [.int r9] _ _
      subst H
      exact Ev.ret rfl

-- 168 GlassWires about (II)I
theorem w168_0 {E : gw_N} {M : Mem} {res : Option Value × gw_H} {x1 : Int32} {x2 : Int32} (H : (∃ (r1 : Int32), Rn 144 [.ref 14, .int x1] (hs E M) (some (.int r1)) (hs E M) ∧ ((r1 = 0 → res = (some (.int (-101)), hs E M)) ∧ (¬ r1 = 0 → ((x2 = 0 → (∃ (r2 : Int32), Rn 149 [.ref 14, .int x1] (hs E M) (some (.int r2)) (hs E M) ∧ res = (some (.int r2), hs E M))) ∧ (x2 = 1 → (∃ (r3 : Int32), Rn 150 [.ref 14, .int x1] (hs E M) (some (.int r3)) (hs E M) ∧ res = (some (.int r3), hs E M))) ∧ (x2 = 2 → (∃ (r4 : Int32), Rn 152 [.ref 14, .int x1] (hs E M) (some (.int r4)) (hs E M) ∧ (∃ (r5 : Int32), Rn 206 [.int r4] (hs E M) (some (.int r5)) (hs E M) ∧ res = (some (.int r5), hs E M)))) ∧ (x2 = 3 → (∃ (r6 : Int32), Rn 151 [.ref 14, .int x1] (hs E M) (some (.int r6)) (hs E M) ∧ res = (some (.int r6), hs E M))) ∧ (x2 = 4 → (∃ (r7 : Int32), Rn 64 [.ref 22, .int x1] (hs E M) (some (.int r7)) (hs E M) ∧ (∃ (r8 : Int32), Rn 206 [.int r7] (hs E M) (some (.int r8)) (hs E M) ∧ res = (some (.int r8), hs E M)))) ∧ (¬ x2 = 0 → ¬ x2 = 1 → ¬ x2 = 2 → ¬ x2 = 3 → ¬ x2 = 4 → res = (some (.int (-102)), hs E M))))))) : Ev 3 168 0 [some (.ref 8), some (.int x1), some (.int x2)] [] (hs E M) res := by
  refine Ev.steps 3 (pc' := 5) (L' := [some (.ref 8), some (.int x1), some (.int x2)]) (st' := [.int x1, .ref 14]) rfl ?_
  obtain ⟨r1, hr1, H⟩ := H
  refine Ev.call (y := 144) (args := [.ref 14, .int x1]) (rest := []) (r := (some (.int r1))) rfl hr1 ?_
  show Ev 3 168 8 [some (.ref 8), some (.int x1), some (.int x2)] [.int r1] _ _
  refine Ev.steps 1 (pc' := if r1 = 0 then 11 else 14) (L' := [some (.ref 8), some (.int x1), some (.int x2)]) (st' := []) rfl ?_
  refine Ev_ite (fun hc => ?_) (fun hc => ?_)
  · replace H := H.1 hc
    refine Ev.steps 1 (pc' := 13) (L' := [some (.ref 8), some (.int x1), some (.int x2)]) (st' := [.int (-101)]) rfl ?_
    subst H
    exact Ev.ret rfl
  · replace H := H.2 hc
    refine Ev.steps 1 (pc' := 15) (L' := [some (.ref 8), some (.int x1), some (.int x2)]) (st' := [.int x2]) rfl ?_
    by_cases hw0 : x2 = 0
    · replace H := H.1 hw0
      refine Ev.sw (p := gw_tsw 15 84 0 4 #[33, 42, 51, 63, 72] x2) (pc' := 48) (L' := [some (.ref 8), some (.int x1), some (.int x2)]) (st' := []) rfl (by rw [hw0]; decide +kernel) ?_
      refine Ev.steps 3 (pc' := 53) (L' := [some (.ref 8), some (.int x1), some (.int x2)]) (st' := [.int x1, .ref 14]) rfl ?_
      obtain ⟨r2, hr2, H⟩ := H
      refine Ev.call (y := 149) (args := [.ref 14, .int x1]) (rest := []) (r := (some (.int r2))) rfl hr2 ?_
      show Ev 3 168 56 [some (.ref 8), some (.int x1), some (.int x2)] [.int r2] _ _
      subst H
      exact Ev.ret rfl
    replace H := H.2
    by_cases hw1 : x2 = 1
    · replace H := H.1 hw1
      refine Ev.sw (p := gw_tsw 15 84 0 4 #[33, 42, 51, 63, 72] x2) (pc' := 57) (L' := [some (.ref 8), some (.int x1), some (.int x2)]) (st' := []) rfl (by rw [hw1]; decide +kernel) ?_
      refine Ev.steps 3 (pc' := 62) (L' := [some (.ref 8), some (.int x1), some (.int x2)]) (st' := [.int x1, .ref 14]) rfl ?_
      obtain ⟨r3, hr3, H⟩ := H
      refine Ev.call (y := 150) (args := [.ref 14, .int x1]) (rest := []) (r := (some (.int r3))) rfl hr3 ?_
      show Ev 3 168 65 [some (.ref 8), some (.int x1), some (.int x2)] [.int r3] _ _
      subst H
      exact Ev.ret rfl
    replace H := H.2
    by_cases hw2 : x2 = 2
    · replace H := H.1 hw2
      refine Ev.sw (p := gw_tsw 15 84 0 4 #[33, 42, 51, 63, 72] x2) (pc' := 66) (L' := [some (.ref 8), some (.int x1), some (.int x2)]) (st' := []) rfl (by rw [hw2]; decide +kernel) ?_
      refine Ev.steps 3 (pc' := 71) (L' := [some (.ref 8), some (.int x1), some (.int x2)]) (st' := [.int x1, .ref 14]) rfl ?_
      obtain ⟨r4, hr4, H⟩ := H
      refine Ev.call (y := 152) (args := [.ref 14, .int x1]) (rest := []) (r := (some (.int r4))) rfl hr4 ?_
      show Ev 3 168 74 [some (.ref 8), some (.int x1), some (.int x2)] [.int r4] _ _
      obtain ⟨r5, hr5, H⟩ := H
      refine Ev.call (y := 206) (args := [.int r4]) (rest := []) (r := (some (.int r5))) rfl hr5 ?_
      show Ev 3 168 77 [some (.ref 8), some (.int x1), some (.int x2)] [.int r5] _ _
      subst H
      exact Ev.ret rfl
    replace H := H.2
    by_cases hw3 : x2 = 3
    · replace H := H.1 hw3
      refine Ev.sw (p := gw_tsw 15 84 0 4 #[33, 42, 51, 63, 72] x2) (pc' := 78) (L' := [some (.ref 8), some (.int x1), some (.int x2)]) (st' := []) rfl (by rw [hw3]; decide +kernel) ?_
      refine Ev.steps 3 (pc' := 83) (L' := [some (.ref 8), some (.int x1), some (.int x2)]) (st' := [.int x1, .ref 14]) rfl ?_
      obtain ⟨r6, hr6, H⟩ := H
      refine Ev.call (y := 151) (args := [.ref 14, .int x1]) (rest := []) (r := (some (.int r6))) rfl hr6 ?_
      show Ev 3 168 86 [some (.ref 8), some (.int x1), some (.int x2)] [.int r6] _ _
      subst H
      exact Ev.ret rfl
    replace H := H.2
    by_cases hw4 : x2 = 4
    · replace H := H.1 hw4
      refine Ev.sw (p := gw_tsw 15 84 0 4 #[33, 42, 51, 63, 72] x2) (pc' := 87) (L' := [some (.ref 8), some (.int x1), some (.int x2)]) (st' := []) rfl (by rw [hw4]; decide +kernel) ?_
      refine Ev.steps 3 (pc' := 92) (L' := [some (.ref 8), some (.int x1), some (.int x2)]) (st' := [.int x1, .ref 22]) rfl ?_
      obtain ⟨r7, hr7, H⟩ := H
      refine Ev.call (y := 64) (args := [.ref 22, .int x1]) (rest := []) (r := (some (.int r7))) rfl hr7 ?_
      show Ev 3 168 95 [some (.ref 8), some (.int x1), some (.int x2)] [.int r7] _ _
      obtain ⟨r8, hr8, H⟩ := H
      refine Ev.call (y := 206) (args := [.int r7]) (rest := []) (r := (some (.int r8))) rfl hr8 ?_
      show Ev 3 168 98 [some (.ref 8), some (.int x1), some (.int x2)] [.int r8] _ _
      subst H
      exact Ev.ret rfl
    replace H := H.2
    replace H := H hw0 hw1 hw2 hw3 hw4
    refine Ev.sw (p := gw_tsw 15 84 0 4 #[33, 42, 51, 63, 72] x2) (pc' := 99) (L' := [some (.ref 8), some (.int x1), some (.int x2)]) (st' := []) rfl (gw_ts_df (by decide +kernel) (by
      intro k h1 h2
      have h3 : k = 0 ∨ k = 1 ∨ k = 2 ∨ k = 3 ∨ k = 4 := by omega
      rcases h3 with rfl | rfl | rfl | rfl | rfl
      · exact fun h => hw0 (h.trans (by decide +kernel))
      · exact fun h => hw1 (h.trans (by decide +kernel))
      · exact fun h => hw2 (h.trans (by decide +kernel))
      · exact fun h => hw3 (h.trans (by decide +kernel))
      · exact fun h => hw4 (h.trans (by decide +kernel)))) ?_
    refine Ev.steps 1 (pc' := 101) (L' := [some (.ref 8), some (.int x1), some (.int x2)]) (st' := [.int (-102)]) rfl ?_
    subst H
    exact Ev.ret rfl

-- 210 GlassWiresModel begin (II)V
theorem w210_0 {E : gw_N} {M : Mem} {res : Option Value × gw_H} {x1 : Int32} {x2 : Int32} (H : Ev 1 210 17 [some (.ref 59), none, none, some (.int 0)] [] (hs E (up M 59 (upd (upd (upd (M 59) 0 x1) 1 x2) 4 0))) res) : Ev 1 210 0 [some (.ref 59), some (.int x1), some (.int x2), none] [] (hs E M) res := by
  refine Ev.steps 2 (pc' := 2) (L' := [some (.ref 59), some (.int x1), some (.int x2), none]) (st' := [.int x1, .ref 59]) rfl ?_
  refine Ev.mem (a := 59) (g := (upd (M 59) 0 x1)) (pc' := 5) (L' := [some (.ref 59), some (.int x1), some (.int x2), none]) (st' := []) (by decide) rfl ?_
  refine Ev.steps 2 (pc' := 7) (L' := [some (.ref 59), some (.int x1), some (.int x2), none]) (st' := [.int x2, .ref 59]) rfl ?_
  refine Ev.mem (a := 59) (g := (upd (upd (M 59) 0 x1) 1 x2)) (pc' := 10) (L' := [some (.ref 59), some (.int x1), some (.int x2), none]) (st' := []) (by decide) rfl ?_
  refine Ev.mto (M' := (up M 59 (upd (upd (M 59) 0 x1) 1 x2))) (by funext q9; unfold up; by_cases e9 : q9 = 59 <;> simp [e9]) ?_
  refine Ev.steps 2 (pc' := 12) (L' := [some (.ref 59), some (.int x1), some (.int x2), none]) (st' := [.int 0, .ref 59]) rfl ?_
  refine Ev.mem (a := 59) (g := (upd (upd (upd (M 59) 0 x1) 1 x2) 4 0)) (pc' := 15) (L' := [some (.ref 59), some (.int x1), some (.int x2), none]) (st' := []) (by decide) rfl ?_
  refine Ev.mto (M' := (up M 59 (upd (upd (upd (M 59) 0 x1) 1 x2) 4 0))) (by funext q9; unfold up; by_cases e9 : q9 = 59 <;> simp [e9]) ?_
  refine Ev.steps 2 (pc' := 17) (L' := [some (.ref 59), some (.int x1), some (.int x2), some (.int 0)]) (st' := []) rfl ?_
  exact Ev.weak [some (.ref 59), none, none, some (.int 0)] (gw_leb_le ⟨rfl, rfl, trivial⟩) H

theorem w210_17 {E : gw_N} {M : Mem} {res : Option Value × gw_H} {x3 : Int32} (H : ((64 ≤ x3 → res = (none, hs E (up M 59 (upd (upd (upd (upd (M 59) 34 0) 35 0) 29 0) 36 0)))) ∧ (¬ 64 ≤ x3 → (inb x3 64 ∧ Ev 1 210 17 [some (.ref 59), none, none, some (.int (x3 + 1))] [] (hs E (up M 77 (upd (M 77) (x3 : Int32).toNatClampNeg 0))) res)))) : Ev 1 210 17 [some (.ref 59), none, none, some (.int x3)] [] (hs E M) res := by
  refine Ev.steps 3 (pc' := if 64 ≤ x3 then 36 else 23) (L' := [some (.ref 59), none, none, some (.int x3)]) (st' := []) rfl ?_
  refine Ev_ite (fun hc => ?_) (fun hc => ?_)
  · replace H := H.1 hc
    refine Ev.steps 2 (pc' := 38) (L' := [some (.ref 59), none, none, some (.int x3)]) (st' := [.int 0, .ref 59]) rfl ?_
    refine Ev.mem (a := 59) (g := (upd (M 59) 34 0)) (pc' := 41) (L' := [some (.ref 59), none, none, some (.int x3)]) (st' := []) (by decide) rfl ?_
    refine Ev.steps 2 (pc' := 43) (L' := [some (.ref 59), none, none, some (.int x3)]) (st' := [.int 0, .ref 59]) rfl ?_
    refine Ev.mem (a := 59) (g := (upd (upd (M 59) 34 0) 35 0)) (pc' := 46) (L' := [some (.ref 59), none, none, some (.int x3)]) (st' := []) (by decide) rfl ?_
    refine Ev.mto (M' := (up M 59 (upd (upd (M 59) 34 0) 35 0))) (by funext q9; unfold up; by_cases e9 : q9 = 59 <;> simp [e9]) ?_
    refine Ev.steps 2 (pc' := 48) (L' := [some (.ref 59), none, none, some (.int x3)]) (st' := [.int 0, .ref 59]) rfl ?_
    refine Ev.mem (a := 59) (g := (upd (upd (upd (M 59) 34 0) 35 0) 29 0)) (pc' := 51) (L' := [some (.ref 59), none, none, some (.int x3)]) (st' := []) (by decide) rfl ?_
    refine Ev.mto (M' := (up M 59 (upd (upd (upd (M 59) 34 0) 35 0) 29 0))) (by funext q9; unfold up; by_cases e9 : q9 = 59 <;> simp [e9]) ?_
    refine Ev.steps 2 (pc' := 53) (L' := [some (.ref 59), none, none, some (.int x3)]) (st' := [.int 0, .ref 59]) rfl ?_
    refine Ev.mem (a := 59) (g := (upd (upd (upd (upd (M 59) 34 0) 35 0) 29 0) 36 0)) (pc' := 56) (L' := [some (.ref 59), none, none, some (.int x3)]) (st' := []) (by decide) rfl ?_
    refine Ev.mto (M' := (up M 59 (upd (upd (upd (upd (M 59) 34 0) 35 0) 29 0) 36 0))) (by funext q9; unfold up; by_cases e9 : q9 = 59 <;> simp [e9]) ?_
    subst H
    exact Ev.ret rfl
  · replace H := H.2 hc
    refine Ev.steps 4 (pc' := 29) (L' := [some (.ref 59), none, none, some (.int x3)]) (st' := [.int 0, .int x3, .ref 77]) rfl ?_
    refine Ev.wr (a := 77) (g := (upd (M 77) (x3 : Int32).toNatClampNeg 0)) (i := x3) (n := 64) (pc' := 30) (L' := [some (.ref 59), none, none, some (.int x3)]) (st' := []) (by decide) H.1 rfl ?_
    replace H := H.2
    refine Ev.steps 2 (pc' := 17) (L' := [some (.ref 59), none, none, some (.int (x3 + 1))]) (st' := []) rfl ?_
    exact Ev.weak [some (.ref 59), none, none, some (.int (x3 + 1))] (gw_leb_le ⟨rfl, rfl, trivial⟩) H

-- 262 GlassWiresModel colour (III)I
theorem w262_0 {E : gw_N} {M : Mem} {res : Option Value × gw_H} {x1 : Int32} {x2 : Int32} {x3 : Int32} (H : (∃ (r1 : Int32), Rn 261 [.int x1] (hs E M) (some (.int r1)) (hs E M) ∧ ((r1 = 0 → Ev 3 262 19 [none, none, none, none, none] [] (hs E M) res) ∧ (¬ r1 = 0 → (∃ (r2 : Int32), Rn 209 [.long (Int32.toInt64 x2), .long 0, .long 2] (hs E M) (some (.int r2)) (hs E M) ∧ ((r2 = 0 → Ev 3 262 19 [none, none, none, none, none] [] (hs E M) res) ∧ (¬ r2 = 0 → ((x2 = 0 → Ev 3 262 33 [some (.ref 59), some (.int x1), some (.int x2), some (.int x3), none] [.long 1, .long (Int32.toInt64 x3)] (hs E M) res) ∧ (¬ x2 = 0 → Ev 3 262 33 [some (.ref 59), some (.int x1), some (.int x2), some (.int x3), none] [.long 0, .long (Int32.toInt64 x3)] (hs E M) res))))))))) : Ev 3 262 0 [some (.ref 59), some (.int x1), some (.int x2), some (.int x3), none] [] (hs E M) res := by
  refine Ev.steps 1 (pc' := 1) (L' := [some (.ref 59), some (.int x1), some (.int x2), some (.int x3), none]) (st' := [.int x1]) rfl ?_
  obtain ⟨r1, hr1, H⟩ := H
  refine Ev.call (y := 261) (args := [.int x1]) (rest := []) (r := (some (.int r1))) rfl hr1 ?_
  show Ev 3 262 4 [some (.ref 59), some (.int x1), some (.int x2), some (.int x3), none] [.int r1] _ _
  refine Ev.steps 1 (pc' := if r1 = 0 then 19 else 7) (L' := [some (.ref 59), some (.int x1), some (.int x2), some (.int x3), none]) (st' := []) rfl ?_
  refine Ev_ite (fun hc => ?_) (fun hc => ?_)
  · replace H := H.1 hc
    exact Ev.weak [none, none, none, none, none] (gw_leb_le trivial) H
  · replace H := H.2 hc
    refine Ev.steps 4 (pc' := 13) (L' := [some (.ref 59), some (.int x1), some (.int x2), some (.int x3), none]) (st' := [.long 2, .long 0, .long (Int32.toInt64 x2)]) rfl ?_
    obtain ⟨r2, hr2, H⟩ := H
    refine Ev.call (y := 209) (args := [.long (Int32.toInt64 x2), .long 0, .long 2]) (rest := []) (r := (some (.int r2))) rfl hr2 ?_
    show Ev 3 262 16 [some (.ref 59), some (.int x1), some (.int x2), some (.int x3), none] [.int r2] _ _
    refine Ev.steps 1 (pc' := if r2 = 0 then 19 else 22) (L' := [some (.ref 59), some (.int x1), some (.int x2), some (.int x3), none]) (st' := []) rfl ?_
    refine Ev_ite (fun hc => ?_) (fun hc => ?_)
    · replace H := H.1 hc
      exact Ev.weak [none, none, none, none, none] (gw_leb_le trivial) H
    · replace H := H.2 hc
      refine Ev.steps 4 (pc' := if x2 = 0 then 28 else 32) (L' := [some (.ref 59), some (.int x1), some (.int x2), some (.int x3), none]) (st' := [.long (Int32.toInt64 x3)]) rfl ?_
      refine Ev_ite (fun hc => ?_) (fun hc => ?_)
      · replace H := H.1 hc
        refine Ev.steps 2 (pc' := 33) (L' := [some (.ref 59), some (.int x1), some (.int x2), some (.int x3), none]) (st' := [.long 1, .long (Int32.toInt64 x3)]) rfl ?_
        exact Ev.weak [some (.ref 59), some (.int x1), some (.int x2), some (.int x3), none] (gw_leb_le ⟨rfl, rfl, rfl, rfl, trivial⟩) H
      · replace H := H.2 hc
        refine Ev.steps 1 (pc' := 33) (L' := [some (.ref 59), some (.int x1), some (.int x2), some (.int x3), none]) (st' := [.long 0, .long (Int32.toInt64 x3)]) rfl ?_
        exact Ev.weak [some (.ref 59), some (.int x1), some (.int x2), some (.int x3), none] (gw_leb_le ⟨rfl, rfl, rfl, rfl, trivial⟩) H

theorem w262_19 {E : gw_N} {M : Mem} {res : Option Value × gw_H}  (H : res = (some (.int (-101)), hs E M)) : Ev 3 262 19 [none, none, none, none, none] [] (hs E M) res := by
  refine Ev.steps 1 (pc' := 21) (L' := [none, none, none, none, none]) (st' := [.int (-101)]) rfl ?_
  subst H
  exact Ev.ret rfl

theorem w262_33 {E : gw_N} {M : Mem} {res : Option Value × gw_H} {x1 : Int32} {x2 : Int32} {x3 : Int32} {y0 : Int64} {y1 : Int64} (H : ((x2 = 0 → Ev 3 262 57 [some (.ref 59), some (.int x1), some (.int x2), some (.int x3), none] [.long 900, .long y1, .long y0] (hs E M) res) ∧ (¬ x2 = 0 → ((x2 = 1 → Ev 3 262 57 [some (.ref 59), some (.int x1), some (.int x2), some (.int x3), none] [.long 9, .long y1, .long y0] (hs E M) res) ∧ (¬ x2 = 1 → Ev 3 262 57 [some (.ref 59), some (.int x1), some (.int x2), some (.int x3), none] [.long 99, .long y1, .long y0] (hs E M) res))))) : Ev 3 262 33 [some (.ref 59), some (.int x1), some (.int x2), some (.int x3), none] [.long y1, .long y0] (hs E M) res := by
  refine Ev.steps 2 (pc' := if x2 = 0 then 37 else 43) (L' := [some (.ref 59), some (.int x1), some (.int x2), some (.int x3), none]) (st' := [.long y1, .long y0]) rfl ?_
  refine Ev_ite (fun hc => ?_) (fun hc => ?_)
  · replace H := H.1 hc
    refine Ev.steps 2 (pc' := 57) (L' := [some (.ref 59), some (.int x1), some (.int x2), some (.int x3), none]) (st' := [.long 900, .long y1, .long y0]) rfl ?_
    exact Ev.weak [some (.ref 59), some (.int x1), some (.int x2), some (.int x3), none] (gw_leb_le ⟨rfl, rfl, rfl, rfl, trivial⟩) H
  · replace H := H.2 hc
    refine Ev.steps 3 (pc' := if x2 = 1 then 48 else 54) (L' := [some (.ref 59), some (.int x1), some (.int x2), some (.int x3), none]) (st' := [.long y1, .long y0]) rfl ?_
    refine Ev_ite (fun hc => ?_) (fun hc => ?_)
    · replace H := H.1 hc
      refine Ev.steps 2 (pc' := 57) (L' := [some (.ref 59), some (.int x1), some (.int x2), some (.int x3), none]) (st' := [.long 9, .long y1, .long y0]) rfl ?_
      exact Ev.weak [some (.ref 59), some (.int x1), some (.int x2), some (.int x3), none] (gw_leb_le ⟨rfl, rfl, rfl, rfl, trivial⟩) H
    · replace H := H.2 hc
      refine Ev.steps 1 (pc' := 57) (L' := [some (.ref 59), some (.int x1), some (.int x2), some (.int x3), none]) (st' := [.long 99, .long y1, .long y0]) rfl ?_
      exact Ev.weak [some (.ref 59), some (.int x1), some (.int x2), some (.int x3), none] (gw_leb_le ⟨rfl, rfl, rfl, rfl, trivial⟩) H

theorem w262_57 {E : gw_N} {M : Mem} {res : Option Value × gw_H} {x1 : Int32} {x2 : Int32} {x3 : Int32} {y0 : Int64} {y1 : Int64} {y2 : Int64} (H : (∃ (r1 : Int32), Rn 209 [.long y0, .long y1, .long y2] (hs E M) (some (.int r1)) (hs E M) ∧ ((r1 = 0 → res = (some (.int (-102)), hs E M)) ∧ (¬ r1 = 0 → ((x2 = 0 → (inb x1 8 ∧ Ev 3 262 99 [some (.ref 59), some (.int x1), some (.int x2), some (.int x3), none] [.int ((M 73) (x1 : Int32).toNatClampNeg)] (hs E M) res)) ∧ (¬ x2 = 0 → ((x2 = 1 → (inb x1 8 ∧ Ev 3 262 99 [some (.ref 59), some (.int x1), some (.int x2), some (.int x3), none] [.int ((M 74) (x1 : Int32).toNatClampNeg)] (hs E M) res)) ∧ (¬ x2 = 1 → (inb x1 8 ∧ Ev 3 262 99 [some (.ref 59), some (.int x1), some (.int x2), some (.int x3), none] [.int ((M 75) (x1 : Int32).toNatClampNeg)] (hs E M) res))))))))) : Ev 3 262 57 [some (.ref 59), some (.int x1), some (.int x2), some (.int x3), none] [.long y2, .long y1, .long y0] (hs E M) res := by
  obtain ⟨r1, hr1, H⟩ := H
  refine Ev.call (y := 209) (args := [.long y0, .long y1, .long y2]) (rest := []) (r := (some (.int r1))) rfl hr1 ?_
  show Ev 3 262 60 [some (.ref 59), some (.int x1), some (.int x2), some (.int x3), none] [.int r1] _ _
  refine Ev.steps 1 (pc' := if r1 = 0 then 63 else 66) (L' := [some (.ref 59), some (.int x1), some (.int x2), some (.int x3), none]) (st' := []) rfl ?_
  refine Ev_ite (fun hc => ?_) (fun hc => ?_)
  · replace H := H.1 hc
    refine Ev.steps 1 (pc' := 65) (L' := [some (.ref 59), some (.int x1), some (.int x2), some (.int x3), none]) (st' := [.int (-102)]) rfl ?_
    subst H
    exact Ev.ret rfl
  · replace H := H.2 hc
    refine Ev.steps 2 (pc' := if x2 = 0 then 70 else 79) (L' := [some (.ref 59), some (.int x1), some (.int x2), some (.int x3), none]) (st' := []) rfl ?_
    refine Ev_ite (fun hc => ?_) (fun hc => ?_)
    · replace H := H.1 hc
      refine Ev.steps 3 (pc' := 75) (L' := [some (.ref 59), some (.int x1), some (.int x2), some (.int x3), none]) (st' := [.int x1, .ref 73]) rfl ?_
      refine Ev.rd (i := x1) (n := 8) (pc' := 76) (L' := [some (.ref 59), some (.int x1), some (.int x2), some (.int x3), none]) (st' := [.int ((M 73) (x1 : Int32).toNatClampNeg)]) H.1 rfl ?_
      replace H := H.2
      refine Ev.steps 1 (pc' := 99) (L' := [some (.ref 59), some (.int x1), some (.int x2), some (.int x3), none]) (st' := [.int ((M 73) (x1 : Int32).toNatClampNeg)]) rfl ?_
      exact Ev.weak [some (.ref 59), some (.int x1), some (.int x2), some (.int x3), none] (gw_leb_le ⟨rfl, rfl, rfl, rfl, trivial⟩) H
    · replace H := H.2 hc
      refine Ev.steps 3 (pc' := if x2 = 1 then 84 else 93) (L' := [some (.ref 59), some (.int x1), some (.int x2), some (.int x3), none]) (st' := []) rfl ?_
      refine Ev_ite (fun hc => ?_) (fun hc => ?_)
      · replace H := H.1 hc
        refine Ev.steps 3 (pc' := 89) (L' := [some (.ref 59), some (.int x1), some (.int x2), some (.int x3), none]) (st' := [.int x1, .ref 74]) rfl ?_
        refine Ev.rd (i := x1) (n := 8) (pc' := 90) (L' := [some (.ref 59), some (.int x1), some (.int x2), some (.int x3), none]) (st' := [.int ((M 74) (x1 : Int32).toNatClampNeg)]) H.1 rfl ?_
        replace H := H.2
        refine Ev.steps 1 (pc' := 99) (L' := [some (.ref 59), some (.int x1), some (.int x2), some (.int x3), none]) (st' := [.int ((M 74) (x1 : Int32).toNatClampNeg)]) rfl ?_
        exact Ev.weak [some (.ref 59), some (.int x1), some (.int x2), some (.int x3), none] (gw_leb_le ⟨rfl, rfl, rfl, rfl, trivial⟩) H
      · replace H := H.2 hc
        refine Ev.steps 3 (pc' := 98) (L' := [some (.ref 59), some (.int x1), some (.int x2), some (.int x3), none]) (st' := [.int x1, .ref 75]) rfl ?_
        refine Ev.rd (i := x1) (n := 8) (pc' := 99) (L' := [some (.ref 59), some (.int x1), some (.int x2), some (.int x3), none]) (st' := [.int ((M 75) (x1 : Int32).toNatClampNeg)]) H.1 rfl ?_
        replace H := H.2
        exact Ev.weak [some (.ref 59), some (.int x1), some (.int x2), some (.int x3), none] (gw_leb_le ⟨rfl, rfl, rfl, rfl, trivial⟩) H

theorem w262_99 {E : gw_N} {M : Mem} {res : Option Value × gw_H} {x1 : Int32} {x2 : Int32} {x3 : Int32} {y0 : Int32} (H : ((x2 = 0 → Ev 3 262 120 [some (.ref 59), some (.int x1), some (.int x2), some (.int x3), some (.int y0)] [.int x3, .int x1, .ref 73] (hs E M) res) ∧ (¬ x2 = 0 → (inb x1 8 ∧ Ev 3 262 120 [some (.ref 59), some (.int x1), some (.int x2), some (.int x3), some (.int y0)] [.int ((M 73) (x1 : Int32).toNatClampNeg), .int x1, .ref 73] (hs E M) res)))) : Ev 3 262 99 [some (.ref 59), some (.int x1), some (.int x2), some (.int x3), none] [.int y0] (hs E M) res := by
  refine Ev.steps 6 (pc' := if x2 = 0 then 110 else 114) (L' := [some (.ref 59), some (.int x1), some (.int x2), some (.int x3), some (.int y0)]) (st' := [.int x1, .ref 73]) rfl ?_
  refine Ev_ite (fun hc => ?_) (fun hc => ?_)
  · replace H := H.1 hc
    refine Ev.steps 2 (pc' := 120) (L' := [some (.ref 59), some (.int x1), some (.int x2), some (.int x3), some (.int y0)]) (st' := [.int x3, .int x1, .ref 73]) rfl ?_
    exact Ev.weak [some (.ref 59), some (.int x1), some (.int x2), some (.int x3), some (.int y0)] (gw_leb_le ⟨rfl, rfl, rfl, rfl, rfl, trivial⟩) H
  · replace H := H.2 hc
    refine Ev.steps 3 (pc' := 119) (L' := [some (.ref 59), some (.int x1), some (.int x2), some (.int x3), some (.int y0)]) (st' := [.int x1, .ref 73, .int x1, .ref 73]) rfl ?_
    refine Ev.rd (i := x1) (n := 8) (pc' := 120) (L' := [some (.ref 59), some (.int x1), some (.int x2), some (.int x3), some (.int y0)]) (st' := [.int ((M 73) (x1 : Int32).toNatClampNeg), .int x1, .ref 73]) H.1 rfl ?_
    replace H := H.2
    exact Ev.weak [some (.ref 59), some (.int x1), some (.int x2), some (.int x3), some (.int y0)] (gw_leb_le ⟨rfl, rfl, rfl, rfl, rfl, trivial⟩) H

theorem w262_120 {E : gw_N} {M : Mem} {res : Option Value × gw_H} {x1 : Int32} {x2 : Int32} {x3 : Int32} {x4 : Int32} {y1 : Int32} {y2 : Int32} (H : (inb y1 8 ∧ ((x2 = 1 → Ev 3 262 141 [some (.ref 59), some (.int x1), some (.int x2), some (.int x3), some (.int x4)] [.int x3, .int x1, .ref 74] (hs E (up M 73 (upd (M 73) (y1 : Int32).toNatClampNeg y2))) res) ∧ (¬ x2 = 1 → (inb x1 8 ∧ Ev 3 262 141 [some (.ref 59), some (.int x1), some (.int x2), some (.int x3), some (.int x4)] [.int ((M 74) (x1 : Int32).toNatClampNeg), .int x1, .ref 74] (hs E (up M 73 (upd (M 73) (y1 : Int32).toNatClampNeg y2))) res))))) : Ev 3 262 120 [some (.ref 59), some (.int x1), some (.int x2), some (.int x3), some (.int x4)] [.int y2, .int y1, .ref 73] (hs E M) res := by
  refine Ev.wr (a := 73) (g := (upd (M 73) (y1 : Int32).toNatClampNeg y2)) (i := y1) (n := 8) (pc' := 121) (L' := [some (.ref 59), some (.int x1), some (.int x2), some (.int x3), some (.int x4)]) (st' := []) (by decide) H.1 rfl ?_
  replace H := H.2
  refine Ev.steps 6 (pc' := if x2 = 1 then 131 else 135) (L' := [some (.ref 59), some (.int x1), some (.int x2), some (.int x3), some (.int x4)]) (st' := [.int x1, .ref 74]) rfl ?_
  refine Ev_ite (fun hc => ?_) (fun hc => ?_)
  · replace H := H.1 hc
    refine Ev.steps 2 (pc' := 141) (L' := [some (.ref 59), some (.int x1), some (.int x2), some (.int x3), some (.int x4)]) (st' := [.int x3, .int x1, .ref 74]) rfl ?_
    exact Ev.weak [some (.ref 59), some (.int x1), some (.int x2), some (.int x3), some (.int x4)] (gw_leb_le ⟨rfl, rfl, rfl, rfl, rfl, trivial⟩) H
  · replace H := H.2 hc
    refine Ev.steps 3 (pc' := 140) (L' := [some (.ref 59), some (.int x1), some (.int x2), some (.int x3), some (.int x4)]) (st' := [.int x1, .ref 74, .int x1, .ref 74]) rfl ?_
    refine Ev.rd (i := x1) (n := 8) (pc' := 141) (L' := [some (.ref 59), some (.int x1), some (.int x2), some (.int x3), some (.int x4)]) (st' := [.int ((M 74) (x1 : Int32).toNatClampNeg), .int x1, .ref 74]) H.1 rfl ?_
    replace H := H.2
    exact Ev.weak [some (.ref 59), some (.int x1), some (.int x2), some (.int x3), some (.int x4)] (gw_leb_le ⟨rfl, rfl, rfl, rfl, rfl, trivial⟩) H

theorem w262_141 {E : gw_N} {M : Mem} {res : Option Value × gw_H} {x1 : Int32} {x2 : Int32} {x3 : Int32} {x4 : Int32} {y1 : Int32} {y2 : Int32} (H : (inb y1 8 ∧ ((x2 = 2 → Ev 3 262 162 [none, none, none, none, some (.int x4)] [.int x3, .int x1, .ref 75] (hs E (up M 74 (upd (M 74) (y1 : Int32).toNatClampNeg y2))) res) ∧ (¬ x2 = 2 → (inb x1 8 ∧ Ev 3 262 162 [none, none, none, none, some (.int x4)] [.int ((M 75) (x1 : Int32).toNatClampNeg), .int x1, .ref 75] (hs E (up M 74 (upd (M 74) (y1 : Int32).toNatClampNeg y2))) res))))) : Ev 3 262 141 [some (.ref 59), some (.int x1), some (.int x2), some (.int x3), some (.int x4)] [.int y2, .int y1, .ref 74] (hs E M) res := by
  refine Ev.wr (a := 74) (g := (upd (M 74) (y1 : Int32).toNatClampNeg y2)) (i := y1) (n := 8) (pc' := 142) (L' := [some (.ref 59), some (.int x1), some (.int x2), some (.int x3), some (.int x4)]) (st' := []) (by decide) H.1 rfl ?_
  replace H := H.2
  refine Ev.steps 6 (pc' := if x2 = 2 then 152 else 156) (L' := [some (.ref 59), some (.int x1), some (.int x2), some (.int x3), some (.int x4)]) (st' := [.int x1, .ref 75]) rfl ?_
  refine Ev_ite (fun hc => ?_) (fun hc => ?_)
  · replace H := H.1 hc
    refine Ev.steps 2 (pc' := 162) (L' := [some (.ref 59), some (.int x1), some (.int x2), some (.int x3), some (.int x4)]) (st' := [.int x3, .int x1, .ref 75]) rfl ?_
    exact Ev.weak [none, none, none, none, some (.int x4)] (gw_leb_le ⟨rfl, trivial⟩) H
  · replace H := H.2 hc
    refine Ev.steps 3 (pc' := 161) (L' := [some (.ref 59), some (.int x1), some (.int x2), some (.int x3), some (.int x4)]) (st' := [.int x1, .ref 75, .int x1, .ref 75]) rfl ?_
    refine Ev.rd (i := x1) (n := 8) (pc' := 162) (L' := [some (.ref 59), some (.int x1), some (.int x2), some (.int x3), some (.int x4)]) (st' := [.int ((M 75) (x1 : Int32).toNatClampNeg), .int x1, .ref 75]) H.1 rfl ?_
    replace H := H.2
    exact Ev.weak [none, none, none, none, some (.int x4)] (gw_leb_le ⟨rfl, trivial⟩) H

theorem w262_162 {E : gw_N} {M : Mem} {res : Option Value × gw_H} {x4 : Int32} {y1 : Int32} {y2 : Int32} (H : (inb y1 8 ∧ res = (some (.int x4), hs E (up M 75 (upd (M 75) (y1 : Int32).toNatClampNeg y2))))) : Ev 3 262 162 [none, none, none, none, some (.int x4)] [.int y2, .int y1, .ref 75] (hs E M) res := by
  refine Ev.wr (a := 75) (g := (upd (M 75) (y1 : Int32).toNatClampNeg y2)) (i := y1) (n := 8) (pc' := 163) (L' := [none, none, none, none, some (.int x4)]) (st' := []) (by decide) H.1 rfl ?_
  replace H := H.2
  refine Ev.steps 1 (pc' := 165) (L' := [none, none, none, none, some (.int x4)]) (st' := [.int x4]) rfl ?_
  subst H
  exact Ev.ret rfl
end
