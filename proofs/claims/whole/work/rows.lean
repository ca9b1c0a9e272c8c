section
-- ===== PART A: goes FIRST, ahead of the names: the tables' words, and 'selects' of the private methods out of them =====
/-- a private method of a class that the tables say can be made, by its rows of tables_1 -/
def lw_okq (q : MethodName × Nat) : Prop := (q.1.cls ≠ "java/lang/invoke/MethodHandle" ∧ q.1.cls ≠ "java/lang/invoke/VarHandle") ∧ Cond.instantiable q.1.cls q.2 ∈ tables_1 ∧ Cond.privateMethod q.1 ∈ tables_1 ∧ Cond.instanceMethod q.1 ∈ tables_1
theorem lw_p0 : lw_okq (⟨"ElevenMeasures$Rules", "latest", "(II)I"⟩, 5) := ⟨⟨by decide +kernel, by decide +kernel⟩, List.mem_of_getElem? (i := 45) (by decide +kernel), List.mem_of_getElem? (i := 117) (by decide +kernel), List.mem_of_getElem? (i := 118) (by decide +kernel)⟩
theorem lw_p1 : lw_okq (⟨"ElevenMeasures$Reader", "step", "()V"⟩, 7) := ⟨⟨by decide +kernel, by decide +kernel⟩, List.mem_of_getElem? (i := 70) (by decide +kernel), List.mem_of_getElem? (i := 460) (by decide +kernel), List.mem_of_getElem? (i := 461) (by decide +kernel)⟩
theorem lw_p2 : lw_okq (⟨"ElevenMeasures$Reader", "stepName", "()V"⟩, 7) := ⟨⟨by decide +kernel, by decide +kernel⟩, List.mem_of_getElem? (i := 70) (by decide +kernel), List.mem_of_getElem? (i := 471) (by decide +kernel), List.mem_of_getElem? (i := 472) (by decide +kernel)⟩
theorem lw_p3 : lw_okq (⟨"ElevenMeasures$Reader", "stepNumber", "()V"⟩, 7) := ⟨⟨by decide +kernel, by decide +kernel⟩, List.mem_of_getElem? (i := 70) (by decide +kernel), List.mem_of_getElem? (i := 478) (by decide +kernel), List.mem_of_getElem? (i := 479) (by decide +kernel)⟩
theorem lw_p4 : lw_okq (⟨"ElevenMeasures$Reader", "fail", "(I)V"⟩, 7) := ⟨⟨by decide +kernel, by decide +kernel⟩, List.mem_of_getElem? (i := 70) (by decide +kernel), List.mem_of_getElem? (i := 482) (by decide +kernel), List.mem_of_getElem? (i := 483) (by decide +kernel)⟩
theorem lw_p5 : lw_okq (⟨"ElevenMeasures$Reader", "isName", "(Ljava/lang/String;)Z"⟩, 7) := ⟨⟨by decide +kernel, by decide +kernel⟩, List.mem_of_getElem? (i := 70) (by decide +kernel), List.mem_of_getElem? (i := 487) (by decide +kernel), List.mem_of_getElem? (i := 488) (by decide +kernel)⟩
theorem lw_p6 : lw_okq (⟨"ElevenMeasures$Reader", "isRule", "()Z"⟩, 7) := ⟨⟨by decide +kernel, by decide +kernel⟩, List.mem_of_getElem? (i := 70) (by decide +kernel), List.mem_of_getElem? (i := 539) (by decide +kernel), List.mem_of_getElem? (i := 540) (by decide +kernel)⟩
theorem lw_p7 : lw_okq (⟨"ElevenMeasures$Reader", "readLine", "()V"⟩, 7) := ⟨⟨by decide +kernel, by decide +kernel⟩, List.mem_of_getElem? (i := 70) (by decide +kernel), List.mem_of_getElem? (i := 548) (by decide +kernel), List.mem_of_getElem? (i := 549) (by decide +kernel)⟩
theorem lw_p8 : lw_okq (⟨"ElevenMeasures$Reader", "takeNumber", "(II)I"⟩, 7) := ⟨⟨by decide +kernel, by decide +kernel⟩, List.mem_of_getElem? (i := 70) (by decide +kernel), List.mem_of_getElem? (i := 552) (by decide +kernel), List.mem_of_getElem? (i := 553) (by decide +kernel)⟩
theorem lw_p9 : lw_okq (⟨"ElevenMeasures$Reader", "needNumber", "(II)I"⟩, 7) := ⟨⟨by decide +kernel, by decide +kernel⟩, List.mem_of_getElem? (i := 70) (by decide +kernel), List.mem_of_getElem? (i := 556) (by decide +kernel), List.mem_of_getElem? (i := 557) (by decide +kernel)⟩
theorem lw_p10 : lw_okq (⟨"ElevenMeasures$Reader", "takeLetter", "(II)I"⟩, 7) := ⟨⟨by decide +kernel, by decide +kernel⟩, List.mem_of_getElem? (i := 70) (by decide +kernel), List.mem_of_getElem? (i := 560) (by decide +kernel), List.mem_of_getElem? (i := 561) (by decide +kernel)⟩
theorem lw_p11 : lw_okq (⟨"ElevenMeasures$Reader", "needNew", "(II)V"⟩, 7) := ⟨⟨by decide +kernel, by decide +kernel⟩, List.mem_of_getElem? (i := 70) (by decide +kernel), List.mem_of_getElem? (i := 567) (by decide +kernel), List.mem_of_getElem? (i := 568) (by decide +kernel)⟩
theorem lw_p12 : lw_okq (⟨"ElevenMeasures$Reader", "takeStop", "(IIII)V"⟩, 7) := ⟨⟨by decide +kernel, by decide +kernel⟩, List.mem_of_getElem? (i := 70) (by decide +kernel), List.mem_of_getElem? (i := 575) (by decide +kernel), List.mem_of_getElem? (i := 576) (by decide +kernel)⟩
theorem lw_p13 : lw_okq (⟨"ElevenMeasures$Looking", "share", "(IIILElevenMeasures$Now;)I"⟩, 6) := ⟨⟨by decide +kernel, by decide +kernel⟩, List.mem_of_getElem? (i := 273) (by decide +kernel), List.mem_of_getElem? (i := 707) (by decide +kernel), List.mem_of_getElem? (i := 708) (by decide +kernel)⟩
theorem lw_p14 : lw_okq (⟨"ElevenMeasures$Looking", "heaviest", "()I"⟩, 6) := ⟨⟨by decide +kernel, by decide +kernel⟩, List.mem_of_getElem? (i := 273) (by decide +kernel), List.mem_of_getElem? (i := 731) (by decide +kernel), List.mem_of_getElem? (i := 732) (by decide +kernel)⟩
theorem lw_p15 : lw_okq (⟨"ElevenMeasures$Telling", "insert", "(I)V"⟩, 7) := ⟨⟨by decide +kernel, by decide +kernel⟩, List.mem_of_getElem? (i := 237) (by decide +kernel), List.mem_of_getElem? (i := 755) (by decide +kernel), List.mem_of_getElem? (i := 756) (by decide +kernel)⟩
def lw_privs_1 : List (MethodName × Nat) := [(⟨"ElevenMeasures$Rules", "latest", "(II)I"⟩, 5), (⟨"ElevenMeasures$Reader", "step", "()V"⟩, 7), (⟨"ElevenMeasures$Reader", "stepName", "()V"⟩, 7), (⟨"ElevenMeasures$Reader", "stepNumber", "()V"⟩, 7), (⟨"ElevenMeasures$Reader", "fail", "(I)V"⟩, 7), (⟨"ElevenMeasures$Reader", "isName", "(Ljava/lang/String;)Z"⟩, 7), (⟨"ElevenMeasures$Reader", "isRule", "()Z"⟩, 7), (⟨"ElevenMeasures$Reader", "readLine", "()V"⟩, 7), (⟨"ElevenMeasures$Reader", "takeNumber", "(II)I"⟩, 7), (⟨"ElevenMeasures$Reader", "needNumber", "(II)I"⟩, 7), (⟨"ElevenMeasures$Reader", "takeLetter", "(II)I"⟩, 7), (⟨"ElevenMeasures$Reader", "needNew", "(II)V"⟩, 7), (⟨"ElevenMeasures$Reader", "takeStop", "(IIII)V"⟩, 7), (⟨"ElevenMeasures$Looking", "share", "(IIILElevenMeasures$Now;)I"⟩, 6), (⟨"ElevenMeasures$Looking", "heaviest", "()I"⟩, 6), (⟨"ElevenMeasures$Telling", "insert", "(I)V"⟩, 7)]
theorem lw_r1 : ∀ q ∈ lw_privs_1, lw_okq q := List.forall_mem_cons.mpr ⟨lw_p0, List.forall_mem_cons.mpr ⟨lw_p1, List.forall_mem_cons.mpr ⟨lw_p2, List.forall_mem_cons.mpr ⟨lw_p3, List.forall_mem_cons.mpr ⟨lw_p4, List.forall_mem_cons.mpr ⟨lw_p5, List.forall_mem_cons.mpr ⟨lw_p6, List.forall_mem_cons.mpr ⟨lw_p7, List.forall_mem_cons.mpr ⟨lw_p8, List.forall_mem_cons.mpr ⟨lw_p9, List.forall_mem_cons.mpr ⟨lw_p10, List.forall_mem_cons.mpr ⟨lw_p11, List.forall_mem_cons.mpr ⟨lw_p12, List.forall_mem_cons.mpr ⟨lw_p13, List.forall_mem_cons.mpr ⟨lw_p14, List.forall_mem_cons.mpr ⟨lw_p15, fun _ h => absurd h List.not_mem_nil⟩⟩⟩⟩⟩⟩⟩⟩⟩⟩⟩⟩⟩⟩⟩⟩
theorem lw_p16 : lw_okq (⟨"ElevenMeasures$Men", "hang", "(II)V"⟩, 4) := ⟨⟨by decide +kernel, by decide +kernel⟩, List.mem_of_getElem? (i := 303) (by decide +kernel), List.mem_of_getElem? (i := 830) (by decide +kernel), List.mem_of_getElem? (i := 831) (by decide +kernel)⟩
theorem lw_p17 : lw_okq (⟨"ElevenMeasures$Men", "isOne", "(II)Z"⟩, 4) := ⟨⟨by decide +kernel, by decide +kernel⟩, List.mem_of_getElem? (i := 303) (by decide +kernel), List.mem_of_getElem? (i := 843) (by decide +kernel), List.mem_of_getElem? (i := 844) (by decide +kernel)⟩
theorem lw_p18 : lw_okq (⟨"ElevenMeasures$Edges", "isCounted", "(II)Z"⟩, 7) := ⟨⟨by decide +kernel, by decide +kernel⟩, List.mem_of_getElem? (i := 325) (by decide +kernel), List.mem_of_getElem? (i := 873) (by decide +kernel), List.mem_of_getElem? (i := 874) (by decide +kernel)⟩
theorem lw_p19 : lw_okq (⟨"ElevenMeasures", "isHold", "(I)Z"⟩, 17) := ⟨⟨by decide +kernel, by decide +kernel⟩, List.mem_of_getElem? (i := 21) (by decide +kernel), List.mem_of_getElem? (i := 907) (by decide +kernel), List.mem_of_getElem? (i := 908) (by decide +kernel)⟩
theorem lw_p20 : lw_okq (⟨"ElevenMeasures", "leaned", "(I)I"⟩, 17) := ⟨⟨by decide +kernel, by decide +kernel⟩, List.mem_of_getElem? (i := 21) (by decide +kernel), List.mem_of_getElem? (i := 911) (by decide +kernel), List.mem_of_getElem? (i := 912) (by decide +kernel)⟩
theorem lw_p21 : lw_okq (⟨"ElevenMeasures", "wrongHolds", "()I"⟩, 17) := ⟨⟨by decide +kernel, by decide +kernel⟩, List.mem_of_getElem? (i := 21) (by decide +kernel), List.mem_of_getElem? (i := 968) (by decide +kernel), List.mem_of_getElem? (i := 969) (by decide +kernel)⟩
theorem lw_p22 : lw_okq (⟨"ElevenMeasuresModel", "next", "()V"⟩, 62) := ⟨⟨by decide +kernel, by decide +kernel⟩, List.mem_of_getElem? (i := 972) (by decide +kernel), List.mem_of_getElem? (i := 1185) (by decide +kernel), List.mem_of_getElem? (i := 1186) (by decide +kernel)⟩
theorem lw_p23 : lw_okq (⟨"ElevenMeasuresModel", "byteAt", "(I)I"⟩, 62) := ⟨⟨by decide +kernel, by decide +kernel⟩, List.mem_of_getElem? (i := 972) (by decide +kernel), List.mem_of_getElem? (i := 1189) (by decide +kernel), List.mem_of_getElem? (i := 1190) (by decide +kernel)⟩
theorem lw_p24 : lw_okq (⟨"ElevenMeasuresModel", "fails", "(I)V"⟩, 62) := ⟨⟨by decide +kernel, by decide +kernel⟩, List.mem_of_getElem? (i := 972) (by decide +kernel), List.mem_of_getElem? (i := 1197) (by decide +kernel), List.mem_of_getElem? (i := 1198) (by decide +kernel)⟩
theorem lw_p25 : lw_okq (⟨"ElevenMeasuresModel", "readLine", "()V"⟩, 62) := ⟨⟨by decide +kernel, by decide +kernel⟩, List.mem_of_getElem? (i := 972) (by decide +kernel), List.mem_of_getElem? (i := 1201) (by decide +kernel), List.mem_of_getElem? (i := 1202) (by decide +kernel)⟩
theorem lw_p26 : lw_okq (⟨"ElevenMeasuresModel", "nameHere", "()I"⟩, 62) := ⟨⟨by decide +kernel, by decide +kernel⟩, List.mem_of_getElem? (i := 972) (by decide +kernel), List.mem_of_getElem? (i := 1205) (by decide +kernel), List.mem_of_getElem? (i := 1206) (by decide +kernel)⟩
theorem lw_p27 : lw_okq (⟨"ElevenMeasuresModel", "number", "(II)I"⟩, 62) := ⟨⟨by decide +kernel, by decide +kernel⟩, List.mem_of_getElem? (i := 972) (by decide +kernel), List.mem_of_getElem? (i := 1209) (by decide +kernel), List.mem_of_getElem? (i := 1210) (by decide +kernel)⟩
theorem lw_p28 : lw_okq (⟨"ElevenMeasuresModel", "readOf", "(II)I"⟩, 62) := ⟨⟨by decide +kernel, by decide +kernel⟩, List.mem_of_getElem? (i := 972) (by decide +kernel), List.mem_of_getElem? (i := 1213) (by decide +kernel), List.mem_of_getElem? (i := 1214) (by decide +kernel)⟩
theorem lw_p29 : lw_okq (⟨"ElevenMeasuresModel", "once", "(III)V"⟩, 62) := ⟨⟨by decide +kernel, by decide +kernel⟩, List.mem_of_getElem? (i := 972) (by decide +kernel), List.mem_of_getElem? (i := 1218) (by decide +kernel), List.mem_of_getElem? (i := 1219) (by decide +kernel)⟩
theorem lw_p30 : lw_okq (⟨"ElevenMeasuresModel", "firstEdge", "(II)I"⟩, 62) := ⟨⟨by decide +kernel, by decide +kernel⟩, List.mem_of_getElem? (i := 972) (by decide +kernel), List.mem_of_getElem? (i := 1231) (by decide +kernel), List.mem_of_getElem? (i := 1232) (by decide +kernel)⟩
theorem lw_p31 : lw_okq (⟨"ElevenMeasuresModel", "holdsThen", "(IIII)I"⟩, 62) := ⟨⟨by decide +kernel, by decide +kernel⟩, List.mem_of_getElem? (i := 972) (by decide +kernel), List.mem_of_getElem? (i := 1235) (by decide +kernel), List.mem_of_getElem? (i := 1236) (by decide +kernel)⟩
def lw_privs_2 : List (MethodName × Nat) := [(⟨"ElevenMeasures$Men", "hang", "(II)V"⟩, 4), (⟨"ElevenMeasures$Men", "isOne", "(II)Z"⟩, 4), (⟨"ElevenMeasures$Edges", "isCounted", "(II)Z"⟩, 7), (⟨"ElevenMeasures", "isHold", "(I)Z"⟩, 17), (⟨"ElevenMeasures", "leaned", "(I)I"⟩, 17), (⟨"ElevenMeasures", "wrongHolds", "()I"⟩, 17), (⟨"ElevenMeasuresModel", "next", "()V"⟩, 62), (⟨"ElevenMeasuresModel", "byteAt", "(I)I"⟩, 62), (⟨"ElevenMeasuresModel", "fails", "(I)V"⟩, 62), (⟨"ElevenMeasuresModel", "readLine", "()V"⟩, 62), (⟨"ElevenMeasuresModel", "nameHere", "()I"⟩, 62), (⟨"ElevenMeasuresModel", "number", "(II)I"⟩, 62), (⟨"ElevenMeasuresModel", "readOf", "(II)I"⟩, 62), (⟨"ElevenMeasuresModel", "once", "(III)V"⟩, 62), (⟨"ElevenMeasuresModel", "firstEdge", "(II)I"⟩, 62), (⟨"ElevenMeasuresModel", "holdsThen", "(IIII)I"⟩, 62)]
theorem lw_r2 : ∀ q ∈ lw_privs_2, lw_okq q := List.forall_mem_cons.mpr ⟨lw_p16, List.forall_mem_cons.mpr ⟨lw_p17, List.forall_mem_cons.mpr ⟨lw_p18, List.forall_mem_cons.mpr ⟨lw_p19, List.forall_mem_cons.mpr ⟨lw_p20, List.forall_mem_cons.mpr ⟨lw_p21, List.forall_mem_cons.mpr ⟨lw_p22, List.forall_mem_cons.mpr ⟨lw_p23, List.forall_mem_cons.mpr ⟨lw_p24, List.forall_mem_cons.mpr ⟨lw_p25, List.forall_mem_cons.mpr ⟨lw_p26, List.forall_mem_cons.mpr ⟨lw_p27, List.forall_mem_cons.mpr ⟨lw_p28, List.forall_mem_cons.mpr ⟨lw_p29, List.forall_mem_cons.mpr ⟨lw_p30, List.forall_mem_cons.mpr ⟨lw_p31, fun _ h => absurd h List.not_mem_nil⟩⟩⟩⟩⟩⟩⟩⟩⟩⟩⟩⟩⟩⟩⟩⟩
theorem lw_p32 : lw_okq (⟨"ElevenMeasuresModel", "lineAt", "(III)I"⟩, 62) := ⟨⟨by decide +kernel, by decide +kernel⟩, List.mem_of_getElem? (i := 972) (by decide +kernel), List.mem_of_getElem? (i := 1239) (by decide +kernel), List.mem_of_getElem? (i := 1240) (by decide +kernel)⟩
theorem lw_p33 : lw_okq (⟨"ElevenMeasuresModel", "secondEdge", "(II)I"⟩, 62) := ⟨⟨by decide +kernel, by decide +kernel⟩, List.mem_of_getElem? (i := 972) (by decide +kernel), List.mem_of_getElem? (i := 1243) (by decide +kernel), List.mem_of_getElem? (i := 1244) (by decide +kernel)⟩
theorem lw_p34 : lw_okq (⟨"ElevenMeasuresModel", "spreadOf", "(II)I"⟩, 62) := ⟨⟨by decide +kernel, by decide +kernel⟩, List.mem_of_getElem? (i := 972) (by decide +kernel), List.mem_of_getElem? (i := 1247) (by decide +kernel), List.mem_of_getElem? (i := 1248) (by decide +kernel)⟩
theorem lw_p35 : lw_okq (⟨"ElevenMeasuresModel", "growOf", "(II)I"⟩, 62) := ⟨⟨by decide +kernel, by decide +kernel⟩, List.mem_of_getElem? (i := 972) (by decide +kernel), List.mem_of_getElem? (i := 1251) (by decide +kernel), List.mem_of_getElem? (i := 1252) (by decide +kernel)⟩
theorem lw_p36 : lw_okq (⟨"ElevenMeasuresModel", "addCard", "(IIIIIII)V"⟩, 62) := ⟨⟨by decide +kernel, by decide +kernel⟩, List.mem_of_getElem? (i := 972) (by decide +kernel), List.mem_of_getElem? (i := 1266) (by decide +kernel), List.mem_of_getElem? (i := 1267) (by decide +kernel)⟩
theorem lw_p37 : lw_okq (⟨"ElevenMeasuresModel", "drawerOf", "(I)I"⟩, 62) := ⟨⟨by decide +kernel, by decide +kernel⟩, List.mem_of_getElem? (i := 972) (by decide +kernel), List.mem_of_getElem? (i := 1270) (by decide +kernel), List.mem_of_getElem? (i := 1271) (by decide +kernel)⟩
theorem lw_p38 : lw_okq (⟨"ElevenMeasuresModel", "thirdOf", "(III)I"⟩, 62) := ⟨⟨by decide +kernel, by decide +kernel⟩, List.mem_of_getElem? (i := 972) (by decide +kernel), List.mem_of_getElem? (i := 1274) (by decide +kernel), List.mem_of_getElem? (i := 1275) (by decide +kernel)⟩
theorem lw_p39 : lw_okq (⟨"ElevenMeasuresModel", "isCard", "(I)Z"⟩, 62) := ⟨⟨by decide +kernel, by decide +kernel⟩, List.mem_of_getElem? (i := 972) (by decide +kernel), List.mem_of_getElem? (i := 1282) (by decide +kernel), List.mem_of_getElem? (i := 1283) (by decide +kernel)⟩
theorem lw_p40 : lw_okq (⟨"ElevenMeasuresModel", "isOut", "(I)Z"⟩, 62) := ⟨⟨by decide +kernel, by decide +kernel⟩, List.mem_of_getElem? (i := 972) (by decide +kernel), List.mem_of_getElem? (i := 1286) (by decide +kernel), List.mem_of_getElem? (i := 1287) (by decide +kernel)⟩
theorem lw_p41 : lw_okq (⟨"ElevenMeasuresModel", "isDue", "(I)Z"⟩, 62) := ⟨⟨by decide +kernel, by decide +kernel⟩, List.mem_of_getElem? (i := 972) (by decide +kernel), List.mem_of_getElem? (i := 1290) (by decide +kernel), List.mem_of_getElem? (i := 1291) (by decide +kernel)⟩
theorem lw_p42 : lw_okq (⟨"ElevenMeasuresModel", "spreadAt", "(I)I"⟩, 62) := ⟨⟨by decide +kernel, by decide +kernel⟩, List.mem_of_getElem? (i := 972) (by decide +kernel), List.mem_of_getElem? (i := 1294) (by decide +kernel), List.mem_of_getElem? (i := 1295) (by decide +kernel)⟩
theorem lw_p43 : lw_okq (⟨"ElevenMeasuresModel", "layThirds", "()V"⟩, 62) := ⟨⟨by decide +kernel, by decide +kernel⟩, List.mem_of_getElem? (i := 972) (by decide +kernel), List.mem_of_getElem? (i := 1330) (by decide +kernel), List.mem_of_getElem? (i := 1331) (by decide +kernel)⟩
theorem lw_p44 : lw_okq (⟨"ElevenMeasuresModel", "chanceOf", "(I)I"⟩, 62) := ⟨⟨by decide +kernel, by decide +kernel⟩, List.mem_of_getElem? (i := 972) (by decide +kernel), List.mem_of_getElem? (i := 1334) (by decide +kernel), List.mem_of_getElem? (i := 1335) (by decide +kernel)⟩
theorem lw_p45 : lw_okq (⟨"ElevenMeasuresModel", "layLook", "(I)V"⟩, 62) := ⟨⟨by decide +kernel, by decide +kernel⟩, List.mem_of_getElem? (i := 972) (by decide +kernel), List.mem_of_getElem? (i := 1347) (by decide +kernel), List.mem_of_getElem? (i := 1348) (by decide +kernel)⟩
theorem lw_p46 : lw_okq (⟨"ElevenMeasuresModel", "isLooked", "(I)Z"⟩, 62) := ⟨⟨by decide +kernel, by decide +kernel⟩, List.mem_of_getElem? (i := 972) (by decide +kernel), List.mem_of_getElem? (i := 1352) (by decide +kernel), List.mem_of_getElem? (i := 1353) (by decide +kernel)⟩
theorem lw_p47 : lw_okq (⟨"ElevenMeasuresModel", "grownOf", "(III)I"⟩, 62) := ⟨⟨by decide +kernel, by decide +kernel⟩, List.mem_of_getElem? (i := 972) (by decide +kernel), List.mem_of_getElem? (i := 1360) (by decide +kernel), List.mem_of_getElem? (i := 1361) (by decide +kernel)⟩
def lw_privs_3 : List (MethodName × Nat) := [(⟨"ElevenMeasuresModel", "lineAt", "(III)I"⟩, 62), (⟨"ElevenMeasuresModel", "secondEdge", "(II)I"⟩, 62), (⟨"ElevenMeasuresModel", "spreadOf", "(II)I"⟩, 62), (⟨"ElevenMeasuresModel", "growOf", "(II)I"⟩, 62), (⟨"ElevenMeasuresModel", "addCard", "(IIIIIII)V"⟩, 62), (⟨"ElevenMeasuresModel", "drawerOf", "(I)I"⟩, 62), (⟨"ElevenMeasuresModel", "thirdOf", "(III)I"⟩, 62), (⟨"ElevenMeasuresModel", "isCard", "(I)Z"⟩, 62), (⟨"ElevenMeasuresModel", "isOut", "(I)Z"⟩, 62), (⟨"ElevenMeasuresModel", "isDue", "(I)Z"⟩, 62), (⟨"ElevenMeasuresModel", "spreadAt", "(I)I"⟩, 62), (⟨"ElevenMeasuresModel", "layThirds", "()V"⟩, 62), (⟨"ElevenMeasuresModel", "chanceOf", "(I)I"⟩, 62), (⟨"ElevenMeasuresModel", "layLook", "(I)V"⟩, 62), (⟨"ElevenMeasuresModel", "isLooked", "(I)Z"⟩, 62), (⟨"ElevenMeasuresModel", "grownOf", "(III)I"⟩, 62)]
theorem lw_r3 : ∀ q ∈ lw_privs_3, lw_okq q := List.forall_mem_cons.mpr ⟨lw_p32, List.forall_mem_cons.mpr ⟨lw_p33, List.forall_mem_cons.mpr ⟨lw_p34, List.forall_mem_cons.mpr ⟨lw_p35, List.forall_mem_cons.mpr ⟨lw_p36, List.forall_mem_cons.mpr ⟨lw_p37, List.forall_mem_cons.mpr ⟨lw_p38, List.forall_mem_cons.mpr ⟨lw_p39, List.forall_mem_cons.mpr ⟨lw_p40, List.forall_mem_cons.mpr ⟨lw_p41, List.forall_mem_cons.mpr ⟨lw_p42, List.forall_mem_cons.mpr ⟨lw_p43, List.forall_mem_cons.mpr ⟨lw_p44, List.forall_mem_cons.mpr ⟨lw_p45, List.forall_mem_cons.mpr ⟨lw_p46, List.forall_mem_cons.mpr ⟨lw_p47, fun _ h => absurd h List.not_mem_nil⟩⟩⟩⟩⟩⟩⟩⟩⟩⟩⟩⟩⟩⟩⟩⟩
theorem lw_p48 : lw_okq (⟨"ElevenMeasuresModel", "matches", "()I"⟩, 62) := ⟨⟨by decide +kernel, by decide +kernel⟩, List.mem_of_getElem? (i := 972) (by decide +kernel), List.mem_of_getElem? (i := 1370) (by decide +kernel), List.mem_of_getElem? (i := 1371) (by decide +kernel)⟩
theorem lw_p49 : lw_okq (⟨"ElevenMeasuresModel", "tryTelling", "()V"⟩, 62) := ⟨⟨by decide +kernel, by decide +kernel⟩, List.mem_of_getElem? (i := 972) (by decide +kernel), List.mem_of_getElem? (i := 1374) (by decide +kernel), List.mem_of_getElem? (i := 1375) (by decide +kernel)⟩
theorem lw_p50 : lw_okq (⟨"ElevenMeasuresModel", "missOf", "(I)I"⟩, 62) := ⟨⟨by decide +kernel, by decide +kernel⟩, List.mem_of_getElem? (i := 972) (by decide +kernel), List.mem_of_getElem? (i := 1378) (by decide +kernel), List.mem_of_getElem? (i := 1379) (by decide +kernel)⟩
theorem lw_p51 : lw_okq (⟨"ElevenMeasuresModel", "matchAt", "(II)I"⟩, 62) := ⟨⟨by decide +kernel, by decide +kernel⟩, List.mem_of_getElem? (i := 972) (by decide +kernel), List.mem_of_getElem? (i := 1385) (by decide +kernel), List.mem_of_getElem? (i := 1386) (by decide +kernel)⟩
theorem lw_p52 : lw_okq (⟨"ElevenMeasuresModel", "doJoin", "(II)Z"⟩, 62) := ⟨⟨by decide +kernel, by decide +kernel⟩, List.mem_of_getElem? (i := 972) (by decide +kernel), List.mem_of_getElem? (i := 1409) (by decide +kernel), List.mem_of_getElem? (i := 1410) (by decide +kernel)⟩
theorem lw_p53 : lw_okq (⟨"ElevenMeasuresModel", "tryCard", "(I)V"⟩, 62) := ⟨⟨by decide +kernel, by decide +kernel⟩, List.mem_of_getElem? (i := 972) (by decide +kernel), List.mem_of_getElem? (i := 1413) (by decide +kernel), List.mem_of_getElem? (i := 1414) (by decide +kernel)⟩
theorem lw_p54 : lw_okq (⟨"ElevenMeasuresModel", "layMen", "()V"⟩, 62) := ⟨⟨by decide +kernel, by decide +kernel⟩, List.mem_of_getElem? (i := 972) (by decide +kernel), List.mem_of_getElem? (i := 1421) (by decide +kernel), List.mem_of_getElem? (i := 1422) (by decide +kernel)⟩
theorem lw_p55 : lw_okq (⟨"ElevenMeasuresModel", "judgeEdges", "(III)V"⟩, 62) := ⟨⟨by decide +kernel, by decide +kernel⟩, List.mem_of_getElem? (i := 972) (by decide +kernel), List.mem_of_getElem? (i := 1433) (by decide +kernel), List.mem_of_getElem? (i := 1434) (by decide +kernel)⟩
theorem lw_p56 : lw_okq (⟨"ElevenMeasuresModel", "leaned", "(I)I"⟩, 62) := ⟨⟨by decide +kernel, by decide +kernel⟩, List.mem_of_getElem? (i := 972) (by decide +kernel), List.mem_of_getElem? (i := 1449) (by decide +kernel), List.mem_of_getElem? (i := 1450) (by decide +kernel)⟩
def lw_privs_4 : List (MethodName × Nat) := [(⟨"ElevenMeasuresModel", "matches", "()I"⟩, 62), (⟨"ElevenMeasuresModel", "tryTelling", "()V"⟩, 62), (⟨"ElevenMeasuresModel", "missOf", "(I)I"⟩, 62), (⟨"ElevenMeasuresModel", "matchAt", "(II)I"⟩, 62), (⟨"ElevenMeasuresModel", "doJoin", "(II)Z"⟩, 62), (⟨"ElevenMeasuresModel", "tryCard", "(I)V"⟩, 62), (⟨"ElevenMeasuresModel", "layMen", "()V"⟩, 62), (⟨"ElevenMeasuresModel", "judgeEdges", "(III)V"⟩, 62), (⟨"ElevenMeasuresModel", "leaned", "(I)I"⟩, 62)]
theorem lw_r4 : ∀ q ∈ lw_privs_4, lw_okq q := List.forall_mem_cons.mpr ⟨lw_p48, List.forall_mem_cons.mpr ⟨lw_p49, List.forall_mem_cons.mpr ⟨lw_p50, List.forall_mem_cons.mpr ⟨lw_p51, List.forall_mem_cons.mpr ⟨lw_p52, List.forall_mem_cons.mpr ⟨lw_p53, List.forall_mem_cons.mpr ⟨lw_p54, List.forall_mem_cons.mpr ⟨lw_p55, List.forall_mem_cons.mpr ⟨lw_p56, fun _ h => absurd h List.not_mem_nil⟩⟩⟩⟩⟩⟩⟩⟩⟩
def lw_privs : List (MethodName × Nat) := lw_privs_1 ++ (lw_privs_2 ++ (lw_privs_3 ++ (lw_privs_4)))
def lw_tbl : List Cond := k2_sels lw_privs ++ tables_1
theorem lw_privs_ok : ∀ q ∈ lw_privs, lw_okq q := by
  show ∀ q ∈ lw_privs_1 ++ (lw_privs_2 ++ (lw_privs_3 ++ (lw_privs_4))), lw_okq q
  exact List.forall_mem_append.mpr ⟨lw_r1, List.forall_mem_append.mpr ⟨lw_r2, List.forall_mem_append.mpr ⟨lw_r3, lw_r4⟩⟩⟩
end
section
def RX0 : String := "ElevenMeasures$Cabinet"
def TX0 : u_T := fun k => match k with
  | 0 => ("ElevenMeasures$Cabinet", "now", "LElevenMeasures$Now;", true)
  | 1 => ("ElevenMeasures$Cabinet", "cards", "[LElevenMeasures$Card;", true)
  | 2 => ("ElevenMeasures$Cabinet", "number", "I", false)
  | 3 => ("ElevenMeasures$Cabinet", "barred", "[Z", true)
  | 4 => ("ElevenMeasures$Cabinet", "bars", "I", false)
  | 5 => ("ElevenMeasures$Cabinet", "anewCard", "[I", true)
  | 6 => ("ElevenMeasures$Cabinet", "anewMeasure", "[I", true)
  | 7 => ("ElevenMeasures$Cabinet", "anewValue", "[I", true)
  | 8 => ("ElevenMeasures$Cabinet", "anewDay", "[I", true)
  | _ => ("ElevenMeasures$Cabinet", "anews", "I", false)
def tyX0 : Nat → FieldType := fun k => match k with
  | 0 => .object "ElevenMeasures$Now"
  | 1 => .array (.object "ElevenMeasures$Card")
  | 2 => .int
  | 3 => .array .boolean
  | 4 => .int
  | 5 => .array .int
  | 6 => .array .int
  | 7 => .array .int
  | 8 => .array .int
  | _ => .int
abbrev wsX00 : List Cond := u_ws RX0 TX0 10
theorem nmX0 : ∀ a, a < 10 → ∀ b, b < 10 → a ≠ b → (TX0 a).2.1 ≠ (TX0 b).2.1 := by decide +kernel
theorem tyX0_ok : ∀ k, k < 10 → parseFieldDescriptor (TX0 k).2.2.1 = some (tyX0 k) := by decide +kernel
abbrev cX0_init : ByteArray := prog_2_method_1_code
def yX0_init : MethodName := ⟨RX0, "<init>", "(LElevenMeasures$Now;)V"⟩
abbrev cX0_has : ByteArray := prog_2_method_2_code
def yX0_has : MethodName := ⟨RX0, "has", "(I)Z"⟩
abbrev cX0_add : ByteArray := prog_2_method_3_code
def yX0_add : MethodName := ⟨RX0, "add", "(III[II)I"⟩
abbrev cX0_tellAnew : ByteArray := prog_2_method_4_code
def yX0_tellAnew : MethodName := ⟨RX0, "tellAnew", "(III)I"⟩
abbrev cX0_knownOn : ByteArray := prog_2_method_5_code
def yX0_knownOn : MethodName := ⟨RX0, "knownOn", "(III)I"⟩
abbrev cX0_filedIn : ByteArray := prog_2_method_6_code
def yX0_filedIn : MethodName := ⟨RX0, "filedIn", "(I)I"⟩
abbrev cX0_elsewhere : ByteArray := prog_2_method_7_code
def yX0_elsewhere : MethodName := ⟨RX0, "elsewhere", "(I)I"⟩
abbrev cX0_printed : ByteArray := prog_2_method_8_code
def yX0_printed : MethodName := ⟨RX0, "printed", "(I)I"⟩
abbrev cX0_kept : ByteArray := prog_2_method_9_code
def yX0_kept : MethodName := ⟨RX0, "kept", "()I"⟩
abbrev cX0_due : ByteArray := prog_2_method_10_code
def yX0_due : MethodName := ⟨RX0, "due", "()I"⟩
abbrev cX0_isBarred : ByteArray := prog_2_method_11_code
def yX0_isBarred : MethodName := ⟨RX0, "isBarred", "(II)Z"⟩
abbrev cX0_setBar : ByteArray := prog_2_method_12_code
def yX0_setBar : MethodName := ⟨RX0, "setBar", "(IIZ)V"⟩
abbrev cX0_joined : ByteArray := prog_2_method_13_code
def yX0_joined : MethodName := ⟨RX0, "joined", "(II)Z"⟩
def RX1 : String := "ElevenMeasures$Card"
def TX1 : u_T := fun k => match k with
  | 0 => ("ElevenMeasures$Card", "hand", "I", false)
  | 1 => ("ElevenMeasures$Card", "kind", "I", false)
  | 2 => ("ElevenMeasures$Card", "prints", "I", false)
  | 3 => ("ElevenMeasures$Card", "came", "I", false)
  | 4 => ("ElevenMeasures$Card", "anews", "I", false)
  | 5 => ("ElevenMeasures$Card", "filed", "I", false)
  | 6 => ("ElevenMeasures$Card", "firstTold", "[I", true)
  | _ => ("ElevenMeasures$Card", "measures", "[I", true)
def tyX1 : Nat → FieldType := fun k => match k with
  | 0 => .int
  | 1 => .int
  | 2 => .int
  | 3 => .int
  | 4 => .int
  | 5 => .int
  | 6 => .array .int
  | _ => .array .int
abbrev wsX10 : List Cond := u_ws RX1 TX1 8
theorem nmX1 : ∀ a, a < 8 → ∀ b, b < 8 → a ≠ b → (TX1 a).2.1 ≠ (TX1 b).2.1 := by decide +kernel
theorem tyX1_ok : ∀ k, k < 8 → parseFieldDescriptor (TX1 k).2.2.1 = some (tyX1 k) := by decide +kernel
abbrev cX1_init : ByteArray := prog_3_method_1_code
def yX1_init : MethodName := ⟨RX1, "<init>", "()V"⟩
abbrev cX1_isOut : ByteArray := prog_3_method_2_code
def yX1_isOut : MethodName := ⟨RX1, "isOut", "()Z"⟩
abbrev cX1_isDue : ByteArray := prog_3_method_3_code
def yX1_isDue : MethodName := ⟨RX1, "isDue", "(LElevenMeasures$Now;)Z"⟩
abbrev cX1_spread : ByteArray := prog_3_method_4_code
def yX1_spread : MethodName := ⟨RX1, "spread", "(LElevenMeasures$Now;)I"⟩
abbrev cX1_canMeasure : ByteArray := prog_3_method_5_code
def yX1_canMeasure : MethodName := ⟨RX1, "canMeasure", "(III)I"⟩
abbrev cX1_miss : ByteArray := prog_3_method_6_code
def yX1_miss : MethodName := ⟨RX1, "miss", "([IILElevenMeasures$Now;)I"⟩
def RX2 : String := "ElevenMeasures$Edges"
def TX2 : u_T := fun k => match k with
  | 0 => ("ElevenMeasures$Edges", "cabinet", "LElevenMeasures$Cabinet;", true)
  | 1 => ("ElevenMeasures$Edges", "first", "I", false)
  | 2 => ("ElevenMeasures$Edges", "second", "I", false)
  | 3 => ("ElevenMeasures$Edges", "uneven", "I", false)
  | 4 => ("ElevenMeasures$Edges", "close", "I", false)
  | 5 => ("ElevenMeasures$Edges", "belowEdge", "[I", true)
  | _ => ("ElevenMeasures$Edges", "nearEdge", "[I", true)
def tyX2 : Nat → FieldType := fun k => match k with
  | 0 => .object "ElevenMeasures$Cabinet"
  | 1 => .int
  | 2 => .int
  | 3 => .int
  | 4 => .int
  | 5 => .array .int
  | _ => .array .int
abbrev wsX20 : List Cond := u_ws RX2 TX2 7
theorem nmX2 : ∀ a, a < 7 → ∀ b, b < 7 → a ≠ b → (TX2 a).2.1 ≠ (TX2 b).2.1 := by decide +kernel
theorem tyX2_ok : ∀ k, k < 7 → parseFieldDescriptor (TX2 k).2.2.1 = some (tyX2 k) := by decide +kernel
abbrev cX2_init : ByteArray := prog_4_method_1_code
def yX2_init : MethodName := ⟨RX2, "<init>", "(LElevenMeasures$Cabinet;)V"⟩
abbrev cX2_search : ByteArray := prog_4_method_2_code
def yX2_search : MethodName := ⟨RX2, "search", "(II)Z"⟩
abbrev cX2_isCounted : ByteArray := prog_4_method_3_code
def yX2_isCounted : MethodName := ⟨RX2, "isCounted", "(II)Z"⟩
abbrev cX2_below : ByteArray := prog_4_method_4_code
def yX2_below : MethodName := ⟨RX2, "below", "(II)I"⟩
abbrev cX2_near : ByteArray := prog_4_method_5_code
def yX2_near : MethodName := ⟨RX2, "near", "(II)I"⟩
abbrev cX2_difference : ByteArray := prog_4_method_6_code
def yX2_difference : MethodName := ⟨RX2, "difference", "(III)I"⟩
def RX3 : String := "ElevenMeasures$Looking"
def TX3 : u_T := fun k => match k with
  | 0 => ("ElevenMeasures$Looking", "weights", "[I", true)
  | 1 => ("ElevenMeasures$Looking", "whole", "I", false)
  | 2 => ("ElevenMeasures$Looking", "order", "[I", true)
  | 3 => ("ElevenMeasures$Looking", "taken", "I", false)
  | 4 => ("ElevenMeasures$Looking", "bits", "I", false)
  | _ => ("ElevenMeasures$Looking", "thirds", "[I", true)
def tyX3 : Nat → FieldType := fun k => match k with
  | 0 => .array .int
  | 1 => .int
  | 2 => .array .int
  | 3 => .int
  | 4 => .int
  | _ => .array .int
abbrev wsX30 : List Cond := u_ws RX3 TX3 6
theorem nmX3 : ∀ a, a < 6 → ∀ b, b < 6 → a ≠ b → (TX3 a).2.1 ≠ (TX3 b).2.1 := by decide +kernel
theorem tyX3_ok : ∀ k, k < 6 → parseFieldDescriptor (TX3 k).2.2.1 = some (tyX3 k) := by decide +kernel
abbrev cX3_init : ByteArray := prog_5_method_1_code
def yX3_init : MethodName := ⟨RX3, "<init>", "()V"⟩
abbrev cX3_weigh : ByteArray := prog_5_method_2_code
def yX3_weigh : MethodName := ⟨RX3, "weigh", "(LElevenMeasures$Telling;LElevenMeasures$Now;)V"⟩
abbrev cX3_share : ByteArray := prog_5_method_3_code
def yX3_share : MethodName := ⟨RX3, "share", "(IIILElevenMeasures$Now;)I"⟩
abbrev cX3_take : ByteArray := prog_5_method_4_code
def yX3_take : MethodName := ⟨RX3, "take", "(I)V"⟩
abbrev cX3_heaviest : ByteArray := prog_5_method_5_code
def yX3_heaviest : MethodName := ⟨RX3, "heaviest", "()I"⟩
def RX4 : String := "ElevenMeasures$Men"
def TX4 : u_T := fun k => match k with
  | 0 => ("ElevenMeasures$Men", "cabinet", "LElevenMeasures$Cabinet;", true)
  | 1 => ("ElevenMeasures$Men", "least", "[I", true)
  | 2 => ("ElevenMeasures$Men", "doubles", "I", false)
  | _ => ("ElevenMeasures$Men", "apart", "I", false)
def tyX4 : Nat → FieldType := fun k => match k with
  | 0 => .object "ElevenMeasures$Cabinet"
  | 1 => .array .int
  | 2 => .int
  | _ => .int
abbrev wsX40 : List Cond := u_ws RX4 TX4 4
theorem nmX4 : ∀ a, a < 4 → ∀ b, b < 4 → a ≠ b → (TX4 a).2.1 ≠ (TX4 b).2.1 := by decide +kernel
theorem tyX4_ok : ∀ k, k < 4 → parseFieldDescriptor (TX4 k).2.2.1 = some (tyX4 k) := by decide +kernel
abbrev cX4_init : ByteArray := prog_6_method_1_code
def yX4_init : MethodName := ⟨RX4, "<init>", "(LElevenMeasures$Cabinet;)V"⟩
abbrev cX4_gather : ByteArray := prog_6_method_2_code
def yX4_gather : MethodName := ⟨RX4, "gather", "()V"⟩
abbrev cX4_hang : ByteArray := prog_6_method_3_code
def yX4_hang : MethodName := ⟨RX4, "hang", "(II)V"⟩
abbrev cX4_isOne : ByteArray := prog_6_method_4_code
def yX4_isOne : MethodName := ⟨RX4, "isOne", "(II)Z"⟩
abbrev cX4_number : ByteArray := prog_6_method_5_code
def yX4_number : MethodName := ⟨RX4, "number", "()I"⟩
abbrev cX4_greatest : ByteArray := prog_6_method_6_code
def yX4_greatest : MethodName := ⟨RX4, "greatest", "()I"⟩
abbrev cX4_quarrels : ByteArray := prog_6_method_7_code
def yX4_quarrels : MethodName := ⟨RX4, "quarrels", "()I"⟩
abbrev cX4_findDoubles : ByteArray := prog_6_method_8_code
def yX4_findDoubles : MethodName := ⟨RX4, "findDoubles", "(II)V"⟩
def RX5 : String := "ElevenMeasures$Now"
def TX5 : u_T := fun k => match k with
  | 0 => ("ElevenMeasures$Now", "rules", "LElevenMeasures$Rules;", true)
  | 1 => ("ElevenMeasures$Now", "holding", "[I", true)
  | _ => ("ElevenMeasures$Now", "date", "I", false)
def tyX5 : Nat → FieldType := fun k => match k with
  | 0 => .object "ElevenMeasures$Rules"
  | 1 => .array .int
  | _ => .int
abbrev wsX50 : List Cond := u_ws RX5 TX5 3
theorem nmX5 : ∀ a, a < 3 → ∀ b, b < 3 → a ≠ b → (TX5 a).2.1 ≠ (TX5 b).2.1 := by decide +kernel
theorem tyX5_ok : ∀ k, k < 3 → parseFieldDescriptor (TX5 k).2.2.1 = some (tyX5 k) := by decide +kernel
abbrev cX5_init : ByteArray := prog_7_method_1_code
def yX5_init : MethodName := ⟨RX5, "<init>", "(LElevenMeasures$Rules;)V"⟩
abbrev cX5_refresh : ByteArray := prog_7_method_2_code
def yX5_refresh : MethodName := ⟨RX5, "refresh", "()V"⟩
abbrev cX5_third : ByteArray := prog_7_method_3_code
def yX5_third : MethodName := ⟨RX5, "third", "(II)I"⟩
abbrev cX5_drawerBy : ByteArray := prog_7_method_4_code
def yX5_drawerBy : MethodName := ⟨RX5, "drawerBy", "([I)I"⟩
abbrev cX5_spreadOf : ByteArray := prog_7_method_5_code
def yX5_spreadOf : MethodName := ⟨RX5, "spreadOf", "(I)I"⟩
def RX6 : String := "ElevenMeasures$Reader"
def TX6 : u_T := fun k => match k with
  | 0 => ("ElevenMeasures$Reader", "tape", "LElevenMeasures$Tape;", true)
  | 1 => ("ElevenMeasures$Reader", "draft", "LElevenMeasures$Rules;", true)
  | 2 => ("ElevenMeasures$Reader", "found", "I", false)
  | 3 => ("ElevenMeasures$Reader", "place", "I", false)
  | 4 => ("ElevenMeasures$Reader", "behind", "I", false)
  | 5 => ("ElevenMeasures$Reader", "kind", "I", false)
  | _ => ("ElevenMeasures$Reader", "number", "I", false)
def tyX6 : Nat → FieldType := fun k => match k with
  | 0 => .object "ElevenMeasures$Tape"
  | 1 => .object "ElevenMeasures$Rules"
  | 2 => .int
  | 3 => .int
  | 4 => .int
  | 5 => .int
  | _ => .int
abbrev wsX60 : List Cond := u_ws RX6 TX6 7
theorem nmX6 : ∀ a, a < 7 → ∀ b, b < 7 → a ≠ b → (TX6 a).2.1 ≠ (TX6 b).2.1 := by decide +kernel
theorem tyX6_ok : ∀ k, k < 7 → parseFieldDescriptor (TX6 k).2.2.1 = some (tyX6 k) := by decide +kernel
abbrev cX6_init : ByteArray := prog_8_method_1_code
def yX6_init : MethodName := ⟨RX6, "<init>", "(LElevenMeasures$Tape;)V"⟩
abbrev cX6_readText : ByteArray := prog_8_method_2_code
def yX6_readText : MethodName := ⟨RX6, "readText", "()Z"⟩
abbrev cX6_isRule : ByteArray := prog_8_method_3_code
def yX6_isRule : MethodName := ⟨RX6, "isRule", "()Z"⟩
abbrev cX6_readLine : ByteArray := prog_8_method_4_code
def yX6_readLine : MethodName := ⟨RX6, "readLine", "()V"⟩
abbrev cX6_takeLetter : ByteArray := prog_8_method_5_code
def yX6_takeLetter : MethodName := ⟨RX6, "takeLetter", "(II)I"⟩
abbrev cX6_takeNumber : ByteArray := prog_8_method_6_code
def yX6_takeNumber : MethodName := ⟨RX6, "takeNumber", "(II)I"⟩
abbrev cX6_needNumber : ByteArray := prog_8_method_7_code
def yX6_needNumber : MethodName := ⟨RX6, "needNumber", "(II)I"⟩
abbrev cX6_needNew : ByteArray := prog_8_method_8_code
def yX6_needNew : MethodName := ⟨RX6, "needNew", "(II)V"⟩
abbrev cX6_takeStop : ByteArray := prog_8_method_9_code
def yX6_takeStop : MethodName := ⟨RX6, "takeStop", "(IIII)V"⟩
abbrev cX6_fail : ByteArray := prog_8_method_10_code
def yX6_fail : MethodName := ⟨RX6, "fail", "(I)V"⟩
abbrev cX6_isName : ByteArray := prog_8_method_11_code
def yX6_isName : MethodName := ⟨RX6, "isName", "(Ljava/lang/String;)Z"⟩
abbrev cX6_step : ByteArray := prog_8_method_12_code
def yX6_step : MethodName := ⟨RX6, "step", "()V"⟩
abbrev cX6_stepName : ByteArray := prog_8_method_13_code
def yX6_stepName : MethodName := ⟨RX6, "stepName", "()V"⟩
abbrev cX6_stepNumber : ByteArray := prog_8_method_14_code
def yX6_stepNumber : MethodName := ⟨RX6, "stepNumber", "()V"⟩
abbrev cX6_isLow : ByteArray := prog_8_method_15_code
def yX6_isLow : MethodName := ⟨RX6, "isLow", "(I)Z"⟩
abbrev cX6_isFigure : ByteArray := prog_8_method_16_code
def yX6_isFigure : MethodName := ⟨RX6, "isFigure", "(I)Z"⟩
def RX7 : String := "ElevenMeasures$Rules"
def TX7 : u_T := fun k => match k with
  | 0 => ("ElevenMeasures$Rules", "keys", "[I", true)
  | 1 => ("ElevenMeasures$Rules", "froms", "[I", true)
  | 2 => ("ElevenMeasures$Rules", "firsts", "[I", true)
  | 3 => ("ElevenMeasures$Rules", "seconds", "[I", true)
  | _ => ("ElevenMeasures$Rules", "lines", "I", false)
def tyX7 : Nat → FieldType := fun k => match k with
  | 0 => .array .int
  | 1 => .array .int
  | 2 => .array .int
  | 3 => .array .int
  | _ => .int
abbrev wsX70 : List Cond := u_ws RX7 TX7 5
theorem nmX7 : ∀ a, a < 5 → ∀ b, b < 5 → a ≠ b → (TX7 a).2.1 ≠ (TX7 b).2.1 := by decide +kernel
theorem tyX7_ok : ∀ k, k < 5 → parseFieldDescriptor (TX7 k).2.2.1 = some (tyX7 k) := by decide +kernel
abbrev cX7_init : ByteArray := prog_9_method_1_code
def yX7_init : MethodName := ⟨RX7, "<init>", "()V"⟩
abbrev cX7_add : ByteArray := prog_9_method_2_code
def yX7_add : MethodName := ⟨RX7, "add", "(IIII)V"⟩
abbrev cX7_become : ByteArray := prog_9_method_3_code
def yX7_become : MethodName := ⟨RX7, "become", "(LElevenMeasures$Rules;)V"⟩
abbrev cX7_isThere : ByteArray := prog_9_method_4_code
def yX7_isThere : MethodName := ⟨RX7, "isThere", "(II)Z"⟩
abbrev cX7_value : ByteArray := prog_9_method_5_code
def yX7_value : MethodName := ⟨RX7, "value", "(II)I"⟩
abbrev cX7_latest : ByteArray := prog_9_method_6_code
def yX7_latest : MethodName := ⟨RX7, "latest", "(II)I"⟩
abbrev cX7_usual : ByteArray := prog_9_method_7_code
def yX7_usual : MethodName := ⟨RX7, "usual", "(I)I"⟩
def RX8 : String := "ElevenMeasures$Sheet"
def TX8 : u_T := fun k => match k with
  | 0 => ("ElevenMeasures$Sheet", "cells", "[I", true)
  | 1 => ("ElevenMeasures$Sheet", "isThere", "Z", false)
  | 2 => ("ElevenMeasures$Sheet", "lane", "I", false)
  | _ => ("ElevenMeasures$Sheet", "size", "I", false)
def tyX8 : Nat → FieldType := fun k => match k with
  | 0 => .array .int
  | 1 => .boolean
  | 2 => .int
  | _ => .int
abbrev wsX80 : List Cond := u_ws RX8 TX8 4
theorem nmX8 : ∀ a, a < 4 → ∀ b, b < 4 → a ≠ b → (TX8 a).2.1 ≠ (TX8 b).2.1 := by decide +kernel
theorem tyX8_ok : ∀ k, k < 4 → parseFieldDescriptor (TX8 k).2.2.1 = some (tyX8 k) := by decide +kernel
abbrev cX8_init : ByteArray := prog_10_method_1_code
def yX8_init : MethodName := ⟨RX8, "<init>", "()V"⟩
abbrev cX8_renew : ByteArray := prog_10_method_2_code
def yX8_renew : MethodName := ⟨RX8, "renew", "(II)V"⟩
abbrev cX8_has : ByteArray := prog_10_method_3_code
def yX8_has : MethodName := ⟨RX8, "has", "(I)Z"⟩
abbrev cX8_put : ByteArray := prog_10_method_4_code
def yX8_put : MethodName := ⟨RX8, "put", "(II)V"⟩
abbrev cX8_refusal : ByteArray := prog_10_method_5_code
def yX8_refusal : MethodName := ⟨RX8, "refusal", "(I)I"⟩
def RX9 : String := "ElevenMeasures$Tape"
def TX9 : u_T := fun k => match k with
  | 0 => ("ElevenMeasures$Tape", "bytes", "[B", true)
  | _ => ("ElevenMeasures$Tape", "length", "I", false)
def tyX9 : Nat → FieldType := fun k => match k with
  | 0 => .array .byte
  | _ => .int
abbrev wsX90 : List Cond := u_ws RX9 TX9 2
theorem nmX9 : ∀ a, a < 2 → ∀ b, b < 2 → a ≠ b → (TX9 a).2.1 ≠ (TX9 b).2.1 := by decide +kernel
theorem tyX9_ok : ∀ k, k < 2 → parseFieldDescriptor (TX9 k).2.2.1 = some (tyX9 k) := by decide +kernel
abbrev cX9_init : ByteArray := prog_11_method_1_code
def yX9_init : MethodName := ⟨RX9, "<init>", "()V"⟩
abbrev cX9_add : ByteArray := prog_11_method_2_code
def yX9_add : MethodName := ⟨RX9, "add", "(J)Z"⟩
abbrev cX9_signAt : ByteArray := prog_11_method_3_code
def yX9_signAt : MethodName := ⟨RX9, "signAt", "(I)I"⟩
def RX10 : String := "ElevenMeasures$Telling"
def TX10 : u_T := fun k => match k with
  | 0 => ("ElevenMeasures$Telling", "isThere", "Z", false)
  | 1 => ("ElevenMeasures$Telling", "hand", "I", false)
  | 2 => ("ElevenMeasures$Telling", "measures", "[I", true)
  | 3 => ("ElevenMeasures$Telling", "misses", "[I", true)
  | 4 => ("ElevenMeasures$Telling", "order", "[I", true)
  | 5 => ("ElevenMeasures$Telling", "matches", "I", false)
  | _ => ("ElevenMeasures$Telling", "bits", "I", false)
def tyX10 : Nat → FieldType := fun k => match k with
  | 0 => .boolean
  | 1 => .int
  | 2 => .array .int
  | 3 => .array .int
  | 4 => .array .int
  | 5 => .int
  | _ => .int
abbrev wsX100 : List Cond := u_ws RX10 TX10 7
theorem nmX10 : ∀ a, a < 7 → ∀ b, b < 7 → a ≠ b → (TX10 a).2.1 ≠ (TX10 b).2.1 := by decide +kernel
theorem tyX10_ok : ∀ k, k < 7 → parseFieldDescriptor (TX10 k).2.2.1 = some (tyX10 k) := by decide +kernel
abbrev cX10_init : ByteArray := prog_12_method_1_code
def yX10_init : MethodName := ⟨RX10, "<init>", "()V"⟩
abbrev cX10_findMatches : ByteArray := prog_12_method_2_code
def yX10_findMatches : MethodName := ⟨RX10, "findMatches", "(LElevenMeasures$Cabinet;)V"⟩
abbrev cX10_insert : ByteArray := prog_12_method_3_code
def yX10_insert : MethodName := ⟨RX10, "insert", "(I)V"⟩
abbrev cX10_near : ByteArray := prog_12_method_4_code
def yX10_near : MethodName := ⟨RX10, "near", "(ILElevenMeasures$Cabinet;)I"⟩
def RX11 : String := "ElevenMeasures"
def TX11 : u_T := fun k => match k with
  | 0 => ("ElevenMeasures", "tape", "LElevenMeasures$Tape;", true)
  | 1 => ("ElevenMeasures", "rules", "LElevenMeasures$Rules;", true)
  | 2 => ("ElevenMeasures", "reader", "LElevenMeasures$Reader;", true)
  | 3 => ("ElevenMeasures", "now", "LElevenMeasures$Now;", true)
  | 4 => ("ElevenMeasures", "cabinet", "LElevenMeasures$Cabinet;", true)
  | 5 => ("ElevenMeasures", "telling", "LElevenMeasures$Telling;", true)
  | 6 => ("ElevenMeasures", "looking", "LElevenMeasures$Looking;", true)
  | 7 => ("ElevenMeasures", "men", "LElevenMeasures$Men;", true)
  | 8 => ("ElevenMeasures", "edges", "LElevenMeasures$Edges;", true)
  | 9 => ("ElevenMeasures", "sheets", "[LElevenMeasures$Sheet;", true)
  | 10 => ("ElevenMeasures", "brought", "[I", true)
  | 11 => ("ElevenMeasures", "heldBy", "[I", true)
  | 12 => ("ElevenMeasures", "heldOn", "[I", true)
  | 13 => ("ElevenMeasures", "heldHand", "[I", true)
  | 14 => ("ElevenMeasures", "heldWrong", "[Z", true)
  | 15 => ("ElevenMeasures", "holds", "I", false)
  | _ => ("ElevenMeasures", "latestTorn", "I", false)
def tyX11 : Nat → FieldType := fun k => match k with
  | 0 => .object "ElevenMeasures$Tape"
  | 1 => .object "ElevenMeasures$Rules"
  | 2 => .object "ElevenMeasures$Reader"
  | 3 => .object "ElevenMeasures$Now"
  | 4 => .object "ElevenMeasures$Cabinet"
  | 5 => .object "ElevenMeasures$Telling"
  | 6 => .object "ElevenMeasures$Looking"
  | 7 => .object "ElevenMeasures$Men"
  | 8 => .object "ElevenMeasures$Edges"
  | 9 => .array (.object "ElevenMeasures$Sheet")
  | 10 => .array .int
  | 11 => .array .int
  | 12 => .array .int
  | 13 => .array .int
  | 14 => .array .boolean
  | 15 => .int
  | _ => .int
abbrev wsX110 : List Cond := u_ws RX11 TX11 17
theorem nmX11 : ∀ a, a < 17 → ∀ b, b < 17 → a ≠ b → (TX11 a).2.1 ≠ (TX11 b).2.1 := by decide +kernel
theorem tyX11_ok : ∀ k, k < 17 → parseFieldDescriptor (TX11 k).2.2.1 = some (tyX11 k) := by decide +kernel
abbrev cX11_init : ByteArray := prog_1_method_1_code
def yX11_init : MethodName := ⟨RX11, "<init>", "()V"⟩
abbrev cX11_day : ByteArray := prog_1_method_2_code
def yX11_day : MethodName := ⟨RX11, "day", "(I)I"⟩
abbrev cX11_feed : ByteArray := prog_1_method_3_code
def yX11_feed : MethodName := ⟨RX11, "feed", "(J)I"⟩
abbrev cX11_end : ByteArray := prog_1_method_4_code
def yX11_end : MethodName := ⟨RX11, "end", "(I)I"⟩
abbrev cX11_text : ByteArray := prog_1_method_5_code
def yX11_text : MethodName := ⟨RX11, "text", "()I"⟩
abbrev cX11_fault : ByteArray := prog_1_method_6_code
def yX11_fault : MethodName := ⟨RX11, "fault", "()I"⟩
abbrev cX11_rule : ByteArray := prog_1_method_7_code
def yX11_rule : MethodName := ⟨RX11, "rule", "(II)I"⟩
abbrev cX11_card : ByteArray := prog_1_method_8_code
def yX11_card : MethodName := ⟨RX11, "card", "(IIIIIII)I"⟩
abbrev cX11_of : ByteArray := prog_1_method_9_code
def yX11_of : MethodName := ⟨RX11, "of", "(II)I"⟩
abbrev cX11_anew : ByteArray := prog_1_method_10_code
def yX11_anew : MethodName := ⟨RX11, "anew", "(III)I"⟩
abbrev cX11_known : ByteArray := prog_1_method_11_code
def yX11_known : MethodName := ⟨RX11, "known", "(III)I"⟩
abbrev cX11_file : ByteArray := prog_1_method_12_code
def yX11_file : MethodName := ⟨RX11, "file", "(I)I"⟩
abbrev cX11_out : ByteArray := prog_1_method_13_code
def yX11_out : MethodName := ⟨RX11, "out", "(I)I"⟩
abbrev cX11_drawer : ByteArray := prog_1_method_14_code
def yX11_drawer : MethodName := ⟨RX11, "drawer", "(II)I"⟩
abbrev cX11_tell : ByteArray := prog_1_method_15_code
def yX11_tell : MethodName := ⟨RX11, "tell", "(IIIII)I"⟩
abbrev cX11_chance : ByteArray := prog_1_method_16_code
def yX11_chance : MethodName := ⟨RX11, "chance", "(II)J"⟩
abbrev cX11_look : ByteArray := prog_1_method_17_code
def yX11_look : MethodName := ⟨RX11, "look", "(II)I"⟩
abbrev cX11_match : ByteArray := prog_1_method_18_code
def yX11_match : MethodName := ⟨RX11, "match", "(I)I"⟩
abbrev cX11_byChance : ByteArray := prog_1_method_19_code
def yX11_byChance : MethodName := ⟨RX11, "byChance", "(I)J"⟩
abbrev cX11_grown : ByteArray := prog_1_method_20_code
def yX11_grown : MethodName := ⟨RX11, "grown", "(III)I"⟩
abbrev cX11_beside : ByteArray := prog_1_method_21_code
def yX11_beside : MethodName := ⟨RX11, "beside", "(III)I"⟩
abbrev cX11_bar : ByteArray := prog_1_method_22_code
def yX11_bar : MethodName := ⟨RX11, "bar", "(IIZ)I"⟩
abbrev cX11_join : ByteArray := prog_1_method_23_code
def yX11_join : MethodName := ⟨RX11, "join", "(II)I"⟩
abbrev cX11_men : ByteArray := prog_1_method_24_code
def yX11_men : MethodName := ⟨RX11, "men", "(I)I"⟩
abbrev cX11_guess : ByteArray := prog_1_method_25_code
def yX11_guess : MethodName := ⟨RX11, "guess", "(III)I"⟩
abbrev cX11_even : ByteArray := prog_1_method_26_code
def yX11_even : MethodName := ⟨RX11, "even", "(III)I"⟩
abbrev cX11_judge : ByteArray := prog_1_method_27_code
def yX11_judge : MethodName := ⟨RX11, "judge", "(IIII)I"⟩
abbrev cX11_hold : ByteArray := prog_1_method_28_code
def yX11_hold : MethodName := ⟨RX11, "hold", "(I)I"⟩
abbrev cX11_held : ByteArray := prog_1_method_29_code
def yX11_held : MethodName := ⟨RX11, "held", "(II)I"⟩
abbrev cX11_wrong : ByteArray := prog_1_method_30_code
def yX11_wrong : MethodName := ⟨RX11, "wrong", "(I)I"⟩
abbrev cX11_sheet : ByteArray := prog_1_method_31_code
def yX11_sheet : MethodName := ⟨RX11, "sheet", "(III)I"⟩
abbrev cX11_lay : ByteArray := prog_1_method_32_code
def yX11_lay : MethodName := ⟨RX11, "lay", "(III)I"⟩
abbrev cX11_read : ByteArray := prog_1_method_33_code
def yX11_read : MethodName := ⟨RX11, "read", "(IIIII)I"⟩
abbrev cX11_torn : ByteArray := prog_1_method_34_code
def yX11_torn : MethodName := ⟨RX11, "torn", "()I"⟩
abbrev cX11_count : ByteArray := prog_1_method_35_code
def yX11_count : MethodName := ⟨RX11, "count", "(I)I"⟩
abbrev cX11_leaned : ByteArray := prog_1_method_36_code
def yX11_leaned : MethodName := ⟨RX11, "leaned", "(I)I"⟩
abbrev cX11_wrongHolds : ByteArray := prog_1_method_37_code
def yX11_wrongHolds : MethodName := ⟨RX11, "wrongHolds", "()I"⟩
abbrev cX11_isHold : ByteArray := prog_1_method_38_code
def yX11_isHold : MethodName := ⟨RX11, "isHold", "(I)Z"⟩
abbrev cX11_isDay : ByteArray := prog_1_method_39_code
def yX11_isDay : MethodName := ⟨RX11, "isDay", "(I)Z"⟩
abbrev cX11_isHand : ByteArray := prog_1_method_40_code
def yX11_isHand : MethodName := ⟨RX11, "isHand", "(I)Z"⟩
abbrev cX11_isMeasure : ByteArray := prog_1_method_41_code
def yX11_isMeasure : MethodName := ⟨RX11, "isMeasure", "(I)Z"⟩
abbrev cX11_isTold : ByteArray := prog_1_method_42_code
def yX11_isTold : MethodName := ⟨RX11, "isTold", "(I)Z"⟩
abbrev cX11_isShare : ByteArray := prog_1_method_43_code
def yX11_isShare : MethodName := ⟨RX11, "isShare", "(I)Z"⟩
abbrev cX11_isSheet : ByteArray := prog_1_method_44_code
def yX11_isSheet : MethodName := ⟨RX11, "isSheet", "(I)Z"⟩
abbrev cX11_isLane : ByteArray := prog_1_method_45_code
def yX11_isLane : MethodName := ⟨RX11, "isLane", "(I)Z"⟩
abbrev cX11_bit : ByteArray := prog_1_method_46_code
def yX11_bit : MethodName := ⟨RX11, "bit", "(Z)I"⟩
abbrev cX11_lowest : ByteArray := prog_1_method_47_code
def yX11_lowest : MethodName := ⟨RX11, "lowest", "(JJI)J"⟩
def RX12 : String := "ElevenMeasuresModel"
def TX12 : u_T := fun k => match k with
  | 0 => ("ElevenMeasuresModel", "now", "I", false)
  | 1 => ("ElevenMeasuresModel", "tape", "[I", true)
  | 2 => ("ElevenMeasuresModel", "taped", "I", false)
  | 3 => ("ElevenMeasuresModel", "fault", "I", false)
  | 4 => ("ElevenMeasuresModel", "wrong", "I", false)
  | 5 => ("ElevenMeasuresModel", "wrongAt", "I", false)
  | 6 => ("ElevenMeasuresModel", "at", "I", false)
  | 7 => ("ElevenMeasuresModel", "place", "I", false)
  | 8 => ("ElevenMeasuresModel", "token", "I", false)
  | 9 => ("ElevenMeasuresModel", "value", "I", false)
  | 10 => ("ElevenMeasuresModel", "ends", "[I", true)
  | 11 => ("ElevenMeasuresModel", "letters", "[I", true)
  | 12 => ("ElevenMeasuresModel", "lines", "I", false)
  | 13 => ("ElevenMeasuresModel", "lineWhat", "[I", true)
  | 14 => ("ElevenMeasuresModel", "lineOf", "[I", true)
  | 15 => ("ElevenMeasuresModel", "lineFrom", "[I", true)
  | 16 => ("ElevenMeasuresModel", "lineOne", "[I", true)
  | 17 => ("ElevenMeasuresModel", "lineTwo", "[I", true)
  | 18 => ("ElevenMeasuresModel", "newLines", "I", false)
  | 19 => ("ElevenMeasuresModel", "newWhat", "[I", true)
  | 20 => ("ElevenMeasuresModel", "newOf", "[I", true)
  | 21 => ("ElevenMeasuresModel", "newFrom", "[I", true)
  | 22 => ("ElevenMeasuresModel", "newOne", "[I", true)
  | 23 => ("ElevenMeasuresModel", "newTwo", "[I", true)
  | 24 => ("ElevenMeasuresModel", "cards", "I", false)
  | 25 => ("ElevenMeasuresModel", "handOf", "[I", true)
  | 26 => ("ElevenMeasuresModel", "kindOf", "[I", true)
  | 27 => ("ElevenMeasuresModel", "measure", "[I", true)
  | 28 => ("ElevenMeasuresModel", "measureFirst", "[I", true)
  | 29 => ("ElevenMeasuresModel", "prints", "[I", true)
  | 30 => ("ElevenMeasuresModel", "cameOn", "[I", true)
  | 31 => ("ElevenMeasuresModel", "filed", "[I", true)
  | 32 => ("ElevenMeasuresModel", "anews", "[I", true)
  | 33 => ("ElevenMeasuresModel", "anewAll", "I", false)
  | 34 => ("ElevenMeasuresModel", "anewWhich", "[I", true)
  | 35 => ("ElevenMeasuresModel", "anewTo", "[I", true)
  | 36 => ("ElevenMeasuresModel", "anewOn", "[I", true)
  | 37 => ("ElevenMeasuresModel", "bars", "[Z", true)
  | 38 => ("ElevenMeasuresModel", "barAll", "I", false)
  | 39 => ("ElevenMeasuresModel", "tellHand", "I", false)
  | 40 => ("ElevenMeasuresModel", "told", "[I", true)
  | 41 => ("ElevenMeasuresModel", "thirds", "[I", true)
  | 42 => ("ElevenMeasuresModel", "thirdAll", "[I", true)
  | 43 => ("ElevenMeasuresModel", "lookMany", "I", false)
  | 44 => ("ElevenMeasuresModel", "lookAt", "[I", true)
  | 45 => ("ElevenMeasuresModel", "lookSome", "I", false)
  | 46 => ("ElevenMeasuresModel", "tried", "[I", true)
  | 47 => ("ElevenMeasuresModel", "triedSpread", "I", false)
  | 48 => ("ElevenMeasuresModel", "man", "[I", true)
  | 49 => ("ElevenMeasuresModel", "taken", "I", false)
  | 50 => ("ElevenMeasuresModel", "uneven", "I", false)
  | 51 => ("ElevenMeasuresModel", "nearEdge", "I", false)
  | 52 => ("ElevenMeasuresModel", "holds", "I", false)
  | 53 => ("ElevenMeasuresModel", "holdCard", "[I", true)
  | 54 => ("ElevenMeasuresModel", "holdDay", "[I", true)
  | 55 => ("ElevenMeasuresModel", "holdHand", "[I", true)
  | 56 => ("ElevenMeasuresModel", "holdWrong", "[I", true)
  | 57 => ("ElevenMeasuresModel", "lanes", "[I", true)
  | 58 => ("ElevenMeasuresModel", "lengths", "[I", true)
  | 59 => ("ElevenMeasuresModel", "cells", "[I", true)
  | 60 => ("ElevenMeasuresModel", "torn", "I", false)
  | _ => ("ElevenMeasuresModel", "read", "[I", true)
def tyX12 : Nat → FieldType := fun k => match k with
  | 0 => .int
  | 1 => .array .int
  | 2 => .int
  | 3 => .int
  | 4 => .int
  | 5 => .int
  | 6 => .int
  | 7 => .int
  | 8 => .int
  | 9 => .int
  | 10 => .array .int
  | 11 => .array .int
  | 12 => .int
  | 13 => .array .int
  | 14 => .array .int
  | 15 => .array .int
  | 16 => .array .int
  | 17 => .array .int
  | 18 => .int
  | 19 => .array .int
  | 20 => .array .int
  | 21 => .array .int
  | 22 => .array .int
  | 23 => .array .int
  | 24 => .int
  | 25 => .array .int
  | 26 => .array .int
  | 27 => .array .int
  | 28 => .array .int
  | 29 => .array .int
  | 30 => .array .int
  | 31 => .array .int
  | 32 => .array .int
  | 33 => .int
  | 34 => .array .int
  | 35 => .array .int
  | 36 => .array .int
  | 37 => .array .boolean
  | 38 => .int
  | 39 => .int
  | 40 => .array .int
  | 41 => .array .int
  | 42 => .array .int
  | 43 => .int
  | 44 => .array .int
  | 45 => .int
  | 46 => .array .int
  | 47 => .int
  | 48 => .array .int
  | 49 => .int
  | 50 => .int
  | 51 => .int
  | 52 => .int
  | 53 => .array .int
  | 54 => .array .int
  | 55 => .array .int
  | 56 => .array .int
  | 57 => .array .int
  | 58 => .array .int
  | 59 => .array .int
  | 60 => .int
  | _ => .array .int
abbrev wsX120 : List Cond := u_ws RX12 TX12 62
theorem nmX12 : ∀ a, a < 62 → ∀ b, b < 62 → a ≠ b → (TX12 a).2.1 ≠ (TX12 b).2.1 := by decide +kernel
theorem tyX12_ok : ∀ k, k < 62 → parseFieldDescriptor (TX12 k).2.2.1 = some (tyX12 k) := by decide +kernel
abbrev cX12_init : ByteArray := prog_14_method_1_code
def yX12_init : MethodName := ⟨RX12, "<init>", "()V"⟩
abbrev cX12_in : ByteArray := prog_14_method_3_code
def yX12_in : MethodName := ⟨RX12, "in", "(JJJ)Z"⟩
abbrev cX12_day : ByteArray := prog_14_method_4_code
def yX12_day : MethodName := ⟨RX12, "day", "(I)I"⟩
abbrev cX12_feed : ByteArray := prog_14_method_5_code
def yX12_feed : MethodName := ⟨RX12, "feed", "(J)I"⟩
abbrev cX12_end : ByteArray := prog_14_method_6_code
def yX12_end : MethodName := ⟨RX12, "end", "(I)I"⟩
abbrev cX12_byteAt : ByteArray := prog_14_method_7_code
def yX12_byteAt : MethodName := ⟨RX12, "byteAt", "(I)I"⟩
abbrev cX12_fails : ByteArray := prog_14_method_8_code
def yX12_fails : MethodName := ⟨RX12, "fails", "(I)V"⟩
abbrev cX12_next : ByteArray := prog_14_method_9_code
def yX12_next : MethodName := ⟨RX12, "next", "()V"⟩
abbrev cX12_nameHere : ByteArray := prog_14_method_10_code
def yX12_nameHere : MethodName := ⟨RX12, "nameHere", "()I"⟩
abbrev cX12_number : ByteArray := prog_14_method_11_code
def yX12_number : MethodName := ⟨RX12, "number", "(II)I"⟩
abbrev cX12_once : ByteArray := prog_14_method_12_code
def yX12_once : MethodName := ⟨RX12, "once", "(III)V"⟩
abbrev cX12_readOf : ByteArray := prog_14_method_13_code
def yX12_readOf : MethodName := ⟨RX12, "readOf", "(II)I"⟩
abbrev cX12_readLine : ByteArray := prog_14_method_14_code
def yX12_readLine : MethodName := ⟨RX12, "readLine", "()V"⟩
abbrev cX12_text : ByteArray := prog_14_method_15_code
def yX12_text : MethodName := ⟨RX12, "text", "()I"⟩
abbrev cX12_fault : ByteArray := prog_14_method_16_code
def yX12_fault : MethodName := ⟨RX12, "fault", "()I"⟩
abbrev cX12_lineAt : ByteArray := prog_14_method_17_code
def yX12_lineAt : MethodName := ⟨RX12, "lineAt", "(III)I"⟩
abbrev cX12_holdsThen : ByteArray := prog_14_method_18_code
def yX12_holdsThen : MethodName := ⟨RX12, "holdsThen", "(IIII)I"⟩
abbrev cX12_firstEdge : ByteArray := prog_14_method_19_code
def yX12_firstEdge : MethodName := ⟨RX12, "firstEdge", "(II)I"⟩
abbrev cX12_secondEdge : ByteArray := prog_14_method_20_code
def yX12_secondEdge : MethodName := ⟨RX12, "secondEdge", "(II)I"⟩
abbrev cX12_spreadOf : ByteArray := prog_14_method_21_code
def yX12_spreadOf : MethodName := ⟨RX12, "spreadOf", "(II)I"⟩
abbrev cX12_growOf : ByteArray := prog_14_method_22_code
def yX12_growOf : MethodName := ⟨RX12, "growOf", "(II)I"⟩
abbrev cX12_rule : ByteArray := prog_14_method_23_code
def yX12_rule : MethodName := ⟨RX12, "rule", "(II)I"⟩
abbrev cX12_isCard : ByteArray := prog_14_method_24_code
def yX12_isCard : MethodName := ⟨RX12, "isCard", "(I)Z"⟩
abbrev cX12_isMeasure : ByteArray := prog_14_method_25_code
def yX12_isMeasure : MethodName := ⟨RX12, "isMeasure", "(I)Z"⟩
abbrev cX12_isOut : ByteArray := prog_14_method_26_code
def yX12_isOut : MethodName := ⟨RX12, "isOut", "(I)Z"⟩
abbrev cX12_thirdOf : ByteArray := prog_14_method_27_code
def yX12_thirdOf : MethodName := ⟨RX12, "thirdOf", "(III)I"⟩
abbrev cX12_drawerOf : ByteArray := prog_14_method_28_code
def yX12_drawerOf : MethodName := ⟨RX12, "drawerOf", "(I)I"⟩
abbrev cX12_addCard : ByteArray := prog_14_method_29_code
def yX12_addCard : MethodName := ⟨RX12, "addCard", "(IIIIIII)V"⟩
abbrev cX12_card : ByteArray := prog_14_method_30_code
def yX12_card : MethodName := ⟨RX12, "card", "(IIIIIII)I"⟩
abbrev cX12_isDue : ByteArray := prog_14_method_31_code
def yX12_isDue : MethodName := ⟨RX12, "isDue", "(I)Z"⟩
abbrev cX12_spreadAt : ByteArray := prog_14_method_32_code
def yX12_spreadAt : MethodName := ⟨RX12, "spreadAt", "(I)I"⟩
abbrev cX12_of : ByteArray := prog_14_method_33_code
def yX12_of : MethodName := ⟨RX12, "of", "(II)I"⟩
abbrev cX12_anew : ByteArray := prog_14_method_34_code
def yX12_anew : MethodName := ⟨RX12, "anew", "(III)I"⟩
abbrev cX12_known : ByteArray := prog_14_method_35_code
def yX12_known : MethodName := ⟨RX12, "known", "(III)I"⟩
abbrev cX12_file : ByteArray := prog_14_method_36_code
def yX12_file : MethodName := ⟨RX12, "file", "(I)I"⟩
abbrev cX12_out : ByteArray := prog_14_method_37_code
def yX12_out : MethodName := ⟨RX12, "out", "(I)I"⟩
abbrev cX12_drawer : ByteArray := prog_14_method_38_code
def yX12_drawer : MethodName := ⟨RX12, "drawer", "(II)I"⟩
abbrev cX12_tell : ByteArray := prog_14_method_39_code
def yX12_tell : MethodName := ⟨RX12, "tell", "(IIIII)I"⟩
abbrev cX12_layThirds : ByteArray := prog_14_method_40_code
def yX12_layThirds : MethodName := ⟨RX12, "layThirds", "()V"⟩
abbrev cX12_chanceOf : ByteArray := prog_14_method_41_code
def yX12_chanceOf : MethodName := ⟨RX12, "chanceOf", "(I)I"⟩
abbrev cX12_lowest : ByteArray := prog_14_method_42_code
def yX12_lowest : MethodName := ⟨RX12, "lowest", "(JJI)J"⟩
abbrev cX12_chance : ByteArray := prog_14_method_43_code
def yX12_chance : MethodName := ⟨RX12, "chance", "(II)J"⟩
abbrev cX12_layLook : ByteArray := prog_14_method_44_code
def yX12_layLook : MethodName := ⟨RX12, "layLook", "(I)V"⟩
abbrev cX12_isLooked : ByteArray := prog_14_method_45_code
def yX12_isLooked : MethodName := ⟨RX12, "isLooked", "(I)Z"⟩
abbrev cX12_look : ByteArray := prog_14_method_46_code
def yX12_look : MethodName := ⟨RX12, "look", "(II)I"⟩
abbrev cX12_grownOf : ByteArray := prog_14_method_47_code
def yX12_grownOf : MethodName := ⟨RX12, "grownOf", "(III)I"⟩
abbrev cX12_grown : ByteArray := prog_14_method_48_code
def yX12_grown : MethodName := ⟨RX12, "grown", "(III)I"⟩
abbrev cX12_tryTelling : ByteArray := prog_14_method_49_code
def yX12_tryTelling : MethodName := ⟨RX12, "tryTelling", "()V"⟩
abbrev cX12_tryCard : ByteArray := prog_14_method_50_code
def yX12_tryCard : MethodName := ⟨RX12, "tryCard", "(I)V"⟩
abbrev cX12_missOf : ByteArray := prog_14_method_51_code
def yX12_missOf : MethodName := ⟨RX12, "missOf", "(I)I"⟩
abbrev cX12_matches : ByteArray := prog_14_method_52_code
def yX12_matches : MethodName := ⟨RX12, "matches", "()I"⟩
abbrev cX12_sizeOf : ByteArray := prog_14_method_53_code
def yX12_sizeOf : MethodName := ⟨RX12, "sizeOf", "(I)I"⟩
abbrev cX12_matchAt : ByteArray := prog_14_method_54_code
def yX12_matchAt : MethodName := ⟨RX12, "matchAt", "(II)I"⟩
abbrev cX12_match : ByteArray := prog_14_method_55_code
def yX12_match : MethodName := ⟨RX12, "match", "(I)I"⟩
abbrev cX12_byChance : ByteArray := prog_14_method_56_code
def yX12_byChance : MethodName := ⟨RX12, "byChance", "(I)J"⟩
abbrev cX12_onesOf : ByteArray := prog_14_method_57_code
def yX12_onesOf : MethodName := ⟨RX12, "onesOf", "(I)I"⟩
abbrev cX12_beside : ByteArray := prog_14_method_58_code
def yX12_beside : MethodName := ⟨RX12, "beside", "(III)I"⟩
abbrev cX12_bar : ByteArray := prog_14_method_59_code
def yX12_bar : MethodName := ⟨RX12, "bar", "(IIZ)I"⟩
abbrev cX12_doJoin : ByteArray := prog_14_method_60_code
def yX12_doJoin : MethodName := ⟨RX12, "doJoin", "(II)Z"⟩
abbrev cX12_join : ByteArray := prog_14_method_61_code
def yX12_join : MethodName := ⟨RX12, "join", "(II)I"⟩
abbrev cX12_layMen : ByteArray := prog_14_method_62_code
def yX12_layMen : MethodName := ⟨RX12, "layMen", "()V"⟩
abbrev cX12_men : ByteArray := prog_14_method_63_code
def yX12_men : MethodName := ⟨RX12, "men", "(I)I"⟩
abbrev cX12_guess : ByteArray := prog_14_method_64_code
def yX12_guess : MethodName := ⟨RX12, "guess", "(III)I"⟩
abbrev cX12_judgeEdges : ByteArray := prog_14_method_65_code
def yX12_judgeEdges : MethodName := ⟨RX12, "judgeEdges", "(III)V"⟩
abbrev cX12_even : ByteArray := prog_14_method_66_code
def yX12_even : MethodName := ⟨RX12, "even", "(III)I"⟩
abbrev cX12_judge : ByteArray := prog_14_method_67_code
def yX12_judge : MethodName := ⟨RX12, "judge", "(IIII)I"⟩
abbrev cX12_hold : ByteArray := prog_14_method_68_code
def yX12_hold : MethodName := ⟨RX12, "hold", "(I)I"⟩
abbrev cX12_leaned : ByteArray := prog_14_method_69_code
def yX12_leaned : MethodName := ⟨RX12, "leaned", "(I)I"⟩
abbrev cX12_held : ByteArray := prog_14_method_70_code
def yX12_held : MethodName := ⟨RX12, "held", "(II)I"⟩
abbrev cX12_wrong : ByteArray := prog_14_method_71_code
def yX12_wrong : MethodName := ⟨RX12, "wrong", "(I)I"⟩
abbrev cX12_sheet : ByteArray := prog_14_method_72_code
def yX12_sheet : MethodName := ⟨RX12, "sheet", "(III)I"⟩
abbrev cX12_lay : ByteArray := prog_14_method_73_code
def yX12_lay : MethodName := ⟨RX12, "lay", "(III)I"⟩
abbrev cX12_read : ByteArray := prog_14_method_74_code
def yX12_read : MethodName := ⟨RX12, "read", "(IIIII)I"⟩
abbrev cX12_torn : ByteArray := prog_14_method_75_code
def yX12_torn : MethodName := ⟨RX12, "torn", "()I"⟩
abbrev cX12_count : ByteArray := prog_14_method_76_code
def yX12_count : MethodName := ⟨RX12, "count", "(I)I"⟩
def RJ6 : String := "java/lang/Integer"
def TJ6 : u_T := fun k => match k with
  | _ => ("", "", "", false)
def tyJ6 : Nat → FieldType := fun k => match k with
  | _ => .int
abbrev wsJ60 : List Cond := u_ws RJ6 TJ6 0
theorem nmJ6 : ∀ a, a < 0 → ∀ b, b < 0 → a ≠ b → (TJ6 a).2.1 ≠ (TJ6 b).2.1 := by decide +kernel
theorem tyJ6_ok : ∀ k, k < 0 → parseFieldDescriptor (TJ6 k).2.2.1 = some (tyJ6 k) := by decide +kernel
abbrev cJ6_bitCount_0f7a4 : ByteArray := prog_15_method_49_code
def yJ6_bitCount_0f7a4 : MethodName := ⟨RJ6, "bitCount", "(I)I"⟩
def RJ9 : String := "java/lang/Math"
def TJ9 : u_T := fun k => match k with
  | _ => ("", "", "", false)
def tyJ9 : Nat → FieldType := fun k => match k with
  | _ => .int
abbrev wsJ90 : List Cond := u_ws RJ9 TJ9 0
theorem nmJ9 : ∀ a, a < 0 → ∀ b, b < 0 → a ≠ b → (TJ9 a).2.1 ≠ (TJ9 b).2.1 := by decide +kernel
theorem tyJ9_ok : ∀ k, k < 0 → parseFieldDescriptor (TJ9 k).2.2.1 = some (tyJ9 k) := by decide +kernel
abbrev cJ9_abs_0f7a4 : ByteArray := prog_16_method_59_code
def yJ9_abs_0f7a4 : MethodName := ⟨RJ9, "abs", "(I)I"⟩
abbrev cJ9_max_7cf53 : ByteArray := prog_16_method_65_code
def yJ9_max_7cf53 : MethodName := ⟨RJ9, "max", "(II)I"⟩
abbrev cJ9_min_7cf53 : ByteArray := prog_16_method_69_code
def yJ9_min_7cf53 : MethodName := ⟨RJ9, "min", "(II)I"⟩
def RJ0 : String := "java/lang/String"
def TJ0 : u_T := fun k => match k with
  | _ => ("", "", "", false)
def tyJ0 : Nat → FieldType := fun k => match k with
  | _ => .int
abbrev wsJ00 : List Cond := u_ws RJ0 TJ0 0
theorem nmJ0 : ∀ a, a < 0 → ∀ b, b < 0 → a ≠ b → (TJ0 a).2.1 ≠ (TJ0 b).2.1 := by decide +kernel
theorem tyJ0_ok : ∀ k, k < 0 → parseFieldDescriptor (TJ0 k).2.2.1 = some (tyJ0 k) := by decide +kernel
abbrev cJ0_length_8abf5 : ByteArray := prog_17_method_54_code
def yJ0_length_8abf5 : MethodName := ⟨RJ0, "length", "()I"⟩
abbrev cJ0_charAt_5068e : ByteArray := prog_17_method_56_code
def yJ0_charAt_5068e : MethodName := ⟨RJ0, "charAt", "(I)C"⟩
abbrev cJ0_coder_7d493 : ByteArray := prog_17_method_152_code
def yJ0_coder_7d493 : MethodName := ⟨RJ0, "coder", "()B"⟩
abbrev cJ0_isLatin1_aae02 : ByteArray := prog_17_method_154_code
def yJ0_isLatin1_aae02 : MethodName := ⟨RJ0, "isLatin1", "()Z"⟩
abbrev cJ0_checkIndex_df160 : ByteArray := prog_17_method_155_code
def yJ0_checkIndex_df160 : MethodName := ⟨RJ0, "checkIndex", "(II)V"⟩
def RJ1 : String := "java/lang/StringLatin1"
def TJ1 : u_T := fun k => match k with
  | _ => ("", "", "", false)
def tyJ1 : Nat → FieldType := fun k => match k with
  | _ => .int
abbrev wsJ10 : List Cond := u_ws RJ1 TJ1 0
theorem nmJ1 : ∀ a, a < 0 → ∀ b, b < 0 → a ≠ b → (TJ1 a).2.1 ≠ (TJ1 b).2.1 := by decide +kernel
theorem tyJ1_ok : ∀ k, k < 0 → parseFieldDescriptor (TJ1 k).2.2.1 = some (tyJ1 k) := by decide +kernel
abbrev cJ1_charAt_3b067 : ByteArray := prog_18_method_2_code
def yJ1_charAt_3b067 : MethodName := ⟨RJ1, "charAt", "([BI)C"⟩
def RJ2 : String := "java/lang/StringUTF16"
def TJ2 : u_T := fun k => match k with
  | _ => ("", "", "", false)
def tyJ2 : Nat → FieldType := fun k => match k with
  | _ => .int
abbrev wsJ20 : List Cond := u_ws RJ2 TJ2 0
theorem nmJ2 : ∀ a, a < 0 → ∀ b, b < 0 → a ≠ b → (TJ2 a).2.1 ≠ (TJ2 b).2.1 := by decide +kernel
theorem tyJ2_ok : ∀ k, k < 0 → parseFieldDescriptor (TJ2 k).2.2.1 = some (tyJ2 k) := by decide +kernel
abbrev cJ2_getChar_3b067 : ByteArray := prog_19_method_5_code
def yJ2_getChar_3b067 : MethodName := ⟨RJ2, "getChar", "([BI)C"⟩
abbrev cJ2_length_9d52b : ByteArray := prog_19_method_6_code
def yJ2_length_9d52b : MethodName := ⟨RJ2, "length", "([B)I"⟩
abbrev cJ2_charAt_3b067 : ByteArray := prog_19_method_83_code
def yJ2_charAt_3b067 : MethodName := ⟨RJ2, "charAt", "([BI)C"⟩
abbrev cJ2_checkIndex_2214a : ByteArray := prog_19_method_91_code
def yJ2_checkIndex_2214a : MethodName := ⟨RJ2, "checkIndex", "(I[B)V"⟩
def RJ3 : String := "jdk/internal/util/Preconditions"
def TJ3 : u_T := fun k => match k with
  | _ => ("", "", "", false)
def tyJ3 : Nat → FieldType := fun k => match k with
  | _ => .int
abbrev wsJ30 : List Cond := u_ws RJ3 TJ3 0
theorem nmJ3 : ∀ a, a < 0 → ∀ b, b < 0 → a ≠ b → (TJ3 a).2.1 ≠ (TJ3 b).2.1 := by decide +kernel
theorem tyJ3_ok : ∀ k, k < 0 → parseFieldDescriptor (TJ3 k).2.2.1 = some (tyJ3 k) := by decide +kernel
abbrev cJ3_checkIndex_8e157 : ByteArray := prog_20_method_11_code
def yJ3_checkIndex_8e157 : MethodName := ⟨RJ3, "checkIndex", "(IILjava/util/function/BiFunction;)I"⟩
def RL : String := "ElevenMeasuresLaw"
abbrev cL_law : ByteArray := code
def yL_law : MethodName := ⟨RL, "law", "([I)Z"⟩
abbrev vwCl : List vw_C := [(RX0, TX0, 10), (RX1, TX1, 8), (RX2, TX2, 7), (RX3, TX3, 6), (RX4, TX4, 4), (RX5, TX5, 3), (RX6, TX6, 7), (RX7, TX7, 5), (RX8, TX8, 4), (RX9, TX9, 2), (RX10, TX10, 7), (RX11, TX11, 17), (RX12, TX12, 62)]
end
section
/-! THE STATIC PICTURE. Both objects make all their cells in their constructors; cell j of the picture lies at base + j. Contents: a function Mem of cell and place, in whole numbers. -/
theorem blt_lt {a b : Nat} (h : Nat.blt a b = true) : a < b := Nat.le_of_ble_eq_true h
theorem big_flt {w : Cond} {i : Nat} (h : lw_tbl[i]? = some w) (g : goodWord w = true) : w ∈ lw_tbl.filter goodWord := List.mem_filter.mpr ⟨List.mem_of_getElem? h, g⟩
def BIG : List Cond := lw_tbl.filter goodWord
theorem big_in {w : Cond} {i : Nat} (h : lw_tbl[i]? = some w) (g : goodWord w = true) : w ∈ BIG := big_flt h g
theorem big_1 {w : Cond} {i : Nat} (h : tables_1_1[i]? = some w) (g : goodWord w = true) : w ∈ BIG := List.mem_filter.mpr ⟨List.mem_append_right _ (List.mem_append_left _ (List.mem_of_getElem? h)), g⟩
theorem big_2 {w : Cond} {i : Nat} (h : tables_1_2[i]? = some w) (g : goodWord w = true) : w ∈ BIG := List.mem_filter.mpr ⟨List.mem_append_right _ (List.mem_append_right _ (List.mem_append_left _ (List.mem_of_getElem? h))), g⟩
theorem big_3 {w : Cond} {i : Nat} (h : tables_1_3[i]? = some w) (g : goodWord w = true) : w ∈ BIG := List.mem_filter.mpr ⟨List.mem_append_right _ (List.mem_append_right _ (List.mem_append_right _ (List.mem_append_left _ (List.mem_of_getElem? h)))), g⟩
theorem big_4 {w : Cond} {i : Nat} (h : tables_1_4[i]? = some w) (g : goodWord w = true) : w ∈ BIG := List.mem_filter.mpr ⟨List.mem_append_right _ (List.mem_append_right _ (List.mem_append_right _ (List.mem_append_right _ (List.mem_append_left _ (List.mem_of_getElem? h))))), g⟩
theorem big_5 {w : Cond} {i : Nat} (h : tables_1_5[i]? = some w) (g : goodWord w = true) : w ∈ BIG := List.mem_filter.mpr ⟨List.mem_append_right _ (List.mem_append_right _ (List.mem_append_right _ (List.mem_append_right _ (List.mem_append_right _ (List.mem_append_left _ (List.mem_of_getElem? h)))))), g⟩
theorem big_6 {w : Cond} {i : Nat} (h : tables_1_6[i]? = some w) (g : goodWord w = true) : w ∈ BIG := List.mem_filter.mpr ⟨List.mem_append_right _ (List.mem_append_right _ (List.mem_append_right _ (List.mem_append_right _ (List.mem_append_right _ (List.mem_append_right _ (List.mem_append_left _ (List.mem_of_getElem? h))))))), g⟩
theorem big_7 {w : Cond} {i : Nat} (h : tables_1_7[i]? = some w) (g : goodWord w = true) : w ∈ BIG := List.mem_filter.mpr ⟨List.mem_append_right _ (List.mem_append_right _ (List.mem_append_right _ (List.mem_append_right _ (List.mem_append_right _ (List.mem_append_right _ (List.mem_append_right _ (List.mem_of_getElem? h))))))), g⟩
theorem big_ws {ws : List Cond} (ps : List Nat) (h : ps.map (fun i => lw_tbl[i]?) = ws.map some) (g : ws.all goodWord = true) : ∀ w ∈ ws, w ∈ BIG := by
  intro w hw
  have h1 : some w ∈ ps.map (fun i => lw_tbl[i]?) := by rw [h]; exact List.mem_map.mpr ⟨w, hw, rfl⟩
  obtain ⟨i, -, hi⟩ := List.mem_map.mp h1
  exact big_flt hi (List.all_eq_true.mp g w hw)
theorem big_good : ∀ w ∈ BIG, (w.onTables && w.keeps) = true ∨ ∃ ty, w = .arrayClass ty := fun w hw => good_of_word (List.mem_filter.mp hw).2
theorem big_tbl : ∀ w ∈ BIG, w ∈ lw_tbl := fun w hw => (List.mem_filter.mp hw).1
def FL (own : String) (idx ci N k : Nat) : Prop := ∃ (C : String) (T : u_T), vwCl[ci]? = some (C, T, N) ∧ k < N ∧ (∀ w ∈ u_ws C T N, w ∈ BIG) ∧ Cond.fieldLink own idx C (T k).2.1 (T k).2.2.1 ∈ BIG ∧ (T k).1 = C
def FP (ci N k : Nat) (ty : FieldType) : Prop := ∃ (C : String) (T : u_T) (t0 : Nat → FieldType), vwCl[ci]? = some (C, T, N) ∧ (∀ k, k < N → parseFieldDescriptor (T k).2.2.1 = some (t0 k)) ∧ (∀ a, a < N → ∀ b, b < N → a ≠ b → (T a).2.1 ≠ (T b).2.1) ∧ t0 k = ty ∧ (T k).2.2.2 = false
def ME (C : String) (y : MethodName) (cc : ByteArray) (nL : Nat) (ret : Option FieldType) : Prop := y.cls = C ∧ Cond.instanceMethod y ∈ BIG ∧ Cond.selects C y y ∈ BIG ∧ Cond.initialized C ∈ BIG ∧ Cond.code y cc nL ret ∈ BIG
def MS (y : MethodName) (cc : ByteArray) (nL : Nat) (ret : Option FieldType) : Prop := Cond.static y ∈ BIG ∧ Cond.initialized y.cls ∈ BIG ∧ Cond.code y cc nL ret ∈ BIG
-- numbers
abbrev Mem : Type := Nat → Nat → Int
abbrev inR (x : Int) : Prop := -2147483648 ≤ x ∧ x ≤ 2147483647
abbrev inL (x : Int) : Prop := -9223372036854775808 ≤ x ∧ x ≤ 9223372036854775807
def mset (σ : Mem) (j k : Nat) (v : Int) : Mem := fun a b => if a = j ∧ b = k then v else σ a b
def WF (σ : Mem) : Prop := ∀ j k, inR (σ j k)
abbrev vI (x : Int) : Value := .int (Int32.ofInt x)
abbrev vL (x : Int) : Value := .long (Int64.ofInt x)
theorem r_lit {x : Int} (h : (decide (-2147483648 ≤ x) && decide (x ≤ 2147483647)) = true) : inR x := by simpa using h
theorem l_of_r {x : Int} (h : inR x) : inL x := ⟨Int.le_trans (by decide) h.1, Int.le_trans h.2 (by decide)⟩
theorem mset_wf {σ : Mem} {j k : Nat} {v : Int} (h : WF σ) (hv : inR v) : WF (mset σ j k v) := by
  intro a b
  show inR (if a = j ∧ b = k then v else σ a b)
  by_cases q : a = j ∧ b = k
  · rw [if_pos q]; exact hv
  · rw [if_neg q]; exact h a b
theorem q_toInt {x : Int} (h : inR x) : (Int32.ofInt x).toInt = x := Int32.toInt_ofInt_of_le (by have := h.1; omega) (by have := h.2; omega)
theorem q_toIntL {x : Int} (h : inL x) : (Int64.ofInt x).toInt = x := Int64.toInt_ofInt_of_le (by have := h.1; omega) (by have := h.2; omega)
theorem q_rng (x : Int32) : inR x.toInt := ⟨by have := x.le_toInt; omega, by have := x.toInt_lt; omega⟩
theorem q_rngL (x : Int64) : inL x.toInt := ⟨by have := x.le_toInt; omega, by have := x.toInt_lt; omega⟩
theorem q_lt {x y : Int} (hx : inR x) (hy : inR y) : Int32.ofInt x < Int32.ofInt y ↔ x < y := by rw [Int32.lt_iff_toInt_lt, q_toInt hx, q_toInt hy]
theorem q_le {x y : Int} (hx : inR x) (hy : inR y) : Int32.ofInt x ≤ Int32.ofInt y ↔ x ≤ y := by rw [Int32.le_iff_toInt_le, q_toInt hx, q_toInt hy]
theorem q_eq {x y : Int} (hx : inR x) (hy : inR y) : Int32.ofInt x = Int32.ofInt y ↔ x = y := ⟨fun h => by rw [← q_toInt hx, ← q_toInt hy, h], fun h => by rw [h]⟩
theorem q_ltL {x y : Int} (hx : inL x) (hy : inL y) : Int64.ofInt x < Int64.ofInt y ↔ x < y := by rw [Int64.lt_iff_toInt_lt, q_toIntL hx, q_toIntL hy]
theorem q_eqL {x y : Int} (hx : inL x) (hy : inL y) : Int64.ofInt x = Int64.ofInt y ↔ x = y := ⟨fun h => by rw [← q_toIntL hx, ← q_toIntL hy, h], fun h => by rw [h]⟩
def iand (x y : Int) : Int := (Int32.ofInt x &&& Int32.ofInt y).toInt
def ior (x y : Int) : Int := (Int32.ofInt x ||| Int32.ofInt y).toInt
def ixor (x y : Int) : Int := (Int32.ofInt x ^^^ Int32.ofInt y).toInt
def ishl (x y : Int) : Int := (Int32.ofInt x <<< (Int32.ofInt y &&& 31)).toInt
def ishr (x y : Int) : Int := (Int32.ofInt x >>> (Int32.ofInt y &&& 31)).toInt
def ldand (x y : Int) : Int := (Int64.ofInt x &&& Int64.ofInt y).toInt
def lshrI (x y : Int) : Int := (Int64.ofInt x >>> ((Int32.ofInt y).toInt64 &&& 63)).toInt
def l2iI (x : Int) : Int := (Int64.ofInt x).toInt32.toInt
def i2bI (x : Int) : Int := (Int32.ofInt x).toInt8.toInt32.toInt
def i2sI (x : Int) : Int := (Int32.ofInt x).toInt16.toInt32.toInt
def lcmpI (x y : Int) : Int := if y < x then 1 else if x = y then 0 else -1
theorem q_div {x y : Int} (hx : inR x) (hy : inR y) : Int32.ofInt x / Int32.ofInt y = Int32.ofInt (Int.tdiv x y) := by
  apply Int32.toInt_inj.mp
  rw [Int32.toInt_div, q_toInt hx, q_toInt hy, Int32.toInt_ofInt]
theorem q_rem {x y : Int} (hx : inR x) (hy : inR y) : Int32.ofInt x - Int32.ofInt x / Int32.ofInt y * Int32.ofInt y = Int32.ofInt (Int.tmod x y) := by
  rw [q_div hx hy, ← Int32.ofInt_mul, ← Int32.ofInt_sub]
  congr 1
  have := Int.tmod_add_mul_tdiv x y
  have e : x.tdiv y * y = y * x.tdiv y := Int.mul_comm _ _
  omega
theorem q_divL {x y : Int} (hx : inL x) (hy : inL y) : Int64.ofInt x / Int64.ofInt y = Int64.ofInt (Int.tdiv x y) := by
  apply Int64.toInt_inj.mp
  rw [Int64.toInt_div, q_toIntL hx, q_toIntL hy, Int64.toInt_ofInt]
theorem q_remL {x y : Int} (hx : inL x) (hy : inL y) : Int64.ofInt x - Int64.ofInt x / Int64.ofInt y * Int64.ofInt y = Int64.ofInt (Int.tmod x y) := by
  rw [q_divL hx hy, ← Int64.ofInt_mul, ← Int64.ofInt_sub]
  congr 1
  have := Int.tmod_add_mul_tdiv x y
  have e : x.tdiv y * y = y * x.tdiv y := Int.mul_comm _ _
  omega
theorem q_i2l {x : Int} (hx : inR x) : (Int32.ofInt x).toInt64 = Int64.ofInt x := by
  apply Int64.toInt_inj.mp
  rw [Int32.toInt_toInt64, q_toInt hx, q_toIntL (l_of_r hx)]
theorem q_cmp {x y : Int} (hx : inL x) (hy : inL y) : lg_cmp (Int64.ofInt x) (Int64.ofInt y) = Int32.ofInt (lcmpI x y) := by
  unfold lcmpI
  by_cases h1 : y < x
  · rw [if_pos h1]; unfold lg_cmp; rw [if_pos ((q_ltL hy hx).mpr h1)]; rfl
  · rw [if_neg h1]
    unfold lg_cmp
    rw [if_neg (fun q => h1 ((q_ltL hy hx).mp q))]
    by_cases h2 : x = y
    · rw [if_pos h2, if_pos (by rw [h2])]; rfl
    · rw [if_neg h2, if_neg (fun q => h2 ((q_eqL hx hy).mp q))]; rfl
theorem q_bip {n : Int} (h : (decide (-128 ≤ n) && decide (n ≤ 127)) = true) : (Int8.ofInt n).toInt32 = Int32.ofInt n := by
  simp only [Bool.and_eq_true, decide_eq_true_eq] at h
  apply Int32.toInt_inj.mp
  rw [q_toInt ⟨by omega, by omega⟩, Int8.toInt_toInt32, Int8.toInt_ofInt_of_le (by omega) (by omega)]
theorem q_sip {n : Int} (h : (decide (-32768 ≤ n) && decide (n ≤ 32767)) = true) : (Int16.ofInt n).toInt32 = Int32.ofInt n := by
  simp only [Bool.and_eq_true, decide_eq_true_eq] at h
  apply Int32.toInt_inj.mp
  rw [q_toInt ⟨by omega, by omega⟩, Int16.toInt_toInt32, Int16.toInt_ofInt_of_le (by omega) (by omega)]
theorem q_in {x : Int} {n : Nat} (hn : n < 2147483648) (h0 : 0 ≤ x) (h1 : x < n) : vp_in (Int32.ofInt x) n ∧ (Int32.ofInt x).toNatClampNeg = x.toNat := by
  have hr : inR x := ⟨by omega, by omega⟩
  refine ⟨vp_in_iff.mpr ⟨by rw [q_toInt hr]; exact h0, by rw [q_toInt hr]; exact h1⟩, ?_⟩
  show (Int32.ofInt x).toInt.toNat = x.toNat
  rw [q_toInt hr]
-- the cells: kind (an object: its place in vwCl; 20 ints, 21 booleans, 22 bytes, 23 Cards, 24 Sheets), how many places, which places hold which cell
def xshL : List (Nat × Nat × List (Option Nat)) := [(11, 17, [some 1, some 3, some 8, some 14, some 16, some 95, some 99, some 103, some 105, some 108, some 117, some 118, some 119, some 120, some 121, none, none]), (9, 2, [some 2, none]), (22, 240, []), (7, 5, [some 4, some 5, some 6, some 7, none]), (20, 16, []), (20, 16, []), (20, 16, []), (20, 16, []), (6, 7, [some 1, some 9, none, none, none, none, none]), (7, 5, [some 10, some 11, some 12, some 13, none]), (20, 16, []), (20, 16, []), (20, 16, []), (20, 16, []), (5, 3, [some 3, some 15, none]), (20, 20, []), (0, 10, [some 14, some 17, none, some 18, none, some 19, some 20, some 21, some 22, none]), (23, 24, [some 23, some 26, some 29, some 32, some 35, some 38, some 41, some 44, some 47, some 50, some 53, some 56, some 59, some 62, some 65, some 68, some 71, some 74, some 77, some 80, some 83, some 86, some 89, some 92]), (21, 576, []), (20, 40, []), (20, 40, []), (20, 40, []), (20, 40, []), (1, 8, [none, none, none, none, none, none, some 24, some 25]), (20, 4, []), (20, 4, []), (1, 8, [none, none, none, none, none, none, some 27, some 28]), (20, 4, []), (20, 4, []), (1, 8, [none, none, none, none, none, none, some 30, some 31]), (20, 4, []), (20, 4, []), (1, 8, [none, none, none, none, none, none, some 33, some 34]), (20, 4, []), (20, 4, []), (1, 8, [none, none, none, none, none, none, some 36, some 37]), (20, 4, []), (20, 4, []), (1, 8, [none, none, none, none, none, none, some 39, some 40]), (20, 4, []), (20, 4, []), (1, 8, [none, none, none, none, none, none, some 42, some 43]), (20, 4, []), (20, 4, []), (1, 8, [none, none, none, none, none, none, some 45, some 46]), (20, 4, []), (20, 4, []), (1, 8, [none, none, none, none, none, none, some 48, some 49]), (20, 4, []), (20, 4, []), (1, 8, [none, none, none, none, none, none, some 51, some 52]), (20, 4, []), (20, 4, []), (1, 8, [none, none, none, none, none, none, some 54, some 55]), (20, 4, []), (20, 4, []), (1, 8, [none, none, none, none, none, none, some 57, some 58]), (20, 4, []), (20, 4, []), (1, 8, [none, none, none, none, none, none, some 60, some 61]), (20, 4, []), (20, 4, []), (1, 8, [none, none, none, none, none, none, some 63, some 64]), (20, 4, []), (20, 4, []), (1, 8, [none, none, none, none, none, none, some 66, some 67]), (20, 4, []), (20, 4, []), (1, 8, [none, none, none, none, none, none, some 69, some 70]), (20, 4, []), (20, 4, []), (1, 8, [none, none, none, none, none, none, some 72, some 73]), (20, 4, []), (20, 4, []), (1, 8, [none, none, none, none, none, none, some 75, some 76]), (20, 4, []), (20, 4, []), (1, 8, [none, none, none, none, none, none, some 78, some 79]), (20, 4, []), (20, 4, []), (1, 8, [none, none, none, none, none, none, some 81, some 82]), (20, 4, []), (20, 4, []), (1, 8, [none, none, none, none, none, none, some 84, some 85]), (20, 4, []), (20, 4, []), (1, 8, [none, none, none, none, none, none, some 87, some 88]), (20, 4, []), (20, 4, []), (1, 8, [none, none, none, none, none, none, some 90, some 91]), (20, 4, []), (20, 4, []), (1, 8, [none, none, none, none, none, none, some 93, some 94]), (20, 4, []), (20, 4, []), (10, 7, [none, none, some 96, some 97, some 98, none, none]), (20, 4, []), (20, 24, []), (20, 24, []), (3, 6, [some 100, none, some 101, none, none, some 102]), (20, 27, []), (20, 27, []), (20, 9, []), (4, 4, [some 16, some 104, none, none]), (20, 24, []), (2, 7, [some 16, none, none, none, none, some 106, some 107]), (20, 100, []), (20, 100, []), (24, 4, [some 109, some 111, some 113, some 115]), (8, 4, [some 110, none, none, none]), (20, 96, []), (8, 4, [some 112, none, none, none]), (20, 96, []), (8, 4, [some 114, none, none, none]), (20, 96, []), (8, 4, [some 116, none, none, none]), (20, 96, []), (20, 96, []), (20, 12, []), (20, 12, []), (20, 12, []), (21, 12, []), (12, 62, [none, some 123, none, none, none, none, none, none, none, none, some 124, some 125, none, some 126, some 127, some 128, some 129, some 130, none, some 131, some 132, some 133, some 134, some 135, none, some 136, some 137, some 138, some 139, some 140, some 141, some 142, some 143, none, some 144, some 145, some 146, some 147, none, none, some 148, some 149, some 150, none, some 151, none, some 152, none, some 153, none, none, none, none, some 154, some 155, some 156, some 157, some 158, some 159, some 160, none, some 161]), (20, 240, []), (20, 7, []), (20, 27, []), (20, 16, []), (20, 16, []), (20, 16, []), (20, 16, []), (20, 16, []), (20, 16, []), (20, 16, []), (20, 16, []), (20, 16, []), (20, 16, []), (20, 24, []), (20, 24, []), (20, 96, []), (20, 96, []), (20, 24, []), (20, 24, []), (20, 24, []), (20, 24, []), (20, 40, []), (20, 40, []), (20, 40, []), (21, 576, []), (20, 4, []), (20, 9, []), (20, 3, []), (20, 27, []), (20, 4, []), (20, 24, []), (20, 12, []), (20, 12, []), (20, 12, []), (20, 12, []), (20, 4, []), (20, 4, []), (20, 384, []), (20, 96, [])]
def xsh (j : Nat) : Nat × Nat × List (Option Nat) := xshL.getD j (99, 0, [])
def NC : Nat := 162
theorem sh_0 : xsh 0 = (11, 17, [some 1, some 3, some 8, some 14, some 16, some 95, some 99, some 103, some 105, some 108, some 117, some 118, some 119, some 120, some 121, none, none]) := by decide +kernel
theorem sh_1 : xsh 1 = (9, 2, [some 2, none]) := by decide +kernel
theorem sh_2 : xsh 2 = (22, 240, []) := by decide +kernel
theorem sh_3 : xsh 3 = (7, 5, [some 4, some 5, some 6, some 7, none]) := by decide +kernel
theorem sh_4 : xsh 4 = (20, 16, []) := by decide +kernel
theorem sh_5 : xsh 5 = (20, 16, []) := by decide +kernel
theorem sh_6 : xsh 6 = (20, 16, []) := by decide +kernel
theorem sh_7 : xsh 7 = (20, 16, []) := by decide +kernel
theorem sh_8 : xsh 8 = (6, 7, [some 1, some 9, none, none, none, none, none]) := by decide +kernel
theorem sh_9 : xsh 9 = (7, 5, [some 10, some 11, some 12, some 13, none]) := by decide +kernel
theorem sh_10 : xsh 10 = (20, 16, []) := by decide +kernel
theorem sh_11 : xsh 11 = (20, 16, []) := by decide +kernel
theorem sh_12 : xsh 12 = (20, 16, []) := by decide +kernel
theorem sh_13 : xsh 13 = (20, 16, []) := by decide +kernel
theorem sh_14 : xsh 14 = (5, 3, [some 3, some 15, none]) := by decide +kernel
theorem sh_15 : xsh 15 = (20, 20, []) := by decide +kernel
theorem sh_16 : xsh 16 = (0, 10, [some 14, some 17, none, some 18, none, some 19, some 20, some 21, some 22, none]) := by decide +kernel
theorem sh_17 : xsh 17 = (23, 24, [some 23, some 26, some 29, some 32, some 35, some 38, some 41, some 44, some 47, some 50, some 53, some 56, some 59, some 62, some 65, some 68, some 71, some 74, some 77, some 80, some 83, some 86, some 89, some 92]) := by decide +kernel
theorem sh_18 : xsh 18 = (21, 576, []) := by decide +kernel
theorem sh_19 : xsh 19 = (20, 40, []) := by decide +kernel
theorem sh_20 : xsh 20 = (20, 40, []) := by decide +kernel
theorem sh_21 : xsh 21 = (20, 40, []) := by decide +kernel
theorem sh_22 : xsh 22 = (20, 40, []) := by decide +kernel
theorem sh_95 : xsh 95 = (10, 7, [none, none, some 96, some 97, some 98, none, none]) := by decide +kernel
theorem sh_96 : xsh 96 = (20, 4, []) := by decide +kernel
theorem sh_97 : xsh 97 = (20, 24, []) := by decide +kernel
theorem sh_98 : xsh 98 = (20, 24, []) := by decide +kernel
theorem sh_99 : xsh 99 = (3, 6, [some 100, none, some 101, none, none, some 102]) := by decide +kernel
theorem sh_100 : xsh 100 = (20, 27, []) := by decide +kernel
theorem sh_101 : xsh 101 = (20, 27, []) := by decide +kernel
theorem sh_102 : xsh 102 = (20, 9, []) := by decide +kernel
theorem sh_103 : xsh 103 = (4, 4, [some 16, some 104, none, none]) := by decide +kernel
theorem sh_104 : xsh 104 = (20, 24, []) := by decide +kernel
theorem sh_105 : xsh 105 = (2, 7, [some 16, none, none, none, none, some 106, some 107]) := by decide +kernel
theorem sh_106 : xsh 106 = (20, 100, []) := by decide +kernel
theorem sh_107 : xsh 107 = (20, 100, []) := by decide +kernel
theorem sh_108 : xsh 108 = (24, 4, [some 109, some 111, some 113, some 115]) := by decide +kernel
theorem sh_117 : xsh 117 = (20, 96, []) := by decide +kernel
theorem sh_118 : xsh 118 = (20, 12, []) := by decide +kernel
theorem sh_119 : xsh 119 = (20, 12, []) := by decide +kernel
theorem sh_120 : xsh 120 = (20, 12, []) := by decide +kernel
theorem sh_121 : xsh 121 = (21, 12, []) := by decide +kernel
theorem sh_122 : xsh 122 = (12, 62, [none, some 123, none, none, none, none, none, none, none, none, some 124, some 125, none, some 126, some 127, some 128, some 129, some 130, none, some 131, some 132, some 133, some 134, some 135, none, some 136, some 137, some 138, some 139, some 140, some 141, some 142, some 143, none, some 144, some 145, some 146, some 147, none, none, some 148, some 149, some 150, none, some 151, none, some 152, none, some 153, none, none, none, none, some 154, some 155, some 156, some 157, some 158, some 159, some 160, none, some 161]) := by decide +kernel
theorem sh_123 : xsh 123 = (20, 240, []) := by decide +kernel
theorem sh_124 : xsh 124 = (20, 7, []) := by decide +kernel
theorem sh_125 : xsh 125 = (20, 27, []) := by decide +kernel
theorem sh_126 : xsh 126 = (20, 16, []) := by decide +kernel
theorem sh_127 : xsh 127 = (20, 16, []) := by decide +kernel
theorem sh_128 : xsh 128 = (20, 16, []) := by decide +kernel
theorem sh_129 : xsh 129 = (20, 16, []) := by decide +kernel
theorem sh_130 : xsh 130 = (20, 16, []) := by decide +kernel
theorem sh_131 : xsh 131 = (20, 16, []) := by decide +kernel
theorem sh_132 : xsh 132 = (20, 16, []) := by decide +kernel
theorem sh_133 : xsh 133 = (20, 16, []) := by decide +kernel
theorem sh_134 : xsh 134 = (20, 16, []) := by decide +kernel
theorem sh_135 : xsh 135 = (20, 16, []) := by decide +kernel
theorem sh_136 : xsh 136 = (20, 24, []) := by decide +kernel
theorem sh_137 : xsh 137 = (20, 24, []) := by decide +kernel
theorem sh_138 : xsh 138 = (20, 96, []) := by decide +kernel
theorem sh_139 : xsh 139 = (20, 96, []) := by decide +kernel
theorem sh_140 : xsh 140 = (20, 24, []) := by decide +kernel
theorem sh_141 : xsh 141 = (20, 24, []) := by decide +kernel
theorem sh_142 : xsh 142 = (20, 24, []) := by decide +kernel
theorem sh_143 : xsh 143 = (20, 24, []) := by decide +kernel
theorem sh_144 : xsh 144 = (20, 40, []) := by decide +kernel
theorem sh_145 : xsh 145 = (20, 40, []) := by decide +kernel
theorem sh_146 : xsh 146 = (20, 40, []) := by decide +kernel
theorem sh_147 : xsh 147 = (21, 576, []) := by decide +kernel
theorem sh_148 : xsh 148 = (20, 4, []) := by decide +kernel
theorem sh_149 : xsh 149 = (20, 9, []) := by decide +kernel
theorem sh_150 : xsh 150 = (20, 3, []) := by decide +kernel
theorem sh_151 : xsh 151 = (20, 27, []) := by decide +kernel
theorem sh_152 : xsh 152 = (20, 4, []) := by decide +kernel
theorem sh_153 : xsh 153 = (20, 24, []) := by decide +kernel
theorem sh_154 : xsh 154 = (20, 12, []) := by decide +kernel
theorem sh_155 : xsh 155 = (20, 12, []) := by decide +kernel
theorem sh_156 : xsh 156 = (20, 12, []) := by decide +kernel
theorem sh_157 : xsh 157 = (20, 12, []) := by decide +kernel
theorem sh_158 : xsh 158 = (20, 4, []) := by decide +kernel
theorem sh_159 : xsh 159 = (20, 4, []) := by decide +kernel
theorem sh_160 : xsh 160 = (20, 384, []) := by decide +kernel
theorem sh_161 : xsh 161 = (20, 96, []) := by decide +kernel
theorem sh_card : ∀ c, c < 24 → xsh (23 + 3 * c) = (1, 8, [none, none, none, none, none, none, some (24 + 3 * c), some (25 + 3 * c)]) := by decide +kernel
theorem sh_cft : ∀ c, c < 24 → xsh (24 + 3 * c) = (20, 4, []) := by decide +kernel
theorem sh_cme : ∀ c, c < 24 → xsh (25 + 3 * c) = (20, 4, []) := by decide +kernel
theorem sh_sheet : ∀ k, k < 4 → xsh (109 + 2 * k) = (8, 4, [some (110 + 2 * k), none, none, none]) := by decide +kernel
theorem sh_scell : ∀ k, k < 4 → xsh (110 + 2 * k) = (20, 96, []) := by decide +kernel
theorem sh_cards : ∀ c, c < 24 → (xsh 17).2.2.getD c none = some (23 + 3 * c) := by decide +kernel
theorem sh_sheets : ∀ k, k < 4 → (xsh 108).2.2.getD k none = some (109 + 2 * k) := by decide +kernel
end
section
theorem bw_X0 : ∀ w ∈ u_ws RX0 TX0 10, w ∈ BIG := big_ws [272, 274, 276, 278, 280, 282, 284, 286, 288, 290] (by decide +kernel) (by decide +kernel)
theorem bi_X0 : Cond.instantiable RX0 10 ∈ BIG := big_1 (i := 138) rfl rfl
theorem bw_X1 : ∀ w ∈ u_ws RX1 TX1 8, w ∈ BIG := big_ws [232, 234, 236, 238, 240, 242, 244, 246] (by decide +kernel) (by decide +kernel)
theorem bi_X1 : Cond.instantiable RX1 8 ∈ BIG := big_1 (i := 145) rfl rfl
theorem bw_X2 : ∀ w ∈ u_ws RX2 TX2 7, w ∈ BIG := big_ws [398, 400, 402, 404, 406, 408, 410] (by decide +kernel) (by decide +kernel)
theorem bi_X2 : Cond.instantiable RX2 7 ∈ BIG := big_2 (i := 85) rfl rfl
theorem bw_X3 : ∀ w ∈ u_ws RX3 TX3 6, w ∈ BIG := big_ws [346, 348, 350, 352, 354, 356] (by decide +kernel) (by decide +kernel)
theorem bi_X3 : Cond.instantiable RX3 6 ∈ BIG := big_2 (i := 33) rfl rfl
theorem bw_X4 : ∀ w ∈ u_ws RX4 TX4 4, w ∈ BIG := big_ws [372, 374, 376, 378] (by decide +kernel) (by decide +kernel)
theorem bi_X4 : Cond.instantiable RX4 4 ∈ BIG := big_2 (i := 63) rfl rfl
theorem bw_X5 : ∀ w ∈ u_ws RX5 TX5 3, w ∈ BIG := big_ws [187, 189, 191] (by decide +kernel) (by decide +kernel)
theorem bi_X5 : Cond.instantiable RX5 3 ∈ BIG := big_1 (i := 103) rfl rfl
theorem bw_X6 : ∀ w ∈ u_ws RX6 TX6 7, w ∈ BIG := big_ws [144, 146, 148, 150, 152, 154, 156] (by decide +kernel) (by decide +kernel)
theorem bi_X6 : Cond.instantiable RX6 7 ∈ BIG := big_1 (i := 70) rfl rfl
theorem bw_X7 : ∀ w ∈ u_ws RX7 TX7 5, w ∈ BIG := big_ws [114, 116, 118, 120, 122] (by decide +kernel) (by decide +kernel)
theorem bi_X7 : Cond.instantiable RX7 5 ∈ BIG := big_1 (i := 45) rfl rfl
theorem bw_X8 : ∀ w ∈ u_ws RX8 TX8 4, w ∈ BIG := big_ws [427, 429, 431, 433] (by decide +kernel) (by decide +kernel)
theorem bi_X8 : Cond.instantiable RX8 4 ∈ BIG := big_2 (i := 118) rfl rfl
theorem bw_X9 : ∀ w ∈ u_ws RX9 TX9 2, w ∈ BIG := big_ws [95, 97] (by decide +kernel) (by decide +kernel)
theorem bi_X9 : Cond.instantiable RX9 2 ∈ BIG := big_1 (i := 29) rfl rfl
theorem bw_X10 : ∀ w ∈ u_ws RX10 TX10 7, w ∈ BIG := big_ws [314, 316, 318, 320, 322, 324, 326] (by decide +kernel) (by decide +kernel)
theorem bi_X10 : Cond.instantiable RX10 7 ∈ BIG := big_1 (i := 237) rfl rfl
theorem bw_X11 : ∀ w ∈ u_ws RX11 TX11 17, w ∈ BIG := big_ws [453, 455, 457, 459, 461, 463, 465, 467, 469, 471, 473, 475, 477, 479, 481, 483, 485] (by decide +kernel) (by decide +kernel)
theorem bi_X11 : Cond.instantiable RX11 17 ∈ BIG := big_1 (i := 21) rfl rfl
theorem bw_X12 : ∀ w ∈ u_ws RX12 TX12 62, w ∈ BIG := big_ws [1096, 1098, 1100, 1102, 1104, 1106, 1108, 1110, 1112, 1114, 1116, 1118, 1120, 1122, 1124, 1126, 1128, 1130, 1132, 1134, 1136, 1138, 1140, 1142, 1144, 1146, 1148, 1150, 1152, 1154, 1156, 1158, 1160, 1162, 1164, 1166, 1168, 1170, 1172, 1174, 1176, 1178, 1180, 1182, 1184, 1186, 1188, 1190, 1192, 1194, 1196, 1198, 1200, 1202, 1204, 1206, 1208, 1210, 1212, 1214, 1216, 1218] (by decide +kernel) (by decide +kernel)
theorem bi_X12 : Cond.instantiable RX12 62 ∈ BIG := big_5 (i := 12) rfl rfl
theorem in_L : Cond.initialized RL ∈ BIG := big_1 (i := 0) rfl rfl
theorem in_X11 : Cond.initialized RX11 ∈ BIG := big_1 (i := 1) rfl rfl
theorem in_X9 : Cond.initialized RX9 ∈ BIG := big_1 (i := 2) rfl rfl
theorem in_X7 : Cond.initialized RX7 ∈ BIG := big_1 (i := 3) rfl rfl
theorem in_X6 : Cond.initialized RX6 ∈ BIG := big_1 (i := 4) rfl rfl
theorem in_X5 : Cond.initialized RX5 ∈ BIG := big_1 (i := 5) rfl rfl
theorem in_X0 : Cond.initialized RX0 ∈ BIG := big_1 (i := 6) rfl rfl
theorem in_X1 : Cond.initialized RX1 ∈ BIG := big_1 (i := 7) rfl rfl
theorem in_X10 : Cond.initialized RX10 ∈ BIG := big_1 (i := 8) rfl rfl
theorem in_X3 : Cond.initialized RX3 ∈ BIG := big_1 (i := 9) rfl rfl
theorem in_X4 : Cond.initialized RX4 ∈ BIG := big_1 (i := 10) rfl rfl
theorem in_X2 : Cond.initialized RX2 ∈ BIG := big_1 (i := 11) rfl rfl
theorem in_X8 : Cond.initialized RX8 ∈ BIG := big_1 (i := 12) rfl rfl
theorem in_X12 : Cond.initialized RX12 ∈ BIG := big_1 (i := 13) rfl rfl
theorem in_J0 : Cond.initialized RJ0 ∈ BIG := big_1 (i := 14) rfl rfl
theorem in_J1 : Cond.initialized RJ1 ∈ BIG := big_1 (i := 15) rfl rfl
theorem in_J3 : Cond.initialized RJ3 ∈ BIG := big_1 (i := 16) rfl rfl
theorem in_J2 : Cond.initialized RJ2 ∈ BIG := big_1 (i := 17) rfl rfl
theorem in_J6 : Cond.initialized RJ6 ∈ BIG := big_1 (i := 18) rfl rfl
theorem in_J9 : Cond.initialized RJ9 ∈ BIG := big_1 (i := 19) rfl rfl
theorem fl_X9_9 : FL RX9 9 9 2 0 := ⟨RX9, TX9, rfl, Nat.le_of_ble_eq_true rfl, bw_X9, big_1 (i := 34) rfl rfl, rfl⟩
theorem fl_X9_13 : FL RX9 13 9 2 1 := ⟨RX9, TX9, rfl, Nat.le_of_ble_eq_true rfl, bw_X9, big_1 (i := 35) rfl rfl, rfl⟩
theorem fl_X11_119 : FL RX11 119 9 2 1 := ⟨RX9, TX9, rfl, Nat.le_of_ble_eq_true rfl, bw_X9, big_1 (i := 36) rfl rfl, rfl⟩
theorem fl_X6_116 : FL RX6 116 9 2 1 := ⟨RX9, TX9, rfl, Nat.le_of_ble_eq_true rfl, bw_X9, big_1 (i := 37) rfl rfl, rfl⟩
theorem fl_X7_11 : FL RX7 11 7 5 0 := ⟨RX7, TX7, rfl, Nat.le_of_ble_eq_true rfl, bw_X7, big_1 (i := 50) rfl rfl, rfl⟩
theorem fl_X7_15 : FL RX7 15 7 5 1 := ⟨RX7, TX7, rfl, Nat.le_of_ble_eq_true rfl, bw_X7, big_1 (i := 51) rfl rfl, rfl⟩
theorem fl_X7_18 : FL RX7 18 7 5 2 := ⟨RX7, TX7, rfl, Nat.le_of_ble_eq_true rfl, bw_X7, big_1 (i := 52) rfl rfl, rfl⟩
theorem fl_X7_21 : FL RX7 21 7 5 3 := ⟨RX7, TX7, rfl, Nat.le_of_ble_eq_true rfl, bw_X7, big_1 (i := 53) rfl rfl, rfl⟩
theorem fl_X7_24 : FL RX7 24 7 5 4 := ⟨RX7, TX7, rfl, Nat.le_of_ble_eq_true rfl, bw_X7, big_1 (i := 54) rfl rfl, rfl⟩
theorem fl_X6_22 : FL RX6 22 7 5 4 := ⟨RX7, TX7, rfl, Nat.le_of_ble_eq_true rfl, bw_X7, big_1 (i := 55) rfl rfl, rfl⟩
theorem fl_X11_135 : FL RX11 135 7 5 4 := ⟨RX7, TX7, rfl, Nat.le_of_ble_eq_true rfl, bw_X7, big_1 (i := 56) rfl rfl, rfl⟩
theorem fl_X6_18 : FL RX6 18 6 7 0 := ⟨RX6, TX6, rfl, Nat.le_of_ble_eq_true rfl, bw_X6, big_1 (i := 77) rfl rfl, rfl⟩
theorem fl_X6_12 : FL RX6 12 6 7 1 := ⟨RX6, TX6, rfl, Nat.le_of_ble_eq_true rfl, bw_X6, big_1 (i := 78) rfl rfl, rfl⟩
theorem fl_X11_129 : FL RX11 129 6 7 1 := ⟨RX6, TX6, rfl, Nat.le_of_ble_eq_true rfl, bw_X6, big_1 (i := 79) rfl rfl, rfl⟩
theorem fl_X6_26 : FL RX6 26 6 7 2 := ⟨RX6, TX6, rfl, Nat.le_of_ble_eq_true rfl, bw_X6, big_1 (i := 80) rfl rfl, rfl⟩
theorem fl_X11_138 : FL RX11 138 6 7 2 := ⟨RX6, TX6, rfl, Nat.le_of_ble_eq_true rfl, bw_X6, big_1 (i := 81) rfl rfl, rfl⟩
theorem fl_X6_83 : FL RX6 83 6 7 3 := ⟨RX6, TX6, rfl, Nat.le_of_ble_eq_true rfl, bw_X6, big_1 (i := 82) rfl rfl, rfl⟩
theorem fl_X11_126 : FL RX11 126 6 7 3 := ⟨RX6, TX6, rfl, Nat.le_of_ble_eq_true rfl, bw_X6, big_1 (i := 83) rfl rfl, rfl⟩
theorem fl_X6_29 : FL RX6 29 6 7 4 := ⟨RX6, TX6, rfl, Nat.le_of_ble_eq_true rfl, bw_X6, big_1 (i := 84) rfl rfl, rfl⟩
theorem fl_X6_35 : FL RX6 35 6 7 5 := ⟨RX6, TX6, rfl, Nat.le_of_ble_eq_true rfl, bw_X6, big_1 (i := 85) rfl rfl, rfl⟩
theorem fl_X6_96 : FL RX6 96 6 7 6 := ⟨RX6, TX6, rfl, Nat.le_of_ble_eq_true rfl, bw_X6, big_1 (i := 86) rfl rfl, rfl⟩
theorem fl_X5_15 : FL RX5 15 5 3 0 := ⟨RX5, TX5, rfl, Nat.le_of_ble_eq_true rfl, bw_X5, big_1 (i := 123) rfl rfl, rfl⟩
theorem fl_X5_9 : FL RX5 9 5 3 1 := ⟨RX5, TX5, rfl, Nat.le_of_ble_eq_true rfl, bw_X5, big_1 (i := 124) rfl rfl, rfl⟩
theorem fl_X1_30 : FL RX1 30 5 3 1 := ⟨RX5, TX5, rfl, Nat.le_of_ble_eq_true rfl, bw_X5, big_1 (i := 125) rfl rfl, rfl⟩
theorem fl_X11_108 : FL RX11 108 5 3 2 := ⟨RX5, TX5, rfl, Nat.le_of_ble_eq_true rfl, bw_X5, big_1 (i := 126) rfl rfl, rfl⟩
theorem fl_X5_22 : FL RX5 22 5 3 2 := ⟨RX5, TX5, rfl, Nat.le_of_ble_eq_true rfl, bw_X5, big_1 (i := 127) rfl rfl, rfl⟩
theorem fl_X1_22 : FL RX1 22 5 3 2 := ⟨RX5, TX5, rfl, Nat.le_of_ble_eq_true rfl, bw_X5, big_1 (i := 128) rfl rfl, rfl⟩
theorem fl_X0_52 : FL RX0 52 5 3 2 := ⟨RX5, TX5, rfl, Nat.le_of_ble_eq_true rfl, bw_X5, big_1 (i := 129) rfl rfl, rfl⟩
theorem fl_X0_43 : FL RX0 43 1 8 0 := ⟨RX1, TX1, rfl, Nat.le_of_ble_eq_true rfl, bw_X1, big_1 (i := 150) rfl rfl, rfl⟩
theorem fl_X1_33 : FL RX1 33 1 8 0 := ⟨RX1, TX1, rfl, Nat.le_of_ble_eq_true rfl, bw_X1, big_1 (i := 151) rfl rfl, rfl⟩
theorem fl_X4_68 : FL RX4 68 1 8 0 := ⟨RX1, TX1, rfl, Nat.le_of_ble_eq_true rfl, bw_X1, big_1 (i := 152) rfl rfl, rfl⟩
theorem fl_X11_161 : FL RX11 161 1 8 0 := ⟨RX1, TX1, rfl, Nat.le_of_ble_eq_true rfl, bw_X1, big_1 (i := 153) rfl rfl, rfl⟩
theorem fl_X0_46 : FL RX0 46 1 8 1 := ⟨RX1, TX1, rfl, Nat.le_of_ble_eq_true rfl, bw_X1, big_1 (i := 154) rfl rfl, rfl⟩
theorem fl_X1_40 : FL RX1 40 1 8 1 := ⟨RX1, TX1, rfl, Nat.le_of_ble_eq_true rfl, bw_X1, big_1 (i := 155) rfl rfl, rfl⟩
theorem fl_X11_166 : FL RX11 166 1 8 1 := ⟨RX1, TX1, rfl, Nat.le_of_ble_eq_true rfl, bw_X1, big_1 (i := 156) rfl rfl, rfl⟩
theorem fl_X0_49 : FL RX0 49 1 8 2 := ⟨RX1, TX1, rfl, Nat.le_of_ble_eq_true rfl, bw_X1, big_1 (i := 157) rfl rfl, rfl⟩
theorem fl_X11_172 : FL RX11 172 1 8 2 := ⟨RX1, TX1, rfl, Nat.le_of_ble_eq_true rfl, bw_X1, big_1 (i := 158) rfl rfl, rfl⟩
theorem fl_X1_27 : FL RX1 27 1 8 3 := ⟨RX1, TX1, rfl, Nat.le_of_ble_eq_true rfl, bw_X1, big_1 (i := 159) rfl rfl, rfl⟩
theorem fl_X0_57 : FL RX0 57 1 8 3 := ⟨RX1, TX1, rfl, Nat.le_of_ble_eq_true rfl, bw_X1, big_1 (i := 160) rfl rfl, rfl⟩
theorem fl_X11_175 : FL RX11 175 1 8 3 := ⟨RX1, TX1, rfl, Nat.le_of_ble_eq_true rfl, bw_X1, big_1 (i := 161) rfl rfl, rfl⟩
theorem fl_X0_76 : FL RX0 76 1 8 4 := ⟨RX1, TX1, rfl, Nat.le_of_ble_eq_true rfl, bw_X1, big_1 (i := 162) rfl rfl, rfl⟩
theorem fl_X11_200 : FL RX11 200 1 8 4 := ⟨RX1, TX1, rfl, Nat.le_of_ble_eq_true rfl, bw_X1, big_1 (i := 163) rfl rfl, rfl⟩
theorem fl_X1_18 : FL RX1 18 1 8 5 := ⟨RX1, TX1, rfl, Nat.le_of_ble_eq_true rfl, bw_X1, big_1 (i := 164) rfl rfl, rfl⟩
theorem fl_X0_70 : FL RX0 70 1 8 5 := ⟨RX1, TX1, rfl, Nat.le_of_ble_eq_true rfl, bw_X1, big_1 (i := 165) rfl rfl, rfl⟩
theorem fl_X11_178 : FL RX11 178 1 8 5 := ⟨RX1, TX1, rfl, Nat.le_of_ble_eq_true rfl, bw_X1, big_1 (i := 166) rfl rfl, rfl⟩
theorem fl_X1_9 : FL RX1 9 1 8 6 := ⟨RX1, TX1, rfl, Nat.le_of_ble_eq_true rfl, bw_X1, big_1 (i := 167) rfl rfl, rfl⟩
theorem fl_X0_60 : FL RX0 60 1 8 6 := ⟨RX1, TX1, rfl, Nat.le_of_ble_eq_true rfl, bw_X1, big_1 (i := 168) rfl rfl, rfl⟩
theorem fl_X1_15 : FL RX1 15 1 8 7 := ⟨RX1, TX1, rfl, Nat.le_of_ble_eq_true rfl, bw_X1, big_1 (i := 169) rfl rfl, rfl⟩
theorem fl_X2_64 : FL RX2 64 1 8 7 := ⟨RX1, TX1, rfl, Nat.le_of_ble_eq_true rfl, bw_X1, big_1 (i := 170) rfl rfl, rfl⟩
theorem fl_X0_63 : FL RX0 63 1 8 7 := ⟨RX1, TX1, rfl, Nat.le_of_ble_eq_true rfl, bw_X1, big_1 (i := 171) rfl rfl, rfl⟩
theorem fl_X10_68 : FL RX10 68 1 8 7 := ⟨RX1, TX1, rfl, Nat.le_of_ble_eq_true rfl, bw_X1, big_1 (i := 172) rfl rfl, rfl⟩
theorem fl_X4_71 : FL RX4 71 1 8 7 := ⟨RX1, TX1, rfl, Nat.le_of_ble_eq_true rfl, bw_X1, big_1 (i := 173) rfl rfl, rfl⟩
theorem fl_X11_169 : FL RX11 169 1 8 7 := ⟨RX1, TX1, rfl, Nat.le_of_ble_eq_true rfl, bw_X1, big_1 (i := 174) rfl rfl, rfl⟩
theorem fl_X0_34 : FL RX0 34 0 10 0 := ⟨RX0, TX0, rfl, Nat.le_of_ble_eq_true rfl, bw_X0, big_1 (i := 193) rfl rfl, rfl⟩
theorem fl_X10_28 : FL RX10 28 0 10 0 := ⟨RX0, TX0, rfl, Nat.le_of_ble_eq_true rfl, bw_X0, big_1 (i := 194) rfl rfl, rfl⟩
theorem fl_X2_83 : FL RX2 83 0 10 0 := ⟨RX0, TX0, rfl, Nat.le_of_ble_eq_true rfl, bw_X0, big_1 (i := 195) rfl rfl, rfl⟩
theorem fl_X0_11 : FL RX0 11 0 10 1 := ⟨RX0, TX0, rfl, Nat.le_of_ble_eq_true rfl, bw_X0, big_1 (i := 196) rfl rfl, rfl⟩
theorem fl_X4_25 : FL RX4 25 0 10 1 := ⟨RX0, TX0, rfl, Nat.le_of_ble_eq_true rfl, bw_X0, big_1 (i := 197) rfl rfl, rfl⟩
theorem fl_X10_37 : FL RX10 37 0 10 1 := ⟨RX0, TX0, rfl, Nat.le_of_ble_eq_true rfl, bw_X0, big_1 (i := 198) rfl rfl, rfl⟩
theorem fl_X2_52 : FL RX2 52 0 10 1 := ⟨RX0, TX0, rfl, Nat.le_of_ble_eq_true rfl, bw_X0, big_1 (i := 199) rfl rfl, rfl⟩
theorem fl_X11_157 : FL RX11 157 0 10 1 := ⟨RX0, TX0, rfl, Nat.le_of_ble_eq_true rfl, bw_X0, big_1 (i := 200) rfl rfl, rfl⟩
theorem fl_X0_39 : FL RX0 39 0 10 2 := ⟨RX0, TX0, rfl, Nat.le_of_ble_eq_true rfl, bw_X0, big_1 (i := 201) rfl rfl, rfl⟩
theorem fl_X4_19 : FL RX4 19 0 10 2 := ⟨RX0, TX0, rfl, Nat.le_of_ble_eq_true rfl, bw_X0, big_1 (i := 202) rfl rfl, rfl⟩
theorem fl_X10_34 : FL RX10 34 0 10 2 := ⟨RX0, TX0, rfl, Nat.le_of_ble_eq_true rfl, bw_X0, big_1 (i := 203) rfl rfl, rfl⟩
theorem fl_X2_67 : FL RX2 67 0 10 2 := ⟨RX0, TX0, rfl, Nat.le_of_ble_eq_true rfl, bw_X0, big_1 (i := 204) rfl rfl, rfl⟩
theorem fl_X11_385 : FL RX11 385 0 10 2 := ⟨RX0, TX0, rfl, Nat.le_of_ble_eq_true rfl, bw_X0, big_1 (i := 205) rfl rfl, rfl⟩
theorem fl_X0_17 : FL RX0 17 0 10 3 := ⟨RX0, TX0, rfl, Nat.le_of_ble_eq_true rfl, bw_X0, big_1 (i := 206) rfl rfl, rfl⟩
theorem fl_X0_104 : FL RX0 104 0 10 4 := ⟨RX0, TX0, rfl, Nat.le_of_ble_eq_true rfl, bw_X0, big_1 (i := 207) rfl rfl, rfl⟩
theorem fl_X11_398 : FL RX11 398 0 10 4 := ⟨RX0, TX0, rfl, Nat.le_of_ble_eq_true rfl, bw_X0, big_1 (i := 208) rfl rfl, rfl⟩
theorem fl_X0_21 : FL RX0 21 0 10 5 := ⟨RX0, TX0, rfl, Nat.le_of_ble_eq_true rfl, bw_X0, big_1 (i := 209) rfl rfl, rfl⟩
theorem fl_X0_25 : FL RX0 25 0 10 6 := ⟨RX0, TX0, rfl, Nat.le_of_ble_eq_true rfl, bw_X0, big_1 (i := 210) rfl rfl, rfl⟩
theorem fl_X0_28 : FL RX0 28 0 10 7 := ⟨RX0, TX0, rfl, Nat.le_of_ble_eq_true rfl, bw_X0, big_1 (i := 211) rfl rfl, rfl⟩
theorem fl_X0_31 : FL RX0 31 0 10 8 := ⟨RX0, TX0, rfl, Nat.le_of_ble_eq_true rfl, bw_X0, big_1 (i := 212) rfl rfl, rfl⟩
theorem fl_X0_73 : FL RX0 73 0 10 9 := ⟨RX0, TX0, rfl, Nat.le_of_ble_eq_true rfl, bw_X0, big_1 (i := 213) rfl rfl, rfl⟩
theorem fl_X11_394 : FL RX11 394 0 10 9 := ⟨RX0, TX0, rfl, Nat.le_of_ble_eq_true rfl, bw_X0, big_1 (i := 214) rfl rfl, rfl⟩
theorem fl_X11_225 : FL RX11 225 10 7 0 := ⟨RX10, TX10, rfl, Nat.le_of_ble_eq_true rfl, bw_X10, big_2 (i := 2) rfl rfl, rfl⟩
theorem fl_X3_30 : FL RX3 30 10 7 1 := ⟨RX10, TX10, rfl, Nat.le_of_ble_eq_true rfl, bw_X10, big_2 (i := 3) rfl rfl, rfl⟩
theorem fl_X10_47 : FL RX10 47 10 7 1 := ⟨RX10, TX10, rfl, Nat.le_of_ble_eq_true rfl, bw_X10, big_2 (i := 4) rfl rfl, rfl⟩
theorem fl_X11_229 : FL RX11 229 10 7 1 := ⟨RX10, TX10, rfl, Nat.le_of_ble_eq_true rfl, bw_X10, big_2 (i := 5) rfl rfl, rfl⟩
theorem fl_X10_9 : FL RX10 9 10 7 2 := ⟨RX10, TX10, rfl, Nat.le_of_ble_eq_true rfl, bw_X10, big_2 (i := 6) rfl rfl, rfl⟩
theorem fl_X3_25 : FL RX3 25 10 7 2 := ⟨RX10, TX10, rfl, Nat.le_of_ble_eq_true rfl, bw_X10, big_2 (i := 7) rfl rfl, rfl⟩
theorem fl_X11_230 : FL RX11 230 10 7 2 := ⟨RX10, TX10, rfl, Nat.le_of_ble_eq_true rfl, bw_X10, big_2 (i := 8) rfl rfl, rfl⟩
theorem fl_X10_15 : FL RX10 15 10 7 3 := ⟨RX10, TX10, rfl, Nat.le_of_ble_eq_true rfl, bw_X10, big_2 (i := 9) rfl rfl, rfl⟩
theorem fl_X11_272 : FL RX11 272 10 7 3 := ⟨RX10, TX10, rfl, Nat.le_of_ble_eq_true rfl, bw_X10, big_2 (i := 10) rfl rfl, rfl⟩
theorem fl_X10_18 : FL RX10 18 10 7 4 := ⟨RX10, TX10, rfl, Nat.le_of_ble_eq_true rfl, bw_X10, big_2 (i := 11) rfl rfl, rfl⟩
theorem fl_X11_271 : FL RX11 271 10 7 4 := ⟨RX10, TX10, rfl, Nat.le_of_ble_eq_true rfl, bw_X10, big_2 (i := 12) rfl rfl, rfl⟩
theorem fl_X10_21 : FL RX10 21 10 7 5 := ⟨RX10, TX10, rfl, Nat.le_of_ble_eq_true rfl, bw_X10, big_2 (i := 13) rfl rfl, rfl⟩
theorem fl_X11_268 : FL RX11 268 10 7 5 := ⟨RX10, TX10, rfl, Nat.le_of_ble_eq_true rfl, bw_X10, big_2 (i := 14) rfl rfl, rfl⟩
theorem fl_X10_25 : FL RX10 25 10 7 6 := ⟨RX10, TX10, rfl, Nat.le_of_ble_eq_true rfl, bw_X10, big_2 (i := 15) rfl rfl, rfl⟩
theorem fl_X11_275 : FL RX11 275 10 7 6 := ⟨RX10, TX10, rfl, Nat.le_of_ble_eq_true rfl, bw_X10, big_2 (i := 16) rfl rfl, rfl⟩
theorem fl_X3_9 : FL RX3 9 3 6 0 := ⟨RX3, TX3, rfl, Nat.le_of_ble_eq_true rfl, bw_X3, big_2 (i := 38) rfl rfl, rfl⟩
theorem fl_X11_239 : FL RX11 239 3 6 0 := ⟨RX3, TX3, rfl, Nat.le_of_ble_eq_true rfl, bw_X3, big_2 (i := 39) rfl rfl, rfl⟩
theorem fl_X3_21 : FL RX3 21 3 6 1 := ⟨RX3, TX3, rfl, Nat.le_of_ble_eq_true rfl, bw_X3, big_2 (i := 40) rfl rfl, rfl⟩
theorem fl_X11_242 : FL RX11 242 3 6 1 := ⟨RX3, TX3, rfl, Nat.le_of_ble_eq_true rfl, bw_X3, big_2 (i := 41) rfl rfl, rfl⟩
theorem fl_X3_15 : FL RX3 15 3 6 2 := ⟨RX3, TX3, rfl, Nat.le_of_ble_eq_true rfl, bw_X3, big_2 (i := 42) rfl rfl, rfl⟩
theorem fl_X11_259 : FL RX11 259 3 6 2 := ⟨RX3, TX3, rfl, Nat.le_of_ble_eq_true rfl, bw_X3, big_2 (i := 43) rfl rfl, rfl⟩
theorem fl_X3_56 : FL RX3 56 3 6 3 := ⟨RX3, TX3, rfl, Nat.le_of_ble_eq_true rfl, bw_X3, big_2 (i := 44) rfl rfl, rfl⟩
theorem fl_X11_256 : FL RX11 256 3 6 3 := ⟨RX3, TX3, rfl, Nat.le_of_ble_eq_true rfl, bw_X3, big_2 (i := 45) rfl rfl, rfl⟩
theorem fl_X3_59 : FL RX3 59 3 6 4 := ⟨RX3, TX3, rfl, Nat.le_of_ble_eq_true rfl, bw_X3, big_2 (i := 46) rfl rfl, rfl⟩
theorem fl_X11_262 : FL RX11 262 3 6 4 := ⟨RX3, TX3, rfl, Nat.le_of_ble_eq_true rfl, bw_X3, big_2 (i := 47) rfl rfl, rfl⟩
theorem fl_X3_18 : FL RX3 18 3 6 5 := ⟨RX3, TX3, rfl, Nat.le_of_ble_eq_true rfl, bw_X3, big_2 (i := 48) rfl rfl, rfl⟩
theorem fl_X4_15 : FL RX4 15 4 4 0 := ⟨RX4, TX4, rfl, Nat.le_of_ble_eq_true rfl, bw_X4, big_2 (i := 68) rfl rfl, rfl⟩
theorem fl_X4_9 : FL RX4 9 4 4 1 := ⟨RX4, TX4, rfl, Nat.le_of_ble_eq_true rfl, bw_X4, big_2 (i := 69) rfl rfl, rfl⟩
theorem fl_X11_306 : FL RX11 306 4 4 1 := ⟨RX4, TX4, rfl, Nat.le_of_ble_eq_true rfl, bw_X4, big_2 (i := 70) rfl rfl, rfl⟩
theorem fl_X4_62 : FL RX4 62 4 4 2 := ⟨RX4, TX4, rfl, Nat.le_of_ble_eq_true rfl, bw_X4, big_2 (i := 71) rfl rfl, rfl⟩
theorem fl_X11_322 : FL RX11 322 4 4 2 := ⟨RX4, TX4, rfl, Nat.le_of_ble_eq_true rfl, bw_X4, big_2 (i := 72) rfl rfl, rfl⟩
theorem fl_X4_65 : FL RX4 65 4 4 3 := ⟨RX4, TX4, rfl, Nat.le_of_ble_eq_true rfl, bw_X4, big_2 (i := 73) rfl rfl, rfl⟩
theorem fl_X11_325 : FL RX11 325 4 4 3 := ⟨RX4, TX4, rfl, Nat.le_of_ble_eq_true rfl, bw_X4, big_2 (i := 74) rfl rfl, rfl⟩
theorem fl_X2_18 : FL RX2 18 2 7 0 := ⟨RX2, TX2, rfl, Nat.le_of_ble_eq_true rfl, bw_X2, big_2 (i := 90) rfl rfl, rfl⟩
theorem fl_X2_46 : FL RX2 46 2 7 1 := ⟨RX2, TX2, rfl, Nat.le_of_ble_eq_true rfl, bw_X2, big_2 (i := 91) rfl rfl, rfl⟩
theorem fl_X11_331 : FL RX11 331 2 7 1 := ⟨RX2, TX2, rfl, Nat.le_of_ble_eq_true rfl, bw_X2, big_2 (i := 92) rfl rfl, rfl⟩
theorem fl_X2_49 : FL RX2 49 2 7 2 := ⟨RX2, TX2, rfl, Nat.le_of_ble_eq_true rfl, bw_X2, big_2 (i := 93) rfl rfl, rfl⟩
theorem fl_X11_334 : FL RX11 334 2 7 2 := ⟨RX2, TX2, rfl, Nat.le_of_ble_eq_true rfl, bw_X2, big_2 (i := 94) rfl rfl, rfl⟩
theorem fl_X2_39 : FL RX2 39 2 7 3 := ⟨RX2, TX2, rfl, Nat.le_of_ble_eq_true rfl, bw_X2, big_2 (i := 95) rfl rfl, rfl⟩
theorem fl_X11_337 : FL RX11 337 2 7 3 := ⟨RX2, TX2, rfl, Nat.le_of_ble_eq_true rfl, bw_X2, big_2 (i := 96) rfl rfl, rfl⟩
theorem fl_X2_43 : FL RX2 43 2 7 4 := ⟨RX2, TX2, rfl, Nat.le_of_ble_eq_true rfl, bw_X2, big_2 (i := 97) rfl rfl, rfl⟩
theorem fl_X11_340 : FL RX11 340 2 7 4 := ⟨RX2, TX2, rfl, Nat.le_of_ble_eq_true rfl, bw_X2, big_2 (i := 98) rfl rfl, rfl⟩
theorem fl_X2_11 : FL RX2 11 2 7 5 := ⟨RX2, TX2, rfl, Nat.le_of_ble_eq_true rfl, bw_X2, big_2 (i := 99) rfl rfl, rfl⟩
theorem fl_X2_15 : FL RX2 15 2 7 6 := ⟨RX2, TX2, rfl, Nat.le_of_ble_eq_true rfl, bw_X2, big_2 (i := 100) rfl rfl, rfl⟩
theorem fl_X8_11 : FL RX8 11 8 4 0 := ⟨RX8, TX8, rfl, Nat.le_of_ble_eq_true rfl, bw_X8, big_2 (i := 123) rfl rfl, rfl⟩
theorem fl_X11_377 : FL RX11 377 8 4 0 := ⟨RX8, TX8, rfl, Nat.le_of_ble_eq_true rfl, bw_X8, big_2 (i := 124) rfl rfl, rfl⟩
theorem fl_X8_15 : FL RX8 15 8 4 1 := ⟨RX8, TX8, rfl, Nat.le_of_ble_eq_true rfl, bw_X8, big_2 (i := 125) rfl rfl, rfl⟩
theorem fl_X11_369 : FL RX11 369 8 4 1 := ⟨RX8, TX8, rfl, Nat.le_of_ble_eq_true rfl, bw_X8, big_2 (i := 126) rfl rfl, rfl⟩
theorem fl_X8_19 : FL RX8 19 8 4 2 := ⟨RX8, TX8, rfl, Nat.le_of_ble_eq_true rfl, bw_X8, big_2 (i := 127) rfl rfl, rfl⟩
theorem fl_X8_23 : FL RX8 23 8 4 3 := ⟨RX8, TX8, rfl, Nat.le_of_ble_eq_true rfl, bw_X8, big_2 (i := 128) rfl rfl, rfl⟩
theorem fl_X11_401 : FL RX11 401 8 4 3 := ⟨RX8, TX8, rfl, Nat.le_of_ble_eq_true rfl, bw_X8, big_2 (i := 129) rfl rfl, rfl⟩
theorem fl_X11_10 : FL RX11 10 11 17 0 := ⟨RX11, TX11, rfl, Nat.le_of_ble_eq_true rfl, bw_X11, big_2 (i := 139) rfl rfl, rfl⟩
theorem fl_X11_19 : FL RX11 19 11 17 1 := ⟨RX11, TX11, rfl, Nat.le_of_ble_eq_true rfl, bw_X11, big_2 (i := 140) rfl rfl, rfl⟩
theorem fl_X11_28 : FL RX11 28 11 17 2 := ⟨RX11, TX11, rfl, Nat.le_of_ble_eq_true rfl, bw_X11, big_2 (i := 141) rfl rfl, rfl⟩
theorem fl_X11_37 : FL RX11 37 11 17 3 := ⟨RX11, TX11, rfl, Nat.le_of_ble_eq_true rfl, bw_X11, big_2 (i := 142) rfl rfl, rfl⟩
theorem fl_X11_46 : FL RX11 46 11 17 4 := ⟨RX11, TX11, rfl, Nat.le_of_ble_eq_true rfl, bw_X11, big_2 (i := 143) rfl rfl, rfl⟩
theorem fl_X11_53 : FL RX11 53 11 17 5 := ⟨RX11, TX11, rfl, Nat.le_of_ble_eq_true rfl, bw_X11, big_2 (i := 144) rfl rfl, rfl⟩
theorem fl_X11_60 : FL RX11 60 11 17 6 := ⟨RX11, TX11, rfl, Nat.le_of_ble_eq_true rfl, bw_X11, big_2 (i := 145) rfl rfl, rfl⟩
theorem fl_X11_69 : FL RX11 69 11 17 7 := ⟨RX11, TX11, rfl, Nat.le_of_ble_eq_true rfl, bw_X11, big_2 (i := 146) rfl rfl, rfl⟩
theorem fl_X11_76 : FL RX11 76 11 17 8 := ⟨RX11, TX11, rfl, Nat.le_of_ble_eq_true rfl, bw_X11, big_2 (i := 147) rfl rfl, rfl⟩
theorem fl_X11_82 : FL RX11 82 11 17 9 := ⟨RX11, TX11, rfl, Nat.le_of_ble_eq_true rfl, bw_X11, big_2 (i := 148) rfl rfl, rfl⟩
theorem fl_X11_87 : FL RX11 87 11 17 10 := ⟨RX11, TX11, rfl, Nat.le_of_ble_eq_true rfl, bw_X11, big_2 (i := 149) rfl rfl, rfl⟩
theorem fl_X11_91 : FL RX11 91 11 17 11 := ⟨RX11, TX11, rfl, Nat.le_of_ble_eq_true rfl, bw_X11, big_2 (i := 150) rfl rfl, rfl⟩
theorem fl_X11_94 : FL RX11 94 11 17 12 := ⟨RX11, TX11, rfl, Nat.le_of_ble_eq_true rfl, bw_X11, big_2 (i := 151) rfl rfl, rfl⟩
theorem fl_X11_97 : FL RX11 97 11 17 13 := ⟨RX11, TX11, rfl, Nat.le_of_ble_eq_true rfl, bw_X11, big_2 (i := 152) rfl rfl, rfl⟩
theorem fl_X11_100 : FL RX11 100 11 17 14 := ⟨RX11, TX11, rfl, Nat.le_of_ble_eq_true rfl, bw_X11, big_2 (i := 153) rfl rfl, rfl⟩
theorem fl_X11_351 : FL RX11 351 11 17 15 := ⟨RX11, TX11, rfl, Nat.le_of_ble_eq_true rfl, bw_X11, big_2 (i := 154) rfl rfl, rfl⟩
theorem fl_X11_387 : FL RX11 387 11 17 16 := ⟨RX11, TX11, rfl, Nat.le_of_ble_eq_true rfl, bw_X11, big_2 (i := 155) rfl rfl, rfl⟩
theorem fl_X12_132 : FL RX12 132 12 62 0 := ⟨RX12, TX12, rfl, Nat.le_of_ble_eq_true rfl, bw_X12, big_5 (i := 17) rfl rfl, rfl⟩
theorem fl_X12_7 : FL RX12 7 12 62 1 := ⟨RX12, TX12, rfl, Nat.le_of_ble_eq_true rfl, bw_X12, big_5 (i := 18) rfl rfl, rfl⟩
theorem fl_X12_141 : FL RX12 141 12 62 2 := ⟨RX12, TX12, rfl, Nat.le_of_ble_eq_true rfl, bw_X12, big_5 (i := 19) rfl rfl, rfl⟩
theorem fl_X12_204 : FL RX12 204 12 62 3 := ⟨RX12, TX12, rfl, Nat.le_of_ble_eq_true rfl, bw_X12, big_5 (i := 20) rfl rfl, rfl⟩
theorem fl_X12_144 : FL RX12 144 12 62 4 := ⟨RX12, TX12, rfl, Nat.le_of_ble_eq_true rfl, bw_X12, big_5 (i := 21) rfl rfl, rfl⟩
theorem fl_X12_150 : FL RX12 150 12 62 5 := ⟨RX12, TX12, rfl, Nat.le_of_ble_eq_true rfl, bw_X12, big_5 (i := 22) rfl rfl, rfl⟩
theorem fl_X12_153 : FL RX12 153 12 62 6 := ⟨RX12, TX12, rfl, Nat.le_of_ble_eq_true rfl, bw_X12, big_5 (i := 23) rfl rfl, rfl⟩
theorem fl_X12_147 : FL RX12 147 12 62 7 := ⟨RX12, TX12, rfl, Nat.le_of_ble_eq_true rfl, bw_X12, big_5 (i := 24) rfl rfl, rfl⟩
theorem fl_X12_163 : FL RX12 163 12 62 8 := ⟨RX12, TX12, rfl, Nat.le_of_ble_eq_true rfl, bw_X12, big_5 (i := 25) rfl rfl, rfl⟩
theorem fl_X12_160 : FL RX12 160 12 62 9 := ⟨RX12, TX12, rfl, Nat.le_of_ble_eq_true rfl, bw_X12, big_5 (i := 26) rfl rfl, rfl⟩
theorem fl_X12_13 : FL RX12 13 12 62 10 := ⟨RX12, TX12, rfl, Nat.le_of_ble_eq_true rfl, bw_X12, big_5 (i := 27) rfl rfl, rfl⟩
theorem fl_X12_16 : FL RX12 16 12 62 11 := ⟨RX12, TX12, rfl, Nat.le_of_ble_eq_true rfl, bw_X12, big_5 (i := 28) rfl rfl, rfl⟩
theorem fl_X12_207 : FL RX12 207 12 62 12 := ⟨RX12, TX12, rfl, Nat.le_of_ble_eq_true rfl, bw_X12, big_5 (i := 29) rfl rfl, rfl⟩
theorem fl_X12_19 : FL RX12 19 12 62 13 := ⟨RX12, TX12, rfl, Nat.le_of_ble_eq_true rfl, bw_X12, big_5 (i := 30) rfl rfl, rfl⟩
theorem fl_X12_22 : FL RX12 22 12 62 14 := ⟨RX12, TX12, rfl, Nat.le_of_ble_eq_true rfl, bw_X12, big_5 (i := 31) rfl rfl, rfl⟩
theorem fl_X12_25 : FL RX12 25 12 62 15 := ⟨RX12, TX12, rfl, Nat.le_of_ble_eq_true rfl, bw_X12, big_5 (i := 32) rfl rfl, rfl⟩
theorem fl_X12_28 : FL RX12 28 12 62 16 := ⟨RX12, TX12, rfl, Nat.le_of_ble_eq_true rfl, bw_X12, big_5 (i := 33) rfl rfl, rfl⟩
theorem fl_X12_31 : FL RX12 31 12 62 17 := ⟨RX12, TX12, rfl, Nat.le_of_ble_eq_true rfl, bw_X12, big_5 (i := 34) rfl rfl, rfl⟩
theorem fl_X12_181 : FL RX12 181 12 62 18 := ⟨RX12, TX12, rfl, Nat.le_of_ble_eq_true rfl, bw_X12, big_5 (i := 35) rfl rfl, rfl⟩
theorem fl_X12_34 : FL RX12 34 12 62 19 := ⟨RX12, TX12, rfl, Nat.le_of_ble_eq_true rfl, bw_X12, big_5 (i := 36) rfl rfl, rfl⟩
theorem fl_X12_37 : FL RX12 37 12 62 20 := ⟨RX12, TX12, rfl, Nat.le_of_ble_eq_true rfl, bw_X12, big_5 (i := 37) rfl rfl, rfl⟩
theorem fl_X12_40 : FL RX12 40 12 62 21 := ⟨RX12, TX12, rfl, Nat.le_of_ble_eq_true rfl, bw_X12, big_5 (i := 38) rfl rfl, rfl⟩
theorem fl_X12_43 : FL RX12 43 12 62 22 := ⟨RX12, TX12, rfl, Nat.le_of_ble_eq_true rfl, bw_X12, big_5 (i := 39) rfl rfl, rfl⟩
theorem fl_X12_46 : FL RX12 46 12 62 23 := ⟨RX12, TX12, rfl, Nat.le_of_ble_eq_true rfl, bw_X12, big_5 (i := 40) rfl rfl, rfl⟩
theorem fl_X12_232 : FL RX12 232 12 62 24 := ⟨RX12, TX12, rfl, Nat.le_of_ble_eq_true rfl, bw_X12, big_5 (i := 41) rfl rfl, rfl⟩
theorem fl_X12_49 : FL RX12 49 12 62 25 := ⟨RX12, TX12, rfl, Nat.le_of_ble_eq_true rfl, bw_X12, big_5 (i := 42) rfl rfl, rfl⟩
theorem fl_X12_52 : FL RX12 52 12 62 26 := ⟨RX12, TX12, rfl, Nat.le_of_ble_eq_true rfl, bw_X12, big_5 (i := 43) rfl rfl, rfl⟩
theorem fl_X12_55 : FL RX12 55 12 62 27 := ⟨RX12, TX12, rfl, Nat.le_of_ble_eq_true rfl, bw_X12, big_5 (i := 44) rfl rfl, rfl⟩
theorem fl_X12_58 : FL RX12 58 12 62 28 := ⟨RX12, TX12, rfl, Nat.le_of_ble_eq_true rfl, bw_X12, big_5 (i := 45) rfl rfl, rfl⟩
theorem fl_X12_61 : FL RX12 61 12 62 29 := ⟨RX12, TX12, rfl, Nat.le_of_ble_eq_true rfl, bw_X12, big_5 (i := 46) rfl rfl, rfl⟩
theorem fl_X12_64 : FL RX12 64 12 62 30 := ⟨RX12, TX12, rfl, Nat.le_of_ble_eq_true rfl, bw_X12, big_5 (i := 47) rfl rfl, rfl⟩
theorem fl_X12_67 : FL RX12 67 12 62 31 := ⟨RX12, TX12, rfl, Nat.le_of_ble_eq_true rfl, bw_X12, big_5 (i := 48) rfl rfl, rfl⟩
theorem fl_X12_70 : FL RX12 70 12 62 32 := ⟨RX12, TX12, rfl, Nat.le_of_ble_eq_true rfl, bw_X12, big_5 (i := 49) rfl rfl, rfl⟩
theorem fl_X12_271 : FL RX12 271 12 62 33 := ⟨RX12, TX12, rfl, Nat.le_of_ble_eq_true rfl, bw_X12, big_5 (i := 50) rfl rfl, rfl⟩
theorem fl_X12_73 : FL RX12 73 12 62 34 := ⟨RX12, TX12, rfl, Nat.le_of_ble_eq_true rfl, bw_X12, big_5 (i := 51) rfl rfl, rfl⟩
theorem fl_X12_76 : FL RX12 76 12 62 35 := ⟨RX12, TX12, rfl, Nat.le_of_ble_eq_true rfl, bw_X12, big_5 (i := 52) rfl rfl, rfl⟩
theorem fl_X12_79 : FL RX12 79 12 62 36 := ⟨RX12, TX12, rfl, Nat.le_of_ble_eq_true rfl, bw_X12, big_5 (i := 53) rfl rfl, rfl⟩
theorem fl_X12_82 : FL RX12 82 12 62 37 := ⟨RX12, TX12, rfl, Nat.le_of_ble_eq_true rfl, bw_X12, big_5 (i := 54) rfl rfl, rfl⟩
theorem fl_X12_338 : FL RX12 338 12 62 38 := ⟨RX12, TX12, rfl, Nat.le_of_ble_eq_true rfl, bw_X12, big_5 (i := 55) rfl rfl, rfl⟩
theorem fl_X12_86 : FL RX12 86 12 62 39 := ⟨RX12, TX12, rfl, Nat.le_of_ble_eq_true rfl, bw_X12, big_5 (i := 56) rfl rfl, rfl⟩
theorem fl_X12_90 : FL RX12 90 12 62 40 := ⟨RX12, TX12, rfl, Nat.le_of_ble_eq_true rfl, bw_X12, big_5 (i := 57) rfl rfl, rfl⟩
theorem fl_X12_93 : FL RX12 93 12 62 41 := ⟨RX12, TX12, rfl, Nat.le_of_ble_eq_true rfl, bw_X12, big_5 (i := 58) rfl rfl, rfl⟩
theorem fl_X12_96 : FL RX12 96 12 62 42 := ⟨RX12, TX12, rfl, Nat.le_of_ble_eq_true rfl, bw_X12, big_5 (i := 59) rfl rfl, rfl⟩
theorem fl_X12_290 : FL RX12 290 12 62 43 := ⟨RX12, TX12, rfl, Nat.le_of_ble_eq_true rfl, bw_X12, big_5 (i := 60) rfl rfl, rfl⟩
theorem fl_X12_99 : FL RX12 99 12 62 44 := ⟨RX12, TX12, rfl, Nat.le_of_ble_eq_true rfl, bw_X12, big_5 (i := 61) rfl rfl, rfl⟩
theorem fl_X12_293 : FL RX12 293 12 62 45 := ⟨RX12, TX12, rfl, Nat.le_of_ble_eq_true rfl, bw_X12, big_5 (i := 62) rfl rfl, rfl⟩
theorem fl_X12_102 : FL RX12 102 12 62 46 := ⟨RX12, TX12, rfl, Nat.le_of_ble_eq_true rfl, bw_X12, big_5 (i := 63) rfl rfl, rfl⟩
theorem fl_X12_311 : FL RX12 311 12 62 47 := ⟨RX12, TX12, rfl, Nat.le_of_ble_eq_true rfl, bw_X12, big_5 (i := 64) rfl rfl, rfl⟩
theorem fl_X12_105 : FL RX12 105 12 62 48 := ⟨RX12, TX12, rfl, Nat.le_of_ble_eq_true rfl, bw_X12, big_5 (i := 65) rfl rfl, rfl⟩
theorem fl_X12_354 : FL RX12 354 12 62 49 := ⟨RX12, TX12, rfl, Nat.le_of_ble_eq_true rfl, bw_X12, big_5 (i := 66) rfl rfl, rfl⟩
theorem fl_X12_357 : FL RX12 357 12 62 50 := ⟨RX12, TX12, rfl, Nat.le_of_ble_eq_true rfl, bw_X12, big_5 (i := 67) rfl rfl, rfl⟩
theorem fl_X12_351 : FL RX12 351 12 62 51 := ⟨RX12, TX12, rfl, Nat.le_of_ble_eq_true rfl, bw_X12, big_5 (i := 68) rfl rfl, rfl⟩
theorem fl_X12_363 : FL RX12 363 12 62 52 := ⟨RX12, TX12, rfl, Nat.le_of_ble_eq_true rfl, bw_X12, big_5 (i := 69) rfl rfl, rfl⟩
theorem fl_X12_108 : FL RX12 108 12 62 53 := ⟨RX12, TX12, rfl, Nat.le_of_ble_eq_true rfl, bw_X12, big_5 (i := 70) rfl rfl, rfl⟩
theorem fl_X12_111 : FL RX12 111 12 62 54 := ⟨RX12, TX12, rfl, Nat.le_of_ble_eq_true rfl, bw_X12, big_5 (i := 71) rfl rfl, rfl⟩
theorem fl_X12_114 : FL RX12 114 12 62 55 := ⟨RX12, TX12, rfl, Nat.le_of_ble_eq_true rfl, bw_X12, big_5 (i := 72) rfl rfl, rfl⟩
theorem fl_X12_117 : FL RX12 117 12 62 56 := ⟨RX12, TX12, rfl, Nat.le_of_ble_eq_true rfl, bw_X12, big_5 (i := 73) rfl rfl, rfl⟩
theorem fl_X12_120 : FL RX12 120 12 62 57 := ⟨RX12, TX12, rfl, Nat.le_of_ble_eq_true rfl, bw_X12, big_5 (i := 74) rfl rfl, rfl⟩
theorem fl_X12_123 : FL RX12 123 12 62 58 := ⟨RX12, TX12, rfl, Nat.le_of_ble_eq_true rfl, bw_X12, big_5 (i := 75) rfl rfl, rfl⟩
theorem fl_X12_126 : FL RX12 126 12 62 59 := ⟨RX12, TX12, rfl, Nat.le_of_ble_eq_true rfl, bw_X12, big_5 (i := 76) rfl rfl, rfl⟩
theorem fl_X12_371 : FL RX12 371 12 62 60 := ⟨RX12, TX12, rfl, Nat.le_of_ble_eq_true rfl, bw_X12, big_5 (i := 77) rfl rfl, rfl⟩
theorem fl_X12_129 : FL RX12 129 12 62 61 := ⟨RX12, TX12, rfl, Nat.le_of_ble_eq_true rfl, bw_X12, big_5 (i := 78) rfl rfl, rfl⟩
theorem fp_X0_2 : FP 0 10 2 .int := ⟨RX0, TX0, tyX0, rfl, tyX0_ok, nmX0, rfl, rfl⟩
theorem fp_X0_4 : FP 0 10 4 .int := ⟨RX0, TX0, tyX0, rfl, tyX0_ok, nmX0, rfl, rfl⟩
theorem fp_X0_9 : FP 0 10 9 .int := ⟨RX0, TX0, tyX0, rfl, tyX0_ok, nmX0, rfl, rfl⟩
theorem fp_X1_0 : FP 1 8 0 .int := ⟨RX1, TX1, tyX1, rfl, tyX1_ok, nmX1, rfl, rfl⟩
theorem fp_X1_1 : FP 1 8 1 .int := ⟨RX1, TX1, tyX1, rfl, tyX1_ok, nmX1, rfl, rfl⟩
theorem fp_X1_2 : FP 1 8 2 .int := ⟨RX1, TX1, tyX1, rfl, tyX1_ok, nmX1, rfl, rfl⟩
theorem fp_X1_3 : FP 1 8 3 .int := ⟨RX1, TX1, tyX1, rfl, tyX1_ok, nmX1, rfl, rfl⟩
theorem fp_X1_4 : FP 1 8 4 .int := ⟨RX1, TX1, tyX1, rfl, tyX1_ok, nmX1, rfl, rfl⟩
theorem fp_X1_5 : FP 1 8 5 .int := ⟨RX1, TX1, tyX1, rfl, tyX1_ok, nmX1, rfl, rfl⟩
theorem fp_X2_1 : FP 2 7 1 .int := ⟨RX2, TX2, tyX2, rfl, tyX2_ok, nmX2, rfl, rfl⟩
theorem fp_X2_2 : FP 2 7 2 .int := ⟨RX2, TX2, tyX2, rfl, tyX2_ok, nmX2, rfl, rfl⟩
theorem fp_X2_3 : FP 2 7 3 .int := ⟨RX2, TX2, tyX2, rfl, tyX2_ok, nmX2, rfl, rfl⟩
theorem fp_X2_4 : FP 2 7 4 .int := ⟨RX2, TX2, tyX2, rfl, tyX2_ok, nmX2, rfl, rfl⟩
theorem fp_X3_1 : FP 3 6 1 .int := ⟨RX3, TX3, tyX3, rfl, tyX3_ok, nmX3, rfl, rfl⟩
theorem fp_X3_3 : FP 3 6 3 .int := ⟨RX3, TX3, tyX3, rfl, tyX3_ok, nmX3, rfl, rfl⟩
theorem fp_X3_4 : FP 3 6 4 .int := ⟨RX3, TX3, tyX3, rfl, tyX3_ok, nmX3, rfl, rfl⟩
theorem fp_X4_2 : FP 4 4 2 .int := ⟨RX4, TX4, tyX4, rfl, tyX4_ok, nmX4, rfl, rfl⟩
theorem fp_X4_3 : FP 4 4 3 .int := ⟨RX4, TX4, tyX4, rfl, tyX4_ok, nmX4, rfl, rfl⟩
theorem fp_X5_2 : FP 5 3 2 .int := ⟨RX5, TX5, tyX5, rfl, tyX5_ok, nmX5, rfl, rfl⟩
theorem fp_X6_2 : FP 6 7 2 .int := ⟨RX6, TX6, tyX6, rfl, tyX6_ok, nmX6, rfl, rfl⟩
theorem fp_X6_3 : FP 6 7 3 .int := ⟨RX6, TX6, tyX6, rfl, tyX6_ok, nmX6, rfl, rfl⟩
theorem fp_X6_4 : FP 6 7 4 .int := ⟨RX6, TX6, tyX6, rfl, tyX6_ok, nmX6, rfl, rfl⟩
theorem fp_X6_5 : FP 6 7 5 .int := ⟨RX6, TX6, tyX6, rfl, tyX6_ok, nmX6, rfl, rfl⟩
theorem fp_X6_6 : FP 6 7 6 .int := ⟨RX6, TX6, tyX6, rfl, tyX6_ok, nmX6, rfl, rfl⟩
theorem fp_X7_4 : FP 7 5 4 .int := ⟨RX7, TX7, tyX7, rfl, tyX7_ok, nmX7, rfl, rfl⟩
theorem fp_X8_1 : FP 8 4 1 .boolean := ⟨RX8, TX8, tyX8, rfl, tyX8_ok, nmX8, rfl, rfl⟩
theorem fp_X8_2 : FP 8 4 2 .int := ⟨RX8, TX8, tyX8, rfl, tyX8_ok, nmX8, rfl, rfl⟩
theorem fp_X8_3 : FP 8 4 3 .int := ⟨RX8, TX8, tyX8, rfl, tyX8_ok, nmX8, rfl, rfl⟩
theorem fp_X9_1 : FP 9 2 1 .int := ⟨RX9, TX9, tyX9, rfl, tyX9_ok, nmX9, rfl, rfl⟩
theorem fp_X10_0 : FP 10 7 0 .boolean := ⟨RX10, TX10, tyX10, rfl, tyX10_ok, nmX10, rfl, rfl⟩
theorem fp_X10_1 : FP 10 7 1 .int := ⟨RX10, TX10, tyX10, rfl, tyX10_ok, nmX10, rfl, rfl⟩
theorem fp_X10_5 : FP 10 7 5 .int := ⟨RX10, TX10, tyX10, rfl, tyX10_ok, nmX10, rfl, rfl⟩
theorem fp_X10_6 : FP 10 7 6 .int := ⟨RX10, TX10, tyX10, rfl, tyX10_ok, nmX10, rfl, rfl⟩
theorem fp_X11_15 : FP 11 17 15 .int := ⟨RX11, TX11, tyX11, rfl, tyX11_ok, nmX11, rfl, rfl⟩
theorem fp_X11_16 : FP 11 17 16 .int := ⟨RX11, TX11, tyX11, rfl, tyX11_ok, nmX11, rfl, rfl⟩
theorem fp_X12_0 : FP 12 62 0 .int := ⟨RX12, TX12, tyX12, rfl, tyX12_ok, nmX12, rfl, rfl⟩
theorem fp_X12_2 : FP 12 62 2 .int := ⟨RX12, TX12, tyX12, rfl, tyX12_ok, nmX12, rfl, rfl⟩
theorem fp_X12_3 : FP 12 62 3 .int := ⟨RX12, TX12, tyX12, rfl, tyX12_ok, nmX12, rfl, rfl⟩
theorem fp_X12_4 : FP 12 62 4 .int := ⟨RX12, TX12, tyX12, rfl, tyX12_ok, nmX12, rfl, rfl⟩
theorem fp_X12_5 : FP 12 62 5 .int := ⟨RX12, TX12, tyX12, rfl, tyX12_ok, nmX12, rfl, rfl⟩
theorem fp_X12_6 : FP 12 62 6 .int := ⟨RX12, TX12, tyX12, rfl, tyX12_ok, nmX12, rfl, rfl⟩
theorem fp_X12_7 : FP 12 62 7 .int := ⟨RX12, TX12, tyX12, rfl, tyX12_ok, nmX12, rfl, rfl⟩
theorem fp_X12_8 : FP 12 62 8 .int := ⟨RX12, TX12, tyX12, rfl, tyX12_ok, nmX12, rfl, rfl⟩
theorem fp_X12_9 : FP 12 62 9 .int := ⟨RX12, TX12, tyX12, rfl, tyX12_ok, nmX12, rfl, rfl⟩
theorem fp_X12_12 : FP 12 62 12 .int := ⟨RX12, TX12, tyX12, rfl, tyX12_ok, nmX12, rfl, rfl⟩
theorem fp_X12_18 : FP 12 62 18 .int := ⟨RX12, TX12, tyX12, rfl, tyX12_ok, nmX12, rfl, rfl⟩
theorem fp_X12_24 : FP 12 62 24 .int := ⟨RX12, TX12, tyX12, rfl, tyX12_ok, nmX12, rfl, rfl⟩
theorem fp_X12_33 : FP 12 62 33 .int := ⟨RX12, TX12, tyX12, rfl, tyX12_ok, nmX12, rfl, rfl⟩
theorem fp_X12_38 : FP 12 62 38 .int := ⟨RX12, TX12, tyX12, rfl, tyX12_ok, nmX12, rfl, rfl⟩
theorem fp_X12_39 : FP 12 62 39 .int := ⟨RX12, TX12, tyX12, rfl, tyX12_ok, nmX12, rfl, rfl⟩
theorem fp_X12_43 : FP 12 62 43 .int := ⟨RX12, TX12, tyX12, rfl, tyX12_ok, nmX12, rfl, rfl⟩
theorem fp_X12_45 : FP 12 62 45 .int := ⟨RX12, TX12, tyX12, rfl, tyX12_ok, nmX12, rfl, rfl⟩
theorem fp_X12_47 : FP 12 62 47 .int := ⟨RX12, TX12, tyX12, rfl, tyX12_ok, nmX12, rfl, rfl⟩
theorem fp_X12_49 : FP 12 62 49 .int := ⟨RX12, TX12, tyX12, rfl, tyX12_ok, nmX12, rfl, rfl⟩
theorem fp_X12_50 : FP 12 62 50 .int := ⟨RX12, TX12, tyX12, rfl, tyX12_ok, nmX12, rfl, rfl⟩
theorem fp_X12_51 : FP 12 62 51 .int := ⟨RX12, TX12, tyX12, rfl, tyX12_ok, nmX12, rfl, rfl⟩
theorem fp_X12_52 : FP 12 62 52 .int := ⟨RX12, TX12, tyX12, rfl, tyX12_ok, nmX12, rfl, rfl⟩
theorem fp_X12_60 : FP 12 62 60 .int := ⟨RX12, TX12, tyX12, rfl, tyX12_ok, nmX12, rfl, rfl⟩
theorem co_X11_init : Cond.code yX11_init cX11_init 2 none ∈ BIG := big_1 (i := 24) rfl rfl
theorem im_X11_init : Cond.instanceMethod yX11_init ∈ BIG := big_1 (i := 23) rfl rfl
theorem co_X9_init : Cond.code yX9_init cX9_init 1 none ∈ BIG := big_1 (i := 32) rfl rfl
theorem im_X9_init : Cond.instanceMethod yX9_init ∈ BIG := big_1 (i := 31) rfl rfl
theorem co_X7_init : Cond.code yX7_init cX7_init 1 none ∈ BIG := big_1 (i := 48) rfl rfl
theorem im_X7_init : Cond.instanceMethod yX7_init ∈ BIG := big_1 (i := 47) rfl rfl
theorem co_X6_init : Cond.code yX6_init cX6_init 2 none ∈ BIG := big_1 (i := 73) rfl rfl
theorem im_X6_init : Cond.instanceMethod yX6_init ∈ BIG := big_1 (i := 72) rfl rfl
theorem co_X5_init : Cond.code yX5_init cX5_init 2 none ∈ BIG := big_1 (i := 106) rfl rfl
theorem im_X5_init : Cond.instanceMethod yX5_init ∈ BIG := big_1 (i := 105) rfl rfl
theorem co_X5_refresh : Cond.code yX5_refresh cX5_refresh 2 none ∈ BIG := big_1 (i := 111) rfl rfl
theorem me_X5_refresh : ME RX5 yX5_refresh cX5_refresh 2 none := ⟨rfl, big_1 (i := 109) rfl rfl, big_1 (i := 110) rfl rfl, in_X5, co_X5_refresh⟩
theorem co_X7_value : Cond.code yX7_value cX7_value 5 (some .int) ∈ BIG := big_1 (i := 115) rfl rfl
theorem me_X7_value : ME RX7 yX7_value cX7_value 5 (some .int) := ⟨rfl, big_1 (i := 113) rfl rfl, big_1 (i := 114) rfl rfl, in_X7, co_X7_value⟩
theorem co_X7_latest : Cond.code yX7_latest cX7_latest 6 (some .int) ∈ BIG := big_1 (i := 119) rfl rfl
theorem me_X7_latest : ME RX7 yX7_latest cX7_latest 6 (some .int) := ⟨rfl, big_1 (i := 118) rfl rfl, big_in (i := 0) (by decide +kernel) rfl, in_X7, co_X7_latest⟩
theorem co_X7_usual : Cond.code yX7_usual cX7_usual 1 (some .int) ∈ BIG := big_1 (i := 122) rfl rfl
theorem me_X7_usual : MS yX7_usual cX7_usual 1 (some .int) := ⟨big_1 (i := 121) rfl rfl, in_X7, co_X7_usual⟩
theorem co_X0_init : Cond.code yX0_init cX0_init 3 none ∈ BIG := big_1 (i := 141) rfl rfl
theorem im_X0_init : Cond.instanceMethod yX0_init ∈ BIG := big_1 (i := 140) rfl rfl
theorem co_X1_init : Cond.code yX1_init cX1_init 1 none ∈ BIG := big_1 (i := 148) rfl rfl
theorem im_X1_init : Cond.instanceMethod yX1_init ∈ BIG := big_1 (i := 147) rfl rfl
theorem co_X10_init : Cond.code yX10_init cX10_init 1 none ∈ BIG := big_2 (i := 0) rfl rfl
theorem im_X10_init : Cond.instanceMethod yX10_init ∈ BIG := big_1 (i := 239) rfl rfl
theorem co_X3_init : Cond.code yX3_init cX3_init 1 none ∈ BIG := big_2 (i := 36) rfl rfl
theorem im_X3_init : Cond.instanceMethod yX3_init ∈ BIG := big_2 (i := 35) rfl rfl
theorem co_X4_init : Cond.code yX4_init cX4_init 2 none ∈ BIG := big_2 (i := 66) rfl rfl
theorem im_X4_init : Cond.instanceMethod yX4_init ∈ BIG := big_2 (i := 65) rfl rfl
theorem co_X2_init : Cond.code yX2_init cX2_init 2 none ∈ BIG := big_2 (i := 88) rfl rfl
theorem im_X2_init : Cond.instanceMethod yX2_init ∈ BIG := big_2 (i := 87) rfl rfl
theorem co_X8_init : Cond.code yX8_init cX8_init 1 none ∈ BIG := big_2 (i := 121) rfl rfl
theorem im_X8_init : Cond.instanceMethod yX8_init ∈ BIG := big_2 (i := 120) rfl rfl
theorem co_X11_day : Cond.code yX11_day cX11_day 3 (some .int) ∈ BIG := big_2 (i := 194) rfl rfl
theorem me_X11_day : ME RX11 yX11_day cX11_day 3 (some .int) := ⟨rfl, big_2 (i := 192) rfl rfl, big_2 (i := 193) rfl rfl, in_X11, co_X11_day⟩
theorem co_X11_isDay : Cond.code yX11_isDay cX11_isDay 1 (some .boolean) ∈ BIG := big_2 (i := 197) rfl rfl
theorem me_X11_isDay : MS yX11_isDay cX11_isDay 1 (some .boolean) := ⟨big_2 (i := 196) rfl rfl, in_X11, co_X11_isDay⟩
theorem co_X11_feed : Cond.code yX11_feed cX11_feed 3 (some .int) ∈ BIG := big_2 (i := 202) rfl rfl
theorem me_X11_feed : ME RX11 yX11_feed cX11_feed 3 (some .int) := ⟨rfl, big_2 (i := 200) rfl rfl, big_2 (i := 201) rfl rfl, in_X11, co_X11_feed⟩
theorem co_X9_add : Cond.code yX9_add cX9_add 4 (some .boolean) ∈ BIG := big_2 (i := 206) rfl rfl
theorem me_X9_add : ME RX9 yX9_add cX9_add 4 (some .boolean) := ⟨rfl, big_2 (i := 204) rfl rfl, big_2 (i := 205) rfl rfl, in_X9, co_X9_add⟩
theorem co_X11_end : Cond.code yX11_end cX11_end 3 (some .int) ∈ BIG := big_2 (i := 210) rfl rfl
theorem me_X11_end : ME RX11 yX11_end cX11_end 3 (some .int) := ⟨rfl, big_2 (i := 208) rfl rfl, big_2 (i := 209) rfl rfl, in_X11, co_X11_end⟩
theorem co_X11_text : Cond.code yX11_text cX11_text 2 (some .int) ∈ BIG := big_2 (i := 214) rfl rfl
theorem me_X11_text : ME RX11 yX11_text cX11_text 2 (some .int) := ⟨rfl, big_2 (i := 212) rfl rfl, big_2 (i := 213) rfl rfl, in_X11, co_X11_text⟩
theorem co_X6_readText : Cond.code yX6_readText cX6_readText 2 (some .boolean) ∈ BIG := big_2 (i := 218) rfl rfl
theorem me_X6_readText : ME RX6 yX6_readText cX6_readText 2 (some .boolean) := ⟨rfl, big_2 (i := 216) rfl rfl, big_2 (i := 217) rfl rfl, in_X6, co_X6_readText⟩
theorem co_X6_step : Cond.code yX6_step cX6_step 2 none ∈ BIG := big_2 (i := 222) rfl rfl
theorem me_X6_step : ME RX6 yX6_step cX6_step 2 none := ⟨rfl, big_2 (i := 221) rfl rfl, big_in (i := 1) (by decide +kernel) rfl, in_X6, co_X6_step⟩
theorem co_X9_signAt : Cond.code yX9_signAt cX9_signAt 2 (some .int) ∈ BIG := big_2 (i := 226) rfl rfl
theorem me_X9_signAt : ME RX9 yX9_signAt cX9_signAt 2 (some .int) := ⟨rfl, big_2 (i := 224) rfl rfl, big_2 (i := 225) rfl rfl, in_X9, co_X9_signAt⟩
theorem co_X6_isLow : Cond.code yX6_isLow cX6_isLow 1 (some .boolean) ∈ BIG := big_2 (i := 229) rfl rfl
theorem me_X6_isLow : MS yX6_isLow cX6_isLow 1 (some .boolean) := ⟨big_2 (i := 228) rfl rfl, in_X6, co_X6_isLow⟩
theorem co_X6_stepName : Cond.code yX6_stepName cX6_stepName 1 none ∈ BIG := big_2 (i := 233) rfl rfl
theorem me_X6_stepName : ME RX6 yX6_stepName cX6_stepName 1 none := ⟨rfl, big_2 (i := 232) rfl rfl, big_in (i := 2) (by decide +kernel) rfl, in_X6, co_X6_stepName⟩
theorem co_X6_isFigure : Cond.code yX6_isFigure cX6_isFigure 1 (some .boolean) ∈ BIG := big_2 (i := 236) rfl rfl
theorem me_X6_isFigure : MS yX6_isFigure cX6_isFigure 1 (some .boolean) := ⟨big_2 (i := 235) rfl rfl, in_X6, co_X6_isFigure⟩
theorem co_X6_stepNumber : Cond.code yX6_stepNumber cX6_stepNumber 1 none ∈ BIG := big_3 (i := 0) rfl rfl
theorem me_X6_stepNumber : ME RX6 yX6_stepNumber cX6_stepNumber 1 none := ⟨rfl, big_2 (i := 239) rfl rfl, big_in (i := 3) (by decide +kernel) rfl, in_X6, co_X6_stepNumber⟩
theorem co_X6_fail : Cond.code yX6_fail cX6_fail 2 none ∈ BIG := big_3 (i := 4) rfl rfl
theorem me_X6_fail : ME RX6 yX6_fail cX6_fail 2 none := ⟨rfl, big_3 (i := 3) rfl rfl, big_in (i := 4) (by decide +kernel) rfl, in_X6, co_X6_fail⟩
theorem co_X6_isName : Cond.code yX6_isName cX6_isName 3 (some .boolean) ∈ BIG := big_3 (i := 9) rfl rfl
theorem me_X6_isName : ME RX6 yX6_isName cX6_isName 3 (some .boolean) := ⟨rfl, big_3 (i := 8) rfl rfl, big_in (i := 5) (by decide +kernel) rfl, in_X6, co_X6_isName⟩
theorem co_J0_length_8abf5 : Cond.code yJ0_length_8abf5 cJ0_length_8abf5 1 (some .int) ∈ BIG := big_3 (i := 13) rfl rfl
theorem me_J0_length_8abf5 : ME RJ0 yJ0_length_8abf5 cJ0_length_8abf5 1 (some .int) := ⟨rfl, big_3 (i := 11) rfl rfl, big_3 (i := 12) rfl rfl, in_J0, co_J0_length_8abf5⟩
theorem co_J0_coder_7d493 : Cond.code yJ0_coder_7d493 cJ0_coder_7d493 1 (some .byte) ∈ BIG := big_3 (i := 17) rfl rfl
theorem me_J0_coder_7d493 : ME RJ0 yJ0_coder_7d493 cJ0_coder_7d493 1 (some .byte) := ⟨rfl, big_3 (i := 15) rfl rfl, big_3 (i := 16) rfl rfl, in_J0, co_J0_coder_7d493⟩
theorem co_J0_charAt_5068e : Cond.code yJ0_charAt_5068e cJ0_charAt_5068e 2 (some .char) ∈ BIG := big_3 (i := 23) rfl rfl
theorem me_J0_charAt_5068e : ME RJ0 yJ0_charAt_5068e cJ0_charAt_5068e 2 (some .char) := ⟨rfl, big_3 (i := 21) rfl rfl, big_3 (i := 22) rfl rfl, in_J0, co_J0_charAt_5068e⟩
theorem co_J0_isLatin1_aae02 : Cond.code yJ0_isLatin1_aae02 cJ0_isLatin1_aae02 1 (some .boolean) ∈ BIG := big_3 (i := 27) rfl rfl
theorem me_J0_isLatin1_aae02 : ME RJ0 yJ0_isLatin1_aae02 cJ0_isLatin1_aae02 1 (some .boolean) := ⟨rfl, big_3 (i := 25) rfl rfl, big_3 (i := 26) rfl rfl, in_J0, co_J0_isLatin1_aae02⟩
theorem co_J1_charAt_3b067 : Cond.code yJ1_charAt_3b067 cJ1_charAt_3b067 2 (some .char) ∈ BIG := big_3 (i := 30) rfl rfl
theorem me_J1_charAt_3b067 : MS yJ1_charAt_3b067 cJ1_charAt_3b067 2 (some .char) := ⟨big_3 (i := 29) rfl rfl, in_J1, co_J1_charAt_3b067⟩
theorem co_J0_checkIndex_df160 : Cond.code yJ0_checkIndex_df160 cJ0_checkIndex_df160 2 none ∈ BIG := big_3 (i := 33) rfl rfl
theorem me_J0_checkIndex_df160 : MS yJ0_checkIndex_df160 cJ0_checkIndex_df160 2 none := ⟨big_3 (i := 32) rfl rfl, in_J0, co_J0_checkIndex_df160⟩
theorem co_J3_checkIndex_8e157 : Cond.code yJ3_checkIndex_8e157 cJ3_checkIndex_8e157 3 (some .int) ∈ BIG := big_3 (i := 38) rfl rfl
theorem me_J3_checkIndex_8e157 : MS yJ3_checkIndex_8e157 cJ3_checkIndex_8e157 3 (some .int) := ⟨big_3 (i := 37) rfl rfl, in_J3, co_J3_checkIndex_8e157⟩
theorem co_J2_charAt_3b067 : Cond.code yJ2_charAt_3b067 cJ2_charAt_3b067 2 (some .char) ∈ BIG := big_3 (i := 41) rfl rfl
theorem me_J2_charAt_3b067 : MS yJ2_charAt_3b067 cJ2_charAt_3b067 2 (some .char) := ⟨big_3 (i := 40) rfl rfl, in_J2, co_J2_charAt_3b067⟩
theorem co_J2_checkIndex_2214a : Cond.code yJ2_checkIndex_2214a cJ2_checkIndex_2214a 2 none ∈ BIG := big_3 (i := 44) rfl rfl
theorem me_J2_checkIndex_2214a : MS yJ2_checkIndex_2214a cJ2_checkIndex_2214a 2 none := ⟨big_3 (i := 43) rfl rfl, in_J2, co_J2_checkIndex_2214a⟩
theorem co_J2_length_9d52b : Cond.code yJ2_length_9d52b cJ2_length_9d52b 1 (some .int) ∈ BIG := big_3 (i := 47) rfl rfl
theorem me_J2_length_9d52b : MS yJ2_length_9d52b cJ2_length_9d52b 1 (some .int) := ⟨big_3 (i := 46) rfl rfl, in_J2, co_J2_length_9d52b⟩
theorem co_J2_getChar_3b067 : Cond.code yJ2_getChar_3b067 cJ2_getChar_3b067 2 (some .char) ∈ BIG := big_3 (i := 51) rfl rfl
theorem me_J2_getChar_3b067 : MS yJ2_getChar_3b067 cJ2_getChar_3b067 2 (some .char) := ⟨big_3 (i := 50) rfl rfl, in_J2, co_J2_getChar_3b067⟩
theorem co_X6_isRule : Cond.code yX6_isRule cX6_isRule 1 (some .boolean) ∈ BIG := big_3 (i := 61) rfl rfl
theorem me_X6_isRule : ME RX6 yX6_isRule cX6_isRule 1 (some .boolean) := ⟨rfl, big_3 (i := 60) rfl rfl, big_in (i := 6) (by decide +kernel) rfl, in_X6, co_X6_isRule⟩
theorem co_X6_readLine : Cond.code yX6_readLine cX6_readLine 5 none ∈ BIG := big_3 (i := 70) rfl rfl
theorem me_X6_readLine : ME RX6 yX6_readLine cX6_readLine 5 none := ⟨rfl, big_3 (i := 69) rfl rfl, big_in (i := 7) (by decide +kernel) rfl, in_X6, co_X6_readLine⟩
theorem co_X6_takeNumber : Cond.code yX6_takeNumber cX6_takeNumber 4 (some .int) ∈ BIG := big_3 (i := 74) rfl rfl
theorem me_X6_takeNumber : ME RX6 yX6_takeNumber cX6_takeNumber 4 (some .int) := ⟨rfl, big_3 (i := 73) rfl rfl, big_in (i := 8) (by decide +kernel) rfl, in_X6, co_X6_takeNumber⟩
theorem co_X6_needNumber : Cond.code yX6_needNumber cX6_needNumber 3 (some .int) ∈ BIG := big_3 (i := 78) rfl rfl
theorem me_X6_needNumber : ME RX6 yX6_needNumber cX6_needNumber 3 (some .int) := ⟨rfl, big_3 (i := 77) rfl rfl, big_in (i := 9) (by decide +kernel) rfl, in_X6, co_X6_needNumber⟩
theorem co_X6_takeLetter : Cond.code yX6_takeLetter cX6_takeLetter 5 (some .int) ∈ BIG := big_3 (i := 82) rfl rfl
theorem me_X6_takeLetter : ME RX6 yX6_takeLetter cX6_takeLetter 5 (some .int) := ⟨rfl, big_3 (i := 81) rfl rfl, big_in (i := 10) (by decide +kernel) rfl, in_X6, co_X6_takeLetter⟩
theorem co_X11_isMeasure : Cond.code yX11_isMeasure cX11_isMeasure 1 (some .boolean) ∈ BIG := big_3 (i := 85) rfl rfl
theorem me_X11_isMeasure : MS yX11_isMeasure cX11_isMeasure 1 (some .boolean) := ⟨big_3 (i := 84) rfl rfl, in_X11, co_X11_isMeasure⟩
theorem co_X6_needNew : Cond.code yX6_needNew cX6_needNew 3 none ∈ BIG := big_3 (i := 89) rfl rfl
theorem me_X6_needNew : ME RX6 yX6_needNew cX6_needNew 3 none := ⟨rfl, big_3 (i := 88) rfl rfl, big_in (i := 11) (by decide +kernel) rfl, in_X6, co_X6_needNew⟩
theorem co_X7_isThere : Cond.code yX7_isThere cX7_isThere 4 (some .boolean) ∈ BIG := big_3 (i := 93) rfl rfl
theorem me_X7_isThere : ME RX7 yX7_isThere cX7_isThere 4 (some .boolean) := ⟨rfl, big_3 (i := 91) rfl rfl, big_3 (i := 92) rfl rfl, in_X7, co_X7_isThere⟩
theorem co_X6_takeStop : Cond.code yX6_takeStop cX6_takeStop 5 none ∈ BIG := big_3 (i := 97) rfl rfl
theorem me_X6_takeStop : ME RX6 yX6_takeStop cX6_takeStop 5 none := ⟨rfl, big_3 (i := 96) rfl rfl, big_in (i := 12) (by decide +kernel) rfl, in_X6, co_X6_takeStop⟩
theorem co_X7_add : Cond.code yX7_add cX7_add 5 none ∈ BIG := big_3 (i := 101) rfl rfl
theorem me_X7_add : ME RX7 yX7_add cX7_add 5 none := ⟨rfl, big_3 (i := 99) rfl rfl, big_3 (i := 100) rfl rfl, in_X7, co_X7_add⟩
theorem co_X7_become : Cond.code yX7_become cX7_become 3 none ∈ BIG := big_3 (i := 105) rfl rfl
theorem me_X7_become : ME RX7 yX7_become cX7_become 3 none := ⟨rfl, big_3 (i := 103) rfl rfl, big_3 (i := 104) rfl rfl, in_X7, co_X7_become⟩
theorem co_X11_fault : Cond.code yX11_fault cX11_fault 1 (some .int) ∈ BIG := big_3 (i := 110) rfl rfl
theorem me_X11_fault : ME RX11 yX11_fault cX11_fault 1 (some .int) := ⟨rfl, big_3 (i := 108) rfl rfl, big_3 (i := 109) rfl rfl, in_X11, co_X11_fault⟩
theorem co_X11_rule : Cond.code yX11_rule cX11_rule 3 (some .int) ∈ BIG := big_3 (i := 114) rfl rfl
theorem me_X11_rule : ME RX11 yX11_rule cX11_rule 3 (some .int) := ⟨rfl, big_3 (i := 112) rfl rfl, big_3 (i := 113) rfl rfl, in_X11, co_X11_rule⟩
theorem co_X11_card : Cond.code yX11_card cX11_card 10 (some .int) ∈ BIG := big_3 (i := 119) rfl rfl
theorem me_X11_card : ME RX11 yX11_card cX11_card 10 (some .int) := ⟨rfl, big_3 (i := 117) rfl rfl, big_3 (i := 118) rfl rfl, in_X11, co_X11_card⟩
theorem co_X11_isTold : Cond.code yX11_isTold cX11_isTold 1 (some .boolean) ∈ BIG := big_3 (i := 122) rfl rfl
theorem me_X11_isTold : MS yX11_isTold cX11_isTold 1 (some .boolean) := ⟨big_3 (i := 121) rfl rfl, in_X11, co_X11_isTold⟩
theorem co_X11_isHand : Cond.code yX11_isHand cX11_isHand 1 (some .boolean) ∈ BIG := big_3 (i := 125) rfl rfl
theorem me_X11_isHand : MS yX11_isHand cX11_isHand 1 (some .boolean) := ⟨big_3 (i := 124) rfl rfl, in_X11, co_X11_isHand⟩
theorem co_X0_add : Cond.code yX0_add cX0_add 8 (some .int) ∈ BIG := big_3 (i := 129) rfl rfl
theorem me_X0_add : ME RX0 yX0_add cX0_add 8 (some .int) := ⟨rfl, big_3 (i := 127) rfl rfl, big_3 (i := 128) rfl rfl, in_X0, co_X0_add⟩
theorem co_X5_drawerBy : Cond.code yX5_drawerBy cX5_drawerBy 2 (some .int) ∈ BIG := big_3 (i := 133) rfl rfl
theorem me_X5_drawerBy : ME RX5 yX5_drawerBy cX5_drawerBy 2 (some .int) := ⟨rfl, big_3 (i := 131) rfl rfl, big_3 (i := 132) rfl rfl, in_X5, co_X5_drawerBy⟩
theorem co_X5_third : Cond.code yX5_third cX5_third 3 (some .int) ∈ BIG := big_3 (i := 137) rfl rfl
theorem me_X5_third : ME RX5 yX5_third cX5_third 3 (some .int) := ⟨rfl, big_3 (i := 135) rfl rfl, big_3 (i := 136) rfl rfl, in_X5, co_X5_third⟩
theorem co_X11_of : Cond.code yX11_of cX11_of 4 (some .int) ∈ BIG := big_3 (i := 141) rfl rfl
theorem me_X11_of : ME RX11 yX11_of cX11_of 4 (some .int) := ⟨rfl, big_3 (i := 139) rfl rfl, big_3 (i := 140) rfl rfl, in_X11, co_X11_of⟩
theorem co_X0_has : Cond.code yX0_has cX0_has 2 (some .boolean) ∈ BIG := big_3 (i := 145) rfl rfl
theorem me_X0_has : ME RX0 yX0_has cX0_has 2 (some .boolean) := ⟨rfl, big_3 (i := 143) rfl rfl, big_3 (i := 144) rfl rfl, in_X0, co_X0_has⟩
theorem co_X1_isOut : Cond.code yX1_isOut cX1_isOut 1 (some .boolean) ∈ BIG := big_3 (i := 150) rfl rfl
theorem me_X1_isOut : ME RX1 yX1_isOut cX1_isOut 1 (some .boolean) := ⟨rfl, big_3 (i := 148) rfl rfl, big_3 (i := 149) rfl rfl, in_X1, co_X1_isOut⟩
theorem co_X11_bit : Cond.code yX11_bit cX11_bit 1 (some .int) ∈ BIG := big_3 (i := 153) rfl rfl
theorem me_X11_bit : MS yX11_bit cX11_bit 1 (some .int) := ⟨big_3 (i := 152) rfl rfl, in_X11, co_X11_bit⟩
theorem co_X1_isDue : Cond.code yX1_isDue cX1_isDue 2 (some .boolean) ∈ BIG := big_3 (i := 157) rfl rfl
theorem me_X1_isDue : ME RX1 yX1_isDue cX1_isDue 2 (some .boolean) := ⟨rfl, big_3 (i := 155) rfl rfl, big_3 (i := 156) rfl rfl, in_X1, co_X1_isDue⟩
theorem co_X1_spread : Cond.code yX1_spread cX1_spread 3 (some .int) ∈ BIG := big_3 (i := 161) rfl rfl
theorem me_X1_spread : ME RX1 yX1_spread cX1_spread 3 (some .int) := ⟨rfl, big_3 (i := 159) rfl rfl, big_3 (i := 160) rfl rfl, in_X1, co_X1_spread⟩
theorem co_X5_spreadOf : Cond.code yX5_spreadOf cX5_spreadOf 2 (some .int) ∈ BIG := big_3 (i := 165) rfl rfl
theorem me_X5_spreadOf : ME RX5 yX5_spreadOf cX5_spreadOf 2 (some .int) := ⟨rfl, big_3 (i := 163) rfl rfl, big_3 (i := 164) rfl rfl, in_X5, co_X5_spreadOf⟩
theorem co_X11_anew : Cond.code yX11_anew cX11_anew 4 (some .int) ∈ BIG := big_3 (i := 169) rfl rfl
theorem me_X11_anew : ME RX11 yX11_anew cX11_anew 4 (some .int) := ⟨rfl, big_3 (i := 167) rfl rfl, big_3 (i := 168) rfl rfl, in_X11, co_X11_anew⟩
theorem co_X0_tellAnew : Cond.code yX0_tellAnew cX0_tellAnew 6 (some .int) ∈ BIG := big_3 (i := 174) rfl rfl
theorem me_X0_tellAnew : ME RX0 yX0_tellAnew cX0_tellAnew 6 (some .int) := ⟨rfl, big_3 (i := 172) rfl rfl, big_3 (i := 173) rfl rfl, in_X0, co_X0_tellAnew⟩
theorem co_X11_known : Cond.code yX11_known cX11_known 4 (some .int) ∈ BIG := big_3 (i := 178) rfl rfl
theorem me_X11_known : ME RX11 yX11_known cX11_known 4 (some .int) := ⟨rfl, big_3 (i := 176) rfl rfl, big_3 (i := 177) rfl rfl, in_X11, co_X11_known⟩
theorem co_X0_knownOn : Cond.code yX0_knownOn cX0_knownOn 6 (some .int) ∈ BIG := big_3 (i := 182) rfl rfl
theorem me_X0_knownOn : ME RX0 yX0_knownOn cX0_knownOn 6 (some .int) := ⟨rfl, big_3 (i := 180) rfl rfl, big_3 (i := 181) rfl rfl, in_X0, co_X0_knownOn⟩
theorem co_X11_file : Cond.code yX11_file cX11_file 4 (some .int) ∈ BIG := big_3 (i := 186) rfl rfl
theorem me_X11_file : ME RX11 yX11_file cX11_file 4 (some .int) := ⟨rfl, big_3 (i := 184) rfl rfl, big_3 (i := 185) rfl rfl, in_X11, co_X11_file⟩
theorem co_X11_out : Cond.code yX11_out cX11_out 3 (some .int) ∈ BIG := big_3 (i := 190) rfl rfl
theorem me_X11_out : ME RX11 yX11_out cX11_out 3 (some .int) := ⟨rfl, big_3 (i := 188) rfl rfl, big_3 (i := 189) rfl rfl, in_X11, co_X11_out⟩
theorem co_X11_drawer : Cond.code yX11_drawer cX11_drawer 4 (some .int) ∈ BIG := big_3 (i := 194) rfl rfl
theorem me_X11_drawer : ME RX11 yX11_drawer cX11_drawer 4 (some .int) := ⟨rfl, big_3 (i := 192) rfl rfl, big_3 (i := 193) rfl rfl, in_X11, co_X11_drawer⟩
theorem co_X0_filedIn : Cond.code yX0_filedIn cX0_filedIn 4 (some .int) ∈ BIG := big_3 (i := 198) rfl rfl
theorem me_X0_filedIn : ME RX0 yX0_filedIn cX0_filedIn 4 (some .int) := ⟨rfl, big_3 (i := 196) rfl rfl, big_3 (i := 197) rfl rfl, in_X0, co_X0_filedIn⟩
theorem co_J6_bitCount_0f7a4 : Cond.code yJ6_bitCount_0f7a4 cJ6_bitCount_0f7a4 1 (some .int) ∈ BIG := big_3 (i := 202) rfl rfl
theorem me_J6_bitCount_0f7a4 : MS yJ6_bitCount_0f7a4 cJ6_bitCount_0f7a4 1 (some .int) := ⟨big_3 (i := 201) rfl rfl, in_J6, co_J6_bitCount_0f7a4⟩
theorem co_X0_elsewhere : Cond.code yX0_elsewhere cX0_elsewhere 5 (some .int) ∈ BIG := big_3 (i := 209) rfl rfl
theorem me_X0_elsewhere : ME RX0 yX0_elsewhere cX0_elsewhere 5 (some .int) := ⟨rfl, big_3 (i := 207) rfl rfl, big_3 (i := 208) rfl rfl, in_X0, co_X0_elsewhere⟩
theorem co_X11_tell : Cond.code yX11_tell cX11_tell 6 (some .int) ∈ BIG := big_3 (i := 214) rfl rfl
theorem me_X11_tell : ME RX11 yX11_tell cX11_tell 6 (some .int) := ⟨rfl, big_3 (i := 212) rfl rfl, big_3 (i := 213) rfl rfl, in_X11, co_X11_tell⟩
theorem co_X11_chance : Cond.code yX11_chance cX11_chance 3 (some .long) ∈ BIG := big_3 (i := 218) rfl rfl
theorem me_X11_chance : ME RX11 yX11_chance cX11_chance 3 (some .long) := ⟨rfl, big_3 (i := 216) rfl rfl, big_3 (i := 217) rfl rfl, in_X11, co_X11_chance⟩
theorem co_X3_weigh : Cond.code yX3_weigh cX3_weigh 4 none ∈ BIG := big_3 (i := 224) rfl rfl
theorem me_X3_weigh : ME RX3 yX3_weigh cX3_weigh 4 none := ⟨rfl, big_3 (i := 222) rfl rfl, big_3 (i := 223) rfl rfl, in_X3, co_X3_weigh⟩
theorem co_X3_share : Cond.code yX3_share cX3_share 7 (some .int) ∈ BIG := big_3 (i := 229) rfl rfl
theorem me_X3_share : ME RX3 yX3_share cX3_share 7 (some .int) := ⟨rfl, big_3 (i := 228) rfl rfl, big_in (i := 13) (by decide +kernel) rfl, in_X3, co_X3_share⟩
theorem co_J9_max_7cf53 : Cond.code yJ9_max_7cf53 cJ9_max_7cf53 2 (some .int) ∈ BIG := big_3 (i := 233) rfl rfl
theorem me_J9_max_7cf53 : MS yJ9_max_7cf53 cJ9_max_7cf53 2 (some .int) := ⟨big_3 (i := 232) rfl rfl, in_J9, co_J9_max_7cf53⟩
theorem co_X11_lowest : Cond.code yX11_lowest cX11_lowest 12 (some .long) ∈ BIG := big_3 (i := 237) rfl rfl
theorem me_X11_lowest : MS yX11_lowest cX11_lowest 12 (some .long) := ⟨big_3 (i := 236) rfl rfl, in_X11, co_X11_lowest⟩
theorem co_X11_look : Cond.code yX11_look cX11_look 4 (some .int) ∈ BIG := big_4 (i := 1) rfl rfl
theorem me_X11_look : ME RX11 yX11_look cX11_look 4 (some .int) := ⟨rfl, big_3 (i := 239) rfl rfl, big_4 (i := 0) rfl rfl, in_X11, co_X11_look⟩
theorem co_X11_isShare : Cond.code yX11_isShare cX11_isShare 1 (some .boolean) ∈ BIG := big_4 (i := 4) rfl rfl
theorem me_X11_isShare : MS yX11_isShare cX11_isShare 1 (some .boolean) := ⟨big_4 (i := 3) rfl rfl, in_X11, co_X11_isShare⟩
theorem co_X3_take : Cond.code yX3_take cX3_take 5 none ∈ BIG := big_4 (i := 8) rfl rfl
theorem me_X3_take : ME RX3 yX3_take cX3_take 5 none := ⟨rfl, big_4 (i := 6) rfl rfl, big_4 (i := 7) rfl rfl, in_X3, co_X3_take⟩
theorem co_X3_heaviest : Cond.code yX3_heaviest cX3_heaviest 4 (some .int) ∈ BIG := big_4 (i := 13) rfl rfl
theorem me_X3_heaviest : ME RX3 yX3_heaviest cX3_heaviest 4 (some .int) := ⟨rfl, big_4 (i := 12) rfl rfl, big_in (i := 14) (by decide +kernel) rfl, in_X3, co_X3_heaviest⟩
theorem co_X11_match : Cond.code yX11_match cX11_match 4 (some .int) ∈ BIG := big_4 (i := 17) rfl rfl
theorem me_X11_match : ME RX11 yX11_match cX11_match 4 (some .int) := ⟨rfl, big_4 (i := 15) rfl rfl, big_4 (i := 16) rfl rfl, in_X11, co_X11_match⟩
theorem co_X10_findMatches : Cond.code yX10_findMatches cX10_findMatches 5 none ∈ BIG := big_4 (i := 21) rfl rfl
theorem me_X10_findMatches : ME RX10 yX10_findMatches cX10_findMatches 5 none := ⟨rfl, big_4 (i := 19) rfl rfl, big_4 (i := 20) rfl rfl, in_X10, co_X10_findMatches⟩
theorem co_X1_miss : Cond.code yX1_miss cX1_miss 8 (some .int) ∈ BIG := big_4 (i := 27) rfl rfl
theorem me_X1_miss : ME RX1 yX1_miss cX1_miss 8 (some .int) := ⟨rfl, big_4 (i := 25) rfl rfl, big_4 (i := 26) rfl rfl, in_X1, co_X1_miss⟩
theorem co_X1_canMeasure : Cond.code yX1_canMeasure cX1_canMeasure 4 (some .int) ∈ BIG := big_4 (i := 32) rfl rfl
theorem me_X1_canMeasure : ME RX1 yX1_canMeasure cX1_canMeasure 4 (some .int) := ⟨rfl, big_4 (i := 30) rfl rfl, big_4 (i := 31) rfl rfl, in_X1, co_X1_canMeasure⟩
theorem co_X10_insert : Cond.code yX10_insert cX10_insert 3 none ∈ BIG := big_4 (i := 37) rfl rfl
theorem me_X10_insert : ME RX10 yX10_insert cX10_insert 3 none := ⟨rfl, big_4 (i := 36) rfl rfl, big_in (i := 15) (by decide +kernel) rfl, in_X10, co_X10_insert⟩
theorem co_X11_byChance : Cond.code yX11_byChance cX11_byChance 8 (some .long) ∈ BIG := big_4 (i := 41) rfl rfl
theorem me_X11_byChance : ME RX11 yX11_byChance cX11_byChance 8 (some .long) := ⟨rfl, big_4 (i := 39) rfl rfl, big_4 (i := 40) rfl rfl, in_X11, co_X11_byChance⟩
theorem co_X0_kept : Cond.code yX0_kept cX0_kept 3 (some .int) ∈ BIG := big_4 (i := 45) rfl rfl
theorem me_X0_kept : ME RX0 yX0_kept cX0_kept 3 (some .int) := ⟨rfl, big_4 (i := 43) rfl rfl, big_4 (i := 44) rfl rfl, in_X0, co_X0_kept⟩
theorem co_X10_near : Cond.code yX10_near cX10_near 8 (some .int) ∈ BIG := big_4 (i := 50) rfl rfl
theorem me_X10_near : ME RX10 yX10_near cX10_near 8 (some .int) := ⟨rfl, big_4 (i := 48) rfl rfl, big_4 (i := 49) rfl rfl, in_X10, co_X10_near⟩
theorem co_J9_abs_0f7a4 : Cond.code yJ9_abs_0f7a4 cJ9_abs_0f7a4 1 (some .int) ∈ BIG := big_4 (i := 54) rfl rfl
theorem me_J9_abs_0f7a4 : MS yJ9_abs_0f7a4 cJ9_abs_0f7a4 1 (some .int) := ⟨big_4 (i := 53) rfl rfl, in_J9, co_J9_abs_0f7a4⟩
theorem co_X11_grown : Cond.code yX11_grown cX11_grown 4 (some .int) ∈ BIG := big_4 (i := 59) rfl rfl
theorem me_X11_grown : ME RX11 yX11_grown cX11_grown 4 (some .int) := ⟨rfl, big_4 (i := 57) rfl rfl, big_4 (i := 58) rfl rfl, in_X11, co_X11_grown⟩
theorem co_X11_beside : Cond.code yX11_beside cX11_beside 5 (some .int) ∈ BIG := big_4 (i := 64) rfl rfl
theorem me_X11_beside : ME RX11 yX11_beside cX11_beside 5 (some .int) := ⟨rfl, big_4 (i := 62) rfl rfl, big_4 (i := 63) rfl rfl, in_X11, co_X11_beside⟩
theorem co_X0_printed : Cond.code yX0_printed cX0_printed 4 (some .int) ∈ BIG := big_4 (i := 68) rfl rfl
theorem me_X0_printed : ME RX0 yX0_printed cX0_printed 4 (some .int) := ⟨rfl, big_4 (i := 66) rfl rfl, big_4 (i := 67) rfl rfl, in_X0, co_X0_printed⟩
theorem co_X11_bar : Cond.code yX11_bar cX11_bar 5 (some .int) ∈ BIG := big_4 (i := 73) rfl rfl
theorem me_X11_bar : ME RX11 yX11_bar cX11_bar 5 (some .int) := ⟨rfl, big_4 (i := 71) rfl rfl, big_4 (i := 72) rfl rfl, in_X11, co_X11_bar⟩
theorem co_X0_isBarred : Cond.code yX0_isBarred cX0_isBarred 3 (some .boolean) ∈ BIG := big_4 (i := 77) rfl rfl
theorem me_X0_isBarred : ME RX0 yX0_isBarred cX0_isBarred 3 (some .boolean) := ⟨rfl, big_4 (i := 75) rfl rfl, big_4 (i := 76) rfl rfl, in_X0, co_X0_isBarred⟩
theorem co_J9_min_7cf53 : Cond.code yJ9_min_7cf53 cJ9_min_7cf53 2 (some .int) ∈ BIG := big_4 (i := 80) rfl rfl
theorem me_J9_min_7cf53 : MS yJ9_min_7cf53 cJ9_min_7cf53 2 (some .int) := ⟨big_4 (i := 79) rfl rfl, in_J9, co_J9_min_7cf53⟩
theorem co_X0_setBar : Cond.code yX0_setBar cX0_setBar 4 none ∈ BIG := big_4 (i := 85) rfl rfl
theorem me_X0_setBar : ME RX0 yX0_setBar cX0_setBar 4 none := ⟨rfl, big_4 (i := 83) rfl rfl, big_4 (i := 84) rfl rfl, in_X0, co_X0_setBar⟩
theorem co_X11_join : Cond.code yX11_join cX11_join 3 (some .int) ∈ BIG := big_4 (i := 90) rfl rfl
theorem me_X11_join : ME RX11 yX11_join cX11_join 3 (some .int) := ⟨rfl, big_4 (i := 88) rfl rfl, big_4 (i := 89) rfl rfl, in_X11, co_X11_join⟩
theorem co_X0_joined : Cond.code yX0_joined cX0_joined 6 (some .boolean) ∈ BIG := big_4 (i := 94) rfl rfl
theorem me_X0_joined : ME RX0 yX0_joined cX0_joined 6 (some .boolean) := ⟨rfl, big_4 (i := 92) rfl rfl, big_4 (i := 93) rfl rfl, in_X0, co_X0_joined⟩
theorem co_X11_men : Cond.code yX11_men cX11_men 3 (some .int) ∈ BIG := big_4 (i := 100) rfl rfl
theorem me_X11_men : ME RX11 yX11_men cX11_men 3 (some .int) := ⟨rfl, big_4 (i := 98) rfl rfl, big_4 (i := 99) rfl rfl, in_X11, co_X11_men⟩
theorem co_X4_gather : Cond.code yX4_gather cX4_gather 3 none ∈ BIG := big_4 (i := 104) rfl rfl
theorem me_X4_gather : ME RX4 yX4_gather cX4_gather 3 none := ⟨rfl, big_4 (i := 102) rfl rfl, big_4 (i := 103) rfl rfl, in_X4, co_X4_gather⟩
theorem co_X4_hang : Cond.code yX4_hang cX4_hang 4 none ∈ BIG := big_4 (i := 112) rfl rfl
theorem me_X4_hang : ME RX4 yX4_hang cX4_hang 4 none := ⟨rfl, big_4 (i := 111) rfl rfl, big_in (i := 16) (by decide +kernel) rfl, in_X4, co_X4_hang⟩
theorem co_X4_number : Cond.code yX4_number cX4_number 3 (some .int) ∈ BIG := big_4 (i := 116) rfl rfl
theorem me_X4_number : ME RX4 yX4_number cX4_number 3 (some .int) := ⟨rfl, big_4 (i := 114) rfl rfl, big_4 (i := 115) rfl rfl, in_X4, co_X4_number⟩
theorem co_X4_greatest : Cond.code yX4_greatest cX4_greatest 5 (some .int) ∈ BIG := big_4 (i := 121) rfl rfl
theorem me_X4_greatest : ME RX4 yX4_greatest cX4_greatest 5 (some .int) := ⟨rfl, big_4 (i := 119) rfl rfl, big_4 (i := 120) rfl rfl, in_X4, co_X4_greatest⟩
theorem co_X4_isOne : Cond.code yX4_isOne cX4_isOne 3 (some .boolean) ∈ BIG := big_4 (i := 125) rfl rfl
theorem me_X4_isOne : ME RX4 yX4_isOne cX4_isOne 3 (some .boolean) := ⟨rfl, big_4 (i := 124) rfl rfl, big_in (i := 17) (by decide +kernel) rfl, in_X4, co_X4_isOne⟩
theorem co_X4_quarrels : Cond.code yX4_quarrels cX4_quarrels 4 (some .int) ∈ BIG := big_4 (i := 129) rfl rfl
theorem me_X4_quarrels : ME RX4 yX4_quarrels cX4_quarrels 4 (some .int) := ⟨rfl, big_4 (i := 127) rfl rfl, big_4 (i := 128) rfl rfl, in_X4, co_X4_quarrels⟩
theorem co_X11_guess : Cond.code yX11_guess cX11_guess 4 (some .int) ∈ BIG := big_4 (i := 134) rfl rfl
theorem me_X11_guess : ME RX11 yX11_guess cX11_guess 4 (some .int) := ⟨rfl, big_4 (i := 132) rfl rfl, big_4 (i := 133) rfl rfl, in_X11, co_X11_guess⟩
theorem co_X4_findDoubles : Cond.code yX4_findDoubles cX4_findDoubles 9 none ∈ BIG := big_4 (i := 138) rfl rfl
theorem me_X4_findDoubles : ME RX4 yX4_findDoubles cX4_findDoubles 9 none := ⟨rfl, big_4 (i := 136) rfl rfl, big_4 (i := 137) rfl rfl, in_X4, co_X4_findDoubles⟩
theorem co_X11_even : Cond.code yX11_even cX11_even 4 (some .int) ∈ BIG := big_4 (i := 143) rfl rfl
theorem me_X11_even : ME RX11 yX11_even cX11_even 4 (some .int) := ⟨rfl, big_4 (i := 141) rfl rfl, big_4 (i := 142) rfl rfl, in_X11, co_X11_even⟩
theorem co_X2_search : Cond.code yX2_search cX2_search 11 (some .boolean) ∈ BIG := big_4 (i := 147) rfl rfl
theorem me_X2_search : ME RX2 yX2_search cX2_search 11 (some .boolean) := ⟨rfl, big_4 (i := 145) rfl rfl, big_4 (i := 146) rfl rfl, in_X2, co_X2_search⟩
theorem co_X2_below : Cond.code yX2_below cX2_below 5 (some .int) ∈ BIG := big_4 (i := 151) rfl rfl
theorem me_X2_below : ME RX2 yX2_below cX2_below 5 (some .int) := ⟨rfl, big_4 (i := 149) rfl rfl, big_4 (i := 150) rfl rfl, in_X2, co_X2_below⟩
theorem co_X2_isCounted : Cond.code yX2_isCounted cX2_isCounted 3 (some .boolean) ∈ BIG := big_4 (i := 155) rfl rfl
theorem me_X2_isCounted : ME RX2 yX2_isCounted cX2_isCounted 3 (some .boolean) := ⟨rfl, big_4 (i := 154) rfl rfl, big_in (i := 18) (by decide +kernel) rfl, in_X2, co_X2_isCounted⟩
theorem co_X2_near : Cond.code yX2_near cX2_near 7 (some .int) ∈ BIG := big_4 (i := 161) rfl rfl
theorem me_X2_near : ME RX2 yX2_near cX2_near 7 (some .int) := ⟨rfl, big_4 (i := 159) rfl rfl, big_4 (i := 160) rfl rfl, in_X2, co_X2_near⟩
theorem co_X2_difference : Cond.code yX2_difference cX2_difference 7 (some .int) ∈ BIG := big_4 (i := 167) rfl rfl
theorem me_X2_difference : ME RX2 yX2_difference cX2_difference 7 (some .int) := ⟨rfl, big_4 (i := 165) rfl rfl, big_4 (i := 166) rfl rfl, in_X2, co_X2_difference⟩
theorem co_X11_judge : Cond.code yX11_judge cX11_judge 8 (some .int) ∈ BIG := big_4 (i := 174) rfl rfl
theorem me_X11_judge : ME RX11 yX11_judge cX11_judge 8 (some .int) := ⟨rfl, big_4 (i := 172) rfl rfl, big_4 (i := 173) rfl rfl, in_X11, co_X11_judge⟩
theorem co_X11_hold : Cond.code yX11_hold cX11_hold 2 (some .int) ∈ BIG := big_4 (i := 181) rfl rfl
theorem me_X11_hold : ME RX11 yX11_hold cX11_hold 2 (some .int) := ⟨rfl, big_4 (i := 179) rfl rfl, big_4 (i := 180) rfl rfl, in_X11, co_X11_hold⟩
theorem co_X11_held : Cond.code yX11_held cX11_held 3 (some .int) ∈ BIG := big_4 (i := 185) rfl rfl
theorem me_X11_held : ME RX11 yX11_held cX11_held 3 (some .int) := ⟨rfl, big_4 (i := 183) rfl rfl, big_4 (i := 184) rfl rfl, in_X11, co_X11_held⟩
theorem co_X11_isHold : Cond.code yX11_isHold cX11_isHold 2 (some .boolean) ∈ BIG := big_4 (i := 189) rfl rfl
theorem me_X11_isHold : ME RX11 yX11_isHold cX11_isHold 2 (some .boolean) := ⟨rfl, big_4 (i := 188) rfl rfl, big_in (i := 19) (by decide +kernel) rfl, in_X11, co_X11_isHold⟩
theorem co_X11_leaned : Cond.code yX11_leaned cX11_leaned 6 (some .int) ∈ BIG := big_4 (i := 193) rfl rfl
theorem me_X11_leaned : ME RX11 yX11_leaned cX11_leaned 6 (some .int) := ⟨rfl, big_4 (i := 192) rfl rfl, big_in (i := 20) (by decide +kernel) rfl, in_X11, co_X11_leaned⟩
theorem co_X11_wrong : Cond.code yX11_wrong cX11_wrong 2 (some .int) ∈ BIG := big_4 (i := 197) rfl rfl
theorem me_X11_wrong : ME RX11 yX11_wrong cX11_wrong 2 (some .int) := ⟨rfl, big_4 (i := 195) rfl rfl, big_4 (i := 196) rfl rfl, in_X11, co_X11_wrong⟩
theorem co_X11_sheet : Cond.code yX11_sheet cX11_sheet 4 (some .int) ∈ BIG := big_4 (i := 201) rfl rfl
theorem me_X11_sheet : ME RX11 yX11_sheet cX11_sheet 4 (some .int) := ⟨rfl, big_4 (i := 199) rfl rfl, big_4 (i := 200) rfl rfl, in_X11, co_X11_sheet⟩
theorem co_X11_isSheet : Cond.code yX11_isSheet cX11_isSheet 1 (some .boolean) ∈ BIG := big_4 (i := 204) rfl rfl
theorem me_X11_isSheet : MS yX11_isSheet cX11_isSheet 1 (some .boolean) := ⟨big_4 (i := 203) rfl rfl, in_X11, co_X11_isSheet⟩
theorem co_X11_isLane : Cond.code yX11_isLane cX11_isLane 1 (some .boolean) ∈ BIG := big_4 (i := 207) rfl rfl
theorem me_X11_isLane : MS yX11_isLane cX11_isLane 1 (some .boolean) := ⟨big_4 (i := 206) rfl rfl, in_X11, co_X11_isLane⟩
theorem co_X8_renew : Cond.code yX8_renew cX8_renew 4 none ∈ BIG := big_4 (i := 211) rfl rfl
theorem me_X8_renew : ME RX8 yX8_renew cX8_renew 4 none := ⟨rfl, big_4 (i := 209) rfl rfl, big_4 (i := 210) rfl rfl, in_X8, co_X8_renew⟩
theorem co_X11_lay : Cond.code yX11_lay cX11_lay 5 (some .int) ∈ BIG := big_4 (i := 215) rfl rfl
theorem me_X11_lay : ME RX11 yX11_lay cX11_lay 5 (some .int) := ⟨rfl, big_4 (i := 213) rfl rfl, big_4 (i := 214) rfl rfl, in_X11, co_X11_lay⟩
theorem co_X8_has : Cond.code yX8_has cX8_has 2 (some .boolean) ∈ BIG := big_4 (i := 219) rfl rfl
theorem me_X8_has : ME RX8 yX8_has cX8_has 2 (some .boolean) := ⟨rfl, big_4 (i := 217) rfl rfl, big_4 (i := 218) rfl rfl, in_X8, co_X8_has⟩
theorem co_X8_put : Cond.code yX8_put cX8_put 3 none ∈ BIG := big_4 (i := 223) rfl rfl
theorem me_X8_put : ME RX8 yX8_put cX8_put 3 none := ⟨rfl, big_4 (i := 221) rfl rfl, big_4 (i := 222) rfl rfl, in_X8, co_X8_put⟩
theorem co_X11_read : Cond.code yX11_read cX11_read 10 (some .int) ∈ BIG := big_4 (i := 227) rfl rfl
theorem me_X11_read : ME RX11 yX11_read cX11_read 10 (some .int) := ⟨rfl, big_4 (i := 225) rfl rfl, big_4 (i := 226) rfl rfl, in_X11, co_X11_read⟩
theorem co_X8_refusal : Cond.code yX8_refusal cX8_refusal 2 (some .int) ∈ BIG := big_4 (i := 231) rfl rfl
theorem me_X8_refusal : ME RX8 yX8_refusal cX8_refusal 2 (some .int) := ⟨rfl, big_4 (i := 229) rfl rfl, big_4 (i := 230) rfl rfl, in_X8, co_X8_refusal⟩
theorem co_X11_torn : Cond.code yX11_torn cX11_torn 1 (some .int) ∈ BIG := big_4 (i := 236) rfl rfl
theorem me_X11_torn : ME RX11 yX11_torn cX11_torn 1 (some .int) := ⟨rfl, big_4 (i := 234) rfl rfl, big_4 (i := 235) rfl rfl, in_X11, co_X11_torn⟩
theorem co_X11_count : Cond.code yX11_count cX11_count 2 (some .int) ∈ BIG := big_5 (i := 0) rfl rfl
theorem me_X11_count : ME RX11 yX11_count cX11_count 2 (some .int) := ⟨rfl, big_4 (i := 238) rfl rfl, big_4 (i := 239) rfl rfl, in_X11, co_X11_count⟩
theorem co_X0_due : Cond.code yX0_due cX0_due 3 (some .int) ∈ BIG := big_5 (i := 4) rfl rfl
theorem me_X0_due : ME RX0 yX0_due cX0_due 3 (some .int) := ⟨rfl, big_5 (i := 2) rfl rfl, big_5 (i := 3) rfl rfl, in_X0, co_X0_due⟩
theorem co_X11_wrongHolds : Cond.code yX11_wrongHolds cX11_wrongHolds 3 (some .int) ∈ BIG := big_5 (i := 10) rfl rfl
theorem me_X11_wrongHolds : ME RX11 yX11_wrongHolds cX11_wrongHolds 3 (some .int) := ⟨rfl, big_5 (i := 9) rfl rfl, big_in (i := 21) (by decide +kernel) rfl, in_X11, co_X11_wrongHolds⟩
theorem co_X12_init : Cond.code yX12_init cX12_init 1 none ∈ BIG := big_5 (i := 15) rfl rfl
theorem im_X12_init : Cond.instanceMethod yX12_init ∈ BIG := big_5 (i := 14) rfl rfl
theorem co_X12_day : Cond.code yX12_day cX12_day 3 (some .int) ∈ BIG := big_5 (i := 207) rfl rfl
theorem me_X12_day : ME RX12 yX12_day cX12_day 3 (some .int) := ⟨rfl, big_5 (i := 205) rfl rfl, big_5 (i := 206) rfl rfl, in_X12, co_X12_day⟩
theorem co_X12_in : Cond.code yX12_in cX12_in 6 (some .boolean) ∈ BIG := big_5 (i := 211) rfl rfl
theorem me_X12_in : MS yX12_in cX12_in 6 (some .boolean) := ⟨big_5 (i := 210) rfl rfl, in_X12, co_X12_in⟩
theorem co_X12_feed : Cond.code yX12_feed cX12_feed 4 (some .int) ∈ BIG := big_5 (i := 215) rfl rfl
theorem me_X12_feed : ME RX12 yX12_feed cX12_feed 4 (some .int) := ⟨rfl, big_5 (i := 213) rfl rfl, big_5 (i := 214) rfl rfl, in_X12, co_X12_feed⟩
theorem co_X12_end : Cond.code yX12_end cX12_end 3 (some .int) ∈ BIG := big_5 (i := 219) rfl rfl
theorem me_X12_end : ME RX12 yX12_end cX12_end 3 (some .int) := ⟨rfl, big_5 (i := 217) rfl rfl, big_5 (i := 218) rfl rfl, in_X12, co_X12_end⟩
theorem co_X12_text : Cond.code yX12_text cX12_text 2 (some .int) ∈ BIG := big_5 (i := 223) rfl rfl
theorem me_X12_text : ME RX12 yX12_text cX12_text 2 (some .int) := ⟨rfl, big_5 (i := 221) rfl rfl, big_5 (i := 222) rfl rfl, in_X12, co_X12_text⟩
theorem co_X12_next : Cond.code yX12_next cX12_next 2 none ∈ BIG := big_5 (i := 227) rfl rfl
theorem me_X12_next : ME RX12 yX12_next cX12_next 2 none := ⟨rfl, big_5 (i := 226) rfl rfl, big_in (i := 22) (by decide +kernel) rfl, in_X12, co_X12_next⟩
theorem co_X12_byteAt : Cond.code yX12_byteAt cX12_byteAt 2 (some .int) ∈ BIG := big_5 (i := 231) rfl rfl
theorem me_X12_byteAt : ME RX12 yX12_byteAt cX12_byteAt 2 (some .int) := ⟨rfl, big_5 (i := 230) rfl rfl, big_in (i := 23) (by decide +kernel) rfl, in_X12, co_X12_byteAt⟩
theorem co_X12_fails : Cond.code yX12_fails cX12_fails 2 none ∈ BIG := big_5 (i := 239) rfl rfl
theorem me_X12_fails : ME RX12 yX12_fails cX12_fails 2 none := ⟨rfl, big_5 (i := 238) rfl rfl, big_in (i := 24) (by decide +kernel) rfl, in_X12, co_X12_fails⟩
theorem co_X12_readLine : Cond.code yX12_readLine cX12_readLine 6 none ∈ BIG := big_6 (i := 3) rfl rfl
theorem me_X12_readLine : ME RX12 yX12_readLine cX12_readLine 6 none := ⟨rfl, big_6 (i := 2) rfl rfl, big_in (i := 25) (by decide +kernel) rfl, in_X12, co_X12_readLine⟩
theorem co_X12_nameHere : Cond.code yX12_nameHere cX12_nameHere 4 (some .int) ∈ BIG := big_6 (i := 7) rfl rfl
theorem me_X12_nameHere : ME RX12 yX12_nameHere cX12_nameHere 4 (some .int) := ⟨rfl, big_6 (i := 6) rfl rfl, big_in (i := 26) (by decide +kernel) rfl, in_X12, co_X12_nameHere⟩
theorem co_X12_number : Cond.code yX12_number cX12_number 4 (some .int) ∈ BIG := big_6 (i := 11) rfl rfl
theorem me_X12_number : ME RX12 yX12_number cX12_number 4 (some .int) := ⟨rfl, big_6 (i := 10) rfl rfl, big_in (i := 27) (by decide +kernel) rfl, in_X12, co_X12_number⟩
theorem co_X12_readOf : Cond.code yX12_readOf cX12_readOf 4 (some .int) ∈ BIG := big_6 (i := 15) rfl rfl
theorem me_X12_readOf : ME RX12 yX12_readOf cX12_readOf 4 (some .int) := ⟨rfl, big_6 (i := 14) rfl rfl, big_in (i := 28) (by decide +kernel) rfl, in_X12, co_X12_readOf⟩
theorem co_X12_once : Cond.code yX12_once cX12_once 5 none ∈ BIG := big_6 (i := 20) rfl rfl
theorem me_X12_once : ME RX12 yX12_once cX12_once 5 none := ⟨rfl, big_6 (i := 19) rfl rfl, big_in (i := 29) (by decide +kernel) rfl, in_X12, co_X12_once⟩
theorem co_X12_fault : Cond.code yX12_fault cX12_fault 1 (some .int) ∈ BIG := big_6 (i := 24) rfl rfl
theorem me_X12_fault : ME RX12 yX12_fault cX12_fault 1 (some .int) := ⟨rfl, big_6 (i := 22) rfl rfl, big_6 (i := 23) rfl rfl, in_X12, co_X12_fault⟩
theorem co_X12_rule : Cond.code yX12_rule cX12_rule 3 (some .int) ∈ BIG := big_6 (i := 28) rfl rfl
theorem me_X12_rule : ME RX12 yX12_rule cX12_rule 3 (some .int) := ⟨rfl, big_6 (i := 26) rfl rfl, big_6 (i := 27) rfl rfl, in_X12, co_X12_rule⟩
theorem co_X12_firstEdge : Cond.code yX12_firstEdge cX12_firstEdge 3 (some .int) ∈ BIG := big_6 (i := 33) rfl rfl
theorem me_X12_firstEdge : ME RX12 yX12_firstEdge cX12_firstEdge 3 (some .int) := ⟨rfl, big_6 (i := 32) rfl rfl, big_in (i := 30) (by decide +kernel) rfl, in_X12, co_X12_firstEdge⟩
theorem co_X12_holdsThen : Cond.code yX12_holdsThen cX12_holdsThen 6 (some .int) ∈ BIG := big_6 (i := 37) rfl rfl
theorem me_X12_holdsThen : ME RX12 yX12_holdsThen cX12_holdsThen 6 (some .int) := ⟨rfl, big_6 (i := 36) rfl rfl, big_in (i := 31) (by decide +kernel) rfl, in_X12, co_X12_holdsThen⟩
theorem co_X12_lineAt : Cond.code yX12_lineAt cX12_lineAt 6 (some .int) ∈ BIG := big_6 (i := 41) rfl rfl
theorem me_X12_lineAt : ME RX12 yX12_lineAt cX12_lineAt 6 (some .int) := ⟨rfl, big_6 (i := 40) rfl rfl, big_in (i := 32) (by decide +kernel) rfl, in_X12, co_X12_lineAt⟩
theorem co_X12_secondEdge : Cond.code yX12_secondEdge cX12_secondEdge 4 (some .int) ∈ BIG := big_6 (i := 45) rfl rfl
theorem me_X12_secondEdge : ME RX12 yX12_secondEdge cX12_secondEdge 4 (some .int) := ⟨rfl, big_6 (i := 44) rfl rfl, big_in (i := 33) (by decide +kernel) rfl, in_X12, co_X12_secondEdge⟩
theorem co_X12_spreadOf : Cond.code yX12_spreadOf cX12_spreadOf 3 (some .int) ∈ BIG := big_6 (i := 49) rfl rfl
theorem me_X12_spreadOf : ME RX12 yX12_spreadOf cX12_spreadOf 3 (some .int) := ⟨rfl, big_6 (i := 48) rfl rfl, big_in (i := 34) (by decide +kernel) rfl, in_X12, co_X12_spreadOf⟩
theorem co_X12_growOf : Cond.code yX12_growOf cX12_growOf 3 (some .int) ∈ BIG := big_6 (i := 53) rfl rfl
theorem me_X12_growOf : ME RX12 yX12_growOf cX12_growOf 3 (some .int) := ⟨rfl, big_6 (i := 52) rfl rfl, big_in (i := 35) (by decide +kernel) rfl, in_X12, co_X12_growOf⟩
theorem co_X12_card : Cond.code yX12_card cX12_card 8 (some .int) ∈ BIG := big_6 (i := 57) rfl rfl
theorem me_X12_card : ME RX12 yX12_card cX12_card 8 (some .int) := ⟨rfl, big_6 (i := 55) rfl rfl, big_6 (i := 56) rfl rfl, in_X12, co_X12_card⟩
theorem co_X12_isMeasure : Cond.code yX12_isMeasure cX12_isMeasure 1 (some .boolean) ∈ BIG := big_6 (i := 62) rfl rfl
theorem me_X12_isMeasure : MS yX12_isMeasure cX12_isMeasure 1 (some .boolean) := ⟨big_6 (i := 61) rfl rfl, in_X12, co_X12_isMeasure⟩
theorem co_X12_addCard : Cond.code yX12_addCard cX12_addCard 10 none ∈ BIG := big_6 (i := 68) rfl rfl
theorem me_X12_addCard : ME RX12 yX12_addCard cX12_addCard 10 none := ⟨rfl, big_6 (i := 67) rfl rfl, big_in (i := 36) (by decide +kernel) rfl, in_X12, co_X12_addCard⟩
theorem co_X12_drawerOf : Cond.code yX12_drawerOf cX12_drawerOf 2 (some .int) ∈ BIG := big_6 (i := 72) rfl rfl
theorem me_X12_drawerOf : ME RX12 yX12_drawerOf cX12_drawerOf 2 (some .int) := ⟨rfl, big_6 (i := 71) rfl rfl, big_in (i := 37) (by decide +kernel) rfl, in_X12, co_X12_drawerOf⟩
theorem co_X12_thirdOf : Cond.code yX12_thirdOf cX12_thirdOf 4 (some .int) ∈ BIG := big_6 (i := 76) rfl rfl
theorem me_X12_thirdOf : ME RX12 yX12_thirdOf cX12_thirdOf 4 (some .int) := ⟨rfl, big_6 (i := 75) rfl rfl, big_in (i := 38) (by decide +kernel) rfl, in_X12, co_X12_thirdOf⟩
theorem co_X12_of : Cond.code yX12_of cX12_of 3 (some .int) ∈ BIG := big_6 (i := 80) rfl rfl
theorem me_X12_of : ME RX12 yX12_of cX12_of 3 (some .int) := ⟨rfl, big_6 (i := 78) rfl rfl, big_6 (i := 79) rfl rfl, in_X12, co_X12_of⟩
theorem co_X12_isCard : Cond.code yX12_isCard cX12_isCard 2 (some .boolean) ∈ BIG := big_6 (i := 84) rfl rfl
theorem me_X12_isCard : ME RX12 yX12_isCard cX12_isCard 2 (some .boolean) := ⟨rfl, big_6 (i := 83) rfl rfl, big_in (i := 39) (by decide +kernel) rfl, in_X12, co_X12_isCard⟩
theorem co_X12_isOut : Cond.code yX12_isOut cX12_isOut 2 (some .boolean) ∈ BIG := big_6 (i := 88) rfl rfl
theorem me_X12_isOut : ME RX12 yX12_isOut cX12_isOut 2 (some .boolean) := ⟨rfl, big_6 (i := 87) rfl rfl, big_in (i := 40) (by decide +kernel) rfl, in_X12, co_X12_isOut⟩
theorem co_X12_isDue : Cond.code yX12_isDue cX12_isDue 2 (some .boolean) ∈ BIG := big_6 (i := 92) rfl rfl
theorem me_X12_isDue : ME RX12 yX12_isDue cX12_isDue 2 (some .boolean) := ⟨rfl, big_6 (i := 91) rfl rfl, big_in (i := 41) (by decide +kernel) rfl, in_X12, co_X12_isDue⟩
theorem co_X12_spreadAt : Cond.code yX12_spreadAt cX12_spreadAt 2 (some .int) ∈ BIG := big_6 (i := 96) rfl rfl
theorem me_X12_spreadAt : ME RX12 yX12_spreadAt cX12_spreadAt 2 (some .int) := ⟨rfl, big_6 (i := 95) rfl rfl, big_in (i := 42) (by decide +kernel) rfl, in_X12, co_X12_spreadAt⟩
theorem co_X12_anew : Cond.code yX12_anew cX12_anew 5 (some .int) ∈ BIG := big_6 (i := 100) rfl rfl
theorem me_X12_anew : ME RX12 yX12_anew cX12_anew 5 (some .int) := ⟨rfl, big_6 (i := 98) rfl rfl, big_6 (i := 99) rfl rfl, in_X12, co_X12_anew⟩
theorem co_X12_known : Cond.code yX12_known cX12_known 6 (some .int) ∈ BIG := big_6 (i := 105) rfl rfl
theorem me_X12_known : ME RX12 yX12_known cX12_known 6 (some .int) := ⟨rfl, big_6 (i := 103) rfl rfl, big_6 (i := 104) rfl rfl, in_X12, co_X12_known⟩
theorem co_X12_file : Cond.code yX12_file cX12_file 3 (some .int) ∈ BIG := big_6 (i := 109) rfl rfl
theorem me_X12_file : ME RX12 yX12_file cX12_file 3 (some .int) := ⟨rfl, big_6 (i := 107) rfl rfl, big_6 (i := 108) rfl rfl, in_X12, co_X12_file⟩
theorem co_X12_out : Cond.code yX12_out cX12_out 2 (some .int) ∈ BIG := big_6 (i := 113) rfl rfl
theorem me_X12_out : ME RX12 yX12_out cX12_out 2 (some .int) := ⟨rfl, big_6 (i := 111) rfl rfl, big_6 (i := 112) rfl rfl, in_X12, co_X12_out⟩
theorem co_X12_drawer : Cond.code yX12_drawer cX12_drawer 7 (some .int) ∈ BIG := big_6 (i := 117) rfl rfl
theorem me_X12_drawer : ME RX12 yX12_drawer cX12_drawer 7 (some .int) := ⟨rfl, big_6 (i := 115) rfl rfl, big_6 (i := 116) rfl rfl, in_X12, co_X12_drawer⟩
theorem co_X12_tell : Cond.code yX12_tell cX12_tell 6 (some .int) ∈ BIG := big_6 (i := 122) rfl rfl
theorem me_X12_tell : ME RX12 yX12_tell cX12_tell 6 (some .int) := ⟨rfl, big_6 (i := 120) rfl rfl, big_6 (i := 121) rfl rfl, in_X12, co_X12_tell⟩
theorem co_X12_chance : Cond.code yX12_chance cX12_chance 3 (some .long) ∈ BIG := big_6 (i := 126) rfl rfl
theorem me_X12_chance : ME RX12 yX12_chance cX12_chance 3 (some .long) := ⟨rfl, big_6 (i := 124) rfl rfl, big_6 (i := 125) rfl rfl, in_X12, co_X12_chance⟩
theorem co_X12_layThirds : Cond.code yX12_layThirds cX12_layThirds 4 none ∈ BIG := big_6 (i := 132) rfl rfl
theorem me_X12_layThirds : ME RX12 yX12_layThirds cX12_layThirds 4 none := ⟨rfl, big_6 (i := 131) rfl rfl, big_in (i := 43) (by decide +kernel) rfl, in_X12, co_X12_layThirds⟩
theorem co_X12_chanceOf : Cond.code yX12_chanceOf cX12_chanceOf 2 (some .int) ∈ BIG := big_6 (i := 136) rfl rfl
theorem me_X12_chanceOf : ME RX12 yX12_chanceOf cX12_chanceOf 2 (some .int) := ⟨rfl, big_6 (i := 135) rfl rfl, big_in (i := 44) (by decide +kernel) rfl, in_X12, co_X12_chanceOf⟩
theorem co_X12_lowest : Cond.code yX12_lowest cX12_lowest 11 (some .long) ∈ BIG := big_6 (i := 139) rfl rfl
theorem me_X12_lowest : MS yX12_lowest cX12_lowest 11 (some .long) := ⟨big_6 (i := 138) rfl rfl, in_X12, co_X12_lowest⟩
theorem co_X12_look : Cond.code yX12_look cX12_look 5 (some .int) ∈ BIG := big_6 (i := 143) rfl rfl
theorem me_X12_look : ME RX12 yX12_look cX12_look 5 (some .int) := ⟨rfl, big_6 (i := 141) rfl rfl, big_6 (i := 142) rfl rfl, in_X12, co_X12_look⟩
theorem co_X12_layLook : Cond.code yX12_layLook cX12_layLook 8 none ∈ BIG := big_6 (i := 149) rfl rfl
theorem me_X12_layLook : ME RX12 yX12_layLook cX12_layLook 8 none := ⟨rfl, big_6 (i := 148) rfl rfl, big_in (i := 45) (by decide +kernel) rfl, in_X12, co_X12_layLook⟩
theorem co_X12_isLooked : Cond.code yX12_isLooked cX12_isLooked 2 (some .boolean) ∈ BIG := big_6 (i := 154) rfl rfl
theorem me_X12_isLooked : ME RX12 yX12_isLooked cX12_isLooked 2 (some .boolean) := ⟨rfl, big_6 (i := 153) rfl rfl, big_in (i := 46) (by decide +kernel) rfl, in_X12, co_X12_isLooked⟩
theorem co_X12_grown : Cond.code yX12_grown cX12_grown 4 (some .int) ∈ BIG := big_6 (i := 158) rfl rfl
theorem me_X12_grown : ME RX12 yX12_grown cX12_grown 4 (some .int) := ⟨rfl, big_6 (i := 156) rfl rfl, big_6 (i := 157) rfl rfl, in_X12, co_X12_grown⟩
theorem co_X12_grownOf : Cond.code yX12_grownOf cX12_grownOf 5 (some .int) ∈ BIG := big_6 (i := 162) rfl rfl
theorem me_X12_grownOf : ME RX12 yX12_grownOf cX12_grownOf 5 (some .int) := ⟨rfl, big_6 (i := 161) rfl rfl, big_in (i := 47) (by decide +kernel) rfl, in_X12, co_X12_grownOf⟩
theorem co_X12_match : Cond.code yX12_match cX12_match 3 (some .int) ∈ BIG := big_6 (i := 166) rfl rfl
theorem me_X12_match : ME RX12 yX12_match cX12_match 3 (some .int) := ⟨rfl, big_6 (i := 164) rfl rfl, big_6 (i := 165) rfl rfl, in_X12, co_X12_match⟩
theorem co_X12_matches : Cond.code yX12_matches cX12_matches 3 (some .int) ∈ BIG := big_6 (i := 172) rfl rfl
theorem me_X12_matches : ME RX12 yX12_matches cX12_matches 3 (some .int) := ⟨rfl, big_6 (i := 171) rfl rfl, big_in (i := 48) (by decide +kernel) rfl, in_X12, co_X12_matches⟩
theorem co_X12_tryTelling : Cond.code yX12_tryTelling cX12_tryTelling 2 none ∈ BIG := big_6 (i := 176) rfl rfl
theorem me_X12_tryTelling : ME RX12 yX12_tryTelling cX12_tryTelling 2 none := ⟨rfl, big_6 (i := 175) rfl rfl, big_in (i := 49) (by decide +kernel) rfl, in_X12, co_X12_tryTelling⟩
theorem co_X12_missOf : Cond.code yX12_missOf cX12_missOf 9 (some .int) ∈ BIG := big_6 (i := 180) rfl rfl
theorem me_X12_missOf : ME RX12 yX12_missOf cX12_missOf 9 (some .int) := ⟨rfl, big_6 (i := 179) rfl rfl, big_in (i := 50) (by decide +kernel) rfl, in_X12, co_X12_missOf⟩
theorem co_X12_sizeOf : Cond.code yX12_sizeOf cX12_sizeOf 3 (some .int) ∈ BIG := big_6 (i := 183) rfl rfl
theorem me_X12_sizeOf : MS yX12_sizeOf cX12_sizeOf 3 (some .int) := ⟨big_6 (i := 182) rfl rfl, in_X12, co_X12_sizeOf⟩
theorem co_X12_matchAt : Cond.code yX12_matchAt cX12_matchAt 7 (some .int) ∈ BIG := big_6 (i := 187) rfl rfl
theorem me_X12_matchAt : ME RX12 yX12_matchAt cX12_matchAt 7 (some .int) := ⟨rfl, big_6 (i := 186) rfl rfl, big_in (i := 51) (by decide +kernel) rfl, in_X12, co_X12_matchAt⟩
theorem co_X12_byChance : Cond.code yX12_byChance cX12_byChance 12 (some .long) ∈ BIG := big_6 (i := 191) rfl rfl
theorem me_X12_byChance : ME RX12 yX12_byChance cX12_byChance 12 (some .long) := ⟨rfl, big_6 (i := 189) rfl rfl, big_6 (i := 190) rfl rfl, in_X12, co_X12_byChance⟩
theorem co_X12_beside : Cond.code yX12_beside cX12_beside 8 (some .int) ∈ BIG := big_6 (i := 196) rfl rfl
theorem me_X12_beside : ME RX12 yX12_beside cX12_beside 8 (some .int) := ⟨rfl, big_6 (i := 194) rfl rfl, big_6 (i := 195) rfl rfl, in_X12, co_X12_beside⟩
theorem co_X12_onesOf : Cond.code yX12_onesOf cX12_onesOf 1 (some .int) ∈ BIG := big_6 (i := 199) rfl rfl
theorem me_X12_onesOf : MS yX12_onesOf cX12_onesOf 1 (some .int) := ⟨big_6 (i := 198) rfl rfl, in_X12, co_X12_onesOf⟩
theorem co_X12_bar : Cond.code yX12_bar cX12_bar 5 (some .int) ∈ BIG := big_6 (i := 203) rfl rfl
theorem me_X12_bar : ME RX12 yX12_bar cX12_bar 5 (some .int) := ⟨rfl, big_6 (i := 201) rfl rfl, big_6 (i := 202) rfl rfl, in_X12, co_X12_bar⟩
theorem co_X12_join : Cond.code yX12_join cX12_join 3 (some .int) ∈ BIG := big_6 (i := 207) rfl rfl
theorem me_X12_join : ME RX12 yX12_join cX12_join 3 (some .int) := ⟨rfl, big_6 (i := 205) rfl rfl, big_6 (i := 206) rfl rfl, in_X12, co_X12_join⟩
theorem co_X12_doJoin : Cond.code yX12_doJoin cX12_doJoin 4 (some .boolean) ∈ BIG := big_6 (i := 211) rfl rfl
theorem me_X12_doJoin : ME RX12 yX12_doJoin cX12_doJoin 4 (some .boolean) := ⟨rfl, big_6 (i := 210) rfl rfl, big_in (i := 52) (by decide +kernel) rfl, in_X12, co_X12_doJoin⟩
theorem co_X12_tryCard : Cond.code yX12_tryCard cX12_tryCard 3 none ∈ BIG := big_6 (i := 215) rfl rfl
theorem me_X12_tryCard : ME RX12 yX12_tryCard cX12_tryCard 3 none := ⟨rfl, big_6 (i := 214) rfl rfl, big_in (i := 53) (by decide +kernel) rfl, in_X12, co_X12_tryCard⟩
theorem co_X12_men : Cond.code yX12_men cX12_men 8 (some .int) ∈ BIG := big_6 (i := 219) rfl rfl
theorem me_X12_men : ME RX12 yX12_men cX12_men 8 (some .int) := ⟨rfl, big_6 (i := 217) rfl rfl, big_6 (i := 218) rfl rfl, in_X12, co_X12_men⟩
theorem co_X12_layMen : Cond.code yX12_layMen cX12_layMen 4 none ∈ BIG := big_6 (i := 223) rfl rfl
theorem me_X12_layMen : ME RX12 yX12_layMen cX12_layMen 4 none := ⟨rfl, big_6 (i := 222) rfl rfl, big_in (i := 54) (by decide +kernel) rfl, in_X12, co_X12_layMen⟩
theorem co_X12_guess : Cond.code yX12_guess cX12_guess 11 (some .int) ∈ BIG := big_6 (i := 227) rfl rfl
theorem me_X12_guess : ME RX12 yX12_guess cX12_guess 11 (some .int) := ⟨rfl, big_6 (i := 225) rfl rfl, big_6 (i := 226) rfl rfl, in_X12, co_X12_guess⟩
theorem co_X12_even : Cond.code yX12_even cX12_even 10 (some .int) ∈ BIG := big_6 (i := 231) rfl rfl
theorem me_X12_even : ME RX12 yX12_even cX12_even 10 (some .int) := ⟨rfl, big_6 (i := 229) rfl rfl, big_6 (i := 230) rfl rfl, in_X12, co_X12_even⟩
theorem co_X12_judgeEdges : Cond.code yX12_judgeEdges cX12_judgeEdges 10 none ∈ BIG := big_6 (i := 235) rfl rfl
theorem me_X12_judgeEdges : ME RX12 yX12_judgeEdges cX12_judgeEdges 10 none := ⟨rfl, big_6 (i := 234) rfl rfl, big_in (i := 55) (by decide +kernel) rfl, in_X12, co_X12_judgeEdges⟩
theorem co_X12_judge : Cond.code yX12_judge cX12_judge 5 (some .int) ∈ BIG := big_6 (i := 239) rfl rfl
theorem me_X12_judge : ME RX12 yX12_judge cX12_judge 5 (some .int) := ⟨rfl, big_6 (i := 237) rfl rfl, big_6 (i := 238) rfl rfl, in_X12, co_X12_judge⟩
theorem co_X12_hold : Cond.code yX12_hold cX12_hold 2 (some .int) ∈ BIG := big_7 (i := 3) rfl rfl
theorem me_X12_hold : ME RX12 yX12_hold cX12_hold 2 (some .int) := ⟨rfl, big_7 (i := 1) rfl rfl, big_7 (i := 2) rfl rfl, in_X12, co_X12_hold⟩
theorem co_X12_held : Cond.code yX12_held cX12_held 3 (some .int) ∈ BIG := big_7 (i := 7) rfl rfl
theorem me_X12_held : ME RX12 yX12_held cX12_held 3 (some .int) := ⟨rfl, big_7 (i := 5) rfl rfl, big_7 (i := 6) rfl rfl, in_X12, co_X12_held⟩
theorem co_X12_leaned : Cond.code yX12_leaned cX12_leaned 5 (some .int) ∈ BIG := big_7 (i := 11) rfl rfl
theorem me_X12_leaned : ME RX12 yX12_leaned cX12_leaned 5 (some .int) := ⟨rfl, big_7 (i := 10) rfl rfl, big_in (i := 56) (by decide +kernel) rfl, in_X12, co_X12_leaned⟩
theorem co_X12_wrong : Cond.code yX12_wrong cX12_wrong 2 (some .int) ∈ BIG := big_7 (i := 15) rfl rfl
theorem me_X12_wrong : ME RX12 yX12_wrong cX12_wrong 2 (some .int) := ⟨rfl, big_7 (i := 13) rfl rfl, big_7 (i := 14) rfl rfl, in_X12, co_X12_wrong⟩
theorem co_X12_sheet : Cond.code yX12_sheet cX12_sheet 5 (some .int) ∈ BIG := big_7 (i := 19) rfl rfl
theorem me_X12_sheet : ME RX12 yX12_sheet cX12_sheet 5 (some .int) := ⟨rfl, big_7 (i := 17) rfl rfl, big_7 (i := 18) rfl rfl, in_X12, co_X12_sheet⟩
theorem co_X12_lay : Cond.code yX12_lay cX12_lay 4 (some .int) ∈ BIG := big_7 (i := 23) rfl rfl
theorem me_X12_lay : ME RX12 yX12_lay cX12_lay 4 (some .int) := ⟨rfl, big_7 (i := 21) rfl rfl, big_7 (i := 22) rfl rfl, in_X12, co_X12_lay⟩
theorem co_X12_read : Cond.code yX12_read cX12_read 10 (some .int) ∈ BIG := big_7 (i := 27) rfl rfl
theorem me_X12_read : ME RX12 yX12_read cX12_read 10 (some .int) := ⟨rfl, big_7 (i := 25) rfl rfl, big_7 (i := 26) rfl rfl, in_X12, co_X12_read⟩
theorem co_X12_torn : Cond.code yX12_torn cX12_torn 1 (some .int) ∈ BIG := big_7 (i := 32) rfl rfl
theorem me_X12_torn : ME RX12 yX12_torn cX12_torn 1 (some .int) := ⟨rfl, big_7 (i := 30) rfl rfl, big_7 (i := 31) rfl rfl, in_X12, co_X12_torn⟩
theorem co_X12_count : Cond.code yX12_count cX12_count 7 (some .int) ∈ BIG := big_7 (i := 36) rfl rfl
theorem me_X12_count : ME RX12 yX12_count cX12_count 7 (some .int) := ⟨rfl, big_7 (i := 34) rfl rfl, big_7 (i := 35) rfl rfl, in_X12, co_X12_count⟩
theorem ml_L_9 : Cond.methodLink RL 9 yX11_init ∈ BIG := big_1 (i := 22) rfl rfl
theorem ml_X11_1 : Cond.methodLink RX11 1 objectInit ∈ BIG := big_1 (i := 25) rfl rfl
theorem ml_X9_1 : Cond.methodLink RX9 1 objectInit ∈ BIG := big_1 (i := 33) rfl rfl
theorem ml_X7_3 : Cond.methodLink RX7 3 objectInit ∈ BIG := big_1 (i := 49) rfl rfl
theorem ml_X11_25 : Cond.methodLink RX11 25 yX6_init ∈ BIG := big_1 (i := 71) rfl rfl
theorem ml_X6_3 : Cond.methodLink RX6 3 objectInit ∈ BIG := big_1 (i := 74) rfl rfl
theorem ml_X11_34 : Cond.methodLink RX11 34 yX5_init ∈ BIG := big_1 (i := 104) rfl rfl
theorem ml_X5_3 : Cond.methodLink RX5 3 objectInit ∈ BIG := big_1 (i := 107) rfl rfl
theorem ml_X5_19 : Cond.methodLink RX5 19 yX5_refresh ∈ BIG := big_1 (i := 108) rfl rfl
theorem ml_X5_26 : Cond.methodLink RX5 26 yX7_value ∈ BIG := big_1 (i := 112) rfl rfl
theorem ml_X7_32 : Cond.methodLink RX7 32 yX7_latest ∈ BIG := big_1 (i := 116) rfl rfl
theorem ml_X7_36 : Cond.methodLink RX7 36 yX7_usual ∈ BIG := big_1 (i := 120) rfl rfl
theorem ml_X11_43 : Cond.methodLink RX11 43 yX0_init ∈ BIG := big_1 (i := 139) rfl rfl
theorem ml_X0_3 : Cond.methodLink RX0 3 objectInit ∈ BIG := big_1 (i := 142) rfl rfl
theorem ml_X1_3 : Cond.methodLink RX1 3 objectInit ∈ BIG := big_1 (i := 149) rfl rfl
theorem ml_X10_3 : Cond.methodLink RX10 3 objectInit ∈ BIG := big_2 (i := 1) rfl rfl
theorem ml_X3_3 : Cond.methodLink RX3 3 objectInit ∈ BIG := big_2 (i := 37) rfl rfl
theorem ml_X11_66 : Cond.methodLink RX11 66 yX4_init ∈ BIG := big_2 (i := 64) rfl rfl
theorem ml_X4_3 : Cond.methodLink RX4 3 objectInit ∈ BIG := big_2 (i := 67) rfl rfl
theorem ml_X11_75 : Cond.methodLink RX11 75 yX2_init ∈ BIG := big_2 (i := 86) rfl rfl
theorem ml_X2_3 : Cond.methodLink RX2 3 objectInit ∈ BIG := big_2 (i := 89) rfl rfl
theorem ml_X8_3 : Cond.methodLink RX8 3 objectInit ∈ BIG := big_2 (i := 122) rfl rfl
theorem ml_L_13 : Cond.methodLink RL 13 yX11_day ∈ BIG := big_2 (i := 191) rfl rfl
theorem ml_X11_104 : Cond.methodLink RX11 104 yX11_isDay ∈ BIG := big_2 (i := 195) rfl rfl
theorem ml_X11_112 : Cond.methodLink RX11 112 yX5_refresh ∈ BIG := big_2 (i := 198) rfl rfl
theorem ml_L_20 : Cond.methodLink RL 20 yX11_feed ∈ BIG := big_2 (i := 199) rfl rfl
theorem ml_X11_115 : Cond.methodLink RX11 115 yX9_add ∈ BIG := big_2 (i := 203) rfl rfl
theorem ml_L_25 : Cond.methodLink RL 25 yX11_end ∈ BIG := big_2 (i := 207) rfl rfl
theorem ml_L_29 : Cond.methodLink RL 29 yX11_text ∈ BIG := big_2 (i := 211) rfl rfl
theorem ml_X11_122 : Cond.methodLink RX11 122 yX6_readText ∈ BIG := big_2 (i := 215) rfl rfl
theorem ml_X6_32 : Cond.methodLink RX6 32 yX6_step ∈ BIG := big_2 (i := 219) rfl rfl
theorem ml_X6_86 : Cond.methodLink RX6 86 yX9_signAt ∈ BIG := big_2 (i := 223) rfl rfl
theorem ml_X6_118 : Cond.methodLink RX6 118 yX6_isLow ∈ BIG := big_2 (i := 227) rfl rfl
theorem ml_X6_121 : Cond.methodLink RX6 121 yX6_stepName ∈ BIG := big_2 (i := 230) rfl rfl
theorem ml_X6_124 : Cond.methodLink RX6 124 yX6_isFigure ∈ BIG := big_2 (i := 234) rfl rfl
theorem ml_X6_127 : Cond.methodLink RX6 127 yX6_stepNumber ∈ BIG := big_2 (i := 237) rfl rfl
theorem ml_X6_48 : Cond.methodLink RX6 48 yX6_fail ∈ BIG := big_3 (i := 1) rfl rfl
theorem ml_X6_40 : Cond.methodLink RX6 40 yX6_isName ∈ BIG := big_3 (i := 6) rfl rfl
theorem ml_X6_106 : Cond.methodLink RX6 106 yJ0_length_8abf5 ∈ BIG := big_3 (i := 10) rfl rfl
theorem ml_J0_335 : Cond.methodLink RJ0 335 yJ0_coder_7d493 ∈ BIG := big_3 (i := 14) rfl rfl
theorem ml_X6_112 : Cond.methodLink RX6 112 yJ0_charAt_5068e ∈ BIG := big_3 (i := 20) rfl rfl
theorem ml_J0_492 : Cond.methodLink RJ0 492 yJ0_isLatin1_aae02 ∈ BIG := big_3 (i := 24) rfl rfl
theorem ml_J0_495 : Cond.methodLink RJ0 495 yJ1_charAt_3b067 ∈ BIG := big_3 (i := 28) rfl rfl
theorem ml_J1_9 : Cond.methodLink RJ1 9 yJ0_checkIndex_df160 ∈ BIG := big_3 (i := 31) rfl rfl
theorem ml_J0_1059 : Cond.methodLink RJ0 1059 yJ3_checkIndex_8e157 ∈ BIG := big_3 (i := 36) rfl rfl
theorem ml_J0_498 : Cond.methodLink RJ0 498 yJ2_charAt_3b067 ∈ BIG := big_3 (i := 39) rfl rfl
theorem ml_J2_67 : Cond.methodLink RJ2 67 yJ2_checkIndex_2214a ∈ BIG := big_3 (i := 42) rfl rfl
theorem ml_J2_48 : Cond.methodLink RJ2 48 yJ2_length_9d52b ∈ BIG := big_3 (i := 45) rfl rfl
theorem ml_J2_414 : Cond.methodLink RJ2 414 yJ0_checkIndex_df160 ∈ BIG := big_3 (i := 48) rfl rfl
theorem ml_J2_71 : Cond.methodLink RJ2 71 yJ2_getChar_3b067 ∈ BIG := big_3 (i := 49) rfl rfl
theorem ml_X6_44 : Cond.methodLink RX6 44 yX6_isRule ∈ BIG := big_3 (i := 58) rfl rfl
theorem ml_X6_52 : Cond.methodLink RX6 52 yX6_readLine ∈ BIG := big_3 (i := 67) rfl rfl
theorem ml_X6_65 : Cond.methodLink RX6 65 yX6_takeNumber ∈ BIG := big_3 (i := 71) rfl rfl
theorem ml_X6_76 : Cond.methodLink RX6 76 yX6_needNumber ∈ BIG := big_3 (i := 75) rfl rfl
theorem ml_X6_69 : Cond.methodLink RX6 69 yX6_takeLetter ∈ BIG := big_3 (i := 79) rfl rfl
theorem ml_X6_79 : Cond.methodLink RX6 79 yX6_needNew ∈ BIG := big_3 (i := 86) rfl rfl
theorem ml_X6_99 : Cond.methodLink RX6 99 yX7_isThere ∈ BIG := big_3 (i := 90) rfl rfl
theorem ml_X6_72 : Cond.methodLink RX6 72 yX6_takeStop ∈ BIG := big_3 (i := 94) rfl rfl
theorem ml_X6_103 : Cond.methodLink RX6 103 yX7_add ∈ BIG := big_3 (i := 98) rfl rfl
theorem ml_X11_132 : Cond.methodLink RX11 132 yX7_become ∈ BIG := big_3 (i := 102) rfl rfl
theorem ml_X7_28 : Cond.methodLink RX7 28 yX7_add ∈ BIG := big_3 (i := 106) rfl rfl
theorem ml_L_34 : Cond.methodLink RL 34 yX11_fault ∈ BIG := big_3 (i := 107) rfl rfl
theorem ml_L_38 : Cond.methodLink RL 38 yX11_rule ∈ BIG := big_3 (i := 111) rfl rfl
theorem ml_X11_141 : Cond.methodLink RX11 141 yX7_value ∈ BIG := big_3 (i := 115) rfl rfl
theorem ml_L_43 : Cond.methodLink RL 43 yX11_card ∈ BIG := big_3 (i := 116) rfl rfl
theorem ml_X11_145 : Cond.methodLink RX11 145 yX11_isTold ∈ BIG := big_3 (i := 120) rfl rfl
theorem ml_X11_148 : Cond.methodLink RX11 148 yX11_isHand ∈ BIG := big_3 (i := 123) rfl rfl
theorem ml_X11_151 : Cond.methodLink RX11 151 yX0_add ∈ BIG := big_3 (i := 126) rfl rfl
theorem ml_X0_66 : Cond.methodLink RX0 66 yX5_drawerBy ∈ BIG := big_3 (i := 130) rfl rfl
theorem ml_X5_32 : Cond.methodLink RX5 32 yX5_third ∈ BIG := big_3 (i := 134) rfl rfl
theorem ml_L_48 : Cond.methodLink RL 48 yX11_of ∈ BIG := big_3 (i := 138) rfl rfl
theorem ml_X11_154 : Cond.methodLink RX11 154 yX0_has ∈ BIG := big_3 (i := 142) rfl rfl
theorem ml_X11_181 : Cond.methodLink RX11 181 yX5_drawerBy ∈ BIG := big_3 (i := 146) rfl rfl
theorem ml_X11_185 : Cond.methodLink RX11 185 yX1_isOut ∈ BIG := big_3 (i := 147) rfl rfl
theorem ml_X11_188 : Cond.methodLink RX11 188 yX11_bit ∈ BIG := big_3 (i := 151) rfl rfl
theorem ml_X11_192 : Cond.methodLink RX11 192 yX1_isDue ∈ BIG := big_3 (i := 154) rfl rfl
theorem ml_X11_196 : Cond.methodLink RX11 196 yX1_spread ∈ BIG := big_3 (i := 158) rfl rfl
theorem ml_X1_36 : Cond.methodLink RX1 36 yX5_spreadOf ∈ BIG := big_3 (i := 162) rfl rfl
theorem ml_L_52 : Cond.methodLink RL 52 yX11_anew ∈ BIG := big_3 (i := 166) rfl rfl
theorem ml_X11_203 : Cond.methodLink RX11 203 yX11_isMeasure ∈ BIG := big_3 (i := 170) rfl rfl
theorem ml_X11_206 : Cond.methodLink RX11 206 yX0_tellAnew ∈ BIG := big_3 (i := 171) rfl rfl
theorem ml_L_57 : Cond.methodLink RL 57 yX11_known ∈ BIG := big_3 (i := 175) rfl rfl
theorem ml_X11_210 : Cond.methodLink RX11 210 yX0_knownOn ∈ BIG := big_3 (i := 179) rfl rfl
theorem ml_L_61 : Cond.methodLink RL 61 yX11_file ∈ BIG := big_3 (i := 183) rfl rfl
theorem ml_L_65 : Cond.methodLink RL 65 yX11_out ∈ BIG := big_3 (i := 187) rfl rfl
theorem ml_L_69 : Cond.methodLink RL 69 yX11_drawer ∈ BIG := big_3 (i := 191) rfl rfl
theorem ml_X11_213 : Cond.methodLink RX11 213 yX0_filedIn ∈ BIG := big_3 (i := 195) rfl rfl
theorem ml_X0_77 : Cond.methodLink RX0 77 yX1_isOut ∈ BIG := big_3 (i := 199) rfl rfl
theorem ml_X11_217 : Cond.methodLink RX11 217 yJ6_bitCount_0f7a4 ∈ BIG := big_3 (i := 200) rfl rfl
theorem ml_X11_222 : Cond.methodLink RX11 222 yX0_elsewhere ∈ BIG := big_3 (i := 206) rfl rfl
theorem ml_L_73 : Cond.methodLink RL 73 yX11_tell ∈ BIG := big_3 (i := 211) rfl rfl
theorem ml_L_78 : Cond.methodLink RL 78 yX11_chance ∈ BIG := big_3 (i := 215) rfl rfl
theorem ml_X11_235 : Cond.methodLink RX11 235 yX3_weigh ∈ BIG := big_3 (i := 221) rfl rfl
theorem ml_X3_33 : Cond.methodLink RX3 33 yX5_spreadOf ∈ BIG := big_3 (i := 225) rfl rfl
theorem ml_X3_39 : Cond.methodLink RX3 39 yX3_share ∈ BIG := big_3 (i := 226) rfl rfl
theorem ml_X3_47 : Cond.methodLink RX3 47 yJ9_max_7cf53 ∈ BIG := big_3 (i := 231) rfl rfl
theorem ml_X3_53 : Cond.methodLink RX3 53 yX5_third ∈ BIG := big_3 (i := 234) rfl rfl
theorem ml_X11_245 : Cond.methodLink RX11 245 yX11_lowest ∈ BIG := big_3 (i := 235) rfl rfl
theorem ml_L_83 : Cond.methodLink RL 83 yX11_look ∈ BIG := big_3 (i := 238) rfl rfl
theorem ml_X11_249 : Cond.methodLink RX11 249 yX11_isShare ∈ BIG := big_4 (i := 2) rfl rfl
theorem ml_X11_252 : Cond.methodLink RX11 252 yX3_take ∈ BIG := big_4 (i := 5) rfl rfl
theorem ml_X3_64 : Cond.methodLink RX3 64 yX3_heaviest ∈ BIG := big_4 (i := 10) rfl rfl
theorem ml_L_87 : Cond.methodLink RL 87 yX11_match ∈ BIG := big_4 (i := 14) rfl rfl
theorem ml_X11_265 : Cond.methodLink RX11 265 yX10_findMatches ∈ BIG := big_4 (i := 18) rfl rfl
theorem ml_X10_41 : Cond.methodLink RX10 41 yX1_spread ∈ BIG := big_4 (i := 22) rfl rfl
theorem ml_X10_50 : Cond.methodLink RX10 50 yX5_spreadOf ∈ BIG := big_4 (i := 23) rfl rfl
theorem ml_X10_56 : Cond.methodLink RX10 56 yX1_miss ∈ BIG := big_4 (i := 24) rfl rfl
theorem ml_X1_43 : Cond.methodLink RX1 43 yX1_isOut ∈ BIG := big_4 (i := 28) rfl rfl
theorem ml_X1_47 : Cond.methodLink RX1 47 yX1_canMeasure ∈ BIG := big_4 (i := 29) rfl rfl
theorem ml_X1_51 : Cond.methodLink RX1 51 yJ9_max_7cf53 ∈ BIG := big_4 (i := 33) rfl rfl
theorem ml_X10_60 : Cond.methodLink RX10 60 yX10_insert ∈ BIG := big_4 (i := 34) rfl rfl
theorem ml_L_91 : Cond.methodLink RL 91 yX11_byChance ∈ BIG := big_4 (i := 38) rfl rfl
theorem ml_X11_276 : Cond.methodLink RX11 276 yX0_kept ∈ BIG := big_4 (i := 42) rfl rfl
theorem ml_X11_282 : Cond.methodLink RX11 282 yX10_near ∈ BIG := big_4 (i := 47) rfl rfl
theorem ml_X10_64 : Cond.methodLink RX10 64 yX1_isOut ∈ BIG := big_4 (i := 51) rfl rfl
theorem ml_X10_69 : Cond.methodLink RX10 69 yJ9_abs_0f7a4 ∈ BIG := big_4 (i := 52) rfl rfl
theorem ml_L_96 : Cond.methodLink RL 96 yX11_grown ∈ BIG := big_4 (i := 56) rfl rfl
theorem ml_X11_286 : Cond.methodLink RX11 286 yX1_canMeasure ∈ BIG := big_4 (i := 60) rfl rfl
theorem ml_L_100 : Cond.methodLink RL 100 yX11_beside ∈ BIG := big_4 (i := 61) rfl rfl
theorem ml_X11_289 : Cond.methodLink RX11 289 yX0_printed ∈ BIG := big_4 (i := 65) rfl rfl
theorem ml_X0_85 : Cond.methodLink RX0 85 yJ6_bitCount_0f7a4 ∈ BIG := big_4 (i := 69) rfl rfl
theorem ml_L_104 : Cond.methodLink RL 104 yX11_bar ∈ BIG := big_4 (i := 70) rfl rfl
theorem ml_X11_292 : Cond.methodLink RX11 292 yX0_isBarred ∈ BIG := big_4 (i := 74) rfl rfl
theorem ml_X0_95 : Cond.methodLink RX0 95 yJ9_min_7cf53 ∈ BIG := big_4 (i := 78) rfl rfl
theorem ml_X0_101 : Cond.methodLink RX0 101 yJ9_max_7cf53 ∈ BIG := big_4 (i := 81) rfl rfl
theorem ml_X11_296 : Cond.methodLink RX11 296 yX0_setBar ∈ BIG := big_4 (i := 82) rfl rfl
theorem ml_X0_107 : Cond.methodLink RX0 107 yX0_isBarred ∈ BIG := big_4 (i := 86) rfl rfl
theorem ml_L_109 : Cond.methodLink RL 109 yX11_join ∈ BIG := big_4 (i := 87) rfl rfl
theorem ml_X11_300 : Cond.methodLink RX11 300 yX0_joined ∈ BIG := big_4 (i := 91) rfl rfl
theorem ml_X0_111 : Cond.methodLink RX0 111 yX1_spread ∈ BIG := big_4 (i := 95) rfl rfl
theorem ml_X0_115 : Cond.methodLink RX0 115 yX1_miss ∈ BIG := big_4 (i := 96) rfl rfl
theorem ml_L_113 : Cond.methodLink RL 113 yX11_men ∈ BIG := big_4 (i := 97) rfl rfl
theorem ml_X11_303 : Cond.methodLink RX11 303 yX4_gather ∈ BIG := big_4 (i := 101) rfl rfl
theorem ml_X4_29 : Cond.methodLink RX4 29 yX1_isOut ∈ BIG := big_4 (i := 105) rfl rfl
theorem ml_X4_35 : Cond.methodLink RX4 35 yX0_joined ∈ BIG := big_4 (i := 106) rfl rfl
theorem ml_X4_39 : Cond.methodLink RX4 39 yJ9_min_7cf53 ∈ BIG := big_4 (i := 107) rfl rfl
theorem ml_X4_45 : Cond.methodLink RX4 45 yJ9_max_7cf53 ∈ BIG := big_4 (i := 108) rfl rfl
theorem ml_X4_48 : Cond.methodLink RX4 48 yX4_hang ∈ BIG := big_4 (i := 109) rfl rfl
theorem ml_X11_309 : Cond.methodLink RX11 309 yX4_number ∈ BIG := big_4 (i := 113) rfl rfl
theorem ml_X11_312 : Cond.methodLink RX11 312 yX4_greatest ∈ BIG := big_4 (i := 118) rfl rfl
theorem ml_X4_56 : Cond.methodLink RX4 56 yX4_isOne ∈ BIG := big_4 (i := 122) rfl rfl
theorem ml_X11_315 : Cond.methodLink RX11 315 yX4_quarrels ∈ BIG := big_4 (i := 126) rfl rfl
theorem ml_X4_59 : Cond.methodLink RX4 59 yX0_isBarred ∈ BIG := big_4 (i := 130) rfl rfl
theorem ml_L_117 : Cond.methodLink RL 117 yX11_guess ∈ BIG := big_4 (i := 131) rfl rfl
theorem ml_X11_318 : Cond.methodLink RX11 318 yX4_findDoubles ∈ BIG := big_4 (i := 135) rfl rfl
theorem ml_X4_74 : Cond.methodLink RX4 74 yJ9_abs_0f7a4 ∈ BIG := big_4 (i := 139) rfl rfl
theorem ml_L_121 : Cond.methodLink RL 121 yX11_even ∈ BIG := big_4 (i := 140) rfl rfl
theorem ml_X11_328 : Cond.methodLink RX11 328 yX2_search ∈ BIG := big_4 (i := 144) rfl rfl
theorem ml_X2_22 : Cond.methodLink RX2 22 yX2_below ∈ BIG := big_4 (i := 148) rfl rfl
theorem ml_X2_70 : Cond.methodLink RX2 70 yX2_isCounted ∈ BIG := big_4 (i := 152) rfl rfl
theorem ml_X2_58 : Cond.methodLink RX2 58 yX1_isOut ∈ BIG := big_4 (i := 156) rfl rfl
theorem ml_X2_26 : Cond.methodLink RX2 26 yX2_near ∈ BIG := big_4 (i := 158) rfl rfl
theorem ml_X2_78 : Cond.methodLink RX2 78 yJ9_abs_0f7a4 ∈ BIG := big_4 (i := 162) rfl rfl
theorem ml_X2_87 : Cond.methodLink RX2 87 yX1_spread ∈ BIG := big_4 (i := 163) rfl rfl
theorem ml_X2_29 : Cond.methodLink RX2 29 yX2_difference ∈ BIG := big_4 (i := 164) rfl rfl
theorem ml_X2_91 : Cond.methodLink RX2 91 yJ9_max_7cf53 ∈ BIG := big_4 (i := 168) rfl rfl
theorem ml_X2_94 : Cond.methodLink RX2 94 yJ9_min_7cf53 ∈ BIG := big_4 (i := 169) rfl rfl
theorem ml_X2_33 : Cond.methodLink RX2 33 yJ6_bitCount_0f7a4 ∈ BIG := big_4 (i := 170) rfl rfl
theorem ml_L_125 : Cond.methodLink RL 125 yX11_judge ∈ BIG := big_4 (i := 171) rfl rfl
theorem ml_X11_343 : Cond.methodLink RX11 343 yX2_below ∈ BIG := big_4 (i := 175) rfl rfl
theorem ml_X11_346 : Cond.methodLink RX11 346 yX2_difference ∈ BIG := big_4 (i := 176) rfl rfl
theorem ml_X11_349 : Cond.methodLink RX11 349 yX2_near ∈ BIG := big_4 (i := 177) rfl rfl
theorem ml_L_130 : Cond.methodLink RL 130 yX11_hold ∈ BIG := big_4 (i := 178) rfl rfl
theorem ml_L_134 : Cond.methodLink RL 134 yX11_held ∈ BIG := big_4 (i := 182) rfl rfl
theorem ml_X11_354 : Cond.methodLink RX11 354 yX11_isHold ∈ BIG := big_4 (i := 186) rfl rfl
theorem ml_X11_357 : Cond.methodLink RX11 357 yX11_leaned ∈ BIG := big_4 (i := 190) rfl rfl
theorem ml_L_138 : Cond.methodLink RL 138 yX11_wrong ∈ BIG := big_4 (i := 194) rfl rfl
theorem ml_L_142 : Cond.methodLink RL 142 yX11_sheet ∈ BIG := big_4 (i := 198) rfl rfl
theorem ml_X11_360 : Cond.methodLink RX11 360 yX11_isSheet ∈ BIG := big_4 (i := 202) rfl rfl
theorem ml_X11_363 : Cond.methodLink RX11 363 yX11_isLane ∈ BIG := big_4 (i := 205) rfl rfl
theorem ml_X11_366 : Cond.methodLink RX11 366 yX8_renew ∈ BIG := big_4 (i := 208) rfl rfl
theorem ml_L_146 : Cond.methodLink RL 146 yX11_lay ∈ BIG := big_4 (i := 212) rfl rfl
theorem ml_X11_370 : Cond.methodLink RX11 370 yX8_has ∈ BIG := big_4 (i := 216) rfl rfl
theorem ml_X11_371 : Cond.methodLink RX11 371 yX8_put ∈ BIG := big_4 (i := 220) rfl rfl
theorem ml_L_150 : Cond.methodLink RL 150 yX11_read ∈ BIG := big_4 (i := 224) rfl rfl
theorem ml_X11_374 : Cond.methodLink RX11 374 yX8_refusal ∈ BIG := big_4 (i := 228) rfl rfl
theorem ml_X11_380 : Cond.methodLink RX11 380 yJ9_max_7cf53 ∈ BIG := big_4 (i := 232) rfl rfl
theorem ml_L_154 : Cond.methodLink RL 154 yX11_torn ∈ BIG := big_4 (i := 233) rfl rfl
theorem ml_L_158 : Cond.methodLink RL 158 yX11_count ∈ BIG := big_4 (i := 237) rfl rfl
theorem ml_X11_390 : Cond.methodLink RX11 390 yX0_due ∈ BIG := big_5 (i := 1) rfl rfl
theorem ml_X0_91 : Cond.methodLink RX0 91 yX1_isDue ∈ BIG := big_5 (i := 5) rfl rfl
theorem ml_X11_395 : Cond.methodLink RX11 395 yX11_wrongHolds ∈ BIG := big_5 (i := 7) rfl rfl
theorem ml_L_12 : Cond.methodLink RL 12 yX12_init ∈ BIG := big_5 (i := 13) rfl rfl
theorem ml_X12_1 : Cond.methodLink RX12 1 objectInit ∈ BIG := big_5 (i := 16) rfl rfl
theorem ml_L_17 : Cond.methodLink RL 17 yX12_day ∈ BIG := big_5 (i := 204) rfl rfl
theorem ml_X12_137 : Cond.methodLink RX12 137 yX12_in ∈ BIG := big_5 (i := 209) rfl rfl
theorem ml_L_24 : Cond.methodLink RL 24 yX12_feed ∈ BIG := big_5 (i := 212) rfl rfl
theorem ml_L_28 : Cond.methodLink RL 28 yX12_end ∈ BIG := big_5 (i := 216) rfl rfl
theorem ml_L_33 : Cond.methodLink RL 33 yX12_text ∈ BIG := big_5 (i := 220) rfl rfl
theorem ml_X12_178 : Cond.methodLink RX12 178 yX12_next ∈ BIG := big_5 (i := 224) rfl rfl
theorem ml_X12_156 : Cond.methodLink RX12 156 yX12_byteAt ∈ BIG := big_5 (i := 228) rfl rfl
theorem ml_X12_174 : Cond.methodLink RX12 174 yX12_fails ∈ BIG := big_5 (i := 236) rfl rfl
theorem ml_X12_201 : Cond.methodLink RX12 201 yX12_readLine ∈ BIG := big_6 (i := 0) rfl rfl
theorem ml_X12_190 : Cond.methodLink RX12 190 yX12_nameHere ∈ BIG := big_6 (i := 4) rfl rfl
theorem ml_X12_194 : Cond.methodLink RX12 194 yX12_number ∈ BIG := big_6 (i := 8) rfl rfl
theorem ml_X12_198 : Cond.methodLink RX12 198 yX12_readOf ∈ BIG := big_6 (i := 12) rfl rfl
theorem ml_X12_186 : Cond.methodLink RX12 186 yX12_once ∈ BIG := big_6 (i := 17) rfl rfl
theorem ml_L_37 : Cond.methodLink RL 37 yX12_fault ∈ BIG := big_6 (i := 21) rfl rfl
theorem ml_L_42 : Cond.methodLink RL 42 yX12_rule ∈ BIG := big_6 (i := 25) rfl rfl
theorem ml_X12_220 : Cond.methodLink RX12 220 yX12_firstEdge ∈ BIG := big_6 (i := 30) rfl rfl
theorem ml_X12_214 : Cond.methodLink RX12 214 yX12_holdsThen ∈ BIG := big_6 (i := 34) rfl rfl
theorem ml_X12_210 : Cond.methodLink RX12 210 yX12_lineAt ∈ BIG := big_6 (i := 38) rfl rfl
theorem ml_X12_223 : Cond.methodLink RX12 223 yX12_secondEdge ∈ BIG := big_6 (i := 42) rfl rfl
theorem ml_X12_226 : Cond.methodLink RX12 226 yX12_spreadOf ∈ BIG := big_6 (i := 46) rfl rfl
theorem ml_X12_229 : Cond.methodLink RX12 229 yX12_growOf ∈ BIG := big_6 (i := 50) rfl rfl
theorem ml_L_47 : Cond.methodLink RL 47 yX12_card ∈ BIG := big_6 (i := 54) rfl rfl
theorem ml_X12_247 : Cond.methodLink RX12 247 yX12_isMeasure ∈ BIG := big_6 (i := 60) rfl rfl
theorem ml_X12_253 : Cond.methodLink RX12 253 yX12_addCard ∈ BIG := big_6 (i := 65) rfl rfl
theorem ml_X12_240 : Cond.methodLink RX12 240 yX12_drawerOf ∈ BIG := big_6 (i := 69) rfl rfl
theorem ml_X12_237 : Cond.methodLink RX12 237 yX12_thirdOf ∈ BIG := big_6 (i := 73) rfl rfl
theorem ml_L_51 : Cond.methodLink RL 51 yX12_of ∈ BIG := big_6 (i := 77) rfl rfl
theorem ml_X12_257 : Cond.methodLink RX12 257 yX12_isCard ∈ BIG := big_6 (i := 81) rfl rfl
theorem ml_X12_260 : Cond.methodLink RX12 260 yX12_isOut ∈ BIG := big_6 (i := 85) rfl rfl
theorem ml_X12_263 : Cond.methodLink RX12 263 yX12_isDue ∈ BIG := big_6 (i := 89) rfl rfl
theorem ml_X12_266 : Cond.methodLink RX12 266 yX12_spreadAt ∈ BIG := big_6 (i := 93) rfl rfl
theorem ml_L_56 : Cond.methodLink RL 56 yX12_anew ∈ BIG := big_6 (i := 97) rfl rfl
theorem ml_L_60 : Cond.methodLink RL 60 yX12_known ∈ BIG := big_6 (i := 102) rfl rfl
theorem ml_L_64 : Cond.methodLink RL 64 yX12_file ∈ BIG := big_6 (i := 106) rfl rfl
theorem ml_L_68 : Cond.methodLink RL 68 yX12_out ∈ BIG := big_6 (i := 110) rfl rfl
theorem ml_L_72 : Cond.methodLink RL 72 yX12_drawer ∈ BIG := big_6 (i := 114) rfl rfl
theorem ml_L_77 : Cond.methodLink RL 77 yX12_tell ∈ BIG := big_6 (i := 119) rfl rfl
theorem ml_L_82 : Cond.methodLink RL 82 yX12_chance ∈ BIG := big_6 (i := 123) rfl rfl
theorem ml_X12_280 : Cond.methodLink RX12 280 yX12_layThirds ∈ BIG := big_6 (i := 129) rfl rfl
theorem ml_X12_283 : Cond.methodLink RX12 283 yX12_chanceOf ∈ BIG := big_6 (i := 133) rfl rfl
theorem ml_X12_286 : Cond.methodLink RX12 286 yX12_lowest ∈ BIG := big_6 (i := 137) rfl rfl
theorem ml_L_86 : Cond.methodLink RL 86 yX12_look ∈ BIG := big_6 (i := 140) rfl rfl
theorem ml_X12_302 : Cond.methodLink RX12 302 yX12_layLook ∈ BIG := big_6 (i := 146) rfl rfl
theorem ml_X12_305 : Cond.methodLink RX12 305 yX12_isLooked ∈ BIG := big_6 (i := 151) rfl rfl
theorem ml_L_99 : Cond.methodLink RL 99 yX12_grown ∈ BIG := big_6 (i := 155) rfl rfl
theorem ml_X12_308 : Cond.methodLink RX12 308 yX12_grownOf ∈ BIG := big_6 (i := 159) rfl rfl
theorem ml_L_90 : Cond.methodLink RL 90 yX12_match ∈ BIG := big_6 (i := 163) rfl rfl
theorem ml_X12_324 : Cond.methodLink RX12 324 yX12_matches ∈ BIG := big_6 (i := 169) rfl rfl
theorem ml_X12_314 : Cond.methodLink RX12 314 yX12_tryTelling ∈ BIG := big_6 (i := 173) rfl rfl
theorem ml_X12_317 : Cond.methodLink RX12 317 yX12_missOf ∈ BIG := big_6 (i := 177) rfl rfl
theorem ml_X12_327 : Cond.methodLink RX12 327 yX12_sizeOf ∈ BIG := big_6 (i := 181) rfl rfl
theorem ml_X12_330 : Cond.methodLink RX12 330 yX12_matchAt ∈ BIG := big_6 (i := 184) rfl rfl
theorem ml_L_95 : Cond.methodLink RL 95 yX12_byChance ∈ BIG := big_6 (i := 188) rfl rfl
theorem ml_L_103 : Cond.methodLink RL 103 yX12_beside ∈ BIG := big_6 (i := 193) rfl rfl
theorem ml_X12_335 : Cond.methodLink RX12 335 yX12_onesOf ∈ BIG := big_6 (i := 197) rfl rfl
theorem ml_L_108 : Cond.methodLink RL 108 yX12_bar ∈ BIG := big_6 (i := 200) rfl rfl
theorem ml_L_112 : Cond.methodLink RL 112 yX12_join ∈ BIG := big_6 (i := 204) rfl rfl
theorem ml_X12_344 : Cond.methodLink RX12 344 yX12_doJoin ∈ BIG := big_6 (i := 208) rfl rfl
theorem ml_X12_341 : Cond.methodLink RX12 341 yX12_tryCard ∈ BIG := big_6 (i := 212) rfl rfl
theorem ml_L_116 : Cond.methodLink RL 116 yX12_men ∈ BIG := big_6 (i := 216) rfl rfl
theorem ml_X12_348 : Cond.methodLink RX12 348 yX12_layMen ∈ BIG := big_6 (i := 220) rfl rfl
theorem ml_L_120 : Cond.methodLink RL 120 yX12_guess ∈ BIG := big_6 (i := 224) rfl rfl
theorem ml_L_124 : Cond.methodLink RL 124 yX12_even ∈ BIG := big_6 (i := 228) rfl rfl
theorem ml_X12_360 : Cond.methodLink RX12 360 yX12_judgeEdges ∈ BIG := big_6 (i := 232) rfl rfl
theorem ml_L_129 : Cond.methodLink RL 129 yX12_judge ∈ BIG := big_6 (i := 236) rfl rfl
theorem ml_L_133 : Cond.methodLink RL 133 yX12_hold ∈ BIG := big_7 (i := 0) rfl rfl
theorem ml_L_137 : Cond.methodLink RL 137 yX12_held ∈ BIG := big_7 (i := 4) rfl rfl
theorem ml_X12_366 : Cond.methodLink RX12 366 yX12_leaned ∈ BIG := big_7 (i := 8) rfl rfl
theorem ml_L_141 : Cond.methodLink RL 141 yX12_wrong ∈ BIG := big_7 (i := 12) rfl rfl
theorem ml_L_145 : Cond.methodLink RL 145 yX12_sheet ∈ BIG := big_7 (i := 16) rfl rfl
theorem ml_L_149 : Cond.methodLink RL 149 yX12_lay ∈ BIG := big_7 (i := 20) rfl rfl
theorem ml_L_153 : Cond.methodLink RL 153 yX12_read ∈ BIG := big_7 (i := 24) rfl rfl
theorem ml_L_157 : Cond.methodLink RL 157 yX12_torn ∈ BIG := big_7 (i := 29) rfl rfl
theorem ml_L_161 : Cond.methodLink RL 161 yX12_count ∈ BIG := big_7 (i := 33) rfl rfl
theorem cn_X11_231 : Cond.constantLong RX11 231 (Int64.ofInt (-1)) ∈ BIG := big_3 (i := 219) rfl rfl
theorem cn_X11_233 : Cond.constantLong RX11 233 (Int64.ofInt (-2)) ∈ BIG := big_3 (i := 220) rfl rfl
theorem cn_X3_62 : Cond.constantLong RX3 62 (Int64.ofInt (1000)) ∈ BIG := big_4 (i := 9) rfl rfl
theorem cn_X11_280 : Cond.constantLong RX11 280 (Int64.ofInt (-4)) ∈ BIG := big_4 (i := 46) rfl rfl
theorem cn_X12_135 : Cond.constantLong RX12 135 (Int64.ofInt (9999)) ∈ BIG := big_5 (i := 208) rfl rfl
theorem cn_X12_166 : Cond.constantLong RX12 166 (Int64.ofInt (97)) ∈ BIG := big_5 (i := 232) rfl rfl
theorem cn_X12_168 : Cond.constantLong RX12 168 (Int64.ofInt (122)) ∈ BIG := big_5 (i := 233) rfl rfl
theorem cn_X12_170 : Cond.constantLong RX12 170 (Int64.ofInt (48)) ∈ BIG := big_5 (i := 234) rfl rfl
theorem cn_X12_172 : Cond.constantLong RX12 172 (Int64.ofInt (57)) ∈ BIG := big_5 (i := 235) rfl rfl
theorem cn_X12_184 : Cond.constantLong RX12 184 (Int64.ofInt (100)) ∈ BIG := big_6 (i := 16) rfl rfl
theorem cn_X12_218 : Cond.constantLong RX12 218 (Int64.ofInt (19)) ∈ BIG := big_6 (i := 29) rfl rfl
theorem cn_X12_243 : Cond.constantLong RX12 243 (Int64.ofInt (5)) ∈ BIG := big_6 (i := 58) rfl rfl
theorem cn_X12_245 : Cond.constantLong RX12 245 (Int64.ofInt (2)) ∈ BIG := big_6 (i := 59) rfl rfl
theorem cn_X12_235 : Cond.constantLong RX12 235 (Int64.ofInt (999)) ∈ BIG := big_6 (i := 63) rfl rfl
theorem cn_X12_251 : Cond.constantLong RX12 251 (Int64.ofInt (1023)) ∈ BIG := big_6 (i := 64) rfl rfl
theorem cn_X12_269 : Cond.constantLong RX12 269 (Int64.ofInt (3)) ∈ BIG := big_6 (i := 101) rfl rfl
theorem cn_X12_274 : Cond.constantLong RX12 274 (Int64.ofInt (26)) ∈ BIG := big_6 (i := 118) rfl rfl
theorem cn_X12_276 : Cond.constantLong RX12 276 (Int64.ofInt (-1)) ∈ BIG := big_6 (i := 127) rfl rfl
theorem cn_X12_278 : Cond.constantLong RX12 278 (Int64.ofInt (-2)) ∈ BIG := big_6 (i := 128) rfl rfl
theorem cn_X12_298 : Cond.constantLong RX12 298 (Int64.ofInt (10)) ∈ BIG := big_6 (i := 144) rfl rfl
theorem cn_X12_300 : Cond.constantLong RX12 300 (Int64.ofInt (36)) ∈ BIG := big_6 (i := 145) rfl rfl
theorem cn_X12_296 : Cond.constantLong RX12 296 (Int64.ofInt (1000)) ∈ BIG := big_6 (i := 150) rfl rfl
theorem cn_X12_320 : Cond.constantLong RX12 320 (Int64.ofInt (33)) ∈ BIG := big_6 (i := 167) rfl rfl
theorem cn_X12_322 : Cond.constantLong RX12 322 (Int64.ofInt (50)) ∈ BIG := big_6 (i := 168) rfl rfl
theorem cn_X12_333 : Cond.constantLong RX12 333 (Int64.ofInt (-4)) ∈ BIG := big_6 (i := 192) rfl rfl
theorem cn_X12_369 : Cond.constantLong RX12 369 (Int64.ofInt (24)) ∈ BIG := big_7 (i := 28) rfl rfl
theorem cn_L_18 : Cond.constantLong RL 18 (Int64.ofInt (4294967295)) ∈ BIG := big_7 (i := 37) rfl rfl
theorem cn_J6_265 : Cond.constant RJ6 265 (Int32.ofInt (1431655765)) ∈ BIG := big_3 (i := 203) rfl rfl
theorem cn_J6_266 : Cond.constant RJ6 266 (Int32.ofInt (858993459)) ∈ BIG := big_3 (i := 204) rfl rfl
theorem cn_J6_267 : Cond.constant RJ6 267 (Int32.ofInt (252645135)) ∈ BIG := big_3 (i := 205) rfl rfl
theorem cn_X11_393 : Cond.constant RX11 393 (Int32.ofInt (134217727)) ∈ BIG := big_5 (i := 6) rfl rfl
theorem oi_i : Cond.instanceMethod objectInit ∈ BIG := big_1 (i := 26) rfl rfl
theorem oi_c : Cond.code objectInit ⟨#[0xb1]⟩ 1 none ∈ BIG := big_1 (i := 27) rfl rfl
theorem mt_max : Cond.static Lib.Math.max.name ∈ BIG ∧ Cond.code Lib.Math.max.name Lib.Math.max.code 2 (some .int) ∈ BIG := ⟨big_3 (i := 232) rfl rfl, big_3 (i := 233) rfl rfl⟩
theorem mt_min : Cond.static Lib.Math.min.name ∈ BIG ∧ Cond.code Lib.Math.min.name Lib.Math.min.code 2 (some .int) ∈ BIG := ⟨big_4 (i := 79) rfl rfl, big_4 (i := 80) rfl rfl⟩
theorem mt_abs : Cond.static Lib.Math.abs.name ∈ BIG ∧ Cond.code Lib.Math.abs.name Lib.Math.abs.code 1 (some .int) ∈ BIG := ⟨big_4 (i := 53) rfl rfl, big_4 (i := 54) rfl rfl⟩
theorem ac_byte : Cond.arrayClass .byte ∈ BIG := big_1 (i := 43) rfl rfl
theorem ac_int : Cond.arrayClass .int ∈ BIG := big_1 (i := 68) rfl rfl
theorem ac_boolean : Cond.arrayClass .boolean ∈ BIG := big_1 (i := 192) rfl rfl
theorem ao_X1 : lw_tbl[201]? = some (Cond.arrayOver (.object RX1)) := by decide +kernel
theorem ao_X8 : lw_tbl[414]? = some (Cond.arrayOver (.object RX8)) := by decide +kernel
theorem kl_L_7 : Cond.classLink RL 7 RX11 ∈ BIG := big_1 (i := 20) rfl rfl
theorem kl_X11_7 : Cond.classLink RX11 7 RX9 ∈ BIG := big_1 (i := 28) rfl rfl
theorem kl_X11_16 : Cond.classLink RX11 16 RX7 ∈ BIG := big_1 (i := 44) rfl rfl
theorem kl_X11_23 : Cond.classLink RX11 23 RX6 ∈ BIG := big_1 (i := 69) rfl rfl
theorem kl_X6_9 : Cond.classLink RX6 9 RX7 ∈ BIG := big_1 (i := 75) rfl rfl
theorem kl_X11_32 : Cond.classLink RX11 32 RX5 ∈ BIG := big_1 (i := 102) rfl rfl
theorem kl_X11_41 : Cond.classLink RX11 41 RX0 ∈ BIG := big_1 (i := 137) rfl rfl
theorem kl_X0_9 : Cond.classLink RX0 9 RX1 ∈ BIG := big_1 (i := 143) rfl rfl
theorem kl_X11_50 : Cond.classLink RX11 50 RX10 ∈ BIG := big_1 (i := 236) rfl rfl
theorem kl_X11_57 : Cond.classLink RX11 57 RX3 ∈ BIG := big_2 (i := 32) rfl rfl
theorem kl_X11_64 : Cond.classLink RX11 64 RX4 ∈ BIG := big_2 (i := 62) rfl rfl
theorem kl_X11_73 : Cond.classLink RX11 73 RX2 ∈ BIG := big_2 (i := 84) rfl rfl
theorem kl_X11_80 : Cond.classLink RX11 80 RX8 ∈ BIG := big_2 (i := 116) rfl rfl
theorem kl_L_10 : Cond.classLink RL 10 RX12 ∈ BIG := big_5 (i := 11) rfl rfl
end
section
/-! THE WALK OVER THE STATIC PICTURE -/
abbrev XE : Type := Nat × va_G × (Nat → ClassId) × (Nat → Nat) × (Nat → Nat)
def xad (X : XE) (j : Nat) : Nat := X.1 + j
def xval (X : XE) (σ : Mem) (j k : Nat) : Value := match (xsh j).2.2.getD k none with
  | some r => .ref (xad X r)
  | none => vI (σ j k)
def xat (X : XE) (σ : Mem) (j : Nat) (H : Heap) : Prop := if (xsh j).1 < 20 then t_OB (xad X j) (X.2.1.1 (xsh j).1) (xsh j).2.1 (X.2.1.2 (xsh j).1) H (xval X σ j) else H[xad X j]? = some (arrV (X.2.2.1 (xsh j).1) (xsh j).2.1 (xval X σ j))
def xA (X : XE) : Nat → Prop := fun q => X.1 ≤ q ∧ q < X.1 + NC
def xcells (X : XE) (σ : Mem) (H : Heap) : Prop := ∀ j, j < NC → xat X σ j H
def xtys (X : XE) : List (ClassId × FieldType) := [(X.2.2.1 20, .int), (X.2.2.1 21, .boolean), (X.2.2.1 22, .byte), (X.2.2.1 23, .object RX1), (X.2.2.1 24, .object RX8)]
def lenK : List Nat := [4, 4, 6, 4, 4, 5]
def bytK : List (List Int32) := [[102, 114, 111, 109], [101, 100, 103, 101], [115, 112, 114, 101, 97, 100], [103, 114, 111, 119], [107, 101, 101, 112], [111, 116, 104, 101, 114]]
def xK (X : XE) (U : State) : Prop := va_K X.2.1 vwCl (xtys X) U ∧
  (va_Nw (.methodLinkNest RX6 92 yX11_isMeasure RX11) U ∧ va_Nw (.methodLinkNest RX0 81 yX11_bit RX11) U ∧ va_Nw (.methodLinkNest RX3 43 yX11_bit RX11) U ∧ va_Nw (.methodLinkNest RX10 74 yX11_bit RX11) U ∧ va_Nw (.methodLinkNest RX4 52 yX11_bit RX11) U ∧ va_Nw (.methodLinkNest RX2 74 yX11_bit RX11) U) ∧
  (vk_R RX6 38 "from" (X.2.2.2.1 0) U ∧ vk_R RX6 55 "edge" (X.2.2.2.1 1) U ∧ vk_R RX6 57 "spread" (X.2.2.2.1 2) U ∧ vk_R RX6 59 "grow" (X.2.2.2.1 3) U ∧ vk_R RX6 61 "keep" (X.2.2.2.1 4) U ∧ vk_R RX6 63 "other" (X.2.2.2.1 5) U)
def xS (X : XE) (U : State) (H : Heap) : Prop := vk_S 6 lenK bytK X.2.2.2.1 X.2.2.2.2 (xA X) U H ∧ va_Z RJ0 "COMPACT_STRINGS" "Z" (.int 1) (xA X) U H ∧ va_Zq RJ3 "SIOOBE_FORMATTER" "Ljava/util/function/BiFunction;" (xA X) U H
theorem xK.moved {X : XE} {u U : State} (hW : u.WarmedH U.vm) (h : xK X u) : xK X U := by
  obtain ⟨h1, ⟨a1, a2, a3, a4, a5, a6⟩, b1, b2, b3, b4, b5, b6⟩ := h
  exact ⟨va_K.moved hW.alike h1, ⟨va_Nw.warmM hW a1, va_Nw.warmM hW a2, va_Nw.warmM hW a3, va_Nw.warmM hW a4, va_Nw.warmM hW a5, va_Nw.warmM hW a6⟩, vk_R.warm hW b1, vk_R.warm hW b2, vk_R.warm hW b3, vk_R.warm hW b4, vk_R.warm hW b5, vk_R.warm hW b6⟩
theorem xK.same {X : XE} {u U : State} (hv : U.vm = u.vm) (h : xK X u) : xK X U := by
  obtain ⟨h1, ⟨a1, a2, a3, a4, a5, a6⟩, b1, b2, b3, b4, b5, b6⟩ := h
  exact ⟨va_K.moved (by rw [hv]; exact Vm.Alike.refl _) h1, ⟨va_Nw.same rfl hv.symm a1, va_Nw.same rfl hv.symm a2, va_Nw.same rfl hv.symm a3, va_Nw.same rfl hv.symm a4, va_Nw.same rfl hv.symm a5, va_Nw.same rfl hv.symm a6⟩, vk_R.same hv b1, vk_R.same hv b2, vk_R.same hv b3, vk_R.same hv b4, vk_R.same hv b5, vk_R.same hv b6⟩
theorem xS.moved {X : XE} {u U : State} {H : Heap} (hvm : u.vm.Alike U.vm) (h : xS X u H) : xS X U H := ⟨vk_S.moved hvm h.1, va_Z.moved hvm h.2.1, va_Zq.moved hvm h.2.2⟩
theorem xS.kept {X : XE} {U : State} {H H1 : Heap} (h : xS X U H) (hq : ∀ q : Nat, ¬ xA X q → H1[q]? = H[q]?) : xS X U H1 := ⟨vk_S.kept h.1 (fun a _ ha => hq a ha), va_Z.kept h.2.1 (fun a _ ha => hq a ha), va_Zq.kept h.2.2 (fun a _ ha => hq a ha)⟩
def xPI (X : XE) (σ : Mem) (U : State) : Prop := xK X U ∧ xS X U U.heap ∧ xcells X σ U.heap ∧ WF σ
def rv (rk : Nat) (r : Int) : Option Value := if rk = 0 then none else if rk = 1 then some (vI r) else some (vL r)
def rok (rk : Nat) (r : Int) : Prop := if rk = 0 then r = 0 else if rk = 1 then inR r else inL r
def xQ (X : XE) (rk : Nat) (post : Int → Mem → Prop) : Array Value → State → Outcome → State → Prop := fun _ st oc t =>
  ∃ (r : Int) (σ' : Mem), oc = .returned (rv rk r) ∧ rok rk r ∧ post r σ' ∧ WF σ' ∧ xcells X σ' t.heap ∧ t.heap.size = st.heap.size ∧ ∀ q : Nat, ¬ xA X q → t.heap[q]? = st.heap[q]?
def xC (own : String) (cc : ByteArray) (nL : Nat) (ret : Option FieldType) (X : XE) (p : Program) (s : State) (m : MethodId) (args : Array Value) (meth : Method) (c : Code) : Prop :=
  p.tables.exec = Jvm.exec ∧ c.code = cc ∧ meth.sig.returnType = ret ∧ meth.locks = false ∧ c.maxLocals = nL ∧ s.vm.findClass own = some m.cls ∧ (∀ w ∈ BIG, w.before args s = true) ∧ xK X s ∧ xS X s s.heap
def xH (X : XE) (σ : Mem) (s : State) (H : Heap) (locs : List Loc) : Prop := xcells X σ H ∧ H.size = s.heap.size ∧ (∀ q : Nat, ¬ xA X q → H[q]? = s.heap[q]?) ∧ (∀ l ∈ locs, xA X l.base) ∧ WF σ
/-- from this place of the method's code, with these locals, stack and contents, the machine comes to the method's end with 'post' -/
def ok (X : XE) (R : Room) (own : String) (cc : ByteArray) (nL : Nat) (ret : Option FieldType) (rk : Nat) (post : Int → Mem → Prop) (pc : Nat) (L : List (Nat × Value)) (S : List Value) (σ : Mem) : Prop :=
  ∀ (p : Program) (l : Launch) (e : Env) (s : State) (m : MethodId) (args : Array Value) (below : List Frame) (meth : Method) (c : Code) (H : Heap) (locs : List Loc) (ls : Array Slot),
    xC own cc nL ret X p s m args meth c → xH X σ s H locs → lv_has ls nL L →
    W p l e R s m args below meth c H locs 0 0 (MQ below (xQ X rk post) args s 0 0 (xA X)) (F0 m pc ls S)
def CT (X : XE) (y : MethodName) (cc : ByteArray) (nL : Nat) (ret : Option FieldType) (rm : Room) (rk : Nat) (args : List Value) (σ : Mem) (post : Int → Mem → Prop) : Prop :=
  ∀ l : Launch, Met l y (Cond.code y cc nL ret :: BIG) rm (va_Pc args (fun U => xPI X σ U)) (xQ X rk post) 0 0 (xA X)
theorem ct_of {X : XE} {own : String} {y : MethodName} {cc : ByteArray} {nL : Nat} {ret : Option FieldType} {rm : Room} {rk : Nat} {args : List Value} {σ : Mem} {post : Int → Mem → Prop} {L : List (Nat × Value)} (hy : plainName y.cls = true) (ho : y.cls = own) (hn : (lg_sl args).length ≤ nL) (hL : lv_args 0 args = L)
    (h : ok X rm own cc nL ret rk post 0 L [] σ) : CT X y cc nL ret rm rk args σ post := by
  intro l
  refine Met.ofW (cc := cc) (maxL := nL) (ret := ret) hy rfl ?_
  intro p e s m as below meth c s₁ B hml hv
  obtain ⟨rfl, hK, hS, hC, hW⟩ := hv
  have hts := atoms_spec (ws := Cond.code y cc nL ret :: BIG) B.pre
  have hl := lv_entry args hn
  rw [lg_entry_eq]
  subst hL
  exact h p l e s m _ below meth c s.heap [] _ ⟨B.exec, B.bytes, B.returns, B.notSynchronized, hml, ho ▸ findClass_of_methodNamed B.named, fun w hw => hts w (List.mem_cons_of_mem _ hw), hK, hS⟩ ⟨hC, rfl, fun _ _ => rfl, (fun _ hq => absurd hq List.not_mem_nil), hW⟩ hl
section OK
variable {X : XE} {R : Room} {own : String} {cc : ByteArray} {nL : Nat} {ret : Option FieldType} {rk : Nat} {post : Int → Mem → Prop} {pc : Nat} {L : List (Nat × Value)} {S st0 : List Value} {σ : Mem} {H : Heap}
theorem ok_wf (k : WF σ → ok X R own cc nL ret rk post pc L S σ) : ok X R own cc nL ret rk post pc L S σ :=
  fun p l e s m args below meth c H locs ls C hH hl => k hH.2.2.2.2 p l e s m args below meth c H locs ls C hH hl
/-- fewer locals are known -/
theorem ok_sub {L' : List (Nat × Value)} (ks : List Nat) (h : lv_pick L ks = L') (k : ok X R own cc nL ret rk post pc L' S σ) : ok X R own cc nL ret rk post pc L S σ :=
  fun p l e s m args below meth c H locs ls C hH hl => k p l e s m args below meth c H locs ls C hH (lv_sub hl ks h)
/-- a step that changes the stack alone -/
theorem ok_go {pc' : Nat} {S' : List Value} (h : ∀ (p : Program) (l : Launch) (e : Env) (s : State) (m : MethodId) (args : Array Value) (below : List Frame) (meth : Method) (c : Code) (H : Heap) (locs : List Loc) (ls : Array Slot) (Q : State → Prop), xC own cc nL ret X p s m args meth c → xH X σ s H locs → lv_has ls nL L → W p l e R s m args below meth c H locs 0 0 Q (F0 m pc' ls S') → W p l e R s m args below meth c H locs 0 0 Q (F0 m pc ls S))
    (k : ok X R own cc nL ret rk post pc' L S' σ) : ok X R own cc nL ret rk post pc L S σ :=
  fun p l e s m args below meth c H locs ls C hH hl => h p l e s m args below meth c H locs ls _ C hH hl (k p l e s m args below meth c H locs ls C hH hl)
theorem ok_iconst {n : Int} (hd : decode cc pc = .ok (.iconst n, 1)) (k : ok X R own cc nL ret rk post (pc + 1) L (vI n :: S) σ) : ok X R own cc nL ret rk post pc L S σ :=
  ok_go (fun p l e s m args below meth c H locs ls Q C hH hl w => lv_iconst C.1 C.2.1 hd rfl w) k
theorem ok_bipush {n : Int} (hd : decode cc pc = .ok (.bipush n, 2)) (hn : (decide (-128 ≤ n) && decide (n ≤ 127)) = true) (k : ok X R own cc nL ret rk post (pc + 2) L (vI n :: S) σ) : ok X R own cc nL ret rk post pc L S σ :=
  ok_go (fun p l e s m args below meth c H locs ls Q C hH hl w => lv_bipush C.1 C.2.1 hd (q_bip hn) w) k
theorem ok_sipush {n : Int} (hd : decode cc pc = .ok (.sipush n, 3)) (hn : (decide (-32768 ≤ n) && decide (n ≤ 32767)) = true) (k : ok X R own cc nL ret rk post (pc + 3) L (vI n :: S) σ) : ok X R own cc nL ret rk post pc L S σ :=
  ok_go (fun p l e s m args below meth c H locs ls Q C hH hl w => lv_sipush C.1 C.2.1 hd (q_sip hn) w) k
theorem ok_lconst {n : Fin 2} {v : Int} (hd : decode cc pc = .ok (.lconst n, 1)) (hv : Int64.ofNat (n : Nat) = Int64.ofInt v) (k : ok X R own cc nL ret rk post (pc + 1) L (vL v :: S) σ) : ok X R own cc nL ret rk post pc L S σ :=
  ok_go (fun p l e s m args below meth c H locs ls Q C hH hl w => lv_lconst C.1 C.2.1 hd hv w) k
theorem ok_ldc2 {i : Nat} {v : Int} (hd : decode cc pc = .ok (.ldc2_w i, 3)) (hw : Cond.constantLong own i (Int64.ofInt v) ∈ BIG) (k : ok X R own cc nL ret rk post (pc + 3) L (vL v :: S) σ) : ok X R own cc nL ret rk post pc L S σ :=
  ok_go (fun p l e s m args below meth c H locs ls Q C hH hl w => lv_ldc2 C.1 C.2.1 C.2.2.2.2.2.1 (C.2.2.2.2.2.2.1 _ hw) hd w) k
theorem ok_ldcw {i : Nat} {v : Int} (hd : decode cc pc = .ok (.ldc_w i, 3)) (hw : Cond.constant own i (Int32.ofInt v) ∈ BIG) (k : ok X R own cc nL ret rk post (pc + 3) L (vI v :: S) σ) : ok X R own cc nL ret rk post pc L S σ :=
  ok_go (fun p l e s m args below meth c H locs ls Q C hH hl w => lv_ldcw C.1 C.2.1 C.2.2.2.2.2.1 (C.2.2.2.2.2.2.1 _ hw) hd w) k
theorem ok_iload {i : Nat} {x : Int} (j : Nat) (hd : decode cc pc = .ok (.iload i, 2)) (hl : L[j]? = some (i, vI x)) (k : ok X R own cc nL ret rk post (pc + 2) L (vI x :: S) σ) : ok X R own cc nL ret rk post pc L S σ :=
  ok_go (fun p l e s m args below meth c H locs ls Q C hH h w => lv_iload C.1 C.2.1 hd (lv_at h j hl) w) k
theorem ok_iload_n {n : Fin 4} {i : Nat} {x : Int} (j : Nat) (hd : decode cc pc = .ok (.iload_n n, 1)) (hi : (n : Nat) = i) (hl : L[j]? = some (i, vI x)) (k : ok X R own cc nL ret rk post (pc + 1) L (vI x :: S) σ) : ok X R own cc nL ret rk post pc L S σ :=
  ok_go (fun p l e s m args below meth c H locs ls Q C hH h w => lv_iload_n C.1 C.2.1 hd hi (lv_at h j hl) w) k
theorem ok_lload {i : Nat} {x : Int} (j : Nat) (hd : decode cc pc = .ok (.lload i, 2)) (hl : L[j]? = some (i, vL x)) (k : ok X R own cc nL ret rk post (pc + 2) L (vL x :: S) σ) : ok X R own cc nL ret rk post pc L S σ :=
  ok_go (fun p l e s m args below meth c H locs ls Q C hH h w => lv_lload C.1 C.2.1 hd (lv_at h j hl) w) k
theorem ok_lload_n {n : Fin 4} {i : Nat} {x : Int} (j : Nat) (hd : decode cc pc = .ok (.lload_n n, 1)) (hi : (n : Nat) = i) (hl : L[j]? = some (i, vL x)) (k : ok X R own cc nL ret rk post (pc + 1) L (vL x :: S) σ) : ok X R own cc nL ret rk post pc L S σ :=
  ok_go (fun p l e s m args below meth c H locs ls Q C hH h w => lv_lload_n C.1 C.2.1 hd hi (lv_at h j hl) w) k
theorem ok_aload {i a : Nat} (j : Nat) (hd : decode cc pc = .ok (.aload i, 2)) (hl : L[j]? = some (i, .ref a)) (k : ok X R own cc nL ret rk post (pc + 2) L (.ref a :: S) σ) : ok X R own cc nL ret rk post pc L S σ :=
  ok_go (fun p l e s m args below meth c H locs ls Q C hH h w => lv_aload C.1 C.2.1 hd (lv_at h j hl) w) k
theorem ok_aload_n {n : Fin 4} {i a : Nat} (j : Nat) (hd : decode cc pc = .ok (.aload_n n, 1)) (hi : (n : Nat) = i) (hl : L[j]? = some (i, .ref a)) (k : ok X R own cc nL ret rk post (pc + 1) L (.ref a :: S) σ) : ok X R own cc nL ret rk post pc L S σ :=
  ok_go (fun p l e s m args below meth c H locs ls Q C hH h w => lv_aload_n C.1 C.2.1 hd hi (lv_at h j hl) w) k
theorem ok_istore {i : Nat} {x : Int} {L' : List (Nat × Value)} (hd : decode cc pc = .ok (.istore i, 2)) (hn : Nat.blt i nL = true) (hl : (i, vI x) :: L.filter (fun q => !(q.1 == i) && !(q.1 + 1 == i && q.2.category == 2)) = L') (k : ok X R own cc nL ret rk post (pc + 2) L' S σ) : ok X R own cc nL ret rk post pc L (vI x :: S) σ :=
  fun p l e s m args below meth c H locs ls C hH h => lv_istore C.1 C.2.1 hd h (blt_lt hn) hl (fun ls' h' => k p l e s m args below meth c H locs ls' C hH h')
theorem ok_istore_n {n : Fin 4} {i : Nat} {x : Int} {L' : List (Nat × Value)} (hd : decode cc pc = .ok (.istore_n n, 1)) (hi : (n : Nat) = i) (hn : Nat.blt i nL = true) (hl : (i, vI x) :: L.filter (fun q => !(q.1 == i) && !(q.1 + 1 == i && q.2.category == 2)) = L') (k : ok X R own cc nL ret rk post (pc + 1) L' S σ) : ok X R own cc nL ret rk post pc L (vI x :: S) σ :=
  fun p l e s m args below meth c H locs ls C hH h => lv_istore_n C.1 C.2.1 hd hi h (blt_lt hn) hl (fun ls' h' => k p l e s m args below meth c H locs ls' C hH h')
theorem ok_lstore {i : Nat} {x : Int} {L' : List (Nat × Value)} (hd : decode cc pc = .ok (.lstore i, 2)) (hn : Nat.blt (i + 1) nL = true) (hl : (i, vL x) :: L.filter (fun q => !(q.1 == i) && (!(q.1 == i + 1) && !(q.1 + 1 == i && q.2.category == 2))) = L') (k : ok X R own cc nL ret rk post (pc + 2) L' S σ) : ok X R own cc nL ret rk post pc L (vL x :: S) σ :=
  fun p l e s m args below meth c H locs ls C hH h => lv_lstore C.1 C.2.1 hd h (blt_lt hn) hl (fun ls' h' => k p l e s m args below meth c H locs ls' C hH h')
theorem ok_lstore_n {n : Fin 4} {i : Nat} {x : Int} {L' : List (Nat × Value)} (hd : decode cc pc = .ok (.lstore_n n, 1)) (hi : (n : Nat) = i) (hn : Nat.blt (i + 1) nL = true) (hl : (i, vL x) :: L.filter (fun q => !(q.1 == i) && (!(q.1 == i + 1) && !(q.1 + 1 == i && q.2.category == 2))) = L') (k : ok X R own cc nL ret rk post (pc + 1) L' S σ) : ok X R own cc nL ret rk post pc L (vL x :: S) σ :=
  fun p l e s m args below meth c H locs ls C hH h => lv_lstore_n C.1 C.2.1 hd hi h (blt_lt hn) hl (fun ls' h' => k p l e s m args below meth c H locs ls' C hH h')
theorem ok_astore {i a : Nat} {L' : List (Nat × Value)} (hd : decode cc pc = .ok (.astore i, 2)) (hn : Nat.blt i nL = true) (hl : (i, Value.ref a) :: L.filter (fun q => !(q.1 == i) && !(q.1 + 1 == i && q.2.category == 2)) = L') (k : ok X R own cc nL ret rk post (pc + 2) L' S σ) : ok X R own cc nL ret rk post pc L (.ref a :: S) σ :=
  fun p l e s m args below meth c H locs ls C hH h => lv_astore C.1 C.2.1 hd h (blt_lt hn) hl (fun ls' h' => k p l e s m args below meth c H locs ls' C hH h')
theorem ok_astore_n {n : Fin 4} {i a : Nat} {L' : List (Nat × Value)} (hd : decode cc pc = .ok (.astore_n n, 1)) (hi : (n : Nat) = i) (hn : Nat.blt i nL = true) (hl : (i, Value.ref a) :: L.filter (fun q => !(q.1 == i) && !(q.1 + 1 == i && q.2.category == 2)) = L') (k : ok X R own cc nL ret rk post (pc + 1) L' S σ) : ok X R own cc nL ret rk post pc L (.ref a :: S) σ :=
  fun p l e s m args below meth c H locs ls C hH h => lv_astore_n C.1 C.2.1 hd hi h (blt_lt hn) hl (fun ls' h' => k p l e s m args below meth c H locs ls' C hH h')
theorem ok_iinc {i : Nat} {n x : Int} {L' : List (Nat × Value)} (j : Nat) (hd : decode cc pc = .ok (.iinc i n, 3)) (hj : L[j]? = some (i, vI x)) (hn : Nat.blt i nL = true) (hl : (i, vI (x + n)) :: L.filter (fun q => !(q.1 == i) && !(q.1 + 1 == i && q.2.category == 2)) = L') (k : ok X R own cc nL ret rk post (pc + 3) L' S σ) : ok X R own cc nL ret rk post pc L S σ :=
  fun p l e s m args below meth c H locs ls C hH h => lv_iinc (v := Int32.ofInt (x + n)) C.1 C.2.1 hd h hj (Int32.ofInt_add x n).symm (blt_lt hn) hl (fun ls' h' => k p l e s m args below meth c H locs ls' C hH h')
theorem ok_iadd {x y : Int} (hd : decode cc pc = .ok (.iadd, 1)) (k : ok X R own cc nL ret rk post (pc + 1) L (vI (x + y) :: S) σ) : ok X R own cc nL ret rk post pc L (vI y :: vI x :: S) σ :=
  ok_go (fun p l e s m args below meth c H locs ls Q C hH hl w => lv_iadd C.1 C.2.1 hd (by rw [← Int32.ofInt_add]; exact w)) k
theorem ok_isub {x y : Int} (hd : decode cc pc = .ok (.isub, 1)) (k : ok X R own cc nL ret rk post (pc + 1) L (vI (x - y) :: S) σ) : ok X R own cc nL ret rk post pc L (vI y :: vI x :: S) σ :=
  ok_go (fun p l e s m args below meth c H locs ls Q C hH hl w => lv_isub C.1 C.2.1 hd (by rw [← Int32.ofInt_sub]; exact w)) k
theorem ok_imul {x y : Int} (hd : decode cc pc = .ok (.imul, 1)) (k : ok X R own cc nL ret rk post (pc + 1) L (vI (x * y) :: S) σ) : ok X R own cc nL ret rk post pc L (vI y :: vI x :: S) σ :=
  ok_go (fun p l e s m args below meth c H locs ls Q C hH hl w => lv_imul C.1 C.2.1 hd (by rw [← Int32.ofInt_mul]; exact w)) k
theorem ok_idiv {x y : Int} (hd : decode cc pc = .ok (.idiv, 1)) (hx : inR x) (hy : inR y) (h0 : y ≠ 0) (k : ok X R own cc nL ret rk post (pc + 1) L (vI (Int.tdiv x y) :: S) σ) : ok X R own cc nL ret rk post pc L (vI y :: vI x :: S) σ :=
  ok_go (fun p l e s m args below meth c H locs ls Q C hH hl w => lv_idiv C.1 C.2.1 hd (fun q => h0 ((q_eq hy (r_lit (x := 0) rfl)).mp q)) (by rw [q_div hx hy]; exact w)) k
theorem ok_irem {x y : Int} (hd : decode cc pc = .ok (.irem, 1)) (hx : inR x) (hy : inR y) (h0 : y ≠ 0) (k : ok X R own cc nL ret rk post (pc + 1) L (vI (Int.tmod x y) :: S) σ) : ok X R own cc nL ret rk post pc L (vI y :: vI x :: S) σ :=
  ok_go (fun p l e s m args below meth c H locs ls Q C hH hl w => lv_irem C.1 C.2.1 hd (fun q => h0 ((q_eq hy (r_lit (x := 0) rfl)).mp q)) (by rw [q_rem hx hy]; exact w)) k
theorem ok_iand {x y : Int} (hd : decode cc pc = .ok (.iand, 1)) (k : ok X R own cc nL ret rk post (pc + 1) L (vI (iand x y) :: S) σ) : ok X R own cc nL ret rk post pc L (vI y :: vI x :: S) σ :=
  ok_go (fun p l e s m args below meth c H locs ls Q C hH hl w => lv_iand C.1 C.2.1 hd (by rw [show Value.int (Int32.ofInt x &&& Int32.ofInt y) = vI (iand x y) from congrArg Value.int (Int32.ofInt_toInt _).symm]; exact w)) k
theorem ok_ior {x y : Int} (hd : decode cc pc = .ok (.ior, 1)) (k : ok X R own cc nL ret rk post (pc + 1) L (vI (ior x y) :: S) σ) : ok X R own cc nL ret rk post pc L (vI y :: vI x :: S) σ :=
  ok_go (fun p l e s m args below meth c H locs ls Q C hH hl w => lv_ior C.1 C.2.1 hd (by rw [show Value.int (Int32.ofInt x ||| Int32.ofInt y) = vI (ior x y) from congrArg Value.int (Int32.ofInt_toInt _).symm]; exact w)) k
theorem ok_ixor {x y : Int} (hd : decode cc pc = .ok (.ixor, 1)) (k : ok X R own cc nL ret rk post (pc + 1) L (vI (ixor x y) :: S) σ) : ok X R own cc nL ret rk post pc L (vI y :: vI x :: S) σ :=
  ok_go (fun p l e s m args below meth c H locs ls Q C hH hl w => lv_ixor C.1 C.2.1 hd (by rw [show Value.int (Int32.ofInt x ^^^ Int32.ofInt y) = vI (ixor x y) from congrArg Value.int (Int32.ofInt_toInt _).symm]; exact w)) k
theorem ok_ishl {x y : Int} (hd : decode cc pc = .ok (.ishl, 1)) (k : ok X R own cc nL ret rk post (pc + 1) L (vI (ishl x y) :: S) σ) : ok X R own cc nL ret rk post pc L (vI y :: vI x :: S) σ :=
  ok_go (fun p l e s m args below meth c H locs ls Q C hH hl w => lv_ishl C.1 C.2.1 hd (by rw [show Value.int (Int32.ofInt x <<< (Int32.ofInt y &&& 31)) = vI (ishl x y) from congrArg Value.int (Int32.ofInt_toInt _).symm]; exact w)) k
theorem ok_ishr {x y : Int} (hd : decode cc pc = .ok (.ishr, 1)) (k : ok X R own cc nL ret rk post (pc + 1) L (vI (ishr x y) :: S) σ) : ok X R own cc nL ret rk post pc L (vI y :: vI x :: S) σ :=
  ok_go (fun p l e s m args below meth c H locs ls Q C hH hl w => lv_ishr C.1 C.2.1 hd (by rw [show Value.int (Int32.ofInt x >>> (Int32.ofInt y &&& 31)) = vI (ishr x y) from congrArg Value.int (Int32.ofInt_toInt _).symm]; exact w)) k
theorem ok_i2b {x : Int} (hd : decode cc pc = .ok (.i2b, 1)) (k : ok X R own cc nL ret rk post (pc + 1) L (vI (i2bI x) :: S) σ) : ok X R own cc nL ret rk post pc L (vI x :: S) σ :=
  ok_go (fun p l e s m args below meth c H locs ls Q C hH hl w => lv_i2b C.1 C.2.1 hd (Int32.ofInt_toInt _).symm w) k
theorem ok_i2s {x : Int} (hd : decode cc pc = .ok (.i2s, 1)) (k : ok X R own cc nL ret rk post (pc + 1) L (vI (i2sI x) :: S) σ) : ok X R own cc nL ret rk post pc L (vI x :: S) σ :=
  ok_go (fun p l e s m args below meth c H locs ls Q C hH hl w => lv_i2s C.1 C.2.1 hd (Int32.ofInt_toInt _).symm w) k
theorem ok_i2l {x : Int} (hd : decode cc pc = .ok (.i2l, 1)) (hx : inR x) (k : ok X R own cc nL ret rk post (pc + 1) L (vL x :: S) σ) : ok X R own cc nL ret rk post pc L (vI x :: S) σ :=
  ok_go (fun p l e s m args below meth c H locs ls Q C hH hl w => lv_i2l C.1 C.2.1 hd (q_i2l hx) w) k
theorem ok_l2i {x : Int} (hd : decode cc pc = .ok (.l2i, 1)) (k : ok X R own cc nL ret rk post (pc + 1) L (vI (l2iI x) :: S) σ) : ok X R own cc nL ret rk post pc L (vL x :: S) σ :=
  ok_go (fun p l e s m args below meth c H locs ls Q C hH hl w => lv_l2i C.1 C.2.1 hd (Int32.ofInt_toInt _).symm w) k
theorem ok_ladd {x y : Int} (hd : decode cc pc = .ok (.ladd, 1)) (k : ok X R own cc nL ret rk post (pc + 1) L (vL (x + y) :: S) σ) : ok X R own cc nL ret rk post pc L (vL y :: vL x :: S) σ :=
  ok_go (fun p l e s m args below meth c H locs ls Q C hH hl w => lv_ladd C.1 C.2.1 hd (by rw [← Int64.ofInt_add]; exact w)) k
theorem ok_lsub {x y : Int} (hd : decode cc pc = .ok (.lsub, 1)) (k : ok X R own cc nL ret rk post (pc + 1) L (vL (x - y) :: S) σ) : ok X R own cc nL ret rk post pc L (vL y :: vL x :: S) σ :=
  ok_go (fun p l e s m args below meth c H locs ls Q C hH hl w => lv_lsub C.1 C.2.1 hd (by rw [← Int64.ofInt_sub]; exact w)) k
theorem ok_lmul {x y : Int} (hd : decode cc pc = .ok (.lmul, 1)) (k : ok X R own cc nL ret rk post (pc + 1) L (vL (x * y) :: S) σ) : ok X R own cc nL ret rk post pc L (vL y :: vL x :: S) σ :=
  ok_go (fun p l e s m args below meth c H locs ls Q C hH hl w => lv_lmul C.1 C.2.1 hd (by rw [← Int64.ofInt_mul]; exact w)) k
theorem ok_ldiv {x y : Int} (hd : decode cc pc = .ok (.ldiv, 1)) (hx : inL x) (hy : inL y) (h0 : y ≠ 0) (k : ok X R own cc nL ret rk post (pc + 1) L (vL (Int.tdiv x y) :: S) σ) : ok X R own cc nL ret rk post pc L (vL y :: vL x :: S) σ :=
  ok_go (fun p l e s m args below meth c H locs ls Q C hH hl w => lv_ldiv C.1 C.2.1 hd (fun q => h0 ((q_eqL hy (l_of_r (r_lit (x := 0) rfl))).mp q)) (by rw [q_divL hx hy]; exact w)) k
theorem ok_lrem {x y : Int} (hd : decode cc pc = .ok (.lrem, 1)) (hx : inL x) (hy : inL y) (h0 : y ≠ 0) (k : ok X R own cc nL ret rk post (pc + 1) L (vL (Int.tmod x y) :: S) σ) : ok X R own cc nL ret rk post pc L (vL y :: vL x :: S) σ :=
  ok_go (fun p l e s m args below meth c H locs ls Q C hH hl w => lv_lrem C.1 C.2.1 hd (fun q => h0 ((q_eqL hy (l_of_r (r_lit (x := 0) rfl))).mp q)) (by rw [q_remL hx hy]; exact w)) k
theorem ok_lshr {x y : Int} (hd : decode cc pc = .ok (.lshr, 1)) (k : ok X R own cc nL ret rk post (pc + 1) L (vL (lshrI x y) :: S) σ) : ok X R own cc nL ret rk post pc L (vI y :: vL x :: S) σ :=
  ok_go (fun p l e s m args below meth c H locs ls Q C hH hl w => lv_lshr C.1 C.2.1 hd (Int64.ofInt_toInt _).symm w) k
theorem ok_lcmp {x y : Int} (hd : decode cc pc = .ok (.lcmp, 1)) (hx : inL x) (hy : inL y) (k : ok X R own cc nL ret rk post (pc + 1) L (vI (lcmpI x y) :: S) σ) : ok X R own cc nL ret rk post pc L (vL y :: vL x :: S) σ :=
  ok_go (fun p l e s m args below meth c H locs ls Q C hH hl w => W.lcmp C.1 C.2.1 hd (by rw [q_cmp hx hy]; exact w)) k
theorem ok_dup {v : Value} (hd : decode cc pc = .ok (.dup, 1)) (hv : v.category = 1) (k : ok X R own cc nL ret rk post (pc + 1) L (v :: v :: S) σ) : ok X R own cc nL ret rk post pc L (v :: S) σ :=
  ok_go (fun p l e s m args below meth c H locs ls Q C hH hl w => lv_dup C.1 C.2.1 hd hv w) k
theorem ok_dup2 {v u : Value} (hd : decode cc pc = .ok (.dup2, 1)) (hv : v.category = 1) (hu : u.category = 1) (k : ok X R own cc nL ret rk post (pc + 1) L (v :: u :: v :: u :: S) σ) : ok X R own cc nL ret rk post pc L (v :: u :: S) σ :=
  ok_go (fun p l e s m args below meth c H locs ls Q C hH hl w => lv_dup2_11 C.1 C.2.1 hd hv hu w) k
theorem ok_pop {v : Value} (hd : decode cc pc = .ok (.pop, 1)) (hv : v.category = 1) (k : ok X R own cc nL ret rk post (pc + 1) L S σ) : ok X R own cc nL ret rk post pc L (v :: S) σ :=
  ok_go (fun p l e s m args below meth c H locs ls Q C hH hl w => lv_pop C.1 C.2.1 hd hv w) k
theorem ok_goto {off : Int} {tgt : Nat} (hd : decode cc pc = .ok (.goto off, 3)) (ht : (pc : Int) + off = (tgt : Int)) (k : ok X R own cc nL ret rk post tgt L S σ) : ok X R own cc nL ret rk post pc L S σ :=
  ok_go (fun p l e s m args below meth c H locs ls Q C hH hl w => lv_goto C.1 C.2.1 hd ht w) k
theorem ok_icmp_eq {x y : Int} {off : Int} {tgt : Nat} (hd : decode cc pc = .ok (.if_icmp .eq off, 3)) (ht : (pc : Int) + off = (tgt : Int)) (hx : inR x) (hy : inR y) (kt : x = y → ok X R own cc nL ret rk post tgt L S σ) (kf : ¬ x = y → ok X R own cc nL ret rk post (pc + 3) L S σ) : ok X R own cc nL ret rk post pc L (vI y :: vI x :: S) σ :=
  fun p l e s m args below meth c H locs ls C hH hl => lv_icmp_eq C.1 C.2.1 hd ht (fun h => kt ((q_eq hx hy).mp h) p l e s m args below meth c H locs ls C hH hl) (fun h => kf (fun q => h ((q_eq hx hy).mpr q)) p l e s m args below meth c H locs ls C hH hl)
theorem ok_icmp_ne {x y : Int} {off : Int} {tgt : Nat} (hd : decode cc pc = .ok (.if_icmp .ne off, 3)) (ht : (pc : Int) + off = (tgt : Int)) (hx : inR x) (hy : inR y) (kt : ¬ x = y → ok X R own cc nL ret rk post tgt L S σ) (kf : x = y → ok X R own cc nL ret rk post (pc + 3) L S σ) : ok X R own cc nL ret rk post pc L (vI y :: vI x :: S) σ :=
  fun p l e s m args below meth c H locs ls C hH hl => lv_icmp_ne C.1 C.2.1 hd ht (fun h => kt (fun q => h ((q_eq hx hy).mpr q)) p l e s m args below meth c H locs ls C hH hl) (fun h => kf ((q_eq hx hy).mp h) p l e s m args below meth c H locs ls C hH hl)
theorem ok_icmp_lt {x y : Int} {off : Int} {tgt : Nat} (hd : decode cc pc = .ok (.if_icmp .lt off, 3)) (ht : (pc : Int) + off = (tgt : Int)) (hx : inR x) (hy : inR y) (kt : x < y → ok X R own cc nL ret rk post tgt L S σ) (kf : ¬ x < y → ok X R own cc nL ret rk post (pc + 3) L S σ) : ok X R own cc nL ret rk post pc L (vI y :: vI x :: S) σ :=
  fun p l e s m args below meth c H locs ls C hH hl => lv_icmp_lt C.1 C.2.1 hd ht (fun h => kt ((q_lt hx hy).mp h) p l e s m args below meth c H locs ls C hH hl) (fun h => kf (fun q => h ((q_lt hx hy).mpr q)) p l e s m args below meth c H locs ls C hH hl)
theorem ok_icmp_ge {x y : Int} {off : Int} {tgt : Nat} (hd : decode cc pc = .ok (.if_icmp .ge off, 3)) (ht : (pc : Int) + off = (tgt : Int)) (hx : inR x) (hy : inR y) (kt : ¬ x < y → ok X R own cc nL ret rk post tgt L S σ) (kf : x < y → ok X R own cc nL ret rk post (pc + 3) L S σ) : ok X R own cc nL ret rk post pc L (vI y :: vI x :: S) σ :=
  fun p l e s m args below meth c H locs ls C hH hl => lv_icmp_ge C.1 C.2.1 hd ht (fun h => kt (Int.not_lt.mpr ((q_le hy hx).mp h)) p l e s m args below meth c H locs ls C hH hl) (fun h => kf (Int.not_le.mp (fun q => h ((q_le hy hx).mpr q))) p l e s m args below meth c H locs ls C hH hl)
theorem ok_icmp_gt {x y : Int} {off : Int} {tgt : Nat} (hd : decode cc pc = .ok (.if_icmp .gt off, 3)) (ht : (pc : Int) + off = (tgt : Int)) (hx : inR x) (hy : inR y) (kt : y < x → ok X R own cc nL ret rk post tgt L S σ) (kf : ¬ y < x → ok X R own cc nL ret rk post (pc + 3) L S σ) : ok X R own cc nL ret rk post pc L (vI y :: vI x :: S) σ :=
  fun p l e s m args below meth c H locs ls C hH hl => lv_icmp_gt C.1 C.2.1 hd ht (fun h => kt ((q_lt hy hx).mp h) p l e s m args below meth c H locs ls C hH hl) (fun h => kf (fun q => h ((q_lt hy hx).mpr q)) p l e s m args below meth c H locs ls C hH hl)
theorem ok_icmp_le {x y : Int} {off : Int} {tgt : Nat} (hd : decode cc pc = .ok (.if_icmp .le off, 3)) (ht : (pc : Int) + off = (tgt : Int)) (hx : inR x) (hy : inR y) (kt : ¬ y < x → ok X R own cc nL ret rk post tgt L S σ) (kf : y < x → ok X R own cc nL ret rk post (pc + 3) L S σ) : ok X R own cc nL ret rk post pc L (vI y :: vI x :: S) σ :=
  fun p l e s m args below meth c H locs ls C hH hl => lv_icmp_le C.1 C.2.1 hd ht (fun h => kt (Int.not_lt.mpr ((q_le hx hy).mp h)) p l e s m args below meth c H locs ls C hH hl) (fun h => kf (Int.not_le.mp (fun q => h ((q_le hx hy).mpr q))) p l e s m args below meth c H locs ls C hH hl)
theorem ok_if_eq {x : Int} {off : Int} {tgt : Nat} (hd : decode cc pc = .ok (.ifCond .eq off, 3)) (ht : (pc : Int) + off = (tgt : Int)) (hx : inR x) (kt : x = 0 → ok X R own cc nL ret rk post tgt L S σ) (kf : ¬ x = 0 → ok X R own cc nL ret rk post (pc + 3) L S σ) : ok X R own cc nL ret rk post pc L (vI x :: S) σ :=
  fun p l e s m args below meth c H locs ls C hH hl => lv_if_eq C.1 C.2.1 hd ht (fun h => kt ((q_eq hx (r_lit (x := 0) rfl)).mp h) p l e s m args below meth c H locs ls C hH hl) (fun h => kf (fun q => h ((q_eq hx (r_lit (x := 0) rfl)).mpr q)) p l e s m args below meth c H locs ls C hH hl)
theorem ok_if_ne {x : Int} {off : Int} {tgt : Nat} (hd : decode cc pc = .ok (.ifCond .ne off, 3)) (ht : (pc : Int) + off = (tgt : Int)) (hx : inR x) (kt : ¬ x = 0 → ok X R own cc nL ret rk post tgt L S σ) (kf : x = 0 → ok X R own cc nL ret rk post (pc + 3) L S σ) : ok X R own cc nL ret rk post pc L (vI x :: S) σ :=
  fun p l e s m args below meth c H locs ls C hH hl => lv_if_ne C.1 C.2.1 hd ht (fun h => kt (fun q => h ((q_eq hx (r_lit (x := 0) rfl)).mpr q)) p l e s m args below meth c H locs ls C hH hl) (fun h => kf ((q_eq hx (r_lit (x := 0) rfl)).mp h) p l e s m args below meth c H locs ls C hH hl)
theorem ok_if_lt {x : Int} {off : Int} {tgt : Nat} (hd : decode cc pc = .ok (.ifCond .lt off, 3)) (ht : (pc : Int) + off = (tgt : Int)) (hx : inR x) (kt : x < 0 → ok X R own cc nL ret rk post tgt L S σ) (kf : ¬ x < 0 → ok X R own cc nL ret rk post (pc + 3) L S σ) : ok X R own cc nL ret rk post pc L (vI x :: S) σ :=
  fun p l e s m args below meth c H locs ls C hH hl => lv_if_lt C.1 C.2.1 hd ht (fun h => kt ((q_lt hx (r_lit (x := 0) rfl)).mp h) p l e s m args below meth c H locs ls C hH hl) (fun h => kf (fun q => h ((q_lt hx (r_lit (x := 0) rfl)).mpr q)) p l e s m args below meth c H locs ls C hH hl)
theorem ok_if_ge {x : Int} {off : Int} {tgt : Nat} (hd : decode cc pc = .ok (.ifCond .ge off, 3)) (ht : (pc : Int) + off = (tgt : Int)) (hx : inR x) (kt : ¬ x < 0 → ok X R own cc nL ret rk post tgt L S σ) (kf : x < 0 → ok X R own cc nL ret rk post (pc + 3) L S σ) : ok X R own cc nL ret rk post pc L (vI x :: S) σ :=
  fun p l e s m args below meth c H locs ls C hH hl => lv_if_ge C.1 C.2.1 hd ht (fun h => kt (Int.not_lt.mpr ((q_le (r_lit (x := 0) rfl) hx).mp h)) p l e s m args below meth c H locs ls C hH hl) (fun h => kf (Int.not_le.mp (fun q => h ((q_le (r_lit (x := 0) rfl) hx).mpr q))) p l e s m args below meth c H locs ls C hH hl)
theorem ok_if_gt {x : Int} {off : Int} {tgt : Nat} (hd : decode cc pc = .ok (.ifCond .gt off, 3)) (ht : (pc : Int) + off = (tgt : Int)) (hx : inR x) (kt : 0 < x → ok X R own cc nL ret rk post tgt L S σ) (kf : ¬ 0 < x → ok X R own cc nL ret rk post (pc + 3) L S σ) : ok X R own cc nL ret rk post pc L (vI x :: S) σ :=
  fun p l e s m args below meth c H locs ls C hH hl => lv_if_gt C.1 C.2.1 hd ht (fun h => kt ((q_lt (r_lit (x := 0) rfl) hx).mp h) p l e s m args below meth c H locs ls C hH hl) (fun h => kf (fun q => h ((q_lt (r_lit (x := 0) rfl) hx).mpr q)) p l e s m args below meth c H locs ls C hH hl)
theorem ok_if_le {x : Int} {off : Int} {tgt : Nat} (hd : decode cc pc = .ok (.ifCond .le off, 3)) (ht : (pc : Int) + off = (tgt : Int)) (hx : inR x) (kt : ¬ 0 < x → ok X R own cc nL ret rk post tgt L S σ) (kf : 0 < x → ok X R own cc nL ret rk post (pc + 3) L S σ) : ok X R own cc nL ret rk post pc L (vI x :: S) σ :=
  fun p l e s m args below meth c H locs ls C hH hl => lv_if_le C.1 C.2.1 hd ht (fun h => kt (Int.not_lt.mpr ((q_le hx (r_lit (x := 0) rfl)).mp h)) p l e s m args below meth c H locs ls C hH hl) (fun h => kf (Int.not_le.mp (fun q => h ((q_le hx (r_lit (x := 0) rfl)).mpr q))) p l e s m args below meth c H locs ls C hH hl)
theorem ok_lswitch {dflt : Int} {ps : Array (Int × Int)} {len : Nat} {x off : Int} {tgt : Nat} (hd : decode cc pc = .ok (.lookupswitch dflt ps, len)) (hp : (ps.toList.zip (ps.toList.drop 1)).all (fun (a, next) => a.1 < next.1) = true) (hx : inR x) (ho : Op.lookupswitch.offset ps.toList dflt x = off) (ht : (pc : Int) + off = (tgt : Int)) (k : ok X R own cc nL ret rk post tgt L S σ) : ok X R own cc nL ret rk post pc L (vI x :: S) σ :=
  ok_go (fun p l e s m args below meth c H locs ls Q C hH hl w => lv_lookup C.1 C.2.1 hd hp (by rw [q_toInt hx]; exact ho) ht w) k
theorem ok_tout {dflt lo hi : Int} {offs : Array Int} {len : Nat} {x : Int} {tgt : Nat} (hd : decode cc pc = .ok (.tableswitch dflt lo hi offs, len)) (hx : inR x) (h : x < lo ∨ hi < x) (ht : (pc : Int) + dflt = (tgt : Int)) (k : ok X R own cc nL ret rk post tgt L S σ) : ok X R own cc nL ret rk post pc L (vI x :: S) σ :=
  ok_go (fun p l e s m args below meth c H locs ls Q C hH hl w => lv_tableOut C.1 C.2.1 hd (by rw [q_toInt hx]; exact h) ht w) k
theorem ok_tin {dflt lo hi : Int} {offs : Array Int} {len : Nat} {x : Int} {off : Int} {tgt : Nat} (hd : decode cc pc = .ok (.tableswitch dflt lo hi offs, len)) (hx : inR x) (h1 : ¬ x < lo) (h2 : ¬ hi < x) (ho : offs[(x - lo).toNat]? = some off) (ht : (pc : Int) + off = (tgt : Int)) (k : ok X R own cc nL ret rk post tgt L S σ) : ok X R own cc nL ret rk post pc L (vI x :: S) σ :=
  ok_go (fun p l e s m args below meth c H locs ls Q C hH hl w => lv_tableIn C.1 C.2.1 hd (by rw [q_toInt hx]; exact h1) (by rw [q_toInt hx]; exact h2) (by rw [q_toInt hx]; exact ho) ht w) k
/-- an object's cell -/
theorem x_obj {j ci N : Nat} {rs : List (Option Nat)} (hC : xcells X σ H) (hj : j < NC) (hs : xsh j = (ci, N, rs)) (hk : ci < 20) : t_OB (xad X j) (X.2.1.1 ci) N (X.2.1.2 ci) H (xval X σ j) := by
  have h := hC j hj
  unfold xat at h
  rw [hs, if_pos hk] at h
  exact h
theorem x_arr {j ci N : Nat} {rs : List (Option Nat)} (hC : xcells X σ H) (hj : j < NC) (hs : xsh j = (ci, N, rs)) (hk : ¬ ci < 20) : H[xad X j]? = some (arrV (X.2.2.1 ci) N (xval X σ j)) := by
  have h := hC j hj
  unfold xat at h
  rw [hs, if_neg hk] at h
  exact h
theorem x_arrI {j ci N : Nat} {rs : List (Option Nat)} (hs : xsh j = (ci, N, rs)) (hk : ¬ ci < 20) (h : H[xad X j]? = some (arrV (X.2.2.1 ci) N (xval X σ j))) : xat X σ j H := by
  unfold xat
  rw [hs, if_neg hk]
  exact h
theorem x_valI {j k ci N : Nat} {rs : List (Option Nat)} (hs : xsh j = (ci, N, rs)) (hr : rs.getD k none = none) : xval X σ j k = vI (σ j k) := by
  unfold xval
  rw [hs]
  simp only [hr]
theorem x_valR {j k ci N r : Nat} {rs : List (Option Nat)} (hs : xsh j = (ci, N, rs)) (hr : rs.getD k none = some r) : xval X σ j k = .ref (xad X r) := by
  unfold xval
  rw [hs]
  simp only [hr]
theorem x_set {j k ci N : Nat} {v : Int} {rs : List (Option Nat)} (hs : xsh j = (ci, N, rs)) (hr : rs.getD k none = none) (i : Nat) : updV (xval X σ j) k (vI v) i = xval X (mset σ j k v) j i := by
  unfold updV
  by_cases hi : i = k
  · rw [if_pos hi, hi, x_valI hs hr]
    simp [mset]
  · rw [if_neg hi]
    unfold xval
    simp only [mset, hi, and_false, if_false]
theorem x_other {j k i : Nat} {v : Int} (hi : i ≠ j) : xval X (mset σ j k v) i = xval X σ i := by
  funext n
  unfold xval
  simp only [mset, hi, false_and, if_false]
theorem x_put {j k ci N : Nat} {v : Int} {rs : List (Option Nat)} {s : State} {H1 : Heap} {locs : List Loc} {q : Nat} (hs : xsh j = (ci, N, rs)) (hj : j < NC) (hr : rs.getD k none = none) (hv : inR v) (hH : xH X σ s H locs) (hc : xat X (mset σ j k v) j H1) (hz : H1.size = H.size) (ho : ∀ q : Nat, q ≠ xad X j → H1[q]? = H[q]?) : xH X (mset σ j k v) s H1 (locs ++ [⟨xad X j, q⟩]) := by
  obtain ⟨h1, h2, h3, h4, h5⟩ := hH
  have hA : xA X (xad X j) := ⟨Nat.le_add_right _ _, Nat.add_lt_add_left hj _⟩
  refine ⟨fun i hi => ?_, hz.trans h2, fun q hq => (ho q (fun e => hq (by rw [e]; exact hA))).trans (h3 q hq), fun l hl => ?_, mset_wf h5 hv⟩
  · by_cases e : i = j
    · rw [e]; exact hc
    · have h := h1 i hi
      have ne : xad X i ≠ xad X j := fun q => e (Nat.add_left_cancel q)
      unfold xat at h ⊢
      rw [x_other e]
      by_cases hk : (xsh i).1 < 20
      · rw [if_pos hk] at h ⊢
        exact h.kept (ho _ ne)
      · rw [if_neg hk] at h ⊢
        rw [ho _ ne]
        exact h
  · rcases List.mem_append.mp hl with h | h
    · exact h4 l h
    · rw [List.mem_singleton.mp h]; exact hA
theorem ok_getI {j k ci N idx : Nat} {rs : List (Option Nat)} (hd : decode cc pc = .ok (.getfield idx, 3)) (hf : FL own idx ci N k) (hs : xsh j = (ci, N, rs)) (hj : j < NC) (hk : Nat.blt ci 20 = true) (hr : rs.getD k none = none) (kk : ok X R own cc nL ret rk post (pc + 3) L (vI (σ j k) :: S) σ) : ok X R own cc nL ret rk post pc L (.ref (xad X j) :: S) σ := by
  refine ok_go (fun p l e s m args below meth c H locs ls Q C hH hl w => ?_) kk
  obtain ⟨hx, hb, hre, hlk, hml, hown, hts, hK, hS⟩ := C
  obtain ⟨C0, T, hc, hkN, hin, hlink, hdecl⟩ := hf
  obtain ⟨cell, q1, q2, q3, q4⟩ := x_obj hH.1 hj hs (blt_lt hk)
  obtain ⟨hSl, hfc, kC, hkC, hkind⟩ := hK.1.1 ci _ hc
  obtain ⟨cf, kf, fi, f, hi, hsl⟩ := hSl k hkN
  refine W.getf hx hb hown (hts _ hlink) (by rw [← hdecl]; exact hi) (u_facts hfc hkC (u_lays hts hin hkN) hi).1 q1 (by rw [q3]; exact fun h => by cases h) (v := vI (σ j k)) ?_ rfl rfl hd w
  rw [hsl, q4 k hkN, x_valI hs hr]
theorem ok_getR {j k ci N idx r : Nat} {rs : List (Option Nat)} (hd : decode cc pc = .ok (.getfield idx, 3)) (hf : FL own idx ci N k) (hs : xsh j = (ci, N, rs)) (hj : j < NC) (hk : Nat.blt ci 20 = true) (hr : rs.getD k none = some r) (kk : ok X R own cc nL ret rk post (pc + 3) L (.ref (xad X r) :: S) σ) : ok X R own cc nL ret rk post pc L (.ref (xad X j) :: S) σ := by
  refine ok_go (fun p l e s m args below meth c H locs ls Q C hH hl w => ?_) kk
  obtain ⟨hx, hb, hre, hlk, hml, hown, hts, hK, hS⟩ := C
  obtain ⟨C0, T, hc, hkN, hin, hlink, hdecl⟩ := hf
  obtain ⟨cell, q1, q2, q3, q4⟩ := x_obj hH.1 hj hs (blt_lt hk)
  obtain ⟨hSl, hfc, kC, hkC, hkind⟩ := hK.1.1 ci _ hc
  obtain ⟨cf, kf, fi, f, hi, hsl⟩ := hSl k hkN
  refine W.getf hx hb hown (hts _ hlink) (by rw [← hdecl]; exact hi) (u_facts hfc hkC (u_lays hts hin hkN) hi).1 q1 (by rw [q3]; exact fun h => by cases h) (v := .ref (xad X r)) ?_ rfl rfl hd w
  rw [hsl, q4 k hkN, x_valR hs hr]
theorem ok_putI {j k ci N idx : Nat} {v : Int} {ty : FieldType} {rs : List (Option Nat)} (hd : decode cc pc = .ok (.putfield idx, 3)) (hf : FL own idx ci N k) (hp : FP ci N k ty) (hs : xsh j = (ci, N, rs)) (hj : j < NC) (hk : Nat.blt ci 20 = true) (hr : rs.getD k none = none) (hv : inR v) (hn : narrow ty (vI v) = vI v) (hfit : fits ty (vI v) = true)
    (kk : ok X R own cc nL ret rk post (pc + 3) L S (mset σ j k v)) : ok X R own cc nL ret rk post pc L (vI v :: .ref (xad X j) :: S) σ := by
  intro p l e s m args below meth c H locs ls C hH hl
  obtain ⟨hx, hb, hre, hlk, hml, hown, hts, hK, hS⟩ := id C
  obtain ⟨C0, T, hc, hkN, hin, hlink, hdecl⟩ := hf
  obtain ⟨C1, T1, t0, hc1, hty, hnm, ht0, hfin⟩ := hp
  have e1 := hc1.symm.trans hc
  cases e1
  have hap := va_apart (own := own) hts hin t0 hty hnm hK.1 hc
  obtain ⟨cell, q1, q2, q3, q4⟩ := x_obj hH.1 hj hs (blt_lt hk)
  obtain ⟨hSl, hfc, kC, hkC, hkind⟩ := hK.1.1 ci _ hc
  obtain ⟨cf, kf, fi, f, hi, hsl⟩ := hSl k hkN
  have hlay := hts _ (hin _ (u_in_lay hkN))
  unfold u_lay at hlay
  rw [if_neg (by rw [hfin]; decide)] at hlay
  have hst := (u_facts hfc hkC (u_lays hts hin hkN) hi).1
  have hpd : parseFieldDescriptor (T k).2.2.1 = some ty := by rw [hty k hkN, ht0]
  have h6 := u_store hfc hkC hkind hlay hi hpd hn hfit
  refine W.putK hx hb (f := f) ⟨hown, hts _ hlink, ⟨_, _, _, by rw [← hdecl]; exact hi⟩, hst⟩ (by rw [q2]; exact h6) q1 q3 (by rw [hsl]; exact k2_hasslot (q4 k hkN)) rfl rfl hd fun H' e1 e2 e3 => ?_
  rw [hsl] at e1
  refine kk p l e s m args below meth c H' _ ls C (x_put hs hj hr hv hH ?_ e2 e3) hl
  unfold xat
  rw [hs, if_pos (blt_lt hk)]
  exact t_OB.to (V := updV (xval X σ j) k (vI v)) ⟨_, e1, q2, q3, t_set q4 hap hkN _⟩ (fun i _ => x_set hs hr i)
theorem ok_iald {j N : Nat} {i : Int} (hd : decode cc pc = .ok (.iaload, 1)) (hs : xsh j = (20, N, [])) (hj : j < NC) (hN : Nat.blt N 2147483648 = true) (h0 : 0 ≤ i) (h1 : i < N) (kk : ok X R own cc nL ret rk post (pc + 1) L (vI (σ j i.toNat) :: S) σ) : ok X R own cc nL ret rk post pc L (vI i :: .ref (xad X j) :: S) σ := by
  refine ok_go (fun p l e s m args below meth c H locs ls Q C hH hl w => ?_) kk
  obtain ⟨hi, hc⟩ := q_in (n := N) (blt_lt hN) h0 h1
  have hlt : i.toNat < N := by omega
  refine W.iald (v := vI (σ j i.toNat)) C.1 C.2.1 (x_arr hH.1 hj hs (by decide)) ((C.2.2.2.2.2.2.2.1.1.2 0 _ rfl).1 N _) (fun q => by cases q) (by rw [arrV_size]; exact hi) ?_ rfl rfl hd w
  rw [hc, arrV_read _ _ hlt, x_valI hs (by simp)]
theorem ok_zald {j N : Nat} {i : Int} (hd : decode cc pc = .ok (.baload, 1)) (hs : xsh j = (21, N, [])) (hj : j < NC) (hN : Nat.blt N 2147483648 = true) (h0 : 0 ≤ i) (h1 : i < N) (kk : ok X R own cc nL ret rk post (pc + 1) L (vI (σ j i.toNat) :: S) σ) : ok X R own cc nL ret rk post pc L (vI i :: .ref (xad X j) :: S) σ := by
  refine ok_go (fun p l e s m args below meth c H locs ls Q C hH hl w => ?_) kk
  obtain ⟨hi, hc⟩ := q_in (n := N) (blt_lt hN) h0 h1
  have hlt : i.toNat < N := by omega
  refine W.zald (v := vI (σ j i.toNat)) C.1 C.2.1 (x_arr hH.1 hj hs (by decide)) ((C.2.2.2.2.2.2.2.1.1.2 1 _ rfl).1 N _) (fun q => by cases q) (by rw [arrV_size]; exact hi) ?_ rfl rfl hd w
  rw [hc, arrV_read _ _ hlt, x_valI hs (by simp)]
theorem ok_bald {j N : Nat} {i : Int} (hd : decode cc pc = .ok (.baload, 1)) (hs : xsh j = (22, N, [])) (hj : j < NC) (hN : Nat.blt N 2147483648 = true) (h0 : 0 ≤ i) (h1 : i < N) (kk : ok X R own cc nL ret rk post (pc + 1) L (vI (σ j i.toNat) :: S) σ) : ok X R own cc nL ret rk post pc L (vI i :: .ref (xad X j) :: S) σ := by
  refine ok_go (fun p l e s m args below meth c H locs ls Q C hH hl w => ?_) kk
  obtain ⟨hi, hc⟩ := q_in (n := N) (blt_lt hN) h0 h1
  have hlt : i.toNat < N := by omega
  refine W.bald (v := vI (σ j i.toNat)) C.1 C.2.1 (x_arr hH.1 hj hs (by decide)) ((C.2.2.2.2.2.2.2.1.1.2 2 _ rfl).1 N _) (fun q => by cases q) (by rw [arrV_size]; exact hi) ?_ rfl rfl hd w
  rw [hc, arrV_read _ _ hlt, x_valI hs (by simp)]
theorem ok_aald {j N ci r t0 : Nat} {C0 : String} {rs : List (Option Nat)} {i : Int} (hd : decode cc pc = .ok (.aaload, 1)) (hs : xsh j = (ci, N, rs)) (hj : j < NC) (hk : ¬ ci < 20) (ht : (xtys X)[t0]? = some (X.2.2.1 ci, .object C0)) (hN : Nat.blt N 2147483648 = true) (h0 : 0 ≤ i) (h1 : i < N) (hr : rs.getD i.toNat none = some r) (kk : ok X R own cc nL ret rk post (pc + 1) L (.ref (xad X r) :: S) σ) : ok X R own cc nL ret rk post pc L (vI i :: .ref (xad X j) :: S) σ := by
  refine ok_go (fun p l e s m args below meth c H locs ls Q C hH hl w => ?_) kk
  obtain ⟨hi, hc⟩ := q_in (n := N) (blt_lt hN) h0 h1
  have hlt : i.toNat < N := by omega
  refine W.aald (v := .ref (xad X r)) (ty := .object C0) C.1 C.2.1 (x_arr hH.1 hj hs hk) ((C.2.2.2.2.2.2.2.1.1.2 t0 _ ht).1 N _) rfl (fun q => by cases q) (by rw [arrV_size]; exact hi) ?_ rfl rfl hd w
  rw [hc, arrV_read _ _ hlt, x_valR hs hr]
theorem ok_iast {j N : Nat} {i v : Int} (hd : decode cc pc = .ok (.iastore, 1)) (hs : xsh j = (20, N, [])) (hj : j < NC) (hN : Nat.blt N 2147483648 = true) (h0 : 0 ≤ i) (h1 : i < N) (hv : inR v) (kk : ok X R own cc nL ret rk post (pc + 1) L S (mset σ j i.toNat v)) : ok X R own cc nL ret rk post pc L (vI v :: vI i :: .ref (xad X j) :: S) σ := by
  intro p l e s m args below meth c H locs ls C hH hl
  obtain ⟨hi, hc⟩ := q_in (n := N) (blt_lt hN) h0 h1
  refine W.iast C.1 C.2.1 (x_arr hH.1 hj hs (by decide)) ((C.2.2.2.2.2.2.2.1.1.2 0 _ rfl).1 N _) (fun q => by cases q) (by rw [arrV_size]; exact hi) rfl rfl hd fun H1 e1 z oq => ?_
  refine kk p l e s m args below meth c H1 _ ls C (x_put hs hj (by simp) hv hH ?_ z oq) hl
  refine x_arrI hs (by decide) ?_
  rw [e1, arrV_store, hc]
  congr 2
  funext n
  exact x_set hs (by simp) n
theorem ok_zast {j N : Nat} {i v : Int} (hd : decode cc pc = .ok (.bastore, 1)) (hs : xsh j = (21, N, [])) (hj : j < NC) (hN : Nat.blt N 2147483648 = true) (h0 : 0 ≤ i) (h1 : i < N) (hv : v = 0 ∨ v = 1) (kk : ok X R own cc nL ret rk post (pc + 1) L S (mset σ j i.toNat v)) : ok X R own cc nL ret rk post pc L (vI v :: vI i :: .ref (xad X j) :: S) σ := by
  intro p l e s m args below meth c H locs ls C hH hl
  obtain ⟨hi, hc⟩ := q_in (n := N) (blt_lt hN) h0 h1
  have hn : narrow .boolean (vI v) = vI v := by rcases hv with rfl | rfl <;> rfl
  refine W.zast C.1 C.2.1 (x_arr hH.1 hj hs (by decide)) ((C.2.2.2.2.2.2.2.1.1.2 1 _ rfl).1 N _) (fun q => by cases q) (by rw [arrV_size]; exact hi) rfl rfl hd fun H1 e1 z oq => ?_
  refine kk p l e s m args below meth c H1 _ ls C (x_put hs hj (by simp) (by rcases hv with rfl | rfl <;> exact r_lit rfl) hH ?_ z oq) hl
  refine x_arrI hs (by decide) ?_
  rw [e1, hn, arrV_store, hc]
  congr 2
  funext n
  exact x_set hs (by simp) n
theorem ok_bast {j N : Nat} {i v : Int} (hd : decode cc pc = .ok (.bastore, 1)) (hs : xsh j = (22, N, [])) (hj : j < NC) (hN : Nat.blt N 2147483648 = true) (h0 : 0 ≤ i) (h1 : i < N) (hv : -128 ≤ v ∧ v ≤ 127) (kk : ok X R own cc nL ret rk post (pc + 1) L S (mset σ j i.toNat v)) : ok X R own cc nL ret rk post pc L (vI v :: vI i :: .ref (xad X j) :: S) σ := by
  intro p l e s m args below meth c H locs ls C hH hl
  obtain ⟨hi, hc⟩ := q_in (n := N) (blt_lt hN) h0 h1
  have hr : inR v := ⟨by omega, by omega⟩
  have hn : narrow .byte (vI v) = vI v := by
    show Value.int _ = _
    congr 1
    exact lg_i2b_small (by rw [q_toInt hr]; omega) (by rw [q_toInt hr]; omega)
  refine W.bast C.1 C.2.1 (x_arr hH.1 hj hs (by decide)) ((C.2.2.2.2.2.2.2.1.1.2 2 _ rfl).1 N _) (fun q => by cases q) (by rw [arrV_size]; exact hi) rfl rfl hd fun H1 e1 z oq => ?_
  refine kk p l e s m args below meth c H1 _ ls C (x_put hs hj (by simp) hr hH ?_ z oq) hl
  refine x_arrI hs (by decide) ?_
  rw [e1, hn, arrV_store, hc]
  congr 2
  funext n
  exact x_set hs (by simp) n
-- ends
theorem ok_iret {v : Int} {ty : FieldType} (hd : decode cc pc = .ok (.ireturn, 1)) (hr : ret = some ty) (hk : rk = 1) (hn : narrow ty (vI v) = vI v) (hv : inR v) (h : post v σ) : ok X R own cc nL ret rk post pc L [vI v] σ := by
  intro p l e s m args below meth c H locs ls C hH hl
  refine W.zret C.1 C.2.1 (C.2.2.1.trans hr) hn (fun t ht hW => ⟨v, σ, by rw [hk]; rfl, by rw [hk]; exact hv, h, hH.2.2.2.2, by rw [ht]; exact hH.1, by rw [ht]; exact hH.2.1, fun q hq => by rw [ht]; exact hH.2.2.1 q hq⟩) hH.2.2.2.1 hd C.2.2.2.1
theorem ok_lret {v : Int} (hd : decode cc pc = .ok (.lreturn, 1)) (hr : ret = some .long) (hk : rk = 2) (hv : inL v) (h : post v σ) : ok X R own cc nL ret rk post pc L [vL v] σ := by
  intro p l e s m args below meth c H locs ls C hH hl
  refine W.lret C.1 C.2.1 (C.2.2.1.trans hr) (fun t ht hW => ⟨v, σ, by rw [hk]; rfl, by rw [hk]; exact hv, h, hH.2.2.2.2, by rw [ht]; exact hH.1, by rw [ht]; exact hH.2.1, fun q hq => by rw [ht]; exact hH.2.2.1 q hq⟩) hH.2.2.2.1 hd C.2.2.2.1
theorem ok_vret (hd : decode cc pc = .ok (.return_, 1)) (hr : ret = none) (hk : rk = 0) (h : post 0 σ) : ok X R own cc nL ret rk post pc L [] σ := by
  intro p l e s m args below meth c H locs ls C hH hl
  refine W.vret C.1 C.2.1 (C.2.2.1.trans hr) (fun t ht hW => ⟨0, σ, by rw [hk]; rfl, by rw [hk]; rfl, h, hH.2.2.2.2, by rw [ht]; exact hH.1, by rw [ht]; exact hH.2.1, fun q hq => by rw [ht]; exact hH.2.2.1 q hq⟩) hH.2.2.2.1 hd C.2.2.2.1
theorem nr_z {v : Int} (h : v = 0 ∨ v = 1) : narrow .boolean (vI v) = vI v := by rcases h with rfl | rfl <;> rfl
theorem fi_z {v : Int} (h : v = 0 ∨ v = 1) : fits .boolean (vI v) = true := by rcases h with rfl | rfl <;> rfl
-- calls
theorem x_run {s : State} {m : MethodId} {args : Array Value} {below : List Frame} {meth : Method} {c : Code} {p : Program} {l : Launch} {e : Env} {locs : List Loc} {ls : Array Slot} {rest : List Value} {rk' : Nat} {post' : Int → Mem → Prop} {as' : Array Value} {Q : State → Prop}
    (hH : xH X σ s H locs) (hr : va_Run p l e R s m args below meth c H locs 0 0 0 0 (F0 m pc ls st0) rest (xQ X rk' post' as') (xA X))
    (kk : ∀ (r : Int) (σ' : Mem) (H1 : Heap) (locs1 : List Loc), rok rk' r → post' r σ' → xH X σ' s H1 locs1 → W p l e R s m args below meth c H1 locs1 0 0 Q (F0 m (pc + 3) ls ((rv rk' r).toList ++ rest))) : W p l e R s m args below meth c H locs 0 0 Q (F0 m pc ls st0) := by
  intro T hT X0
  obtain ⟨v, st₀, t, T', L1, h0, X', hL, e1, e2, ⟨r, σ', hv, hrk, hp, hW, hC, hz, hk⟩, st⟩ := hr T hT X0
  cases hv
  rw [h0] at hz hk
  obtain ⟨g1, g2, g3, g4, g5⟩ := hH
  obtain ⟨t2, a1, b1⟩ := kk r σ' T'.heap (locs ++ L1) hrk hp ⟨by rw [e1]; exact hC, by rw [e1]; exact hz.trans g2, fun q hq => by rw [e1, hk q hq]; exact g3 q hq, fun q hq => by
      rcases List.mem_append.mp hq with h | h
      · exact g4 q h
      · exact hL q h, hW⟩ T' rfl X'
  exact ⟨t2, st t2 a1, b1⟩
theorem x_blind {as : List Value} : FrameBlind (va_Pc as (fun U => xPI X σ U)) := fun a U g mk q => ⟨q.1, xK.same rfl q.2.1, xS.moved (Vm.Alike.refl U.vm) q.2.2.1, q.2.2.2⟩
theorem x_pre {as : List Value} {s : State} {locs : List Loc} (hK : xK X s) (hS : xS X s s.heap) (hH : xH X σ s H locs) (U : State) (hU : U.heap = H) (hW : s.WarmedH U.vm) : va_Pc as (fun U => xPI X σ U) as.toArray U :=
  ⟨rfl, xK.moved hW hK, xS.moved hW.alike (xS.kept hS (fun q hq => by rw [hU]; exact hH.2.2.1 q hq)), by rw [hU]; exact hH.1, hH.2.2.2.2⟩
theorem x_goods {Ts : List Cond} {y : MethodName} {bytes : ByteArray} {maxL : Nat} {r : Option FieldType} (hT : ∀ w ∈ BIG, w ∈ Ts) (hc : Cond.code y bytes maxL r ∈ BIG) : GoodIn Ts (Cond.code y bytes maxL r :: BIG) := by
  intro w hw
  have h : w ∈ BIG := by
    rcases List.mem_cons.mp hw with h | h
    · rw [h]; exact hc
    · exact h
  exact ⟨hT w h, big_good w h⟩
def xdes (y : MethodName) (n : Nat) : Prop := y.cls ≠ "java/lang/invoke/MethodHandle" ∧ y.cls ≠ "java/lang/invoke/VarHandle" ∧ (parseMethodDescriptor y.desc).map (fun d => d.parameters.length) = some n
theorem ok_callV {y : MethodName} {bytes : ByteArray} {maxL j ci N n idx : Nat} {ret' : Option FieldType} {rm : Room} {rk' : Nat} {C0 : String} {T0 : u_T} {As rest : List Value} {rs : List (Option Nat)} {post' : Int → Mem → Prop}
    (hd : decode cc pc = .ok (.invokevirtual idx, 3)) (hm : ME C0 y bytes maxL ret') (hlk : Cond.methodLink own idx y ∈ BIG) (hcl : vwCl[ci]? = some (C0, T0, N)) (hs : xsh j = (ci, N, rs)) (hj : j < NC) (hk : Nat.blt ci 20 = true) (hdes : xdes y n) (hn : As.length = n)
    (hR : rm.cells = 0 ∧ rm.slots = 0 ∧ Nat.ble (rm.frames + 1) R.frames = true ∧ Nat.ble (8 + (maxL + 11) + rm.locals) R.locals = true) (hst : st0 = As.reverse ++ .ref (xad X j) :: rest) (hrest : Nat.ble ((rest.map fun v => v.category).sum) 8 = true)
    (hct : CT X y bytes maxL ret' rm rk' (.ref (xad X j) :: As) σ post') (kk : ∀ (r : Int) (σ' : Mem), rok rk' r → post' r σ' → ok X R own cc nL ret rk post (pc + 3) L ((rv rk' r).toList ++ rest) σ') : ok X R own cc nL ret rk post pc L st0 σ := by
  intro p l e s m args below meth c H locs ls C hH hl
  obtain ⟨hx, hb, hre, hlo, hml, hown, hts, hK, hS⟩ := id C
  obtain ⟨hy, h1, h2, h3, h4⟩ := hm
  obtain ⟨cell, q1, q2, q3, q4⟩ := x_obj hH.1 hj hs (blt_lt hk)
  obtain ⟨hSl, hfc, -⟩ := hK.1.1 ci _ hcl
  have hG : GoodIn BIG (Cond.code y bytes maxL ret' :: BIG) := x_goods (fun _ h => h) h4
  have cb : CallB R s args own idx y bytes maxL ret' (Cond.code y bytes maxL ret' :: BIG) rm 0 0 n := callB_of n hts hG rfl hR.1 hR.2.1 (by rw [hy]; exact hts _ h3) (hts _ hlk) hdes ⟨Nat.le_of_ble_eq_true hR.2.2.1, Nat.le_of_ble_eq_true hR.2.2.2⟩
  refine x_run hH (va_runV (C := C0) (b := xad X j) (As := As) (rest := rest) ⟨hx, hb, hml, hown, hts⟩ (hct l) ⟨cb, hts _ h1, hts _ h2⟩ ⟨x_blind, ⟨cell, q1, by rw [q3]; rfl, by rw [q2]; exact hfc⟩, fun U hU hW => x_pre hK hS hH U hU hW⟩ rfl hn (by show ls.size = nL; exact hl.1) hst (by show 2 * 0 + _ ≤ 8; have := Nat.le_of_ble_eq_true hrest; omega) hd ⟨Nat.zero_le _, Nat.zero_le _⟩) ?_
  intro r σ' H1 locs1 hrk hp hH1
  exact kk r σ' hrk hp p l e s m args below meth c H1 locs1 ls C hH1 hl
theorem ok_callS {y : MethodName} {bytes : ByteArray} {maxL n idx : Nat} {ret' : Option FieldType} {rm : Room} {rk' : Nat} {As rest : List Value} {post' : Int → Mem → Prop}
    (hd : decode cc pc = .ok (.invokestatic idx, 3)) (hm : MS y bytes maxL ret') (hlk : Cond.methodLink own idx y ∈ BIG) (hdes : xdes y n) (hn : As.length = n)
    (hR : rm.cells = 0 ∧ rm.slots = 0 ∧ Nat.ble (rm.frames + 1) R.frames = true ∧ Nat.ble (8 + (maxL + 11) + rm.locals) R.locals = true) (hst : st0 = As.reverse ++ rest) (hrest : Nat.ble ((rest.map fun v => v.category).sum) 8 = true)
    (hct : CT X y bytes maxL ret' rm rk' As σ post') (kk : ∀ (r : Int) (σ' : Mem), rok rk' r → post' r σ' → ok X R own cc nL ret rk post (pc + 3) L ((rv rk' r).toList ++ rest) σ') : ok X R own cc nL ret rk post pc L st0 σ := by
  intro p l e s m args below meth c H locs ls C hH hl
  obtain ⟨hx, hb, hre, hlo, hml, hown, hts, hK, hS⟩ := id C
  obtain ⟨h1, h3, h4⟩ := hm
  have hG : GoodIn BIG (Cond.code y bytes maxL ret' :: BIG) := x_goods (fun _ h => h) h4
  have cb : CallB R s args own idx y bytes maxL ret' (Cond.code y bytes maxL ret' :: BIG) rm 0 0 n := callB_of n hts hG rfl hR.1 hR.2.1 (hts _ h3) (hts _ hlk) hdes ⟨Nat.le_of_ble_eq_true hR.2.2.1, Nat.le_of_ble_eq_true hR.2.2.2⟩
  refine x_run hH (va_runS (As := As) (rest := rest) ⟨hx, hb, hml, hown, hts⟩ (hct l) ⟨cb, hts _ h1⟩ ⟨x_blind, fun U hU hW => x_pre hK hS hH U hU hW⟩ rfl hn (by show ls.size = nL; exact hl.1) hst (by show 2 * 0 + _ ≤ 8; have := Nat.le_of_ble_eq_true hrest; omega) hd ⟨Nat.zero_le _, Nat.zero_le _⟩) ?_
  intro r σ' H1 locs1 hrk hp hH1
  exact kk r σ' hrk hp p l e s m args below meth c H1 locs1 ls C hH1 hl
/-- a static method of the outer one, called from within -/
theorem ok_callN {y : MethodName} {bytes : ByteArray} {maxL n idx : Nat} {ret' : Option FieldType} {rm : Room} {rk' : Nat} {As rest : List Value} {post' : Int → Mem → Prop}
    (hd : decode cc pc = .ok (.invokestatic idx, 3)) (hm : MS y bytes maxL ret') (hlk : ∀ s : State, xK X s → va_Nw (.methodLinkNest own idx y RX11) s) (hdes : xdes y n) (hn : As.length = n)
    (hR : rm.cells = 0 ∧ rm.slots = 0 ∧ Nat.ble (rm.frames + 1) R.frames = true ∧ Nat.ble (8 + (maxL + 11) + rm.locals) R.locals = true) (hst : st0 = As.reverse ++ rest) (hrest : Nat.ble ((rest.map fun v => v.category).sum) 8 = true)
    (hct : CT X y bytes maxL ret' rm rk' As σ post') (kk : ∀ (r : Int) (σ' : Mem), rok rk' r → post' r σ' → ok X R own cc nL ret rk post (pc + 3) L ((rv rk' r).toList ++ rest) σ') : ok X R own cc nL ret rk post pc L st0 σ := by
  intro p l e s m args below meth c H locs ls C hH hl
  obtain ⟨hx, hb, hre, hlo, hml, hown, hts, hK, hS⟩ := id C
  obtain ⟨h1, h3, h4⟩ := hm
  have hG : GoodIn BIG (Cond.code y bytes maxL ret' :: BIG) := x_goods (fun _ h => h) h4
  have cb := va_cnB (R := R) (args := args) n hts hG rfl hR.1 hR.2.1 (hlk s hK) (hts _ h3) hdes ⟨Nat.le_of_ble_eq_true hR.2.2.1, Nat.le_of_ble_eq_true hR.2.2.2⟩
  refine x_run hH (va_runSN (As := As) (rest := rest) ⟨hx, hb, hml, hown, hts⟩ (hct l) ⟨cb, hts _ h1, trivial⟩ ⟨x_blind, fun U hU hW => x_pre hK hS hH U hU hW⟩ rfl hn (by show ls.size = nL; exact hl.1) hst (by show 2 * 0 + _ ≤ 8; have := Nat.le_of_ble_eq_true hrest; omega) hd ⟨Nat.zero_le _, Nat.zero_le _⟩) ?_
  intro r σ' H1 locs1 hrk hp hH1
  exact kk r σ' hrk hp p l e s m args below meth c H1 locs1 ls C hH1 hl
def imax (x y : Int) : Int := if x < y then y else x
def imin (x y : Int) : Int := if y < x then y else x
def iabs (x : Int) : Int := if x < 0 then -x else x
theorem ok_max {idx : Nat} {x y : Int} (hd : decode cc pc = .ok (.invokestatic idx, 3)) (hlk : Cond.methodLink own idx Lib.Math.max.name ∈ BIG) (hR : Nat.ble 1 R.frames = true ∧ Nat.ble ((S.map fun v => v.category).sum + 13) R.locals = true) (hx : inR x) (hy : inR y) (kk : ok X R own cc nL ret rk post (pc + 3) L (vI (imax x y) :: S) σ) : ok X R own cc nL ret rk post pc L (vI y :: vI x :: S) σ := by
  refine ok_go (fun p l e s m args below meth c H locs ls Q C hH hl w => ?_) kk
  obtain ⟨hx0, hb, hre, hlo, hml, hown, hts, hK, hS⟩ := C
  refine va_mmax hx0 hb (hml.trans hl.1.symm) hown (hts _ hlk) (hts _ mt_max.1) (hts _ in_J9) (hts _ mt_max.2) (Nat.le_of_ble_eq_true hR.1) (Nat.le_of_ble_eq_true hR.2) (Nat.zero_le _) (Nat.zero_le _) hd ?_
  have e1 : (if Int32.ofInt x < Int32.ofInt y then Int32.ofInt y else Int32.ofInt x) = Int32.ofInt (imax x y) := by
    unfold imax
    by_cases h : x < y
    · rw [if_pos h, if_pos ((q_lt hx hy).mpr h)]
    · rw [if_neg h, if_neg (fun q => h ((q_lt hx hy).mp q))]
  rw [e1]
  exact w
theorem ok_min {idx : Nat} {x y : Int} (hd : decode cc pc = .ok (.invokestatic idx, 3)) (hlk : Cond.methodLink own idx Lib.Math.min.name ∈ BIG) (hR : Nat.ble 1 R.frames = true ∧ Nat.ble ((S.map fun v => v.category).sum + 13) R.locals = true) (hx : inR x) (hy : inR y) (kk : ok X R own cc nL ret rk post (pc + 3) L (vI (imin x y) :: S) σ) : ok X R own cc nL ret rk post pc L (vI y :: vI x :: S) σ := by
  refine ok_go (fun p l e s m args below meth c H locs ls Q C hH hl w => ?_) kk
  obtain ⟨hx0, hb, hre, hlo, hml, hown, hts, hK, hS⟩ := C
  refine va_mmin hx0 hb (hml.trans hl.1.symm) hown (hts _ hlk) (hts _ mt_min.1) (hts _ in_J9) (hts _ mt_min.2) (Nat.le_of_ble_eq_true hR.1) (Nat.le_of_ble_eq_true hR.2) (Nat.zero_le _) (Nat.zero_le _) hd ?_
  have e1 : (if Int32.ofInt y < Int32.ofInt x then Int32.ofInt y else Int32.ofInt x) = Int32.ofInt (imin x y) := by
    unfold imin
    by_cases h : y < x
    · rw [if_pos h, if_pos ((q_lt hy hx).mpr h)]
    · rw [if_neg h, if_neg (fun q => h ((q_lt hy hx).mp q))]
  rw [e1]
  exact w
theorem ok_abs {idx : Nat} {x : Int} (hd : decode cc pc = .ok (.invokestatic idx, 3)) (hlk : Cond.methodLink own idx Lib.Math.abs.name ∈ BIG) (hR : Nat.ble 1 R.frames = true ∧ Nat.ble ((S.map fun v => v.category).sum + 13) R.locals = true) (hx : inR x) (kk : ok X R own cc nL ret rk post (pc + 3) L (vI (iabs x) :: S) σ) : ok X R own cc nL ret rk post pc L (vI x :: S) σ := by
  refine ok_go (fun p l e s m args below meth c H locs ls Q C hH hl w => ?_) kk
  obtain ⟨hx0, hb, hre, hlo, hml, hown, hts, hK, hS⟩ := C
  refine va_mabs hx0 hb (hml.trans hl.1.symm) hown (hts _ hlk) (hts _ mt_abs.1) (hts _ in_J9) (hts _ mt_abs.2) (Nat.le_of_ble_eq_true hR.1) (Nat.le_of_ble_eq_true hR.2) (Nat.zero_le _) (Nat.zero_le _) hd ?_
  have e1 : (if 0 ≤ Int32.ofInt x then Int32.ofInt x else 0 - Int32.ofInt x) = Int32.ofInt (iabs x) := by
    unfold iabs
    by_cases h : x < 0
    · rw [if_pos h, if_neg (show ¬ (0 : Int32) ≤ Int32.ofInt x from fun q => absurd ((q_le (r_lit (x := 0) rfl) hx).mp q) (Int.not_le.mpr h)), Int32.ofInt_neg]
      simp
    · rw [if_neg h, if_pos (show (0 : Int32) ≤ Int32.ofInt x from (q_le (r_lit (x := 0) rfl) hx).mpr (Int.not_lt.mp h))]
  rw [e1]
  exact w
end OK
theorem iteT {c : Prop} [Decidable c] {A B : Prop} (h : if c then A else B) (hc : c) : A := by rwa [if_pos hc] at h
theorem iteF {c : Prop} [Decidable c] {A B : Prop} (h : if c then A else B) (hc : ¬ c) : B := by rwa [if_neg hc] at h
section OK2
variable {X : XE} {R : Room} {own : String} {cc : ByteArray} {nL : Nat} {ret : Option FieldType} {rk : Nat} {post : Int → Mem → Prop} {pc : Nat} {L : List (Nat × Value)} {S st0 : List Value} {σ : Mem}
theorem lt_card {c : Nat} (h : c < 24) : 23 + 3 * c < NC ∧ 24 + 3 * c < NC ∧ 25 + 3 * c < NC := by unfold NC; omega
theorem lt_sheet {k : Nat} (h : k < 4) : 109 + 2 * k < NC ∧ 110 + 2 * k < NC := by unfold NC; omega
theorem ok_cards {i : Int} (hd : decode cc pc = .ok (.aaload, 1)) (h0 : 0 ≤ i) (h1 : i < 24) (kk : ok X R own cc nL ret rk post (pc + 1) L (.ref (xad X (23 + 3 * i.toNat)) :: S) σ) : ok X R own cc nL ret rk post pc L (vI i :: .ref (xad X 17) :: S) σ := by
  have e := sh_cards i.toNat (by omega)
  rw [sh_17] at e
  exact ok_aald (t0 := 3) hd sh_17 (Nat.le_of_ble_eq_true rfl) (by decide) rfl rfl h0 h1 e kk
theorem ok_sheets {i : Int} (hd : decode cc pc = .ok (.aaload, 1)) (h0 : 0 ≤ i) (h1 : i < 4) (kk : ok X R own cc nL ret rk post (pc + 1) L (.ref (xad X (109 + 2 * i.toNat)) :: S) σ) : ok X R own cc nL ret rk post pc L (vI i :: .ref (xad X 108) :: S) σ := by
  have e := sh_sheets i.toNat (by omega)
  rw [sh_108] at e
  exact ok_aald (t0 := 4) hd sh_108 (Nat.le_of_ble_eq_true rfl) (by decide) rfl rfl h0 h1 e kk
def iushr (x y : Int) : Int := ((Int32.ofInt x).toUInt32 >>> ((Int32.ofInt y).toUInt32 &&& Int32.toUInt32 31)).toInt32.toInt
theorem ok_iushr {x y : Int} (hd : decode cc pc = .ok (.iushr, 1)) (k : ok X R own cc nL ret rk post (pc + 1) L (vI (iushr x y) :: S) σ) : ok X R own cc nL ret rk post pc L (vI y :: vI x :: S) σ :=
  ok_go (fun p l e s m args below meth c H locs ls Q C hH hl w => lv_iushr C.1 C.2.1 hd (Int32.ofInt_toInt _).symm w) k
theorem ok_ldcS {i : Nat} {tx : String} {q : Nat} (hd : decode cc pc = .ok (.ldc i, 2)) (hs : ∀ s : State, xK X s → vk_R own i tx q s) (k : ok X R own cc nL ret rk post (pc + 2) L (.ref q :: S) σ) : ok X R own cc nL ret rk post pc L S σ :=
  ok_go (fun p l e s m args below meth c H locs ls Q C hH hl w => va_ldcS C.1 C.2.1 C.2.2.2.2.2.1 (hs s C.2.2.2.2.2.2.2.1) hd w) k
theorem xn_6 : ∀ s : State, xK X s → va_Nw (.methodLinkNest RX6 92 yX11_isMeasure RX11) s := fun _ h => h.2.1.1
theorem xn_0 : ∀ s : State, xK X s → va_Nw (.methodLinkNest RX0 81 yX11_bit RX11) s := fun _ h => h.2.1.2.1
theorem xn_3 : ∀ s : State, xK X s → va_Nw (.methodLinkNest RX3 43 yX11_bit RX11) s := fun _ h => h.2.1.2.2.1
theorem xn_10 : ∀ s : State, xK X s → va_Nw (.methodLinkNest RX10 74 yX11_bit RX11) s := fun _ h => h.2.1.2.2.2.1
theorem xn_4 : ∀ s : State, xK X s → va_Nw (.methodLinkNest RX4 52 yX11_bit RX11) s := fun _ h => h.2.1.2.2.2.2.1
theorem xn_2 : ∀ s : State, xK X s → va_Nw (.methodLinkNest RX2 74 yX11_bit RX11) s := fun _ h => h.2.1.2.2.2.2.2
theorem xr_38 : ∀ s : State, xK X s → vk_R RX6 38 "from" (X.2.2.2.1 0) s := fun _ h => h.2.2.1
theorem xr_55 : ∀ s : State, xK X s → vk_R RX6 55 "edge" (X.2.2.2.1 1) s := fun _ h => h.2.2.2.1
theorem xr_57 : ∀ s : State, xK X s → vk_R RX6 57 "spread" (X.2.2.2.1 2) s := fun _ h => h.2.2.2.2.1
theorem xr_59 : ∀ s : State, xK X s → vk_R RX6 59 "grow" (X.2.2.2.1 3) s := fun _ h => h.2.2.2.2.2.1
theorem xr_61 : ∀ s : State, xK X s → vk_R RX6 61 "keep" (X.2.2.2.1 4) s := fun _ h => h.2.2.2.2.2.2.1
theorem xr_63 : ∀ s : State, xK X s → vk_R RX6 63 "other" (X.2.2.2.1 5) s := fun _ h => h.2.2.2.2.2.2.2
theorem ok_callVv {y : MethodName} {bytes : ByteArray} {maxL j ci N n idx : Nat} {ret' : Option FieldType} {rm : Room} {C0 : String} {T0 : u_T} {As rest : List Value} {rs : List (Option Nat)} {post' : Int → Mem → Prop}
    (hd : decode cc pc = .ok (.invokevirtual idx, 3)) (hm : ME C0 y bytes maxL ret') (hlk : Cond.methodLink own idx y ∈ BIG) (hcl : vwCl[ci]? = some (C0, T0, N)) (hs : xsh j = (ci, N, rs)) (hj : j < NC) (hk : Nat.blt ci 20 = true) (hdes : xdes y n) (hn : As.length = n)
    (hR : rm.cells = 0 ∧ rm.slots = 0 ∧ Nat.ble (rm.frames + 1) R.frames = true ∧ Nat.ble (8 + (maxL + 11) + rm.locals) R.locals = true) (hst : st0 = As.reverse ++ .ref (xad X j) :: rest) (hrest : Nat.ble ((rest.map fun v => v.category).sum) 8 = true)
    (hct : CT X y bytes maxL ret' rm 0 (.ref (xad X j) :: As) σ post') (kk : ∀ (σ' : Mem), post' 0 σ' → ok X R own cc nL ret rk post (pc + 3) L rest σ') : ok X R own cc nL ret rk post pc L st0 σ :=
  ok_callV hd hm hlk hcl hs hj hk hdes hn hR hst hrest hct (fun r σ' hr hp => by
    have hr : r = 0 := hr
    subst hr
    exact kk σ' hp)
theorem ok_callVi {y : MethodName} {bytes : ByteArray} {maxL j ci N n idx : Nat} {ret' : Option FieldType} {rm : Room} {C0 : String} {T0 : u_T} {As rest : List Value} {rs : List (Option Nat)} {post' : Int → Mem → Prop}
    (hd : decode cc pc = .ok (.invokevirtual idx, 3)) (hm : ME C0 y bytes maxL ret') (hlk : Cond.methodLink own idx y ∈ BIG) (hcl : vwCl[ci]? = some (C0, T0, N)) (hs : xsh j = (ci, N, rs)) (hj : j < NC) (hk : Nat.blt ci 20 = true) (hdes : xdes y n) (hn : As.length = n)
    (hR : rm.cells = 0 ∧ rm.slots = 0 ∧ Nat.ble (rm.frames + 1) R.frames = true ∧ Nat.ble (8 + (maxL + 11) + rm.locals) R.locals = true) (hst : st0 = As.reverse ++ .ref (xad X j) :: rest) (hrest : Nat.ble ((rest.map fun v => v.category).sum) 8 = true)
    (hct : CT X y bytes maxL ret' rm 1 (.ref (xad X j) :: As) σ post') (kk : ∀ (r : Int) (σ' : Mem), inR r → post' r σ' → ok X R own cc nL ret rk post (pc + 3) L (vI r :: rest) σ') : ok X R own cc nL ret rk post pc L st0 σ :=
  ok_callV hd hm hlk hcl hs hj hk hdes hn hR hst hrest hct (fun r σ' hr hp => kk r σ' hr hp)
theorem ok_callVl {y : MethodName} {bytes : ByteArray} {maxL j ci N n idx : Nat} {ret' : Option FieldType} {rm : Room} {C0 : String} {T0 : u_T} {As rest : List Value} {rs : List (Option Nat)} {post' : Int → Mem → Prop}
    (hd : decode cc pc = .ok (.invokevirtual idx, 3)) (hm : ME C0 y bytes maxL ret') (hlk : Cond.methodLink own idx y ∈ BIG) (hcl : vwCl[ci]? = some (C0, T0, N)) (hs : xsh j = (ci, N, rs)) (hj : j < NC) (hk : Nat.blt ci 20 = true) (hdes : xdes y n) (hn : As.length = n)
    (hR : rm.cells = 0 ∧ rm.slots = 0 ∧ Nat.ble (rm.frames + 1) R.frames = true ∧ Nat.ble (8 + (maxL + 11) + rm.locals) R.locals = true) (hst : st0 = As.reverse ++ .ref (xad X j) :: rest) (hrest : Nat.ble ((rest.map fun v => v.category).sum) 8 = true)
    (hct : CT X y bytes maxL ret' rm 2 (.ref (xad X j) :: As) σ post') (kk : ∀ (r : Int) (σ' : Mem), inL r → post' r σ' → ok X R own cc nL ret rk post (pc + 3) L (vL r :: rest) σ') : ok X R own cc nL ret rk post pc L st0 σ :=
  ok_callV hd hm hlk hcl hs hj hk hdes hn hR hst hrest hct (fun r σ' hr hp => kk r σ' hr hp)
theorem ok_callSv {y : MethodName} {bytes : ByteArray} {maxL n idx : Nat} {ret' : Option FieldType} {rm : Room} {As rest : List Value} {post' : Int → Mem → Prop}
    (hd : decode cc pc = .ok (.invokestatic idx, 3)) (hm : MS y bytes maxL ret') (hlk : Cond.methodLink own idx y ∈ BIG) (hdes : xdes y n) (hn : As.length = n)
    (hR : rm.cells = 0 ∧ rm.slots = 0 ∧ Nat.ble (rm.frames + 1) R.frames = true ∧ Nat.ble (8 + (maxL + 11) + rm.locals) R.locals = true) (hst : st0 = As.reverse ++ rest) (hrest : Nat.ble ((rest.map fun v => v.category).sum) 8 = true)
    (hct : CT X y bytes maxL ret' rm 0 (As) σ post') (kk : ∀ (σ' : Mem), post' 0 σ' → ok X R own cc nL ret rk post (pc + 3) L rest σ') : ok X R own cc nL ret rk post pc L st0 σ :=
  ok_callS hd hm hlk hdes hn hR hst hrest hct (fun r σ' hr hp => by
    have hr : r = 0 := hr
    subst hr
    exact kk σ' hp)
theorem ok_callSi {y : MethodName} {bytes : ByteArray} {maxL n idx : Nat} {ret' : Option FieldType} {rm : Room} {As rest : List Value} {post' : Int → Mem → Prop}
    (hd : decode cc pc = .ok (.invokestatic idx, 3)) (hm : MS y bytes maxL ret') (hlk : Cond.methodLink own idx y ∈ BIG) (hdes : xdes y n) (hn : As.length = n)
    (hR : rm.cells = 0 ∧ rm.slots = 0 ∧ Nat.ble (rm.frames + 1) R.frames = true ∧ Nat.ble (8 + (maxL + 11) + rm.locals) R.locals = true) (hst : st0 = As.reverse ++ rest) (hrest : Nat.ble ((rest.map fun v => v.category).sum) 8 = true)
    (hct : CT X y bytes maxL ret' rm 1 (As) σ post') (kk : ∀ (r : Int) (σ' : Mem), inR r → post' r σ' → ok X R own cc nL ret rk post (pc + 3) L (vI r :: rest) σ') : ok X R own cc nL ret rk post pc L st0 σ :=
  ok_callS hd hm hlk hdes hn hR hst hrest hct (fun r σ' hr hp => kk r σ' hr hp)
theorem ok_callSl {y : MethodName} {bytes : ByteArray} {maxL n idx : Nat} {ret' : Option FieldType} {rm : Room} {As rest : List Value} {post' : Int → Mem → Prop}
    (hd : decode cc pc = .ok (.invokestatic idx, 3)) (hm : MS y bytes maxL ret') (hlk : Cond.methodLink own idx y ∈ BIG) (hdes : xdes y n) (hn : As.length = n)
    (hR : rm.cells = 0 ∧ rm.slots = 0 ∧ Nat.ble (rm.frames + 1) R.frames = true ∧ Nat.ble (8 + (maxL + 11) + rm.locals) R.locals = true) (hst : st0 = As.reverse ++ rest) (hrest : Nat.ble ((rest.map fun v => v.category).sum) 8 = true)
    (hct : CT X y bytes maxL ret' rm 2 (As) σ post') (kk : ∀ (r : Int) (σ' : Mem), inL r → post' r σ' → ok X R own cc nL ret rk post (pc + 3) L (vL r :: rest) σ') : ok X R own cc nL ret rk post pc L st0 σ :=
  ok_callS hd hm hlk hdes hn hR hst hrest hct (fun r σ' hr hp => kk r σ' hr hp)
theorem ok_callNv {y : MethodName} {bytes : ByteArray} {maxL n idx : Nat} {ret' : Option FieldType} {rm : Room} {As rest : List Value} {post' : Int → Mem → Prop}
    (hd : decode cc pc = .ok (.invokestatic idx, 3)) (hm : MS y bytes maxL ret') (hlk : ∀ s : State, xK X s → va_Nw (.methodLinkNest own idx y RX11) s) (hdes : xdes y n) (hn : As.length = n)
    (hR : rm.cells = 0 ∧ rm.slots = 0 ∧ Nat.ble (rm.frames + 1) R.frames = true ∧ Nat.ble (8 + (maxL + 11) + rm.locals) R.locals = true) (hst : st0 = As.reverse ++ rest) (hrest : Nat.ble ((rest.map fun v => v.category).sum) 8 = true)
    (hct : CT X y bytes maxL ret' rm 0 (As) σ post') (kk : ∀ (σ' : Mem), post' 0 σ' → ok X R own cc nL ret rk post (pc + 3) L rest σ') : ok X R own cc nL ret rk post pc L st0 σ :=
  ok_callN hd hm hlk hdes hn hR hst hrest hct (fun r σ' hr hp => by
    have hr : r = 0 := hr
    subst hr
    exact kk σ' hp)
theorem ok_callNi {y : MethodName} {bytes : ByteArray} {maxL n idx : Nat} {ret' : Option FieldType} {rm : Room} {As rest : List Value} {post' : Int → Mem → Prop}
    (hd : decode cc pc = .ok (.invokestatic idx, 3)) (hm : MS y bytes maxL ret') (hlk : ∀ s : State, xK X s → va_Nw (.methodLinkNest own idx y RX11) s) (hdes : xdes y n) (hn : As.length = n)
    (hR : rm.cells = 0 ∧ rm.slots = 0 ∧ Nat.ble (rm.frames + 1) R.frames = true ∧ Nat.ble (8 + (maxL + 11) + rm.locals) R.locals = true) (hst : st0 = As.reverse ++ rest) (hrest : Nat.ble ((rest.map fun v => v.category).sum) 8 = true)
    (hct : CT X y bytes maxL ret' rm 1 (As) σ post') (kk : ∀ (r : Int) (σ' : Mem), inR r → post' r σ' → ok X R own cc nL ret rk post (pc + 3) L (vI r :: rest) σ') : ok X R own cc nL ret rk post pc L st0 σ :=
  ok_callN hd hm hlk hdes hn hR hst hrest hct (fun r σ' hr hp => kk r σ' hr hp)
theorem ok_callNl {y : MethodName} {bytes : ByteArray} {maxL n idx : Nat} {ret' : Option FieldType} {rm : Room} {As rest : List Value} {post' : Int → Mem → Prop}
    (hd : decode cc pc = .ok (.invokestatic idx, 3)) (hm : MS y bytes maxL ret') (hlk : ∀ s : State, xK X s → va_Nw (.methodLinkNest own idx y RX11) s) (hdes : xdes y n) (hn : As.length = n)
    (hR : rm.cells = 0 ∧ rm.slots = 0 ∧ Nat.ble (rm.frames + 1) R.frames = true ∧ Nat.ble (8 + (maxL + 11) + rm.locals) R.locals = true) (hst : st0 = As.reverse ++ rest) (hrest : Nat.ble ((rest.map fun v => v.category).sum) 8 = true)
    (hct : CT X y bytes maxL ret' rm 2 (As) σ post') (kk : ∀ (r : Int) (σ' : Mem), inL r → post' r σ' → ok X R own cc nL ret rk post (pc + 3) L (vL r :: rest) σ') : ok X R own cc nL ret rk post pc L st0 σ :=
  ok_callN hd hm hlk hdes hn hR hst hrest hct (fun r σ' hr hp => kk r σ' hr hp)
end OK2
end
