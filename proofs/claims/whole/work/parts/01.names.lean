-- ===== PART A: goes FIRST, ahead of the names: the tables' words, and 'selects' of the private methods out of them =====
/-- a private method of a class that the tables say can be made, by its rows of tables_1 -/
def lw_okq (q : MethodName × Nat) : Prop := (q.1.cls ≠ "java/lang/invoke/MethodHandle" ∧ q.1.cls ≠ "java/lang/invoke/VarHandle") ∧ Cond.instantiable q.1.cls q.2 ∈ tables_1 ∧ Cond.privateMethod q.1 ∈ tables_1 ∧ Cond.instanceMethod q.1 ∈ tables_1
theorem lw_p0 : lw_okq (⟨"IceOut", "layOut", "(I)V"⟩, 11) := ⟨⟨by decide +kernel, by decide +kernel⟩, List.mem_of_getElem? (i := 21) (by decide +kernel), List.mem_of_getElem? (i := 397) (by decide +kernel), List.mem_of_getElem? (i := 398) (by decide +kernel)⟩
theorem lw_p1 : lw_okq (⟨"IceOut", "startAnew", "()V"⟩, 11) := ⟨⟨by decide +kernel, by decide +kernel⟩, List.mem_of_getElem? (i := 21) (by decide +kernel), List.mem_of_getElem? (i := 409) (by decide +kernel), List.mem_of_getElem? (i := 410) (by decide +kernel)⟩
theorem lw_p2 : lw_okq (⟨"IceOut", "hasCell", "(I)Z"⟩, 11) := ⟨⟨by decide +kernel, by decide +kernel⟩, List.mem_of_getElem? (i := 21) (by decide +kernel), List.mem_of_getElem? (i := 474) (by decide +kernel), List.mem_of_getElem? (i := 475) (by decide +kernel)⟩
theorem lw_p3 : lw_okq (⟨"IceOut", "startCellAnew", "(I)I"⟩, 11) := ⟨⟨by decide +kernel, by decide +kernel⟩, List.mem_of_getElem? (i := 21) (by decide +kernel), List.mem_of_getElem? (i := 478) (by decide +kernel), List.mem_of_getElem? (i := 479) (by decide +kernel)⟩
theorem lw_p4 : lw_okq (⟨"IceOut", "refused", "(I)I"⟩, 11) := ⟨⟨by decide +kernel, by decide +kernel⟩, List.mem_of_getElem? (i := 21) (by decide +kernel), List.mem_of_getElem? (i := 508) (by decide +kernel), List.mem_of_getElem? (i := 509) (by decide +kernel)⟩
theorem lw_p5 : lw_okq (⟨"IceOut", "isAct", "(II)Z"⟩, 11) := ⟨⟨by decide +kernel, by decide +kernel⟩, List.mem_of_getElem? (i := 21) (by decide +kernel), List.mem_of_getElem? (i := 540) (by decide +kernel), List.mem_of_getElem? (i := 541) (by decide +kernel)⟩
theorem lw_p6 : lw_okq (⟨"IceOut$Stepper", "letRulesCome", "(LIceOut$State;I)V"⟩, 4) := ⟨⟨by decide +kernel, by decide +kernel⟩, List.mem_of_getElem? (i := 344) (by decide +kernel), List.mem_of_getElem? (i := 604) (by decide +kernel), List.mem_of_getElem? (i := 605) (by decide +kernel)⟩
theorem lw_p7 : lw_okq (⟨"IceOut$Stepper", "orderHolds", "(IIILIceOut$State;)Z"⟩, 4) := ⟨⟨by decide +kernel, by decide +kernel⟩, List.mem_of_getElem? (i := 344) (by decide +kernel), List.mem_of_getElem? (i := 612) (by decide +kernel), List.mem_of_getElem? (i := 613) (by decide +kernel)⟩
theorem lw_p8 : lw_okq (⟨"IceOut$Stepper", "doActs", "(LIceOut$State;)V"⟩, 4) := ⟨⟨by decide +kernel, by decide +kernel⟩, List.mem_of_getElem? (i := 344) (by decide +kernel), List.mem_of_getElem? (i := 626) (by decide +kernel), List.mem_of_getElem? (i := 627) (by decide +kernel)⟩
theorem lw_p9 : lw_okq (⟨"IceOut$Stepper", "doAct", "(LIceOut$State;II)V"⟩, 4) := ⟨⟨by decide +kernel, by decide +kernel⟩, List.mem_of_getElem? (i := 344) (by decide +kernel), List.mem_of_getElem? (i := 631) (by decide +kernel), List.mem_of_getElem? (i := 632) (by decide +kernel)⟩
theorem lw_p10 : lw_okq (⟨"IceOut$Stepper", "letFlow", "(LIceOut$State;)V"⟩, 4) := ⟨⟨by decide +kernel, by decide +kernel⟩, List.mem_of_getElem? (i := 344) (by decide +kernel), List.mem_of_getElem? (i := 652) (by decide +kernel), List.mem_of_getElem? (i := 653) (by decide +kernel)⟩
theorem lw_p11 : lw_okq (⟨"IceOut$Stepper", "takeLevels", "(LIceOut$State;)V"⟩, 4) := ⟨⟨by decide +kernel, by decide +kernel⟩, List.mem_of_getElem? (i := 344) (by decide +kernel), List.mem_of_getElem? (i := 656) (by decide +kernel), List.mem_of_getElem? (i := 657) (by decide +kernel)⟩
theorem lw_p12 : lw_okq (⟨"IceOut$Stepper", "flowOf", "(LIceOut$State;I)I"⟩, 4) := ⟨⟨by decide +kernel, by decide +kernel⟩, List.mem_of_getElem? (i := 344) (by decide +kernel), List.mem_of_getElem? (i := 661) (by decide +kernel), List.mem_of_getElem? (i := 662) (by decide +kernel)⟩
theorem lw_p13 : lw_okq (⟨"IceOut$Stepper", "freeze", "(LIceOut$State;I)V"⟩, 4) := ⟨⟨by decide +kernel, by decide +kernel⟩, List.mem_of_getElem? (i := 344) (by decide +kernel), List.mem_of_getElem? (i := 665) (by decide +kernel), List.mem_of_getElem? (i := 666) (by decide +kernel)⟩
theorem lw_p14 : lw_okq (⟨"IceOut$Stepper", "melt", "(LIceOut$State;I)V"⟩, 4) := ⟨⟨by decide +kernel, by decide +kernel⟩, List.mem_of_getElem? (i := 344) (by decide +kernel), List.mem_of_getElem? (i := 669) (by decide +kernel), List.mem_of_getElem? (i := 670) (by decide +kernel)⟩
theorem lw_p15 : lw_okq (⟨"IceOut$Stepper", "breakSheets", "(LIceOut$State;)V"⟩, 4) := ⟨⟨by decide +kernel, by decide +kernel⟩, List.mem_of_getElem? (i := 344) (by decide +kernel), List.mem_of_getElem? (i := 673) (by decide +kernel), List.mem_of_getElem? (i := 674) (by decide +kernel)⟩
def lw_privs_1 : List (MethodName × Nat) := [(⟨"IceOut", "layOut", "(I)V"⟩, 11), (⟨"IceOut", "startAnew", "()V"⟩, 11), (⟨"IceOut", "hasCell", "(I)Z"⟩, 11), (⟨"IceOut", "startCellAnew", "(I)I"⟩, 11), (⟨"IceOut", "refused", "(I)I"⟩, 11), (⟨"IceOut", "isAct", "(II)Z"⟩, 11), (⟨"IceOut$Stepper", "letRulesCome", "(LIceOut$State;I)V"⟩, 4), (⟨"IceOut$Stepper", "orderHolds", "(IIILIceOut$State;)Z"⟩, 4), (⟨"IceOut$Stepper", "doActs", "(LIceOut$State;)V"⟩, 4), (⟨"IceOut$Stepper", "doAct", "(LIceOut$State;II)V"⟩, 4), (⟨"IceOut$Stepper", "letFlow", "(LIceOut$State;)V"⟩, 4), (⟨"IceOut$Stepper", "takeLevels", "(LIceOut$State;)V"⟩, 4), (⟨"IceOut$Stepper", "flowOf", "(LIceOut$State;I)I"⟩, 4), (⟨"IceOut$Stepper", "freeze", "(LIceOut$State;I)V"⟩, 4), (⟨"IceOut$Stepper", "melt", "(LIceOut$State;I)V"⟩, 4), (⟨"IceOut$Stepper", "breakSheets", "(LIceOut$State;)V"⟩, 4)]
theorem lw_r1 : ∀ q ∈ lw_privs_1, lw_okq q := List.forall_mem_cons.mpr ⟨lw_p0, List.forall_mem_cons.mpr ⟨lw_p1, List.forall_mem_cons.mpr ⟨lw_p2, List.forall_mem_cons.mpr ⟨lw_p3, List.forall_mem_cons.mpr ⟨lw_p4, List.forall_mem_cons.mpr ⟨lw_p5, List.forall_mem_cons.mpr ⟨lw_p6, List.forall_mem_cons.mpr ⟨lw_p7, List.forall_mem_cons.mpr ⟨lw_p8, List.forall_mem_cons.mpr ⟨lw_p9, List.forall_mem_cons.mpr ⟨lw_p10, List.forall_mem_cons.mpr ⟨lw_p11, List.forall_mem_cons.mpr ⟨lw_p12, List.forall_mem_cons.mpr ⟨lw_p13, List.forall_mem_cons.mpr ⟨lw_p14, List.forall_mem_cons.mpr ⟨lw_p15, fun _ h => absurd h List.not_mem_nil⟩⟩⟩⟩⟩⟩⟩⟩⟩⟩⟩⟩⟩⟩⟩⟩
theorem lw_p16 : lw_okq (⟨"IceOut$Stepper", "drift", "(LIceOut$State;)V"⟩, 4) := ⟨⟨by decide +kernel, by decide +kernel⟩, List.mem_of_getElem? (i := 344) (by decide +kernel), List.mem_of_getElem? (i := 677) (by decide +kernel), List.mem_of_getElem? (i := 678) (by decide +kernel)⟩
theorem lw_p17 : lw_okq (⟨"IceOut$Stepper", "mostPassing", "(LIceOut$State;I)I"⟩, 4) := ⟨⟨by decide +kernel, by decide +kernel⟩, List.mem_of_getElem? (i := 344) (by decide +kernel), List.mem_of_getElem? (i := 681) (by decide +kernel), List.mem_of_getElem? (i := 682) (by decide +kernel)⟩
theorem lw_p18 : lw_okq (⟨"IceOut$Stepper", "giveBelow", "(LIceOut$State;II)V"⟩, 4) := ⟨⟨by decide +kernel, by decide +kernel⟩, List.mem_of_getElem? (i := 344) (by decide +kernel), List.mem_of_getElem? (i := 687) (by decide +kernel), List.mem_of_getElem? (i := 688) (by decide +kernel)⟩
theorem lw_p19 : lw_okq (⟨"IceOut$Stepper", "letJamsGo", "(LIceOut$State;I)V"⟩, 4) := ⟨⟨by decide +kernel, by decide +kernel⟩, List.mem_of_getElem? (i := 344) (by decide +kernel), List.mem_of_getElem? (i := 691) (by decide +kernel), List.mem_of_getElem? (i := 692) (by decide +kernel)⟩
theorem lw_p20 : lw_okq (⟨"IceOut$Stepper", "countHarm", "(LIceOut$State;)V"⟩, 4) := ⟨⟨by decide +kernel, by decide +kernel⟩, List.mem_of_getElem? (i := 344) (by decide +kernel), List.mem_of_getElem? (i := 695) (by decide +kernel), List.mem_of_getElem? (i := 696) (by decide +kernel)⟩
theorem lw_p21 : lw_okq (⟨"IceOut$Stepper", "noteCrests", "(LIceOut$State;)V"⟩, 4) := ⟨⟨by decide +kernel, by decide +kernel⟩, List.mem_of_getElem? (i := 344) (by decide +kernel), List.mem_of_getElem? (i := 699) (by decide +kernel), List.mem_of_getElem? (i := 700) (by decide +kernel)⟩
theorem lw_p22 : lw_okq (⟨"IceOut$Stepper", "readGauges", "(LIceOut$State;)V"⟩, 4) := ⟨⟨by decide +kernel, by decide +kernel⟩, List.mem_of_getElem? (i := 344) (by decide +kernel), List.mem_of_getElem? (i := 703) (by decide +kernel), List.mem_of_getElem? (i := 704) (by decide +kernel)⟩
theorem lw_p23 : lw_okq (⟨"IceOut", "hasRule", "(I)Z"⟩, 11) := ⟨⟨by decide +kernel, by decide +kernel⟩, List.mem_of_getElem? (i := 21) (by decide +kernel), List.mem_of_getElem? (i := 744) (by decide +kernel), List.mem_of_getElem? (i := 745) (by decide +kernel)⟩
theorem lw_p24 : lw_okq (⟨"IceOut", "hasSet", "(I)Z"⟩, 11) := ⟨⟨by decide +kernel, by decide +kernel⟩, List.mem_of_getElem? (i := 21) (by decide +kernel), List.mem_of_getElem? (i := 765) (by decide +kernel), List.mem_of_getElem? (i := 766) (by decide +kernel)⟩
theorem lw_p25 : lw_okq (⟨"IceOut", "mostHarm", "(IIIII)I"⟩, 11) := ⟨⟨by decide +kernel, by decide +kernel⟩, List.mem_of_getElem? (i := 21) (by decide +kernel), List.mem_of_getElem? (i := 773) (by decide +kernel), List.mem_of_getElem? (i := 774) (by decide +kernel)⟩
theorem lw_p26 : lw_okq (⟨"IceOut", "takeSet", "(LIceOut$State;I)V"⟩, 11) := ⟨⟨by decide +kernel, by decide +kernel⟩, List.mem_of_getElem? (i := 21) (by decide +kernel), List.mem_of_getElem? (i := 787) (by decide +kernel), List.mem_of_getElem? (i := 788) (by decide +kernel)⟩
theorem lw_p27 : lw_okq (⟨"java/lang/Throwable", "fillInStackTrace", "(I)Ljava/lang/Throwable;"⟩, 6) := ⟨⟨by decide +kernel, by decide +kernel⟩, List.mem_of_getElem? (i := 940) (by decide +kernel), List.mem_of_getElem? (i := 938) (by decide +kernel), List.mem_of_getElem? (i := 939) (by decide +kernel)⟩
theorem lw_p28 : lw_okq (⟨"IceOutModel", "starts", "([I)V"⟩, 45) := ⟨⟨by decide +kernel, by decide +kernel⟩, List.mem_of_getElem? (i := 980) (by decide +kernel), List.mem_of_getElem? (i := 994) (by decide +kernel), List.mem_of_getElem? (i := 995) (by decide +kernel)⟩
theorem lw_p29 : lw_okq (⟨"IceOutModel", "level", "([II)I"⟩, 45) := ⟨⟨by decide +kernel, by decide +kernel⟩, List.mem_of_getElem? (i := 980) (by decide +kernel), List.mem_of_getElem? (i := 1001) (by decide +kernel), List.mem_of_getElem? (i := 1002) (by decide +kernel)⟩
theorem lw_p30 : lw_okq (⟨"IceOutModel", "isCell", "(I)Z"⟩, 45) := ⟨⟨by decide +kernel, by decide +kernel⟩, List.mem_of_getElem? (i := 980) (by decide +kernel), List.mem_of_getElem? (i := 1150) (by decide +kernel), List.mem_of_getElem? (i := 1151) (by decide +kernel)⟩
theorem lw_p31 : lw_okq (⟨"IceOutModel", "hasStarted", "()Z"⟩, 45) := ⟨⟨by decide +kernel, by decide +kernel⟩, List.mem_of_getElem? (i := 980) (by decide +kernel), List.mem_of_getElem? (i := 1154) (by decide +kernel), List.mem_of_getElem? (i := 1155) (by decide +kernel)⟩
def lw_privs_2 : List (MethodName × Nat) := [(⟨"IceOut$Stepper", "drift", "(LIceOut$State;)V"⟩, 4), (⟨"IceOut$Stepper", "mostPassing", "(LIceOut$State;I)I"⟩, 4), (⟨"IceOut$Stepper", "giveBelow", "(LIceOut$State;II)V"⟩, 4), (⟨"IceOut$Stepper", "letJamsGo", "(LIceOut$State;I)V"⟩, 4), (⟨"IceOut$Stepper", "countHarm", "(LIceOut$State;)V"⟩, 4), (⟨"IceOut$Stepper", "noteCrests", "(LIceOut$State;)V"⟩, 4), (⟨"IceOut$Stepper", "readGauges", "(LIceOut$State;)V"⟩, 4), (⟨"IceOut", "hasRule", "(I)Z"⟩, 11), (⟨"IceOut", "hasSet", "(I)Z"⟩, 11), (⟨"IceOut", "mostHarm", "(IIIII)I"⟩, 11), (⟨"IceOut", "takeSet", "(LIceOut$State;I)V"⟩, 11), (⟨"java/lang/Throwable", "fillInStackTrace", "(I)Ljava/lang/Throwable;"⟩, 6), (⟨"IceOutModel", "starts", "([I)V"⟩, 45), (⟨"IceOutModel", "level", "([II)I"⟩, 45), (⟨"IceOutModel", "isCell", "(I)Z"⟩, 45), (⟨"IceOutModel", "hasStarted", "()Z"⟩, 45)]
theorem lw_r2 : ∀ q ∈ lw_privs_2, lw_okq q := List.forall_mem_cons.mpr ⟨lw_p16, List.forall_mem_cons.mpr ⟨lw_p17, List.forall_mem_cons.mpr ⟨lw_p18, List.forall_mem_cons.mpr ⟨lw_p19, List.forall_mem_cons.mpr ⟨lw_p20, List.forall_mem_cons.mpr ⟨lw_p21, List.forall_mem_cons.mpr ⟨lw_p22, List.forall_mem_cons.mpr ⟨lw_p23, List.forall_mem_cons.mpr ⟨lw_p24, List.forall_mem_cons.mpr ⟨lw_p25, List.forall_mem_cons.mpr ⟨lw_p26, List.forall_mem_cons.mpr ⟨lw_p27, List.forall_mem_cons.mpr ⟨lw_p28, List.forall_mem_cons.mpr ⟨lw_p29, List.forall_mem_cons.mpr ⟨lw_p30, List.forall_mem_cons.mpr ⟨lw_p31, fun _ h => absurd h List.not_mem_nil⟩⟩⟩⟩⟩⟩⟩⟩⟩⟩⟩⟩⟩⟩⟩⟩
theorem lw_p32 : lw_okq (⟨"IceOutModel", "keepsWaiting", "(I)I"⟩, 45) := ⟨⟨by decide +kernel, by decide +kernel⟩, List.mem_of_getElem? (i := 980) (by decide +kernel), List.mem_of_getElem? (i := 1158) (by decide +kernel), List.mem_of_getElem? (i := 1159) (by decide +kernel)⟩
theorem lw_p33 : lw_okq (⟨"IceOutModel", "told", "(I)I"⟩, 45) := ⟨⟨by decide +kernel, by decide +kernel⟩, List.mem_of_getElem? (i := 980) (by decide +kernel), List.mem_of_getElem? (i := 1162) (by decide +kernel), List.mem_of_getElem? (i := 1163) (by decide +kernel)⟩
theorem lw_p34 : lw_okq (⟨"IceOutModel", "host", "(I)I"⟩, 45) := ⟨⟨by decide +kernel, by decide +kernel⟩, List.mem_of_getElem? (i := 980) (by decide +kernel), List.mem_of_getElem? (i := 1187) (by decide +kernel), List.mem_of_getElem? (i := 1188) (by decide +kernel)⟩
theorem lw_p35 : lw_okq (⟨"IceOutModel", "isAct", "(II)Z"⟩, 45) := ⟨⟨by decide +kernel, by decide +kernel⟩, List.mem_of_getElem? (i := 980) (by decide +kernel), List.mem_of_getElem? (i := 1210) (by decide +kernel), List.mem_of_getElem? (i := 1211) (by decide +kernel)⟩
theorem lw_p36 : lw_okq (⟨"IceOutModel", "wrongRow", "(II)I"⟩, 45) := ⟨⟨by decide +kernel, by decide +kernel⟩, List.mem_of_getElem? (i := 980) (by decide +kernel), List.mem_of_getElem? (i := 1214) (by decide +kernel), List.mem_of_getElem? (i := 1215) (by decide +kernel)⟩
theorem lw_p37 : lw_okq (⟨"IceOutModel", "orders", "(I)I"⟩, 45) := ⟨⟨by decide +kernel, by decide +kernel⟩, List.mem_of_getElem? (i := 980) (by decide +kernel), List.mem_of_getElem? (i := 1218) (by decide +kernel), List.mem_of_getElem? (i := 1219) (by decide +kernel)⟩
theorem lw_p38 : lw_okq (⟨"IceOutModel", "word", "(II)I"⟩, 45) := ⟨⟨by decide +kernel, by decide +kernel⟩, List.mem_of_getElem? (i := 980) (by decide +kernel), List.mem_of_getElem? (i := 1222) (by decide +kernel), List.mem_of_getElem? (i := 1223) (by decide +kernel)⟩
theorem lw_p39 : lw_okq (⟨"IceOutModel", "goes", "([IIIIZ)V"⟩, 45) := ⟨⟨by decide +kernel, by decide +kernel⟩, List.mem_of_getElem? (i := 980) (by decide +kernel), List.mem_of_getElem? (i := 1241) (by decide +kernel), List.mem_of_getElem? (i := 1242) (by decide +kernel)⟩
theorem lw_p40 : lw_okq (⟨"IceOutModel", "holdsAt", "([IIII)Z"⟩, 45) := ⟨⟨by decide +kernel, by decide +kernel⟩, List.mem_of_getElem? (i := 980) (by decide +kernel), List.mem_of_getElem? (i := 1248) (by decide +kernel), List.mem_of_getElem? (i := 1249) (by decide +kernel)⟩
theorem lw_p41 : lw_okq (⟨"IceOutModel", "newest", "([IIII)I"⟩, 45) := ⟨⟨by decide +kernel, by decide +kernel⟩, List.mem_of_getElem? (i := 980) (by decide +kernel), List.mem_of_getElem? (i := 1252) (by decide +kernel), List.mem_of_getElem? (i := 1253) (by decide +kernel)⟩
theorem lw_p42 : lw_okq (⟨"IceOutModel", "known", "([IIII)I"⟩, 45) := ⟨⟨by decide +kernel, by decide +kernel⟩, List.mem_of_getElem? (i := 980) (by decide +kernel), List.mem_of_getElem? (i := 1256) (by decide +kernel), List.mem_of_getElem? (i := 1257) (by decide +kernel)⟩
theorem lw_p43 : lw_okq (⟨"IceOutModel", "does", "([I)V"⟩, 45) := ⟨⟨by decide +kernel, by decide +kernel⟩, List.mem_of_getElem? (i := 980) (by decide +kernel), List.mem_of_getElem? (i := 1260) (by decide +kernel), List.mem_of_getElem? (i := 1261) (by decide +kernel)⟩
theorem lw_p44 : lw_okq (⟨"IceOutModel", "acts", "([III)V"⟩, 45) := ⟨⟨by decide +kernel, by decide +kernel⟩, List.mem_of_getElem? (i := 980) (by decide +kernel), List.mem_of_getElem? (i := 1264) (by decide +kernel), List.mem_of_getElem? (i := 1265) (by decide +kernel)⟩
theorem lw_p45 : lw_okq (⟨"IceOutModel", "inflowAt", "(II)I"⟩, 45) := ⟨⟨by decide +kernel, by decide +kernel⟩, List.mem_of_getElem? (i := 980) (by decide +kernel), List.mem_of_getElem? (i := 1271) (by decide +kernel), List.mem_of_getElem? (i := 1272) (by decide +kernel)⟩
theorem lw_p46 : lw_okq (⟨"IceOutModel", "flows", "([I)V"⟩, 45) := ⟨⟨by decide +kernel, by decide +kernel⟩, List.mem_of_getElem? (i := 980) (by decide +kernel), List.mem_of_getElem? (i := 1275) (by decide +kernel), List.mem_of_getElem? (i := 1276) (by decide +kernel)⟩
theorem lw_p47 : lw_okq (⟨"IceOutModel", "fall", "([II)I"⟩, 45) := ⟨⟨by decide +kernel, by decide +kernel⟩, List.mem_of_getElem? (i := 980) (by decide +kernel), List.mem_of_getElem? (i := 1279) (by decide +kernel), List.mem_of_getElem? (i := 1280) (by decide +kernel)⟩
def lw_privs_3 : List (MethodName × Nat) := [(⟨"IceOutModel", "keepsWaiting", "(I)I"⟩, 45), (⟨"IceOutModel", "told", "(I)I"⟩, 45), (⟨"IceOutModel", "host", "(I)I"⟩, 45), (⟨"IceOutModel", "isAct", "(II)Z"⟩, 45), (⟨"IceOutModel", "wrongRow", "(II)I"⟩, 45), (⟨"IceOutModel", "orders", "(I)I"⟩, 45), (⟨"IceOutModel", "word", "(II)I"⟩, 45), (⟨"IceOutModel", "goes", "([IIIIZ)V"⟩, 45), (⟨"IceOutModel", "holdsAt", "([IIII)Z"⟩, 45), (⟨"IceOutModel", "newest", "([IIII)I"⟩, 45), (⟨"IceOutModel", "known", "([IIII)I"⟩, 45), (⟨"IceOutModel", "does", "([I)V"⟩, 45), (⟨"IceOutModel", "acts", "([III)V"⟩, 45), (⟨"IceOutModel", "inflowAt", "(II)I"⟩, 45), (⟨"IceOutModel", "flows", "([I)V"⟩, 45), (⟨"IceOutModel", "fall", "([II)I"⟩, 45)]
theorem lw_r3 : ∀ q ∈ lw_privs_3, lw_okq q := List.forall_mem_cons.mpr ⟨lw_p32, List.forall_mem_cons.mpr ⟨lw_p33, List.forall_mem_cons.mpr ⟨lw_p34, List.forall_mem_cons.mpr ⟨lw_p35, List.forall_mem_cons.mpr ⟨lw_p36, List.forall_mem_cons.mpr ⟨lw_p37, List.forall_mem_cons.mpr ⟨lw_p38, List.forall_mem_cons.mpr ⟨lw_p39, List.forall_mem_cons.mpr ⟨lw_p40, List.forall_mem_cons.mpr ⟨lw_p41, List.forall_mem_cons.mpr ⟨lw_p42, List.forall_mem_cons.mpr ⟨lw_p43, List.forall_mem_cons.mpr ⟨lw_p44, List.forall_mem_cons.mpr ⟨lw_p45, List.forall_mem_cons.mpr ⟨lw_p46, List.forall_mem_cons.mpr ⟨lw_p47, fun _ h => absurd h List.not_mem_nil⟩⟩⟩⟩⟩⟩⟩⟩⟩⟩⟩⟩⟩⟩⟩⟩
theorem lw_p48 : lw_okq (⟨"IceOutModel", "heatAt", "(II)I"⟩, 45) := ⟨⟨by decide +kernel, by decide +kernel⟩, List.mem_of_getElem? (i := 980) (by decide +kernel), List.mem_of_getElem? (i := 1283) (by decide +kernel), List.mem_of_getElem? (i := 1284) (by decide +kernel)⟩
theorem lw_p49 : lw_okq (⟨"IceOutModel", "freezes", "([II)V"⟩, 45) := ⟨⟨by decide +kernel, by decide +kernel⟩, List.mem_of_getElem? (i := 980) (by decide +kernel), List.mem_of_getElem? (i := 1287) (by decide +kernel), List.mem_of_getElem? (i := 1288) (by decide +kernel)⟩
theorem lw_p50 : lw_okq (⟨"IceOutModel", "drifts", "([I)V"⟩, 45) := ⟨⟨by decide +kernel, by decide +kernel⟩, List.mem_of_getElem? (i := 980) (by decide +kernel), List.mem_of_getElem? (i := 1291) (by decide +kernel), List.mem_of_getElem? (i := 1292) (by decide +kernel)⟩
theorem lw_p51 : lw_okq (⟨"IceOutModel", "passesOn", "([III)I"⟩, 45) := ⟨⟨by decide +kernel, by decide +kernel⟩, List.mem_of_getElem? (i := 980) (by decide +kernel), List.mem_of_getElem? (i := 1295) (by decide +kernel), List.mem_of_getElem? (i := 1296) (by decide +kernel)⟩
theorem lw_p52 : lw_okq (⟨"IceOutModel", "letsGo", "([II)V"⟩, 45) := ⟨⟨by decide +kernel, by decide +kernel⟩, List.mem_of_getElem? (i := 980) (by decide +kernel), List.mem_of_getElem? (i := 1299) (by decide +kernel), List.mem_of_getElem? (i := 1300) (by decide +kernel)⟩
theorem lw_p53 : lw_okq (⟨"IceOutModel", "ends", "([II)V"⟩, 45) := ⟨⟨by decide +kernel, by decide +kernel⟩, List.mem_of_getElem? (i := 980) (by decide +kernel), List.mem_of_getElem? (i := 1303) (by decide +kernel), List.mem_of_getElem? (i := 1304) (by decide +kernel)⟩
theorem lw_p54 : lw_okq (⟨"IceOutModel", "isRule", "(I)Z"⟩, 45) := ⟨⟨by decide +kernel, by decide +kernel⟩, List.mem_of_getElem? (i := 980) (by decide +kernel), List.mem_of_getElem? (i := 1331) (by decide +kernel), List.mem_of_getElem? (i := 1332) (by decide +kernel)⟩
theorem lw_p55 : lw_okq (⟨"IceOutModel", "isSet", "(I)Z"⟩, 45) := ⟨⟨by decide +kernel, by decide +kernel⟩, List.mem_of_getElem? (i := 980) (by decide +kernel), List.mem_of_getElem? (i := 1351) (by decide +kernel), List.mem_of_getElem? (i := 1352) (by decide +kernel)⟩
theorem lw_p56 : lw_okq (⟨"IceOutModel", "harmOf", "(III)I"⟩, 45) := ⟨⟨by decide +kernel, by decide +kernel⟩, List.mem_of_getElem? (i := 980) (by decide +kernel), List.mem_of_getElem? (i := 1355) (by decide +kernel), List.mem_of_getElem? (i := 1356) (by decide +kernel)⟩
theorem lw_p57 : lw_okq (⟨"IceOutModel", "worstOf", "(III)I"⟩, 45) := ⟨⟨by decide +kernel, by decide +kernel⟩, List.mem_of_getElem? (i := 980) (by decide +kernel), List.mem_of_getElem? (i := 1363) (by decide +kernel), List.mem_of_getElem? (i := 1364) (by decide +kernel)⟩
theorem lw_p58 : lw_okq (⟨"IceOutModel", "wrongState", "(I)I"⟩, 45) := ⟨⟨by decide +kernel, by decide +kernel⟩, List.mem_of_getElem? (i := 980) (by decide +kernel), List.mem_of_getElem? (i := 1398) (by decide +kernel), List.mem_of_getElem? (i := 1399) (by decide +kernel)⟩
def lw_privs_4 : List (MethodName × Nat) := [(⟨"IceOutModel", "heatAt", "(II)I"⟩, 45), (⟨"IceOutModel", "freezes", "([II)V"⟩, 45), (⟨"IceOutModel", "drifts", "([I)V"⟩, 45), (⟨"IceOutModel", "passesOn", "([III)I"⟩, 45), (⟨"IceOutModel", "letsGo", "([II)V"⟩, 45), (⟨"IceOutModel", "ends", "([II)V"⟩, 45), (⟨"IceOutModel", "isRule", "(I)Z"⟩, 45), (⟨"IceOutModel", "isSet", "(I)Z"⟩, 45), (⟨"IceOutModel", "harmOf", "(III)I"⟩, 45), (⟨"IceOutModel", "worstOf", "(III)I"⟩, 45), (⟨"IceOutModel", "wrongState", "(I)I"⟩, 45)]
theorem lw_r4 : ∀ q ∈ lw_privs_4, lw_okq q := List.forall_mem_cons.mpr ⟨lw_p48, List.forall_mem_cons.mpr ⟨lw_p49, List.forall_mem_cons.mpr ⟨lw_p50, List.forall_mem_cons.mpr ⟨lw_p51, List.forall_mem_cons.mpr ⟨lw_p52, List.forall_mem_cons.mpr ⟨lw_p53, List.forall_mem_cons.mpr ⟨lw_p54, List.forall_mem_cons.mpr ⟨lw_p55, List.forall_mem_cons.mpr ⟨lw_p56, List.forall_mem_cons.mpr ⟨lw_p57, List.forall_mem_cons.mpr ⟨lw_p58, fun _ h => absurd h List.not_mem_nil⟩⟩⟩⟩⟩⟩⟩⟩⟩⟩⟩
def lw_privs : List (MethodName × Nat) := lw_privs_1 ++ (lw_privs_2 ++ (lw_privs_3 ++ (lw_privs_4)))
def lw_tbl : List Cond := k2_sels lw_privs ++ tables_1
theorem lw_privs_ok : ∀ q ∈ lw_privs, lw_okq q := by
  show ∀ q ∈ lw_privs_1 ++ (lw_privs_2 ++ (lw_privs_3 ++ (lw_privs_4))), lw_okq q
  exact List.forall_mem_append.mpr ⟨lw_r1, List.forall_mem_append.mpr ⟨lw_r2, List.forall_mem_append.mpr ⟨lw_r3, lw_r4⟩⟩⟩
def RX0 : String := "IceOut$Acts"
def TX0 : u_T := fun k => match k with
  | 0 => ("IceOut$Acts", "hour", "[I", true)
  | 1 => ("IceOut$Acts", "kind", "[I", true)
  | 2 => ("IceOut$Acts", "cell", "[I", true)
  | _ => ("IceOut$Acts", "size", "I", false)
def tyX0 : Nat → FieldType := fun k => match k with
  | 0 => .array .int
  | 1 => .array .int
  | 2 => .array .int
  | _ => .int
theorem nmX0 : ∀ a, a < 4 → ∀ b, b < 4 → a ≠ b → (TX0 a).2.1 ≠ (TX0 b).2.1 := by decide +kernel
theorem tyX0_ok : ∀ k, k < 4 → parseFieldDescriptor (TX0 k).2.2.1 = some (tyX0 k) := by decide +kernel
abbrev cX0_init : ByteArray := prog_2_method_1_code
def yX0_init : MethodName := ⟨RX0, "<init>", "(I)V"⟩
abbrev cX0_isFull : ByteArray := prog_2_method_2_code
def yX0_isFull : MethodName := ⟨RX0, "isFull", "()Z"⟩
abbrev cX0_add : ByteArray := prog_2_method_3_code
def yX0_add : MethodName := ⟨RX0, "add", "(III)V"⟩
abbrev cX0_dropFirst : ByteArray := prog_2_method_4_code
def yX0_dropFirst : MethodName := ⟨RX0, "dropFirst", "(I)V"⟩
abbrev cX0_moveThoseFor : ByteArray := prog_2_method_5_code
def yX0_moveThoseFor : MethodName := ⟨RX0, "moveThoseFor", "(ILIceOut$Acts;)V"⟩
abbrev cX0_maskBehind : ByteArray := prog_2_method_6_code
def yX0_maskBehind : MethodName := ⟨RX0, "maskBehind", "(I)I"⟩
abbrev cX0_takeFrom : ByteArray := prog_2_method_7_code
def yX0_takeFrom : MethodName := ⟨RX0, "takeFrom", "(LIceOut$Acts;)V"⟩
def RX1 : String := "IceOut$Book"
def TX1 : u_T := fun k => match k with
  | 0 => ("IceOut$Book", "level", "[I", true)
  | 1 => ("IceOut$Book", "from", "[I", true)
  | 2 => ("IceOut$Book", "newest", "[I", true)
  | 3 => ("IceOut$Book", "mendPlace", "[I", true)
  | 4 => ("IceOut$Book", "olderLevel", "[I", true)
  | 5 => ("IceOut$Book", "olderFrom", "[I", true)
  | _ => ("IceOut$Book", "mends", "I", false)
def tyX1 : Nat → FieldType := fun k => match k with
  | 0 => .array .int
  | 1 => .array .int
  | 2 => .array .int
  | 3 => .array .int
  | 4 => .array .int
  | 5 => .array .int
  | _ => .int
theorem nmX1 : ∀ a, a < 7 → ∀ b, b < 7 → a ≠ b → (TX1 a).2.1 ≠ (TX1 b).2.1 := by decide +kernel
theorem tyX1_ok : ∀ k, k < 7 → parseFieldDescriptor (TX1 k).2.2.1 = some (tyX1 k) := by decide +kernel
abbrev cX1_init : ByteArray := prog_3_method_1_code
def yX1_init : MethodName := ⟨RX1, "<init>", "(I)V"⟩
abbrev cX1_forget : ByteArray := prog_3_method_2_code
def yX1_forget : MethodName := ⟨RX1, "forget", "()V"⟩
abbrev cX1_write : ByteArray := prog_3_method_3_code
def yX1_write : MethodName := ⟨RX1, "write", "(IIII)V"⟩
abbrev cX1_tellAnew : ByteArray := prog_3_method_4_code
def yX1_tellAnew : MethodName := ⟨RX1, "tellAnew", "(IIII)V"⟩
abbrev cX1_levelKnown : ByteArray := prog_3_method_5_code
def yX1_levelKnown : MethodName := ⟨RX1, "levelKnown", "(III)I"⟩
abbrev cX1_newestKnown : ByteArray := prog_3_method_6_code
def yX1_newestKnown : MethodName := ⟨RX1, "newestKnown", "(III)I"⟩
abbrev cX1_levelTold : ByteArray := prog_3_method_7_code
def yX1_levelTold : MethodName := ⟨RX1, "levelTold", "(II)I"⟩
abbrev cX1_takeFrom : ByteArray := prog_3_method_8_code
def yX1_takeFrom : MethodName := ⟨RX1, "takeFrom", "(LIceOut$Book;I)V"⟩
def RX2 : String := "IceOut$Marks"
def TX2 : u_T := fun k => match k with
  | 0 => ("IceOut$Marks", "cell", "[I", true)
  | 1 => ("IceOut$Marks", "low", "[I", true)
  | 2 => ("IceOut$Marks", "high", "[I", true)
  | _ => ("IceOut$Marks", "size", "I", false)
def tyX2 : Nat → FieldType := fun k => match k with
  | 0 => .array .int
  | 1 => .array .int
  | 2 => .array .int
  | _ => .int
theorem nmX2 : ∀ a, a < 4 → ∀ b, b < 4 → a ≠ b → (TX2 a).2.1 ≠ (TX2 b).2.1 := by decide +kernel
theorem tyX2_ok : ∀ k, k < 4 → parseFieldDescriptor (TX2 k).2.2.1 = some (tyX2 k) := by decide +kernel
abbrev cX2_init : ByteArray := prog_4_method_1_code
def yX2_init : MethodName := ⟨RX2, "<init>", "()V"⟩
abbrev cX2_add : ByteArray := prog_4_method_2_code
def yX2_add : MethodName := ⟨RX2, "add", "(III)V"⟩
abbrev cX2_areMetBy : ByteArray := prog_4_method_3_code
def yX2_areMetBy : MethodName := ⟨RX2, "areMetBy", "([I)Z"⟩
def RX3 : String := "IceOut$River"
def TX3 : u_T := fun k => match k with
  | 0 => ("IceOut$River", "cells", "I", false)
  | 1 => ("IceOut$River", "sea", "I", false)
  | 2 => ("IceOut$River", "crews", "I", false)
  | 3 => ("IceOut$River", "kind", "[I", true)
  | 4 => ("IceOut$River", "bed", "[I", true)
  | 5 => ("IceOut$River", "area", "[I", true)
  | 6 => ("IceOut$River", "pass", "[I", true)
  | 7 => ("IceOut$River", "water", "[I", true)
  | 8 => ("IceOut$River", "sheet", "[I", true)
  | 9 => ("IceOut$River", "people", "[I", true)
  | 10 => ("IceOut$River", "bank", "[I", true)
  | 11 => ("IceOut$River", "room", "[I", true)
  | 12 => ("IceOut$River", "lag", "[I", true)
  | _ => ("IceOut$River", "eye", "[Z", true)
def tyX3 : Nat → FieldType := fun k => match k with
  | 0 => .int
  | 1 => .int
  | 2 => .int
  | 3 => .array .int
  | 4 => .array .int
  | 5 => .array .int
  | 6 => .array .int
  | 7 => .array .int
  | 8 => .array .int
  | 9 => .array .int
  | 10 => .array .int
  | 11 => .array .int
  | 12 => .array .int
  | _ => .array .boolean
theorem nmX3 : ∀ a, a < 14 → ∀ b, b < 14 → a ≠ b → (TX3 a).2.1 ≠ (TX3 b).2.1 := by decide +kernel
theorem tyX3_ok : ∀ k, k < 14 → parseFieldDescriptor (TX3 k).2.2.1 = some (tyX3 k) := by decide +kernel
abbrev cX3_init : ByteArray := prog_5_method_1_code
def yX3_init : MethodName := ⟨RX3, "<init>", "()V"⟩
abbrev cX3_layOut : ByteArray := prog_5_method_2_code
def yX3_layOut : MethodName := ⟨RX3, "layOut", "(I)V"⟩
abbrev cX3_levelOf : ByteArray := prog_5_method_3_code
def yX3_levelOf : MethodName := ⟨RX3, "levelOf", "(II)I"⟩
def RX4 : String := "IceOut$Rules"
def TX4 : u_T := fun k => match k with
  | 0 => ("IceOut$Rules", "kind", "[I", true)
  | 1 => ("IceOut$Rules", "cell", "[I", true)
  | 2 => ("IceOut$Rules", "orders", "[I", true)
  | 3 => ("IceOut$Rules", "order", "[I", true)
  | 4 => ("IceOut$Rules", "place", "[I", true)
  | 5 => ("IceOut$Rules", "number", "[I", true)
  | _ => ("IceOut$Rules", "size", "I", false)
def tyX4 : Nat → FieldType := fun k => match k with
  | 0 => .array .int
  | 1 => .array .int
  | 2 => .array .int
  | 3 => .array .int
  | 4 => .array .int
  | 5 => .array .int
  | _ => .int
theorem nmX4 : ∀ a, a < 7 → ∀ b, b < 7 → a ≠ b → (TX4 a).2.1 ≠ (TX4 b).2.1 := by decide +kernel
theorem tyX4_ok : ∀ k, k < 7 → parseFieldDescriptor (TX4 k).2.2.1 = some (tyX4 k) := by decide +kernel
abbrev cX4_init : ByteArray := prog_6_method_1_code
def yX4_init : MethodName := ⟨RX4, "<init>", "()V"⟩
abbrev cX4_hasCell : ByteArray := prog_6_method_2_code
def yX4_hasCell : MethodName := ⟨RX4, "hasCell", "(I)Z"⟩
abbrev cX4_hasNumber : ByteArray := prog_6_method_3_code
def yX4_hasNumber : MethodName := ⟨RX4, "hasNumber", "(I)Z"⟩
abbrev cX4_lengthOf : ByteArray := prog_6_method_4_code
def yX4_lengthOf : MethodName := ⟨RX4, "lengthOf", "(I)I"⟩
abbrev cX4_firstFault : ByteArray := prog_6_method_5_code
def yX4_firstFault : MethodName := ⟨RX4, "firstFault", "(LIceOut$Tape;I)I"⟩
abbrev cX4_areNumbersSound : ByteArray := prog_6_method_6_code
def yX4_areNumbersSound : MethodName := ⟨RX4, "areNumbersSound", "(LIceOut$Tape;III)Z"⟩
abbrev cX4_ordersIn : ByteArray := prog_6_method_7_code
def yX4_ordersIn : MethodName := ⟨RX4, "ordersIn", "(LIceOut$Tape;)I"⟩
abbrev cX4_add : ByteArray := prog_6_method_8_code
def yX4_add : MethodName := ⟨RX4, "add", "(IILIceOut$Tape;)V"⟩
def RX5 : String := "IceOut$State"
def TX5 : u_T := fun k => match k with
  | 0 => ("IceOut$State", "hour", "I", false)
  | 1 => ("IceOut$State", "harm", "I", false)
  | 2 => ("IceOut$State", "done", "I", false)
  | 3 => ("IceOut$State", "warmth", "I", false)
  | 4 => ("IceOut$State", "water", "[I", true)
  | 5 => ("IceOut$State", "sheet", "[I", true)
  | 6 => ("IceOut$State", "frozen", "[I", true)
  | 7 => ("IceOut$State", "floes", "[I", true)
  | 8 => ("IceOut$State", "jam", "[I", true)
  | 9 => ("IceOut$State", "flow", "[I", true)
  | 10 => ("IceOut$State", "bags", "[I", true)
  | 11 => ("IceOut$State", "people", "[I", true)
  | 12 => ("IceOut$State", "room", "[I", true)
  | 13 => ("IceOut$State", "shut", "[I", true)
  | 14 => ("IceOut$State", "crest", "[I", true)
  | 15 => ("IceOut$State", "crestHour", "[I", true)
  | 16 => ("IceOut$State", "came", "[I", true)
  | 17 => ("IceOut$State", "waiting", "LIceOut$Acts;", true)
  | 18 => ("IceOut$State", "taken", "LIceOut$Acts;", true)
  | _ => ("IceOut$State", "book", "LIceOut$Book;", true)
def tyX5 : Nat → FieldType := fun k => match k with
  | 0 => .int
  | 1 => .int
  | 2 => .int
  | 3 => .int
  | 4 => .array .int
  | 5 => .array .int
  | 6 => .array .int
  | 7 => .array .int
  | 8 => .array .int
  | 9 => .array .int
  | 10 => .array .int
  | 11 => .array .int
  | 12 => .array .int
  | 13 => .array .int
  | 14 => .array .int
  | 15 => .array .int
  | 16 => .array .int
  | 17 => .object "IceOut$Acts"
  | 18 => .object "IceOut$Acts"
  | _ => .object "IceOut$Book"
theorem nmX5 : ∀ a, a < 20 → ∀ b, b < 20 → a ≠ b → (TX5 a).2.1 ≠ (TX5 b).2.1 := by decide +kernel
theorem tyX5_ok : ∀ k, k < 20 → parseFieldDescriptor (TX5 k).2.2.1 = some (tyX5 k) := by decide +kernel
abbrev cX5_init : ByteArray := prog_7_method_1_code
def yX5_init : MethodName := ⟨RX5, "<init>", "(LIceOut$Book;)V"⟩
abbrev cX5_startFrom : ByteArray := prog_7_method_2_code
def yX5_startFrom : MethodName := ⟨RX5, "startFrom", "(LIceOut$River;)V"⟩
abbrev cX5_startCell : ByteArray := prog_7_method_3_code
def yX5_startCell : MethodName := ⟨RX5, "startCell", "(LIceOut$River;I)V"⟩
abbrev cX5_takeFrom : ByteArray := prog_7_method_4_code
def yX5_takeFrom : MethodName := ⟨RX5, "takeFrom", "(LIceOut$State;)V"⟩
abbrev cX5_takeAllFrom : ByteArray := prog_7_method_5_code
def yX5_takeAllFrom : MethodName := ⟨RX5, "takeAllFrom", "(LIceOut$State;)V"⟩
abbrev cX5_looseIce : ByteArray := prog_7_method_6_code
def yX5_looseIce : MethodName := ⟨RX5, "looseIce", "(I)I"⟩
def RX6 : String := "IceOut$Stepper"
def TX6 : u_T := fun k => match k with
  | 0 => ("IceOut$Stepper", "river", "LIceOut$River;", true)
  | 1 => ("IceOut$Stepper", "rules", "LIceOut$Rules;", true)
  | 2 => ("IceOut$Stepper", "level", "[I", true)
  | _ => ("IceOut$Stepper", "stack", "[Z", true)
def tyX6 : Nat → FieldType := fun k => match k with
  | 0 => .object "IceOut$River"
  | 1 => .object "IceOut$Rules"
  | 2 => .array .int
  | _ => .array .boolean
theorem nmX6 : ∀ a, a < 4 → ∀ b, b < 4 → a ≠ b → (TX6 a).2.1 ≠ (TX6 b).2.1 := by decide +kernel
theorem tyX6_ok : ∀ k, k < 4 → parseFieldDescriptor (TX6 k).2.2.1 = some (tyX6 k) := by decide +kernel
abbrev cX6_init : ByteArray := prog_8_method_1_code
def yX6_init : MethodName := ⟨RX6, "<init>", "(LIceOut$River;LIceOut$Rules;)V"⟩
abbrev cX6_step : ByteArray := prog_8_method_2_code
def yX6_step : MethodName := ⟨RX6, "step", "(LIceOut$State;LIceOut$Weather;Z)V"⟩
abbrev cX6_letRulesCome : ByteArray := prog_8_method_3_code
def yX6_letRulesCome : MethodName := ⟨RX6, "letRulesCome", "(LIceOut$State;I)V"⟩
abbrev cX6_wordsHold : ByteArray := prog_8_method_4_code
def yX6_wordsHold : MethodName := ⟨RX6, "wordsHold", "(ILIceOut$State;)Z"⟩
abbrev cX6_orderHolds : ByteArray := prog_8_method_5_code
def yX6_orderHolds : MethodName := ⟨RX6, "orderHolds", "(IIILIceOut$State;)Z"⟩
abbrev cX6_doActs : ByteArray := prog_8_method_6_code
def yX6_doActs : MethodName := ⟨RX6, "doActs", "(LIceOut$State;)V"⟩
abbrev cX6_doAct : ByteArray := prog_8_method_7_code
def yX6_doAct : MethodName := ⟨RX6, "doAct", "(LIceOut$State;II)V"⟩
abbrev cX6_breakSheet : ByteArray := prog_8_method_8_code
def yX6_breakSheet : MethodName := ⟨RX6, "breakSheet", "(LIceOut$State;I)V"⟩
abbrev cX6_takeLevels : ByteArray := prog_8_method_9_code
def yX6_takeLevels : MethodName := ⟨RX6, "takeLevels", "(LIceOut$State;)V"⟩
abbrev cX6_letFlow : ByteArray := prog_8_method_10_code
def yX6_letFlow : MethodName := ⟨RX6, "letFlow", "(LIceOut$State;)V"⟩
abbrev cX6_flowOf : ByteArray := prog_8_method_11_code
def yX6_flowOf : MethodName := ⟨RX6, "flowOf", "(LIceOut$State;I)I"⟩
abbrev cX6_freeze : ByteArray := prog_8_method_12_code
def yX6_freeze : MethodName := ⟨RX6, "freeze", "(LIceOut$State;I)V"⟩
abbrev cX6_melt : ByteArray := prog_8_method_13_code
def yX6_melt : MethodName := ⟨RX6, "melt", "(LIceOut$State;I)V"⟩
abbrev cX6_breakSheets : ByteArray := prog_8_method_14_code
def yX6_breakSheets : MethodName := ⟨RX6, "breakSheets", "(LIceOut$State;)V"⟩
abbrev cX6_drift : ByteArray := prog_8_method_15_code
def yX6_drift : MethodName := ⟨RX6, "drift", "(LIceOut$State;)V"⟩
abbrev cX6_mostPassing : ByteArray := prog_8_method_16_code
def yX6_mostPassing : MethodName := ⟨RX6, "mostPassing", "(LIceOut$State;I)I"⟩
abbrev cX6_giveBelow : ByteArray := prog_8_method_17_code
def yX6_giveBelow : MethodName := ⟨RX6, "giveBelow", "(LIceOut$State;II)V"⟩
abbrev cX6_letJamsGo : ByteArray := prog_8_method_18_code
def yX6_letJamsGo : MethodName := ⟨RX6, "letJamsGo", "(LIceOut$State;I)V"⟩
abbrev cX6_countHarm : ByteArray := prog_8_method_19_code
def yX6_countHarm : MethodName := ⟨RX6, "countHarm", "(LIceOut$State;)V"⟩
abbrev cX6_noteCrests : ByteArray := prog_8_method_20_code
def yX6_noteCrests : MethodName := ⟨RX6, "noteCrests", "(LIceOut$State;)V"⟩
abbrev cX6_readGauges : ByteArray := prog_8_method_21_code
def yX6_readGauges : MethodName := ⟨RX6, "readGauges", "(LIceOut$State;)V"⟩
def RX7 : String := "IceOut$Tape"
def TX7 : u_T := fun k => match k with
  | 0 => ("IceOut$Tape", "sort", "I", false)
  | 1 => ("IceOut$Tape", "length", "I", false)
  | 2 => ("IceOut$Tape", "tellings", "I", false)
  | 3 => ("IceOut$Tape", "row", "[J", true)
  | _ => ("IceOut$Tape", "state", "LIceOut$State;", true)
def tyX7 : Nat → FieldType := fun k => match k with
  | 0 => .int
  | 1 => .int
  | 2 => .int
  | 3 => .array .long
  | _ => .object "IceOut$State"
theorem nmX7 : ∀ a, a < 5 → ∀ b, b < 5 → a ≠ b → (TX7 a).2.1 ≠ (TX7 b).2.1 := by decide +kernel
theorem tyX7_ok : ∀ k, k < 5 → parseFieldDescriptor (TX7 k).2.2.1 = some (tyX7 k) := by decide +kernel
abbrev cX7_init : ByteArray := prog_9_method_1_code
def yX7_init : MethodName := ⟨RX7, "<init>", "()V"⟩
abbrev cX7_isRow : ByteArray := prog_9_method_2_code
def yX7_isRow : MethodName := ⟨RX7, "isRow", "()Z"⟩
abbrev cX7_hasPlace : ByteArray := prog_9_method_3_code
def yX7_hasPlace : MethodName := ⟨RX7, "hasPlace", "(I)Z"⟩
abbrev cX7_hasSpan : ByteArray := prog_9_method_4_code
def yX7_hasSpan : MethodName := ⟨RX7, "hasSpan", "(II)Z"⟩
abbrev cX7_isAllWithin : ByteArray := prog_9_method_5_code
def yX7_isAllWithin : MethodName := ⟨RX7, "isAllWithin", "(III)Z"⟩
abbrev cX7_becomeRow : ByteArray := prog_9_method_6_code
def yX7_becomeRow : MethodName := ⟨RX7, "becomeRow", "(II)V"⟩
abbrev cX7_narrowed : ByteArray := prog_9_method_7_code
def yX7_narrowed : MethodName := ⟨RX7, "narrowed", "(J)J"⟩
def RX8 : String := "IceOut$Weather"
def TX8 : u_T := fun k => match k with
  | 0 => ("IceOut$Weather", "inflow", "[I", true)
  | 1 => ("IceOut$Weather", "warmth", "[I", true)
  | _ => ("IceOut$Weather", "length", "I", false)
def tyX8 : Nat → FieldType := fun k => match k with
  | 0 => .array .int
  | 1 => .array .int
  | _ => .int
theorem nmX8 : ∀ a, a < 3 → ∀ b, b < 3 → a ≠ b → (TX8 a).2.1 ≠ (TX8 b).2.1 := by decide +kernel
theorem tyX8_ok : ∀ k, k < 3 → parseFieldDescriptor (TX8 k).2.2.1 = some (tyX8 k) := by decide +kernel
abbrev cX8_init : ByteArray := prog_10_method_1_code
def yX8_init : MethodName := ⟨RX8, "<init>", "()V"⟩
abbrev cX8_calm : ByteArray := prog_10_method_2_code
def yX8_calm : MethodName := ⟨RX8, "calm", "()V"⟩
abbrev cX8_become : ByteArray := prog_10_method_3_code
def yX8_become : MethodName := ⟨RX8, "become", "(LIceOut$Tape;LIceOut$Tape;I)V"⟩
abbrev cX8_inflowAt : ByteArray := prog_10_method_4_code
def yX8_inflowAt : MethodName := ⟨RX8, "inflowAt", "(I)I"⟩
abbrev cX8_warmthAt : ByteArray := prog_10_method_5_code
def yX8_warmthAt : MethodName := ⟨RX8, "warmthAt", "(I)I"⟩
def RX9 : String := "IceOut"
def TX9 : u_T := fun k => match k with
  | 0 => ("IceOut", "river", "LIceOut$River;", true)
  | 1 => ("IceOut", "weathers", "[LIceOut$Weather;", true)
  | 2 => ("IceOut", "rules", "LIceOut$Rules;", true)
  | 3 => ("IceOut", "plan", "LIceOut$Acts;", true)
  | 4 => ("IceOut", "marks", "LIceOut$Marks;", true)
  | 5 => ("IceOut", "live", "LIceOut$State;", true)
  | 6 => ("IceOut", "tried", "LIceOut$State;", true)
  | 7 => ("IceOut", "stepper", "LIceOut$Stepper;", true)
  | 8 => ("IceOut", "tapes", "[LIceOut$Tape;", true)
  | 9 => ("IceOut", "tellings", "I", false)
  | _ => ("IceOut", "refusals", "I", false)
def tyX9 : Nat → FieldType := fun k => match k with
  | 0 => .object "IceOut$River"
  | 1 => .array (.object "IceOut$Weather")
  | 2 => .object "IceOut$Rules"
  | 3 => .object "IceOut$Acts"
  | 4 => .object "IceOut$Marks"
  | 5 => .object "IceOut$State"
  | 6 => .object "IceOut$State"
  | 7 => .object "IceOut$Stepper"
  | 8 => .array (.object "IceOut$Tape")
  | 9 => .int
  | _ => .int
theorem nmX9 : ∀ a, a < 11 → ∀ b, b < 11 → a ≠ b → (TX9 a).2.1 ≠ (TX9 b).2.1 := by decide +kernel
theorem tyX9_ok : ∀ k, k < 11 → parseFieldDescriptor (TX9 k).2.2.1 = some (tyX9 k) := by decide +kernel
abbrev cX9_init : ByteArray := prog_1_method_1_code
def yX9_init : MethodName := ⟨RX9, "<init>", "()V"⟩
abbrev cX9_begin : ByteArray := prog_1_method_2_code
def yX9_begin : MethodName := ⟨RX9, "begin", "(I)I"⟩
abbrev cX9_cell : ByteArray := prog_1_method_3_code
def yX9_cell : MethodName := ⟨RX9, "cell", "(IIIII)I"⟩
abbrev cX9_fill : ByteArray := prog_1_method_4_code
def yX9_fill : MethodName := ⟨RX9, "fill", "(III)I"⟩
abbrev cX9_town : ByteArray := prog_1_method_5_code
def yX9_town : MethodName := ⟨RX9, "town", "(IIII)I"⟩
abbrev cX9_sea : ByteArray := prog_1_method_6_code
def yX9_sea : MethodName := ⟨RX9, "sea", "(I)I"⟩
abbrev cX9_weather : ByteArray := prog_1_method_7_code
def yX9_weather : MethodName := ⟨RX9, "weather", "(IIII)I"⟩
abbrev cX9_gauge : ByteArray := prog_1_method_8_code
def yX9_gauge : MethodName := ⟨RX9, "gauge", "(II)I"⟩
abbrev cX9_eye : ByteArray := prog_1_method_9_code
def yX9_eye : MethodName := ⟨RX9, "eye", "(I)I"⟩
abbrev cX9_crews : ByteArray := prog_1_method_10_code
def yX9_crews : MethodName := ⟨RX9, "crews", "(I)I"⟩
abbrev cX9_rule : ByteArray := prog_1_method_11_code
def yX9_rule : MethodName := ⟨RX9, "rule", "(III)I"⟩
abbrev cX9_ruleless : ByteArray := prog_1_method_12_code
def yX9_ruleless : MethodName := ⟨RX9, "ruleless", "()I"⟩
abbrev cX9_act : ByteArray := prog_1_method_13_code
def yX9_act : MethodName := ⟨RX9, "act", "(II)I"⟩
abbrev cX9_run : ByteArray := prog_1_method_14_code
def yX9_run : MethodName := ⟨RX9, "run", "(I)I"⟩
abbrev cX9_again : ByteArray := prog_1_method_15_code
def yX9_again : MethodName := ⟨RX9, "again", "()I"⟩
abbrev cX9_now : ByteArray := prog_1_method_16_code
def yX9_now : MethodName := ⟨RX9, "now", "(II)I"⟩
abbrev cX9_crest : ByteArray := prog_1_method_17_code
def yX9_crest : MethodName := ⟨RX9, "crest", "(II)I"⟩
abbrev cX9_reading : ByteArray := prog_1_method_18_code
def yX9_reading : MethodName := ⟨RX9, "reading", "(III)I"⟩
abbrev cX9_mend : ByteArray := prog_1_method_19_code
def yX9_mend : MethodName := ⟨RX9, "mend", "(III)I"⟩
abbrev cX9_holds : ByteArray := prog_1_method_20_code
def yX9_holds : MethodName := ⟨RX9, "holds", "(I)I"⟩
abbrev cX9_came : ByteArray := prog_1_method_21_code
def yX9_came : MethodName := ⟨RX9, "came", "(I)I"⟩
abbrev cX9_plan : ByteArray := prog_1_method_22_code
def yX9_plan : MethodName := ⟨RX9, "plan", "(III)I"⟩
abbrev cX9_planless : ByteArray := prog_1_method_23_code
def yX9_planless : MethodName := ⟨RX9, "planless", "()I"⟩
abbrev cX9_trial : ByteArray := prog_1_method_24_code
def yX9_trial : MethodName := ⟨RX9, "trial", "(III)I"⟩
abbrev cX9_best : ByteArray := prog_1_method_25_code
def yX9_best : MethodName := ⟨RX9, "best", "(II)I"⟩
abbrev cX9_worst : ByteArray := prog_1_method_26_code
def yX9_worst : MethodName := ⟨RX9, "worst", "(III)I"⟩
abbrev cX9_taken : ByteArray := prog_1_method_27_code
def yX9_taken : MethodName := ⟨RX9, "taken", "(I)I"⟩
abbrev cX9_mark : ByteArray := prog_1_method_28_code
def yX9_mark : MethodName := ⟨RX9, "mark", "(III)I"⟩
abbrev cX9_fits : ByteArray := prog_1_method_29_code
def yX9_fits : MethodName := ⟨RX9, "fits", "(II)I"⟩
abbrev cX9_tape : ByteArray := prog_1_method_30_code
def yX9_tape : MethodName := ⟨RX9, "tape", "(III)I"⟩
abbrev cX9_keep : ByteArray := prog_1_method_31_code
def yX9_keep : MethodName := ⟨RX9, "keep", "(I)I"⟩
abbrev cX9_back : ByteArray := prog_1_method_32_code
def yX9_back : MethodName := ⟨RX9, "back", "(I)I"⟩
abbrev cX9_toss : ByteArray := prog_1_method_33_code
def yX9_toss : MethodName := ⟨RX9, "toss", "(I)I"⟩
abbrev cX9_clear : ByteArray := prog_1_method_34_code
def yX9_clear : MethodName := ⟨RX9, "clear", "(I)I"⟩
abbrev cX9_put : ByteArray := prog_1_method_35_code
def yX9_put : MethodName := ⟨RX9, "put", "(IIJ)I"⟩
abbrev cX9_at : ByteArray := prog_1_method_36_code
def yX9_at : MethodName := ⟨RX9, "at", "(II)J"⟩
abbrev cX9_copy : ByteArray := prog_1_method_37_code
def yX9_copy : MethodName := ⟨RX9, "copy", "(IIIII)I"⟩
abbrev cX9_count : ByteArray := prog_1_method_38_code
def yX9_count : MethodName := ⟨RX9, "count", "(I)I"⟩
abbrev cX9_isWithin : ByteArray := prog_1_method_39_code
def yX9_isWithin : MethodName := ⟨RX9, "isWithin", "(III)Z"⟩
abbrev cX9_isLength : ByteArray := prog_1_method_40_code
def yX9_isLength : MethodName := ⟨RX9, "isLength", "(I)Z"⟩
abbrev cX9_hasWeather : ByteArray := prog_1_method_41_code
def yX9_hasWeather : MethodName := ⟨RX9, "hasWeather", "(I)Z"⟩
abbrev cX9_hasTape : ByteArray := prog_1_method_42_code
def yX9_hasTape : MethodName := ⟨RX9, "hasTape", "(I)Z"⟩
abbrev cX9_hasCell : ByteArray := prog_1_method_43_code
def yX9_hasCell : MethodName := ⟨RX9, "hasCell", "(I)Z"⟩
abbrev cX9_hasRule : ByteArray := prog_1_method_44_code
def yX9_hasRule : MethodName := ⟨RX9, "hasRule", "(I)Z"⟩
abbrev cX9_hasSet : ByteArray := prog_1_method_45_code
def yX9_hasSet : MethodName := ⟨RX9, "hasSet", "(I)Z"⟩
abbrev cX9_isAct : ByteArray := prog_1_method_46_code
def yX9_isAct : MethodName := ⟨RX9, "isAct", "(II)Z"⟩
abbrev cX9_refused : ByteArray := prog_1_method_47_code
def yX9_refused : MethodName := ⟨RX9, "refused", "(I)I"⟩
abbrev cX9_layOut : ByteArray := prog_1_method_48_code
def yX9_layOut : MethodName := ⟨RX9, "layOut", "(I)V"⟩
abbrev cX9_startAnew : ByteArray := prog_1_method_49_code
def yX9_startAnew : MethodName := ⟨RX9, "startAnew", "()V"⟩
abbrev cX9_startCellAnew : ByteArray := prog_1_method_50_code
def yX9_startCellAnew : MethodName := ⟨RX9, "startCellAnew", "(I)I"⟩
abbrev cX9_mostHarm : ByteArray := prog_1_method_51_code
def yX9_mostHarm : MethodName := ⟨RX9, "mostHarm", "(IIIII)I"⟩
abbrev cX9_takeSet : ByteArray := prog_1_method_52_code
def yX9_takeSet : MethodName := ⟨RX9, "takeSet", "(LIceOut$State;I)V"⟩
def RX10 : String := "IceOutModel"
def TX10 : u_T := fun k => match k with
  | 0 => ("IceOutModel", "kind", "[I", true)
  | 1 => ("IceOutModel", "bed", "[I", true)
  | 2 => ("IceOutModel", "area", "[I", true)
  | 3 => ("IceOutModel", "pass", "[I", true)
  | 4 => ("IceOutModel", "water", "[I", true)
  | 5 => ("IceOutModel", "sheet", "[I", true)
  | 6 => ("IceOutModel", "people", "[I", true)
  | 7 => ("IceOutModel", "bank", "[I", true)
  | 8 => ("IceOutModel", "field", "[I", true)
  | 9 => ("IceOutModel", "lag", "[I", true)
  | 10 => ("IceOutModel", "hasEye", "[Z", true)
  | 11 => ("IceOutModel", "inflow", "[I", true)
  | 12 => ("IceOutModel", "heat", "[I", true)
  | 13 => ("IceOutModel", "long0", "[I", true)
  | 14 => ("IceOutModel", "ruleKind", "[I", true)
  | 15 => ("IceOutModel", "ruleCell", "[I", true)
  | 16 => ("IceOutModel", "words", "[I", true)
  | 17 => ("IceOutModel", "planHour", "[I", true)
  | 18 => ("IceOutModel", "planKind", "[I", true)
  | 19 => ("IceOutModel", "planCell", "[I", true)
  | 20 => ("IceOutModel", "markCell", "[I", true)
  | 21 => ("IceOutModel", "markLow", "[I", true)
  | 22 => ("IceOutModel", "markHigh", "[I", true)
  | 23 => ("IceOutModel", "run", "[I", true)
  | 24 => ("IceOutModel", "trial", "[I", true)
  | 25 => ("IceOutModel", "states", "[I", true)
  | 26 => ("IceOutModel", "version", "[I", true)
  | 27 => ("IceOutModel", "sort", "[I", true)
  | 28 => ("IceOutModel", "size", "[I", true)
  | 29 => ("IceOutModel", "elements", "[J", true)
  | 30 => ("IceOutModel", "cells", "I", false)
  | 31 => ("IceOutModel", "sea", "I", false)
  | 32 => ("IceOutModel", "crews", "I", false)
  | 33 => ("IceOutModel", "rules", "I", false)
  | 34 => ("IceOutModel", "plans", "I", false)
  | 35 => ("IceOutModel", "marks", "I", false)
  | 36 => ("IceOutModel", "refused", "I", false)
  | 37 => ("IceOutModel", "versions", "I", false)
  | 38 => ("IceOutModel", "thrown", "I", false)
  | 39 => ("IceOutModel", "waits", "[I", true)
  | 40 => ("IceOutModel", "stack", "[Z", true)
  | 41 => ("IceOutModel", "lost", "Z", false)
  | 42 => ("IceOutModel", "came", "[Z", true)
  | 43 => ("IceOutModel", "moved", "[I", true)
  | _ => ("IceOutModel", "jammed", "[I", true)
def tyX10 : Nat → FieldType := fun k => match k with
  | 0 => .array .int
  | 1 => .array .int
  | 2 => .array .int
  | 3 => .array .int
  | 4 => .array .int
  | 5 => .array .int
  | 6 => .array .int
  | 7 => .array .int
  | 8 => .array .int
  | 9 => .array .int
  | 10 => .array .boolean
  | 11 => .array .int
  | 12 => .array .int
  | 13 => .array .int
  | 14 => .array .int
  | 15 => .array .int
  | 16 => .array .int
  | 17 => .array .int
  | 18 => .array .int
  | 19 => .array .int
  | 20 => .array .int
  | 21 => .array .int
  | 22 => .array .int
  | 23 => .array .int
  | 24 => .array .int
  | 25 => .array .int
  | 26 => .array .int
  | 27 => .array .int
  | 28 => .array .int
  | 29 => .array .long
  | 30 => .int
  | 31 => .int
  | 32 => .int
  | 33 => .int
  | 34 => .int
  | 35 => .int
  | 36 => .int
  | 37 => .int
  | 38 => .int
  | 39 => .array .int
  | 40 => .array .boolean
  | 41 => .boolean
  | 42 => .array .boolean
  | 43 => .array .int
  | _ => .array .int
theorem nmX10 : ∀ a, a < 45 → ∀ b, b < 45 → a ≠ b → (TX10 a).2.1 ≠ (TX10 b).2.1 := by decide +kernel
theorem tyX10_ok : ∀ k, k < 45 → parseFieldDescriptor (TX10 k).2.2.1 = some (tyX10 k) := by decide +kernel
abbrev cX10_init : ByteArray := prog_12_method_1_code
def yX10_init : MethodName := ⟨RX10, "<init>", "()V"⟩
abbrev cX10_thrown : ByteArray := prog_12_method_2_code
def yX10_thrown : MethodName := ⟨RX10, "thrown", "()I"⟩
abbrev cX10_host : ByteArray := prog_12_method_3_code
def yX10_host : MethodName := ⟨RX10, "host", "(I)I"⟩
abbrev cX10_isIn : ByteArray := prog_12_method_4_code
def yX10_isIn : MethodName := ⟨RX10, "isIn", "(III)Z"⟩
abbrev cX10_isCell : ByteArray := prog_12_method_5_code
def yX10_isCell : MethodName := ⟨RX10, "isCell", "(I)Z"⟩
abbrev cX10_isTape : ByteArray := prog_12_method_6_code
def yX10_isTape : MethodName := ⟨RX10, "isTape", "(I)Z"⟩
abbrev cX10_f : ByteArray := prog_12_method_7_code
def yX10_f : MethodName := ⟨RX10, "f", "(II)I"⟩
abbrev cX10_begin : ByteArray := prog_12_method_8_code
def yX10_begin : MethodName := ⟨RX10, "begin", "(I)I"⟩
abbrev cX10_starts : ByteArray := prog_12_method_9_code
def yX10_starts : MethodName := ⟨RX10, "starts", "([I)V"⟩
abbrev cX10_level : ByteArray := prog_12_method_10_code
def yX10_level : MethodName := ⟨RX10, "level", "([II)I"⟩
abbrev cX10_fall : ByteArray := prog_12_method_11_code
def yX10_fall : MethodName := ⟨RX10, "fall", "([II)I"⟩
abbrev cX10_hasStarted : ByteArray := prog_12_method_12_code
def yX10_hasStarted : MethodName := ⟨RX10, "hasStarted", "()Z"⟩
abbrev cX10_told : ByteArray := prog_12_method_13_code
def yX10_told : MethodName := ⟨RX10, "told", "(I)I"⟩
abbrev cX10_cell : ByteArray := prog_12_method_14_code
def yX10_cell : MethodName := ⟨RX10, "cell", "(IIIII)I"⟩
abbrev cX10_keepsWaiting : ByteArray := prog_12_method_15_code
def yX10_keepsWaiting : MethodName := ⟨RX10, "keepsWaiting", "(I)I"⟩
abbrev cX10_fill : ByteArray := prog_12_method_16_code
def yX10_fill : MethodName := ⟨RX10, "fill", "(III)I"⟩
abbrev cX10_town : ByteArray := prog_12_method_17_code
def yX10_town : MethodName := ⟨RX10, "town", "(IIII)I"⟩
abbrev cX10_sea : ByteArray := prog_12_method_18_code
def yX10_sea : MethodName := ⟨RX10, "sea", "(I)I"⟩
abbrev cX10_wrongRow : ByteArray := prog_12_method_19_code
def yX10_wrongRow : MethodName := ⟨RX10, "wrongRow", "(II)I"⟩
abbrev cX10_weather : ByteArray := prog_12_method_20_code
def yX10_weather : MethodName := ⟨RX10, "weather", "(IIII)I"⟩
abbrev cX10_inflowAt : ByteArray := prog_12_method_21_code
def yX10_inflowAt : MethodName := ⟨RX10, "inflowAt", "(II)I"⟩
abbrev cX10_heatAt : ByteArray := prog_12_method_22_code
def yX10_heatAt : MethodName := ⟨RX10, "heatAt", "(II)I"⟩
abbrev cX10_gauge : ByteArray := prog_12_method_23_code
def yX10_gauge : MethodName := ⟨RX10, "gauge", "(II)I"⟩
abbrev cX10_eye : ByteArray := prog_12_method_24_code
def yX10_eye : MethodName := ⟨RX10, "eye", "(I)I"⟩
abbrev cX10_crews : ByteArray := prog_12_method_25_code
def yX10_crews : MethodName := ⟨RX10, "crews", "(I)I"⟩
abbrev cX10_isAct : ByteArray := prog_12_method_26_code
def yX10_isAct : MethodName := ⟨RX10, "isAct", "(II)Z"⟩
abbrev cX10_orders : ByteArray := prog_12_method_27_code
def yX10_orders : MethodName := ⟨RX10, "orders", "(I)I"⟩
abbrev cX10_word : ByteArray := prog_12_method_28_code
def yX10_word : MethodName := ⟨RX10, "word", "(II)I"⟩
abbrev cX10_rule : ByteArray := prog_12_method_29_code
def yX10_rule : MethodName := ⟨RX10, "rule", "(III)I"⟩
abbrev cX10_ruleless : ByteArray := prog_12_method_30_code
def yX10_ruleless : MethodName := ⟨RX10, "ruleless", "()I"⟩
abbrev cX10_known : ByteArray := prog_12_method_31_code
def yX10_known : MethodName := ⟨RX10, "known", "([IIII)I"⟩
abbrev cX10_newest : ByteArray := prog_12_method_32_code
def yX10_newest : MethodName := ⟨RX10, "newest", "([IIII)I"⟩
abbrev cX10_holdsAt : ByteArray := prog_12_method_33_code
def yX10_holdsAt : MethodName := ⟨RX10, "holdsAt", "([IIII)Z"⟩
abbrev cX10_comes : ByteArray := prog_12_method_34_code
def yX10_comes : MethodName := ⟨RX10, "comes", "([III)Z"⟩
abbrev cX10_act : ByteArray := prog_12_method_35_code
def yX10_act : MethodName := ⟨RX10, "act", "(II)I"⟩
abbrev cX10_takes : ByteArray := prog_12_method_36_code
def yX10_takes : MethodName := ⟨RX10, "takes", "([II)V"⟩
abbrev cX10_does : ByteArray := prog_12_method_37_code
def yX10_does : MethodName := ⟨RX10, "does", "([I)V"⟩
abbrev cX10_acts : ByteArray := prog_12_method_38_code
def yX10_acts : MethodName := ⟨RX10, "acts", "([III)V"⟩
abbrev cX10_breaks : ByteArray := prog_12_method_39_code
def yX10_breaks : MethodName := ⟨RX10, "breaks", "([II)V"⟩
abbrev cX10_goes : ByteArray := prog_12_method_40_code
def yX10_goes : MethodName := ⟨RX10, "goes", "([IIIIZ)V"⟩
abbrev cX10_flows : ByteArray := prog_12_method_41_code
def yX10_flows : MethodName := ⟨RX10, "flows", "([I)V"⟩
abbrev cX10_freezes : ByteArray := prog_12_method_42_code
def yX10_freezes : MethodName := ⟨RX10, "freezes", "([II)V"⟩
abbrev cX10_passesOn : ByteArray := prog_12_method_43_code
def yX10_passesOn : MethodName := ⟨RX10, "passesOn", "([III)I"⟩
abbrev cX10_drifts : ByteArray := prog_12_method_44_code
def yX10_drifts : MethodName := ⟨RX10, "drifts", "([I)V"⟩
abbrev cX10_letsGo : ByteArray := prog_12_method_45_code
def yX10_letsGo : MethodName := ⟨RX10, "letsGo", "([II)V"⟩
abbrev cX10_ends : ByteArray := prog_12_method_46_code
def yX10_ends : MethodName := ⟨RX10, "ends", "([II)V"⟩
abbrev cX10_run : ByteArray := prog_12_method_47_code
def yX10_run : MethodName := ⟨RX10, "run", "(I)I"⟩
abbrev cX10_again : ByteArray := prog_12_method_48_code
def yX10_again : MethodName := ⟨RX10, "again", "()I"⟩
abbrev cX10_now : ByteArray := prog_12_method_49_code
def yX10_now : MethodName := ⟨RX10, "now", "(II)I"⟩
abbrev cX10_crest : ByteArray := prog_12_method_50_code
def yX10_crest : MethodName := ⟨RX10, "crest", "(II)I"⟩
abbrev cX10_reading : ByteArray := prog_12_method_51_code
def yX10_reading : MethodName := ⟨RX10, "reading", "(III)I"⟩
abbrev cX10_mend : ByteArray := prog_12_method_52_code
def yX10_mend : MethodName := ⟨RX10, "mend", "(III)I"⟩
abbrev cX10_isRule : ByteArray := prog_12_method_53_code
def yX10_isRule : MethodName := ⟨RX10, "isRule", "(I)Z"⟩
abbrev cX10_holds : ByteArray := prog_12_method_54_code
def yX10_holds : MethodName := ⟨RX10, "holds", "(I)I"⟩
abbrev cX10_came : ByteArray := prog_12_method_55_code
def yX10_came : MethodName := ⟨RX10, "came", "(I)I"⟩
abbrev cX10_plan : ByteArray := prog_12_method_56_code
def yX10_plan : MethodName := ⟨RX10, "plan", "(III)I"⟩
abbrev cX10_planless : ByteArray := prog_12_method_57_code
def yX10_planless : MethodName := ⟨RX10, "planless", "()I"⟩
abbrev cX10_isSet : ByteArray := prog_12_method_58_code
def yX10_isSet : MethodName := ⟨RX10, "isSet", "(I)Z"⟩
abbrev cX10_harmOf : ByteArray := prog_12_method_59_code
def yX10_harmOf : MethodName := ⟨RX10, "harmOf", "(III)I"⟩
abbrev cX10_trial : ByteArray := prog_12_method_60_code
def yX10_trial : MethodName := ⟨RX10, "trial", "(III)I"⟩
abbrev cX10_worstOf : ByteArray := prog_12_method_61_code
def yX10_worstOf : MethodName := ⟨RX10, "worstOf", "(III)I"⟩
abbrev cX10_bits : ByteArray := prog_12_method_62_code
def yX10_bits : MethodName := ⟨RX10, "bits", "(I)I"⟩
abbrev cX10_best : ByteArray := prog_12_method_63_code
def yX10_best : MethodName := ⟨RX10, "best", "(II)I"⟩
abbrev cX10_worst : ByteArray := prog_12_method_64_code
def yX10_worst : MethodName := ⟨RX10, "worst", "(III)I"⟩
abbrev cX10_taken : ByteArray := prog_12_method_65_code
def yX10_taken : MethodName := ⟨RX10, "taken", "(I)I"⟩
abbrev cX10_mark : ByteArray := prog_12_method_66_code
def yX10_mark : MethodName := ⟨RX10, "mark", "(III)I"⟩
abbrev cX10_fits : ByteArray := prog_12_method_67_code
def yX10_fits : MethodName := ⟨RX10, "fits", "(II)I"⟩
abbrev cX10_tape : ByteArray := prog_12_method_68_code
def yX10_tape : MethodName := ⟨RX10, "tape", "(III)I"⟩
abbrev cX10_keep : ByteArray := prog_12_method_69_code
def yX10_keep : MethodName := ⟨RX10, "keep", "(I)I"⟩
abbrev cX10_wrongState : ByteArray := prog_12_method_70_code
def yX10_wrongState : MethodName := ⟨RX10, "wrongState", "(I)I"⟩
abbrev cX10_back : ByteArray := prog_12_method_71_code
def yX10_back : MethodName := ⟨RX10, "back", "(I)I"⟩
abbrev cX10_toss : ByteArray := prog_12_method_72_code
def yX10_toss : MethodName := ⟨RX10, "toss", "(I)I"⟩
abbrev cX10_clear : ByteArray := prog_12_method_73_code
def yX10_clear : MethodName := ⟨RX10, "clear", "(I)I"⟩
abbrev cX10_narrow : ByteArray := prog_12_method_74_code
def yX10_narrow : MethodName := ⟨RX10, "narrow", "(IJ)J"⟩
abbrev cX10_put : ByteArray := prog_12_method_75_code
def yX10_put : MethodName := ⟨RX10, "put", "(IIJ)I"⟩
abbrev cX10_at : ByteArray := prog_12_method_76_code
def yX10_at : MethodName := ⟨RX10, "at", "(II)J"⟩
abbrev cX10_copy : ByteArray := prog_12_method_77_code
def yX10_copy : MethodName := ⟨RX10, "copy", "(IIIII)I"⟩
abbrev cX10_count : ByteArray := prog_12_method_78_code
def yX10_count : MethodName := ⟨RX10, "count", "(I)I"⟩
def RJ6 : String := "java/lang/Integer"
abbrev cJ6_bitCount_0f7a4 : ByteArray := prog_16_method_49_code
def yJ6_bitCount_0f7a4 : MethodName := ⟨RJ6, "bitCount", "(I)I"⟩
def RJ9 : String := "java/lang/Math"
abbrev cJ9_max_7cf53 : ByteArray := prog_17_method_65_code
def yJ9_max_7cf53 : MethodName := ⟨RJ9, "max", "(II)I"⟩
abbrev cJ9_min_7cf53 : ByteArray := prog_17_method_69_code
def yJ9_min_7cf53 : MethodName := ⟨RJ9, "min", "(II)I"⟩
def RL : String := "IceOutLaw"
abbrev cL_at : ByteArray := method_3_code
def yL_at : MethodName := ⟨RL, "at", "(LIceOut;II[J)I"⟩
abbrev cL_law : ByteArray := code
def yL_law : MethodName := ⟨RL, "law", "([I)Z"⟩
abbrev vwCl : List vw_C := [(RX0, TX0, 4), (RX1, TX1, 7), (RX2, TX2, 4), (RX3, TX3, 14), (RX4, TX4, 7), (RX5, TX5, 20), (RX6, TX6, 4), (RX7, TX7, 5), (RX8, TX8, 3), (RX9, TX9, 11), (RX10, TX10, 45)]
