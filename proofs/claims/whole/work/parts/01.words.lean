-- ===== PART A: goes FIRST, ahead of the names: the tables' words, and 'selects' of the private methods out of them =====
/-- a private method of a class that the tables say can be made, by its rows of tables_1 -/
def lw_okq (q : MethodName × Nat) : Prop := (q.1.cls ≠ "java/lang/invoke/MethodHandle" ∧ q.1.cls ≠ "java/lang/invoke/VarHandle") ∧ Cond.instantiable q.1.cls q.2 ∈ tables_1 ∧ Cond.privateMethod q.1 ∈ tables_1 ∧ Cond.instanceMethod q.1 ∈ tables_1
theorem lw_p0 : lw_okq (⟨"MastLeft$Text", "readsClause", "()Z"⟩, 4) := ⟨⟨by decide +kernel, by decide +kernel⟩, List.mem_of_getElem? (i := 152) (by decide +kernel), List.mem_of_getElem? (i := 349) (by decide +kernel), List.mem_of_getElem? (i := 350) (by decide +kernel)⟩
theorem lw_p1 : lw_okq (⟨"MastLeft$Text", "takesWord", "()I"⟩, 4) := ⟨⟨by decide +kernel, by decide +kernel⟩, List.mem_of_getElem? (i := 152) (by decide +kernel), List.mem_of_getElem? (i := 353) (by decide +kernel), List.mem_of_getElem? (i := 354) (by decide +kernel)⟩
theorem lw_p2 : lw_okq (⟨"MastLeft$Text", "takes", "(I)Z"⟩, 4) := ⟨⟨by decide +kernel, by decide +kernel⟩, List.mem_of_getElem? (i := 152) (by decide +kernel), List.mem_of_getElem? (i := 399) (by decide +kernel), List.mem_of_getElem? (i := 400) (by decide +kernel)⟩
theorem lw_p3 : lw_okq (⟨"MastLeft$Text", "takesNumber", "()I"⟩, 4) := ⟨⟨by decide +kernel, by decide +kernel⟩, List.mem_of_getElem? (i := 152) (by decide +kernel), List.mem_of_getElem? (i := 403) (by decide +kernel), List.mem_of_getElem? (i := 404) (by decide +kernel)⟩
theorem lw_p4 : lw_okq (⟨"MastLeft$Text", "readsAny", "(I)Z"⟩, 4) := ⟨⟨by decide +kernel, by decide +kernel⟩, List.mem_of_getElem? (i := 152) (by decide +kernel), List.mem_of_getElem? (i := 407) (by decide +kernel), List.mem_of_getElem? (i := 408) (by decide +kernel)⟩
theorem lw_p5 : lw_okq (⟨"MastLeft$Text", "readsAll", "(I)Z"⟩, 4) := ⟨⟨by decide +kernel, by decide +kernel⟩, List.mem_of_getElem? (i := 152) (by decide +kernel), List.mem_of_getElem? (i := 411) (by decide +kernel), List.mem_of_getElem? (i := 412) (by decide +kernel)⟩
theorem lw_p6 : lw_okq (⟨"MastLeft$Text", "readsOne", "(I)Z"⟩, 4) := ⟨⟨by decide +kernel, by decide +kernel⟩, List.mem_of_getElem? (i := 152) (by decide +kernel), List.mem_of_getElem? (i := 415) (by decide +kernel), List.mem_of_getElem? (i := 416) (by decide +kernel)⟩
theorem lw_p7 : lw_okq (⟨"MastLeft", "bestRow", "(I)I"⟩, 15) := ⟨⟨by decide +kernel, by decide +kernel⟩, List.mem_of_getElem? (i := 17) (by decide +kernel), List.mem_of_getElem? (i := 558) (by decide +kernel), List.mem_of_getElem? (i := 559) (by decide +kernel)⟩
theorem lw_p8 : lw_okq (⟨"MastLeft", "worth", "(II)I"⟩, 15) := ⟨⟨by decide +kernel, by decide +kernel⟩, List.mem_of_getElem? (i := 17) (by decide +kernel), List.mem_of_getElem? (i := 562) (by decide +kernel), List.mem_of_getElem? (i := 563) (by decide +kernel)⟩
theorem lw_p9 : lw_okq (⟨"MastLeft", "fitting", "([IIII)I"⟩, 15) := ⟨⟨by decide +kernel, by decide +kernel⟩, List.mem_of_getElem? (i := 17) (by decide +kernel), List.mem_of_getElem? (i := 596) (by decide +kernel), List.mem_of_getElem? (i := 597) (by decide +kernel)⟩
theorem lw_p10 : lw_okq (⟨"MastLeft", "seenIsSo", "()Z"⟩, 15) := ⟨⟨by decide +kernel, by decide +kernel⟩, List.mem_of_getElem? (i := 17) (by decide +kernel), List.mem_of_getElem? (i := 600) (by decide +kernel), List.mem_of_getElem? (i := 601) (by decide +kernel)⟩
theorem lw_p11 : lw_okq (⟨"MastLeft", "followPlan", "(II)V"⟩, 15) := ⟨⟨by decide +kernel, by decide +kernel⟩, List.mem_of_getElem? (i := 17) (by decide +kernel), List.mem_of_getElem? (i := 629) (by decide +kernel), List.mem_of_getElem? (i := 630) (by decide +kernel)⟩
theorem lw_p12 : lw_okq (⟨"MastLeft$Acts", "run", "(IIII)I"⟩, 5) := ⟨⟨by decide +kernel, by decide +kernel⟩, List.mem_of_getElem? (i := 173) (by decide +kernel), List.mem_of_getElem? (i := 668) (by decide +kernel), List.mem_of_getElem? (i := 669) (by decide +kernel)⟩
theorem lw_p13 : lw_okq (⟨"MastLeftModel", "in", "(III)Z"⟩, 87) := ⟨⟨by decide +kernel, by decide +kernel⟩, List.mem_of_getElem? (i := 717) (by decide +kernel), List.mem_of_getElem? (i := 991) (by decide +kernel), List.mem_of_getElem? (i := 992) (by decide +kernel)⟩
theorem lw_p14 : lw_okq (⟨"MastLeftModel", "isPiece", "(I)Z"⟩, 87) := ⟨⟨by decide +kernel, by decide +kernel⟩, List.mem_of_getElem? (i := 717) (by decide +kernel), List.mem_of_getElem? (i := 999) (by decide +kernel), List.mem_of_getElem? (i := 1000) (by decide +kernel)⟩
theorem lw_p15 : lw_okq (⟨"MastLeftModel", "isFeet", "(I)Z"⟩, 87) := ⟨⟨by decide +kernel, by decide +kernel⟩, List.mem_of_getElem? (i := 717) (by decide +kernel), List.mem_of_getElem? (i := 1003) (by decide +kernel), List.mem_of_getElem? (i := 1004) (by decide +kernel)⟩
def lw_privs_1 : List (MethodName × Nat) := [(⟨"MastLeft$Text", "readsClause", "()Z"⟩, 4), (⟨"MastLeft$Text", "takesWord", "()I"⟩, 4), (⟨"MastLeft$Text", "takes", "(I)Z"⟩, 4), (⟨"MastLeft$Text", "takesNumber", "()I"⟩, 4), (⟨"MastLeft$Text", "readsAny", "(I)Z"⟩, 4), (⟨"MastLeft$Text", "readsAll", "(I)Z"⟩, 4), (⟨"MastLeft$Text", "readsOne", "(I)Z"⟩, 4), (⟨"MastLeft", "bestRow", "(I)I"⟩, 15), (⟨"MastLeft", "worth", "(II)I"⟩, 15), (⟨"MastLeft", "fitting", "([IIII)I"⟩, 15), (⟨"MastLeft", "seenIsSo", "()Z"⟩, 15), (⟨"MastLeft", "followPlan", "(II)V"⟩, 15), (⟨"MastLeft$Acts", "run", "(IIII)I"⟩, 5), (⟨"MastLeftModel", "in", "(III)Z"⟩, 87), (⟨"MastLeftModel", "isPiece", "(I)Z"⟩, 87), (⟨"MastLeftModel", "isFeet", "(I)Z"⟩, 87)]
theorem lw_r1 : ∀ q ∈ lw_privs_1, lw_okq q := List.forall_mem_cons.mpr ⟨lw_p0, List.forall_mem_cons.mpr ⟨lw_p1, List.forall_mem_cons.mpr ⟨lw_p2, List.forall_mem_cons.mpr ⟨lw_p3, List.forall_mem_cons.mpr ⟨lw_p4, List.forall_mem_cons.mpr ⟨lw_p5, List.forall_mem_cons.mpr ⟨lw_p6, List.forall_mem_cons.mpr ⟨lw_p7, List.forall_mem_cons.mpr ⟨lw_p8, List.forall_mem_cons.mpr ⟨lw_p9, List.forall_mem_cons.mpr ⟨lw_p10, List.forall_mem_cons.mpr ⟨lw_p11, List.forall_mem_cons.mpr ⟨lw_p12, List.forall_mem_cons.mpr ⟨lw_p13, List.forall_mem_cons.mpr ⟨lw_p14, List.forall_mem_cons.mpr ⟨lw_p15, fun _ h => absurd h List.not_mem_nil⟩⟩⟩⟩⟩⟩⟩⟩⟩⟩⟩⟩⟩⟩⟩⟩
theorem lw_p16 : lw_okq (⟨"MastLeftModel", "placeOf", "(I)I"⟩, 87) := ⟨⟨by decide +kernel, by decide +kernel⟩, List.mem_of_getElem? (i := 717) (by decide +kernel), List.mem_of_getElem? (i := 1015) (by decide +kernel), List.mem_of_getElem? (i := 1016) (by decide +kernel)⟩
theorem lw_p17 : lw_okq (⟨"MastLeftModel", "hoists", "(I)V"⟩, 87) := ⟨⟨by decide +kernel, by decide +kernel⟩, List.mem_of_getElem? (i := 717) (by decide +kernel), List.mem_of_getElem? (i := 1019) (by decide +kernel), List.mem_of_getElem? (i := 1020) (by decide +kernel)⟩
theorem lw_p18 : lw_okq (⟨"MastLeftModel", "isTrim", "(I)Z"⟩, 87) := ⟨⟨by decide +kernel, by decide +kernel⟩, List.mem_of_getElem? (i := 717) (by decide +kernel), List.mem_of_getElem? (i := 1031) (by decide +kernel), List.mem_of_getElem? (i := 1032) (by decide +kernel)⟩
theorem lw_p19 : lw_okq (⟨"MastLeftModel", "goesText", "(I)Z"⟩, 87) := ⟨⟨by decide +kernel, by decide +kernel⟩, List.mem_of_getElem? (i := 717) (by decide +kernel), List.mem_of_getElem? (i := 1043) (by decide +kernel), List.mem_of_getElem? (i := 1044) (by decide +kernel)⟩
theorem lw_p20 : lw_okq (⟨"MastLeftModel", "takesClause", "(I)Z"⟩, 87) := ⟨⟨by decide +kernel, by decide +kernel⟩, List.mem_of_getElem? (i := 717) (by decide +kernel), List.mem_of_getElem? (i := 1047) (by decide +kernel), List.mem_of_getElem? (i := 1048) (by decide +kernel)⟩
theorem lw_p21 : lw_okq (⟨"MastLeftModel", "takesHead", "(I)Z"⟩, 87) := ⟨⟨by decide +kernel, by decide +kernel⟩, List.mem_of_getElem? (i := 717) (by decide +kernel), List.mem_of_getElem? (i := 1051) (by decide +kernel), List.mem_of_getElem? (i := 1052) (by decide +kernel)⟩
theorem lw_p22 : lw_okq (⟨"MastLeftModel", "next", "()I"⟩, 87) := ⟨⟨by decide +kernel, by decide +kernel⟩, List.mem_of_getElem? (i := 717) (by decide +kernel), List.mem_of_getElem? (i := 1055) (by decide +kernel), List.mem_of_getElem? (i := 1056) (by decide +kernel)⟩
theorem lw_p23 : lw_okq (⟨"MastLeftModel", "takesWord", "(II)Z"⟩, 87) := ⟨⟨by decide +kernel, by decide +kernel⟩, List.mem_of_getElem? (i := 717) (by decide +kernel), List.mem_of_getElem? (i := 1059) (by decide +kernel), List.mem_of_getElem? (i := 1060) (by decide +kernel)⟩
theorem lw_p24 : lw_okq (⟨"MastLeftModel", "takes", "(I)Z"⟩, 87) := ⟨⟨by decide +kernel, by decide +kernel⟩, List.mem_of_getElem? (i := 717) (by decide +kernel), List.mem_of_getElem? (i := 1063) (by decide +kernel), List.mem_of_getElem? (i := 1064) (by decide +kernel)⟩
theorem lw_p25 : lw_okq (⟨"MastLeftModel", "second", "()I"⟩, 87) := ⟨⟨by decide +kernel, by decide +kernel⟩, List.mem_of_getElem? (i := 717) (by decide +kernel), List.mem_of_getElem? (i := 1067) (by decide +kernel), List.mem_of_getElem? (i := 1068) (by decide +kernel)⟩
theorem lw_p26 : lw_okq (⟨"MastLeftModel", "takesNumber", "()Z"⟩, 87) := ⟨⟨by decide +kernel, by decide +kernel⟩, List.mem_of_getElem? (i := 717) (by decide +kernel), List.mem_of_getElem? (i := 1071) (by decide +kernel), List.mem_of_getElem? (i := 1072) (by decide +kernel)⟩
theorem lw_p27 : lw_okq (⟨"MastLeftModel", "isDigit", "()Z"⟩, 87) := ⟨⟨by decide +kernel, by decide +kernel⟩, List.mem_of_getElem? (i := 717) (by decide +kernel), List.mem_of_getElem? (i := 1075) (by decide +kernel), List.mem_of_getElem? (i := 1076) (by decide +kernel)⟩
theorem lw_p28 : lw_okq (⟨"MastLeftModel", "takesE", "(I)Z"⟩, 87) := ⟨⟨by decide +kernel, by decide +kernel⟩, List.mem_of_getElem? (i := 717) (by decide +kernel), List.mem_of_getElem? (i := 1079) (by decide +kernel), List.mem_of_getElem? (i := 1080) (by decide +kernel)⟩
theorem lw_p29 : lw_okq (⟨"MastLeftModel", "takesTest", "()Z"⟩, 87) := ⟨⟨by decide +kernel, by decide +kernel⟩, List.mem_of_getElem? (i := 717) (by decide +kernel), List.mem_of_getElem? (i := 1083) (by decide +kernel), List.mem_of_getElem? (i := 1084) (by decide +kernel)⟩
theorem lw_p30 : lw_okq (⟨"MastLeftModel", "place", "(I)I"⟩, 87) := ⟨⟨by decide +kernel, by decide +kernel⟩, List.mem_of_getElem? (i := 717) (by decide +kernel), List.mem_of_getElem? (i := 1087) (by decide +kernel), List.mem_of_getElem? (i := 1088) (by decide +kernel)⟩
theorem lw_p31 : lw_okq (⟨"MastLeftModel", "emits", "(I)V"⟩, 87) := ⟨⟨by decide +kernel, by decide +kernel⟩, List.mem_of_getElem? (i := 717) (by decide +kernel), List.mem_of_getElem? (i := 1091) (by decide +kernel), List.mem_of_getElem? (i := 1092) (by decide +kernel)⟩
def lw_privs_2 : List (MethodName × Nat) := [(⟨"MastLeftModel", "placeOf", "(I)I"⟩, 87), (⟨"MastLeftModel", "hoists", "(I)V"⟩, 87), (⟨"MastLeftModel", "isTrim", "(I)Z"⟩, 87), (⟨"MastLeftModel", "goesText", "(I)Z"⟩, 87), (⟨"MastLeftModel", "takesClause", "(I)Z"⟩, 87), (⟨"MastLeftModel", "takesHead", "(I)Z"⟩, 87), (⟨"MastLeftModel", "next", "()I"⟩, 87), (⟨"MastLeftModel", "takesWord", "(II)Z"⟩, 87), (⟨"MastLeftModel", "takes", "(I)Z"⟩, 87), (⟨"MastLeftModel", "second", "()I"⟩, 87), (⟨"MastLeftModel", "takesNumber", "()Z"⟩, 87), (⟨"MastLeftModel", "isDigit", "()Z"⟩, 87), (⟨"MastLeftModel", "takesE", "(I)Z"⟩, 87), (⟨"MastLeftModel", "takesTest", "()Z"⟩, 87), (⟨"MastLeftModel", "place", "(I)I"⟩, 87), (⟨"MastLeftModel", "emits", "(I)V"⟩, 87)]
theorem lw_r2 : ∀ q ∈ lw_privs_2, lw_okq q := List.forall_mem_cons.mpr ⟨lw_p16, List.forall_mem_cons.mpr ⟨lw_p17, List.forall_mem_cons.mpr ⟨lw_p18, List.forall_mem_cons.mpr ⟨lw_p19, List.forall_mem_cons.mpr ⟨lw_p20, List.forall_mem_cons.mpr ⟨lw_p21, List.forall_mem_cons.mpr ⟨lw_p22, List.forall_mem_cons.mpr ⟨lw_p23, List.forall_mem_cons.mpr ⟨lw_p24, List.forall_mem_cons.mpr ⟨lw_p25, List.forall_mem_cons.mpr ⟨lw_p26, List.forall_mem_cons.mpr ⟨lw_p27, List.forall_mem_cons.mpr ⟨lw_p28, List.forall_mem_cons.mpr ⟨lw_p29, List.forall_mem_cons.mpr ⟨lw_p30, List.forall_mem_cons.mpr ⟨lw_p31, fun _ h => absurd h List.not_mem_nil⟩⟩⟩⟩⟩⟩⟩⟩⟩⟩⟩⟩⟩⟩⟩⟩
theorem lw_p32 : lw_okq (⟨"MastLeftModel", "whole", "()V"⟩, 87) := ⟨⟨by decide +kernel, by decide +kernel⟩, List.mem_of_getElem? (i := 717) (by decide +kernel), List.mem_of_getElem? (i := 1095) (by decide +kernel), List.mem_of_getElem? (i := 1096) (by decide +kernel)⟩
theorem lw_p33 : lw_okq (⟨"MastLeftModel", "settle", "(I)V"⟩, 87) := ⟨⟨by decide +kernel, by decide +kernel⟩, List.mem_of_getElem? (i := 717) (by decide +kernel), List.mem_of_getElem? (i := 1099) (by decide +kernel), List.mem_of_getElem? (i := 1100) (by decide +kernel)⟩
theorem lw_p34 : lw_okq (⟨"MastLeftModel", "heart", "(I)I"⟩, 87) := ⟨⟨by decide +kernel, by decide +kernel⟩, List.mem_of_getElem? (i := 717) (by decide +kernel), List.mem_of_getElem? (i := 1107) (by decide +kernel), List.mem_of_getElem? (i := 1108) (by decide +kernel)⟩
theorem lw_p35 : lw_okq (⟨"MastLeftModel", "begin", "()I"⟩, 87) := ⟨⟨by decide +kernel, by decide +kernel⟩, List.mem_of_getElem? (i := 717) (by decide +kernel), List.mem_of_getElem? (i := 1111) (by decide +kernel), List.mem_of_getElem? (i := 1112) (by decide +kernel)⟩
theorem lw_p36 : lw_okq (⟨"MastLeftModel", "behind", "()I"⟩, 87) := ⟨⟨by decide +kernel, by decide +kernel⟩, List.mem_of_getElem? (i := 717) (by decide +kernel), List.mem_of_getElem? (i := 1115) (by decide +kernel), List.mem_of_getElem? (i := 1116) (by decide +kernel)⟩
theorem lw_p37 : lw_okq (⟨"MastLeftModel", "holds", "(II)Z"⟩, 87) := ⟨⟨by decide +kernel, by decide +kernel⟩, List.mem_of_getElem? (i := 717) (by decide +kernel), List.mem_of_getElem? (i := 1119) (by decide +kernel), List.mem_of_getElem? (i := 1120) (by decide +kernel)⟩
theorem lw_p38 : lw_okq (⟨"MastLeftModel", "factOf", "(II)I"⟩, 87) := ⟨⟨by decide +kernel, by decide +kernel⟩, List.mem_of_getElem? (i := 717) (by decide +kernel), List.mem_of_getElem? (i := 1123) (by decide +kernel), List.mem_of_getElem? (i := 1124) (by decide +kernel)⟩
theorem lw_p39 : lw_okq (⟨"MastLeftModel", "strength", "(I)I"⟩, 87) := ⟨⟨by decide +kernel, by decide +kernel⟩, List.mem_of_getElem? (i := 717) (by decide +kernel), List.mem_of_getElem? (i := 1127) (by decide +kernel), List.mem_of_getElem? (i := 1128) (by decide +kernel)⟩
theorem lw_p40 : lw_okq (⟨"MastLeftModel", "least0", "(I)I"⟩, 87) := ⟨⟨by decide +kernel, by decide +kernel⟩, List.mem_of_getElem? (i := 717) (by decide +kernel), List.mem_of_getElem? (i := 1131) (by decide +kernel), List.mem_of_getElem? (i := 1132) (by decide +kernel)⟩
theorem lw_p41 : lw_okq (⟨"MastLeftModel", "above", "(I)I"⟩, 87) := ⟨⟨by decide +kernel, by decide +kernel⟩, List.mem_of_getElem? (i := 717) (by decide +kernel), List.mem_of_getElem? (i := 1135) (by decide +kernel), List.mem_of_getElem? (i := 1136) (by decide +kernel)⟩
theorem lw_p42 : lw_okq (⟨"MastLeftModel", "lastOf", "(II)I"⟩, 87) := ⟨⟨by decide +kernel, by decide +kernel⟩, List.mem_of_getElem? (i := 717) (by decide +kernel), List.mem_of_getElem? (i := 1139) (by decide +kernel), List.mem_of_getElem? (i := 1140) (by decide +kernel)⟩
theorem lw_p43 : lw_okq (⟨"MastLeftModel", "load", "(I)I"⟩, 87) := ⟨⟨by decide +kernel, by decide +kernel⟩, List.mem_of_getElem? (i := 717) (by decide +kernel), List.mem_of_getElem? (i := 1143) (by decide +kernel), List.mem_of_getElem? (i := 1144) (by decide +kernel)⟩
theorem lw_p44 : lw_okq (⟨"MastLeftModel", "height", "()I"⟩, 87) := ⟨⟨by decide +kernel, by decide +kernel⟩, List.mem_of_getElem? (i := 717) (by decide +kernel), List.mem_of_getElem? (i := 1151) (by decide +kernel), List.mem_of_getElem? (i := 1152) (by decide +kernel)⟩
theorem lw_p45 : lw_okq (⟨"MastLeftModel", "milesNow", "()I"⟩, 87) := ⟨⟨by decide +kernel, by decide +kernel⟩, List.mem_of_getElem? (i := 717) (by decide +kernel), List.mem_of_getElem? (i := 1155) (by decide +kernel), List.mem_of_getElem? (i := 1156) (by decide +kernel)⟩
theorem lw_p46 : lw_okq (⟨"MastLeftModel", "isDays", "(I)Z"⟩, 87) := ⟨⟨by decide +kernel, by decide +kernel⟩, List.mem_of_getElem? (i := 717) (by decide +kernel), List.mem_of_getElem? (i := 1163) (by decide +kernel), List.mem_of_getElem? (i := 1164) (by decide +kernel)⟩
theorem lw_p47 : lw_okq (⟨"MastLeftModel", "goDays", "(I)V"⟩, 87) := ⟨⟨by decide +kernel, by decide +kernel⟩, List.mem_of_getElem? (i := 717) (by decide +kernel), List.mem_of_getElem? (i := 1167) (by decide +kernel), List.mem_of_getElem? (i := 1168) (by decide +kernel)⟩
def lw_privs_3 : List (MethodName × Nat) := [(⟨"MastLeftModel", "whole", "()V"⟩, 87), (⟨"MastLeftModel", "settle", "(I)V"⟩, 87), (⟨"MastLeftModel", "heart", "(I)I"⟩, 87), (⟨"MastLeftModel", "begin", "()I"⟩, 87), (⟨"MastLeftModel", "behind", "()I"⟩, 87), (⟨"MastLeftModel", "holds", "(II)Z"⟩, 87), (⟨"MastLeftModel", "factOf", "(II)I"⟩, 87), (⟨"MastLeftModel", "strength", "(I)I"⟩, 87), (⟨"MastLeftModel", "least0", "(I)I"⟩, 87), (⟨"MastLeftModel", "above", "(I)I"⟩, 87), (⟨"MastLeftModel", "lastOf", "(II)I"⟩, 87), (⟨"MastLeftModel", "load", "(I)I"⟩, 87), (⟨"MastLeftModel", "height", "()I"⟩, 87), (⟨"MastLeftModel", "milesNow", "()I"⟩, 87), (⟨"MastLeftModel", "isDays", "(I)Z"⟩, 87), (⟨"MastLeftModel", "goDays", "(I)V"⟩, 87)]
theorem lw_r3 : ∀ q ∈ lw_privs_3, lw_okq q := List.forall_mem_cons.mpr ⟨lw_p32, List.forall_mem_cons.mpr ⟨lw_p33, List.forall_mem_cons.mpr ⟨lw_p34, List.forall_mem_cons.mpr ⟨lw_p35, List.forall_mem_cons.mpr ⟨lw_p36, List.forall_mem_cons.mpr ⟨lw_p37, List.forall_mem_cons.mpr ⟨lw_p38, List.forall_mem_cons.mpr ⟨lw_p39, List.forall_mem_cons.mpr ⟨lw_p40, List.forall_mem_cons.mpr ⟨lw_p41, List.forall_mem_cons.mpr ⟨lw_p42, List.forall_mem_cons.mpr ⟨lw_p43, List.forall_mem_cons.mpr ⟨lw_p44, List.forall_mem_cons.mpr ⟨lw_p45, List.forall_mem_cons.mpr ⟨lw_p46, List.forall_mem_cons.mpr ⟨lw_p47, fun _ h => absurd h List.not_mem_nil⟩⟩⟩⟩⟩⟩⟩⟩⟩⟩⟩⟩⟩⟩⟩⟩
theorem lw_p48 : lw_okq (⟨"MastLeftModel", "goDay", "()I"⟩, 87) := ⟨⟨by decide +kernel, by decide +kernel⟩, List.mem_of_getElem? (i := 717) (by decide +kernel), List.mem_of_getElem? (i := 1171) (by decide +kernel), List.mem_of_getElem? (i := 1172) (by decide +kernel)⟩
theorem lw_p49 : lw_okq (⟨"MastLeftModel", "breaksAt", "()I"⟩, 87) := ⟨⟨by decide +kernel, by decide +kernel⟩, List.mem_of_getElem? (i := 717) (by decide +kernel), List.mem_of_getElem? (i := 1175) (by decide +kernel), List.mem_of_getElem? (i := 1176) (by decide +kernel)⟩
theorem lw_p50 : lw_okq (⟨"MastLeftModel", "goWear", "()V"⟩, 87) := ⟨⟨by decide +kernel, by decide +kernel⟩, List.mem_of_getElem? (i := 717) (by decide +kernel), List.mem_of_getElem? (i := 1179) (by decide +kernel), List.mem_of_getElem? (i := 1180) (by decide +kernel)⟩
theorem lw_p51 : lw_okq (⟨"MastLeftModel", "least", "(II)I"⟩, 87) := ⟨⟨by decide +kernel, by decide +kernel⟩, List.mem_of_getElem? (i := 717) (by decide +kernel), List.mem_of_getElem? (i := 1183) (by decide +kernel), List.mem_of_getElem? (i := 1184) (by decide +kernel)⟩
theorem lw_p52 : lw_okq (⟨"MastLeftModel", "save", "()V"⟩, 87) := ⟨⟨by decide +kernel, by decide +kernel⟩, List.mem_of_getElem? (i := 717) (by decide +kernel), List.mem_of_getElem? (i := 1191) (by decide +kernel), List.mem_of_getElem? (i := 1192) (by decide +kernel)⟩
theorem lw_p53 : lw_okq (⟨"MastLeftModel", "putBack", "()V"⟩, 87) := ⟨⟨by decide +kernel, by decide +kernel⟩, List.mem_of_getElem? (i := 717) (by decide +kernel), List.mem_of_getElem? (i := 1196) (by decide +kernel), List.mem_of_getElem? (i := 1197) (by decide +kernel)⟩
theorem lw_p54 : lw_okq (⟨"MastLeftModel", "firstThen", "(I)I"⟩, 87) := ⟨⟨by decide +kernel, by decide +kernel⟩, List.mem_of_getElem? (i := 717) (by decide +kernel), List.mem_of_getElem? (i := 1204) (by decide +kernel), List.mem_of_getElem? (i := 1205) (by decide +kernel)⟩
theorem lw_p55 : lw_okq (⟨"MastLeftModel", "wentThen", "(I)I"⟩, 87) := ⟨⟨by decide +kernel, by decide +kernel⟩, List.mem_of_getElem? (i := 717) (by decide +kernel), List.mem_of_getElem? (i := 1216) (by decide +kernel), List.mem_of_getElem? (i := 1217) (by decide +kernel)⟩
theorem lw_p56 : lw_okq (⟨"MastLeftModel", "layBest", "(I)V"⟩, 87) := ⟨⟨by decide +kernel, by decide +kernel⟩, List.mem_of_getElem? (i := 717) (by decide +kernel), List.mem_of_getElem? (i := 1228) (by decide +kernel), List.mem_of_getElem? (i := 1229) (by decide +kernel)⟩
theorem lw_p57 : lw_okq (⟨"MastLeftModel", "tries", "(IIIII)V"⟩, 87) := ⟨⟨by decide +kernel, by decide +kernel⟩, List.mem_of_getElem? (i := 717) (by decide +kernel), List.mem_of_getElem? (i := 1232) (by decide +kernel), List.mem_of_getElem? (i := 1233) (by decide +kernel)⟩
theorem lw_p58 : lw_okq (⟨"MastLeftModel", "layOrder", "(I)Z"⟩, 87) := ⟨⟨by decide +kernel, by decide +kernel⟩, List.mem_of_getElem? (i := 717) (by decide +kernel), List.mem_of_getElem? (i := 1240) (by decide +kernel), List.mem_of_getElem? (i := 1241) (by decide +kernel)⟩
theorem lw_p59 : lw_okq (⟨"MastLeftModel", "isSeen", "()Z"⟩, 87) := ⟨⟨by decide +kernel, by decide +kernel⟩, List.mem_of_getElem? (i := 717) (by decide +kernel), List.mem_of_getElem? (i := 1252) (by decide +kernel), List.mem_of_getElem? (i := 1253) (by decide +kernel)⟩
theorem lw_p60 : lw_okq (⟨"MastLeftModel", "lowest", "(III)J"⟩, 87) := ⟨⟨by decide +kernel, by decide +kernel⟩, List.mem_of_getElem? (i := 717) (by decide +kernel), List.mem_of_getElem? (i := 1265) (by decide +kernel), List.mem_of_getElem? (i := 1266) (by decide +kernel)⟩
theorem lw_p61 : lw_okq (⟨"MastLeftModel", "divisor", "(II)I"⟩, 87) := ⟨⟨by decide +kernel, by decide +kernel⟩, List.mem_of_getElem? (i := 717) (by decide +kernel), List.mem_of_getElem? (i := 1269) (by decide +kernel), List.mem_of_getElem? (i := 1270) (by decide +kernel)⟩
theorem lw_p62 : lw_okq (⟨"MastLeftModel", "goPlan", "(II)V"⟩, 87) := ⟨⟨by decide +kernel, by decide +kernel⟩, List.mem_of_getElem? (i := 717) (by decide +kernel), List.mem_of_getElem? (i := 1285) (by decide +kernel), List.mem_of_getElem? (i := 1286) (by decide +kernel)⟩
theorem lw_p63 : lw_okq (⟨"MastLeftModel", "isTape", "(I)Z"⟩, 87) := ⟨⟨by decide +kernel, by decide +kernel⟩, List.mem_of_getElem? (i := 717) (by decide +kernel), List.mem_of_getElem? (i := 1301) (by decide +kernel), List.mem_of_getElem? (i := 1302) (by decide +kernel)⟩
def lw_privs_4 : List (MethodName × Nat) := [(⟨"MastLeftModel", "goDay", "()I"⟩, 87), (⟨"MastLeftModel", "breaksAt", "()I"⟩, 87), (⟨"MastLeftModel", "goWear", "()V"⟩, 87), (⟨"MastLeftModel", "least", "(II)I"⟩, 87), (⟨"MastLeftModel", "save", "()V"⟩, 87), (⟨"MastLeftModel", "putBack", "()V"⟩, 87), (⟨"MastLeftModel", "firstThen", "(I)I"⟩, 87), (⟨"MastLeftModel", "wentThen", "(I)I"⟩, 87), (⟨"MastLeftModel", "layBest", "(I)V"⟩, 87), (⟨"MastLeftModel", "tries", "(IIIII)V"⟩, 87), (⟨"MastLeftModel", "layOrder", "(I)Z"⟩, 87), (⟨"MastLeftModel", "isSeen", "()Z"⟩, 87), (⟨"MastLeftModel", "lowest", "(III)J"⟩, 87), (⟨"MastLeftModel", "divisor", "(II)I"⟩, 87), (⟨"MastLeftModel", "goPlan", "(II)V"⟩, 87), (⟨"MastLeftModel", "isTape", "(I)Z"⟩, 87)]
theorem lw_r4 : ∀ q ∈ lw_privs_4, lw_okq q := List.forall_mem_cons.mpr ⟨lw_p48, List.forall_mem_cons.mpr ⟨lw_p49, List.forall_mem_cons.mpr ⟨lw_p50, List.forall_mem_cons.mpr ⟨lw_p51, List.forall_mem_cons.mpr ⟨lw_p52, List.forall_mem_cons.mpr ⟨lw_p53, List.forall_mem_cons.mpr ⟨lw_p54, List.forall_mem_cons.mpr ⟨lw_p55, List.forall_mem_cons.mpr ⟨lw_p56, List.forall_mem_cons.mpr ⟨lw_p57, List.forall_mem_cons.mpr ⟨lw_p58, List.forall_mem_cons.mpr ⟨lw_p59, List.forall_mem_cons.mpr ⟨lw_p60, List.forall_mem_cons.mpr ⟨lw_p61, List.forall_mem_cons.mpr ⟨lw_p62, List.forall_mem_cons.mpr ⟨lw_p63, fun _ h => absurd h List.not_mem_nil⟩⟩⟩⟩⟩⟩⟩⟩⟩⟩⟩⟩⟩⟩⟩⟩
theorem lw_p64 : lw_okq (⟨"MastLeftModel", "bendsAct", "(II)I"⟩, 87) := ⟨⟨by decide +kernel, by decide +kernel⟩, List.mem_of_getElem? (i := 717) (by decide +kernel), List.mem_of_getElem? (i := 1317) (by decide +kernel), List.mem_of_getElem? (i := 1318) (by decide +kernel)⟩
theorem lw_p65 : lw_okq (⟨"MastLeftModel", "body", "(I)V"⟩, 87) := ⟨⟨by decide +kernel, by decide +kernel⟩, List.mem_of_getElem? (i := 717) (by decide +kernel), List.mem_of_getElem? (i := 1321) (by decide +kernel), List.mem_of_getElem? (i := 1322) (by decide +kernel)⟩
theorem lw_p66 : lw_okq (⟨"MastLeftModel", "pieceBends", "(II)I"⟩, 87) := ⟨⟨by decide +kernel, by decide +kernel⟩, List.mem_of_getElem? (i := 717) (by decide +kernel), List.mem_of_getElem? (i := 1325) (by decide +kernel), List.mem_of_getElem? (i := 1326) (by decide +kernel)⟩
theorem lw_p67 : lw_okq (⟨"MastLeftModel", "holdsAct", "(II)I"⟩, 87) := ⟨⟨by decide +kernel, by decide +kernel⟩, List.mem_of_getElem? (i := 717) (by decide +kernel), List.mem_of_getElem? (i := 1329) (by decide +kernel), List.mem_of_getElem? (i := 1330) (by decide +kernel)⟩
theorem lw_p68 : lw_okq (⟨"MastLeftModel", "oarHolds", "(II)I"⟩, 87) := ⟨⟨by decide +kernel, by decide +kernel⟩, List.mem_of_getElem? (i := 717) (by decide +kernel), List.mem_of_getElem? (i := 1333) (by decide +kernel), List.mem_of_getElem? (i := 1334) (by decide +kernel)⟩
theorem lw_p69 : lw_okq (⟨"MastLeftModel", "pieceHolds", "(II)I"⟩, 87) := ⟨⟨by decide +kernel, by decide +kernel⟩, List.mem_of_getElem? (i := 717) (by decide +kernel), List.mem_of_getElem? (i := 1337) (by decide +kernel), List.mem_of_getElem? (i := 1338) (by decide +kernel)⟩
theorem lw_p70 : lw_okq (⟨"MastLeftModel", "tellsAct", "(II)I"⟩, 87) := ⟨⟨by decide +kernel, by decide +kernel⟩, List.mem_of_getElem? (i := 717) (by decide +kernel), List.mem_of_getElem? (i := 1341) (by decide +kernel), List.mem_of_getElem? (i := 1342) (by decide +kernel)⟩
theorem lw_p71 : lw_okq (⟨"MastLeftModel", "pieceTells", "(II)I"⟩, 87) := ⟨⟨by decide +kernel, by decide +kernel⟩, List.mem_of_getElem? (i := 717) (by decide +kernel), List.mem_of_getElem? (i := 1345) (by decide +kernel), List.mem_of_getElem? (i := 1346) (by decide +kernel)⟩
theorem lw_p72 : lw_okq (⟨"MastLeftModel", "narrow", "(IJ)J"⟩, 87) := ⟨⟨by decide +kernel, by decide +kernel⟩, List.mem_of_getElem? (i := 717) (by decide +kernel), List.mem_of_getElem? (i := 1369) (by decide +kernel), List.mem_of_getElem? (i := 1370) (by decide +kernel)⟩
def lw_privs_5 : List (MethodName × Nat) := [(⟨"MastLeftModel", "bendsAct", "(II)I"⟩, 87), (⟨"MastLeftModel", "body", "(I)V"⟩, 87), (⟨"MastLeftModel", "pieceBends", "(II)I"⟩, 87), (⟨"MastLeftModel", "holdsAct", "(II)I"⟩, 87), (⟨"MastLeftModel", "oarHolds", "(II)I"⟩, 87), (⟨"MastLeftModel", "pieceHolds", "(II)I"⟩, 87), (⟨"MastLeftModel", "tellsAct", "(II)I"⟩, 87), (⟨"MastLeftModel", "pieceTells", "(II)I"⟩, 87), (⟨"MastLeftModel", "narrow", "(IJ)J"⟩, 87)]
theorem lw_r5 : ∀ q ∈ lw_privs_5, lw_okq q := List.forall_mem_cons.mpr ⟨lw_p64, List.forall_mem_cons.mpr ⟨lw_p65, List.forall_mem_cons.mpr ⟨lw_p66, List.forall_mem_cons.mpr ⟨lw_p67, List.forall_mem_cons.mpr ⟨lw_p68, List.forall_mem_cons.mpr ⟨lw_p69, List.forall_mem_cons.mpr ⟨lw_p70, List.forall_mem_cons.mpr ⟨lw_p71, List.forall_mem_cons.mpr ⟨lw_p72, fun _ h => absurd h List.not_mem_nil⟩⟩⟩⟩⟩⟩⟩⟩⟩
def lw_privs : List (MethodName × Nat) := lw_privs_1 ++ (lw_privs_2 ++ (lw_privs_3 ++ (lw_privs_4 ++ (lw_privs_5))))
def lw_tbl : List Cond := k2_sels lw_privs ++ tables_1
theorem lw_privs_ok : ∀ q ∈ lw_privs, lw_okq q := by
  show ∀ q ∈ lw_privs_1 ++ (lw_privs_2 ++ (lw_privs_3 ++ (lw_privs_4 ++ (lw_privs_5)))), lw_okq q
  exact List.forall_mem_append.mpr ⟨lw_r1, List.forall_mem_append.mpr ⟨lw_r2, List.forall_mem_append.mpr ⟨lw_r3, List.forall_mem_append.mpr ⟨lw_r4, lw_r5⟩⟩⟩⟩
-- ===== end of PART A; then your names; then what follows =====
def RX0 : String := "MastLeft$Acts"
def TX0 : u_T := fun k => match k with
  | 0 => ("MastLeft$Acts", "bodies", "[I", true)
  | 1 => ("MastLeft$Acts", "ran", "I", false)
  | 2 => ("MastLeft$Acts", "kind", "I", false)
  | 3 => ("MastLeft$Acts", "number", "I", false)
  | _ => ("MastLeft$Acts", "v", "I", false)
def tyX0 : Nat → FieldType := fun k => match k with
  | 0 => .array .int
  | 1 => .int
  | 2 => .int
  | 3 => .int
  | _ => .int
abbrev wsX00 : List Cond := u_ws RX0 TX0 5
theorem nmX0 : ∀ a, a < 5 → ∀ b, b < 5 → a ≠ b → (TX0 a).2.1 ≠ (TX0 b).2.1 := by decide +kernel
theorem tyX0_ok : ∀ k, k < 5 → parseFieldDescriptor (TX0 k).2.2.1 = some (tyX0 k) := by decide +kernel
abbrev cX0_init : ByteArray := prog_2_method_1_code
def yX0_init : MethodName := ⟨RX0, "<init>", "()V"⟩
abbrev cX0_start : ByteArray := prog_2_method_2_code
def yX0_start : MethodName := ⟨RX0, "start", "(IIIII)I"⟩
abbrev cX0_run : ByteArray := prog_2_method_3_code
def yX0_run : MethodName := ⟨RX0, "run", "(IIII)I"⟩
abbrev cX0_ownerOf : ByteArray := prog_2_method_4_code
def yX0_ownerOf : MethodName := ⟨RX0, "ownerOf", "(II)I"⟩
def RX1 : String := "MastLeft$Deck"
def TX1 : u_T := fun k => match k with
  | 0 => ("MastLeft$Deck", "kind", "[I", true)
  | 1 => ("MastLeft$Deck", "v", "[I", true)
  | 2 => ("MastLeft$Deck", "length", "[I", true)
  | 3 => ("MastLeft$Deck", "wear", "[I", true)
  | 4 => ("MastLeft$Deck", "broke", "[I", true)
  | 5 => ("MastLeft$Deck", "rows", "[I", true)
  | 6 => ("MastLeft$Deck", "mast", "[I", true)
  | 7 => ("MastLeft$Deck", "pieces", "I", false)
  | 8 => ("MastLeft$Deck", "stands", "I", false)
  | 9 => ("MastLeft$Deck", "sail", "I", false)
  | 10 => ("MastLeft$Deck", "stays", "I", false)
  | 11 => ("MastLeft$Deck", "went", "I", false)
  | 12 => ("MastLeft$Deck", "day", "I", false)
  | _ => ("MastLeft$Deck", "ocean", "LMastLeft$Ocean;", false)
def tyX1 : Nat → FieldType := fun k => match k with
  | 0 => .array .int
  | 1 => .array .int
  | 2 => .array .int
  | 3 => .array .int
  | 4 => .array .int
  | 5 => .array .int
  | 6 => .array .int
  | 7 => .int
  | 8 => .int
  | 9 => .int
  | 10 => .int
  | 11 => .int
  | 12 => .int
  | _ => .object "MastLeft$Ocean"
abbrev wsX10 : List Cond := u_ws RX1 TX1 14
theorem nmX1 : ∀ a, a < 14 → ∀ b, b < 14 → a ≠ b → (TX1 a).2.1 ≠ (TX1 b).2.1 := by decide +kernel
theorem tyX1_ok : ∀ k, k < 14 → parseFieldDescriptor (TX1 k).2.2.1 = some (tyX1 k) := by decide +kernel
abbrev cX1_init : ByteArray := prog_3_method_1_code
def yX1_init : MethodName := ⟨RX1, "<init>", "(LMastLeft$Ocean;)V"⟩
abbrev cX1_copyFrom : ByteArray := prog_3_method_2_code
def yX1_copyFrom : MethodName := ⟨RX1, "copyFrom", "(LMastLeft$Deck;)V"⟩
abbrev cX1_startFrom : ByteArray := prog_3_method_3_code
def yX1_startFrom : MethodName := ⟨RX1, "startFrom", "(LMastLeft$Deck;)V"⟩
abbrev cX1_take : ByteArray := prog_3_method_4_code
def yX1_take : MethodName := ⟨RX1, "take", "(III)I"⟩
abbrev cX1_has : ByteArray := prog_3_method_5_code
def yX1_has : MethodName := ⟨RX1, "has", "(I)Z"⟩
abbrev cX1_placeOf : ByteArray := prog_3_method_6_code
def yX1_placeOf : MethodName := ⟨RX1, "placeOf", "(I)I"⟩
abbrev cX1_putUpon : ByteArray := prog_3_method_7_code
def yX1_putUpon : MethodName := ⟨RX1, "putUpon", "(I)V"⟩
abbrev cX1_lashRow : ByteArray := prog_3_method_8_code
def yX1_lashRow : MethodName := ⟨RX1, "lashRow", "(I)Z"⟩
abbrev cX1_standsOfTheSame : ByteArray := prog_3_method_9_code
def yX1_standsOfTheSame : MethodName := ⟨RX1, "standsOfTheSame", "(LMastLeft$Deck;)Z"⟩
abbrev cX1_above : ByteArray := prog_3_method_10_code
def yX1_above : MethodName := ⟨RX1, "above", "(I)I"⟩
abbrev cX1_height : ByteArray := prog_3_method_11_code
def yX1_height : MethodName := ⟨RX1, "height", "()I"⟩
abbrev cX1_load : ByteArray := prog_3_method_12_code
def yX1_load : MethodName := ⟨RX1, "load", "(I)I"⟩
abbrev cX1_miles : ByteArray := prog_3_method_13_code
def yX1_miles : MethodName := ⟨RX1, "miles", "()I"⟩
abbrev cX1_strength : ByteArray := prog_3_method_14_code
def yX1_strength : MethodName := ⟨RX1, "strength", "(I)I"⟩
abbrev cX1_breaking : ByteArray := prog_3_method_15_code
def yX1_breaking : MethodName := ⟨RX1, "breaking", "()I"⟩
abbrev cX1_dayGoes : ByteArray := prog_3_method_16_code
def yX1_dayGoes : MethodName := ⟨RX1, "dayGoes", "()I"⟩
abbrev cX1_nothingBreaksIn : ByteArray := prog_3_method_17_code
def yX1_nothingBreaksIn : MethodName := ⟨RX1, "nothingBreaksIn", "(I)Z"⟩
def RX2 : String := "MastLeft$Ocean"
def TX2 : u_T := fun k => match k with
  | 0 => ("MastLeft$Ocean", "step", "[I", true)
  | 1 => ("MastLeft$Ocean", "letter", "[I", true)
  | 2 => ("MastLeft$Ocean", "number", "[I", true)
  | 3 => ("MastLeft$Ocean", "facts", "[I", true)
  | 4 => ("MastLeft$Ocean", "steps", "I", false)
  | 5 => ("MastLeft$Ocean", "wind", "I", false)
  | _ => ("MastLeft$Ocean", "lash", "I", false)
def tyX2 : Nat → FieldType := fun k => match k with
  | 0 => .array .int
  | 1 => .array .int
  | 2 => .array .int
  | 3 => .array .int
  | 4 => .int
  | 5 => .int
  | _ => .int
abbrev wsX20 : List Cond := u_ws RX2 TX2 7
theorem nmX2 : ∀ a, a < 7 → ∀ b, b < 7 → a ≠ b → (TX2 a).2.1 ≠ (TX2 b).2.1 := by decide +kernel
theorem tyX2_ok : ∀ k, k < 7 → parseFieldDescriptor (TX2 k).2.2.1 = some (tyX2 k) := by decide +kernel
abbrev cX2_init : ByteArray := prog_4_method_1_code
def yX2_init : MethodName := ⟨RX2, "<init>", "()V"⟩
abbrev cX2_becomeCalm : ByteArray := prog_4_method_2_code
def yX2_becomeCalm : MethodName := ⟨RX2, "becomeCalm", "()V"⟩
abbrev cX2_add : ByteArray := prog_4_method_3_code
def yX2_add : MethodName := ⟨RX2, "add", "(III)V"⟩
abbrev cX2_heart : ByteArray := prog_4_method_4_code
def yX2_heart : MethodName := ⟨RX2, "heart", "(LMastLeft$Deck;I)I"⟩
def RX3 : String := "MastLeft$Pairs"
def TX3 : u_T := fun k => match k with
  | 0 => ("MastLeft$Pairs", "left", "[I", true)
  | 1 => ("MastLeft$Pairs", "right", "[I", true)
  | _ => ("MastLeft$Pairs", "size", "I", false)
def tyX3 : Nat → FieldType := fun k => match k with
  | 0 => .array .int
  | 1 => .array .int
  | _ => .int
abbrev wsX30 : List Cond := u_ws RX3 TX3 3
theorem nmX3 : ∀ a, a < 3 → ∀ b, b < 3 → a ≠ b → (TX3 a).2.1 ≠ (TX3 b).2.1 := by decide +kernel
theorem tyX3_ok : ∀ k, k < 3 → parseFieldDescriptor (TX3 k).2.2.1 = some (tyX3 k) := by decide +kernel
abbrev cX3_init : ByteArray := prog_5_method_1_code
def yX3_init : MethodName := ⟨RX3, "<init>", "(I)V"⟩
abbrev cX3_add : ByteArray := prog_5_method_2_code
def yX3_add : MethodName := ⟨RX3, "add", "(II)Z"⟩
abbrev cX3_clear : ByteArray := prog_5_method_3_code
def yX3_clear : MethodName := ⟨RX3, "clear", "()I"⟩
abbrev cX3_copyFrom : ByteArray := prog_5_method_4_code
def yX3_copyFrom : MethodName := ⟨RX3, "copyFrom", "(LMastLeft$Pairs;)V"⟩
def RX4 : String := "MastLeft$Tape"
def TX4 : u_T := fun k => match k with
  | 0 => ("MastLeft$Tape", "items", "[J", true)
  | 1 => ("MastLeft$Tape", "sort", "I", false)
  | _ => ("MastLeft$Tape", "size", "I", false)
def tyX4 : Nat → FieldType := fun k => match k with
  | 0 => .array .long
  | 1 => .int
  | _ => .int
abbrev wsX40 : List Cond := u_ws RX4 TX4 3
theorem nmX4 : ∀ a, a < 3 → ∀ b, b < 3 → a ≠ b → (TX4 a).2.1 ≠ (TX4 b).2.1 := by decide +kernel
theorem tyX4_ok : ∀ k, k < 3 → parseFieldDescriptor (TX4 k).2.2.1 = some (tyX4 k) := by decide +kernel
abbrev cX4_init : ByteArray := prog_6_method_1_code
def yX4_init : MethodName := ⟨RX4, "<init>", "()V"⟩
abbrev cX4_become : ByteArray := prog_6_method_2_code
def yX4_become : MethodName := ⟨RX4, "become", "(II)V"⟩
abbrev cX4_cut : ByteArray := prog_6_method_3_code
def yX4_cut : MethodName := ⟨RX4, "cut", "(J)J"⟩
def RX5 : String := "MastLeft$Text"
def TX5 : u_T := fun k => match k with
  | 0 => ("MastLeft$Text", "signs", "[B", true)
  | 1 => ("MastLeft$Text", "into", "LMastLeft$Ocean;", false)
  | 2 => ("MastLeft$Text", "at", "I", false)
  | _ => ("MastLeft$Text", "size", "I", false)
def tyX5 : Nat → FieldType := fun k => match k with
  | 0 => .array .byte
  | 1 => .object "MastLeft$Ocean"
  | 2 => .int
  | _ => .int
abbrev wsX50 : List Cond := u_ws RX5 TX5 4
theorem nmX5 : ∀ a, a < 4 → ∀ b, b < 4 → a ≠ b → (TX5 a).2.1 ≠ (TX5 b).2.1 := by decide +kernel
theorem tyX5_ok : ∀ k, k < 4 → parseFieldDescriptor (TX5 k).2.2.1 = some (tyX5 k) := by decide +kernel
abbrev cX5_init : ByteArray := prog_7_method_1_code
def yX5_init : MethodName := ⟨RX5, "<init>", "()V"⟩
abbrev cX5_add : ByteArray := prog_7_method_2_code
def yX5_add : MethodName := ⟨RX5, "add", "(B)Z"⟩
abbrev cX5_readInto : ByteArray := prog_7_method_3_code
def yX5_readInto : MethodName := ⟨RX5, "readInto", "(LMastLeft$Ocean;)I"⟩
abbrev cX5_readsClause : ByteArray := prog_7_method_4_code
def yX5_readsClause : MethodName := ⟨RX5, "readsClause", "()Z"⟩
abbrev cX5_readsAny : ByteArray := prog_7_method_5_code
def yX5_readsAny : MethodName := ⟨RX5, "readsAny", "(I)Z"⟩
abbrev cX5_readsAll : ByteArray := prog_7_method_6_code
def yX5_readsAll : MethodName := ⟨RX5, "readsAll", "(I)Z"⟩
abbrev cX5_readsOne : ByteArray := prog_7_method_7_code
def yX5_readsOne : MethodName := ⟨RX5, "readsOne", "(I)Z"⟩
abbrev cX5_takes : ByteArray := prog_7_method_8_code
def yX5_takes : MethodName := ⟨RX5, "takes", "(I)Z"⟩
abbrev cX5_takesWord : ByteArray := prog_7_method_9_code
def yX5_takesWord : MethodName := ⟨RX5, "takesWord", "()I"⟩
abbrev cX5_takesNumber : ByteArray := prog_7_method_10_code
def yX5_takesNumber : MethodName := ⟨RX5, "takesNumber", "()I"⟩
def RX6 : String := "MastLeft"
def TX6 : u_T := fun k => match k with
  | 0 => ("MastLeft", "now", "LMastLeft$Deck;", true)
  | 1 => ("MastLeft", "kept", "LMastLeft$Deck;", true)
  | 2 => ("MastLeft", "trial", "LMastLeft$Deck;", true)
  | 3 => ("MastLeft", "seen", "LMastLeft$Pairs;", true)
  | 4 => ("MastLeft", "plans", "LMastLeft$Pairs;", true)
  | 5 => ("MastLeft", "books", "LMastLeft$Pairs;", true)
  | 6 => ("MastLeft", "keptSeen", "LMastLeft$Pairs;", true)
  | 7 => ("MastLeft", "keptPlans", "LMastLeft$Pairs;", true)
  | 8 => ("MastLeft", "keptBooks", "LMastLeft$Pairs;", true)
  | 9 => ("MastLeft", "imaged", "Z", false)
  | 10 => ("MastLeft", "oceans", "[LMastLeft$Ocean;", true)
  | 11 => ("MastLeft", "oceansRead", "I", false)
  | 12 => ("MastLeft", "text", "LMastLeft$Text;", true)
  | 13 => ("MastLeft", "acts", "LMastLeft$Acts;", true)
  | _ => ("MastLeft", "tapes", "[LMastLeft$Tape;", true)
def tyX6 : Nat → FieldType := fun k => match k with
  | 0 => .object "MastLeft$Deck"
  | 1 => .object "MastLeft$Deck"
  | 2 => .object "MastLeft$Deck"
  | 3 => .object "MastLeft$Pairs"
  | 4 => .object "MastLeft$Pairs"
  | 5 => .object "MastLeft$Pairs"
  | 6 => .object "MastLeft$Pairs"
  | 7 => .object "MastLeft$Pairs"
  | 8 => .object "MastLeft$Pairs"
  | 9 => .boolean
  | 10 => .array (.object "MastLeft$Ocean")
  | 11 => .int
  | 12 => .object "MastLeft$Text"
  | 13 => .object "MastLeft$Acts"
  | _ => .array (.object "MastLeft$Tape")
abbrev wsX60 : List Cond := u_ws RX6 TX6 15
theorem nmX6 : ∀ a, a < 15 → ∀ b, b < 15 → a ≠ b → (TX6 a).2.1 ≠ (TX6 b).2.1 := by decide +kernel
theorem tyX6_ok : ∀ k, k < 15 → parseFieldDescriptor (TX6 k).2.2.1 = some (tyX6 k) := by decide +kernel
abbrev cX6_init : ByteArray := prog_1_method_1_code
def yX6_init : MethodName := ⟨RX6, "<init>", "()V"⟩
abbrev cX6_piece : ByteArray := prog_1_method_2_code
def yX6_piece : MethodName := ⟨RX6, "piece", "(III)I"⟩
abbrev cX6_of : ByteArray := prog_1_method_3_code
def yX6_of : MethodName := ⟨RX6, "of", "(II)I"⟩
abbrev cX6_set : ByteArray := prog_1_method_4_code
def yX6_set : MethodName := ⟨RX6, "set", "(III)I"⟩
abbrev cX6_row : ByteArray := prog_1_method_5_code
def yX6_row : MethodName := ⟨RX6, "row", "(III)I"⟩
abbrev cX6_hoist : ByteArray := prog_1_method_6_code
def yX6_hoist : MethodName := ⟨RX6, "hoist", "(I)I"⟩
abbrev cX6_lower : ByteArray := prog_1_method_7_code
def yX6_lower : MethodName := ⟨RX6, "lower", "(I)I"⟩
abbrev cX6_trim : ByteArray := prog_1_method_8_code
def yX6_trim : MethodName := ⟨RX6, "trim", "(II)I"⟩
abbrev cX6_feed : ByteArray := prog_1_method_9_code
def yX6_feed : MethodName := ⟨RX6, "feed", "(I)I"⟩
abbrev cX6_ocean : ByteArray := prog_1_method_10_code
def yX6_ocean : MethodName := ⟨RX6, "ocean", "()I"⟩
abbrev cX6_told : ByteArray := prog_1_method_11_code
def yX6_told : MethodName := ⟨RX6, "told", "(I)I"⟩
abbrev cX6_pass : ByteArray := prog_1_method_12_code
def yX6_pass : MethodName := ⟨RX6, "pass", "(I)I"⟩
abbrev cX6_on : ByteArray := prog_1_method_13_code
def yX6_on : MethodName := ⟨RX6, "on", "(II)I"⟩
abbrev cX6_first : ByteArray := prog_1_method_14_code
def yX6_first : MethodName := ⟨RX6, "first", "(I)I"⟩
abbrev cX6_port : ByteArray := prog_1_method_15_code
def yX6_port : MethodName := ⟨RX6, "port", "(I)I"⟩
abbrev cX6_spread : ByteArray := prog_1_method_16_code
def yX6_spread : MethodName := ⟨RX6, "spread", "()I"⟩
abbrev cX6_fewest : ByteArray := prog_1_method_17_code
def yX6_fewest : MethodName := ⟨RX6, "fewest", "(I)I"⟩
abbrev cX6_best : ByteArray := prog_1_method_18_code
def yX6_best : MethodName := ⟨RX6, "best", "(II)I"⟩
abbrev cX6_longest : ByteArray := prog_1_method_19_code
def yX6_longest : MethodName := ⟨RX6, "longest", "(I)I"⟩
abbrev cX6_bestRow : ByteArray := prog_1_method_20_code
def yX6_bestRow : MethodName := ⟨RX6, "bestRow", "(I)I"⟩
abbrev cX6_worth : ByteArray := prog_1_method_21_code
def yX6_worth : MethodName := ⟨RX6, "worth", "(II)I"⟩
abbrev cX6_see : ByteArray := prog_1_method_22_code
def yX6_see : MethodName := ⟨RX6, "see", "(II)I"⟩
abbrev cX6_worn : ByteArray := prog_1_method_23_code
def yX6_worn : MethodName := ⟨RX6, "worn", "(II)I"⟩
abbrev cX6_can : ByteArray := prog_1_method_24_code
def yX6_can : MethodName := ⟨RX6, "can", "(II)I"⟩
abbrev cX6_fitting : ByteArray := prog_1_method_25_code
def yX6_fitting : MethodName := ⟨RX6, "fitting", "([IIII)I"⟩
abbrev cX6_seenIsSo : ByteArray := prog_1_method_26_code
def yX6_seenIsSo : MethodName := ⟨RX6, "seenIsSo", "()Z"⟩
abbrev cX6_odds : ByteArray := prog_1_method_27_code
def yX6_odds : MethodName := ⟨RX6, "odds", "(II)J"⟩
abbrev cX6_mean : ByteArray := prog_1_method_28_code
def yX6_mean : MethodName := ⟨RX6, "mean", "(I)J"⟩
abbrev cX6_inLowestTerms : ByteArray := prog_1_method_29_code
def yX6_inLowestTerms : MethodName := ⟨RX6, "inLowestTerms", "(III)J"⟩
abbrev cX6_plan : ByteArray := prog_1_method_30_code
def yX6_plan : MethodName := ⟨RX6, "plan", "(II)I"⟩
abbrev cX6_ends : ByteArray := prog_1_method_31_code
def yX6_ends : MethodName := ⟨RX6, "ends", "(I)I"⟩
abbrev cX6_followPlan : ByteArray := prog_1_method_32_code
def yX6_followPlan : MethodName := ⟨RX6, "followPlan", "(II)V"⟩
abbrev cX6_book : ByteArray := prog_1_method_33_code
def yX6_book : MethodName := ⟨RX6, "book", "(II)I"⟩
abbrev cX6_looked : ByteArray := prog_1_method_34_code
def yX6_looked : MethodName := ⟨RX6, "looked", "()I"⟩
abbrev cX6_judge : ByteArray := prog_1_method_35_code
def yX6_judge : MethodName := ⟨RX6, "judge", "(II)I"⟩
abbrev cX6_image : ByteArray := prog_1_method_36_code
def yX6_image : MethodName := ⟨RX6, "image", "()I"⟩
abbrev cX6_undo : ByteArray := prog_1_method_37_code
def yX6_undo : MethodName := ⟨RX6, "undo", "()I"⟩
abbrev cX6_act : ByteArray := prog_1_method_38_code
def yX6_act : MethodName := ⟨RX6, "act", "(III)I"⟩
abbrev cX6_trace : ByteArray := prog_1_method_39_code
def yX6_trace : MethodName := ⟨RX6, "trace", "(I)I"⟩
abbrev cX6_taken : ByteArray := prog_1_method_40_code
def yX6_taken : MethodName := ⟨RX6, "taken", "(II)I"⟩
abbrev cX6_count : ByteArray := prog_1_method_41_code
def yX6_count : MethodName := ⟨RX6, "count", "(I)I"⟩
abbrev cX6_tape : ByteArray := prog_1_method_42_code
def yX6_tape : MethodName := ⟨RX6, "tape", "(III)I"⟩
abbrev cX6_item : ByteArray := prog_1_method_43_code
def yX6_item : MethodName := ⟨RX6, "item", "(IIJ)I"⟩
abbrev cX6_read : ByteArray := prog_1_method_44_code
def yX6_read : MethodName := ⟨RX6, "read", "(II)J"⟩
abbrev cX6_shift : ByteArray := prog_1_method_45_code
def yX6_shift : MethodName := ⟨RX6, "shift", "(IIIII)I"⟩
abbrev cX6_within : ByteArray := prog_1_method_46_code
def yX6_within : MethodName := ⟨RX6, "within", "(III)Z"⟩
def RX7 : String := "MastLeftModel"
def TX7 : u_T := fun k => match k with
  | 0 => ("MastLeftModel", "pieces", "I", false)
  | 1 => ("MastLeftModel", "high", "I", false)
  | 2 => ("MastLeftModel", "sail", "I", false)
  | 3 => ("MastLeftModel", "stays", "I", false)
  | 4 => ("MastLeftModel", "miles0", "I", false)
  | 5 => ("MastLeftModel", "days", "I", false)
  | 6 => ("MastLeftModel", "kind", "[I", true)
  | 7 => ("MastLeftModel", "v", "[I", true)
  | 8 => ("MastLeftModel", "long0", "[I", true)
  | 9 => ("MastLeftModel", "wear", "[I", true)
  | 10 => ("MastLeftModel", "broke", "[I", true)
  | 11 => ("MastLeftModel", "rows", "[I", true)
  | 12 => ("MastLeftModel", "mast", "[I", true)
  | 13 => ("MastLeftModel", "oceans", "I", false)
  | 14 => ("MastLeftModel", "the", "I", false)
  | 15 => ("MastLeftModel", "fed", "I", false)
  | 16 => ("MastLeftModel", "at", "I", false)
  | 17 => ("MastLeftModel", "digits", "I", false)
  | 18 => ("MastLeftModel", "text", "[I", true)
  | 19 => ("MastLeftModel", "clauses", "[I", true)
  | 20 => ("MastLeftModel", "word", "[I", true)
  | 21 => ("MastLeftModel", "number", "[I", true)
  | 22 => ("MastLeftModel", "from", "[I", true)
  | 23 => ("MastLeftModel", "to", "[I", true)
  | 24 => ("MastLeftModel", "sign", "[I", true)
  | 25 => ("MastLeftModel", "waits", "[I", true)
  | 26 => ("MastLeftModel", "signs", "I", false)
  | 27 => ("MastLeftModel", "waiting", "I", false)
  | 28 => ("MastLeftModel", "open", "I", false)
  | 29 => ("MastLeftModel", "letters", "[I", true)
  | 30 => ("MastLeftModel", "pile", "[Z", true)
  | 31 => ("MastLeftModel", "mostMiles", "I", false)
  | 32 => ("MastLeftModel", "mostBroke", "I", false)
  | 33 => ("MastLeftModel", "loads", "[I", true)
  | 34 => ("MastLeftModel", "keptHigh", "I", false)
  | 35 => ("MastLeftModel", "keptSail", "I", false)
  | 36 => ("MastLeftModel", "keptStays", "I", false)
  | 37 => ("MastLeftModel", "keptMiles", "I", false)
  | 38 => ("MastLeftModel", "keptDays", "I", false)
  | 39 => ("MastLeftModel", "keptLong", "[I", true)
  | 40 => ("MastLeftModel", "keptWear", "[I", true)
  | 41 => ("MastLeftModel", "keptBroke", "[I", true)
  | 42 => ("MastLeftModel", "keptMast", "[I", true)
  | 43 => ("MastLeftModel", "brokeWhich", "I", false)
  | 44 => ("MastLeftModel", "bestRow", "[I", true)
  | 45 => ("MastLeftModel", "bestMany", "I", false)
  | 46 => ("MastLeftModel", "bestMuch", "I", false)
  | 47 => ("MastLeftModel", "longRow", "[I", true)
  | 48 => ("MastLeftModel", "seen", "I", false)
  | 49 => ("MastLeftModel", "seenMany", "[I", true)
  | 50 => ("MastLeftModel", "seenWhen", "[I", true)
  | 51 => ("MastLeftModel", "plans", "I", false)
  | 52 => ("MastLeftModel", "books", "I", false)
  | 53 => ("MastLeftModel", "planWhat", "[I", true)
  | 54 => ("MastLeftModel", "planNumber", "[I", true)
  | 55 => ("MastLeftModel", "bookWho", "[I", true)
  | 56 => ("MastLeftModel", "bookLong", "[I", true)
  | 57 => ("MastLeftModel", "hasImage", "Z", false)
  | 58 => ("MastLeftModel", "imageThe", "I", false)
  | 59 => ("MastLeftModel", "imagePieces", "I", false)
  | 60 => ("MastLeftModel", "imageHigh", "I", false)
  | 61 => ("MastLeftModel", "imageSail", "I", false)
  | 62 => ("MastLeftModel", "imageStays", "I", false)
  | 63 => ("MastLeftModel", "imageMiles", "I", false)
  | 64 => ("MastLeftModel", "imageDays", "I", false)
  | 65 => ("MastLeftModel", "imageSeen", "I", false)
  | 66 => ("MastLeftModel", "imagePlans", "I", false)
  | 67 => ("MastLeftModel", "imageBooks", "I", false)
  | 68 => ("MastLeftModel", "imageKind", "[I", true)
  | 69 => ("MastLeftModel", "imageV", "[I", true)
  | 70 => ("MastLeftModel", "imageLong", "[I", true)
  | 71 => ("MastLeftModel", "imageWear", "[I", true)
  | 72 => ("MastLeftModel", "imageBroke", "[I", true)
  | 73 => ("MastLeftModel", "imageRows", "[I", true)
  | 74 => ("MastLeftModel", "imageMast", "[I", true)
  | 75 => ("MastLeftModel", "imageMany", "[I", true)
  | 76 => ("MastLeftModel", "imageWhen", "[I", true)
  | 77 => ("MastLeftModel", "imageWhat", "[I", true)
  | 78 => ("MastLeftModel", "imageNumber", "[I", true)
  | 79 => ("MastLeftModel", "imageBookWho", "[I", true)
  | 80 => ("MastLeftModel", "imageBookLong", "[I", true)
  | 81 => ("MastLeftModel", "ran", "I", false)
  | 82 => ("MastLeftModel", "bodies", "[I", true)
  | 83 => ("MastLeftModel", "sort", "[I", true)
  | 84 => ("MastLeftModel", "length", "[I", true)
  | 85 => ("MastLeftModel", "item", "[J", true)
  | _ => ("MastLeftModel", "aside", "[J", true)
def tyX7 : Nat → FieldType := fun k => match k with
  | 0 => .int
  | 1 => .int
  | 2 => .int
  | 3 => .int
  | 4 => .int
  | 5 => .int
  | 6 => .array .int
  | 7 => .array .int
  | 8 => .array .int
  | 9 => .array .int
  | 10 => .array .int
  | 11 => .array .int
  | 12 => .array .int
  | 13 => .int
  | 14 => .int
  | 15 => .int
  | 16 => .int
  | 17 => .int
  | 18 => .array .int
  | 19 => .array .int
  | 20 => .array .int
  | 21 => .array .int
  | 22 => .array .int
  | 23 => .array .int
  | 24 => .array .int
  | 25 => .array .int
  | 26 => .int
  | 27 => .int
  | 28 => .int
  | 29 => .array .int
  | 30 => .array .boolean
  | 31 => .int
  | 32 => .int
  | 33 => .array .int
  | 34 => .int
  | 35 => .int
  | 36 => .int
  | 37 => .int
  | 38 => .int
  | 39 => .array .int
  | 40 => .array .int
  | 41 => .array .int
  | 42 => .array .int
  | 43 => .int
  | 44 => .array .int
  | 45 => .int
  | 46 => .int
  | 47 => .array .int
  | 48 => .int
  | 49 => .array .int
  | 50 => .array .int
  | 51 => .int
  | 52 => .int
  | 53 => .array .int
  | 54 => .array .int
  | 55 => .array .int
  | 56 => .array .int
  | 57 => .boolean
  | 58 => .int
  | 59 => .int
  | 60 => .int
  | 61 => .int
  | 62 => .int
  | 63 => .int
  | 64 => .int
  | 65 => .int
  | 66 => .int
  | 67 => .int
  | 68 => .array .int
  | 69 => .array .int
  | 70 => .array .int
  | 71 => .array .int
  | 72 => .array .int
  | 73 => .array .int
  | 74 => .array .int
  | 75 => .array .int
  | 76 => .array .int
  | 77 => .array .int
  | 78 => .array .int
  | 79 => .array .int
  | 80 => .array .int
  | 81 => .int
  | 82 => .array .int
  | 83 => .array .int
  | 84 => .array .int
  | 85 => .array .long
  | _ => .array .long
abbrev wsX70 : List Cond := u_ws RX7 TX7 87
theorem nmX7 : ∀ a, a < 87 → ∀ b, b < 87 → a ≠ b → (TX7 a).2.1 ≠ (TX7 b).2.1 := by decide +kernel
theorem tyX7_ok : ∀ k, k < 87 → parseFieldDescriptor (TX7 k).2.2.1 = some (tyX7 k) := by decide +kernel
abbrev cX7_init : ByteArray := prog_9_method_1_code
def yX7_init : MethodName := ⟨RX7, "<init>", "()V"⟩
abbrev cX7_in : ByteArray := prog_9_method_2_code
def yX7_in : MethodName := ⟨RX7, "in", "(III)Z"⟩
abbrev cX7_least0 : ByteArray := prog_9_method_3_code
def yX7_least0 : MethodName := ⟨RX7, "least0", "(I)I"⟩
abbrev cX7_least : ByteArray := prog_9_method_4_code
def yX7_least : MethodName := ⟨RX7, "least", "(II)I"⟩
abbrev cX7_isPiece : ByteArray := prog_9_method_5_code
def yX7_isPiece : MethodName := ⟨RX7, "isPiece", "(I)Z"⟩
abbrev cX7_isFeet : ByteArray := prog_9_method_6_code
def yX7_isFeet : MethodName := ⟨RX7, "isFeet", "(I)Z"⟩
abbrev cX7_isDays : ByteArray := prog_9_method_7_code
def yX7_isDays : MethodName := ⟨RX7, "isDays", "(I)Z"⟩
abbrev cX7_isTrim : ByteArray := prog_9_method_8_code
def yX7_isTrim : MethodName := ⟨RX7, "isTrim", "(I)Z"⟩
abbrev cX7_piece : ByteArray := prog_9_method_9_code
def yX7_piece : MethodName := ⟨RX7, "piece", "(III)I"⟩
abbrev cX7_set : ByteArray := prog_9_method_10_code
def yX7_set : MethodName := ⟨RX7, "set", "(III)I"⟩
abbrev cX7_row : ByteArray := prog_9_method_11_code
def yX7_row : MethodName := ⟨RX7, "row", "(III)I"⟩
abbrev cX7_placeOf : ByteArray := prog_9_method_12_code
def yX7_placeOf : MethodName := ⟨RX7, "placeOf", "(I)I"⟩
abbrev cX7_hoists : ByteArray := prog_9_method_13_code
def yX7_hoists : MethodName := ⟨RX7, "hoists", "(I)V"⟩
abbrev cX7_hoist : ByteArray := prog_9_method_14_code
def yX7_hoist : MethodName := ⟨RX7, "hoist", "(I)I"⟩
abbrev cX7_lower : ByteArray := prog_9_method_15_code
def yX7_lower : MethodName := ⟨RX7, "lower", "(I)I"⟩
abbrev cX7_trim : ByteArray := prog_9_method_16_code
def yX7_trim : MethodName := ⟨RX7, "trim", "(II)I"⟩
abbrev cX7_feed : ByteArray := prog_9_method_17_code
def yX7_feed : MethodName := ⟨RX7, "feed", "(I)I"⟩
abbrev cX7_next : ByteArray := prog_9_method_18_code
def yX7_next : MethodName := ⟨RX7, "next", "()I"⟩
abbrev cX7_second : ByteArray := prog_9_method_19_code
def yX7_second : MethodName := ⟨RX7, "second", "()I"⟩
abbrev cX7_takes : ByteArray := prog_9_method_20_code
def yX7_takes : MethodName := ⟨RX7, "takes", "(I)Z"⟩
abbrev cX7_takesWord : ByteArray := prog_9_method_21_code
def yX7_takesWord : MethodName := ⟨RX7, "takesWord", "(II)Z"⟩
abbrev cX7_isDigit : ByteArray := prog_9_method_22_code
def yX7_isDigit : MethodName := ⟨RX7, "isDigit", "()Z"⟩
abbrev cX7_takesNumber : ByteArray := prog_9_method_23_code
def yX7_takesNumber : MethodName := ⟨RX7, "takesNumber", "()Z"⟩
abbrev cX7_emits : ByteArray := prog_9_method_24_code
def yX7_emits : MethodName := ⟨RX7, "emits", "(I)V"⟩
abbrev cX7_whole : ByteArray := prog_9_method_25_code
def yX7_whole : MethodName := ⟨RX7, "whole", "()V"⟩
abbrev cX7_settle : ByteArray := prog_9_method_26_code
def yX7_settle : MethodName := ⟨RX7, "settle", "(I)V"⟩
abbrev cX7_place : ByteArray := prog_9_method_27_code
def yX7_place : MethodName := ⟨RX7, "place", "(I)I"⟩
abbrev cX7_takesTest : ByteArray := prog_9_method_28_code
def yX7_takesTest : MethodName := ⟨RX7, "takesTest", "()Z"⟩
abbrev cX7_takesE : ByteArray := prog_9_method_29_code
def yX7_takesE : MethodName := ⟨RX7, "takesE", "(I)Z"⟩
abbrev cX7_takesHead : ByteArray := prog_9_method_30_code
def yX7_takesHead : MethodName := ⟨RX7, "takesHead", "(I)Z"⟩
abbrev cX7_takesClause : ByteArray := prog_9_method_31_code
def yX7_takesClause : MethodName := ⟨RX7, "takesClause", "(I)Z"⟩
abbrev cX7_goesText : ByteArray := prog_9_method_32_code
def yX7_goesText : MethodName := ⟨RX7, "goesText", "(I)Z"⟩
abbrev cX7_ocean : ByteArray := prog_9_method_33_code
def yX7_ocean : MethodName := ⟨RX7, "ocean", "()I"⟩
abbrev cX7_begin : ByteArray := prog_9_method_34_code
def yX7_begin : MethodName := ⟨RX7, "begin", "()I"⟩
abbrev cX7_behind : ByteArray := prog_9_method_35_code
def yX7_behind : MethodName := ⟨RX7, "behind", "()I"⟩
abbrev cX7_lastOf : ByteArray := prog_9_method_36_code
def yX7_lastOf : MethodName := ⟨RX7, "lastOf", "(II)I"⟩
abbrev cX7_factOf : ByteArray := prog_9_method_37_code
def yX7_factOf : MethodName := ⟨RX7, "factOf", "(II)I"⟩
abbrev cX7_holds : ByteArray := prog_9_method_38_code
def yX7_holds : MethodName := ⟨RX7, "holds", "(II)Z"⟩
abbrev cX7_heart : ByteArray := prog_9_method_39_code
def yX7_heart : MethodName := ⟨RX7, "heart", "(I)I"⟩
abbrev cX7_strength : ByteArray := prog_9_method_40_code
def yX7_strength : MethodName := ⟨RX7, "strength", "(I)I"⟩
abbrev cX7_above : ByteArray := prog_9_method_41_code
def yX7_above : MethodName := ⟨RX7, "above", "(I)I"⟩
abbrev cX7_height : ByteArray := prog_9_method_42_code
def yX7_height : MethodName := ⟨RX7, "height", "()I"⟩
abbrev cX7_load : ByteArray := prog_9_method_43_code
def yX7_load : MethodName := ⟨RX7, "load", "(I)I"⟩
abbrev cX7_milesNow : ByteArray := prog_9_method_44_code
def yX7_milesNow : MethodName := ⟨RX7, "milesNow", "()I"⟩
abbrev cX7_of : ByteArray := prog_9_method_45_code
def yX7_of : MethodName := ⟨RX7, "of", "(II)I"⟩
abbrev cX7_told : ByteArray := prog_9_method_46_code
def yX7_told : MethodName := ⟨RX7, "told", "(I)I"⟩
abbrev cX7_breaksAt : ByteArray := prog_9_method_47_code
def yX7_breaksAt : MethodName := ⟨RX7, "breaksAt", "()I"⟩
abbrev cX7_goWear : ByteArray := prog_9_method_48_code
def yX7_goWear : MethodName := ⟨RX7, "goWear", "()V"⟩
abbrev cX7_goDay : ByteArray := prog_9_method_49_code
def yX7_goDay : MethodName := ⟨RX7, "goDay", "()I"⟩
abbrev cX7_goDays : ByteArray := prog_9_method_50_code
def yX7_goDays : MethodName := ⟨RX7, "goDays", "(I)V"⟩
abbrev cX7_pass : ByteArray := prog_9_method_51_code
def yX7_pass : MethodName := ⟨RX7, "pass", "(I)I"⟩
abbrev cX7_save : ByteArray := prog_9_method_52_code
def yX7_save : MethodName := ⟨RX7, "save", "()V"⟩
abbrev cX7_putBack : ByteArray := prog_9_method_53_code
def yX7_putBack : MethodName := ⟨RX7, "putBack", "()V"⟩
abbrev cX7_on : ByteArray := prog_9_method_54_code
def yX7_on : MethodName := ⟨RX7, "on", "(II)I"⟩
abbrev cX7_firstThen : ByteArray := prog_9_method_55_code
def yX7_firstThen : MethodName := ⟨RX7, "firstThen", "(I)I"⟩
abbrev cX7_first : ByteArray := prog_9_method_56_code
def yX7_first : MethodName := ⟨RX7, "first", "(I)I"⟩
abbrev cX7_port : ByteArray := prog_9_method_57_code
def yX7_port : MethodName := ⟨RX7, "port", "(I)I"⟩
abbrev cX7_wentThen : ByteArray := prog_9_method_58_code
def yX7_wentThen : MethodName := ⟨RX7, "wentThen", "(I)I"⟩
abbrev cX7_spread : ByteArray := prog_9_method_59_code
def yX7_spread : MethodName := ⟨RX7, "spread", "()I"⟩
abbrev cX7_fewest : ByteArray := prog_9_method_60_code
def yX7_fewest : MethodName := ⟨RX7, "fewest", "(I)I"⟩
abbrev cX7_tries : ByteArray := prog_9_method_61_code
def yX7_tries : MethodName := ⟨RX7, "tries", "(IIIII)V"⟩
abbrev cX7_layBest : ByteArray := prog_9_method_62_code
def yX7_layBest : MethodName := ⟨RX7, "layBest", "(I)V"⟩
abbrev cX7_best : ByteArray := prog_9_method_63_code
def yX7_best : MethodName := ⟨RX7, "best", "(II)I"⟩
abbrev cX7_layOrder : ByteArray := prog_9_method_64_code
def yX7_layOrder : MethodName := ⟨RX7, "layOrder", "(I)Z"⟩
abbrev cX7_longest : ByteArray := prog_9_method_65_code
def yX7_longest : MethodName := ⟨RX7, "longest", "(I)I"⟩
abbrev cX7_see : ByteArray := prog_9_method_66_code
def yX7_see : MethodName := ⟨RX7, "see", "(II)I"⟩
abbrev cX7_isSeen : ByteArray := prog_9_method_67_code
def yX7_isSeen : MethodName := ⟨RX7, "isSeen", "()Z"⟩
abbrev cX7_worn : ByteArray := prog_9_method_68_code
def yX7_worn : MethodName := ⟨RX7, "worn", "(II)I"⟩
abbrev cX7_can : ByteArray := prog_9_method_69_code
def yX7_can : MethodName := ⟨RX7, "can", "(II)I"⟩
abbrev cX7_divisor : ByteArray := prog_9_method_70_code
def yX7_divisor : MethodName := ⟨RX7, "divisor", "(II)I"⟩
abbrev cX7_lowest : ByteArray := prog_9_method_71_code
def yX7_lowest : MethodName := ⟨RX7, "lowest", "(III)J"⟩
abbrev cX7_odds : ByteArray := prog_9_method_72_code
def yX7_odds : MethodName := ⟨RX7, "odds", "(II)J"⟩
abbrev cX7_mean : ByteArray := prog_9_method_73_code
def yX7_mean : MethodName := ⟨RX7, "mean", "(I)J"⟩
abbrev cX7_plan : ByteArray := prog_9_method_74_code
def yX7_plan : MethodName := ⟨RX7, "plan", "(II)I"⟩
abbrev cX7_goPlan : ByteArray := prog_9_method_75_code
def yX7_goPlan : MethodName := ⟨RX7, "goPlan", "(II)V"⟩
abbrev cX7_ends : ByteArray := prog_9_method_76_code
def yX7_ends : MethodName := ⟨RX7, "ends", "(I)I"⟩
abbrev cX7_book : ByteArray := prog_9_method_77_code
def yX7_book : MethodName := ⟨RX7, "book", "(II)I"⟩
abbrev cX7_looked : ByteArray := prog_9_method_78_code
def yX7_looked : MethodName := ⟨RX7, "looked", "()I"⟩
abbrev cX7_judge : ByteArray := prog_9_method_79_code
def yX7_judge : MethodName := ⟨RX7, "judge", "(II)I"⟩
abbrev cX7_image : ByteArray := prog_9_method_80_code
def yX7_image : MethodName := ⟨RX7, "image", "()I"⟩
abbrev cX7_undo : ByteArray := prog_9_method_81_code
def yX7_undo : MethodName := ⟨RX7, "undo", "()I"⟩
abbrev cX7_body : ByteArray := prog_9_method_82_code
def yX7_body : MethodName := ⟨RX7, "body", "(I)V"⟩
abbrev cX7_pieceBends : ByteArray := prog_9_method_83_code
def yX7_pieceBends : MethodName := ⟨RX7, "pieceBends", "(II)I"⟩
abbrev cX7_bendsAct : ByteArray := prog_9_method_84_code
def yX7_bendsAct : MethodName := ⟨RX7, "bendsAct", "(II)I"⟩
abbrev cX7_pieceHolds : ByteArray := prog_9_method_85_code
def yX7_pieceHolds : MethodName := ⟨RX7, "pieceHolds", "(II)I"⟩
abbrev cX7_oarHolds : ByteArray := prog_9_method_86_code
def yX7_oarHolds : MethodName := ⟨RX7, "oarHolds", "(II)I"⟩
abbrev cX7_holdsAct : ByteArray := prog_9_method_87_code
def yX7_holdsAct : MethodName := ⟨RX7, "holdsAct", "(II)I"⟩
abbrev cX7_pieceTells : ByteArray := prog_9_method_88_code
def yX7_pieceTells : MethodName := ⟨RX7, "pieceTells", "(II)I"⟩
abbrev cX7_tellsAct : ByteArray := prog_9_method_89_code
def yX7_tellsAct : MethodName := ⟨RX7, "tellsAct", "(II)I"⟩
abbrev cX7_act : ByteArray := prog_9_method_90_code
def yX7_act : MethodName := ⟨RX7, "act", "(III)I"⟩
abbrev cX7_trace : ByteArray := prog_9_method_91_code
def yX7_trace : MethodName := ⟨RX7, "trace", "(I)I"⟩
abbrev cX7_taken : ByteArray := prog_9_method_92_code
def yX7_taken : MethodName := ⟨RX7, "taken", "(II)I"⟩
abbrev cX7_count : ByteArray := prog_9_method_93_code
def yX7_count : MethodName := ⟨RX7, "count", "(I)I"⟩
abbrev cX7_isTape : ByteArray := prog_9_method_94_code
def yX7_isTape : MethodName := ⟨RX7, "isTape", "(I)Z"⟩
abbrev cX7_tape : ByteArray := prog_9_method_95_code
def yX7_tape : MethodName := ⟨RX7, "tape", "(III)I"⟩
abbrev cX7_narrow : ByteArray := prog_9_method_96_code
def yX7_narrow : MethodName := ⟨RX7, "narrow", "(IJ)J"⟩
abbrev cX7_item : ByteArray := prog_9_method_97_code
def yX7_item : MethodName := ⟨RX7, "item", "(IIJ)I"⟩
abbrev cX7_read : ByteArray := prog_9_method_98_code
def yX7_read : MethodName := ⟨RX7, "read", "(II)J"⟩
abbrev cX7_shift : ByteArray := prog_9_method_99_code
def yX7_shift : MethodName := ⟨RX7, "shift", "(IIIII)I"⟩
def RJ11 : String := "java/lang/Character"
def TJ11 : u_T := fun k => match k with
  | _ => ("", "", "", false)
abbrev cJ11_isValidCodePoint_9a6ad : ByteArray := prog_10_method_11_code
def yJ11_isValidCodePoint_9a6ad : MethodName := ⟨RJ11, "isValidCodePoint", "(I)Z"⟩
abbrev cJ11_highSurrogate_5068e : ByteArray := prog_10_method_28_code
def yJ11_highSurrogate_5068e : MethodName := ⟨RJ11, "highSurrogate", "(I)C"⟩
abbrev cJ11_lowSurrogate_5068e : ByteArray := prog_10_method_29_code
def yJ11_lowSurrogate_5068e : MethodName := ⟨RJ11, "lowSurrogate", "(I)C"⟩
def RJ9 : String := "java/lang/Math"
def TJ9 : u_T := fun k => match k with
  | _ => ("", "", "", false)
abbrev cJ9_max_7cf53 : ByteArray := prog_11_method_65_code
def yJ9_max_7cf53 : MethodName := ⟨RJ9, "max", "(II)I"⟩
abbrev cJ9_min_7cf53 : ByteArray := prog_11_method_69_code
def yJ9_min_7cf53 : MethodName := ⟨RJ9, "min", "(II)I"⟩
def RJ0 : String := "java/lang/String"
def TJ0 : u_T := fun k => match k with
  | _ => ("", "", "", false)
abbrev cJ0_length_8abf5 : ByteArray := prog_12_method_54_code
def yJ0_length_8abf5 : MethodName := ⟨RJ0, "length", "()I"⟩
abbrev cJ0_charAt_5068e : ByteArray := prog_12_method_56_code
def yJ0_charAt_5068e : MethodName := ⟨RJ0, "charAt", "(I)C"⟩
abbrev cJ0_indexOf_0f7a4 : ByteArray := prog_12_method_79_code
def yJ0_indexOf_0f7a4 : MethodName := ⟨RJ0, "indexOf", "(I)I"⟩
abbrev cJ0_indexOf_7cf53 : ByteArray := prog_12_method_80_code
def yJ0_indexOf_7cf53 : MethodName := ⟨RJ0, "indexOf", "(II)I"⟩
abbrev cJ0_coder_7d493 : ByteArray := prog_12_method_152_code
def yJ0_coder_7d493 : MethodName := ⟨RJ0, "coder", "()B"⟩
abbrev cJ0_isLatin1_aae02 : ByteArray := prog_12_method_154_code
def yJ0_isLatin1_aae02 : MethodName := ⟨RJ0, "isLatin1", "()Z"⟩
abbrev cJ0_checkIndex_df160 : ByteArray := prog_12_method_155_code
def yJ0_checkIndex_df160 : MethodName := ⟨RJ0, "checkIndex", "(II)V"⟩
abbrev cJ0_checkBoundsBeginEnd_23922 : ByteArray := prog_12_method_158_code
def yJ0_checkBoundsBeginEnd_23922 : MethodName := ⟨RJ0, "checkBoundsBeginEnd", "(III)V"⟩
def RJ1 : String := "java/lang/StringLatin1"
def TJ1 : u_T := fun k => match k with
  | _ => ("", "", "", false)
abbrev cJ1_charAt_3b067 : ByteArray := prog_13_method_2_code
def yJ1_charAt_3b067 : MethodName := ⟨RJ1, "charAt", "([BI)C"⟩
abbrev cJ1_canEncode_9a6ad : ByteArray := prog_13_method_4_code
def yJ1_canEncode_9a6ad : MethodName := ⟨RJ1, "canEncode", "(I)Z"⟩
abbrev cJ1_indexOf_4cfef : ByteArray := prog_13_method_22_code
def yJ1_indexOf_4cfef : MethodName := ⟨RJ1, "indexOf", "([BIII)I"⟩
abbrev cJ1_indexOfChar_4cfef : ByteArray := prog_13_method_23_code
def yJ1_indexOfChar_4cfef : MethodName := ⟨RJ1, "indexOfChar", "([BIII)I"⟩
def RJ2 : String := "java/lang/StringUTF16"
def TJ2 : u_T := fun k => match k with
  | _ => ("", "", "", false)
abbrev cJ2_getChar_3b067 : ByteArray := prog_14_method_5_code
def yJ2_getChar_3b067 : MethodName := ⟨RJ2, "getChar", "([BI)C"⟩
abbrev cJ2_length_9d52b : ByteArray := prog_14_method_6_code
def yJ2_length_9d52b : MethodName := ⟨RJ2, "length", "([B)I"⟩
abbrev cJ2_indexOf_4cfef : ByteArray := prog_14_method_40_code
def yJ2_indexOf_4cfef : MethodName := ⟨RJ2, "indexOf", "([BIII)I"⟩
abbrev cJ2_indexOfChar_4cfef : ByteArray := prog_14_method_47_code
def yJ2_indexOfChar_4cfef : MethodName := ⟨RJ2, "indexOfChar", "([BIII)I"⟩
abbrev cJ2_indexOfCharUnsafe_4cfef : ByteArray := prog_14_method_48_code
def yJ2_indexOfCharUnsafe_4cfef : MethodName := ⟨RJ2, "indexOfCharUnsafe", "([BIII)I"⟩
abbrev cJ2_indexOfSupplementary_4cfef : ByteArray := prog_14_method_49_code
def yJ2_indexOfSupplementary_4cfef : MethodName := ⟨RJ2, "indexOfSupplementary", "([BIII)I"⟩
abbrev cJ2_charAt_3b067 : ByteArray := prog_14_method_83_code
def yJ2_charAt_3b067 : MethodName := ⟨RJ2, "charAt", "([BI)C"⟩
abbrev cJ2_checkIndex_2214a : ByteArray := prog_14_method_91_code
def yJ2_checkIndex_2214a : MethodName := ⟨RJ2, "checkIndex", "(I[B)V"⟩
abbrev cJ2_checkBoundsBeginEnd_d044e : ByteArray := prog_14_method_93_code
def yJ2_checkBoundsBeginEnd_d044e : MethodName := ⟨RJ2, "checkBoundsBeginEnd", "(II[B)V"⟩
def RJ10 : String := "java/lang/System"
def TJ10 : u_T := fun k => match k with
  | _ => ("", "", "", false)
def RJ3 : String := "jdk/internal/util/Preconditions"
def TJ3 : u_T := fun k => match k with
  | _ => ("", "", "", false)
abbrev cJ3_checkIndex_8e157 : ByteArray := prog_16_method_11_code
def yJ3_checkIndex_8e157 : MethodName := ⟨RJ3, "checkIndex", "(IILjava/util/function/BiFunction;)I"⟩
abbrev cJ3_checkFromToIndex_8c36e : ByteArray := prog_16_method_12_code
def yJ3_checkFromToIndex_8c36e : MethodName := ⟨RJ3, "checkFromToIndex", "(IIILjava/util/function/BiFunction;)I"⟩
def RL : String := "MastLeftLaw"
abbrev cL_law : ByteArray := code
def yL_law : MethodName := ⟨RL, "law", "([I)Z"⟩
