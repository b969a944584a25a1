section
-- ===== PART A: goes FIRST, ahead of the names: the tables' words, and 'selects' of the private methods out of them =====
/-- a private method of a class that the tables say can be made, by its rows of tables_1 -/
def lw_okq (q : MethodName × Nat) : Prop := (q.1.cls ≠ "java/lang/invoke/MethodHandle" ∧ q.1.cls ≠ "java/lang/invoke/VarHandle") ∧ Cond.instantiable q.1.cls q.2 ∈ tables_1 ∧ Cond.privateMethod q.1 ∈ tables_1 ∧ Cond.instanceMethod q.1 ∈ tables_1
theorem lw_p0 : lw_okq (⟨"MastLeft$Text", "readsClause", "()Z"⟩, 4) := ⟨⟨by decide +kernel, by decide +kernel⟩, List.mem_of_getElem? (i := 152) (by decide +kernel), List.mem_of_getElem? (i := 349) (by decide +kernel), List.mem_of_getElem? (i := 350) (by decide +kernel)⟩
theorem lw_p1 : lw_okq (⟨"MastLeft$Text", "takesWord", "()I"⟩, 4) := ⟨⟨by decide +kernel, by decide +kernel⟩, List.mem_of_getElem? (i := 152) (by decide +kernel), List.mem_of_getElem? (i := 353) (by decide +kernel), List.mem_of_getElem? (i := 354) (by decide +kernel)⟩
theorem lw_p2 : lw_okq (⟨"MastLeft$Text", "takes", "(I)Z"⟩, 4) := ⟨⟨by decide +kernel, by decide +kernel⟩, List.mem_of_getElem? (i := 152) (by decide +kernel), List.mem_of_getElem? (i := 399) (by decide +kernel), List.mem_of_getElem? (i := 400) (by decide +kernel)⟩
theorem lw_p3 : lw_okq (⟨"MastLeft$Text", "takesNumber", "()I"⟩, 4) := ⟨⟨by decide +kernel, by decide +kernel⟩, List.mem_of_getElem? (i := 152) (by decide +kernel), List.mem_of_getElem? (i := 403) (by decide +kernel), List.mem_of_getElem? (i := 404) (by decide +kernel)⟩
theorem lw_p4 : lw_okq (⟨"MastLeft$Text", "readsAny", "(I)Z"⟩, 4) := ⟨⟨by decide +kernel, by decide +kernel⟩, List.mem_of_getElem? (i := 152) (by decide +kernel), List.mem_of_getElem? (i := 407) (by decide +kernel), List.mem_of_getElem? (i := 408) (by decide +kernel)⟩
theorem lw_p5 : lw_okq (⟨"MastLeft$Text", "readsAll", "(I)Z"⟩, 4) := ⟨⟨by decide +kernel, by decide +kernel⟩, List.mem_of_getElem? (i := 152) (by decide +kernel), List.mem_of_getElem? (i := 411) (by decide +kernel), List.mem_of_getElem? (i := 412) (by decide +kernel)⟩
theorem lw_p6 : lw_okq (⟨"MastLeft$Text", "readsOne", "(I)Z"⟩, 4) := ⟨⟨by decide +kernel, by decide +kernel⟩, List.mem_of_getElem? (i := 152) (by decide +kernel), List.mem_of_getElem? (i := 415) (by decide +kernel), List.mem_of_getElem? (i := 416) (by decide +kernel)⟩
theorem lw_p7 : lw_okq (⟨"MastLeft", "bestRow", "(I)I"⟩, 15) := ⟨⟨by decide +kernel, by decide +kernel⟩, List.mem_of_getElem? (i := 17) (by decide +kernel), List.mem_of_getElem? (i := 558) (by decide +kernel), List.mem_of_getElem? (i := 559) (by decide +kernel)⟩
theorem lw_p8 : lw_okq (⟨"MastLeft", "worth", "(II)I"⟩, 15) := ⟨⟨by decide +kernel, by decide +kernel⟩, List.mem_of_getElem? (i := 17) (by decide +kernel), List.mem_of_getElem? (i := 562) (by decide +kernel), List.mem_of_getElem? (i := 563) (by decide +kernel)⟩
theorem lw_p9 : lw_okq (⟨"MastLeft", "fitting", "([IIII)I"⟩, 15) := ⟨⟨by decide +kernel, by decide +kernel⟩, List.mem_of_getElem? (i := 17) (by decide +kernel), List.mem_of_getElem? (i := 596) (by decide +kernel), List.mem_of_getElem? (i := 597) (by decide +kernel)⟩
theorem lw_p10 : lw_okq (⟨"MastLeft", "seenIsSo", "()Z"⟩, 15) := ⟨⟨by decide +kernel, by decide +kernel⟩, List.mem_of_getElem? (i := 17) (by decide +kernel), List.mem_of_getElem? (i := 600) (by decide +kernel), List.mem_of_getElem? (i := 601) (by decide +kernel)⟩
theorem lw_p11 : lw_okq (⟨"MastLeft", "followPlan", "(II)V"⟩, 15) := ⟨⟨by decide +kernel, by decide +kernel⟩, List.mem_of_getElem? (i := 17) (by decide +kernel), List.mem_of_getElem? (i := 629) (by decide +kernel), List.mem_of_getElem? (i := 630) (by decide +kernel)⟩
theorem lw_p12 : lw_okq (⟨"MastLeft$Acts", "run", "(IIII)I"⟩, 5) := ⟨⟨by decide +kernel, by decide +kernel⟩, List.mem_of_getElem? (i := 173) (by decide +kernel), List.mem_of_getElem? (i := 668) (by decide +kernel), List.mem_of_getElem? (i := 669) (by decide +kernel)⟩
theorem lw_p13 : lw_okq (⟨"MastLeftModel", "in", "(III)Z"⟩, 87) := ⟨⟨by decide +kernel, by decide +kernel⟩, List.mem_of_getElem? (i := 717) (by decide +kernel), List.mem_of_getElem? (i := 991) (by decide +kernel), List.mem_of_getElem? (i := 992) (by decide +kernel)⟩
theorem lw_p14 : lw_okq (⟨"MastLeftModel", "isPiece", "(I)Z"⟩, 87) := ⟨⟨by decide +kernel, by decide +kernel⟩, List.mem_of_getElem? (i := 717) (by decide +kernel), List.mem_of_getElem? (i := 999) (by decide +kernel), List.mem_of_getElem? (i := 1000) (by decide +kernel)⟩
theorem lw_p15 : lw_okq (⟨"MastLeftModel", "isFeet", "(I)Z"⟩, 87) := ⟨⟨by decide +kernel, by decide +kernel⟩, List.mem_of_getElem? (i := 717) (by decide +kernel), List.mem_of_getElem? (i := 1003) (by decide +kernel), List.mem_of_getElem? (i := 1004) (by decide +kernel)⟩
def lw_privs_1 : List (MethodName × Nat) := [(⟨"MastLeft$Text", "readsClause", "()Z"⟩, 4), (⟨"MastLeft$Text", "takesWord", "()I"⟩, 4), (⟨"MastLeft$Text", "takes", "(I)Z"⟩, 4), (⟨"MastLeft$Text", "takesNumber", "()I"⟩, 4), (⟨"MastLeft$Text", "readsAny", "(I)Z"⟩, 4), (⟨"MastLeft$Text", "readsAll", "(I)Z"⟩, 4), (⟨"MastLeft$Text", "readsOne", "(I)Z"⟩, 4), (⟨"MastLeft", "bestRow", "(I)I"⟩, 15), (⟨"MastLeft", "worth", "(II)I"⟩, 15), (⟨"MastLeft", "fitting", "([IIII)I"⟩, 15), (⟨"MastLeft", "seenIsSo", "()Z"⟩, 15), (⟨"MastLeft", "followPlan", "(II)V"⟩, 15), (⟨"MastLeft$Acts", "run", "(IIII)I"⟩, 5), (⟨"MastLeftModel", "in", "(III)Z"⟩, 87), (⟨"MastLeftModel", "isPiece", "(I)Z"⟩, 87), (⟨"MastLeftModel", "isFeet", "(I)Z"⟩, 87)]
theorem lw_r1 : ∀ q ∈ lw_privs_1, lw_okq q := List.forall_mem_cons.mpr ⟨lw_p0, List.forall_mem_cons.mpr ⟨lw_p1, List.forall_mem_cons.mpr ⟨lw_p2, List.forall_mem_cons.mpr ⟨lw_p3, List.forall_mem_cons.mpr ⟨lw_p4, List.forall_mem_cons.mpr ⟨lw_p5, List.forall_mem_cons.mpr ⟨lw_p6, List.forall_mem_cons.mpr ⟨lw_p7, List.forall_mem_cons.mpr ⟨lw_p8, List.forall_mem_cons.mpr ⟨lw_p9, List.forall_mem_cons.mpr ⟨lw_p10, List.forall_mem_cons.mpr ⟨lw_p11, List.forall_mem_cons.mpr ⟨lw_p12, List.forall_mem_cons.mpr ⟨lw_p13, List.forall_mem_cons.mpr ⟨lw_p14, List.forall_mem_cons.mpr ⟨lw_p15, fun _ h => absurd h List.not_mem_nil⟩⟩⟩⟩⟩⟩⟩⟩⟩⟩⟩⟩⟩⟩⟩⟩
theorem lw_p16 : lw_okq (⟨"MastLeftModel", "placeOf", "(I)I"⟩, 87) := ⟨⟨by decide +kernel, by decide +kernel⟩, List.mem_of_getElem? (i := 717) (by decide +kernel), List.mem_of_getElem? (i := 1015) (by decide +kernel), List.mem_of_getElem? (i := 1016) (by decide +kernel)⟩
theorem lw_p17 : lw_okq (⟨"MastLeftModel", "hoists", "(I)V"⟩, 87) := ⟨⟨by decide +kernel, by decide +kernel⟩, List.mem_of_getElem? (i := 717) (by decide +kernel), List.mem_of_getElem? (i := 1019) (by decide +kernel), List.mem_of_getElem? (i := 1020) (by decide +kernel)⟩
theorem lw_p18 : lw_okq (⟨"MastLeftModel", "isTrim", "(I)Z"⟩, 87) := ⟨⟨by decide +kernel, by decide +kernel⟩, List.mem_of_getElem? (i := 717) (by decide +kernel), List.mem_of_getElem? (i := 1031) (by decide +kernel), List.mem_of_getElem? (i := 1032) (by decide +kernel)⟩
theorem lw_p19 : lw_okq (⟨"MastLeftModel", "goesText", "(I)Z"⟩, 87) := ⟨⟨by decide +kernel, by decide +kernel⟩, List.mem_of_getElem? (i := 717) (by decide +kernel), List.mem_of_getElem? (i := 1043) (by decide +kernel), List.mem_of_getElem? (i := 1044) (by decide +kernel)⟩
theorem lw_p20 : lw_okq (⟨"MastLeftModel", "takesClause", "(I)Z"⟩, 87) := ⟨⟨by decide +kernel, by decide +kernel⟩, List.mem_of_getElem? (i := 717) (by decide +kernel), List.mem_of_getElem? (i := 1047) (by decide +kernel), List.mem_of_getElem? (i := 1048) (by decide +kernel)⟩
theorem lw_p21 : lw_okq (⟨"MastLeftModel", "takesHead", "(I)Z"⟩, 87) := ⟨⟨by decide +kernel, by decide +kernel⟩, List.mem_of_getElem? (i := 717) (by decide +kernel), List.mem_of_getElem? (i := 1051) (by decide +kernel), List.mem_of_getElem? (i := 1052) (by decide +kernel)⟩
theorem lw_p22 : lw_okq (⟨"MastLeftModel", "next", "()I"⟩, 87) := ⟨⟨by decide +kernel, by decide +kernel⟩, List.mem_of_getElem? (i := 717) (by decide +kernel), List.mem_of_getElem? (i := 1055) (by decide +kernel), List.mem_of_getElem? (i := 1056) (by decide +kernel)⟩
theorem lw_p23 : lw_okq (⟨"MastLeftModel", "takesWord", "(II)Z"⟩, 87) := ⟨⟨by decide +kernel, by decide +kernel⟩, List.mem_of_getElem? (i := 717) (by decide +kernel), List.mem_of_getElem? (i := 1059) (by decide +kernel), List.mem_of_getElem? (i := 1060) (by decide +kernel)⟩
theorem lw_p24 : lw_okq (⟨"MastLeftModel", "takes", "(I)Z"⟩, 87) := ⟨⟨by decide +kernel, by decide +kernel⟩, List.mem_of_getElem? (i := 717) (by decide +kernel), List.mem_of_getElem? (i := 1063) (by decide +kernel), List.mem_of_getElem? (i := 1064) (by decide +kernel)⟩
theorem lw_p25 : lw_okq (⟨"MastLeftModel", "second", "()I"⟩, 87) := ⟨⟨by decide +kernel, by decide +kernel⟩, List.mem_of_getElem? (i := 717) (by decide +kernel), List.mem_of_getElem? (i := 1067) (by decide +kernel), List.mem_of_getElem? (i := 1068) (by decide +kernel)⟩
theorem lw_p26 : lw_okq (⟨"MastLeftModel", "takesNumber", "()Z"⟩, 87) := ⟨⟨by decide +kernel, by decide +kernel⟩, List.mem_of_getElem? (i := 717) (by decide +kernel), List.mem_of_getElem? (i := 1071) (by decide +kernel), List.mem_of_getElem? (i := 1072) (by decide +kernel)⟩
theorem lw_p27 : lw_okq (⟨"MastLeftModel", "isDigit", "()Z"⟩, 87) := ⟨⟨by decide +kernel, by decide +kernel⟩, List.mem_of_getElem? (i := 717) (by decide +kernel), List.mem_of_getElem? (i := 1075) (by decide +kernel), List.mem_of_getElem? (i := 1076) (by decide +kernel)⟩
theorem lw_p28 : lw_okq (⟨"MastLeftModel", "takesE", "(I)Z"⟩, 87) := ⟨⟨by decide +kernel, by decide +kernel⟩, List.mem_of_getElem? (i := 717) (by decide +kernel), List.mem_of_getElem? (i := 1079) (by decide +kernel), List.mem_of_getElem? (i := 1080) (by decide +kernel)⟩
theorem lw_p29 : lw_okq (⟨"MastLeftModel", "takesTest", "()Z"⟩, 87) := ⟨⟨by decide +kernel, by decide +kernel⟩, List.mem_of_getElem? (i := 717) (by decide +kernel), List.mem_of_getElem? (i := 1083) (by decide +kernel), List.mem_of_getElem? (i := 1084) (by decide +kernel)⟩
theorem lw_p30 : lw_okq (⟨"MastLeftModel", "place", "(I)I"⟩, 87) := ⟨⟨by decide +kernel, by decide +kernel⟩, List.mem_of_getElem? (i := 717) (by decide +kernel), List.mem_of_getElem? (i := 1087) (by decide +kernel), List.mem_of_getElem? (i := 1088) (by decide +kernel)⟩
theorem lw_p31 : lw_okq (⟨"MastLeftModel", "emits", "(I)V"⟩, 87) := ⟨⟨by decide +kernel, by decide +kernel⟩, List.mem_of_getElem? (i := 717) (by decide +kernel), List.mem_of_getElem? (i := 1091) (by decide +kernel), List.mem_of_getElem? (i := 1092) (by decide +kernel)⟩
def lw_privs_2 : List (MethodName × Nat) := [(⟨"MastLeftModel", "placeOf", "(I)I"⟩, 87), (⟨"MastLeftModel", "hoists", "(I)V"⟩, 87), (⟨"MastLeftModel", "isTrim", "(I)Z"⟩, 87), (⟨"MastLeftModel", "goesText", "(I)Z"⟩, 87), (⟨"MastLeftModel", "takesClause", "(I)Z"⟩, 87), (⟨"MastLeftModel", "takesHead", "(I)Z"⟩, 87), (⟨"MastLeftModel", "next", "()I"⟩, 87), (⟨"MastLeftModel", "takesWord", "(II)Z"⟩, 87), (⟨"MastLeftModel", "takes", "(I)Z"⟩, 87), (⟨"MastLeftModel", "second", "()I"⟩, 87), (⟨"MastLeftModel", "takesNumber", "()Z"⟩, 87), (⟨"MastLeftModel", "isDigit", "()Z"⟩, 87), (⟨"MastLeftModel", "takesE", "(I)Z"⟩, 87), (⟨"MastLeftModel", "takesTest", "()Z"⟩, 87), (⟨"MastLeftModel", "place", "(I)I"⟩, 87), (⟨"MastLeftModel", "emits", "(I)V"⟩, 87)]
theorem lw_r2 : ∀ q ∈ lw_privs_2, lw_okq q := List.forall_mem_cons.mpr ⟨lw_p16, List.forall_mem_cons.mpr ⟨lw_p17, List.forall_mem_cons.mpr ⟨lw_p18, List.forall_mem_cons.mpr ⟨lw_p19, List.forall_mem_cons.mpr ⟨lw_p20, List.forall_mem_cons.mpr ⟨lw_p21, List.forall_mem_cons.mpr ⟨lw_p22, List.forall_mem_cons.mpr ⟨lw_p23, List.forall_mem_cons.mpr ⟨lw_p24, List.forall_mem_cons.mpr ⟨lw_p25, List.forall_mem_cons.mpr ⟨lw_p26, List.forall_mem_cons.mpr ⟨lw_p27, List.forall_mem_cons.mpr ⟨lw_p28, List.forall_mem_cons.mpr ⟨lw_p29, List.forall_mem_cons.mpr ⟨lw_p30, List.forall_mem_cons.mpr ⟨lw_p31, fun _ h => absurd h List.not_mem_nil⟩⟩⟩⟩⟩⟩⟩⟩⟩⟩⟩⟩⟩⟩⟩⟩
theorem lw_p32 : lw_okq (⟨"MastLeftModel", "whole", "()V"⟩, 87) := ⟨⟨by decide +kernel, by decide +kernel⟩, List.mem_of_getElem? (i := 717) (by decide +kernel), List.mem_of_getElem? (i := 1095) (by decide +kernel), List.mem_of_getElem? (i := 1096) (by decide +kernel)⟩
theorem lw_p33 : lw_okq (⟨"MastLeftModel", "settle", "(I)V"⟩, 87) := ⟨⟨by decide +kernel, by decide +kernel⟩, List.mem_of_getElem? (i := 717) (by decide +kernel), List.mem_of_getElem? (i := 1099) (by decide +kernel), List.mem_of_getElem? (i := 1100) (by decide +kernel)⟩
theorem lw_p34 : lw_okq (⟨"MastLeftModel", "heart", "(I)I"⟩, 87) := ⟨⟨by decide +kernel, by decide +kernel⟩, List.mem_of_getElem? (i := 717) (by decide +kernel), List.mem_of_getElem? (i := 1107) (by decide +kernel), List.mem_of_getElem? (i := 1108) (by decide +kernel)⟩
theorem lw_p35 : lw_okq (⟨"MastLeftModel", "begin", "()I"⟩, 87) := ⟨⟨by decide +kernel, by decide +kernel⟩, List.mem_of_getElem? (i := 717) (by decide +kernel), List.mem_of_getElem? (i := 1111) (by decide +kernel), List.mem_of_getElem? (i := 1112) (by decide +kernel)⟩
theorem lw_p36 : lw_okq (⟨"MastLeftModel", "behind", "()I"⟩, 87) := ⟨⟨by decide +kernel, by decide +kernel⟩, List.mem_of_getElem? (i := 717) (by decide +kernel), List.mem_of_getElem? (i := 1115) (by decide +kernel), List.mem_of_getElem? (i := 1116) (by decide +kernel)⟩
theorem lw_p37 : lw_okq (⟨"MastLeftModel", "holds", "(II)Z"⟩, 87) := ⟨⟨by decide +kernel, by decide +kernel⟩, List.mem_of_getElem? (i := 717) (by decide +kernel), List.mem_of_getElem? (i := 1119) (by decide +kernel), List.mem_of_getElem? (i := 1120) (by decide +kernel)⟩
theorem lw_p38 : lw_okq (⟨"MastLeftModel", "factOf", "(II)I"⟩, 87) := ⟨⟨by decide +kernel, by decide +kernel⟩, List.mem_of_getElem? (i := 717) (by decide +kernel), List.mem_of_getElem? (i := 1123) (by decide +kernel), List.mem_of_getElem? (i := 1124) (by decide +kernel)⟩
theorem lw_p39 : lw_okq (⟨"MastLeftModel", "strength", "(I)I"⟩, 87) := ⟨⟨by decide +kernel, by decide +kernel⟩, List.mem_of_getElem? (i := 717) (by decide +kernel), List.mem_of_getElem? (i := 1127) (by decide +kernel), List.mem_of_getElem? (i := 1128) (by decide +kernel)⟩
theorem lw_p40 : lw_okq (⟨"MastLeftModel", "least0", "(I)I"⟩, 87) := ⟨⟨by decide +kernel, by decide +kernel⟩, List.mem_of_getElem? (i := 717) (by decide +kernel), List.mem_of_getElem? (i := 1131) (by decide +kernel), List.mem_of_getElem? (i := 1132) (by decide +kernel)⟩
theorem lw_p41 : lw_okq (⟨"MastLeftModel", "above", "(I)I"⟩, 87) := ⟨⟨by decide +kernel, by decide +kernel⟩, List.mem_of_getElem? (i := 717) (by decide +kernel), List.mem_of_getElem? (i := 1135) (by decide +kernel), List.mem_of_getElem? (i := 1136) (by decide +kernel)⟩
theorem lw_p42 : lw_okq (⟨"MastLeftModel", "lastOf", "(II)I"⟩, 87) := ⟨⟨by decide +kernel, by decide +kernel⟩, List.mem_of_getElem? (i := 717) (by decide +kernel), List.mem_of_getElem? (i := 1139) (by decide +kernel), List.mem_of_getElem? (i := 1140) (by decide +kernel)⟩
theorem lw_p43 : lw_okq (⟨"MastLeftModel", "load", "(I)I"⟩, 87) := ⟨⟨by decide +kernel, by decide +kernel⟩, List.mem_of_getElem? (i := 717) (by decide +kernel), List.mem_of_getElem? (i := 1143) (by decide +kernel), List.mem_of_getElem? (i := 1144) (by decide +kernel)⟩
theorem lw_p44 : lw_okq (⟨"MastLeftModel", "height", "()I"⟩, 87) := ⟨⟨by decide +kernel, by decide +kernel⟩, List.mem_of_getElem? (i := 717) (by decide +kernel), List.mem_of_getElem? (i := 1151) (by decide +kernel), List.mem_of_getElem? (i := 1152) (by decide +kernel)⟩
theorem lw_p45 : lw_okq (⟨"MastLeftModel", "milesNow", "()I"⟩, 87) := ⟨⟨by decide +kernel, by decide +kernel⟩, List.mem_of_getElem? (i := 717) (by decide +kernel), List.mem_of_getElem? (i := 1155) (by decide +kernel), List.mem_of_getElem? (i := 1156) (by decide +kernel)⟩
theorem lw_p46 : lw_okq (⟨"MastLeftModel", "isDays", "(I)Z"⟩, 87) := ⟨⟨by decide +kernel, by decide +kernel⟩, List.mem_of_getElem? (i := 717) (by decide +kernel), List.mem_of_getElem? (i := 1163) (by decide +kernel), List.mem_of_getElem? (i := 1164) (by decide +kernel)⟩
theorem lw_p47 : lw_okq (⟨"MastLeftModel", "goDays", "(I)V"⟩, 87) := ⟨⟨by decide +kernel, by decide +kernel⟩, List.mem_of_getElem? (i := 717) (by decide +kernel), List.mem_of_getElem? (i := 1167) (by decide +kernel), List.mem_of_getElem? (i := 1168) (by decide +kernel)⟩
def lw_privs_3 : List (MethodName × Nat) := [(⟨"MastLeftModel", "whole", "()V"⟩, 87), (⟨"MastLeftModel", "settle", "(I)V"⟩, 87), (⟨"MastLeftModel", "heart", "(I)I"⟩, 87), (⟨"MastLeftModel", "begin", "()I"⟩, 87), (⟨"MastLeftModel", "behind", "()I"⟩, 87), (⟨"MastLeftModel", "holds", "(II)Z"⟩, 87), (⟨"MastLeftModel", "factOf", "(II)I"⟩, 87), (⟨"MastLeftModel", "strength", "(I)I"⟩, 87), (⟨"MastLeftModel", "least0", "(I)I"⟩, 87), (⟨"MastLeftModel", "above", "(I)I"⟩, 87), (⟨"MastLeftModel", "lastOf", "(II)I"⟩, 87), (⟨"MastLeftModel", "load", "(I)I"⟩, 87), (⟨"MastLeftModel", "height", "()I"⟩, 87), (⟨"MastLeftModel", "milesNow", "()I"⟩, 87), (⟨"MastLeftModel", "isDays", "(I)Z"⟩, 87), (⟨"MastLeftModel", "goDays", "(I)V"⟩, 87)]
theorem lw_r3 : ∀ q ∈ lw_privs_3, lw_okq q := List.forall_mem_cons.mpr ⟨lw_p32, List.forall_mem_cons.mpr ⟨lw_p33, List.forall_mem_cons.mpr ⟨lw_p34, List.forall_mem_cons.mpr ⟨lw_p35, List.forall_mem_cons.mpr ⟨lw_p36, List.forall_mem_cons.mpr ⟨lw_p37, List.forall_mem_cons.mpr ⟨lw_p38, List.forall_mem_cons.mpr ⟨lw_p39, List.forall_mem_cons.mpr ⟨lw_p40, List.forall_mem_cons.mpr ⟨lw_p41, List.forall_mem_cons.mpr ⟨lw_p42, List.forall_mem_cons.mpr ⟨lw_p43, List.forall_mem_cons.mpr ⟨lw_p44, List.forall_mem_cons.mpr ⟨lw_p45, List.forall_mem_cons.mpr ⟨lw_p46, List.forall_mem_cons.mpr ⟨lw_p47, fun _ h => absurd h List.not_mem_nil⟩⟩⟩⟩⟩⟩⟩⟩⟩⟩⟩⟩⟩⟩⟩⟩
theorem lw_p48 : lw_okq (⟨"MastLeftModel", "goDay", "()I"⟩, 87) := ⟨⟨by decide +kernel, by decide +kernel⟩, List.mem_of_getElem? (i := 717) (by decide +kernel), List.mem_of_getElem? (i := 1171) (by decide +kernel), List.mem_of_getElem? (i := 1172) (by decide +kernel)⟩
theorem lw_p49 : lw_okq (⟨"MastLeftModel", "breaksAt", "()I"⟩, 87) := ⟨⟨by decide +kernel, by decide +kernel⟩, List.mem_of_getElem? (i := 717) (by decide +kernel), List.mem_of_getElem? (i := 1175) (by decide +kernel), List.mem_of_getElem? (i := 1176) (by decide +kernel)⟩
theorem lw_p50 : lw_okq (⟨"MastLeftModel", "goWear", "()V"⟩, 87) := ⟨⟨by decide +kernel, by decide +kernel⟩, List.mem_of_getElem? (i := 717) (by decide +kernel), List.mem_of_getElem? (i := 1179) (by decide +kernel), List.mem_of_getElem? (i := 1180) (by decide +kernel)⟩
theorem lw_p51 : lw_okq (⟨"MastLeftModel", "least", "(II)I"⟩, 87) := ⟨⟨by decide +kernel, by decide +kernel⟩, List.mem_of_getElem? (i := 717) (by decide +kernel), List.mem_of_getElem? (i := 1183) (by decide +kernel), List.mem_of_getElem? (i := 1184) (by decide +kernel)⟩
theorem lw_p52 : lw_okq (⟨"MastLeftModel", "save", "()V"⟩, 87) := ⟨⟨by decide +kernel, by decide +kernel⟩, List.mem_of_getElem? (i := 717) (by decide +kernel), List.mem_of_getElem? (i := 1191) (by decide +kernel), List.mem_of_getElem? (i := 1192) (by decide +kernel)⟩
theorem lw_p53 : lw_okq (⟨"MastLeftModel", "putBack", "()V"⟩, 87) := ⟨⟨by decide +kernel, by decide +kernel⟩, List.mem_of_getElem? (i := 717) (by decide +kernel), List.mem_of_getElem? (i := 1196) (by decide +kernel), List.mem_of_getElem? (i := 1197) (by decide +kernel)⟩
theorem lw_p54 : lw_okq (⟨"MastLeftModel", "firstThen", "(I)I"⟩, 87) := ⟨⟨by decide +kernel, by decide +kernel⟩, List.mem_of_getElem? (i := 717) (by decide +kernel), List.mem_of_getElem? (i := 1204) (by decide +kernel), List.mem_of_getElem? (i := 1205) (by decide +kernel)⟩
theorem lw_p55 : lw_okq (⟨"MastLeftModel", "wentThen", "(I)I"⟩, 87) := ⟨⟨by decide +kernel, by decide +kernel⟩, List.mem_of_getElem? (i := 717) (by decide +kernel), List.mem_of_getElem? (i := 1216) (by decide +kernel), List.mem_of_getElem? (i := 1217) (by decide +kernel)⟩
theorem lw_p56 : lw_okq (⟨"MastLeftModel", "layBest", "(I)V"⟩, 87) := ⟨⟨by decide +kernel, by decide +kernel⟩, List.mem_of_getElem? (i := 717) (by decide +kernel), List.mem_of_getElem? (i := 1228) (by decide +kernel), List.mem_of_getElem? (i := 1229) (by decide +kernel)⟩
theorem lw_p57 : lw_okq (⟨"MastLeftModel", "tries", "(IIIII)V"⟩, 87) := ⟨⟨by decide +kernel, by decide +kernel⟩, List.mem_of_getElem? (i := 717) (by decide +kernel), List.mem_of_getElem? (i := 1232) (by decide +kernel), List.mem_of_getElem? (i := 1233) (by decide +kernel)⟩
theorem lw_p58 : lw_okq (⟨"MastLeftModel", "layOrder", "(I)Z"⟩, 87) := ⟨⟨by decide +kernel, by decide +kernel⟩, List.mem_of_getElem? (i := 717) (by decide +kernel), List.mem_of_getElem? (i := 1240) (by decide +kernel), List.mem_of_getElem? (i := 1241) (by decide +kernel)⟩
theorem lw_p59 : lw_okq (⟨"MastLeftModel", "isSeen", "()Z"⟩, 87) := ⟨⟨by decide +kernel, by decide +kernel⟩, List.mem_of_getElem? (i := 717) (by decide +kernel), List.mem_of_getElem? (i := 1252) (by decide +kernel), List.mem_of_getElem? (i := 1253) (by decide +kernel)⟩
theorem lw_p60 : lw_okq (⟨"MastLeftModel", "lowest", "(III)J"⟩, 87) := ⟨⟨by decide +kernel, by decide +kernel⟩, List.mem_of_getElem? (i := 717) (by decide +kernel), List.mem_of_getElem? (i := 1265) (by decide +kernel), List.mem_of_getElem? (i := 1266) (by decide +kernel)⟩
theorem lw_p61 : lw_okq (⟨"MastLeftModel", "divisor", "(II)I"⟩, 87) := ⟨⟨by decide +kernel, by decide +kernel⟩, List.mem_of_getElem? (i := 717) (by decide +kernel), List.mem_of_getElem? (i := 1269) (by decide +kernel), List.mem_of_getElem? (i := 1270) (by decide +kernel)⟩
theorem lw_p62 : lw_okq (⟨"MastLeftModel", "goPlan", "(II)V"⟩, 87) := ⟨⟨by decide +kernel, by decide +kernel⟩, List.mem_of_getElem? (i := 717) (by decide +kernel), List.mem_of_getElem? (i := 1285) (by decide +kernel), List.mem_of_getElem? (i := 1286) (by decide +kernel)⟩
theorem lw_p63 : lw_okq (⟨"MastLeftModel", "isTape", "(I)Z"⟩, 87) := ⟨⟨by decide +kernel, by decide +kernel⟩, List.mem_of_getElem? (i := 717) (by decide +kernel), List.mem_of_getElem? (i := 1301) (by decide +kernel), List.mem_of_getElem? (i := 1302) (by decide +kernel)⟩
def lw_privs_4 : List (MethodName × Nat) := [(⟨"MastLeftModel", "goDay", "()I"⟩, 87), (⟨"MastLeftModel", "breaksAt", "()I"⟩, 87), (⟨"MastLeftModel", "goWear", "()V"⟩, 87), (⟨"MastLeftModel", "least", "(II)I"⟩, 87), (⟨"MastLeftModel", "save", "()V"⟩, 87), (⟨"MastLeftModel", "putBack", "()V"⟩, 87), (⟨"MastLeftModel", "firstThen", "(I)I"⟩, 87), (⟨"MastLeftModel", "wentThen", "(I)I"⟩, 87), (⟨"MastLeftModel", "layBest", "(I)V"⟩, 87), (⟨"MastLeftModel", "tries", "(IIIII)V"⟩, 87), (⟨"MastLeftModel", "layOrder", "(I)Z"⟩, 87), (⟨"MastLeftModel", "isSeen", "()Z"⟩, 87), (⟨"MastLeftModel", "lowest", "(III)J"⟩, 87), (⟨"MastLeftModel", "divisor", "(II)I"⟩, 87), (⟨"MastLeftModel", "goPlan", "(II)V"⟩, 87), (⟨"MastLeftModel", "isTape", "(I)Z"⟩, 87)]
theorem lw_r4 : ∀ q ∈ lw_privs_4, lw_okq q := List.forall_mem_cons.mpr ⟨lw_p48, List.forall_mem_cons.mpr ⟨lw_p49, List.forall_mem_cons.mpr ⟨lw_p50, List.forall_mem_cons.mpr ⟨lw_p51, List.forall_mem_cons.mpr ⟨lw_p52, List.forall_mem_cons.mpr ⟨lw_p53, List.forall_mem_cons.mpr ⟨lw_p54, List.forall_mem_cons.mpr ⟨lw_p55, List.forall_mem_cons.mpr ⟨lw_p56, List.forall_mem_cons.mpr ⟨lw_p57, List.forall_mem_cons.mpr ⟨lw_p58, List.forall_mem_cons.mpr ⟨lw_p59, List.forall_mem_cons.mpr ⟨lw_p60, List.forall_mem_cons.mpr ⟨lw_p61, List.forall_mem_cons.mpr ⟨lw_p62, List.forall_mem_cons.mpr ⟨lw_p63, fun _ h => absurd h List.not_mem_nil⟩⟩⟩⟩⟩⟩⟩⟩⟩⟩⟩⟩⟩⟩⟩⟩
theorem lw_p64 : lw_okq (⟨"MastLeftModel", "bendsAct", "(II)I"⟩, 87) := ⟨⟨by decide +kernel, by decide +kernel⟩, List.mem_of_getElem? (i := 717) (by decide +kernel), List.mem_of_getElem? (i := 1317) (by decide +kernel), List.mem_of_getElem? (i := 1318) (by decide +kernel)⟩
theorem lw_p65 : lw_okq (⟨"MastLeftModel", "body", "(I)V"⟩, 87) := ⟨⟨by decide +kernel, by decide +kernel⟩, List.mem_of_getElem? (i := 717) (by decide +kernel), List.mem_of_getElem? (i := 1321) (by decide +kernel), List.mem_of_getElem? (i := 1322) (by decide +kernel)⟩
theorem lw_p66 : lw_okq (⟨"MastLeftModel", "pieceBends", "(II)I"⟩, 87) := ⟨⟨by decide +kernel, by decide +kernel⟩, List.mem_of_getElem? (i := 717) (by decide +kernel), List.mem_of_getElem? (i := 1325) (by decide +kernel), List.mem_of_getElem? (i := 1326) (by decide +kernel)⟩
theorem lw_p67 : lw_okq (⟨"MastLeftModel", "holdsAct", "(II)I"⟩, 87) := ⟨⟨by decide +kernel, by decide +kernel⟩, List.mem_of_getElem? (i := 717) (by decide +kernel), List.mem_of_getElem? (i := 1329) (by decide +kernel), List.mem_of_getElem? (i := 1330) (by decide +kernel)⟩
theorem lw_p68 : lw_okq (⟨"MastLeftModel", "oarHolds", "(II)I"⟩, 87) := ⟨⟨by decide +kernel, by decide +kernel⟩, List.mem_of_getElem? (i := 717) (by decide +kernel), List.mem_of_getElem? (i := 1333) (by decide +kernel), List.mem_of_getElem? (i := 1334) (by decide +kernel)⟩
theorem lw_p69 : lw_okq (⟨"MastLeftModel", "pieceHolds", "(II)I"⟩, 87) := ⟨⟨by decide +kernel, by decide +kernel⟩, List.mem_of_getElem? (i := 717) (by decide +kernel), List.mem_of_getElem? (i := 1337) (by decide +kernel), List.mem_of_getElem? (i := 1338) (by decide +kernel)⟩
theorem lw_p70 : lw_okq (⟨"MastLeftModel", "tellsAct", "(II)I"⟩, 87) := ⟨⟨by decide +kernel, by decide +kernel⟩, List.mem_of_getElem? (i := 717) (by decide +kernel), List.mem_of_getElem? (i := 1341) (by decide +kernel), List.mem_of_getElem? (i := 1342) (by decide +kernel)⟩
theorem lw_p71 : lw_okq (⟨"MastLeftModel", "pieceTells", "(II)I"⟩, 87) := ⟨⟨by decide +kernel, by decide +kernel⟩, List.mem_of_getElem? (i := 717) (by decide +kernel), List.mem_of_getElem? (i := 1345) (by decide +kernel), List.mem_of_getElem? (i := 1346) (by decide +kernel)⟩
theorem lw_p72 : lw_okq (⟨"MastLeftModel", "narrow", "(IJ)J"⟩, 87) := ⟨⟨by decide +kernel, by decide +kernel⟩, List.mem_of_getElem? (i := 717) (by decide +kernel), List.mem_of_getElem? (i := 1369) (by decide +kernel), List.mem_of_getElem? (i := 1370) (by decide +kernel)⟩
def lw_privs_5 : List (MethodName × Nat) := [(⟨"MastLeftModel", "bendsAct", "(II)I"⟩, 87), (⟨"MastLeftModel", "body", "(I)V"⟩, 87), (⟨"MastLeftModel", "pieceBends", "(II)I"⟩, 87), (⟨"MastLeftModel", "holdsAct", "(II)I"⟩, 87), (⟨"MastLeftModel", "oarHolds", "(II)I"⟩, 87), (⟨"MastLeftModel", "pieceHolds", "(II)I"⟩, 87), (⟨"MastLeftModel", "tellsAct", "(II)I"⟩, 87), (⟨"MastLeftModel", "pieceTells", "(II)I"⟩, 87), (⟨"MastLeftModel", "narrow", "(IJ)J"⟩, 87)]
theorem lw_r5 : ∀ q ∈ lw_privs_5, lw_okq q := List.forall_mem_cons.mpr ⟨lw_p64, List.forall_mem_cons.mpr ⟨lw_p65, List.forall_mem_cons.mpr ⟨lw_p66, List.forall_mem_cons.mpr ⟨lw_p67, List.forall_mem_cons.mpr ⟨lw_p68, List.forall_mem_cons.mpr ⟨lw_p69, List.forall_mem_cons.mpr ⟨lw_p70, List.forall_mem_cons.mpr ⟨lw_p71, List.forall_mem_cons.mpr ⟨lw_p72, fun _ h => absurd h List.not_mem_nil⟩⟩⟩⟩⟩⟩⟩⟩⟩
def lw_privs : List (MethodName × Nat) := lw_privs_1 ++ (lw_privs_2 ++ (lw_privs_3 ++ (lw_privs_4 ++ (lw_privs_5))))
def lw_tbl : List Cond := k2_sels lw_privs ++ tables_1
theorem lw_privs_ok : ∀ q ∈ lw_privs, lw_okq q := by
  show ∀ q ∈ lw_privs_1 ++ (lw_privs_2 ++ (lw_privs_3 ++ (lw_privs_4 ++ (lw_privs_5)))), lw_okq q
  exact List.forall_mem_append.mpr ⟨lw_r1, List.forall_mem_append.mpr ⟨lw_r2, List.forall_mem_append.mpr ⟨lw_r3, List.forall_mem_append.mpr ⟨lw_r4, lw_r5⟩⟩⟩⟩
-- ===== end of PART A; then your names; then what follows =====
def RX0 : String := "MastLeft$Acts"
def TX0 : u_T := fun k => match k with
  | 0 => ("MastLeft$Acts", "bodies", "[I", true)
  | 1 => ("MastLeft$Acts", "ran", "I", false)
  | 2 => ("MastLeft$Acts", "kind", "I", false)
  | 3 => ("MastLeft$Acts", "number", "I", false)
  | _ => ("MastLeft$Acts", "v", "I", false)
def tyX0 : Nat → FieldType := fun k => match k with
  | 0 => .array .int
  | 1 => .int
  | 2 => .int
  | 3 => .int
  | _ => .int
abbrev wsX00 : List Cond := u_ws RX0 TX0 5
theorem nmX0 : ∀ a, a < 5 → ∀ b, b < 5 → a ≠ b → (TX0 a).2.1 ≠ (TX0 b).2.1 := by decide +kernel
theorem tyX0_ok : ∀ k, k < 5 → parseFieldDescriptor (TX0 k).2.2.1 = some (tyX0 k) := by decide +kernel
abbrev cX0_init : ByteArray := prog_2_method_1_code
def yX0_init : MethodName := ⟨RX0, "<init>", "()V"⟩
abbrev cX0_start : ByteArray := prog_2_method_2_code
def yX0_start : MethodName := ⟨RX0, "start", "(IIIII)I"⟩
abbrev cX0_run : ByteArray := prog_2_method_3_code
def yX0_run : MethodName := ⟨RX0, "run", "(IIII)I"⟩
abbrev cX0_ownerOf : ByteArray := prog_2_method_4_code
def yX0_ownerOf : MethodName := ⟨RX0, "ownerOf", "(II)I"⟩
def RX1 : String := "MastLeft$Deck"
def TX1 : u_T := fun k => match k with
  | 0 => ("MastLeft$Deck", "kind", "[I", true)
  | 1 => ("MastLeft$Deck", "v", "[I", true)
  | 2 => ("MastLeft$Deck", "length", "[I", true)
  | 3 => ("MastLeft$Deck", "wear", "[I", true)
  | 4 => ("MastLeft$Deck", "broke", "[I", true)
  | 5 => ("MastLeft$Deck", "rows", "[I", true)
  | 6 => ("MastLeft$Deck", "mast", "[I", true)
  | 7 => ("MastLeft$Deck", "pieces", "I", false)
  | 8 => ("MastLeft$Deck", "stands", "I", false)
  | 9 => ("MastLeft$Deck", "sail", "I", false)
  | 10 => ("MastLeft$Deck", "stays", "I", false)
  | 11 => ("MastLeft$Deck", "went", "I", false)
  | 12 => ("MastLeft$Deck", "day", "I", false)
  | _ => ("MastLeft$Deck", "ocean", "LMastLeft$Ocean;", false)
def tyX1 : Nat → FieldType := fun k => match k with
  | 0 => .array .int
  | 1 => .array .int
  | 2 => .array .int
  | 3 => .array .int
  | 4 => .array .int
  | 5 => .array .int
  | 6 => .array .int
  | 7 => .int
  | 8 => .int
  | 9 => .int
  | 10 => .int
  | 11 => .int
  | 12 => .int
  | _ => .object "MastLeft$Ocean"
abbrev wsX10 : List Cond := u_ws RX1 TX1 14
theorem nmX1 : ∀ a, a < 14 → ∀ b, b < 14 → a ≠ b → (TX1 a).2.1 ≠ (TX1 b).2.1 := by decide +kernel
theorem tyX1_ok : ∀ k, k < 14 → parseFieldDescriptor (TX1 k).2.2.1 = some (tyX1 k) := by decide +kernel
abbrev cX1_init : ByteArray := prog_3_method_1_code
def yX1_init : MethodName := ⟨RX1, "<init>", "(LMastLeft$Ocean;)V"⟩
abbrev cX1_copyFrom : ByteArray := prog_3_method_2_code
def yX1_copyFrom : MethodName := ⟨RX1, "copyFrom", "(LMastLeft$Deck;)V"⟩
abbrev cX1_startFrom : ByteArray := prog_3_method_3_code
def yX1_startFrom : MethodName := ⟨RX1, "startFrom", "(LMastLeft$Deck;)V"⟩
abbrev cX1_take : ByteArray := prog_3_method_4_code
def yX1_take : MethodName := ⟨RX1, "take", "(III)I"⟩
abbrev cX1_has : ByteArray := prog_3_method_5_code
def yX1_has : MethodName := ⟨RX1, "has", "(I)Z"⟩
abbrev cX1_placeOf : ByteArray := prog_3_method_6_code
def yX1_placeOf : MethodName := ⟨RX1, "placeOf", "(I)I"⟩
abbrev cX1_putUpon : ByteArray := prog_3_method_7_code
def yX1_putUpon : MethodName := ⟨RX1, "putUpon", "(I)V"⟩
abbrev cX1_lashRow : ByteArray := prog_3_method_8_code
def yX1_lashRow : MethodName := ⟨RX1, "lashRow", "(I)Z"⟩
abbrev cX1_standsOfTheSame : ByteArray := prog_3_method_9_code
def yX1_standsOfTheSame : MethodName := ⟨RX1, "standsOfTheSame", "(LMastLeft$Deck;)Z"⟩
abbrev cX1_above : ByteArray := prog_3_method_10_code
def yX1_above : MethodName := ⟨RX1, "above", "(I)I"⟩
abbrev cX1_height : ByteArray := prog_3_method_11_code
def yX1_height : MethodName := ⟨RX1, "height", "()I"⟩
abbrev cX1_load : ByteArray := prog_3_method_12_code
def yX1_load : MethodName := ⟨RX1, "load", "(I)I"⟩
abbrev cX1_miles : ByteArray := prog_3_method_13_code
def yX1_miles : MethodName := ⟨RX1, "miles", "()I"⟩
abbrev cX1_strength : ByteArray := prog_3_method_14_code
def yX1_strength : MethodName := ⟨RX1, "strength", "(I)I"⟩
abbrev cX1_breaking : ByteArray := prog_3_method_15_code
def yX1_breaking : MethodName := ⟨RX1, "breaking", "()I"⟩
abbrev cX1_dayGoes : ByteArray := prog_3_method_16_code
def yX1_dayGoes : MethodName := ⟨RX1, "dayGoes", "()I"⟩
abbrev cX1_nothingBreaksIn : ByteArray := prog_3_method_17_code
def yX1_nothingBreaksIn : MethodName := ⟨RX1, "nothingBreaksIn", "(I)Z"⟩
def RX2 : String := "MastLeft$Ocean"
def TX2 : u_T := fun k => match k with
  | 0 => ("MastLeft$Ocean", "step", "[I", true)
  | 1 => ("MastLeft$Ocean", "letter", "[I", true)
  | 2 => ("MastLeft$Ocean", "number", "[I", true)
  | 3 => ("MastLeft$Ocean", "facts", "[I", true)
  | 4 => ("MastLeft$Ocean", "steps", "I", false)
  | 5 => ("MastLeft$Ocean", "wind", "I", false)
  | _ => ("MastLeft$Ocean", "lash", "I", false)
def tyX2 : Nat → FieldType := fun k => match k with
  | 0 => .array .int
  | 1 => .array .int
  | 2 => .array .int
  | 3 => .array .int
  | 4 => .int
  | 5 => .int
  | _ => .int
abbrev wsX20 : List Cond := u_ws RX2 TX2 7
theorem nmX2 : ∀ a, a < 7 → ∀ b, b < 7 → a ≠ b → (TX2 a).2.1 ≠ (TX2 b).2.1 := by decide +kernel
theorem tyX2_ok : ∀ k, k < 7 → parseFieldDescriptor (TX2 k).2.2.1 = some (tyX2 k) := by decide +kernel
abbrev cX2_init : ByteArray := prog_4_method_1_code
def yX2_init : MethodName := ⟨RX2, "<init>", "()V"⟩
abbrev cX2_becomeCalm : ByteArray := prog_4_method_2_code
def yX2_becomeCalm : MethodName := ⟨RX2, "becomeCalm", "()V"⟩
abbrev cX2_add : ByteArray := prog_4_method_3_code
def yX2_add : MethodName := ⟨RX2, "add", "(III)V"⟩
abbrev cX2_heart : ByteArray := prog_4_method_4_code
def yX2_heart : MethodName := ⟨RX2, "heart", "(LMastLeft$Deck;I)I"⟩
def RX3 : String := "MastLeft$Pairs"
def TX3 : u_T := fun k => match k with
  | 0 => ("MastLeft$Pairs", "left", "[I", true)
  | 1 => ("MastLeft$Pairs", "right", "[I", true)
  | _ => ("MastLeft$Pairs", "size", "I", false)
def tyX3 : Nat → FieldType := fun k => match k with
  | 0 => .array .int
  | 1 => .array .int
  | _ => .int
abbrev wsX30 : List Cond := u_ws RX3 TX3 3
theorem nmX3 : ∀ a, a < 3 → ∀ b, b < 3 → a ≠ b → (TX3 a).2.1 ≠ (TX3 b).2.1 := by decide +kernel
theorem tyX3_ok : ∀ k, k < 3 → parseFieldDescriptor (TX3 k).2.2.1 = some (tyX3 k) := by decide +kernel
abbrev cX3_init : ByteArray := prog_5_method_1_code
def yX3_init : MethodName := ⟨RX3, "<init>", "(I)V"⟩
abbrev cX3_add : ByteArray := prog_5_method_2_code
def yX3_add : MethodName := ⟨RX3, "add", "(II)Z"⟩
abbrev cX3_clear : ByteArray := prog_5_method_3_code
def yX3_clear : MethodName := ⟨RX3, "clear", "()I"⟩
abbrev cX3_copyFrom : ByteArray := prog_5_method_4_code
def yX3_copyFrom : MethodName := ⟨RX3, "copyFrom", "(LMastLeft$Pairs;)V"⟩
def RX4 : String := "MastLeft$Tape"
def TX4 : u_T := fun k => match k with
  | 0 => ("MastLeft$Tape", "items", "[J", true)
  | 1 => ("MastLeft$Tape", "sort", "I", false)
  | _ => ("MastLeft$Tape", "size", "I", false)
def tyX4 : Nat → FieldType := fun k => match k with
  | 0 => .array .long
  | 1 => .int
  | _ => .int
abbrev wsX40 : List Cond := u_ws RX4 TX4 3
theorem nmX4 : ∀ a, a < 3 → ∀ b, b < 3 → a ≠ b → (TX4 a).2.1 ≠ (TX4 b).2.1 := by decide +kernel
theorem tyX4_ok : ∀ k, k < 3 → parseFieldDescriptor (TX4 k).2.2.1 = some (tyX4 k) := by decide +kernel
abbrev cX4_init : ByteArray := prog_6_method_1_code
def yX4_init : MethodName := ⟨RX4, "<init>", "()V"⟩
abbrev cX4_become : ByteArray := prog_6_method_2_code
def yX4_become : MethodName := ⟨RX4, "become", "(II)V"⟩
abbrev cX4_cut : ByteArray := prog_6_method_3_code
def yX4_cut : MethodName := ⟨RX4, "cut", "(J)J"⟩
def RX5 : String := "MastLeft$Text"
def TX5 : u_T := fun k => match k with
  | 0 => ("MastLeft$Text", "signs", "[B", true)
  | 1 => ("MastLeft$Text", "into", "LMastLeft$Ocean;", false)
  | 2 => ("MastLeft$Text", "at", "I", false)
  | _ => ("MastLeft$Text", "size", "I", false)
def tyX5 : Nat → FieldType := fun k => match k with
  | 0 => .array .byte
  | 1 => .object "MastLeft$Ocean"
  | 2 => .int
  | _ => .int
abbrev wsX50 : List Cond := u_ws RX5 TX5 4
theorem nmX5 : ∀ a, a < 4 → ∀ b, b < 4 → a ≠ b → (TX5 a).2.1 ≠ (TX5 b).2.1 := by decide +kernel
theorem tyX5_ok : ∀ k, k < 4 → parseFieldDescriptor (TX5 k).2.2.1 = some (tyX5 k) := by decide +kernel
abbrev cX5_init : ByteArray := prog_7_method_1_code
def yX5_init : MethodName := ⟨RX5, "<init>", "()V"⟩
abbrev cX5_add : ByteArray := prog_7_method_2_code
def yX5_add : MethodName := ⟨RX5, "add", "(B)Z"⟩
abbrev cX5_readInto : ByteArray := prog_7_method_3_code
def yX5_readInto : MethodName := ⟨RX5, "readInto", "(LMastLeft$Ocean;)I"⟩
abbrev cX5_readsClause : ByteArray := prog_7_method_4_code
def yX5_readsClause : MethodName := ⟨RX5, "readsClause", "()Z"⟩
abbrev cX5_readsAny : ByteArray := prog_7_method_5_code
def yX5_readsAny : MethodName := ⟨RX5, "readsAny", "(I)Z"⟩
abbrev cX5_readsAll : ByteArray := prog_7_method_6_code
def yX5_readsAll : MethodName := ⟨RX5, "readsAll", "(I)Z"⟩
abbrev cX5_readsOne : ByteArray := prog_7_method_7_code
def yX5_readsOne : MethodName := ⟨RX5, "readsOne", "(I)Z"⟩
abbrev cX5_takes : ByteArray := prog_7_method_8_code
def yX5_takes : MethodName := ⟨RX5, "takes", "(I)Z"⟩
abbrev cX5_takesWord : ByteArray := prog_7_method_9_code
def yX5_takesWord : MethodName := ⟨RX5, "takesWord", "()I"⟩
abbrev cX5_takesNumber : ByteArray := prog_7_method_10_code
def yX5_takesNumber : MethodName := ⟨RX5, "takesNumber", "()I"⟩
def RX6 : String := "MastLeft"
def TX6 : u_T := fun k => match k with
  | 0 => ("MastLeft", "now", "LMastLeft$Deck;", true)
  | 1 => ("MastLeft", "kept", "LMastLeft$Deck;", true)
  | 2 => ("MastLeft", "trial", "LMastLeft$Deck;", true)
  | 3 => ("MastLeft", "seen", "LMastLeft$Pairs;", true)
  | 4 => ("MastLeft", "plans", "LMastLeft$Pairs;", true)
  | 5 => ("MastLeft", "books", "LMastLeft$Pairs;", true)
  | 6 => ("MastLeft", "keptSeen", "LMastLeft$Pairs;", true)
  | 7 => ("MastLeft", "keptPlans", "LMastLeft$Pairs;", true)
  | 8 => ("MastLeft", "keptBooks", "LMastLeft$Pairs;", true)
  | 9 => ("MastLeft", "imaged", "Z", false)
  | 10 => ("MastLeft", "oceans", "[LMastLeft$Ocean;", true)
  | 11 => ("MastLeft", "oceansRead", "I", false)
  | 12 => ("MastLeft", "text", "LMastLeft$Text;", true)
  | 13 => ("MastLeft", "acts", "LMastLeft$Acts;", true)
  | _ => ("MastLeft", "tapes", "[LMastLeft$Tape;", true)
def tyX6 : Nat → FieldType := fun k => match k with
  | 0 => .object "MastLeft$Deck"
  | 1 => .object "MastLeft$Deck"
  | 2 => .object "MastLeft$Deck"
  | 3 => .object "MastLeft$Pairs"
  | 4 => .object "MastLeft$Pairs"
  | 5 => .object "MastLeft$Pairs"
  | 6 => .object "MastLeft$Pairs"
  | 7 => .object "MastLeft$Pairs"
  | 8 => .object "MastLeft$Pairs"
  | 9 => .boolean
  | 10 => .array (.object "MastLeft$Ocean")
  | 11 => .int
  | 12 => .object "MastLeft$Text"
  | 13 => .object "MastLeft$Acts"
  | _ => .array (.object "MastLeft$Tape")
abbrev wsX60 : List Cond := u_ws RX6 TX6 15
theorem nmX6 : ∀ a, a < 15 → ∀ b, b < 15 → a ≠ b → (TX6 a).2.1 ≠ (TX6 b).2.1 := by decide +kernel
theorem tyX6_ok : ∀ k, k < 15 → parseFieldDescriptor (TX6 k).2.2.1 = some (tyX6 k) := by decide +kernel
abbrev cX6_init : ByteArray := prog_1_method_1_code
def yX6_init : MethodName := ⟨RX6, "<init>", "()V"⟩
abbrev cX6_piece : ByteArray := prog_1_method_2_code
def yX6_piece : MethodName := ⟨RX6, "piece", "(III)I"⟩
abbrev cX6_of : ByteArray := prog_1_method_3_code
def yX6_of : MethodName := ⟨RX6, "of", "(II)I"⟩
abbrev cX6_set : ByteArray := prog_1_method_4_code
def yX6_set : MethodName := ⟨RX6, "set", "(III)I"⟩
abbrev cX6_row : ByteArray := prog_1_method_5_code
def yX6_row : MethodName := ⟨RX6, "row", "(III)I"⟩
abbrev cX6_hoist : ByteArray := prog_1_method_6_code
def yX6_hoist : MethodName := ⟨RX6, "hoist", "(I)I"⟩
abbrev cX6_lower : ByteArray := prog_1_method_7_code
def yX6_lower : MethodName := ⟨RX6, "lower", "(I)I"⟩
abbrev cX6_trim : ByteArray := prog_1_method_8_code
def yX6_trim : MethodName := ⟨RX6, "trim", "(II)I"⟩
abbrev cX6_feed : ByteArray := prog_1_method_9_code
def yX6_feed : MethodName := ⟨RX6, "feed", "(I)I"⟩
abbrev cX6_ocean : ByteArray := prog_1_method_10_code
def yX6_ocean : MethodName := ⟨RX6, "ocean", "()I"⟩
abbrev cX6_told : ByteArray := prog_1_method_11_code
def yX6_told : MethodName := ⟨RX6, "told", "(I)I"⟩
abbrev cX6_pass : ByteArray := prog_1_method_12_code
def yX6_pass : MethodName := ⟨RX6, "pass", "(I)I"⟩
abbrev cX6_on : ByteArray := prog_1_method_13_code
def yX6_on : MethodName := ⟨RX6, "on", "(II)I"⟩
abbrev cX6_first : ByteArray := prog_1_method_14_code
def yX6_first : MethodName := ⟨RX6, "first", "(I)I"⟩
abbrev cX6_port : ByteArray := prog_1_method_15_code
def yX6_port : MethodName := ⟨RX6, "port", "(I)I"⟩
abbrev cX6_spread : ByteArray := prog_1_method_16_code
def yX6_spread : MethodName := ⟨RX6, "spread", "()I"⟩
abbrev cX6_fewest : ByteArray := prog_1_method_17_code
def yX6_fewest : MethodName := ⟨RX6, "fewest", "(I)I"⟩
abbrev cX6_best : ByteArray := prog_1_method_18_code
def yX6_best : MethodName := ⟨RX6, "best", "(II)I"⟩
abbrev cX6_longest : ByteArray := prog_1_method_19_code
def yX6_longest : MethodName := ⟨RX6, "longest", "(I)I"⟩
abbrev cX6_bestRow : ByteArray := prog_1_method_20_code
def yX6_bestRow : MethodName := ⟨RX6, "bestRow", "(I)I"⟩
abbrev cX6_worth : ByteArray := prog_1_method_21_code
def yX6_worth : MethodName := ⟨RX6, "worth", "(II)I"⟩
abbrev cX6_see : ByteArray := prog_1_method_22_code
def yX6_see : MethodName := ⟨RX6, "see", "(II)I"⟩
abbrev cX6_worn : ByteArray := prog_1_method_23_code
def yX6_worn : MethodName := ⟨RX6, "worn", "(II)I"⟩
abbrev cX6_can : ByteArray := prog_1_method_24_code
def yX6_can : MethodName := ⟨RX6, "can", "(II)I"⟩
abbrev cX6_fitting : ByteArray := prog_1_method_25_code
def yX6_fitting : MethodName := ⟨RX6, "fitting", "([IIII)I"⟩
abbrev cX6_seenIsSo : ByteArray := prog_1_method_26_code
def yX6_seenIsSo : MethodName := ⟨RX6, "seenIsSo", "()Z"⟩
abbrev cX6_odds : ByteArray := prog_1_method_27_code
def yX6_odds : MethodName := ⟨RX6, "odds", "(II)J"⟩
abbrev cX6_mean : ByteArray := prog_1_method_28_code
def yX6_mean : MethodName := ⟨RX6, "mean", "(I)J"⟩
abbrev cX6_inLowestTerms : ByteArray := prog_1_method_29_code
def yX6_inLowestTerms : MethodName := ⟨RX6, "inLowestTerms", "(III)J"⟩
abbrev cX6_plan : ByteArray := prog_1_method_30_code
def yX6_plan : MethodName := ⟨RX6, "plan", "(II)I"⟩
abbrev cX6_ends : ByteArray := prog_1_method_31_code
def yX6_ends : MethodName := ⟨RX6, "ends", "(I)I"⟩
abbrev cX6_followPlan : ByteArray := prog_1_method_32_code
def yX6_followPlan : MethodName := ⟨RX6, "followPlan", "(II)V"⟩
abbrev cX6_book : ByteArray := prog_1_method_33_code
def yX6_book : MethodName := ⟨RX6, "book", "(II)I"⟩
abbrev cX6_looked : ByteArray := prog_1_method_34_code
def yX6_looked : MethodName := ⟨RX6, "looked", "()I"⟩
abbrev cX6_judge : ByteArray := prog_1_method_35_code
def yX6_judge : MethodName := ⟨RX6, "judge", "(II)I"⟩
abbrev cX6_image : ByteArray := prog_1_method_36_code
def yX6_image : MethodName := ⟨RX6, "image", "()I"⟩
abbrev cX6_undo : ByteArray := prog_1_method_37_code
def yX6_undo : MethodName := ⟨RX6, "undo", "()I"⟩
abbrev cX6_act : ByteArray := prog_1_method_38_code
def yX6_act : MethodName := ⟨RX6, "act", "(III)I"⟩
abbrev cX6_trace : ByteArray := prog_1_method_39_code
def yX6_trace : MethodName := ⟨RX6, "trace", "(I)I"⟩
abbrev cX6_taken : ByteArray := prog_1_method_40_code
def yX6_taken : MethodName := ⟨RX6, "taken", "(II)I"⟩
abbrev cX6_count : ByteArray := prog_1_method_41_code
def yX6_count : MethodName := ⟨RX6, "count", "(I)I"⟩
abbrev cX6_tape : ByteArray := prog_1_method_42_code
def yX6_tape : MethodName := ⟨RX6, "tape", "(III)I"⟩
abbrev cX6_item : ByteArray := prog_1_method_43_code
def yX6_item : MethodName := ⟨RX6, "item", "(IIJ)I"⟩
abbrev cX6_read : ByteArray := prog_1_method_44_code
def yX6_read : MethodName := ⟨RX6, "read", "(II)J"⟩
abbrev cX6_shift : ByteArray := prog_1_method_45_code
def yX6_shift : MethodName := ⟨RX6, "shift", "(IIIII)I"⟩
abbrev cX6_within : ByteArray := prog_1_method_46_code
def yX6_within : MethodName := ⟨RX6, "within", "(III)Z"⟩
def RX7 : String := "MastLeftModel"
def TX7 : u_T := fun k => match k with
  | 0 => ("MastLeftModel", "pieces", "I", false)
  | 1 => ("MastLeftModel", "high", "I", false)
  | 2 => ("MastLeftModel", "sail", "I", false)
  | 3 => ("MastLeftModel", "stays", "I", false)
  | 4 => ("MastLeftModel", "miles0", "I", false)
  | 5 => ("MastLeftModel", "days", "I", false)
  | 6 => ("MastLeftModel", "kind", "[I", true)
  | 7 => ("MastLeftModel", "v", "[I", true)
  | 8 => ("MastLeftModel", "long0", "[I", true)
  | 9 => ("MastLeftModel", "wear", "[I", true)
  | 10 => ("MastLeftModel", "broke", "[I", true)
  | 11 => ("MastLeftModel", "rows", "[I", true)
  | 12 => ("MastLeftModel", "mast", "[I", true)
  | 13 => ("MastLeftModel", "oceans", "I", false)
  | 14 => ("MastLeftModel", "the", "I", false)
  | 15 => ("MastLeftModel", "fed", "I", false)
  | 16 => ("MastLeftModel", "at", "I", false)
  | 17 => ("MastLeftModel", "digits", "I", false)
  | 18 => ("MastLeftModel", "text", "[I", true)
  | 19 => ("MastLeftModel", "clauses", "[I", true)
  | 20 => ("MastLeftModel", "word", "[I", true)
  | 21 => ("MastLeftModel", "number", "[I", true)
  | 22 => ("MastLeftModel", "from", "[I", true)
  | 23 => ("MastLeftModel", "to", "[I", true)
  | 24 => ("MastLeftModel", "sign", "[I", true)
  | 25 => ("MastLeftModel", "waits", "[I", true)
  | 26 => ("MastLeftModel", "signs", "I", false)
  | 27 => ("MastLeftModel", "waiting", "I", false)
  | 28 => ("MastLeftModel", "open", "I", false)
  | 29 => ("MastLeftModel", "letters", "[I", true)
  | 30 => ("MastLeftModel", "pile", "[Z", true)
  | 31 => ("MastLeftModel", "mostMiles", "I", false)
  | 32 => ("MastLeftModel", "mostBroke", "I", false)
  | 33 => ("MastLeftModel", "loads", "[I", true)
  | 34 => ("MastLeftModel", "keptHigh", "I", false)
  | 35 => ("MastLeftModel", "keptSail", "I", false)
  | 36 => ("MastLeftModel", "keptStays", "I", false)
  | 37 => ("MastLeftModel", "keptMiles", "I", false)
  | 38 => ("MastLeftModel", "keptDays", "I", false)
  | 39 => ("MastLeftModel", "keptLong", "[I", true)
  | 40 => ("MastLeftModel", "keptWear", "[I", true)
  | 41 => ("MastLeftModel", "keptBroke", "[I", true)
  | 42 => ("MastLeftModel", "keptMast", "[I", true)
  | 43 => ("MastLeftModel", "brokeWhich", "I", false)
  | 44 => ("MastLeftModel", "bestRow", "[I", true)
  | 45 => ("MastLeftModel", "bestMany", "I", false)
  | 46 => ("MastLeftModel", "bestMuch", "I", false)
  | 47 => ("MastLeftModel", "longRow", "[I", true)
  | 48 => ("MastLeftModel", "seen", "I", false)
  | 49 => ("MastLeftModel", "seenMany", "[I", true)
  | 50 => ("MastLeftModel", "seenWhen", "[I", true)
  | 51 => ("MastLeftModel", "plans", "I", false)
  | 52 => ("MastLeftModel", "books", "I", false)
  | 53 => ("MastLeftModel", "planWhat", "[I", true)
  | 54 => ("MastLeftModel", "planNumber", "[I", true)
  | 55 => ("MastLeftModel", "bookWho", "[I", true)
  | 56 => ("MastLeftModel", "bookLong", "[I", true)
  | 57 => ("MastLeftModel", "hasImage", "Z", false)
  | 58 => ("MastLeftModel", "imageThe", "I", false)
  | 59 => ("MastLeftModel", "imagePieces", "I", false)
  | 60 => ("MastLeftModel", "imageHigh", "I", false)
  | 61 => ("MastLeftModel", "imageSail", "I", false)
  | 62 => ("MastLeftModel", "imageStays", "I", false)
  | 63 => ("MastLeftModel", "imageMiles", "I", false)
  | 64 => ("MastLeftModel", "imageDays", "I", false)
  | 65 => ("MastLeftModel", "imageSeen", "I", false)
  | 66 => ("MastLeftModel", "imagePlans", "I", false)
  | 67 => ("MastLeftModel", "imageBooks", "I", false)
  | 68 => ("MastLeftModel", "imageKind", "[I", true)
  | 69 => ("MastLeftModel", "imageV", "[I", true)
  | 70 => ("MastLeftModel", "imageLong", "[I", true)
  | 71 => ("MastLeftModel", "imageWear", "[I", true)
  | 72 => ("MastLeftModel", "imageBroke", "[I", true)
  | 73 => ("MastLeftModel", "imageRows", "[I", true)
  | 74 => ("MastLeftModel", "imageMast", "[I", true)
  | 75 => ("MastLeftModel", "imageMany", "[I", true)
  | 76 => ("MastLeftModel", "imageWhen", "[I", true)
  | 77 => ("MastLeftModel", "imageWhat", "[I", true)
  | 78 => ("MastLeftModel", "imageNumber", "[I", true)
  | 79 => ("MastLeftModel", "imageBookWho", "[I", true)
  | 80 => ("MastLeftModel", "imageBookLong", "[I", true)
  | 81 => ("MastLeftModel", "ran", "I", false)
  | 82 => ("MastLeftModel", "bodies", "[I", true)
  | 83 => ("MastLeftModel", "sort", "[I", true)
  | 84 => ("MastLeftModel", "length", "[I", true)
  | 85 => ("MastLeftModel", "item", "[J", true)
  | _ => ("MastLeftModel", "aside", "[J", true)
def tyX7 : Nat → FieldType := fun k => match k with
  | 0 => .int
  | 1 => .int
  | 2 => .int
  | 3 => .int
  | 4 => .int
  | 5 => .int
  | 6 => .array .int
  | 7 => .array .int
  | 8 => .array .int
  | 9 => .array .int
  | 10 => .array .int
  | 11 => .array .int
  | 12 => .array .int
  | 13 => .int
  | 14 => .int
  | 15 => .int
  | 16 => .int
  | 17 => .int
  | 18 => .array .int
  | 19 => .array .int
  | 20 => .array .int
  | 21 => .array .int
  | 22 => .array .int
  | 23 => .array .int
  | 24 => .array .int
  | 25 => .array .int
  | 26 => .int
  | 27 => .int
  | 28 => .int
  | 29 => .array .int
  | 30 => .array .boolean
  | 31 => .int
  | 32 => .int
  | 33 => .array .int
  | 34 => .int
  | 35 => .int
  | 36 => .int
  | 37 => .int
  | 38 => .int
  | 39 => .array .int
  | 40 => .array .int
  | 41 => .array .int
  | 42 => .array .int
  | 43 => .int
  | 44 => .array .int
  | 45 => .int
  | 46 => .int
  | 47 => .array .int
  | 48 => .int
  | 49 => .array .int
  | 50 => .array .int
  | 51 => .int
  | 52 => .int
  | 53 => .array .int
  | 54 => .array .int
  | 55 => .array .int
  | 56 => .array .int
  | 57 => .boolean
  | 58 => .int
  | 59 => .int
  | 60 => .int
  | 61 => .int
  | 62 => .int
  | 63 => .int
  | 64 => .int
  | 65 => .int
  | 66 => .int
  | 67 => .int
  | 68 => .array .int
  | 69 => .array .int
  | 70 => .array .int
  | 71 => .array .int
  | 72 => .array .int
  | 73 => .array .int
  | 74 => .array .int
  | 75 => .array .int
  | 76 => .array .int
  | 77 => .array .int
  | 78 => .array .int
  | 79 => .array .int
  | 80 => .array .int
  | 81 => .int
  | 82 => .array .int
  | 83 => .array .int
  | 84 => .array .int
  | 85 => .array .long
  | _ => .array .long
abbrev wsX70 : List Cond := u_ws RX7 TX7 87
theorem nmX7 : ∀ a, a < 87 → ∀ b, b < 87 → a ≠ b → (TX7 a).2.1 ≠ (TX7 b).2.1 := by decide +kernel
theorem tyX7_ok : ∀ k, k < 87 → parseFieldDescriptor (TX7 k).2.2.1 = some (tyX7 k) := by decide +kernel
abbrev cX7_init : ByteArray := prog_9_method_1_code
def yX7_init : MethodName := ⟨RX7, "<init>", "()V"⟩
abbrev cX7_in : ByteArray := prog_9_method_2_code
def yX7_in : MethodName := ⟨RX7, "in", "(III)Z"⟩
abbrev cX7_least0 : ByteArray := prog_9_method_3_code
def yX7_least0 : MethodName := ⟨RX7, "least0", "(I)I"⟩
abbrev cX7_least : ByteArray := prog_9_method_4_code
def yX7_least : MethodName := ⟨RX7, "least", "(II)I"⟩
abbrev cX7_isPiece : ByteArray := prog_9_method_5_code
def yX7_isPiece : MethodName := ⟨RX7, "isPiece", "(I)Z"⟩
abbrev cX7_isFeet : ByteArray := prog_9_method_6_code
def yX7_isFeet : MethodName := ⟨RX7, "isFeet", "(I)Z"⟩
abbrev cX7_isDays : ByteArray := prog_9_method_7_code
def yX7_isDays : MethodName := ⟨RX7, "isDays", "(I)Z"⟩
abbrev cX7_isTrim : ByteArray := prog_9_method_8_code
def yX7_isTrim : MethodName := ⟨RX7, "isTrim", "(I)Z"⟩
abbrev cX7_piece : ByteArray := prog_9_method_9_code
def yX7_piece : MethodName := ⟨RX7, "piece", "(III)I"⟩
abbrev cX7_set : ByteArray := prog_9_method_10_code
def yX7_set : MethodName := ⟨RX7, "set", "(III)I"⟩
abbrev cX7_row : ByteArray := prog_9_method_11_code
def yX7_row : MethodName := ⟨RX7, "row", "(III)I"⟩
abbrev cX7_placeOf : ByteArray := prog_9_method_12_code
def yX7_placeOf : MethodName := ⟨RX7, "placeOf", "(I)I"⟩
abbrev cX7_hoists : ByteArray := prog_9_method_13_code
def yX7_hoists : MethodName := ⟨RX7, "hoists", "(I)V"⟩
abbrev cX7_hoist : ByteArray := prog_9_method_14_code
def yX7_hoist : MethodName := ⟨RX7, "hoist", "(I)I"⟩
abbrev cX7_lower : ByteArray := prog_9_method_15_code
def yX7_lower : MethodName := ⟨RX7, "lower", "(I)I"⟩
abbrev cX7_trim : ByteArray := prog_9_method_16_code
def yX7_trim : MethodName := ⟨RX7, "trim", "(II)I"⟩
abbrev cX7_feed : ByteArray := prog_9_method_17_code
def yX7_feed : MethodName := ⟨RX7, "feed", "(I)I"⟩
abbrev cX7_next : ByteArray := prog_9_method_18_code
def yX7_next : MethodName := ⟨RX7, "next", "()I"⟩
abbrev cX7_second : ByteArray := prog_9_method_19_code
def yX7_second : MethodName := ⟨RX7, "second", "()I"⟩
abbrev cX7_takes : ByteArray := prog_9_method_20_code
def yX7_takes : MethodName := ⟨RX7, "takes", "(I)Z"⟩
abbrev cX7_takesWord : ByteArray := prog_9_method_21_code
def yX7_takesWord : MethodName := ⟨RX7, "takesWord", "(II)Z"⟩
abbrev cX7_isDigit : ByteArray := prog_9_method_22_code
def yX7_isDigit : MethodName := ⟨RX7, "isDigit", "()Z"⟩
abbrev cX7_takesNumber : ByteArray := prog_9_method_23_code
def yX7_takesNumber : MethodName := ⟨RX7, "takesNumber", "()Z"⟩
abbrev cX7_emits : ByteArray := prog_9_method_24_code
def yX7_emits : MethodName := ⟨RX7, "emits", "(I)V"⟩
abbrev cX7_whole : ByteArray := prog_9_method_25_code
def yX7_whole : MethodName := ⟨RX7, "whole", "()V"⟩
abbrev cX7_settle : ByteArray := prog_9_method_26_code
def yX7_settle : MethodName := ⟨RX7, "settle", "(I)V"⟩
abbrev cX7_place : ByteArray := prog_9_method_27_code
def yX7_place : MethodName := ⟨RX7, "place", "(I)I"⟩
abbrev cX7_takesTest : ByteArray := prog_9_method_28_code
def yX7_takesTest : MethodName := ⟨RX7, "takesTest", "()Z"⟩
abbrev cX7_takesE : ByteArray := prog_9_method_29_code
def yX7_takesE : MethodName := ⟨RX7, "takesE", "(I)Z"⟩
abbrev cX7_takesHead : ByteArray := prog_9_method_30_code
def yX7_takesHead : MethodName := ⟨RX7, "takesHead", "(I)Z"⟩
abbrev cX7_takesClause : ByteArray := prog_9_method_31_code
def yX7_takesClause : MethodName := ⟨RX7, "takesClause", "(I)Z"⟩
abbrev cX7_goesText : ByteArray := prog_9_method_32_code
def yX7_goesText : MethodName := ⟨RX7, "goesText", "(I)Z"⟩
abbrev cX7_ocean : ByteArray := prog_9_method_33_code
def yX7_ocean : MethodName := ⟨RX7, "ocean", "()I"⟩
abbrev cX7_begin : ByteArray := prog_9_method_34_code
def yX7_begin : MethodName := ⟨RX7, "begin", "()I"⟩
abbrev cX7_behind : ByteArray := prog_9_method_35_code
def yX7_behind : MethodName := ⟨RX7, "behind", "()I"⟩
abbrev cX7_lastOf : ByteArray := prog_9_method_36_code
def yX7_lastOf : MethodName := ⟨RX7, "lastOf", "(II)I"⟩
abbrev cX7_factOf : ByteArray := prog_9_method_37_code
def yX7_factOf : MethodName := ⟨RX7, "factOf", "(II)I"⟩
abbrev cX7_holds : ByteArray := prog_9_method_38_code
def yX7_holds : MethodName := ⟨RX7, "holds", "(II)Z"⟩
abbrev cX7_heart : ByteArray := prog_9_method_39_code
def yX7_heart : MethodName := ⟨RX7, "heart", "(I)I"⟩
abbrev cX7_strength : ByteArray := prog_9_method_40_code
def yX7_strength : MethodName := ⟨RX7, "strength", "(I)I"⟩
abbrev cX7_above : ByteArray := prog_9_method_41_code
def yX7_above : MethodName := ⟨RX7, "above", "(I)I"⟩
abbrev cX7_height : ByteArray := prog_9_method_42_code
def yX7_height : MethodName := ⟨RX7, "height", "()I"⟩
abbrev cX7_load : ByteArray := prog_9_method_43_code
def yX7_load : MethodName := ⟨RX7, "load", "(I)I"⟩
abbrev cX7_milesNow : ByteArray := prog_9_method_44_code
def yX7_milesNow : MethodName := ⟨RX7, "milesNow", "()I"⟩
abbrev cX7_of : ByteArray := prog_9_method_45_code
def yX7_of : MethodName := ⟨RX7, "of", "(II)I"⟩
abbrev cX7_told : ByteArray := prog_9_method_46_code
def yX7_told : MethodName := ⟨RX7, "told", "(I)I"⟩
abbrev cX7_breaksAt : ByteArray := prog_9_method_47_code
def yX7_breaksAt : MethodName := ⟨RX7, "breaksAt", "()I"⟩
abbrev cX7_goWear : ByteArray := prog_9_method_48_code
def yX7_goWear : MethodName := ⟨RX7, "goWear", "()V"⟩
abbrev cX7_goDay : ByteArray := prog_9_method_49_code
def yX7_goDay : MethodName := ⟨RX7, "goDay", "()I"⟩
abbrev cX7_goDays : ByteArray := prog_9_method_50_code
def yX7_goDays : MethodName := ⟨RX7, "goDays", "(I)V"⟩
abbrev cX7_pass : ByteArray := prog_9_method_51_code
def yX7_pass : MethodName := ⟨RX7, "pass", "(I)I"⟩
abbrev cX7_save : ByteArray := prog_9_method_52_code
def yX7_save : MethodName := ⟨RX7, "save", "()V"⟩
abbrev cX7_putBack : ByteArray := prog_9_method_53_code
def yX7_putBack : MethodName := ⟨RX7, "putBack", "()V"⟩
abbrev cX7_on : ByteArray := prog_9_method_54_code
def yX7_on : MethodName := ⟨RX7, "on", "(II)I"⟩
abbrev cX7_firstThen : ByteArray := prog_9_method_55_code
def yX7_firstThen : MethodName := ⟨RX7, "firstThen", "(I)I"⟩
abbrev cX7_first : ByteArray := prog_9_method_56_code
def yX7_first : MethodName := ⟨RX7, "first", "(I)I"⟩
abbrev cX7_port : ByteArray := prog_9_method_57_code
def yX7_port : MethodName := ⟨RX7, "port", "(I)I"⟩
abbrev cX7_wentThen : ByteArray := prog_9_method_58_code
def yX7_wentThen : MethodName := ⟨RX7, "wentThen", "(I)I"⟩
abbrev cX7_spread : ByteArray := prog_9_method_59_code
def yX7_spread : MethodName := ⟨RX7, "spread", "()I"⟩
abbrev cX7_fewest : ByteArray := prog_9_method_60_code
def yX7_fewest : MethodName := ⟨RX7, "fewest", "(I)I"⟩
abbrev cX7_tries : ByteArray := prog_9_method_61_code
def yX7_tries : MethodName := ⟨RX7, "tries", "(IIIII)V"⟩
abbrev cX7_layBest : ByteArray := prog_9_method_62_code
def yX7_layBest : MethodName := ⟨RX7, "layBest", "(I)V"⟩
abbrev cX7_best : ByteArray := prog_9_method_63_code
def yX7_best : MethodName := ⟨RX7, "best", "(II)I"⟩
abbrev cX7_layOrder : ByteArray := prog_9_method_64_code
def yX7_layOrder : MethodName := ⟨RX7, "layOrder", "(I)Z"⟩
abbrev cX7_longest : ByteArray := prog_9_method_65_code
def yX7_longest : MethodName := ⟨RX7, "longest", "(I)I"⟩
abbrev cX7_see : ByteArray := prog_9_method_66_code
def yX7_see : MethodName := ⟨RX7, "see", "(II)I"⟩
abbrev cX7_isSeen : ByteArray := prog_9_method_67_code
def yX7_isSeen : MethodName := ⟨RX7, "isSeen", "()Z"⟩
abbrev cX7_worn : ByteArray := prog_9_method_68_code
def yX7_worn : MethodName := ⟨RX7, "worn", "(II)I"⟩
abbrev cX7_can : ByteArray := prog_9_method_69_code
def yX7_can : MethodName := ⟨RX7, "can", "(II)I"⟩
abbrev cX7_divisor : ByteArray := prog_9_method_70_code
def yX7_divisor : MethodName := ⟨RX7, "divisor", "(II)I"⟩
abbrev cX7_lowest : ByteArray := prog_9_method_71_code
def yX7_lowest : MethodName := ⟨RX7, "lowest", "(III)J"⟩
abbrev cX7_odds : ByteArray := prog_9_method_72_code
def yX7_odds : MethodName := ⟨RX7, "odds", "(II)J"⟩
abbrev cX7_mean : ByteArray := prog_9_method_73_code
def yX7_mean : MethodName := ⟨RX7, "mean", "(I)J"⟩
abbrev cX7_plan : ByteArray := prog_9_method_74_code
def yX7_plan : MethodName := ⟨RX7, "plan", "(II)I"⟩
abbrev cX7_goPlan : ByteArray := prog_9_method_75_code
def yX7_goPlan : MethodName := ⟨RX7, "goPlan", "(II)V"⟩
abbrev cX7_ends : ByteArray := prog_9_method_76_code
def yX7_ends : MethodName := ⟨RX7, "ends", "(I)I"⟩
abbrev cX7_book : ByteArray := prog_9_method_77_code
def yX7_book : MethodName := ⟨RX7, "book", "(II)I"⟩
abbrev cX7_looked : ByteArray := prog_9_method_78_code
def yX7_looked : MethodName := ⟨RX7, "looked", "()I"⟩
abbrev cX7_judge : ByteArray := prog_9_method_79_code
def yX7_judge : MethodName := ⟨RX7, "judge", "(II)I"⟩
abbrev cX7_image : ByteArray := prog_9_method_80_code
def yX7_image : MethodName := ⟨RX7, "image", "()I"⟩
abbrev cX7_undo : ByteArray := prog_9_method_81_code
def yX7_undo : MethodName := ⟨RX7, "undo", "()I"⟩
abbrev cX7_body : ByteArray := prog_9_method_82_code
def yX7_body : MethodName := ⟨RX7, "body", "(I)V"⟩
abbrev cX7_pieceBends : ByteArray := prog_9_method_83_code
def yX7_pieceBends : MethodName := ⟨RX7, "pieceBends", "(II)I"⟩
abbrev cX7_bendsAct : ByteArray := prog_9_method_84_code
def yX7_bendsAct : MethodName := ⟨RX7, "bendsAct", "(II)I"⟩
abbrev cX7_pieceHolds : ByteArray := prog_9_method_85_code
def yX7_pieceHolds : MethodName := ⟨RX7, "pieceHolds", "(II)I"⟩
abbrev cX7_oarHolds : ByteArray := prog_9_method_86_code
def yX7_oarHolds : MethodName := ⟨RX7, "oarHolds", "(II)I"⟩
abbrev cX7_holdsAct : ByteArray := prog_9_method_87_code
def yX7_holdsAct : MethodName := ⟨RX7, "holdsAct", "(II)I"⟩
abbrev cX7_pieceTells : ByteArray := prog_9_method_88_code
def yX7_pieceTells : MethodName := ⟨RX7, "pieceTells", "(II)I"⟩
abbrev cX7_tellsAct : ByteArray := prog_9_method_89_code
def yX7_tellsAct : MethodName := ⟨RX7, "tellsAct", "(II)I"⟩
abbrev cX7_act : ByteArray := prog_9_method_90_code
def yX7_act : MethodName := ⟨RX7, "act", "(III)I"⟩
abbrev cX7_trace : ByteArray := prog_9_method_91_code
def yX7_trace : MethodName := ⟨RX7, "trace", "(I)I"⟩
abbrev cX7_taken : ByteArray := prog_9_method_92_code
def yX7_taken : MethodName := ⟨RX7, "taken", "(II)I"⟩
abbrev cX7_count : ByteArray := prog_9_method_93_code
def yX7_count : MethodName := ⟨RX7, "count", "(I)I"⟩
abbrev cX7_isTape : ByteArray := prog_9_method_94_code
def yX7_isTape : MethodName := ⟨RX7, "isTape", "(I)Z"⟩
abbrev cX7_tape : ByteArray := prog_9_method_95_code
def yX7_tape : MethodName := ⟨RX7, "tape", "(III)I"⟩
abbrev cX7_narrow : ByteArray := prog_9_method_96_code
def yX7_narrow : MethodName := ⟨RX7, "narrow", "(IJ)J"⟩
abbrev cX7_item : ByteArray := prog_9_method_97_code
def yX7_item : MethodName := ⟨RX7, "item", "(IIJ)I"⟩
abbrev cX7_read : ByteArray := prog_9_method_98_code
def yX7_read : MethodName := ⟨RX7, "read", "(II)J"⟩
abbrev cX7_shift : ByteArray := prog_9_method_99_code
def yX7_shift : MethodName := ⟨RX7, "shift", "(IIIII)I"⟩
def RJ11 : String := "java/lang/Character"
def TJ11 : u_T := fun k => match k with
  | _ => ("", "", "", false)
abbrev cJ11_isValidCodePoint_9a6ad : ByteArray := prog_10_method_11_code
def yJ11_isValidCodePoint_9a6ad : MethodName := ⟨RJ11, "isValidCodePoint", "(I)Z"⟩
abbrev cJ11_highSurrogate_5068e : ByteArray := prog_10_method_28_code
def yJ11_highSurrogate_5068e : MethodName := ⟨RJ11, "highSurrogate", "(I)C"⟩
abbrev cJ11_lowSurrogate_5068e : ByteArray := prog_10_method_29_code
def yJ11_lowSurrogate_5068e : MethodName := ⟨RJ11, "lowSurrogate", "(I)C"⟩
def RJ9 : String := "java/lang/Math"
def TJ9 : u_T := fun k => match k with
  | _ => ("", "", "", false)
abbrev cJ9_max_7cf53 : ByteArray := prog_11_method_65_code
def yJ9_max_7cf53 : MethodName := ⟨RJ9, "max", "(II)I"⟩
abbrev cJ9_min_7cf53 : ByteArray := prog_11_method_69_code
def yJ9_min_7cf53 : MethodName := ⟨RJ9, "min", "(II)I"⟩
def RJ0 : String := "java/lang/String"
def TJ0 : u_T := fun k => match k with
  | _ => ("", "", "", false)
abbrev cJ0_length_8abf5 : ByteArray := prog_12_method_54_code
def yJ0_length_8abf5 : MethodName := ⟨RJ0, "length", "()I"⟩
abbrev cJ0_charAt_5068e : ByteArray := prog_12_method_56_code
def yJ0_charAt_5068e : MethodName := ⟨RJ0, "charAt", "(I)C"⟩
abbrev cJ0_indexOf_0f7a4 : ByteArray := prog_12_method_79_code
def yJ0_indexOf_0f7a4 : MethodName := ⟨RJ0, "indexOf", "(I)I"⟩
abbrev cJ0_indexOf_7cf53 : ByteArray := prog_12_method_80_code
def yJ0_indexOf_7cf53 : MethodName := ⟨RJ0, "indexOf", "(II)I"⟩
abbrev cJ0_coder_7d493 : ByteArray := prog_12_method_152_code
def yJ0_coder_7d493 : MethodName := ⟨RJ0, "coder", "()B"⟩
abbrev cJ0_isLatin1_aae02 : ByteArray := prog_12_method_154_code
def yJ0_isLatin1_aae02 : MethodName := ⟨RJ0, "isLatin1", "()Z"⟩
abbrev cJ0_checkIndex_df160 : ByteArray := prog_12_method_155_code
def yJ0_checkIndex_df160 : MethodName := ⟨RJ0, "checkIndex", "(II)V"⟩
abbrev cJ0_checkBoundsBeginEnd_23922 : ByteArray := prog_12_method_158_code
def yJ0_checkBoundsBeginEnd_23922 : MethodName := ⟨RJ0, "checkBoundsBeginEnd", "(III)V"⟩
def RJ1 : String := "java/lang/StringLatin1"
def TJ1 : u_T := fun k => match k with
  | _ => ("", "", "", false)
abbrev cJ1_charAt_3b067 : ByteArray := prog_13_method_2_code
def yJ1_charAt_3b067 : MethodName := ⟨RJ1, "charAt", "([BI)C"⟩
abbrev cJ1_canEncode_9a6ad : ByteArray := prog_13_method_4_code
def yJ1_canEncode_9a6ad : MethodName := ⟨RJ1, "canEncode", "(I)Z"⟩
abbrev cJ1_indexOf_4cfef : ByteArray := prog_13_method_22_code
def yJ1_indexOf_4cfef : MethodName := ⟨RJ1, "indexOf", "([BIII)I"⟩
abbrev cJ1_indexOfChar_4cfef : ByteArray := prog_13_method_23_code
def yJ1_indexOfChar_4cfef : MethodName := ⟨RJ1, "indexOfChar", "([BIII)I"⟩
def RJ2 : String := "java/lang/StringUTF16"
def TJ2 : u_T := fun k => match k with
  | _ => ("", "", "", false)
abbrev cJ2_getChar_3b067 : ByteArray := prog_14_method_5_code
def yJ2_getChar_3b067 : MethodName := ⟨RJ2, "getChar", "([BI)C"⟩
abbrev cJ2_length_9d52b : ByteArray := prog_14_method_6_code
def yJ2_length_9d52b : MethodName := ⟨RJ2, "length", "([B)I"⟩
abbrev cJ2_indexOf_4cfef : ByteArray := prog_14_method_40_code
def yJ2_indexOf_4cfef : MethodName := ⟨RJ2, "indexOf", "([BIII)I"⟩
abbrev cJ2_indexOfChar_4cfef : ByteArray := prog_14_method_47_code
def yJ2_indexOfChar_4cfef : MethodName := ⟨RJ2, "indexOfChar", "([BIII)I"⟩
abbrev cJ2_indexOfCharUnsafe_4cfef : ByteArray := prog_14_method_48_code
def yJ2_indexOfCharUnsafe_4cfef : MethodName := ⟨RJ2, "indexOfCharUnsafe", "([BIII)I"⟩
abbrev cJ2_indexOfSupplementary_4cfef : ByteArray := prog_14_method_49_code
def yJ2_indexOfSupplementary_4cfef : MethodName := ⟨RJ2, "indexOfSupplementary", "([BIII)I"⟩
abbrev cJ2_charAt_3b067 : ByteArray := prog_14_method_83_code
def yJ2_charAt_3b067 : MethodName := ⟨RJ2, "charAt", "([BI)C"⟩
abbrev cJ2_checkIndex_2214a : ByteArray := prog_14_method_91_code
def yJ2_checkIndex_2214a : MethodName := ⟨RJ2, "checkIndex", "(I[B)V"⟩
abbrev cJ2_checkBoundsBeginEnd_d044e : ByteArray := prog_14_method_93_code
def yJ2_checkBoundsBeginEnd_d044e : MethodName := ⟨RJ2, "checkBoundsBeginEnd", "(II[B)V"⟩
def RJ10 : String := "java/lang/System"
def TJ10 : u_T := fun k => match k with
  | _ => ("", "", "", false)
def RJ3 : String := "jdk/internal/util/Preconditions"
def TJ3 : u_T := fun k => match k with
  | _ => ("", "", "", false)
abbrev cJ3_checkIndex_8e157 : ByteArray := prog_16_method_11_code
def yJ3_checkIndex_8e157 : MethodName := ⟨RJ3, "checkIndex", "(IILjava/util/function/BiFunction;)I"⟩
abbrev cJ3_checkFromToIndex_8c36e : ByteArray := prog_16_method_12_code
def yJ3_checkFromToIndex_8c36e : MethodName := ⟨RJ3, "checkFromToIndex", "(IIILjava/util/function/BiFunction;)I"⟩
def RL : String := "MastLeftLaw"
abbrev cL_law : ByteArray := code
def yL_law : MethodName := ⟨RL, "law", "([I)Z"⟩
end
section
theorem dX0_init_0 : decode cX0_init 0 = .ok (.aload_n 0, 1) := by decide +kernel
theorem dX0_init_1 : decode cX0_init 1 = .ok (.invokespecial 3, 3) := by decide +kernel
theorem dX0_init_4 : decode cX0_init 4 = .ok (.aload_n 0, 1) := by decide +kernel
theorem dX0_init_5 : decode cX0_init 5 = .ok (.bipush 20, 2) := by decide +kernel
theorem dX0_init_7 : decode cX0_init 7 = .ok (.newarray .int, 2) := by decide +kernel
theorem dX0_init_9 : decode cX0_init 9 = .ok (.putfield 11, 3) := by decide +kernel
theorem dX0_init_12 : decode cX0_init 12 = .ok (.return_, 1) := by decide +kernel
theorem dX0_start_0 : decode cX0_start 0 = .ok (.aload_n 0, 1) := by decide +kernel
theorem dX0_start_1 : decode cX0_start 1 = .ok (.iload_n 1, 1) := by decide +kernel
theorem dX0_start_2 : decode cX0_start 2 = .ok (.putfield 15, 3) := by decide +kernel
theorem dX0_start_5 : decode cX0_start 5 = .ok (.aload_n 0, 1) := by decide +kernel
theorem dX0_start_6 : decode cX0_start 6 = .ok (.iload_n 2, 1) := by decide +kernel
theorem dX0_start_7 : decode cX0_start 7 = .ok (.putfield 19, 3) := by decide +kernel
theorem dX0_start_10 : decode cX0_start 10 = .ok (.aload_n 0, 1) := by decide +kernel
theorem dX0_start_11 : decode cX0_start 11 = .ok (.iload_n 3, 1) := by decide +kernel
theorem dX0_start_12 : decode cX0_start 12 = .ok (.putfield 22, 3) := by decide +kernel
theorem dX0_start_15 : decode cX0_start 15 = .ok (.aload_n 0, 1) := by decide +kernel
theorem dX0_start_16 : decode cX0_start 16 = .ok (.iconst 0, 1) := by decide +kernel
theorem dX0_start_17 : decode cX0_start 17 = .ok (.putfield 25, 3) := by decide +kernel
theorem dX0_start_20 : decode cX0_start 20 = .ok (.aload_n 0, 1) := by decide +kernel
theorem dX0_start_21 : decode cX0_start 21 = .ok (.aload_n 0, 1) := by decide +kernel
theorem dX0_start_22 : decode cX0_start 22 = .ok (.getfield 15, 3) := by decide +kernel
theorem dX0_start_25 : decode cX0_start 25 = .ok (.iload 4, 2) := by decide +kernel
theorem dX0_start_27 : decode cX0_start 27 = .ok (.iload 5, 2) := by decide +kernel
theorem dX0_start_29 : decode cX0_start 29 = .ok (.iconst 0, 1) := by decide +kernel
theorem dX0_start_30 : decode cX0_start 30 = .ok (.invokevirtual 28, 3) := by decide +kernel
theorem dX0_start_33 : decode cX0_start 33 = .ok (.ireturn, 1) := by decide +kernel
theorem dX0_run_0 : decode cX0_run 0 = .ok (.iload_n 1, 1) := by decide +kernel
theorem dX0_run_1 : decode cX0_run 1 = .ok (.iload_n 2, 1) := by decide +kernel
theorem dX0_run_2 : decode cX0_run 2 = .ok (.invokestatic 32, 3) := by decide +kernel
theorem dX0_run_5 : decode cX0_run 5 = .ok (.istore 5, 2) := by decide +kernel
theorem dX0_run_7 : decode cX0_run 7 = .ok (.iload 5, 2) := by decide +kernel
theorem dX0_run_9 : decode cX0_run 9 = .ok (.ifCond .lt 10, 3) := by decide +kernel
theorem dX0_run_12 : decode cX0_run 12 = .ok (.iload 4, 2) := by decide +kernel
theorem dX0_run_14 : decode cX0_run 14 = .ok (.bipush 40, 2) := by decide +kernel
theorem dX0_run_16 : decode cX0_run 16 = .ok (.if_icmp .le 5, 3) := by decide +kernel
theorem dX0_run_19 : decode cX0_run 19 = .ok (.iconst 0, 1) := by decide +kernel
theorem dX0_run_20 : decode cX0_run 20 = .ok (.ireturn, 1) := by decide +kernel
theorem dX0_run_21 : decode cX0_run 21 = .ok (.getstatic 36, 3) := by decide +kernel
theorem dX0_run_24 : decode cX0_run 24 = .ok (.iconst 3, 1) := by decide +kernel
theorem dX0_run_25 : decode cX0_run 25 = .ok (.iload 5, 2) := by decide +kernel
theorem dX0_run_27 : decode cX0_run 27 = .ok (.imul, 1) := by decide +kernel
theorem dX0_run_28 : decode cX0_run 28 = .ok (.iload_n 2, 1) := by decide +kernel
theorem dX0_run_29 : decode cX0_run 29 = .ok (.iadd, 1) := by decide +kernel
theorem dX0_run_30 : decode cX0_run 30 = .ok (.iaload, 1) := by decide +kernel
theorem dX0_run_31 : decode cX0_run 31 = .ok (.istore 6, 2) := by decide +kernel
theorem dX0_run_33 : decode cX0_run 33 = .ok (.aload_n 0, 1) := by decide +kernel
theorem dX0_run_34 : decode cX0_run 34 = .ok (.getfield 25, 3) := by decide +kernel
theorem dX0_run_37 : decode cX0_run 37 = .ok (.bipush 20, 2) := by decide +kernel
theorem dX0_run_39 : decode cX0_run 39 = .ok (.if_icmp .ge 14, 3) := by decide +kernel
theorem dX0_run_42 : decode cX0_run 42 = .ok (.aload_n 0, 1) := by decide +kernel
theorem dX0_run_43 : decode cX0_run 43 = .ok (.getfield 11, 3) := by decide +kernel
theorem dX0_run_46 : decode cX0_run 46 = .ok (.aload_n 0, 1) := by decide +kernel
theorem dX0_run_47 : decode cX0_run 47 = .ok (.getfield 25, 3) := by decide +kernel
theorem dX0_run_50 : decode cX0_run 50 = .ok (.iload 6, 2) := by decide +kernel
theorem dX0_run_52 : decode cX0_run 52 = .ok (.iastore, 1) := by decide +kernel
theorem dX0_run_53 : decode cX0_run 53 = .ok (.aload_n 0, 1) := by decide +kernel
theorem dX0_run_54 : decode cX0_run 54 = .ok (.dup, 1) := by decide +kernel
theorem dX0_run_55 : decode cX0_run 55 = .ok (.getfield 25, 3) := by decide +kernel
theorem dX0_run_58 : decode cX0_run 58 = .ok (.iconst 1, 1) := by decide +kernel
theorem dX0_run_59 : decode cX0_run 59 = .ok (.iadd, 1) := by decide +kernel
theorem dX0_run_60 : decode cX0_run 60 = .ok (.putfield 25, 3) := by decide +kernel
theorem dX0_run_63 : decode cX0_run 63 = .ok (.getstatic 39, 3) := by decide +kernel
theorem dX0_run_66 : decode cX0_run 66 = .ok (.iload 5, 2) := by decide +kernel
theorem dX0_run_68 : decode cX0_run 68 = .ok (.iaload, 1) := by decide +kernel
theorem dX0_run_69 : decode cX0_run 69 = .ok (.istore 7, 2) := by decide +kernel
theorem dX0_run_71 : decode cX0_run 71 = .ok (.iload 4, 2) := by decide +kernel
theorem dX0_run_73 : decode cX0_run 73 = .ok (.iconst 1, 1) := by decide +kernel
theorem dX0_run_74 : decode cX0_run 74 = .ok (.iadd, 1) := by decide +kernel
theorem dX0_run_75 : decode cX0_run 75 = .ok (.istore 8, 2) := by decide +kernel
theorem dX0_run_77 : decode cX0_run 77 = .ok (.iload 6, 2) := by decide +kernel
theorem dX0_run_79 : decode cX0_run 79 = .ok (.lookupswitch 267 #[(10, 97), (11, 104), (12, 122), (20, 137), (30, 151), (40, 164), (50, 188), (51, 200), (60, 213), (70, 229), (71, 251)], 97) := by decide +kernel
theorem dX0_run_176 : decode cX0_run 176 = .ok (.iload_n 3, 1) := by decide +kernel
theorem dX0_run_177 : decode cX0_run 177 = .ok (.aload_n 0, 1) := by decide +kernel
theorem dX0_run_178 : decode cX0_run 178 = .ok (.getfield 19, 3) := by decide +kernel
theorem dX0_run_181 : decode cX0_run 181 = .ok (.iadd, 1) := by decide +kernel
theorem dX0_run_182 : decode cX0_run 182 = .ok (.ireturn, 1) := by decide +kernel
theorem dX0_run_183 : decode cX0_run 183 = .ok (.aload_n 0, 1) := by decide +kernel
theorem dX0_run_184 : decode cX0_run 184 = .ok (.aload_n 0, 1) := by decide +kernel
theorem dX0_run_185 : decode cX0_run 185 = .ok (.getfield 15, 3) := by decide +kernel
theorem dX0_run_188 : decode cX0_run 188 = .ok (.iconst 0, 1) := by decide +kernel
theorem dX0_run_189 : decode cX0_run 189 = .ok (.iload_n 3, 1) := by decide +kernel
theorem dX0_run_190 : decode cX0_run 190 = .ok (.iload 8, 2) := by decide +kernel
theorem dX0_run_192 : decode cX0_run 192 = .ok (.invokevirtual 28, 3) := by decide +kernel
theorem dX0_run_195 : decode cX0_run 195 = .ok (.aload_n 0, 1) := by decide +kernel
theorem dX0_run_196 : decode cX0_run 196 = .ok (.getfield 22, 3) := by decide +kernel
theorem dX0_run_199 : decode cX0_run 199 = .ok (.isub, 1) := by decide +kernel
theorem dX0_run_200 : decode cX0_run 200 = .ok (.ireturn, 1) := by decide +kernel
theorem dX0_run_201 : decode cX0_run 201 = .ok (.aload_n 0, 1) := by decide +kernel
theorem dX0_run_202 : decode cX0_run 202 = .ok (.aload_n 0, 1) := by decide +kernel
theorem dX0_run_203 : decode cX0_run 203 = .ok (.getfield 15, 3) := by decide +kernel
theorem dX0_run_206 : decode cX0_run 206 = .ok (.iconst 1, 1) := by decide +kernel
theorem dX0_run_207 : decode cX0_run 207 = .ok (.iload_n 3, 1) := by decide +kernel
theorem dX0_run_208 : decode cX0_run 208 = .ok (.iload 8, 2) := by decide +kernel
theorem dX0_run_210 : decode cX0_run 210 = .ok (.invokevirtual 28, 3) := by decide +kernel
theorem dX0_run_213 : decode cX0_run 213 = .ok (.iconst 2, 1) := by decide +kernel
theorem dX0_run_214 : decode cX0_run 214 = .ok (.imul, 1) := by decide +kernel
theorem dX0_run_215 : decode cX0_run 215 = .ok (.ireturn, 1) := by decide +kernel
theorem dX0_run_216 : decode cX0_run 216 = .ok (.aload_n 0, 1) := by decide +kernel
theorem dX0_run_217 : decode cX0_run 217 = .ok (.iload 7, 2) := by decide +kernel
theorem dX0_run_219 : decode cX0_run 219 = .ok (.iconst 1, 1) := by decide +kernel
theorem dX0_run_220 : decode cX0_run 220 = .ok (.iload_n 3, 1) := by decide +kernel
theorem dX0_run_221 : decode cX0_run 221 = .ok (.iload 8, 2) := by decide +kernel
theorem dX0_run_223 : decode cX0_run 223 = .ok (.invokevirtual 28, 3) := by decide +kernel
theorem dX0_run_226 : decode cX0_run 226 = .ok (.bipush 6, 2) := by decide +kernel
theorem dX0_run_228 : decode cX0_run 228 = .ok (.ixor, 1) := by decide +kernel
theorem dX0_run_229 : decode cX0_run 229 = .ok (.ireturn, 1) := by decide +kernel
theorem dX0_run_230 : decode cX0_run 230 = .ok (.aload_n 0, 1) := by decide +kernel
theorem dX0_run_231 : decode cX0_run 231 = .ok (.iload 7, 2) := by decide +kernel
theorem dX0_run_233 : decode cX0_run 233 = .ok (.iconst 0, 1) := by decide +kernel
theorem dX0_run_234 : decode cX0_run 234 = .ok (.iload_n 3, 1) := by decide +kernel
theorem dX0_run_235 : decode cX0_run 235 = .ok (.iconst 3, 1) := by decide +kernel
theorem dX0_run_236 : decode cX0_run 236 = .ok (.imul, 1) := by decide +kernel
theorem dX0_run_237 : decode cX0_run 237 = .ok (.iload 8, 2) := by decide +kernel
theorem dX0_run_239 : decode cX0_run 239 = .ok (.invokevirtual 28, 3) := by decide +kernel
theorem dX0_run_242 : decode cX0_run 242 = .ok (.ireturn, 1) := by decide +kernel
theorem dX0_run_243 : decode cX0_run 243 = .ok (.aload_n 0, 1) := by decide +kernel
theorem dX0_run_244 : decode cX0_run 244 = .ok (.iload 7, 2) := by decide +kernel
theorem dX0_run_246 : decode cX0_run 246 = .ok (.iconst 2, 1) := by decide +kernel
theorem dX0_run_247 : decode cX0_run 247 = .ok (.iload_n 3, 1) := by decide +kernel
theorem dX0_run_248 : decode cX0_run 248 = .ok (.iload 8, 2) := by decide +kernel
theorem dX0_run_250 : decode cX0_run 250 = .ok (.invokevirtual 28, 3) := by decide +kernel
theorem dX0_run_253 : decode cX0_run 253 = .ok (.aload_n 0, 1) := by decide +kernel
theorem dX0_run_254 : decode cX0_run 254 = .ok (.aload_n 0, 1) := by decide +kernel
theorem dX0_run_255 : decode cX0_run 255 = .ok (.getfield 15, 3) := by decide +kernel
theorem dX0_run_258 : decode cX0_run 258 = .ok (.iconst 1, 1) := by decide +kernel
theorem dX0_run_259 : decode cX0_run 259 = .ok (.iconst 1, 1) := by decide +kernel
theorem dX0_run_260 : decode cX0_run 260 = .ok (.iload 8, 2) := by decide +kernel
theorem dX0_run_262 : decode cX0_run 262 = .ok (.invokevirtual 28, 3) := by decide +kernel
theorem dX0_run_265 : decode cX0_run 265 = .ok (.iadd, 1) := by decide +kernel
theorem dX0_run_266 : decode cX0_run 266 = .ok (.ireturn, 1) := by decide +kernel
theorem dX0_run_267 : decode cX0_run 267 = .ok (.aload_n 0, 1) := by decide +kernel
theorem dX0_run_268 : decode cX0_run 268 = .ok (.iload 7, 2) := by decide +kernel
theorem dX0_run_270 : decode cX0_run 270 = .ok (.iconst 0, 1) := by decide +kernel
theorem dX0_run_271 : decode cX0_run 271 = .ok (.iload_n 3, 1) := by decide +kernel
theorem dX0_run_272 : decode cX0_run 272 = .ok (.iload 8, 2) := by decide +kernel
theorem dX0_run_274 : decode cX0_run 274 = .ok (.invokevirtual 28, 3) := by decide +kernel
theorem dX0_run_277 : decode cX0_run 277 = .ok (.ineg, 1) := by decide +kernel
theorem dX0_run_278 : decode cX0_run 278 = .ok (.ireturn, 1) := by decide +kernel
theorem dX0_run_279 : decode cX0_run 279 = .ok (.aload_n 0, 1) := by decide +kernel
theorem dX0_run_280 : decode cX0_run 280 = .ok (.iload 7, 2) := by decide +kernel
theorem dX0_run_282 : decode cX0_run 282 = .ok (.iconst 1, 1) := by decide +kernel
theorem dX0_run_283 : decode cX0_run 283 = .ok (.iload_n 3, 1) := by decide +kernel
theorem dX0_run_284 : decode cX0_run 284 = .ok (.iconst 1, 1) := by decide +kernel
theorem dX0_run_285 : decode cX0_run 285 = .ok (.iadd, 1) := by decide +kernel
theorem dX0_run_286 : decode cX0_run 286 = .ok (.iload 8, 2) := by decide +kernel
theorem dX0_run_288 : decode cX0_run 288 = .ok (.invokevirtual 28, 3) := by decide +kernel
theorem dX0_run_291 : decode cX0_run 291 = .ok (.ireturn, 1) := by decide +kernel
theorem dX0_run_292 : decode cX0_run 292 = .ok (.aload_n 0, 1) := by decide +kernel
theorem dX0_run_293 : decode cX0_run 293 = .ok (.iload 7, 2) := by decide +kernel
theorem dX0_run_295 : decode cX0_run 295 = .ok (.iconst 2, 1) := by decide +kernel
theorem dX0_run_296 : decode cX0_run 296 = .ok (.iload_n 3, 1) := by decide +kernel
theorem dX0_run_297 : decode cX0_run 297 = .ok (.aload_n 0, 1) := by decide +kernel
theorem dX0_run_298 : decode cX0_run 298 = .ok (.getfield 19, 3) := by decide +kernel
theorem dX0_run_301 : decode cX0_run 301 = .ok (.isub, 1) := by decide +kernel
theorem dX0_run_302 : decode cX0_run 302 = .ok (.iload 8, 2) := by decide +kernel
theorem dX0_run_304 : decode cX0_run 304 = .ok (.invokevirtual 28, 3) := by decide +kernel
theorem dX0_run_307 : decode cX0_run 307 = .ok (.ireturn, 1) := by decide +kernel
theorem dX0_run_308 : decode cX0_run 308 = .ok (.aload_n 0, 1) := by decide +kernel
theorem dX0_run_309 : decode cX0_run 309 = .ok (.iload 7, 2) := by decide +kernel
theorem dX0_run_311 : decode cX0_run 311 = .ok (.iconst 1, 1) := by decide +kernel
theorem dX0_run_312 : decode cX0_run 312 = .ok (.iload_n 3, 1) := by decide +kernel
theorem dX0_run_313 : decode cX0_run 313 = .ok (.iload 8, 2) := by decide +kernel
theorem dX0_run_315 : decode cX0_run 315 = .ok (.invokevirtual 28, 3) := by decide +kernel
theorem dX0_run_318 : decode cX0_run 318 = .ok (.aload_n 0, 1) := by decide +kernel
theorem dX0_run_319 : decode cX0_run 319 = .ok (.iload 7, 2) := by decide +kernel
theorem dX0_run_321 : decode cX0_run 321 = .ok (.iconst 0, 1) := by decide +kernel
theorem dX0_run_322 : decode cX0_run 322 = .ok (.iconst 2, 1) := by decide +kernel
theorem dX0_run_323 : decode cX0_run 323 = .ok (.iload 8, 2) := by decide +kernel
theorem dX0_run_325 : decode cX0_run 325 = .ok (.invokevirtual 28, 3) := by decide +kernel
theorem dX0_run_328 : decode cX0_run 328 = .ok (.iadd, 1) := by decide +kernel
theorem dX0_run_329 : decode cX0_run 329 = .ok (.ireturn, 1) := by decide +kernel
theorem dX0_run_330 : decode cX0_run 330 = .ok (.aload_n 0, 1) := by decide +kernel
theorem dX0_run_331 : decode cX0_run 331 = .ok (.iload 7, 2) := by decide +kernel
theorem dX0_run_333 : decode cX0_run 333 = .ok (.iconst 0, 1) := by decide +kernel
theorem dX0_run_334 : decode cX0_run 334 = .ok (.iload_n 3, 1) := by decide +kernel
theorem dX0_run_335 : decode cX0_run 335 = .ok (.iload 8, 2) := by decide +kernel
theorem dX0_run_337 : decode cX0_run 337 = .ok (.invokevirtual 28, 3) := by decide +kernel
theorem dX0_run_340 : decode cX0_run 340 = .ok (.aload_n 0, 1) := by decide +kernel
theorem dX0_run_341 : decode cX0_run 341 = .ok (.getfield 22, 3) := by decide +kernel
theorem dX0_run_344 : decode cX0_run 344 = .ok (.ixor, 1) := by decide +kernel
theorem dX0_run_345 : decode cX0_run 345 = .ok (.ireturn, 1) := by decide +kernel
theorem dX0_run_346 : decode cX0_run 346 = .ok (.iconst 0, 1) := by decide +kernel
theorem dX0_run_347 : decode cX0_run 347 = .ok (.ireturn, 1) := by decide +kernel
theorem dX0_ownerOf_0 : decode cX0_ownerOf 0 = .ok (.iload_n 0, 1) := by decide +kernel
theorem dX0_ownerOf_1 : decode cX0_ownerOf 1 = .ok (.istore_n 2, 1) := by decide +kernel
theorem dX0_ownerOf_2 : decode cX0_ownerOf 2 = .ok (.iconst 0, 1) := by decide +kernel
theorem dX0_ownerOf_3 : decode cX0_ownerOf 3 = .ok (.istore_n 3, 1) := by decide +kernel
theorem dX0_ownerOf_4 : decode cX0_ownerOf 4 = .ok (.iload_n 3, 1) := by decide +kernel
theorem dX0_ownerOf_5 : decode cX0_ownerOf 5 = .ok (.bipush 7, 2) := by decide +kernel
theorem dX0_ownerOf_7 : decode cX0_ownerOf 7 = .ok (.if_icmp .ge 31, 3) := by decide +kernel
theorem dX0_ownerOf_10 : decode cX0_ownerOf 10 = .ok (.iload_n 2, 1) := by decide +kernel
theorem dX0_ownerOf_11 : decode cX0_ownerOf 11 = .ok (.ifCond .lt 27, 3) := by decide +kernel
theorem dX0_ownerOf_14 : decode cX0_ownerOf 14 = .ok (.getstatic 36, 3) := by decide +kernel
theorem dX0_ownerOf_17 : decode cX0_ownerOf 17 = .ok (.iconst 3, 1) := by decide +kernel
theorem dX0_ownerOf_18 : decode cX0_ownerOf 18 = .ok (.iload_n 2, 1) := by decide +kernel
theorem dX0_ownerOf_19 : decode cX0_ownerOf 19 = .ok (.imul, 1) := by decide +kernel
theorem dX0_ownerOf_20 : decode cX0_ownerOf 20 = .ok (.iload_n 1, 1) := by decide +kernel
theorem dX0_ownerOf_21 : decode cX0_ownerOf 21 = .ok (.iadd, 1) := by decide +kernel
theorem dX0_ownerOf_22 : decode cX0_ownerOf 22 = .ok (.iaload, 1) := by decide +kernel
theorem dX0_ownerOf_23 : decode cX0_ownerOf 23 = .ok (.ifCond .ne 15, 3) := by decide +kernel
theorem dX0_ownerOf_26 : decode cX0_ownerOf 26 = .ok (.getstatic 39, 3) := by decide +kernel
theorem dX0_ownerOf_29 : decode cX0_ownerOf 29 = .ok (.iload_n 2, 1) := by decide +kernel
theorem dX0_ownerOf_30 : decode cX0_ownerOf 30 = .ok (.iaload, 1) := by decide +kernel
theorem dX0_ownerOf_31 : decode cX0_ownerOf 31 = .ok (.istore_n 2, 1) := by decide +kernel
theorem dX0_ownerOf_32 : decode cX0_ownerOf 32 = .ok (.iinc 3 1, 3) := by decide +kernel
theorem dX0_ownerOf_35 : decode cX0_ownerOf 35 = .ok (.goto (-31), 3) := by decide +kernel
theorem dX0_ownerOf_38 : decode cX0_ownerOf 38 = .ok (.iload_n 2, 1) := by decide +kernel
theorem dX0_ownerOf_39 : decode cX0_ownerOf 39 = .ok (.ireturn, 1) := by decide +kernel
theorem dX1_init_0 : decode cX1_init 0 = .ok (.aload_n 0, 1) := by decide +kernel
theorem dX1_init_1 : decode cX1_init 1 = .ok (.invokespecial 3, 3) := by decide +kernel
theorem dX1_init_4 : decode cX1_init 4 = .ok (.aload_n 0, 1) := by decide +kernel
theorem dX1_init_5 : decode cX1_init 5 = .ok (.bipush 6, 2) := by decide +kernel
theorem dX1_init_7 : decode cX1_init 7 = .ok (.newarray .int, 2) := by decide +kernel
theorem dX1_init_9 : decode cX1_init 9 = .ok (.putfield 9, 3) := by decide +kernel
theorem dX1_init_12 : decode cX1_init 12 = .ok (.aload_n 0, 1) := by decide +kernel
theorem dX1_init_13 : decode cX1_init 13 = .ok (.bipush 6, 2) := by decide +kernel
theorem dX1_init_15 : decode cX1_init 15 = .ok (.newarray .int, 2) := by decide +kernel
theorem dX1_init_17 : decode cX1_init 17 = .ok (.putfield 15, 3) := by decide +kernel
theorem dX1_init_20 : decode cX1_init 20 = .ok (.aload_n 0, 1) := by decide +kernel
theorem dX1_init_21 : decode cX1_init 21 = .ok (.bipush 6, 2) := by decide +kernel
theorem dX1_init_23 : decode cX1_init 23 = .ok (.newarray .int, 2) := by decide +kernel
theorem dX1_init_25 : decode cX1_init 25 = .ok (.putfield 18, 3) := by decide +kernel
theorem dX1_init_28 : decode cX1_init 28 = .ok (.aload_n 0, 1) := by decide +kernel
theorem dX1_init_29 : decode cX1_init 29 = .ok (.bipush 6, 2) := by decide +kernel
theorem dX1_init_31 : decode cX1_init 31 = .ok (.newarray .int, 2) := by decide +kernel
theorem dX1_init_33 : decode cX1_init 33 = .ok (.putfield 21, 3) := by decide +kernel
theorem dX1_init_36 : decode cX1_init 36 = .ok (.aload_n 0, 1) := by decide +kernel
theorem dX1_init_37 : decode cX1_init 37 = .ok (.bipush 6, 2) := by decide +kernel
theorem dX1_init_39 : decode cX1_init 39 = .ok (.newarray .int, 2) := by decide +kernel
theorem dX1_init_41 : decode cX1_init 41 = .ok (.putfield 24, 3) := by decide +kernel
theorem dX1_init_44 : decode cX1_init 44 = .ok (.aload_n 0, 1) := by decide +kernel
theorem dX1_init_45 : decode cX1_init 45 = .ok (.bipush 24, 2) := by decide +kernel
theorem dX1_init_47 : decode cX1_init 47 = .ok (.newarray .int, 2) := by decide +kernel
theorem dX1_init_49 : decode cX1_init 49 = .ok (.putfield 27, 3) := by decide +kernel
theorem dX1_init_52 : decode cX1_init 52 = .ok (.aload_n 0, 1) := by decide +kernel
theorem dX1_init_53 : decode cX1_init 53 = .ok (.iconst 3, 1) := by decide +kernel
theorem dX1_init_54 : decode cX1_init 54 = .ok (.newarray .int, 2) := by decide +kernel
theorem dX1_init_56 : decode cX1_init 56 = .ok (.putfield 30, 3) := by decide +kernel
theorem dX1_init_59 : decode cX1_init 59 = .ok (.aload_n 0, 1) := by decide +kernel
theorem dX1_init_60 : decode cX1_init 60 = .ok (.aload_n 1, 1) := by decide +kernel
theorem dX1_init_61 : decode cX1_init 61 = .ok (.putfield 33, 3) := by decide +kernel
theorem dX1_init_64 : decode cX1_init 64 = .ok (.aload_n 0, 1) := by decide +kernel
theorem dX1_init_65 : decode cX1_init 65 = .ok (.iconst 1, 1) := by decide +kernel
theorem dX1_init_66 : decode cX1_init 66 = .ok (.putfield 37, 3) := by decide +kernel
theorem dX1_init_69 : decode cX1_init 69 = .ok (.return_, 1) := by decide +kernel
theorem dX1_copyFrom_0 : decode cX1_copyFrom 0 = .ok (.aload_n 1, 1) := by decide +kernel
theorem dX1_copyFrom_1 : decode cX1_copyFrom 1 = .ok (.getfield 9, 3) := by decide +kernel
theorem dX1_copyFrom_4 : decode cX1_copyFrom 4 = .ok (.iconst 0, 1) := by decide +kernel
theorem dX1_copyFrom_5 : decode cX1_copyFrom 5 = .ok (.aload_n 0, 1) := by decide +kernel
theorem dX1_copyFrom_6 : decode cX1_copyFrom 6 = .ok (.getfield 9, 3) := by decide +kernel
theorem dX1_copyFrom_9 : decode cX1_copyFrom 9 = .ok (.iconst 0, 1) := by decide +kernel
theorem dX1_copyFrom_10 : decode cX1_copyFrom 10 = .ok (.bipush 6, 2) := by decide +kernel
theorem dX1_copyFrom_12 : decode cX1_copyFrom 12 = .ok (.invokestatic 41, 3) := by decide +kernel
theorem dX1_copyFrom_15 : decode cX1_copyFrom 15 = .ok (.aload_n 1, 1) := by decide +kernel
theorem dX1_copyFrom_16 : decode cX1_copyFrom 16 = .ok (.getfield 15, 3) := by decide +kernel
theorem dX1_copyFrom_19 : decode cX1_copyFrom 19 = .ok (.iconst 0, 1) := by decide +kernel
theorem dX1_copyFrom_20 : decode cX1_copyFrom 20 = .ok (.aload_n 0, 1) := by decide +kernel
theorem dX1_copyFrom_21 : decode cX1_copyFrom 21 = .ok (.getfield 15, 3) := by decide +kernel
theorem dX1_copyFrom_24 : decode cX1_copyFrom 24 = .ok (.iconst 0, 1) := by decide +kernel
theorem dX1_copyFrom_25 : decode cX1_copyFrom 25 = .ok (.bipush 6, 2) := by decide +kernel
theorem dX1_copyFrom_27 : decode cX1_copyFrom 27 = .ok (.invokestatic 41, 3) := by decide +kernel
theorem dX1_copyFrom_30 : decode cX1_copyFrom 30 = .ok (.aload_n 1, 1) := by decide +kernel
theorem dX1_copyFrom_31 : decode cX1_copyFrom 31 = .ok (.getfield 18, 3) := by decide +kernel
theorem dX1_copyFrom_34 : decode cX1_copyFrom 34 = .ok (.iconst 0, 1) := by decide +kernel
theorem dX1_copyFrom_35 : decode cX1_copyFrom 35 = .ok (.aload_n 0, 1) := by decide +kernel
theorem dX1_copyFrom_36 : decode cX1_copyFrom 36 = .ok (.getfield 18, 3) := by decide +kernel
theorem dX1_copyFrom_39 : decode cX1_copyFrom 39 = .ok (.iconst 0, 1) := by decide +kernel
theorem dX1_copyFrom_40 : decode cX1_copyFrom 40 = .ok (.bipush 6, 2) := by decide +kernel
theorem dX1_copyFrom_42 : decode cX1_copyFrom 42 = .ok (.invokestatic 41, 3) := by decide +kernel
theorem dX1_copyFrom_45 : decode cX1_copyFrom 45 = .ok (.aload_n 1, 1) := by decide +kernel
theorem dX1_copyFrom_46 : decode cX1_copyFrom 46 = .ok (.getfield 21, 3) := by decide +kernel
theorem dX1_copyFrom_49 : decode cX1_copyFrom 49 = .ok (.iconst 0, 1) := by decide +kernel
theorem dX1_copyFrom_50 : decode cX1_copyFrom 50 = .ok (.aload_n 0, 1) := by decide +kernel
theorem dX1_copyFrom_51 : decode cX1_copyFrom 51 = .ok (.getfield 21, 3) := by decide +kernel
theorem dX1_copyFrom_54 : decode cX1_copyFrom 54 = .ok (.iconst 0, 1) := by decide +kernel
theorem dX1_copyFrom_55 : decode cX1_copyFrom 55 = .ok (.bipush 6, 2) := by decide +kernel
theorem dX1_copyFrom_57 : decode cX1_copyFrom 57 = .ok (.invokestatic 41, 3) := by decide +kernel
theorem dX1_copyFrom_60 : decode cX1_copyFrom 60 = .ok (.aload_n 1, 1) := by decide +kernel
theorem dX1_copyFrom_61 : decode cX1_copyFrom 61 = .ok (.getfield 24, 3) := by decide +kernel
theorem dX1_copyFrom_64 : decode cX1_copyFrom 64 = .ok (.iconst 0, 1) := by decide +kernel
theorem dX1_copyFrom_65 : decode cX1_copyFrom 65 = .ok (.aload_n 0, 1) := by decide +kernel
theorem dX1_copyFrom_66 : decode cX1_copyFrom 66 = .ok (.getfield 24, 3) := by decide +kernel
theorem dX1_copyFrom_69 : decode cX1_copyFrom 69 = .ok (.iconst 0, 1) := by decide +kernel
theorem dX1_copyFrom_70 : decode cX1_copyFrom 70 = .ok (.bipush 6, 2) := by decide +kernel
theorem dX1_copyFrom_72 : decode cX1_copyFrom 72 = .ok (.invokestatic 41, 3) := by decide +kernel
theorem dX1_copyFrom_75 : decode cX1_copyFrom 75 = .ok (.aload_n 1, 1) := by decide +kernel
theorem dX1_copyFrom_76 : decode cX1_copyFrom 76 = .ok (.getfield 27, 3) := by decide +kernel
theorem dX1_copyFrom_79 : decode cX1_copyFrom 79 = .ok (.iconst 0, 1) := by decide +kernel
theorem dX1_copyFrom_80 : decode cX1_copyFrom 80 = .ok (.aload_n 0, 1) := by decide +kernel
theorem dX1_copyFrom_81 : decode cX1_copyFrom 81 = .ok (.getfield 27, 3) := by decide +kernel
theorem dX1_copyFrom_84 : decode cX1_copyFrom 84 = .ok (.iconst 0, 1) := by decide +kernel
theorem dX1_copyFrom_85 : decode cX1_copyFrom 85 = .ok (.bipush 24, 2) := by decide +kernel
theorem dX1_copyFrom_87 : decode cX1_copyFrom 87 = .ok (.invokestatic 41, 3) := by decide +kernel
theorem dX1_copyFrom_90 : decode cX1_copyFrom 90 = .ok (.aload_n 1, 1) := by decide +kernel
theorem dX1_copyFrom_91 : decode cX1_copyFrom 91 = .ok (.getfield 30, 3) := by decide +kernel
theorem dX1_copyFrom_94 : decode cX1_copyFrom 94 = .ok (.iconst 0, 1) := by decide +kernel
theorem dX1_copyFrom_95 : decode cX1_copyFrom 95 = .ok (.aload_n 0, 1) := by decide +kernel
theorem dX1_copyFrom_96 : decode cX1_copyFrom 96 = .ok (.getfield 30, 3) := by decide +kernel
theorem dX1_copyFrom_99 : decode cX1_copyFrom 99 = .ok (.iconst 0, 1) := by decide +kernel
theorem dX1_copyFrom_100 : decode cX1_copyFrom 100 = .ok (.iconst 3, 1) := by decide +kernel
theorem dX1_copyFrom_101 : decode cX1_copyFrom 101 = .ok (.invokestatic 41, 3) := by decide +kernel
theorem dX1_copyFrom_104 : decode cX1_copyFrom 104 = .ok (.aload_n 0, 1) := by decide +kernel
theorem dX1_copyFrom_105 : decode cX1_copyFrom 105 = .ok (.aload_n 1, 1) := by decide +kernel
theorem dX1_copyFrom_106 : decode cX1_copyFrom 106 = .ok (.getfield 47, 3) := by decide +kernel
theorem dX1_copyFrom_109 : decode cX1_copyFrom 109 = .ok (.putfield 47, 3) := by decide +kernel
theorem dX1_copyFrom_112 : decode cX1_copyFrom 112 = .ok (.aload_n 0, 1) := by decide +kernel
theorem dX1_copyFrom_113 : decode cX1_copyFrom 113 = .ok (.aload_n 1, 1) := by decide +kernel
theorem dX1_copyFrom_114 : decode cX1_copyFrom 114 = .ok (.getfield 50, 3) := by decide +kernel
theorem dX1_copyFrom_117 : decode cX1_copyFrom 117 = .ok (.putfield 50, 3) := by decide +kernel
theorem dX1_copyFrom_120 : decode cX1_copyFrom 120 = .ok (.aload_n 0, 1) := by decide +kernel
theorem dX1_copyFrom_121 : decode cX1_copyFrom 121 = .ok (.aload_n 1, 1) := by decide +kernel
theorem dX1_copyFrom_122 : decode cX1_copyFrom 122 = .ok (.getfield 37, 3) := by decide +kernel
theorem dX1_copyFrom_125 : decode cX1_copyFrom 125 = .ok (.putfield 37, 3) := by decide +kernel
theorem dX1_copyFrom_128 : decode cX1_copyFrom 128 = .ok (.aload_n 0, 1) := by decide +kernel
theorem dX1_copyFrom_129 : decode cX1_copyFrom 129 = .ok (.aload_n 1, 1) := by decide +kernel
theorem dX1_copyFrom_130 : decode cX1_copyFrom 130 = .ok (.getfield 53, 3) := by decide +kernel
theorem dX1_copyFrom_133 : decode cX1_copyFrom 133 = .ok (.putfield 53, 3) := by decide +kernel
theorem dX1_copyFrom_136 : decode cX1_copyFrom 136 = .ok (.aload_n 0, 1) := by decide +kernel
theorem dX1_copyFrom_137 : decode cX1_copyFrom 137 = .ok (.aload_n 1, 1) := by decide +kernel
theorem dX1_copyFrom_138 : decode cX1_copyFrom 138 = .ok (.getfield 56, 3) := by decide +kernel
theorem dX1_copyFrom_141 : decode cX1_copyFrom 141 = .ok (.putfield 56, 3) := by decide +kernel
theorem dX1_copyFrom_144 : decode cX1_copyFrom 144 = .ok (.aload_n 0, 1) := by decide +kernel
theorem dX1_copyFrom_145 : decode cX1_copyFrom 145 = .ok (.aload_n 1, 1) := by decide +kernel
theorem dX1_copyFrom_146 : decode cX1_copyFrom 146 = .ok (.getfield 59, 3) := by decide +kernel
theorem dX1_copyFrom_149 : decode cX1_copyFrom 149 = .ok (.putfield 59, 3) := by decide +kernel
theorem dX1_copyFrom_152 : decode cX1_copyFrom 152 = .ok (.aload_n 0, 1) := by decide +kernel
theorem dX1_copyFrom_153 : decode cX1_copyFrom 153 = .ok (.aload_n 1, 1) := by decide +kernel
theorem dX1_copyFrom_154 : decode cX1_copyFrom 154 = .ok (.getfield 33, 3) := by decide +kernel
theorem dX1_copyFrom_157 : decode cX1_copyFrom 157 = .ok (.putfield 33, 3) := by decide +kernel
theorem dX1_copyFrom_160 : decode cX1_copyFrom 160 = .ok (.return_, 1) := by decide +kernel
theorem dX1_startFrom_0 : decode cX1_startFrom 0 = .ok (.aload_n 0, 1) := by decide +kernel
theorem dX1_startFrom_1 : decode cX1_startFrom 1 = .ok (.aload_n 1, 1) := by decide +kernel
theorem dX1_startFrom_2 : decode cX1_startFrom 2 = .ok (.invokevirtual 62, 3) := by decide +kernel
theorem dX1_startFrom_5 : decode cX1_startFrom 5 = .ok (.aload_n 0, 1) := by decide +kernel
theorem dX1_startFrom_6 : decode cX1_startFrom 6 = .ok (.iconst 0, 1) := by decide +kernel
theorem dX1_startFrom_7 : decode cX1_startFrom 7 = .ok (.putfield 56, 3) := by decide +kernel
theorem dX1_startFrom_10 : decode cX1_startFrom 10 = .ok (.return_, 1) := by decide +kernel
theorem dX1_take_0 : decode cX1_take 0 = .ok (.aload_n 0, 1) := by decide +kernel
theorem dX1_take_1 : decode cX1_take 1 = .ok (.getfield 47, 3) := by decide +kernel
theorem dX1_take_4 : decode cX1_take 4 = .ok (.istore 4, 2) := by decide +kernel
theorem dX1_take_6 : decode cX1_take 6 = .ok (.aload_n 0, 1) := by decide +kernel
theorem dX1_take_7 : decode cX1_take 7 = .ok (.getfield 9, 3) := by decide +kernel
theorem dX1_take_10 : decode cX1_take 10 = .ok (.iload 4, 2) := by decide +kernel
theorem dX1_take_12 : decode cX1_take 12 = .ok (.iload_n 1, 1) := by decide +kernel
theorem dX1_take_13 : decode cX1_take 13 = .ok (.iastore, 1) := by decide +kernel
theorem dX1_take_14 : decode cX1_take 14 = .ok (.aload_n 0, 1) := by decide +kernel
theorem dX1_take_15 : decode cX1_take 15 = .ok (.getfield 15, 3) := by decide +kernel
theorem dX1_take_18 : decode cX1_take 18 = .ok (.iload 4, 2) := by decide +kernel
theorem dX1_take_20 : decode cX1_take 20 = .ok (.iload_n 2, 1) := by decide +kernel
theorem dX1_take_21 : decode cX1_take 21 = .ok (.iastore, 1) := by decide +kernel
theorem dX1_take_22 : decode cX1_take 22 = .ok (.aload_n 0, 1) := by decide +kernel
theorem dX1_take_23 : decode cX1_take 23 = .ok (.getfield 18, 3) := by decide +kernel
theorem dX1_take_26 : decode cX1_take 26 = .ok (.iload 4, 2) := by decide +kernel
theorem dX1_take_28 : decode cX1_take 28 = .ok (.iload_n 3, 1) := by decide +kernel
theorem dX1_take_29 : decode cX1_take 29 = .ok (.iastore, 1) := by decide +kernel
theorem dX1_take_30 : decode cX1_take 30 = .ok (.aload_n 0, 1) := by decide +kernel
theorem dX1_take_31 : decode cX1_take 31 = .ok (.getfield 21, 3) := by decide +kernel
theorem dX1_take_34 : decode cX1_take 34 = .ok (.iload 4, 2) := by decide +kernel
theorem dX1_take_36 : decode cX1_take 36 = .ok (.iconst 0, 1) := by decide +kernel
theorem dX1_take_37 : decode cX1_take 37 = .ok (.iastore, 1) := by decide +kernel
theorem dX1_take_38 : decode cX1_take 38 = .ok (.aload_n 0, 1) := by decide +kernel
theorem dX1_take_39 : decode cX1_take 39 = .ok (.getfield 24, 3) := by decide +kernel
theorem dX1_take_42 : decode cX1_take 42 = .ok (.iload 4, 2) := by decide +kernel
theorem dX1_take_44 : decode cX1_take 44 = .ok (.iconst 0, 1) := by decide +kernel
theorem dX1_take_45 : decode cX1_take 45 = .ok (.iastore, 1) := by decide +kernel
theorem dX1_take_46 : decode cX1_take 46 = .ok (.iconst 0, 1) := by decide +kernel
theorem dX1_take_47 : decode cX1_take 47 = .ok (.istore 5, 2) := by decide +kernel
theorem dX1_take_49 : decode cX1_take 49 = .ok (.iload 5, 2) := by decide +kernel
theorem dX1_take_51 : decode cX1_take 51 = .ok (.iconst 4, 1) := by decide +kernel
theorem dX1_take_52 : decode cX1_take 52 = .ok (.if_icmp .ge 22, 3) := by decide +kernel
theorem dX1_take_55 : decode cX1_take 55 = .ok (.aload_n 0, 1) := by decide +kernel
theorem dX1_take_56 : decode cX1_take 56 = .ok (.getfield 27, 3) := by decide +kernel
theorem dX1_take_59 : decode cX1_take 59 = .ok (.iconst 4, 1) := by decide +kernel
theorem dX1_take_60 : decode cX1_take 60 = .ok (.iload 4, 2) := by decide +kernel
theorem dX1_take_62 : decode cX1_take 62 = .ok (.imul, 1) := by decide +kernel
theorem dX1_take_63 : decode cX1_take 63 = .ok (.iload 5, 2) := by decide +kernel
theorem dX1_take_65 : decode cX1_take 65 = .ok (.iadd, 1) := by decide +kernel
theorem dX1_take_66 : decode cX1_take 66 = .ok (.iconst 0, 1) := by decide +kernel
theorem dX1_take_67 : decode cX1_take 67 = .ok (.iastore, 1) := by decide +kernel
theorem dX1_take_68 : decode cX1_take 68 = .ok (.iinc 5 1, 3) := by decide +kernel
theorem dX1_take_71 : decode cX1_take 71 = .ok (.goto (-22), 3) := by decide +kernel
theorem dX1_take_74 : decode cX1_take 74 = .ok (.aload_n 0, 1) := by decide +kernel
theorem dX1_take_75 : decode cX1_take 75 = .ok (.dup, 1) := by decide +kernel
theorem dX1_take_76 : decode cX1_take 76 = .ok (.getfield 47, 3) := by decide +kernel
theorem dX1_take_79 : decode cX1_take 79 = .ok (.iconst 1, 1) := by decide +kernel
theorem dX1_take_80 : decode cX1_take 80 = .ok (.iadd, 1) := by decide +kernel
theorem dX1_take_81 : decode cX1_take 81 = .ok (.putfield 47, 3) := by decide +kernel
theorem dX1_take_84 : decode cX1_take 84 = .ok (.iload 4, 2) := by decide +kernel
theorem dX1_take_86 : decode cX1_take 86 = .ok (.ireturn, 1) := by decide +kernel
theorem dX1_has_0 : decode cX1_has 0 = .ok (.iload_n 1, 1) := by decide +kernel
theorem dX1_has_1 : decode cX1_has 1 = .ok (.ifCond .lt 15, 3) := by decide +kernel
theorem dX1_has_4 : decode cX1_has 4 = .ok (.iload_n 1, 1) := by decide +kernel
theorem dX1_has_5 : decode cX1_has 5 = .ok (.aload_n 0, 1) := by decide +kernel
theorem dX1_has_6 : decode cX1_has 6 = .ok (.getfield 47, 3) := by decide +kernel
theorem dX1_has_9 : decode cX1_has 9 = .ok (.if_icmp .ge 7, 3) := by decide +kernel
theorem dX1_has_12 : decode cX1_has 12 = .ok (.iconst 1, 1) := by decide +kernel
theorem dX1_has_13 : decode cX1_has 13 = .ok (.goto 4, 3) := by decide +kernel
theorem dX1_has_16 : decode cX1_has 16 = .ok (.iconst 0, 1) := by decide +kernel
theorem dX1_has_17 : decode cX1_has 17 = .ok (.ireturn, 1) := by decide +kernel
theorem dX1_placeOf_0 : decode cX1_placeOf 0 = .ok (.iconst 0, 1) := by decide +kernel
theorem dX1_placeOf_1 : decode cX1_placeOf 1 = .ok (.istore_n 2, 1) := by decide +kernel
theorem dX1_placeOf_2 : decode cX1_placeOf 2 = .ok (.iload_n 2, 1) := by decide +kernel
theorem dX1_placeOf_3 : decode cX1_placeOf 3 = .ok (.aload_n 0, 1) := by decide +kernel
theorem dX1_placeOf_4 : decode cX1_placeOf 4 = .ok (.getfield 50, 3) := by decide +kernel
theorem dX1_placeOf_7 : decode cX1_placeOf 7 = .ok (.if_icmp .ge 21, 3) := by decide +kernel
theorem dX1_placeOf_10 : decode cX1_placeOf 10 = .ok (.aload_n 0, 1) := by decide +kernel
theorem dX1_placeOf_11 : decode cX1_placeOf 11 = .ok (.getfield 30, 3) := by decide +kernel
theorem dX1_placeOf_14 : decode cX1_placeOf 14 = .ok (.iload_n 2, 1) := by decide +kernel
theorem dX1_placeOf_15 : decode cX1_placeOf 15 = .ok (.iaload, 1) := by decide +kernel
theorem dX1_placeOf_16 : decode cX1_placeOf 16 = .ok (.iload_n 1, 1) := by decide +kernel
theorem dX1_placeOf_17 : decode cX1_placeOf 17 = .ok (.if_icmp .ne 5, 3) := by decide +kernel
theorem dX1_placeOf_20 : decode cX1_placeOf 20 = .ok (.iload_n 2, 1) := by decide +kernel
theorem dX1_placeOf_21 : decode cX1_placeOf 21 = .ok (.ireturn, 1) := by decide +kernel
theorem dX1_placeOf_22 : decode cX1_placeOf 22 = .ok (.iinc 2 1, 3) := by decide +kernel
theorem dX1_placeOf_25 : decode cX1_placeOf 25 = .ok (.goto (-23), 3) := by decide +kernel
theorem dX1_placeOf_28 : decode cX1_placeOf 28 = .ok (.iconst (-1), 1) := by decide +kernel
theorem dX1_placeOf_29 : decode cX1_placeOf 29 = .ok (.ireturn, 1) := by decide +kernel
theorem dX1_putUpon_0 : decode cX1_putUpon 0 = .ok (.aload_n 0, 1) := by decide +kernel
theorem dX1_putUpon_1 : decode cX1_putUpon 1 = .ok (.getfield 50, 3) := by decide +kernel
theorem dX1_putUpon_4 : decode cX1_putUpon 4 = .ok (.iconst 3, 1) := by decide +kernel
theorem dX1_putUpon_5 : decode cX1_putUpon 5 = .ok (.if_icmp .ge 23, 3) := by decide +kernel
theorem dX1_putUpon_8 : decode cX1_putUpon 8 = .ok (.aload_n 0, 1) := by decide +kernel
theorem dX1_putUpon_9 : decode cX1_putUpon 9 = .ok (.getfield 30, 3) := by decide +kernel
theorem dX1_putUpon_12 : decode cX1_putUpon 12 = .ok (.aload_n 0, 1) := by decide +kernel
theorem dX1_putUpon_13 : decode cX1_putUpon 13 = .ok (.getfield 50, 3) := by decide +kernel
theorem dX1_putUpon_16 : decode cX1_putUpon 16 = .ok (.iload_n 1, 1) := by decide +kernel
theorem dX1_putUpon_17 : decode cX1_putUpon 17 = .ok (.iastore, 1) := by decide +kernel
theorem dX1_putUpon_18 : decode cX1_putUpon 18 = .ok (.aload_n 0, 1) := by decide +kernel
theorem dX1_putUpon_19 : decode cX1_putUpon 19 = .ok (.dup, 1) := by decide +kernel
theorem dX1_putUpon_20 : decode cX1_putUpon 20 = .ok (.getfield 50, 3) := by decide +kernel
theorem dX1_putUpon_23 : decode cX1_putUpon 23 = .ok (.iconst 1, 1) := by decide +kernel
theorem dX1_putUpon_24 : decode cX1_putUpon 24 = .ok (.iadd, 1) := by decide +kernel
theorem dX1_putUpon_25 : decode cX1_putUpon 25 = .ok (.putfield 50, 3) := by decide +kernel
theorem dX1_putUpon_28 : decode cX1_putUpon 28 = .ok (.return_, 1) := by decide +kernel
theorem dX1_lashRow_0 : decode cX1_lashRow 0 = .ok (.iload_n 1, 1) := by decide +kernel
theorem dX1_lashRow_1 : decode cX1_lashRow 1 = .ok (.ifCond .lt 10, 3) := by decide +kernel
theorem dX1_lashRow_4 : decode cX1_lashRow 4 = .ok (.iload_n 1, 1) := by decide +kernel
theorem dX1_lashRow_5 : decode cX1_lashRow 5 = .ok (.sipush 294, 3) := by decide +kernel
theorem dX1_lashRow_8 : decode cX1_lashRow 8 = .ok (.if_icmp .lt 5, 3) := by decide +kernel
theorem dX1_lashRow_11 : decode cX1_lashRow 11 = .ok (.iconst 0, 1) := by decide +kernel
theorem dX1_lashRow_12 : decode cX1_lashRow 12 = .ok (.ireturn, 1) := by decide +kernel
theorem dX1_lashRow_13 : decode cX1_lashRow 13 = .ok (.iload_n 1, 1) := by decide +kernel
theorem dX1_lashRow_14 : decode cX1_lashRow 14 = .ok (.bipush 49, 2) := by decide +kernel
theorem dX1_lashRow_16 : decode cX1_lashRow 16 = .ok (.idiv, 1) := by decide +kernel
theorem dX1_lashRow_17 : decode cX1_lashRow 17 = .ok (.istore_n 2, 1) := by decide +kernel
theorem dX1_lashRow_18 : decode cX1_lashRow 18 = .ok (.iload_n 1, 1) := by decide +kernel
theorem dX1_lashRow_19 : decode cX1_lashRow 19 = .ok (.bipush 7, 2) := by decide +kernel
theorem dX1_lashRow_21 : decode cX1_lashRow 21 = .ok (.idiv, 1) := by decide +kernel
theorem dX1_lashRow_22 : decode cX1_lashRow 22 = .ok (.bipush 7, 2) := by decide +kernel
theorem dX1_lashRow_24 : decode cX1_lashRow 24 = .ok (.irem, 1) := by decide +kernel
theorem dX1_lashRow_25 : decode cX1_lashRow 25 = .ok (.iconst 1, 1) := by decide +kernel
theorem dX1_lashRow_26 : decode cX1_lashRow 26 = .ok (.isub, 1) := by decide +kernel
theorem dX1_lashRow_27 : decode cX1_lashRow 27 = .ok (.istore_n 3, 1) := by decide +kernel
theorem dX1_lashRow_28 : decode cX1_lashRow 28 = .ok (.iload_n 1, 1) := by decide +kernel
theorem dX1_lashRow_29 : decode cX1_lashRow 29 = .ok (.bipush 7, 2) := by decide +kernel
theorem dX1_lashRow_31 : decode cX1_lashRow 31 = .ok (.irem, 1) := by decide +kernel
theorem dX1_lashRow_32 : decode cX1_lashRow 32 = .ok (.iconst 1, 1) := by decide +kernel
theorem dX1_lashRow_33 : decode cX1_lashRow 33 = .ok (.isub, 1) := by decide +kernel
theorem dX1_lashRow_34 : decode cX1_lashRow 34 = .ok (.istore 4, 2) := by decide +kernel
theorem dX1_lashRow_36 : decode cX1_lashRow 36 = .ok (.aload_n 0, 1) := by decide +kernel
theorem dX1_lashRow_37 : decode cX1_lashRow 37 = .ok (.getfield 30, 3) := by decide +kernel
theorem dX1_lashRow_40 : decode cX1_lashRow 40 = .ok (.iconst 0, 1) := by decide +kernel
theorem dX1_lashRow_41 : decode cX1_lashRow 41 = .ok (.iload_n 2, 1) := by decide +kernel
theorem dX1_lashRow_42 : decode cX1_lashRow 42 = .ok (.iastore, 1) := by decide +kernel
theorem dX1_lashRow_43 : decode cX1_lashRow 43 = .ok (.aload_n 0, 1) := by decide +kernel
theorem dX1_lashRow_44 : decode cX1_lashRow 44 = .ok (.getfield 30, 3) := by decide +kernel
theorem dX1_lashRow_47 : decode cX1_lashRow 47 = .ok (.iconst 1, 1) := by decide +kernel
theorem dX1_lashRow_48 : decode cX1_lashRow 48 = .ok (.iload_n 3, 1) := by decide +kernel
theorem dX1_lashRow_49 : decode cX1_lashRow 49 = .ok (.iastore, 1) := by decide +kernel
theorem dX1_lashRow_50 : decode cX1_lashRow 50 = .ok (.aload_n 0, 1) := by decide +kernel
theorem dX1_lashRow_51 : decode cX1_lashRow 51 = .ok (.getfield 30, 3) := by decide +kernel
theorem dX1_lashRow_54 : decode cX1_lashRow 54 = .ok (.iconst 2, 1) := by decide +kernel
theorem dX1_lashRow_55 : decode cX1_lashRow 55 = .ok (.iload 4, 2) := by decide +kernel
theorem dX1_lashRow_57 : decode cX1_lashRow 57 = .ok (.iastore, 1) := by decide +kernel
theorem dX1_lashRow_58 : decode cX1_lashRow 58 = .ok (.aload_n 0, 1) := by decide +kernel
theorem dX1_lashRow_59 : decode cX1_lashRow 59 = .ok (.iload_n 3, 1) := by decide +kernel
theorem dX1_lashRow_60 : decode cX1_lashRow 60 = .ok (.ifCond .ge 7, 3) := by decide +kernel
theorem dX1_lashRow_63 : decode cX1_lashRow 63 = .ok (.iconst 1, 1) := by decide +kernel
theorem dX1_lashRow_64 : decode cX1_lashRow 64 = .ok (.goto 13, 3) := by decide +kernel
theorem dX1_lashRow_67 : decode cX1_lashRow 67 = .ok (.iload 4, 2) := by decide +kernel
theorem dX1_lashRow_69 : decode cX1_lashRow 69 = .ok (.ifCond .ge 7, 3) := by decide +kernel
theorem dX1_lashRow_72 : decode cX1_lashRow 72 = .ok (.iconst 2, 1) := by decide +kernel
theorem dX1_lashRow_73 : decode cX1_lashRow 73 = .ok (.goto 4, 3) := by decide +kernel
theorem dX1_lashRow_76 : decode cX1_lashRow 76 = .ok (.iconst 3, 1) := by decide +kernel
theorem dX1_lashRow_77 : decode cX1_lashRow 77 = .ok (.putfield 50, 3) := by decide +kernel
theorem dX1_lashRow_80 : decode cX1_lashRow 80 = .ok (.iload_n 3, 1) := by decide +kernel
theorem dX1_lashRow_81 : decode cX1_lashRow 81 = .ok (.ifCond .ge 12, 3) := by decide +kernel
theorem dX1_lashRow_84 : decode cX1_lashRow 84 = .ok (.iload 4, 2) := by decide +kernel
theorem dX1_lashRow_86 : decode cX1_lashRow 86 = .ok (.ifCond .lt 7, 3) := by decide +kernel
theorem dX1_lashRow_89 : decode cX1_lashRow 89 = .ok (.iconst 1, 1) := by decide +kernel
theorem dX1_lashRow_90 : decode cX1_lashRow 90 = .ok (.goto 4, 3) := by decide +kernel
theorem dX1_lashRow_93 : decode cX1_lashRow 93 = .ok (.iconst 0, 1) := by decide +kernel
theorem dX1_lashRow_94 : decode cX1_lashRow 94 = .ok (.istore 5, 2) := by decide +kernel
theorem dX1_lashRow_96 : decode cX1_lashRow 96 = .ok (.iload_n 2, 1) := by decide +kernel
theorem dX1_lashRow_97 : decode cX1_lashRow 97 = .ok (.iload_n 3, 1) := by decide +kernel
theorem dX1_lashRow_98 : decode cX1_lashRow 98 = .ok (.if_icmp .eq 19, 3) := by decide +kernel
theorem dX1_lashRow_101 : decode cX1_lashRow 101 = .ok (.iload_n 2, 1) := by decide +kernel
theorem dX1_lashRow_102 : decode cX1_lashRow 102 = .ok (.iload 4, 2) := by decide +kernel
theorem dX1_lashRow_104 : decode cX1_lashRow 104 = .ok (.if_icmp .eq 13, 3) := by decide +kernel
theorem dX1_lashRow_107 : decode cX1_lashRow 107 = .ok (.iload_n 3, 1) := by decide +kernel
theorem dX1_lashRow_108 : decode cX1_lashRow 108 = .ok (.ifCond .lt 13, 3) := by decide +kernel
theorem dX1_lashRow_111 : decode cX1_lashRow 111 = .ok (.iload_n 3, 1) := by decide +kernel
theorem dX1_lashRow_112 : decode cX1_lashRow 112 = .ok (.iload 4, 2) := by decide +kernel
theorem dX1_lashRow_114 : decode cX1_lashRow 114 = .ok (.if_icmp .ne 7, 3) := by decide +kernel
theorem dX1_lashRow_117 : decode cX1_lashRow 117 = .ok (.iconst 1, 1) := by decide +kernel
theorem dX1_lashRow_118 : decode cX1_lashRow 118 = .ok (.goto 4, 3) := by decide +kernel
theorem dX1_lashRow_121 : decode cX1_lashRow 121 = .ok (.iconst 0, 1) := by decide +kernel
theorem dX1_lashRow_122 : decode cX1_lashRow 122 = .ok (.istore 6, 2) := by decide +kernel
theorem dX1_lashRow_124 : decode cX1_lashRow 124 = .ok (.iload 5, 2) := by decide +kernel
theorem dX1_lashRow_126 : decode cX1_lashRow 126 = .ok (.ifCond .ne 37, 3) := by decide +kernel
theorem dX1_lashRow_129 : decode cX1_lashRow 129 = .ok (.iload 6, 2) := by decide +kernel
theorem dX1_lashRow_131 : decode cX1_lashRow 131 = .ok (.ifCond .ne 32, 3) := by decide +kernel
theorem dX1_lashRow_134 : decode cX1_lashRow 134 = .ok (.iload_n 2, 1) := by decide +kernel
theorem dX1_lashRow_135 : decode cX1_lashRow 135 = .ok (.aload_n 0, 1) := by decide +kernel
theorem dX1_lashRow_136 : decode cX1_lashRow 136 = .ok (.getfield 47, 3) := by decide +kernel
theorem dX1_lashRow_139 : decode cX1_lashRow 139 = .ok (.if_icmp .ge 24, 3) := by decide +kernel
theorem dX1_lashRow_142 : decode cX1_lashRow 142 = .ok (.iload_n 3, 1) := by decide +kernel
theorem dX1_lashRow_143 : decode cX1_lashRow 143 = .ok (.aload_n 0, 1) := by decide +kernel
theorem dX1_lashRow_144 : decode cX1_lashRow 144 = .ok (.getfield 47, 3) := by decide +kernel
theorem dX1_lashRow_147 : decode cX1_lashRow 147 = .ok (.if_icmp .ge 16, 3) := by decide +kernel
theorem dX1_lashRow_150 : decode cX1_lashRow 150 = .ok (.iload 4, 2) := by decide +kernel
theorem dX1_lashRow_152 : decode cX1_lashRow 152 = .ok (.aload_n 0, 1) := by decide +kernel
theorem dX1_lashRow_153 : decode cX1_lashRow 153 = .ok (.getfield 47, 3) := by decide +kernel
theorem dX1_lashRow_156 : decode cX1_lashRow 156 = .ok (.if_icmp .ge 7, 3) := by decide +kernel
theorem dX1_lashRow_159 : decode cX1_lashRow 159 = .ok (.iconst 1, 1) := by decide +kernel
theorem dX1_lashRow_160 : decode cX1_lashRow 160 = .ok (.goto 4, 3) := by decide +kernel
theorem dX1_lashRow_163 : decode cX1_lashRow 163 = .ok (.iconst 0, 1) := by decide +kernel
theorem dX1_lashRow_164 : decode cX1_lashRow 164 = .ok (.ireturn, 1) := by decide +kernel
theorem dX1_standsOfTheSame_0 : decode cX1_standsOfTheSame 0 = .ok (.iconst 0, 1) := by decide +kernel
theorem dX1_standsOfTheSame_1 : decode cX1_standsOfTheSame 1 = .ok (.istore_n 2, 1) := by decide +kernel
theorem dX1_standsOfTheSame_2 : decode cX1_standsOfTheSame 2 = .ok (.iload_n 2, 1) := by decide +kernel
theorem dX1_standsOfTheSame_3 : decode cX1_standsOfTheSame 3 = .ok (.aload_n 0, 1) := by decide +kernel
theorem dX1_standsOfTheSame_4 : decode cX1_standsOfTheSame 4 = .ok (.getfield 50, 3) := by decide +kernel
theorem dX1_standsOfTheSame_7 : decode cX1_standsOfTheSame 7 = .ok (.if_icmp .ge 24, 3) := by decide +kernel
theorem dX1_standsOfTheSame_10 : decode cX1_standsOfTheSame 10 = .ok (.aload_n 1, 1) := by decide +kernel
theorem dX1_standsOfTheSame_11 : decode cX1_standsOfTheSame 11 = .ok (.aload_n 0, 1) := by decide +kernel
theorem dX1_standsOfTheSame_12 : decode cX1_standsOfTheSame 12 = .ok (.getfield 30, 3) := by decide +kernel
theorem dX1_standsOfTheSame_15 : decode cX1_standsOfTheSame 15 = .ok (.iload_n 2, 1) := by decide +kernel
theorem dX1_standsOfTheSame_16 : decode cX1_standsOfTheSame 16 = .ok (.iaload, 1) := by decide +kernel
theorem dX1_standsOfTheSame_17 : decode cX1_standsOfTheSame 17 = .ok (.invokevirtual 66, 3) := by decide +kernel
theorem dX1_standsOfTheSame_20 : decode cX1_standsOfTheSame 20 = .ok (.ifCond .ge 5, 3) := by decide +kernel
theorem dX1_standsOfTheSame_23 : decode cX1_standsOfTheSame 23 = .ok (.iconst 0, 1) := by decide +kernel
theorem dX1_standsOfTheSame_24 : decode cX1_standsOfTheSame 24 = .ok (.ireturn, 1) := by decide +kernel
theorem dX1_standsOfTheSame_25 : decode cX1_standsOfTheSame 25 = .ok (.iinc 2 1, 3) := by decide +kernel
theorem dX1_standsOfTheSame_28 : decode cX1_standsOfTheSame 28 = .ok (.goto (-26), 3) := by decide +kernel
theorem dX1_standsOfTheSame_31 : decode cX1_standsOfTheSame 31 = .ok (.aload_n 0, 1) := by decide +kernel
theorem dX1_standsOfTheSame_32 : decode cX1_standsOfTheSame 32 = .ok (.getfield 50, 3) := by decide +kernel
theorem dX1_standsOfTheSame_35 : decode cX1_standsOfTheSame 35 = .ok (.aload_n 1, 1) := by decide +kernel
theorem dX1_standsOfTheSame_36 : decode cX1_standsOfTheSame 36 = .ok (.getfield 50, 3) := by decide +kernel
theorem dX1_standsOfTheSame_39 : decode cX1_standsOfTheSame 39 = .ok (.if_icmp .ne 7, 3) := by decide +kernel
theorem dX1_standsOfTheSame_42 : decode cX1_standsOfTheSame 42 = .ok (.iconst 1, 1) := by decide +kernel
theorem dX1_standsOfTheSame_43 : decode cX1_standsOfTheSame 43 = .ok (.goto 4, 3) := by decide +kernel
theorem dX1_standsOfTheSame_46 : decode cX1_standsOfTheSame 46 = .ok (.iconst 0, 1) := by decide +kernel
theorem dX1_standsOfTheSame_47 : decode cX1_standsOfTheSame 47 = .ok (.ireturn, 1) := by decide +kernel
theorem dX1_above_0 : decode cX1_above 0 = .ok (.iconst 0, 1) := by decide +kernel
theorem dX1_above_1 : decode cX1_above 1 = .ok (.istore_n 2, 1) := by decide +kernel
theorem dX1_above_2 : decode cX1_above 2 = .ok (.iload_n 1, 1) := by decide +kernel
theorem dX1_above_3 : decode cX1_above 3 = .ok (.istore_n 3, 1) := by decide +kernel
theorem dX1_above_4 : decode cX1_above 4 = .ok (.iload_n 3, 1) := by decide +kernel
theorem dX1_above_5 : decode cX1_above 5 = .ok (.aload_n 0, 1) := by decide +kernel
theorem dX1_above_6 : decode cX1_above 6 = .ok (.getfield 50, 3) := by decide +kernel
theorem dX1_above_9 : decode cX1_above 9 = .ok (.if_icmp .ge 23, 3) := by decide +kernel
theorem dX1_above_12 : decode cX1_above 12 = .ok (.iload_n 2, 1) := by decide +kernel
theorem dX1_above_13 : decode cX1_above 13 = .ok (.aload_n 0, 1) := by decide +kernel
theorem dX1_above_14 : decode cX1_above 14 = .ok (.getfield 18, 3) := by decide +kernel
theorem dX1_above_17 : decode cX1_above 17 = .ok (.aload_n 0, 1) := by decide +kernel
theorem dX1_above_18 : decode cX1_above 18 = .ok (.getfield 30, 3) := by decide +kernel
theorem dX1_above_21 : decode cX1_above 21 = .ok (.iload_n 3, 1) := by decide +kernel
theorem dX1_above_22 : decode cX1_above 22 = .ok (.iaload, 1) := by decide +kernel
theorem dX1_above_23 : decode cX1_above 23 = .ok (.iaload, 1) := by decide +kernel
theorem dX1_above_24 : decode cX1_above 24 = .ok (.iadd, 1) := by decide +kernel
theorem dX1_above_25 : decode cX1_above 25 = .ok (.istore_n 2, 1) := by decide +kernel
theorem dX1_above_26 : decode cX1_above 26 = .ok (.iinc 3 1, 3) := by decide +kernel
theorem dX1_above_29 : decode cX1_above 29 = .ok (.goto (-25), 3) := by decide +kernel
theorem dX1_above_32 : decode cX1_above 32 = .ok (.aload_n 0, 1) := by decide +kernel
theorem dX1_above_33 : decode cX1_above 33 = .ok (.getfield 33, 3) := by decide +kernel
theorem dX1_above_36 : decode cX1_above 36 = .ok (.getfield 70, 3) := by decide +kernel
theorem dX1_above_39 : decode cX1_above 39 = .ok (.aload_n 0, 1) := by decide +kernel
theorem dX1_above_40 : decode cX1_above 40 = .ok (.getfield 50, 3) := by decide +kernel
theorem dX1_above_43 : decode cX1_above 43 = .ok (.iconst 1, 1) := by decide +kernel
theorem dX1_above_44 : decode cX1_above 44 = .ok (.isub, 1) := by decide +kernel
theorem dX1_above_45 : decode cX1_above 45 = .ok (.iload_n 1, 1) := by decide +kernel
theorem dX1_above_46 : decode cX1_above 46 = .ok (.isub, 1) := by decide +kernel
theorem dX1_above_47 : decode cX1_above 47 = .ok (.imul, 1) := by decide +kernel
theorem dX1_above_48 : decode cX1_above 48 = .ok (.istore_n 3, 1) := by decide +kernel
theorem dX1_above_49 : decode cX1_above 49 = .ok (.iload_n 2, 1) := by decide +kernel
theorem dX1_above_50 : decode cX1_above 50 = .ok (.iload_n 3, 1) := by decide +kernel
theorem dX1_above_51 : decode cX1_above 51 = .ok (.if_icmp .le 9, 3) := by decide +kernel
theorem dX1_above_54 : decode cX1_above 54 = .ok (.iload_n 2, 1) := by decide +kernel
theorem dX1_above_55 : decode cX1_above 55 = .ok (.iload_n 3, 1) := by decide +kernel
theorem dX1_above_56 : decode cX1_above 56 = .ok (.isub, 1) := by decide +kernel
theorem dX1_above_57 : decode cX1_above 57 = .ok (.goto 4, 3) := by decide +kernel
theorem dX1_above_60 : decode cX1_above 60 = .ok (.iconst 0, 1) := by decide +kernel
theorem dX1_above_61 : decode cX1_above 61 = .ok (.ireturn, 1) := by decide +kernel
theorem dX1_height_0 : decode cX1_height 0 = .ok (.aload_n 0, 1) := by decide +kernel
theorem dX1_height_1 : decode cX1_height 1 = .ok (.getfield 50, 3) := by decide +kernel
theorem dX1_height_4 : decode cX1_height 4 = .ok (.ifCond .ne 7, 3) := by decide +kernel
theorem dX1_height_7 : decode cX1_height 7 = .ok (.iconst 0, 1) := by decide +kernel
theorem dX1_height_8 : decode cX1_height 8 = .ok (.goto 8, 3) := by decide +kernel
theorem dX1_height_11 : decode cX1_height 11 = .ok (.aload_n 0, 1) := by decide +kernel
theorem dX1_height_12 : decode cX1_height 12 = .ok (.iconst 0, 1) := by decide +kernel
theorem dX1_height_13 : decode cX1_height 13 = .ok (.invokevirtual 75, 3) := by decide +kernel
theorem dX1_height_16 : decode cX1_height 16 = .ok (.ireturn, 1) := by decide +kernel
theorem dX1_load_0 : decode cX1_load 0 = .ok (.iconst 0, 1) := by decide +kernel
theorem dX1_load_1 : decode cX1_load 1 = .ok (.aload_n 0, 1) := by decide +kernel
theorem dX1_load_2 : decode cX1_load 2 = .ok (.iload_n 1, 1) := by decide +kernel
theorem dX1_load_3 : decode cX1_load 3 = .ok (.invokevirtual 75, 3) := by decide +kernel
theorem dX1_load_6 : decode cX1_load 6 = .ok (.aload_n 0, 1) := by decide +kernel
theorem dX1_load_7 : decode cX1_load 7 = .ok (.getfield 37, 3) := by decide +kernel
theorem dX1_load_10 : decode cX1_load 10 = .ok (.imul, 1) := by decide +kernel
theorem dX1_load_11 : decode cX1_load 11 = .ok (.iconst 5, 1) := by decide +kernel
theorem dX1_load_12 : decode cX1_load 12 = .ok (.idiv, 1) := by decide +kernel
theorem dX1_load_13 : decode cX1_load 13 = .ok (.aload_n 0, 1) := by decide +kernel
theorem dX1_load_14 : decode cX1_load 14 = .ok (.getfield 33, 3) := by decide +kernel
theorem dX1_load_17 : decode cX1_load 17 = .ok (.getfield 78, 3) := by decide +kernel
theorem dX1_load_20 : decode cX1_load 20 = .ok (.iadd, 1) := by decide +kernel
theorem dX1_load_21 : decode cX1_load 21 = .ok (.iconst 3, 1) := by decide +kernel
theorem dX1_load_22 : decode cX1_load 22 = .ok (.aload_n 0, 1) := by decide +kernel
theorem dX1_load_23 : decode cX1_load 23 = .ok (.getfield 53, 3) := by decide +kernel
theorem dX1_load_26 : decode cX1_load 26 = .ok (.imul, 1) := by decide +kernel
theorem dX1_load_27 : decode cX1_load 27 = .ok (.isub, 1) := by decide +kernel
theorem dX1_load_28 : decode cX1_load 28 = .ok (.invokestatic 81, 3) := by decide +kernel
theorem dX1_load_31 : decode cX1_load 31 = .ok (.ireturn, 1) := by decide +kernel
theorem dX1_miles_0 : decode cX1_miles 0 = .ok (.aload_n 0, 1) := by decide +kernel
theorem dX1_miles_1 : decode cX1_miles 1 = .ok (.invokevirtual 87, 3) := by decide +kernel
theorem dX1_miles_4 : decode cX1_miles 4 = .ok (.aload_n 0, 1) := by decide +kernel
theorem dX1_miles_5 : decode cX1_miles 5 = .ok (.getfield 37, 3) := by decide +kernel
theorem dX1_miles_8 : decode cX1_miles 8 = .ok (.imul, 1) := by decide +kernel
theorem dX1_miles_9 : decode cX1_miles 9 = .ok (.bipush 10, 2) := by decide +kernel
theorem dX1_miles_11 : decode cX1_miles 11 = .ok (.idiv, 1) := by decide +kernel
theorem dX1_miles_12 : decode cX1_miles 12 = .ok (.ireturn, 1) := by decide +kernel
theorem dX1_strength_0 : decode cX1_strength 0 = .ok (.aload_n 0, 1) := by decide +kernel
theorem dX1_strength_1 : decode cX1_strength 1 = .ok (.getfield 33, 3) := by decide +kernel
theorem dX1_strength_4 : decode cX1_strength 4 = .ok (.aload_n 0, 1) := by decide +kernel
theorem dX1_strength_5 : decode cX1_strength 5 = .ok (.iload_n 1, 1) := by decide +kernel
theorem dX1_strength_6 : decode cX1_strength 6 = .ok (.invokevirtual 91, 3) := by decide +kernel
theorem dX1_strength_9 : decode cX1_strength 9 = .ok (.istore_n 2, 1) := by decide +kernel
theorem dX1_strength_10 : decode cX1_strength 10 = .ok (.iload_n 2, 1) := by decide +kernel
theorem dX1_strength_11 : decode cX1_strength 11 = .ok (.aload_n 0, 1) := by decide +kernel
theorem dX1_strength_12 : decode cX1_strength 12 = .ok (.getfield 21, 3) := by decide +kernel
theorem dX1_strength_15 : decode cX1_strength 15 = .ok (.iload_n 1, 1) := by decide +kernel
theorem dX1_strength_16 : decode cX1_strength 16 = .ok (.iaload, 1) := by decide +kernel
theorem dX1_strength_17 : decode cX1_strength 17 = .ok (.isub, 1) := by decide +kernel
theorem dX1_strength_18 : decode cX1_strength 18 = .ok (.istore_n 3, 1) := by decide +kernel
theorem dX1_strength_19 : decode cX1_strength 19 = .ok (.aload_n 0, 1) := by decide +kernel
theorem dX1_strength_20 : decode cX1_strength 20 = .ok (.getfield 9, 3) := by decide +kernel
theorem dX1_strength_23 : decode cX1_strength 23 = .ok (.iload_n 1, 1) := by decide +kernel
theorem dX1_strength_24 : decode cX1_strength 24 = .ok (.iaload, 1) := by decide +kernel
theorem dX1_strength_25 : decode cX1_strength 25 = .ok (.tableswitch 135 1 6 #[39, 53, 59, 71, 92, 107], 39) := by decide +kernel
theorem dX1_strength_64 : decode cX1_strength 64 = .ok (.iload_n 2, 1) := by decide +kernel
theorem dX1_strength_65 : decode cX1_strength 65 = .ok (.iconst 2, 1) := by decide +kernel
theorem dX1_strength_66 : decode cX1_strength 66 = .ok (.idiv, 1) := by decide +kernel
theorem dX1_strength_67 : decode cX1_strength 67 = .ok (.aload_n 0, 1) := by decide +kernel
theorem dX1_strength_68 : decode cX1_strength 68 = .ok (.getfield 21, 3) := by decide +kernel
theorem dX1_strength_71 : decode cX1_strength 71 = .ok (.iload_n 1, 1) := by decide +kernel
theorem dX1_strength_72 : decode cX1_strength 72 = .ok (.iaload, 1) := by decide +kernel
theorem dX1_strength_73 : decode cX1_strength 73 = .ok (.isub, 1) := by decide +kernel
theorem dX1_strength_74 : decode cX1_strength 74 = .ok (.istore_n 3, 1) := by decide +kernel
theorem dX1_strength_75 : decode cX1_strength 75 = .ok (.goto 85, 3) := by decide +kernel
theorem dX1_strength_78 : decode cX1_strength 78 = .ok (.iinc 3 10, 3) := by decide +kernel
theorem dX1_strength_81 : decode cX1_strength 81 = .ok (.goto 79, 3) := by decide +kernel
theorem dX1_strength_84 : decode cX1_strength 84 = .ok (.iload_n 3, 1) := by decide +kernel
theorem dX1_strength_85 : decode cX1_strength 85 = .ok (.aload_n 0, 1) := by decide +kernel
theorem dX1_strength_86 : decode cX1_strength 86 = .ok (.getfield 15, 3) := by decide +kernel
theorem dX1_strength_89 : decode cX1_strength 89 = .ok (.iload_n 1, 1) := by decide +kernel
theorem dX1_strength_90 : decode cX1_strength 90 = .ok (.iaload, 1) := by decide +kernel
theorem dX1_strength_91 : decode cX1_strength 91 = .ok (.iadd, 1) := by decide +kernel
theorem dX1_strength_92 : decode cX1_strength 92 = .ok (.istore_n 3, 1) := by decide +kernel
theorem dX1_strength_93 : decode cX1_strength 93 = .ok (.goto 67, 3) := by decide +kernel
theorem dX1_strength_96 : decode cX1_strength 96 = .ok (.iload_n 2, 1) := by decide +kernel
theorem dX1_strength_97 : decode cX1_strength 97 = .ok (.iconst 2, 1) := by decide +kernel
theorem dX1_strength_98 : decode cX1_strength 98 = .ok (.idiv, 1) := by decide +kernel
theorem dX1_strength_99 : decode cX1_strength 99 = .ok (.aload_n 0, 1) := by decide +kernel
theorem dX1_strength_100 : decode cX1_strength 100 = .ok (.getfield 21, 3) := by decide +kernel
theorem dX1_strength_103 : decode cX1_strength 103 = .ok (.iload_n 1, 1) := by decide +kernel
theorem dX1_strength_104 : decode cX1_strength 104 = .ok (.iaload, 1) := by decide +kernel
theorem dX1_strength_105 : decode cX1_strength 105 = .ok (.isub, 1) := by decide +kernel
theorem dX1_strength_106 : decode cX1_strength 106 = .ok (.iconst 2, 1) := by decide +kernel
theorem dX1_strength_107 : decode cX1_strength 107 = .ok (.aload_n 0, 1) := by decide +kernel
theorem dX1_strength_108 : decode cX1_strength 108 = .ok (.getfield 53, 3) := by decide +kernel
theorem dX1_strength_111 : decode cX1_strength 111 = .ok (.imul, 1) := by decide +kernel
theorem dX1_strength_112 : decode cX1_strength 112 = .ok (.iadd, 1) := by decide +kernel
theorem dX1_strength_113 : decode cX1_strength 113 = .ok (.istore_n 3, 1) := by decide +kernel
theorem dX1_strength_114 : decode cX1_strength 114 = .ok (.goto 46, 3) := by decide +kernel
theorem dX1_strength_117 : decode cX1_strength 117 = .ok (.iload_n 3, 1) := by decide +kernel
theorem dX1_strength_118 : decode cX1_strength 118 = .ok (.bipush 10, 2) := by decide +kernel
theorem dX1_strength_120 : decode cX1_strength 120 = .ok (.aload_n 0, 1) := by decide +kernel
theorem dX1_strength_121 : decode cX1_strength 121 = .ok (.getfield 21, 3) := by decide +kernel
theorem dX1_strength_124 : decode cX1_strength 124 = .ok (.iload_n 1, 1) := by decide +kernel
theorem dX1_strength_125 : decode cX1_strength 125 = .ok (.iaload, 1) := by decide +kernel
theorem dX1_strength_126 : decode cX1_strength 126 = .ok (.isub, 1) := by decide +kernel
theorem dX1_strength_127 : decode cX1_strength 127 = .ok (.iadd, 1) := by decide +kernel
theorem dX1_strength_128 : decode cX1_strength 128 = .ok (.istore_n 3, 1) := by decide +kernel
theorem dX1_strength_129 : decode cX1_strength 129 = .ok (.goto 31, 3) := by decide +kernel
theorem dX1_strength_132 : decode cX1_strength 132 = .ok (.iload_n 3, 1) := by decide +kernel
theorem dX1_strength_133 : decode cX1_strength 133 = .ok (.aload_n 0, 1) := by decide +kernel
theorem dX1_strength_134 : decode cX1_strength 134 = .ok (.getfield 15, 3) := by decide +kernel
theorem dX1_strength_137 : decode cX1_strength 137 = .ok (.iload_n 1, 1) := by decide +kernel
theorem dX1_strength_138 : decode cX1_strength 138 = .ok (.iaload, 1) := by decide +kernel
theorem dX1_strength_139 : decode cX1_strength 139 = .ok (.aload_n 0, 1) := by decide +kernel
theorem dX1_strength_140 : decode cX1_strength 140 = .ok (.getfield 27, 3) := by decide +kernel
theorem dX1_strength_143 : decode cX1_strength 143 = .ok (.iconst 4, 1) := by decide +kernel
theorem dX1_strength_144 : decode cX1_strength 144 = .ok (.iload_n 1, 1) := by decide +kernel
theorem dX1_strength_145 : decode cX1_strength 145 = .ok (.imul, 1) := by decide +kernel
theorem dX1_strength_146 : decode cX1_strength 146 = .ok (.aload_n 0, 1) := by decide +kernel
theorem dX1_strength_147 : decode cX1_strength 147 = .ok (.getfield 59, 3) := by decide +kernel
theorem dX1_strength_150 : decode cX1_strength 150 = .ok (.iconst 4, 1) := by decide +kernel
theorem dX1_strength_151 : decode cX1_strength 151 = .ok (.irem, 1) := by decide +kernel
theorem dX1_strength_152 : decode cX1_strength 152 = .ok (.iadd, 1) := by decide +kernel
theorem dX1_strength_153 : decode cX1_strength 153 = .ok (.iaload, 1) := by decide +kernel
theorem dX1_strength_154 : decode cX1_strength 154 = .ok (.iadd, 1) := by decide +kernel
theorem dX1_strength_155 : decode cX1_strength 155 = .ok (.iadd, 1) := by decide +kernel
theorem dX1_strength_156 : decode cX1_strength 156 = .ok (.istore_n 3, 1) := by decide +kernel
theorem dX1_strength_157 : decode cX1_strength 157 = .ok (.goto 3, 3) := by decide +kernel
theorem dX1_strength_160 : decode cX1_strength 160 = .ok (.iconst 0, 1) := by decide +kernel
theorem dX1_strength_161 : decode cX1_strength 161 = .ok (.iload_n 3, 1) := by decide +kernel
theorem dX1_strength_162 : decode cX1_strength 162 = .ok (.invokestatic 81, 3) := by decide +kernel
theorem dX1_strength_165 : decode cX1_strength 165 = .ok (.ireturn, 1) := by decide +kernel
theorem dX1_breaking_0 : decode cX1_breaking 0 = .ok (.iconst 0, 1) := by decide +kernel
theorem dX1_breaking_1 : decode cX1_breaking 1 = .ok (.istore_n 1, 1) := by decide +kernel
theorem dX1_breaking_2 : decode cX1_breaking 2 = .ok (.iload_n 1, 1) := by decide +kernel
theorem dX1_breaking_3 : decode cX1_breaking 3 = .ok (.aload_n 0, 1) := by decide +kernel
theorem dX1_breaking_4 : decode cX1_breaking 4 = .ok (.getfield 50, 3) := by decide +kernel
theorem dX1_breaking_7 : decode cX1_breaking 7 = .ok (.if_icmp .ge 29, 3) := by decide +kernel
theorem dX1_breaking_10 : decode cX1_breaking 10 = .ok (.aload_n 0, 1) := by decide +kernel
theorem dX1_breaking_11 : decode cX1_breaking 11 = .ok (.iload_n 1, 1) := by decide +kernel
theorem dX1_breaking_12 : decode cX1_breaking 12 = .ok (.invokevirtual 95, 3) := by decide +kernel
theorem dX1_breaking_15 : decode cX1_breaking 15 = .ok (.aload_n 0, 1) := by decide +kernel
theorem dX1_breaking_16 : decode cX1_breaking 16 = .ok (.aload_n 0, 1) := by decide +kernel
theorem dX1_breaking_17 : decode cX1_breaking 17 = .ok (.getfield 30, 3) := by decide +kernel
theorem dX1_breaking_20 : decode cX1_breaking 20 = .ok (.iload_n 1, 1) := by decide +kernel
theorem dX1_breaking_21 : decode cX1_breaking 21 = .ok (.iaload, 1) := by decide +kernel
theorem dX1_breaking_22 : decode cX1_breaking 22 = .ok (.invokevirtual 98, 3) := by decide +kernel
theorem dX1_breaking_25 : decode cX1_breaking 25 = .ok (.if_icmp .le 5, 3) := by decide +kernel
theorem dX1_breaking_28 : decode cX1_breaking 28 = .ok (.iload_n 1, 1) := by decide +kernel
theorem dX1_breaking_29 : decode cX1_breaking 29 = .ok (.ireturn, 1) := by decide +kernel
theorem dX1_breaking_30 : decode cX1_breaking 30 = .ok (.iinc 1 1, 3) := by decide +kernel
theorem dX1_breaking_33 : decode cX1_breaking 33 = .ok (.goto (-31), 3) := by decide +kernel
theorem dX1_breaking_36 : decode cX1_breaking 36 = .ok (.iconst (-1), 1) := by decide +kernel
theorem dX1_breaking_37 : decode cX1_breaking 37 = .ok (.ireturn, 1) := by decide +kernel
theorem dX1_dayGoes_0 : decode cX1_dayGoes 0 = .ok (.aload_n 0, 1) := by decide +kernel
theorem dX1_dayGoes_1 : decode cX1_dayGoes 1 = .ok (.invokevirtual 101, 3) := by decide +kernel
theorem dX1_dayGoes_4 : decode cX1_dayGoes 4 = .ok (.istore_n 1, 1) := by decide +kernel
theorem dX1_dayGoes_5 : decode cX1_dayGoes 5 = .ok (.aload_n 0, 1) := by decide +kernel
theorem dX1_dayGoes_6 : decode cX1_dayGoes 6 = .ok (.dup, 1) := by decide +kernel
theorem dX1_dayGoes_7 : decode cX1_dayGoes 7 = .ok (.getfield 59, 3) := by decide +kernel
theorem dX1_dayGoes_10 : decode cX1_dayGoes 10 = .ok (.iconst 1, 1) := by decide +kernel
theorem dX1_dayGoes_11 : decode cX1_dayGoes 11 = .ok (.iadd, 1) := by decide +kernel
theorem dX1_dayGoes_12 : decode cX1_dayGoes 12 = .ok (.putfield 59, 3) := by decide +kernel
theorem dX1_dayGoes_15 : decode cX1_dayGoes 15 = .ok (.iload_n 1, 1) := by decide +kernel
theorem dX1_dayGoes_16 : decode cX1_dayGoes 16 = .ok (.ifCond .lt 58, 3) := by decide +kernel
theorem dX1_dayGoes_19 : decode cX1_dayGoes 19 = .ok (.aload_n 0, 1) := by decide +kernel
theorem dX1_dayGoes_20 : decode cX1_dayGoes 20 = .ok (.getfield 30, 3) := by decide +kernel
theorem dX1_dayGoes_23 : decode cX1_dayGoes 23 = .ok (.iload_n 1, 1) := by decide +kernel
theorem dX1_dayGoes_24 : decode cX1_dayGoes 24 = .ok (.iaload, 1) := by decide +kernel
theorem dX1_dayGoes_25 : decode cX1_dayGoes 25 = .ok (.istore_n 2, 1) := by decide +kernel
theorem dX1_dayGoes_26 : decode cX1_dayGoes 26 = .ok (.aload_n 0, 1) := by decide +kernel
theorem dX1_dayGoes_27 : decode cX1_dayGoes 27 = .ok (.getfield 18, 3) := by decide +kernel
theorem dX1_dayGoes_30 : decode cX1_dayGoes 30 = .ok (.iload_n 2, 1) := by decide +kernel
theorem dX1_dayGoes_31 : decode cX1_dayGoes 31 = .ok (.aload_n 0, 1) := by decide +kernel
theorem dX1_dayGoes_32 : decode cX1_dayGoes 32 = .ok (.getfield 18, 3) := by decide +kernel
theorem dX1_dayGoes_35 : decode cX1_dayGoes 35 = .ok (.iload_n 2, 1) := by decide +kernel
theorem dX1_dayGoes_36 : decode cX1_dayGoes 36 = .ok (.iaload, 1) := by decide +kernel
theorem dX1_dayGoes_37 : decode cX1_dayGoes 37 = .ok (.iconst 2, 1) := by decide +kernel
theorem dX1_dayGoes_38 : decode cX1_dayGoes 38 = .ok (.idiv, 1) := by decide +kernel
theorem dX1_dayGoes_39 : decode cX1_dayGoes 39 = .ok (.iastore, 1) := by decide +kernel
theorem dX1_dayGoes_40 : decode cX1_dayGoes 40 = .ok (.aload_n 0, 1) := by decide +kernel
theorem dX1_dayGoes_41 : decode cX1_dayGoes 41 = .ok (.getfield 21, 3) := by decide +kernel
theorem dX1_dayGoes_44 : decode cX1_dayGoes 44 = .ok (.iload_n 2, 1) := by decide +kernel
theorem dX1_dayGoes_45 : decode cX1_dayGoes 45 = .ok (.iconst 0, 1) := by decide +kernel
theorem dX1_dayGoes_46 : decode cX1_dayGoes 46 = .ok (.iastore, 1) := by decide +kernel
theorem dX1_dayGoes_47 : decode cX1_dayGoes 47 = .ok (.aload_n 0, 1) := by decide +kernel
theorem dX1_dayGoes_48 : decode cX1_dayGoes 48 = .ok (.getfield 24, 3) := by decide +kernel
theorem dX1_dayGoes_51 : decode cX1_dayGoes 51 = .ok (.iload_n 2, 1) := by decide +kernel
theorem dX1_dayGoes_52 : decode cX1_dayGoes 52 = .ok (.sipush 9999, 3) := by decide +kernel
theorem dX1_dayGoes_55 : decode cX1_dayGoes 55 = .ok (.aload_n 0, 1) := by decide +kernel
theorem dX1_dayGoes_56 : decode cX1_dayGoes 56 = .ok (.getfield 24, 3) := by decide +kernel
theorem dX1_dayGoes_59 : decode cX1_dayGoes 59 = .ok (.iload_n 2, 1) := by decide +kernel
theorem dX1_dayGoes_60 : decode cX1_dayGoes 60 = .ok (.iaload, 1) := by decide +kernel
theorem dX1_dayGoes_61 : decode cX1_dayGoes 61 = .ok (.iconst 1, 1) := by decide +kernel
theorem dX1_dayGoes_62 : decode cX1_dayGoes 62 = .ok (.iadd, 1) := by decide +kernel
theorem dX1_dayGoes_63 : decode cX1_dayGoes 63 = .ok (.invokestatic 104, 3) := by decide +kernel
theorem dX1_dayGoes_66 : decode cX1_dayGoes 66 = .ok (.iastore, 1) := by decide +kernel
theorem dX1_dayGoes_67 : decode cX1_dayGoes 67 = .ok (.aload_n 0, 1) := by decide +kernel
theorem dX1_dayGoes_68 : decode cX1_dayGoes 68 = .ok (.iload_n 1, 1) := by decide +kernel
theorem dX1_dayGoes_69 : decode cX1_dayGoes 69 = .ok (.putfield 50, 3) := by decide +kernel
theorem dX1_dayGoes_72 : decode cX1_dayGoes 72 = .ok (.iload_n 2, 1) := by decide +kernel
theorem dX1_dayGoes_73 : decode cX1_dayGoes 73 = .ok (.ireturn, 1) := by decide +kernel
theorem dX1_dayGoes_74 : decode cX1_dayGoes 74 = .ok (.aload_n 0, 1) := by decide +kernel
theorem dX1_dayGoes_75 : decode cX1_dayGoes 75 = .ok (.ldc 107, 2) := by decide +kernel
theorem dX1_dayGoes_77 : decode cX1_dayGoes 77 = .ok (.aload_n 0, 1) := by decide +kernel
theorem dX1_dayGoes_78 : decode cX1_dayGoes 78 = .ok (.getfield 56, 3) := by decide +kernel
theorem dX1_dayGoes_81 : decode cX1_dayGoes 81 = .ok (.aload_n 0, 1) := by decide +kernel
theorem dX1_dayGoes_82 : decode cX1_dayGoes 82 = .ok (.invokevirtual 108, 3) := by decide +kernel
theorem dX1_dayGoes_85 : decode cX1_dayGoes 85 = .ok (.iadd, 1) := by decide +kernel
theorem dX1_dayGoes_86 : decode cX1_dayGoes 86 = .ok (.invokestatic 104, 3) := by decide +kernel
theorem dX1_dayGoes_89 : decode cX1_dayGoes 89 = .ok (.putfield 56, 3) := by decide +kernel
theorem dX1_dayGoes_92 : decode cX1_dayGoes 92 = .ok (.iconst 0, 1) := by decide +kernel
theorem dX1_dayGoes_93 : decode cX1_dayGoes 93 = .ok (.istore_n 2, 1) := by decide +kernel
theorem dX1_dayGoes_94 : decode cX1_dayGoes 94 = .ok (.iload_n 2, 1) := by decide +kernel
theorem dX1_dayGoes_95 : decode cX1_dayGoes 95 = .ok (.aload_n 0, 1) := by decide +kernel
theorem dX1_dayGoes_96 : decode cX1_dayGoes 96 = .ok (.getfield 50, 3) := by decide +kernel
theorem dX1_dayGoes_99 : decode cX1_dayGoes 99 = .ok (.if_icmp .ge 42, 3) := by decide +kernel
theorem dX1_dayGoes_102 : decode cX1_dayGoes 102 = .ok (.aload_n 0, 1) := by decide +kernel
theorem dX1_dayGoes_103 : decode cX1_dayGoes 103 = .ok (.getfield 30, 3) := by decide +kernel
theorem dX1_dayGoes_106 : decode cX1_dayGoes 106 = .ok (.iload_n 2, 1) := by decide +kernel
theorem dX1_dayGoes_107 : decode cX1_dayGoes 107 = .ok (.iaload, 1) := by decide +kernel
theorem dX1_dayGoes_108 : decode cX1_dayGoes 108 = .ok (.istore_n 3, 1) := by decide +kernel
theorem dX1_dayGoes_109 : decode cX1_dayGoes 109 = .ok (.aload_n 0, 1) := by decide +kernel
theorem dX1_dayGoes_110 : decode cX1_dayGoes 110 = .ok (.getfield 21, 3) := by decide +kernel
theorem dX1_dayGoes_113 : decode cX1_dayGoes 113 = .ok (.iload_n 3, 1) := by decide +kernel
theorem dX1_dayGoes_114 : decode cX1_dayGoes 114 = .ok (.bipush 99, 2) := by decide +kernel
theorem dX1_dayGoes_116 : decode cX1_dayGoes 116 = .ok (.aload_n 0, 1) := by decide +kernel
theorem dX1_dayGoes_117 : decode cX1_dayGoes 117 = .ok (.getfield 21, 3) := by decide +kernel
theorem dX1_dayGoes_120 : decode cX1_dayGoes 120 = .ok (.iload_n 3, 1) := by decide +kernel
theorem dX1_dayGoes_121 : decode cX1_dayGoes 121 = .ok (.iaload, 1) := by decide +kernel
theorem dX1_dayGoes_122 : decode cX1_dayGoes 122 = .ok (.aload_n 0, 1) := by decide +kernel
theorem dX1_dayGoes_123 : decode cX1_dayGoes 123 = .ok (.iload_n 2, 1) := by decide +kernel
theorem dX1_dayGoes_124 : decode cX1_dayGoes 124 = .ok (.invokevirtual 95, 3) := by decide +kernel
theorem dX1_dayGoes_127 : decode cX1_dayGoes 127 = .ok (.bipush 10, 2) := by decide +kernel
theorem dX1_dayGoes_129 : decode cX1_dayGoes 129 = .ok (.idiv, 1) := by decide +kernel
theorem dX1_dayGoes_130 : decode cX1_dayGoes 130 = .ok (.iadd, 1) := by decide +kernel
theorem dX1_dayGoes_131 : decode cX1_dayGoes 131 = .ok (.invokestatic 104, 3) := by decide +kernel
theorem dX1_dayGoes_134 : decode cX1_dayGoes 134 = .ok (.iastore, 1) := by decide +kernel
theorem dX1_dayGoes_135 : decode cX1_dayGoes 135 = .ok (.iinc 2 1, 3) := by decide +kernel
theorem dX1_dayGoes_138 : decode cX1_dayGoes 138 = .ok (.goto (-44), 3) := by decide +kernel
theorem dX1_dayGoes_141 : decode cX1_dayGoes 141 = .ok (.iconst (-1), 1) := by decide +kernel
theorem dX1_dayGoes_142 : decode cX1_dayGoes 142 = .ok (.ireturn, 1) := by decide +kernel
theorem dX1_nothingBreaksIn_0 : decode cX1_nothingBreaksIn 0 = .ok (.iconst 0, 1) := by decide +kernel
theorem dX1_nothingBreaksIn_1 : decode cX1_nothingBreaksIn 1 = .ok (.istore_n 2, 1) := by decide +kernel
theorem dX1_nothingBreaksIn_2 : decode cX1_nothingBreaksIn 2 = .ok (.iload_n 2, 1) := by decide +kernel
theorem dX1_nothingBreaksIn_3 : decode cX1_nothingBreaksIn 3 = .ok (.iload_n 1, 1) := by decide +kernel
theorem dX1_nothingBreaksIn_4 : decode cX1_nothingBreaksIn 4 = .ok (.if_icmp .ge 18, 3) := by decide +kernel
theorem dX1_nothingBreaksIn_7 : decode cX1_nothingBreaksIn 7 = .ok (.aload_n 0, 1) := by decide +kernel
theorem dX1_nothingBreaksIn_8 : decode cX1_nothingBreaksIn 8 = .ok (.invokevirtual 111, 3) := by decide +kernel
theorem dX1_nothingBreaksIn_11 : decode cX1_nothingBreaksIn 11 = .ok (.ifCond .lt 5, 3) := by decide +kernel
theorem dX1_nothingBreaksIn_14 : decode cX1_nothingBreaksIn 14 = .ok (.iconst 0, 1) := by decide +kernel
theorem dX1_nothingBreaksIn_15 : decode cX1_nothingBreaksIn 15 = .ok (.ireturn, 1) := by decide +kernel
theorem dX1_nothingBreaksIn_16 : decode cX1_nothingBreaksIn 16 = .ok (.iinc 2 1, 3) := by decide +kernel
theorem dX1_nothingBreaksIn_19 : decode cX1_nothingBreaksIn 19 = .ok (.goto (-17), 3) := by decide +kernel
theorem dX1_nothingBreaksIn_22 : decode cX1_nothingBreaksIn 22 = .ok (.iconst 1, 1) := by decide +kernel
theorem dX1_nothingBreaksIn_23 : decode cX1_nothingBreaksIn 23 = .ok (.ireturn, 1) := by decide +kernel
theorem dX2_init_0 : decode cX2_init 0 = .ok (.aload_n 0, 1) := by decide +kernel
theorem dX2_init_1 : decode cX2_init 1 = .ok (.invokespecial 1, 3) := by decide +kernel
theorem dX2_init_4 : decode cX2_init 4 = .ok (.aload_n 0, 1) := by decide +kernel
theorem dX2_init_5 : decode cX2_init 5 = .ok (.bipush 100, 2) := by decide +kernel
theorem dX2_init_7 : decode cX2_init 7 = .ok (.newarray .int, 2) := by decide +kernel
theorem dX2_init_9 : decode cX2_init 9 = .ok (.putfield 9, 3) := by decide +kernel
theorem dX2_init_12 : decode cX2_init 12 = .ok (.aload_n 0, 1) := by decide +kernel
theorem dX2_init_13 : decode cX2_init 13 = .ok (.bipush 100, 2) := by decide +kernel
theorem dX2_init_15 : decode cX2_init 15 = .ok (.newarray .int, 2) := by decide +kernel
theorem dX2_init_17 : decode cX2_init 17 = .ok (.putfield 13, 3) := by decide +kernel
theorem dX2_init_20 : decode cX2_init 20 = .ok (.aload_n 0, 1) := by decide +kernel
theorem dX2_init_21 : decode cX2_init 21 = .ok (.bipush 100, 2) := by decide +kernel
theorem dX2_init_23 : decode cX2_init 23 = .ok (.newarray .int, 2) := by decide +kernel
theorem dX2_init_25 : decode cX2_init 25 = .ok (.putfield 16, 3) := by decide +kernel
theorem dX2_init_28 : decode cX2_init 28 = .ok (.aload_n 0, 1) := by decide +kernel
theorem dX2_init_29 : decode cX2_init 29 = .ok (.bipush 6, 2) := by decide +kernel
theorem dX2_init_31 : decode cX2_init 31 = .ok (.newarray .int, 2) := by decide +kernel
theorem dX2_init_33 : decode cX2_init 33 = .ok (.putfield 19, 3) := by decide +kernel
theorem dX2_init_36 : decode cX2_init 36 = .ok (.aload_n 0, 1) := by decide +kernel
theorem dX2_init_37 : decode cX2_init 37 = .ok (.invokevirtual 22, 3) := by decide +kernel
theorem dX2_init_40 : decode cX2_init 40 = .ok (.return_, 1) := by decide +kernel
theorem dX2_becomeCalm_0 : decode cX2_becomeCalm 0 = .ok (.aload_n 0, 1) := by decide +kernel
theorem dX2_becomeCalm_1 : decode cX2_becomeCalm 1 = .ok (.iconst 0, 1) := by decide +kernel
theorem dX2_becomeCalm_2 : decode cX2_becomeCalm 2 = .ok (.putfield 25, 3) := by decide +kernel
theorem dX2_becomeCalm_5 : decode cX2_becomeCalm 5 = .ok (.aload_n 0, 1) := by decide +kernel
theorem dX2_becomeCalm_6 : decode cX2_becomeCalm 6 = .ok (.iconst 5, 1) := by decide +kernel
theorem dX2_becomeCalm_7 : decode cX2_becomeCalm 7 = .ok (.putfield 29, 3) := by decide +kernel
theorem dX2_becomeCalm_10 : decode cX2_becomeCalm 10 = .ok (.aload_n 0, 1) := by decide +kernel
theorem dX2_becomeCalm_11 : decode cX2_becomeCalm 11 = .ok (.iconst 2, 1) := by decide +kernel
theorem dX2_becomeCalm_12 : decode cX2_becomeCalm 12 = .ok (.putfield 32, 3) := by decide +kernel
theorem dX2_becomeCalm_15 : decode cX2_becomeCalm 15 = .ok (.return_, 1) := by decide +kernel
theorem dX2_add_0 : decode cX2_add 0 = .ok (.aload_n 0, 1) := by decide +kernel
theorem dX2_add_1 : decode cX2_add 1 = .ok (.getfield 25, 3) := by decide +kernel
theorem dX2_add_4 : decode cX2_add 4 = .ok (.bipush 100, 2) := by decide +kernel
theorem dX2_add_6 : decode cX2_add 6 = .ok (.if_icmp .ge 43, 3) := by decide +kernel
theorem dX2_add_9 : decode cX2_add 9 = .ok (.aload_n 0, 1) := by decide +kernel
theorem dX2_add_10 : decode cX2_add 10 = .ok (.getfield 9, 3) := by decide +kernel
theorem dX2_add_13 : decode cX2_add 13 = .ok (.aload_n 0, 1) := by decide +kernel
theorem dX2_add_14 : decode cX2_add 14 = .ok (.getfield 25, 3) := by decide +kernel
theorem dX2_add_17 : decode cX2_add 17 = .ok (.iload_n 1, 1) := by decide +kernel
theorem dX2_add_18 : decode cX2_add 18 = .ok (.iastore, 1) := by decide +kernel
theorem dX2_add_19 : decode cX2_add 19 = .ok (.aload_n 0, 1) := by decide +kernel
theorem dX2_add_20 : decode cX2_add 20 = .ok (.getfield 13, 3) := by decide +kernel
theorem dX2_add_23 : decode cX2_add 23 = .ok (.aload_n 0, 1) := by decide +kernel
theorem dX2_add_24 : decode cX2_add 24 = .ok (.getfield 25, 3) := by decide +kernel
theorem dX2_add_27 : decode cX2_add 27 = .ok (.iload_n 2, 1) := by decide +kernel
theorem dX2_add_28 : decode cX2_add 28 = .ok (.iastore, 1) := by decide +kernel
theorem dX2_add_29 : decode cX2_add 29 = .ok (.aload_n 0, 1) := by decide +kernel
theorem dX2_add_30 : decode cX2_add 30 = .ok (.getfield 16, 3) := by decide +kernel
theorem dX2_add_33 : decode cX2_add 33 = .ok (.aload_n 0, 1) := by decide +kernel
theorem dX2_add_34 : decode cX2_add 34 = .ok (.getfield 25, 3) := by decide +kernel
theorem dX2_add_37 : decode cX2_add 37 = .ok (.iload_n 3, 1) := by decide +kernel
theorem dX2_add_38 : decode cX2_add 38 = .ok (.iastore, 1) := by decide +kernel
theorem dX2_add_39 : decode cX2_add 39 = .ok (.aload_n 0, 1) := by decide +kernel
theorem dX2_add_40 : decode cX2_add 40 = .ok (.dup, 1) := by decide +kernel
theorem dX2_add_41 : decode cX2_add 41 = .ok (.getfield 25, 3) := by decide +kernel
theorem dX2_add_44 : decode cX2_add 44 = .ok (.iconst 1, 1) := by decide +kernel
theorem dX2_add_45 : decode cX2_add 45 = .ok (.iadd, 1) := by decide +kernel
theorem dX2_add_46 : decode cX2_add 46 = .ok (.putfield 25, 3) := by decide +kernel
theorem dX2_add_49 : decode cX2_add 49 = .ok (.return_, 1) := by decide +kernel
theorem dX2_heart_0 : decode cX2_heart 0 = .ok (.aload_n 0, 1) := by decide +kernel
theorem dX2_heart_1 : decode cX2_heart 1 = .ok (.getfield 19, 3) := by decide +kernel
theorem dX2_heart_4 : decode cX2_heart 4 = .ok (.iconst 0, 1) := by decide +kernel
theorem dX2_heart_5 : decode cX2_heart 5 = .ok (.iload_n 2, 1) := by decide +kernel
theorem dX2_heart_6 : decode cX2_heart 6 = .ok (.iastore, 1) := by decide +kernel
theorem dX2_heart_7 : decode cX2_heart 7 = .ok (.aload_n 0, 1) := by decide +kernel
theorem dX2_heart_8 : decode cX2_heart 8 = .ok (.getfield 19, 3) := by decide +kernel
theorem dX2_heart_11 : decode cX2_heart 11 = .ok (.iconst 1, 1) := by decide +kernel
theorem dX2_heart_12 : decode cX2_heart 12 = .ok (.aload_n 1, 1) := by decide +kernel
theorem dX2_heart_13 : decode cX2_heart 13 = .ok (.getfield 35, 3) := by decide +kernel
theorem dX2_heart_16 : decode cX2_heart 16 = .ok (.iload_n 2, 1) := by decide +kernel
theorem dX2_heart_17 : decode cX2_heart 17 = .ok (.iaload, 1) := by decide +kernel
theorem dX2_heart_18 : decode cX2_heart 18 = .ok (.iastore, 1) := by decide +kernel
theorem dX2_heart_19 : decode cX2_heart 19 = .ok (.aload_n 0, 1) := by decide +kernel
theorem dX2_heart_20 : decode cX2_heart 20 = .ok (.getfield 19, 3) := by decide +kernel
theorem dX2_heart_23 : decode cX2_heart 23 = .ok (.iconst 2, 1) := by decide +kernel
theorem dX2_heart_24 : decode cX2_heart 24 = .ok (.aload_n 1, 1) := by decide +kernel
theorem dX2_heart_25 : decode cX2_heart 25 = .ok (.getfield 40, 3) := by decide +kernel
theorem dX2_heart_28 : decode cX2_heart 28 = .ok (.iload_n 2, 1) := by decide +kernel
theorem dX2_heart_29 : decode cX2_heart 29 = .ok (.iaload, 1) := by decide +kernel
theorem dX2_heart_30 : decode cX2_heart 30 = .ok (.iastore, 1) := by decide +kernel
theorem dX2_heart_31 : decode cX2_heart 31 = .ok (.aload_n 0, 1) := by decide +kernel
theorem dX2_heart_32 : decode cX2_heart 32 = .ok (.getfield 19, 3) := by decide +kernel
theorem dX2_heart_35 : decode cX2_heart 35 = .ok (.iconst 3, 1) := by decide +kernel
theorem dX2_heart_36 : decode cX2_heart 36 = .ok (.aload_n 1, 1) := by decide +kernel
theorem dX2_heart_37 : decode cX2_heart 37 = .ok (.getfield 43, 3) := by decide +kernel
theorem dX2_heart_40 : decode cX2_heart 40 = .ok (.iload_n 2, 1) := by decide +kernel
theorem dX2_heart_41 : decode cX2_heart 41 = .ok (.iaload, 1) := by decide +kernel
theorem dX2_heart_42 : decode cX2_heart 42 = .ok (.bipush 10, 2) := by decide +kernel
theorem dX2_heart_44 : decode cX2_heart 44 = .ok (.idiv, 1) := by decide +kernel
theorem dX2_heart_45 : decode cX2_heart 45 = .ok (.iastore, 1) := by decide +kernel
theorem dX2_heart_46 : decode cX2_heart 46 = .ok (.aload_n 0, 1) := by decide +kernel
theorem dX2_heart_47 : decode cX2_heart 47 = .ok (.getfield 19, 3) := by decide +kernel
theorem dX2_heart_50 : decode cX2_heart 50 = .ok (.iconst 4, 1) := by decide +kernel
theorem dX2_heart_51 : decode cX2_heart 51 = .ok (.aload_n 1, 1) := by decide +kernel
theorem dX2_heart_52 : decode cX2_heart 52 = .ok (.getfield 46, 3) := by decide +kernel
theorem dX2_heart_55 : decode cX2_heart 55 = .ok (.iload_n 2, 1) := by decide +kernel
theorem dX2_heart_56 : decode cX2_heart 56 = .ok (.iaload, 1) := by decide +kernel
theorem dX2_heart_57 : decode cX2_heart 57 = .ok (.bipush 10, 2) := by decide +kernel
theorem dX2_heart_59 : decode cX2_heart 59 = .ok (.idiv, 1) := by decide +kernel
theorem dX2_heart_60 : decode cX2_heart 60 = .ok (.iastore, 1) := by decide +kernel
theorem dX2_heart_61 : decode cX2_heart 61 = .ok (.aload_n 0, 1) := by decide +kernel
theorem dX2_heart_62 : decode cX2_heart 62 = .ok (.getfield 19, 3) := by decide +kernel
theorem dX2_heart_65 : decode cX2_heart 65 = .ok (.iconst 5, 1) := by decide +kernel
theorem dX2_heart_66 : decode cX2_heart 66 = .ok (.aload_n 1, 1) := by decide +kernel
theorem dX2_heart_67 : decode cX2_heart 67 = .ok (.getfield 49, 3) := by decide +kernel
theorem dX2_heart_70 : decode cX2_heart 70 = .ok (.bipush 10, 2) := by decide +kernel
theorem dX2_heart_72 : decode cX2_heart 72 = .ok (.irem, 1) := by decide +kernel
theorem dX2_heart_73 : decode cX2_heart 73 = .ok (.iastore, 1) := by decide +kernel
theorem dX2_heart_74 : decode cX2_heart 74 = .ok (.bipush 20, 2) := by decide +kernel
theorem dX2_heart_76 : decode cX2_heart 76 = .ok (.istore_n 3, 1) := by decide +kernel
theorem dX2_heart_77 : decode cX2_heart 77 = .ok (.iconst 0, 1) := by decide +kernel
theorem dX2_heart_78 : decode cX2_heart 78 = .ok (.istore 4, 2) := by decide +kernel
theorem dX2_heart_80 : decode cX2_heart 80 = .ok (.iconst 0, 1) := by decide +kernel
theorem dX2_heart_81 : decode cX2_heart 81 = .ok (.istore 5, 2) := by decide +kernel
theorem dX2_heart_83 : decode cX2_heart 83 = .ok (.iload 5, 2) := by decide +kernel
theorem dX2_heart_85 : decode cX2_heart 85 = .ok (.aload_n 0, 1) := by decide +kernel
theorem dX2_heart_86 : decode cX2_heart 86 = .ok (.getfield 25, 3) := by decide +kernel
theorem dX2_heart_89 : decode cX2_heart 89 = .ok (.if_icmp .ge 250, 3) := by decide +kernel
theorem dX2_heart_92 : decode cX2_heart 92 = .ok (.aload_n 0, 1) := by decide +kernel
theorem dX2_heart_93 : decode cX2_heart 93 = .ok (.getfield 9, 3) := by decide +kernel
theorem dX2_heart_96 : decode cX2_heart 96 = .ok (.iload 5, 2) := by decide +kernel
theorem dX2_heart_98 : decode cX2_heart 98 = .ok (.iaload, 1) := by decide +kernel
theorem dX2_heart_99 : decode cX2_heart 99 = .ok (.lookupswitch 200 #[(33, 57), (38, 66), (59, 95), (60, 126), (61, 163), (124, 81)], 57) := by decide +kernel
theorem dX2_heart_156 : decode cX2_heart 156 = .ok (.iload 4, 2) := by decide +kernel
theorem dX2_heart_158 : decode cX2_heart 158 = .ok (.iconst 1, 1) := by decide +kernel
theorem dX2_heart_159 : decode cX2_heart 159 = .ok (.ixor, 1) := by decide +kernel
theorem dX2_heart_160 : decode cX2_heart 160 = .ok (.istore 4, 2) := by decide +kernel
theorem dX2_heart_162 : decode cX2_heart 162 = .ok (.goto 171, 3) := by decide +kernel
theorem dX2_heart_165 : decode cX2_heart 165 = .ok (.iload 4, 2) := by decide +kernel
theorem dX2_heart_167 : decode cX2_heart 167 = .ok (.iconst 1, 1) := by decide +kernel
theorem dX2_heart_168 : decode cX2_heart 168 = .ok (.iushr, 1) := by decide +kernel
theorem dX2_heart_169 : decode cX2_heart 169 = .ok (.iload 4, 2) := by decide +kernel
theorem dX2_heart_171 : decode cX2_heart 171 = .ok (.bipush (-2), 2) := by decide +kernel
theorem dX2_heart_173 : decode cX2_heart 173 = .ok (.ior, 1) := by decide +kernel
theorem dX2_heart_174 : decode cX2_heart 174 = .ok (.iand, 1) := by decide +kernel
theorem dX2_heart_175 : decode cX2_heart 175 = .ok (.istore 4, 2) := by decide +kernel
theorem dX2_heart_177 : decode cX2_heart 177 = .ok (.goto 156, 3) := by decide +kernel
theorem dX2_heart_180 : decode cX2_heart 180 = .ok (.iload 4, 2) := by decide +kernel
theorem dX2_heart_182 : decode cX2_heart 182 = .ok (.iconst 1, 1) := by decide +kernel
theorem dX2_heart_183 : decode cX2_heart 183 = .ok (.iushr, 1) := by decide +kernel
theorem dX2_heart_184 : decode cX2_heart 184 = .ok (.iload 4, 2) := by decide +kernel
theorem dX2_heart_186 : decode cX2_heart 186 = .ok (.iconst 1, 1) := by decide +kernel
theorem dX2_heart_187 : decode cX2_heart 187 = .ok (.iand, 1) := by decide +kernel
theorem dX2_heart_188 : decode cX2_heart 188 = .ok (.ior, 1) := by decide +kernel
theorem dX2_heart_189 : decode cX2_heart 189 = .ok (.istore 4, 2) := by decide +kernel
theorem dX2_heart_191 : decode cX2_heart 191 = .ok (.goto 142, 3) := by decide +kernel
theorem dX2_heart_194 : decode cX2_heart 194 = .ok (.iload_n 3, 1) := by decide +kernel
theorem dX2_heart_195 : decode cX2_heart 195 = .ok (.iload 4, 2) := by decide +kernel
theorem dX2_heart_197 : decode cX2_heart 197 = .ok (.iconst 1, 1) := by decide +kernel
theorem dX2_heart_198 : decode cX2_heart 198 = .ok (.iand, 1) := by decide +kernel
theorem dX2_heart_199 : decode cX2_heart 199 = .ok (.iconst 1, 1) := by decide +kernel
theorem dX2_heart_200 : decode cX2_heart 200 = .ok (.if_icmp .ne 13, 3) := by decide +kernel
theorem dX2_heart_203 : decode cX2_heart 203 = .ok (.aload_n 0, 1) := by decide +kernel
theorem dX2_heart_204 : decode cX2_heart 204 = .ok (.getfield 16, 3) := by decide +kernel
theorem dX2_heart_207 : decode cX2_heart 207 = .ok (.iload 5, 2) := by decide +kernel
theorem dX2_heart_209 : decode cX2_heart 209 = .ok (.iaload, 1) := by decide +kernel
theorem dX2_heart_210 : decode cX2_heart 210 = .ok (.goto 4, 3) := by decide +kernel
theorem dX2_heart_213 : decode cX2_heart 213 = .ok (.iconst 0, 1) := by decide +kernel
theorem dX2_heart_214 : decode cX2_heart 214 = .ok (.iadd, 1) := by decide +kernel
theorem dX2_heart_215 : decode cX2_heart 215 = .ok (.istore_n 3, 1) := by decide +kernel
theorem dX2_heart_216 : decode cX2_heart 216 = .ok (.iload 4, 2) := by decide +kernel
theorem dX2_heart_218 : decode cX2_heart 218 = .ok (.iconst 1, 1) := by decide +kernel
theorem dX2_heart_219 : decode cX2_heart 219 = .ok (.iushr, 1) := by decide +kernel
theorem dX2_heart_220 : decode cX2_heart 220 = .ok (.istore 4, 2) := by decide +kernel
theorem dX2_heart_222 : decode cX2_heart 222 = .ok (.goto 111, 3) := by decide +kernel
theorem dX2_heart_225 : decode cX2_heart 225 = .ok (.iload 4, 2) := by decide +kernel
theorem dX2_heart_227 : decode cX2_heart 227 = .ok (.iconst 1, 1) := by decide +kernel
theorem dX2_heart_228 : decode cX2_heart 228 = .ok (.ishl, 1) := by decide +kernel
theorem dX2_heart_229 : decode cX2_heart 229 = .ok (.aload_n 0, 1) := by decide +kernel
theorem dX2_heart_230 : decode cX2_heart 230 = .ok (.getfield 19, 3) := by decide +kernel
theorem dX2_heart_233 : decode cX2_heart 233 = .ok (.aload_n 0, 1) := by decide +kernel
theorem dX2_heart_234 : decode cX2_heart 234 = .ok (.getfield 13, 3) := by decide +kernel
theorem dX2_heart_237 : decode cX2_heart 237 = .ok (.iload 5, 2) := by decide +kernel
theorem dX2_heart_239 : decode cX2_heart 239 = .ok (.iaload, 1) := by decide +kernel
theorem dX2_heart_240 : decode cX2_heart 240 = .ok (.iaload, 1) := by decide +kernel
theorem dX2_heart_241 : decode cX2_heart 241 = .ok (.aload_n 0, 1) := by decide +kernel
theorem dX2_heart_242 : decode cX2_heart 242 = .ok (.getfield 16, 3) := by decide +kernel
theorem dX2_heart_245 : decode cX2_heart 245 = .ok (.iload 5, 2) := by decide +kernel
theorem dX2_heart_247 : decode cX2_heart 247 = .ok (.iaload, 1) := by decide +kernel
theorem dX2_heart_248 : decode cX2_heart 248 = .ok (.if_icmp .ge 7, 3) := by decide +kernel
theorem dX2_heart_251 : decode cX2_heart 251 = .ok (.iconst 1, 1) := by decide +kernel
theorem dX2_heart_252 : decode cX2_heart 252 = .ok (.goto 4, 3) := by decide +kernel
theorem dX2_heart_255 : decode cX2_heart 255 = .ok (.iconst 0, 1) := by decide +kernel
theorem dX2_heart_256 : decode cX2_heart 256 = .ok (.ior, 1) := by decide +kernel
theorem dX2_heart_257 : decode cX2_heart 257 = .ok (.istore 4, 2) := by decide +kernel
theorem dX2_heart_259 : decode cX2_heart 259 = .ok (.goto 74, 3) := by decide +kernel
theorem dX2_heart_262 : decode cX2_heart 262 = .ok (.iload 4, 2) := by decide +kernel
theorem dX2_heart_264 : decode cX2_heart 264 = .ok (.iconst 1, 1) := by decide +kernel
theorem dX2_heart_265 : decode cX2_heart 265 = .ok (.ishl, 1) := by decide +kernel
theorem dX2_heart_266 : decode cX2_heart 266 = .ok (.aload_n 0, 1) := by decide +kernel
theorem dX2_heart_267 : decode cX2_heart 267 = .ok (.getfield 19, 3) := by decide +kernel
theorem dX2_heart_270 : decode cX2_heart 270 = .ok (.aload_n 0, 1) := by decide +kernel
theorem dX2_heart_271 : decode cX2_heart 271 = .ok (.getfield 13, 3) := by decide +kernel
theorem dX2_heart_274 : decode cX2_heart 274 = .ok (.iload 5, 2) := by decide +kernel
theorem dX2_heart_276 : decode cX2_heart 276 = .ok (.iaload, 1) := by decide +kernel
theorem dX2_heart_277 : decode cX2_heart 277 = .ok (.iaload, 1) := by decide +kernel
theorem dX2_heart_278 : decode cX2_heart 278 = .ok (.aload_n 0, 1) := by decide +kernel
theorem dX2_heart_279 : decode cX2_heart 279 = .ok (.getfield 16, 3) := by decide +kernel
theorem dX2_heart_282 : decode cX2_heart 282 = .ok (.iload 5, 2) := by decide +kernel
theorem dX2_heart_284 : decode cX2_heart 284 = .ok (.iaload, 1) := by decide +kernel
theorem dX2_heart_285 : decode cX2_heart 285 = .ok (.if_icmp .ne 7, 3) := by decide +kernel
theorem dX2_heart_288 : decode cX2_heart 288 = .ok (.iconst 1, 1) := by decide +kernel
theorem dX2_heart_289 : decode cX2_heart 289 = .ok (.goto 4, 3) := by decide +kernel
theorem dX2_heart_292 : decode cX2_heart 292 = .ok (.iconst 0, 1) := by decide +kernel
theorem dX2_heart_293 : decode cX2_heart 293 = .ok (.ior, 1) := by decide +kernel
theorem dX2_heart_294 : decode cX2_heart 294 = .ok (.istore 4, 2) := by decide +kernel
theorem dX2_heart_296 : decode cX2_heart 296 = .ok (.goto 37, 3) := by decide +kernel
theorem dX2_heart_299 : decode cX2_heart 299 = .ok (.iload 4, 2) := by decide +kernel
theorem dX2_heart_301 : decode cX2_heart 301 = .ok (.iconst 1, 1) := by decide +kernel
theorem dX2_heart_302 : decode cX2_heart 302 = .ok (.ishl, 1) := by decide +kernel
theorem dX2_heart_303 : decode cX2_heart 303 = .ok (.aload_n 0, 1) := by decide +kernel
theorem dX2_heart_304 : decode cX2_heart 304 = .ok (.getfield 19, 3) := by decide +kernel
theorem dX2_heart_307 : decode cX2_heart 307 = .ok (.aload_n 0, 1) := by decide +kernel
theorem dX2_heart_308 : decode cX2_heart 308 = .ok (.getfield 13, 3) := by decide +kernel
theorem dX2_heart_311 : decode cX2_heart 311 = .ok (.iload 5, 2) := by decide +kernel
theorem dX2_heart_313 : decode cX2_heart 313 = .ok (.iaload, 1) := by decide +kernel
theorem dX2_heart_314 : decode cX2_heart 314 = .ok (.iaload, 1) := by decide +kernel
theorem dX2_heart_315 : decode cX2_heart 315 = .ok (.aload_n 0, 1) := by decide +kernel
theorem dX2_heart_316 : decode cX2_heart 316 = .ok (.getfield 16, 3) := by decide +kernel
theorem dX2_heart_319 : decode cX2_heart 319 = .ok (.iload 5, 2) := by decide +kernel
theorem dX2_heart_321 : decode cX2_heart 321 = .ok (.iaload, 1) := by decide +kernel
theorem dX2_heart_322 : decode cX2_heart 322 = .ok (.if_icmp .le 7, 3) := by decide +kernel
theorem dX2_heart_325 : decode cX2_heart 325 = .ok (.iconst 1, 1) := by decide +kernel
theorem dX2_heart_326 : decode cX2_heart 326 = .ok (.goto 4, 3) := by decide +kernel
theorem dX2_heart_329 : decode cX2_heart 329 = .ok (.iconst 0, 1) := by decide +kernel
theorem dX2_heart_330 : decode cX2_heart 330 = .ok (.ior, 1) := by decide +kernel
theorem dX2_heart_331 : decode cX2_heart 331 = .ok (.istore 4, 2) := by decide +kernel
theorem dX2_heart_333 : decode cX2_heart 333 = .ok (.iinc 5 1, 3) := by decide +kernel
theorem dX2_heart_336 : decode cX2_heart 336 = .ok (.goto (-253), 3) := by decide +kernel
theorem dX2_heart_339 : decode cX2_heart 339 = .ok (.iload_n 3, 1) := by decide +kernel
theorem dX2_heart_340 : decode cX2_heart 340 = .ok (.ireturn, 1) := by decide +kernel
theorem dX3_init_0 : decode cX3_init 0 = .ok (.aload_n 0, 1) := by decide +kernel
theorem dX3_init_1 : decode cX3_init 1 = .ok (.invokespecial 1, 3) := by decide +kernel
theorem dX3_init_4 : decode cX3_init 4 = .ok (.aload_n 0, 1) := by decide +kernel
theorem dX3_init_5 : decode cX3_init 5 = .ok (.iload_n 1, 1) := by decide +kernel
theorem dX3_init_6 : decode cX3_init 6 = .ok (.newarray .int, 2) := by decide +kernel
theorem dX3_init_8 : decode cX3_init 8 = .ok (.putfield 7, 3) := by decide +kernel
theorem dX3_init_11 : decode cX3_init 11 = .ok (.aload_n 0, 1) := by decide +kernel
theorem dX3_init_12 : decode cX3_init 12 = .ok (.iload_n 1, 1) := by decide +kernel
theorem dX3_init_13 : decode cX3_init 13 = .ok (.newarray .int, 2) := by decide +kernel
theorem dX3_init_15 : decode cX3_init 15 = .ok (.putfield 13, 3) := by decide +kernel
theorem dX3_init_18 : decode cX3_init 18 = .ok (.return_, 1) := by decide +kernel
theorem dX3_add_0 : decode cX3_add 0 = .ok (.aload_n 0, 1) := by decide +kernel
theorem dX3_add_1 : decode cX3_add 1 = .ok (.getfield 16, 3) := by decide +kernel
theorem dX3_add_4 : decode cX3_add 4 = .ok (.aload_n 0, 1) := by decide +kernel
theorem dX3_add_5 : decode cX3_add 5 = .ok (.getfield 7, 3) := by decide +kernel
theorem dX3_add_8 : decode cX3_add 8 = .ok (.arraylength, 1) := by decide +kernel
theorem dX3_add_9 : decode cX3_add 9 = .ok (.if_icmp .lt 5, 3) := by decide +kernel
theorem dX3_add_12 : decode cX3_add 12 = .ok (.iconst 0, 1) := by decide +kernel
theorem dX3_add_13 : decode cX3_add 13 = .ok (.ireturn, 1) := by decide +kernel
theorem dX3_add_14 : decode cX3_add 14 = .ok (.aload_n 0, 1) := by decide +kernel
theorem dX3_add_15 : decode cX3_add 15 = .ok (.getfield 7, 3) := by decide +kernel
theorem dX3_add_18 : decode cX3_add 18 = .ok (.aload_n 0, 1) := by decide +kernel
theorem dX3_add_19 : decode cX3_add 19 = .ok (.getfield 16, 3) := by decide +kernel
theorem dX3_add_22 : decode cX3_add 22 = .ok (.iload_n 1, 1) := by decide +kernel
theorem dX3_add_23 : decode cX3_add 23 = .ok (.iastore, 1) := by decide +kernel
theorem dX3_add_24 : decode cX3_add 24 = .ok (.aload_n 0, 1) := by decide +kernel
theorem dX3_add_25 : decode cX3_add 25 = .ok (.getfield 13, 3) := by decide +kernel
theorem dX3_add_28 : decode cX3_add 28 = .ok (.aload_n 0, 1) := by decide +kernel
theorem dX3_add_29 : decode cX3_add 29 = .ok (.getfield 16, 3) := by decide +kernel
theorem dX3_add_32 : decode cX3_add 32 = .ok (.iload_n 2, 1) := by decide +kernel
theorem dX3_add_33 : decode cX3_add 33 = .ok (.iastore, 1) := by decide +kernel
theorem dX3_add_34 : decode cX3_add 34 = .ok (.aload_n 0, 1) := by decide +kernel
theorem dX3_add_35 : decode cX3_add 35 = .ok (.dup, 1) := by decide +kernel
theorem dX3_add_36 : decode cX3_add 36 = .ok (.getfield 16, 3) := by decide +kernel
theorem dX3_add_39 : decode cX3_add 39 = .ok (.iconst 1, 1) := by decide +kernel
theorem dX3_add_40 : decode cX3_add 40 = .ok (.iadd, 1) := by decide +kernel
theorem dX3_add_41 : decode cX3_add 41 = .ok (.putfield 16, 3) := by decide +kernel
theorem dX3_add_44 : decode cX3_add 44 = .ok (.iconst 1, 1) := by decide +kernel
theorem dX3_add_45 : decode cX3_add 45 = .ok (.ireturn, 1) := by decide +kernel
theorem dX3_clear_0 : decode cX3_clear 0 = .ok (.aload_n 0, 1) := by decide +kernel
theorem dX3_clear_1 : decode cX3_clear 1 = .ok (.iconst 0, 1) := by decide +kernel
theorem dX3_clear_2 : decode cX3_clear 2 = .ok (.putfield 16, 3) := by decide +kernel
theorem dX3_clear_5 : decode cX3_clear 5 = .ok (.iconst 0, 1) := by decide +kernel
theorem dX3_clear_6 : decode cX3_clear 6 = .ok (.ireturn, 1) := by decide +kernel
theorem dX3_copyFrom_0 : decode cX3_copyFrom 0 = .ok (.aload_n 0, 1) := by decide +kernel
theorem dX3_copyFrom_1 : decode cX3_copyFrom 1 = .ok (.aload_n 1, 1) := by decide +kernel
theorem dX3_copyFrom_2 : decode cX3_copyFrom 2 = .ok (.getfield 16, 3) := by decide +kernel
theorem dX3_copyFrom_5 : decode cX3_copyFrom 5 = .ok (.aload_n 0, 1) := by decide +kernel
theorem dX3_copyFrom_6 : decode cX3_copyFrom 6 = .ok (.getfield 7, 3) := by decide +kernel
theorem dX3_copyFrom_9 : decode cX3_copyFrom 9 = .ok (.arraylength, 1) := by decide +kernel
theorem dX3_copyFrom_10 : decode cX3_copyFrom 10 = .ok (.invokestatic 20, 3) := by decide +kernel
theorem dX3_copyFrom_13 : decode cX3_copyFrom 13 = .ok (.putfield 16, 3) := by decide +kernel
theorem dX3_copyFrom_16 : decode cX3_copyFrom 16 = .ok (.aload_n 1, 1) := by decide +kernel
theorem dX3_copyFrom_17 : decode cX3_copyFrom 17 = .ok (.getfield 7, 3) := by decide +kernel
theorem dX3_copyFrom_20 : decode cX3_copyFrom 20 = .ok (.iconst 0, 1) := by decide +kernel
theorem dX3_copyFrom_21 : decode cX3_copyFrom 21 = .ok (.aload_n 0, 1) := by decide +kernel
theorem dX3_copyFrom_22 : decode cX3_copyFrom 22 = .ok (.getfield 7, 3) := by decide +kernel
theorem dX3_copyFrom_25 : decode cX3_copyFrom 25 = .ok (.iconst 0, 1) := by decide +kernel
theorem dX3_copyFrom_26 : decode cX3_copyFrom 26 = .ok (.aload_n 0, 1) := by decide +kernel
theorem dX3_copyFrom_27 : decode cX3_copyFrom 27 = .ok (.getfield 16, 3) := by decide +kernel
theorem dX3_copyFrom_30 : decode cX3_copyFrom 30 = .ok (.invokestatic 26, 3) := by decide +kernel
theorem dX3_copyFrom_33 : decode cX3_copyFrom 33 = .ok (.aload_n 1, 1) := by decide +kernel
theorem dX3_copyFrom_34 : decode cX3_copyFrom 34 = .ok (.getfield 13, 3) := by decide +kernel
theorem dX3_copyFrom_37 : decode cX3_copyFrom 37 = .ok (.iconst 0, 1) := by decide +kernel
theorem dX3_copyFrom_38 : decode cX3_copyFrom 38 = .ok (.aload_n 0, 1) := by decide +kernel
theorem dX3_copyFrom_39 : decode cX3_copyFrom 39 = .ok (.getfield 13, 3) := by decide +kernel
theorem dX3_copyFrom_42 : decode cX3_copyFrom 42 = .ok (.iconst 0, 1) := by decide +kernel
theorem dX3_copyFrom_43 : decode cX3_copyFrom 43 = .ok (.aload_n 0, 1) := by decide +kernel
theorem dX3_copyFrom_44 : decode cX3_copyFrom 44 = .ok (.getfield 16, 3) := by decide +kernel
theorem dX3_copyFrom_47 : decode cX3_copyFrom 47 = .ok (.invokestatic 26, 3) := by decide +kernel
theorem dX3_copyFrom_50 : decode cX3_copyFrom 50 = .ok (.return_, 1) := by decide +kernel
theorem dX4_init_0 : decode cX4_init 0 = .ok (.aload_n 0, 1) := by decide +kernel
theorem dX4_init_1 : decode cX4_init 1 = .ok (.invokespecial 1, 3) := by decide +kernel
theorem dX4_init_4 : decode cX4_init 4 = .ok (.aload_n 0, 1) := by decide +kernel
theorem dX4_init_5 : decode cX4_init 5 = .ok (.bipush 60, 2) := by decide +kernel
theorem dX4_init_7 : decode cX4_init 7 = .ok (.newarray .long, 2) := by decide +kernel
theorem dX4_init_9 : decode cX4_init 9 = .ok (.putfield 9, 3) := by decide +kernel
theorem dX4_init_12 : decode cX4_init 12 = .ok (.aload_n 0, 1) := by decide +kernel
theorem dX4_init_13 : decode cX4_init 13 = .ok (.iconst (-1), 1) := by decide +kernel
theorem dX4_init_14 : decode cX4_init 14 = .ok (.putfield 13, 3) := by decide +kernel
theorem dX4_init_17 : decode cX4_init 17 = .ok (.return_, 1) := by decide +kernel
theorem dX4_become_0 : decode cX4_become 0 = .ok (.aload_n 0, 1) := by decide +kernel
theorem dX4_become_1 : decode cX4_become 1 = .ok (.iload_n 1, 1) := by decide +kernel
theorem dX4_become_2 : decode cX4_become 2 = .ok (.putfield 13, 3) := by decide +kernel
theorem dX4_become_5 : decode cX4_become 5 = .ok (.aload_n 0, 1) := by decide +kernel
theorem dX4_become_6 : decode cX4_become 6 = .ok (.iload_n 2, 1) := by decide +kernel
theorem dX4_become_7 : decode cX4_become 7 = .ok (.putfield 17, 3) := by decide +kernel
theorem dX4_become_10 : decode cX4_become 10 = .ok (.iconst 0, 1) := by decide +kernel
theorem dX4_become_11 : decode cX4_become 11 = .ok (.istore_n 3, 1) := by decide +kernel
theorem dX4_become_12 : decode cX4_become 12 = .ok (.iload_n 3, 1) := by decide +kernel
theorem dX4_become_13 : decode cX4_become 13 = .ok (.bipush 60, 2) := by decide +kernel
theorem dX4_become_15 : decode cX4_become 15 = .ok (.if_icmp .ge 16, 3) := by decide +kernel
theorem dX4_become_18 : decode cX4_become 18 = .ok (.aload_n 0, 1) := by decide +kernel
theorem dX4_become_19 : decode cX4_become 19 = .ok (.getfield 9, 3) := by decide +kernel
theorem dX4_become_22 : decode cX4_become 22 = .ok (.iload_n 3, 1) := by decide +kernel
theorem dX4_become_23 : decode cX4_become 23 = .ok (.lconst 0, 1) := by decide +kernel
theorem dX4_become_24 : decode cX4_become 24 = .ok (.lastore, 1) := by decide +kernel
theorem dX4_become_25 : decode cX4_become 25 = .ok (.iinc 3 1, 3) := by decide +kernel
theorem dX4_become_28 : decode cX4_become 28 = .ok (.goto (-16), 3) := by decide +kernel
theorem dX4_become_31 : decode cX4_become 31 = .ok (.return_, 1) := by decide +kernel
theorem dX4_cut_0 : decode cX4_cut 0 = .ok (.aload_n 0, 1) := by decide +kernel
theorem dX4_cut_1 : decode cX4_cut 1 = .ok (.getfield 13, 3) := by decide +kernel
theorem dX4_cut_4 : decode cX4_cut 4 = .ok (.tableswitch 62 0 4 #[36, 41, 46, 62, 50], 36) := by decide +kernel
theorem dX4_cut_40 : decode cX4_cut 40 = .ok (.lload_n 1, 1) := by decide +kernel
theorem dX4_cut_41 : decode cX4_cut 41 = .ok (.l2i, 1) := by decide +kernel
theorem dX4_cut_42 : decode cX4_cut 42 = .ok (.i2b, 1) := by decide +kernel
theorem dX4_cut_43 : decode cX4_cut 43 = .ok (.i2l, 1) := by decide +kernel
theorem dX4_cut_44 : decode cX4_cut 44 = .ok (.lreturn, 1) := by decide +kernel
theorem dX4_cut_45 : decode cX4_cut 45 = .ok (.lload_n 1, 1) := by decide +kernel
theorem dX4_cut_46 : decode cX4_cut 46 = .ok (.l2i, 1) := by decide +kernel
theorem dX4_cut_47 : decode cX4_cut 47 = .ok (.i2s, 1) := by decide +kernel
theorem dX4_cut_48 : decode cX4_cut 48 = .ok (.i2l, 1) := by decide +kernel
theorem dX4_cut_49 : decode cX4_cut 49 = .ok (.lreturn, 1) := by decide +kernel
theorem dX4_cut_50 : decode cX4_cut 50 = .ok (.lload_n 1, 1) := by decide +kernel
theorem dX4_cut_51 : decode cX4_cut 51 = .ok (.l2i, 1) := by decide +kernel
theorem dX4_cut_52 : decode cX4_cut 52 = .ok (.i2l, 1) := by decide +kernel
theorem dX4_cut_53 : decode cX4_cut 53 = .ok (.lreturn, 1) := by decide +kernel
theorem dX4_cut_54 : decode cX4_cut 54 = .ok (.lload_n 1, 1) := by decide +kernel
theorem dX4_cut_55 : decode cX4_cut 55 = .ok (.lconst 0, 1) := by decide +kernel
theorem dX4_cut_56 : decode cX4_cut 56 = .ok (.lcmp, 1) := by decide +kernel
theorem dX4_cut_57 : decode cX4_cut 57 = .ok (.ifCond .eq 7, 3) := by decide +kernel
theorem dX4_cut_60 : decode cX4_cut 60 = .ok (.lconst 1, 1) := by decide +kernel
theorem dX4_cut_61 : decode cX4_cut 61 = .ok (.goto 4, 3) := by decide +kernel
theorem dX4_cut_64 : decode cX4_cut 64 = .ok (.lconst 0, 1) := by decide +kernel
theorem dX4_cut_65 : decode cX4_cut 65 = .ok (.lreturn, 1) := by decide +kernel
theorem dX4_cut_66 : decode cX4_cut 66 = .ok (.lload_n 1, 1) := by decide +kernel
theorem dX4_cut_67 : decode cX4_cut 67 = .ok (.lreturn, 1) := by decide +kernel
theorem dX5_init_0 : decode cX5_init 0 = .ok (.aload_n 0, 1) := by decide +kernel
theorem dX5_init_1 : decode cX5_init 1 = .ok (.invokespecial 1, 3) := by decide +kernel
theorem dX5_init_4 : decode cX5_init 4 = .ok (.aload_n 0, 1) := by decide +kernel
theorem dX5_init_5 : decode cX5_init 5 = .ok (.bipush 100, 2) := by decide +kernel
theorem dX5_init_7 : decode cX5_init 7 = .ok (.newarray .byte, 2) := by decide +kernel
theorem dX5_init_9 : decode cX5_init 9 = .ok (.putfield 9, 3) := by decide +kernel
theorem dX5_init_12 : decode cX5_init 12 = .ok (.return_, 1) := by decide +kernel
theorem dX5_add_0 : decode cX5_add 0 = .ok (.aload_n 0, 1) := by decide +kernel
theorem dX5_add_1 : decode cX5_add 1 = .ok (.getfield 13, 3) := by decide +kernel
theorem dX5_add_4 : decode cX5_add 4 = .ok (.bipush 100, 2) := by decide +kernel
theorem dX5_add_6 : decode cX5_add 6 = .ok (.if_icmp .lt 5, 3) := by decide +kernel
theorem dX5_add_9 : decode cX5_add 9 = .ok (.iconst 0, 1) := by decide +kernel
theorem dX5_add_10 : decode cX5_add 10 = .ok (.ireturn, 1) := by decide +kernel
theorem dX5_add_11 : decode cX5_add 11 = .ok (.aload_n 0, 1) := by decide +kernel
theorem dX5_add_12 : decode cX5_add 12 = .ok (.getfield 9, 3) := by decide +kernel
theorem dX5_add_15 : decode cX5_add 15 = .ok (.aload_n 0, 1) := by decide +kernel
theorem dX5_add_16 : decode cX5_add 16 = .ok (.getfield 13, 3) := by decide +kernel
theorem dX5_add_19 : decode cX5_add 19 = .ok (.iload_n 1, 1) := by decide +kernel
theorem dX5_add_20 : decode cX5_add 20 = .ok (.bastore, 1) := by decide +kernel
theorem dX5_add_21 : decode cX5_add 21 = .ok (.aload_n 0, 1) := by decide +kernel
theorem dX5_add_22 : decode cX5_add 22 = .ok (.dup, 1) := by decide +kernel
theorem dX5_add_23 : decode cX5_add 23 = .ok (.getfield 13, 3) := by decide +kernel
theorem dX5_add_26 : decode cX5_add 26 = .ok (.iconst 1, 1) := by decide +kernel
theorem dX5_add_27 : decode cX5_add 27 = .ok (.iadd, 1) := by decide +kernel
theorem dX5_add_28 : decode cX5_add 28 = .ok (.putfield 13, 3) := by decide +kernel
theorem dX5_add_31 : decode cX5_add 31 = .ok (.iconst 1, 1) := by decide +kernel
theorem dX5_add_32 : decode cX5_add 32 = .ok (.ireturn, 1) := by decide +kernel
theorem dX5_readInto_0 : decode cX5_readInto 0 = .ok (.aload_n 0, 1) := by decide +kernel
theorem dX5_readInto_1 : decode cX5_readInto 1 = .ok (.aload_n 1, 1) := by decide +kernel
theorem dX5_readInto_2 : decode cX5_readInto 2 = .ok (.putfield 17, 3) := by decide +kernel
theorem dX5_readInto_5 : decode cX5_readInto 5 = .ok (.aload_n 0, 1) := by decide +kernel
theorem dX5_readInto_6 : decode cX5_readInto 6 = .ok (.getfield 17, 3) := by decide +kernel
theorem dX5_readInto_9 : decode cX5_readInto 9 = .ok (.invokevirtual 21, 3) := by decide +kernel
theorem dX5_readInto_12 : decode cX5_readInto 12 = .ok (.aload_n 0, 1) := by decide +kernel
theorem dX5_readInto_13 : decode cX5_readInto 13 = .ok (.iconst 0, 1) := by decide +kernel
theorem dX5_readInto_14 : decode cX5_readInto 14 = .ok (.putfield 26, 3) := by decide +kernel
theorem dX5_readInto_17 : decode cX5_readInto 17 = .ok (.iconst 1, 1) := by decide +kernel
theorem dX5_readInto_18 : decode cX5_readInto 18 = .ok (.istore_n 2, 1) := by decide +kernel
theorem dX5_readInto_19 : decode cX5_readInto 19 = .ok (.iload_n 2, 1) := by decide +kernel
theorem dX5_readInto_20 : decode cX5_readInto 20 = .ok (.bipush 10, 2) := by decide +kernel
theorem dX5_readInto_22 : decode cX5_readInto 22 = .ok (.if_icmp .gt 54, 3) := by decide +kernel
theorem dX5_readInto_25 : decode cX5_readInto 25 = .ok (.aload_n 0, 1) := by decide +kernel
theorem dX5_readInto_26 : decode cX5_readInto 26 = .ok (.invokevirtual 29, 3) := by decide +kernel
theorem dX5_readInto_29 : decode cX5_readInto 29 = .ok (.ifCond .ne 8, 3) := by decide +kernel
theorem dX5_readInto_32 : decode cX5_readInto 32 = .ok (.aload_n 0, 1) := by decide +kernel
theorem dX5_readInto_33 : decode cX5_readInto 33 = .ok (.getfield 26, 3) := by decide +kernel
theorem dX5_readInto_36 : decode cX5_readInto 36 = .ok (.ireturn, 1) := by decide +kernel
theorem dX5_readInto_37 : decode cX5_readInto 37 = .ok (.aload_n 0, 1) := by decide +kernel
theorem dX5_readInto_38 : decode cX5_readInto 38 = .ok (.getfield 26, 3) := by decide +kernel
theorem dX5_readInto_41 : decode cX5_readInto 41 = .ok (.aload_n 0, 1) := by decide +kernel
theorem dX5_readInto_42 : decode cX5_readInto 42 = .ok (.getfield 13, 3) := by decide +kernel
theorem dX5_readInto_45 : decode cX5_readInto 45 = .ok (.if_icmp .ne 5, 3) := by decide +kernel
theorem dX5_readInto_48 : decode cX5_readInto 48 = .ok (.iconst (-1), 1) := by decide +kernel
theorem dX5_readInto_49 : decode cX5_readInto 49 = .ok (.ireturn, 1) := by decide +kernel
theorem dX5_readInto_50 : decode cX5_readInto 50 = .ok (.iload_n 2, 1) := by decide +kernel
theorem dX5_readInto_51 : decode cX5_readInto 51 = .ok (.bipush 10, 2) := by decide +kernel
theorem dX5_readInto_53 : decode cX5_readInto 53 = .ok (.if_icmp .eq 12, 3) := by decide +kernel
theorem dX5_readInto_56 : decode cX5_readInto 56 = .ok (.aload_n 0, 1) := by decide +kernel
theorem dX5_readInto_57 : decode cX5_readInto 57 = .ok (.bipush 59, 2) := by decide +kernel
theorem dX5_readInto_59 : decode cX5_readInto 59 = .ok (.invokevirtual 33, 3) := by decide +kernel
theorem dX5_readInto_62 : decode cX5_readInto 62 = .ok (.ifCond .ne 8, 3) := by decide +kernel
theorem dX5_readInto_65 : decode cX5_readInto 65 = .ok (.aload_n 0, 1) := by decide +kernel
theorem dX5_readInto_66 : decode cX5_readInto 66 = .ok (.getfield 26, 3) := by decide +kernel
theorem dX5_readInto_69 : decode cX5_readInto 69 = .ok (.ireturn, 1) := by decide +kernel
theorem dX5_readInto_70 : decode cX5_readInto 70 = .ok (.iinc 2 1, 3) := by decide +kernel
theorem dX5_readInto_73 : decode cX5_readInto 73 = .ok (.goto (-54), 3) := by decide +kernel
theorem dX5_readInto_76 : decode cX5_readInto 76 = .ok (.aload_n 0, 1) := by decide +kernel
theorem dX5_readInto_77 : decode cX5_readInto 77 = .ok (.getfield 26, 3) := by decide +kernel
theorem dX5_readInto_80 : decode cX5_readInto 80 = .ok (.ireturn, 1) := by decide +kernel
theorem dX5_readsClause_0 : decode cX5_readsClause 0 = .ok (.aload_n 0, 1) := by decide +kernel
theorem dX5_readsClause_1 : decode cX5_readsClause 1 = .ok (.invokevirtual 37, 3) := by decide +kernel
theorem dX5_readsClause_4 : decode cX5_readsClause 4 = .ok (.istore_n 1, 1) := by decide +kernel
theorem dX5_readsClause_5 : decode cX5_readsClause 5 = .ok (.iload_n 1, 1) := by decide +kernel
theorem dX5_readsClause_6 : decode cX5_readsClause 6 = .ok (.ifCond .lt 12, 3) := by decide +kernel
theorem dX5_readsClause_9 : decode cX5_readsClause 9 = .ok (.aload_n 0, 1) := by decide +kernel
theorem dX5_readsClause_10 : decode cX5_readsClause 10 = .ok (.bipush 32, 2) := by decide +kernel
theorem dX5_readsClause_12 : decode cX5_readsClause 12 = .ok (.invokevirtual 33, 3) := by decide +kernel
theorem dX5_readsClause_15 : decode cX5_readsClause 15 = .ok (.ifCond .ne 5, 3) := by decide +kernel
theorem dX5_readsClause_18 : decode cX5_readsClause 18 = .ok (.iconst 0, 1) := by decide +kernel
theorem dX5_readsClause_19 : decode cX5_readsClause 19 = .ok (.ireturn, 1) := by decide +kernel
theorem dX5_readsClause_20 : decode cX5_readsClause 20 = .ok (.aload_n 0, 1) := by decide +kernel
theorem dX5_readsClause_21 : decode cX5_readsClause 21 = .ok (.invokevirtual 41, 3) := by decide +kernel
theorem dX5_readsClause_24 : decode cX5_readsClause 24 = .ok (.istore_n 2, 1) := by decide +kernel
theorem dX5_readsClause_25 : decode cX5_readsClause 25 = .ok (.iload_n 2, 1) := by decide +kernel
theorem dX5_readsClause_26 : decode cX5_readsClause 26 = .ok (.ifCond .ge 5, 3) := by decide +kernel
theorem dX5_readsClause_29 : decode cX5_readsClause 29 = .ok (.iconst 0, 1) := by decide +kernel
theorem dX5_readsClause_30 : decode cX5_readsClause 30 = .ok (.ireturn, 1) := by decide +kernel
theorem dX5_readsClause_31 : decode cX5_readsClause 31 = .ok (.iload_n 1, 1) := by decide +kernel
theorem dX5_readsClause_32 : decode cX5_readsClause 32 = .ok (.iconst 2, 1) := by decide +kernel
theorem dX5_readsClause_33 : decode cX5_readsClause 33 = .ok (.if_icmp .ne 13, 3) := by decide +kernel
theorem dX5_readsClause_36 : decode cX5_readsClause 36 = .ok (.aload_n 0, 1) := by decide +kernel
theorem dX5_readsClause_37 : decode cX5_readsClause 37 = .ok (.getfield 17, 3) := by decide +kernel
theorem dX5_readsClause_40 : decode cX5_readsClause 40 = .ok (.iload_n 2, 1) := by decide +kernel
theorem dX5_readsClause_41 : decode cX5_readsClause 41 = .ok (.putfield 44, 3) := by decide +kernel
theorem dX5_readsClause_44 : decode cX5_readsClause 44 = .ok (.iconst 1, 1) := by decide +kernel
theorem dX5_readsClause_45 : decode cX5_readsClause 45 = .ok (.ireturn, 1) := by decide +kernel
theorem dX5_readsClause_46 : decode cX5_readsClause 46 = .ok (.iload_n 1, 1) := by decide +kernel
theorem dX5_readsClause_47 : decode cX5_readsClause 47 = .ok (.iconst 3, 1) := by decide +kernel
theorem dX5_readsClause_48 : decode cX5_readsClause 48 = .ok (.if_icmp .ne 13, 3) := by decide +kernel
theorem dX5_readsClause_51 : decode cX5_readsClause 51 = .ok (.aload_n 0, 1) := by decide +kernel
theorem dX5_readsClause_52 : decode cX5_readsClause 52 = .ok (.getfield 17, 3) := by decide +kernel
theorem dX5_readsClause_55 : decode cX5_readsClause 55 = .ok (.iload_n 2, 1) := by decide +kernel
theorem dX5_readsClause_56 : decode cX5_readsClause 56 = .ok (.putfield 47, 3) := by decide +kernel
theorem dX5_readsClause_59 : decode cX5_readsClause 59 = .ok (.iconst 1, 1) := by decide +kernel
theorem dX5_readsClause_60 : decode cX5_readsClause 60 = .ok (.ireturn, 1) := by decide +kernel
theorem dX5_readsClause_61 : decode cX5_readsClause 61 = .ok (.aload_n 0, 1) := by decide +kernel
theorem dX5_readsClause_62 : decode cX5_readsClause 62 = .ok (.bipush 32, 2) := by decide +kernel
theorem dX5_readsClause_64 : decode cX5_readsClause 64 = .ok (.invokevirtual 33, 3) := by decide +kernel
theorem dX5_readsClause_67 : decode cX5_readsClause 67 = .ok (.ifCond .eq 11, 3) := by decide +kernel
theorem dX5_readsClause_70 : decode cX5_readsClause 70 = .ok (.aload_n 0, 1) := by decide +kernel
theorem dX5_readsClause_71 : decode cX5_readsClause 71 = .ok (.iconst 0, 1) := by decide +kernel
theorem dX5_readsClause_72 : decode cX5_readsClause 72 = .ok (.invokevirtual 50, 3) := by decide +kernel
theorem dX5_readsClause_75 : decode cX5_readsClause 75 = .ok (.ifCond .ne 5, 3) := by decide +kernel
theorem dX5_readsClause_78 : decode cX5_readsClause 78 = .ok (.iconst 0, 1) := by decide +kernel
theorem dX5_readsClause_79 : decode cX5_readsClause 79 = .ok (.ireturn, 1) := by decide +kernel
theorem dX5_readsClause_80 : decode cX5_readsClause 80 = .ok (.aload_n 0, 1) := by decide +kernel
theorem dX5_readsClause_81 : decode cX5_readsClause 81 = .ok (.getfield 17, 3) := by decide +kernel
theorem dX5_readsClause_84 : decode cX5_readsClause 84 = .ok (.bipush 59, 2) := by decide +kernel
theorem dX5_readsClause_86 : decode cX5_readsClause 86 = .ok (.iconst 0, 1) := by decide +kernel
theorem dX5_readsClause_87 : decode cX5_readsClause 87 = .ok (.iload_n 1, 1) := by decide +kernel
theorem dX5_readsClause_88 : decode cX5_readsClause 88 = .ok (.ifCond .ne 7, 3) := by decide +kernel
theorem dX5_readsClause_91 : decode cX5_readsClause 91 = .ok (.iload_n 2, 1) := by decide +kernel
theorem dX5_readsClause_92 : decode cX5_readsClause 92 = .ok (.goto 5, 3) := by decide +kernel
theorem dX5_readsClause_95 : decode cX5_readsClause 95 = .ok (.iload_n 2, 1) := by decide +kernel
theorem dX5_readsClause_96 : decode cX5_readsClause 96 = .ok (.ineg, 1) := by decide +kernel
theorem dX5_readsClause_97 : decode cX5_readsClause 97 = .ok (.invokevirtual 53, 3) := by decide +kernel
theorem dX5_readsClause_100 : decode cX5_readsClause 100 = .ok (.iconst 1, 1) := by decide +kernel
theorem dX5_readsClause_101 : decode cX5_readsClause 101 = .ok (.ireturn, 1) := by decide +kernel
theorem dX5_readsAny_0 : decode cX5_readsAny 0 = .ok (.aload_n 0, 1) := by decide +kernel
theorem dX5_readsAny_1 : decode cX5_readsAny 1 = .ok (.iload_n 1, 1) := by decide +kernel
theorem dX5_readsAny_2 : decode cX5_readsAny 2 = .ok (.invokevirtual 57, 3) := by decide +kernel
theorem dX5_readsAny_5 : decode cX5_readsAny 5 = .ok (.ifCond .ne 5, 3) := by decide +kernel
theorem dX5_readsAny_8 : decode cX5_readsAny 8 = .ok (.iconst 0, 1) := by decide +kernel
theorem dX5_readsAny_9 : decode cX5_readsAny 9 = .ok (.ireturn, 1) := by decide +kernel
theorem dX5_readsAny_10 : decode cX5_readsAny 10 = .ok (.iconst 0, 1) := by decide +kernel
theorem dX5_readsAny_11 : decode cX5_readsAny 11 = .ok (.istore_n 2, 1) := by decide +kernel
theorem dX5_readsAny_12 : decode cX5_readsAny 12 = .ok (.iload_n 2, 1) := by decide +kernel
theorem dX5_readsAny_13 : decode cX5_readsAny 13 = .ok (.bipush 100, 2) := by decide +kernel
theorem dX5_readsAny_15 : decode cX5_readsAny 15 = .ok (.if_icmp .ge 39, 3) := by decide +kernel
theorem dX5_readsAny_18 : decode cX5_readsAny 18 = .ok (.aload_n 0, 1) := by decide +kernel
theorem dX5_readsAny_19 : decode cX5_readsAny 19 = .ok (.bipush 124, 2) := by decide +kernel
theorem dX5_readsAny_21 : decode cX5_readsAny 21 = .ok (.invokevirtual 33, 3) := by decide +kernel
theorem dX5_readsAny_24 : decode cX5_readsAny 24 = .ok (.ifCond .eq 30, 3) := by decide +kernel
theorem dX5_readsAny_27 : decode cX5_readsAny 27 = .ok (.aload_n 0, 1) := by decide +kernel
theorem dX5_readsAny_28 : decode cX5_readsAny 28 = .ok (.iload_n 1, 1) := by decide +kernel
theorem dX5_readsAny_29 : decode cX5_readsAny 29 = .ok (.invokevirtual 57, 3) := by decide +kernel
theorem dX5_readsAny_32 : decode cX5_readsAny 32 = .ok (.ifCond .ne 5, 3) := by decide +kernel
theorem dX5_readsAny_35 : decode cX5_readsAny 35 = .ok (.iconst 0, 1) := by decide +kernel
theorem dX5_readsAny_36 : decode cX5_readsAny 36 = .ok (.ireturn, 1) := by decide +kernel
theorem dX5_readsAny_37 : decode cX5_readsAny 37 = .ok (.aload_n 0, 1) := by decide +kernel
theorem dX5_readsAny_38 : decode cX5_readsAny 38 = .ok (.getfield 17, 3) := by decide +kernel
theorem dX5_readsAny_41 : decode cX5_readsAny 41 = .ok (.bipush 124, 2) := by decide +kernel
theorem dX5_readsAny_43 : decode cX5_readsAny 43 = .ok (.iconst 0, 1) := by decide +kernel
theorem dX5_readsAny_44 : decode cX5_readsAny 44 = .ok (.iconst 0, 1) := by decide +kernel
theorem dX5_readsAny_45 : decode cX5_readsAny 45 = .ok (.invokevirtual 53, 3) := by decide +kernel
theorem dX5_readsAny_48 : decode cX5_readsAny 48 = .ok (.iinc 2 1, 3) := by decide +kernel
theorem dX5_readsAny_51 : decode cX5_readsAny 51 = .ok (.goto (-39), 3) := by decide +kernel
theorem dX5_readsAny_54 : decode cX5_readsAny 54 = .ok (.iconst 1, 1) := by decide +kernel
theorem dX5_readsAny_55 : decode cX5_readsAny 55 = .ok (.ireturn, 1) := by decide +kernel
theorem dX5_readsAll_0 : decode cX5_readsAll 0 = .ok (.aload_n 0, 1) := by decide +kernel
theorem dX5_readsAll_1 : decode cX5_readsAll 1 = .ok (.iload_n 1, 1) := by decide +kernel
theorem dX5_readsAll_2 : decode cX5_readsAll 2 = .ok (.invokevirtual 60, 3) := by decide +kernel
theorem dX5_readsAll_5 : decode cX5_readsAll 5 = .ok (.ifCond .ne 5, 3) := by decide +kernel
theorem dX5_readsAll_8 : decode cX5_readsAll 8 = .ok (.iconst 0, 1) := by decide +kernel
theorem dX5_readsAll_9 : decode cX5_readsAll 9 = .ok (.ireturn, 1) := by decide +kernel
theorem dX5_readsAll_10 : decode cX5_readsAll 10 = .ok (.iconst 0, 1) := by decide +kernel
theorem dX5_readsAll_11 : decode cX5_readsAll 11 = .ok (.istore_n 2, 1) := by decide +kernel
theorem dX5_readsAll_12 : decode cX5_readsAll 12 = .ok (.iload_n 2, 1) := by decide +kernel
theorem dX5_readsAll_13 : decode cX5_readsAll 13 = .ok (.bipush 100, 2) := by decide +kernel
theorem dX5_readsAll_15 : decode cX5_readsAll 15 = .ok (.if_icmp .ge 39, 3) := by decide +kernel
theorem dX5_readsAll_18 : decode cX5_readsAll 18 = .ok (.aload_n 0, 1) := by decide +kernel
theorem dX5_readsAll_19 : decode cX5_readsAll 19 = .ok (.bipush 38, 2) := by decide +kernel
theorem dX5_readsAll_21 : decode cX5_readsAll 21 = .ok (.invokevirtual 33, 3) := by decide +kernel
theorem dX5_readsAll_24 : decode cX5_readsAll 24 = .ok (.ifCond .eq 30, 3) := by decide +kernel
theorem dX5_readsAll_27 : decode cX5_readsAll 27 = .ok (.aload_n 0, 1) := by decide +kernel
theorem dX5_readsAll_28 : decode cX5_readsAll 28 = .ok (.iload_n 1, 1) := by decide +kernel
theorem dX5_readsAll_29 : decode cX5_readsAll 29 = .ok (.invokevirtual 60, 3) := by decide +kernel
theorem dX5_readsAll_32 : decode cX5_readsAll 32 = .ok (.ifCond .ne 5, 3) := by decide +kernel
theorem dX5_readsAll_35 : decode cX5_readsAll 35 = .ok (.iconst 0, 1) := by decide +kernel
theorem dX5_readsAll_36 : decode cX5_readsAll 36 = .ok (.ireturn, 1) := by decide +kernel
theorem dX5_readsAll_37 : decode cX5_readsAll 37 = .ok (.aload_n 0, 1) := by decide +kernel
theorem dX5_readsAll_38 : decode cX5_readsAll 38 = .ok (.getfield 17, 3) := by decide +kernel
theorem dX5_readsAll_41 : decode cX5_readsAll 41 = .ok (.bipush 38, 2) := by decide +kernel
theorem dX5_readsAll_43 : decode cX5_readsAll 43 = .ok (.iconst 0, 1) := by decide +kernel
theorem dX5_readsAll_44 : decode cX5_readsAll 44 = .ok (.iconst 0, 1) := by decide +kernel
theorem dX5_readsAll_45 : decode cX5_readsAll 45 = .ok (.invokevirtual 53, 3) := by decide +kernel
theorem dX5_readsAll_48 : decode cX5_readsAll 48 = .ok (.iinc 2 1, 3) := by decide +kernel
theorem dX5_readsAll_51 : decode cX5_readsAll 51 = .ok (.goto (-39), 3) := by decide +kernel
theorem dX5_readsAll_54 : decode cX5_readsAll 54 = .ok (.iconst 1, 1) := by decide +kernel
theorem dX5_readsAll_55 : decode cX5_readsAll 55 = .ok (.ireturn, 1) := by decide +kernel
theorem dX5_readsOne_0 : decode cX5_readsOne 0 = .ok (.iload_n 1, 1) := by decide +kernel
theorem dX5_readsOne_1 : decode cX5_readsOne 1 = .ok (.iconst 4, 1) := by decide +kernel
theorem dX5_readsOne_2 : decode cX5_readsOne 2 = .ok (.if_icmp .ge 37, 3) := by decide +kernel
theorem dX5_readsOne_5 : decode cX5_readsOne 5 = .ok (.aload_n 0, 1) := by decide +kernel
theorem dX5_readsOne_6 : decode cX5_readsOne 6 = .ok (.bipush 33, 2) := by decide +kernel
theorem dX5_readsOne_8 : decode cX5_readsOne 8 = .ok (.invokevirtual 33, 3) := by decide +kernel
theorem dX5_readsOne_11 : decode cX5_readsOne 11 = .ok (.ifCond .eq 28, 3) := by decide +kernel
theorem dX5_readsOne_14 : decode cX5_readsOne 14 = .ok (.aload_n 0, 1) := by decide +kernel
theorem dX5_readsOne_15 : decode cX5_readsOne 15 = .ok (.iload_n 1, 1) := by decide +kernel
theorem dX5_readsOne_16 : decode cX5_readsOne 16 = .ok (.iconst 1, 1) := by decide +kernel
theorem dX5_readsOne_17 : decode cX5_readsOne 17 = .ok (.iadd, 1) := by decide +kernel
theorem dX5_readsOne_18 : decode cX5_readsOne 18 = .ok (.invokevirtual 60, 3) := by decide +kernel
theorem dX5_readsOne_21 : decode cX5_readsOne 21 = .ok (.ifCond .ne 5, 3) := by decide +kernel
theorem dX5_readsOne_24 : decode cX5_readsOne 24 = .ok (.iconst 0, 1) := by decide +kernel
theorem dX5_readsOne_25 : decode cX5_readsOne 25 = .ok (.ireturn, 1) := by decide +kernel
theorem dX5_readsOne_26 : decode cX5_readsOne 26 = .ok (.aload_n 0, 1) := by decide +kernel
theorem dX5_readsOne_27 : decode cX5_readsOne 27 = .ok (.getfield 17, 3) := by decide +kernel
theorem dX5_readsOne_30 : decode cX5_readsOne 30 = .ok (.bipush 33, 2) := by decide +kernel
theorem dX5_readsOne_32 : decode cX5_readsOne 32 = .ok (.iconst 0, 1) := by decide +kernel
theorem dX5_readsOne_33 : decode cX5_readsOne 33 = .ok (.iconst 0, 1) := by decide +kernel
theorem dX5_readsOne_34 : decode cX5_readsOne 34 = .ok (.invokevirtual 53, 3) := by decide +kernel
theorem dX5_readsOne_37 : decode cX5_readsOne 37 = .ok (.iconst 1, 1) := by decide +kernel
theorem dX5_readsOne_38 : decode cX5_readsOne 38 = .ok (.ireturn, 1) := by decide +kernel
theorem dX5_readsOne_39 : decode cX5_readsOne 39 = .ok (.iload_n 1, 1) := by decide +kernel
theorem dX5_readsOne_40 : decode cX5_readsOne 40 = .ok (.iconst 4, 1) := by decide +kernel
theorem dX5_readsOne_41 : decode cX5_readsOne 41 = .ok (.if_icmp .ge 37, 3) := by decide +kernel
theorem dX5_readsOne_44 : decode cX5_readsOne 44 = .ok (.aload_n 0, 1) := by decide +kernel
theorem dX5_readsOne_45 : decode cX5_readsOne 45 = .ok (.bipush 40, 2) := by decide +kernel
theorem dX5_readsOne_47 : decode cX5_readsOne 47 = .ok (.invokevirtual 33, 3) := by decide +kernel
theorem dX5_readsOne_50 : decode cX5_readsOne 50 = .ok (.ifCond .eq 28, 3) := by decide +kernel
theorem dX5_readsOne_53 : decode cX5_readsOne 53 = .ok (.aload_n 0, 1) := by decide +kernel
theorem dX5_readsOne_54 : decode cX5_readsOne 54 = .ok (.iload_n 1, 1) := by decide +kernel
theorem dX5_readsOne_55 : decode cX5_readsOne 55 = .ok (.iconst 1, 1) := by decide +kernel
theorem dX5_readsOne_56 : decode cX5_readsOne 56 = .ok (.iadd, 1) := by decide +kernel
theorem dX5_readsOne_57 : decode cX5_readsOne 57 = .ok (.invokevirtual 50, 3) := by decide +kernel
theorem dX5_readsOne_60 : decode cX5_readsOne 60 = .ok (.ifCond .eq 16, 3) := by decide +kernel
theorem dX5_readsOne_63 : decode cX5_readsOne 63 = .ok (.aload_n 0, 1) := by decide +kernel
theorem dX5_readsOne_64 : decode cX5_readsOne 64 = .ok (.bipush 41, 2) := by decide +kernel
theorem dX5_readsOne_66 : decode cX5_readsOne 66 = .ok (.invokevirtual 33, 3) := by decide +kernel
theorem dX5_readsOne_69 : decode cX5_readsOne 69 = .ok (.ifCond .eq 7, 3) := by decide +kernel
theorem dX5_readsOne_72 : decode cX5_readsOne 72 = .ok (.iconst 1, 1) := by decide +kernel
theorem dX5_readsOne_73 : decode cX5_readsOne 73 = .ok (.goto 4, 3) := by decide +kernel
theorem dX5_readsOne_76 : decode cX5_readsOne 76 = .ok (.iconst 0, 1) := by decide +kernel
theorem dX5_readsOne_77 : decode cX5_readsOne 77 = .ok (.ireturn, 1) := by decide +kernel
theorem dX5_readsOne_78 : decode cX5_readsOne 78 = .ok (.aload_n 0, 1) := by decide +kernel
theorem dX5_readsOne_79 : decode cX5_readsOne 79 = .ok (.getfield 26, 3) := by decide +kernel
theorem dX5_readsOne_82 : decode cX5_readsOne 82 = .ok (.aload_n 0, 1) := by decide +kernel
theorem dX5_readsOne_83 : decode cX5_readsOne 83 = .ok (.getfield 13, 3) := by decide +kernel
theorem dX5_readsOne_86 : decode cX5_readsOne 86 = .ok (.if_icmp .ge 21, 3) := by decide +kernel
theorem dX5_readsOne_89 : decode cX5_readsOne 89 = .ok (.ldc 63, 2) := by decide +kernel
theorem dX5_readsOne_91 : decode cX5_readsOne 91 = .ok (.aload_n 0, 1) := by decide +kernel
theorem dX5_readsOne_92 : decode cX5_readsOne 92 = .ok (.getfield 9, 3) := by decide +kernel
theorem dX5_readsOne_95 : decode cX5_readsOne 95 = .ok (.aload_n 0, 1) := by decide +kernel
theorem dX5_readsOne_96 : decode cX5_readsOne 96 = .ok (.getfield 26, 3) := by decide +kernel
theorem dX5_readsOne_99 : decode cX5_readsOne 99 = .ok (.baload, 1) := by decide +kernel
theorem dX5_readsOne_100 : decode cX5_readsOne 100 = .ok (.i2c, 1) := by decide +kernel
theorem dX5_readsOne_101 : decode cX5_readsOne 101 = .ok (.invokevirtual 65, 3) := by decide +kernel
theorem dX5_readsOne_104 : decode cX5_readsOne 104 = .ok (.goto 4, 3) := by decide +kernel
theorem dX5_readsOne_107 : decode cX5_readsOne 107 = .ok (.iconst (-1), 1) := by decide +kernel
theorem dX5_readsOne_108 : decode cX5_readsOne 108 = .ok (.istore_n 2, 1) := by decide +kernel
theorem dX5_readsOne_109 : decode cX5_readsOne 109 = .ok (.iload_n 2, 1) := by decide +kernel
theorem dX5_readsOne_110 : decode cX5_readsOne 110 = .ok (.ifCond .ge 5, 3) := by decide +kernel
theorem dX5_readsOne_113 : decode cX5_readsOne 113 = .ok (.iconst 0, 1) := by decide +kernel
theorem dX5_readsOne_114 : decode cX5_readsOne 114 = .ok (.ireturn, 1) := by decide +kernel
theorem dX5_readsOne_115 : decode cX5_readsOne 115 = .ok (.aload_n 0, 1) := by decide +kernel
theorem dX5_readsOne_116 : decode cX5_readsOne 116 = .ok (.dup, 1) := by decide +kernel
theorem dX5_readsOne_117 : decode cX5_readsOne 117 = .ok (.getfield 26, 3) := by decide +kernel
theorem dX5_readsOne_120 : decode cX5_readsOne 120 = .ok (.iconst 1, 1) := by decide +kernel
theorem dX5_readsOne_121 : decode cX5_readsOne 121 = .ok (.iadd, 1) := by decide +kernel
theorem dX5_readsOne_122 : decode cX5_readsOne 122 = .ok (.putfield 26, 3) := by decide +kernel
theorem dX5_readsOne_125 : decode cX5_readsOne 125 = .ok (.aload_n 0, 1) := by decide +kernel
theorem dX5_readsOne_126 : decode cX5_readsOne 126 = .ok (.getfield 26, 3) := by decide +kernel
theorem dX5_readsOne_129 : decode cX5_readsOne 129 = .ok (.aload_n 0, 1) := by decide +kernel
theorem dX5_readsOne_130 : decode cX5_readsOne 130 = .ok (.getfield 13, 3) := by decide +kernel
theorem dX5_readsOne_133 : decode cX5_readsOne 133 = .ok (.if_icmp .ge 15, 3) := by decide +kernel
theorem dX5_readsOne_136 : decode cX5_readsOne 136 = .ok (.aload_n 0, 1) := by decide +kernel
theorem dX5_readsOne_137 : decode cX5_readsOne 137 = .ok (.getfield 9, 3) := by decide +kernel
theorem dX5_readsOne_140 : decode cX5_readsOne 140 = .ok (.aload_n 0, 1) := by decide +kernel
theorem dX5_readsOne_141 : decode cX5_readsOne 141 = .ok (.getfield 26, 3) := by decide +kernel
theorem dX5_readsOne_144 : decode cX5_readsOne 144 = .ok (.baload, 1) := by decide +kernel
theorem dX5_readsOne_145 : decode cX5_readsOne 145 = .ok (.goto 4, 3) := by decide +kernel
theorem dX5_readsOne_148 : decode cX5_readsOne 148 = .ok (.iconst 0, 1) := by decide +kernel
theorem dX5_readsOne_149 : decode cX5_readsOne 149 = .ok (.istore_n 3, 1) := by decide +kernel
theorem dX5_readsOne_150 : decode cX5_readsOne 150 = .ok (.aload_n 0, 1) := by decide +kernel
theorem dX5_readsOne_151 : decode cX5_readsOne 151 = .ok (.bipush 60, 2) := by decide +kernel
theorem dX5_readsOne_153 : decode cX5_readsOne 153 = .ok (.invokevirtual 33, 3) := by decide +kernel
theorem dX5_readsOne_156 : decode cX5_readsOne 156 = .ok (.ifCond .ne 23, 3) := by decide +kernel
theorem dX5_readsOne_159 : decode cX5_readsOne 159 = .ok (.aload_n 0, 1) := by decide +kernel
theorem dX5_readsOne_160 : decode cX5_readsOne 160 = .ok (.bipush 61, 2) := by decide +kernel
theorem dX5_readsOne_162 : decode cX5_readsOne 162 = .ok (.invokevirtual 33, 3) := by decide +kernel
theorem dX5_readsOne_165 : decode cX5_readsOne 165 = .ok (.ifCond .ne 14, 3) := by decide +kernel
theorem dX5_readsOne_168 : decode cX5_readsOne 168 = .ok (.aload_n 0, 1) := by decide +kernel
theorem dX5_readsOne_169 : decode cX5_readsOne 169 = .ok (.bipush 62, 2) := by decide +kernel
theorem dX5_readsOne_171 : decode cX5_readsOne 171 = .ok (.invokevirtual 33, 3) := by decide +kernel
theorem dX5_readsOne_174 : decode cX5_readsOne 174 = .ok (.ifCond .ne 5, 3) := by decide +kernel
theorem dX5_readsOne_177 : decode cX5_readsOne 177 = .ok (.iconst 0, 1) := by decide +kernel
theorem dX5_readsOne_178 : decode cX5_readsOne 178 = .ok (.ireturn, 1) := by decide +kernel
theorem dX5_readsOne_179 : decode cX5_readsOne 179 = .ok (.aload_n 0, 1) := by decide +kernel
theorem dX5_readsOne_180 : decode cX5_readsOne 180 = .ok (.invokevirtual 41, 3) := by decide +kernel
theorem dX5_readsOne_183 : decode cX5_readsOne 183 = .ok (.istore 4, 2) := by decide +kernel
theorem dX5_readsOne_185 : decode cX5_readsOne 185 = .ok (.iload 4, 2) := by decide +kernel
theorem dX5_readsOne_187 : decode cX5_readsOne 187 = .ok (.ifCond .ge 5, 3) := by decide +kernel
theorem dX5_readsOne_190 : decode cX5_readsOne 190 = .ok (.iconst 0, 1) := by decide +kernel
theorem dX5_readsOne_191 : decode cX5_readsOne 191 = .ok (.ireturn, 1) := by decide +kernel
theorem dX5_readsOne_192 : decode cX5_readsOne 192 = .ok (.aload_n 0, 1) := by decide +kernel
theorem dX5_readsOne_193 : decode cX5_readsOne 193 = .ok (.getfield 17, 3) := by decide +kernel
theorem dX5_readsOne_196 : decode cX5_readsOne 196 = .ok (.iload_n 3, 1) := by decide +kernel
theorem dX5_readsOne_197 : decode cX5_readsOne 197 = .ok (.iload_n 2, 1) := by decide +kernel
theorem dX5_readsOne_198 : decode cX5_readsOne 198 = .ok (.iload 4, 2) := by decide +kernel
theorem dX5_readsOne_200 : decode cX5_readsOne 200 = .ok (.invokevirtual 53, 3) := by decide +kernel
theorem dX5_readsOne_203 : decode cX5_readsOne 203 = .ok (.iconst 1, 1) := by decide +kernel
theorem dX5_readsOne_204 : decode cX5_readsOne 204 = .ok (.ireturn, 1) := by decide +kernel
theorem dX5_takes_0 : decode cX5_takes 0 = .ok (.aload_n 0, 1) := by decide +kernel
theorem dX5_takes_1 : decode cX5_takes 1 = .ok (.getfield 26, 3) := by decide +kernel
theorem dX5_takes_4 : decode cX5_takes 4 = .ok (.aload_n 0, 1) := by decide +kernel
theorem dX5_takes_5 : decode cX5_takes 5 = .ok (.getfield 13, 3) := by decide +kernel
theorem dX5_takes_8 : decode cX5_takes 8 = .ok (.if_icmp .ge 28, 3) := by decide +kernel
theorem dX5_takes_11 : decode cX5_takes 11 = .ok (.aload_n 0, 1) := by decide +kernel
theorem dX5_takes_12 : decode cX5_takes 12 = .ok (.getfield 9, 3) := by decide +kernel
theorem dX5_takes_15 : decode cX5_takes 15 = .ok (.aload_n 0, 1) := by decide +kernel
theorem dX5_takes_16 : decode cX5_takes 16 = .ok (.getfield 26, 3) := by decide +kernel
theorem dX5_takes_19 : decode cX5_takes 19 = .ok (.baload, 1) := by decide +kernel
theorem dX5_takes_20 : decode cX5_takes 20 = .ok (.iload_n 1, 1) := by decide +kernel
theorem dX5_takes_21 : decode cX5_takes 21 = .ok (.if_icmp .ne 15, 3) := by decide +kernel
theorem dX5_takes_24 : decode cX5_takes 24 = .ok (.aload_n 0, 1) := by decide +kernel
theorem dX5_takes_25 : decode cX5_takes 25 = .ok (.dup, 1) := by decide +kernel
theorem dX5_takes_26 : decode cX5_takes 26 = .ok (.getfield 26, 3) := by decide +kernel
theorem dX5_takes_29 : decode cX5_takes 29 = .ok (.iconst 1, 1) := by decide +kernel
theorem dX5_takes_30 : decode cX5_takes 30 = .ok (.iadd, 1) := by decide +kernel
theorem dX5_takes_31 : decode cX5_takes 31 = .ok (.putfield 26, 3) := by decide +kernel
theorem dX5_takes_34 : decode cX5_takes 34 = .ok (.iconst 1, 1) := by decide +kernel
theorem dX5_takes_35 : decode cX5_takes 35 = .ok (.ireturn, 1) := by decide +kernel
theorem dX5_takes_36 : decode cX5_takes 36 = .ok (.iconst 0, 1) := by decide +kernel
theorem dX5_takes_37 : decode cX5_takes 37 = .ok (.ireturn, 1) := by decide +kernel
theorem dX5_takesWord_0 : decode cX5_takesWord 0 = .ok (.iconst 0, 1) := by decide +kernel
theorem dX5_takesWord_1 : decode cX5_takesWord 1 = .ok (.istore_n 1, 1) := by decide +kernel
theorem dX5_takesWord_2 : decode cX5_takesWord 2 = .ok (.iconst 0, 1) := by decide +kernel
theorem dX5_takesWord_3 : decode cX5_takesWord 3 = .ok (.istore_n 2, 1) := by decide +kernel
theorem dX5_takesWord_4 : decode cX5_takesWord 4 = .ok (.iload_n 2, 1) := by decide +kernel
theorem dX5_takesWord_5 : decode cX5_takesWord 5 = .ok (.iconst 3, 1) := by decide +kernel
theorem dX5_takesWord_6 : decode cX5_takesWord 6 = .ok (.if_icmp .gt 82, 3) := by decide +kernel
theorem dX5_takesWord_9 : decode cX5_takesWord 9 = .ok (.iconst 0, 1) := by decide +kernel
theorem dX5_takesWord_10 : decode cX5_takesWord 10 = .ok (.istore_n 3, 1) := by decide +kernel
theorem dX5_takesWord_11 : decode cX5_takesWord 11 = .ok (.iload_n 3, 1) := by decide +kernel
theorem dX5_takesWord_12 : decode cX5_takesWord 12 = .ok (.iconst 4, 1) := by decide +kernel
theorem dX5_takesWord_13 : decode cX5_takesWord 13 = .ok (.if_icmp .ge 46, 3) := by decide +kernel
theorem dX5_takesWord_16 : decode cX5_takesWord 16 = .ok (.aload_n 0, 1) := by decide +kernel
theorem dX5_takesWord_17 : decode cX5_takesWord 17 = .ok (.getfield 26, 3) := by decide +kernel
theorem dX5_takesWord_20 : decode cX5_takesWord 20 = .ok (.iload_n 3, 1) := by decide +kernel
theorem dX5_takesWord_21 : decode cX5_takesWord 21 = .ok (.iadd, 1) := by decide +kernel
theorem dX5_takesWord_22 : decode cX5_takesWord 22 = .ok (.aload_n 0, 1) := by decide +kernel
theorem dX5_takesWord_23 : decode cX5_takesWord 23 = .ok (.getfield 13, 3) := by decide +kernel
theorem dX5_takesWord_26 : decode cX5_takesWord 26 = .ok (.if_icmp .ge 33, 3) := by decide +kernel
theorem dX5_takesWord_29 : decode cX5_takesWord 29 = .ok (.aload_n 0, 1) := by decide +kernel
theorem dX5_takesWord_30 : decode cX5_takesWord 30 = .ok (.getfield 9, 3) := by decide +kernel
theorem dX5_takesWord_33 : decode cX5_takesWord 33 = .ok (.aload_n 0, 1) := by decide +kernel
theorem dX5_takesWord_34 : decode cX5_takesWord 34 = .ok (.getfield 26, 3) := by decide +kernel
theorem dX5_takesWord_37 : decode cX5_takesWord 37 = .ok (.iload_n 3, 1) := by decide +kernel
theorem dX5_takesWord_38 : decode cX5_takesWord 38 = .ok (.iadd, 1) := by decide +kernel
theorem dX5_takesWord_39 : decode cX5_takesWord 39 = .ok (.baload, 1) := by decide +kernel
theorem dX5_takesWord_40 : decode cX5_takesWord 40 = .ok (.ldc 71, 2) := by decide +kernel
theorem dX5_takesWord_42 : decode cX5_takesWord 42 = .ok (.iconst 4, 1) := by decide +kernel
theorem dX5_takesWord_43 : decode cX5_takesWord 43 = .ok (.iload_n 2, 1) := by decide +kernel
theorem dX5_takesWord_44 : decode cX5_takesWord 44 = .ok (.imul, 1) := by decide +kernel
theorem dX5_takesWord_45 : decode cX5_takesWord 45 = .ok (.iload_n 3, 1) := by decide +kernel
theorem dX5_takesWord_46 : decode cX5_takesWord 46 = .ok (.iadd, 1) := by decide +kernel
theorem dX5_takesWord_47 : decode cX5_takesWord 47 = .ok (.invokevirtual 73, 3) := by decide +kernel
theorem dX5_takesWord_50 : decode cX5_takesWord 50 = .ok (.if_icmp .ne 9, 3) := by decide +kernel
theorem dX5_takesWord_53 : decode cX5_takesWord 53 = .ok (.iinc 3 1, 3) := by decide +kernel
theorem dX5_takesWord_56 : decode cX5_takesWord 56 = .ok (.goto (-45), 3) := by decide +kernel
theorem dX5_takesWord_59 : decode cX5_takesWord 59 = .ok (.iload_n 3, 1) := by decide +kernel
theorem dX5_takesWord_60 : decode cX5_takesWord 60 = .ok (.iconst 4, 1) := by decide +kernel
theorem dX5_takesWord_61 : decode cX5_takesWord 61 = .ok (.if_icmp .ne 15, 3) := by decide +kernel
theorem dX5_takesWord_64 : decode cX5_takesWord 64 = .ok (.aload_n 0, 1) := by decide +kernel
theorem dX5_takesWord_65 : decode cX5_takesWord 65 = .ok (.dup, 1) := by decide +kernel
theorem dX5_takesWord_66 : decode cX5_takesWord 66 = .ok (.getfield 26, 3) := by decide +kernel
theorem dX5_takesWord_69 : decode cX5_takesWord 69 = .ok (.iconst 4, 1) := by decide +kernel
theorem dX5_takesWord_70 : decode cX5_takesWord 70 = .ok (.iadd, 1) := by decide +kernel
theorem dX5_takesWord_71 : decode cX5_takesWord 71 = .ok (.putfield 26, 3) := by decide +kernel
theorem dX5_takesWord_74 : decode cX5_takesWord 74 = .ok (.iload_n 2, 1) := by decide +kernel
theorem dX5_takesWord_75 : decode cX5_takesWord 75 = .ok (.ireturn, 1) := by decide +kernel
theorem dX5_takesWord_76 : decode cX5_takesWord 76 = .ok (.iload_n 1, 1) := by decide +kernel
theorem dX5_takesWord_77 : decode cX5_takesWord 77 = .ok (.iload_n 3, 1) := by decide +kernel
theorem dX5_takesWord_78 : decode cX5_takesWord 78 = .ok (.invokestatic 77, 3) := by decide +kernel
theorem dX5_takesWord_81 : decode cX5_takesWord 81 = .ok (.istore_n 1, 1) := by decide +kernel
theorem dX5_takesWord_82 : decode cX5_takesWord 82 = .ok (.iinc 2 1, 3) := by decide +kernel
theorem dX5_takesWord_85 : decode cX5_takesWord 85 = .ok (.goto (-81), 3) := by decide +kernel
theorem dX5_takesWord_88 : decode cX5_takesWord 88 = .ok (.aload_n 0, 1) := by decide +kernel
theorem dX5_takesWord_89 : decode cX5_takesWord 89 = .ok (.dup, 1) := by decide +kernel
theorem dX5_takesWord_90 : decode cX5_takesWord 90 = .ok (.getfield 26, 3) := by decide +kernel
theorem dX5_takesWord_93 : decode cX5_takesWord 93 = .ok (.iload_n 1, 1) := by decide +kernel
theorem dX5_takesWord_94 : decode cX5_takesWord 94 = .ok (.iadd, 1) := by decide +kernel
theorem dX5_takesWord_95 : decode cX5_takesWord 95 = .ok (.putfield 26, 3) := by decide +kernel
theorem dX5_takesWord_98 : decode cX5_takesWord 98 = .ok (.iconst (-1), 1) := by decide +kernel
theorem dX5_takesWord_99 : decode cX5_takesWord 99 = .ok (.ireturn, 1) := by decide +kernel
theorem dX5_takesNumber_0 : decode cX5_takesNumber 0 = .ok (.iconst (-1), 1) := by decide +kernel
theorem dX5_takesNumber_1 : decode cX5_takesNumber 1 = .ok (.istore_n 1, 1) := by decide +kernel
theorem dX5_takesNumber_2 : decode cX5_takesNumber 2 = .ok (.iconst 0, 1) := by decide +kernel
theorem dX5_takesNumber_3 : decode cX5_takesNumber 3 = .ok (.istore_n 2, 1) := by decide +kernel
theorem dX5_takesNumber_4 : decode cX5_takesNumber 4 = .ok (.iload_n 2, 1) := by decide +kernel
theorem dX5_takesNumber_5 : decode cX5_takesNumber 5 = .ok (.iconst 2, 1) := by decide +kernel
theorem dX5_takesNumber_6 : decode cX5_takesNumber 6 = .ok (.if_icmp .ge 80, 3) := by decide +kernel
theorem dX5_takesNumber_9 : decode cX5_takesNumber 9 = .ok (.aload_n 0, 1) := by decide +kernel
theorem dX5_takesNumber_10 : decode cX5_takesNumber 10 = .ok (.getfield 26, 3) := by decide +kernel
theorem dX5_takesNumber_13 : decode cX5_takesNumber 13 = .ok (.aload_n 0, 1) := by decide +kernel
theorem dX5_takesNumber_14 : decode cX5_takesNumber 14 = .ok (.getfield 13, 3) := by decide +kernel
theorem dX5_takesNumber_17 : decode cX5_takesNumber 17 = .ok (.if_icmp .ge 69, 3) := by decide +kernel
theorem dX5_takesNumber_20 : decode cX5_takesNumber 20 = .ok (.aload_n 0, 1) := by decide +kernel
theorem dX5_takesNumber_21 : decode cX5_takesNumber 21 = .ok (.getfield 9, 3) := by decide +kernel
theorem dX5_takesNumber_24 : decode cX5_takesNumber 24 = .ok (.aload_n 0, 1) := by decide +kernel
theorem dX5_takesNumber_25 : decode cX5_takesNumber 25 = .ok (.getfield 26, 3) := by decide +kernel
theorem dX5_takesNumber_28 : decode cX5_takesNumber 28 = .ok (.baload, 1) := by decide +kernel
theorem dX5_takesNumber_29 : decode cX5_takesNumber 29 = .ok (.bipush 48, 2) := by decide +kernel
theorem dX5_takesNumber_31 : decode cX5_takesNumber 31 = .ok (.if_icmp .lt 55, 3) := by decide +kernel
theorem dX5_takesNumber_34 : decode cX5_takesNumber 34 = .ok (.aload_n 0, 1) := by decide +kernel
theorem dX5_takesNumber_35 : decode cX5_takesNumber 35 = .ok (.getfield 9, 3) := by decide +kernel
theorem dX5_takesNumber_38 : decode cX5_takesNumber 38 = .ok (.aload_n 0, 1) := by decide +kernel
theorem dX5_takesNumber_39 : decode cX5_takesNumber 39 = .ok (.getfield 26, 3) := by decide +kernel
theorem dX5_takesNumber_42 : decode cX5_takesNumber 42 = .ok (.baload, 1) := by decide +kernel
theorem dX5_takesNumber_43 : decode cX5_takesNumber 43 = .ok (.bipush 57, 2) := by decide +kernel
theorem dX5_takesNumber_45 : decode cX5_takesNumber 45 = .ok (.if_icmp .gt 41, 3) := by decide +kernel
theorem dX5_takesNumber_48 : decode cX5_takesNumber 48 = .ok (.iload_n 1, 1) := by decide +kernel
theorem dX5_takesNumber_49 : decode cX5_takesNumber 49 = .ok (.iconst 0, 1) := by decide +kernel
theorem dX5_takesNumber_50 : decode cX5_takesNumber 50 = .ok (.invokestatic 77, 3) := by decide +kernel
theorem dX5_takesNumber_53 : decode cX5_takesNumber 53 = .ok (.bipush 10, 2) := by decide +kernel
theorem dX5_takesNumber_55 : decode cX5_takesNumber 55 = .ok (.imul, 1) := by decide +kernel
theorem dX5_takesNumber_56 : decode cX5_takesNumber 56 = .ok (.aload_n 0, 1) := by decide +kernel
theorem dX5_takesNumber_57 : decode cX5_takesNumber 57 = .ok (.getfield 9, 3) := by decide +kernel
theorem dX5_takesNumber_60 : decode cX5_takesNumber 60 = .ok (.aload_n 0, 1) := by decide +kernel
theorem dX5_takesNumber_61 : decode cX5_takesNumber 61 = .ok (.getfield 26, 3) := by decide +kernel
theorem dX5_takesNumber_64 : decode cX5_takesNumber 64 = .ok (.baload, 1) := by decide +kernel
theorem dX5_takesNumber_65 : decode cX5_takesNumber 65 = .ok (.iadd, 1) := by decide +kernel
theorem dX5_takesNumber_66 : decode cX5_takesNumber 66 = .ok (.bipush 48, 2) := by decide +kernel
theorem dX5_takesNumber_68 : decode cX5_takesNumber 68 = .ok (.isub, 1) := by decide +kernel
theorem dX5_takesNumber_69 : decode cX5_takesNumber 69 = .ok (.istore_n 1, 1) := by decide +kernel
theorem dX5_takesNumber_70 : decode cX5_takesNumber 70 = .ok (.aload_n 0, 1) := by decide +kernel
theorem dX5_takesNumber_71 : decode cX5_takesNumber 71 = .ok (.dup, 1) := by decide +kernel
theorem dX5_takesNumber_72 : decode cX5_takesNumber 72 = .ok (.getfield 26, 3) := by decide +kernel
theorem dX5_takesNumber_75 : decode cX5_takesNumber 75 = .ok (.iconst 1, 1) := by decide +kernel
theorem dX5_takesNumber_76 : decode cX5_takesNumber 76 = .ok (.iadd, 1) := by decide +kernel
theorem dX5_takesNumber_77 : decode cX5_takesNumber 77 = .ok (.putfield 26, 3) := by decide +kernel
theorem dX5_takesNumber_80 : decode cX5_takesNumber 80 = .ok (.iinc 2 1, 3) := by decide +kernel
theorem dX5_takesNumber_83 : decode cX5_takesNumber 83 = .ok (.goto (-79), 3) := by decide +kernel
theorem dX5_takesNumber_86 : decode cX5_takesNumber 86 = .ok (.iload_n 1, 1) := by decide +kernel
theorem dX5_takesNumber_87 : decode cX5_takesNumber 87 = .ok (.ireturn, 1) := by decide +kernel
theorem dX6_init_0 : decode cX6_init 0 = .ok (.aload_n 0, 1) := by decide +kernel
theorem dX6_init_1 : decode cX6_init 1 = .ok (.invokespecial 3, 3) := by decide +kernel
theorem dX6_init_4 : decode cX6_init 4 = .ok (.new 9, 3) := by decide +kernel
theorem dX6_init_7 : decode cX6_init 7 = .ok (.dup, 1) := by decide +kernel
theorem dX6_init_8 : decode cX6_init 8 = .ok (.invokespecial 11, 3) := by decide +kernel
theorem dX6_init_11 : decode cX6_init 11 = .ok (.astore_n 1, 1) := by decide +kernel
theorem dX6_init_12 : decode cX6_init 12 = .ok (.aload_n 0, 1) := by decide +kernel
theorem dX6_init_13 : decode cX6_init 13 = .ok (.new 12, 3) := by decide +kernel
theorem dX6_init_16 : decode cX6_init 16 = .ok (.dup, 1) := by decide +kernel
theorem dX6_init_17 : decode cX6_init 17 = .ok (.aload_n 1, 1) := by decide +kernel
theorem dX6_init_18 : decode cX6_init 18 = .ok (.invokespecial 14, 3) := by decide +kernel
theorem dX6_init_21 : decode cX6_init 21 = .ok (.putfield 17, 3) := by decide +kernel
theorem dX6_init_24 : decode cX6_init 24 = .ok (.aload_n 0, 1) := by decide +kernel
theorem dX6_init_25 : decode cX6_init 25 = .ok (.new 12, 3) := by decide +kernel
theorem dX6_init_28 : decode cX6_init 28 = .ok (.dup, 1) := by decide +kernel
theorem dX6_init_29 : decode cX6_init 29 = .ok (.aload_n 1, 1) := by decide +kernel
theorem dX6_init_30 : decode cX6_init 30 = .ok (.invokespecial 14, 3) := by decide +kernel
theorem dX6_init_33 : decode cX6_init 33 = .ok (.putfield 23, 3) := by decide +kernel
theorem dX6_init_36 : decode cX6_init 36 = .ok (.aload_n 0, 1) := by decide +kernel
theorem dX6_init_37 : decode cX6_init 37 = .ok (.new 12, 3) := by decide +kernel
theorem dX6_init_40 : decode cX6_init 40 = .ok (.dup, 1) := by decide +kernel
theorem dX6_init_41 : decode cX6_init 41 = .ok (.aload_n 1, 1) := by decide +kernel
theorem dX6_init_42 : decode cX6_init 42 = .ok (.invokespecial 14, 3) := by decide +kernel
theorem dX6_init_45 : decode cX6_init 45 = .ok (.putfield 26, 3) := by decide +kernel
theorem dX6_init_48 : decode cX6_init 48 = .ok (.aload_n 0, 1) := by decide +kernel
theorem dX6_init_49 : decode cX6_init 49 = .ok (.new 29, 3) := by decide +kernel
theorem dX6_init_52 : decode cX6_init 52 = .ok (.dup, 1) := by decide +kernel
theorem dX6_init_53 : decode cX6_init 53 = .ok (.iconst 5, 1) := by decide +kernel
theorem dX6_init_54 : decode cX6_init 54 = .ok (.invokespecial 31, 3) := by decide +kernel
theorem dX6_init_57 : decode cX6_init 57 = .ok (.putfield 34, 3) := by decide +kernel
theorem dX6_init_60 : decode cX6_init 60 = .ok (.aload_n 0, 1) := by decide +kernel
theorem dX6_init_61 : decode cX6_init 61 = .ok (.new 29, 3) := by decide +kernel
theorem dX6_init_64 : decode cX6_init 64 = .ok (.dup, 1) := by decide +kernel
theorem dX6_init_65 : decode cX6_init 65 = .ok (.bipush 10, 2) := by decide +kernel
theorem dX6_init_67 : decode cX6_init 67 = .ok (.invokespecial 31, 3) := by decide +kernel
theorem dX6_init_70 : decode cX6_init 70 = .ok (.putfield 38, 3) := by decide +kernel
theorem dX6_init_73 : decode cX6_init 73 = .ok (.aload_n 0, 1) := by decide +kernel
theorem dX6_init_74 : decode cX6_init 74 = .ok (.new 29, 3) := by decide +kernel
theorem dX6_init_77 : decode cX6_init 77 = .ok (.dup, 1) := by decide +kernel
theorem dX6_init_78 : decode cX6_init 78 = .ok (.bipush 8, 2) := by decide +kernel
theorem dX6_init_80 : decode cX6_init 80 = .ok (.invokespecial 31, 3) := by decide +kernel
theorem dX6_init_83 : decode cX6_init 83 = .ok (.putfield 41, 3) := by decide +kernel
theorem dX6_init_86 : decode cX6_init 86 = .ok (.aload_n 0, 1) := by decide +kernel
theorem dX6_init_87 : decode cX6_init 87 = .ok (.new 29, 3) := by decide +kernel
theorem dX6_init_90 : decode cX6_init 90 = .ok (.dup, 1) := by decide +kernel
theorem dX6_init_91 : decode cX6_init 91 = .ok (.iconst 5, 1) := by decide +kernel
theorem dX6_init_92 : decode cX6_init 92 = .ok (.invokespecial 31, 3) := by decide +kernel
theorem dX6_init_95 : decode cX6_init 95 = .ok (.putfield 44, 3) := by decide +kernel
theorem dX6_init_98 : decode cX6_init 98 = .ok (.aload_n 0, 1) := by decide +kernel
theorem dX6_init_99 : decode cX6_init 99 = .ok (.new 29, 3) := by decide +kernel
theorem dX6_init_102 : decode cX6_init 102 = .ok (.dup, 1) := by decide +kernel
theorem dX6_init_103 : decode cX6_init 103 = .ok (.bipush 10, 2) := by decide +kernel
theorem dX6_init_105 : decode cX6_init 105 = .ok (.invokespecial 31, 3) := by decide +kernel
theorem dX6_init_108 : decode cX6_init 108 = .ok (.putfield 47, 3) := by decide +kernel
theorem dX6_init_111 : decode cX6_init 111 = .ok (.aload_n 0, 1) := by decide +kernel
theorem dX6_init_112 : decode cX6_init 112 = .ok (.new 29, 3) := by decide +kernel
theorem dX6_init_115 : decode cX6_init 115 = .ok (.dup, 1) := by decide +kernel
theorem dX6_init_116 : decode cX6_init 116 = .ok (.bipush 8, 2) := by decide +kernel
theorem dX6_init_118 : decode cX6_init 118 = .ok (.invokespecial 31, 3) := by decide +kernel
theorem dX6_init_121 : decode cX6_init 121 = .ok (.putfield 50, 3) := by decide +kernel
theorem dX6_init_124 : decode cX6_init 124 = .ok (.aload_n 0, 1) := by decide +kernel
theorem dX6_init_125 : decode cX6_init 125 = .ok (.bipush 6, 2) := by decide +kernel
theorem dX6_init_127 : decode cX6_init 127 = .ok (.anewarray 9, 3) := by decide +kernel
theorem dX6_init_130 : decode cX6_init 130 = .ok (.putfield 53, 3) := by decide +kernel
theorem dX6_init_133 : decode cX6_init 133 = .ok (.iconst 0, 1) := by decide +kernel
theorem dX6_init_134 : decode cX6_init 134 = .ok (.istore_n 2, 1) := by decide +kernel
theorem dX6_init_135 : decode cX6_init 135 = .ok (.iload_n 2, 1) := by decide +kernel
theorem dX6_init_136 : decode cX6_init 136 = .ok (.bipush 6, 2) := by decide +kernel
theorem dX6_init_138 : decode cX6_init 138 = .ok (.if_icmp .ge 22, 3) := by decide +kernel
theorem dX6_init_141 : decode cX6_init 141 = .ok (.aload_n 0, 1) := by decide +kernel
theorem dX6_init_142 : decode cX6_init 142 = .ok (.getfield 53, 3) := by decide +kernel
theorem dX6_init_145 : decode cX6_init 145 = .ok (.iload_n 2, 1) := by decide +kernel
theorem dX6_init_146 : decode cX6_init 146 = .ok (.new 9, 3) := by decide +kernel
theorem dX6_init_149 : decode cX6_init 149 = .ok (.dup, 1) := by decide +kernel
theorem dX6_init_150 : decode cX6_init 150 = .ok (.invokespecial 11, 3) := by decide +kernel
theorem dX6_init_153 : decode cX6_init 153 = .ok (.aastore, 1) := by decide +kernel
theorem dX6_init_154 : decode cX6_init 154 = .ok (.iinc 2 1, 3) := by decide +kernel
theorem dX6_init_157 : decode cX6_init 157 = .ok (.goto (-22), 3) := by decide +kernel
theorem dX6_init_160 : decode cX6_init 160 = .ok (.aload_n 0, 1) := by decide +kernel
theorem dX6_init_161 : decode cX6_init 161 = .ok (.new 57, 3) := by decide +kernel
theorem dX6_init_164 : decode cX6_init 164 = .ok (.dup, 1) := by decide +kernel
theorem dX6_init_165 : decode cX6_init 165 = .ok (.invokespecial 59, 3) := by decide +kernel
theorem dX6_init_168 : decode cX6_init 168 = .ok (.putfield 60, 3) := by decide +kernel
theorem dX6_init_171 : decode cX6_init 171 = .ok (.aload_n 0, 1) := by decide +kernel
theorem dX6_init_172 : decode cX6_init 172 = .ok (.new 64, 3) := by decide +kernel
theorem dX6_init_175 : decode cX6_init 175 = .ok (.dup, 1) := by decide +kernel
theorem dX6_init_176 : decode cX6_init 176 = .ok (.invokespecial 66, 3) := by decide +kernel
theorem dX6_init_179 : decode cX6_init 179 = .ok (.putfield 67, 3) := by decide +kernel
theorem dX6_init_182 : decode cX6_init 182 = .ok (.aload_n 0, 1) := by decide +kernel
theorem dX6_init_183 : decode cX6_init 183 = .ok (.bipush 6, 2) := by decide +kernel
theorem dX6_init_185 : decode cX6_init 185 = .ok (.anewarray 71, 3) := by decide +kernel
theorem dX6_init_188 : decode cX6_init 188 = .ok (.putfield 73, 3) := by decide +kernel
theorem dX6_init_191 : decode cX6_init 191 = .ok (.iconst 0, 1) := by decide +kernel
theorem dX6_init_192 : decode cX6_init 192 = .ok (.istore_n 2, 1) := by decide +kernel
theorem dX6_init_193 : decode cX6_init 193 = .ok (.iload_n 2, 1) := by decide +kernel
theorem dX6_init_194 : decode cX6_init 194 = .ok (.bipush 6, 2) := by decide +kernel
theorem dX6_init_196 : decode cX6_init 196 = .ok (.if_icmp .ge 22, 3) := by decide +kernel
theorem dX6_init_199 : decode cX6_init 199 = .ok (.aload_n 0, 1) := by decide +kernel
theorem dX6_init_200 : decode cX6_init 200 = .ok (.getfield 73, 3) := by decide +kernel
theorem dX6_init_203 : decode cX6_init 203 = .ok (.iload_n 2, 1) := by decide +kernel
theorem dX6_init_204 : decode cX6_init 204 = .ok (.new 71, 3) := by decide +kernel
theorem dX6_init_207 : decode cX6_init 207 = .ok (.dup, 1) := by decide +kernel
theorem dX6_init_208 : decode cX6_init 208 = .ok (.invokespecial 77, 3) := by decide +kernel
theorem dX6_init_211 : decode cX6_init 211 = .ok (.aastore, 1) := by decide +kernel
theorem dX6_init_212 : decode cX6_init 212 = .ok (.iinc 2 1, 3) := by decide +kernel
theorem dX6_init_215 : decode cX6_init 215 = .ok (.goto (-22), 3) := by decide +kernel
theorem dX6_init_218 : decode cX6_init 218 = .ok (.return_, 1) := by decide +kernel
theorem dX6_piece_0 : decode cX6_piece 0 = .ok (.iload_n 1, 1) := by decide +kernel
theorem dX6_piece_1 : decode cX6_piece 1 = .ok (.iconst 0, 1) := by decide +kernel
theorem dX6_piece_2 : decode cX6_piece 2 = .ok (.bipush 6, 2) := by decide +kernel
theorem dX6_piece_4 : decode cX6_piece 4 = .ok (.invokestatic 78, 3) := by decide +kernel
theorem dX6_piece_7 : decode cX6_piece 7 = .ok (.ifCond .ne 5, 3) := by decide +kernel
theorem dX6_piece_10 : decode cX6_piece 10 = .ok (.iconst (-1), 1) := by decide +kernel
theorem dX6_piece_11 : decode cX6_piece 11 = .ok (.ireturn, 1) := by decide +kernel
theorem dX6_piece_12 : decode cX6_piece 12 = .ok (.iload_n 2, 1) := by decide +kernel
theorem dX6_piece_13 : decode cX6_piece 13 = .ok (.iconst 0, 1) := by decide +kernel
theorem dX6_piece_14 : decode cX6_piece 14 = .ok (.bipush 9, 2) := by decide +kernel
theorem dX6_piece_16 : decode cX6_piece 16 = .ok (.invokestatic 78, 3) := by decide +kernel
theorem dX6_piece_19 : decode cX6_piece 19 = .ok (.ifCond .eq 13, 3) := by decide +kernel
theorem dX6_piece_22 : decode cX6_piece 22 = .ok (.iload_n 3, 1) := by decide +kernel
theorem dX6_piece_23 : decode cX6_piece 23 = .ok (.iconst 1, 1) := by decide +kernel
theorem dX6_piece_24 : decode cX6_piece 24 = .ok (.bipush 99, 2) := by decide +kernel
theorem dX6_piece_26 : decode cX6_piece 26 = .ok (.invokestatic 78, 3) := by decide +kernel
theorem dX6_piece_29 : decode cX6_piece 29 = .ok (.ifCond .ne 6, 3) := by decide +kernel
theorem dX6_piece_32 : decode cX6_piece 32 = .ok (.bipush (-2), 2) := by decide +kernel
theorem dX6_piece_34 : decode cX6_piece 34 = .ok (.ireturn, 1) := by decide +kernel
theorem dX6_piece_35 : decode cX6_piece 35 = .ok (.aload_n 0, 1) := by decide +kernel
theorem dX6_piece_36 : decode cX6_piece 36 = .ok (.getfield 17, 3) := by decide +kernel
theorem dX6_piece_39 : decode cX6_piece 39 = .ok (.getfield 82, 3) := by decide +kernel
theorem dX6_piece_42 : decode cX6_piece 42 = .ok (.bipush 6, 2) := by decide +kernel
theorem dX6_piece_44 : decode cX6_piece 44 = .ok (.if_icmp .lt 6, 3) := by decide +kernel
theorem dX6_piece_47 : decode cX6_piece 47 = .ok (.bipush (-4), 2) := by decide +kernel
theorem dX6_piece_49 : decode cX6_piece 49 = .ok (.ireturn, 1) := by decide +kernel
theorem dX6_piece_50 : decode cX6_piece 50 = .ok (.aload_n 0, 1) := by decide +kernel
theorem dX6_piece_51 : decode cX6_piece 51 = .ok (.getfield 17, 3) := by decide +kernel
theorem dX6_piece_54 : decode cX6_piece 54 = .ok (.iload_n 1, 1) := by decide +kernel
theorem dX6_piece_55 : decode cX6_piece 55 = .ok (.iload_n 2, 1) := by decide +kernel
theorem dX6_piece_56 : decode cX6_piece 56 = .ok (.iload_n 3, 1) := by decide +kernel
theorem dX6_piece_57 : decode cX6_piece 57 = .ok (.invokevirtual 86, 3) := by decide +kernel
theorem dX6_piece_60 : decode cX6_piece 60 = .ok (.ireturn, 1) := by decide +kernel
theorem dX6_of_0 : decode cX6_of 0 = .ok (.aload_n 0, 1) := by decide +kernel
theorem dX6_of_1 : decode cX6_of 1 = .ok (.getfield 17, 3) := by decide +kernel
theorem dX6_of_4 : decode cX6_of 4 = .ok (.iload_n 1, 1) := by decide +kernel
theorem dX6_of_5 : decode cX6_of 5 = .ok (.invokevirtual 90, 3) := by decide +kernel
theorem dX6_of_8 : decode cX6_of 8 = .ok (.ifCond .eq 13, 3) := by decide +kernel
theorem dX6_of_11 : decode cX6_of 11 = .ok (.iload_n 2, 1) := by decide +kernel
theorem dX6_of_12 : decode cX6_of 12 = .ok (.iconst 0, 1) := by decide +kernel
theorem dX6_of_13 : decode cX6_of 13 = .ok (.bipush 9, 2) := by decide +kernel
theorem dX6_of_15 : decode cX6_of 15 = .ok (.invokestatic 78, 3) := by decide +kernel
theorem dX6_of_18 : decode cX6_of 18 = .ok (.ifCond .ne 7, 3) := by decide +kernel
theorem dX6_of_21 : decode cX6_of 21 = .ok (.sipush (-1001), 3) := by decide +kernel
theorem dX6_of_24 : decode cX6_of 24 = .ok (.ireturn, 1) := by decide +kernel
theorem dX6_of_25 : decode cX6_of 25 = .ok (.iload_n 2, 1) := by decide +kernel
theorem dX6_of_26 : decode cX6_of 26 = .ok (.tableswitch 117 0 6 #[42, 52, 62, 72, 82, 92, 108], 42) := by decide +kernel
theorem dX6_of_68 : decode cX6_of 68 = .ok (.aload_n 0, 1) := by decide +kernel
theorem dX6_of_69 : decode cX6_of 69 = .ok (.getfield 17, 3) := by decide +kernel
theorem dX6_of_72 : decode cX6_of 72 = .ok (.getfield 94, 3) := by decide +kernel
theorem dX6_of_75 : decode cX6_of 75 = .ok (.iload_n 1, 1) := by decide +kernel
theorem dX6_of_76 : decode cX6_of 76 = .ok (.iaload, 1) := by decide +kernel
theorem dX6_of_77 : decode cX6_of 77 = .ok (.ireturn, 1) := by decide +kernel
theorem dX6_of_78 : decode cX6_of 78 = .ok (.aload_n 0, 1) := by decide +kernel
theorem dX6_of_79 : decode cX6_of 79 = .ok (.getfield 17, 3) := by decide +kernel
theorem dX6_of_82 : decode cX6_of 82 = .ok (.getfield 98, 3) := by decide +kernel
theorem dX6_of_85 : decode cX6_of 85 = .ok (.iload_n 1, 1) := by decide +kernel
theorem dX6_of_86 : decode cX6_of 86 = .ok (.iaload, 1) := by decide +kernel
theorem dX6_of_87 : decode cX6_of 87 = .ok (.ireturn, 1) := by decide +kernel
theorem dX6_of_88 : decode cX6_of 88 = .ok (.aload_n 0, 1) := by decide +kernel
theorem dX6_of_89 : decode cX6_of 89 = .ok (.getfield 17, 3) := by decide +kernel
theorem dX6_of_92 : decode cX6_of 92 = .ok (.getfield 101, 3) := by decide +kernel
theorem dX6_of_95 : decode cX6_of 95 = .ok (.iload_n 1, 1) := by decide +kernel
theorem dX6_of_96 : decode cX6_of 96 = .ok (.iaload, 1) := by decide +kernel
theorem dX6_of_97 : decode cX6_of 97 = .ok (.ireturn, 1) := by decide +kernel
theorem dX6_of_98 : decode cX6_of 98 = .ok (.aload_n 0, 1) := by decide +kernel
theorem dX6_of_99 : decode cX6_of 99 = .ok (.getfield 17, 3) := by decide +kernel
theorem dX6_of_102 : decode cX6_of 102 = .ok (.getfield 104, 3) := by decide +kernel
theorem dX6_of_105 : decode cX6_of 105 = .ok (.iload_n 1, 1) := by decide +kernel
theorem dX6_of_106 : decode cX6_of 106 = .ok (.iaload, 1) := by decide +kernel
theorem dX6_of_107 : decode cX6_of 107 = .ok (.ireturn, 1) := by decide +kernel
theorem dX6_of_108 : decode cX6_of 108 = .ok (.aload_n 0, 1) := by decide +kernel
theorem dX6_of_109 : decode cX6_of 109 = .ok (.getfield 17, 3) := by decide +kernel
theorem dX6_of_112 : decode cX6_of 112 = .ok (.getfield 107, 3) := by decide +kernel
theorem dX6_of_115 : decode cX6_of 115 = .ok (.iload_n 1, 1) := by decide +kernel
theorem dX6_of_116 : decode cX6_of 116 = .ok (.iaload, 1) := by decide +kernel
theorem dX6_of_117 : decode cX6_of 117 = .ok (.ireturn, 1) := by decide +kernel
theorem dX6_of_118 : decode cX6_of 118 = .ok (.aload_n 0, 1) := by decide +kernel
theorem dX6_of_119 : decode cX6_of 119 = .ok (.getfield 17, 3) := by decide +kernel
theorem dX6_of_122 : decode cX6_of 122 = .ok (.getfield 110, 3) := by decide +kernel
theorem dX6_of_125 : decode cX6_of 125 = .ok (.aload_n 0, 1) := by decide +kernel
theorem dX6_of_126 : decode cX6_of 126 = .ok (.getfield 17, 3) := by decide +kernel
theorem dX6_of_129 : decode cX6_of 129 = .ok (.iload_n 1, 1) := by decide +kernel
theorem dX6_of_130 : decode cX6_of 130 = .ok (.invokevirtual 114, 3) := by decide +kernel
theorem dX6_of_133 : decode cX6_of 133 = .ok (.ireturn, 1) := by decide +kernel
theorem dX6_of_134 : decode cX6_of 134 = .ok (.aload_n 0, 1) := by decide +kernel
theorem dX6_of_135 : decode cX6_of 135 = .ok (.getfield 17, 3) := by decide +kernel
theorem dX6_of_138 : decode cX6_of 138 = .ok (.iload_n 1, 1) := by decide +kernel
theorem dX6_of_139 : decode cX6_of 139 = .ok (.invokevirtual 118, 3) := by decide +kernel
theorem dX6_of_142 : decode cX6_of 142 = .ok (.ireturn, 1) := by decide +kernel
theorem dX6_of_143 : decode cX6_of 143 = .ok (.aload_n 0, 1) := by decide +kernel
theorem dX6_of_144 : decode cX6_of 144 = .ok (.getfield 17, 3) := by decide +kernel
theorem dX6_of_147 : decode cX6_of 147 = .ok (.iload_n 1, 1) := by decide +kernel
theorem dX6_of_148 : decode cX6_of 148 = .ok (.invokevirtual 122, 3) := by decide +kernel
theorem dX6_of_151 : decode cX6_of 151 = .ok (.istore_n 3, 1) := by decide +kernel
theorem dX6_of_152 : decode cX6_of 152 = .ok (.iload_n 3, 1) := by decide +kernel
theorem dX6_of_153 : decode cX6_of 153 = .ok (.ifCond .ge 6, 3) := by decide +kernel
theorem dX6_of_156 : decode cX6_of 156 = .ok (.bipush (-5), 2) := by decide +kernel
theorem dX6_of_158 : decode cX6_of 158 = .ok (.ireturn, 1) := by decide +kernel
theorem dX6_of_159 : decode cX6_of 159 = .ok (.iload_n 2, 1) := by decide +kernel
theorem dX6_of_160 : decode cX6_of 160 = .ok (.bipush 7, 2) := by decide +kernel
theorem dX6_of_162 : decode cX6_of 162 = .ok (.if_icmp .ne 7, 3) := by decide +kernel
theorem dX6_of_165 : decode cX6_of 165 = .ok (.iload_n 3, 1) := by decide +kernel
theorem dX6_of_166 : decode cX6_of 166 = .ok (.goto 28, 3) := by decide +kernel
theorem dX6_of_169 : decode cX6_of 169 = .ok (.iload_n 2, 1) := by decide +kernel
theorem dX6_of_170 : decode cX6_of 170 = .ok (.bipush 8, 2) := by decide +kernel
theorem dX6_of_172 : decode cX6_of 172 = .ok (.if_icmp .ne 14, 3) := by decide +kernel
theorem dX6_of_175 : decode cX6_of 175 = .ok (.aload_n 0, 1) := by decide +kernel
theorem dX6_of_176 : decode cX6_of 176 = .ok (.getfield 17, 3) := by decide +kernel
theorem dX6_of_179 : decode cX6_of 179 = .ok (.iload_n 3, 1) := by decide +kernel
theorem dX6_of_180 : decode cX6_of 180 = .ok (.invokevirtual 125, 3) := by decide +kernel
theorem dX6_of_183 : decode cX6_of 183 = .ok (.goto 11, 3) := by decide +kernel
theorem dX6_of_186 : decode cX6_of 186 = .ok (.aload_n 0, 1) := by decide +kernel
theorem dX6_of_187 : decode cX6_of 187 = .ok (.getfield 17, 3) := by decide +kernel
theorem dX6_of_190 : decode cX6_of 190 = .ok (.iload_n 3, 1) := by decide +kernel
theorem dX6_of_191 : decode cX6_of 191 = .ok (.invokevirtual 128, 3) := by decide +kernel
theorem dX6_of_194 : decode cX6_of 194 = .ok (.ireturn, 1) := by decide +kernel
theorem dX6_set_0 : decode cX6_set 0 = .ok (.aload_n 0, 1) := by decide +kernel
theorem dX6_set_1 : decode cX6_set 1 = .ok (.getfield 17, 3) := by decide +kernel
theorem dX6_set_4 : decode cX6_set 4 = .ok (.iload_n 1, 1) := by decide +kernel
theorem dX6_set_5 : decode cX6_set 5 = .ok (.invokevirtual 90, 3) := by decide +kernel
theorem dX6_set_8 : decode cX6_set 8 = .ok (.ifCond .eq 12, 3) := by decide +kernel
theorem dX6_set_11 : decode cX6_set 11 = .ok (.iload_n 2, 1) := by decide +kernel
theorem dX6_set_12 : decode cX6_set 12 = .ok (.iconst 0, 1) := by decide +kernel
theorem dX6_set_13 : decode cX6_set 13 = .ok (.iconst 1, 1) := by decide +kernel
theorem dX6_set_14 : decode cX6_set 14 = .ok (.invokestatic 78, 3) := by decide +kernel
theorem dX6_set_17 : decode cX6_set 17 = .ok (.ifCond .ne 5, 3) := by decide +kernel
theorem dX6_set_20 : decode cX6_set 20 = .ok (.iconst (-1), 1) := by decide +kernel
theorem dX6_set_21 : decode cX6_set 21 = .ok (.ireturn, 1) := by decide +kernel
theorem dX6_set_22 : decode cX6_set 22 = .ok (.iload_n 3, 1) := by decide +kernel
theorem dX6_set_23 : decode cX6_set 23 = .ok (.iconst 0, 1) := by decide +kernel
theorem dX6_set_24 : decode cX6_set 24 = .ok (.bipush 99, 2) := by decide +kernel
theorem dX6_set_26 : decode cX6_set 26 = .ok (.invokestatic 78, 3) := by decide +kernel
theorem dX6_set_29 : decode cX6_set 29 = .ok (.ifCond .ne 6, 3) := by decide +kernel
theorem dX6_set_32 : decode cX6_set 32 = .ok (.bipush (-2), 2) := by decide +kernel
theorem dX6_set_34 : decode cX6_set 34 = .ok (.ireturn, 1) := by decide +kernel
theorem dX6_set_35 : decode cX6_set 35 = .ok (.iload_n 2, 1) := by decide +kernel
theorem dX6_set_36 : decode cX6_set 36 = .ok (.ifCond .ne 13, 3) := by decide +kernel
theorem dX6_set_39 : decode cX6_set 39 = .ok (.aload_n 0, 1) := by decide +kernel
theorem dX6_set_40 : decode cX6_set 40 = .ok (.getfield 17, 3) := by decide +kernel
theorem dX6_set_43 : decode cX6_set 43 = .ok (.getfield 101, 3) := by decide +kernel
theorem dX6_set_46 : decode cX6_set 46 = .ok (.goto 10, 3) := by decide +kernel
theorem dX6_set_49 : decode cX6_set 49 = .ok (.aload_n 0, 1) := by decide +kernel
theorem dX6_set_50 : decode cX6_set 50 = .ok (.getfield 17, 3) := by decide +kernel
theorem dX6_set_53 : decode cX6_set 53 = .ok (.getfield 104, 3) := by decide +kernel
theorem dX6_set_56 : decode cX6_set 56 = .ok (.astore 4, 2) := by decide +kernel
theorem dX6_set_58 : decode cX6_set 58 = .ok (.aload 4, 2) := by decide +kernel
theorem dX6_set_60 : decode cX6_set 60 = .ok (.iload_n 1, 1) := by decide +kernel
theorem dX6_set_61 : decode cX6_set 61 = .ok (.iaload, 1) := by decide +kernel
theorem dX6_set_62 : decode cX6_set 62 = .ok (.istore 5, 2) := by decide +kernel
theorem dX6_set_64 : decode cX6_set 64 = .ok (.aload 4, 2) := by decide +kernel
theorem dX6_set_66 : decode cX6_set 66 = .ok (.iload_n 1, 1) := by decide +kernel
theorem dX6_set_67 : decode cX6_set 67 = .ok (.iload_n 3, 1) := by decide +kernel
theorem dX6_set_68 : decode cX6_set 68 = .ok (.iastore, 1) := by decide +kernel
theorem dX6_set_69 : decode cX6_set 69 = .ok (.iload 5, 2) := by decide +kernel
theorem dX6_set_71 : decode cX6_set 71 = .ok (.ireturn, 1) := by decide +kernel
theorem dX6_row_0 : decode cX6_row 0 = .ok (.aload_n 0, 1) := by decide +kernel
theorem dX6_row_1 : decode cX6_row 1 = .ok (.getfield 17, 3) := by decide +kernel
theorem dX6_row_4 : decode cX6_row 4 = .ok (.iload_n 1, 1) := by decide +kernel
theorem dX6_row_5 : decode cX6_row 5 = .ok (.invokevirtual 90, 3) := by decide +kernel
theorem dX6_row_8 : decode cX6_row 8 = .ok (.ifCond .eq 12, 3) := by decide +kernel
theorem dX6_row_11 : decode cX6_row 11 = .ok (.iload_n 2, 1) := by decide +kernel
theorem dX6_row_12 : decode cX6_row 12 = .ok (.iconst 0, 1) := by decide +kernel
theorem dX6_row_13 : decode cX6_row 13 = .ok (.iconst 3, 1) := by decide +kernel
theorem dX6_row_14 : decode cX6_row 14 = .ok (.invokestatic 78, 3) := by decide +kernel
theorem dX6_row_17 : decode cX6_row 17 = .ok (.ifCond .ne 5, 3) := by decide +kernel
theorem dX6_row_20 : decode cX6_row 20 = .ok (.iconst (-1), 1) := by decide +kernel
theorem dX6_row_21 : decode cX6_row 21 = .ok (.ireturn, 1) := by decide +kernel
theorem dX6_row_22 : decode cX6_row 22 = .ok (.iload_n 3, 1) := by decide +kernel
theorem dX6_row_23 : decode cX6_row 23 = .ok (.iconst 0, 1) := by decide +kernel
theorem dX6_row_24 : decode cX6_row 24 = .ok (.bipush 9, 2) := by decide +kernel
theorem dX6_row_26 : decode cX6_row 26 = .ok (.invokestatic 78, 3) := by decide +kernel
theorem dX6_row_29 : decode cX6_row 29 = .ok (.ifCond .ne 6, 3) := by decide +kernel
theorem dX6_row_32 : decode cX6_row 32 = .ok (.bipush (-2), 2) := by decide +kernel
theorem dX6_row_34 : decode cX6_row 34 = .ok (.ireturn, 1) := by decide +kernel
theorem dX6_row_35 : decode cX6_row 35 = .ok (.aload_n 0, 1) := by decide +kernel
theorem dX6_row_36 : decode cX6_row 36 = .ok (.getfield 17, 3) := by decide +kernel
theorem dX6_row_39 : decode cX6_row 39 = .ok (.getfield 94, 3) := by decide +kernel
theorem dX6_row_42 : decode cX6_row 42 = .ok (.iload_n 1, 1) := by decide +kernel
theorem dX6_row_43 : decode cX6_row 43 = .ok (.iaload, 1) := by decide +kernel
theorem dX6_row_44 : decode cX6_row 44 = .ok (.bipush 6, 2) := by decide +kernel
theorem dX6_row_46 : decode cX6_row 46 = .ok (.if_icmp .eq 6, 3) := by decide +kernel
theorem dX6_row_49 : decode cX6_row 49 = .ok (.bipush (-3), 2) := by decide +kernel
theorem dX6_row_51 : decode cX6_row 51 = .ok (.ireturn, 1) := by decide +kernel
theorem dX6_row_52 : decode cX6_row 52 = .ok (.aload_n 0, 1) := by decide +kernel
theorem dX6_row_53 : decode cX6_row 53 = .ok (.getfield 17, 3) := by decide +kernel
theorem dX6_row_56 : decode cX6_row 56 = .ok (.getfield 131, 3) := by decide +kernel
theorem dX6_row_59 : decode cX6_row 59 = .ok (.iconst 4, 1) := by decide +kernel
theorem dX6_row_60 : decode cX6_row 60 = .ok (.iload_n 1, 1) := by decide +kernel
theorem dX6_row_61 : decode cX6_row 61 = .ok (.imul, 1) := by decide +kernel
theorem dX6_row_62 : decode cX6_row 62 = .ok (.iload_n 2, 1) := by decide +kernel
theorem dX6_row_63 : decode cX6_row 63 = .ok (.iadd, 1) := by decide +kernel
theorem dX6_row_64 : decode cX6_row 64 = .ok (.iaload, 1) := by decide +kernel
theorem dX6_row_65 : decode cX6_row 65 = .ok (.istore 4, 2) := by decide +kernel
theorem dX6_row_67 : decode cX6_row 67 = .ok (.aload_n 0, 1) := by decide +kernel
theorem dX6_row_68 : decode cX6_row 68 = .ok (.getfield 17, 3) := by decide +kernel
theorem dX6_row_71 : decode cX6_row 71 = .ok (.getfield 131, 3) := by decide +kernel
theorem dX6_row_74 : decode cX6_row 74 = .ok (.iconst 4, 1) := by decide +kernel
theorem dX6_row_75 : decode cX6_row 75 = .ok (.iload_n 1, 1) := by decide +kernel
theorem dX6_row_76 : decode cX6_row 76 = .ok (.imul, 1) := by decide +kernel
theorem dX6_row_77 : decode cX6_row 77 = .ok (.iload_n 2, 1) := by decide +kernel
theorem dX6_row_78 : decode cX6_row 78 = .ok (.iadd, 1) := by decide +kernel
theorem dX6_row_79 : decode cX6_row 79 = .ok (.iload_n 3, 1) := by decide +kernel
theorem dX6_row_80 : decode cX6_row 80 = .ok (.iastore, 1) := by decide +kernel
theorem dX6_row_81 : decode cX6_row 81 = .ok (.iload 4, 2) := by decide +kernel
theorem dX6_row_83 : decode cX6_row 83 = .ok (.ireturn, 1) := by decide +kernel
theorem dX6_hoist_0 : decode cX6_hoist 0 = .ok (.aload_n 0, 1) := by decide +kernel
theorem dX6_hoist_1 : decode cX6_hoist 1 = .ok (.getfield 17, 3) := by decide +kernel
theorem dX6_hoist_4 : decode cX6_hoist 4 = .ok (.iload_n 1, 1) := by decide +kernel
theorem dX6_hoist_5 : decode cX6_hoist 5 = .ok (.invokevirtual 90, 3) := by decide +kernel
theorem dX6_hoist_8 : decode cX6_hoist 8 = .ok (.ifCond .ne 5, 3) := by decide +kernel
theorem dX6_hoist_11 : decode cX6_hoist 11 = .ok (.iconst (-1), 1) := by decide +kernel
theorem dX6_hoist_12 : decode cX6_hoist 12 = .ok (.ireturn, 1) := by decide +kernel
theorem dX6_hoist_13 : decode cX6_hoist 13 = .ok (.aload_n 0, 1) := by decide +kernel
theorem dX6_hoist_14 : decode cX6_hoist 14 = .ok (.getfield 17, 3) := by decide +kernel
theorem dX6_hoist_17 : decode cX6_hoist 17 = .ok (.iload_n 1, 1) := by decide +kernel
theorem dX6_hoist_18 : decode cX6_hoist 18 = .ok (.invokevirtual 122, 3) := by decide +kernel
theorem dX6_hoist_21 : decode cX6_hoist 21 = .ok (.ifCond .lt 6, 3) := by decide +kernel
theorem dX6_hoist_24 : decode cX6_hoist 24 = .ok (.bipush (-3), 2) := by decide +kernel
theorem dX6_hoist_26 : decode cX6_hoist 26 = .ok (.ireturn, 1) := by decide +kernel
theorem dX6_hoist_27 : decode cX6_hoist 27 = .ok (.aload_n 0, 1) := by decide +kernel
theorem dX6_hoist_28 : decode cX6_hoist 28 = .ok (.getfield 17, 3) := by decide +kernel
theorem dX6_hoist_31 : decode cX6_hoist 31 = .ok (.getfield 134, 3) := by decide +kernel
theorem dX6_hoist_34 : decode cX6_hoist 34 = .ok (.iconst 3, 1) := by decide +kernel
theorem dX6_hoist_35 : decode cX6_hoist 35 = .ok (.if_icmp .lt 6, 3) := by decide +kernel
theorem dX6_hoist_38 : decode cX6_hoist 38 = .ok (.bipush (-4), 2) := by decide +kernel
theorem dX6_hoist_40 : decode cX6_hoist 40 = .ok (.ireturn, 1) := by decide +kernel
theorem dX6_hoist_41 : decode cX6_hoist 41 = .ok (.aload_n 0, 1) := by decide +kernel
theorem dX6_hoist_42 : decode cX6_hoist 42 = .ok (.getfield 17, 3) := by decide +kernel
theorem dX6_hoist_45 : decode cX6_hoist 45 = .ok (.iload_n 1, 1) := by decide +kernel
theorem dX6_hoist_46 : decode cX6_hoist 46 = .ok (.invokevirtual 137, 3) := by decide +kernel
theorem dX6_hoist_49 : decode cX6_hoist 49 = .ok (.aload_n 0, 1) := by decide +kernel
theorem dX6_hoist_50 : decode cX6_hoist 50 = .ok (.getfield 17, 3) := by decide +kernel
theorem dX6_hoist_53 : decode cX6_hoist 53 = .ok (.getfield 134, 3) := by decide +kernel
theorem dX6_hoist_56 : decode cX6_hoist 56 = .ok (.ireturn, 1) := by decide +kernel
theorem dX6_lower_0 : decode cX6_lower 0 = .ok (.aload_n 0, 1) := by decide +kernel
theorem dX6_lower_1 : decode cX6_lower 1 = .ok (.getfield 17, 3) := by decide +kernel
theorem dX6_lower_4 : decode cX6_lower 4 = .ok (.iload_n 1, 1) := by decide +kernel
theorem dX6_lower_5 : decode cX6_lower 5 = .ok (.invokevirtual 90, 3) := by decide +kernel
theorem dX6_lower_8 : decode cX6_lower 8 = .ok (.ifCond .ne 5, 3) := by decide +kernel
theorem dX6_lower_11 : decode cX6_lower 11 = .ok (.iconst (-1), 1) := by decide +kernel
theorem dX6_lower_12 : decode cX6_lower 12 = .ok (.ireturn, 1) := by decide +kernel
theorem dX6_lower_13 : decode cX6_lower 13 = .ok (.aload_n 0, 1) := by decide +kernel
theorem dX6_lower_14 : decode cX6_lower 14 = .ok (.getfield 17, 3) := by decide +kernel
theorem dX6_lower_17 : decode cX6_lower 17 = .ok (.iload_n 1, 1) := by decide +kernel
theorem dX6_lower_18 : decode cX6_lower 18 = .ok (.invokevirtual 122, 3) := by decide +kernel
theorem dX6_lower_21 : decode cX6_lower 21 = .ok (.istore_n 2, 1) := by decide +kernel
theorem dX6_lower_22 : decode cX6_lower 22 = .ok (.iload_n 2, 1) := by decide +kernel
theorem dX6_lower_23 : decode cX6_lower 23 = .ok (.ifCond .ge 6, 3) := by decide +kernel
theorem dX6_lower_26 : decode cX6_lower 26 = .ok (.bipush (-3), 2) := by decide +kernel
theorem dX6_lower_28 : decode cX6_lower 28 = .ok (.ireturn, 1) := by decide +kernel
theorem dX6_lower_29 : decode cX6_lower 29 = .ok (.aload_n 0, 1) := by decide +kernel
theorem dX6_lower_30 : decode cX6_lower 30 = .ok (.getfield 17, 3) := by decide +kernel
theorem dX6_lower_33 : decode cX6_lower 33 = .ok (.iload_n 2, 1) := by decide +kernel
theorem dX6_lower_34 : decode cX6_lower 34 = .ok (.putfield 134, 3) := by decide +kernel
theorem dX6_lower_37 : decode cX6_lower 37 = .ok (.iload_n 2, 1) := by decide +kernel
theorem dX6_lower_38 : decode cX6_lower 38 = .ok (.ireturn, 1) := by decide +kernel
theorem dX6_trim_0 : decode cX6_trim 0 = .ok (.iload_n 1, 1) := by decide +kernel
theorem dX6_trim_1 : decode cX6_trim 1 = .ok (.iconst 0, 1) := by decide +kernel
theorem dX6_trim_2 : decode cX6_trim 2 = .ok (.iconst 1, 1) := by decide +kernel
theorem dX6_trim_3 : decode cX6_trim 3 = .ok (.invokestatic 78, 3) := by decide +kernel
theorem dX6_trim_6 : decode cX6_trim 6 = .ok (.ifCond .ne 5, 3) := by decide +kernel
theorem dX6_trim_9 : decode cX6_trim 9 = .ok (.iconst (-1), 1) := by decide +kernel
theorem dX6_trim_10 : decode cX6_trim 10 = .ok (.ireturn, 1) := by decide +kernel
theorem dX6_trim_11 : decode cX6_trim 11 = .ok (.iload_n 2, 1) := by decide +kernel
theorem dX6_trim_12 : decode cX6_trim 12 = .ok (.iconst 0, 1) := by decide +kernel
theorem dX6_trim_13 : decode cX6_trim 13 = .ok (.bipush 9, 2) := by decide +kernel
theorem dX6_trim_15 : decode cX6_trim 15 = .ok (.invokestatic 78, 3) := by decide +kernel
theorem dX6_trim_18 : decode cX6_trim 18 = .ok (.ifCond .ne 6, 3) := by decide +kernel
theorem dX6_trim_21 : decode cX6_trim 21 = .ok (.bipush (-2), 2) := by decide +kernel
theorem dX6_trim_23 : decode cX6_trim 23 = .ok (.ireturn, 1) := by decide +kernel
theorem dX6_trim_24 : decode cX6_trim 24 = .ok (.iload_n 1, 1) := by decide +kernel
theorem dX6_trim_25 : decode cX6_trim 25 = .ok (.ifCond .ne 13, 3) := by decide +kernel
theorem dX6_trim_28 : decode cX6_trim 28 = .ok (.aload_n 0, 1) := by decide +kernel
theorem dX6_trim_29 : decode cX6_trim 29 = .ok (.getfield 17, 3) := by decide +kernel
theorem dX6_trim_32 : decode cX6_trim 32 = .ok (.getfield 140, 3) := by decide +kernel
theorem dX6_trim_35 : decode cX6_trim 35 = .ok (.goto 10, 3) := by decide +kernel
theorem dX6_trim_38 : decode cX6_trim 38 = .ok (.aload_n 0, 1) := by decide +kernel
theorem dX6_trim_39 : decode cX6_trim 39 = .ok (.getfield 17, 3) := by decide +kernel
theorem dX6_trim_42 : decode cX6_trim 42 = .ok (.getfield 143, 3) := by decide +kernel
theorem dX6_trim_45 : decode cX6_trim 45 = .ok (.istore_n 3, 1) := by decide +kernel
theorem dX6_trim_46 : decode cX6_trim 46 = .ok (.iload_n 1, 1) := by decide +kernel
theorem dX6_trim_47 : decode cX6_trim 47 = .ok (.ifCond .ne 14, 3) := by decide +kernel
theorem dX6_trim_50 : decode cX6_trim 50 = .ok (.aload_n 0, 1) := by decide +kernel
theorem dX6_trim_51 : decode cX6_trim 51 = .ok (.getfield 17, 3) := by decide +kernel
theorem dX6_trim_54 : decode cX6_trim 54 = .ok (.iload_n 2, 1) := by decide +kernel
theorem dX6_trim_55 : decode cX6_trim 55 = .ok (.putfield 140, 3) := by decide +kernel
theorem dX6_trim_58 : decode cX6_trim 58 = .ok (.goto 11, 3) := by decide +kernel
theorem dX6_trim_61 : decode cX6_trim 61 = .ok (.aload_n 0, 1) := by decide +kernel
theorem dX6_trim_62 : decode cX6_trim 62 = .ok (.getfield 17, 3) := by decide +kernel
theorem dX6_trim_65 : decode cX6_trim 65 = .ok (.iload_n 2, 1) := by decide +kernel
theorem dX6_trim_66 : decode cX6_trim 66 = .ok (.putfield 143, 3) := by decide +kernel
theorem dX6_trim_69 : decode cX6_trim 69 = .ok (.iload_n 3, 1) := by decide +kernel
theorem dX6_trim_70 : decode cX6_trim 70 = .ok (.ireturn, 1) := by decide +kernel
theorem dX6_feed_0 : decode cX6_feed 0 = .ok (.iload_n 1, 1) := by decide +kernel
theorem dX6_feed_1 : decode cX6_feed 1 = .ok (.iconst 0, 1) := by decide +kernel
theorem dX6_feed_2 : decode cX6_feed 2 = .ok (.bipush 127, 2) := by decide +kernel
theorem dX6_feed_4 : decode cX6_feed 4 = .ok (.invokestatic 78, 3) := by decide +kernel
theorem dX6_feed_7 : decode cX6_feed 7 = .ok (.ifCond .ne 6, 3) := by decide +kernel
theorem dX6_feed_10 : decode cX6_feed 10 = .ok (.bipush (-2), 2) := by decide +kernel
theorem dX6_feed_12 : decode cX6_feed 12 = .ok (.ireturn, 1) := by decide +kernel
theorem dX6_feed_13 : decode cX6_feed 13 = .ok (.aload_n 0, 1) := by decide +kernel
theorem dX6_feed_14 : decode cX6_feed 14 = .ok (.getfield 60, 3) := by decide +kernel
theorem dX6_feed_17 : decode cX6_feed 17 = .ok (.iload_n 1, 1) := by decide +kernel
theorem dX6_feed_18 : decode cX6_feed 18 = .ok (.i2b, 1) := by decide +kernel
theorem dX6_feed_19 : decode cX6_feed 19 = .ok (.invokevirtual 146, 3) := by decide +kernel
theorem dX6_feed_22 : decode cX6_feed 22 = .ok (.ifCond .eq 13, 3) := by decide +kernel
theorem dX6_feed_25 : decode cX6_feed 25 = .ok (.aload_n 0, 1) := by decide +kernel
theorem dX6_feed_26 : decode cX6_feed 26 = .ok (.getfield 60, 3) := by decide +kernel
theorem dX6_feed_29 : decode cX6_feed 29 = .ok (.getfield 150, 3) := by decide +kernel
theorem dX6_feed_32 : decode cX6_feed 32 = .ok (.goto 5, 3) := by decide +kernel
theorem dX6_feed_35 : decode cX6_feed 35 = .ok (.bipush (-4), 2) := by decide +kernel
theorem dX6_feed_37 : decode cX6_feed 37 = .ok (.ireturn, 1) := by decide +kernel
theorem dX6_ocean_0 : decode cX6_ocean 0 = .ok (.aload_n 0, 1) := by decide +kernel
theorem dX6_ocean_1 : decode cX6_ocean 1 = .ok (.getfield 153, 3) := by decide +kernel
theorem dX6_ocean_4 : decode cX6_ocean 4 = .ok (.bipush 6, 2) := by decide +kernel
theorem dX6_ocean_6 : decode cX6_ocean 6 = .ok (.if_icmp .lt 6, 3) := by decide +kernel
theorem dX6_ocean_9 : decode cX6_ocean 9 = .ok (.bipush (-4), 2) := by decide +kernel
theorem dX6_ocean_11 : decode cX6_ocean 11 = .ok (.ireturn, 1) := by decide +kernel
theorem dX6_ocean_12 : decode cX6_ocean 12 = .ok (.aload_n 0, 1) := by decide +kernel
theorem dX6_ocean_13 : decode cX6_ocean 13 = .ok (.getfield 60, 3) := by decide +kernel
theorem dX6_ocean_16 : decode cX6_ocean 16 = .ok (.aload_n 0, 1) := by decide +kernel
theorem dX6_ocean_17 : decode cX6_ocean 17 = .ok (.getfield 53, 3) := by decide +kernel
theorem dX6_ocean_20 : decode cX6_ocean 20 = .ok (.aload_n 0, 1) := by decide +kernel
theorem dX6_ocean_21 : decode cX6_ocean 21 = .ok (.getfield 153, 3) := by decide +kernel
theorem dX6_ocean_24 : decode cX6_ocean 24 = .ok (.aaload, 1) := by decide +kernel
theorem dX6_ocean_25 : decode cX6_ocean 25 = .ok (.invokevirtual 156, 3) := by decide +kernel
theorem dX6_ocean_28 : decode cX6_ocean 28 = .ok (.istore_n 1, 1) := by decide +kernel
theorem dX6_ocean_29 : decode cX6_ocean 29 = .ok (.aload_n 0, 1) := by decide +kernel
theorem dX6_ocean_30 : decode cX6_ocean 30 = .ok (.getfield 60, 3) := by decide +kernel
theorem dX6_ocean_33 : decode cX6_ocean 33 = .ok (.iconst 0, 1) := by decide +kernel
theorem dX6_ocean_34 : decode cX6_ocean 34 = .ok (.putfield 150, 3) := by decide +kernel
theorem dX6_ocean_37 : decode cX6_ocean 37 = .ok (.iload_n 1, 1) := by decide +kernel
theorem dX6_ocean_38 : decode cX6_ocean 38 = .ok (.ifCond .lt 8, 3) := by decide +kernel
theorem dX6_ocean_41 : decode cX6_ocean 41 = .ok (.bipush (-10), 2) := by decide +kernel
theorem dX6_ocean_43 : decode cX6_ocean 43 = .ok (.iload_n 1, 1) := by decide +kernel
theorem dX6_ocean_44 : decode cX6_ocean 44 = .ok (.isub, 1) := by decide +kernel
theorem dX6_ocean_45 : decode cX6_ocean 45 = .ok (.ireturn, 1) := by decide +kernel
theorem dX6_ocean_46 : decode cX6_ocean 46 = .ok (.aload_n 0, 1) := by decide +kernel
theorem dX6_ocean_47 : decode cX6_ocean 47 = .ok (.getfield 17, 3) := by decide +kernel
theorem dX6_ocean_50 : decode cX6_ocean 50 = .ok (.aload_n 0, 1) := by decide +kernel
theorem dX6_ocean_51 : decode cX6_ocean 51 = .ok (.getfield 53, 3) := by decide +kernel
theorem dX6_ocean_54 : decode cX6_ocean 54 = .ok (.aload_n 0, 1) := by decide +kernel
theorem dX6_ocean_55 : decode cX6_ocean 55 = .ok (.getfield 153, 3) := by decide +kernel
theorem dX6_ocean_58 : decode cX6_ocean 58 = .ok (.aaload, 1) := by decide +kernel
theorem dX6_ocean_59 : decode cX6_ocean 59 = .ok (.putfield 110, 3) := by decide +kernel
theorem dX6_ocean_62 : decode cX6_ocean 62 = .ok (.aload_n 0, 1) := by decide +kernel
theorem dX6_ocean_63 : decode cX6_ocean 63 = .ok (.dup, 1) := by decide +kernel
theorem dX6_ocean_64 : decode cX6_ocean 64 = .ok (.getfield 153, 3) := by decide +kernel
theorem dX6_ocean_67 : decode cX6_ocean 67 = .ok (.iconst 1, 1) := by decide +kernel
theorem dX6_ocean_68 : decode cX6_ocean 68 = .ok (.iadd, 1) := by decide +kernel
theorem dX6_ocean_69 : decode cX6_ocean 69 = .ok (.putfield 153, 3) := by decide +kernel
theorem dX6_ocean_72 : decode cX6_ocean 72 = .ok (.aload_n 0, 1) := by decide +kernel
theorem dX6_ocean_73 : decode cX6_ocean 73 = .ok (.getfield 153, 3) := by decide +kernel
theorem dX6_ocean_76 : decode cX6_ocean 76 = .ok (.iconst 1, 1) := by decide +kernel
theorem dX6_ocean_77 : decode cX6_ocean 77 = .ok (.isub, 1) := by decide +kernel
theorem dX6_ocean_78 : decode cX6_ocean 78 = .ok (.ireturn, 1) := by decide +kernel
theorem dX6_told_0 : decode cX6_told 0 = .ok (.iload_n 1, 1) := by decide +kernel
theorem dX6_told_1 : decode cX6_told 1 = .ok (.tableswitch 117 0 7 #[47, 55, 66, 77, 85, 93, 101, 109], 47) := by decide +kernel
theorem dX6_told_48 : decode cX6_told 48 = .ok (.aload_n 0, 1) := by decide +kernel
theorem dX6_told_49 : decode cX6_told 49 = .ok (.getfield 17, 3) := by decide +kernel
theorem dX6_told_52 : decode cX6_told 52 = .ok (.getfield 160, 3) := by decide +kernel
theorem dX6_told_55 : decode cX6_told 55 = .ok (.ireturn, 1) := by decide +kernel
theorem dX6_told_56 : decode cX6_told 56 = .ok (.aload_n 0, 1) := by decide +kernel
theorem dX6_told_57 : decode cX6_told 57 = .ok (.getfield 17, 3) := by decide +kernel
theorem dX6_told_60 : decode cX6_told 60 = .ok (.getfield 110, 3) := by decide +kernel
theorem dX6_told_63 : decode cX6_told 63 = .ok (.getfield 163, 3) := by decide +kernel
theorem dX6_told_66 : decode cX6_told 66 = .ok (.ireturn, 1) := by decide +kernel
theorem dX6_told_67 : decode cX6_told 67 = .ok (.aload_n 0, 1) := by decide +kernel
theorem dX6_told_68 : decode cX6_told 68 = .ok (.getfield 17, 3) := by decide +kernel
theorem dX6_told_71 : decode cX6_told 71 = .ok (.getfield 110, 3) := by decide +kernel
theorem dX6_told_74 : decode cX6_told 74 = .ok (.getfield 166, 3) := by decide +kernel
theorem dX6_told_77 : decode cX6_told 77 = .ok (.ireturn, 1) := by decide +kernel
theorem dX6_told_78 : decode cX6_told 78 = .ok (.aload_n 0, 1) := by decide +kernel
theorem dX6_told_79 : decode cX6_told 79 = .ok (.getfield 17, 3) := by decide +kernel
theorem dX6_told_82 : decode cX6_told 82 = .ok (.getfield 140, 3) := by decide +kernel
theorem dX6_told_85 : decode cX6_told 85 = .ok (.ireturn, 1) := by decide +kernel
theorem dX6_told_86 : decode cX6_told 86 = .ok (.aload_n 0, 1) := by decide +kernel
theorem dX6_told_87 : decode cX6_told 87 = .ok (.getfield 17, 3) := by decide +kernel
theorem dX6_told_90 : decode cX6_told 90 = .ok (.getfield 143, 3) := by decide +kernel
theorem dX6_told_93 : decode cX6_told 93 = .ok (.ireturn, 1) := by decide +kernel
theorem dX6_told_94 : decode cX6_told 94 = .ok (.aload_n 0, 1) := by decide +kernel
theorem dX6_told_95 : decode cX6_told 95 = .ok (.getfield 17, 3) := by decide +kernel
theorem dX6_told_98 : decode cX6_told 98 = .ok (.getfield 169, 3) := by decide +kernel
theorem dX6_told_101 : decode cX6_told 101 = .ok (.ireturn, 1) := by decide +kernel
theorem dX6_told_102 : decode cX6_told 102 = .ok (.aload_n 0, 1) := by decide +kernel
theorem dX6_told_103 : decode cX6_told 103 = .ok (.getfield 17, 3) := by decide +kernel
theorem dX6_told_106 : decode cX6_told 106 = .ok (.invokevirtual 172, 3) := by decide +kernel
theorem dX6_told_109 : decode cX6_told 109 = .ok (.ireturn, 1) := by decide +kernel
theorem dX6_told_110 : decode cX6_told 110 = .ok (.aload_n 0, 1) := by decide +kernel
theorem dX6_told_111 : decode cX6_told 111 = .ok (.getfield 17, 3) := by decide +kernel
theorem dX6_told_114 : decode cX6_told 114 = .ok (.invokevirtual 176, 3) := by decide +kernel
theorem dX6_told_117 : decode cX6_told 117 = .ok (.ireturn, 1) := by decide +kernel
theorem dX6_told_118 : decode cX6_told 118 = .ok (.iload_n 1, 1) := by decide +kernel
theorem dX6_told_119 : decode cX6_told 119 = .ok (.bipush 10, 2) := by decide +kernel
theorem dX6_told_121 : decode cX6_told 121 = .ok (.bipush 9, 2) := by decide +kernel
theorem dX6_told_123 : decode cX6_told 123 = .ok (.aload_n 0, 1) := by decide +kernel
theorem dX6_told_124 : decode cX6_told 124 = .ok (.getfield 17, 3) := by decide +kernel
theorem dX6_told_127 : decode cX6_told 127 = .ok (.getfield 134, 3) := by decide +kernel
theorem dX6_told_130 : decode cX6_told 130 = .ok (.iadd, 1) := by decide +kernel
theorem dX6_told_131 : decode cX6_told 131 = .ok (.invokestatic 78, 3) := by decide +kernel
theorem dX6_told_134 : decode cX6_told 134 = .ok (.ifCond .eq 18, 3) := by decide +kernel
theorem dX6_told_137 : decode cX6_told 137 = .ok (.aload_n 0, 1) := by decide +kernel
theorem dX6_told_138 : decode cX6_told 138 = .ok (.getfield 17, 3) := by decide +kernel
theorem dX6_told_141 : decode cX6_told 141 = .ok (.getfield 179, 3) := by decide +kernel
theorem dX6_told_144 : decode cX6_told 144 = .ok (.iload_n 1, 1) := by decide +kernel
theorem dX6_told_145 : decode cX6_told 145 = .ok (.bipush 10, 2) := by decide +kernel
theorem dX6_told_147 : decode cX6_told 147 = .ok (.isub, 1) := by decide +kernel
theorem dX6_told_148 : decode cX6_told 148 = .ok (.iaload, 1) := by decide +kernel
theorem dX6_told_149 : decode cX6_told 149 = .ok (.goto 4, 3) := by decide +kernel
theorem dX6_told_152 : decode cX6_told 152 = .ok (.iconst (-1), 1) := by decide +kernel
theorem dX6_told_153 : decode cX6_told 153 = .ok (.ireturn, 1) := by decide +kernel
theorem dX6_pass_0 : decode cX6_pass 0 = .ok (.iload_n 1, 1) := by decide +kernel
theorem dX6_pass_1 : decode cX6_pass 1 = .ok (.iconst 0, 1) := by decide +kernel
theorem dX6_pass_2 : decode cX6_pass 2 = .ok (.bipush 60, 2) := by decide +kernel
theorem dX6_pass_4 : decode cX6_pass 4 = .ok (.invokestatic 78, 3) := by decide +kernel
theorem dX6_pass_7 : decode cX6_pass 7 = .ok (.ifCond .ne 6, 3) := by decide +kernel
theorem dX6_pass_10 : decode cX6_pass 10 = .ok (.bipush (-2), 2) := by decide +kernel
theorem dX6_pass_12 : decode cX6_pass 12 = .ok (.ireturn, 1) := by decide +kernel
theorem dX6_pass_13 : decode cX6_pass 13 = .ok (.aload_n 0, 1) := by decide +kernel
theorem dX6_pass_14 : decode cX6_pass 14 = .ok (.getfield 17, 3) := by decide +kernel
theorem dX6_pass_17 : decode cX6_pass 17 = .ok (.getfield 160, 3) := by decide +kernel
theorem dX6_pass_20 : decode cX6_pass 20 = .ok (.iload_n 1, 1) := by decide +kernel
theorem dX6_pass_21 : decode cX6_pass 21 = .ok (.iadd, 1) := by decide +kernel
theorem dX6_pass_22 : decode cX6_pass 22 = .ok (.sipush 9999, 3) := by decide +kernel
theorem dX6_pass_25 : decode cX6_pass 25 = .ok (.if_icmp .le 6, 3) := by decide +kernel
theorem dX6_pass_28 : decode cX6_pass 28 = .ok (.bipush (-3), 2) := by decide +kernel
theorem dX6_pass_30 : decode cX6_pass 30 = .ok (.ireturn, 1) := by decide +kernel
theorem dX6_pass_31 : decode cX6_pass 31 = .ok (.iconst 0, 1) := by decide +kernel
theorem dX6_pass_32 : decode cX6_pass 32 = .ok (.istore_n 2, 1) := by decide +kernel
theorem dX6_pass_33 : decode cX6_pass 33 = .ok (.iload_n 2, 1) := by decide +kernel
theorem dX6_pass_34 : decode cX6_pass 34 = .ok (.iload_n 1, 1) := by decide +kernel
theorem dX6_pass_35 : decode cX6_pass 35 = .ok (.if_icmp .ge 17, 3) := by decide +kernel
theorem dX6_pass_38 : decode cX6_pass 38 = .ok (.aload_n 0, 1) := by decide +kernel
theorem dX6_pass_39 : decode cX6_pass 39 = .ok (.getfield 17, 3) := by decide +kernel
theorem dX6_pass_42 : decode cX6_pass 42 = .ok (.invokevirtual 182, 3) := by decide +kernel
theorem dX6_pass_45 : decode cX6_pass 45 = .ok (.pop, 1) := by decide +kernel
theorem dX6_pass_46 : decode cX6_pass 46 = .ok (.iinc 2 1, 3) := by decide +kernel
theorem dX6_pass_49 : decode cX6_pass 49 = .ok (.goto (-16), 3) := by decide +kernel
theorem dX6_pass_52 : decode cX6_pass 52 = .ok (.aload_n 0, 1) := by decide +kernel
theorem dX6_pass_53 : decode cX6_pass 53 = .ok (.getfield 17, 3) := by decide +kernel
theorem dX6_pass_56 : decode cX6_pass 56 = .ok (.getfield 169, 3) := by decide +kernel
theorem dX6_pass_59 : decode cX6_pass 59 = .ok (.ireturn, 1) := by decide +kernel
theorem dX6_on_0 : decode cX6_on 0 = .ok (.iload_n 2, 1) := by decide +kernel
theorem dX6_on_1 : decode cX6_on 1 = .ok (.bipush 10, 2) := by decide +kernel
theorem dX6_on_3 : decode cX6_on 3 = .ok (.bipush 9, 2) := by decide +kernel
theorem dX6_on_5 : decode cX6_on 5 = .ok (.aload_n 0, 1) := by decide +kernel
theorem dX6_on_6 : decode cX6_on 6 = .ok (.getfield 17, 3) := by decide +kernel
theorem dX6_on_9 : decode cX6_on 9 = .ok (.getfield 82, 3) := by decide +kernel
theorem dX6_on_12 : decode cX6_on 12 = .ok (.iadd, 1) := by decide +kernel
theorem dX6_on_13 : decode cX6_on 13 = .ok (.invokestatic 78, 3) := by decide +kernel
theorem dX6_on_16 : decode cX6_on 16 = .ok (.istore_n 3, 1) := by decide +kernel
theorem dX6_on_17 : decode cX6_on 17 = .ok (.iload_n 2, 1) := by decide +kernel
theorem dX6_on_18 : decode cX6_on 18 = .ok (.bipush 20, 2) := by decide +kernel
theorem dX6_on_20 : decode cX6_on 20 = .ok (.bipush 19, 2) := by decide +kernel
theorem dX6_on_22 : decode cX6_on 22 = .ok (.aload_n 0, 1) := by decide +kernel
theorem dX6_on_23 : decode cX6_on 23 = .ok (.getfield 17, 3) := by decide +kernel
theorem dX6_on_26 : decode cX6_on 26 = .ok (.getfield 82, 3) := by decide +kernel
theorem dX6_on_29 : decode cX6_on 29 = .ok (.iadd, 1) := by decide +kernel
theorem dX6_on_30 : decode cX6_on 30 = .ok (.invokestatic 78, 3) := by decide +kernel
theorem dX6_on_33 : decode cX6_on 33 = .ok (.istore 4, 2) := by decide +kernel
theorem dX6_on_35 : decode cX6_on 35 = .ok (.iload_n 2, 1) := by decide +kernel
theorem dX6_on_36 : decode cX6_on 36 = .ok (.iconst 0, 1) := by decide +kernel
theorem dX6_on_37 : decode cX6_on 37 = .ok (.iconst 2, 1) := by decide +kernel
theorem dX6_on_38 : decode cX6_on 38 = .ok (.invokestatic 78, 3) := by decide +kernel
theorem dX6_on_41 : decode cX6_on 41 = .ok (.ifCond .ne 14, 3) := by decide +kernel
theorem dX6_on_44 : decode cX6_on 44 = .ok (.iload_n 3, 1) := by decide +kernel
theorem dX6_on_45 : decode cX6_on 45 = .ok (.ifCond .ne 10, 3) := by decide +kernel
theorem dX6_on_48 : decode cX6_on 48 = .ok (.iload 4, 2) := by decide +kernel
theorem dX6_on_50 : decode cX6_on 50 = .ok (.ifCond .ne 5, 3) := by decide +kernel
theorem dX6_on_53 : decode cX6_on 53 = .ok (.iconst (-1), 1) := by decide +kernel
theorem dX6_on_54 : decode cX6_on 54 = .ok (.ireturn, 1) := by decide +kernel
theorem dX6_on_55 : decode cX6_on 55 = .ok (.iload_n 1, 1) := by decide +kernel
theorem dX6_on_56 : decode cX6_on 56 = .ok (.iconst 0, 1) := by decide +kernel
theorem dX6_on_57 : decode cX6_on 57 = .ok (.bipush 60, 2) := by decide +kernel
theorem dX6_on_59 : decode cX6_on 59 = .ok (.invokestatic 78, 3) := by decide +kernel
theorem dX6_on_62 : decode cX6_on 62 = .ok (.ifCond .ne 6, 3) := by decide +kernel
theorem dX6_on_65 : decode cX6_on 65 = .ok (.bipush (-2), 2) := by decide +kernel
theorem dX6_on_67 : decode cX6_on 67 = .ok (.ireturn, 1) := by decide +kernel
theorem dX6_on_68 : decode cX6_on 68 = .ok (.aload_n 0, 1) := by decide +kernel
theorem dX6_on_69 : decode cX6_on 69 = .ok (.getfield 26, 3) := by decide +kernel
theorem dX6_on_72 : decode cX6_on 72 = .ok (.aload_n 0, 1) := by decide +kernel
theorem dX6_on_73 : decode cX6_on 73 = .ok (.getfield 17, 3) := by decide +kernel
theorem dX6_on_76 : decode cX6_on 76 = .ok (.invokevirtual 185, 3) := by decide +kernel
theorem dX6_on_79 : decode cX6_on 79 = .ok (.iconst 0, 1) := by decide +kernel
theorem dX6_on_80 : decode cX6_on 80 = .ok (.istore 5, 2) := by decide +kernel
theorem dX6_on_82 : decode cX6_on 82 = .ok (.iload 5, 2) := by decide +kernel
theorem dX6_on_84 : decode cX6_on 84 = .ok (.iload_n 1, 1) := by decide +kernel
theorem dX6_on_85 : decode cX6_on 85 = .ok (.if_icmp .ge 17, 3) := by decide +kernel
theorem dX6_on_88 : decode cX6_on 88 = .ok (.aload_n 0, 1) := by decide +kernel
theorem dX6_on_89 : decode cX6_on 89 = .ok (.getfield 26, 3) := by decide +kernel
theorem dX6_on_92 : decode cX6_on 92 = .ok (.invokevirtual 182, 3) := by decide +kernel
theorem dX6_on_95 : decode cX6_on 95 = .ok (.pop, 1) := by decide +kernel
theorem dX6_on_96 : decode cX6_on 96 = .ok (.iinc 5 1, 3) := by decide +kernel
theorem dX6_on_99 : decode cX6_on 99 = .ok (.goto (-17), 3) := by decide +kernel
theorem dX6_on_102 : decode cX6_on 102 = .ok (.iload_n 3, 1) := by decide +kernel
theorem dX6_on_103 : decode cX6_on 103 = .ok (.ifCond .eq 16, 3) := by decide +kernel
theorem dX6_on_106 : decode cX6_on 106 = .ok (.aload_n 0, 1) := by decide +kernel
theorem dX6_on_107 : decode cX6_on 107 = .ok (.getfield 26, 3) := by decide +kernel
theorem dX6_on_110 : decode cX6_on 110 = .ok (.getfield 101, 3) := by decide +kernel
theorem dX6_on_113 : decode cX6_on 113 = .ok (.iload_n 2, 1) := by decide +kernel
theorem dX6_on_114 : decode cX6_on 114 = .ok (.bipush 10, 2) := by decide +kernel
theorem dX6_on_116 : decode cX6_on 116 = .ok (.isub, 1) := by decide +kernel
theorem dX6_on_117 : decode cX6_on 117 = .ok (.iaload, 1) := by decide +kernel
theorem dX6_on_118 : decode cX6_on 118 = .ok (.ireturn, 1) := by decide +kernel
theorem dX6_on_119 : decode cX6_on 119 = .ok (.iload 4, 2) := by decide +kernel
theorem dX6_on_121 : decode cX6_on 121 = .ok (.ifCond .eq 16, 3) := by decide +kernel
theorem dX6_on_124 : decode cX6_on 124 = .ok (.aload_n 0, 1) := by decide +kernel
theorem dX6_on_125 : decode cX6_on 125 = .ok (.getfield 26, 3) := by decide +kernel
theorem dX6_on_128 : decode cX6_on 128 = .ok (.getfield 104, 3) := by decide +kernel
theorem dX6_on_131 : decode cX6_on 131 = .ok (.iload_n 2, 1) := by decide +kernel
theorem dX6_on_132 : decode cX6_on 132 = .ok (.bipush 20, 2) := by decide +kernel
theorem dX6_on_134 : decode cX6_on 134 = .ok (.isub, 1) := by decide +kernel
theorem dX6_on_135 : decode cX6_on 135 = .ok (.iaload, 1) := by decide +kernel
theorem dX6_on_136 : decode cX6_on 136 = .ok (.ireturn, 1) := by decide +kernel
theorem dX6_on_137 : decode cX6_on 137 = .ok (.iload_n 2, 1) := by decide +kernel
theorem dX6_on_138 : decode cX6_on 138 = .ok (.ifCond .ne 13, 3) := by decide +kernel
theorem dX6_on_141 : decode cX6_on 141 = .ok (.aload_n 0, 1) := by decide +kernel
theorem dX6_on_142 : decode cX6_on 142 = .ok (.getfield 26, 3) := by decide +kernel
theorem dX6_on_145 : decode cX6_on 145 = .ok (.getfield 169, 3) := by decide +kernel
theorem dX6_on_148 : decode cX6_on 148 = .ok (.goto 25, 3) := by decide +kernel
theorem dX6_on_151 : decode cX6_on 151 = .ok (.iload_n 2, 1) := by decide +kernel
theorem dX6_on_152 : decode cX6_on 152 = .ok (.iconst 1, 1) := by decide +kernel
theorem dX6_on_153 : decode cX6_on 153 = .ok (.if_icmp .ne 13, 3) := by decide +kernel
theorem dX6_on_156 : decode cX6_on 156 = .ok (.aload_n 0, 1) := by decide +kernel
theorem dX6_on_157 : decode cX6_on 157 = .ok (.getfield 26, 3) := by decide +kernel
theorem dX6_on_160 : decode cX6_on 160 = .ok (.invokevirtual 172, 3) := by decide +kernel
theorem dX6_on_163 : decode cX6_on 163 = .ok (.goto 10, 3) := by decide +kernel
theorem dX6_on_166 : decode cX6_on 166 = .ok (.aload_n 0, 1) := by decide +kernel
theorem dX6_on_167 : decode cX6_on 167 = .ok (.getfield 26, 3) := by decide +kernel
theorem dX6_on_170 : decode cX6_on 170 = .ok (.getfield 134, 3) := by decide +kernel
theorem dX6_on_173 : decode cX6_on 173 = .ok (.ireturn, 1) := by decide +kernel
theorem dX6_first_0 : decode cX6_first 0 = .ok (.iload_n 1, 1) := by decide +kernel
theorem dX6_first_1 : decode cX6_first 1 = .ok (.iconst 0, 1) := by decide +kernel
theorem dX6_first_2 : decode cX6_first 2 = .ok (.iconst 1, 1) := by decide +kernel
theorem dX6_first_3 : decode cX6_first 3 = .ok (.invokestatic 78, 3) := by decide +kernel
theorem dX6_first_6 : decode cX6_first 6 = .ok (.ifCond .ne 5, 3) := by decide +kernel
theorem dX6_first_9 : decode cX6_first 9 = .ok (.iconst (-1), 1) := by decide +kernel
theorem dX6_first_10 : decode cX6_first 10 = .ok (.ireturn, 1) := by decide +kernel
theorem dX6_first_11 : decode cX6_first 11 = .ok (.aload_n 0, 1) := by decide +kernel
theorem dX6_first_12 : decode cX6_first 12 = .ok (.getfield 26, 3) := by decide +kernel
theorem dX6_first_15 : decode cX6_first 15 = .ok (.aload_n 0, 1) := by decide +kernel
theorem dX6_first_16 : decode cX6_first 16 = .ok (.getfield 17, 3) := by decide +kernel
theorem dX6_first_19 : decode cX6_first 19 = .ok (.invokevirtual 185, 3) := by decide +kernel
theorem dX6_first_22 : decode cX6_first 22 = .ok (.iconst 0, 1) := by decide +kernel
theorem dX6_first_23 : decode cX6_first 23 = .ok (.istore_n 2, 1) := by decide +kernel
theorem dX6_first_24 : decode cX6_first 24 = .ok (.iload_n 2, 1) := by decide +kernel
theorem dX6_first_25 : decode cX6_first 25 = .ok (.bipush 60, 2) := by decide +kernel
theorem dX6_first_27 : decode cX6_first 27 = .ok (.if_icmp .gt 31, 3) := by decide +kernel
theorem dX6_first_30 : decode cX6_first 30 = .ok (.aload_n 0, 1) := by decide +kernel
theorem dX6_first_31 : decode cX6_first 31 = .ok (.getfield 26, 3) := by decide +kernel
theorem dX6_first_34 : decode cX6_first 34 = .ok (.invokevirtual 182, 3) := by decide +kernel
theorem dX6_first_37 : decode cX6_first 37 = .ok (.istore_n 3, 1) := by decide +kernel
theorem dX6_first_38 : decode cX6_first 38 = .ok (.iload_n 3, 1) := by decide +kernel
theorem dX6_first_39 : decode cX6_first 39 = .ok (.ifCond .lt 13, 3) := by decide +kernel
theorem dX6_first_42 : decode cX6_first 42 = .ok (.iload_n 1, 1) := by decide +kernel
theorem dX6_first_43 : decode cX6_first 43 = .ok (.ifCond .ne 7, 3) := by decide +kernel
theorem dX6_first_46 : decode cX6_first 46 = .ok (.iload_n 2, 1) := by decide +kernel
theorem dX6_first_47 : decode cX6_first 47 = .ok (.goto 4, 3) := by decide +kernel
theorem dX6_first_50 : decode cX6_first 50 = .ok (.iload_n 3, 1) := by decide +kernel
theorem dX6_first_51 : decode cX6_first 51 = .ok (.ireturn, 1) := by decide +kernel
theorem dX6_first_52 : decode cX6_first 52 = .ok (.iinc 2 1, 3) := by decide +kernel
theorem dX6_first_55 : decode cX6_first 55 = .ok (.goto (-31), 3) := by decide +kernel
theorem dX6_first_58 : decode cX6_first 58 = .ok (.bipush (-5), 2) := by decide +kernel
theorem dX6_first_60 : decode cX6_first 60 = .ok (.ireturn, 1) := by decide +kernel
theorem dX6_port_0 : decode cX6_port 0 = .ok (.iload_n 1, 1) := by decide +kernel
theorem dX6_port_1 : decode cX6_port 1 = .ok (.iconst 0, 1) := by decide +kernel
theorem dX6_port_2 : decode cX6_port 2 = .ok (.sipush 9999, 3) := by decide +kernel
theorem dX6_port_5 : decode cX6_port 5 = .ok (.invokestatic 78, 3) := by decide +kernel
theorem dX6_port_8 : decode cX6_port 8 = .ok (.ifCond .ne 6, 3) := by decide +kernel
theorem dX6_port_11 : decode cX6_port 11 = .ok (.bipush (-2), 2) := by decide +kernel
theorem dX6_port_13 : decode cX6_port 13 = .ok (.ireturn, 1) := by decide +kernel
theorem dX6_port_14 : decode cX6_port 14 = .ok (.aload_n 0, 1) := by decide +kernel
theorem dX6_port_15 : decode cX6_port 15 = .ok (.getfield 26, 3) := by decide +kernel
theorem dX6_port_18 : decode cX6_port 18 = .ok (.aload_n 0, 1) := by decide +kernel
theorem dX6_port_19 : decode cX6_port 19 = .ok (.getfield 17, 3) := by decide +kernel
theorem dX6_port_22 : decode cX6_port 22 = .ok (.invokevirtual 185, 3) := by decide +kernel
theorem dX6_port_25 : decode cX6_port 25 = .ok (.iconst 0, 1) := by decide +kernel
theorem dX6_port_26 : decode cX6_port 26 = .ok (.istore_n 2, 1) := by decide +kernel
theorem dX6_port_27 : decode cX6_port 27 = .ok (.iload_n 2, 1) := by decide +kernel
theorem dX6_port_28 : decode cX6_port 28 = .ok (.bipush 99, 2) := by decide +kernel
theorem dX6_port_30 : decode cX6_port 30 = .ok (.if_icmp .gt 30, 3) := by decide +kernel
theorem dX6_port_33 : decode cX6_port 33 = .ok (.aload_n 0, 1) := by decide +kernel
theorem dX6_port_34 : decode cX6_port 34 = .ok (.getfield 26, 3) := by decide +kernel
theorem dX6_port_37 : decode cX6_port 37 = .ok (.getfield 169, 3) := by decide +kernel
theorem dX6_port_40 : decode cX6_port 40 = .ok (.iload_n 1, 1) := by decide +kernel
theorem dX6_port_41 : decode cX6_port 41 = .ok (.if_icmp .lt 5, 3) := by decide +kernel
theorem dX6_port_44 : decode cX6_port 44 = .ok (.iload_n 2, 1) := by decide +kernel
theorem dX6_port_45 : decode cX6_port 45 = .ok (.ireturn, 1) := by decide +kernel
theorem dX6_port_46 : decode cX6_port 46 = .ok (.aload_n 0, 1) := by decide +kernel
theorem dX6_port_47 : decode cX6_port 47 = .ok (.getfield 26, 3) := by decide +kernel
theorem dX6_port_50 : decode cX6_port 50 = .ok (.invokevirtual 182, 3) := by decide +kernel
theorem dX6_port_53 : decode cX6_port 53 = .ok (.pop, 1) := by decide +kernel
theorem dX6_port_54 : decode cX6_port 54 = .ok (.iinc 2 1, 3) := by decide +kernel
theorem dX6_port_57 : decode cX6_port 57 = .ok (.goto (-30), 3) := by decide +kernel
theorem dX6_port_60 : decode cX6_port 60 = .ok (.bipush (-5), 2) := by decide +kernel
theorem dX6_port_62 : decode cX6_port 62 = .ok (.ireturn, 1) := by decide +kernel
theorem dX6_spread_0 : decode cX6_spread 0 = .ok (.iconst (-1), 1) := by decide +kernel
theorem dX6_spread_1 : decode cX6_spread 1 = .ok (.istore_n 1, 1) := by decide +kernel
theorem dX6_spread_2 : decode cX6_spread 2 = .ok (.iconst 0, 1) := by decide +kernel
theorem dX6_spread_3 : decode cX6_spread 3 = .ok (.istore_n 2, 1) := by decide +kernel
theorem dX6_spread_4 : decode cX6_spread 4 = .ok (.iconst 0, 1) := by decide +kernel
theorem dX6_spread_5 : decode cX6_spread 5 = .ok (.istore_n 3, 1) := by decide +kernel
theorem dX6_spread_6 : decode cX6_spread 6 = .ok (.iload_n 3, 1) := by decide +kernel
theorem dX6_spread_7 : decode cX6_spread 7 = .ok (.bipush 9, 2) := by decide +kernel
theorem dX6_spread_9 : decode cX6_spread 9 = .ok (.if_icmp .gt 73, 3) := by decide +kernel
theorem dX6_spread_12 : decode cX6_spread 12 = .ok (.aload_n 0, 1) := by decide +kernel
theorem dX6_spread_13 : decode cX6_spread 13 = .ok (.getfield 26, 3) := by decide +kernel
theorem dX6_spread_16 : decode cX6_spread 16 = .ok (.aload_n 0, 1) := by decide +kernel
theorem dX6_spread_17 : decode cX6_spread 17 = .ok (.getfield 17, 3) := by decide +kernel
theorem dX6_spread_20 : decode cX6_spread 20 = .ok (.invokevirtual 185, 3) := by decide +kernel
theorem dX6_spread_23 : decode cX6_spread 23 = .ok (.aload_n 0, 1) := by decide +kernel
theorem dX6_spread_24 : decode cX6_spread 24 = .ok (.getfield 26, 3) := by decide +kernel
theorem dX6_spread_27 : decode cX6_spread 27 = .ok (.iload_n 3, 1) := by decide +kernel
theorem dX6_spread_28 : decode cX6_spread 28 = .ok (.putfield 140, 3) := by decide +kernel
theorem dX6_spread_31 : decode cX6_spread 31 = .ok (.iconst 0, 1) := by decide +kernel
theorem dX6_spread_32 : decode cX6_spread 32 = .ok (.istore 4, 2) := by decide +kernel
theorem dX6_spread_34 : decode cX6_spread 34 = .ok (.iload 4, 2) := by decide +kernel
theorem dX6_spread_36 : decode cX6_spread 36 = .ok (.bipush 30, 2) := by decide +kernel
theorem dX6_spread_38 : decode cX6_spread 38 = .ok (.if_icmp .ge 17, 3) := by decide +kernel
theorem dX6_spread_41 : decode cX6_spread 41 = .ok (.aload_n 0, 1) := by decide +kernel
theorem dX6_spread_42 : decode cX6_spread 42 = .ok (.getfield 26, 3) := by decide +kernel
theorem dX6_spread_45 : decode cX6_spread 45 = .ok (.invokevirtual 182, 3) := by decide +kernel
theorem dX6_spread_48 : decode cX6_spread 48 = .ok (.pop, 1) := by decide +kernel
theorem dX6_spread_49 : decode cX6_spread 49 = .ok (.iinc 4 1, 3) := by decide +kernel
theorem dX6_spread_52 : decode cX6_spread 52 = .ok (.goto (-18), 3) := by decide +kernel
theorem dX6_spread_55 : decode cX6_spread 55 = .ok (.aload_n 0, 1) := by decide +kernel
theorem dX6_spread_56 : decode cX6_spread 56 = .ok (.getfield 26, 3) := by decide +kernel
theorem dX6_spread_59 : decode cX6_spread 59 = .ok (.getfield 169, 3) := by decide +kernel
theorem dX6_spread_62 : decode cX6_spread 62 = .ok (.iload_n 1, 1) := by decide +kernel
theorem dX6_spread_63 : decode cX6_spread 63 = .ok (.if_icmp .le 13, 3) := by decide +kernel
theorem dX6_spread_66 : decode cX6_spread 66 = .ok (.aload_n 0, 1) := by decide +kernel
theorem dX6_spread_67 : decode cX6_spread 67 = .ok (.getfield 26, 3) := by decide +kernel
theorem dX6_spread_70 : decode cX6_spread 70 = .ok (.getfield 169, 3) := by decide +kernel
theorem dX6_spread_73 : decode cX6_spread 73 = .ok (.istore_n 1, 1) := by decide +kernel
theorem dX6_spread_74 : decode cX6_spread 74 = .ok (.iload_n 3, 1) := by decide +kernel
theorem dX6_spread_75 : decode cX6_spread 75 = .ok (.istore_n 2, 1) := by decide +kernel
theorem dX6_spread_76 : decode cX6_spread 76 = .ok (.iinc 3 1, 3) := by decide +kernel
theorem dX6_spread_79 : decode cX6_spread 79 = .ok (.goto (-73), 3) := by decide +kernel
theorem dX6_spread_82 : decode cX6_spread 82 = .ok (.iload_n 2, 1) := by decide +kernel
theorem dX6_spread_83 : decode cX6_spread 83 = .ok (.ireturn, 1) := by decide +kernel
theorem dX6_fewest_0 : decode cX6_fewest 0 = .ok (.iload_n 1, 1) := by decide +kernel
theorem dX6_fewest_1 : decode cX6_fewest 1 = .ok (.iconst 1, 1) := by decide +kernel
theorem dX6_fewest_2 : decode cX6_fewest 2 = .ok (.bipush 30, 2) := by decide +kernel
theorem dX6_fewest_4 : decode cX6_fewest 4 = .ok (.invokestatic 78, 3) := by decide +kernel
theorem dX6_fewest_7 : decode cX6_fewest 7 = .ok (.ifCond .ne 6, 3) := by decide +kernel
theorem dX6_fewest_10 : decode cX6_fewest 10 = .ok (.bipush (-2), 2) := by decide +kernel
theorem dX6_fewest_12 : decode cX6_fewest 12 = .ok (.ireturn, 1) := by decide +kernel
theorem dX6_fewest_13 : decode cX6_fewest 13 = .ok (.iconst 0, 1) := by decide +kernel
theorem dX6_fewest_14 : decode cX6_fewest 14 = .ok (.istore_n 2, 1) := by decide +kernel
theorem dX6_fewest_15 : decode cX6_fewest 15 = .ok (.iload_n 2, 1) := by decide +kernel
theorem dX6_fewest_16 : decode cX6_fewest 16 = .ok (.bipush 9, 2) := by decide +kernel
theorem dX6_fewest_18 : decode cX6_fewest 18 = .ok (.if_icmp .gt 41, 3) := by decide +kernel
theorem dX6_fewest_21 : decode cX6_fewest 21 = .ok (.aload_n 0, 1) := by decide +kernel
theorem dX6_fewest_22 : decode cX6_fewest 22 = .ok (.getfield 26, 3) := by decide +kernel
theorem dX6_fewest_25 : decode cX6_fewest 25 = .ok (.aload_n 0, 1) := by decide +kernel
theorem dX6_fewest_26 : decode cX6_fewest 26 = .ok (.getfield 17, 3) := by decide +kernel
theorem dX6_fewest_29 : decode cX6_fewest 29 = .ok (.invokevirtual 185, 3) := by decide +kernel
theorem dX6_fewest_32 : decode cX6_fewest 32 = .ok (.aload_n 0, 1) := by decide +kernel
theorem dX6_fewest_33 : decode cX6_fewest 33 = .ok (.getfield 26, 3) := by decide +kernel
theorem dX6_fewest_36 : decode cX6_fewest 36 = .ok (.iload_n 2, 1) := by decide +kernel
theorem dX6_fewest_37 : decode cX6_fewest 37 = .ok (.putfield 143, 3) := by decide +kernel
theorem dX6_fewest_40 : decode cX6_fewest 40 = .ok (.aload_n 0, 1) := by decide +kernel
theorem dX6_fewest_41 : decode cX6_fewest 41 = .ok (.getfield 26, 3) := by decide +kernel
theorem dX6_fewest_44 : decode cX6_fewest 44 = .ok (.iload_n 1, 1) := by decide +kernel
theorem dX6_fewest_45 : decode cX6_fewest 45 = .ok (.invokevirtual 189, 3) := by decide +kernel
theorem dX6_fewest_48 : decode cX6_fewest 48 = .ok (.ifCond .eq 5, 3) := by decide +kernel
theorem dX6_fewest_51 : decode cX6_fewest 51 = .ok (.iload_n 2, 1) := by decide +kernel
theorem dX6_fewest_52 : decode cX6_fewest 52 = .ok (.ireturn, 1) := by decide +kernel
theorem dX6_fewest_53 : decode cX6_fewest 53 = .ok (.iinc 2 1, 3) := by decide +kernel
theorem dX6_fewest_56 : decode cX6_fewest 56 = .ok (.goto (-41), 3) := by decide +kernel
theorem dX6_fewest_59 : decode cX6_fewest 59 = .ok (.bipush (-5), 2) := by decide +kernel
theorem dX6_fewest_61 : decode cX6_fewest 61 = .ok (.ireturn, 1) := by decide +kernel
theorem dX6_best_0 : decode cX6_best 0 = .ok (.iload_n 1, 1) := by decide +kernel
theorem dX6_best_1 : decode cX6_best 1 = .ok (.iconst 0, 1) := by decide +kernel
theorem dX6_best_2 : decode cX6_best 2 = .ok (.iconst 1, 1) := by decide +kernel
theorem dX6_best_3 : decode cX6_best 3 = .ok (.invokestatic 78, 3) := by decide +kernel
theorem dX6_best_6 : decode cX6_best 6 = .ok (.ifCond .eq 12, 3) := by decide +kernel
theorem dX6_best_9 : decode cX6_best 9 = .ok (.iload_n 2, 1) := by decide +kernel
theorem dX6_best_10 : decode cX6_best 10 = .ok (.iconst 0, 1) := by decide +kernel
theorem dX6_best_11 : decode cX6_best 11 = .ok (.iconst 3, 1) := by decide +kernel
theorem dX6_best_12 : decode cX6_best 12 = .ok (.invokestatic 78, 3) := by decide +kernel
theorem dX6_best_15 : decode cX6_best 15 = .ok (.ifCond .ne 5, 3) := by decide +kernel
theorem dX6_best_18 : decode cX6_best 18 = .ok (.iconst (-1), 1) := by decide +kernel
theorem dX6_best_19 : decode cX6_best 19 = .ok (.ireturn, 1) := by decide +kernel
theorem dX6_best_20 : decode cX6_best 20 = .ok (.aload_n 0, 1) := by decide +kernel
theorem dX6_best_21 : decode cX6_best 21 = .ok (.iload_n 1, 1) := by decide +kernel
theorem dX6_best_22 : decode cX6_best 22 = .ok (.invokevirtual 192, 3) := by decide +kernel
theorem dX6_best_25 : decode cX6_best 25 = .ok (.istore_n 3, 1) := by decide +kernel
theorem dX6_best_26 : decode cX6_best 26 = .ok (.iload_n 2, 1) := by decide +kernel
theorem dX6_best_27 : decode cX6_best 27 = .ok (.iconst 3, 1) := by decide +kernel
theorem dX6_best_28 : decode cX6_best 28 = .ok (.if_icmp .ne 12, 3) := by decide +kernel
theorem dX6_best_31 : decode cX6_best 31 = .ok (.aload_n 0, 1) := by decide +kernel
theorem dX6_best_32 : decode cX6_best 32 = .ok (.iload_n 1, 1) := by decide +kernel
theorem dX6_best_33 : decode cX6_best 33 = .ok (.iload_n 3, 1) := by decide +kernel
theorem dX6_best_34 : decode cX6_best 34 = .ok (.invokevirtual 195, 3) := by decide +kernel
theorem dX6_best_37 : decode cX6_best 37 = .ok (.goto 39, 3) := by decide +kernel
theorem dX6_best_40 : decode cX6_best 40 = .ok (.aload_n 0, 1) := by decide +kernel
theorem dX6_best_41 : decode cX6_best 41 = .ok (.getfield 26, 3) := by decide +kernel
theorem dX6_best_44 : decode cX6_best 44 = .ok (.iload_n 3, 1) := by decide +kernel
theorem dX6_best_45 : decode cX6_best 45 = .ok (.invokevirtual 199, 3) := by decide +kernel
theorem dX6_best_48 : decode cX6_best 48 = .ok (.ifCond .eq 26, 3) := by decide +kernel
theorem dX6_best_51 : decode cX6_best 51 = .ok (.iload_n 2, 1) := by decide +kernel
theorem dX6_best_52 : decode cX6_best 52 = .ok (.aload_n 0, 1) := by decide +kernel
theorem dX6_best_53 : decode cX6_best 53 = .ok (.getfield 26, 3) := by decide +kernel
theorem dX6_best_56 : decode cX6_best 56 = .ok (.getfield 134, 3) := by decide +kernel
theorem dX6_best_59 : decode cX6_best 59 = .ok (.if_icmp .ge 15, 3) := by decide +kernel
theorem dX6_best_62 : decode cX6_best 62 = .ok (.aload_n 0, 1) := by decide +kernel
theorem dX6_best_63 : decode cX6_best 63 = .ok (.getfield 26, 3) := by decide +kernel
theorem dX6_best_66 : decode cX6_best 66 = .ok (.getfield 179, 3) := by decide +kernel
theorem dX6_best_69 : decode cX6_best 69 = .ok (.iload_n 2, 1) := by decide +kernel
theorem dX6_best_70 : decode cX6_best 70 = .ok (.iaload, 1) := by decide +kernel
theorem dX6_best_71 : decode cX6_best 71 = .ok (.goto 5, 3) := by decide +kernel
theorem dX6_best_74 : decode cX6_best 74 = .ok (.bipush (-5), 2) := by decide +kernel
theorem dX6_best_76 : decode cX6_best 76 = .ok (.ireturn, 1) := by decide +kernel
theorem dX6_longest_0 : decode cX6_longest 0 = .ok (.iload_n 1, 1) := by decide +kernel
theorem dX6_longest_1 : decode cX6_longest 1 = .ok (.iconst 0, 1) := by decide +kernel
theorem dX6_longest_2 : decode cX6_longest 2 = .ok (.iconst 3, 1) := by decide +kernel
theorem dX6_longest_3 : decode cX6_longest 3 = .ok (.invokestatic 78, 3) := by decide +kernel
theorem dX6_longest_6 : decode cX6_longest 6 = .ok (.ifCond .ne 5, 3) := by decide +kernel
theorem dX6_longest_9 : decode cX6_longest 9 = .ok (.iconst (-1), 1) := by decide +kernel
theorem dX6_longest_10 : decode cX6_longest 10 = .ok (.ireturn, 1) := by decide +kernel
theorem dX6_longest_11 : decode cX6_longest 11 = .ok (.aload_n 0, 1) := by decide +kernel
theorem dX6_longest_12 : decode cX6_longest 12 = .ok (.iconst 2, 1) := by decide +kernel
theorem dX6_longest_13 : decode cX6_longest 13 = .ok (.invokevirtual 192, 3) := by decide +kernel
theorem dX6_longest_16 : decode cX6_longest 16 = .ok (.istore_n 2, 1) := by decide +kernel
theorem dX6_longest_17 : decode cX6_longest 17 = .ok (.iload_n 1, 1) := by decide +kernel
theorem dX6_longest_18 : decode cX6_longest 18 = .ok (.iconst 3, 1) := by decide +kernel
theorem dX6_longest_19 : decode cX6_longest 19 = .ok (.if_icmp .ne 23, 3) := by decide +kernel
theorem dX6_longest_22 : decode cX6_longest 22 = .ok (.aload_n 0, 1) := by decide +kernel
theorem dX6_longest_23 : decode cX6_longest 23 = .ok (.iconst 2, 1) := by decide +kernel
theorem dX6_longest_24 : decode cX6_longest 24 = .ok (.iload_n 2, 1) := by decide +kernel
theorem dX6_longest_25 : decode cX6_longest 25 = .ok (.invokevirtual 195, 3) := by decide +kernel
theorem dX6_longest_28 : decode cX6_longest 28 = .ok (.istore_n 3, 1) := by decide +kernel
theorem dX6_longest_29 : decode cX6_longest 29 = .ok (.iload_n 3, 1) := by decide +kernel
theorem dX6_longest_30 : decode cX6_longest 30 = .ok (.bipush 60, 2) := by decide +kernel
theorem dX6_longest_32 : decode cX6_longest 32 = .ok (.if_icmp .le 8, 3) := by decide +kernel
theorem dX6_longest_35 : decode cX6_longest 35 = .ok (.bipush (-5), 2) := by decide +kernel
theorem dX6_longest_37 : decode cX6_longest 37 = .ok (.goto 4, 3) := by decide +kernel
theorem dX6_longest_40 : decode cX6_longest 40 = .ok (.iload_n 3, 1) := by decide +kernel
theorem dX6_longest_41 : decode cX6_longest 41 = .ok (.ireturn, 1) := by decide +kernel
theorem dX6_longest_42 : decode cX6_longest 42 = .ok (.aload_n 0, 1) := by decide +kernel
theorem dX6_longest_43 : decode cX6_longest 43 = .ok (.getfield 26, 3) := by decide +kernel
theorem dX6_longest_46 : decode cX6_longest 46 = .ok (.iload_n 2, 1) := by decide +kernel
theorem dX6_longest_47 : decode cX6_longest 47 = .ok (.invokevirtual 199, 3) := by decide +kernel
theorem dX6_longest_50 : decode cX6_longest 50 = .ok (.ifCond .eq 26, 3) := by decide +kernel
theorem dX6_longest_53 : decode cX6_longest 53 = .ok (.iload_n 1, 1) := by decide +kernel
theorem dX6_longest_54 : decode cX6_longest 54 = .ok (.aload_n 0, 1) := by decide +kernel
theorem dX6_longest_55 : decode cX6_longest 55 = .ok (.getfield 26, 3) := by decide +kernel
theorem dX6_longest_58 : decode cX6_longest 58 = .ok (.getfield 134, 3) := by decide +kernel
theorem dX6_longest_61 : decode cX6_longest 61 = .ok (.if_icmp .ge 15, 3) := by decide +kernel
theorem dX6_longest_64 : decode cX6_longest 64 = .ok (.aload_n 0, 1) := by decide +kernel
theorem dX6_longest_65 : decode cX6_longest 65 = .ok (.getfield 26, 3) := by decide +kernel
theorem dX6_longest_68 : decode cX6_longest 68 = .ok (.getfield 179, 3) := by decide +kernel
theorem dX6_longest_71 : decode cX6_longest 71 = .ok (.iload_n 1, 1) := by decide +kernel
theorem dX6_longest_72 : decode cX6_longest 72 = .ok (.iaload, 1) := by decide +kernel
theorem dX6_longest_73 : decode cX6_longest 73 = .ok (.goto 5, 3) := by decide +kernel
theorem dX6_longest_76 : decode cX6_longest 76 = .ok (.bipush (-5), 2) := by decide +kernel
theorem dX6_longest_78 : decode cX6_longest 78 = .ok (.ireturn, 1) := by decide +kernel
theorem dX6_bestRow_0 : decode cX6_bestRow 0 = .ok (.bipush (-5), 2) := by decide +kernel
theorem dX6_bestRow_2 : decode cX6_bestRow 2 = .ok (.istore_n 2, 1) := by decide +kernel
theorem dX6_bestRow_3 : decode cX6_bestRow 3 = .ok (.iconst (-1), 1) := by decide +kernel
theorem dX6_bestRow_4 : decode cX6_bestRow 4 = .ok (.istore_n 3, 1) := by decide +kernel
theorem dX6_bestRow_5 : decode cX6_bestRow 5 = .ok (.iconst 0, 1) := by decide +kernel
theorem dX6_bestRow_6 : decode cX6_bestRow 6 = .ok (.istore 4, 2) := by decide +kernel
theorem dX6_bestRow_8 : decode cX6_bestRow 8 = .ok (.iload 4, 2) := by decide +kernel
theorem dX6_bestRow_10 : decode cX6_bestRow 10 = .ok (.sipush 294, 3) := by decide +kernel
theorem dX6_bestRow_13 : decode cX6_bestRow 13 = .ok (.if_icmp .ge 30, 3) := by decide +kernel
theorem dX6_bestRow_16 : decode cX6_bestRow 16 = .ok (.aload_n 0, 1) := by decide +kernel
theorem dX6_bestRow_17 : decode cX6_bestRow 17 = .ok (.iload_n 1, 1) := by decide +kernel
theorem dX6_bestRow_18 : decode cX6_bestRow 18 = .ok (.iload 4, 2) := by decide +kernel
theorem dX6_bestRow_20 : decode cX6_bestRow 20 = .ok (.invokevirtual 195, 3) := by decide +kernel
theorem dX6_bestRow_23 : decode cX6_bestRow 23 = .ok (.istore 5, 2) := by decide +kernel
theorem dX6_bestRow_25 : decode cX6_bestRow 25 = .ok (.iload 5, 2) := by decide +kernel
theorem dX6_bestRow_27 : decode cX6_bestRow 27 = .ok (.iload_n 2, 1) := by decide +kernel
theorem dX6_bestRow_28 : decode cX6_bestRow 28 = .ok (.if_icmp .le 9, 3) := by decide +kernel
theorem dX6_bestRow_31 : decode cX6_bestRow 31 = .ok (.iload 5, 2) := by decide +kernel
theorem dX6_bestRow_33 : decode cX6_bestRow 33 = .ok (.istore_n 2, 1) := by decide +kernel
theorem dX6_bestRow_34 : decode cX6_bestRow 34 = .ok (.iload 4, 2) := by decide +kernel
theorem dX6_bestRow_36 : decode cX6_bestRow 36 = .ok (.istore_n 3, 1) := by decide +kernel
theorem dX6_bestRow_37 : decode cX6_bestRow 37 = .ok (.iinc 4 1, 3) := by decide +kernel
theorem dX6_bestRow_40 : decode cX6_bestRow 40 = .ok (.goto (-32), 3) := by decide +kernel
theorem dX6_bestRow_43 : decode cX6_bestRow 43 = .ok (.iload_n 3, 1) := by decide +kernel
theorem dX6_bestRow_44 : decode cX6_bestRow 44 = .ok (.ireturn, 1) := by decide +kernel
theorem dX6_worth_0 : decode cX6_worth 0 = .ok (.aload_n 0, 1) := by decide +kernel
theorem dX6_worth_1 : decode cX6_worth 1 = .ok (.getfield 26, 3) := by decide +kernel
theorem dX6_worth_4 : decode cX6_worth 4 = .ok (.aload_n 0, 1) := by decide +kernel
theorem dX6_worth_5 : decode cX6_worth 5 = .ok (.getfield 17, 3) := by decide +kernel
theorem dX6_worth_8 : decode cX6_worth 8 = .ok (.invokevirtual 185, 3) := by decide +kernel
theorem dX6_worth_11 : decode cX6_worth 11 = .ok (.aload_n 0, 1) := by decide +kernel
theorem dX6_worth_12 : decode cX6_worth 12 = .ok (.getfield 26, 3) := by decide +kernel
theorem dX6_worth_15 : decode cX6_worth 15 = .ok (.iload_n 2, 1) := by decide +kernel
theorem dX6_worth_16 : decode cX6_worth 16 = .ok (.invokevirtual 199, 3) := by decide +kernel
theorem dX6_worth_19 : decode cX6_worth 19 = .ok (.ifCond .ne 6, 3) := by decide +kernel
theorem dX6_worth_22 : decode cX6_worth 22 = .ok (.bipush (-5), 2) := by decide +kernel
theorem dX6_worth_24 : decode cX6_worth 24 = .ok (.ireturn, 1) := by decide +kernel
theorem dX6_worth_25 : decode cX6_worth 25 = .ok (.iload_n 1, 1) := by decide +kernel
theorem dX6_worth_26 : decode cX6_worth 26 = .ok (.iconst 1, 1) := by decide +kernel
theorem dX6_worth_27 : decode cX6_worth 27 = .ok (.if_icmp .ne 26, 3) := by decide +kernel
theorem dX6_worth_30 : decode cX6_worth 30 = .ok (.aload_n 0, 1) := by decide +kernel
theorem dX6_worth_31 : decode cX6_worth 31 = .ok (.getfield 26, 3) := by decide +kernel
theorem dX6_worth_34 : decode cX6_worth 34 = .ok (.invokevirtual 202, 3) := by decide +kernel
theorem dX6_worth_37 : decode cX6_worth 37 = .ok (.ifCond .ge 13, 3) := by decide +kernel
theorem dX6_worth_40 : decode cX6_worth 40 = .ok (.aload_n 0, 1) := by decide +kernel
theorem dX6_worth_41 : decode cX6_worth 41 = .ok (.getfield 26, 3) := by decide +kernel
theorem dX6_worth_44 : decode cX6_worth 44 = .ok (.invokevirtual 172, 3) := by decide +kernel
theorem dX6_worth_47 : decode cX6_worth 47 = .ok (.goto 5, 3) := by decide +kernel
theorem dX6_worth_50 : decode cX6_worth 50 = .ok (.bipush (-5), 2) := by decide +kernel
theorem dX6_worth_52 : decode cX6_worth 52 = .ok (.ireturn, 1) := by decide +kernel
theorem dX6_worth_53 : decode cX6_worth 53 = .ok (.iload_n 1, 1) := by decide +kernel
theorem dX6_worth_54 : decode cX6_worth 54 = .ok (.ifCond .ne 33, 3) := by decide +kernel
theorem dX6_worth_57 : decode cX6_worth 57 = .ok (.iconst 0, 1) := by decide +kernel
theorem dX6_worth_58 : decode cX6_worth 58 = .ok (.istore_n 3, 1) := by decide +kernel
theorem dX6_worth_59 : decode cX6_worth 59 = .ok (.iload_n 3, 1) := by decide +kernel
theorem dX6_worth_60 : decode cX6_worth 60 = .ok (.bipush 10, 2) := by decide +kernel
theorem dX6_worth_62 : decode cX6_worth 62 = .ok (.if_icmp .ge 17, 3) := by decide +kernel
theorem dX6_worth_65 : decode cX6_worth 65 = .ok (.aload_n 0, 1) := by decide +kernel
theorem dX6_worth_66 : decode cX6_worth 66 = .ok (.getfield 26, 3) := by decide +kernel
theorem dX6_worth_69 : decode cX6_worth 69 = .ok (.invokevirtual 182, 3) := by decide +kernel
theorem dX6_worth_72 : decode cX6_worth 72 = .ok (.pop, 1) := by decide +kernel
theorem dX6_worth_73 : decode cX6_worth 73 = .ok (.iinc 3 1, 3) := by decide +kernel
theorem dX6_worth_76 : decode cX6_worth 76 = .ok (.goto (-17), 3) := by decide +kernel
theorem dX6_worth_79 : decode cX6_worth 79 = .ok (.aload_n 0, 1) := by decide +kernel
theorem dX6_worth_80 : decode cX6_worth 80 = .ok (.getfield 26, 3) := by decide +kernel
theorem dX6_worth_83 : decode cX6_worth 83 = .ok (.getfield 169, 3) := by decide +kernel
theorem dX6_worth_86 : decode cX6_worth 86 = .ok (.ireturn, 1) := by decide +kernel
theorem dX6_worth_87 : decode cX6_worth 87 = .ok (.aload_n 0, 1) := by decide +kernel
theorem dX6_worth_88 : decode cX6_worth 88 = .ok (.getfield 26, 3) := by decide +kernel
theorem dX6_worth_91 : decode cX6_worth 91 = .ok (.aload_n 0, 1) := by decide +kernel
theorem dX6_worth_92 : decode cX6_worth 92 = .ok (.getfield 17, 3) := by decide +kernel
theorem dX6_worth_95 : decode cX6_worth 95 = .ok (.invokevirtual 205, 3) := by decide +kernel
theorem dX6_worth_98 : decode cX6_worth 98 = .ok (.ifCond .ne 6, 3) := by decide +kernel
theorem dX6_worth_101 : decode cX6_worth 101 = .ok (.bipush (-5), 2) := by decide +kernel
theorem dX6_worth_103 : decode cX6_worth 103 = .ok (.ireturn, 1) := by decide +kernel
theorem dX6_worth_104 : decode cX6_worth 104 = .ok (.iconst 0, 1) := by decide +kernel
theorem dX6_worth_105 : decode cX6_worth 105 = .ok (.istore_n 3, 1) := by decide +kernel
theorem dX6_worth_106 : decode cX6_worth 106 = .ok (.iload_n 3, 1) := by decide +kernel
theorem dX6_worth_107 : decode cX6_worth 107 = .ok (.bipush 60, 2) := by decide +kernel
theorem dX6_worth_109 : decode cX6_worth 109 = .ok (.if_icmp .gt 21, 3) := by decide +kernel
theorem dX6_worth_112 : decode cX6_worth 112 = .ok (.aload_n 0, 1) := by decide +kernel
theorem dX6_worth_113 : decode cX6_worth 113 = .ok (.getfield 26, 3) := by decide +kernel
theorem dX6_worth_116 : decode cX6_worth 116 = .ok (.invokevirtual 182, 3) := by decide +kernel
theorem dX6_worth_119 : decode cX6_worth 119 = .ok (.ifCond .lt 5, 3) := by decide +kernel
theorem dX6_worth_122 : decode cX6_worth 122 = .ok (.iload_n 3, 1) := by decide +kernel
theorem dX6_worth_123 : decode cX6_worth 123 = .ok (.ireturn, 1) := by decide +kernel
theorem dX6_worth_124 : decode cX6_worth 124 = .ok (.iinc 3 1, 3) := by decide +kernel
theorem dX6_worth_127 : decode cX6_worth 127 = .ok (.goto (-21), 3) := by decide +kernel
theorem dX6_worth_130 : decode cX6_worth 130 = .ok (.bipush 61, 2) := by decide +kernel
theorem dX6_worth_132 : decode cX6_worth 132 = .ok (.ireturn, 1) := by decide +kernel
theorem dX6_see_0 : decode cX6_see 0 = .ok (.iload_n 1, 1) := by decide +kernel
theorem dX6_see_1 : decode cX6_see 1 = .ok (.iconst (-1), 1) := by decide +kernel
theorem dX6_see_2 : decode cX6_see 2 = .ok (.if_icmp .ne 11, 3) := by decide +kernel
theorem dX6_see_5 : decode cX6_see 5 = .ok (.aload_n 0, 1) := by decide +kernel
theorem dX6_see_6 : decode cX6_see 6 = .ok (.getfield 34, 3) := by decide +kernel
theorem dX6_see_9 : decode cX6_see 9 = .ok (.invokevirtual 209, 3) := by decide +kernel
theorem dX6_see_12 : decode cX6_see 12 = .ok (.ireturn, 1) := by decide +kernel
theorem dX6_see_13 : decode cX6_see 13 = .ok (.iload_n 1, 1) := by decide +kernel
theorem dX6_see_14 : decode cX6_see 14 = .ok (.iconst 0, 1) := by decide +kernel
theorem dX6_see_15 : decode cX6_see 15 = .ok (.iconst 3, 1) := by decide +kernel
theorem dX6_see_16 : decode cX6_see 16 = .ok (.invokestatic 78, 3) := by decide +kernel
theorem dX6_see_19 : decode cX6_see 19 = .ok (.ifCond .eq 13, 3) := by decide +kernel
theorem dX6_see_22 : decode cX6_see 22 = .ok (.iload_n 2, 1) := by decide +kernel
theorem dX6_see_23 : decode cX6_see 23 = .ok (.iconst 0, 1) := by decide +kernel
theorem dX6_see_24 : decode cX6_see 24 = .ok (.bipush 20, 2) := by decide +kernel
theorem dX6_see_26 : decode cX6_see 26 = .ok (.invokestatic 78, 3) := by decide +kernel
theorem dX6_see_29 : decode cX6_see 29 = .ok (.ifCond .ne 6, 3) := by decide +kernel
theorem dX6_see_32 : decode cX6_see 32 = .ok (.bipush (-2), 2) := by decide +kernel
theorem dX6_see_34 : decode cX6_see 34 = .ok (.ireturn, 1) := by decide +kernel
theorem dX6_see_35 : decode cX6_see 35 = .ok (.aload_n 0, 1) := by decide +kernel
theorem dX6_see_36 : decode cX6_see 36 = .ok (.getfield 34, 3) := by decide +kernel
theorem dX6_see_39 : decode cX6_see 39 = .ok (.iload_n 1, 1) := by decide +kernel
theorem dX6_see_40 : decode cX6_see 40 = .ok (.iload_n 2, 1) := by decide +kernel
theorem dX6_see_41 : decode cX6_see 41 = .ok (.invokevirtual 212, 3) := by decide +kernel
theorem dX6_see_44 : decode cX6_see 44 = .ok (.ifCond .eq 13, 3) := by decide +kernel
theorem dX6_see_47 : decode cX6_see 47 = .ok (.aload_n 0, 1) := by decide +kernel
theorem dX6_see_48 : decode cX6_see 48 = .ok (.getfield 34, 3) := by decide +kernel
theorem dX6_see_51 : decode cX6_see 51 = .ok (.getfield 215, 3) := by decide +kernel
theorem dX6_see_54 : decode cX6_see 54 = .ok (.goto 5, 3) := by decide +kernel
theorem dX6_see_57 : decode cX6_see 57 = .ok (.bipush (-4), 2) := by decide +kernel
theorem dX6_see_59 : decode cX6_see 59 = .ok (.ireturn, 1) := by decide +kernel
theorem dX6_worn_0 : decode cX6_worn 0 = .ok (.aload_n 0, 1) := by decide +kernel
theorem dX6_worn_1 : decode cX6_worn 1 = .ok (.getfield 17, 3) := by decide +kernel
theorem dX6_worn_4 : decode cX6_worn 4 = .ok (.iload_n 1, 1) := by decide +kernel
theorem dX6_worn_5 : decode cX6_worn 5 = .ok (.invokevirtual 90, 3) := by decide +kernel
theorem dX6_worn_8 : decode cX6_worn 8 = .ok (.ifCond .eq 12, 3) := by decide +kernel
theorem dX6_worn_11 : decode cX6_worn 11 = .ok (.iload_n 2, 1) := by decide +kernel
theorem dX6_worn_12 : decode cX6_worn 12 = .ok (.iconst 0, 1) := by decide +kernel
theorem dX6_worn_13 : decode cX6_worn 13 = .ok (.iconst 1, 1) := by decide +kernel
theorem dX6_worn_14 : decode cX6_worn 14 = .ok (.invokestatic 78, 3) := by decide +kernel
theorem dX6_worn_17 : decode cX6_worn 17 = .ok (.ifCond .ne 5, 3) := by decide +kernel
theorem dX6_worn_20 : decode cX6_worn 20 = .ok (.iconst (-1), 1) := by decide +kernel
theorem dX6_worn_21 : decode cX6_worn 21 = .ok (.ireturn, 1) := by decide +kernel
theorem dX6_worn_22 : decode cX6_worn 22 = .ok (.aload_n 0, 1) := by decide +kernel
theorem dX6_worn_23 : decode cX6_worn 23 = .ok (.aload_n 0, 1) := by decide +kernel
theorem dX6_worn_24 : decode cX6_worn 24 = .ok (.getfield 26, 3) := by decide +kernel
theorem dX6_worn_27 : decode cX6_worn 27 = .ok (.getfield 104, 3) := by decide +kernel
theorem dX6_worn_30 : decode cX6_worn 30 = .ok (.iload_n 1, 1) := by decide +kernel
theorem dX6_worn_31 : decode cX6_worn 31 = .ok (.bipush 60, 2) := by decide +kernel
theorem dX6_worn_33 : decode cX6_worn 33 = .ok (.iload_n 2, 1) := by decide +kernel
theorem dX6_worn_34 : decode cX6_worn 34 = .ok (.invokevirtual 216, 3) := by decide +kernel
theorem dX6_worn_37 : decode cX6_worn 37 = .ok (.ireturn, 1) := by decide +kernel
theorem dX6_can_0 : decode cX6_can 0 = .ok (.aload_n 0, 1) := by decide +kernel
theorem dX6_can_1 : decode cX6_can 1 = .ok (.getfield 17, 3) := by decide +kernel
theorem dX6_can_4 : decode cX6_can 4 = .ok (.iload_n 1, 1) := by decide +kernel
theorem dX6_can_5 : decode cX6_can 5 = .ok (.invokevirtual 90, 3) := by decide +kernel
theorem dX6_can_8 : decode cX6_can 8 = .ok (.ifCond .eq 12, 3) := by decide +kernel
theorem dX6_can_11 : decode cX6_can 11 = .ok (.iload_n 2, 1) := by decide +kernel
theorem dX6_can_12 : decode cX6_can 12 = .ok (.iconst 0, 1) := by decide +kernel
theorem dX6_can_13 : decode cX6_can 13 = .ok (.iconst 1, 1) := by decide +kernel
theorem dX6_can_14 : decode cX6_can 14 = .ok (.invokestatic 78, 3) := by decide +kernel
theorem dX6_can_17 : decode cX6_can 17 = .ok (.ifCond .ne 5, 3) := by decide +kernel
theorem dX6_can_20 : decode cX6_can 20 = .ok (.iconst (-1), 1) := by decide +kernel
theorem dX6_can_21 : decode cX6_can 21 = .ok (.ireturn, 1) := by decide +kernel
theorem dX6_can_22 : decode cX6_can 22 = .ok (.aload_n 0, 1) := by decide +kernel
theorem dX6_can_23 : decode cX6_can 23 = .ok (.aload_n 0, 1) := by decide +kernel
theorem dX6_can_24 : decode cX6_can 24 = .ok (.getfield 26, 3) := by decide +kernel
theorem dX6_can_27 : decode cX6_can 27 = .ok (.getfield 98, 3) := by decide +kernel
theorem dX6_can_30 : decode cX6_can 30 = .ok (.iload_n 1, 1) := by decide +kernel
theorem dX6_can_31 : decode cX6_can 31 = .ok (.bipush 9, 2) := by decide +kernel
theorem dX6_can_33 : decode cX6_can 33 = .ok (.iload_n 2, 1) := by decide +kernel
theorem dX6_can_34 : decode cX6_can 34 = .ok (.invokevirtual 216, 3) := by decide +kernel
theorem dX6_can_37 : decode cX6_can 37 = .ok (.ireturn, 1) := by decide +kernel
theorem dX6_fitting_0 : decode cX6_fitting 0 = .ok (.iconst 0, 1) := by decide +kernel
theorem dX6_fitting_1 : decode cX6_fitting 1 = .ok (.istore 5, 2) := by decide +kernel
theorem dX6_fitting_3 : decode cX6_fitting 3 = .ok (.bipush (-5), 2) := by decide +kernel
theorem dX6_fitting_5 : decode cX6_fitting 5 = .ok (.istore 6, 2) := by decide +kernel
theorem dX6_fitting_7 : decode cX6_fitting 7 = .ok (.iconst 0, 1) := by decide +kernel
theorem dX6_fitting_8 : decode cX6_fitting 8 = .ok (.istore 7, 2) := by decide +kernel
theorem dX6_fitting_10 : decode cX6_fitting 10 = .ok (.iload 7, 2) := by decide +kernel
theorem dX6_fitting_12 : decode cX6_fitting 12 = .ok (.iload_n 3, 1) := by decide +kernel
theorem dX6_fitting_13 : decode cX6_fitting 13 = .ok (.if_icmp .gt 49, 3) := by decide +kernel
theorem dX6_fitting_16 : decode cX6_fitting 16 = .ok (.aload_n 0, 1) := by decide +kernel
theorem dX6_fitting_17 : decode cX6_fitting 17 = .ok (.getfield 26, 3) := by decide +kernel
theorem dX6_fitting_20 : decode cX6_fitting 20 = .ok (.aload_n 0, 1) := by decide +kernel
theorem dX6_fitting_21 : decode cX6_fitting 21 = .ok (.getfield 17, 3) := by decide +kernel
theorem dX6_fitting_24 : decode cX6_fitting 24 = .ok (.invokevirtual 185, 3) := by decide +kernel
theorem dX6_fitting_27 : decode cX6_fitting 27 = .ok (.aload_n 1, 1) := by decide +kernel
theorem dX6_fitting_28 : decode cX6_fitting 28 = .ok (.iload_n 2, 1) := by decide +kernel
theorem dX6_fitting_29 : decode cX6_fitting 29 = .ok (.iload 7, 2) := by decide +kernel
theorem dX6_fitting_31 : decode cX6_fitting 31 = .ok (.iastore, 1) := by decide +kernel
theorem dX6_fitting_32 : decode cX6_fitting 32 = .ok (.aload_n 0, 1) := by decide +kernel
theorem dX6_fitting_33 : decode cX6_fitting 33 = .ok (.invokevirtual 220, 3) := by decide +kernel
theorem dX6_fitting_36 : decode cX6_fitting 36 = .ok (.ifCond .eq 20, 3) := by decide +kernel
theorem dX6_fitting_39 : decode cX6_fitting 39 = .ok (.iload 5, 2) := by decide +kernel
theorem dX6_fitting_41 : decode cX6_fitting 41 = .ok (.ifCond .ne 8, 3) := by decide +kernel
theorem dX6_fitting_44 : decode cX6_fitting 44 = .ok (.iload 7, 2) := by decide +kernel
theorem dX6_fitting_46 : decode cX6_fitting 46 = .ok (.goto 5, 3) := by decide +kernel
theorem dX6_fitting_49 : decode cX6_fitting 49 = .ok (.iload 6, 2) := by decide +kernel
theorem dX6_fitting_51 : decode cX6_fitting 51 = .ok (.istore 6, 2) := by decide +kernel
theorem dX6_fitting_53 : decode cX6_fitting 53 = .ok (.iinc 5 1, 3) := by decide +kernel
theorem dX6_fitting_56 : decode cX6_fitting 56 = .ok (.iinc 7 1, 3) := by decide +kernel
theorem dX6_fitting_59 : decode cX6_fitting 59 = .ok (.goto (-49), 3) := by decide +kernel
theorem dX6_fitting_62 : decode cX6_fitting 62 = .ok (.iload 4, 2) := by decide +kernel
theorem dX6_fitting_64 : decode cX6_fitting 64 = .ok (.ifCond .ne 8, 3) := by decide +kernel
theorem dX6_fitting_67 : decode cX6_fitting 67 = .ok (.iload 5, 2) := by decide +kernel
theorem dX6_fitting_69 : decode cX6_fitting 69 = .ok (.goto 5, 3) := by decide +kernel
theorem dX6_fitting_72 : decode cX6_fitting 72 = .ok (.iload 6, 2) := by decide +kernel
theorem dX6_fitting_74 : decode cX6_fitting 74 = .ok (.ireturn, 1) := by decide +kernel
theorem dX6_seenIsSo_0 : decode cX6_seenIsSo 0 = .ok (.iconst 0, 1) := by decide +kernel
theorem dX6_seenIsSo_1 : decode cX6_seenIsSo 1 = .ok (.istore_n 1, 1) := by decide +kernel
theorem dX6_seenIsSo_2 : decode cX6_seenIsSo 2 = .ok (.iconst 0, 1) := by decide +kernel
theorem dX6_seenIsSo_3 : decode cX6_seenIsSo 3 = .ok (.istore_n 2, 1) := by decide +kernel
theorem dX6_seenIsSo_4 : decode cX6_seenIsSo 4 = .ok (.iload_n 2, 1) := by decide +kernel
theorem dX6_seenIsSo_5 : decode cX6_seenIsSo 5 = .ok (.aload_n 0, 1) := by decide +kernel
theorem dX6_seenIsSo_6 : decode cX6_seenIsSo 6 = .ok (.getfield 34, 3) := by decide +kernel
theorem dX6_seenIsSo_9 : decode cX6_seenIsSo 9 = .ok (.getfield 215, 3) := by decide +kernel
theorem dX6_seenIsSo_12 : decode cX6_seenIsSo 12 = .ok (.if_icmp .ge 23, 3) := by decide +kernel
theorem dX6_seenIsSo_15 : decode cX6_seenIsSo 15 = .ok (.iload_n 1, 1) := by decide +kernel
theorem dX6_seenIsSo_16 : decode cX6_seenIsSo 16 = .ok (.aload_n 0, 1) := by decide +kernel
theorem dX6_seenIsSo_17 : decode cX6_seenIsSo 17 = .ok (.getfield 34, 3) := by decide +kernel
theorem dX6_seenIsSo_20 : decode cX6_seenIsSo 20 = .ok (.getfield 224, 3) := by decide +kernel
theorem dX6_seenIsSo_23 : decode cX6_seenIsSo 23 = .ok (.iload_n 2, 1) := by decide +kernel
theorem dX6_seenIsSo_24 : decode cX6_seenIsSo 24 = .ok (.iaload, 1) := by decide +kernel
theorem dX6_seenIsSo_25 : decode cX6_seenIsSo 25 = .ok (.invokestatic 227, 3) := by decide +kernel
theorem dX6_seenIsSo_28 : decode cX6_seenIsSo 28 = .ok (.istore_n 1, 1) := by decide +kernel
theorem dX6_seenIsSo_29 : decode cX6_seenIsSo 29 = .ok (.iinc 2 1, 3) := by decide +kernel
theorem dX6_seenIsSo_32 : decode cX6_seenIsSo 32 = .ok (.goto (-28), 3) := by decide +kernel
theorem dX6_seenIsSo_35 : decode cX6_seenIsSo 35 = .ok (.iconst 0, 1) := by decide +kernel
theorem dX6_seenIsSo_36 : decode cX6_seenIsSo 36 = .ok (.istore_n 2, 1) := by decide +kernel
theorem dX6_seenIsSo_37 : decode cX6_seenIsSo 37 = .ok (.iload_n 2, 1) := by decide +kernel
theorem dX6_seenIsSo_38 : decode cX6_seenIsSo 38 = .ok (.iload_n 1, 1) := by decide +kernel
theorem dX6_seenIsSo_39 : decode cX6_seenIsSo 39 = .ok (.if_icmp .gt 70, 3) := by decide +kernel
theorem dX6_seenIsSo_42 : decode cX6_seenIsSo 42 = .ok (.iconst 0, 1) := by decide +kernel
theorem dX6_seenIsSo_43 : decode cX6_seenIsSo 43 = .ok (.istore_n 3, 1) := by decide +kernel
theorem dX6_seenIsSo_44 : decode cX6_seenIsSo 44 = .ok (.iload_n 3, 1) := by decide +kernel
theorem dX6_seenIsSo_45 : decode cX6_seenIsSo 45 = .ok (.aload_n 0, 1) := by decide +kernel
theorem dX6_seenIsSo_46 : decode cX6_seenIsSo 46 = .ok (.getfield 34, 3) := by decide +kernel
theorem dX6_seenIsSo_49 : decode cX6_seenIsSo 49 = .ok (.getfield 215, 3) := by decide +kernel
theorem dX6_seenIsSo_52 : decode cX6_seenIsSo 52 = .ok (.if_icmp .ge 43, 3) := by decide +kernel
theorem dX6_seenIsSo_55 : decode cX6_seenIsSo 55 = .ok (.aload_n 0, 1) := by decide +kernel
theorem dX6_seenIsSo_56 : decode cX6_seenIsSo 56 = .ok (.getfield 34, 3) := by decide +kernel
theorem dX6_seenIsSo_59 : decode cX6_seenIsSo 59 = .ok (.getfield 224, 3) := by decide +kernel
theorem dX6_seenIsSo_62 : decode cX6_seenIsSo 62 = .ok (.iload_n 3, 1) := by decide +kernel
theorem dX6_seenIsSo_63 : decode cX6_seenIsSo 63 = .ok (.iaload, 1) := by decide +kernel
theorem dX6_seenIsSo_64 : decode cX6_seenIsSo 64 = .ok (.iload_n 2, 1) := by decide +kernel
theorem dX6_seenIsSo_65 : decode cX6_seenIsSo 65 = .ok (.if_icmp .ne 24, 3) := by decide +kernel
theorem dX6_seenIsSo_68 : decode cX6_seenIsSo 68 = .ok (.aload_n 0, 1) := by decide +kernel
theorem dX6_seenIsSo_69 : decode cX6_seenIsSo 69 = .ok (.getfield 34, 3) := by decide +kernel
theorem dX6_seenIsSo_72 : decode cX6_seenIsSo 72 = .ok (.getfield 232, 3) := by decide +kernel
theorem dX6_seenIsSo_75 : decode cX6_seenIsSo 75 = .ok (.iload_n 3, 1) := by decide +kernel
theorem dX6_seenIsSo_76 : decode cX6_seenIsSo 76 = .ok (.iaload, 1) := by decide +kernel
theorem dX6_seenIsSo_77 : decode cX6_seenIsSo 77 = .ok (.aload_n 0, 1) := by decide +kernel
theorem dX6_seenIsSo_78 : decode cX6_seenIsSo 78 = .ok (.getfield 26, 3) := by decide +kernel
theorem dX6_seenIsSo_81 : decode cX6_seenIsSo 81 = .ok (.getfield 134, 3) := by decide +kernel
theorem dX6_seenIsSo_84 : decode cX6_seenIsSo 84 = .ok (.if_icmp .eq 5, 3) := by decide +kernel
theorem dX6_seenIsSo_87 : decode cX6_seenIsSo 87 = .ok (.iconst 0, 1) := by decide +kernel
theorem dX6_seenIsSo_88 : decode cX6_seenIsSo 88 = .ok (.ireturn, 1) := by decide +kernel
theorem dX6_seenIsSo_89 : decode cX6_seenIsSo 89 = .ok (.iinc 3 1, 3) := by decide +kernel
theorem dX6_seenIsSo_92 : decode cX6_seenIsSo 92 = .ok (.goto (-48), 3) := by decide +kernel
theorem dX6_seenIsSo_95 : decode cX6_seenIsSo 95 = .ok (.aload_n 0, 1) := by decide +kernel
theorem dX6_seenIsSo_96 : decode cX6_seenIsSo 96 = .ok (.getfield 26, 3) := by decide +kernel
theorem dX6_seenIsSo_99 : decode cX6_seenIsSo 99 = .ok (.invokevirtual 182, 3) := by decide +kernel
theorem dX6_seenIsSo_102 : decode cX6_seenIsSo 102 = .ok (.pop, 1) := by decide +kernel
theorem dX6_seenIsSo_103 : decode cX6_seenIsSo 103 = .ok (.iinc 2 1, 3) := by decide +kernel
theorem dX6_seenIsSo_106 : decode cX6_seenIsSo 106 = .ok (.goto (-69), 3) := by decide +kernel
theorem dX6_seenIsSo_109 : decode cX6_seenIsSo 109 = .ok (.iconst 1, 1) := by decide +kernel
theorem dX6_seenIsSo_110 : decode cX6_seenIsSo 110 = .ok (.ireturn, 1) := by decide +kernel
theorem dX6_odds_0 : decode cX6_odds 0 = .ok (.iload_n 1, 1) := by decide +kernel
theorem dX6_odds_1 : decode cX6_odds 1 = .ok (.iconst 0, 1) := by decide +kernel
theorem dX6_odds_2 : decode cX6_odds 2 = .ok (.bipush 60, 2) := by decide +kernel
theorem dX6_odds_4 : decode cX6_odds 4 = .ok (.invokestatic 78, 3) := by decide +kernel
theorem dX6_odds_7 : decode cX6_odds 7 = .ok (.ifCond .eq 22, 3) := by decide +kernel
theorem dX6_odds_10 : decode cX6_odds 10 = .ok (.iload_n 2, 1) := by decide +kernel
theorem dX6_odds_11 : decode cX6_odds 11 = .ok (.iconst 0, 1) := by decide +kernel
theorem dX6_odds_12 : decode cX6_odds 12 = .ok (.iconst 1, 1) := by decide +kernel
theorem dX6_odds_13 : decode cX6_odds 13 = .ok (.invokestatic 78, 3) := by decide +kernel
theorem dX6_odds_16 : decode cX6_odds 16 = .ok (.ifCond .eq 13, 3) := by decide +kernel
theorem dX6_odds_19 : decode cX6_odds 19 = .ok (.aload_n 0, 1) := by decide +kernel
theorem dX6_odds_20 : decode cX6_odds 20 = .ok (.getfield 17, 3) := by decide +kernel
theorem dX6_odds_23 : decode cX6_odds 23 = .ok (.getfield 134, 3) := by decide +kernel
theorem dX6_odds_26 : decode cX6_odds 26 = .ok (.ifCond .ne 7, 3) := by decide +kernel
theorem dX6_odds_29 : decode cX6_odds 29 = .ok (.ldc2_w 235, 3) := by decide +kernel
theorem dX6_odds_32 : decode cX6_odds 32 = .ok (.lreturn, 1) := by decide +kernel
theorem dX6_odds_33 : decode cX6_odds 33 = .ok (.iconst 0, 1) := by decide +kernel
theorem dX6_odds_34 : decode cX6_odds 34 = .ok (.istore_n 3, 1) := by decide +kernel
theorem dX6_odds_35 : decode cX6_odds 35 = .ok (.iconst 0, 1) := by decide +kernel
theorem dX6_odds_36 : decode cX6_odds 36 = .ok (.istore 4, 2) := by decide +kernel
theorem dX6_odds_38 : decode cX6_odds 38 = .ok (.iload 4, 2) := by decide +kernel
theorem dX6_odds_40 : decode cX6_odds 40 = .ok (.aload_n 0, 1) := by decide +kernel
theorem dX6_odds_41 : decode cX6_odds 41 = .ok (.getfield 17, 3) := by decide +kernel
theorem dX6_odds_44 : decode cX6_odds 44 = .ok (.getfield 134, 3) := by decide +kernel
theorem dX6_odds_47 : decode cX6_odds 47 = .ok (.if_icmp .ge 43, 3) := by decide +kernel
theorem dX6_odds_50 : decode cX6_odds 50 = .ok (.aload_n 0, 1) := by decide +kernel
theorem dX6_odds_51 : decode cX6_odds 51 = .ok (.getfield 26, 3) := by decide +kernel
theorem dX6_odds_54 : decode cX6_odds 54 = .ok (.aload_n 0, 1) := by decide +kernel
theorem dX6_odds_55 : decode cX6_odds 55 = .ok (.getfield 17, 3) := by decide +kernel
theorem dX6_odds_58 : decode cX6_odds 58 = .ok (.invokevirtual 185, 3) := by decide +kernel
theorem dX6_odds_61 : decode cX6_odds 61 = .ok (.aload_n 0, 1) := by decide +kernel
theorem dX6_odds_62 : decode cX6_odds 62 = .ok (.getfield 26, 3) := by decide +kernel
theorem dX6_odds_65 : decode cX6_odds 65 = .ok (.iload 4, 2) := by decide +kernel
theorem dX6_odds_67 : decode cX6_odds 67 = .ok (.putfield 134, 3) := by decide +kernel
theorem dX6_odds_70 : decode cX6_odds 70 = .ok (.aload_n 0, 1) := by decide +kernel
theorem dX6_odds_71 : decode cX6_odds 71 = .ok (.getfield 26, 3) := by decide +kernel
theorem dX6_odds_74 : decode cX6_odds 74 = .ok (.iload_n 1, 1) := by decide +kernel
theorem dX6_odds_75 : decode cX6_odds 75 = .ok (.invokevirtual 189, 3) := by decide +kernel
theorem dX6_odds_78 : decode cX6_odds 78 = .ok (.ifCond .eq 6, 3) := by decide +kernel
theorem dX6_odds_81 : decode cX6_odds 81 = .ok (.iinc 3 1, 3) := by decide +kernel
theorem dX6_odds_84 : decode cX6_odds 84 = .ok (.iinc 4 1, 3) := by decide +kernel
theorem dX6_odds_87 : decode cX6_odds 87 = .ok (.goto (-49), 3) := by decide +kernel
theorem dX6_odds_90 : decode cX6_odds 90 = .ok (.iload_n 3, 1) := by decide +kernel
theorem dX6_odds_91 : decode cX6_odds 91 = .ok (.aload_n 0, 1) := by decide +kernel
theorem dX6_odds_92 : decode cX6_odds 92 = .ok (.getfield 17, 3) := by decide +kernel
theorem dX6_odds_95 : decode cX6_odds 95 = .ok (.getfield 134, 3) := by decide +kernel
theorem dX6_odds_98 : decode cX6_odds 98 = .ok (.iload_n 2, 1) := by decide +kernel
theorem dX6_odds_99 : decode cX6_odds 99 = .ok (.invokestatic 237, 3) := by decide +kernel
theorem dX6_odds_102 : decode cX6_odds 102 = .ok (.lreturn, 1) := by decide +kernel
theorem dX6_mean_0 : decode cX6_mean 0 = .ok (.iload_n 1, 1) := by decide +kernel
theorem dX6_mean_1 : decode cX6_mean 1 = .ok (.iconst 0, 1) := by decide +kernel
theorem dX6_mean_2 : decode cX6_mean 2 = .ok (.iconst 1, 1) := by decide +kernel
theorem dX6_mean_3 : decode cX6_mean 3 = .ok (.invokestatic 78, 3) := by decide +kernel
theorem dX6_mean_6 : decode cX6_mean 6 = .ok (.ifCond .eq 13, 3) := by decide +kernel
theorem dX6_mean_9 : decode cX6_mean 9 = .ok (.aload_n 0, 1) := by decide +kernel
theorem dX6_mean_10 : decode cX6_mean 10 = .ok (.getfield 17, 3) := by decide +kernel
theorem dX6_mean_13 : decode cX6_mean 13 = .ok (.getfield 134, 3) := by decide +kernel
theorem dX6_mean_16 : decode cX6_mean 16 = .ok (.ifCond .ne 7, 3) := by decide +kernel
theorem dX6_mean_19 : decode cX6_mean 19 = .ok (.ldc2_w 235, 3) := by decide +kernel
theorem dX6_mean_22 : decode cX6_mean 22 = .ok (.lreturn, 1) := by decide +kernel
theorem dX6_mean_23 : decode cX6_mean 23 = .ok (.iconst 0, 1) := by decide +kernel
theorem dX6_mean_24 : decode cX6_mean 24 = .ok (.istore_n 2, 1) := by decide +kernel
theorem dX6_mean_25 : decode cX6_mean 25 = .ok (.iconst 0, 1) := by decide +kernel
theorem dX6_mean_26 : decode cX6_mean 26 = .ok (.istore_n 3, 1) := by decide +kernel
theorem dX6_mean_27 : decode cX6_mean 27 = .ok (.iload_n 3, 1) := by decide +kernel
theorem dX6_mean_28 : decode cX6_mean 28 = .ok (.aload_n 0, 1) := by decide +kernel
theorem dX6_mean_29 : decode cX6_mean 29 = .ok (.getfield 17, 3) := by decide +kernel
theorem dX6_mean_32 : decode cX6_mean 32 = .ok (.getfield 134, 3) := by decide +kernel
theorem dX6_mean_35 : decode cX6_mean 35 = .ok (.if_icmp .ge 20, 3) := by decide +kernel
theorem dX6_mean_38 : decode cX6_mean 38 = .ok (.iload_n 2, 1) := by decide +kernel
theorem dX6_mean_39 : decode cX6_mean 39 = .ok (.aload_n 0, 1) := by decide +kernel
theorem dX6_mean_40 : decode cX6_mean 40 = .ok (.getfield 17, 3) := by decide +kernel
theorem dX6_mean_43 : decode cX6_mean 43 = .ok (.iload_n 3, 1) := by decide +kernel
theorem dX6_mean_44 : decode cX6_mean 44 = .ok (.invokevirtual 128, 3) := by decide +kernel
theorem dX6_mean_47 : decode cX6_mean 47 = .ok (.iadd, 1) := by decide +kernel
theorem dX6_mean_48 : decode cX6_mean 48 = .ok (.istore_n 2, 1) := by decide +kernel
theorem dX6_mean_49 : decode cX6_mean 49 = .ok (.iinc 3 1, 3) := by decide +kernel
theorem dX6_mean_52 : decode cX6_mean 52 = .ok (.goto (-25), 3) := by decide +kernel
theorem dX6_mean_55 : decode cX6_mean 55 = .ok (.iload_n 2, 1) := by decide +kernel
theorem dX6_mean_56 : decode cX6_mean 56 = .ok (.aload_n 0, 1) := by decide +kernel
theorem dX6_mean_57 : decode cX6_mean 57 = .ok (.getfield 17, 3) := by decide +kernel
theorem dX6_mean_60 : decode cX6_mean 60 = .ok (.getfield 134, 3) := by decide +kernel
theorem dX6_mean_63 : decode cX6_mean 63 = .ok (.iload_n 1, 1) := by decide +kernel
theorem dX6_mean_64 : decode cX6_mean 64 = .ok (.invokestatic 237, 3) := by decide +kernel
theorem dX6_mean_67 : decode cX6_mean 67 = .ok (.lreturn, 1) := by decide +kernel
theorem dX6_inLowestTerms_0 : decode cX6_inLowestTerms 0 = .ok (.iload_n 1, 1) := by decide +kernel
theorem dX6_inLowestTerms_1 : decode cX6_inLowestTerms 1 = .ok (.ifCond .le 13, 3) := by decide +kernel
theorem dX6_inLowestTerms_4 : decode cX6_inLowestTerms 4 = .ok (.iload_n 0, 1) := by decide +kernel
theorem dX6_inLowestTerms_5 : decode cX6_inLowestTerms 5 = .ok (.iload_n 1, 1) := by decide +kernel
theorem dX6_inLowestTerms_6 : decode cX6_inLowestTerms 6 = .ok (.irem, 1) := by decide +kernel
theorem dX6_inLowestTerms_7 : decode cX6_inLowestTerms 7 = .ok (.ifCond .ne 7, 3) := by decide +kernel
theorem dX6_inLowestTerms_10 : decode cX6_inLowestTerms 10 = .ok (.iconst 1, 1) := by decide +kernel
theorem dX6_inLowestTerms_11 : decode cX6_inLowestTerms 11 = .ok (.goto 4, 3) := by decide +kernel
theorem dX6_inLowestTerms_14 : decode cX6_inLowestTerms 14 = .ok (.iconst 0, 1) := by decide +kernel
theorem dX6_inLowestTerms_15 : decode cX6_inLowestTerms 15 = .ok (.istore_n 3, 1) := by decide +kernel
theorem dX6_inLowestTerms_16 : decode cX6_inLowestTerms 16 = .ok (.iload_n 2, 1) := by decide +kernel
theorem dX6_inLowestTerms_17 : decode cX6_inLowestTerms 17 = .ok (.ifCond .ne 17, 3) := by decide +kernel
theorem dX6_inLowestTerms_20 : decode cX6_inLowestTerms 20 = .ok (.iload_n 3, 1) := by decide +kernel
theorem dX6_inLowestTerms_21 : decode cX6_inLowestTerms 21 = .ok (.ifCond .eq 10, 3) := by decide +kernel
theorem dX6_inLowestTerms_24 : decode cX6_inLowestTerms 24 = .ok (.iload_n 0, 1) := by decide +kernel
theorem dX6_inLowestTerms_25 : decode cX6_inLowestTerms 25 = .ok (.iload_n 1, 1) := by decide +kernel
theorem dX6_inLowestTerms_26 : decode cX6_inLowestTerms 26 = .ok (.idiv, 1) := by decide +kernel
theorem dX6_inLowestTerms_27 : decode cX6_inLowestTerms 27 = .ok (.i2l, 1) := by decide +kernel
theorem dX6_inLowestTerms_28 : decode cX6_inLowestTerms 28 = .ok (.goto 5, 3) := by decide +kernel
theorem dX6_inLowestTerms_31 : decode cX6_inLowestTerms 31 = .ok (.iload_n 0, 1) := by decide +kernel
theorem dX6_inLowestTerms_32 : decode cX6_inLowestTerms 32 = .ok (.i2l, 1) := by decide +kernel
theorem dX6_inLowestTerms_33 : decode cX6_inLowestTerms 33 = .ok (.lreturn, 1) := by decide +kernel
theorem dX6_inLowestTerms_34 : decode cX6_inLowestTerms 34 = .ok (.iload_n 3, 1) := by decide +kernel
theorem dX6_inLowestTerms_35 : decode cX6_inLowestTerms 35 = .ok (.ifCond .eq 7, 3) := by decide +kernel
theorem dX6_inLowestTerms_38 : decode cX6_inLowestTerms 38 = .ok (.lconst 1, 1) := by decide +kernel
theorem dX6_inLowestTerms_39 : decode cX6_inLowestTerms 39 = .ok (.goto 5, 3) := by decide +kernel
theorem dX6_inLowestTerms_42 : decode cX6_inLowestTerms 42 = .ok (.iload_n 1, 1) := by decide +kernel
theorem dX6_inLowestTerms_43 : decode cX6_inLowestTerms 43 = .ok (.i2l, 1) := by decide +kernel
theorem dX6_inLowestTerms_44 : decode cX6_inLowestTerms 44 = .ok (.lreturn, 1) := by decide +kernel
theorem dX6_plan_0 : decode cX6_plan 0 = .ok (.iload_n 1, 1) := by decide +kernel
theorem dX6_plan_1 : decode cX6_plan 1 = .ok (.iconst (-1), 1) := by decide +kernel
theorem dX6_plan_2 : decode cX6_plan 2 = .ok (.if_icmp .ne 11, 3) := by decide +kernel
theorem dX6_plan_5 : decode cX6_plan 5 = .ok (.aload_n 0, 1) := by decide +kernel
theorem dX6_plan_6 : decode cX6_plan 6 = .ok (.getfield 38, 3) := by decide +kernel
theorem dX6_plan_9 : decode cX6_plan 9 = .ok (.invokevirtual 209, 3) := by decide +kernel
theorem dX6_plan_12 : decode cX6_plan 12 = .ok (.ireturn, 1) := by decide +kernel
theorem dX6_plan_13 : decode cX6_plan 13 = .ok (.iload_n 1, 1) := by decide +kernel
theorem dX6_plan_14 : decode cX6_plan 14 = .ok (.iconst 0, 1) := by decide +kernel
theorem dX6_plan_15 : decode cX6_plan 15 = .ok (.iconst 4, 1) := by decide +kernel
theorem dX6_plan_16 : decode cX6_plan 16 = .ok (.invokestatic 78, 3) := by decide +kernel
theorem dX6_plan_19 : decode cX6_plan 19 = .ok (.ifCond .eq 19, 3) := by decide +kernel
theorem dX6_plan_22 : decode cX6_plan 22 = .ok (.iload_n 1, 1) := by decide +kernel
theorem dX6_plan_23 : decode cX6_plan 23 = .ok (.iconst 3, 1) := by decide +kernel
theorem dX6_plan_24 : decode cX6_plan 24 = .ok (.if_icmp .ne 16, 3) := by decide +kernel
theorem dX6_plan_27 : decode cX6_plan 27 = .ok (.aload_n 0, 1) := by decide +kernel
theorem dX6_plan_28 : decode cX6_plan 28 = .ok (.getfield 17, 3) := by decide +kernel
theorem dX6_plan_31 : decode cX6_plan 31 = .ok (.iload_n 2, 1) := by decide +kernel
theorem dX6_plan_32 : decode cX6_plan 32 = .ok (.invokevirtual 90, 3) := by decide +kernel
theorem dX6_plan_35 : decode cX6_plan 35 = .ok (.ifCond .ne 5, 3) := by decide +kernel
theorem dX6_plan_38 : decode cX6_plan 38 = .ok (.iconst (-1), 1) := by decide +kernel
theorem dX6_plan_39 : decode cX6_plan 39 = .ok (.ireturn, 1) := by decide +kernel
theorem dX6_plan_40 : decode cX6_plan 40 = .ok (.iload_n 1, 1) := by decide +kernel
theorem dX6_plan_41 : decode cX6_plan 41 = .ok (.iconst 1, 1) := by decide +kernel
theorem dX6_plan_42 : decode cX6_plan 42 = .ok (.if_icmp .eq 8, 3) := by decide +kernel
theorem dX6_plan_45 : decode cX6_plan 45 = .ok (.iload_n 1, 1) := by decide +kernel
theorem dX6_plan_46 : decode cX6_plan 46 = .ok (.iconst 2, 1) := by decide +kernel
theorem dX6_plan_47 : decode cX6_plan 47 = .ok (.if_icmp .ne 16, 3) := by decide +kernel
theorem dX6_plan_50 : decode cX6_plan 50 = .ok (.iload_n 2, 1) := by decide +kernel
theorem dX6_plan_51 : decode cX6_plan 51 = .ok (.iconst 0, 1) := by decide +kernel
theorem dX6_plan_52 : decode cX6_plan 52 = .ok (.bipush 9, 2) := by decide +kernel
theorem dX6_plan_54 : decode cX6_plan 54 = .ok (.invokestatic 78, 3) := by decide +kernel
theorem dX6_plan_57 : decode cX6_plan 57 = .ok (.ifCond .ne 6, 3) := by decide +kernel
theorem dX6_plan_60 : decode cX6_plan 60 = .ok (.bipush (-2), 2) := by decide +kernel
theorem dX6_plan_62 : decode cX6_plan 62 = .ok (.ireturn, 1) := by decide +kernel
theorem dX6_plan_63 : decode cX6_plan 63 = .ok (.aload_n 0, 1) := by decide +kernel
theorem dX6_plan_64 : decode cX6_plan 64 = .ok (.getfield 38, 3) := by decide +kernel
theorem dX6_plan_67 : decode cX6_plan 67 = .ok (.iload_n 1, 1) := by decide +kernel
theorem dX6_plan_68 : decode cX6_plan 68 = .ok (.iload_n 2, 1) := by decide +kernel
theorem dX6_plan_69 : decode cX6_plan 69 = .ok (.invokevirtual 212, 3) := by decide +kernel
theorem dX6_plan_72 : decode cX6_plan 72 = .ok (.ifCond .eq 13, 3) := by decide +kernel
theorem dX6_plan_75 : decode cX6_plan 75 = .ok (.aload_n 0, 1) := by decide +kernel
theorem dX6_plan_76 : decode cX6_plan 76 = .ok (.getfield 38, 3) := by decide +kernel
theorem dX6_plan_79 : decode cX6_plan 79 = .ok (.getfield 215, 3) := by decide +kernel
theorem dX6_plan_82 : decode cX6_plan 82 = .ok (.goto 5, 3) := by decide +kernel
theorem dX6_plan_85 : decode cX6_plan 85 = .ok (.bipush (-4), 2) := by decide +kernel
theorem dX6_plan_87 : decode cX6_plan 87 = .ok (.ireturn, 1) := by decide +kernel
theorem dX6_ends_0 : decode cX6_ends 0 = .ok (.iload_n 1, 1) := by decide +kernel
theorem dX6_ends_1 : decode cX6_ends 1 = .ok (.iconst 0, 1) := by decide +kernel
theorem dX6_ends_2 : decode cX6_ends 2 = .ok (.iconst 1, 1) := by decide +kernel
theorem dX6_ends_3 : decode cX6_ends 3 = .ok (.invokestatic 78, 3) := by decide +kernel
theorem dX6_ends_6 : decode cX6_ends 6 = .ok (.ifCond .ne 5, 3) := by decide +kernel
theorem dX6_ends_9 : decode cX6_ends 9 = .ok (.iconst (-1), 1) := by decide +kernel
theorem dX6_ends_10 : decode cX6_ends 10 = .ok (.ireturn, 1) := by decide +kernel
theorem dX6_ends_11 : decode cX6_ends 11 = .ok (.aload_n 0, 1) := by decide +kernel
theorem dX6_ends_12 : decode cX6_ends 12 = .ok (.getfield 26, 3) := by decide +kernel
theorem dX6_ends_15 : decode cX6_ends 15 = .ok (.aload_n 0, 1) := by decide +kernel
theorem dX6_ends_16 : decode cX6_ends 16 = .ok (.getfield 17, 3) := by decide +kernel
theorem dX6_ends_19 : decode cX6_ends 19 = .ok (.invokevirtual 185, 3) := by decide +kernel
theorem dX6_ends_22 : decode cX6_ends 22 = .ok (.iconst 0, 1) := by decide +kernel
theorem dX6_ends_23 : decode cX6_ends 23 = .ok (.istore_n 2, 1) := by decide +kernel
theorem dX6_ends_24 : decode cX6_ends 24 = .ok (.iload_n 2, 1) := by decide +kernel
theorem dX6_ends_25 : decode cX6_ends 25 = .ok (.aload_n 0, 1) := by decide +kernel
theorem dX6_ends_26 : decode cX6_ends 26 = .ok (.getfield 38, 3) := by decide +kernel
theorem dX6_ends_29 : decode cX6_ends 29 = .ok (.getfield 215, 3) := by decide +kernel
theorem dX6_ends_32 : decode cX6_ends 32 = .ok (.if_icmp .ge 31, 3) := by decide +kernel
theorem dX6_ends_35 : decode cX6_ends 35 = .ok (.aload_n 0, 1) := by decide +kernel
theorem dX6_ends_36 : decode cX6_ends 36 = .ok (.aload_n 0, 1) := by decide +kernel
theorem dX6_ends_37 : decode cX6_ends 37 = .ok (.getfield 38, 3) := by decide +kernel
theorem dX6_ends_40 : decode cX6_ends 40 = .ok (.getfield 232, 3) := by decide +kernel
theorem dX6_ends_43 : decode cX6_ends 43 = .ok (.iload_n 2, 1) := by decide +kernel
theorem dX6_ends_44 : decode cX6_ends 44 = .ok (.iaload, 1) := by decide +kernel
theorem dX6_ends_45 : decode cX6_ends 45 = .ok (.aload_n 0, 1) := by decide +kernel
theorem dX6_ends_46 : decode cX6_ends 46 = .ok (.getfield 38, 3) := by decide +kernel
theorem dX6_ends_49 : decode cX6_ends 49 = .ok (.getfield 224, 3) := by decide +kernel
theorem dX6_ends_52 : decode cX6_ends 52 = .ok (.iload_n 2, 1) := by decide +kernel
theorem dX6_ends_53 : decode cX6_ends 53 = .ok (.iaload, 1) := by decide +kernel
theorem dX6_ends_54 : decode cX6_ends 54 = .ok (.invokevirtual 241, 3) := by decide +kernel
theorem dX6_ends_57 : decode cX6_ends 57 = .ok (.iinc 2 1, 3) := by decide +kernel
theorem dX6_ends_60 : decode cX6_ends 60 = .ok (.goto (-36), 3) := by decide +kernel
theorem dX6_ends_63 : decode cX6_ends 63 = .ok (.iload_n 1, 1) := by decide +kernel
theorem dX6_ends_64 : decode cX6_ends 64 = .ok (.ifCond .ne 13, 3) := by decide +kernel
theorem dX6_ends_67 : decode cX6_ends 67 = .ok (.aload_n 0, 1) := by decide +kernel
theorem dX6_ends_68 : decode cX6_ends 68 = .ok (.getfield 26, 3) := by decide +kernel
theorem dX6_ends_71 : decode cX6_ends 71 = .ok (.getfield 169, 3) := by decide +kernel
theorem dX6_ends_74 : decode cX6_ends 74 = .ok (.goto 10, 3) := by decide +kernel
theorem dX6_ends_77 : decode cX6_ends 77 = .ok (.aload_n 0, 1) := by decide +kernel
theorem dX6_ends_78 : decode cX6_ends 78 = .ok (.getfield 26, 3) := by decide +kernel
theorem dX6_ends_81 : decode cX6_ends 81 = .ok (.invokevirtual 172, 3) := by decide +kernel
theorem dX6_ends_84 : decode cX6_ends 84 = .ok (.ireturn, 1) := by decide +kernel
theorem dX6_followPlan_0 : decode cX6_followPlan 0 = .ok (.iload_n 1, 1) := by decide +kernel
theorem dX6_followPlan_1 : decode cX6_followPlan 1 = .ok (.tableswitch 97 0 3 #[31, 42, 53, 64], 31) := by decide +kernel
theorem dX6_followPlan_32 : decode cX6_followPlan 32 = .ok (.aload_n 0, 1) := by decide +kernel
theorem dX6_followPlan_33 : decode cX6_followPlan 33 = .ok (.getfield 26, 3) := by decide +kernel
theorem dX6_followPlan_36 : decode cX6_followPlan 36 = .ok (.invokevirtual 182, 3) := by decide +kernel
theorem dX6_followPlan_39 : decode cX6_followPlan 39 = .ok (.pop, 1) := by decide +kernel
theorem dX6_followPlan_40 : decode cX6_followPlan 40 = .ok (.goto 66, 3) := by decide +kernel
theorem dX6_followPlan_43 : decode cX6_followPlan 43 = .ok (.aload_n 0, 1) := by decide +kernel
theorem dX6_followPlan_44 : decode cX6_followPlan 44 = .ok (.getfield 26, 3) := by decide +kernel
theorem dX6_followPlan_47 : decode cX6_followPlan 47 = .ok (.iload_n 2, 1) := by decide +kernel
theorem dX6_followPlan_48 : decode cX6_followPlan 48 = .ok (.putfield 140, 3) := by decide +kernel
theorem dX6_followPlan_51 : decode cX6_followPlan 51 = .ok (.goto 55, 3) := by decide +kernel
theorem dX6_followPlan_54 : decode cX6_followPlan 54 = .ok (.aload_n 0, 1) := by decide +kernel
theorem dX6_followPlan_55 : decode cX6_followPlan 55 = .ok (.getfield 26, 3) := by decide +kernel
theorem dX6_followPlan_58 : decode cX6_followPlan 58 = .ok (.iload_n 2, 1) := by decide +kernel
theorem dX6_followPlan_59 : decode cX6_followPlan 59 = .ok (.putfield 143, 3) := by decide +kernel
theorem dX6_followPlan_62 : decode cX6_followPlan 62 = .ok (.goto 44, 3) := by decide +kernel
theorem dX6_followPlan_65 : decode cX6_followPlan 65 = .ok (.aload_n 0, 1) := by decide +kernel
theorem dX6_followPlan_66 : decode cX6_followPlan 66 = .ok (.getfield 26, 3) := by decide +kernel
theorem dX6_followPlan_69 : decode cX6_followPlan 69 = .ok (.iload_n 2, 1) := by decide +kernel
theorem dX6_followPlan_70 : decode cX6_followPlan 70 = .ok (.invokevirtual 90, 3) := by decide +kernel
theorem dX6_followPlan_73 : decode cX6_followPlan 73 = .ok (.ifCond .eq 33, 3) := by decide +kernel
theorem dX6_followPlan_76 : decode cX6_followPlan 76 = .ok (.aload_n 0, 1) := by decide +kernel
theorem dX6_followPlan_77 : decode cX6_followPlan 77 = .ok (.getfield 26, 3) := by decide +kernel
theorem dX6_followPlan_80 : decode cX6_followPlan 80 = .ok (.iload_n 2, 1) := by decide +kernel
theorem dX6_followPlan_81 : decode cX6_followPlan 81 = .ok (.invokevirtual 122, 3) := by decide +kernel
theorem dX6_followPlan_84 : decode cX6_followPlan 84 = .ok (.ifCond .ge 22, 3) := by decide +kernel
theorem dX6_followPlan_87 : decode cX6_followPlan 87 = .ok (.aload_n 0, 1) := by decide +kernel
theorem dX6_followPlan_88 : decode cX6_followPlan 88 = .ok (.getfield 26, 3) := by decide +kernel
theorem dX6_followPlan_91 : decode cX6_followPlan 91 = .ok (.iload_n 2, 1) := by decide +kernel
theorem dX6_followPlan_92 : decode cX6_followPlan 92 = .ok (.invokevirtual 137, 3) := by decide +kernel
theorem dX6_followPlan_95 : decode cX6_followPlan 95 = .ok (.goto 11, 3) := by decide +kernel
theorem dX6_followPlan_98 : decode cX6_followPlan 98 = .ok (.aload_n 0, 1) := by decide +kernel
theorem dX6_followPlan_99 : decode cX6_followPlan 99 = .ok (.getfield 26, 3) := by decide +kernel
theorem dX6_followPlan_102 : decode cX6_followPlan 102 = .ok (.iconst 0, 1) := by decide +kernel
theorem dX6_followPlan_103 : decode cX6_followPlan 103 = .ok (.putfield 134, 3) := by decide +kernel
theorem dX6_followPlan_106 : decode cX6_followPlan 106 = .ok (.return_, 1) := by decide +kernel
theorem dX6_book_0 : decode cX6_book 0 = .ok (.iload_n 1, 1) := by decide +kernel
theorem dX6_book_1 : decode cX6_book 1 = .ok (.iconst (-1), 1) := by decide +kernel
theorem dX6_book_2 : decode cX6_book 2 = .ok (.if_icmp .ne 11, 3) := by decide +kernel
theorem dX6_book_5 : decode cX6_book 5 = .ok (.aload_n 0, 1) := by decide +kernel
theorem dX6_book_6 : decode cX6_book 6 = .ok (.getfield 41, 3) := by decide +kernel
theorem dX6_book_9 : decode cX6_book 9 = .ok (.invokevirtual 209, 3) := by decide +kernel
theorem dX6_book_12 : decode cX6_book 12 = .ok (.ireturn, 1) := by decide +kernel
theorem dX6_book_13 : decode cX6_book 13 = .ok (.aload_n 0, 1) := by decide +kernel
theorem dX6_book_14 : decode cX6_book 14 = .ok (.getfield 17, 3) := by decide +kernel
theorem dX6_book_17 : decode cX6_book 17 = .ok (.iload_n 1, 1) := by decide +kernel
theorem dX6_book_18 : decode cX6_book 18 = .ok (.invokevirtual 90, 3) := by decide +kernel
theorem dX6_book_21 : decode cX6_book 21 = .ok (.ifCond .ne 5, 3) := by decide +kernel
theorem dX6_book_24 : decode cX6_book 24 = .ok (.iconst (-1), 1) := by decide +kernel
theorem dX6_book_25 : decode cX6_book 25 = .ok (.ireturn, 1) := by decide +kernel
theorem dX6_book_26 : decode cX6_book 26 = .ok (.iload_n 2, 1) := by decide +kernel
theorem dX6_book_27 : decode cX6_book 27 = .ok (.iconst 0, 1) := by decide +kernel
theorem dX6_book_28 : decode cX6_book 28 = .ok (.bipush 99, 2) := by decide +kernel
theorem dX6_book_30 : decode cX6_book 30 = .ok (.invokestatic 78, 3) := by decide +kernel
theorem dX6_book_33 : decode cX6_book 33 = .ok (.ifCond .ne 6, 3) := by decide +kernel
theorem dX6_book_36 : decode cX6_book 36 = .ok (.bipush (-2), 2) := by decide +kernel
theorem dX6_book_38 : decode cX6_book 38 = .ok (.ireturn, 1) := by decide +kernel
theorem dX6_book_39 : decode cX6_book 39 = .ok (.aload_n 0, 1) := by decide +kernel
theorem dX6_book_40 : decode cX6_book 40 = .ok (.getfield 41, 3) := by decide +kernel
theorem dX6_book_43 : decode cX6_book 43 = .ok (.iload_n 1, 1) := by decide +kernel
theorem dX6_book_44 : decode cX6_book 44 = .ok (.iload_n 2, 1) := by decide +kernel
theorem dX6_book_45 : decode cX6_book 45 = .ok (.invokevirtual 212, 3) := by decide +kernel
theorem dX6_book_48 : decode cX6_book 48 = .ok (.ifCond .eq 13, 3) := by decide +kernel
theorem dX6_book_51 : decode cX6_book 51 = .ok (.aload_n 0, 1) := by decide +kernel
theorem dX6_book_52 : decode cX6_book 52 = .ok (.getfield 41, 3) := by decide +kernel
theorem dX6_book_55 : decode cX6_book 55 = .ok (.getfield 215, 3) := by decide +kernel
theorem dX6_book_58 : decode cX6_book 58 = .ok (.goto 5, 3) := by decide +kernel
theorem dX6_book_61 : decode cX6_book 61 = .ok (.bipush (-4), 2) := by decide +kernel
theorem dX6_book_63 : decode cX6_book 63 = .ok (.ireturn, 1) := by decide +kernel
theorem dX6_looked_0 : decode cX6_looked 0 = .ok (.iconst 0, 1) := by decide +kernel
theorem dX6_looked_1 : decode cX6_looked 1 = .ok (.istore_n 1, 1) := by decide +kernel
theorem dX6_looked_2 : decode cX6_looked 2 = .ok (.iload_n 1, 1) := by decide +kernel
theorem dX6_looked_3 : decode cX6_looked 3 = .ok (.aload_n 0, 1) := by decide +kernel
theorem dX6_looked_4 : decode cX6_looked 4 = .ok (.getfield 41, 3) := by decide +kernel
theorem dX6_looked_7 : decode cX6_looked 7 = .ok (.getfield 215, 3) := by decide +kernel
theorem dX6_looked_10 : decode cX6_looked 10 = .ok (.if_icmp .ge 53, 3) := by decide +kernel
theorem dX6_looked_13 : decode cX6_looked 13 = .ok (.aload_n 0, 1) := by decide +kernel
theorem dX6_looked_14 : decode cX6_looked 14 = .ok (.getfield 41, 3) := by decide +kernel
theorem dX6_looked_17 : decode cX6_looked 17 = .ok (.getfield 232, 3) := by decide +kernel
theorem dX6_looked_20 : decode cX6_looked 20 = .ok (.iload_n 1, 1) := by decide +kernel
theorem dX6_looked_21 : decode cX6_looked 21 = .ok (.iaload, 1) := by decide +kernel
theorem dX6_looked_22 : decode cX6_looked 22 = .ok (.istore_n 2, 1) := by decide +kernel
theorem dX6_looked_23 : decode cX6_looked 23 = .ok (.aload_n 0, 1) := by decide +kernel
theorem dX6_looked_24 : decode cX6_looked 24 = .ok (.getfield 17, 3) := by decide +kernel
theorem dX6_looked_27 : decode cX6_looked 27 = .ok (.iload_n 2, 1) := by decide +kernel
theorem dX6_looked_28 : decode cX6_looked 28 = .ok (.invokevirtual 90, 3) := by decide +kernel
theorem dX6_looked_31 : decode cX6_looked 31 = .ok (.ifCond .eq 24, 3) := by decide +kernel
theorem dX6_looked_34 : decode cX6_looked 34 = .ok (.aload_n 0, 1) := by decide +kernel
theorem dX6_looked_35 : decode cX6_looked 35 = .ok (.getfield 17, 3) := by decide +kernel
theorem dX6_looked_38 : decode cX6_looked 38 = .ok (.getfield 101, 3) := by decide +kernel
theorem dX6_looked_41 : decode cX6_looked 41 = .ok (.iload_n 2, 1) := by decide +kernel
theorem dX6_looked_42 : decode cX6_looked 42 = .ok (.iaload, 1) := by decide +kernel
theorem dX6_looked_43 : decode cX6_looked 43 = .ok (.aload_n 0, 1) := by decide +kernel
theorem dX6_looked_44 : decode cX6_looked 44 = .ok (.getfield 41, 3) := by decide +kernel
theorem dX6_looked_47 : decode cX6_looked 47 = .ok (.getfield 224, 3) := by decide +kernel
theorem dX6_looked_50 : decode cX6_looked 50 = .ok (.iload_n 1, 1) := by decide +kernel
theorem dX6_looked_51 : decode cX6_looked 51 = .ok (.iaload, 1) := by decide +kernel
theorem dX6_looked_52 : decode cX6_looked 52 = .ok (.if_icmp .eq 5, 3) := by decide +kernel
theorem dX6_looked_55 : decode cX6_looked 55 = .ok (.iload_n 1, 1) := by decide +kernel
theorem dX6_looked_56 : decode cX6_looked 56 = .ok (.ireturn, 1) := by decide +kernel
theorem dX6_looked_57 : decode cX6_looked 57 = .ok (.iinc 1 1, 3) := by decide +kernel
theorem dX6_looked_60 : decode cX6_looked 60 = .ok (.goto (-58), 3) := by decide +kernel
theorem dX6_looked_63 : decode cX6_looked 63 = .ok (.bipush (-5), 2) := by decide +kernel
theorem dX6_looked_65 : decode cX6_looked 65 = .ok (.ireturn, 1) := by decide +kernel
theorem dX6_judge_0 : decode cX6_judge 0 = .ok (.iload_n 1, 1) := by decide +kernel
theorem dX6_judge_1 : decode cX6_judge 1 = .ok (.iconst 0, 1) := by decide +kernel
theorem dX6_judge_2 : decode cX6_judge 2 = .ok (.iconst 5, 1) := by decide +kernel
theorem dX6_judge_3 : decode cX6_judge 3 = .ok (.invokestatic 78, 3) := by decide +kernel
theorem dX6_judge_6 : decode cX6_judge 6 = .ok (.ifCond .ne 5, 3) := by decide +kernel
theorem dX6_judge_9 : decode cX6_judge 9 = .ok (.iconst (-1), 1) := by decide +kernel
theorem dX6_judge_10 : decode cX6_judge 10 = .ok (.ireturn, 1) := by decide +kernel
theorem dX6_judge_11 : decode cX6_judge 11 = .ok (.aload_n 0, 1) := by decide +kernel
theorem dX6_judge_12 : decode cX6_judge 12 = .ok (.getfield 73, 3) := by decide +kernel
theorem dX6_judge_15 : decode cX6_judge 15 = .ok (.iload_n 1, 1) := by decide +kernel
theorem dX6_judge_16 : decode cX6_judge 16 = .ok (.aaload, 1) := by decide +kernel
theorem dX6_judge_17 : decode cX6_judge 17 = .ok (.astore_n 3, 1) := by decide +kernel
theorem dX6_judge_18 : decode cX6_judge 18 = .ok (.aload_n 3, 1) := by decide +kernel
theorem dX6_judge_19 : decode cX6_judge 19 = .ok (.getfield 245, 3) := by decide +kernel
theorem dX6_judge_22 : decode cX6_judge 22 = .ok (.iconst (-1), 1) := by decide +kernel
theorem dX6_judge_23 : decode cX6_judge 23 = .ok (.if_icmp .eq 13, 3) := by decide +kernel
theorem dX6_judge_26 : decode cX6_judge 26 = .ok (.aload_n 3, 1) := by decide +kernel
theorem dX6_judge_27 : decode cX6_judge 27 = .ok (.getfield 245, 3) := by decide +kernel
theorem dX6_judge_30 : decode cX6_judge 30 = .ok (.ifCond .eq 6, 3) := by decide +kernel
theorem dX6_judge_33 : decode cX6_judge 33 = .ok (.bipush (-12), 2) := by decide +kernel
theorem dX6_judge_35 : decode cX6_judge 35 = .ok (.ireturn, 1) := by decide +kernel
theorem dX6_judge_36 : decode cX6_judge 36 = .ok (.iconst 0, 1) := by decide +kernel
theorem dX6_judge_37 : decode cX6_judge 37 = .ok (.istore 4, 2) := by decide +kernel
theorem dX6_judge_39 : decode cX6_judge 39 = .ok (.iload 4, 2) := by decide +kernel
theorem dX6_judge_41 : decode cX6_judge 41 = .ok (.aload_n 0, 1) := by decide +kernel
theorem dX6_judge_42 : decode cX6_judge 42 = .ok (.getfield 17, 3) := by decide +kernel
theorem dX6_judge_45 : decode cX6_judge 45 = .ok (.getfield 82, 3) := by decide +kernel
theorem dX6_judge_48 : decode cX6_judge 48 = .ok (.if_icmp .ge 57, 3) := by decide +kernel
theorem dX6_judge_51 : decode cX6_judge 51 = .ok (.iload_n 2, 1) := by decide +kernel
theorem dX6_judge_52 : decode cX6_judge 52 = .ok (.ifCond .lt 14, 3) := by decide +kernel
theorem dX6_judge_55 : decode cX6_judge 55 = .ok (.iload_n 2, 1) := by decide +kernel
theorem dX6_judge_56 : decode cX6_judge 56 = .ok (.aload_n 3, 1) := by decide +kernel
theorem dX6_judge_57 : decode cX6_judge 57 = .ok (.getfield 248, 3) := by decide +kernel
theorem dX6_judge_60 : decode cX6_judge 60 = .ok (.iload 4, 2) := by decide +kernel
theorem dX6_judge_62 : decode cX6_judge 62 = .ok (.isub, 1) := by decide +kernel
theorem dX6_judge_63 : decode cX6_judge 63 = .ok (.if_icmp .lt 9, 3) := by decide +kernel
theorem dX6_judge_66 : decode cX6_judge 66 = .ok (.bipush 100, 2) := by decide +kernel
theorem dX6_judge_68 : decode cX6_judge 68 = .ok (.iload 4, 2) := by decide +kernel
theorem dX6_judge_70 : decode cX6_judge 70 = .ok (.iadd, 1) := by decide +kernel
theorem dX6_judge_71 : decode cX6_judge 71 = .ok (.ireturn, 1) := by decide +kernel
theorem dX6_judge_72 : decode cX6_judge 72 = .ok (.aload_n 3, 1) := by decide +kernel
theorem dX6_judge_73 : decode cX6_judge 73 = .ok (.getfield 249, 3) := by decide +kernel
theorem dX6_judge_76 : decode cX6_judge 76 = .ok (.iload_n 2, 1) := by decide +kernel
theorem dX6_judge_77 : decode cX6_judge 77 = .ok (.iload 4, 2) := by decide +kernel
theorem dX6_judge_79 : decode cX6_judge 79 = .ok (.iadd, 1) := by decide +kernel
theorem dX6_judge_80 : decode cX6_judge 80 = .ok (.laload, 1) := by decide +kernel
theorem dX6_judge_81 : decode cX6_judge 81 = .ok (.aload_n 0, 1) := by decide +kernel
theorem dX6_judge_82 : decode cX6_judge 82 = .ok (.getfield 17, 3) := by decide +kernel
theorem dX6_judge_85 : decode cX6_judge 85 = .ok (.getfield 101, 3) := by decide +kernel
theorem dX6_judge_88 : decode cX6_judge 88 = .ok (.iload 4, 2) := by decide +kernel
theorem dX6_judge_90 : decode cX6_judge 90 = .ok (.iaload, 1) := by decide +kernel
theorem dX6_judge_91 : decode cX6_judge 91 = .ok (.i2l, 1) := by decide +kernel
theorem dX6_judge_92 : decode cX6_judge 92 = .ok (.lcmp, 1) := by decide +kernel
theorem dX6_judge_93 : decode cX6_judge 93 = .ok (.ifCond .eq 6, 3) := by decide +kernel
theorem dX6_judge_96 : decode cX6_judge 96 = .ok (.iload 4, 2) := by decide +kernel
theorem dX6_judge_98 : decode cX6_judge 98 = .ok (.ireturn, 1) := by decide +kernel
theorem dX6_judge_99 : decode cX6_judge 99 = .ok (.iinc 4 1, 3) := by decide +kernel
theorem dX6_judge_102 : decode cX6_judge 102 = .ok (.goto (-63), 3) := by decide +kernel
theorem dX6_judge_105 : decode cX6_judge 105 = .ok (.bipush (-5), 2) := by decide +kernel
theorem dX6_judge_107 : decode cX6_judge 107 = .ok (.ireturn, 1) := by decide +kernel
theorem dX6_image_0 : decode cX6_image 0 = .ok (.aload_n 0, 1) := by decide +kernel
theorem dX6_image_1 : decode cX6_image 1 = .ok (.getfield 23, 3) := by decide +kernel
theorem dX6_image_4 : decode cX6_image 4 = .ok (.aload_n 0, 1) := by decide +kernel
theorem dX6_image_5 : decode cX6_image 5 = .ok (.getfield 17, 3) := by decide +kernel
theorem dX6_image_8 : decode cX6_image 8 = .ok (.invokevirtual 253, 3) := by decide +kernel
theorem dX6_image_11 : decode cX6_image 11 = .ok (.aload_n 0, 1) := by decide +kernel
theorem dX6_image_12 : decode cX6_image 12 = .ok (.getfield 44, 3) := by decide +kernel
theorem dX6_image_15 : decode cX6_image 15 = .ok (.aload_n 0, 1) := by decide +kernel
theorem dX6_image_16 : decode cX6_image 16 = .ok (.getfield 34, 3) := by decide +kernel
theorem dX6_image_19 : decode cX6_image 19 = .ok (.invokevirtual 256, 3) := by decide +kernel
theorem dX6_image_22 : decode cX6_image 22 = .ok (.aload_n 0, 1) := by decide +kernel
theorem dX6_image_23 : decode cX6_image 23 = .ok (.getfield 47, 3) := by decide +kernel
theorem dX6_image_26 : decode cX6_image 26 = .ok (.aload_n 0, 1) := by decide +kernel
theorem dX6_image_27 : decode cX6_image 27 = .ok (.getfield 38, 3) := by decide +kernel
theorem dX6_image_30 : decode cX6_image 30 = .ok (.invokevirtual 256, 3) := by decide +kernel
theorem dX6_image_33 : decode cX6_image 33 = .ok (.aload_n 0, 1) := by decide +kernel
theorem dX6_image_34 : decode cX6_image 34 = .ok (.getfield 50, 3) := by decide +kernel
theorem dX6_image_37 : decode cX6_image 37 = .ok (.aload_n 0, 1) := by decide +kernel
theorem dX6_image_38 : decode cX6_image 38 = .ok (.getfield 41, 3) := by decide +kernel
theorem dX6_image_41 : decode cX6_image 41 = .ok (.invokevirtual 256, 3) := by decide +kernel
theorem dX6_image_44 : decode cX6_image 44 = .ok (.aload_n 0, 1) := by decide +kernel
theorem dX6_image_45 : decode cX6_image 45 = .ok (.iconst 1, 1) := by decide +kernel
theorem dX6_image_46 : decode cX6_image 46 = .ok (.putfield 259, 3) := by decide +kernel
theorem dX6_image_49 : decode cX6_image 49 = .ok (.aload_n 0, 1) := by decide +kernel
theorem dX6_image_50 : decode cX6_image 50 = .ok (.getfield 17, 3) := by decide +kernel
theorem dX6_image_53 : decode cX6_image 53 = .ok (.getfield 82, 3) := by decide +kernel
theorem dX6_image_56 : decode cX6_image 56 = .ok (.ireturn, 1) := by decide +kernel
theorem dX6_undo_0 : decode cX6_undo 0 = .ok (.aload_n 0, 1) := by decide +kernel
theorem dX6_undo_1 : decode cX6_undo 1 = .ok (.getfield 259, 3) := by decide +kernel
theorem dX6_undo_4 : decode cX6_undo 4 = .ok (.ifCond .ne 6, 3) := by decide +kernel
theorem dX6_undo_7 : decode cX6_undo 7 = .ok (.bipush (-3), 2) := by decide +kernel
theorem dX6_undo_9 : decode cX6_undo 9 = .ok (.ireturn, 1) := by decide +kernel
theorem dX6_undo_10 : decode cX6_undo 10 = .ok (.aload_n 0, 1) := by decide +kernel
theorem dX6_undo_11 : decode cX6_undo 11 = .ok (.getfield 17, 3) := by decide +kernel
theorem dX6_undo_14 : decode cX6_undo 14 = .ok (.aload_n 0, 1) := by decide +kernel
theorem dX6_undo_15 : decode cX6_undo 15 = .ok (.getfield 23, 3) := by decide +kernel
theorem dX6_undo_18 : decode cX6_undo 18 = .ok (.invokevirtual 253, 3) := by decide +kernel
theorem dX6_undo_21 : decode cX6_undo 21 = .ok (.aload_n 0, 1) := by decide +kernel
theorem dX6_undo_22 : decode cX6_undo 22 = .ok (.getfield 34, 3) := by decide +kernel
theorem dX6_undo_25 : decode cX6_undo 25 = .ok (.aload_n 0, 1) := by decide +kernel
theorem dX6_undo_26 : decode cX6_undo 26 = .ok (.getfield 44, 3) := by decide +kernel
theorem dX6_undo_29 : decode cX6_undo 29 = .ok (.invokevirtual 256, 3) := by decide +kernel
theorem dX6_undo_32 : decode cX6_undo 32 = .ok (.aload_n 0, 1) := by decide +kernel
theorem dX6_undo_33 : decode cX6_undo 33 = .ok (.getfield 38, 3) := by decide +kernel
theorem dX6_undo_36 : decode cX6_undo 36 = .ok (.aload_n 0, 1) := by decide +kernel
theorem dX6_undo_37 : decode cX6_undo 37 = .ok (.getfield 47, 3) := by decide +kernel
theorem dX6_undo_40 : decode cX6_undo 40 = .ok (.invokevirtual 256, 3) := by decide +kernel
theorem dX6_undo_43 : decode cX6_undo 43 = .ok (.aload_n 0, 1) := by decide +kernel
theorem dX6_undo_44 : decode cX6_undo 44 = .ok (.getfield 41, 3) := by decide +kernel
theorem dX6_undo_47 : decode cX6_undo 47 = .ok (.aload_n 0, 1) := by decide +kernel
theorem dX6_undo_48 : decode cX6_undo 48 = .ok (.getfield 50, 3) := by decide +kernel
theorem dX6_undo_51 : decode cX6_undo 51 = .ok (.invokevirtual 256, 3) := by decide +kernel
theorem dX6_undo_54 : decode cX6_undo 54 = .ok (.aload_n 0, 1) := by decide +kernel
theorem dX6_undo_55 : decode cX6_undo 55 = .ok (.getfield 17, 3) := by decide +kernel
theorem dX6_undo_58 : decode cX6_undo 58 = .ok (.getfield 82, 3) := by decide +kernel
theorem dX6_undo_61 : decode cX6_undo 61 = .ok (.ireturn, 1) := by decide +kernel
theorem dX6_act_0 : decode cX6_act 0 = .ok (.aload_n 0, 1) := by decide +kernel
theorem dX6_act_1 : decode cX6_act 1 = .ok (.getfield 17, 3) := by decide +kernel
theorem dX6_act_4 : decode cX6_act 4 = .ok (.iload_n 1, 1) := by decide +kernel
theorem dX6_act_5 : decode cX6_act 5 = .ok (.invokevirtual 90, 3) := by decide +kernel
theorem dX6_act_8 : decode cX6_act 8 = .ok (.ifCond .eq 12, 3) := by decide +kernel
theorem dX6_act_11 : decode cX6_act 11 = .ok (.iload_n 2, 1) := by decide +kernel
theorem dX6_act_12 : decode cX6_act 12 = .ok (.iconst 0, 1) := by decide +kernel
theorem dX6_act_13 : decode cX6_act 13 = .ok (.iconst 2, 1) := by decide +kernel
theorem dX6_act_14 : decode cX6_act 14 = .ok (.invokestatic 78, 3) := by decide +kernel
theorem dX6_act_17 : decode cX6_act 17 = .ok (.ifCond .ne 13, 3) := by decide +kernel
theorem dX6_act_20 : decode cX6_act 20 = .ok (.aload_n 0, 1) := by decide +kernel
theorem dX6_act_21 : decode cX6_act 21 = .ok (.getfield 67, 3) := by decide +kernel
theorem dX6_act_24 : decode cX6_act 24 = .ok (.iconst 0, 1) := by decide +kernel
theorem dX6_act_25 : decode cX6_act 25 = .ok (.putfield 263, 3) := by decide +kernel
theorem dX6_act_28 : decode cX6_act 28 = .ok (.iconst 0, 1) := by decide +kernel
theorem dX6_act_29 : decode cX6_act 29 = .ok (.ireturn, 1) := by decide +kernel
theorem dX6_act_30 : decode cX6_act 30 = .ok (.aload_n 0, 1) := by decide +kernel
theorem dX6_act_31 : decode cX6_act 31 = .ok (.getfield 67, 3) := by decide +kernel
theorem dX6_act_34 : decode cX6_act 34 = .ok (.aload_n 0, 1) := by decide +kernel
theorem dX6_act_35 : decode cX6_act 35 = .ok (.getfield 17, 3) := by decide +kernel
theorem dX6_act_38 : decode cX6_act 38 = .ok (.getfield 94, 3) := by decide +kernel
theorem dX6_act_41 : decode cX6_act 41 = .ok (.iload_n 1, 1) := by decide +kernel
theorem dX6_act_42 : decode cX6_act 42 = .ok (.iaload, 1) := by decide +kernel
theorem dX6_act_43 : decode cX6_act 43 = .ok (.iload_n 1, 1) := by decide +kernel
theorem dX6_act_44 : decode cX6_act 44 = .ok (.aload_n 0, 1) := by decide +kernel
theorem dX6_act_45 : decode cX6_act 45 = .ok (.getfield 17, 3) := by decide +kernel
theorem dX6_act_48 : decode cX6_act 48 = .ok (.getfield 98, 3) := by decide +kernel
theorem dX6_act_51 : decode cX6_act 51 = .ok (.iload_n 1, 1) := by decide +kernel
theorem dX6_act_52 : decode cX6_act 52 = .ok (.iaload, 1) := by decide +kernel
theorem dX6_act_53 : decode cX6_act 53 = .ok (.iload_n 2, 1) := by decide +kernel
theorem dX6_act_54 : decode cX6_act 54 = .ok (.iload_n 3, 1) := by decide +kernel
theorem dX6_act_55 : decode cX6_act 55 = .ok (.invokevirtual 266, 3) := by decide +kernel
theorem dX6_act_58 : decode cX6_act 58 = .ok (.ireturn, 1) := by decide +kernel
theorem dX6_trace_0 : decode cX6_trace 0 = .ok (.iload_n 1, 1) := by decide +kernel
theorem dX6_trace_1 : decode cX6_trace 1 = .ok (.ifCond .lt 32, 3) := by decide +kernel
theorem dX6_trace_4 : decode cX6_trace 4 = .ok (.iload_n 1, 1) := by decide +kernel
theorem dX6_trace_5 : decode cX6_trace 5 = .ok (.aload_n 0, 1) := by decide +kernel
theorem dX6_trace_6 : decode cX6_trace 6 = .ok (.getfield 67, 3) := by decide +kernel
theorem dX6_trace_9 : decode cX6_trace 9 = .ok (.getfield 263, 3) := by decide +kernel
theorem dX6_trace_12 : decode cX6_trace 12 = .ok (.if_icmp .ge 21, 3) := by decide +kernel
theorem dX6_trace_15 : decode cX6_trace 15 = .ok (.iload_n 1, 1) := by decide +kernel
theorem dX6_trace_16 : decode cX6_trace 16 = .ok (.bipush 20, 2) := by decide +kernel
theorem dX6_trace_18 : decode cX6_trace 18 = .ok (.if_icmp .ge 15, 3) := by decide +kernel
theorem dX6_trace_21 : decode cX6_trace 21 = .ok (.aload_n 0, 1) := by decide +kernel
theorem dX6_trace_22 : decode cX6_trace 22 = .ok (.getfield 67, 3) := by decide +kernel
theorem dX6_trace_25 : decode cX6_trace 25 = .ok (.getfield 270, 3) := by decide +kernel
theorem dX6_trace_28 : decode cX6_trace 28 = .ok (.iload_n 1, 1) := by decide +kernel
theorem dX6_trace_29 : decode cX6_trace 29 = .ok (.iaload, 1) := by decide +kernel
theorem dX6_trace_30 : decode cX6_trace 30 = .ok (.goto 4, 3) := by decide +kernel
theorem dX6_trace_33 : decode cX6_trace 33 = .ok (.iconst (-1), 1) := by decide +kernel
theorem dX6_trace_34 : decode cX6_trace 34 = .ok (.ireturn, 1) := by decide +kernel
theorem dX6_taken_0 : decode cX6_taken 0 = .ok (.iload_n 2, 1) := by decide +kernel
theorem dX6_taken_1 : decode cX6_taken 1 = .ok (.iconst 0, 1) := by decide +kernel
theorem dX6_taken_2 : decode cX6_taken 2 = .ok (.bipush 6, 2) := by decide +kernel
theorem dX6_taken_4 : decode cX6_taken 4 = .ok (.invokestatic 78, 3) := by decide +kernel
theorem dX6_taken_7 : decode cX6_taken 7 = .ok (.ifCond .ne 6, 3) := by decide +kernel
theorem dX6_taken_10 : decode cX6_taken 10 = .ok (.bipush (-2), 2) := by decide +kernel
theorem dX6_taken_12 : decode cX6_taken 12 = .ok (.ireturn, 1) := by decide +kernel
theorem dX6_taken_13 : decode cX6_taken 13 = .ok (.aload_n 0, 1) := by decide +kernel
theorem dX6_taken_14 : decode cX6_taken 14 = .ok (.getfield 17, 3) := by decide +kernel
theorem dX6_taken_17 : decode cX6_taken 17 = .ok (.iload_n 1, 1) := by decide +kernel
theorem dX6_taken_18 : decode cX6_taken 18 = .ok (.invokevirtual 90, 3) := by decide +kernel
theorem dX6_taken_21 : decode cX6_taken 21 = .ok (.ifCond .ne 6, 3) := by decide +kernel
theorem dX6_taken_24 : decode cX6_taken 24 = .ok (.bipush (-11), 2) := by decide +kernel
theorem dX6_taken_26 : decode cX6_taken 26 = .ok (.ireturn, 1) := by decide +kernel
theorem dX6_taken_27 : decode cX6_taken 27 = .ok (.aload_n 0, 1) := by decide +kernel
theorem dX6_taken_28 : decode cX6_taken 28 = .ok (.getfield 17, 3) := by decide +kernel
theorem dX6_taken_31 : decode cX6_taken 31 = .ok (.getfield 94, 3) := by decide +kernel
theorem dX6_taken_34 : decode cX6_taken 34 = .ok (.iload_n 1, 1) := by decide +kernel
theorem dX6_taken_35 : decode cX6_taken 35 = .ok (.iaload, 1) := by decide +kernel
theorem dX6_taken_36 : decode cX6_taken 36 = .ok (.istore_n 3, 1) := by decide +kernel
theorem dX6_taken_37 : decode cX6_taken 37 = .ok (.iload_n 3, 1) := by decide +kernel
theorem dX6_taken_38 : decode cX6_taken 38 = .ok (.istore 4, 2) := by decide +kernel
theorem dX6_taken_40 : decode cX6_taken 40 = .ok (.iconst 0, 1) := by decide +kernel
theorem dX6_taken_41 : decode cX6_taken 41 = .ok (.istore 5, 2) := by decide +kernel
theorem dX6_taken_43 : decode cX6_taken 43 = .ok (.iload 5, 2) := by decide +kernel
theorem dX6_taken_45 : decode cX6_taken 45 = .ok (.bipush 7, 2) := by decide +kernel
theorem dX6_taken_47 : decode cX6_taken 47 = .ok (.if_icmp .ge 30, 3) := by decide +kernel
theorem dX6_taken_50 : decode cX6_taken 50 = .ok (.iload 4, 2) := by decide +kernel
theorem dX6_taken_52 : decode cX6_taken 52 = .ok (.ifCond .lt 25, 3) := by decide +kernel
theorem dX6_taken_55 : decode cX6_taken 55 = .ok (.iload 4, 2) := by decide +kernel
theorem dX6_taken_57 : decode cX6_taken 57 = .ok (.iload_n 2, 1) := by decide +kernel
theorem dX6_taken_58 : decode cX6_taken 58 = .ok (.if_icmp .ne 5, 3) := by decide +kernel
theorem dX6_taken_61 : decode cX6_taken 61 = .ok (.iload_n 3, 1) := by decide +kernel
theorem dX6_taken_62 : decode cX6_taken 62 = .ok (.ireturn, 1) := by decide +kernel
theorem dX6_taken_63 : decode cX6_taken 63 = .ok (.getstatic 273, 3) := by decide +kernel
theorem dX6_taken_66 : decode cX6_taken 66 = .ok (.iload 4, 2) := by decide +kernel
theorem dX6_taken_68 : decode cX6_taken 68 = .ok (.iaload, 1) := by decide +kernel
theorem dX6_taken_69 : decode cX6_taken 69 = .ok (.istore 4, 2) := by decide +kernel
theorem dX6_taken_71 : decode cX6_taken 71 = .ok (.iinc 5 1, 3) := by decide +kernel
theorem dX6_taken_74 : decode cX6_taken 74 = .ok (.goto (-31), 3) := by decide +kernel
theorem dX6_taken_77 : decode cX6_taken 77 = .ok (.bipush (-12), 2) := by decide +kernel
theorem dX6_taken_79 : decode cX6_taken 79 = .ok (.ireturn, 1) := by decide +kernel
theorem dX6_count_0 : decode cX6_count 0 = .ok (.iload_n 1, 1) := by decide +kernel
theorem dX6_count_1 : decode cX6_count 1 = .ok (.tableswitch 108 0 7 #[47, 55, 60, 68, 76, 84, 92, 100], 47) := by decide +kernel
theorem dX6_count_48 : decode cX6_count 48 = .ok (.aload_n 0, 1) := by decide +kernel
theorem dX6_count_49 : decode cX6_count 49 = .ok (.getfield 17, 3) := by decide +kernel
theorem dX6_count_52 : decode cX6_count 52 = .ok (.getfield 82, 3) := by decide +kernel
theorem dX6_count_55 : decode cX6_count 55 = .ok (.ireturn, 1) := by decide +kernel
theorem dX6_count_56 : decode cX6_count 56 = .ok (.aload_n 0, 1) := by decide +kernel
theorem dX6_count_57 : decode cX6_count 57 = .ok (.getfield 153, 3) := by decide +kernel
theorem dX6_count_60 : decode cX6_count 60 = .ok (.ireturn, 1) := by decide +kernel
theorem dX6_count_61 : decode cX6_count 61 = .ok (.aload_n 0, 1) := by decide +kernel
theorem dX6_count_62 : decode cX6_count 62 = .ok (.getfield 17, 3) := by decide +kernel
theorem dX6_count_65 : decode cX6_count 65 = .ok (.getfield 134, 3) := by decide +kernel
theorem dX6_count_68 : decode cX6_count 68 = .ok (.ireturn, 1) := by decide +kernel
theorem dX6_count_69 : decode cX6_count 69 = .ok (.aload_n 0, 1) := by decide +kernel
theorem dX6_count_70 : decode cX6_count 70 = .ok (.getfield 34, 3) := by decide +kernel
theorem dX6_count_73 : decode cX6_count 73 = .ok (.getfield 215, 3) := by decide +kernel
theorem dX6_count_76 : decode cX6_count 76 = .ok (.ireturn, 1) := by decide +kernel
theorem dX6_count_77 : decode cX6_count 77 = .ok (.aload_n 0, 1) := by decide +kernel
theorem dX6_count_78 : decode cX6_count 78 = .ok (.getfield 38, 3) := by decide +kernel
theorem dX6_count_81 : decode cX6_count 81 = .ok (.getfield 215, 3) := by decide +kernel
theorem dX6_count_84 : decode cX6_count 84 = .ok (.ireturn, 1) := by decide +kernel
theorem dX6_count_85 : decode cX6_count 85 = .ok (.aload_n 0, 1) := by decide +kernel
theorem dX6_count_86 : decode cX6_count 86 = .ok (.getfield 41, 3) := by decide +kernel
theorem dX6_count_89 : decode cX6_count 89 = .ok (.getfield 215, 3) := by decide +kernel
theorem dX6_count_92 : decode cX6_count 92 = .ok (.ireturn, 1) := by decide +kernel
theorem dX6_count_93 : decode cX6_count 93 = .ok (.aload_n 0, 1) := by decide +kernel
theorem dX6_count_94 : decode cX6_count 94 = .ok (.getfield 60, 3) := by decide +kernel
theorem dX6_count_97 : decode cX6_count 97 = .ok (.getfield 150, 3) := by decide +kernel
theorem dX6_count_100 : decode cX6_count 100 = .ok (.ireturn, 1) := by decide +kernel
theorem dX6_count_101 : decode cX6_count 101 = .ok (.aload_n 0, 1) := by decide +kernel
theorem dX6_count_102 : decode cX6_count 102 = .ok (.getfield 67, 3) := by decide +kernel
theorem dX6_count_105 : decode cX6_count 105 = .ok (.getfield 263, 3) := by decide +kernel
theorem dX6_count_108 : decode cX6_count 108 = .ok (.ireturn, 1) := by decide +kernel
theorem dX6_count_109 : decode cX6_count 109 = .ok (.bipush (-2), 2) := by decide +kernel
theorem dX6_count_111 : decode cX6_count 111 = .ok (.ireturn, 1) := by decide +kernel
theorem dX6_tape_0 : decode cX6_tape 0 = .ok (.iload_n 1, 1) := by decide +kernel
theorem dX6_tape_1 : decode cX6_tape 1 = .ok (.iconst 0, 1) := by decide +kernel
theorem dX6_tape_2 : decode cX6_tape 2 = .ok (.iconst 5, 1) := by decide +kernel
theorem dX6_tape_3 : decode cX6_tape 3 = .ok (.invokestatic 78, 3) := by decide +kernel
theorem dX6_tape_6 : decode cX6_tape 6 = .ok (.ifCond .ne 5, 3) := by decide +kernel
theorem dX6_tape_9 : decode cX6_tape 9 = .ok (.iconst (-1), 1) := by decide +kernel
theorem dX6_tape_10 : decode cX6_tape 10 = .ok (.ireturn, 1) := by decide +kernel
theorem dX6_tape_11 : decode cX6_tape 11 = .ok (.iload_n 2, 1) := by decide +kernel
theorem dX6_tape_12 : decode cX6_tape 12 = .ok (.iconst (-1), 1) := by decide +kernel
theorem dX6_tape_13 : decode cX6_tape 13 = .ok (.if_icmp .ne 16, 3) := by decide +kernel
theorem dX6_tape_16 : decode cX6_tape 16 = .ok (.aload_n 0, 1) := by decide +kernel
theorem dX6_tape_17 : decode cX6_tape 17 = .ok (.getfield 73, 3) := by decide +kernel
theorem dX6_tape_20 : decode cX6_tape 20 = .ok (.iload_n 1, 1) := by decide +kernel
theorem dX6_tape_21 : decode cX6_tape 21 = .ok (.aaload, 1) := by decide +kernel
theorem dX6_tape_22 : decode cX6_tape 22 = .ok (.iload_n 2, 1) := by decide +kernel
theorem dX6_tape_23 : decode cX6_tape 23 = .ok (.iconst 0, 1) := by decide +kernel
theorem dX6_tape_24 : decode cX6_tape 24 = .ok (.invokevirtual 276, 3) := by decide +kernel
theorem dX6_tape_27 : decode cX6_tape 27 = .ok (.iconst 1, 1) := by decide +kernel
theorem dX6_tape_28 : decode cX6_tape 28 = .ok (.ireturn, 1) := by decide +kernel
theorem dX6_tape_29 : decode cX6_tape 29 = .ok (.iload_n 2, 1) := by decide +kernel
theorem dX6_tape_30 : decode cX6_tape 30 = .ok (.iconst 0, 1) := by decide +kernel
theorem dX6_tape_31 : decode cX6_tape 31 = .ok (.iconst 4, 1) := by decide +kernel
theorem dX6_tape_32 : decode cX6_tape 32 = .ok (.invokestatic 78, 3) := by decide +kernel
theorem dX6_tape_35 : decode cX6_tape 35 = .ok (.ifCond .eq 9, 3) := by decide +kernel
theorem dX6_tape_38 : decode cX6_tape 38 = .ok (.iload_n 3, 1) := by decide +kernel
theorem dX6_tape_39 : decode cX6_tape 39 = .ok (.bipush 60, 2) := by decide +kernel
theorem dX6_tape_41 : decode cX6_tape 41 = .ok (.if_icmp .le 6, 3) := by decide +kernel
theorem dX6_tape_44 : decode cX6_tape 44 = .ok (.bipush (-2), 2) := by decide +kernel
theorem dX6_tape_46 : decode cX6_tape 46 = .ok (.ireturn, 1) := by decide +kernel
theorem dX6_tape_47 : decode cX6_tape 47 = .ok (.iload_n 3, 1) := by decide +kernel
theorem dX6_tape_48 : decode cX6_tape 48 = .ok (.ifCond .ge 6, 3) := by decide +kernel
theorem dX6_tape_51 : decode cX6_tape 51 = .ok (.bipush (-14), 2) := by decide +kernel
theorem dX6_tape_53 : decode cX6_tape 53 = .ok (.ireturn, 1) := by decide +kernel
theorem dX6_tape_54 : decode cX6_tape 54 = .ok (.aload_n 0, 1) := by decide +kernel
theorem dX6_tape_55 : decode cX6_tape 55 = .ok (.getfield 73, 3) := by decide +kernel
theorem dX6_tape_58 : decode cX6_tape 58 = .ok (.iload_n 1, 1) := by decide +kernel
theorem dX6_tape_59 : decode cX6_tape 59 = .ok (.aaload, 1) := by decide +kernel
theorem dX6_tape_60 : decode cX6_tape 60 = .ok (.iload_n 2, 1) := by decide +kernel
theorem dX6_tape_61 : decode cX6_tape 61 = .ok (.iload_n 3, 1) := by decide +kernel
theorem dX6_tape_62 : decode cX6_tape 62 = .ok (.invokevirtual 276, 3) := by decide +kernel
theorem dX6_tape_65 : decode cX6_tape 65 = .ok (.iconst 1, 1) := by decide +kernel
theorem dX6_tape_66 : decode cX6_tape 66 = .ok (.ireturn, 1) := by decide +kernel
theorem dX6_item_0 : decode cX6_item 0 = .ok (.iload_n 1, 1) := by decide +kernel
theorem dX6_item_1 : decode cX6_item 1 = .ok (.iconst 0, 1) := by decide +kernel
theorem dX6_item_2 : decode cX6_item 2 = .ok (.iconst 5, 1) := by decide +kernel
theorem dX6_item_3 : decode cX6_item 3 = .ok (.invokestatic 78, 3) := by decide +kernel
theorem dX6_item_6 : decode cX6_item 6 = .ok (.ifCond .ne 5, 3) := by decide +kernel
theorem dX6_item_9 : decode cX6_item 9 = .ok (.iconst (-1), 1) := by decide +kernel
theorem dX6_item_10 : decode cX6_item 10 = .ok (.ireturn, 1) := by decide +kernel
theorem dX6_item_11 : decode cX6_item 11 = .ok (.aload_n 0, 1) := by decide +kernel
theorem dX6_item_12 : decode cX6_item 12 = .ok (.getfield 73, 3) := by decide +kernel
theorem dX6_item_15 : decode cX6_item 15 = .ok (.iload_n 1, 1) := by decide +kernel
theorem dX6_item_16 : decode cX6_item 16 = .ok (.aaload, 1) := by decide +kernel
theorem dX6_item_17 : decode cX6_item 17 = .ok (.astore 5, 2) := by decide +kernel
theorem dX6_item_19 : decode cX6_item 19 = .ok (.aload 5, 2) := by decide +kernel
theorem dX6_item_21 : decode cX6_item 21 = .ok (.getfield 245, 3) := by decide +kernel
theorem dX6_item_24 : decode cX6_item 24 = .ok (.iconst (-1), 1) := by decide +kernel
theorem dX6_item_25 : decode cX6_item 25 = .ok (.if_icmp .ne 6, 3) := by decide +kernel
theorem dX6_item_28 : decode cX6_item 28 = .ok (.bipush (-11), 2) := by decide +kernel
theorem dX6_item_30 : decode cX6_item 30 = .ok (.ireturn, 1) := by decide +kernel
theorem dX6_item_31 : decode cX6_item 31 = .ok (.iload_n 2, 1) := by decide +kernel
theorem dX6_item_32 : decode cX6_item 32 = .ok (.iconst 0, 1) := by decide +kernel
theorem dX6_item_33 : decode cX6_item 33 = .ok (.aload 5, 2) := by decide +kernel
theorem dX6_item_35 : decode cX6_item 35 = .ok (.getfield 248, 3) := by decide +kernel
theorem dX6_item_38 : decode cX6_item 38 = .ok (.iconst 1, 1) := by decide +kernel
theorem dX6_item_39 : decode cX6_item 39 = .ok (.isub, 1) := by decide +kernel
theorem dX6_item_40 : decode cX6_item 40 = .ok (.invokestatic 78, 3) := by decide +kernel
theorem dX6_item_43 : decode cX6_item 43 = .ok (.ifCond .ne 6, 3) := by decide +kernel
theorem dX6_item_46 : decode cX6_item 46 = .ok (.bipush (-13), 2) := by decide +kernel
theorem dX6_item_48 : decode cX6_item 48 = .ok (.ireturn, 1) := by decide +kernel
theorem dX6_item_49 : decode cX6_item 49 = .ok (.aload 5, 2) := by decide +kernel
theorem dX6_item_51 : decode cX6_item 51 = .ok (.getfield 249, 3) := by decide +kernel
theorem dX6_item_54 : decode cX6_item 54 = .ok (.iload_n 2, 1) := by decide +kernel
theorem dX6_item_55 : decode cX6_item 55 = .ok (.aload 5, 2) := by decide +kernel
theorem dX6_item_57 : decode cX6_item 57 = .ok (.lload_n 3, 1) := by decide +kernel
theorem dX6_item_58 : decode cX6_item 58 = .ok (.invokevirtual 279, 3) := by decide +kernel
theorem dX6_item_61 : decode cX6_item 61 = .ok (.lastore, 1) := by decide +kernel
theorem dX6_item_62 : decode cX6_item 62 = .ok (.iconst 1, 1) := by decide +kernel
theorem dX6_item_63 : decode cX6_item 63 = .ok (.ireturn, 1) := by decide +kernel
theorem dX6_read_0 : decode cX6_read 0 = .ok (.iload_n 1, 1) := by decide +kernel
theorem dX6_read_1 : decode cX6_read 1 = .ok (.iconst 0, 1) := by decide +kernel
theorem dX6_read_2 : decode cX6_read 2 = .ok (.iconst 5, 1) := by decide +kernel
theorem dX6_read_3 : decode cX6_read 3 = .ok (.invokestatic 78, 3) := by decide +kernel
theorem dX6_read_6 : decode cX6_read 6 = .ok (.ifCond .eq 22, 3) := by decide +kernel
theorem dX6_read_9 : decode cX6_read 9 = .ok (.iload_n 2, 1) := by decide +kernel
theorem dX6_read_10 : decode cX6_read 10 = .ok (.iconst 0, 1) := by decide +kernel
theorem dX6_read_11 : decode cX6_read 11 = .ok (.aload_n 0, 1) := by decide +kernel
theorem dX6_read_12 : decode cX6_read 12 = .ok (.getfield 73, 3) := by decide +kernel
theorem dX6_read_15 : decode cX6_read 15 = .ok (.iload_n 1, 1) := by decide +kernel
theorem dX6_read_16 : decode cX6_read 16 = .ok (.aaload, 1) := by decide +kernel
theorem dX6_read_17 : decode cX6_read 17 = .ok (.getfield 248, 3) := by decide +kernel
theorem dX6_read_20 : decode cX6_read 20 = .ok (.iconst 1, 1) := by decide +kernel
theorem dX6_read_21 : decode cX6_read 21 = .ok (.isub, 1) := by decide +kernel
theorem dX6_read_22 : decode cX6_read 22 = .ok (.invokestatic 78, 3) := by decide +kernel
theorem dX6_read_25 : decode cX6_read 25 = .ok (.ifCond .ne 7, 3) := by decide +kernel
theorem dX6_read_28 : decode cX6_read 28 = .ok (.ldc2_w 235, 3) := by decide +kernel
theorem dX6_read_31 : decode cX6_read 31 = .ok (.lreturn, 1) := by decide +kernel
theorem dX6_read_32 : decode cX6_read 32 = .ok (.aload_n 0, 1) := by decide +kernel
theorem dX6_read_33 : decode cX6_read 33 = .ok (.getfield 73, 3) := by decide +kernel
theorem dX6_read_36 : decode cX6_read 36 = .ok (.iload_n 1, 1) := by decide +kernel
theorem dX6_read_37 : decode cX6_read 37 = .ok (.aaload, 1) := by decide +kernel
theorem dX6_read_38 : decode cX6_read 38 = .ok (.getfield 249, 3) := by decide +kernel
theorem dX6_read_41 : decode cX6_read 41 = .ok (.iload_n 2, 1) := by decide +kernel
theorem dX6_read_42 : decode cX6_read 42 = .ok (.laload, 1) := by decide +kernel
theorem dX6_read_43 : decode cX6_read 43 = .ok (.lreturn, 1) := by decide +kernel
theorem dX6_shift_0 : decode cX6_shift 0 = .ok (.iload_n 1, 1) := by decide +kernel
theorem dX6_shift_1 : decode cX6_shift 1 = .ok (.iconst 0, 1) := by decide +kernel
theorem dX6_shift_2 : decode cX6_shift 2 = .ok (.iconst 5, 1) := by decide +kernel
theorem dX6_shift_3 : decode cX6_shift 3 = .ok (.invokestatic 78, 3) := by decide +kernel
theorem dX6_shift_6 : decode cX6_shift 6 = .ok (.ifCond .eq 12, 3) := by decide +kernel
theorem dX6_shift_9 : decode cX6_shift 9 = .ok (.iload_n 3, 1) := by decide +kernel
theorem dX6_shift_10 : decode cX6_shift 10 = .ok (.iconst 0, 1) := by decide +kernel
theorem dX6_shift_11 : decode cX6_shift 11 = .ok (.iconst 5, 1) := by decide +kernel
theorem dX6_shift_12 : decode cX6_shift 12 = .ok (.invokestatic 78, 3) := by decide +kernel
theorem dX6_shift_15 : decode cX6_shift 15 = .ok (.ifCond .ne 5, 3) := by decide +kernel
theorem dX6_shift_18 : decode cX6_shift 18 = .ok (.iconst (-1), 1) := by decide +kernel
theorem dX6_shift_19 : decode cX6_shift 19 = .ok (.ireturn, 1) := by decide +kernel
theorem dX6_shift_20 : decode cX6_shift 20 = .ok (.aload_n 0, 1) := by decide +kernel
theorem dX6_shift_21 : decode cX6_shift 21 = .ok (.getfield 73, 3) := by decide +kernel
theorem dX6_shift_24 : decode cX6_shift 24 = .ok (.iload_n 1, 1) := by decide +kernel
theorem dX6_shift_25 : decode cX6_shift 25 = .ok (.aaload, 1) := by decide +kernel
theorem dX6_shift_26 : decode cX6_shift 26 = .ok (.astore 6, 2) := by decide +kernel
theorem dX6_shift_28 : decode cX6_shift 28 = .ok (.aload_n 0, 1) := by decide +kernel
theorem dX6_shift_29 : decode cX6_shift 29 = .ok (.getfield 73, 3) := by decide +kernel
theorem dX6_shift_32 : decode cX6_shift 32 = .ok (.iload_n 3, 1) := by decide +kernel
theorem dX6_shift_33 : decode cX6_shift 33 = .ok (.aaload, 1) := by decide +kernel
theorem dX6_shift_34 : decode cX6_shift 34 = .ok (.astore 7, 2) := by decide +kernel
theorem dX6_shift_36 : decode cX6_shift 36 = .ok (.aload 6, 2) := by decide +kernel
theorem dX6_shift_38 : decode cX6_shift 38 = .ok (.getfield 245, 3) := by decide +kernel
theorem dX6_shift_41 : decode cX6_shift 41 = .ok (.iconst (-1), 1) := by decide +kernel
theorem dX6_shift_42 : decode cX6_shift 42 = .ok (.if_icmp .eq 12, 3) := by decide +kernel
theorem dX6_shift_45 : decode cX6_shift 45 = .ok (.aload 7, 2) := by decide +kernel
theorem dX6_shift_47 : decode cX6_shift 47 = .ok (.getfield 245, 3) := by decide +kernel
theorem dX6_shift_50 : decode cX6_shift 50 = .ok (.iconst (-1), 1) := by decide +kernel
theorem dX6_shift_51 : decode cX6_shift 51 = .ok (.if_icmp .ne 6, 3) := by decide +kernel
theorem dX6_shift_54 : decode cX6_shift 54 = .ok (.bipush (-11), 2) := by decide +kernel
theorem dX6_shift_56 : decode cX6_shift 56 = .ok (.ireturn, 1) := by decide +kernel
theorem dX6_shift_57 : decode cX6_shift 57 = .ok (.aload 6, 2) := by decide +kernel
theorem dX6_shift_59 : decode cX6_shift 59 = .ok (.getfield 245, 3) := by decide +kernel
theorem dX6_shift_62 : decode cX6_shift 62 = .ok (.aload 7, 2) := by decide +kernel
theorem dX6_shift_64 : decode cX6_shift 64 = .ok (.getfield 245, 3) := by decide +kernel
theorem dX6_shift_67 : decode cX6_shift 67 = .ok (.if_icmp .eq 6, 3) := by decide +kernel
theorem dX6_shift_70 : decode cX6_shift 70 = .ok (.bipush (-12), 2) := by decide +kernel
theorem dX6_shift_72 : decode cX6_shift 72 = .ok (.ireturn, 1) := by decide +kernel
theorem dX6_shift_73 : decode cX6_shift 73 = .ok (.iload 5, 2) := by decide +kernel
theorem dX6_shift_75 : decode cX6_shift 75 = .ok (.ifCond .lt 37, 3) := by decide +kernel
theorem dX6_shift_78 : decode cX6_shift 78 = .ok (.iload_n 2, 1) := by decide +kernel
theorem dX6_shift_79 : decode cX6_shift 79 = .ok (.ifCond .lt 33, 3) := by decide +kernel
theorem dX6_shift_82 : decode cX6_shift 82 = .ok (.iload 4, 2) := by decide +kernel
theorem dX6_shift_84 : decode cX6_shift 84 = .ok (.ifCond .lt 28, 3) := by decide +kernel
theorem dX6_shift_87 : decode cX6_shift 87 = .ok (.iload 5, 2) := by decide +kernel
theorem dX6_shift_89 : decode cX6_shift 89 = .ok (.aload 6, 2) := by decide +kernel
theorem dX6_shift_91 : decode cX6_shift 91 = .ok (.getfield 248, 3) := by decide +kernel
theorem dX6_shift_94 : decode cX6_shift 94 = .ok (.iload_n 2, 1) := by decide +kernel
theorem dX6_shift_95 : decode cX6_shift 95 = .ok (.isub, 1) := by decide +kernel
theorem dX6_shift_96 : decode cX6_shift 96 = .ok (.if_icmp .gt 16, 3) := by decide +kernel
theorem dX6_shift_99 : decode cX6_shift 99 = .ok (.iload 5, 2) := by decide +kernel
theorem dX6_shift_101 : decode cX6_shift 101 = .ok (.aload 7, 2) := by decide +kernel
theorem dX6_shift_103 : decode cX6_shift 103 = .ok (.getfield 248, 3) := by decide +kernel
theorem dX6_shift_106 : decode cX6_shift 106 = .ok (.iload 4, 2) := by decide +kernel
theorem dX6_shift_108 : decode cX6_shift 108 = .ok (.isub, 1) := by decide +kernel
theorem dX6_shift_109 : decode cX6_shift 109 = .ok (.if_icmp .le 6, 3) := by decide +kernel
theorem dX6_shift_112 : decode cX6_shift 112 = .ok (.bipush (-13), 2) := by decide +kernel
theorem dX6_shift_114 : decode cX6_shift 114 = .ok (.ireturn, 1) := by decide +kernel
theorem dX6_shift_115 : decode cX6_shift 115 = .ok (.aload 6, 2) := by decide +kernel
theorem dX6_shift_117 : decode cX6_shift 117 = .ok (.getfield 249, 3) := by decide +kernel
theorem dX6_shift_120 : decode cX6_shift 120 = .ok (.iload_n 2, 1) := by decide +kernel
theorem dX6_shift_121 : decode cX6_shift 121 = .ok (.aload 7, 2) := by decide +kernel
theorem dX6_shift_123 : decode cX6_shift 123 = .ok (.getfield 249, 3) := by decide +kernel
theorem dX6_shift_126 : decode cX6_shift 126 = .ok (.iload 4, 2) := by decide +kernel
theorem dX6_shift_128 : decode cX6_shift 128 = .ok (.iload 5, 2) := by decide +kernel
theorem dX6_shift_130 : decode cX6_shift 130 = .ok (.invokestatic 283, 3) := by decide +kernel
theorem dX6_shift_133 : decode cX6_shift 133 = .ok (.iload 5, 2) := by decide +kernel
theorem dX6_shift_135 : decode cX6_shift 135 = .ok (.ireturn, 1) := by decide +kernel
theorem dX6_within_0 : decode cX6_within 0 = .ok (.iload_n 0, 1) := by decide +kernel
theorem dX6_within_1 : decode cX6_within 1 = .ok (.iload_n 1, 1) := by decide +kernel
theorem dX6_within_2 : decode cX6_within 2 = .ok (.if_icmp .lt 12, 3) := by decide +kernel
theorem dX6_within_5 : decode cX6_within 5 = .ok (.iload_n 0, 1) := by decide +kernel
theorem dX6_within_6 : decode cX6_within 6 = .ok (.iload_n 2, 1) := by decide +kernel
theorem dX6_within_7 : decode cX6_within 7 = .ok (.if_icmp .gt 7, 3) := by decide +kernel
theorem dX6_within_10 : decode cX6_within 10 = .ok (.iconst 1, 1) := by decide +kernel
theorem dX6_within_11 : decode cX6_within 11 = .ok (.goto 4, 3) := by decide +kernel
theorem dX6_within_14 : decode cX6_within 14 = .ok (.iconst 0, 1) := by decide +kernel
theorem dX6_within_15 : decode cX6_within 15 = .ok (.ireturn, 1) := by decide +kernel
theorem dX7_init_0 : decode cX7_init 0 = .ok (.aload_n 0, 1) := by decide +kernel
theorem dX7_init_1 : decode cX7_init 1 = .ok (.invokespecial 1, 3) := by decide +kernel
theorem dX7_init_4 : decode cX7_init 4 = .ok (.aload_n 0, 1) := by decide +kernel
theorem dX7_init_5 : decode cX7_init 5 = .ok (.iconst 0, 1) := by decide +kernel
theorem dX7_init_6 : decode cX7_init 6 = .ok (.putfield 7, 3) := by decide +kernel
theorem dX7_init_9 : decode cX7_init 9 = .ok (.aload_n 0, 1) := by decide +kernel
theorem dX7_init_10 : decode cX7_init 10 = .ok (.iconst 0, 1) := by decide +kernel
theorem dX7_init_11 : decode cX7_init 11 = .ok (.putfield 13, 3) := by decide +kernel
theorem dX7_init_14 : decode cX7_init 14 = .ok (.aload_n 0, 1) := by decide +kernel
theorem dX7_init_15 : decode cX7_init 15 = .ok (.iconst 1, 1) := by decide +kernel
theorem dX7_init_16 : decode cX7_init 16 = .ok (.putfield 16, 3) := by decide +kernel
theorem dX7_init_19 : decode cX7_init 19 = .ok (.aload_n 0, 1) := by decide +kernel
theorem dX7_init_20 : decode cX7_init 20 = .ok (.iconst 0, 1) := by decide +kernel
theorem dX7_init_21 : decode cX7_init 21 = .ok (.putfield 19, 3) := by decide +kernel
theorem dX7_init_24 : decode cX7_init 24 = .ok (.aload_n 0, 1) := by decide +kernel
theorem dX7_init_25 : decode cX7_init 25 = .ok (.iconst 0, 1) := by decide +kernel
theorem dX7_init_26 : decode cX7_init 26 = .ok (.putfield 22, 3) := by decide +kernel
theorem dX7_init_29 : decode cX7_init 29 = .ok (.aload_n 0, 1) := by decide +kernel
theorem dX7_init_30 : decode cX7_init 30 = .ok (.iconst 0, 1) := by decide +kernel
theorem dX7_init_31 : decode cX7_init 31 = .ok (.putfield 25, 3) := by decide +kernel
theorem dX7_init_34 : decode cX7_init 34 = .ok (.aload_n 0, 1) := by decide +kernel
theorem dX7_init_35 : decode cX7_init 35 = .ok (.bipush 6, 2) := by decide +kernel
theorem dX7_init_37 : decode cX7_init 37 = .ok (.newarray .int, 2) := by decide +kernel
theorem dX7_init_39 : decode cX7_init 39 = .ok (.putfield 28, 3) := by decide +kernel
theorem dX7_init_42 : decode cX7_init 42 = .ok (.aload_n 0, 1) := by decide +kernel
theorem dX7_init_43 : decode cX7_init 43 = .ok (.bipush 6, 2) := by decide +kernel
theorem dX7_init_45 : decode cX7_init 45 = .ok (.newarray .int, 2) := by decide +kernel
theorem dX7_init_47 : decode cX7_init 47 = .ok (.putfield 32, 3) := by decide +kernel
theorem dX7_init_50 : decode cX7_init 50 = .ok (.aload_n 0, 1) := by decide +kernel
theorem dX7_init_51 : decode cX7_init 51 = .ok (.bipush 6, 2) := by decide +kernel
theorem dX7_init_53 : decode cX7_init 53 = .ok (.newarray .int, 2) := by decide +kernel
theorem dX7_init_55 : decode cX7_init 55 = .ok (.putfield 35, 3) := by decide +kernel
theorem dX7_init_58 : decode cX7_init 58 = .ok (.aload_n 0, 1) := by decide +kernel
theorem dX7_init_59 : decode cX7_init 59 = .ok (.bipush 6, 2) := by decide +kernel
theorem dX7_init_61 : decode cX7_init 61 = .ok (.newarray .int, 2) := by decide +kernel
theorem dX7_init_63 : decode cX7_init 63 = .ok (.putfield 38, 3) := by decide +kernel
theorem dX7_init_66 : decode cX7_init 66 = .ok (.aload_n 0, 1) := by decide +kernel
theorem dX7_init_67 : decode cX7_init 67 = .ok (.bipush 6, 2) := by decide +kernel
theorem dX7_init_69 : decode cX7_init 69 = .ok (.newarray .int, 2) := by decide +kernel
theorem dX7_init_71 : decode cX7_init 71 = .ok (.putfield 41, 3) := by decide +kernel
theorem dX7_init_74 : decode cX7_init 74 = .ok (.aload_n 0, 1) := by decide +kernel
theorem dX7_init_75 : decode cX7_init 75 = .ok (.bipush 24, 2) := by decide +kernel
theorem dX7_init_77 : decode cX7_init 77 = .ok (.newarray .int, 2) := by decide +kernel
theorem dX7_init_79 : decode cX7_init 79 = .ok (.putfield 44, 3) := by decide +kernel
theorem dX7_init_82 : decode cX7_init 82 = .ok (.aload_n 0, 1) := by decide +kernel
theorem dX7_init_83 : decode cX7_init 83 = .ok (.iconst 3, 1) := by decide +kernel
theorem dX7_init_84 : decode cX7_init 84 = .ok (.newarray .int, 2) := by decide +kernel
theorem dX7_init_86 : decode cX7_init 86 = .ok (.putfield 47, 3) := by decide +kernel
theorem dX7_init_89 : decode cX7_init 89 = .ok (.aload_n 0, 1) := by decide +kernel
theorem dX7_init_90 : decode cX7_init 90 = .ok (.iconst 0, 1) := by decide +kernel
theorem dX7_init_91 : decode cX7_init 91 = .ok (.putfield 50, 3) := by decide +kernel
theorem dX7_init_94 : decode cX7_init 94 = .ok (.aload_n 0, 1) := by decide +kernel
theorem dX7_init_95 : decode cX7_init 95 = .ok (.iconst (-1), 1) := by decide +kernel
theorem dX7_init_96 : decode cX7_init 96 = .ok (.putfield 53, 3) := by decide +kernel
theorem dX7_init_99 : decode cX7_init 99 = .ok (.aload_n 0, 1) := by decide +kernel
theorem dX7_init_100 : decode cX7_init 100 = .ok (.iconst 0, 1) := by decide +kernel
theorem dX7_init_101 : decode cX7_init 101 = .ok (.putfield 56, 3) := by decide +kernel
theorem dX7_init_104 : decode cX7_init 104 = .ok (.aload_n 0, 1) := by decide +kernel
theorem dX7_init_105 : decode cX7_init 105 = .ok (.iconst 0, 1) := by decide +kernel
theorem dX7_init_106 : decode cX7_init 106 = .ok (.putfield 59, 3) := by decide +kernel
theorem dX7_init_109 : decode cX7_init 109 = .ok (.aload_n 0, 1) := by decide +kernel
theorem dX7_init_110 : decode cX7_init 110 = .ok (.iconst 0, 1) := by decide +kernel
theorem dX7_init_111 : decode cX7_init 111 = .ok (.putfield 62, 3) := by decide +kernel
theorem dX7_init_114 : decode cX7_init 114 = .ok (.aload_n 0, 1) := by decide +kernel
theorem dX7_init_115 : decode cX7_init 115 = .ok (.bipush 100, 2) := by decide +kernel
theorem dX7_init_117 : decode cX7_init 117 = .ok (.newarray .int, 2) := by decide +kernel
theorem dX7_init_119 : decode cX7_init 119 = .ok (.putfield 65, 3) := by decide +kernel
theorem dX7_init_122 : decode cX7_init 122 = .ok (.aload_n 0, 1) := by decide +kernel
theorem dX7_init_123 : decode cX7_init 123 = .ok (.bipush 6, 2) := by decide +kernel
theorem dX7_init_125 : decode cX7_init 125 = .ok (.newarray .int, 2) := by decide +kernel
theorem dX7_init_127 : decode cX7_init 127 = .ok (.putfield 68, 3) := by decide +kernel
theorem dX7_init_130 : decode cX7_init 130 = .ok (.aload_n 0, 1) := by decide +kernel
theorem dX7_init_131 : decode cX7_init 131 = .ok (.bipush 60, 2) := by decide +kernel
theorem dX7_init_133 : decode cX7_init 133 = .ok (.newarray .int, 2) := by decide +kernel
theorem dX7_init_135 : decode cX7_init 135 = .ok (.putfield 71, 3) := by decide +kernel
theorem dX7_init_138 : decode cX7_init 138 = .ok (.aload_n 0, 1) := by decide +kernel
theorem dX7_init_139 : decode cX7_init 139 = .ok (.bipush 60, 2) := by decide +kernel
theorem dX7_init_141 : decode cX7_init 141 = .ok (.newarray .int, 2) := by decide +kernel
theorem dX7_init_143 : decode cX7_init 143 = .ok (.putfield 74, 3) := by decide +kernel
theorem dX7_init_146 : decode cX7_init 146 = .ok (.aload_n 0, 1) := by decide +kernel
theorem dX7_init_147 : decode cX7_init 147 = .ok (.bipush 60, 2) := by decide +kernel
theorem dX7_init_149 : decode cX7_init 149 = .ok (.newarray .int, 2) := by decide +kernel
theorem dX7_init_151 : decode cX7_init 151 = .ok (.putfield 77, 3) := by decide +kernel
theorem dX7_init_154 : decode cX7_init 154 = .ok (.aload_n 0, 1) := by decide +kernel
theorem dX7_init_155 : decode cX7_init 155 = .ok (.bipush 60, 2) := by decide +kernel
theorem dX7_init_157 : decode cX7_init 157 = .ok (.newarray .int, 2) := by decide +kernel
theorem dX7_init_159 : decode cX7_init 159 = .ok (.putfield 80, 3) := by decide +kernel
theorem dX7_init_162 : decode cX7_init 162 = .ok (.aload_n 0, 1) := by decide +kernel
theorem dX7_init_163 : decode cX7_init 163 = .ok (.sipush 600, 3) := by decide +kernel
theorem dX7_init_166 : decode cX7_init 166 = .ok (.newarray .int, 2) := by decide +kernel
theorem dX7_init_168 : decode cX7_init 168 = .ok (.putfield 83, 3) := by decide +kernel
theorem dX7_init_171 : decode cX7_init 171 = .ok (.aload_n 0, 1) := by decide +kernel
theorem dX7_init_172 : decode cX7_init 172 = .ok (.bipush 101, 2) := by decide +kernel
theorem dX7_init_174 : decode cX7_init 174 = .ok (.newarray .int, 2) := by decide +kernel
theorem dX7_init_176 : decode cX7_init 176 = .ok (.putfield 86, 3) := by decide +kernel
theorem dX7_init_179 : decode cX7_init 179 = .ok (.aload_n 0, 1) := by decide +kernel
theorem dX7_init_180 : decode cX7_init 180 = .ok (.iconst 0, 1) := by decide +kernel
theorem dX7_init_181 : decode cX7_init 181 = .ok (.putfield 89, 3) := by decide +kernel
theorem dX7_init_184 : decode cX7_init 184 = .ok (.aload_n 0, 1) := by decide +kernel
theorem dX7_init_185 : decode cX7_init 185 = .ok (.iconst 0, 1) := by decide +kernel
theorem dX7_init_186 : decode cX7_init 186 = .ok (.putfield 92, 3) := by decide +kernel
theorem dX7_init_189 : decode cX7_init 189 = .ok (.aload_n 0, 1) := by decide +kernel
theorem dX7_init_190 : decode cX7_init 190 = .ok (.iconst 0, 1) := by decide +kernel
theorem dX7_init_191 : decode cX7_init 191 = .ok (.putfield 95, 3) := by decide +kernel
theorem dX7_init_194 : decode cX7_init 194 = .ok (.aload_n 0, 1) := by decide +kernel
theorem dX7_init_195 : decode cX7_init 195 = .ok (.bipush 16, 2) := by decide +kernel
theorem dX7_init_197 : decode cX7_init 197 = .ok (.newarray .int, 2) := by decide +kernel
theorem dX7_init_199 : decode cX7_init 199 = .ok (.dup, 1) := by decide +kernel
theorem dX7_init_200 : decode cX7_init 200 = .ok (.iconst 0, 1) := by decide +kernel
theorem dX7_init_201 : decode cX7_init 201 = .ok (.bipush 102, 2) := by decide +kernel
theorem dX7_init_203 : decode cX7_init 203 = .ok (.iastore, 1) := by decide +kernel
theorem dX7_init_204 : decode cX7_init 204 = .ok (.dup, 1) := by decide +kernel
theorem dX7_init_205 : decode cX7_init 205 = .ok (.iconst 1, 1) := by decide +kernel
theorem dX7_init_206 : decode cX7_init 206 = .ok (.bipush 105, 2) := by decide +kernel
theorem dX7_init_208 : decode cX7_init 208 = .ok (.iastore, 1) := by decide +kernel
theorem dX7_init_209 : decode cX7_init 209 = .ok (.dup, 1) := by decide +kernel
theorem dX7_init_210 : decode cX7_init 210 = .ok (.iconst 2, 1) := by decide +kernel
theorem dX7_init_211 : decode cX7_init 211 = .ok (.bipush 114, 2) := by decide +kernel
theorem dX7_init_213 : decode cX7_init 213 = .ok (.iastore, 1) := by decide +kernel
theorem dX7_init_214 : decode cX7_init 214 = .ok (.dup, 1) := by decide +kernel
theorem dX7_init_215 : decode cX7_init 215 = .ok (.iconst 3, 1) := by decide +kernel
theorem dX7_init_216 : decode cX7_init 216 = .ok (.bipush 109, 2) := by decide +kernel
theorem dX7_init_218 : decode cX7_init 218 = .ok (.iastore, 1) := by decide +kernel
theorem dX7_init_219 : decode cX7_init 219 = .ok (.dup, 1) := by decide +kernel
theorem dX7_init_220 : decode cX7_init 220 = .ok (.iconst 4, 1) := by decide +kernel
theorem dX7_init_221 : decode cX7_init 221 = .ok (.bipush 119, 2) := by decide +kernel
theorem dX7_init_223 : decode cX7_init 223 = .ok (.iastore, 1) := by decide +kernel
theorem dX7_init_224 : decode cX7_init 224 = .ok (.dup, 1) := by decide +kernel
theorem dX7_init_225 : decode cX7_init 225 = .ok (.iconst 5, 1) := by decide +kernel
theorem dX7_init_226 : decode cX7_init 226 = .ok (.bipush 101, 2) := by decide +kernel
theorem dX7_init_228 : decode cX7_init 228 = .ok (.iastore, 1) := by decide +kernel
theorem dX7_init_229 : decode cX7_init 229 = .ok (.dup, 1) := by decide +kernel
theorem dX7_init_230 : decode cX7_init 230 = .ok (.bipush 6, 2) := by decide +kernel
theorem dX7_init_232 : decode cX7_init 232 = .ok (.bipush 97, 2) := by decide +kernel
theorem dX7_init_234 : decode cX7_init 234 = .ok (.iastore, 1) := by decide +kernel
theorem dX7_init_235 : decode cX7_init 235 = .ok (.dup, 1) := by decide +kernel
theorem dX7_init_236 : decode cX7_init 236 = .ok (.bipush 7, 2) := by decide +kernel
theorem dX7_init_238 : decode cX7_init 238 = .ok (.bipush 107, 2) := by decide +kernel
theorem dX7_init_240 : decode cX7_init 240 = .ok (.iastore, 1) := by decide +kernel
theorem dX7_init_241 : decode cX7_init 241 = .ok (.dup, 1) := by decide +kernel
theorem dX7_init_242 : decode cX7_init 242 = .ok (.bipush 8, 2) := by decide +kernel
theorem dX7_init_244 : decode cX7_init 244 = .ok (.bipush 119, 2) := by decide +kernel
theorem dX7_init_246 : decode cX7_init 246 = .ok (.iastore, 1) := by decide +kernel
theorem dX7_init_247 : decode cX7_init 247 = .ok (.dup, 1) := by decide +kernel
theorem dX7_init_248 : decode cX7_init 248 = .ok (.bipush 9, 2) := by decide +kernel
theorem dX7_init_250 : decode cX7_init 250 = .ok (.bipush 105, 2) := by decide +kernel
theorem dX7_init_252 : decode cX7_init 252 = .ok (.iastore, 1) := by decide +kernel
theorem dX7_init_253 : decode cX7_init 253 = .ok (.dup, 1) := by decide +kernel
theorem dX7_init_254 : decode cX7_init 254 = .ok (.bipush 10, 2) := by decide +kernel
theorem dX7_init_256 : decode cX7_init 256 = .ok (.bipush 110, 2) := by decide +kernel
theorem dX7_init_258 : decode cX7_init 258 = .ok (.iastore, 1) := by decide +kernel
theorem dX7_init_259 : decode cX7_init 259 = .ok (.dup, 1) := by decide +kernel
theorem dX7_init_260 : decode cX7_init 260 = .ok (.bipush 11, 2) := by decide +kernel
theorem dX7_init_262 : decode cX7_init 262 = .ok (.bipush 100, 2) := by decide +kernel
theorem dX7_init_264 : decode cX7_init 264 = .ok (.iastore, 1) := by decide +kernel
theorem dX7_init_265 : decode cX7_init 265 = .ok (.dup, 1) := by decide +kernel
theorem dX7_init_266 : decode cX7_init 266 = .ok (.bipush 12, 2) := by decide +kernel
theorem dX7_init_268 : decode cX7_init 268 = .ok (.bipush 108, 2) := by decide +kernel
theorem dX7_init_270 : decode cX7_init 270 = .ok (.iastore, 1) := by decide +kernel
theorem dX7_init_271 : decode cX7_init 271 = .ok (.dup, 1) := by decide +kernel
theorem dX7_init_272 : decode cX7_init 272 = .ok (.bipush 13, 2) := by decide +kernel
theorem dX7_init_274 : decode cX7_init 274 = .ok (.bipush 97, 2) := by decide +kernel
theorem dX7_init_276 : decode cX7_init 276 = .ok (.iastore, 1) := by decide +kernel
theorem dX7_init_277 : decode cX7_init 277 = .ok (.dup, 1) := by decide +kernel
theorem dX7_init_278 : decode cX7_init 278 = .ok (.bipush 14, 2) := by decide +kernel
theorem dX7_init_280 : decode cX7_init 280 = .ok (.bipush 115, 2) := by decide +kernel
theorem dX7_init_282 : decode cX7_init 282 = .ok (.iastore, 1) := by decide +kernel
theorem dX7_init_283 : decode cX7_init 283 = .ok (.dup, 1) := by decide +kernel
theorem dX7_init_284 : decode cX7_init 284 = .ok (.bipush 15, 2) := by decide +kernel
theorem dX7_init_286 : decode cX7_init 286 = .ok (.bipush 104, 2) := by decide +kernel
theorem dX7_init_288 : decode cX7_init 288 = .ok (.iastore, 1) := by decide +kernel
theorem dX7_init_289 : decode cX7_init 289 = .ok (.putfield 98, 3) := by decide +kernel
theorem dX7_init_292 : decode cX7_init 292 = .ok (.aload_n 0, 1) := by decide +kernel
theorem dX7_init_293 : decode cX7_init 293 = .ok (.bipush 100, 2) := by decide +kernel
theorem dX7_init_295 : decode cX7_init 295 = .ok (.newarray .boolean, 2) := by decide +kernel
theorem dX7_init_297 : decode cX7_init 297 = .ok (.putfield 101, 3) := by decide +kernel
theorem dX7_init_300 : decode cX7_init 300 = .ok (.aload_n 0, 1) := by decide +kernel
theorem dX7_init_301 : decode cX7_init 301 = .ok (.ldc 105, 2) := by decide +kernel
theorem dX7_init_303 : decode cX7_init 303 = .ok (.putfield 106, 3) := by decide +kernel
theorem dX7_init_306 : decode cX7_init 306 = .ok (.aload_n 0, 1) := by decide +kernel
theorem dX7_init_307 : decode cX7_init 307 = .ok (.sipush 9999, 3) := by decide +kernel
theorem dX7_init_310 : decode cX7_init 310 = .ok (.putfield 109, 3) := by decide +kernel
theorem dX7_init_313 : decode cX7_init 313 = .ok (.aload_n 0, 1) := by decide +kernel
theorem dX7_init_314 : decode cX7_init 314 = .ok (.iconst 3, 1) := by decide +kernel
theorem dX7_init_315 : decode cX7_init 315 = .ok (.newarray .int, 2) := by decide +kernel
theorem dX7_init_317 : decode cX7_init 317 = .ok (.putfield 112, 3) := by decide +kernel
theorem dX7_init_320 : decode cX7_init 320 = .ok (.aload_n 0, 1) := by decide +kernel
theorem dX7_init_321 : decode cX7_init 321 = .ok (.iconst 0, 1) := by decide +kernel
theorem dX7_init_322 : decode cX7_init 322 = .ok (.putfield 115, 3) := by decide +kernel
theorem dX7_init_325 : decode cX7_init 325 = .ok (.aload_n 0, 1) := by decide +kernel
theorem dX7_init_326 : decode cX7_init 326 = .ok (.iconst 0, 1) := by decide +kernel
theorem dX7_init_327 : decode cX7_init 327 = .ok (.putfield 118, 3) := by decide +kernel
theorem dX7_init_330 : decode cX7_init 330 = .ok (.aload_n 0, 1) := by decide +kernel
theorem dX7_init_331 : decode cX7_init 331 = .ok (.iconst 0, 1) := by decide +kernel
theorem dX7_init_332 : decode cX7_init 332 = .ok (.putfield 121, 3) := by decide +kernel
theorem dX7_init_335 : decode cX7_init 335 = .ok (.aload_n 0, 1) := by decide +kernel
theorem dX7_init_336 : decode cX7_init 336 = .ok (.iconst 0, 1) := by decide +kernel
theorem dX7_init_337 : decode cX7_init 337 = .ok (.putfield 124, 3) := by decide +kernel
theorem dX7_init_340 : decode cX7_init 340 = .ok (.aload_n 0, 1) := by decide +kernel
theorem dX7_init_341 : decode cX7_init 341 = .ok (.iconst 0, 1) := by decide +kernel
theorem dX7_init_342 : decode cX7_init 342 = .ok (.putfield 127, 3) := by decide +kernel
theorem dX7_init_345 : decode cX7_init 345 = .ok (.aload_n 0, 1) := by decide +kernel
theorem dX7_init_346 : decode cX7_init 346 = .ok (.bipush 6, 2) := by decide +kernel
theorem dX7_init_348 : decode cX7_init 348 = .ok (.newarray .int, 2) := by decide +kernel
theorem dX7_init_350 : decode cX7_init 350 = .ok (.putfield 130, 3) := by decide +kernel
theorem dX7_init_353 : decode cX7_init 353 = .ok (.aload_n 0, 1) := by decide +kernel
theorem dX7_init_354 : decode cX7_init 354 = .ok (.bipush 6, 2) := by decide +kernel
theorem dX7_init_356 : decode cX7_init 356 = .ok (.newarray .int, 2) := by decide +kernel
theorem dX7_init_358 : decode cX7_init 358 = .ok (.putfield 133, 3) := by decide +kernel
theorem dX7_init_361 : decode cX7_init 361 = .ok (.aload_n 0, 1) := by decide +kernel
theorem dX7_init_362 : decode cX7_init 362 = .ok (.bipush 6, 2) := by decide +kernel
theorem dX7_init_364 : decode cX7_init 364 = .ok (.newarray .int, 2) := by decide +kernel
theorem dX7_init_366 : decode cX7_init 366 = .ok (.putfield 136, 3) := by decide +kernel
theorem dX7_init_369 : decode cX7_init 369 = .ok (.aload_n 0, 1) := by decide +kernel
theorem dX7_init_370 : decode cX7_init 370 = .ok (.iconst 3, 1) := by decide +kernel
theorem dX7_init_371 : decode cX7_init 371 = .ok (.newarray .int, 2) := by decide +kernel
theorem dX7_init_373 : decode cX7_init 373 = .ok (.putfield 139, 3) := by decide +kernel
theorem dX7_init_376 : decode cX7_init 376 = .ok (.aload_n 0, 1) := by decide +kernel
theorem dX7_init_377 : decode cX7_init 377 = .ok (.iconst 0, 1) := by decide +kernel
theorem dX7_init_378 : decode cX7_init 378 = .ok (.putfield 142, 3) := by decide +kernel
theorem dX7_init_381 : decode cX7_init 381 = .ok (.aload_n 0, 1) := by decide +kernel
theorem dX7_init_382 : decode cX7_init 382 = .ok (.iconst 3, 1) := by decide +kernel
theorem dX7_init_383 : decode cX7_init 383 = .ok (.newarray .int, 2) := by decide +kernel
theorem dX7_init_385 : decode cX7_init 385 = .ok (.putfield 145, 3) := by decide +kernel
theorem dX7_init_388 : decode cX7_init 388 = .ok (.aload_n 0, 1) := by decide +kernel
theorem dX7_init_389 : decode cX7_init 389 = .ok (.iconst 0, 1) := by decide +kernel
theorem dX7_init_390 : decode cX7_init 390 = .ok (.putfield 148, 3) := by decide +kernel
theorem dX7_init_393 : decode cX7_init 393 = .ok (.aload_n 0, 1) := by decide +kernel
theorem dX7_init_394 : decode cX7_init 394 = .ok (.iconst 0, 1) := by decide +kernel
theorem dX7_init_395 : decode cX7_init 395 = .ok (.putfield 151, 3) := by decide +kernel
theorem dX7_init_398 : decode cX7_init 398 = .ok (.aload_n 0, 1) := by decide +kernel
theorem dX7_init_399 : decode cX7_init 399 = .ok (.iconst 3, 1) := by decide +kernel
theorem dX7_init_400 : decode cX7_init 400 = .ok (.newarray .int, 2) := by decide +kernel
theorem dX7_init_402 : decode cX7_init 402 = .ok (.putfield 154, 3) := by decide +kernel
theorem dX7_init_405 : decode cX7_init 405 = .ok (.aload_n 0, 1) := by decide +kernel
theorem dX7_init_406 : decode cX7_init 406 = .ok (.iconst 0, 1) := by decide +kernel
theorem dX7_init_407 : decode cX7_init 407 = .ok (.putfield 157, 3) := by decide +kernel
theorem dX7_init_410 : decode cX7_init 410 = .ok (.aload_n 0, 1) := by decide +kernel
theorem dX7_init_411 : decode cX7_init 411 = .ok (.iconst 5, 1) := by decide +kernel
theorem dX7_init_412 : decode cX7_init 412 = .ok (.newarray .int, 2) := by decide +kernel
theorem dX7_init_414 : decode cX7_init 414 = .ok (.putfield 160, 3) := by decide +kernel
theorem dX7_init_417 : decode cX7_init 417 = .ok (.aload_n 0, 1) := by decide +kernel
theorem dX7_init_418 : decode cX7_init 418 = .ok (.iconst 5, 1) := by decide +kernel
theorem dX7_init_419 : decode cX7_init 419 = .ok (.newarray .int, 2) := by decide +kernel
theorem dX7_init_421 : decode cX7_init 421 = .ok (.putfield 163, 3) := by decide +kernel
theorem dX7_init_424 : decode cX7_init 424 = .ok (.aload_n 0, 1) := by decide +kernel
theorem dX7_init_425 : decode cX7_init 425 = .ok (.iconst 0, 1) := by decide +kernel
theorem dX7_init_426 : decode cX7_init 426 = .ok (.putfield 166, 3) := by decide +kernel
theorem dX7_init_429 : decode cX7_init 429 = .ok (.aload_n 0, 1) := by decide +kernel
theorem dX7_init_430 : decode cX7_init 430 = .ok (.iconst 0, 1) := by decide +kernel
theorem dX7_init_431 : decode cX7_init 431 = .ok (.putfield 169, 3) := by decide +kernel
theorem dX7_init_434 : decode cX7_init 434 = .ok (.aload_n 0, 1) := by decide +kernel
theorem dX7_init_435 : decode cX7_init 435 = .ok (.bipush 10, 2) := by decide +kernel
theorem dX7_init_437 : decode cX7_init 437 = .ok (.newarray .int, 2) := by decide +kernel
theorem dX7_init_439 : decode cX7_init 439 = .ok (.putfield 172, 3) := by decide +kernel
theorem dX7_init_442 : decode cX7_init 442 = .ok (.aload_n 0, 1) := by decide +kernel
theorem dX7_init_443 : decode cX7_init 443 = .ok (.bipush 10, 2) := by decide +kernel
theorem dX7_init_445 : decode cX7_init 445 = .ok (.newarray .int, 2) := by decide +kernel
theorem dX7_init_447 : decode cX7_init 447 = .ok (.putfield 175, 3) := by decide +kernel
theorem dX7_init_450 : decode cX7_init 450 = .ok (.aload_n 0, 1) := by decide +kernel
theorem dX7_init_451 : decode cX7_init 451 = .ok (.bipush 8, 2) := by decide +kernel
theorem dX7_init_453 : decode cX7_init 453 = .ok (.newarray .int, 2) := by decide +kernel
theorem dX7_init_455 : decode cX7_init 455 = .ok (.putfield 178, 3) := by decide +kernel
theorem dX7_init_458 : decode cX7_init 458 = .ok (.aload_n 0, 1) := by decide +kernel
theorem dX7_init_459 : decode cX7_init 459 = .ok (.bipush 8, 2) := by decide +kernel
theorem dX7_init_461 : decode cX7_init 461 = .ok (.newarray .int, 2) := by decide +kernel
theorem dX7_init_463 : decode cX7_init 463 = .ok (.putfield 181, 3) := by decide +kernel
theorem dX7_init_466 : decode cX7_init 466 = .ok (.aload_n 0, 1) := by decide +kernel
theorem dX7_init_467 : decode cX7_init 467 = .ok (.iconst 0, 1) := by decide +kernel
theorem dX7_init_468 : decode cX7_init 468 = .ok (.putfield 184, 3) := by decide +kernel
theorem dX7_init_471 : decode cX7_init 471 = .ok (.aload_n 0, 1) := by decide +kernel
theorem dX7_init_472 : decode cX7_init 472 = .ok (.iconst (-1), 1) := by decide +kernel
theorem dX7_init_473 : decode cX7_init 473 = .ok (.putfield 188, 3) := by decide +kernel
theorem dX7_init_476 : decode cX7_init 476 = .ok (.aload_n 0, 1) := by decide +kernel
theorem dX7_init_477 : decode cX7_init 477 = .ok (.iconst 0, 1) := by decide +kernel
theorem dX7_init_478 : decode cX7_init 478 = .ok (.putfield 191, 3) := by decide +kernel
theorem dX7_init_481 : decode cX7_init 481 = .ok (.aload_n 0, 1) := by decide +kernel
theorem dX7_init_482 : decode cX7_init 482 = .ok (.iconst 0, 1) := by decide +kernel
theorem dX7_init_483 : decode cX7_init 483 = .ok (.putfield 194, 3) := by decide +kernel
theorem dX7_init_486 : decode cX7_init 486 = .ok (.aload_n 0, 1) := by decide +kernel
theorem dX7_init_487 : decode cX7_init 487 = .ok (.iconst 0, 1) := by decide +kernel
theorem dX7_init_488 : decode cX7_init 488 = .ok (.putfield 197, 3) := by decide +kernel
theorem dX7_init_491 : decode cX7_init 491 = .ok (.aload_n 0, 1) := by decide +kernel
theorem dX7_init_492 : decode cX7_init 492 = .ok (.iconst 0, 1) := by decide +kernel
theorem dX7_init_493 : decode cX7_init 493 = .ok (.putfield 200, 3) := by decide +kernel
theorem dX7_init_496 : decode cX7_init 496 = .ok (.aload_n 0, 1) := by decide +kernel
theorem dX7_init_497 : decode cX7_init 497 = .ok (.iconst 0, 1) := by decide +kernel
theorem dX7_init_498 : decode cX7_init 498 = .ok (.putfield 203, 3) := by decide +kernel
theorem dX7_init_501 : decode cX7_init 501 = .ok (.aload_n 0, 1) := by decide +kernel
theorem dX7_init_502 : decode cX7_init 502 = .ok (.iconst 0, 1) := by decide +kernel
theorem dX7_init_503 : decode cX7_init 503 = .ok (.putfield 206, 3) := by decide +kernel
theorem dX7_init_506 : decode cX7_init 506 = .ok (.aload_n 0, 1) := by decide +kernel
theorem dX7_init_507 : decode cX7_init 507 = .ok (.iconst 0, 1) := by decide +kernel
theorem dX7_init_508 : decode cX7_init 508 = .ok (.putfield 209, 3) := by decide +kernel
theorem dX7_init_511 : decode cX7_init 511 = .ok (.aload_n 0, 1) := by decide +kernel
theorem dX7_init_512 : decode cX7_init 512 = .ok (.iconst 0, 1) := by decide +kernel
theorem dX7_init_513 : decode cX7_init 513 = .ok (.putfield 212, 3) := by decide +kernel
theorem dX7_init_516 : decode cX7_init 516 = .ok (.aload_n 0, 1) := by decide +kernel
theorem dX7_init_517 : decode cX7_init 517 = .ok (.iconst 0, 1) := by decide +kernel
theorem dX7_init_518 : decode cX7_init 518 = .ok (.putfield 215, 3) := by decide +kernel
theorem dX7_init_521 : decode cX7_init 521 = .ok (.aload_n 0, 1) := by decide +kernel
theorem dX7_init_522 : decode cX7_init 522 = .ok (.bipush 6, 2) := by decide +kernel
theorem dX7_init_524 : decode cX7_init 524 = .ok (.newarray .int, 2) := by decide +kernel
theorem dX7_init_526 : decode cX7_init 526 = .ok (.putfield 218, 3) := by decide +kernel
theorem dX7_init_529 : decode cX7_init 529 = .ok (.aload_n 0, 1) := by decide +kernel
theorem dX7_init_530 : decode cX7_init 530 = .ok (.bipush 6, 2) := by decide +kernel
theorem dX7_init_532 : decode cX7_init 532 = .ok (.newarray .int, 2) := by decide +kernel
theorem dX7_init_534 : decode cX7_init 534 = .ok (.putfield 221, 3) := by decide +kernel
theorem dX7_init_537 : decode cX7_init 537 = .ok (.aload_n 0, 1) := by decide +kernel
theorem dX7_init_538 : decode cX7_init 538 = .ok (.bipush 6, 2) := by decide +kernel
theorem dX7_init_540 : decode cX7_init 540 = .ok (.newarray .int, 2) := by decide +kernel
theorem dX7_init_542 : decode cX7_init 542 = .ok (.putfield 224, 3) := by decide +kernel
theorem dX7_init_545 : decode cX7_init 545 = .ok (.aload_n 0, 1) := by decide +kernel
theorem dX7_init_546 : decode cX7_init 546 = .ok (.bipush 6, 2) := by decide +kernel
theorem dX7_init_548 : decode cX7_init 548 = .ok (.newarray .int, 2) := by decide +kernel
theorem dX7_init_550 : decode cX7_init 550 = .ok (.putfield 227, 3) := by decide +kernel
theorem dX7_init_553 : decode cX7_init 553 = .ok (.aload_n 0, 1) := by decide +kernel
theorem dX7_init_554 : decode cX7_init 554 = .ok (.bipush 6, 2) := by decide +kernel
theorem dX7_init_556 : decode cX7_init 556 = .ok (.newarray .int, 2) := by decide +kernel
theorem dX7_init_558 : decode cX7_init 558 = .ok (.putfield 230, 3) := by decide +kernel
theorem dX7_init_561 : decode cX7_init 561 = .ok (.aload_n 0, 1) := by decide +kernel
theorem dX7_init_562 : decode cX7_init 562 = .ok (.bipush 24, 2) := by decide +kernel
theorem dX7_init_564 : decode cX7_init 564 = .ok (.newarray .int, 2) := by decide +kernel
theorem dX7_init_566 : decode cX7_init 566 = .ok (.putfield 233, 3) := by decide +kernel
theorem dX7_init_569 : decode cX7_init 569 = .ok (.aload_n 0, 1) := by decide +kernel
theorem dX7_init_570 : decode cX7_init 570 = .ok (.iconst 3, 1) := by decide +kernel
theorem dX7_init_571 : decode cX7_init 571 = .ok (.newarray .int, 2) := by decide +kernel
theorem dX7_init_573 : decode cX7_init 573 = .ok (.putfield 236, 3) := by decide +kernel
theorem dX7_init_576 : decode cX7_init 576 = .ok (.aload_n 0, 1) := by decide +kernel
theorem dX7_init_577 : decode cX7_init 577 = .ok (.iconst 5, 1) := by decide +kernel
theorem dX7_init_578 : decode cX7_init 578 = .ok (.newarray .int, 2) := by decide +kernel
theorem dX7_init_580 : decode cX7_init 580 = .ok (.putfield 239, 3) := by decide +kernel
theorem dX7_init_583 : decode cX7_init 583 = .ok (.aload_n 0, 1) := by decide +kernel
theorem dX7_init_584 : decode cX7_init 584 = .ok (.iconst 5, 1) := by decide +kernel
theorem dX7_init_585 : decode cX7_init 585 = .ok (.newarray .int, 2) := by decide +kernel
theorem dX7_init_587 : decode cX7_init 587 = .ok (.putfield 242, 3) := by decide +kernel
theorem dX7_init_590 : decode cX7_init 590 = .ok (.aload_n 0, 1) := by decide +kernel
theorem dX7_init_591 : decode cX7_init 591 = .ok (.bipush 10, 2) := by decide +kernel
theorem dX7_init_593 : decode cX7_init 593 = .ok (.newarray .int, 2) := by decide +kernel
theorem dX7_init_595 : decode cX7_init 595 = .ok (.putfield 245, 3) := by decide +kernel
theorem dX7_init_598 : decode cX7_init 598 = .ok (.aload_n 0, 1) := by decide +kernel
theorem dX7_init_599 : decode cX7_init 599 = .ok (.bipush 10, 2) := by decide +kernel
theorem dX7_init_601 : decode cX7_init 601 = .ok (.newarray .int, 2) := by decide +kernel
theorem dX7_init_603 : decode cX7_init 603 = .ok (.putfield 248, 3) := by decide +kernel
theorem dX7_init_606 : decode cX7_init 606 = .ok (.aload_n 0, 1) := by decide +kernel
theorem dX7_init_607 : decode cX7_init 607 = .ok (.bipush 8, 2) := by decide +kernel
theorem dX7_init_609 : decode cX7_init 609 = .ok (.newarray .int, 2) := by decide +kernel
theorem dX7_init_611 : decode cX7_init 611 = .ok (.putfield 251, 3) := by decide +kernel
theorem dX7_init_614 : decode cX7_init 614 = .ok (.aload_n 0, 1) := by decide +kernel
theorem dX7_init_615 : decode cX7_init 615 = .ok (.bipush 8, 2) := by decide +kernel
theorem dX7_init_617 : decode cX7_init 617 = .ok (.newarray .int, 2) := by decide +kernel
theorem dX7_init_619 : decode cX7_init 619 = .ok (.putfield 254, 3) := by decide +kernel
theorem dX7_init_622 : decode cX7_init 622 = .ok (.aload_n 0, 1) := by decide +kernel
theorem dX7_init_623 : decode cX7_init 623 = .ok (.iconst 0, 1) := by decide +kernel
theorem dX7_init_624 : decode cX7_init 624 = .ok (.putfield 257, 3) := by decide +kernel
theorem dX7_init_627 : decode cX7_init 627 = .ok (.aload_n 0, 1) := by decide +kernel
theorem dX7_init_628 : decode cX7_init 628 = .ok (.bipush 20, 2) := by decide +kernel
theorem dX7_init_630 : decode cX7_init 630 = .ok (.newarray .int, 2) := by decide +kernel
theorem dX7_init_632 : decode cX7_init 632 = .ok (.putfield 260, 3) := by decide +kernel
theorem dX7_init_635 : decode cX7_init 635 = .ok (.aload_n 0, 1) := by decide +kernel
theorem dX7_init_636 : decode cX7_init 636 = .ok (.bipush 6, 2) := by decide +kernel
theorem dX7_init_638 : decode cX7_init 638 = .ok (.newarray .int, 2) := by decide +kernel
theorem dX7_init_640 : decode cX7_init 640 = .ok (.dup, 1) := by decide +kernel
theorem dX7_init_641 : decode cX7_init 641 = .ok (.iconst 0, 1) := by decide +kernel
theorem dX7_init_642 : decode cX7_init 642 = .ok (.iconst (-1), 1) := by decide +kernel
theorem dX7_init_643 : decode cX7_init 643 = .ok (.iastore, 1) := by decide +kernel
theorem dX7_init_644 : decode cX7_init 644 = .ok (.dup, 1) := by decide +kernel
theorem dX7_init_645 : decode cX7_init 645 = .ok (.iconst 1, 1) := by decide +kernel
theorem dX7_init_646 : decode cX7_init 646 = .ok (.iconst (-1), 1) := by decide +kernel
theorem dX7_init_647 : decode cX7_init 647 = .ok (.iastore, 1) := by decide +kernel
theorem dX7_init_648 : decode cX7_init 648 = .ok (.dup, 1) := by decide +kernel
theorem dX7_init_649 : decode cX7_init 649 = .ok (.iconst 2, 1) := by decide +kernel
theorem dX7_init_650 : decode cX7_init 650 = .ok (.iconst (-1), 1) := by decide +kernel
theorem dX7_init_651 : decode cX7_init 651 = .ok (.iastore, 1) := by decide +kernel
theorem dX7_init_652 : decode cX7_init 652 = .ok (.dup, 1) := by decide +kernel
theorem dX7_init_653 : decode cX7_init 653 = .ok (.iconst 3, 1) := by decide +kernel
theorem dX7_init_654 : decode cX7_init 654 = .ok (.iconst (-1), 1) := by decide +kernel
theorem dX7_init_655 : decode cX7_init 655 = .ok (.iastore, 1) := by decide +kernel
theorem dX7_init_656 : decode cX7_init 656 = .ok (.dup, 1) := by decide +kernel
theorem dX7_init_657 : decode cX7_init 657 = .ok (.iconst 4, 1) := by decide +kernel
theorem dX7_init_658 : decode cX7_init 658 = .ok (.iconst (-1), 1) := by decide +kernel
theorem dX7_init_659 : decode cX7_init 659 = .ok (.iastore, 1) := by decide +kernel
theorem dX7_init_660 : decode cX7_init 660 = .ok (.dup, 1) := by decide +kernel
theorem dX7_init_661 : decode cX7_init 661 = .ok (.iconst 5, 1) := by decide +kernel
theorem dX7_init_662 : decode cX7_init 662 = .ok (.iconst (-1), 1) := by decide +kernel
theorem dX7_init_663 : decode cX7_init 663 = .ok (.iastore, 1) := by decide +kernel
theorem dX7_init_664 : decode cX7_init 664 = .ok (.putfield 263, 3) := by decide +kernel
theorem dX7_init_667 : decode cX7_init 667 = .ok (.aload_n 0, 1) := by decide +kernel
theorem dX7_init_668 : decode cX7_init 668 = .ok (.bipush 6, 2) := by decide +kernel
theorem dX7_init_670 : decode cX7_init 670 = .ok (.newarray .int, 2) := by decide +kernel
theorem dX7_init_672 : decode cX7_init 672 = .ok (.putfield 266, 3) := by decide +kernel
theorem dX7_init_675 : decode cX7_init 675 = .ok (.aload_n 0, 1) := by decide +kernel
theorem dX7_init_676 : decode cX7_init 676 = .ok (.sipush 360, 3) := by decide +kernel
theorem dX7_init_679 : decode cX7_init 679 = .ok (.newarray .long, 2) := by decide +kernel
theorem dX7_init_681 : decode cX7_init 681 = .ok (.putfield 269, 3) := by decide +kernel
theorem dX7_init_684 : decode cX7_init 684 = .ok (.aload_n 0, 1) := by decide +kernel
theorem dX7_init_685 : decode cX7_init 685 = .ok (.bipush 60, 2) := by decide +kernel
theorem dX7_init_687 : decode cX7_init 687 = .ok (.newarray .long, 2) := by decide +kernel
theorem dX7_init_689 : decode cX7_init 689 = .ok (.putfield 273, 3) := by decide +kernel
theorem dX7_init_692 : decode cX7_init 692 = .ok (.return_, 1) := by decide +kernel
theorem dX7_in_0 : decode cX7_in 0 = .ok (.iload_n 1, 1) := by decide +kernel
theorem dX7_in_1 : decode cX7_in 1 = .ok (.iload_n 2, 1) := by decide +kernel
theorem dX7_in_2 : decode cX7_in 2 = .ok (.if_icmp .lt 12, 3) := by decide +kernel
theorem dX7_in_5 : decode cX7_in 5 = .ok (.iload_n 1, 1) := by decide +kernel
theorem dX7_in_6 : decode cX7_in 6 = .ok (.iload_n 3, 1) := by decide +kernel
theorem dX7_in_7 : decode cX7_in 7 = .ok (.if_icmp .gt 7, 3) := by decide +kernel
theorem dX7_in_10 : decode cX7_in 10 = .ok (.iconst 1, 1) := by decide +kernel
theorem dX7_in_11 : decode cX7_in 11 = .ok (.goto 4, 3) := by decide +kernel
theorem dX7_in_14 : decode cX7_in 14 = .ok (.iconst 0, 1) := by decide +kernel
theorem dX7_in_15 : decode cX7_in 15 = .ok (.ireturn, 1) := by decide +kernel
theorem dX7_least0_0 : decode cX7_least0 0 = .ok (.iload_n 1, 1) := by decide +kernel
theorem dX7_least0_1 : decode cX7_least0 1 = .ok (.ifCond .ge 7, 3) := by decide +kernel
theorem dX7_least0_4 : decode cX7_least0 4 = .ok (.iconst 0, 1) := by decide +kernel
theorem dX7_least0_5 : decode cX7_least0 5 = .ok (.goto 4, 3) := by decide +kernel
theorem dX7_least0_8 : decode cX7_least0 8 = .ok (.iload_n 1, 1) := by decide +kernel
theorem dX7_least0_9 : decode cX7_least0 9 = .ok (.ireturn, 1) := by decide +kernel
theorem dX7_least_0 : decode cX7_least 0 = .ok (.iload_n 1, 1) := by decide +kernel
theorem dX7_least_1 : decode cX7_least 1 = .ok (.iload_n 2, 1) := by decide +kernel
theorem dX7_least_2 : decode cX7_least 2 = .ok (.if_icmp .ge 7, 3) := by decide +kernel
theorem dX7_least_5 : decode cX7_least 5 = .ok (.iload_n 1, 1) := by decide +kernel
theorem dX7_least_6 : decode cX7_least 6 = .ok (.goto 4, 3) := by decide +kernel
theorem dX7_least_9 : decode cX7_least 9 = .ok (.iload_n 2, 1) := by decide +kernel
theorem dX7_least_10 : decode cX7_least 10 = .ok (.ireturn, 1) := by decide +kernel
theorem dX7_isPiece_0 : decode cX7_isPiece 0 = .ok (.aload_n 0, 1) := by decide +kernel
theorem dX7_isPiece_1 : decode cX7_isPiece 1 = .ok (.iload_n 1, 1) := by decide +kernel
theorem dX7_isPiece_2 : decode cX7_isPiece 2 = .ok (.iconst 0, 1) := by decide +kernel
theorem dX7_isPiece_3 : decode cX7_isPiece 3 = .ok (.aload_n 0, 1) := by decide +kernel
theorem dX7_isPiece_4 : decode cX7_isPiece 4 = .ok (.getfield 7, 3) := by decide +kernel
theorem dX7_isPiece_7 : decode cX7_isPiece 7 = .ok (.iconst 1, 1) := by decide +kernel
theorem dX7_isPiece_8 : decode cX7_isPiece 8 = .ok (.isub, 1) := by decide +kernel
theorem dX7_isPiece_9 : decode cX7_isPiece 9 = .ok (.invokevirtual 276, 3) := by decide +kernel
theorem dX7_isPiece_12 : decode cX7_isPiece 12 = .ok (.ireturn, 1) := by decide +kernel
theorem dX7_isFeet_0 : decode cX7_isFeet 0 = .ok (.aload_n 0, 1) := by decide +kernel
theorem dX7_isFeet_1 : decode cX7_isFeet 1 = .ok (.iload_n 1, 1) := by decide +kernel
theorem dX7_isFeet_2 : decode cX7_isFeet 2 = .ok (.iconst 0, 1) := by decide +kernel
theorem dX7_isFeet_3 : decode cX7_isFeet 3 = .ok (.bipush 99, 2) := by decide +kernel
theorem dX7_isFeet_5 : decode cX7_isFeet 5 = .ok (.invokevirtual 276, 3) := by decide +kernel
theorem dX7_isFeet_8 : decode cX7_isFeet 8 = .ok (.ireturn, 1) := by decide +kernel
theorem dX7_isDays_0 : decode cX7_isDays 0 = .ok (.aload_n 0, 1) := by decide +kernel
theorem dX7_isDays_1 : decode cX7_isDays 1 = .ok (.iload_n 1, 1) := by decide +kernel
theorem dX7_isDays_2 : decode cX7_isDays 2 = .ok (.iconst 0, 1) := by decide +kernel
theorem dX7_isDays_3 : decode cX7_isDays 3 = .ok (.bipush 60, 2) := by decide +kernel
theorem dX7_isDays_5 : decode cX7_isDays 5 = .ok (.invokevirtual 276, 3) := by decide +kernel
theorem dX7_isDays_8 : decode cX7_isDays 8 = .ok (.ireturn, 1) := by decide +kernel
theorem dX7_isTrim_0 : decode cX7_isTrim 0 = .ok (.aload_n 0, 1) := by decide +kernel
theorem dX7_isTrim_1 : decode cX7_isTrim 1 = .ok (.iload_n 1, 1) := by decide +kernel
theorem dX7_isTrim_2 : decode cX7_isTrim 2 = .ok (.iconst 0, 1) := by decide +kernel
theorem dX7_isTrim_3 : decode cX7_isTrim 3 = .ok (.bipush 9, 2) := by decide +kernel
theorem dX7_isTrim_5 : decode cX7_isTrim 5 = .ok (.invokevirtual 276, 3) := by decide +kernel
theorem dX7_isTrim_8 : decode cX7_isTrim 8 = .ok (.ireturn, 1) := by decide +kernel
theorem dX7_piece_0 : decode cX7_piece 0 = .ok (.aload_n 0, 1) := by decide +kernel
theorem dX7_piece_1 : decode cX7_piece 1 = .ok (.iload_n 1, 1) := by decide +kernel
theorem dX7_piece_2 : decode cX7_piece 2 = .ok (.iconst 0, 1) := by decide +kernel
theorem dX7_piece_3 : decode cX7_piece 3 = .ok (.bipush 6, 2) := by decide +kernel
theorem dX7_piece_5 : decode cX7_piece 5 = .ok (.invokevirtual 276, 3) := by decide +kernel
theorem dX7_piece_8 : decode cX7_piece 8 = .ok (.ifCond .ne 5, 3) := by decide +kernel
theorem dX7_piece_11 : decode cX7_piece 11 = .ok (.iconst (-1), 1) := by decide +kernel
theorem dX7_piece_12 : decode cX7_piece 12 = .ok (.ireturn, 1) := by decide +kernel
theorem dX7_piece_13 : decode cX7_piece 13 = .ok (.aload_n 0, 1) := by decide +kernel
theorem dX7_piece_14 : decode cX7_piece 14 = .ok (.iload_n 2, 1) := by decide +kernel
theorem dX7_piece_15 : decode cX7_piece 15 = .ok (.iconst 0, 1) := by decide +kernel
theorem dX7_piece_16 : decode cX7_piece 16 = .ok (.bipush 9, 2) := by decide +kernel
theorem dX7_piece_18 : decode cX7_piece 18 = .ok (.invokevirtual 276, 3) := by decide +kernel
theorem dX7_piece_21 : decode cX7_piece 21 = .ok (.ifCond .eq 14, 3) := by decide +kernel
theorem dX7_piece_24 : decode cX7_piece 24 = .ok (.aload_n 0, 1) := by decide +kernel
theorem dX7_piece_25 : decode cX7_piece 25 = .ok (.iload_n 3, 1) := by decide +kernel
theorem dX7_piece_26 : decode cX7_piece 26 = .ok (.iconst 1, 1) := by decide +kernel
theorem dX7_piece_27 : decode cX7_piece 27 = .ok (.bipush 99, 2) := by decide +kernel
theorem dX7_piece_29 : decode cX7_piece 29 = .ok (.invokevirtual 276, 3) := by decide +kernel
theorem dX7_piece_32 : decode cX7_piece 32 = .ok (.ifCond .ne 6, 3) := by decide +kernel
theorem dX7_piece_35 : decode cX7_piece 35 = .ok (.bipush (-2), 2) := by decide +kernel
theorem dX7_piece_37 : decode cX7_piece 37 = .ok (.ireturn, 1) := by decide +kernel
theorem dX7_piece_38 : decode cX7_piece 38 = .ok (.aload_n 0, 1) := by decide +kernel
theorem dX7_piece_39 : decode cX7_piece 39 = .ok (.getfield 7, 3) := by decide +kernel
theorem dX7_piece_42 : decode cX7_piece 42 = .ok (.bipush 6, 2) := by decide +kernel
theorem dX7_piece_44 : decode cX7_piece 44 = .ok (.if_icmp .ne 6, 3) := by decide +kernel
theorem dX7_piece_47 : decode cX7_piece 47 = .ok (.bipush (-4), 2) := by decide +kernel
theorem dX7_piece_49 : decode cX7_piece 49 = .ok (.ireturn, 1) := by decide +kernel
theorem dX7_piece_50 : decode cX7_piece 50 = .ok (.aload_n 0, 1) := by decide +kernel
theorem dX7_piece_51 : decode cX7_piece 51 = .ok (.getfield 28, 3) := by decide +kernel
theorem dX7_piece_54 : decode cX7_piece 54 = .ok (.aload_n 0, 1) := by decide +kernel
theorem dX7_piece_55 : decode cX7_piece 55 = .ok (.getfield 7, 3) := by decide +kernel
theorem dX7_piece_58 : decode cX7_piece 58 = .ok (.iload_n 1, 1) := by decide +kernel
theorem dX7_piece_59 : decode cX7_piece 59 = .ok (.iastore, 1) := by decide +kernel
theorem dX7_piece_60 : decode cX7_piece 60 = .ok (.aload_n 0, 1) := by decide +kernel
theorem dX7_piece_61 : decode cX7_piece 61 = .ok (.getfield 32, 3) := by decide +kernel
theorem dX7_piece_64 : decode cX7_piece 64 = .ok (.aload_n 0, 1) := by decide +kernel
theorem dX7_piece_65 : decode cX7_piece 65 = .ok (.getfield 7, 3) := by decide +kernel
theorem dX7_piece_68 : decode cX7_piece 68 = .ok (.iload_n 2, 1) := by decide +kernel
theorem dX7_piece_69 : decode cX7_piece 69 = .ok (.iastore, 1) := by decide +kernel
theorem dX7_piece_70 : decode cX7_piece 70 = .ok (.aload_n 0, 1) := by decide +kernel
theorem dX7_piece_71 : decode cX7_piece 71 = .ok (.getfield 35, 3) := by decide +kernel
theorem dX7_piece_74 : decode cX7_piece 74 = .ok (.aload_n 0, 1) := by decide +kernel
theorem dX7_piece_75 : decode cX7_piece 75 = .ok (.getfield 7, 3) := by decide +kernel
theorem dX7_piece_78 : decode cX7_piece 78 = .ok (.iload_n 3, 1) := by decide +kernel
theorem dX7_piece_79 : decode cX7_piece 79 = .ok (.iastore, 1) := by decide +kernel
theorem dX7_piece_80 : decode cX7_piece 80 = .ok (.aload_n 0, 1) := by decide +kernel
theorem dX7_piece_81 : decode cX7_piece 81 = .ok (.getfield 38, 3) := by decide +kernel
theorem dX7_piece_84 : decode cX7_piece 84 = .ok (.aload_n 0, 1) := by decide +kernel
theorem dX7_piece_85 : decode cX7_piece 85 = .ok (.getfield 7, 3) := by decide +kernel
theorem dX7_piece_88 : decode cX7_piece 88 = .ok (.iconst 0, 1) := by decide +kernel
theorem dX7_piece_89 : decode cX7_piece 89 = .ok (.iastore, 1) := by decide +kernel
theorem dX7_piece_90 : decode cX7_piece 90 = .ok (.aload_n 0, 1) := by decide +kernel
theorem dX7_piece_91 : decode cX7_piece 91 = .ok (.getfield 41, 3) := by decide +kernel
theorem dX7_piece_94 : decode cX7_piece 94 = .ok (.aload_n 0, 1) := by decide +kernel
theorem dX7_piece_95 : decode cX7_piece 95 = .ok (.getfield 7, 3) := by decide +kernel
theorem dX7_piece_98 : decode cX7_piece 98 = .ok (.iconst 0, 1) := by decide +kernel
theorem dX7_piece_99 : decode cX7_piece 99 = .ok (.iastore, 1) := by decide +kernel
theorem dX7_piece_100 : decode cX7_piece 100 = .ok (.iconst 0, 1) := by decide +kernel
theorem dX7_piece_101 : decode cX7_piece 101 = .ok (.istore 4, 2) := by decide +kernel
theorem dX7_piece_103 : decode cX7_piece 103 = .ok (.iload 4, 2) := by decide +kernel
theorem dX7_piece_105 : decode cX7_piece 105 = .ok (.iconst 4, 1) := by decide +kernel
theorem dX7_piece_106 : decode cX7_piece 106 = .ok (.if_icmp .ge 24, 3) := by decide +kernel
theorem dX7_piece_109 : decode cX7_piece 109 = .ok (.aload_n 0, 1) := by decide +kernel
theorem dX7_piece_110 : decode cX7_piece 110 = .ok (.getfield 44, 3) := by decide +kernel
theorem dX7_piece_113 : decode cX7_piece 113 = .ok (.iconst 4, 1) := by decide +kernel
theorem dX7_piece_114 : decode cX7_piece 114 = .ok (.aload_n 0, 1) := by decide +kernel
theorem dX7_piece_115 : decode cX7_piece 115 = .ok (.getfield 7, 3) := by decide +kernel
theorem dX7_piece_118 : decode cX7_piece 118 = .ok (.imul, 1) := by decide +kernel
theorem dX7_piece_119 : decode cX7_piece 119 = .ok (.iload 4, 2) := by decide +kernel
theorem dX7_piece_121 : decode cX7_piece 121 = .ok (.iadd, 1) := by decide +kernel
theorem dX7_piece_122 : decode cX7_piece 122 = .ok (.iconst 0, 1) := by decide +kernel
theorem dX7_piece_123 : decode cX7_piece 123 = .ok (.iastore, 1) := by decide +kernel
theorem dX7_piece_124 : decode cX7_piece 124 = .ok (.iinc 4 1, 3) := by decide +kernel
theorem dX7_piece_127 : decode cX7_piece 127 = .ok (.goto (-24), 3) := by decide +kernel
theorem dX7_piece_130 : decode cX7_piece 130 = .ok (.aload_n 0, 1) := by decide +kernel
theorem dX7_piece_131 : decode cX7_piece 131 = .ok (.dup, 1) := by decide +kernel
theorem dX7_piece_132 : decode cX7_piece 132 = .ok (.getfield 7, 3) := by decide +kernel
theorem dX7_piece_135 : decode cX7_piece 135 = .ok (.iconst 1, 1) := by decide +kernel
theorem dX7_piece_136 : decode cX7_piece 136 = .ok (.iadd, 1) := by decide +kernel
theorem dX7_piece_137 : decode cX7_piece 137 = .ok (.putfield 7, 3) := by decide +kernel
theorem dX7_piece_140 : decode cX7_piece 140 = .ok (.aload_n 0, 1) := by decide +kernel
theorem dX7_piece_141 : decode cX7_piece 141 = .ok (.getfield 7, 3) := by decide +kernel
theorem dX7_piece_144 : decode cX7_piece 144 = .ok (.iconst 1, 1) := by decide +kernel
theorem dX7_piece_145 : decode cX7_piece 145 = .ok (.isub, 1) := by decide +kernel
theorem dX7_piece_146 : decode cX7_piece 146 = .ok (.ireturn, 1) := by decide +kernel
theorem dX7_set_0 : decode cX7_set 0 = .ok (.aload_n 0, 1) := by decide +kernel
theorem dX7_set_1 : decode cX7_set 1 = .ok (.iload_n 1, 1) := by decide +kernel
theorem dX7_set_2 : decode cX7_set 2 = .ok (.invokevirtual 280, 3) := by decide +kernel
theorem dX7_set_5 : decode cX7_set 5 = .ok (.ifCond .eq 13, 3) := by decide +kernel
theorem dX7_set_8 : decode cX7_set 8 = .ok (.aload_n 0, 1) := by decide +kernel
theorem dX7_set_9 : decode cX7_set 9 = .ok (.iload_n 2, 1) := by decide +kernel
theorem dX7_set_10 : decode cX7_set 10 = .ok (.iconst 0, 1) := by decide +kernel
theorem dX7_set_11 : decode cX7_set 11 = .ok (.iconst 1, 1) := by decide +kernel
theorem dX7_set_12 : decode cX7_set 12 = .ok (.invokevirtual 276, 3) := by decide +kernel
theorem dX7_set_15 : decode cX7_set 15 = .ok (.ifCond .ne 5, 3) := by decide +kernel
theorem dX7_set_18 : decode cX7_set 18 = .ok (.iconst (-1), 1) := by decide +kernel
theorem dX7_set_19 : decode cX7_set 19 = .ok (.ireturn, 1) := by decide +kernel
theorem dX7_set_20 : decode cX7_set 20 = .ok (.aload_n 0, 1) := by decide +kernel
theorem dX7_set_21 : decode cX7_set 21 = .ok (.iload_n 3, 1) := by decide +kernel
theorem dX7_set_22 : decode cX7_set 22 = .ok (.invokevirtual 284, 3) := by decide +kernel
theorem dX7_set_25 : decode cX7_set 25 = .ok (.ifCond .ne 6, 3) := by decide +kernel
theorem dX7_set_28 : decode cX7_set 28 = .ok (.bipush (-2), 2) := by decide +kernel
theorem dX7_set_30 : decode cX7_set 30 = .ok (.ireturn, 1) := by decide +kernel
theorem dX7_set_31 : decode cX7_set 31 = .ok (.iload_n 2, 1) := by decide +kernel
theorem dX7_set_32 : decode cX7_set 32 = .ok (.ifCond .ne 12, 3) := by decide +kernel
theorem dX7_set_35 : decode cX7_set 35 = .ok (.aload_n 0, 1) := by decide +kernel
theorem dX7_set_36 : decode cX7_set 36 = .ok (.getfield 35, 3) := by decide +kernel
theorem dX7_set_39 : decode cX7_set 39 = .ok (.iload_n 1, 1) := by decide +kernel
theorem dX7_set_40 : decode cX7_set 40 = .ok (.iaload, 1) := by decide +kernel
theorem dX7_set_41 : decode cX7_set 41 = .ok (.goto 9, 3) := by decide +kernel
theorem dX7_set_44 : decode cX7_set 44 = .ok (.aload_n 0, 1) := by decide +kernel
theorem dX7_set_45 : decode cX7_set 45 = .ok (.getfield 38, 3) := by decide +kernel
theorem dX7_set_48 : decode cX7_set 48 = .ok (.iload_n 1, 1) := by decide +kernel
theorem dX7_set_49 : decode cX7_set 49 = .ok (.iaload, 1) := by decide +kernel
theorem dX7_set_50 : decode cX7_set 50 = .ok (.istore 4, 2) := by decide +kernel
theorem dX7_set_52 : decode cX7_set 52 = .ok (.iload_n 2, 1) := by decide +kernel
theorem dX7_set_53 : decode cX7_set 53 = .ok (.ifCond .ne 13, 3) := by decide +kernel
theorem dX7_set_56 : decode cX7_set 56 = .ok (.aload_n 0, 1) := by decide +kernel
theorem dX7_set_57 : decode cX7_set 57 = .ok (.getfield 35, 3) := by decide +kernel
theorem dX7_set_60 : decode cX7_set 60 = .ok (.iload_n 1, 1) := by decide +kernel
theorem dX7_set_61 : decode cX7_set 61 = .ok (.iload_n 3, 1) := by decide +kernel
theorem dX7_set_62 : decode cX7_set 62 = .ok (.iastore, 1) := by decide +kernel
theorem dX7_set_63 : decode cX7_set 63 = .ok (.goto 10, 3) := by decide +kernel
theorem dX7_set_66 : decode cX7_set 66 = .ok (.aload_n 0, 1) := by decide +kernel
theorem dX7_set_67 : decode cX7_set 67 = .ok (.getfield 38, 3) := by decide +kernel
theorem dX7_set_70 : decode cX7_set 70 = .ok (.iload_n 1, 1) := by decide +kernel
theorem dX7_set_71 : decode cX7_set 71 = .ok (.iload_n 3, 1) := by decide +kernel
theorem dX7_set_72 : decode cX7_set 72 = .ok (.iastore, 1) := by decide +kernel
theorem dX7_set_73 : decode cX7_set 73 = .ok (.iload 4, 2) := by decide +kernel
theorem dX7_set_75 : decode cX7_set 75 = .ok (.ireturn, 1) := by decide +kernel
theorem dX7_row_0 : decode cX7_row 0 = .ok (.aload_n 0, 1) := by decide +kernel
theorem dX7_row_1 : decode cX7_row 1 = .ok (.iload_n 1, 1) := by decide +kernel
theorem dX7_row_2 : decode cX7_row 2 = .ok (.invokevirtual 280, 3) := by decide +kernel
theorem dX7_row_5 : decode cX7_row 5 = .ok (.ifCond .eq 13, 3) := by decide +kernel
theorem dX7_row_8 : decode cX7_row 8 = .ok (.aload_n 0, 1) := by decide +kernel
theorem dX7_row_9 : decode cX7_row 9 = .ok (.iload_n 2, 1) := by decide +kernel
theorem dX7_row_10 : decode cX7_row 10 = .ok (.iconst 0, 1) := by decide +kernel
theorem dX7_row_11 : decode cX7_row 11 = .ok (.iconst 3, 1) := by decide +kernel
theorem dX7_row_12 : decode cX7_row 12 = .ok (.invokevirtual 276, 3) := by decide +kernel
theorem dX7_row_15 : decode cX7_row 15 = .ok (.ifCond .ne 5, 3) := by decide +kernel
theorem dX7_row_18 : decode cX7_row 18 = .ok (.iconst (-1), 1) := by decide +kernel
theorem dX7_row_19 : decode cX7_row 19 = .ok (.ireturn, 1) := by decide +kernel
theorem dX7_row_20 : decode cX7_row 20 = .ok (.aload_n 0, 1) := by decide +kernel
theorem dX7_row_21 : decode cX7_row 21 = .ok (.iload_n 3, 1) := by decide +kernel
theorem dX7_row_22 : decode cX7_row 22 = .ok (.iconst 0, 1) := by decide +kernel
theorem dX7_row_23 : decode cX7_row 23 = .ok (.bipush 9, 2) := by decide +kernel
theorem dX7_row_25 : decode cX7_row 25 = .ok (.invokevirtual 276, 3) := by decide +kernel
theorem dX7_row_28 : decode cX7_row 28 = .ok (.ifCond .ne 6, 3) := by decide +kernel
theorem dX7_row_31 : decode cX7_row 31 = .ok (.bipush (-2), 2) := by decide +kernel
theorem dX7_row_33 : decode cX7_row 33 = .ok (.ireturn, 1) := by decide +kernel
theorem dX7_row_34 : decode cX7_row 34 = .ok (.aload_n 0, 1) := by decide +kernel
theorem dX7_row_35 : decode cX7_row 35 = .ok (.getfield 28, 3) := by decide +kernel
theorem dX7_row_38 : decode cX7_row 38 = .ok (.iload_n 1, 1) := by decide +kernel
theorem dX7_row_39 : decode cX7_row 39 = .ok (.iaload, 1) := by decide +kernel
theorem dX7_row_40 : decode cX7_row 40 = .ok (.bipush 6, 2) := by decide +kernel
theorem dX7_row_42 : decode cX7_row 42 = .ok (.if_icmp .eq 6, 3) := by decide +kernel
theorem dX7_row_45 : decode cX7_row 45 = .ok (.bipush (-3), 2) := by decide +kernel
theorem dX7_row_47 : decode cX7_row 47 = .ok (.ireturn, 1) := by decide +kernel
theorem dX7_row_48 : decode cX7_row 48 = .ok (.aload_n 0, 1) := by decide +kernel
theorem dX7_row_49 : decode cX7_row 49 = .ok (.getfield 44, 3) := by decide +kernel
theorem dX7_row_52 : decode cX7_row 52 = .ok (.iconst 4, 1) := by decide +kernel
theorem dX7_row_53 : decode cX7_row 53 = .ok (.iload_n 1, 1) := by decide +kernel
theorem dX7_row_54 : decode cX7_row 54 = .ok (.imul, 1) := by decide +kernel
theorem dX7_row_55 : decode cX7_row 55 = .ok (.iload_n 2, 1) := by decide +kernel
theorem dX7_row_56 : decode cX7_row 56 = .ok (.iadd, 1) := by decide +kernel
theorem dX7_row_57 : decode cX7_row 57 = .ok (.iaload, 1) := by decide +kernel
theorem dX7_row_58 : decode cX7_row 58 = .ok (.istore 4, 2) := by decide +kernel
theorem dX7_row_60 : decode cX7_row 60 = .ok (.aload_n 0, 1) := by decide +kernel
theorem dX7_row_61 : decode cX7_row 61 = .ok (.getfield 44, 3) := by decide +kernel
theorem dX7_row_64 : decode cX7_row 64 = .ok (.iconst 4, 1) := by decide +kernel
theorem dX7_row_65 : decode cX7_row 65 = .ok (.iload_n 1, 1) := by decide +kernel
theorem dX7_row_66 : decode cX7_row 66 = .ok (.imul, 1) := by decide +kernel
theorem dX7_row_67 : decode cX7_row 67 = .ok (.iload_n 2, 1) := by decide +kernel
theorem dX7_row_68 : decode cX7_row 68 = .ok (.iadd, 1) := by decide +kernel
theorem dX7_row_69 : decode cX7_row 69 = .ok (.iload_n 3, 1) := by decide +kernel
theorem dX7_row_70 : decode cX7_row 70 = .ok (.iastore, 1) := by decide +kernel
theorem dX7_row_71 : decode cX7_row 71 = .ok (.iload 4, 2) := by decide +kernel
theorem dX7_row_73 : decode cX7_row 73 = .ok (.ireturn, 1) := by decide +kernel
theorem dX7_placeOf_0 : decode cX7_placeOf 0 = .ok (.iconst 0, 1) := by decide +kernel
theorem dX7_placeOf_1 : decode cX7_placeOf 1 = .ok (.istore_n 2, 1) := by decide +kernel
theorem dX7_placeOf_2 : decode cX7_placeOf 2 = .ok (.iload_n 2, 1) := by decide +kernel
theorem dX7_placeOf_3 : decode cX7_placeOf 3 = .ok (.aload_n 0, 1) := by decide +kernel
theorem dX7_placeOf_4 : decode cX7_placeOf 4 = .ok (.getfield 13, 3) := by decide +kernel
theorem dX7_placeOf_7 : decode cX7_placeOf 7 = .ok (.if_icmp .ge 21, 3) := by decide +kernel
theorem dX7_placeOf_10 : decode cX7_placeOf 10 = .ok (.aload_n 0, 1) := by decide +kernel
theorem dX7_placeOf_11 : decode cX7_placeOf 11 = .ok (.getfield 47, 3) := by decide +kernel
theorem dX7_placeOf_14 : decode cX7_placeOf 14 = .ok (.iload_n 2, 1) := by decide +kernel
theorem dX7_placeOf_15 : decode cX7_placeOf 15 = .ok (.iaload, 1) := by decide +kernel
theorem dX7_placeOf_16 : decode cX7_placeOf 16 = .ok (.iload_n 1, 1) := by decide +kernel
theorem dX7_placeOf_17 : decode cX7_placeOf 17 = .ok (.if_icmp .ne 5, 3) := by decide +kernel
theorem dX7_placeOf_20 : decode cX7_placeOf 20 = .ok (.iload_n 2, 1) := by decide +kernel
theorem dX7_placeOf_21 : decode cX7_placeOf 21 = .ok (.ireturn, 1) := by decide +kernel
theorem dX7_placeOf_22 : decode cX7_placeOf 22 = .ok (.iinc 2 1, 3) := by decide +kernel
theorem dX7_placeOf_25 : decode cX7_placeOf 25 = .ok (.goto (-23), 3) := by decide +kernel
theorem dX7_placeOf_28 : decode cX7_placeOf 28 = .ok (.bipush (-5), 2) := by decide +kernel
theorem dX7_placeOf_30 : decode cX7_placeOf 30 = .ok (.ireturn, 1) := by decide +kernel
theorem dX7_hoists_0 : decode cX7_hoists 0 = .ok (.aload_n 0, 1) := by decide +kernel
theorem dX7_hoists_1 : decode cX7_hoists 1 = .ok (.getfield 47, 3) := by decide +kernel
theorem dX7_hoists_4 : decode cX7_hoists 4 = .ok (.aload_n 0, 1) := by decide +kernel
theorem dX7_hoists_5 : decode cX7_hoists 5 = .ok (.getfield 13, 3) := by decide +kernel
theorem dX7_hoists_8 : decode cX7_hoists 8 = .ok (.iload_n 1, 1) := by decide +kernel
theorem dX7_hoists_9 : decode cX7_hoists 9 = .ok (.iastore, 1) := by decide +kernel
theorem dX7_hoists_10 : decode cX7_hoists 10 = .ok (.aload_n 0, 1) := by decide +kernel
theorem dX7_hoists_11 : decode cX7_hoists 11 = .ok (.dup, 1) := by decide +kernel
theorem dX7_hoists_12 : decode cX7_hoists 12 = .ok (.getfield 13, 3) := by decide +kernel
theorem dX7_hoists_15 : decode cX7_hoists 15 = .ok (.iconst 1, 1) := by decide +kernel
theorem dX7_hoists_16 : decode cX7_hoists 16 = .ok (.iadd, 1) := by decide +kernel
theorem dX7_hoists_17 : decode cX7_hoists 17 = .ok (.putfield 13, 3) := by decide +kernel
theorem dX7_hoists_20 : decode cX7_hoists 20 = .ok (.return_, 1) := by decide +kernel
theorem dX7_hoist_0 : decode cX7_hoist 0 = .ok (.aload_n 0, 1) := by decide +kernel
theorem dX7_hoist_1 : decode cX7_hoist 1 = .ok (.iload_n 1, 1) := by decide +kernel
theorem dX7_hoist_2 : decode cX7_hoist 2 = .ok (.invokevirtual 280, 3) := by decide +kernel
theorem dX7_hoist_5 : decode cX7_hoist 5 = .ok (.ifCond .ne 5, 3) := by decide +kernel
theorem dX7_hoist_8 : decode cX7_hoist 8 = .ok (.iconst (-1), 1) := by decide +kernel
theorem dX7_hoist_9 : decode cX7_hoist 9 = .ok (.ireturn, 1) := by decide +kernel
theorem dX7_hoist_10 : decode cX7_hoist 10 = .ok (.aload_n 0, 1) := by decide +kernel
theorem dX7_hoist_11 : decode cX7_hoist 11 = .ok (.iload_n 1, 1) := by decide +kernel
theorem dX7_hoist_12 : decode cX7_hoist 12 = .ok (.invokevirtual 287, 3) := by decide +kernel
theorem dX7_hoist_15 : decode cX7_hoist 15 = .ok (.ifCond .lt 6, 3) := by decide +kernel
theorem dX7_hoist_18 : decode cX7_hoist 18 = .ok (.bipush (-3), 2) := by decide +kernel
theorem dX7_hoist_20 : decode cX7_hoist 20 = .ok (.ireturn, 1) := by decide +kernel
theorem dX7_hoist_21 : decode cX7_hoist 21 = .ok (.aload_n 0, 1) := by decide +kernel
theorem dX7_hoist_22 : decode cX7_hoist 22 = .ok (.getfield 13, 3) := by decide +kernel
theorem dX7_hoist_25 : decode cX7_hoist 25 = .ok (.iconst 3, 1) := by decide +kernel
theorem dX7_hoist_26 : decode cX7_hoist 26 = .ok (.if_icmp .ne 6, 3) := by decide +kernel
theorem dX7_hoist_29 : decode cX7_hoist 29 = .ok (.bipush (-4), 2) := by decide +kernel
theorem dX7_hoist_31 : decode cX7_hoist 31 = .ok (.ireturn, 1) := by decide +kernel
theorem dX7_hoist_32 : decode cX7_hoist 32 = .ok (.aload_n 0, 1) := by decide +kernel
theorem dX7_hoist_33 : decode cX7_hoist 33 = .ok (.iload_n 1, 1) := by decide +kernel
theorem dX7_hoist_34 : decode cX7_hoist 34 = .ok (.invokevirtual 291, 3) := by decide +kernel
theorem dX7_hoist_37 : decode cX7_hoist 37 = .ok (.aload_n 0, 1) := by decide +kernel
theorem dX7_hoist_38 : decode cX7_hoist 38 = .ok (.getfield 13, 3) := by decide +kernel
theorem dX7_hoist_41 : decode cX7_hoist 41 = .ok (.ireturn, 1) := by decide +kernel
theorem dX7_lower_0 : decode cX7_lower 0 = .ok (.aload_n 0, 1) := by decide +kernel
theorem dX7_lower_1 : decode cX7_lower 1 = .ok (.iload_n 1, 1) := by decide +kernel
theorem dX7_lower_2 : decode cX7_lower 2 = .ok (.invokevirtual 280, 3) := by decide +kernel
theorem dX7_lower_5 : decode cX7_lower 5 = .ok (.ifCond .ne 5, 3) := by decide +kernel
theorem dX7_lower_8 : decode cX7_lower 8 = .ok (.iconst (-1), 1) := by decide +kernel
theorem dX7_lower_9 : decode cX7_lower 9 = .ok (.ireturn, 1) := by decide +kernel
theorem dX7_lower_10 : decode cX7_lower 10 = .ok (.aload_n 0, 1) := by decide +kernel
theorem dX7_lower_11 : decode cX7_lower 11 = .ok (.iload_n 1, 1) := by decide +kernel
theorem dX7_lower_12 : decode cX7_lower 12 = .ok (.invokevirtual 287, 3) := by decide +kernel
theorem dX7_lower_15 : decode cX7_lower 15 = .ok (.ifCond .ge 6, 3) := by decide +kernel
theorem dX7_lower_18 : decode cX7_lower 18 = .ok (.bipush (-3), 2) := by decide +kernel
theorem dX7_lower_20 : decode cX7_lower 20 = .ok (.ireturn, 1) := by decide +kernel
theorem dX7_lower_21 : decode cX7_lower 21 = .ok (.aload_n 0, 1) := by decide +kernel
theorem dX7_lower_22 : decode cX7_lower 22 = .ok (.aload_n 0, 1) := by decide +kernel
theorem dX7_lower_23 : decode cX7_lower 23 = .ok (.iload_n 1, 1) := by decide +kernel
theorem dX7_lower_24 : decode cX7_lower 24 = .ok (.invokevirtual 287, 3) := by decide +kernel
theorem dX7_lower_27 : decode cX7_lower 27 = .ok (.putfield 13, 3) := by decide +kernel
theorem dX7_lower_30 : decode cX7_lower 30 = .ok (.aload_n 0, 1) := by decide +kernel
theorem dX7_lower_31 : decode cX7_lower 31 = .ok (.getfield 13, 3) := by decide +kernel
theorem dX7_lower_34 : decode cX7_lower 34 = .ok (.ireturn, 1) := by decide +kernel
theorem dX7_trim_0 : decode cX7_trim 0 = .ok (.aload_n 0, 1) := by decide +kernel
theorem dX7_trim_1 : decode cX7_trim 1 = .ok (.iload_n 1, 1) := by decide +kernel
theorem dX7_trim_2 : decode cX7_trim 2 = .ok (.iconst 0, 1) := by decide +kernel
theorem dX7_trim_3 : decode cX7_trim 3 = .ok (.iconst 1, 1) := by decide +kernel
theorem dX7_trim_4 : decode cX7_trim 4 = .ok (.invokevirtual 276, 3) := by decide +kernel
theorem dX7_trim_7 : decode cX7_trim 7 = .ok (.ifCond .ne 5, 3) := by decide +kernel
theorem dX7_trim_10 : decode cX7_trim 10 = .ok (.iconst (-1), 1) := by decide +kernel
theorem dX7_trim_11 : decode cX7_trim 11 = .ok (.ireturn, 1) := by decide +kernel
theorem dX7_trim_12 : decode cX7_trim 12 = .ok (.aload_n 0, 1) := by decide +kernel
theorem dX7_trim_13 : decode cX7_trim 13 = .ok (.iload_n 2, 1) := by decide +kernel
theorem dX7_trim_14 : decode cX7_trim 14 = .ok (.invokevirtual 295, 3) := by decide +kernel
theorem dX7_trim_17 : decode cX7_trim 17 = .ok (.ifCond .ne 6, 3) := by decide +kernel
theorem dX7_trim_20 : decode cX7_trim 20 = .ok (.bipush (-2), 2) := by decide +kernel
theorem dX7_trim_22 : decode cX7_trim 22 = .ok (.ireturn, 1) := by decide +kernel
theorem dX7_trim_23 : decode cX7_trim 23 = .ok (.iload_n 1, 1) := by decide +kernel
theorem dX7_trim_24 : decode cX7_trim 24 = .ok (.ifCond .ne 10, 3) := by decide +kernel
theorem dX7_trim_27 : decode cX7_trim 27 = .ok (.aload_n 0, 1) := by decide +kernel
theorem dX7_trim_28 : decode cX7_trim 28 = .ok (.getfield 16, 3) := by decide +kernel
theorem dX7_trim_31 : decode cX7_trim 31 = .ok (.goto 7, 3) := by decide +kernel
theorem dX7_trim_34 : decode cX7_trim 34 = .ok (.aload_n 0, 1) := by decide +kernel
theorem dX7_trim_35 : decode cX7_trim 35 = .ok (.getfield 19, 3) := by decide +kernel
theorem dX7_trim_38 : decode cX7_trim 38 = .ok (.istore_n 3, 1) := by decide +kernel
theorem dX7_trim_39 : decode cX7_trim 39 = .ok (.iload_n 1, 1) := by decide +kernel
theorem dX7_trim_40 : decode cX7_trim 40 = .ok (.ifCond .ne 11, 3) := by decide +kernel
theorem dX7_trim_43 : decode cX7_trim 43 = .ok (.aload_n 0, 1) := by decide +kernel
theorem dX7_trim_44 : decode cX7_trim 44 = .ok (.iload_n 2, 1) := by decide +kernel
theorem dX7_trim_45 : decode cX7_trim 45 = .ok (.putfield 16, 3) := by decide +kernel
theorem dX7_trim_48 : decode cX7_trim 48 = .ok (.goto 8, 3) := by decide +kernel
theorem dX7_trim_51 : decode cX7_trim 51 = .ok (.aload_n 0, 1) := by decide +kernel
theorem dX7_trim_52 : decode cX7_trim 52 = .ok (.iload_n 2, 1) := by decide +kernel
theorem dX7_trim_53 : decode cX7_trim 53 = .ok (.putfield 19, 3) := by decide +kernel
theorem dX7_trim_56 : decode cX7_trim 56 = .ok (.iload_n 3, 1) := by decide +kernel
theorem dX7_trim_57 : decode cX7_trim 57 = .ok (.ireturn, 1) := by decide +kernel
theorem dX7_feed_0 : decode cX7_feed 0 = .ok (.aload_n 0, 1) := by decide +kernel
theorem dX7_feed_1 : decode cX7_feed 1 = .ok (.iload_n 1, 1) := by decide +kernel
theorem dX7_feed_2 : decode cX7_feed 2 = .ok (.iconst 0, 1) := by decide +kernel
theorem dX7_feed_3 : decode cX7_feed 3 = .ok (.bipush 127, 2) := by decide +kernel
theorem dX7_feed_5 : decode cX7_feed 5 = .ok (.invokevirtual 276, 3) := by decide +kernel
theorem dX7_feed_8 : decode cX7_feed 8 = .ok (.ifCond .ne 6, 3) := by decide +kernel
theorem dX7_feed_11 : decode cX7_feed 11 = .ok (.bipush (-2), 2) := by decide +kernel
theorem dX7_feed_13 : decode cX7_feed 13 = .ok (.ireturn, 1) := by decide +kernel
theorem dX7_feed_14 : decode cX7_feed 14 = .ok (.aload_n 0, 1) := by decide +kernel
theorem dX7_feed_15 : decode cX7_feed 15 = .ok (.getfield 56, 3) := by decide +kernel
theorem dX7_feed_18 : decode cX7_feed 18 = .ok (.bipush 100, 2) := by decide +kernel
theorem dX7_feed_20 : decode cX7_feed 20 = .ok (.if_icmp .ne 6, 3) := by decide +kernel
theorem dX7_feed_23 : decode cX7_feed 23 = .ok (.bipush (-4), 2) := by decide +kernel
theorem dX7_feed_25 : decode cX7_feed 25 = .ok (.ireturn, 1) := by decide +kernel
theorem dX7_feed_26 : decode cX7_feed 26 = .ok (.aload_n 0, 1) := by decide +kernel
theorem dX7_feed_27 : decode cX7_feed 27 = .ok (.getfield 65, 3) := by decide +kernel
theorem dX7_feed_30 : decode cX7_feed 30 = .ok (.aload_n 0, 1) := by decide +kernel
theorem dX7_feed_31 : decode cX7_feed 31 = .ok (.getfield 56, 3) := by decide +kernel
theorem dX7_feed_34 : decode cX7_feed 34 = .ok (.iload_n 1, 1) := by decide +kernel
theorem dX7_feed_35 : decode cX7_feed 35 = .ok (.iastore, 1) := by decide +kernel
theorem dX7_feed_36 : decode cX7_feed 36 = .ok (.aload_n 0, 1) := by decide +kernel
theorem dX7_feed_37 : decode cX7_feed 37 = .ok (.dup, 1) := by decide +kernel
theorem dX7_feed_38 : decode cX7_feed 38 = .ok (.getfield 56, 3) := by decide +kernel
theorem dX7_feed_41 : decode cX7_feed 41 = .ok (.iconst 1, 1) := by decide +kernel
theorem dX7_feed_42 : decode cX7_feed 42 = .ok (.iadd, 1) := by decide +kernel
theorem dX7_feed_43 : decode cX7_feed 43 = .ok (.putfield 56, 3) := by decide +kernel
theorem dX7_feed_46 : decode cX7_feed 46 = .ok (.aload_n 0, 1) := by decide +kernel
theorem dX7_feed_47 : decode cX7_feed 47 = .ok (.getfield 56, 3) := by decide +kernel
theorem dX7_feed_50 : decode cX7_feed 50 = .ok (.ireturn, 1) := by decide +kernel
theorem dX7_next_0 : decode cX7_next 0 = .ok (.aload_n 0, 1) := by decide +kernel
theorem dX7_next_1 : decode cX7_next 1 = .ok (.getfield 59, 3) := by decide +kernel
theorem dX7_next_4 : decode cX7_next 4 = .ok (.aload_n 0, 1) := by decide +kernel
theorem dX7_next_5 : decode cX7_next 5 = .ok (.getfield 56, 3) := by decide +kernel
theorem dX7_next_8 : decode cX7_next 8 = .ok (.if_icmp .ge 15, 3) := by decide +kernel
theorem dX7_next_11 : decode cX7_next 11 = .ok (.aload_n 0, 1) := by decide +kernel
theorem dX7_next_12 : decode cX7_next 12 = .ok (.getfield 65, 3) := by decide +kernel
theorem dX7_next_15 : decode cX7_next 15 = .ok (.aload_n 0, 1) := by decide +kernel
theorem dX7_next_16 : decode cX7_next 16 = .ok (.getfield 59, 3) := by decide +kernel
theorem dX7_next_19 : decode cX7_next 19 = .ok (.iaload, 1) := by decide +kernel
theorem dX7_next_20 : decode cX7_next 20 = .ok (.goto 4, 3) := by decide +kernel
theorem dX7_next_23 : decode cX7_next 23 = .ok (.iconst (-1), 1) := by decide +kernel
theorem dX7_next_24 : decode cX7_next 24 = .ok (.ireturn, 1) := by decide +kernel
theorem dX7_second_0 : decode cX7_second 0 = .ok (.aload_n 0, 1) := by decide +kernel
theorem dX7_second_1 : decode cX7_second 1 = .ok (.getfield 59, 3) := by decide +kernel
theorem dX7_second_4 : decode cX7_second 4 = .ok (.iconst 1, 1) := by decide +kernel
theorem dX7_second_5 : decode cX7_second 5 = .ok (.iadd, 1) := by decide +kernel
theorem dX7_second_6 : decode cX7_second 6 = .ok (.aload_n 0, 1) := by decide +kernel
theorem dX7_second_7 : decode cX7_second 7 = .ok (.getfield 56, 3) := by decide +kernel
theorem dX7_second_10 : decode cX7_second 10 = .ok (.if_icmp .ge 17, 3) := by decide +kernel
theorem dX7_second_13 : decode cX7_second 13 = .ok (.aload_n 0, 1) := by decide +kernel
theorem dX7_second_14 : decode cX7_second 14 = .ok (.getfield 65, 3) := by decide +kernel
theorem dX7_second_17 : decode cX7_second 17 = .ok (.aload_n 0, 1) := by decide +kernel
theorem dX7_second_18 : decode cX7_second 18 = .ok (.getfield 59, 3) := by decide +kernel
theorem dX7_second_21 : decode cX7_second 21 = .ok (.iconst 1, 1) := by decide +kernel
theorem dX7_second_22 : decode cX7_second 22 = .ok (.iadd, 1) := by decide +kernel
theorem dX7_second_23 : decode cX7_second 23 = .ok (.iaload, 1) := by decide +kernel
theorem dX7_second_24 : decode cX7_second 24 = .ok (.goto 4, 3) := by decide +kernel
theorem dX7_second_27 : decode cX7_second 27 = .ok (.iconst (-1), 1) := by decide +kernel
theorem dX7_second_28 : decode cX7_second 28 = .ok (.ireturn, 1) := by decide +kernel
theorem dX7_takes_0 : decode cX7_takes 0 = .ok (.aload_n 0, 1) := by decide +kernel
theorem dX7_takes_1 : decode cX7_takes 1 = .ok (.invokevirtual 298, 3) := by decide +kernel
theorem dX7_takes_4 : decode cX7_takes 4 = .ok (.iload_n 1, 1) := by decide +kernel
theorem dX7_takes_5 : decode cX7_takes 5 = .ok (.if_icmp .eq 5, 3) := by decide +kernel
theorem dX7_takes_8 : decode cX7_takes 8 = .ok (.iconst 0, 1) := by decide +kernel
theorem dX7_takes_9 : decode cX7_takes 9 = .ok (.ireturn, 1) := by decide +kernel
theorem dX7_takes_10 : decode cX7_takes 10 = .ok (.aload_n 0, 1) := by decide +kernel
theorem dX7_takes_11 : decode cX7_takes 11 = .ok (.dup, 1) := by decide +kernel
theorem dX7_takes_12 : decode cX7_takes 12 = .ok (.getfield 59, 3) := by decide +kernel
theorem dX7_takes_15 : decode cX7_takes 15 = .ok (.iconst 1, 1) := by decide +kernel
theorem dX7_takes_16 : decode cX7_takes 16 = .ok (.iadd, 1) := by decide +kernel
theorem dX7_takes_17 : decode cX7_takes 17 = .ok (.putfield 59, 3) := by decide +kernel
theorem dX7_takes_20 : decode cX7_takes 20 = .ok (.iconst 1, 1) := by decide +kernel
theorem dX7_takes_21 : decode cX7_takes 21 = .ok (.ireturn, 1) := by decide +kernel
theorem dX7_takesWord_0 : decode cX7_takesWord 0 = .ok (.iconst 0, 1) := by decide +kernel
theorem dX7_takesWord_1 : decode cX7_takesWord 1 = .ok (.istore_n 3, 1) := by decide +kernel
theorem dX7_takesWord_2 : decode cX7_takesWord 2 = .ok (.iload_n 3, 1) := by decide +kernel
theorem dX7_takesWord_3 : decode cX7_takesWord 3 = .ok (.iload_n 2, 1) := by decide +kernel
theorem dX7_takesWord_4 : decode cX7_takesWord 4 = .ok (.if_icmp .ge 26, 3) := by decide +kernel
theorem dX7_takesWord_7 : decode cX7_takesWord 7 = .ok (.aload_n 0, 1) := by decide +kernel
theorem dX7_takesWord_8 : decode cX7_takesWord 8 = .ok (.aload_n 0, 1) := by decide +kernel
theorem dX7_takesWord_9 : decode cX7_takesWord 9 = .ok (.getfield 98, 3) := by decide +kernel
theorem dX7_takesWord_12 : decode cX7_takesWord 12 = .ok (.iload_n 1, 1) := by decide +kernel
theorem dX7_takesWord_13 : decode cX7_takesWord 13 = .ok (.iload_n 3, 1) := by decide +kernel
theorem dX7_takesWord_14 : decode cX7_takesWord 14 = .ok (.iadd, 1) := by decide +kernel
theorem dX7_takesWord_15 : decode cX7_takesWord 15 = .ok (.iaload, 1) := by decide +kernel
theorem dX7_takesWord_16 : decode cX7_takesWord 16 = .ok (.invokevirtual 302, 3) := by decide +kernel
theorem dX7_takesWord_19 : decode cX7_takesWord 19 = .ok (.ifCond .ne 5, 3) := by decide +kernel
theorem dX7_takesWord_22 : decode cX7_takesWord 22 = .ok (.iconst 0, 1) := by decide +kernel
theorem dX7_takesWord_23 : decode cX7_takesWord 23 = .ok (.ireturn, 1) := by decide +kernel
theorem dX7_takesWord_24 : decode cX7_takesWord 24 = .ok (.iinc 3 1, 3) := by decide +kernel
theorem dX7_takesWord_27 : decode cX7_takesWord 27 = .ok (.goto (-25), 3) := by decide +kernel
theorem dX7_takesWord_30 : decode cX7_takesWord 30 = .ok (.aload_n 0, 1) := by decide +kernel
theorem dX7_takesWord_31 : decode cX7_takesWord 31 = .ok (.bipush 32, 2) := by decide +kernel
theorem dX7_takesWord_33 : decode cX7_takesWord 33 = .ok (.invokevirtual 302, 3) := by decide +kernel
theorem dX7_takesWord_36 : decode cX7_takesWord 36 = .ok (.ireturn, 1) := by decide +kernel
theorem dX7_isDigit_0 : decode cX7_isDigit 0 = .ok (.aload_n 0, 1) := by decide +kernel
theorem dX7_isDigit_1 : decode cX7_isDigit 1 = .ok (.aload_n 0, 1) := by decide +kernel
theorem dX7_isDigit_2 : decode cX7_isDigit 2 = .ok (.invokevirtual 298, 3) := by decide +kernel
theorem dX7_isDigit_5 : decode cX7_isDigit 5 = .ok (.bipush 48, 2) := by decide +kernel
theorem dX7_isDigit_7 : decode cX7_isDigit 7 = .ok (.bipush 57, 2) := by decide +kernel
theorem dX7_isDigit_9 : decode cX7_isDigit 9 = .ok (.invokevirtual 276, 3) := by decide +kernel
theorem dX7_isDigit_12 : decode cX7_isDigit 12 = .ok (.ireturn, 1) := by decide +kernel
theorem dX7_takesNumber_0 : decode cX7_takesNumber 0 = .ok (.aload_n 0, 1) := by decide +kernel
theorem dX7_takesNumber_1 : decode cX7_takesNumber 1 = .ok (.invokevirtual 305, 3) := by decide +kernel
theorem dX7_takesNumber_4 : decode cX7_takesNumber 4 = .ok (.ifCond .ne 5, 3) := by decide +kernel
theorem dX7_takesNumber_7 : decode cX7_takesNumber 7 = .ok (.iconst 0, 1) := by decide +kernel
theorem dX7_takesNumber_8 : decode cX7_takesNumber 8 = .ok (.ireturn, 1) := by decide +kernel
theorem dX7_takesNumber_9 : decode cX7_takesNumber 9 = .ok (.aload_n 0, 1) := by decide +kernel
theorem dX7_takesNumber_10 : decode cX7_takesNumber 10 = .ok (.iconst 0, 1) := by decide +kernel
theorem dX7_takesNumber_11 : decode cX7_takesNumber 11 = .ok (.putfield 62, 3) := by decide +kernel
theorem dX7_takesNumber_14 : decode cX7_takesNumber 14 = .ok (.iconst 0, 1) := by decide +kernel
theorem dX7_takesNumber_15 : decode cX7_takesNumber 15 = .ok (.istore_n 1, 1) := by decide +kernel
theorem dX7_takesNumber_16 : decode cX7_takesNumber 16 = .ok (.iload_n 1, 1) := by decide +kernel
theorem dX7_takesNumber_17 : decode cX7_takesNumber 17 = .ok (.iconst 2, 1) := by decide +kernel
theorem dX7_takesNumber_18 : decode cX7_takesNumber 18 = .ok (.if_icmp .ge 45, 3) := by decide +kernel
theorem dX7_takesNumber_21 : decode cX7_takesNumber 21 = .ok (.aload_n 0, 1) := by decide +kernel
theorem dX7_takesNumber_22 : decode cX7_takesNumber 22 = .ok (.invokevirtual 305, 3) := by decide +kernel
theorem dX7_takesNumber_25 : decode cX7_takesNumber 25 = .ok (.ifCond .eq 38, 3) := by decide +kernel
theorem dX7_takesNumber_28 : decode cX7_takesNumber 28 = .ok (.aload_n 0, 1) := by decide +kernel
theorem dX7_takesNumber_29 : decode cX7_takesNumber 29 = .ok (.bipush 10, 2) := by decide +kernel
theorem dX7_takesNumber_31 : decode cX7_takesNumber 31 = .ok (.aload_n 0, 1) := by decide +kernel
theorem dX7_takesNumber_32 : decode cX7_takesNumber 32 = .ok (.getfield 62, 3) := by decide +kernel
theorem dX7_takesNumber_35 : decode cX7_takesNumber 35 = .ok (.imul, 1) := by decide +kernel
theorem dX7_takesNumber_36 : decode cX7_takesNumber 36 = .ok (.aload_n 0, 1) := by decide +kernel
theorem dX7_takesNumber_37 : decode cX7_takesNumber 37 = .ok (.invokevirtual 298, 3) := by decide +kernel
theorem dX7_takesNumber_40 : decode cX7_takesNumber 40 = .ok (.iadd, 1) := by decide +kernel
theorem dX7_takesNumber_41 : decode cX7_takesNumber 41 = .ok (.bipush 48, 2) := by decide +kernel
theorem dX7_takesNumber_43 : decode cX7_takesNumber 43 = .ok (.isub, 1) := by decide +kernel
theorem dX7_takesNumber_44 : decode cX7_takesNumber 44 = .ok (.putfield 62, 3) := by decide +kernel
theorem dX7_takesNumber_47 : decode cX7_takesNumber 47 = .ok (.aload_n 0, 1) := by decide +kernel
theorem dX7_takesNumber_48 : decode cX7_takesNumber 48 = .ok (.dup, 1) := by decide +kernel
theorem dX7_takesNumber_49 : decode cX7_takesNumber 49 = .ok (.getfield 59, 3) := by decide +kernel
theorem dX7_takesNumber_52 : decode cX7_takesNumber 52 = .ok (.iconst 1, 1) := by decide +kernel
theorem dX7_takesNumber_53 : decode cX7_takesNumber 53 = .ok (.iadd, 1) := by decide +kernel
theorem dX7_takesNumber_54 : decode cX7_takesNumber 54 = .ok (.putfield 59, 3) := by decide +kernel
theorem dX7_takesNumber_57 : decode cX7_takesNumber 57 = .ok (.iinc 1 1, 3) := by decide +kernel
theorem dX7_takesNumber_60 : decode cX7_takesNumber 60 = .ok (.goto (-44), 3) := by decide +kernel
theorem dX7_takesNumber_63 : decode cX7_takesNumber 63 = .ok (.iconst 1, 1) := by decide +kernel
theorem dX7_takesNumber_64 : decode cX7_takesNumber 64 = .ok (.ireturn, 1) := by decide +kernel
theorem dX7_emits_0 : decode cX7_emits 0 = .ok (.aload_n 0, 1) := by decide +kernel
theorem dX7_emits_1 : decode cX7_emits 1 = .ok (.getfield 83, 3) := by decide +kernel
theorem dX7_emits_4 : decode cX7_emits 4 = .ok (.aload_n 0, 1) := by decide +kernel
theorem dX7_emits_5 : decode cX7_emits 5 = .ok (.getfield 89, 3) := by decide +kernel
theorem dX7_emits_8 : decode cX7_emits 8 = .ok (.iload_n 1, 1) := by decide +kernel
theorem dX7_emits_9 : decode cX7_emits 9 = .ok (.iastore, 1) := by decide +kernel
theorem dX7_emits_10 : decode cX7_emits 10 = .ok (.aload_n 0, 1) := by decide +kernel
theorem dX7_emits_11 : decode cX7_emits 11 = .ok (.dup, 1) := by decide +kernel
theorem dX7_emits_12 : decode cX7_emits 12 = .ok (.getfield 89, 3) := by decide +kernel
theorem dX7_emits_15 : decode cX7_emits 15 = .ok (.iconst 1, 1) := by decide +kernel
theorem dX7_emits_16 : decode cX7_emits 16 = .ok (.iadd, 1) := by decide +kernel
theorem dX7_emits_17 : decode cX7_emits 17 = .ok (.putfield 89, 3) := by decide +kernel
theorem dX7_emits_20 : decode cX7_emits 20 = .ok (.return_, 1) := by decide +kernel
theorem dX7_whole_0 : decode cX7_whole 0 = .ok (.aload_n 0, 1) := by decide +kernel
theorem dX7_whole_1 : decode cX7_whole 1 = .ok (.getfield 92, 3) := by decide +kernel
theorem dX7_whole_4 : decode cX7_whole 4 = .ok (.ifCond .le 48, 3) := by decide +kernel
theorem dX7_whole_7 : decode cX7_whole 7 = .ok (.aload_n 0, 1) := by decide +kernel
theorem dX7_whole_8 : decode cX7_whole 8 = .ok (.getfield 86, 3) := by decide +kernel
theorem dX7_whole_11 : decode cX7_whole 11 = .ok (.aload_n 0, 1) := by decide +kernel
theorem dX7_whole_12 : decode cX7_whole 12 = .ok (.getfield 92, 3) := by decide +kernel
theorem dX7_whole_15 : decode cX7_whole 15 = .ok (.iconst 1, 1) := by decide +kernel
theorem dX7_whole_16 : decode cX7_whole 16 = .ok (.isub, 1) := by decide +kernel
theorem dX7_whole_17 : decode cX7_whole 17 = .ok (.iaload, 1) := by decide +kernel
theorem dX7_whole_18 : decode cX7_whole 18 = .ok (.bipush 33, 2) := by decide +kernel
theorem dX7_whole_20 : decode cX7_whole 20 = .ok (.if_icmp .ne 32, 3) := by decide +kernel
theorem dX7_whole_23 : decode cX7_whole 23 = .ok (.aload_n 0, 1) := by decide +kernel
theorem dX7_whole_24 : decode cX7_whole 24 = .ok (.bipush (-33), 2) := by decide +kernel
theorem dX7_whole_26 : decode cX7_whole 26 = .ok (.invokevirtual 309, 3) := by decide +kernel
theorem dX7_whole_29 : decode cX7_whole 29 = .ok (.aload_n 0, 1) := by decide +kernel
theorem dX7_whole_30 : decode cX7_whole 30 = .ok (.dup, 1) := by decide +kernel
theorem dX7_whole_31 : decode cX7_whole 31 = .ok (.getfield 92, 3) := by decide +kernel
theorem dX7_whole_34 : decode cX7_whole 34 = .ok (.iconst 1, 1) := by decide +kernel
theorem dX7_whole_35 : decode cX7_whole 35 = .ok (.isub, 1) := by decide +kernel
theorem dX7_whole_36 : decode cX7_whole 36 = .ok (.putfield 92, 3) := by decide +kernel
theorem dX7_whole_39 : decode cX7_whole 39 = .ok (.aload_n 0, 1) := by decide +kernel
theorem dX7_whole_40 : decode cX7_whole 40 = .ok (.dup, 1) := by decide +kernel
theorem dX7_whole_41 : decode cX7_whole 41 = .ok (.getfield 95, 3) := by decide +kernel
theorem dX7_whole_44 : decode cX7_whole 44 = .ok (.iconst 1, 1) := by decide +kernel
theorem dX7_whole_45 : decode cX7_whole 45 = .ok (.isub, 1) := by decide +kernel
theorem dX7_whole_46 : decode cX7_whole 46 = .ok (.putfield 95, 3) := by decide +kernel
theorem dX7_whole_49 : decode cX7_whole 49 = .ok (.goto (-49), 3) := by decide +kernel
theorem dX7_whole_52 : decode cX7_whole 52 = .ok (.return_, 1) := by decide +kernel
theorem dX7_settle_0 : decode cX7_settle 0 = .ok (.aload_n 0, 1) := by decide +kernel
theorem dX7_settle_1 : decode cX7_settle 1 = .ok (.getfield 92, 3) := by decide +kernel
theorem dX7_settle_4 : decode cX7_settle 4 = .ok (.ifCond .le 68, 3) := by decide +kernel
theorem dX7_settle_7 : decode cX7_settle 7 = .ok (.aload_n 0, 1) := by decide +kernel
theorem dX7_settle_8 : decode cX7_settle 8 = .ok (.getfield 86, 3) := by decide +kernel
theorem dX7_settle_11 : decode cX7_settle 11 = .ok (.aload_n 0, 1) := by decide +kernel
theorem dX7_settle_12 : decode cX7_settle 12 = .ok (.getfield 92, 3) := by decide +kernel
theorem dX7_settle_15 : decode cX7_settle 15 = .ok (.iconst 1, 1) := by decide +kernel
theorem dX7_settle_16 : decode cX7_settle 16 = .ok (.isub, 1) := by decide +kernel
theorem dX7_settle_17 : decode cX7_settle 17 = .ok (.iaload, 1) := by decide +kernel
theorem dX7_settle_18 : decode cX7_settle 18 = .ok (.bipush 38, 2) := by decide +kernel
theorem dX7_settle_20 : decode cX7_settle 20 = .ok (.if_icmp .eq 25, 3) := by decide +kernel
theorem dX7_settle_23 : decode cX7_settle 23 = .ok (.aload_n 0, 1) := by decide +kernel
theorem dX7_settle_24 : decode cX7_settle 24 = .ok (.getfield 86, 3) := by decide +kernel
theorem dX7_settle_27 : decode cX7_settle 27 = .ok (.aload_n 0, 1) := by decide +kernel
theorem dX7_settle_28 : decode cX7_settle 28 = .ok (.getfield 92, 3) := by decide +kernel
theorem dX7_settle_31 : decode cX7_settle 31 = .ok (.iconst 1, 1) := by decide +kernel
theorem dX7_settle_32 : decode cX7_settle 32 = .ok (.isub, 1) := by decide +kernel
theorem dX7_settle_33 : decode cX7_settle 33 = .ok (.iaload, 1) := by decide +kernel
theorem dX7_settle_34 : decode cX7_settle 34 = .ok (.bipush 124, 2) := by decide +kernel
theorem dX7_settle_36 : decode cX7_settle 36 = .ok (.if_icmp .ne 36, 3) := by decide +kernel
theorem dX7_settle_39 : decode cX7_settle 39 = .ok (.iload_n 1, 1) := by decide +kernel
theorem dX7_settle_40 : decode cX7_settle 40 = .ok (.bipush 38, 2) := by decide +kernel
theorem dX7_settle_42 : decode cX7_settle 42 = .ok (.if_icmp .eq 30, 3) := by decide +kernel
theorem dX7_settle_45 : decode cX7_settle 45 = .ok (.aload_n 0, 1) := by decide +kernel
theorem dX7_settle_46 : decode cX7_settle 46 = .ok (.dup, 1) := by decide +kernel
theorem dX7_settle_47 : decode cX7_settle 47 = .ok (.getfield 92, 3) := by decide +kernel
theorem dX7_settle_50 : decode cX7_settle 50 = .ok (.iconst 1, 1) := by decide +kernel
theorem dX7_settle_51 : decode cX7_settle 51 = .ok (.isub, 1) := by decide +kernel
theorem dX7_settle_52 : decode cX7_settle 52 = .ok (.putfield 92, 3) := by decide +kernel
theorem dX7_settle_55 : decode cX7_settle 55 = .ok (.aload_n 0, 1) := by decide +kernel
theorem dX7_settle_56 : decode cX7_settle 56 = .ok (.aload_n 0, 1) := by decide +kernel
theorem dX7_settle_57 : decode cX7_settle 57 = .ok (.getfield 86, 3) := by decide +kernel
theorem dX7_settle_60 : decode cX7_settle 60 = .ok (.aload_n 0, 1) := by decide +kernel
theorem dX7_settle_61 : decode cX7_settle 61 = .ok (.getfield 92, 3) := by decide +kernel
theorem dX7_settle_64 : decode cX7_settle 64 = .ok (.iaload, 1) := by decide +kernel
theorem dX7_settle_65 : decode cX7_settle 65 = .ok (.ineg, 1) := by decide +kernel
theorem dX7_settle_66 : decode cX7_settle 66 = .ok (.invokevirtual 309, 3) := by decide +kernel
theorem dX7_settle_69 : decode cX7_settle 69 = .ok (.goto (-69), 3) := by decide +kernel
theorem dX7_settle_72 : decode cX7_settle 72 = .ok (.return_, 1) := by decide +kernel
theorem dX7_place_0 : decode cX7_place 0 = .ok (.iload_n 1, 1) := by decide +kernel
theorem dX7_place_1 : decode cX7_place 1 = .ok (.tableswitch 107 100 119 #[105, 107, 107, 107, 107, 107, 107, 97, 101, 107, 107, 107, 95, 107, 107, 107, 107, 107, 99, 103], 95) := by decide +kernel
theorem dX7_place_96 : decode cX7_place 96 = .ok (.iconst 0, 1) := by decide +kernel
theorem dX7_place_97 : decode cX7_place 97 = .ok (.ireturn, 1) := by decide +kernel
theorem dX7_place_98 : decode cX7_place 98 = .ok (.iconst 1, 1) := by decide +kernel
theorem dX7_place_99 : decode cX7_place 99 = .ok (.ireturn, 1) := by decide +kernel
theorem dX7_place_100 : decode cX7_place 100 = .ok (.iconst 2, 1) := by decide +kernel
theorem dX7_place_101 : decode cX7_place 101 = .ok (.ireturn, 1) := by decide +kernel
theorem dX7_place_102 : decode cX7_place 102 = .ok (.iconst 3, 1) := by decide +kernel
theorem dX7_place_103 : decode cX7_place 103 = .ok (.ireturn, 1) := by decide +kernel
theorem dX7_place_104 : decode cX7_place 104 = .ok (.iconst 4, 1) := by decide +kernel
theorem dX7_place_105 : decode cX7_place 105 = .ok (.ireturn, 1) := by decide +kernel
theorem dX7_place_106 : decode cX7_place 106 = .ok (.iconst 5, 1) := by decide +kernel
theorem dX7_place_107 : decode cX7_place 107 = .ok (.ireturn, 1) := by decide +kernel
theorem dX7_place_108 : decode cX7_place 108 = .ok (.iconst (-1), 1) := by decide +kernel
theorem dX7_place_109 : decode cX7_place 109 = .ok (.ireturn, 1) := by decide +kernel
theorem dX7_takesTest_0 : decode cX7_takesTest 0 = .ok (.aload_n 0, 1) := by decide +kernel
theorem dX7_takesTest_1 : decode cX7_takesTest 1 = .ok (.aload_n 0, 1) := by decide +kernel
theorem dX7_takesTest_2 : decode cX7_takesTest 2 = .ok (.invokevirtual 298, 3) := by decide +kernel
theorem dX7_takesTest_5 : decode cX7_takesTest 5 = .ok (.invokevirtual 312, 3) := by decide +kernel
theorem dX7_takesTest_8 : decode cX7_takesTest 8 = .ok (.istore_n 1, 1) := by decide +kernel
theorem dX7_takesTest_9 : decode cX7_takesTest 9 = .ok (.iload_n 1, 1) := by decide +kernel
theorem dX7_takesTest_10 : decode cX7_takesTest 10 = .ok (.ifCond .ge 5, 3) := by decide +kernel
theorem dX7_takesTest_13 : decode cX7_takesTest 13 = .ok (.iconst 0, 1) := by decide +kernel
theorem dX7_takesTest_14 : decode cX7_takesTest 14 = .ok (.ireturn, 1) := by decide +kernel
theorem dX7_takesTest_15 : decode cX7_takesTest 15 = .ok (.aload_n 0, 1) := by decide +kernel
theorem dX7_takesTest_16 : decode cX7_takesTest 16 = .ok (.dup, 1) := by decide +kernel
theorem dX7_takesTest_17 : decode cX7_takesTest 17 = .ok (.getfield 59, 3) := by decide +kernel
theorem dX7_takesTest_20 : decode cX7_takesTest 20 = .ok (.iconst 1, 1) := by decide +kernel
theorem dX7_takesTest_21 : decode cX7_takesTest 21 = .ok (.iadd, 1) := by decide +kernel
theorem dX7_takesTest_22 : decode cX7_takesTest 22 = .ok (.putfield 59, 3) := by decide +kernel
theorem dX7_takesTest_25 : decode cX7_takesTest 25 = .ok (.aload_n 0, 1) := by decide +kernel
theorem dX7_takesTest_26 : decode cX7_takesTest 26 = .ok (.invokevirtual 298, 3) := by decide +kernel
theorem dX7_takesTest_29 : decode cX7_takesTest 29 = .ok (.istore_n 2, 1) := by decide +kernel
theorem dX7_takesTest_30 : decode cX7_takesTest 30 = .ok (.aload_n 0, 1) := by decide +kernel
theorem dX7_takesTest_31 : decode cX7_takesTest 31 = .ok (.iload_n 2, 1) := by decide +kernel
theorem dX7_takesTest_32 : decode cX7_takesTest 32 = .ok (.bipush 60, 2) := by decide +kernel
theorem dX7_takesTest_34 : decode cX7_takesTest 34 = .ok (.bipush 62, 2) := by decide +kernel
theorem dX7_takesTest_36 : decode cX7_takesTest 36 = .ok (.invokevirtual 276, 3) := by decide +kernel
theorem dX7_takesTest_39 : decode cX7_takesTest 39 = .ok (.ifCond .ne 5, 3) := by decide +kernel
theorem dX7_takesTest_42 : decode cX7_takesTest 42 = .ok (.iconst 0, 1) := by decide +kernel
theorem dX7_takesTest_43 : decode cX7_takesTest 43 = .ok (.ireturn, 1) := by decide +kernel
theorem dX7_takesTest_44 : decode cX7_takesTest 44 = .ok (.aload_n 0, 1) := by decide +kernel
theorem dX7_takesTest_45 : decode cX7_takesTest 45 = .ok (.dup, 1) := by decide +kernel
theorem dX7_takesTest_46 : decode cX7_takesTest 46 = .ok (.getfield 59, 3) := by decide +kernel
theorem dX7_takesTest_49 : decode cX7_takesTest 49 = .ok (.iconst 1, 1) := by decide +kernel
theorem dX7_takesTest_50 : decode cX7_takesTest 50 = .ok (.iadd, 1) := by decide +kernel
theorem dX7_takesTest_51 : decode cX7_takesTest 51 = .ok (.putfield 59, 3) := by decide +kernel
theorem dX7_takesTest_54 : decode cX7_takesTest 54 = .ok (.aload_n 0, 1) := by decide +kernel
theorem dX7_takesTest_55 : decode cX7_takesTest 55 = .ok (.invokevirtual 315, 3) := by decide +kernel
theorem dX7_takesTest_58 : decode cX7_takesTest 58 = .ok (.ifCond .ne 5, 3) := by decide +kernel
theorem dX7_takesTest_61 : decode cX7_takesTest 61 = .ok (.iconst 0, 1) := by decide +kernel
theorem dX7_takesTest_62 : decode cX7_takesTest 62 = .ok (.ireturn, 1) := by decide +kernel
theorem dX7_takesTest_63 : decode cX7_takesTest 63 = .ok (.aload_n 0, 1) := by decide +kernel
theorem dX7_takesTest_64 : decode cX7_takesTest 64 = .ok (.sipush 1000, 3) := by decide +kernel
theorem dX7_takesTest_67 : decode cX7_takesTest 67 = .ok (.iload_n 1, 1) := by decide +kernel
theorem dX7_takesTest_68 : decode cX7_takesTest 68 = .ok (.imul, 1) := by decide +kernel
theorem dX7_takesTest_69 : decode cX7_takesTest 69 = .ok (.bipush 100, 2) := by decide +kernel
theorem dX7_takesTest_71 : decode cX7_takesTest 71 = .ok (.iload_n 2, 1) := by decide +kernel
theorem dX7_takesTest_72 : decode cX7_takesTest 72 = .ok (.bipush 60, 2) := by decide +kernel
theorem dX7_takesTest_74 : decode cX7_takesTest 74 = .ok (.isub, 1) := by decide +kernel
theorem dX7_takesTest_75 : decode cX7_takesTest 75 = .ok (.imul, 1) := by decide +kernel
theorem dX7_takesTest_76 : decode cX7_takesTest 76 = .ok (.iadd, 1) := by decide +kernel
theorem dX7_takesTest_77 : decode cX7_takesTest 77 = .ok (.aload_n 0, 1) := by decide +kernel
theorem dX7_takesTest_78 : decode cX7_takesTest 78 = .ok (.getfield 62, 3) := by decide +kernel
theorem dX7_takesTest_81 : decode cX7_takesTest 81 = .ok (.iadd, 1) := by decide +kernel
theorem dX7_takesTest_82 : decode cX7_takesTest 82 = .ok (.invokevirtual 309, 3) := by decide +kernel
theorem dX7_takesTest_85 : decode cX7_takesTest 85 = .ok (.aload_n 0, 1) := by decide +kernel
theorem dX7_takesTest_86 : decode cX7_takesTest 86 = .ok (.invokevirtual 318, 3) := by decide +kernel
theorem dX7_takesTest_89 : decode cX7_takesTest 89 = .ok (.iconst 1, 1) := by decide +kernel
theorem dX7_takesTest_90 : decode cX7_takesTest 90 = .ok (.ireturn, 1) := by decide +kernel
theorem dX7_takesE_0 : decode cX7_takesE 0 = .ok (.aload_n 0, 1) := by decide +kernel
theorem dX7_takesE_1 : decode cX7_takesE 1 = .ok (.iconst 0, 1) := by decide +kernel
theorem dX7_takesE_2 : decode cX7_takesE 2 = .ok (.putfield 92, 3) := by decide +kernel
theorem dX7_takesE_5 : decode cX7_takesE 5 = .ok (.aload_n 0, 1) := by decide +kernel
theorem dX7_takesE_6 : decode cX7_takesE 6 = .ok (.iconst 0, 1) := by decide +kernel
theorem dX7_takesE_7 : decode cX7_takesE 7 = .ok (.putfield 95, 3) := by decide +kernel
theorem dX7_takesE_10 : decode cX7_takesE 10 = .ok (.aload_n 0, 1) := by decide +kernel
theorem dX7_takesE_11 : decode cX7_takesE 11 = .ok (.getfield 77, 3) := by decide +kernel
theorem dX7_takesE_14 : decode cX7_takesE 14 = .ok (.iload_n 1, 1) := by decide +kernel
theorem dX7_takesE_15 : decode cX7_takesE 15 = .ok (.aload_n 0, 1) := by decide +kernel
theorem dX7_takesE_16 : decode cX7_takesE 16 = .ok (.getfield 89, 3) := by decide +kernel
theorem dX7_takesE_19 : decode cX7_takesE 19 = .ok (.iastore, 1) := by decide +kernel
theorem dX7_takesE_20 : decode cX7_takesE 20 = .ok (.iconst 1, 1) := by decide +kernel
theorem dX7_takesE_21 : decode cX7_takesE 21 = .ok (.istore_n 2, 1) := by decide +kernel
theorem dX7_takesE_22 : decode cX7_takesE 22 = .ok (.aload_n 0, 1) := by decide +kernel
theorem dX7_takesE_23 : decode cX7_takesE 23 = .ok (.invokevirtual 298, 3) := by decide +kernel
theorem dX7_takesE_26 : decode cX7_takesE 26 = .ok (.istore_n 3, 1) := by decide +kernel
theorem dX7_takesE_27 : decode cX7_takesE 27 = .ok (.iload_n 2, 1) := by decide +kernel
theorem dX7_takesE_28 : decode cX7_takesE 28 = .ok (.ifCond .eq 82, 3) := by decide +kernel
theorem dX7_takesE_31 : decode cX7_takesE 31 = .ok (.iload_n 3, 1) := by decide +kernel
theorem dX7_takesE_32 : decode cX7_takesE 32 = .ok (.bipush 33, 2) := by decide +kernel
theorem dX7_takesE_34 : decode cX7_takesE 34 = .ok (.if_icmp .eq 9, 3) := by decide +kernel
theorem dX7_takesE_37 : decode cX7_takesE 37 = .ok (.iload_n 3, 1) := by decide +kernel
theorem dX7_takesE_38 : decode cX7_takesE 38 = .ok (.bipush 40, 2) := by decide +kernel
theorem dX7_takesE_40 : decode cX7_takesE 40 = .ok (.if_icmp .ne 56, 3) := by decide +kernel
theorem dX7_takesE_43 : decode cX7_takesE 43 = .ok (.aload_n 0, 1) := by decide +kernel
theorem dX7_takesE_44 : decode cX7_takesE 44 = .ok (.getfield 95, 3) := by decide +kernel
theorem dX7_takesE_47 : decode cX7_takesE 47 = .ok (.iconst 4, 1) := by decide +kernel
theorem dX7_takesE_48 : decode cX7_takesE 48 = .ok (.if_icmp .ne 5, 3) := by decide +kernel
theorem dX7_takesE_51 : decode cX7_takesE 51 = .ok (.iconst 0, 1) := by decide +kernel
theorem dX7_takesE_52 : decode cX7_takesE 52 = .ok (.ireturn, 1) := by decide +kernel
theorem dX7_takesE_53 : decode cX7_takesE 53 = .ok (.aload_n 0, 1) := by decide +kernel
theorem dX7_takesE_54 : decode cX7_takesE 54 = .ok (.dup, 1) := by decide +kernel
theorem dX7_takesE_55 : decode cX7_takesE 55 = .ok (.getfield 95, 3) := by decide +kernel
theorem dX7_takesE_58 : decode cX7_takesE 58 = .ok (.iconst 1, 1) := by decide +kernel
theorem dX7_takesE_59 : decode cX7_takesE 59 = .ok (.iadd, 1) := by decide +kernel
theorem dX7_takesE_60 : decode cX7_takesE 60 = .ok (.putfield 95, 3) := by decide +kernel
theorem dX7_takesE_63 : decode cX7_takesE 63 = .ok (.aload_n 0, 1) := by decide +kernel
theorem dX7_takesE_64 : decode cX7_takesE 64 = .ok (.getfield 86, 3) := by decide +kernel
theorem dX7_takesE_67 : decode cX7_takesE 67 = .ok (.aload_n 0, 1) := by decide +kernel
theorem dX7_takesE_68 : decode cX7_takesE 68 = .ok (.getfield 92, 3) := by decide +kernel
theorem dX7_takesE_71 : decode cX7_takesE 71 = .ok (.iload_n 3, 1) := by decide +kernel
theorem dX7_takesE_72 : decode cX7_takesE 72 = .ok (.iastore, 1) := by decide +kernel
theorem dX7_takesE_73 : decode cX7_takesE 73 = .ok (.aload_n 0, 1) := by decide +kernel
theorem dX7_takesE_74 : decode cX7_takesE 74 = .ok (.dup, 1) := by decide +kernel
theorem dX7_takesE_75 : decode cX7_takesE 75 = .ok (.getfield 92, 3) := by decide +kernel
theorem dX7_takesE_78 : decode cX7_takesE 78 = .ok (.iconst 1, 1) := by decide +kernel
theorem dX7_takesE_79 : decode cX7_takesE 79 = .ok (.iadd, 1) := by decide +kernel
theorem dX7_takesE_80 : decode cX7_takesE 80 = .ok (.putfield 92, 3) := by decide +kernel
theorem dX7_takesE_83 : decode cX7_takesE 83 = .ok (.aload_n 0, 1) := by decide +kernel
theorem dX7_takesE_84 : decode cX7_takesE 84 = .ok (.dup, 1) := by decide +kernel
theorem dX7_takesE_85 : decode cX7_takesE 85 = .ok (.getfield 59, 3) := by decide +kernel
theorem dX7_takesE_88 : decode cX7_takesE 88 = .ok (.iconst 1, 1) := by decide +kernel
theorem dX7_takesE_89 : decode cX7_takesE 89 = .ok (.iadd, 1) := by decide +kernel
theorem dX7_takesE_90 : decode cX7_takesE 90 = .ok (.putfield 59, 3) := by decide +kernel
theorem dX7_takesE_93 : decode cX7_takesE 93 = .ok (.goto (-71), 3) := by decide +kernel
theorem dX7_takesE_96 : decode cX7_takesE 96 = .ok (.aload_n 0, 1) := by decide +kernel
theorem dX7_takesE_97 : decode cX7_takesE 97 = .ok (.invokevirtual 321, 3) := by decide +kernel
theorem dX7_takesE_100 : decode cX7_takesE 100 = .ok (.ifCond .eq 8, 3) := by decide +kernel
theorem dX7_takesE_103 : decode cX7_takesE 103 = .ok (.iconst 0, 1) := by decide +kernel
theorem dX7_takesE_104 : decode cX7_takesE 104 = .ok (.istore_n 2, 1) := by decide +kernel
theorem dX7_takesE_105 : decode cX7_takesE 105 = .ok (.goto (-83), 3) := by decide +kernel
theorem dX7_takesE_108 : decode cX7_takesE 108 = .ok (.iconst 0, 1) := by decide +kernel
theorem dX7_takesE_109 : decode cX7_takesE 109 = .ok (.ireturn, 1) := by decide +kernel
theorem dX7_takesE_110 : decode cX7_takesE 110 = .ok (.iload_n 3, 1) := by decide +kernel
theorem dX7_takesE_111 : decode cX7_takesE 111 = .ok (.bipush 38, 2) := by decide +kernel
theorem dX7_takesE_113 : decode cX7_takesE 113 = .ok (.if_icmp .eq 9, 3) := by decide +kernel
theorem dX7_takesE_116 : decode cX7_takesE 116 = .ok (.iload_n 3, 1) := by decide +kernel
theorem dX7_takesE_117 : decode cX7_takesE 117 = .ok (.bipush 124, 2) := by decide +kernel
theorem dX7_takesE_119 : decode cX7_takesE 119 = .ok (.if_icmp .ne 43, 3) := by decide +kernel
theorem dX7_takesE_122 : decode cX7_takesE 122 = .ok (.aload_n 0, 1) := by decide +kernel
theorem dX7_takesE_123 : decode cX7_takesE 123 = .ok (.iload_n 3, 1) := by decide +kernel
theorem dX7_takesE_124 : decode cX7_takesE 124 = .ok (.invokevirtual 324, 3) := by decide +kernel
theorem dX7_takesE_127 : decode cX7_takesE 127 = .ok (.aload_n 0, 1) := by decide +kernel
theorem dX7_takesE_128 : decode cX7_takesE 128 = .ok (.getfield 86, 3) := by decide +kernel
theorem dX7_takesE_131 : decode cX7_takesE 131 = .ok (.aload_n 0, 1) := by decide +kernel
theorem dX7_takesE_132 : decode cX7_takesE 132 = .ok (.getfield 92, 3) := by decide +kernel
theorem dX7_takesE_135 : decode cX7_takesE 135 = .ok (.iload_n 3, 1) := by decide +kernel
theorem dX7_takesE_136 : decode cX7_takesE 136 = .ok (.iastore, 1) := by decide +kernel
theorem dX7_takesE_137 : decode cX7_takesE 137 = .ok (.aload_n 0, 1) := by decide +kernel
theorem dX7_takesE_138 : decode cX7_takesE 138 = .ok (.dup, 1) := by decide +kernel
theorem dX7_takesE_139 : decode cX7_takesE 139 = .ok (.getfield 92, 3) := by decide +kernel
theorem dX7_takesE_142 : decode cX7_takesE 142 = .ok (.iconst 1, 1) := by decide +kernel
theorem dX7_takesE_143 : decode cX7_takesE 143 = .ok (.iadd, 1) := by decide +kernel
theorem dX7_takesE_144 : decode cX7_takesE 144 = .ok (.putfield 92, 3) := by decide +kernel
theorem dX7_takesE_147 : decode cX7_takesE 147 = .ok (.iconst 1, 1) := by decide +kernel
theorem dX7_takesE_148 : decode cX7_takesE 148 = .ok (.istore_n 2, 1) := by decide +kernel
theorem dX7_takesE_149 : decode cX7_takesE 149 = .ok (.aload_n 0, 1) := by decide +kernel
theorem dX7_takesE_150 : decode cX7_takesE 150 = .ok (.dup, 1) := by decide +kernel
theorem dX7_takesE_151 : decode cX7_takesE 151 = .ok (.getfield 59, 3) := by decide +kernel
theorem dX7_takesE_154 : decode cX7_takesE 154 = .ok (.iconst 1, 1) := by decide +kernel
theorem dX7_takesE_155 : decode cX7_takesE 155 = .ok (.iadd, 1) := by decide +kernel
theorem dX7_takesE_156 : decode cX7_takesE 156 = .ok (.putfield 59, 3) := by decide +kernel
theorem dX7_takesE_159 : decode cX7_takesE 159 = .ok (.goto (-137), 3) := by decide +kernel
theorem dX7_takesE_162 : decode cX7_takesE 162 = .ok (.aload_n 0, 1) := by decide +kernel
theorem dX7_takesE_163 : decode cX7_takesE 163 = .ok (.bipush 124, 2) := by decide +kernel
theorem dX7_takesE_165 : decode cX7_takesE 165 = .ok (.invokevirtual 324, 3) := by decide +kernel
theorem dX7_takesE_168 : decode cX7_takesE 168 = .ok (.aload_n 0, 1) := by decide +kernel
theorem dX7_takesE_169 : decode cX7_takesE 169 = .ok (.getfield 80, 3) := by decide +kernel
theorem dX7_takesE_172 : decode cX7_takesE 172 = .ok (.iload_n 1, 1) := by decide +kernel
theorem dX7_takesE_173 : decode cX7_takesE 173 = .ok (.aload_n 0, 1) := by decide +kernel
theorem dX7_takesE_174 : decode cX7_takesE 174 = .ok (.getfield 89, 3) := by decide +kernel
theorem dX7_takesE_177 : decode cX7_takesE 177 = .ok (.iastore, 1) := by decide +kernel
theorem dX7_takesE_178 : decode cX7_takesE 178 = .ok (.aload_n 0, 1) := by decide +kernel
theorem dX7_takesE_179 : decode cX7_takesE 179 = .ok (.getfield 92, 3) := by decide +kernel
theorem dX7_takesE_182 : decode cX7_takesE 182 = .ok (.ifCond .ne 5, 3) := by decide +kernel
theorem dX7_takesE_185 : decode cX7_takesE 185 = .ok (.iconst 1, 1) := by decide +kernel
theorem dX7_takesE_186 : decode cX7_takesE 186 = .ok (.ireturn, 1) := by decide +kernel
theorem dX7_takesE_187 : decode cX7_takesE 187 = .ok (.iload_n 3, 1) := by decide +kernel
theorem dX7_takesE_188 : decode cX7_takesE 188 = .ok (.bipush 41, 2) := by decide +kernel
theorem dX7_takesE_190 : decode cX7_takesE 190 = .ok (.if_icmp .eq 5, 3) := by decide +kernel
theorem dX7_takesE_193 : decode cX7_takesE 193 = .ok (.iconst 0, 1) := by decide +kernel
theorem dX7_takesE_194 : decode cX7_takesE 194 = .ok (.ireturn, 1) := by decide +kernel
theorem dX7_takesE_195 : decode cX7_takesE 195 = .ok (.aload_n 0, 1) := by decide +kernel
theorem dX7_takesE_196 : decode cX7_takesE 196 = .ok (.dup, 1) := by decide +kernel
theorem dX7_takesE_197 : decode cX7_takesE 197 = .ok (.getfield 92, 3) := by decide +kernel
theorem dX7_takesE_200 : decode cX7_takesE 200 = .ok (.iconst 1, 1) := by decide +kernel
theorem dX7_takesE_201 : decode cX7_takesE 201 = .ok (.isub, 1) := by decide +kernel
theorem dX7_takesE_202 : decode cX7_takesE 202 = .ok (.putfield 92, 3) := by decide +kernel
theorem dX7_takesE_205 : decode cX7_takesE 205 = .ok (.aload_n 0, 1) := by decide +kernel
theorem dX7_takesE_206 : decode cX7_takesE 206 = .ok (.dup, 1) := by decide +kernel
theorem dX7_takesE_207 : decode cX7_takesE 207 = .ok (.getfield 95, 3) := by decide +kernel
theorem dX7_takesE_210 : decode cX7_takesE 210 = .ok (.iconst 1, 1) := by decide +kernel
theorem dX7_takesE_211 : decode cX7_takesE 211 = .ok (.isub, 1) := by decide +kernel
theorem dX7_takesE_212 : decode cX7_takesE 212 = .ok (.putfield 95, 3) := by decide +kernel
theorem dX7_takesE_215 : decode cX7_takesE 215 = .ok (.aload_n 0, 1) := by decide +kernel
theorem dX7_takesE_216 : decode cX7_takesE 216 = .ok (.dup, 1) := by decide +kernel
theorem dX7_takesE_217 : decode cX7_takesE 217 = .ok (.getfield 59, 3) := by decide +kernel
theorem dX7_takesE_220 : decode cX7_takesE 220 = .ok (.iconst 1, 1) := by decide +kernel
theorem dX7_takesE_221 : decode cX7_takesE 221 = .ok (.iadd, 1) := by decide +kernel
theorem dX7_takesE_222 : decode cX7_takesE 222 = .ok (.putfield 59, 3) := by decide +kernel
theorem dX7_takesE_225 : decode cX7_takesE 225 = .ok (.aload_n 0, 1) := by decide +kernel
theorem dX7_takesE_226 : decode cX7_takesE 226 = .ok (.invokevirtual 318, 3) := by decide +kernel
theorem dX7_takesE_229 : decode cX7_takesE 229 = .ok (.goto (-207), 3) := by decide +kernel
theorem dX7_takesHead_0 : decode cX7_takesHead 0 = .ok (.aload_n 0, 1) := by decide +kernel
theorem dX7_takesHead_1 : decode cX7_takesHead 1 = .ok (.invokevirtual 298, 3) := by decide +kernel
theorem dX7_takesHead_4 : decode cX7_takesHead 4 = .ok (.lookupswitch 57 #[(102, 28), (108, 42)], 28) := by decide +kernel
theorem dX7_takesHead_32 : decode cX7_takesHead 32 = .ok (.aload_n 0, 1) := by decide +kernel
theorem dX7_takesHead_33 : decode cX7_takesHead 33 = .ok (.getfield 71, 3) := by decide +kernel
theorem dX7_takesHead_36 : decode cX7_takesHead 36 = .ok (.iload_n 1, 1) := by decide +kernel
theorem dX7_takesHead_37 : decode cX7_takesHead 37 = .ok (.iconst 0, 1) := by decide +kernel
theorem dX7_takesHead_38 : decode cX7_takesHead 38 = .ok (.iastore, 1) := by decide +kernel
theorem dX7_takesHead_39 : decode cX7_takesHead 39 = .ok (.aload_n 0, 1) := by decide +kernel
theorem dX7_takesHead_40 : decode cX7_takesHead 40 = .ok (.iconst 0, 1) := by decide +kernel
theorem dX7_takesHead_41 : decode cX7_takesHead 41 = .ok (.iconst 4, 1) := by decide +kernel
theorem dX7_takesHead_42 : decode cX7_takesHead 42 = .ok (.invokevirtual 327, 3) := by decide +kernel
theorem dX7_takesHead_45 : decode cX7_takesHead 45 = .ok (.ireturn, 1) := by decide +kernel
theorem dX7_takesHead_46 : decode cX7_takesHead 46 = .ok (.aload_n 0, 1) := by decide +kernel
theorem dX7_takesHead_47 : decode cX7_takesHead 47 = .ok (.getfield 71, 3) := by decide +kernel
theorem dX7_takesHead_50 : decode cX7_takesHead 50 = .ok (.iload_n 1, 1) := by decide +kernel
theorem dX7_takesHead_51 : decode cX7_takesHead 51 = .ok (.iconst 3, 1) := by decide +kernel
theorem dX7_takesHead_52 : decode cX7_takesHead 52 = .ok (.iastore, 1) := by decide +kernel
theorem dX7_takesHead_53 : decode cX7_takesHead 53 = .ok (.aload_n 0, 1) := by decide +kernel
theorem dX7_takesHead_54 : decode cX7_takesHead 54 = .ok (.bipush 12, 2) := by decide +kernel
theorem dX7_takesHead_56 : decode cX7_takesHead 56 = .ok (.iconst 4, 1) := by decide +kernel
theorem dX7_takesHead_57 : decode cX7_takesHead 57 = .ok (.invokevirtual 327, 3) := by decide +kernel
theorem dX7_takesHead_60 : decode cX7_takesHead 60 = .ok (.ireturn, 1) := by decide +kernel
theorem dX7_takesHead_61 : decode cX7_takesHead 61 = .ok (.aload_n 0, 1) := by decide +kernel
theorem dX7_takesHead_62 : decode cX7_takesHead 62 = .ok (.getfield 71, 3) := by decide +kernel
theorem dX7_takesHead_65 : decode cX7_takesHead 65 = .ok (.iload_n 1, 1) := by decide +kernel
theorem dX7_takesHead_66 : decode cX7_takesHead 66 = .ok (.aload_n 0, 1) := by decide +kernel
theorem dX7_takesHead_67 : decode cX7_takesHead 67 = .ok (.invokevirtual 331, 3) := by decide +kernel
theorem dX7_takesHead_70 : decode cX7_takesHead 70 = .ok (.bipush 105, 2) := by decide +kernel
theorem dX7_takesHead_72 : decode cX7_takesHead 72 = .ok (.if_icmp .ne 7, 3) := by decide +kernel
theorem dX7_takesHead_75 : decode cX7_takesHead 75 = .ok (.iconst 2, 1) := by decide +kernel
theorem dX7_takesHead_76 : decode cX7_takesHead 76 = .ok (.goto 4, 3) := by decide +kernel
theorem dX7_takesHead_79 : decode cX7_takesHead 79 = .ok (.iconst 1, 1) := by decide +kernel
theorem dX7_takesHead_80 : decode cX7_takesHead 80 = .ok (.iastore, 1) := by decide +kernel
theorem dX7_takesHead_81 : decode cX7_takesHead 81 = .ok (.aload_n 0, 1) := by decide +kernel
theorem dX7_takesHead_82 : decode cX7_takesHead 82 = .ok (.getfield 71, 3) := by decide +kernel
theorem dX7_takesHead_85 : decode cX7_takesHead 85 = .ok (.iload_n 1, 1) := by decide +kernel
theorem dX7_takesHead_86 : decode cX7_takesHead 86 = .ok (.iaload, 1) := by decide +kernel
theorem dX7_takesHead_87 : decode cX7_takesHead 87 = .ok (.iconst 2, 1) := by decide +kernel
theorem dX7_takesHead_88 : decode cX7_takesHead 88 = .ok (.if_icmp .ne 13, 3) := by decide +kernel
theorem dX7_takesHead_91 : decode cX7_takesHead 91 = .ok (.aload_n 0, 1) := by decide +kernel
theorem dX7_takesHead_92 : decode cX7_takesHead 92 = .ok (.bipush 8, 2) := by decide +kernel
theorem dX7_takesHead_94 : decode cX7_takesHead 94 = .ok (.iconst 4, 1) := by decide +kernel
theorem dX7_takesHead_95 : decode cX7_takesHead 95 = .ok (.invokevirtual 327, 3) := by decide +kernel
theorem dX7_takesHead_98 : decode cX7_takesHead 98 = .ok (.goto 9, 3) := by decide +kernel
theorem dX7_takesHead_101 : decode cX7_takesHead 101 = .ok (.aload_n 0, 1) := by decide +kernel
theorem dX7_takesHead_102 : decode cX7_takesHead 102 = .ok (.iconst 4, 1) := by decide +kernel
theorem dX7_takesHead_103 : decode cX7_takesHead 103 = .ok (.iconst 4, 1) := by decide +kernel
theorem dX7_takesHead_104 : decode cX7_takesHead 104 = .ok (.invokevirtual 327, 3) := by decide +kernel
theorem dX7_takesHead_107 : decode cX7_takesHead 107 = .ok (.ireturn, 1) := by decide +kernel
theorem dX7_takesClause_0 : decode cX7_takesClause 0 = .ok (.aload_n 0, 1) := by decide +kernel
theorem dX7_takesClause_1 : decode cX7_takesClause 1 = .ok (.iload_n 1, 1) := by decide +kernel
theorem dX7_takesClause_2 : decode cX7_takesClause 2 = .ok (.invokevirtual 334, 3) := by decide +kernel
theorem dX7_takesClause_5 : decode cX7_takesClause 5 = .ok (.ifCond .eq 10, 3) := by decide +kernel
theorem dX7_takesClause_8 : decode cX7_takesClause 8 = .ok (.aload_n 0, 1) := by decide +kernel
theorem dX7_takesClause_9 : decode cX7_takesClause 9 = .ok (.invokevirtual 315, 3) := by decide +kernel
theorem dX7_takesClause_12 : decode cX7_takesClause 12 = .ok (.ifCond .ne 5, 3) := by decide +kernel
theorem dX7_takesClause_15 : decode cX7_takesClause 15 = .ok (.iconst 0, 1) := by decide +kernel
theorem dX7_takesClause_16 : decode cX7_takesClause 16 = .ok (.ireturn, 1) := by decide +kernel
theorem dX7_takesClause_17 : decode cX7_takesClause 17 = .ok (.aload_n 0, 1) := by decide +kernel
theorem dX7_takesClause_18 : decode cX7_takesClause 18 = .ok (.getfield 74, 3) := by decide +kernel
theorem dX7_takesClause_21 : decode cX7_takesClause 21 = .ok (.iload_n 1, 1) := by decide +kernel
theorem dX7_takesClause_22 : decode cX7_takesClause 22 = .ok (.aload_n 0, 1) := by decide +kernel
theorem dX7_takesClause_23 : decode cX7_takesClause 23 = .ok (.getfield 62, 3) := by decide +kernel
theorem dX7_takesClause_26 : decode cX7_takesClause 26 = .ok (.iastore, 1) := by decide +kernel
theorem dX7_takesClause_27 : decode cX7_takesClause 27 = .ok (.aload_n 0, 1) := by decide +kernel
theorem dX7_takesClause_28 : decode cX7_takesClause 28 = .ok (.getfield 71, 3) := by decide +kernel
theorem dX7_takesClause_31 : decode cX7_takesClause 31 = .ok (.iload_n 1, 1) := by decide +kernel
theorem dX7_takesClause_32 : decode cX7_takesClause 32 = .ok (.iaload, 1) := by decide +kernel
theorem dX7_takesClause_33 : decode cX7_takesClause 33 = .ok (.iconst 2, 1) := by decide +kernel
theorem dX7_takesClause_34 : decode cX7_takesClause 34 = .ok (.if_icmp .ge 20, 3) := by decide +kernel
theorem dX7_takesClause_37 : decode cX7_takesClause 37 = .ok (.aload_n 0, 1) := by decide +kernel
theorem dX7_takesClause_38 : decode cX7_takesClause 38 = .ok (.bipush 32, 2) := by decide +kernel
theorem dX7_takesClause_40 : decode cX7_takesClause 40 = .ok (.invokevirtual 302, 3) := by decide +kernel
theorem dX7_takesClause_43 : decode cX7_takesClause 43 = .ok (.ifCond .eq 15, 3) := by decide +kernel
theorem dX7_takesClause_46 : decode cX7_takesClause 46 = .ok (.aload_n 0, 1) := by decide +kernel
theorem dX7_takesClause_47 : decode cX7_takesClause 47 = .ok (.iload_n 1, 1) := by decide +kernel
theorem dX7_takesClause_48 : decode cX7_takesClause 48 = .ok (.invokevirtual 337, 3) := by decide +kernel
theorem dX7_takesClause_51 : decode cX7_takesClause 51 = .ok (.ifCond .eq 7, 3) := by decide +kernel
theorem dX7_takesClause_54 : decode cX7_takesClause 54 = .ok (.iconst 1, 1) := by decide +kernel
theorem dX7_takesClause_55 : decode cX7_takesClause 55 = .ok (.goto 4, 3) := by decide +kernel
theorem dX7_takesClause_58 : decode cX7_takesClause 58 = .ok (.iconst 0, 1) := by decide +kernel
theorem dX7_takesClause_59 : decode cX7_takesClause 59 = .ok (.ireturn, 1) := by decide +kernel
theorem dX7_goesText_0 : decode cX7_goesText 0 = .ok (.aload_n 0, 1) := by decide +kernel
theorem dX7_goesText_1 : decode cX7_goesText 1 = .ok (.iconst 0, 1) := by decide +kernel
theorem dX7_goesText_2 : decode cX7_goesText 2 = .ok (.putfield 59, 3) := by decide +kernel
theorem dX7_goesText_5 : decode cX7_goesText 5 = .ok (.aload_n 0, 1) := by decide +kernel
theorem dX7_goesText_6 : decode cX7_goesText 6 = .ok (.bipush 100, 2) := by decide +kernel
theorem dX7_goesText_8 : decode cX7_goesText 8 = .ok (.iload_n 1, 1) := by decide +kernel
theorem dX7_goesText_9 : decode cX7_goesText 9 = .ok (.imul, 1) := by decide +kernel
theorem dX7_goesText_10 : decode cX7_goesText 10 = .ok (.putfield 89, 3) := by decide +kernel
theorem dX7_goesText_13 : decode cX7_goesText 13 = .ok (.iconst 0, 1) := by decide +kernel
theorem dX7_goesText_14 : decode cX7_goesText 14 = .ok (.istore_n 2, 1) := by decide +kernel
theorem dX7_goesText_15 : decode cX7_goesText 15 = .ok (.aload_n 0, 1) := by decide +kernel
theorem dX7_goesText_16 : decode cX7_goesText 16 = .ok (.bipush 10, 2) := by decide +kernel
theorem dX7_goesText_18 : decode cX7_goesText 18 = .ok (.iload_n 1, 1) := by decide +kernel
theorem dX7_goesText_19 : decode cX7_goesText 19 = .ok (.imul, 1) := by decide +kernel
theorem dX7_goesText_20 : decode cX7_goesText 20 = .ok (.iload_n 2, 1) := by decide +kernel
theorem dX7_goesText_21 : decode cX7_goesText 21 = .ok (.iadd, 1) := by decide +kernel
theorem dX7_goesText_22 : decode cX7_goesText 22 = .ok (.invokevirtual 340, 3) := by decide +kernel
theorem dX7_goesText_25 : decode cX7_goesText 25 = .ok (.ifCond .ne 5, 3) := by decide +kernel
theorem dX7_goesText_28 : decode cX7_goesText 28 = .ok (.iconst 0, 1) := by decide +kernel
theorem dX7_goesText_29 : decode cX7_goesText 29 = .ok (.ireturn, 1) := by decide +kernel
theorem dX7_goesText_30 : decode cX7_goesText 30 = .ok (.iinc 2 1, 3) := by decide +kernel
theorem dX7_goesText_33 : decode cX7_goesText 33 = .ok (.aload_n 0, 1) := by decide +kernel
theorem dX7_goesText_34 : decode cX7_goesText 34 = .ok (.getfield 68, 3) := by decide +kernel
theorem dX7_goesText_37 : decode cX7_goesText 37 = .ok (.iload_n 1, 1) := by decide +kernel
theorem dX7_goesText_38 : decode cX7_goesText 38 = .ok (.iload_n 2, 1) := by decide +kernel
theorem dX7_goesText_39 : decode cX7_goesText 39 = .ok (.iastore, 1) := by decide +kernel
theorem dX7_goesText_40 : decode cX7_goesText 40 = .ok (.aload_n 0, 1) := by decide +kernel
theorem dX7_goesText_41 : decode cX7_goesText 41 = .ok (.getfield 59, 3) := by decide +kernel
theorem dX7_goesText_44 : decode cX7_goesText 44 = .ok (.aload_n 0, 1) := by decide +kernel
theorem dX7_goesText_45 : decode cX7_goesText 45 = .ok (.getfield 56, 3) := by decide +kernel
theorem dX7_goesText_48 : decode cX7_goesText 48 = .ok (.if_icmp .ne 5, 3) := by decide +kernel
theorem dX7_goesText_51 : decode cX7_goesText 51 = .ok (.iconst 1, 1) := by decide +kernel
theorem dX7_goesText_52 : decode cX7_goesText 52 = .ok (.ireturn, 1) := by decide +kernel
theorem dX7_goesText_53 : decode cX7_goesText 53 = .ok (.iload_n 2, 1) := by decide +kernel
theorem dX7_goesText_54 : decode cX7_goesText 54 = .ok (.bipush 10, 2) := by decide +kernel
theorem dX7_goesText_56 : decode cX7_goesText 56 = .ok (.if_icmp .eq 12, 3) := by decide +kernel
theorem dX7_goesText_59 : decode cX7_goesText 59 = .ok (.aload_n 0, 1) := by decide +kernel
theorem dX7_goesText_60 : decode cX7_goesText 60 = .ok (.bipush 59, 2) := by decide +kernel
theorem dX7_goesText_62 : decode cX7_goesText 62 = .ok (.invokevirtual 302, 3) := by decide +kernel
theorem dX7_goesText_65 : decode cX7_goesText 65 = .ok (.ifCond .ne (-50), 3) := by decide +kernel
theorem dX7_goesText_68 : decode cX7_goesText 68 = .ok (.iconst 0, 1) := by decide +kernel
theorem dX7_goesText_69 : decode cX7_goesText 69 = .ok (.ireturn, 1) := by decide +kernel
theorem dX7_ocean_0 : decode cX7_ocean 0 = .ok (.aload_n 0, 1) := by decide +kernel
theorem dX7_ocean_1 : decode cX7_ocean 1 = .ok (.getfield 50, 3) := by decide +kernel
theorem dX7_ocean_4 : decode cX7_ocean 4 = .ok (.bipush 6, 2) := by decide +kernel
theorem dX7_ocean_6 : decode cX7_ocean 6 = .ok (.if_icmp .ne 6, 3) := by decide +kernel
theorem dX7_ocean_9 : decode cX7_ocean 9 = .ok (.bipush (-4), 2) := by decide +kernel
theorem dX7_ocean_11 : decode cX7_ocean 11 = .ok (.ireturn, 1) := by decide +kernel
theorem dX7_ocean_12 : decode cX7_ocean 12 = .ok (.aload_n 0, 1) := by decide +kernel
theorem dX7_ocean_13 : decode cX7_ocean 13 = .ok (.aload_n 0, 1) := by decide +kernel
theorem dX7_ocean_14 : decode cX7_ocean 14 = .ok (.getfield 50, 3) := by decide +kernel
theorem dX7_ocean_17 : decode cX7_ocean 17 = .ok (.invokevirtual 343, 3) := by decide +kernel
theorem dX7_ocean_20 : decode cX7_ocean 20 = .ok (.istore_n 1, 1) := by decide +kernel
theorem dX7_ocean_21 : decode cX7_ocean 21 = .ok (.aload_n 0, 1) := by decide +kernel
theorem dX7_ocean_22 : decode cX7_ocean 22 = .ok (.iconst 0, 1) := by decide +kernel
theorem dX7_ocean_23 : decode cX7_ocean 23 = .ok (.putfield 56, 3) := by decide +kernel
theorem dX7_ocean_26 : decode cX7_ocean 26 = .ok (.iload_n 1, 1) := by decide +kernel
theorem dX7_ocean_27 : decode cX7_ocean 27 = .ok (.ifCond .ne 11, 3) := by decide +kernel
theorem dX7_ocean_30 : decode cX7_ocean 30 = .ok (.bipush (-10), 2) := by decide +kernel
theorem dX7_ocean_32 : decode cX7_ocean 32 = .ok (.aload_n 0, 1) := by decide +kernel
theorem dX7_ocean_33 : decode cX7_ocean 33 = .ok (.getfield 59, 3) := by decide +kernel
theorem dX7_ocean_36 : decode cX7_ocean 36 = .ok (.isub, 1) := by decide +kernel
theorem dX7_ocean_37 : decode cX7_ocean 37 = .ok (.ireturn, 1) := by decide +kernel
theorem dX7_ocean_38 : decode cX7_ocean 38 = .ok (.aload_n 0, 1) := by decide +kernel
theorem dX7_ocean_39 : decode cX7_ocean 39 = .ok (.aload_n 0, 1) := by decide +kernel
theorem dX7_ocean_40 : decode cX7_ocean 40 = .ok (.getfield 50, 3) := by decide +kernel
theorem dX7_ocean_43 : decode cX7_ocean 43 = .ok (.putfield 53, 3) := by decide +kernel
theorem dX7_ocean_46 : decode cX7_ocean 46 = .ok (.aload_n 0, 1) := by decide +kernel
theorem dX7_ocean_47 : decode cX7_ocean 47 = .ok (.dup, 1) := by decide +kernel
theorem dX7_ocean_48 : decode cX7_ocean 48 = .ok (.getfield 50, 3) := by decide +kernel
theorem dX7_ocean_51 : decode cX7_ocean 51 = .ok (.iconst 1, 1) := by decide +kernel
theorem dX7_ocean_52 : decode cX7_ocean 52 = .ok (.iadd, 1) := by decide +kernel
theorem dX7_ocean_53 : decode cX7_ocean 53 = .ok (.putfield 50, 3) := by decide +kernel
theorem dX7_ocean_56 : decode cX7_ocean 56 = .ok (.aload_n 0, 1) := by decide +kernel
theorem dX7_ocean_57 : decode cX7_ocean 57 = .ok (.getfield 53, 3) := by decide +kernel
theorem dX7_ocean_60 : decode cX7_ocean 60 = .ok (.ireturn, 1) := by decide +kernel
theorem dX7_begin_0 : decode cX7_begin 0 = .ok (.aload_n 0, 1) := by decide +kernel
theorem dX7_begin_1 : decode cX7_begin 1 = .ok (.getfield 53, 3) := by decide +kernel
theorem dX7_begin_4 : decode cX7_begin 4 = .ok (.ifCond .ge 7, 3) := by decide +kernel
theorem dX7_begin_7 : decode cX7_begin 7 = .ok (.iconst 0, 1) := by decide +kernel
theorem dX7_begin_8 : decode cX7_begin 8 = .ok (.goto 10, 3) := by decide +kernel
theorem dX7_begin_11 : decode cX7_begin 11 = .ok (.bipush 10, 2) := by decide +kernel
theorem dX7_begin_13 : decode cX7_begin 13 = .ok (.aload_n 0, 1) := by decide +kernel
theorem dX7_begin_14 : decode cX7_begin 14 = .ok (.getfield 53, 3) := by decide +kernel
theorem dX7_begin_17 : decode cX7_begin 17 = .ok (.imul, 1) := by decide +kernel
theorem dX7_begin_18 : decode cX7_begin 18 = .ok (.ireturn, 1) := by decide +kernel
theorem dX7_behind_0 : decode cX7_behind 0 = .ok (.aload_n 0, 1) := by decide +kernel
theorem dX7_behind_1 : decode cX7_behind 1 = .ok (.getfield 53, 3) := by decide +kernel
theorem dX7_behind_4 : decode cX7_behind 4 = .ok (.ifCond .ge 7, 3) := by decide +kernel
theorem dX7_behind_7 : decode cX7_behind 7 = .ok (.iconst 0, 1) := by decide +kernel
theorem dX7_behind_8 : decode cX7_behind 8 = .ok (.goto 20, 3) := by decide +kernel
theorem dX7_behind_11 : decode cX7_behind 11 = .ok (.bipush 10, 2) := by decide +kernel
theorem dX7_behind_13 : decode cX7_behind 13 = .ok (.aload_n 0, 1) := by decide +kernel
theorem dX7_behind_14 : decode cX7_behind 14 = .ok (.getfield 53, 3) := by decide +kernel
theorem dX7_behind_17 : decode cX7_behind 17 = .ok (.imul, 1) := by decide +kernel
theorem dX7_behind_18 : decode cX7_behind 18 = .ok (.aload_n 0, 1) := by decide +kernel
theorem dX7_behind_19 : decode cX7_behind 19 = .ok (.getfield 68, 3) := by decide +kernel
theorem dX7_behind_22 : decode cX7_behind 22 = .ok (.aload_n 0, 1) := by decide +kernel
theorem dX7_behind_23 : decode cX7_behind 23 = .ok (.getfield 53, 3) := by decide +kernel
theorem dX7_behind_26 : decode cX7_behind 26 = .ok (.iaload, 1) := by decide +kernel
theorem dX7_behind_27 : decode cX7_behind 27 = .ok (.iadd, 1) := by decide +kernel
theorem dX7_behind_28 : decode cX7_behind 28 = .ok (.ireturn, 1) := by decide +kernel
theorem dX7_lastOf_0 : decode cX7_lastOf 0 = .ok (.iload_n 2, 1) := by decide +kernel
theorem dX7_lastOf_1 : decode cX7_lastOf 1 = .ok (.istore_n 3, 1) := by decide +kernel
theorem dX7_lastOf_2 : decode cX7_lastOf 2 = .ok (.aload_n 0, 1) := by decide +kernel
theorem dX7_lastOf_3 : decode cX7_lastOf 3 = .ok (.invokevirtual 346, 3) := by decide +kernel
theorem dX7_lastOf_6 : decode cX7_lastOf 6 = .ok (.istore 4, 2) := by decide +kernel
theorem dX7_lastOf_8 : decode cX7_lastOf 8 = .ok (.iload 4, 2) := by decide +kernel
theorem dX7_lastOf_10 : decode cX7_lastOf 10 = .ok (.aload_n 0, 1) := by decide +kernel
theorem dX7_lastOf_11 : decode cX7_lastOf 11 = .ok (.invokevirtual 349, 3) := by decide +kernel
theorem dX7_lastOf_14 : decode cX7_lastOf 14 = .ok (.if_icmp .ge 32, 3) := by decide +kernel
theorem dX7_lastOf_17 : decode cX7_lastOf 17 = .ok (.aload_n 0, 1) := by decide +kernel
theorem dX7_lastOf_18 : decode cX7_lastOf 18 = .ok (.getfield 71, 3) := by decide +kernel
theorem dX7_lastOf_21 : decode cX7_lastOf 21 = .ok (.iload 4, 2) := by decide +kernel
theorem dX7_lastOf_23 : decode cX7_lastOf 23 = .ok (.iaload, 1) := by decide +kernel
theorem dX7_lastOf_24 : decode cX7_lastOf 24 = .ok (.iload_n 1, 1) := by decide +kernel
theorem dX7_lastOf_25 : decode cX7_lastOf 25 = .ok (.if_icmp .ne 13, 3) := by decide +kernel
theorem dX7_lastOf_28 : decode cX7_lastOf 28 = .ok (.aload_n 0, 1) := by decide +kernel
theorem dX7_lastOf_29 : decode cX7_lastOf 29 = .ok (.getfield 74, 3) := by decide +kernel
theorem dX7_lastOf_32 : decode cX7_lastOf 32 = .ok (.iload 4, 2) := by decide +kernel
theorem dX7_lastOf_34 : decode cX7_lastOf 34 = .ok (.iaload, 1) := by decide +kernel
theorem dX7_lastOf_35 : decode cX7_lastOf 35 = .ok (.goto 4, 3) := by decide +kernel
theorem dX7_lastOf_38 : decode cX7_lastOf 38 = .ok (.iload_n 3, 1) := by decide +kernel
theorem dX7_lastOf_39 : decode cX7_lastOf 39 = .ok (.istore_n 3, 1) := by decide +kernel
theorem dX7_lastOf_40 : decode cX7_lastOf 40 = .ok (.iinc 4 1, 3) := by decide +kernel
theorem dX7_lastOf_43 : decode cX7_lastOf 43 = .ok (.goto (-35), 3) := by decide +kernel
theorem dX7_lastOf_46 : decode cX7_lastOf 46 = .ok (.iload_n 3, 1) := by decide +kernel
theorem dX7_lastOf_47 : decode cX7_lastOf 47 = .ok (.ireturn, 1) := by decide +kernel
theorem dX7_factOf_0 : decode cX7_factOf 0 = .ok (.iload_n 1, 1) := by decide +kernel
theorem dX7_factOf_1 : decode cX7_factOf 1 = .ok (.tableswitch 71 0 4 #[35, 37, 44, 51, 61], 35) := by decide +kernel
theorem dX7_factOf_36 : decode cX7_factOf 36 = .ok (.iload_n 2, 1) := by decide +kernel
theorem dX7_factOf_37 : decode cX7_factOf 37 = .ok (.ireturn, 1) := by decide +kernel
theorem dX7_factOf_38 : decode cX7_factOf 38 = .ok (.aload_n 0, 1) := by decide +kernel
theorem dX7_factOf_39 : decode cX7_factOf 39 = .ok (.getfield 28, 3) := by decide +kernel
theorem dX7_factOf_42 : decode cX7_factOf 42 = .ok (.iload_n 2, 1) := by decide +kernel
theorem dX7_factOf_43 : decode cX7_factOf 43 = .ok (.iaload, 1) := by decide +kernel
theorem dX7_factOf_44 : decode cX7_factOf 44 = .ok (.ireturn, 1) := by decide +kernel
theorem dX7_factOf_45 : decode cX7_factOf 45 = .ok (.aload_n 0, 1) := by decide +kernel
theorem dX7_factOf_46 : decode cX7_factOf 46 = .ok (.getfield 32, 3) := by decide +kernel
theorem dX7_factOf_49 : decode cX7_factOf 49 = .ok (.iload_n 2, 1) := by decide +kernel
theorem dX7_factOf_50 : decode cX7_factOf 50 = .ok (.iaload, 1) := by decide +kernel
theorem dX7_factOf_51 : decode cX7_factOf 51 = .ok (.ireturn, 1) := by decide +kernel
theorem dX7_factOf_52 : decode cX7_factOf 52 = .ok (.aload_n 0, 1) := by decide +kernel
theorem dX7_factOf_53 : decode cX7_factOf 53 = .ok (.getfield 35, 3) := by decide +kernel
theorem dX7_factOf_56 : decode cX7_factOf 56 = .ok (.iload_n 2, 1) := by decide +kernel
theorem dX7_factOf_57 : decode cX7_factOf 57 = .ok (.iaload, 1) := by decide +kernel
theorem dX7_factOf_58 : decode cX7_factOf 58 = .ok (.bipush 10, 2) := by decide +kernel
theorem dX7_factOf_60 : decode cX7_factOf 60 = .ok (.idiv, 1) := by decide +kernel
theorem dX7_factOf_61 : decode cX7_factOf 61 = .ok (.ireturn, 1) := by decide +kernel
theorem dX7_factOf_62 : decode cX7_factOf 62 = .ok (.aload_n 0, 1) := by decide +kernel
theorem dX7_factOf_63 : decode cX7_factOf 63 = .ok (.getfield 38, 3) := by decide +kernel
theorem dX7_factOf_66 : decode cX7_factOf 66 = .ok (.iload_n 2, 1) := by decide +kernel
theorem dX7_factOf_67 : decode cX7_factOf 67 = .ok (.iaload, 1) := by decide +kernel
theorem dX7_factOf_68 : decode cX7_factOf 68 = .ok (.bipush 10, 2) := by decide +kernel
theorem dX7_factOf_70 : decode cX7_factOf 70 = .ok (.idiv, 1) := by decide +kernel
theorem dX7_factOf_71 : decode cX7_factOf 71 = .ok (.ireturn, 1) := by decide +kernel
theorem dX7_factOf_72 : decode cX7_factOf 72 = .ok (.aload_n 0, 1) := by decide +kernel
theorem dX7_factOf_73 : decode cX7_factOf 73 = .ok (.getfield 25, 3) := by decide +kernel
theorem dX7_factOf_76 : decode cX7_factOf 76 = .ok (.bipush 10, 2) := by decide +kernel
theorem dX7_factOf_78 : decode cX7_factOf 78 = .ok (.irem, 1) := by decide +kernel
theorem dX7_factOf_79 : decode cX7_factOf 79 = .ok (.ireturn, 1) := by decide +kernel
theorem dX7_holds_0 : decode cX7_holds 0 = .ok (.iconst 0, 1) := by decide +kernel
theorem dX7_holds_1 : decode cX7_holds 1 = .ok (.istore_n 3, 1) := by decide +kernel
theorem dX7_holds_2 : decode cX7_holds 2 = .ok (.aload_n 0, 1) := by decide +kernel
theorem dX7_holds_3 : decode cX7_holds 3 = .ok (.getfield 77, 3) := by decide +kernel
theorem dX7_holds_6 : decode cX7_holds 6 = .ok (.iload_n 1, 1) := by decide +kernel
theorem dX7_holds_7 : decode cX7_holds 7 = .ok (.iaload, 1) := by decide +kernel
theorem dX7_holds_8 : decode cX7_holds 8 = .ok (.istore 4, 2) := by decide +kernel
theorem dX7_holds_10 : decode cX7_holds 10 = .ok (.iload 4, 2) := by decide +kernel
theorem dX7_holds_12 : decode cX7_holds 12 = .ok (.aload_n 0, 1) := by decide +kernel
theorem dX7_holds_13 : decode cX7_holds 13 = .ok (.getfield 80, 3) := by decide +kernel
theorem dX7_holds_16 : decode cX7_holds 16 = .ok (.iload_n 1, 1) := by decide +kernel
theorem dX7_holds_17 : decode cX7_holds 17 = .ok (.iaload, 1) := by decide +kernel
theorem dX7_holds_18 : decode cX7_holds 18 = .ok (.if_icmp .ge 225, 3) := by decide +kernel
theorem dX7_holds_21 : decode cX7_holds 21 = .ok (.aload_n 0, 1) := by decide +kernel
theorem dX7_holds_22 : decode cX7_holds 22 = .ok (.getfield 83, 3) := by decide +kernel
theorem dX7_holds_25 : decode cX7_holds 25 = .ok (.iload 4, 2) := by decide +kernel
theorem dX7_holds_27 : decode cX7_holds 27 = .ok (.iaload, 1) := by decide +kernel
theorem dX7_holds_28 : decode cX7_holds 28 = .ok (.istore 5, 2) := by decide +kernel
theorem dX7_holds_30 : decode cX7_holds 30 = .ok (.iload 5, 2) := by decide +kernel
theorem dX7_holds_32 : decode cX7_holds 32 = .ok (.bipush (-33), 2) := by decide +kernel
theorem dX7_holds_34 : decode cX7_holds 34 = .ok (.if_icmp .ne 30, 3) := by decide +kernel
theorem dX7_holds_37 : decode cX7_holds 37 = .ok (.aload_n 0, 1) := by decide +kernel
theorem dX7_holds_38 : decode cX7_holds 38 = .ok (.getfield 101, 3) := by decide +kernel
theorem dX7_holds_41 : decode cX7_holds 41 = .ok (.iload_n 3, 1) := by decide +kernel
theorem dX7_holds_42 : decode cX7_holds 42 = .ok (.iconst 1, 1) := by decide +kernel
theorem dX7_holds_43 : decode cX7_holds 43 = .ok (.isub, 1) := by decide +kernel
theorem dX7_holds_44 : decode cX7_holds 44 = .ok (.aload_n 0, 1) := by decide +kernel
theorem dX7_holds_45 : decode cX7_holds 45 = .ok (.getfield 101, 3) := by decide +kernel
theorem dX7_holds_48 : decode cX7_holds 48 = .ok (.iload_n 3, 1) := by decide +kernel
theorem dX7_holds_49 : decode cX7_holds 49 = .ok (.iconst 1, 1) := by decide +kernel
theorem dX7_holds_50 : decode cX7_holds 50 = .ok (.isub, 1) := by decide +kernel
theorem dX7_holds_51 : decode cX7_holds 51 = .ok (.baload, 1) := by decide +kernel
theorem dX7_holds_52 : decode cX7_holds 52 = .ok (.ifCond .ne 7, 3) := by decide +kernel
theorem dX7_holds_55 : decode cX7_holds 55 = .ok (.iconst 1, 1) := by decide +kernel
theorem dX7_holds_56 : decode cX7_holds 56 = .ok (.goto 4, 3) := by decide +kernel
theorem dX7_holds_59 : decode cX7_holds 59 = .ok (.iconst 0, 1) := by decide +kernel
theorem dX7_holds_60 : decode cX7_holds 60 = .ok (.bastore, 1) := by decide +kernel
theorem dX7_holds_61 : decode cX7_holds 61 = .ok (.goto 176, 3) := by decide +kernel
theorem dX7_holds_64 : decode cX7_holds 64 = .ok (.iload 5, 2) := by decide +kernel
theorem dX7_holds_66 : decode cX7_holds 66 = .ok (.ifCond .ge 77, 3) := by decide +kernel
theorem dX7_holds_69 : decode cX7_holds 69 = .ok (.iinc 3 (-1), 3) := by decide +kernel
theorem dX7_holds_72 : decode cX7_holds 72 = .ok (.aload_n 0, 1) := by decide +kernel
theorem dX7_holds_73 : decode cX7_holds 73 = .ok (.getfield 101, 3) := by decide +kernel
theorem dX7_holds_76 : decode cX7_holds 76 = .ok (.iload_n 3, 1) := by decide +kernel
theorem dX7_holds_77 : decode cX7_holds 77 = .ok (.iconst 1, 1) := by decide +kernel
theorem dX7_holds_78 : decode cX7_holds 78 = .ok (.isub, 1) := by decide +kernel
theorem dX7_holds_79 : decode cX7_holds 79 = .ok (.iload 5, 2) := by decide +kernel
theorem dX7_holds_81 : decode cX7_holds 81 = .ok (.bipush (-38), 2) := by decide +kernel
theorem dX7_holds_83 : decode cX7_holds 83 = .ok (.if_icmp .ne 31, 3) := by decide +kernel
theorem dX7_holds_86 : decode cX7_holds 86 = .ok (.aload_n 0, 1) := by decide +kernel
theorem dX7_holds_87 : decode cX7_holds 87 = .ok (.getfield 101, 3) := by decide +kernel
theorem dX7_holds_90 : decode cX7_holds 90 = .ok (.iload_n 3, 1) := by decide +kernel
theorem dX7_holds_91 : decode cX7_holds 91 = .ok (.iconst 1, 1) := by decide +kernel
theorem dX7_holds_92 : decode cX7_holds 92 = .ok (.isub, 1) := by decide +kernel
theorem dX7_holds_93 : decode cX7_holds 93 = .ok (.baload, 1) := by decide +kernel
theorem dX7_holds_94 : decode cX7_holds 94 = .ok (.ifCond .eq 16, 3) := by decide +kernel
theorem dX7_holds_97 : decode cX7_holds 97 = .ok (.aload_n 0, 1) := by decide +kernel
theorem dX7_holds_98 : decode cX7_holds 98 = .ok (.getfield 101, 3) := by decide +kernel
theorem dX7_holds_101 : decode cX7_holds 101 = .ok (.iload_n 3, 1) := by decide +kernel
theorem dX7_holds_102 : decode cX7_holds 102 = .ok (.baload, 1) := by decide +kernel
theorem dX7_holds_103 : decode cX7_holds 103 = .ok (.ifCond .eq 7, 3) := by decide +kernel
theorem dX7_holds_106 : decode cX7_holds 106 = .ok (.iconst 1, 1) := by decide +kernel
theorem dX7_holds_107 : decode cX7_holds 107 = .ok (.goto 32, 3) := by decide +kernel
theorem dX7_holds_110 : decode cX7_holds 110 = .ok (.iconst 0, 1) := by decide +kernel
theorem dX7_holds_111 : decode cX7_holds 111 = .ok (.goto 28, 3) := by decide +kernel
theorem dX7_holds_114 : decode cX7_holds 114 = .ok (.aload_n 0, 1) := by decide +kernel
theorem dX7_holds_115 : decode cX7_holds 115 = .ok (.getfield 101, 3) := by decide +kernel
theorem dX7_holds_118 : decode cX7_holds 118 = .ok (.iload_n 3, 1) := by decide +kernel
theorem dX7_holds_119 : decode cX7_holds 119 = .ok (.iconst 1, 1) := by decide +kernel
theorem dX7_holds_120 : decode cX7_holds 120 = .ok (.isub, 1) := by decide +kernel
theorem dX7_holds_121 : decode cX7_holds 121 = .ok (.baload, 1) := by decide +kernel
theorem dX7_holds_122 : decode cX7_holds 122 = .ok (.ifCond .ne 12, 3) := by decide +kernel
theorem dX7_holds_125 : decode cX7_holds 125 = .ok (.aload_n 0, 1) := by decide +kernel
theorem dX7_holds_126 : decode cX7_holds 126 = .ok (.getfield 101, 3) := by decide +kernel
theorem dX7_holds_129 : decode cX7_holds 129 = .ok (.iload_n 3, 1) := by decide +kernel
theorem dX7_holds_130 : decode cX7_holds 130 = .ok (.baload, 1) := by decide +kernel
theorem dX7_holds_131 : decode cX7_holds 131 = .ok (.ifCond .eq 7, 3) := by decide +kernel
theorem dX7_holds_134 : decode cX7_holds 134 = .ok (.iconst 1, 1) := by decide +kernel
theorem dX7_holds_135 : decode cX7_holds 135 = .ok (.goto 4, 3) := by decide +kernel
theorem dX7_holds_138 : decode cX7_holds 138 = .ok (.iconst 0, 1) := by decide +kernel
theorem dX7_holds_139 : decode cX7_holds 139 = .ok (.bastore, 1) := by decide +kernel
theorem dX7_holds_140 : decode cX7_holds 140 = .ok (.goto 97, 3) := by decide +kernel
theorem dX7_holds_143 : decode cX7_holds 143 = .ok (.aload_n 0, 1) := by decide +kernel
theorem dX7_holds_144 : decode cX7_holds 144 = .ok (.iload 5, 2) := by decide +kernel
theorem dX7_holds_146 : decode cX7_holds 146 = .ok (.sipush 1000, 3) := by decide +kernel
theorem dX7_holds_149 : decode cX7_holds 149 = .ok (.idiv, 1) := by decide +kernel
theorem dX7_holds_150 : decode cX7_holds 150 = .ok (.iload_n 2, 1) := by decide +kernel
theorem dX7_holds_151 : decode cX7_holds 151 = .ok (.invokevirtual 352, 3) := by decide +kernel
theorem dX7_holds_154 : decode cX7_holds 154 = .ok (.istore 6, 2) := by decide +kernel
theorem dX7_holds_156 : decode cX7_holds 156 = .ok (.iload 5, 2) := by decide +kernel
theorem dX7_holds_158 : decode cX7_holds 158 = .ok (.bipush 100, 2) := by decide +kernel
theorem dX7_holds_160 : decode cX7_holds 160 = .ok (.idiv, 1) := by decide +kernel
theorem dX7_holds_161 : decode cX7_holds 161 = .ok (.bipush 10, 2) := by decide +kernel
theorem dX7_holds_163 : decode cX7_holds 163 = .ok (.irem, 1) := by decide +kernel
theorem dX7_holds_164 : decode cX7_holds 164 = .ok (.istore 7, 2) := by decide +kernel
theorem dX7_holds_166 : decode cX7_holds 166 = .ok (.aload_n 0, 1) := by decide +kernel
theorem dX7_holds_167 : decode cX7_holds 167 = .ok (.getfield 101, 3) := by decide +kernel
theorem dX7_holds_170 : decode cX7_holds 170 = .ok (.iload_n 3, 1) := by decide +kernel
theorem dX7_holds_171 : decode cX7_holds 171 = .ok (.iload 7, 2) := by decide +kernel
theorem dX7_holds_173 : decode cX7_holds 173 = .ok (.ifCond .ne 21, 3) := by decide +kernel
theorem dX7_holds_176 : decode cX7_holds 176 = .ok (.iload 6, 2) := by decide +kernel
theorem dX7_holds_178 : decode cX7_holds 178 = .ok (.iload 5, 2) := by decide +kernel
theorem dX7_holds_180 : decode cX7_holds 180 = .ok (.bipush 100, 2) := by decide +kernel
theorem dX7_holds_182 : decode cX7_holds 182 = .ok (.irem, 1) := by decide +kernel
theorem dX7_holds_183 : decode cX7_holds 183 = .ok (.if_icmp .ge 7, 3) := by decide +kernel
theorem dX7_holds_186 : decode cX7_holds 186 = .ok (.iconst 1, 1) := by decide +kernel
theorem dX7_holds_187 : decode cX7_holds 187 = .ok (.goto 46, 3) := by decide +kernel
theorem dX7_holds_190 : decode cX7_holds 190 = .ok (.iconst 0, 1) := by decide +kernel
theorem dX7_holds_191 : decode cX7_holds 191 = .ok (.goto 42, 3) := by decide +kernel
theorem dX7_holds_194 : decode cX7_holds 194 = .ok (.iload 7, 2) := by decide +kernel
theorem dX7_holds_196 : decode cX7_holds 196 = .ok (.iconst 1, 1) := by decide +kernel
theorem dX7_holds_197 : decode cX7_holds 197 = .ok (.if_icmp .ne 21, 3) := by decide +kernel
theorem dX7_holds_200 : decode cX7_holds 200 = .ok (.iload 6, 2) := by decide +kernel
theorem dX7_holds_202 : decode cX7_holds 202 = .ok (.iload 5, 2) := by decide +kernel
theorem dX7_holds_204 : decode cX7_holds 204 = .ok (.bipush 100, 2) := by decide +kernel
theorem dX7_holds_206 : decode cX7_holds 206 = .ok (.irem, 1) := by decide +kernel
theorem dX7_holds_207 : decode cX7_holds 207 = .ok (.if_icmp .ne 7, 3) := by decide +kernel
theorem dX7_holds_210 : decode cX7_holds 210 = .ok (.iconst 1, 1) := by decide +kernel
theorem dX7_holds_211 : decode cX7_holds 211 = .ok (.goto 22, 3) := by decide +kernel
theorem dX7_holds_214 : decode cX7_holds 214 = .ok (.iconst 0, 1) := by decide +kernel
theorem dX7_holds_215 : decode cX7_holds 215 = .ok (.goto 18, 3) := by decide +kernel
theorem dX7_holds_218 : decode cX7_holds 218 = .ok (.iload 6, 2) := by decide +kernel
theorem dX7_holds_220 : decode cX7_holds 220 = .ok (.iload 5, 2) := by decide +kernel
theorem dX7_holds_222 : decode cX7_holds 222 = .ok (.bipush 100, 2) := by decide +kernel
theorem dX7_holds_224 : decode cX7_holds 224 = .ok (.irem, 1) := by decide +kernel
theorem dX7_holds_225 : decode cX7_holds 225 = .ok (.if_icmp .le 7, 3) := by decide +kernel
theorem dX7_holds_228 : decode cX7_holds 228 = .ok (.iconst 1, 1) := by decide +kernel
theorem dX7_holds_229 : decode cX7_holds 229 = .ok (.goto 4, 3) := by decide +kernel
theorem dX7_holds_232 : decode cX7_holds 232 = .ok (.iconst 0, 1) := by decide +kernel
theorem dX7_holds_233 : decode cX7_holds 233 = .ok (.bastore, 1) := by decide +kernel
theorem dX7_holds_234 : decode cX7_holds 234 = .ok (.iinc 3 1, 3) := by decide +kernel
theorem dX7_holds_237 : decode cX7_holds 237 = .ok (.iinc 4 1, 3) := by decide +kernel
theorem dX7_holds_240 : decode cX7_holds 240 = .ok (.goto (-230), 3) := by decide +kernel
theorem dX7_holds_243 : decode cX7_holds 243 = .ok (.aload_n 0, 1) := by decide +kernel
theorem dX7_holds_244 : decode cX7_holds 244 = .ok (.getfield 101, 3) := by decide +kernel
theorem dX7_holds_247 : decode cX7_holds 247 = .ok (.iconst 0, 1) := by decide +kernel
theorem dX7_holds_248 : decode cX7_holds 248 = .ok (.baload, 1) := by decide +kernel
theorem dX7_holds_249 : decode cX7_holds 249 = .ok (.ireturn, 1) := by decide +kernel
theorem dX7_heart_0 : decode cX7_heart 0 = .ok (.bipush 20, 2) := by decide +kernel
theorem dX7_heart_2 : decode cX7_heart 2 = .ok (.istore_n 2, 1) := by decide +kernel
theorem dX7_heart_3 : decode cX7_heart 3 = .ok (.aload_n 0, 1) := by decide +kernel
theorem dX7_heart_4 : decode cX7_heart 4 = .ok (.invokevirtual 346, 3) := by decide +kernel
theorem dX7_heart_7 : decode cX7_heart 7 = .ok (.istore_n 3, 1) := by decide +kernel
theorem dX7_heart_8 : decode cX7_heart 8 = .ok (.iload_n 3, 1) := by decide +kernel
theorem dX7_heart_9 : decode cX7_heart 9 = .ok (.aload_n 0, 1) := by decide +kernel
theorem dX7_heart_10 : decode cX7_heart 10 = .ok (.invokevirtual 349, 3) := by decide +kernel
theorem dX7_heart_13 : decode cX7_heart 13 = .ok (.if_icmp .ge 59, 3) := by decide +kernel
theorem dX7_heart_16 : decode cX7_heart 16 = .ok (.aload_n 0, 1) := by decide +kernel
theorem dX7_heart_17 : decode cX7_heart 17 = .ok (.getfield 71, 3) := by decide +kernel
theorem dX7_heart_20 : decode cX7_heart 20 = .ok (.iload_n 3, 1) := by decide +kernel
theorem dX7_heart_21 : decode cX7_heart 21 = .ok (.iaload, 1) := by decide +kernel
theorem dX7_heart_22 : decode cX7_heart 22 = .ok (.iconst 1, 1) := by decide +kernel
theorem dX7_heart_23 : decode cX7_heart 23 = .ok (.if_icmp .gt 43, 3) := by decide +kernel
theorem dX7_heart_26 : decode cX7_heart 26 = .ok (.aload_n 0, 1) := by decide +kernel
theorem dX7_heart_27 : decode cX7_heart 27 = .ok (.iload_n 3, 1) := by decide +kernel
theorem dX7_heart_28 : decode cX7_heart 28 = .ok (.iload_n 1, 1) := by decide +kernel
theorem dX7_heart_29 : decode cX7_heart 29 = .ok (.invokevirtual 356, 3) := by decide +kernel
theorem dX7_heart_32 : decode cX7_heart 32 = .ok (.ifCond .ne 6, 3) := by decide +kernel
theorem dX7_heart_35 : decode cX7_heart 35 = .ok (.goto 31, 3) := by decide +kernel
theorem dX7_heart_38 : decode cX7_heart 38 = .ok (.iload_n 2, 1) := by decide +kernel
theorem dX7_heart_39 : decode cX7_heart 39 = .ok (.aload_n 0, 1) := by decide +kernel
theorem dX7_heart_40 : decode cX7_heart 40 = .ok (.getfield 71, 3) := by decide +kernel
theorem dX7_heart_43 : decode cX7_heart 43 = .ok (.iload_n 3, 1) := by decide +kernel
theorem dX7_heart_44 : decode cX7_heart 44 = .ok (.iaload, 1) := by decide +kernel
theorem dX7_heart_45 : decode cX7_heart 45 = .ok (.ifCond .ne 12, 3) := by decide +kernel
theorem dX7_heart_48 : decode cX7_heart 48 = .ok (.aload_n 0, 1) := by decide +kernel
theorem dX7_heart_49 : decode cX7_heart 49 = .ok (.getfield 74, 3) := by decide +kernel
theorem dX7_heart_52 : decode cX7_heart 52 = .ok (.iload_n 3, 1) := by decide +kernel
theorem dX7_heart_53 : decode cX7_heart 53 = .ok (.iaload, 1) := by decide +kernel
theorem dX7_heart_54 : decode cX7_heart 54 = .ok (.goto 10, 3) := by decide +kernel
theorem dX7_heart_57 : decode cX7_heart 57 = .ok (.aload_n 0, 1) := by decide +kernel
theorem dX7_heart_58 : decode cX7_heart 58 = .ok (.getfield 74, 3) := by decide +kernel
theorem dX7_heart_61 : decode cX7_heart 61 = .ok (.iload_n 3, 1) := by decide +kernel
theorem dX7_heart_62 : decode cX7_heart 62 = .ok (.iaload, 1) := by decide +kernel
theorem dX7_heart_63 : decode cX7_heart 63 = .ok (.ineg, 1) := by decide +kernel
theorem dX7_heart_64 : decode cX7_heart 64 = .ok (.iadd, 1) := by decide +kernel
theorem dX7_heart_65 : decode cX7_heart 65 = .ok (.istore_n 2, 1) := by decide +kernel
theorem dX7_heart_66 : decode cX7_heart 66 = .ok (.iinc 3 1, 3) := by decide +kernel
theorem dX7_heart_69 : decode cX7_heart 69 = .ok (.goto (-61), 3) := by decide +kernel
theorem dX7_heart_72 : decode cX7_heart 72 = .ok (.iload_n 2, 1) := by decide +kernel
theorem dX7_heart_73 : decode cX7_heart 73 = .ok (.ireturn, 1) := by decide +kernel
theorem dX7_strength_0 : decode cX7_strength 0 = .ok (.aload_n 0, 1) := by decide +kernel
theorem dX7_strength_1 : decode cX7_strength 1 = .ok (.iload_n 1, 1) := by decide +kernel
theorem dX7_strength_2 : decode cX7_strength 2 = .ok (.invokevirtual 359, 3) := by decide +kernel
theorem dX7_strength_5 : decode cX7_strength 5 = .ok (.istore_n 2, 1) := by decide +kernel
theorem dX7_strength_6 : decode cX7_strength 6 = .ok (.aload_n 0, 1) := by decide +kernel
theorem dX7_strength_7 : decode cX7_strength 7 = .ok (.getfield 28, 3) := by decide +kernel
theorem dX7_strength_10 : decode cX7_strength 10 = .ok (.iload_n 1, 1) := by decide +kernel
theorem dX7_strength_11 : decode cX7_strength 11 = .ok (.iaload, 1) := by decide +kernel
theorem dX7_strength_12 : decode cX7_strength 12 = .ok (.tableswitch 167 1 6 #[40, 55, 71, 91, 113, 131], 40) := by decide +kernel
theorem dX7_strength_52 : decode cX7_strength 52 = .ok (.aload_n 0, 1) := by decide +kernel
theorem dX7_strength_53 : decode cX7_strength 53 = .ok (.iload_n 2, 1) := by decide +kernel
theorem dX7_strength_54 : decode cX7_strength 54 = .ok (.iconst 2, 1) := by decide +kernel
theorem dX7_strength_55 : decode cX7_strength 55 = .ok (.idiv, 1) := by decide +kernel
theorem dX7_strength_56 : decode cX7_strength 56 = .ok (.aload_n 0, 1) := by decide +kernel
theorem dX7_strength_57 : decode cX7_strength 57 = .ok (.getfield 38, 3) := by decide +kernel
theorem dX7_strength_60 : decode cX7_strength 60 = .ok (.iload_n 1, 1) := by decide +kernel
theorem dX7_strength_61 : decode cX7_strength 61 = .ok (.iaload, 1) := by decide +kernel
theorem dX7_strength_62 : decode cX7_strength 62 = .ok (.isub, 1) := by decide +kernel
theorem dX7_strength_63 : decode cX7_strength 63 = .ok (.invokevirtual 362, 3) := by decide +kernel
theorem dX7_strength_66 : decode cX7_strength 66 = .ok (.ireturn, 1) := by decide +kernel
theorem dX7_strength_67 : decode cX7_strength 67 = .ok (.aload_n 0, 1) := by decide +kernel
theorem dX7_strength_68 : decode cX7_strength 68 = .ok (.iload_n 2, 1) := by decide +kernel
theorem dX7_strength_69 : decode cX7_strength 69 = .ok (.aload_n 0, 1) := by decide +kernel
theorem dX7_strength_70 : decode cX7_strength 70 = .ok (.getfield 38, 3) := by decide +kernel
theorem dX7_strength_73 : decode cX7_strength 73 = .ok (.iload_n 1, 1) := by decide +kernel
theorem dX7_strength_74 : decode cX7_strength 74 = .ok (.iaload, 1) := by decide +kernel
theorem dX7_strength_75 : decode cX7_strength 75 = .ok (.isub, 1) := by decide +kernel
theorem dX7_strength_76 : decode cX7_strength 76 = .ok (.bipush 10, 2) := by decide +kernel
theorem dX7_strength_78 : decode cX7_strength 78 = .ok (.iadd, 1) := by decide +kernel
theorem dX7_strength_79 : decode cX7_strength 79 = .ok (.invokevirtual 362, 3) := by decide +kernel
theorem dX7_strength_82 : decode cX7_strength 82 = .ok (.ireturn, 1) := by decide +kernel
theorem dX7_strength_83 : decode cX7_strength 83 = .ok (.aload_n 0, 1) := by decide +kernel
theorem dX7_strength_84 : decode cX7_strength 84 = .ok (.iload_n 2, 1) := by decide +kernel
theorem dX7_strength_85 : decode cX7_strength 85 = .ok (.aload_n 0, 1) := by decide +kernel
theorem dX7_strength_86 : decode cX7_strength 86 = .ok (.getfield 38, 3) := by decide +kernel
theorem dX7_strength_89 : decode cX7_strength 89 = .ok (.iload_n 1, 1) := by decide +kernel
theorem dX7_strength_90 : decode cX7_strength 90 = .ok (.iaload, 1) := by decide +kernel
theorem dX7_strength_91 : decode cX7_strength 91 = .ok (.isub, 1) := by decide +kernel
theorem dX7_strength_92 : decode cX7_strength 92 = .ok (.aload_n 0, 1) := by decide +kernel
theorem dX7_strength_93 : decode cX7_strength 93 = .ok (.getfield 32, 3) := by decide +kernel
theorem dX7_strength_96 : decode cX7_strength 96 = .ok (.iload_n 1, 1) := by decide +kernel
theorem dX7_strength_97 : decode cX7_strength 97 = .ok (.iaload, 1) := by decide +kernel
theorem dX7_strength_98 : decode cX7_strength 98 = .ok (.iadd, 1) := by decide +kernel
theorem dX7_strength_99 : decode cX7_strength 99 = .ok (.invokevirtual 362, 3) := by decide +kernel
theorem dX7_strength_102 : decode cX7_strength 102 = .ok (.ireturn, 1) := by decide +kernel
theorem dX7_strength_103 : decode cX7_strength 103 = .ok (.aload_n 0, 1) := by decide +kernel
theorem dX7_strength_104 : decode cX7_strength 104 = .ok (.iload_n 2, 1) := by decide +kernel
theorem dX7_strength_105 : decode cX7_strength 105 = .ok (.iconst 2, 1) := by decide +kernel
theorem dX7_strength_106 : decode cX7_strength 106 = .ok (.idiv, 1) := by decide +kernel
theorem dX7_strength_107 : decode cX7_strength 107 = .ok (.aload_n 0, 1) := by decide +kernel
theorem dX7_strength_108 : decode cX7_strength 108 = .ok (.getfield 38, 3) := by decide +kernel
theorem dX7_strength_111 : decode cX7_strength 111 = .ok (.iload_n 1, 1) := by decide +kernel
theorem dX7_strength_112 : decode cX7_strength 112 = .ok (.iaload, 1) := by decide +kernel
theorem dX7_strength_113 : decode cX7_strength 113 = .ok (.isub, 1) := by decide +kernel
theorem dX7_strength_114 : decode cX7_strength 114 = .ok (.iconst 2, 1) := by decide +kernel
theorem dX7_strength_115 : decode cX7_strength 115 = .ok (.aload_n 0, 1) := by decide +kernel
theorem dX7_strength_116 : decode cX7_strength 116 = .ok (.getfield 19, 3) := by decide +kernel
theorem dX7_strength_119 : decode cX7_strength 119 = .ok (.imul, 1) := by decide +kernel
theorem dX7_strength_120 : decode cX7_strength 120 = .ok (.iadd, 1) := by decide +kernel
theorem dX7_strength_121 : decode cX7_strength 121 = .ok (.invokevirtual 362, 3) := by decide +kernel
theorem dX7_strength_124 : decode cX7_strength 124 = .ok (.ireturn, 1) := by decide +kernel
theorem dX7_strength_125 : decode cX7_strength 125 = .ok (.aload_n 0, 1) := by decide +kernel
theorem dX7_strength_126 : decode cX7_strength 126 = .ok (.iload_n 2, 1) := by decide +kernel
theorem dX7_strength_127 : decode cX7_strength 127 = .ok (.iconst 2, 1) := by decide +kernel
theorem dX7_strength_128 : decode cX7_strength 128 = .ok (.aload_n 0, 1) := by decide +kernel
theorem dX7_strength_129 : decode cX7_strength 129 = .ok (.getfield 38, 3) := by decide +kernel
theorem dX7_strength_132 : decode cX7_strength 132 = .ok (.iload_n 1, 1) := by decide +kernel
theorem dX7_strength_133 : decode cX7_strength 133 = .ok (.iaload, 1) := by decide +kernel
theorem dX7_strength_134 : decode cX7_strength 134 = .ok (.imul, 1) := by decide +kernel
theorem dX7_strength_135 : decode cX7_strength 135 = .ok (.isub, 1) := by decide +kernel
theorem dX7_strength_136 : decode cX7_strength 136 = .ok (.bipush 10, 2) := by decide +kernel
theorem dX7_strength_138 : decode cX7_strength 138 = .ok (.iadd, 1) := by decide +kernel
theorem dX7_strength_139 : decode cX7_strength 139 = .ok (.invokevirtual 362, 3) := by decide +kernel
theorem dX7_strength_142 : decode cX7_strength 142 = .ok (.ireturn, 1) := by decide +kernel
theorem dX7_strength_143 : decode cX7_strength 143 = .ok (.aload_n 0, 1) := by decide +kernel
theorem dX7_strength_144 : decode cX7_strength 144 = .ok (.iload_n 2, 1) := by decide +kernel
theorem dX7_strength_145 : decode cX7_strength 145 = .ok (.aload_n 0, 1) := by decide +kernel
theorem dX7_strength_146 : decode cX7_strength 146 = .ok (.getfield 38, 3) := by decide +kernel
theorem dX7_strength_149 : decode cX7_strength 149 = .ok (.iload_n 1, 1) := by decide +kernel
theorem dX7_strength_150 : decode cX7_strength 150 = .ok (.iaload, 1) := by decide +kernel
theorem dX7_strength_151 : decode cX7_strength 151 = .ok (.isub, 1) := by decide +kernel
theorem dX7_strength_152 : decode cX7_strength 152 = .ok (.aload_n 0, 1) := by decide +kernel
theorem dX7_strength_153 : decode cX7_strength 153 = .ok (.getfield 32, 3) := by decide +kernel
theorem dX7_strength_156 : decode cX7_strength 156 = .ok (.iload_n 1, 1) := by decide +kernel
theorem dX7_strength_157 : decode cX7_strength 157 = .ok (.iaload, 1) := by decide +kernel
theorem dX7_strength_158 : decode cX7_strength 158 = .ok (.iadd, 1) := by decide +kernel
theorem dX7_strength_159 : decode cX7_strength 159 = .ok (.aload_n 0, 1) := by decide +kernel
theorem dX7_strength_160 : decode cX7_strength 160 = .ok (.getfield 44, 3) := by decide +kernel
theorem dX7_strength_163 : decode cX7_strength 163 = .ok (.iconst 4, 1) := by decide +kernel
theorem dX7_strength_164 : decode cX7_strength 164 = .ok (.iload_n 1, 1) := by decide +kernel
theorem dX7_strength_165 : decode cX7_strength 165 = .ok (.imul, 1) := by decide +kernel
theorem dX7_strength_166 : decode cX7_strength 166 = .ok (.aload_n 0, 1) := by decide +kernel
theorem dX7_strength_167 : decode cX7_strength 167 = .ok (.getfield 25, 3) := by decide +kernel
theorem dX7_strength_170 : decode cX7_strength 170 = .ok (.iconst 4, 1) := by decide +kernel
theorem dX7_strength_171 : decode cX7_strength 171 = .ok (.irem, 1) := by decide +kernel
theorem dX7_strength_172 : decode cX7_strength 172 = .ok (.iadd, 1) := by decide +kernel
theorem dX7_strength_173 : decode cX7_strength 173 = .ok (.iaload, 1) := by decide +kernel
theorem dX7_strength_174 : decode cX7_strength 174 = .ok (.iadd, 1) := by decide +kernel
theorem dX7_strength_175 : decode cX7_strength 175 = .ok (.invokevirtual 362, 3) := by decide +kernel
theorem dX7_strength_178 : decode cX7_strength 178 = .ok (.ireturn, 1) := by decide +kernel
theorem dX7_strength_179 : decode cX7_strength 179 = .ok (.aload_n 0, 1) := by decide +kernel
theorem dX7_strength_180 : decode cX7_strength 180 = .ok (.iload_n 2, 1) := by decide +kernel
theorem dX7_strength_181 : decode cX7_strength 181 = .ok (.aload_n 0, 1) := by decide +kernel
theorem dX7_strength_182 : decode cX7_strength 182 = .ok (.getfield 38, 3) := by decide +kernel
theorem dX7_strength_185 : decode cX7_strength 185 = .ok (.iload_n 1, 1) := by decide +kernel
theorem dX7_strength_186 : decode cX7_strength 186 = .ok (.iaload, 1) := by decide +kernel
theorem dX7_strength_187 : decode cX7_strength 187 = .ok (.isub, 1) := by decide +kernel
theorem dX7_strength_188 : decode cX7_strength 188 = .ok (.invokevirtual 362, 3) := by decide +kernel
theorem dX7_strength_191 : decode cX7_strength 191 = .ok (.ireturn, 1) := by decide +kernel
theorem dX7_above_0 : decode cX7_above 0 = .ok (.iconst 0, 1) := by decide +kernel
theorem dX7_above_1 : decode cX7_above 1 = .ok (.istore_n 2, 1) := by decide +kernel
theorem dX7_above_2 : decode cX7_above 2 = .ok (.iload_n 1, 1) := by decide +kernel
theorem dX7_above_3 : decode cX7_above 3 = .ok (.istore_n 3, 1) := by decide +kernel
theorem dX7_above_4 : decode cX7_above 4 = .ok (.iload_n 3, 1) := by decide +kernel
theorem dX7_above_5 : decode cX7_above 5 = .ok (.aload_n 0, 1) := by decide +kernel
theorem dX7_above_6 : decode cX7_above 6 = .ok (.getfield 13, 3) := by decide +kernel
theorem dX7_above_9 : decode cX7_above 9 = .ok (.if_icmp .ge 23, 3) := by decide +kernel
theorem dX7_above_12 : decode cX7_above 12 = .ok (.iload_n 2, 1) := by decide +kernel
theorem dX7_above_13 : decode cX7_above 13 = .ok (.aload_n 0, 1) := by decide +kernel
theorem dX7_above_14 : decode cX7_above 14 = .ok (.getfield 35, 3) := by decide +kernel
theorem dX7_above_17 : decode cX7_above 17 = .ok (.aload_n 0, 1) := by decide +kernel
theorem dX7_above_18 : decode cX7_above 18 = .ok (.getfield 47, 3) := by decide +kernel
theorem dX7_above_21 : decode cX7_above 21 = .ok (.iload_n 3, 1) := by decide +kernel
theorem dX7_above_22 : decode cX7_above 22 = .ok (.iaload, 1) := by decide +kernel
theorem dX7_above_23 : decode cX7_above 23 = .ok (.iaload, 1) := by decide +kernel
theorem dX7_above_24 : decode cX7_above 24 = .ok (.iadd, 1) := by decide +kernel
theorem dX7_above_25 : decode cX7_above 25 = .ok (.istore_n 2, 1) := by decide +kernel
theorem dX7_above_26 : decode cX7_above 26 = .ok (.iinc 3 1, 3) := by decide +kernel
theorem dX7_above_29 : decode cX7_above 29 = .ok (.goto (-25), 3) := by decide +kernel
theorem dX7_above_32 : decode cX7_above 32 = .ok (.aload_n 0, 1) := by decide +kernel
theorem dX7_above_33 : decode cX7_above 33 = .ok (.iload_n 2, 1) := by decide +kernel
theorem dX7_above_34 : decode cX7_above 34 = .ok (.aload_n 0, 1) := by decide +kernel
theorem dX7_above_35 : decode cX7_above 35 = .ok (.iconst 3, 1) := by decide +kernel
theorem dX7_above_36 : decode cX7_above 36 = .ok (.iconst 2, 1) := by decide +kernel
theorem dX7_above_37 : decode cX7_above 37 = .ok (.invokevirtual 365, 3) := by decide +kernel
theorem dX7_above_40 : decode cX7_above 40 = .ok (.aload_n 0, 1) := by decide +kernel
theorem dX7_above_41 : decode cX7_above 41 = .ok (.getfield 13, 3) := by decide +kernel
theorem dX7_above_44 : decode cX7_above 44 = .ok (.iload_n 1, 1) := by decide +kernel
theorem dX7_above_45 : decode cX7_above 45 = .ok (.isub, 1) := by decide +kernel
theorem dX7_above_46 : decode cX7_above 46 = .ok (.iconst 1, 1) := by decide +kernel
theorem dX7_above_47 : decode cX7_above 47 = .ok (.isub, 1) := by decide +kernel
theorem dX7_above_48 : decode cX7_above 48 = .ok (.imul, 1) := by decide +kernel
theorem dX7_above_49 : decode cX7_above 49 = .ok (.isub, 1) := by decide +kernel
theorem dX7_above_50 : decode cX7_above 50 = .ok (.invokevirtual 362, 3) := by decide +kernel
theorem dX7_above_53 : decode cX7_above 53 = .ok (.ireturn, 1) := by decide +kernel
theorem dX7_height_0 : decode cX7_height 0 = .ok (.aload_n 0, 1) := by decide +kernel
theorem dX7_height_1 : decode cX7_height 1 = .ok (.getfield 13, 3) := by decide +kernel
theorem dX7_height_4 : decode cX7_height 4 = .ok (.ifCond .ne 7, 3) := by decide +kernel
theorem dX7_height_7 : decode cX7_height 7 = .ok (.iconst 0, 1) := by decide +kernel
theorem dX7_height_8 : decode cX7_height 8 = .ok (.goto 8, 3) := by decide +kernel
theorem dX7_height_11 : decode cX7_height 11 = .ok (.aload_n 0, 1) := by decide +kernel
theorem dX7_height_12 : decode cX7_height 12 = .ok (.iconst 0, 1) := by decide +kernel
theorem dX7_height_13 : decode cX7_height 13 = .ok (.invokevirtual 368, 3) := by decide +kernel
theorem dX7_height_16 : decode cX7_height 16 = .ok (.ireturn, 1) := by decide +kernel
theorem dX7_load_0 : decode cX7_load 0 = .ok (.aload_n 0, 1) := by decide +kernel
theorem dX7_load_1 : decode cX7_load 1 = .ok (.aload_n 0, 1) := by decide +kernel
theorem dX7_load_2 : decode cX7_load 2 = .ok (.iload_n 1, 1) := by decide +kernel
theorem dX7_load_3 : decode cX7_load 3 = .ok (.invokevirtual 368, 3) := by decide +kernel
theorem dX7_load_6 : decode cX7_load 6 = .ok (.aload_n 0, 1) := by decide +kernel
theorem dX7_load_7 : decode cX7_load 7 = .ok (.getfield 16, 3) := by decide +kernel
theorem dX7_load_10 : decode cX7_load 10 = .ok (.imul, 1) := by decide +kernel
theorem dX7_load_11 : decode cX7_load 11 = .ok (.iconst 5, 1) := by decide +kernel
theorem dX7_load_12 : decode cX7_load 12 = .ok (.idiv, 1) := by decide +kernel
theorem dX7_load_13 : decode cX7_load 13 = .ok (.aload_n 0, 1) := by decide +kernel
theorem dX7_load_14 : decode cX7_load 14 = .ok (.iconst 2, 1) := by decide +kernel
theorem dX7_load_15 : decode cX7_load 15 = .ok (.iconst 5, 1) := by decide +kernel
theorem dX7_load_16 : decode cX7_load 16 = .ok (.invokevirtual 365, 3) := by decide +kernel
theorem dX7_load_19 : decode cX7_load 19 = .ok (.iadd, 1) := by decide +kernel
theorem dX7_load_20 : decode cX7_load 20 = .ok (.iconst 3, 1) := by decide +kernel
theorem dX7_load_21 : decode cX7_load 21 = .ok (.aload_n 0, 1) := by decide +kernel
theorem dX7_load_22 : decode cX7_load 22 = .ok (.getfield 19, 3) := by decide +kernel
theorem dX7_load_25 : decode cX7_load 25 = .ok (.imul, 1) := by decide +kernel
theorem dX7_load_26 : decode cX7_load 26 = .ok (.isub, 1) := by decide +kernel
theorem dX7_load_27 : decode cX7_load 27 = .ok (.invokevirtual 362, 3) := by decide +kernel
theorem dX7_load_30 : decode cX7_load 30 = .ok (.ireturn, 1) := by decide +kernel
theorem dX7_milesNow_0 : decode cX7_milesNow 0 = .ok (.aload_n 0, 1) := by decide +kernel
theorem dX7_milesNow_1 : decode cX7_milesNow 1 = .ok (.invokevirtual 371, 3) := by decide +kernel
theorem dX7_milesNow_4 : decode cX7_milesNow 4 = .ok (.aload_n 0, 1) := by decide +kernel
theorem dX7_milesNow_5 : decode cX7_milesNow 5 = .ok (.getfield 16, 3) := by decide +kernel
theorem dX7_milesNow_8 : decode cX7_milesNow 8 = .ok (.imul, 1) := by decide +kernel
theorem dX7_milesNow_9 : decode cX7_milesNow 9 = .ok (.bipush 10, 2) := by decide +kernel
theorem dX7_milesNow_11 : decode cX7_milesNow 11 = .ok (.idiv, 1) := by decide +kernel
theorem dX7_milesNow_12 : decode cX7_milesNow 12 = .ok (.ireturn, 1) := by decide +kernel
theorem dX7_of_0 : decode cX7_of 0 = .ok (.aload_n 0, 1) := by decide +kernel
theorem dX7_of_1 : decode cX7_of 1 = .ok (.iload_n 1, 1) := by decide +kernel
theorem dX7_of_2 : decode cX7_of 2 = .ok (.invokevirtual 280, 3) := by decide +kernel
theorem dX7_of_5 : decode cX7_of 5 = .ok (.ifCond .ne 7, 3) := by decide +kernel
theorem dX7_of_8 : decode cX7_of 8 = .ok (.sipush (-1001), 3) := by decide +kernel
theorem dX7_of_11 : decode cX7_of 11 = .ok (.ireturn, 1) := by decide +kernel
theorem dX7_of_12 : decode cX7_of 12 = .ok (.aload_n 0, 1) := by decide +kernel
theorem dX7_of_13 : decode cX7_of 13 = .ok (.iload_n 1, 1) := by decide +kernel
theorem dX7_of_14 : decode cX7_of 14 = .ok (.invokevirtual 287, 3) := by decide +kernel
theorem dX7_of_17 : decode cX7_of 17 = .ok (.istore_n 3, 1) := by decide +kernel
theorem dX7_of_18 : decode cX7_of 18 = .ok (.iload_n 2, 1) := by decide +kernel
theorem dX7_of_19 : decode cX7_of 19 = .ok (.tableswitch 132 0 9 #[53, 60, 67, 74, 81, 88, 94, 100, 102, 117], 53) := by decide +kernel
theorem dX7_of_72 : decode cX7_of 72 = .ok (.aload_n 0, 1) := by decide +kernel
theorem dX7_of_73 : decode cX7_of 73 = .ok (.getfield 28, 3) := by decide +kernel
theorem dX7_of_76 : decode cX7_of 76 = .ok (.iload_n 1, 1) := by decide +kernel
theorem dX7_of_77 : decode cX7_of 77 = .ok (.iaload, 1) := by decide +kernel
theorem dX7_of_78 : decode cX7_of 78 = .ok (.ireturn, 1) := by decide +kernel
theorem dX7_of_79 : decode cX7_of 79 = .ok (.aload_n 0, 1) := by decide +kernel
theorem dX7_of_80 : decode cX7_of 80 = .ok (.getfield 32, 3) := by decide +kernel
theorem dX7_of_83 : decode cX7_of 83 = .ok (.iload_n 1, 1) := by decide +kernel
theorem dX7_of_84 : decode cX7_of 84 = .ok (.iaload, 1) := by decide +kernel
theorem dX7_of_85 : decode cX7_of 85 = .ok (.ireturn, 1) := by decide +kernel
theorem dX7_of_86 : decode cX7_of 86 = .ok (.aload_n 0, 1) := by decide +kernel
theorem dX7_of_87 : decode cX7_of 87 = .ok (.getfield 35, 3) := by decide +kernel
theorem dX7_of_90 : decode cX7_of 90 = .ok (.iload_n 1, 1) := by decide +kernel
theorem dX7_of_91 : decode cX7_of 91 = .ok (.iaload, 1) := by decide +kernel
theorem dX7_of_92 : decode cX7_of 92 = .ok (.ireturn, 1) := by decide +kernel
theorem dX7_of_93 : decode cX7_of 93 = .ok (.aload_n 0, 1) := by decide +kernel
theorem dX7_of_94 : decode cX7_of 94 = .ok (.getfield 38, 3) := by decide +kernel
theorem dX7_of_97 : decode cX7_of 97 = .ok (.iload_n 1, 1) := by decide +kernel
theorem dX7_of_98 : decode cX7_of 98 = .ok (.iaload, 1) := by decide +kernel
theorem dX7_of_99 : decode cX7_of 99 = .ok (.ireturn, 1) := by decide +kernel
theorem dX7_of_100 : decode cX7_of 100 = .ok (.aload_n 0, 1) := by decide +kernel
theorem dX7_of_101 : decode cX7_of 101 = .ok (.getfield 41, 3) := by decide +kernel
theorem dX7_of_104 : decode cX7_of 104 = .ok (.iload_n 1, 1) := by decide +kernel
theorem dX7_of_105 : decode cX7_of 105 = .ok (.iaload, 1) := by decide +kernel
theorem dX7_of_106 : decode cX7_of 106 = .ok (.ireturn, 1) := by decide +kernel
theorem dX7_of_107 : decode cX7_of 107 = .ok (.aload_n 0, 1) := by decide +kernel
theorem dX7_of_108 : decode cX7_of 108 = .ok (.iload_n 1, 1) := by decide +kernel
theorem dX7_of_109 : decode cX7_of 109 = .ok (.invokevirtual 359, 3) := by decide +kernel
theorem dX7_of_112 : decode cX7_of 112 = .ok (.ireturn, 1) := by decide +kernel
theorem dX7_of_113 : decode cX7_of 113 = .ok (.aload_n 0, 1) := by decide +kernel
theorem dX7_of_114 : decode cX7_of 114 = .ok (.iload_n 1, 1) := by decide +kernel
theorem dX7_of_115 : decode cX7_of 115 = .ok (.invokevirtual 374, 3) := by decide +kernel
theorem dX7_of_118 : decode cX7_of 118 = .ok (.ireturn, 1) := by decide +kernel
theorem dX7_of_119 : decode cX7_of 119 = .ok (.iload_n 3, 1) := by decide +kernel
theorem dX7_of_120 : decode cX7_of 120 = .ok (.ireturn, 1) := by decide +kernel
theorem dX7_of_121 : decode cX7_of 121 = .ok (.iload_n 3, 1) := by decide +kernel
theorem dX7_of_122 : decode cX7_of 122 = .ok (.ifCond .ge 8, 3) := by decide +kernel
theorem dX7_of_125 : decode cX7_of 125 = .ok (.bipush (-5), 2) := by decide +kernel
theorem dX7_of_127 : decode cX7_of 127 = .ok (.goto 8, 3) := by decide +kernel
theorem dX7_of_130 : decode cX7_of 130 = .ok (.aload_n 0, 1) := by decide +kernel
theorem dX7_of_131 : decode cX7_of 131 = .ok (.iload_n 3, 1) := by decide +kernel
theorem dX7_of_132 : decode cX7_of 132 = .ok (.invokevirtual 368, 3) := by decide +kernel
theorem dX7_of_135 : decode cX7_of 135 = .ok (.ireturn, 1) := by decide +kernel
theorem dX7_of_136 : decode cX7_of 136 = .ok (.iload_n 3, 1) := by decide +kernel
theorem dX7_of_137 : decode cX7_of 137 = .ok (.ifCond .ge 8, 3) := by decide +kernel
theorem dX7_of_140 : decode cX7_of 140 = .ok (.bipush (-5), 2) := by decide +kernel
theorem dX7_of_142 : decode cX7_of 142 = .ok (.goto 8, 3) := by decide +kernel
theorem dX7_of_145 : decode cX7_of 145 = .ok (.aload_n 0, 1) := by decide +kernel
theorem dX7_of_146 : decode cX7_of 146 = .ok (.iload_n 3, 1) := by decide +kernel
theorem dX7_of_147 : decode cX7_of 147 = .ok (.invokevirtual 377, 3) := by decide +kernel
theorem dX7_of_150 : decode cX7_of 150 = .ok (.ireturn, 1) := by decide +kernel
theorem dX7_of_151 : decode cX7_of 151 = .ok (.sipush (-1001), 3) := by decide +kernel
theorem dX7_of_154 : decode cX7_of 154 = .ok (.ireturn, 1) := by decide +kernel
theorem dX7_told_0 : decode cX7_told 0 = .ok (.aload_n 0, 1) := by decide +kernel
theorem dX7_told_1 : decode cX7_told 1 = .ok (.iload_n 1, 1) := by decide +kernel
theorem dX7_told_2 : decode cX7_told 2 = .ok (.bipush 10, 2) := by decide +kernel
theorem dX7_told_4 : decode cX7_told 4 = .ok (.bipush 9, 2) := by decide +kernel
theorem dX7_told_6 : decode cX7_told 6 = .ok (.aload_n 0, 1) := by decide +kernel
theorem dX7_told_7 : decode cX7_told 7 = .ok (.getfield 13, 3) := by decide +kernel
theorem dX7_told_10 : decode cX7_told 10 = .ok (.iadd, 1) := by decide +kernel
theorem dX7_told_11 : decode cX7_told 11 = .ok (.invokevirtual 276, 3) := by decide +kernel
theorem dX7_told_14 : decode cX7_told 14 = .ok (.ifCond .eq 13, 3) := by decide +kernel
theorem dX7_told_17 : decode cX7_told 17 = .ok (.aload_n 0, 1) := by decide +kernel
theorem dX7_told_18 : decode cX7_told 18 = .ok (.getfield 47, 3) := by decide +kernel
theorem dX7_told_21 : decode cX7_told 21 = .ok (.iload_n 1, 1) := by decide +kernel
theorem dX7_told_22 : decode cX7_told 22 = .ok (.bipush 10, 2) := by decide +kernel
theorem dX7_told_24 : decode cX7_told 24 = .ok (.isub, 1) := by decide +kernel
theorem dX7_told_25 : decode cX7_told 25 = .ok (.iaload, 1) := by decide +kernel
theorem dX7_told_26 : decode cX7_told 26 = .ok (.ireturn, 1) := by decide +kernel
theorem dX7_told_27 : decode cX7_told 27 = .ok (.iload_n 1, 1) := by decide +kernel
theorem dX7_told_28 : decode cX7_told 28 = .ok (.tableswitch 92 0 7 #[48, 53, 60, 67, 72, 77, 82, 87], 48) := by decide +kernel
theorem dX7_told_76 : decode cX7_told 76 = .ok (.aload_n 0, 1) := by decide +kernel
theorem dX7_told_77 : decode cX7_told 77 = .ok (.getfield 25, 3) := by decide +kernel
theorem dX7_told_80 : decode cX7_told 80 = .ok (.ireturn, 1) := by decide +kernel
theorem dX7_told_81 : decode cX7_told 81 = .ok (.aload_n 0, 1) := by decide +kernel
theorem dX7_told_82 : decode cX7_told 82 = .ok (.iconst 2, 1) := by decide +kernel
theorem dX7_told_83 : decode cX7_told 83 = .ok (.iconst 5, 1) := by decide +kernel
theorem dX7_told_84 : decode cX7_told 84 = .ok (.invokevirtual 365, 3) := by decide +kernel
theorem dX7_told_87 : decode cX7_told 87 = .ok (.ireturn, 1) := by decide +kernel
theorem dX7_told_88 : decode cX7_told 88 = .ok (.aload_n 0, 1) := by decide +kernel
theorem dX7_told_89 : decode cX7_told 89 = .ok (.iconst 3, 1) := by decide +kernel
theorem dX7_told_90 : decode cX7_told 90 = .ok (.iconst 2, 1) := by decide +kernel
theorem dX7_told_91 : decode cX7_told 91 = .ok (.invokevirtual 365, 3) := by decide +kernel
theorem dX7_told_94 : decode cX7_told 94 = .ok (.ireturn, 1) := by decide +kernel
theorem dX7_told_95 : decode cX7_told 95 = .ok (.aload_n 0, 1) := by decide +kernel
theorem dX7_told_96 : decode cX7_told 96 = .ok (.getfield 16, 3) := by decide +kernel
theorem dX7_told_99 : decode cX7_told 99 = .ok (.ireturn, 1) := by decide +kernel
theorem dX7_told_100 : decode cX7_told 100 = .ok (.aload_n 0, 1) := by decide +kernel
theorem dX7_told_101 : decode cX7_told 101 = .ok (.getfield 19, 3) := by decide +kernel
theorem dX7_told_104 : decode cX7_told 104 = .ok (.ireturn, 1) := by decide +kernel
theorem dX7_told_105 : decode cX7_told 105 = .ok (.aload_n 0, 1) := by decide +kernel
theorem dX7_told_106 : decode cX7_told 106 = .ok (.getfield 22, 3) := by decide +kernel
theorem dX7_told_109 : decode cX7_told 109 = .ok (.ireturn, 1) := by decide +kernel
theorem dX7_told_110 : decode cX7_told 110 = .ok (.aload_n 0, 1) := by decide +kernel
theorem dX7_told_111 : decode cX7_told 111 = .ok (.invokevirtual 371, 3) := by decide +kernel
theorem dX7_told_114 : decode cX7_told 114 = .ok (.ireturn, 1) := by decide +kernel
theorem dX7_told_115 : decode cX7_told 115 = .ok (.aload_n 0, 1) := by decide +kernel
theorem dX7_told_116 : decode cX7_told 116 = .ok (.invokevirtual 380, 3) := by decide +kernel
theorem dX7_told_119 : decode cX7_told 119 = .ok (.ireturn, 1) := by decide +kernel
theorem dX7_told_120 : decode cX7_told 120 = .ok (.iconst (-1), 1) := by decide +kernel
theorem dX7_told_121 : decode cX7_told 121 = .ok (.ireturn, 1) := by decide +kernel
theorem dX7_breaksAt_0 : decode cX7_breaksAt 0 = .ok (.iconst 0, 1) := by decide +kernel
theorem dX7_breaksAt_1 : decode cX7_breaksAt 1 = .ok (.istore_n 1, 1) := by decide +kernel
theorem dX7_breaksAt_2 : decode cX7_breaksAt 2 = .ok (.iload_n 1, 1) := by decide +kernel
theorem dX7_breaksAt_3 : decode cX7_breaksAt 3 = .ok (.aload_n 0, 1) := by decide +kernel
theorem dX7_breaksAt_4 : decode cX7_breaksAt 4 = .ok (.getfield 13, 3) := by decide +kernel
theorem dX7_breaksAt_7 : decode cX7_breaksAt 7 = .ok (.if_icmp .ge 29, 3) := by decide +kernel
theorem dX7_breaksAt_10 : decode cX7_breaksAt 10 = .ok (.aload_n 0, 1) := by decide +kernel
theorem dX7_breaksAt_11 : decode cX7_breaksAt 11 = .ok (.iload_n 1, 1) := by decide +kernel
theorem dX7_breaksAt_12 : decode cX7_breaksAt 12 = .ok (.invokevirtual 377, 3) := by decide +kernel
theorem dX7_breaksAt_15 : decode cX7_breaksAt 15 = .ok (.aload_n 0, 1) := by decide +kernel
theorem dX7_breaksAt_16 : decode cX7_breaksAt 16 = .ok (.aload_n 0, 1) := by decide +kernel
theorem dX7_breaksAt_17 : decode cX7_breaksAt 17 = .ok (.getfield 47, 3) := by decide +kernel
theorem dX7_breaksAt_20 : decode cX7_breaksAt 20 = .ok (.iload_n 1, 1) := by decide +kernel
theorem dX7_breaksAt_21 : decode cX7_breaksAt 21 = .ok (.iaload, 1) := by decide +kernel
theorem dX7_breaksAt_22 : decode cX7_breaksAt 22 = .ok (.invokevirtual 374, 3) := by decide +kernel
theorem dX7_breaksAt_25 : decode cX7_breaksAt 25 = .ok (.if_icmp .le 5, 3) := by decide +kernel
theorem dX7_breaksAt_28 : decode cX7_breaksAt 28 = .ok (.iload_n 1, 1) := by decide +kernel
theorem dX7_breaksAt_29 : decode cX7_breaksAt 29 = .ok (.ireturn, 1) := by decide +kernel
theorem dX7_breaksAt_30 : decode cX7_breaksAt 30 = .ok (.iinc 1 1, 3) := by decide +kernel
theorem dX7_breaksAt_33 : decode cX7_breaksAt 33 = .ok (.goto (-31), 3) := by decide +kernel
theorem dX7_breaksAt_36 : decode cX7_breaksAt 36 = .ok (.bipush (-5), 2) := by decide +kernel
theorem dX7_breaksAt_38 : decode cX7_breaksAt 38 = .ok (.ireturn, 1) := by decide +kernel
theorem dX7_goWear_0 : decode cX7_goWear 0 = .ok (.aload_n 0, 1) := by decide +kernel
theorem dX7_goWear_1 : decode cX7_goWear 1 = .ok (.aload_n 0, 1) := by decide +kernel
theorem dX7_goWear_2 : decode cX7_goWear 2 = .ok (.aload_n 0, 1) := by decide +kernel
theorem dX7_goWear_3 : decode cX7_goWear 3 = .ok (.getfield 22, 3) := by decide +kernel
theorem dX7_goWear_6 : decode cX7_goWear 6 = .ok (.aload_n 0, 1) := by decide +kernel
theorem dX7_goWear_7 : decode cX7_goWear 7 = .ok (.invokevirtual 380, 3) := by decide +kernel
theorem dX7_goWear_10 : decode cX7_goWear 10 = .ok (.iadd, 1) := by decide +kernel
theorem dX7_goWear_11 : decode cX7_goWear 11 = .ok (.aload_n 0, 1) := by decide +kernel
theorem dX7_goWear_12 : decode cX7_goWear 12 = .ok (.getfield 106, 3) := by decide +kernel
theorem dX7_goWear_15 : decode cX7_goWear 15 = .ok (.invokevirtual 383, 3) := by decide +kernel
theorem dX7_goWear_18 : decode cX7_goWear 18 = .ok (.putfield 22, 3) := by decide +kernel
theorem dX7_goWear_21 : decode cX7_goWear 21 = .ok (.iconst 0, 1) := by decide +kernel
theorem dX7_goWear_22 : decode cX7_goWear 22 = .ok (.istore_n 1, 1) := by decide +kernel
theorem dX7_goWear_23 : decode cX7_goWear 23 = .ok (.iload_n 1, 1) := by decide +kernel
theorem dX7_goWear_24 : decode cX7_goWear 24 = .ok (.aload_n 0, 1) := by decide +kernel
theorem dX7_goWear_25 : decode cX7_goWear 25 = .ok (.getfield 13, 3) := by decide +kernel
theorem dX7_goWear_28 : decode cX7_goWear 28 = .ok (.if_icmp .ge 20, 3) := by decide +kernel
theorem dX7_goWear_31 : decode cX7_goWear 31 = .ok (.aload_n 0, 1) := by decide +kernel
theorem dX7_goWear_32 : decode cX7_goWear 32 = .ok (.getfield 112, 3) := by decide +kernel
theorem dX7_goWear_35 : decode cX7_goWear 35 = .ok (.iload_n 1, 1) := by decide +kernel
theorem dX7_goWear_36 : decode cX7_goWear 36 = .ok (.aload_n 0, 1) := by decide +kernel
theorem dX7_goWear_37 : decode cX7_goWear 37 = .ok (.iload_n 1, 1) := by decide +kernel
theorem dX7_goWear_38 : decode cX7_goWear 38 = .ok (.invokevirtual 377, 3) := by decide +kernel
theorem dX7_goWear_41 : decode cX7_goWear 41 = .ok (.iastore, 1) := by decide +kernel
theorem dX7_goWear_42 : decode cX7_goWear 42 = .ok (.iinc 1 1, 3) := by decide +kernel
theorem dX7_goWear_45 : decode cX7_goWear 45 = .ok (.goto (-22), 3) := by decide +kernel
theorem dX7_goWear_48 : decode cX7_goWear 48 = .ok (.iconst 0, 1) := by decide +kernel
theorem dX7_goWear_49 : decode cX7_goWear 49 = .ok (.istore_n 1, 1) := by decide +kernel
theorem dX7_goWear_50 : decode cX7_goWear 50 = .ok (.iload_n 1, 1) := by decide +kernel
theorem dX7_goWear_51 : decode cX7_goWear 51 = .ok (.aload_n 0, 1) := by decide +kernel
theorem dX7_goWear_52 : decode cX7_goWear 52 = .ok (.getfield 13, 3) := by decide +kernel
theorem dX7_goWear_55 : decode cX7_goWear 55 = .ok (.if_icmp .ge 47, 3) := by decide +kernel
theorem dX7_goWear_58 : decode cX7_goWear 58 = .ok (.aload_n 0, 1) := by decide +kernel
theorem dX7_goWear_59 : decode cX7_goWear 59 = .ok (.getfield 38, 3) := by decide +kernel
theorem dX7_goWear_62 : decode cX7_goWear 62 = .ok (.aload_n 0, 1) := by decide +kernel
theorem dX7_goWear_63 : decode cX7_goWear 63 = .ok (.getfield 47, 3) := by decide +kernel
theorem dX7_goWear_66 : decode cX7_goWear 66 = .ok (.iload_n 1, 1) := by decide +kernel
theorem dX7_goWear_67 : decode cX7_goWear 67 = .ok (.iaload, 1) := by decide +kernel
theorem dX7_goWear_68 : decode cX7_goWear 68 = .ok (.aload_n 0, 1) := by decide +kernel
theorem dX7_goWear_69 : decode cX7_goWear 69 = .ok (.aload_n 0, 1) := by decide +kernel
theorem dX7_goWear_70 : decode cX7_goWear 70 = .ok (.getfield 38, 3) := by decide +kernel
theorem dX7_goWear_73 : decode cX7_goWear 73 = .ok (.aload_n 0, 1) := by decide +kernel
theorem dX7_goWear_74 : decode cX7_goWear 74 = .ok (.getfield 47, 3) := by decide +kernel
theorem dX7_goWear_77 : decode cX7_goWear 77 = .ok (.iload_n 1, 1) := by decide +kernel
theorem dX7_goWear_78 : decode cX7_goWear 78 = .ok (.iaload, 1) := by decide +kernel
theorem dX7_goWear_79 : decode cX7_goWear 79 = .ok (.iaload, 1) := by decide +kernel
theorem dX7_goWear_80 : decode cX7_goWear 80 = .ok (.aload_n 0, 1) := by decide +kernel
theorem dX7_goWear_81 : decode cX7_goWear 81 = .ok (.getfield 112, 3) := by decide +kernel
theorem dX7_goWear_84 : decode cX7_goWear 84 = .ok (.iload_n 1, 1) := by decide +kernel
theorem dX7_goWear_85 : decode cX7_goWear 85 = .ok (.iaload, 1) := by decide +kernel
theorem dX7_goWear_86 : decode cX7_goWear 86 = .ok (.bipush 10, 2) := by decide +kernel
theorem dX7_goWear_88 : decode cX7_goWear 88 = .ok (.idiv, 1) := by decide +kernel
theorem dX7_goWear_89 : decode cX7_goWear 89 = .ok (.iadd, 1) := by decide +kernel
theorem dX7_goWear_90 : decode cX7_goWear 90 = .ok (.bipush 99, 2) := by decide +kernel
theorem dX7_goWear_92 : decode cX7_goWear 92 = .ok (.invokevirtual 383, 3) := by decide +kernel
theorem dX7_goWear_95 : decode cX7_goWear 95 = .ok (.iastore, 1) := by decide +kernel
theorem dX7_goWear_96 : decode cX7_goWear 96 = .ok (.iinc 1 1, 3) := by decide +kernel
theorem dX7_goWear_99 : decode cX7_goWear 99 = .ok (.goto (-49), 3) := by decide +kernel
theorem dX7_goWear_102 : decode cX7_goWear 102 = .ok (.return_, 1) := by decide +kernel
theorem dX7_goDay_0 : decode cX7_goDay 0 = .ok (.aload_n 0, 1) := by decide +kernel
theorem dX7_goDay_1 : decode cX7_goDay 1 = .ok (.invokevirtual 386, 3) := by decide +kernel
theorem dX7_goDay_4 : decode cX7_goDay 4 = .ok (.istore_n 1, 1) := by decide +kernel
theorem dX7_goDay_5 : decode cX7_goDay 5 = .ok (.iload_n 1, 1) := by decide +kernel
theorem dX7_goDay_6 : decode cX7_goDay 6 = .ok (.ifCond .ge 8, 3) := by decide +kernel
theorem dX7_goDay_9 : decode cX7_goDay 9 = .ok (.bipush (-5), 2) := by decide +kernel
theorem dX7_goDay_11 : decode cX7_goDay 11 = .ok (.goto 9, 3) := by decide +kernel
theorem dX7_goDay_14 : decode cX7_goDay 14 = .ok (.aload_n 0, 1) := by decide +kernel
theorem dX7_goDay_15 : decode cX7_goDay 15 = .ok (.getfield 47, 3) := by decide +kernel
theorem dX7_goDay_18 : decode cX7_goDay 18 = .ok (.iload_n 1, 1) := by decide +kernel
theorem dX7_goDay_19 : decode cX7_goDay 19 = .ok (.iaload, 1) := by decide +kernel
theorem dX7_goDay_20 : decode cX7_goDay 20 = .ok (.istore_n 2, 1) := by decide +kernel
theorem dX7_goDay_21 : decode cX7_goDay 21 = .ok (.iload_n 1, 1) := by decide +kernel
theorem dX7_goDay_22 : decode cX7_goDay 22 = .ok (.ifCond .ge 10, 3) := by decide +kernel
theorem dX7_goDay_25 : decode cX7_goDay 25 = .ok (.aload_n 0, 1) := by decide +kernel
theorem dX7_goDay_26 : decode cX7_goDay 26 = .ok (.invokevirtual 389, 3) := by decide +kernel
theorem dX7_goDay_29 : decode cX7_goDay 29 = .ok (.goto 47, 3) := by decide +kernel
theorem dX7_goDay_32 : decode cX7_goDay 32 = .ok (.aload_n 0, 1) := by decide +kernel
theorem dX7_goDay_33 : decode cX7_goDay 33 = .ok (.getfield 35, 3) := by decide +kernel
theorem dX7_goDay_36 : decode cX7_goDay 36 = .ok (.iload_n 2, 1) := by decide +kernel
theorem dX7_goDay_37 : decode cX7_goDay 37 = .ok (.dup2, 1) := by decide +kernel
theorem dX7_goDay_38 : decode cX7_goDay 38 = .ok (.iaload, 1) := by decide +kernel
theorem dX7_goDay_39 : decode cX7_goDay 39 = .ok (.iconst 2, 1) := by decide +kernel
theorem dX7_goDay_40 : decode cX7_goDay 40 = .ok (.idiv, 1) := by decide +kernel
theorem dX7_goDay_41 : decode cX7_goDay 41 = .ok (.iastore, 1) := by decide +kernel
theorem dX7_goDay_42 : decode cX7_goDay 42 = .ok (.aload_n 0, 1) := by decide +kernel
theorem dX7_goDay_43 : decode cX7_goDay 43 = .ok (.getfield 38, 3) := by decide +kernel
theorem dX7_goDay_46 : decode cX7_goDay 46 = .ok (.iload_n 2, 1) := by decide +kernel
theorem dX7_goDay_47 : decode cX7_goDay 47 = .ok (.iconst 0, 1) := by decide +kernel
theorem dX7_goDay_48 : decode cX7_goDay 48 = .ok (.iastore, 1) := by decide +kernel
theorem dX7_goDay_49 : decode cX7_goDay 49 = .ok (.aload_n 0, 1) := by decide +kernel
theorem dX7_goDay_50 : decode cX7_goDay 50 = .ok (.getfield 41, 3) := by decide +kernel
theorem dX7_goDay_53 : decode cX7_goDay 53 = .ok (.iload_n 2, 1) := by decide +kernel
theorem dX7_goDay_54 : decode cX7_goDay 54 = .ok (.aload_n 0, 1) := by decide +kernel
theorem dX7_goDay_55 : decode cX7_goDay 55 = .ok (.aload_n 0, 1) := by decide +kernel
theorem dX7_goDay_56 : decode cX7_goDay 56 = .ok (.getfield 41, 3) := by decide +kernel
theorem dX7_goDay_59 : decode cX7_goDay 59 = .ok (.iload_n 2, 1) := by decide +kernel
theorem dX7_goDay_60 : decode cX7_goDay 60 = .ok (.iaload, 1) := by decide +kernel
theorem dX7_goDay_61 : decode cX7_goDay 61 = .ok (.iconst 1, 1) := by decide +kernel
theorem dX7_goDay_62 : decode cX7_goDay 62 = .ok (.iadd, 1) := by decide +kernel
theorem dX7_goDay_63 : decode cX7_goDay 63 = .ok (.aload_n 0, 1) := by decide +kernel
theorem dX7_goDay_64 : decode cX7_goDay 64 = .ok (.getfield 109, 3) := by decide +kernel
theorem dX7_goDay_67 : decode cX7_goDay 67 = .ok (.invokevirtual 383, 3) := by decide +kernel
theorem dX7_goDay_70 : decode cX7_goDay 70 = .ok (.iastore, 1) := by decide +kernel
theorem dX7_goDay_71 : decode cX7_goDay 71 = .ok (.aload_n 0, 1) := by decide +kernel
theorem dX7_goDay_72 : decode cX7_goDay 72 = .ok (.iload_n 1, 1) := by decide +kernel
theorem dX7_goDay_73 : decode cX7_goDay 73 = .ok (.putfield 13, 3) := by decide +kernel
theorem dX7_goDay_76 : decode cX7_goDay 76 = .ok (.aload_n 0, 1) := by decide +kernel
theorem dX7_goDay_77 : decode cX7_goDay 77 = .ok (.dup, 1) := by decide +kernel
theorem dX7_goDay_78 : decode cX7_goDay 78 = .ok (.getfield 25, 3) := by decide +kernel
theorem dX7_goDay_81 : decode cX7_goDay 81 = .ok (.iconst 1, 1) := by decide +kernel
theorem dX7_goDay_82 : decode cX7_goDay 82 = .ok (.iadd, 1) := by decide +kernel
theorem dX7_goDay_83 : decode cX7_goDay 83 = .ok (.putfield 25, 3) := by decide +kernel
theorem dX7_goDay_86 : decode cX7_goDay 86 = .ok (.iload_n 2, 1) := by decide +kernel
theorem dX7_goDay_87 : decode cX7_goDay 87 = .ok (.ireturn, 1) := by decide +kernel
theorem dX7_goDays_0 : decode cX7_goDays 0 = .ok (.iconst 0, 1) := by decide +kernel
theorem dX7_goDays_1 : decode cX7_goDays 1 = .ok (.istore_n 2, 1) := by decide +kernel
theorem dX7_goDays_2 : decode cX7_goDays 2 = .ok (.iload_n 2, 1) := by decide +kernel
theorem dX7_goDays_3 : decode cX7_goDays 3 = .ok (.iload_n 1, 1) := by decide +kernel
theorem dX7_goDays_4 : decode cX7_goDays 4 = .ok (.if_icmp .ge 14, 3) := by decide +kernel
theorem dX7_goDays_7 : decode cX7_goDays 7 = .ok (.aload_n 0, 1) := by decide +kernel
theorem dX7_goDays_8 : decode cX7_goDays 8 = .ok (.invokevirtual 392, 3) := by decide +kernel
theorem dX7_goDays_11 : decode cX7_goDays 11 = .ok (.pop, 1) := by decide +kernel
theorem dX7_goDays_12 : decode cX7_goDays 12 = .ok (.iinc 2 1, 3) := by decide +kernel
theorem dX7_goDays_15 : decode cX7_goDays 15 = .ok (.goto (-13), 3) := by decide +kernel
theorem dX7_goDays_18 : decode cX7_goDays 18 = .ok (.return_, 1) := by decide +kernel
theorem dX7_pass_0 : decode cX7_pass 0 = .ok (.aload_n 0, 1) := by decide +kernel
theorem dX7_pass_1 : decode cX7_pass 1 = .ok (.iload_n 1, 1) := by decide +kernel
theorem dX7_pass_2 : decode cX7_pass 2 = .ok (.invokevirtual 395, 3) := by decide +kernel
theorem dX7_pass_5 : decode cX7_pass 5 = .ok (.ifCond .ne 6, 3) := by decide +kernel
theorem dX7_pass_8 : decode cX7_pass 8 = .ok (.bipush (-2), 2) := by decide +kernel
theorem dX7_pass_10 : decode cX7_pass 10 = .ok (.ireturn, 1) := by decide +kernel
theorem dX7_pass_11 : decode cX7_pass 11 = .ok (.aload_n 0, 1) := by decide +kernel
theorem dX7_pass_12 : decode cX7_pass 12 = .ok (.getfield 25, 3) := by decide +kernel
theorem dX7_pass_15 : decode cX7_pass 15 = .ok (.iload_n 1, 1) := by decide +kernel
theorem dX7_pass_16 : decode cX7_pass 16 = .ok (.iadd, 1) := by decide +kernel
theorem dX7_pass_17 : decode cX7_pass 17 = .ok (.sipush 9999, 3) := by decide +kernel
theorem dX7_pass_20 : decode cX7_pass 20 = .ok (.if_icmp .le 6, 3) := by decide +kernel
theorem dX7_pass_23 : decode cX7_pass 23 = .ok (.bipush (-3), 2) := by decide +kernel
theorem dX7_pass_25 : decode cX7_pass 25 = .ok (.ireturn, 1) := by decide +kernel
theorem dX7_pass_26 : decode cX7_pass 26 = .ok (.aload_n 0, 1) := by decide +kernel
theorem dX7_pass_27 : decode cX7_pass 27 = .ok (.iload_n 1, 1) := by decide +kernel
theorem dX7_pass_28 : decode cX7_pass 28 = .ok (.invokevirtual 398, 3) := by decide +kernel
theorem dX7_pass_31 : decode cX7_pass 31 = .ok (.aload_n 0, 1) := by decide +kernel
theorem dX7_pass_32 : decode cX7_pass 32 = .ok (.getfield 22, 3) := by decide +kernel
theorem dX7_pass_35 : decode cX7_pass 35 = .ok (.ireturn, 1) := by decide +kernel
theorem dX7_save_0 : decode cX7_save 0 = .ok (.aload_n 0, 1) := by decide +kernel
theorem dX7_save_1 : decode cX7_save 1 = .ok (.ldc_w 401, 3) := by decide +kernel
theorem dX7_save_4 : decode cX7_save 4 = .ok (.putfield 106, 3) := by decide +kernel
theorem dX7_save_7 : decode cX7_save 7 = .ok (.aload_n 0, 1) := by decide +kernel
theorem dX7_save_8 : decode cX7_save 8 = .ok (.ldc_w 401, 3) := by decide +kernel
theorem dX7_save_11 : decode cX7_save 11 = .ok (.putfield 109, 3) := by decide +kernel
theorem dX7_save_14 : decode cX7_save 14 = .ok (.aload_n 0, 1) := by decide +kernel
theorem dX7_save_15 : decode cX7_save 15 = .ok (.aload_n 0, 1) := by decide +kernel
theorem dX7_save_16 : decode cX7_save 16 = .ok (.getfield 13, 3) := by decide +kernel
theorem dX7_save_19 : decode cX7_save 19 = .ok (.putfield 115, 3) := by decide +kernel
theorem dX7_save_22 : decode cX7_save 22 = .ok (.aload_n 0, 1) := by decide +kernel
theorem dX7_save_23 : decode cX7_save 23 = .ok (.aload_n 0, 1) := by decide +kernel
theorem dX7_save_24 : decode cX7_save 24 = .ok (.getfield 16, 3) := by decide +kernel
theorem dX7_save_27 : decode cX7_save 27 = .ok (.putfield 118, 3) := by decide +kernel
theorem dX7_save_30 : decode cX7_save 30 = .ok (.aload_n 0, 1) := by decide +kernel
theorem dX7_save_31 : decode cX7_save 31 = .ok (.aload_n 0, 1) := by decide +kernel
theorem dX7_save_32 : decode cX7_save 32 = .ok (.getfield 19, 3) := by decide +kernel
theorem dX7_save_35 : decode cX7_save 35 = .ok (.putfield 121, 3) := by decide +kernel
theorem dX7_save_38 : decode cX7_save 38 = .ok (.aload_n 0, 1) := by decide +kernel
theorem dX7_save_39 : decode cX7_save 39 = .ok (.aload_n 0, 1) := by decide +kernel
theorem dX7_save_40 : decode cX7_save 40 = .ok (.getfield 22, 3) := by decide +kernel
theorem dX7_save_43 : decode cX7_save 43 = .ok (.putfield 124, 3) := by decide +kernel
theorem dX7_save_46 : decode cX7_save 46 = .ok (.aload_n 0, 1) := by decide +kernel
theorem dX7_save_47 : decode cX7_save 47 = .ok (.aload_n 0, 1) := by decide +kernel
theorem dX7_save_48 : decode cX7_save 48 = .ok (.getfield 25, 3) := by decide +kernel
theorem dX7_save_51 : decode cX7_save 51 = .ok (.putfield 127, 3) := by decide +kernel
theorem dX7_save_54 : decode cX7_save 54 = .ok (.iconst 0, 1) := by decide +kernel
theorem dX7_save_55 : decode cX7_save 55 = .ok (.istore_n 1, 1) := by decide +kernel
theorem dX7_save_56 : decode cX7_save 56 = .ok (.iload_n 1, 1) := by decide +kernel
theorem dX7_save_57 : decode cX7_save 57 = .ok (.bipush 6, 2) := by decide +kernel
theorem dX7_save_59 : decode cX7_save 59 = .ok (.if_icmp .ge 45, 3) := by decide +kernel
theorem dX7_save_62 : decode cX7_save 62 = .ok (.aload_n 0, 1) := by decide +kernel
theorem dX7_save_63 : decode cX7_save 63 = .ok (.getfield 130, 3) := by decide +kernel
theorem dX7_save_66 : decode cX7_save 66 = .ok (.iload_n 1, 1) := by decide +kernel
theorem dX7_save_67 : decode cX7_save 67 = .ok (.aload_n 0, 1) := by decide +kernel
theorem dX7_save_68 : decode cX7_save 68 = .ok (.getfield 35, 3) := by decide +kernel
theorem dX7_save_71 : decode cX7_save 71 = .ok (.iload_n 1, 1) := by decide +kernel
theorem dX7_save_72 : decode cX7_save 72 = .ok (.iaload, 1) := by decide +kernel
theorem dX7_save_73 : decode cX7_save 73 = .ok (.iastore, 1) := by decide +kernel
theorem dX7_save_74 : decode cX7_save 74 = .ok (.aload_n 0, 1) := by decide +kernel
theorem dX7_save_75 : decode cX7_save 75 = .ok (.getfield 133, 3) := by decide +kernel
theorem dX7_save_78 : decode cX7_save 78 = .ok (.iload_n 1, 1) := by decide +kernel
theorem dX7_save_79 : decode cX7_save 79 = .ok (.aload_n 0, 1) := by decide +kernel
theorem dX7_save_80 : decode cX7_save 80 = .ok (.getfield 38, 3) := by decide +kernel
theorem dX7_save_83 : decode cX7_save 83 = .ok (.iload_n 1, 1) := by decide +kernel
theorem dX7_save_84 : decode cX7_save 84 = .ok (.iaload, 1) := by decide +kernel
theorem dX7_save_85 : decode cX7_save 85 = .ok (.iastore, 1) := by decide +kernel
theorem dX7_save_86 : decode cX7_save 86 = .ok (.aload_n 0, 1) := by decide +kernel
theorem dX7_save_87 : decode cX7_save 87 = .ok (.getfield 136, 3) := by decide +kernel
theorem dX7_save_90 : decode cX7_save 90 = .ok (.iload_n 1, 1) := by decide +kernel
theorem dX7_save_91 : decode cX7_save 91 = .ok (.aload_n 0, 1) := by decide +kernel
theorem dX7_save_92 : decode cX7_save 92 = .ok (.getfield 41, 3) := by decide +kernel
theorem dX7_save_95 : decode cX7_save 95 = .ok (.iload_n 1, 1) := by decide +kernel
theorem dX7_save_96 : decode cX7_save 96 = .ok (.iaload, 1) := by decide +kernel
theorem dX7_save_97 : decode cX7_save 97 = .ok (.iastore, 1) := by decide +kernel
theorem dX7_save_98 : decode cX7_save 98 = .ok (.iinc 1 1, 3) := by decide +kernel
theorem dX7_save_101 : decode cX7_save 101 = .ok (.goto (-45), 3) := by decide +kernel
theorem dX7_save_104 : decode cX7_save 104 = .ok (.iconst 0, 1) := by decide +kernel
theorem dX7_save_105 : decode cX7_save 105 = .ok (.istore_n 1, 1) := by decide +kernel
theorem dX7_save_106 : decode cX7_save 106 = .ok (.iload_n 1, 1) := by decide +kernel
theorem dX7_save_107 : decode cX7_save 107 = .ok (.iconst 3, 1) := by decide +kernel
theorem dX7_save_108 : decode cX7_save 108 = .ok (.if_icmp .ge 21, 3) := by decide +kernel
theorem dX7_save_111 : decode cX7_save 111 = .ok (.aload_n 0, 1) := by decide +kernel
theorem dX7_save_112 : decode cX7_save 112 = .ok (.getfield 139, 3) := by decide +kernel
theorem dX7_save_115 : decode cX7_save 115 = .ok (.iload_n 1, 1) := by decide +kernel
theorem dX7_save_116 : decode cX7_save 116 = .ok (.aload_n 0, 1) := by decide +kernel
theorem dX7_save_117 : decode cX7_save 117 = .ok (.getfield 47, 3) := by decide +kernel
theorem dX7_save_120 : decode cX7_save 120 = .ok (.iload_n 1, 1) := by decide +kernel
theorem dX7_save_121 : decode cX7_save 121 = .ok (.iaload, 1) := by decide +kernel
theorem dX7_save_122 : decode cX7_save 122 = .ok (.iastore, 1) := by decide +kernel
theorem dX7_save_123 : decode cX7_save 123 = .ok (.iinc 1 1, 3) := by decide +kernel
theorem dX7_save_126 : decode cX7_save 126 = .ok (.goto (-20), 3) := by decide +kernel
theorem dX7_save_129 : decode cX7_save 129 = .ok (.return_, 1) := by decide +kernel
theorem dX7_putBack_0 : decode cX7_putBack 0 = .ok (.aload_n 0, 1) := by decide +kernel
theorem dX7_putBack_1 : decode cX7_putBack 1 = .ok (.ldc 105, 2) := by decide +kernel
theorem dX7_putBack_3 : decode cX7_putBack 3 = .ok (.putfield 106, 3) := by decide +kernel
theorem dX7_putBack_6 : decode cX7_putBack 6 = .ok (.aload_n 0, 1) := by decide +kernel
theorem dX7_putBack_7 : decode cX7_putBack 7 = .ok (.sipush 9999, 3) := by decide +kernel
theorem dX7_putBack_10 : decode cX7_putBack 10 = .ok (.putfield 109, 3) := by decide +kernel
theorem dX7_putBack_13 : decode cX7_putBack 13 = .ok (.aload_n 0, 1) := by decide +kernel
theorem dX7_putBack_14 : decode cX7_putBack 14 = .ok (.aload_n 0, 1) := by decide +kernel
theorem dX7_putBack_15 : decode cX7_putBack 15 = .ok (.getfield 115, 3) := by decide +kernel
theorem dX7_putBack_18 : decode cX7_putBack 18 = .ok (.putfield 13, 3) := by decide +kernel
theorem dX7_putBack_21 : decode cX7_putBack 21 = .ok (.aload_n 0, 1) := by decide +kernel
theorem dX7_putBack_22 : decode cX7_putBack 22 = .ok (.aload_n 0, 1) := by decide +kernel
theorem dX7_putBack_23 : decode cX7_putBack 23 = .ok (.getfield 118, 3) := by decide +kernel
theorem dX7_putBack_26 : decode cX7_putBack 26 = .ok (.putfield 16, 3) := by decide +kernel
theorem dX7_putBack_29 : decode cX7_putBack 29 = .ok (.aload_n 0, 1) := by decide +kernel
theorem dX7_putBack_30 : decode cX7_putBack 30 = .ok (.aload_n 0, 1) := by decide +kernel
theorem dX7_putBack_31 : decode cX7_putBack 31 = .ok (.getfield 121, 3) := by decide +kernel
theorem dX7_putBack_34 : decode cX7_putBack 34 = .ok (.putfield 19, 3) := by decide +kernel
theorem dX7_putBack_37 : decode cX7_putBack 37 = .ok (.aload_n 0, 1) := by decide +kernel
theorem dX7_putBack_38 : decode cX7_putBack 38 = .ok (.aload_n 0, 1) := by decide +kernel
theorem dX7_putBack_39 : decode cX7_putBack 39 = .ok (.getfield 124, 3) := by decide +kernel
theorem dX7_putBack_42 : decode cX7_putBack 42 = .ok (.putfield 22, 3) := by decide +kernel
theorem dX7_putBack_45 : decode cX7_putBack 45 = .ok (.aload_n 0, 1) := by decide +kernel
theorem dX7_putBack_46 : decode cX7_putBack 46 = .ok (.aload_n 0, 1) := by decide +kernel
theorem dX7_putBack_47 : decode cX7_putBack 47 = .ok (.getfield 127, 3) := by decide +kernel
theorem dX7_putBack_50 : decode cX7_putBack 50 = .ok (.putfield 25, 3) := by decide +kernel
theorem dX7_putBack_53 : decode cX7_putBack 53 = .ok (.iconst 0, 1) := by decide +kernel
theorem dX7_putBack_54 : decode cX7_putBack 54 = .ok (.istore_n 1, 1) := by decide +kernel
theorem dX7_putBack_55 : decode cX7_putBack 55 = .ok (.iload_n 1, 1) := by decide +kernel
theorem dX7_putBack_56 : decode cX7_putBack 56 = .ok (.bipush 6, 2) := by decide +kernel
theorem dX7_putBack_58 : decode cX7_putBack 58 = .ok (.if_icmp .ge 45, 3) := by decide +kernel
theorem dX7_putBack_61 : decode cX7_putBack 61 = .ok (.aload_n 0, 1) := by decide +kernel
theorem dX7_putBack_62 : decode cX7_putBack 62 = .ok (.getfield 35, 3) := by decide +kernel
theorem dX7_putBack_65 : decode cX7_putBack 65 = .ok (.iload_n 1, 1) := by decide +kernel
theorem dX7_putBack_66 : decode cX7_putBack 66 = .ok (.aload_n 0, 1) := by decide +kernel
theorem dX7_putBack_67 : decode cX7_putBack 67 = .ok (.getfield 130, 3) := by decide +kernel
theorem dX7_putBack_70 : decode cX7_putBack 70 = .ok (.iload_n 1, 1) := by decide +kernel
theorem dX7_putBack_71 : decode cX7_putBack 71 = .ok (.iaload, 1) := by decide +kernel
theorem dX7_putBack_72 : decode cX7_putBack 72 = .ok (.iastore, 1) := by decide +kernel
theorem dX7_putBack_73 : decode cX7_putBack 73 = .ok (.aload_n 0, 1) := by decide +kernel
theorem dX7_putBack_74 : decode cX7_putBack 74 = .ok (.getfield 38, 3) := by decide +kernel
theorem dX7_putBack_77 : decode cX7_putBack 77 = .ok (.iload_n 1, 1) := by decide +kernel
theorem dX7_putBack_78 : decode cX7_putBack 78 = .ok (.aload_n 0, 1) := by decide +kernel
theorem dX7_putBack_79 : decode cX7_putBack 79 = .ok (.getfield 133, 3) := by decide +kernel
theorem dX7_putBack_82 : decode cX7_putBack 82 = .ok (.iload_n 1, 1) := by decide +kernel
theorem dX7_putBack_83 : decode cX7_putBack 83 = .ok (.iaload, 1) := by decide +kernel
theorem dX7_putBack_84 : decode cX7_putBack 84 = .ok (.iastore, 1) := by decide +kernel
theorem dX7_putBack_85 : decode cX7_putBack 85 = .ok (.aload_n 0, 1) := by decide +kernel
theorem dX7_putBack_86 : decode cX7_putBack 86 = .ok (.getfield 41, 3) := by decide +kernel
theorem dX7_putBack_89 : decode cX7_putBack 89 = .ok (.iload_n 1, 1) := by decide +kernel
theorem dX7_putBack_90 : decode cX7_putBack 90 = .ok (.aload_n 0, 1) := by decide +kernel
theorem dX7_putBack_91 : decode cX7_putBack 91 = .ok (.getfield 136, 3) := by decide +kernel
theorem dX7_putBack_94 : decode cX7_putBack 94 = .ok (.iload_n 1, 1) := by decide +kernel
theorem dX7_putBack_95 : decode cX7_putBack 95 = .ok (.iaload, 1) := by decide +kernel
theorem dX7_putBack_96 : decode cX7_putBack 96 = .ok (.iastore, 1) := by decide +kernel
theorem dX7_putBack_97 : decode cX7_putBack 97 = .ok (.iinc 1 1, 3) := by decide +kernel
theorem dX7_putBack_100 : decode cX7_putBack 100 = .ok (.goto (-45), 3) := by decide +kernel
theorem dX7_putBack_103 : decode cX7_putBack 103 = .ok (.iconst 0, 1) := by decide +kernel
theorem dX7_putBack_104 : decode cX7_putBack 104 = .ok (.istore_n 1, 1) := by decide +kernel
theorem dX7_putBack_105 : decode cX7_putBack 105 = .ok (.iload_n 1, 1) := by decide +kernel
theorem dX7_putBack_106 : decode cX7_putBack 106 = .ok (.iconst 3, 1) := by decide +kernel
theorem dX7_putBack_107 : decode cX7_putBack 107 = .ok (.if_icmp .ge 21, 3) := by decide +kernel
theorem dX7_putBack_110 : decode cX7_putBack 110 = .ok (.aload_n 0, 1) := by decide +kernel
theorem dX7_putBack_111 : decode cX7_putBack 111 = .ok (.getfield 47, 3) := by decide +kernel
theorem dX7_putBack_114 : decode cX7_putBack 114 = .ok (.iload_n 1, 1) := by decide +kernel
theorem dX7_putBack_115 : decode cX7_putBack 115 = .ok (.aload_n 0, 1) := by decide +kernel
theorem dX7_putBack_116 : decode cX7_putBack 116 = .ok (.getfield 139, 3) := by decide +kernel
theorem dX7_putBack_119 : decode cX7_putBack 119 = .ok (.iload_n 1, 1) := by decide +kernel
theorem dX7_putBack_120 : decode cX7_putBack 120 = .ok (.iaload, 1) := by decide +kernel
theorem dX7_putBack_121 : decode cX7_putBack 121 = .ok (.iastore, 1) := by decide +kernel
theorem dX7_putBack_122 : decode cX7_putBack 122 = .ok (.iinc 1 1, 3) := by decide +kernel
theorem dX7_putBack_125 : decode cX7_putBack 125 = .ok (.goto (-20), 3) := by decide +kernel
theorem dX7_putBack_128 : decode cX7_putBack 128 = .ok (.return_, 1) := by decide +kernel
theorem dX7_on_0 : decode cX7_on 0 = .ok (.aload_n 0, 1) := by decide +kernel
theorem dX7_on_1 : decode cX7_on 1 = .ok (.iload_n 2, 1) := by decide +kernel
theorem dX7_on_2 : decode cX7_on 2 = .ok (.iconst 0, 1) := by decide +kernel
theorem dX7_on_3 : decode cX7_on 3 = .ok (.iconst 2, 1) := by decide +kernel
theorem dX7_on_4 : decode cX7_on 4 = .ok (.invokevirtual 276, 3) := by decide +kernel
theorem dX7_on_7 : decode cX7_on 7 = .ok (.ifCond .ne 39, 3) := by decide +kernel
theorem dX7_on_10 : decode cX7_on 10 = .ok (.aload_n 0, 1) := by decide +kernel
theorem dX7_on_11 : decode cX7_on 11 = .ok (.iload_n 2, 1) := by decide +kernel
theorem dX7_on_12 : decode cX7_on 12 = .ok (.bipush 10, 2) := by decide +kernel
theorem dX7_on_14 : decode cX7_on 14 = .ok (.bipush 9, 2) := by decide +kernel
theorem dX7_on_16 : decode cX7_on 16 = .ok (.aload_n 0, 1) := by decide +kernel
theorem dX7_on_17 : decode cX7_on 17 = .ok (.getfield 7, 3) := by decide +kernel
theorem dX7_on_20 : decode cX7_on 20 = .ok (.iadd, 1) := by decide +kernel
theorem dX7_on_21 : decode cX7_on 21 = .ok (.invokevirtual 276, 3) := by decide +kernel
theorem dX7_on_24 : decode cX7_on 24 = .ok (.ifCond .ne 22, 3) := by decide +kernel
theorem dX7_on_27 : decode cX7_on 27 = .ok (.aload_n 0, 1) := by decide +kernel
theorem dX7_on_28 : decode cX7_on 28 = .ok (.iload_n 2, 1) := by decide +kernel
theorem dX7_on_29 : decode cX7_on 29 = .ok (.bipush 20, 2) := by decide +kernel
theorem dX7_on_31 : decode cX7_on 31 = .ok (.bipush 19, 2) := by decide +kernel
theorem dX7_on_33 : decode cX7_on 33 = .ok (.aload_n 0, 1) := by decide +kernel
theorem dX7_on_34 : decode cX7_on 34 = .ok (.getfield 7, 3) := by decide +kernel
theorem dX7_on_37 : decode cX7_on 37 = .ok (.iadd, 1) := by decide +kernel
theorem dX7_on_38 : decode cX7_on 38 = .ok (.invokevirtual 276, 3) := by decide +kernel
theorem dX7_on_41 : decode cX7_on 41 = .ok (.ifCond .ne 5, 3) := by decide +kernel
theorem dX7_on_44 : decode cX7_on 44 = .ok (.iconst (-1), 1) := by decide +kernel
theorem dX7_on_45 : decode cX7_on 45 = .ok (.ireturn, 1) := by decide +kernel
theorem dX7_on_46 : decode cX7_on 46 = .ok (.aload_n 0, 1) := by decide +kernel
theorem dX7_on_47 : decode cX7_on 47 = .ok (.iload_n 1, 1) := by decide +kernel
theorem dX7_on_48 : decode cX7_on 48 = .ok (.invokevirtual 395, 3) := by decide +kernel
theorem dX7_on_51 : decode cX7_on 51 = .ok (.ifCond .ne 6, 3) := by decide +kernel
theorem dX7_on_54 : decode cX7_on 54 = .ok (.bipush (-2), 2) := by decide +kernel
theorem dX7_on_56 : decode cX7_on 56 = .ok (.ireturn, 1) := by decide +kernel
theorem dX7_on_57 : decode cX7_on 57 = .ok (.aload_n 0, 1) := by decide +kernel
theorem dX7_on_58 : decode cX7_on 58 = .ok (.invokevirtual 402, 3) := by decide +kernel
theorem dX7_on_61 : decode cX7_on 61 = .ok (.aload_n 0, 1) := by decide +kernel
theorem dX7_on_62 : decode cX7_on 62 = .ok (.iload_n 1, 1) := by decide +kernel
theorem dX7_on_63 : decode cX7_on 63 = .ok (.invokevirtual 398, 3) := by decide +kernel
theorem dX7_on_66 : decode cX7_on 66 = .ok (.iload_n 2, 1) := by decide +kernel
theorem dX7_on_67 : decode cX7_on 67 = .ok (.ifCond .ne 15, 3) := by decide +kernel
theorem dX7_on_70 : decode cX7_on 70 = .ok (.aload_n 0, 1) := by decide +kernel
theorem dX7_on_71 : decode cX7_on 71 = .ok (.getfield 22, 3) := by decide +kernel
theorem dX7_on_74 : decode cX7_on 74 = .ok (.aload_n 0, 1) := by decide +kernel
theorem dX7_on_75 : decode cX7_on 75 = .ok (.getfield 124, 3) := by decide +kernel
theorem dX7_on_78 : decode cX7_on 78 = .ok (.isub, 1) := by decide +kernel
theorem dX7_on_79 : decode cX7_on 79 = .ok (.goto 54, 3) := by decide +kernel
theorem dX7_on_82 : decode cX7_on 82 = .ok (.iload_n 2, 1) := by decide +kernel
theorem dX7_on_83 : decode cX7_on 83 = .ok (.iconst 1, 1) := by decide +kernel
theorem dX7_on_84 : decode cX7_on 84 = .ok (.if_icmp .ne 10, 3) := by decide +kernel
theorem dX7_on_87 : decode cX7_on 87 = .ok (.aload_n 0, 1) := by decide +kernel
theorem dX7_on_88 : decode cX7_on 88 = .ok (.invokevirtual 371, 3) := by decide +kernel
theorem dX7_on_91 : decode cX7_on 91 = .ok (.goto 42, 3) := by decide +kernel
theorem dX7_on_94 : decode cX7_on 94 = .ok (.iload_n 2, 1) := by decide +kernel
theorem dX7_on_95 : decode cX7_on 95 = .ok (.iconst 2, 1) := by decide +kernel
theorem dX7_on_96 : decode cX7_on 96 = .ok (.if_icmp .ne 10, 3) := by decide +kernel
theorem dX7_on_99 : decode cX7_on 99 = .ok (.aload_n 0, 1) := by decide +kernel
theorem dX7_on_100 : decode cX7_on 100 = .ok (.getfield 13, 3) := by decide +kernel
theorem dX7_on_103 : decode cX7_on 103 = .ok (.goto 30, 3) := by decide +kernel
theorem dX7_on_106 : decode cX7_on 106 = .ok (.iload_n 2, 1) := by decide +kernel
theorem dX7_on_107 : decode cX7_on 107 = .ok (.bipush 20, 2) := by decide +kernel
theorem dX7_on_109 : decode cX7_on 109 = .ok (.if_icmp .ge 15, 3) := by decide +kernel
theorem dX7_on_112 : decode cX7_on 112 = .ok (.aload_n 0, 1) := by decide +kernel
theorem dX7_on_113 : decode cX7_on 113 = .ok (.getfield 35, 3) := by decide +kernel
theorem dX7_on_116 : decode cX7_on 116 = .ok (.iload_n 2, 1) := by decide +kernel
theorem dX7_on_117 : decode cX7_on 117 = .ok (.bipush 10, 2) := by decide +kernel
theorem dX7_on_119 : decode cX7_on 119 = .ok (.isub, 1) := by decide +kernel
theorem dX7_on_120 : decode cX7_on 120 = .ok (.iaload, 1) := by decide +kernel
theorem dX7_on_121 : decode cX7_on 121 = .ok (.goto 12, 3) := by decide +kernel
theorem dX7_on_124 : decode cX7_on 124 = .ok (.aload_n 0, 1) := by decide +kernel
theorem dX7_on_125 : decode cX7_on 125 = .ok (.getfield 38, 3) := by decide +kernel
theorem dX7_on_128 : decode cX7_on 128 = .ok (.iload_n 2, 1) := by decide +kernel
theorem dX7_on_129 : decode cX7_on 129 = .ok (.bipush 20, 2) := by decide +kernel
theorem dX7_on_131 : decode cX7_on 131 = .ok (.isub, 1) := by decide +kernel
theorem dX7_on_132 : decode cX7_on 132 = .ok (.iaload, 1) := by decide +kernel
theorem dX7_on_133 : decode cX7_on 133 = .ok (.istore_n 3, 1) := by decide +kernel
theorem dX7_on_134 : decode cX7_on 134 = .ok (.aload_n 0, 1) := by decide +kernel
theorem dX7_on_135 : decode cX7_on 135 = .ok (.invokevirtual 405, 3) := by decide +kernel
theorem dX7_on_138 : decode cX7_on 138 = .ok (.iload_n 3, 1) := by decide +kernel
theorem dX7_on_139 : decode cX7_on 139 = .ok (.ireturn, 1) := by decide +kernel
theorem dX7_firstThen_0 : decode cX7_firstThen 0 = .ok (.bipush (-5), 2) := by decide +kernel
theorem dX7_firstThen_2 : decode cX7_firstThen 2 = .ok (.istore_n 2, 1) := by decide +kernel
theorem dX7_firstThen_3 : decode cX7_firstThen 3 = .ok (.aload_n 0, 1) := by decide +kernel
theorem dX7_firstThen_4 : decode cX7_firstThen 4 = .ok (.bipush (-5), 2) := by decide +kernel
theorem dX7_firstThen_6 : decode cX7_firstThen 6 = .ok (.putfield 142, 3) := by decide +kernel
theorem dX7_firstThen_9 : decode cX7_firstThen 9 = .ok (.iconst 0, 1) := by decide +kernel
theorem dX7_firstThen_10 : decode cX7_firstThen 10 = .ok (.istore_n 3, 1) := by decide +kernel
theorem dX7_firstThen_11 : decode cX7_firstThen 11 = .ok (.iload_n 3, 1) := by decide +kernel
theorem dX7_firstThen_12 : decode cX7_firstThen 12 = .ok (.iload_n 1, 1) := by decide +kernel
theorem dX7_firstThen_13 : decode cX7_firstThen 13 = .ok (.if_icmp .ge 35, 3) := by decide +kernel
theorem dX7_firstThen_16 : decode cX7_firstThen 16 = .ok (.iload_n 2, 1) := by decide +kernel
theorem dX7_firstThen_17 : decode cX7_firstThen 17 = .ok (.ifCond .ge 31, 3) := by decide +kernel
theorem dX7_firstThen_20 : decode cX7_firstThen 20 = .ok (.aload_n 0, 1) := by decide +kernel
theorem dX7_firstThen_21 : decode cX7_firstThen 21 = .ok (.invokevirtual 392, 3) := by decide +kernel
theorem dX7_firstThen_24 : decode cX7_firstThen 24 = .ok (.istore 4, 2) := by decide +kernel
theorem dX7_firstThen_26 : decode cX7_firstThen 26 = .ok (.iload 4, 2) := by decide +kernel
theorem dX7_firstThen_28 : decode cX7_firstThen 28 = .ok (.ifCond .ge 6, 3) := by decide +kernel
theorem dX7_firstThen_31 : decode cX7_firstThen 31 = .ok (.goto 11, 3) := by decide +kernel
theorem dX7_firstThen_34 : decode cX7_firstThen 34 = .ok (.iload_n 3, 1) := by decide +kernel
theorem dX7_firstThen_35 : decode cX7_firstThen 35 = .ok (.istore_n 2, 1) := by decide +kernel
theorem dX7_firstThen_36 : decode cX7_firstThen 36 = .ok (.aload_n 0, 1) := by decide +kernel
theorem dX7_firstThen_37 : decode cX7_firstThen 37 = .ok (.iload 4, 2) := by decide +kernel
theorem dX7_firstThen_39 : decode cX7_firstThen 39 = .ok (.putfield 142, 3) := by decide +kernel
theorem dX7_firstThen_42 : decode cX7_firstThen 42 = .ok (.iinc 3 1, 3) := by decide +kernel
theorem dX7_firstThen_45 : decode cX7_firstThen 45 = .ok (.goto (-34), 3) := by decide +kernel
theorem dX7_firstThen_48 : decode cX7_firstThen 48 = .ok (.aload_n 0, 1) := by decide +kernel
theorem dX7_firstThen_49 : decode cX7_firstThen 49 = .ok (.invokevirtual 405, 3) := by decide +kernel
theorem dX7_firstThen_52 : decode cX7_firstThen 52 = .ok (.iload_n 2, 1) := by decide +kernel
theorem dX7_firstThen_53 : decode cX7_firstThen 53 = .ok (.ireturn, 1) := by decide +kernel
theorem dX7_first_0 : decode cX7_first 0 = .ok (.aload_n 0, 1) := by decide +kernel
theorem dX7_first_1 : decode cX7_first 1 = .ok (.iload_n 1, 1) := by decide +kernel
theorem dX7_first_2 : decode cX7_first 2 = .ok (.iconst 0, 1) := by decide +kernel
theorem dX7_first_3 : decode cX7_first 3 = .ok (.iconst 1, 1) := by decide +kernel
theorem dX7_first_4 : decode cX7_first 4 = .ok (.invokevirtual 276, 3) := by decide +kernel
theorem dX7_first_7 : decode cX7_first 7 = .ok (.ifCond .ne 5, 3) := by decide +kernel
theorem dX7_first_10 : decode cX7_first 10 = .ok (.iconst (-1), 1) := by decide +kernel
theorem dX7_first_11 : decode cX7_first 11 = .ok (.ireturn, 1) := by decide +kernel
theorem dX7_first_12 : decode cX7_first 12 = .ok (.aload_n 0, 1) := by decide +kernel
theorem dX7_first_13 : decode cX7_first 13 = .ok (.invokevirtual 402, 3) := by decide +kernel
theorem dX7_first_16 : decode cX7_first 16 = .ok (.aload_n 0, 1) := by decide +kernel
theorem dX7_first_17 : decode cX7_first 17 = .ok (.bipush 61, 2) := by decide +kernel
theorem dX7_first_19 : decode cX7_first 19 = .ok (.invokevirtual 408, 3) := by decide +kernel
theorem dX7_first_22 : decode cX7_first 22 = .ok (.istore_n 2, 1) := by decide +kernel
theorem dX7_first_23 : decode cX7_first 23 = .ok (.iload_n 1, 1) := by decide +kernel
theorem dX7_first_24 : decode cX7_first 24 = .ok (.ifCond .ne 7, 3) := by decide +kernel
theorem dX7_first_27 : decode cX7_first 27 = .ok (.iload_n 2, 1) := by decide +kernel
theorem dX7_first_28 : decode cX7_first 28 = .ok (.goto 7, 3) := by decide +kernel
theorem dX7_first_31 : decode cX7_first 31 = .ok (.aload_n 0, 1) := by decide +kernel
theorem dX7_first_32 : decode cX7_first 32 = .ok (.getfield 142, 3) := by decide +kernel
theorem dX7_first_35 : decode cX7_first 35 = .ok (.ireturn, 1) := by decide +kernel
theorem dX7_port_0 : decode cX7_port 0 = .ok (.aload_n 0, 1) := by decide +kernel
theorem dX7_port_1 : decode cX7_port 1 = .ok (.iload_n 1, 1) := by decide +kernel
theorem dX7_port_2 : decode cX7_port 2 = .ok (.iconst 0, 1) := by decide +kernel
theorem dX7_port_3 : decode cX7_port 3 = .ok (.sipush 9999, 3) := by decide +kernel
theorem dX7_port_6 : decode cX7_port 6 = .ok (.invokevirtual 276, 3) := by decide +kernel
theorem dX7_port_9 : decode cX7_port 9 = .ok (.ifCond .ne 6, 3) := by decide +kernel
theorem dX7_port_12 : decode cX7_port 12 = .ok (.bipush (-2), 2) := by decide +kernel
theorem dX7_port_14 : decode cX7_port 14 = .ok (.ireturn, 1) := by decide +kernel
theorem dX7_port_15 : decode cX7_port 15 = .ok (.aload_n 0, 1) := by decide +kernel
theorem dX7_port_16 : decode cX7_port 16 = .ok (.invokevirtual 402, 3) := by decide +kernel
theorem dX7_port_19 : decode cX7_port 19 = .ok (.iconst 0, 1) := by decide +kernel
theorem dX7_port_20 : decode cX7_port 20 = .ok (.istore_n 2, 1) := by decide +kernel
theorem dX7_port_21 : decode cX7_port 21 = .ok (.iload_n 2, 1) := by decide +kernel
theorem dX7_port_22 : decode cX7_port 22 = .ok (.bipush 100, 2) := by decide +kernel
theorem dX7_port_24 : decode cX7_port 24 = .ok (.if_icmp .ge 27, 3) := by decide +kernel
theorem dX7_port_27 : decode cX7_port 27 = .ok (.aload_n 0, 1) := by decide +kernel
theorem dX7_port_28 : decode cX7_port 28 = .ok (.getfield 22, 3) := by decide +kernel
theorem dX7_port_31 : decode cX7_port 31 = .ok (.aload_n 0, 1) := by decide +kernel
theorem dX7_port_32 : decode cX7_port 32 = .ok (.getfield 124, 3) := by decide +kernel
theorem dX7_port_35 : decode cX7_port 35 = .ok (.isub, 1) := by decide +kernel
theorem dX7_port_36 : decode cX7_port 36 = .ok (.iload_n 1, 1) := by decide +kernel
theorem dX7_port_37 : decode cX7_port 37 = .ok (.if_icmp .ge 14, 3) := by decide +kernel
theorem dX7_port_40 : decode cX7_port 40 = .ok (.aload_n 0, 1) := by decide +kernel
theorem dX7_port_41 : decode cX7_port 41 = .ok (.invokevirtual 392, 3) := by decide +kernel
theorem dX7_port_44 : decode cX7_port 44 = .ok (.pop, 1) := by decide +kernel
theorem dX7_port_45 : decode cX7_port 45 = .ok (.iinc 2 1, 3) := by decide +kernel
theorem dX7_port_48 : decode cX7_port 48 = .ok (.goto (-27), 3) := by decide +kernel
theorem dX7_port_51 : decode cX7_port 51 = .ok (.aload_n 0, 1) := by decide +kernel
theorem dX7_port_52 : decode cX7_port 52 = .ok (.invokevirtual 405, 3) := by decide +kernel
theorem dX7_port_55 : decode cX7_port 55 = .ok (.iload_n 2, 1) := by decide +kernel
theorem dX7_port_56 : decode cX7_port 56 = .ok (.bipush 100, 2) := by decide +kernel
theorem dX7_port_58 : decode cX7_port 58 = .ok (.if_icmp .ge 7, 3) := by decide +kernel
theorem dX7_port_61 : decode cX7_port 61 = .ok (.iload_n 2, 1) := by decide +kernel
theorem dX7_port_62 : decode cX7_port 62 = .ok (.goto 5, 3) := by decide +kernel
theorem dX7_port_65 : decode cX7_port 65 = .ok (.bipush (-5), 2) := by decide +kernel
theorem dX7_port_67 : decode cX7_port 67 = .ok (.ireturn, 1) := by decide +kernel
theorem dX7_wentThen_0 : decode cX7_wentThen 0 = .ok (.aload_n 0, 1) := by decide +kernel
theorem dX7_wentThen_1 : decode cX7_wentThen 1 = .ok (.iload_n 1, 1) := by decide +kernel
theorem dX7_wentThen_2 : decode cX7_wentThen 2 = .ok (.invokevirtual 398, 3) := by decide +kernel
theorem dX7_wentThen_5 : decode cX7_wentThen 5 = .ok (.aload_n 0, 1) := by decide +kernel
theorem dX7_wentThen_6 : decode cX7_wentThen 6 = .ok (.getfield 22, 3) := by decide +kernel
theorem dX7_wentThen_9 : decode cX7_wentThen 9 = .ok (.aload_n 0, 1) := by decide +kernel
theorem dX7_wentThen_10 : decode cX7_wentThen 10 = .ok (.getfield 124, 3) := by decide +kernel
theorem dX7_wentThen_13 : decode cX7_wentThen 13 = .ok (.isub, 1) := by decide +kernel
theorem dX7_wentThen_14 : decode cX7_wentThen 14 = .ok (.istore_n 2, 1) := by decide +kernel
theorem dX7_wentThen_15 : decode cX7_wentThen 15 = .ok (.aload_n 0, 1) := by decide +kernel
theorem dX7_wentThen_16 : decode cX7_wentThen 16 = .ok (.invokevirtual 405, 3) := by decide +kernel
theorem dX7_wentThen_19 : decode cX7_wentThen 19 = .ok (.iload_n 2, 1) := by decide +kernel
theorem dX7_wentThen_20 : decode cX7_wentThen 20 = .ok (.ireturn, 1) := by decide +kernel
theorem dX7_spread_0 : decode cX7_spread 0 = .ok (.iconst 0, 1) := by decide +kernel
theorem dX7_spread_1 : decode cX7_spread 1 = .ok (.istore_n 1, 1) := by decide +kernel
theorem dX7_spread_2 : decode cX7_spread 2 = .ok (.iconst (-1), 1) := by decide +kernel
theorem dX7_spread_3 : decode cX7_spread 3 = .ok (.istore_n 2, 1) := by decide +kernel
theorem dX7_spread_4 : decode cX7_spread 4 = .ok (.iconst 0, 1) := by decide +kernel
theorem dX7_spread_5 : decode cX7_spread 5 = .ok (.istore_n 3, 1) := by decide +kernel
theorem dX7_spread_6 : decode cX7_spread 6 = .ok (.iload_n 3, 1) := by decide +kernel
theorem dX7_spread_7 : decode cX7_spread 7 = .ok (.bipush 10, 2) := by decide +kernel
theorem dX7_spread_9 : decode cX7_spread 9 = .ok (.if_icmp .ge 40, 3) := by decide +kernel
theorem dX7_spread_12 : decode cX7_spread 12 = .ok (.aload_n 0, 1) := by decide +kernel
theorem dX7_spread_13 : decode cX7_spread 13 = .ok (.invokevirtual 402, 3) := by decide +kernel
theorem dX7_spread_16 : decode cX7_spread 16 = .ok (.aload_n 0, 1) := by decide +kernel
theorem dX7_spread_17 : decode cX7_spread 17 = .ok (.iload_n 3, 1) := by decide +kernel
theorem dX7_spread_18 : decode cX7_spread 18 = .ok (.putfield 16, 3) := by decide +kernel
theorem dX7_spread_21 : decode cX7_spread 21 = .ok (.aload_n 0, 1) := by decide +kernel
theorem dX7_spread_22 : decode cX7_spread 22 = .ok (.bipush 30, 2) := by decide +kernel
theorem dX7_spread_24 : decode cX7_spread 24 = .ok (.invokevirtual 411, 3) := by decide +kernel
theorem dX7_spread_27 : decode cX7_spread 27 = .ok (.istore 4, 2) := by decide +kernel
theorem dX7_spread_29 : decode cX7_spread 29 = .ok (.iload 4, 2) := by decide +kernel
theorem dX7_spread_31 : decode cX7_spread 31 = .ok (.iload_n 2, 1) := by decide +kernel
theorem dX7_spread_32 : decode cX7_spread 32 = .ok (.if_icmp .gt 6, 3) := by decide +kernel
theorem dX7_spread_35 : decode cX7_spread 35 = .ok (.goto 8, 3) := by decide +kernel
theorem dX7_spread_38 : decode cX7_spread 38 = .ok (.iload_n 3, 1) := by decide +kernel
theorem dX7_spread_39 : decode cX7_spread 39 = .ok (.istore_n 1, 1) := by decide +kernel
theorem dX7_spread_40 : decode cX7_spread 40 = .ok (.iload 4, 2) := by decide +kernel
theorem dX7_spread_42 : decode cX7_spread 42 = .ok (.istore_n 2, 1) := by decide +kernel
theorem dX7_spread_43 : decode cX7_spread 43 = .ok (.iinc 3 1, 3) := by decide +kernel
theorem dX7_spread_46 : decode cX7_spread 46 = .ok (.goto (-40), 3) := by decide +kernel
theorem dX7_spread_49 : decode cX7_spread 49 = .ok (.iload_n 1, 1) := by decide +kernel
theorem dX7_spread_50 : decode cX7_spread 50 = .ok (.ireturn, 1) := by decide +kernel
theorem dX7_fewest_0 : decode cX7_fewest 0 = .ok (.aload_n 0, 1) := by decide +kernel
theorem dX7_fewest_1 : decode cX7_fewest 1 = .ok (.iload_n 1, 1) := by decide +kernel
theorem dX7_fewest_2 : decode cX7_fewest 2 = .ok (.iconst 1, 1) := by decide +kernel
theorem dX7_fewest_3 : decode cX7_fewest 3 = .ok (.bipush 30, 2) := by decide +kernel
theorem dX7_fewest_5 : decode cX7_fewest 5 = .ok (.invokevirtual 276, 3) := by decide +kernel
theorem dX7_fewest_8 : decode cX7_fewest 8 = .ok (.ifCond .ne 6, 3) := by decide +kernel
theorem dX7_fewest_11 : decode cX7_fewest 11 = .ok (.bipush (-2), 2) := by decide +kernel
theorem dX7_fewest_13 : decode cX7_fewest 13 = .ok (.ireturn, 1) := by decide +kernel
theorem dX7_fewest_14 : decode cX7_fewest 14 = .ok (.iconst 0, 1) := by decide +kernel
theorem dX7_fewest_15 : decode cX7_fewest 15 = .ok (.istore_n 2, 1) := by decide +kernel
theorem dX7_fewest_16 : decode cX7_fewest 16 = .ok (.iload_n 2, 1) := by decide +kernel
theorem dX7_fewest_17 : decode cX7_fewest 17 = .ok (.bipush 10, 2) := by decide +kernel
theorem dX7_fewest_19 : decode cX7_fewest 19 = .ok (.if_icmp .ge 28, 3) := by decide +kernel
theorem dX7_fewest_22 : decode cX7_fewest 22 = .ok (.aload_n 0, 1) := by decide +kernel
theorem dX7_fewest_23 : decode cX7_fewest 23 = .ok (.invokevirtual 402, 3) := by decide +kernel
theorem dX7_fewest_26 : decode cX7_fewest 26 = .ok (.aload_n 0, 1) := by decide +kernel
theorem dX7_fewest_27 : decode cX7_fewest 27 = .ok (.iload_n 2, 1) := by decide +kernel
theorem dX7_fewest_28 : decode cX7_fewest 28 = .ok (.putfield 19, 3) := by decide +kernel
theorem dX7_fewest_31 : decode cX7_fewest 31 = .ok (.aload_n 0, 1) := by decide +kernel
theorem dX7_fewest_32 : decode cX7_fewest 32 = .ok (.iload_n 1, 1) := by decide +kernel
theorem dX7_fewest_33 : decode cX7_fewest 33 = .ok (.invokevirtual 408, 3) := by decide +kernel
theorem dX7_fewest_36 : decode cX7_fewest 36 = .ok (.ifCond .ge 5, 3) := by decide +kernel
theorem dX7_fewest_39 : decode cX7_fewest 39 = .ok (.iload_n 2, 1) := by decide +kernel
theorem dX7_fewest_40 : decode cX7_fewest 40 = .ok (.ireturn, 1) := by decide +kernel
theorem dX7_fewest_41 : decode cX7_fewest 41 = .ok (.iinc 2 1, 3) := by decide +kernel
theorem dX7_fewest_44 : decode cX7_fewest 44 = .ok (.goto (-28), 3) := by decide +kernel
theorem dX7_fewest_47 : decode cX7_fewest 47 = .ok (.bipush (-5), 2) := by decide +kernel
theorem dX7_fewest_49 : decode cX7_fewest 49 = .ok (.ireturn, 1) := by decide +kernel
theorem dX7_tries_0 : decode cX7_tries 0 = .ok (.aload_n 0, 1) := by decide +kernel
theorem dX7_tries_1 : decode cX7_tries 1 = .ok (.invokevirtual 402, 3) := by decide +kernel
theorem dX7_tries_4 : decode cX7_tries 4 = .ok (.aload_n 0, 1) := by decide +kernel
theorem dX7_tries_5 : decode cX7_tries 5 = .ok (.iload_n 2, 1) := by decide +kernel
theorem dX7_tries_6 : decode cX7_tries 6 = .ok (.putfield 13, 3) := by decide +kernel
theorem dX7_tries_9 : decode cX7_tries 9 = .ok (.aload_n 0, 1) := by decide +kernel
theorem dX7_tries_10 : decode cX7_tries 10 = .ok (.getfield 47, 3) := by decide +kernel
theorem dX7_tries_13 : decode cX7_tries 13 = .ok (.iconst 0, 1) := by decide +kernel
theorem dX7_tries_14 : decode cX7_tries 14 = .ok (.iload_n 3, 1) := by decide +kernel
theorem dX7_tries_15 : decode cX7_tries 15 = .ok (.iastore, 1) := by decide +kernel
theorem dX7_tries_16 : decode cX7_tries 16 = .ok (.aload_n 0, 1) := by decide +kernel
theorem dX7_tries_17 : decode cX7_tries 17 = .ok (.getfield 47, 3) := by decide +kernel
theorem dX7_tries_20 : decode cX7_tries 20 = .ok (.iconst 1, 1) := by decide +kernel
theorem dX7_tries_21 : decode cX7_tries 21 = .ok (.iload 4, 2) := by decide +kernel
theorem dX7_tries_23 : decode cX7_tries 23 = .ok (.iastore, 1) := by decide +kernel
theorem dX7_tries_24 : decode cX7_tries 24 = .ok (.aload_n 0, 1) := by decide +kernel
theorem dX7_tries_25 : decode cX7_tries 25 = .ok (.getfield 47, 3) := by decide +kernel
theorem dX7_tries_28 : decode cX7_tries 28 = .ok (.iconst 2, 1) := by decide +kernel
theorem dX7_tries_29 : decode cX7_tries 29 = .ok (.iload 5, 2) := by decide +kernel
theorem dX7_tries_31 : decode cX7_tries 31 = .ok (.iastore, 1) := by decide +kernel
theorem dX7_tries_32 : decode cX7_tries 32 = .ok (.iload_n 1, 1) := by decide +kernel
theorem dX7_tries_33 : decode cX7_tries 33 = .ok (.ifCond .eq 10, 3) := by decide +kernel
theorem dX7_tries_36 : decode cX7_tries 36 = .ok (.aload_n 0, 1) := by decide +kernel
theorem dX7_tries_37 : decode cX7_tries 37 = .ok (.invokevirtual 386, 3) := by decide +kernel
theorem dX7_tries_40 : decode cX7_tries 40 = .ok (.ifCond .ge 7, 3) := by decide +kernel
theorem dX7_tries_43 : decode cX7_tries 43 = .ok (.iconst 1, 1) := by decide +kernel
theorem dX7_tries_44 : decode cX7_tries 44 = .ok (.goto 4, 3) := by decide +kernel
theorem dX7_tries_47 : decode cX7_tries 47 = .ok (.iconst 0, 1) := by decide +kernel
theorem dX7_tries_48 : decode cX7_tries 48 = .ok (.istore 6, 2) := by decide +kernel
theorem dX7_tries_50 : decode cX7_tries 50 = .ok (.iload_n 1, 1) := by decide +kernel
theorem dX7_tries_51 : decode cX7_tries 51 = .ok (.ifCond .ne 12, 3) := by decide +kernel
theorem dX7_tries_54 : decode cX7_tries 54 = .ok (.aload_n 0, 1) := by decide +kernel
theorem dX7_tries_55 : decode cX7_tries 55 = .ok (.bipush 10, 2) := by decide +kernel
theorem dX7_tries_57 : decode cX7_tries 57 = .ok (.invokevirtual 411, 3) := by decide +kernel
theorem dX7_tries_60 : decode cX7_tries 60 = .ok (.goto 7, 3) := by decide +kernel
theorem dX7_tries_63 : decode cX7_tries 63 = .ok (.aload_n 0, 1) := by decide +kernel
theorem dX7_tries_64 : decode cX7_tries 64 = .ok (.invokevirtual 371, 3) := by decide +kernel
theorem dX7_tries_67 : decode cX7_tries 67 = .ok (.istore 7, 2) := by decide +kernel
theorem dX7_tries_69 : decode cX7_tries 69 = .ok (.iload_n 1, 1) := by decide +kernel
theorem dX7_tries_70 : decode cX7_tries 70 = .ok (.iconst 1, 1) := by decide +kernel
theorem dX7_tries_71 : decode cX7_tries 71 = .ok (.if_icmp .ne 7, 3) := by decide +kernel
theorem dX7_tries_74 : decode cX7_tries 74 = .ok (.aload_n 0, 1) := by decide +kernel
theorem dX7_tries_75 : decode cX7_tries 75 = .ok (.invokevirtual 405, 3) := by decide +kernel
theorem dX7_tries_78 : decode cX7_tries 78 = .ok (.iload 6, 2) := by decide +kernel
theorem dX7_tries_80 : decode cX7_tries 80 = .ok (.ifCond .eq 19, 3) := by decide +kernel
theorem dX7_tries_83 : decode cX7_tries 83 = .ok (.aload_n 0, 1) := by decide +kernel
theorem dX7_tries_84 : decode cX7_tries 84 = .ok (.getfield 148, 3) := by decide +kernel
theorem dX7_tries_87 : decode cX7_tries 87 = .ok (.ifCond .le 13, 3) := by decide +kernel
theorem dX7_tries_90 : decode cX7_tries 90 = .ok (.iload 7, 2) := by decide +kernel
theorem dX7_tries_92 : decode cX7_tries 92 = .ok (.aload_n 0, 1) := by decide +kernel
theorem dX7_tries_93 : decode cX7_tries 93 = .ok (.getfield 151, 3) := by decide +kernel
theorem dX7_tries_96 : decode cX7_tries 96 = .ok (.if_icmp .gt 4, 3) := by decide +kernel
theorem dX7_tries_99 : decode cX7_tries 99 = .ok (.return_, 1) := by decide +kernel
theorem dX7_tries_100 : decode cX7_tries 100 = .ok (.aload_n 0, 1) := by decide +kernel
theorem dX7_tries_101 : decode cX7_tries 101 = .ok (.iload_n 2, 1) := by decide +kernel
theorem dX7_tries_102 : decode cX7_tries 102 = .ok (.putfield 148, 3) := by decide +kernel
theorem dX7_tries_105 : decode cX7_tries 105 = .ok (.aload_n 0, 1) := by decide +kernel
theorem dX7_tries_106 : decode cX7_tries 106 = .ok (.iload 7, 2) := by decide +kernel
theorem dX7_tries_108 : decode cX7_tries 108 = .ok (.putfield 151, 3) := by decide +kernel
theorem dX7_tries_111 : decode cX7_tries 111 = .ok (.aload_n 0, 1) := by decide +kernel
theorem dX7_tries_112 : decode cX7_tries 112 = .ok (.getfield 145, 3) := by decide +kernel
theorem dX7_tries_115 : decode cX7_tries 115 = .ok (.iconst 0, 1) := by decide +kernel
theorem dX7_tries_116 : decode cX7_tries 116 = .ok (.iload_n 3, 1) := by decide +kernel
theorem dX7_tries_117 : decode cX7_tries 117 = .ok (.iastore, 1) := by decide +kernel
theorem dX7_tries_118 : decode cX7_tries 118 = .ok (.aload_n 0, 1) := by decide +kernel
theorem dX7_tries_119 : decode cX7_tries 119 = .ok (.getfield 145, 3) := by decide +kernel
theorem dX7_tries_122 : decode cX7_tries 122 = .ok (.iconst 1, 1) := by decide +kernel
theorem dX7_tries_123 : decode cX7_tries 123 = .ok (.iload 4, 2) := by decide +kernel
theorem dX7_tries_125 : decode cX7_tries 125 = .ok (.iastore, 1) := by decide +kernel
theorem dX7_tries_126 : decode cX7_tries 126 = .ok (.aload_n 0, 1) := by decide +kernel
theorem dX7_tries_127 : decode cX7_tries 127 = .ok (.getfield 145, 3) := by decide +kernel
theorem dX7_tries_130 : decode cX7_tries 130 = .ok (.iconst 2, 1) := by decide +kernel
theorem dX7_tries_131 : decode cX7_tries 131 = .ok (.iload 5, 2) := by decide +kernel
theorem dX7_tries_133 : decode cX7_tries 133 = .ok (.iastore, 1) := by decide +kernel
theorem dX7_tries_134 : decode cX7_tries 134 = .ok (.return_, 1) := by decide +kernel
theorem dX7_layBest_0 : decode cX7_layBest 0 = .ok (.aload_n 0, 1) := by decide +kernel
theorem dX7_layBest_1 : decode cX7_layBest 1 = .ok (.iconst 0, 1) := by decide +kernel
theorem dX7_layBest_2 : decode cX7_layBest 2 = .ok (.putfield 148, 3) := by decide +kernel
theorem dX7_layBest_5 : decode cX7_layBest 5 = .ok (.iconst 0, 1) := by decide +kernel
theorem dX7_layBest_6 : decode cX7_layBest 6 = .ok (.istore_n 2, 1) := by decide +kernel
theorem dX7_layBest_7 : decode cX7_layBest 7 = .ok (.iload_n 2, 1) := by decide +kernel
theorem dX7_layBest_8 : decode cX7_layBest 8 = .ok (.aload_n 0, 1) := by decide +kernel
theorem dX7_layBest_9 : decode cX7_layBest 9 = .ok (.getfield 7, 3) := by decide +kernel
theorem dX7_layBest_12 : decode cX7_layBest 12 = .ok (.if_icmp .ge 91, 3) := by decide +kernel
theorem dX7_layBest_15 : decode cX7_layBest 15 = .ok (.aload_n 0, 1) := by decide +kernel
theorem dX7_layBest_16 : decode cX7_layBest 16 = .ok (.iload_n 1, 1) := by decide +kernel
theorem dX7_layBest_17 : decode cX7_layBest 17 = .ok (.iconst 1, 1) := by decide +kernel
theorem dX7_layBest_18 : decode cX7_layBest 18 = .ok (.iload_n 2, 1) := by decide +kernel
theorem dX7_layBest_19 : decode cX7_layBest 19 = .ok (.iconst 0, 1) := by decide +kernel
theorem dX7_layBest_20 : decode cX7_layBest 20 = .ok (.iconst 0, 1) := by decide +kernel
theorem dX7_layBest_21 : decode cX7_layBest 21 = .ok (.invokevirtual 414, 3) := by decide +kernel
theorem dX7_layBest_24 : decode cX7_layBest 24 = .ok (.iconst 0, 1) := by decide +kernel
theorem dX7_layBest_25 : decode cX7_layBest 25 = .ok (.istore_n 3, 1) := by decide +kernel
theorem dX7_layBest_26 : decode cX7_layBest 26 = .ok (.iload_n 3, 1) := by decide +kernel
theorem dX7_layBest_27 : decode cX7_layBest 27 = .ok (.aload_n 0, 1) := by decide +kernel
theorem dX7_layBest_28 : decode cX7_layBest 28 = .ok (.getfield 7, 3) := by decide +kernel
theorem dX7_layBest_31 : decode cX7_layBest 31 = .ok (.if_icmp .ge 66, 3) := by decide +kernel
theorem dX7_layBest_34 : decode cX7_layBest 34 = .ok (.iload_n 3, 1) := by decide +kernel
theorem dX7_layBest_35 : decode cX7_layBest 35 = .ok (.iload_n 2, 1) := by decide +kernel
theorem dX7_layBest_36 : decode cX7_layBest 36 = .ok (.if_icmp .ne 6, 3) := by decide +kernel
theorem dX7_layBest_39 : decode cX7_layBest 39 = .ok (.goto 52, 3) := by decide +kernel
theorem dX7_layBest_42 : decode cX7_layBest 42 = .ok (.aload_n 0, 1) := by decide +kernel
theorem dX7_layBest_43 : decode cX7_layBest 43 = .ok (.iload_n 1, 1) := by decide +kernel
theorem dX7_layBest_44 : decode cX7_layBest 44 = .ok (.iconst 2, 1) := by decide +kernel
theorem dX7_layBest_45 : decode cX7_layBest 45 = .ok (.iload_n 2, 1) := by decide +kernel
theorem dX7_layBest_46 : decode cX7_layBest 46 = .ok (.iload_n 3, 1) := by decide +kernel
theorem dX7_layBest_47 : decode cX7_layBest 47 = .ok (.iconst 0, 1) := by decide +kernel
theorem dX7_layBest_48 : decode cX7_layBest 48 = .ok (.invokevirtual 414, 3) := by decide +kernel
theorem dX7_layBest_51 : decode cX7_layBest 51 = .ok (.iconst 0, 1) := by decide +kernel
theorem dX7_layBest_52 : decode cX7_layBest 52 = .ok (.istore 4, 2) := by decide +kernel
theorem dX7_layBest_54 : decode cX7_layBest 54 = .ok (.iload 4, 2) := by decide +kernel
theorem dX7_layBest_56 : decode cX7_layBest 56 = .ok (.aload_n 0, 1) := by decide +kernel
theorem dX7_layBest_57 : decode cX7_layBest 57 = .ok (.getfield 7, 3) := by decide +kernel
theorem dX7_layBest_60 : decode cX7_layBest 60 = .ok (.if_icmp .ge 31, 3) := by decide +kernel
theorem dX7_layBest_63 : decode cX7_layBest 63 = .ok (.iload 4, 2) := by decide +kernel
theorem dX7_layBest_65 : decode cX7_layBest 65 = .ok (.iload_n 2, 1) := by decide +kernel
theorem dX7_layBest_66 : decode cX7_layBest 66 = .ok (.if_icmp .eq 19, 3) := by decide +kernel
theorem dX7_layBest_69 : decode cX7_layBest 69 = .ok (.iload 4, 2) := by decide +kernel
theorem dX7_layBest_71 : decode cX7_layBest 71 = .ok (.iload_n 3, 1) := by decide +kernel
theorem dX7_layBest_72 : decode cX7_layBest 72 = .ok (.if_icmp .eq 13, 3) := by decide +kernel
theorem dX7_layBest_75 : decode cX7_layBest 75 = .ok (.aload_n 0, 1) := by decide +kernel
theorem dX7_layBest_76 : decode cX7_layBest 76 = .ok (.iload_n 1, 1) := by decide +kernel
theorem dX7_layBest_77 : decode cX7_layBest 77 = .ok (.iconst 3, 1) := by decide +kernel
theorem dX7_layBest_78 : decode cX7_layBest 78 = .ok (.iload_n 2, 1) := by decide +kernel
theorem dX7_layBest_79 : decode cX7_layBest 79 = .ok (.iload_n 3, 1) := by decide +kernel
theorem dX7_layBest_80 : decode cX7_layBest 80 = .ok (.iload 4, 2) := by decide +kernel
theorem dX7_layBest_82 : decode cX7_layBest 82 = .ok (.invokevirtual 414, 3) := by decide +kernel
theorem dX7_layBest_85 : decode cX7_layBest 85 = .ok (.iinc 4 1, 3) := by decide +kernel
theorem dX7_layBest_88 : decode cX7_layBest 88 = .ok (.goto (-34), 3) := by decide +kernel
theorem dX7_layBest_91 : decode cX7_layBest 91 = .ok (.iinc 3 1, 3) := by decide +kernel
theorem dX7_layBest_94 : decode cX7_layBest 94 = .ok (.goto (-68), 3) := by decide +kernel
theorem dX7_layBest_97 : decode cX7_layBest 97 = .ok (.iinc 2 1, 3) := by decide +kernel
theorem dX7_layBest_100 : decode cX7_layBest 100 = .ok (.goto (-93), 3) := by decide +kernel
theorem dX7_layBest_103 : decode cX7_layBest 103 = .ok (.return_, 1) := by decide +kernel
theorem dX7_best_0 : decode cX7_best 0 = .ok (.aload_n 0, 1) := by decide +kernel
theorem dX7_best_1 : decode cX7_best 1 = .ok (.iload_n 1, 1) := by decide +kernel
theorem dX7_best_2 : decode cX7_best 2 = .ok (.iconst 0, 1) := by decide +kernel
theorem dX7_best_3 : decode cX7_best 3 = .ok (.iconst 1, 1) := by decide +kernel
theorem dX7_best_4 : decode cX7_best 4 = .ok (.invokevirtual 276, 3) := by decide +kernel
theorem dX7_best_7 : decode cX7_best 7 = .ok (.ifCond .eq 13, 3) := by decide +kernel
theorem dX7_best_10 : decode cX7_best 10 = .ok (.aload_n 0, 1) := by decide +kernel
theorem dX7_best_11 : decode cX7_best 11 = .ok (.iload_n 2, 1) := by decide +kernel
theorem dX7_best_12 : decode cX7_best 12 = .ok (.iconst 0, 1) := by decide +kernel
theorem dX7_best_13 : decode cX7_best 13 = .ok (.iconst 3, 1) := by decide +kernel
theorem dX7_best_14 : decode cX7_best 14 = .ok (.invokevirtual 276, 3) := by decide +kernel
theorem dX7_best_17 : decode cX7_best 17 = .ok (.ifCond .ne 5, 3) := by decide +kernel
theorem dX7_best_20 : decode cX7_best 20 = .ok (.iconst (-1), 1) := by decide +kernel
theorem dX7_best_21 : decode cX7_best 21 = .ok (.ireturn, 1) := by decide +kernel
theorem dX7_best_22 : decode cX7_best 22 = .ok (.aload_n 0, 1) := by decide +kernel
theorem dX7_best_23 : decode cX7_best 23 = .ok (.iload_n 1, 1) := by decide +kernel
theorem dX7_best_24 : decode cX7_best 24 = .ok (.invokevirtual 418, 3) := by decide +kernel
theorem dX7_best_27 : decode cX7_best 27 = .ok (.iload_n 2, 1) := by decide +kernel
theorem dX7_best_28 : decode cX7_best 28 = .ok (.iconst 3, 1) := by decide +kernel
theorem dX7_best_29 : decode cX7_best 29 = .ok (.if_icmp .ne 20, 3) := by decide +kernel
theorem dX7_best_32 : decode cX7_best 32 = .ok (.aload_n 0, 1) := by decide +kernel
theorem dX7_best_33 : decode cX7_best 33 = .ok (.getfield 148, 3) := by decide +kernel
theorem dX7_best_36 : decode cX7_best 36 = .ok (.ifCond .ne 8, 3) := by decide +kernel
theorem dX7_best_39 : decode cX7_best 39 = .ok (.bipush (-5), 2) := by decide +kernel
theorem dX7_best_41 : decode cX7_best 41 = .ok (.goto 7, 3) := by decide +kernel
theorem dX7_best_44 : decode cX7_best 44 = .ok (.aload_n 0, 1) := by decide +kernel
theorem dX7_best_45 : decode cX7_best 45 = .ok (.getfield 151, 3) := by decide +kernel
theorem dX7_best_48 : decode cX7_best 48 = .ok (.ireturn, 1) := by decide +kernel
theorem dX7_best_49 : decode cX7_best 49 = .ok (.iload_n 2, 1) := by decide +kernel
theorem dX7_best_50 : decode cX7_best 50 = .ok (.aload_n 0, 1) := by decide +kernel
theorem dX7_best_51 : decode cX7_best 51 = .ok (.getfield 148, 3) := by decide +kernel
theorem dX7_best_54 : decode cX7_best 54 = .ok (.if_icmp .ge 12, 3) := by decide +kernel
theorem dX7_best_57 : decode cX7_best 57 = .ok (.aload_n 0, 1) := by decide +kernel
theorem dX7_best_58 : decode cX7_best 58 = .ok (.getfield 145, 3) := by decide +kernel
theorem dX7_best_61 : decode cX7_best 61 = .ok (.iload_n 2, 1) := by decide +kernel
theorem dX7_best_62 : decode cX7_best 62 = .ok (.iaload, 1) := by decide +kernel
theorem dX7_best_63 : decode cX7_best 63 = .ok (.goto 5, 3) := by decide +kernel
theorem dX7_best_66 : decode cX7_best 66 = .ok (.bipush (-5), 2) := by decide +kernel
theorem dX7_best_68 : decode cX7_best 68 = .ok (.ireturn, 1) := by decide +kernel
theorem dX7_layOrder_0 : decode cX7_layOrder 0 = .ok (.iload_n 1, 1) := by decide +kernel
theorem dX7_layOrder_1 : decode cX7_layOrder 1 = .ok (.istore_n 2, 1) := by decide +kernel
theorem dX7_layOrder_2 : decode cX7_layOrder 2 = .ok (.aload_n 0, 1) := by decide +kernel
theorem dX7_layOrder_3 : decode cX7_layOrder 3 = .ok (.getfield 115, 3) := by decide +kernel
theorem dX7_layOrder_6 : decode cX7_layOrder 6 = .ok (.iconst 1, 1) := by decide +kernel
theorem dX7_layOrder_7 : decode cX7_layOrder 7 = .ok (.isub, 1) := by decide +kernel
theorem dX7_layOrder_8 : decode cX7_layOrder 8 = .ok (.istore_n 3, 1) := by decide +kernel
theorem dX7_layOrder_9 : decode cX7_layOrder 9 = .ok (.iload_n 3, 1) := by decide +kernel
theorem dX7_layOrder_10 : decode cX7_layOrder 10 = .ok (.ifCond .lt 24, 3) := by decide +kernel
theorem dX7_layOrder_13 : decode cX7_layOrder 13 = .ok (.aload_n 0, 1) := by decide +kernel
theorem dX7_layOrder_14 : decode cX7_layOrder 14 = .ok (.getfield 47, 3) := by decide +kernel
theorem dX7_layOrder_17 : decode cX7_layOrder 17 = .ok (.iload_n 3, 1) := by decide +kernel
theorem dX7_layOrder_18 : decode cX7_layOrder 18 = .ok (.iload_n 2, 1) := by decide +kernel
theorem dX7_layOrder_19 : decode cX7_layOrder 19 = .ok (.bipush 6, 2) := by decide +kernel
theorem dX7_layOrder_21 : decode cX7_layOrder 21 = .ok (.irem, 1) := by decide +kernel
theorem dX7_layOrder_22 : decode cX7_layOrder 22 = .ok (.iastore, 1) := by decide +kernel
theorem dX7_layOrder_23 : decode cX7_layOrder 23 = .ok (.iload_n 2, 1) := by decide +kernel
theorem dX7_layOrder_24 : decode cX7_layOrder 24 = .ok (.bipush 6, 2) := by decide +kernel
theorem dX7_layOrder_26 : decode cX7_layOrder 26 = .ok (.idiv, 1) := by decide +kernel
theorem dX7_layOrder_27 : decode cX7_layOrder 27 = .ok (.istore_n 2, 1) := by decide +kernel
theorem dX7_layOrder_28 : decode cX7_layOrder 28 = .ok (.iinc 3 (-1), 3) := by decide +kernel
theorem dX7_layOrder_31 : decode cX7_layOrder 31 = .ok (.goto (-22), 3) := by decide +kernel
theorem dX7_layOrder_34 : decode cX7_layOrder 34 = .ok (.iconst 0, 1) := by decide +kernel
theorem dX7_layOrder_35 : decode cX7_layOrder 35 = .ok (.istore_n 3, 1) := by decide +kernel
theorem dX7_layOrder_36 : decode cX7_layOrder 36 = .ok (.iload_n 3, 1) := by decide +kernel
theorem dX7_layOrder_37 : decode cX7_layOrder 37 = .ok (.aload_n 0, 1) := by decide +kernel
theorem dX7_layOrder_38 : decode cX7_layOrder 38 = .ok (.getfield 115, 3) := by decide +kernel
theorem dX7_layOrder_41 : decode cX7_layOrder 41 = .ok (.if_icmp .ge 108, 3) := by decide +kernel
theorem dX7_layOrder_44 : decode cX7_layOrder 44 = .ok (.iconst 0, 1) := by decide +kernel
theorem dX7_layOrder_45 : decode cX7_layOrder 45 = .ok (.istore 4, 2) := by decide +kernel
theorem dX7_layOrder_47 : decode cX7_layOrder 47 = .ok (.iconst 0, 1) := by decide +kernel
theorem dX7_layOrder_48 : decode cX7_layOrder 48 = .ok (.istore 5, 2) := by decide +kernel
theorem dX7_layOrder_50 : decode cX7_layOrder 50 = .ok (.iload 5, 2) := by decide +kernel
theorem dX7_layOrder_52 : decode cX7_layOrder 52 = .ok (.aload_n 0, 1) := by decide +kernel
theorem dX7_layOrder_53 : decode cX7_layOrder 53 = .ok (.getfield 115, 3) := by decide +kernel
theorem dX7_layOrder_56 : decode cX7_layOrder 56 = .ok (.if_icmp .ge 37, 3) := by decide +kernel
theorem dX7_layOrder_59 : decode cX7_layOrder 59 = .ok (.iload 4, 2) := by decide +kernel
theorem dX7_layOrder_61 : decode cX7_layOrder 61 = .ok (.ifCond .ne 19, 3) := by decide +kernel
theorem dX7_layOrder_64 : decode cX7_layOrder 64 = .ok (.aload_n 0, 1) := by decide +kernel
theorem dX7_layOrder_65 : decode cX7_layOrder 65 = .ok (.getfield 139, 3) := by decide +kernel
theorem dX7_layOrder_68 : decode cX7_layOrder 68 = .ok (.iload 5, 2) := by decide +kernel
theorem dX7_layOrder_70 : decode cX7_layOrder 70 = .ok (.iaload, 1) := by decide +kernel
theorem dX7_layOrder_71 : decode cX7_layOrder 71 = .ok (.aload_n 0, 1) := by decide +kernel
theorem dX7_layOrder_72 : decode cX7_layOrder 72 = .ok (.getfield 47, 3) := by decide +kernel
theorem dX7_layOrder_75 : decode cX7_layOrder 75 = .ok (.iload_n 3, 1) := by decide +kernel
theorem dX7_layOrder_76 : decode cX7_layOrder 76 = .ok (.iaload, 1) := by decide +kernel
theorem dX7_layOrder_77 : decode cX7_layOrder 77 = .ok (.if_icmp .ne 7, 3) := by decide +kernel
theorem dX7_layOrder_80 : decode cX7_layOrder 80 = .ok (.iconst 1, 1) := by decide +kernel
theorem dX7_layOrder_81 : decode cX7_layOrder 81 = .ok (.goto 4, 3) := by decide +kernel
theorem dX7_layOrder_84 : decode cX7_layOrder 84 = .ok (.iconst 0, 1) := by decide +kernel
theorem dX7_layOrder_85 : decode cX7_layOrder 85 = .ok (.istore 4, 2) := by decide +kernel
theorem dX7_layOrder_87 : decode cX7_layOrder 87 = .ok (.iinc 5 1, 3) := by decide +kernel
theorem dX7_layOrder_90 : decode cX7_layOrder 90 = .ok (.goto (-40), 3) := by decide +kernel
theorem dX7_layOrder_93 : decode cX7_layOrder 93 = .ok (.iconst 0, 1) := by decide +kernel
theorem dX7_layOrder_94 : decode cX7_layOrder 94 = .ok (.istore 5, 2) := by decide +kernel
theorem dX7_layOrder_96 : decode cX7_layOrder 96 = .ok (.iload 5, 2) := by decide +kernel
theorem dX7_layOrder_98 : decode cX7_layOrder 98 = .ok (.iload_n 3, 1) := by decide +kernel
theorem dX7_layOrder_99 : decode cX7_layOrder 99 = .ok (.if_icmp .ge 37, 3) := by decide +kernel
theorem dX7_layOrder_102 : decode cX7_layOrder 102 = .ok (.iload 4, 2) := by decide +kernel
theorem dX7_layOrder_104 : decode cX7_layOrder 104 = .ok (.ifCond .eq 23, 3) := by decide +kernel
theorem dX7_layOrder_107 : decode cX7_layOrder 107 = .ok (.aload_n 0, 1) := by decide +kernel
theorem dX7_layOrder_108 : decode cX7_layOrder 108 = .ok (.getfield 47, 3) := by decide +kernel
theorem dX7_layOrder_111 : decode cX7_layOrder 111 = .ok (.iload 5, 2) := by decide +kernel
theorem dX7_layOrder_113 : decode cX7_layOrder 113 = .ok (.iaload, 1) := by decide +kernel
theorem dX7_layOrder_114 : decode cX7_layOrder 114 = .ok (.aload_n 0, 1) := by decide +kernel
theorem dX7_layOrder_115 : decode cX7_layOrder 115 = .ok (.getfield 47, 3) := by decide +kernel
theorem dX7_layOrder_118 : decode cX7_layOrder 118 = .ok (.iload_n 3, 1) := by decide +kernel
theorem dX7_layOrder_119 : decode cX7_layOrder 119 = .ok (.iaload, 1) := by decide +kernel
theorem dX7_layOrder_120 : decode cX7_layOrder 120 = .ok (.if_icmp .eq 7, 3) := by decide +kernel
theorem dX7_layOrder_123 : decode cX7_layOrder 123 = .ok (.iconst 1, 1) := by decide +kernel
theorem dX7_layOrder_124 : decode cX7_layOrder 124 = .ok (.goto 4, 3) := by decide +kernel
theorem dX7_layOrder_127 : decode cX7_layOrder 127 = .ok (.iconst 0, 1) := by decide +kernel
theorem dX7_layOrder_128 : decode cX7_layOrder 128 = .ok (.istore 4, 2) := by decide +kernel
theorem dX7_layOrder_130 : decode cX7_layOrder 130 = .ok (.iinc 5 1, 3) := by decide +kernel
theorem dX7_layOrder_133 : decode cX7_layOrder 133 = .ok (.goto (-37), 3) := by decide +kernel
theorem dX7_layOrder_136 : decode cX7_layOrder 136 = .ok (.iload 4, 2) := by decide +kernel
theorem dX7_layOrder_138 : decode cX7_layOrder 138 = .ok (.ifCond .ne 5, 3) := by decide +kernel
theorem dX7_layOrder_141 : decode cX7_layOrder 141 = .ok (.iconst 0, 1) := by decide +kernel
theorem dX7_layOrder_142 : decode cX7_layOrder 142 = .ok (.ireturn, 1) := by decide +kernel
theorem dX7_layOrder_143 : decode cX7_layOrder 143 = .ok (.iinc 3 1, 3) := by decide +kernel
theorem dX7_layOrder_146 : decode cX7_layOrder 146 = .ok (.goto (-110), 3) := by decide +kernel
theorem dX7_layOrder_149 : decode cX7_layOrder 149 = .ok (.iconst 1, 1) := by decide +kernel
theorem dX7_layOrder_150 : decode cX7_layOrder 150 = .ok (.ireturn, 1) := by decide +kernel
theorem dX7_longest_0 : decode cX7_longest 0 = .ok (.aload_n 0, 1) := by decide +kernel
theorem dX7_longest_1 : decode cX7_longest 1 = .ok (.iload_n 1, 1) := by decide +kernel
theorem dX7_longest_2 : decode cX7_longest 2 = .ok (.iconst 0, 1) := by decide +kernel
theorem dX7_longest_3 : decode cX7_longest 3 = .ok (.iconst 3, 1) := by decide +kernel
theorem dX7_longest_4 : decode cX7_longest 4 = .ok (.invokevirtual 276, 3) := by decide +kernel
theorem dX7_longest_7 : decode cX7_longest 7 = .ok (.ifCond .ne 5, 3) := by decide +kernel
theorem dX7_longest_10 : decode cX7_longest 10 = .ok (.iconst (-1), 1) := by decide +kernel
theorem dX7_longest_11 : decode cX7_longest 11 = .ok (.ireturn, 1) := by decide +kernel
theorem dX7_longest_12 : decode cX7_longest 12 = .ok (.aload_n 0, 1) := by decide +kernel
theorem dX7_longest_13 : decode cX7_longest 13 = .ok (.getfield 13, 3) := by decide +kernel
theorem dX7_longest_16 : decode cX7_longest 16 = .ok (.ifCond .ne 6, 3) := by decide +kernel
theorem dX7_longest_19 : decode cX7_longest 19 = .ok (.bipush (-5), 2) := by decide +kernel
theorem dX7_longest_21 : decode cX7_longest 21 = .ok (.ireturn, 1) := by decide +kernel
theorem dX7_longest_22 : decode cX7_longest 22 = .ok (.aload_n 0, 1) := by decide +kernel
theorem dX7_longest_23 : decode cX7_longest 23 = .ok (.getfield 13, 3) := by decide +kernel
theorem dX7_longest_26 : decode cX7_longest 26 = .ok (.iconst 1, 1) := by decide +kernel
theorem dX7_longest_27 : decode cX7_longest 27 = .ok (.if_icmp .ne 8, 3) := by decide +kernel
theorem dX7_longest_30 : decode cX7_longest 30 = .ok (.bipush 6, 2) := by decide +kernel
theorem dX7_longest_32 : decode cX7_longest 32 = .ok (.goto 19, 3) := by decide +kernel
theorem dX7_longest_35 : decode cX7_longest 35 = .ok (.aload_n 0, 1) := by decide +kernel
theorem dX7_longest_36 : decode cX7_longest 36 = .ok (.getfield 13, 3) := by decide +kernel
theorem dX7_longest_39 : decode cX7_longest 39 = .ok (.iconst 2, 1) := by decide +kernel
theorem dX7_longest_40 : decode cX7_longest 40 = .ok (.if_icmp .ne 8, 3) := by decide +kernel
theorem dX7_longest_43 : decode cX7_longest 43 = .ok (.bipush 36, 2) := by decide +kernel
theorem dX7_longest_45 : decode cX7_longest 45 = .ok (.goto 6, 3) := by decide +kernel
theorem dX7_longest_48 : decode cX7_longest 48 = .ok (.sipush 216, 3) := by decide +kernel
theorem dX7_longest_51 : decode cX7_longest 51 = .ok (.istore_n 2, 1) := by decide +kernel
theorem dX7_longest_52 : decode cX7_longest 52 = .ok (.iconst (-1), 1) := by decide +kernel
theorem dX7_longest_53 : decode cX7_longest 53 = .ok (.istore_n 3, 1) := by decide +kernel
theorem dX7_longest_54 : decode cX7_longest 54 = .ok (.iconst 0, 1) := by decide +kernel
theorem dX7_longest_55 : decode cX7_longest 55 = .ok (.istore 4, 2) := by decide +kernel
theorem dX7_longest_57 : decode cX7_longest 57 = .ok (.iload 4, 2) := by decide +kernel
theorem dX7_longest_59 : decode cX7_longest 59 = .ok (.iload_n 2, 1) := by decide +kernel
theorem dX7_longest_60 : decode cX7_longest 60 = .ok (.if_icmp .ge 111, 3) := by decide +kernel
theorem dX7_longest_63 : decode cX7_longest 63 = .ok (.aload_n 0, 1) := by decide +kernel
theorem dX7_longest_64 : decode cX7_longest 64 = .ok (.invokevirtual 402, 3) := by decide +kernel
theorem dX7_longest_67 : decode cX7_longest 67 = .ok (.aload_n 0, 1) := by decide +kernel
theorem dX7_longest_68 : decode cX7_longest 68 = .ok (.iload 4, 2) := by decide +kernel
theorem dX7_longest_70 : decode cX7_longest 70 = .ok (.invokevirtual 421, 3) := by decide +kernel
theorem dX7_longest_73 : decode cX7_longest 73 = .ok (.ifCond .ne 10, 3) := by decide +kernel
theorem dX7_longest_76 : decode cX7_longest 76 = .ok (.aload_n 0, 1) := by decide +kernel
theorem dX7_longest_77 : decode cX7_longest 77 = .ok (.invokevirtual 405, 3) := by decide +kernel
theorem dX7_longest_80 : decode cX7_longest 80 = .ok (.goto 85, 3) := by decide +kernel
theorem dX7_longest_83 : decode cX7_longest 83 = .ok (.aload_n 0, 1) := by decide +kernel
theorem dX7_longest_84 : decode cX7_longest 84 = .ok (.getfield 47, 3) := by decide +kernel
theorem dX7_longest_87 : decode cX7_longest 87 = .ok (.iconst 0, 1) := by decide +kernel
theorem dX7_longest_88 : decode cX7_longest 88 = .ok (.iaload, 1) := by decide +kernel
theorem dX7_longest_89 : decode cX7_longest 89 = .ok (.istore 5, 2) := by decide +kernel
theorem dX7_longest_91 : decode cX7_longest 91 = .ok (.aload_n 0, 1) := by decide +kernel
theorem dX7_longest_92 : decode cX7_longest 92 = .ok (.getfield 47, 3) := by decide +kernel
theorem dX7_longest_95 : decode cX7_longest 95 = .ok (.iconst 1, 1) := by decide +kernel
theorem dX7_longest_96 : decode cX7_longest 96 = .ok (.iaload, 1) := by decide +kernel
theorem dX7_longest_97 : decode cX7_longest 97 = .ok (.istore 6, 2) := by decide +kernel
theorem dX7_longest_99 : decode cX7_longest 99 = .ok (.aload_n 0, 1) := by decide +kernel
theorem dX7_longest_100 : decode cX7_longest 100 = .ok (.getfield 47, 3) := by decide +kernel
theorem dX7_longest_103 : decode cX7_longest 103 = .ok (.iconst 2, 1) := by decide +kernel
theorem dX7_longest_104 : decode cX7_longest 104 = .ok (.iaload, 1) := by decide +kernel
theorem dX7_longest_105 : decode cX7_longest 105 = .ok (.istore 7, 2) := by decide +kernel
theorem dX7_longest_107 : decode cX7_longest 107 = .ok (.aload_n 0, 1) := by decide +kernel
theorem dX7_longest_108 : decode cX7_longest 108 = .ok (.bipush 61, 2) := by decide +kernel
theorem dX7_longest_110 : decode cX7_longest 110 = .ok (.invokevirtual 408, 3) := by decide +kernel
theorem dX7_longest_113 : decode cX7_longest 113 = .ok (.istore 8, 2) := by decide +kernel
theorem dX7_longest_115 : decode cX7_longest 115 = .ok (.iload 8, 2) := by decide +kernel
theorem dX7_longest_117 : decode cX7_longest 117 = .ok (.ifCond .ge 8, 3) := by decide +kernel
theorem dX7_longest_120 : decode cX7_longest 120 = .ok (.bipush 99, 2) := by decide +kernel
theorem dX7_longest_122 : decode cX7_longest 122 = .ok (.goto 5, 3) := by decide +kernel
theorem dX7_longest_125 : decode cX7_longest 125 = .ok (.iload 8, 2) := by decide +kernel
theorem dX7_longest_127 : decode cX7_longest 127 = .ok (.istore 8, 2) := by decide +kernel
theorem dX7_longest_129 : decode cX7_longest 129 = .ok (.iload 8, 2) := by decide +kernel
theorem dX7_longest_131 : decode cX7_longest 131 = .ok (.iload_n 3, 1) := by decide +kernel
theorem dX7_longest_132 : decode cX7_longest 132 = .ok (.if_icmp .gt 6, 3) := by decide +kernel
theorem dX7_longest_135 : decode cX7_longest 135 = .ok (.goto 30, 3) := by decide +kernel
theorem dX7_longest_138 : decode cX7_longest 138 = .ok (.iload 8, 2) := by decide +kernel
theorem dX7_longest_140 : decode cX7_longest 140 = .ok (.istore_n 3, 1) := by decide +kernel
theorem dX7_longest_141 : decode cX7_longest 141 = .ok (.aload_n 0, 1) := by decide +kernel
theorem dX7_longest_142 : decode cX7_longest 142 = .ok (.getfield 154, 3) := by decide +kernel
theorem dX7_longest_145 : decode cX7_longest 145 = .ok (.iconst 0, 1) := by decide +kernel
theorem dX7_longest_146 : decode cX7_longest 146 = .ok (.iload 5, 2) := by decide +kernel
theorem dX7_longest_148 : decode cX7_longest 148 = .ok (.iastore, 1) := by decide +kernel
theorem dX7_longest_149 : decode cX7_longest 149 = .ok (.aload_n 0, 1) := by decide +kernel
theorem dX7_longest_150 : decode cX7_longest 150 = .ok (.getfield 154, 3) := by decide +kernel
theorem dX7_longest_153 : decode cX7_longest 153 = .ok (.iconst 1, 1) := by decide +kernel
theorem dX7_longest_154 : decode cX7_longest 154 = .ok (.iload 6, 2) := by decide +kernel
theorem dX7_longest_156 : decode cX7_longest 156 = .ok (.iastore, 1) := by decide +kernel
theorem dX7_longest_157 : decode cX7_longest 157 = .ok (.aload_n 0, 1) := by decide +kernel
theorem dX7_longest_158 : decode cX7_longest 158 = .ok (.getfield 154, 3) := by decide +kernel
theorem dX7_longest_161 : decode cX7_longest 161 = .ok (.iconst 2, 1) := by decide +kernel
theorem dX7_longest_162 : decode cX7_longest 162 = .ok (.iload 7, 2) := by decide +kernel
theorem dX7_longest_164 : decode cX7_longest 164 = .ok (.iastore, 1) := by decide +kernel
theorem dX7_longest_165 : decode cX7_longest 165 = .ok (.iinc 4 1, 3) := by decide +kernel
theorem dX7_longest_168 : decode cX7_longest 168 = .ok (.goto (-111), 3) := by decide +kernel
theorem dX7_longest_171 : decode cX7_longest 171 = .ok (.iload_n 1, 1) := by decide +kernel
theorem dX7_longest_172 : decode cX7_longest 172 = .ok (.iconst 3, 1) := by decide +kernel
theorem dX7_longest_173 : decode cX7_longest 173 = .ok (.if_icmp .ne 16, 3) := by decide +kernel
theorem dX7_longest_176 : decode cX7_longest 176 = .ok (.iload_n 3, 1) := by decide +kernel
theorem dX7_longest_177 : decode cX7_longest 177 = .ok (.bipush 99, 2) := by decide +kernel
theorem dX7_longest_179 : decode cX7_longest 179 = .ok (.if_icmp .ne 8, 3) := by decide +kernel
theorem dX7_longest_182 : decode cX7_longest 182 = .ok (.bipush (-5), 2) := by decide +kernel
theorem dX7_longest_184 : decode cX7_longest 184 = .ok (.goto 4, 3) := by decide +kernel
theorem dX7_longest_187 : decode cX7_longest 187 = .ok (.iload_n 3, 1) := by decide +kernel
theorem dX7_longest_188 : decode cX7_longest 188 = .ok (.ireturn, 1) := by decide +kernel
theorem dX7_longest_189 : decode cX7_longest 189 = .ok (.iload_n 1, 1) := by decide +kernel
theorem dX7_longest_190 : decode cX7_longest 190 = .ok (.aload_n 0, 1) := by decide +kernel
theorem dX7_longest_191 : decode cX7_longest 191 = .ok (.getfield 13, 3) := by decide +kernel
theorem dX7_longest_194 : decode cX7_longest 194 = .ok (.if_icmp .ge 12, 3) := by decide +kernel
theorem dX7_longest_197 : decode cX7_longest 197 = .ok (.aload_n 0, 1) := by decide +kernel
theorem dX7_longest_198 : decode cX7_longest 198 = .ok (.getfield 154, 3) := by decide +kernel
theorem dX7_longest_201 : decode cX7_longest 201 = .ok (.iload_n 1, 1) := by decide +kernel
theorem dX7_longest_202 : decode cX7_longest 202 = .ok (.iaload, 1) := by decide +kernel
theorem dX7_longest_203 : decode cX7_longest 203 = .ok (.goto 5, 3) := by decide +kernel
theorem dX7_longest_206 : decode cX7_longest 206 = .ok (.bipush (-5), 2) := by decide +kernel
theorem dX7_longest_208 : decode cX7_longest 208 = .ok (.ireturn, 1) := by decide +kernel
theorem dX7_see_0 : decode cX7_see 0 = .ok (.iload_n 1, 1) := by decide +kernel
theorem dX7_see_1 : decode cX7_see 1 = .ok (.iconst (-1), 1) := by decide +kernel
theorem dX7_see_2 : decode cX7_see 2 = .ok (.if_icmp .ne 10, 3) := by decide +kernel
theorem dX7_see_5 : decode cX7_see 5 = .ok (.aload_n 0, 1) := by decide +kernel
theorem dX7_see_6 : decode cX7_see 6 = .ok (.iconst 0, 1) := by decide +kernel
theorem dX7_see_7 : decode cX7_see 7 = .ok (.putfield 157, 3) := by decide +kernel
theorem dX7_see_10 : decode cX7_see 10 = .ok (.iconst 0, 1) := by decide +kernel
theorem dX7_see_11 : decode cX7_see 11 = .ok (.ireturn, 1) := by decide +kernel
theorem dX7_see_12 : decode cX7_see 12 = .ok (.aload_n 0, 1) := by decide +kernel
theorem dX7_see_13 : decode cX7_see 13 = .ok (.iload_n 1, 1) := by decide +kernel
theorem dX7_see_14 : decode cX7_see 14 = .ok (.iconst 0, 1) := by decide +kernel
theorem dX7_see_15 : decode cX7_see 15 = .ok (.iconst 3, 1) := by decide +kernel
theorem dX7_see_16 : decode cX7_see 16 = .ok (.invokevirtual 276, 3) := by decide +kernel
theorem dX7_see_19 : decode cX7_see 19 = .ok (.ifCond .eq 14, 3) := by decide +kernel
theorem dX7_see_22 : decode cX7_see 22 = .ok (.aload_n 0, 1) := by decide +kernel
theorem dX7_see_23 : decode cX7_see 23 = .ok (.iload_n 2, 1) := by decide +kernel
theorem dX7_see_24 : decode cX7_see 24 = .ok (.iconst 0, 1) := by decide +kernel
theorem dX7_see_25 : decode cX7_see 25 = .ok (.bipush 20, 2) := by decide +kernel
theorem dX7_see_27 : decode cX7_see 27 = .ok (.invokevirtual 276, 3) := by decide +kernel
theorem dX7_see_30 : decode cX7_see 30 = .ok (.ifCond .ne 6, 3) := by decide +kernel
theorem dX7_see_33 : decode cX7_see 33 = .ok (.bipush (-2), 2) := by decide +kernel
theorem dX7_see_35 : decode cX7_see 35 = .ok (.ireturn, 1) := by decide +kernel
theorem dX7_see_36 : decode cX7_see 36 = .ok (.aload_n 0, 1) := by decide +kernel
theorem dX7_see_37 : decode cX7_see 37 = .ok (.getfield 157, 3) := by decide +kernel
theorem dX7_see_40 : decode cX7_see 40 = .ok (.iconst 5, 1) := by decide +kernel
theorem dX7_see_41 : decode cX7_see 41 = .ok (.if_icmp .ne 6, 3) := by decide +kernel
theorem dX7_see_44 : decode cX7_see 44 = .ok (.bipush (-4), 2) := by decide +kernel
theorem dX7_see_46 : decode cX7_see 46 = .ok (.ireturn, 1) := by decide +kernel
theorem dX7_see_47 : decode cX7_see 47 = .ok (.aload_n 0, 1) := by decide +kernel
theorem dX7_see_48 : decode cX7_see 48 = .ok (.getfield 160, 3) := by decide +kernel
theorem dX7_see_51 : decode cX7_see 51 = .ok (.aload_n 0, 1) := by decide +kernel
theorem dX7_see_52 : decode cX7_see 52 = .ok (.getfield 157, 3) := by decide +kernel
theorem dX7_see_55 : decode cX7_see 55 = .ok (.iload_n 1, 1) := by decide +kernel
theorem dX7_see_56 : decode cX7_see 56 = .ok (.iastore, 1) := by decide +kernel
theorem dX7_see_57 : decode cX7_see 57 = .ok (.aload_n 0, 1) := by decide +kernel
theorem dX7_see_58 : decode cX7_see 58 = .ok (.getfield 163, 3) := by decide +kernel
theorem dX7_see_61 : decode cX7_see 61 = .ok (.aload_n 0, 1) := by decide +kernel
theorem dX7_see_62 : decode cX7_see 62 = .ok (.getfield 157, 3) := by decide +kernel
theorem dX7_see_65 : decode cX7_see 65 = .ok (.iload_n 2, 1) := by decide +kernel
theorem dX7_see_66 : decode cX7_see 66 = .ok (.iastore, 1) := by decide +kernel
theorem dX7_see_67 : decode cX7_see 67 = .ok (.aload_n 0, 1) := by decide +kernel
theorem dX7_see_68 : decode cX7_see 68 = .ok (.dup, 1) := by decide +kernel
theorem dX7_see_69 : decode cX7_see 69 = .ok (.getfield 157, 3) := by decide +kernel
theorem dX7_see_72 : decode cX7_see 72 = .ok (.iconst 1, 1) := by decide +kernel
theorem dX7_see_73 : decode cX7_see 73 = .ok (.iadd, 1) := by decide +kernel
theorem dX7_see_74 : decode cX7_see 74 = .ok (.putfield 157, 3) := by decide +kernel
theorem dX7_see_77 : decode cX7_see 77 = .ok (.aload_n 0, 1) := by decide +kernel
theorem dX7_see_78 : decode cX7_see 78 = .ok (.getfield 157, 3) := by decide +kernel
theorem dX7_see_81 : decode cX7_see 81 = .ok (.ireturn, 1) := by decide +kernel
theorem dX7_isSeen_0 : decode cX7_isSeen 0 = .ok (.iconst 1, 1) := by decide +kernel
theorem dX7_isSeen_1 : decode cX7_isSeen 1 = .ok (.istore_n 1, 1) := by decide +kernel
theorem dX7_isSeen_2 : decode cX7_isSeen 2 = .ok (.iconst 0, 1) := by decide +kernel
theorem dX7_isSeen_3 : decode cX7_isSeen 3 = .ok (.istore_n 2, 1) := by decide +kernel
theorem dX7_isSeen_4 : decode cX7_isSeen 4 = .ok (.iload_n 2, 1) := by decide +kernel
theorem dX7_isSeen_5 : decode cX7_isSeen 5 = .ok (.aload_n 0, 1) := by decide +kernel
theorem dX7_isSeen_6 : decode cX7_isSeen 6 = .ok (.getfield 157, 3) := by decide +kernel
theorem dX7_isSeen_9 : decode cX7_isSeen 9 = .ok (.if_icmp .ge 50, 3) := by decide +kernel
theorem dX7_isSeen_12 : decode cX7_isSeen 12 = .ok (.iload_n 1, 1) := by decide +kernel
theorem dX7_isSeen_13 : decode cX7_isSeen 13 = .ok (.ifCond .eq 46, 3) := by decide +kernel
theorem dX7_isSeen_16 : decode cX7_isSeen 16 = .ok (.aload_n 0, 1) := by decide +kernel
theorem dX7_isSeen_17 : decode cX7_isSeen 17 = .ok (.invokevirtual 402, 3) := by decide +kernel
theorem dX7_isSeen_20 : decode cX7_isSeen 20 = .ok (.aload_n 0, 1) := by decide +kernel
theorem dX7_isSeen_21 : decode cX7_isSeen 21 = .ok (.aload_n 0, 1) := by decide +kernel
theorem dX7_isSeen_22 : decode cX7_isSeen 22 = .ok (.getfield 163, 3) := by decide +kernel
theorem dX7_isSeen_25 : decode cX7_isSeen 25 = .ok (.iload_n 2, 1) := by decide +kernel
theorem dX7_isSeen_26 : decode cX7_isSeen 26 = .ok (.iaload, 1) := by decide +kernel
theorem dX7_isSeen_27 : decode cX7_isSeen 27 = .ok (.invokevirtual 398, 3) := by decide +kernel
theorem dX7_isSeen_30 : decode cX7_isSeen 30 = .ok (.aload_n 0, 1) := by decide +kernel
theorem dX7_isSeen_31 : decode cX7_isSeen 31 = .ok (.getfield 13, 3) := by decide +kernel
theorem dX7_isSeen_34 : decode cX7_isSeen 34 = .ok (.aload_n 0, 1) := by decide +kernel
theorem dX7_isSeen_35 : decode cX7_isSeen 35 = .ok (.getfield 160, 3) := by decide +kernel
theorem dX7_isSeen_38 : decode cX7_isSeen 38 = .ok (.iload_n 2, 1) := by decide +kernel
theorem dX7_isSeen_39 : decode cX7_isSeen 39 = .ok (.iaload, 1) := by decide +kernel
theorem dX7_isSeen_40 : decode cX7_isSeen 40 = .ok (.if_icmp .ne 7, 3) := by decide +kernel
theorem dX7_isSeen_43 : decode cX7_isSeen 43 = .ok (.iconst 1, 1) := by decide +kernel
theorem dX7_isSeen_44 : decode cX7_isSeen 44 = .ok (.goto 4, 3) := by decide +kernel
theorem dX7_isSeen_47 : decode cX7_isSeen 47 = .ok (.iconst 0, 1) := by decide +kernel
theorem dX7_isSeen_48 : decode cX7_isSeen 48 = .ok (.istore_n 1, 1) := by decide +kernel
theorem dX7_isSeen_49 : decode cX7_isSeen 49 = .ok (.aload_n 0, 1) := by decide +kernel
theorem dX7_isSeen_50 : decode cX7_isSeen 50 = .ok (.invokevirtual 405, 3) := by decide +kernel
theorem dX7_isSeen_53 : decode cX7_isSeen 53 = .ok (.iinc 2 1, 3) := by decide +kernel
theorem dX7_isSeen_56 : decode cX7_isSeen 56 = .ok (.goto (-52), 3) := by decide +kernel
theorem dX7_isSeen_59 : decode cX7_isSeen 59 = .ok (.iload_n 1, 1) := by decide +kernel
theorem dX7_isSeen_60 : decode cX7_isSeen 60 = .ok (.ireturn, 1) := by decide +kernel
theorem dX7_worn_0 : decode cX7_worn 0 = .ok (.aload_n 0, 1) := by decide +kernel
theorem dX7_worn_1 : decode cX7_worn 1 = .ok (.iload_n 1, 1) := by decide +kernel
theorem dX7_worn_2 : decode cX7_worn 2 = .ok (.invokevirtual 280, 3) := by decide +kernel
theorem dX7_worn_5 : decode cX7_worn 5 = .ok (.ifCond .eq 13, 3) := by decide +kernel
theorem dX7_worn_8 : decode cX7_worn 8 = .ok (.aload_n 0, 1) := by decide +kernel
theorem dX7_worn_9 : decode cX7_worn 9 = .ok (.iload_n 2, 1) := by decide +kernel
theorem dX7_worn_10 : decode cX7_worn 10 = .ok (.iconst 0, 1) := by decide +kernel
theorem dX7_worn_11 : decode cX7_worn 11 = .ok (.iconst 1, 1) := by decide +kernel
theorem dX7_worn_12 : decode cX7_worn 12 = .ok (.invokevirtual 276, 3) := by decide +kernel
theorem dX7_worn_15 : decode cX7_worn 15 = .ok (.ifCond .ne 5, 3) := by decide +kernel
theorem dX7_worn_18 : decode cX7_worn 18 = .ok (.iconst (-1), 1) := by decide +kernel
theorem dX7_worn_19 : decode cX7_worn 19 = .ok (.ireturn, 1) := by decide +kernel
theorem dX7_worn_20 : decode cX7_worn 20 = .ok (.aload_n 0, 1) := by decide +kernel
theorem dX7_worn_21 : decode cX7_worn 21 = .ok (.getfield 38, 3) := by decide +kernel
theorem dX7_worn_24 : decode cX7_worn 24 = .ok (.iload_n 1, 1) := by decide +kernel
theorem dX7_worn_25 : decode cX7_worn 25 = .ok (.iaload, 1) := by decide +kernel
theorem dX7_worn_26 : decode cX7_worn 26 = .ok (.istore_n 3, 1) := by decide +kernel
theorem dX7_worn_27 : decode cX7_worn 27 = .ok (.iconst 0, 1) := by decide +kernel
theorem dX7_worn_28 : decode cX7_worn 28 = .ok (.istore 4, 2) := by decide +kernel
theorem dX7_worn_30 : decode cX7_worn 30 = .ok (.bipush (-5), 2) := by decide +kernel
theorem dX7_worn_32 : decode cX7_worn 32 = .ok (.istore 5, 2) := by decide +kernel
theorem dX7_worn_34 : decode cX7_worn 34 = .ok (.bipush 60, 2) := by decide +kernel
theorem dX7_worn_36 : decode cX7_worn 36 = .ok (.istore 6, 2) := by decide +kernel
theorem dX7_worn_38 : decode cX7_worn 38 = .ok (.iload 6, 2) := by decide +kernel
theorem dX7_worn_40 : decode cX7_worn 40 = .ok (.ifCond .lt 34, 3) := by decide +kernel
theorem dX7_worn_43 : decode cX7_worn 43 = .ok (.aload_n 0, 1) := by decide +kernel
theorem dX7_worn_44 : decode cX7_worn 44 = .ok (.getfield 38, 3) := by decide +kernel
theorem dX7_worn_47 : decode cX7_worn 47 = .ok (.iload_n 1, 1) := by decide +kernel
theorem dX7_worn_48 : decode cX7_worn 48 = .ok (.iload 6, 2) := by decide +kernel
theorem dX7_worn_50 : decode cX7_worn 50 = .ok (.iastore, 1) := by decide +kernel
theorem dX7_worn_51 : decode cX7_worn 51 = .ok (.aload_n 0, 1) := by decide +kernel
theorem dX7_worn_52 : decode cX7_worn 52 = .ok (.invokevirtual 424, 3) := by decide +kernel
theorem dX7_worn_55 : decode cX7_worn 55 = .ok (.ifCond .ne 6, 3) := by decide +kernel
theorem dX7_worn_58 : decode cX7_worn 58 = .ok (.goto 10, 3) := by decide +kernel
theorem dX7_worn_61 : decode cX7_worn 61 = .ok (.iinc 4 1, 3) := by decide +kernel
theorem dX7_worn_64 : decode cX7_worn 64 = .ok (.iload 6, 2) := by decide +kernel
theorem dX7_worn_66 : decode cX7_worn 66 = .ok (.istore 5, 2) := by decide +kernel
theorem dX7_worn_68 : decode cX7_worn 68 = .ok (.iinc 6 (-1), 3) := by decide +kernel
theorem dX7_worn_71 : decode cX7_worn 71 = .ok (.goto (-33), 3) := by decide +kernel
theorem dX7_worn_74 : decode cX7_worn 74 = .ok (.aload_n 0, 1) := by decide +kernel
theorem dX7_worn_75 : decode cX7_worn 75 = .ok (.getfield 38, 3) := by decide +kernel
theorem dX7_worn_78 : decode cX7_worn 78 = .ok (.iload_n 1, 1) := by decide +kernel
theorem dX7_worn_79 : decode cX7_worn 79 = .ok (.iload_n 3, 1) := by decide +kernel
theorem dX7_worn_80 : decode cX7_worn 80 = .ok (.iastore, 1) := by decide +kernel
theorem dX7_worn_81 : decode cX7_worn 81 = .ok (.iload_n 2, 1) := by decide +kernel
theorem dX7_worn_82 : decode cX7_worn 82 = .ok (.ifCond .ne 8, 3) := by decide +kernel
theorem dX7_worn_85 : decode cX7_worn 85 = .ok (.iload 4, 2) := by decide +kernel
theorem dX7_worn_87 : decode cX7_worn 87 = .ok (.goto 5, 3) := by decide +kernel
theorem dX7_worn_90 : decode cX7_worn 90 = .ok (.iload 5, 2) := by decide +kernel
theorem dX7_worn_92 : decode cX7_worn 92 = .ok (.ireturn, 1) := by decide +kernel
theorem dX7_can_0 : decode cX7_can 0 = .ok (.aload_n 0, 1) := by decide +kernel
theorem dX7_can_1 : decode cX7_can 1 = .ok (.iload_n 1, 1) := by decide +kernel
theorem dX7_can_2 : decode cX7_can 2 = .ok (.invokevirtual 280, 3) := by decide +kernel
theorem dX7_can_5 : decode cX7_can 5 = .ok (.ifCond .eq 13, 3) := by decide +kernel
theorem dX7_can_8 : decode cX7_can 8 = .ok (.aload_n 0, 1) := by decide +kernel
theorem dX7_can_9 : decode cX7_can 9 = .ok (.iload_n 2, 1) := by decide +kernel
theorem dX7_can_10 : decode cX7_can 10 = .ok (.iconst 0, 1) := by decide +kernel
theorem dX7_can_11 : decode cX7_can 11 = .ok (.iconst 1, 1) := by decide +kernel
theorem dX7_can_12 : decode cX7_can 12 = .ok (.invokevirtual 276, 3) := by decide +kernel
theorem dX7_can_15 : decode cX7_can 15 = .ok (.ifCond .ne 5, 3) := by decide +kernel
theorem dX7_can_18 : decode cX7_can 18 = .ok (.iconst (-1), 1) := by decide +kernel
theorem dX7_can_19 : decode cX7_can 19 = .ok (.ireturn, 1) := by decide +kernel
theorem dX7_can_20 : decode cX7_can 20 = .ok (.aload_n 0, 1) := by decide +kernel
theorem dX7_can_21 : decode cX7_can 21 = .ok (.getfield 32, 3) := by decide +kernel
theorem dX7_can_24 : decode cX7_can 24 = .ok (.iload_n 1, 1) := by decide +kernel
theorem dX7_can_25 : decode cX7_can 25 = .ok (.iaload, 1) := by decide +kernel
theorem dX7_can_26 : decode cX7_can 26 = .ok (.istore_n 3, 1) := by decide +kernel
theorem dX7_can_27 : decode cX7_can 27 = .ok (.iconst 0, 1) := by decide +kernel
theorem dX7_can_28 : decode cX7_can 28 = .ok (.istore 4, 2) := by decide +kernel
theorem dX7_can_30 : decode cX7_can 30 = .ok (.bipush (-5), 2) := by decide +kernel
theorem dX7_can_32 : decode cX7_can 32 = .ok (.istore 5, 2) := by decide +kernel
theorem dX7_can_34 : decode cX7_can 34 = .ok (.bipush 9, 2) := by decide +kernel
theorem dX7_can_36 : decode cX7_can 36 = .ok (.istore 6, 2) := by decide +kernel
theorem dX7_can_38 : decode cX7_can 38 = .ok (.iload 6, 2) := by decide +kernel
theorem dX7_can_40 : decode cX7_can 40 = .ok (.ifCond .lt 34, 3) := by decide +kernel
theorem dX7_can_43 : decode cX7_can 43 = .ok (.aload_n 0, 1) := by decide +kernel
theorem dX7_can_44 : decode cX7_can 44 = .ok (.getfield 32, 3) := by decide +kernel
theorem dX7_can_47 : decode cX7_can 47 = .ok (.iload_n 1, 1) := by decide +kernel
theorem dX7_can_48 : decode cX7_can 48 = .ok (.iload 6, 2) := by decide +kernel
theorem dX7_can_50 : decode cX7_can 50 = .ok (.iastore, 1) := by decide +kernel
theorem dX7_can_51 : decode cX7_can 51 = .ok (.aload_n 0, 1) := by decide +kernel
theorem dX7_can_52 : decode cX7_can 52 = .ok (.invokevirtual 424, 3) := by decide +kernel
theorem dX7_can_55 : decode cX7_can 55 = .ok (.ifCond .ne 6, 3) := by decide +kernel
theorem dX7_can_58 : decode cX7_can 58 = .ok (.goto 10, 3) := by decide +kernel
theorem dX7_can_61 : decode cX7_can 61 = .ok (.iinc 4 1, 3) := by decide +kernel
theorem dX7_can_64 : decode cX7_can 64 = .ok (.iload 6, 2) := by decide +kernel
theorem dX7_can_66 : decode cX7_can 66 = .ok (.istore 5, 2) := by decide +kernel
theorem dX7_can_68 : decode cX7_can 68 = .ok (.iinc 6 (-1), 3) := by decide +kernel
theorem dX7_can_71 : decode cX7_can 71 = .ok (.goto (-33), 3) := by decide +kernel
theorem dX7_can_74 : decode cX7_can 74 = .ok (.aload_n 0, 1) := by decide +kernel
theorem dX7_can_75 : decode cX7_can 75 = .ok (.getfield 32, 3) := by decide +kernel
theorem dX7_can_78 : decode cX7_can 78 = .ok (.iload_n 1, 1) := by decide +kernel
theorem dX7_can_79 : decode cX7_can 79 = .ok (.iload_n 3, 1) := by decide +kernel
theorem dX7_can_80 : decode cX7_can 80 = .ok (.iastore, 1) := by decide +kernel
theorem dX7_can_81 : decode cX7_can 81 = .ok (.iload_n 2, 1) := by decide +kernel
theorem dX7_can_82 : decode cX7_can 82 = .ok (.ifCond .ne 8, 3) := by decide +kernel
theorem dX7_can_85 : decode cX7_can 85 = .ok (.iload 4, 2) := by decide +kernel
theorem dX7_can_87 : decode cX7_can 87 = .ok (.goto 5, 3) := by decide +kernel
theorem dX7_can_90 : decode cX7_can 90 = .ok (.iload 5, 2) := by decide +kernel
theorem dX7_can_92 : decode cX7_can 92 = .ok (.ireturn, 1) := by decide +kernel
theorem dX7_divisor_0 : decode cX7_divisor 0 = .ok (.iload_n 1, 1) := by decide +kernel
theorem dX7_divisor_1 : decode cX7_divisor 1 = .ok (.istore_n 3, 1) := by decide +kernel
theorem dX7_divisor_2 : decode cX7_divisor 2 = .ok (.iload_n 2, 1) := by decide +kernel
theorem dX7_divisor_3 : decode cX7_divisor 3 = .ok (.istore 4, 2) := by decide +kernel
theorem dX7_divisor_5 : decode cX7_divisor 5 = .ok (.iload 4, 2) := by decide +kernel
theorem dX7_divisor_7 : decode cX7_divisor 7 = .ok (.ifCond .eq 19, 3) := by decide +kernel
theorem dX7_divisor_10 : decode cX7_divisor 10 = .ok (.iload_n 3, 1) := by decide +kernel
theorem dX7_divisor_11 : decode cX7_divisor 11 = .ok (.iload 4, 2) := by decide +kernel
theorem dX7_divisor_13 : decode cX7_divisor 13 = .ok (.irem, 1) := by decide +kernel
theorem dX7_divisor_14 : decode cX7_divisor 14 = .ok (.istore 5, 2) := by decide +kernel
theorem dX7_divisor_16 : decode cX7_divisor 16 = .ok (.iload 4, 2) := by decide +kernel
theorem dX7_divisor_18 : decode cX7_divisor 18 = .ok (.istore_n 3, 1) := by decide +kernel
theorem dX7_divisor_19 : decode cX7_divisor 19 = .ok (.iload 5, 2) := by decide +kernel
theorem dX7_divisor_21 : decode cX7_divisor 21 = .ok (.istore 4, 2) := by decide +kernel
theorem dX7_divisor_23 : decode cX7_divisor 23 = .ok (.goto (-18), 3) := by decide +kernel
theorem dX7_divisor_26 : decode cX7_divisor 26 = .ok (.iload_n 3, 1) := by decide +kernel
theorem dX7_divisor_27 : decode cX7_divisor 27 = .ok (.ireturn, 1) := by decide +kernel
theorem dX7_lowest_0 : decode cX7_lowest 0 = .ok (.aload_n 0, 1) := by decide +kernel
theorem dX7_lowest_1 : decode cX7_lowest 1 = .ok (.iload_n 1, 1) := by decide +kernel
theorem dX7_lowest_2 : decode cX7_lowest 2 = .ok (.iload_n 2, 1) := by decide +kernel
theorem dX7_lowest_3 : decode cX7_lowest 3 = .ok (.invokevirtual 427, 3) := by decide +kernel
theorem dX7_lowest_6 : decode cX7_lowest 6 = .ok (.istore 4, 2) := by decide +kernel
theorem dX7_lowest_8 : decode cX7_lowest 8 = .ok (.iload_n 3, 1) := by decide +kernel
theorem dX7_lowest_9 : decode cX7_lowest 9 = .ok (.ifCond .ne 11, 3) := by decide +kernel
theorem dX7_lowest_12 : decode cX7_lowest 12 = .ok (.iload_n 1, 1) := by decide +kernel
theorem dX7_lowest_13 : decode cX7_lowest 13 = .ok (.iload 4, 2) := by decide +kernel
theorem dX7_lowest_15 : decode cX7_lowest 15 = .ok (.idiv, 1) := by decide +kernel
theorem dX7_lowest_16 : decode cX7_lowest 16 = .ok (.i2l, 1) := by decide +kernel
theorem dX7_lowest_17 : decode cX7_lowest 17 = .ok (.goto 8, 3) := by decide +kernel
theorem dX7_lowest_20 : decode cX7_lowest 20 = .ok (.iload_n 2, 1) := by decide +kernel
theorem dX7_lowest_21 : decode cX7_lowest 21 = .ok (.iload 4, 2) := by decide +kernel
theorem dX7_lowest_23 : decode cX7_lowest 23 = .ok (.idiv, 1) := by decide +kernel
theorem dX7_lowest_24 : decode cX7_lowest 24 = .ok (.i2l, 1) := by decide +kernel
theorem dX7_lowest_25 : decode cX7_lowest 25 = .ok (.lreturn, 1) := by decide +kernel
theorem dX7_odds_0 : decode cX7_odds 0 = .ok (.aload_n 0, 1) := by decide +kernel
theorem dX7_odds_1 : decode cX7_odds 1 = .ok (.iload_n 1, 1) := by decide +kernel
theorem dX7_odds_2 : decode cX7_odds 2 = .ok (.invokevirtual 395, 3) := by decide +kernel
theorem dX7_odds_5 : decode cX7_odds 5 = .ok (.ifCond .eq 20, 3) := by decide +kernel
theorem dX7_odds_8 : decode cX7_odds 8 = .ok (.aload_n 0, 1) := by decide +kernel
theorem dX7_odds_9 : decode cX7_odds 9 = .ok (.iload_n 2, 1) := by decide +kernel
theorem dX7_odds_10 : decode cX7_odds 10 = .ok (.iconst 0, 1) := by decide +kernel
theorem dX7_odds_11 : decode cX7_odds 11 = .ok (.iconst 1, 1) := by decide +kernel
theorem dX7_odds_12 : decode cX7_odds 12 = .ok (.invokevirtual 276, 3) := by decide +kernel
theorem dX7_odds_15 : decode cX7_odds 15 = .ok (.ifCond .eq 10, 3) := by decide +kernel
theorem dX7_odds_18 : decode cX7_odds 18 = .ok (.aload_n 0, 1) := by decide +kernel
theorem dX7_odds_19 : decode cX7_odds 19 = .ok (.getfield 13, 3) := by decide +kernel
theorem dX7_odds_22 : decode cX7_odds 22 = .ok (.ifCond .ne 7, 3) := by decide +kernel
theorem dX7_odds_25 : decode cX7_odds 25 = .ok (.ldc2_w 430, 3) := by decide +kernel
theorem dX7_odds_28 : decode cX7_odds 28 = .ok (.lreturn, 1) := by decide +kernel
theorem dX7_odds_29 : decode cX7_odds 29 = .ok (.iconst 0, 1) := by decide +kernel
theorem dX7_odds_30 : decode cX7_odds 30 = .ok (.istore_n 3, 1) := by decide +kernel
theorem dX7_odds_31 : decode cX7_odds 31 = .ok (.aload_n 0, 1) := by decide +kernel
theorem dX7_odds_32 : decode cX7_odds 32 = .ok (.getfield 13, 3) := by decide +kernel
theorem dX7_odds_35 : decode cX7_odds 35 = .ok (.istore 4, 2) := by decide +kernel
theorem dX7_odds_37 : decode cX7_odds 37 = .ok (.iconst 0, 1) := by decide +kernel
theorem dX7_odds_38 : decode cX7_odds 38 = .ok (.istore 5, 2) := by decide +kernel
theorem dX7_odds_40 : decode cX7_odds 40 = .ok (.iload 5, 2) := by decide +kernel
theorem dX7_odds_42 : decode cX7_odds 42 = .ok (.iload 4, 2) := by decide +kernel
theorem dX7_odds_44 : decode cX7_odds 44 = .ok (.if_icmp .ge 35, 3) := by decide +kernel
theorem dX7_odds_47 : decode cX7_odds 47 = .ok (.aload_n 0, 1) := by decide +kernel
theorem dX7_odds_48 : decode cX7_odds 48 = .ok (.invokevirtual 402, 3) := by decide +kernel
theorem dX7_odds_51 : decode cX7_odds 51 = .ok (.aload_n 0, 1) := by decide +kernel
theorem dX7_odds_52 : decode cX7_odds 52 = .ok (.iload 5, 2) := by decide +kernel
theorem dX7_odds_54 : decode cX7_odds 54 = .ok (.putfield 13, 3) := by decide +kernel
theorem dX7_odds_57 : decode cX7_odds 57 = .ok (.iload_n 3, 1) := by decide +kernel
theorem dX7_odds_58 : decode cX7_odds 58 = .ok (.aload_n 0, 1) := by decide +kernel
theorem dX7_odds_59 : decode cX7_odds 59 = .ok (.iload_n 1, 1) := by decide +kernel
theorem dX7_odds_60 : decode cX7_odds 60 = .ok (.invokevirtual 408, 3) := by decide +kernel
theorem dX7_odds_63 : decode cX7_odds 63 = .ok (.ifCond .ge 7, 3) := by decide +kernel
theorem dX7_odds_66 : decode cX7_odds 66 = .ok (.iconst 1, 1) := by decide +kernel
theorem dX7_odds_67 : decode cX7_odds 67 = .ok (.goto 4, 3) := by decide +kernel
theorem dX7_odds_70 : decode cX7_odds 70 = .ok (.iconst 0, 1) := by decide +kernel
theorem dX7_odds_71 : decode cX7_odds 71 = .ok (.iadd, 1) := by decide +kernel
theorem dX7_odds_72 : decode cX7_odds 72 = .ok (.istore_n 3, 1) := by decide +kernel
theorem dX7_odds_73 : decode cX7_odds 73 = .ok (.iinc 5 1, 3) := by decide +kernel
theorem dX7_odds_76 : decode cX7_odds 76 = .ok (.goto (-36), 3) := by decide +kernel
theorem dX7_odds_79 : decode cX7_odds 79 = .ok (.aload_n 0, 1) := by decide +kernel
theorem dX7_odds_80 : decode cX7_odds 80 = .ok (.iload_n 3, 1) := by decide +kernel
theorem dX7_odds_81 : decode cX7_odds 81 = .ok (.iload 4, 2) := by decide +kernel
theorem dX7_odds_83 : decode cX7_odds 83 = .ok (.iload_n 2, 1) := by decide +kernel
theorem dX7_odds_84 : decode cX7_odds 84 = .ok (.invokevirtual 432, 3) := by decide +kernel
theorem dX7_odds_87 : decode cX7_odds 87 = .ok (.lreturn, 1) := by decide +kernel
theorem dX7_mean_0 : decode cX7_mean 0 = .ok (.aload_n 0, 1) := by decide +kernel
theorem dX7_mean_1 : decode cX7_mean 1 = .ok (.iload_n 1, 1) := by decide +kernel
theorem dX7_mean_2 : decode cX7_mean 2 = .ok (.iconst 0, 1) := by decide +kernel
theorem dX7_mean_3 : decode cX7_mean 3 = .ok (.iconst 1, 1) := by decide +kernel
theorem dX7_mean_4 : decode cX7_mean 4 = .ok (.invokevirtual 276, 3) := by decide +kernel
theorem dX7_mean_7 : decode cX7_mean 7 = .ok (.ifCond .eq 10, 3) := by decide +kernel
theorem dX7_mean_10 : decode cX7_mean 10 = .ok (.aload_n 0, 1) := by decide +kernel
theorem dX7_mean_11 : decode cX7_mean 11 = .ok (.getfield 13, 3) := by decide +kernel
theorem dX7_mean_14 : decode cX7_mean 14 = .ok (.ifCond .ne 7, 3) := by decide +kernel
theorem dX7_mean_17 : decode cX7_mean 17 = .ok (.ldc2_w 430, 3) := by decide +kernel
theorem dX7_mean_20 : decode cX7_mean 20 = .ok (.lreturn, 1) := by decide +kernel
theorem dX7_mean_21 : decode cX7_mean 21 = .ok (.iconst 0, 1) := by decide +kernel
theorem dX7_mean_22 : decode cX7_mean 22 = .ok (.istore_n 2, 1) := by decide +kernel
theorem dX7_mean_23 : decode cX7_mean 23 = .ok (.iconst 0, 1) := by decide +kernel
theorem dX7_mean_24 : decode cX7_mean 24 = .ok (.istore_n 3, 1) := by decide +kernel
theorem dX7_mean_25 : decode cX7_mean 25 = .ok (.iload_n 3, 1) := by decide +kernel
theorem dX7_mean_26 : decode cX7_mean 26 = .ok (.aload_n 0, 1) := by decide +kernel
theorem dX7_mean_27 : decode cX7_mean 27 = .ok (.getfield 13, 3) := by decide +kernel
theorem dX7_mean_30 : decode cX7_mean 30 = .ok (.if_icmp .ge 17, 3) := by decide +kernel
theorem dX7_mean_33 : decode cX7_mean 33 = .ok (.iload_n 2, 1) := by decide +kernel
theorem dX7_mean_34 : decode cX7_mean 34 = .ok (.aload_n 0, 1) := by decide +kernel
theorem dX7_mean_35 : decode cX7_mean 35 = .ok (.iload_n 3, 1) := by decide +kernel
theorem dX7_mean_36 : decode cX7_mean 36 = .ok (.invokevirtual 377, 3) := by decide +kernel
theorem dX7_mean_39 : decode cX7_mean 39 = .ok (.iadd, 1) := by decide +kernel
theorem dX7_mean_40 : decode cX7_mean 40 = .ok (.istore_n 2, 1) := by decide +kernel
theorem dX7_mean_41 : decode cX7_mean 41 = .ok (.iinc 3 1, 3) := by decide +kernel
theorem dX7_mean_44 : decode cX7_mean 44 = .ok (.goto (-19), 3) := by decide +kernel
theorem dX7_mean_47 : decode cX7_mean 47 = .ok (.aload_n 0, 1) := by decide +kernel
theorem dX7_mean_48 : decode cX7_mean 48 = .ok (.iload_n 2, 1) := by decide +kernel
theorem dX7_mean_49 : decode cX7_mean 49 = .ok (.aload_n 0, 1) := by decide +kernel
theorem dX7_mean_50 : decode cX7_mean 50 = .ok (.getfield 13, 3) := by decide +kernel
theorem dX7_mean_53 : decode cX7_mean 53 = .ok (.iload_n 1, 1) := by decide +kernel
theorem dX7_mean_54 : decode cX7_mean 54 = .ok (.invokevirtual 432, 3) := by decide +kernel
theorem dX7_mean_57 : decode cX7_mean 57 = .ok (.lreturn, 1) := by decide +kernel
theorem dX7_plan_0 : decode cX7_plan 0 = .ok (.iload_n 1, 1) := by decide +kernel
theorem dX7_plan_1 : decode cX7_plan 1 = .ok (.iconst (-1), 1) := by decide +kernel
theorem dX7_plan_2 : decode cX7_plan 2 = .ok (.if_icmp .ne 10, 3) := by decide +kernel
theorem dX7_plan_5 : decode cX7_plan 5 = .ok (.aload_n 0, 1) := by decide +kernel
theorem dX7_plan_6 : decode cX7_plan 6 = .ok (.iconst 0, 1) := by decide +kernel
theorem dX7_plan_7 : decode cX7_plan 7 = .ok (.putfield 166, 3) := by decide +kernel
theorem dX7_plan_10 : decode cX7_plan 10 = .ok (.iconst 0, 1) := by decide +kernel
theorem dX7_plan_11 : decode cX7_plan 11 = .ok (.ireturn, 1) := by decide +kernel
theorem dX7_plan_12 : decode cX7_plan 12 = .ok (.aload_n 0, 1) := by decide +kernel
theorem dX7_plan_13 : decode cX7_plan 13 = .ok (.iload_n 1, 1) := by decide +kernel
theorem dX7_plan_14 : decode cX7_plan 14 = .ok (.iconst 0, 1) := by decide +kernel
theorem dX7_plan_15 : decode cX7_plan 15 = .ok (.iconst 4, 1) := by decide +kernel
theorem dX7_plan_16 : decode cX7_plan 16 = .ok (.invokevirtual 276, 3) := by decide +kernel
theorem dX7_plan_19 : decode cX7_plan 19 = .ok (.ifCond .eq 16, 3) := by decide +kernel
theorem dX7_plan_22 : decode cX7_plan 22 = .ok (.iload_n 1, 1) := by decide +kernel
theorem dX7_plan_23 : decode cX7_plan 23 = .ok (.iconst 3, 1) := by decide +kernel
theorem dX7_plan_24 : decode cX7_plan 24 = .ok (.if_icmp .ne 13, 3) := by decide +kernel
theorem dX7_plan_27 : decode cX7_plan 27 = .ok (.aload_n 0, 1) := by decide +kernel
theorem dX7_plan_28 : decode cX7_plan 28 = .ok (.iload_n 2, 1) := by decide +kernel
theorem dX7_plan_29 : decode cX7_plan 29 = .ok (.invokevirtual 280, 3) := by decide +kernel
theorem dX7_plan_32 : decode cX7_plan 32 = .ok (.ifCond .ne 5, 3) := by decide +kernel
theorem dX7_plan_35 : decode cX7_plan 35 = .ok (.iconst (-1), 1) := by decide +kernel
theorem dX7_plan_36 : decode cX7_plan 36 = .ok (.ireturn, 1) := by decide +kernel
theorem dX7_plan_37 : decode cX7_plan 37 = .ok (.aload_n 0, 1) := by decide +kernel
theorem dX7_plan_38 : decode cX7_plan 38 = .ok (.iload_n 1, 1) := by decide +kernel
theorem dX7_plan_39 : decode cX7_plan 39 = .ok (.iconst 1, 1) := by decide +kernel
theorem dX7_plan_40 : decode cX7_plan 40 = .ok (.iconst 2, 1) := by decide +kernel
theorem dX7_plan_41 : decode cX7_plan 41 = .ok (.invokevirtual 276, 3) := by decide +kernel
theorem dX7_plan_44 : decode cX7_plan 44 = .ok (.ifCond .eq 14, 3) := by decide +kernel
theorem dX7_plan_47 : decode cX7_plan 47 = .ok (.aload_n 0, 1) := by decide +kernel
theorem dX7_plan_48 : decode cX7_plan 48 = .ok (.iload_n 2, 1) := by decide +kernel
theorem dX7_plan_49 : decode cX7_plan 49 = .ok (.invokevirtual 295, 3) := by decide +kernel
theorem dX7_plan_52 : decode cX7_plan 52 = .ok (.ifCond .ne 6, 3) := by decide +kernel
theorem dX7_plan_55 : decode cX7_plan 55 = .ok (.bipush (-2), 2) := by decide +kernel
theorem dX7_plan_57 : decode cX7_plan 57 = .ok (.ireturn, 1) := by decide +kernel
theorem dX7_plan_58 : decode cX7_plan 58 = .ok (.aload_n 0, 1) := by decide +kernel
theorem dX7_plan_59 : decode cX7_plan 59 = .ok (.getfield 166, 3) := by decide +kernel
theorem dX7_plan_62 : decode cX7_plan 62 = .ok (.bipush 10, 2) := by decide +kernel
theorem dX7_plan_64 : decode cX7_plan 64 = .ok (.if_icmp .ne 6, 3) := by decide +kernel
theorem dX7_plan_67 : decode cX7_plan 67 = .ok (.bipush (-4), 2) := by decide +kernel
theorem dX7_plan_69 : decode cX7_plan 69 = .ok (.ireturn, 1) := by decide +kernel
theorem dX7_plan_70 : decode cX7_plan 70 = .ok (.aload_n 0, 1) := by decide +kernel
theorem dX7_plan_71 : decode cX7_plan 71 = .ok (.getfield 172, 3) := by decide +kernel
theorem dX7_plan_74 : decode cX7_plan 74 = .ok (.aload_n 0, 1) := by decide +kernel
theorem dX7_plan_75 : decode cX7_plan 75 = .ok (.getfield 166, 3) := by decide +kernel
theorem dX7_plan_78 : decode cX7_plan 78 = .ok (.iload_n 1, 1) := by decide +kernel
theorem dX7_plan_79 : decode cX7_plan 79 = .ok (.iastore, 1) := by decide +kernel
theorem dX7_plan_80 : decode cX7_plan 80 = .ok (.aload_n 0, 1) := by decide +kernel
theorem dX7_plan_81 : decode cX7_plan 81 = .ok (.getfield 175, 3) := by decide +kernel
theorem dX7_plan_84 : decode cX7_plan 84 = .ok (.aload_n 0, 1) := by decide +kernel
theorem dX7_plan_85 : decode cX7_plan 85 = .ok (.getfield 166, 3) := by decide +kernel
theorem dX7_plan_88 : decode cX7_plan 88 = .ok (.iload_n 2, 1) := by decide +kernel
theorem dX7_plan_89 : decode cX7_plan 89 = .ok (.iastore, 1) := by decide +kernel
theorem dX7_plan_90 : decode cX7_plan 90 = .ok (.aload_n 0, 1) := by decide +kernel
theorem dX7_plan_91 : decode cX7_plan 91 = .ok (.dup, 1) := by decide +kernel
theorem dX7_plan_92 : decode cX7_plan 92 = .ok (.getfield 166, 3) := by decide +kernel
theorem dX7_plan_95 : decode cX7_plan 95 = .ok (.iconst 1, 1) := by decide +kernel
theorem dX7_plan_96 : decode cX7_plan 96 = .ok (.iadd, 1) := by decide +kernel
theorem dX7_plan_97 : decode cX7_plan 97 = .ok (.putfield 166, 3) := by decide +kernel
theorem dX7_plan_100 : decode cX7_plan 100 = .ok (.aload_n 0, 1) := by decide +kernel
theorem dX7_plan_101 : decode cX7_plan 101 = .ok (.getfield 166, 3) := by decide +kernel
theorem dX7_plan_104 : decode cX7_plan 104 = .ok (.ireturn, 1) := by decide +kernel
theorem dX7_goPlan_0 : decode cX7_goPlan 0 = .ok (.iload_n 1, 1) := by decide +kernel
theorem dX7_goPlan_1 : decode cX7_goPlan 1 = .ok (.ifCond .ne 8, 3) := by decide +kernel
theorem dX7_goPlan_4 : decode cX7_goPlan 4 = .ok (.aload_n 0, 1) := by decide +kernel
theorem dX7_goPlan_5 : decode cX7_goPlan 5 = .ok (.invokevirtual 392, 3) := by decide +kernel
theorem dX7_goPlan_8 : decode cX7_goPlan 8 = .ok (.pop, 1) := by decide +kernel
theorem dX7_goPlan_9 : decode cX7_goPlan 9 = .ok (.iload_n 1, 1) := by decide +kernel
theorem dX7_goPlan_10 : decode cX7_goPlan 10 = .ok (.iconst 1, 1) := by decide +kernel
theorem dX7_goPlan_11 : decode cX7_goPlan 11 = .ok (.if_icmp .ne 8, 3) := by decide +kernel
theorem dX7_goPlan_14 : decode cX7_goPlan 14 = .ok (.aload_n 0, 1) := by decide +kernel
theorem dX7_goPlan_15 : decode cX7_goPlan 15 = .ok (.iload_n 2, 1) := by decide +kernel
theorem dX7_goPlan_16 : decode cX7_goPlan 16 = .ok (.putfield 16, 3) := by decide +kernel
theorem dX7_goPlan_19 : decode cX7_goPlan 19 = .ok (.iload_n 1, 1) := by decide +kernel
theorem dX7_goPlan_20 : decode cX7_goPlan 20 = .ok (.iconst 2, 1) := by decide +kernel
theorem dX7_goPlan_21 : decode cX7_goPlan 21 = .ok (.if_icmp .ne 8, 3) := by decide +kernel
theorem dX7_goPlan_24 : decode cX7_goPlan 24 = .ok (.aload_n 0, 1) := by decide +kernel
theorem dX7_goPlan_25 : decode cX7_goPlan 25 = .ok (.iload_n 2, 1) := by decide +kernel
theorem dX7_goPlan_26 : decode cX7_goPlan 26 = .ok (.putfield 19, 3) := by decide +kernel
theorem dX7_goPlan_29 : decode cX7_goPlan 29 = .ok (.iload_n 1, 1) := by decide +kernel
theorem dX7_goPlan_30 : decode cX7_goPlan 30 = .ok (.iconst 3, 1) := by decide +kernel
theorem dX7_goPlan_31 : decode cX7_goPlan 31 = .ok (.if_icmp .ne 24, 3) := by decide +kernel
theorem dX7_goPlan_34 : decode cX7_goPlan 34 = .ok (.aload_n 0, 1) := by decide +kernel
theorem dX7_goPlan_35 : decode cX7_goPlan 35 = .ok (.iload_n 2, 1) := by decide +kernel
theorem dX7_goPlan_36 : decode cX7_goPlan 36 = .ok (.invokevirtual 287, 3) := by decide +kernel
theorem dX7_goPlan_39 : decode cX7_goPlan 39 = .ok (.ifCond .ge 16, 3) := by decide +kernel
theorem dX7_goPlan_42 : decode cX7_goPlan 42 = .ok (.aload_n 0, 1) := by decide +kernel
theorem dX7_goPlan_43 : decode cX7_goPlan 43 = .ok (.getfield 13, 3) := by decide +kernel
theorem dX7_goPlan_46 : decode cX7_goPlan 46 = .ok (.iconst 3, 1) := by decide +kernel
theorem dX7_goPlan_47 : decode cX7_goPlan 47 = .ok (.if_icmp .ge 8, 3) := by decide +kernel
theorem dX7_goPlan_50 : decode cX7_goPlan 50 = .ok (.aload_n 0, 1) := by decide +kernel
theorem dX7_goPlan_51 : decode cX7_goPlan 51 = .ok (.iload_n 2, 1) := by decide +kernel
theorem dX7_goPlan_52 : decode cX7_goPlan 52 = .ok (.invokevirtual 291, 3) := by decide +kernel
theorem dX7_goPlan_55 : decode cX7_goPlan 55 = .ok (.iload_n 1, 1) := by decide +kernel
theorem dX7_goPlan_56 : decode cX7_goPlan 56 = .ok (.iconst 4, 1) := by decide +kernel
theorem dX7_goPlan_57 : decode cX7_goPlan 57 = .ok (.if_icmp .ne 8, 3) := by decide +kernel
theorem dX7_goPlan_60 : decode cX7_goPlan 60 = .ok (.aload_n 0, 1) := by decide +kernel
theorem dX7_goPlan_61 : decode cX7_goPlan 61 = .ok (.iconst 0, 1) := by decide +kernel
theorem dX7_goPlan_62 : decode cX7_goPlan 62 = .ok (.putfield 13, 3) := by decide +kernel
theorem dX7_goPlan_65 : decode cX7_goPlan 65 = .ok (.return_, 1) := by decide +kernel
theorem dX7_ends_0 : decode cX7_ends 0 = .ok (.aload_n 0, 1) := by decide +kernel
theorem dX7_ends_1 : decode cX7_ends 1 = .ok (.iload_n 1, 1) := by decide +kernel
theorem dX7_ends_2 : decode cX7_ends 2 = .ok (.iconst 0, 1) := by decide +kernel
theorem dX7_ends_3 : decode cX7_ends 3 = .ok (.iconst 1, 1) := by decide +kernel
theorem dX7_ends_4 : decode cX7_ends 4 = .ok (.invokevirtual 276, 3) := by decide +kernel
theorem dX7_ends_7 : decode cX7_ends 7 = .ok (.ifCond .ne 5, 3) := by decide +kernel
theorem dX7_ends_10 : decode cX7_ends 10 = .ok (.iconst (-1), 1) := by decide +kernel
theorem dX7_ends_11 : decode cX7_ends 11 = .ok (.ireturn, 1) := by decide +kernel
theorem dX7_ends_12 : decode cX7_ends 12 = .ok (.aload_n 0, 1) := by decide +kernel
theorem dX7_ends_13 : decode cX7_ends 13 = .ok (.invokevirtual 402, 3) := by decide +kernel
theorem dX7_ends_16 : decode cX7_ends 16 = .ok (.iconst 0, 1) := by decide +kernel
theorem dX7_ends_17 : decode cX7_ends 17 = .ok (.istore_n 2, 1) := by decide +kernel
theorem dX7_ends_18 : decode cX7_ends 18 = .ok (.iload_n 2, 1) := by decide +kernel
theorem dX7_ends_19 : decode cX7_ends 19 = .ok (.aload_n 0, 1) := by decide +kernel
theorem dX7_ends_20 : decode cX7_ends 20 = .ok (.getfield 166, 3) := by decide +kernel
theorem dX7_ends_23 : decode cX7_ends 23 = .ok (.if_icmp .ge 25, 3) := by decide +kernel
theorem dX7_ends_26 : decode cX7_ends 26 = .ok (.aload_n 0, 1) := by decide +kernel
theorem dX7_ends_27 : decode cX7_ends 27 = .ok (.aload_n 0, 1) := by decide +kernel
theorem dX7_ends_28 : decode cX7_ends 28 = .ok (.getfield 172, 3) := by decide +kernel
theorem dX7_ends_31 : decode cX7_ends 31 = .ok (.iload_n 2, 1) := by decide +kernel
theorem dX7_ends_32 : decode cX7_ends 32 = .ok (.iaload, 1) := by decide +kernel
theorem dX7_ends_33 : decode cX7_ends 33 = .ok (.aload_n 0, 1) := by decide +kernel
theorem dX7_ends_34 : decode cX7_ends 34 = .ok (.getfield 175, 3) := by decide +kernel
theorem dX7_ends_37 : decode cX7_ends 37 = .ok (.iload_n 2, 1) := by decide +kernel
theorem dX7_ends_38 : decode cX7_ends 38 = .ok (.iaload, 1) := by decide +kernel
theorem dX7_ends_39 : decode cX7_ends 39 = .ok (.invokevirtual 436, 3) := by decide +kernel
theorem dX7_ends_42 : decode cX7_ends 42 = .ok (.iinc 2 1, 3) := by decide +kernel
theorem dX7_ends_45 : decode cX7_ends 45 = .ok (.goto (-27), 3) := by decide +kernel
theorem dX7_ends_48 : decode cX7_ends 48 = .ok (.iload_n 1, 1) := by decide +kernel
theorem dX7_ends_49 : decode cX7_ends 49 = .ok (.ifCond .ne 15, 3) := by decide +kernel
theorem dX7_ends_52 : decode cX7_ends 52 = .ok (.aload_n 0, 1) := by decide +kernel
theorem dX7_ends_53 : decode cX7_ends 53 = .ok (.getfield 22, 3) := by decide +kernel
theorem dX7_ends_56 : decode cX7_ends 56 = .ok (.aload_n 0, 1) := by decide +kernel
theorem dX7_ends_57 : decode cX7_ends 57 = .ok (.getfield 124, 3) := by decide +kernel
theorem dX7_ends_60 : decode cX7_ends 60 = .ok (.isub, 1) := by decide +kernel
theorem dX7_ends_61 : decode cX7_ends 61 = .ok (.goto 7, 3) := by decide +kernel
theorem dX7_ends_64 : decode cX7_ends 64 = .ok (.aload_n 0, 1) := by decide +kernel
theorem dX7_ends_65 : decode cX7_ends 65 = .ok (.invokevirtual 371, 3) := by decide +kernel
theorem dX7_ends_68 : decode cX7_ends 68 = .ok (.istore_n 2, 1) := by decide +kernel
theorem dX7_ends_69 : decode cX7_ends 69 = .ok (.aload_n 0, 1) := by decide +kernel
theorem dX7_ends_70 : decode cX7_ends 70 = .ok (.invokevirtual 405, 3) := by decide +kernel
theorem dX7_ends_73 : decode cX7_ends 73 = .ok (.iload_n 2, 1) := by decide +kernel
theorem dX7_ends_74 : decode cX7_ends 74 = .ok (.ireturn, 1) := by decide +kernel
theorem dX7_book_0 : decode cX7_book 0 = .ok (.iload_n 1, 1) := by decide +kernel
theorem dX7_book_1 : decode cX7_book 1 = .ok (.iconst (-1), 1) := by decide +kernel
theorem dX7_book_2 : decode cX7_book 2 = .ok (.if_icmp .ne 10, 3) := by decide +kernel
theorem dX7_book_5 : decode cX7_book 5 = .ok (.aload_n 0, 1) := by decide +kernel
theorem dX7_book_6 : decode cX7_book 6 = .ok (.iconst 0, 1) := by decide +kernel
theorem dX7_book_7 : decode cX7_book 7 = .ok (.putfield 169, 3) := by decide +kernel
theorem dX7_book_10 : decode cX7_book 10 = .ok (.iconst 0, 1) := by decide +kernel
theorem dX7_book_11 : decode cX7_book 11 = .ok (.ireturn, 1) := by decide +kernel
theorem dX7_book_12 : decode cX7_book 12 = .ok (.aload_n 0, 1) := by decide +kernel
theorem dX7_book_13 : decode cX7_book 13 = .ok (.iload_n 1, 1) := by decide +kernel
theorem dX7_book_14 : decode cX7_book 14 = .ok (.invokevirtual 280, 3) := by decide +kernel
theorem dX7_book_17 : decode cX7_book 17 = .ok (.ifCond .ne 5, 3) := by decide +kernel
theorem dX7_book_20 : decode cX7_book 20 = .ok (.iconst (-1), 1) := by decide +kernel
theorem dX7_book_21 : decode cX7_book 21 = .ok (.ireturn, 1) := by decide +kernel
theorem dX7_book_22 : decode cX7_book 22 = .ok (.aload_n 0, 1) := by decide +kernel
theorem dX7_book_23 : decode cX7_book 23 = .ok (.iload_n 2, 1) := by decide +kernel
theorem dX7_book_24 : decode cX7_book 24 = .ok (.invokevirtual 284, 3) := by decide +kernel
theorem dX7_book_27 : decode cX7_book 27 = .ok (.ifCond .ne 6, 3) := by decide +kernel
theorem dX7_book_30 : decode cX7_book 30 = .ok (.bipush (-2), 2) := by decide +kernel
theorem dX7_book_32 : decode cX7_book 32 = .ok (.ireturn, 1) := by decide +kernel
theorem dX7_book_33 : decode cX7_book 33 = .ok (.aload_n 0, 1) := by decide +kernel
theorem dX7_book_34 : decode cX7_book 34 = .ok (.getfield 169, 3) := by decide +kernel
theorem dX7_book_37 : decode cX7_book 37 = .ok (.bipush 8, 2) := by decide +kernel
theorem dX7_book_39 : decode cX7_book 39 = .ok (.if_icmp .ne 6, 3) := by decide +kernel
theorem dX7_book_42 : decode cX7_book 42 = .ok (.bipush (-4), 2) := by decide +kernel
theorem dX7_book_44 : decode cX7_book 44 = .ok (.ireturn, 1) := by decide +kernel
theorem dX7_book_45 : decode cX7_book 45 = .ok (.aload_n 0, 1) := by decide +kernel
theorem dX7_book_46 : decode cX7_book 46 = .ok (.getfield 178, 3) := by decide +kernel
theorem dX7_book_49 : decode cX7_book 49 = .ok (.aload_n 0, 1) := by decide +kernel
theorem dX7_book_50 : decode cX7_book 50 = .ok (.getfield 169, 3) := by decide +kernel
theorem dX7_book_53 : decode cX7_book 53 = .ok (.iload_n 1, 1) := by decide +kernel
theorem dX7_book_54 : decode cX7_book 54 = .ok (.iastore, 1) := by decide +kernel
theorem dX7_book_55 : decode cX7_book 55 = .ok (.aload_n 0, 1) := by decide +kernel
theorem dX7_book_56 : decode cX7_book 56 = .ok (.getfield 181, 3) := by decide +kernel
theorem dX7_book_59 : decode cX7_book 59 = .ok (.aload_n 0, 1) := by decide +kernel
theorem dX7_book_60 : decode cX7_book 60 = .ok (.getfield 169, 3) := by decide +kernel
theorem dX7_book_63 : decode cX7_book 63 = .ok (.iload_n 2, 1) := by decide +kernel
theorem dX7_book_64 : decode cX7_book 64 = .ok (.iastore, 1) := by decide +kernel
theorem dX7_book_65 : decode cX7_book 65 = .ok (.aload_n 0, 1) := by decide +kernel
theorem dX7_book_66 : decode cX7_book 66 = .ok (.dup, 1) := by decide +kernel
theorem dX7_book_67 : decode cX7_book 67 = .ok (.getfield 169, 3) := by decide +kernel
theorem dX7_book_70 : decode cX7_book 70 = .ok (.iconst 1, 1) := by decide +kernel
theorem dX7_book_71 : decode cX7_book 71 = .ok (.iadd, 1) := by decide +kernel
theorem dX7_book_72 : decode cX7_book 72 = .ok (.putfield 169, 3) := by decide +kernel
theorem dX7_book_75 : decode cX7_book 75 = .ok (.aload_n 0, 1) := by decide +kernel
theorem dX7_book_76 : decode cX7_book 76 = .ok (.getfield 169, 3) := by decide +kernel
theorem dX7_book_79 : decode cX7_book 79 = .ok (.ireturn, 1) := by decide +kernel
theorem dX7_looked_0 : decode cX7_looked 0 = .ok (.iconst 0, 1) := by decide +kernel
theorem dX7_looked_1 : decode cX7_looked 1 = .ok (.istore_n 1, 1) := by decide +kernel
theorem dX7_looked_2 : decode cX7_looked 2 = .ok (.iload_n 1, 1) := by decide +kernel
theorem dX7_looked_3 : decode cX7_looked 3 = .ok (.aload_n 0, 1) := by decide +kernel
theorem dX7_looked_4 : decode cX7_looked 4 = .ok (.getfield 169, 3) := by decide +kernel
theorem dX7_looked_7 : decode cX7_looked 7 = .ok (.if_icmp .ge 31, 3) := by decide +kernel
theorem dX7_looked_10 : decode cX7_looked 10 = .ok (.aload_n 0, 1) := by decide +kernel
theorem dX7_looked_11 : decode cX7_looked 11 = .ok (.getfield 35, 3) := by decide +kernel
theorem dX7_looked_14 : decode cX7_looked 14 = .ok (.aload_n 0, 1) := by decide +kernel
theorem dX7_looked_15 : decode cX7_looked 15 = .ok (.getfield 178, 3) := by decide +kernel
theorem dX7_looked_18 : decode cX7_looked 18 = .ok (.iload_n 1, 1) := by decide +kernel
theorem dX7_looked_19 : decode cX7_looked 19 = .ok (.iaload, 1) := by decide +kernel
theorem dX7_looked_20 : decode cX7_looked 20 = .ok (.iaload, 1) := by decide +kernel
theorem dX7_looked_21 : decode cX7_looked 21 = .ok (.aload_n 0, 1) := by decide +kernel
theorem dX7_looked_22 : decode cX7_looked 22 = .ok (.getfield 181, 3) := by decide +kernel
theorem dX7_looked_25 : decode cX7_looked 25 = .ok (.iload_n 1, 1) := by decide +kernel
theorem dX7_looked_26 : decode cX7_looked 26 = .ok (.iaload, 1) := by decide +kernel
theorem dX7_looked_27 : decode cX7_looked 27 = .ok (.if_icmp .eq 5, 3) := by decide +kernel
theorem dX7_looked_30 : decode cX7_looked 30 = .ok (.iload_n 1, 1) := by decide +kernel
theorem dX7_looked_31 : decode cX7_looked 31 = .ok (.ireturn, 1) := by decide +kernel
theorem dX7_looked_32 : decode cX7_looked 32 = .ok (.iinc 1 1, 3) := by decide +kernel
theorem dX7_looked_35 : decode cX7_looked 35 = .ok (.goto (-33), 3) := by decide +kernel
theorem dX7_looked_38 : decode cX7_looked 38 = .ok (.bipush (-5), 2) := by decide +kernel
theorem dX7_looked_40 : decode cX7_looked 40 = .ok (.ireturn, 1) := by decide +kernel
theorem dX7_judge_0 : decode cX7_judge 0 = .ok (.aload_n 0, 1) := by decide +kernel
theorem dX7_judge_1 : decode cX7_judge 1 = .ok (.iload_n 1, 1) := by decide +kernel
theorem dX7_judge_2 : decode cX7_judge 2 = .ok (.invokevirtual 440, 3) := by decide +kernel
theorem dX7_judge_5 : decode cX7_judge 5 = .ok (.ifCond .ne 5, 3) := by decide +kernel
theorem dX7_judge_8 : decode cX7_judge 8 = .ok (.iconst (-1), 1) := by decide +kernel
theorem dX7_judge_9 : decode cX7_judge 9 = .ok (.ireturn, 1) := by decide +kernel
theorem dX7_judge_10 : decode cX7_judge 10 = .ok (.aload_n 0, 1) := by decide +kernel
theorem dX7_judge_11 : decode cX7_judge 11 = .ok (.getfield 263, 3) := by decide +kernel
theorem dX7_judge_14 : decode cX7_judge 14 = .ok (.iload_n 1, 1) := by decide +kernel
theorem dX7_judge_15 : decode cX7_judge 15 = .ok (.iaload, 1) := by decide +kernel
theorem dX7_judge_16 : decode cX7_judge 16 = .ok (.ifCond .le 6, 3) := by decide +kernel
theorem dX7_judge_19 : decode cX7_judge 19 = .ok (.bipush (-12), 2) := by decide +kernel
theorem dX7_judge_21 : decode cX7_judge 21 = .ok (.ireturn, 1) := by decide +kernel
theorem dX7_judge_22 : decode cX7_judge 22 = .ok (.iconst 0, 1) := by decide +kernel
theorem dX7_judge_23 : decode cX7_judge 23 = .ok (.istore_n 3, 1) := by decide +kernel
theorem dX7_judge_24 : decode cX7_judge 24 = .ok (.iload_n 3, 1) := by decide +kernel
theorem dX7_judge_25 : decode cX7_judge 25 = .ok (.aload_n 0, 1) := by decide +kernel
theorem dX7_judge_26 : decode cX7_judge 26 = .ok (.getfield 7, 3) := by decide +kernel
theorem dX7_judge_29 : decode cX7_judge 29 = .ok (.if_icmp .ge 67, 3) := by decide +kernel
theorem dX7_judge_32 : decode cX7_judge 32 = .ok (.aload_n 0, 1) := by decide +kernel
theorem dX7_judge_33 : decode cX7_judge 33 = .ok (.getfield 263, 3) := by decide +kernel
theorem dX7_judge_36 : decode cX7_judge 36 = .ok (.iload_n 1, 1) := by decide +kernel
theorem dX7_judge_37 : decode cX7_judge 37 = .ok (.iaload, 1) := by decide +kernel
theorem dX7_judge_38 : decode cX7_judge 38 = .ok (.ifCond .lt 21, 3) := by decide +kernel
theorem dX7_judge_41 : decode cX7_judge 41 = .ok (.iload_n 2, 1) := by decide +kernel
theorem dX7_judge_42 : decode cX7_judge 42 = .ok (.ifCond .lt 17, 3) := by decide +kernel
theorem dX7_judge_45 : decode cX7_judge 45 = .ok (.iload_n 2, 1) := by decide +kernel
theorem dX7_judge_46 : decode cX7_judge 46 = .ok (.aload_n 0, 1) := by decide +kernel
theorem dX7_judge_47 : decode cX7_judge 47 = .ok (.getfield 266, 3) := by decide +kernel
theorem dX7_judge_50 : decode cX7_judge 50 = .ok (.iload_n 1, 1) := by decide +kernel
theorem dX7_judge_51 : decode cX7_judge 51 = .ok (.iaload, 1) := by decide +kernel
theorem dX7_judge_52 : decode cX7_judge 52 = .ok (.iload_n 3, 1) := by decide +kernel
theorem dX7_judge_53 : decode cX7_judge 53 = .ok (.isub, 1) := by decide +kernel
theorem dX7_judge_54 : decode cX7_judge 54 = .ok (.iconst 1, 1) := by decide +kernel
theorem dX7_judge_55 : decode cX7_judge 55 = .ok (.isub, 1) := by decide +kernel
theorem dX7_judge_56 : decode cX7_judge 56 = .ok (.if_icmp .le 8, 3) := by decide +kernel
theorem dX7_judge_59 : decode cX7_judge 59 = .ok (.bipush 100, 2) := by decide +kernel
theorem dX7_judge_61 : decode cX7_judge 61 = .ok (.iload_n 3, 1) := by decide +kernel
theorem dX7_judge_62 : decode cX7_judge 62 = .ok (.iadd, 1) := by decide +kernel
theorem dX7_judge_63 : decode cX7_judge 63 = .ok (.ireturn, 1) := by decide +kernel
theorem dX7_judge_64 : decode cX7_judge 64 = .ok (.aload_n 0, 1) := by decide +kernel
theorem dX7_judge_65 : decode cX7_judge 65 = .ok (.getfield 269, 3) := by decide +kernel
theorem dX7_judge_68 : decode cX7_judge 68 = .ok (.bipush 60, 2) := by decide +kernel
theorem dX7_judge_70 : decode cX7_judge 70 = .ok (.iload_n 1, 1) := by decide +kernel
theorem dX7_judge_71 : decode cX7_judge 71 = .ok (.imul, 1) := by decide +kernel
theorem dX7_judge_72 : decode cX7_judge 72 = .ok (.iload_n 2, 1) := by decide +kernel
theorem dX7_judge_73 : decode cX7_judge 73 = .ok (.iadd, 1) := by decide +kernel
theorem dX7_judge_74 : decode cX7_judge 74 = .ok (.iload_n 3, 1) := by decide +kernel
theorem dX7_judge_75 : decode cX7_judge 75 = .ok (.iadd, 1) := by decide +kernel
theorem dX7_judge_76 : decode cX7_judge 76 = .ok (.laload, 1) := by decide +kernel
theorem dX7_judge_77 : decode cX7_judge 77 = .ok (.aload_n 0, 1) := by decide +kernel
theorem dX7_judge_78 : decode cX7_judge 78 = .ok (.getfield 35, 3) := by decide +kernel
theorem dX7_judge_81 : decode cX7_judge 81 = .ok (.iload_n 3, 1) := by decide +kernel
theorem dX7_judge_82 : decode cX7_judge 82 = .ok (.iaload, 1) := by decide +kernel
theorem dX7_judge_83 : decode cX7_judge 83 = .ok (.i2l, 1) := by decide +kernel
theorem dX7_judge_84 : decode cX7_judge 84 = .ok (.lcmp, 1) := by decide +kernel
theorem dX7_judge_85 : decode cX7_judge 85 = .ok (.ifCond .eq 5, 3) := by decide +kernel
theorem dX7_judge_88 : decode cX7_judge 88 = .ok (.iload_n 3, 1) := by decide +kernel
theorem dX7_judge_89 : decode cX7_judge 89 = .ok (.ireturn, 1) := by decide +kernel
theorem dX7_judge_90 : decode cX7_judge 90 = .ok (.iinc 3 1, 3) := by decide +kernel
theorem dX7_judge_93 : decode cX7_judge 93 = .ok (.goto (-69), 3) := by decide +kernel
theorem dX7_judge_96 : decode cX7_judge 96 = .ok (.bipush (-5), 2) := by decide +kernel
theorem dX7_judge_98 : decode cX7_judge 98 = .ok (.ireturn, 1) := by decide +kernel
theorem dX7_image_0 : decode cX7_image 0 = .ok (.aload_n 0, 1) := by decide +kernel
theorem dX7_image_1 : decode cX7_image 1 = .ok (.iconst 1, 1) := by decide +kernel
theorem dX7_image_2 : decode cX7_image 2 = .ok (.putfield 184, 3) := by decide +kernel
theorem dX7_image_5 : decode cX7_image 5 = .ok (.aload_n 0, 1) := by decide +kernel
theorem dX7_image_6 : decode cX7_image 6 = .ok (.aload_n 0, 1) := by decide +kernel
theorem dX7_image_7 : decode cX7_image 7 = .ok (.getfield 53, 3) := by decide +kernel
theorem dX7_image_10 : decode cX7_image 10 = .ok (.putfield 188, 3) := by decide +kernel
theorem dX7_image_13 : decode cX7_image 13 = .ok (.aload_n 0, 1) := by decide +kernel
theorem dX7_image_14 : decode cX7_image 14 = .ok (.aload_n 0, 1) := by decide +kernel
theorem dX7_image_15 : decode cX7_image 15 = .ok (.getfield 7, 3) := by decide +kernel
theorem dX7_image_18 : decode cX7_image 18 = .ok (.putfield 191, 3) := by decide +kernel
theorem dX7_image_21 : decode cX7_image 21 = .ok (.aload_n 0, 1) := by decide +kernel
theorem dX7_image_22 : decode cX7_image 22 = .ok (.aload_n 0, 1) := by decide +kernel
theorem dX7_image_23 : decode cX7_image 23 = .ok (.getfield 13, 3) := by decide +kernel
theorem dX7_image_26 : decode cX7_image 26 = .ok (.putfield 194, 3) := by decide +kernel
theorem dX7_image_29 : decode cX7_image 29 = .ok (.aload_n 0, 1) := by decide +kernel
theorem dX7_image_30 : decode cX7_image 30 = .ok (.aload_n 0, 1) := by decide +kernel
theorem dX7_image_31 : decode cX7_image 31 = .ok (.getfield 16, 3) := by decide +kernel
theorem dX7_image_34 : decode cX7_image 34 = .ok (.putfield 197, 3) := by decide +kernel
theorem dX7_image_37 : decode cX7_image 37 = .ok (.aload_n 0, 1) := by decide +kernel
theorem dX7_image_38 : decode cX7_image 38 = .ok (.aload_n 0, 1) := by decide +kernel
theorem dX7_image_39 : decode cX7_image 39 = .ok (.getfield 19, 3) := by decide +kernel
theorem dX7_image_42 : decode cX7_image 42 = .ok (.putfield 200, 3) := by decide +kernel
theorem dX7_image_45 : decode cX7_image 45 = .ok (.aload_n 0, 1) := by decide +kernel
theorem dX7_image_46 : decode cX7_image 46 = .ok (.aload_n 0, 1) := by decide +kernel
theorem dX7_image_47 : decode cX7_image 47 = .ok (.getfield 22, 3) := by decide +kernel
theorem dX7_image_50 : decode cX7_image 50 = .ok (.putfield 203, 3) := by decide +kernel
theorem dX7_image_53 : decode cX7_image 53 = .ok (.aload_n 0, 1) := by decide +kernel
theorem dX7_image_54 : decode cX7_image 54 = .ok (.aload_n 0, 1) := by decide +kernel
theorem dX7_image_55 : decode cX7_image 55 = .ok (.getfield 25, 3) := by decide +kernel
theorem dX7_image_58 : decode cX7_image 58 = .ok (.putfield 206, 3) := by decide +kernel
theorem dX7_image_61 : decode cX7_image 61 = .ok (.aload_n 0, 1) := by decide +kernel
theorem dX7_image_62 : decode cX7_image 62 = .ok (.aload_n 0, 1) := by decide +kernel
theorem dX7_image_63 : decode cX7_image 63 = .ok (.getfield 157, 3) := by decide +kernel
theorem dX7_image_66 : decode cX7_image 66 = .ok (.putfield 209, 3) := by decide +kernel
theorem dX7_image_69 : decode cX7_image 69 = .ok (.aload_n 0, 1) := by decide +kernel
theorem dX7_image_70 : decode cX7_image 70 = .ok (.aload_n 0, 1) := by decide +kernel
theorem dX7_image_71 : decode cX7_image 71 = .ok (.getfield 166, 3) := by decide +kernel
theorem dX7_image_74 : decode cX7_image 74 = .ok (.putfield 212, 3) := by decide +kernel
theorem dX7_image_77 : decode cX7_image 77 = .ok (.aload_n 0, 1) := by decide +kernel
theorem dX7_image_78 : decode cX7_image 78 = .ok (.aload_n 0, 1) := by decide +kernel
theorem dX7_image_79 : decode cX7_image 79 = .ok (.getfield 169, 3) := by decide +kernel
theorem dX7_image_82 : decode cX7_image 82 = .ok (.putfield 215, 3) := by decide +kernel
theorem dX7_image_85 : decode cX7_image 85 = .ok (.iconst 0, 1) := by decide +kernel
theorem dX7_image_86 : decode cX7_image 86 = .ok (.istore_n 1, 1) := by decide +kernel
theorem dX7_image_87 : decode cX7_image 87 = .ok (.iload_n 1, 1) := by decide +kernel
theorem dX7_image_88 : decode cX7_image 88 = .ok (.bipush 6, 2) := by decide +kernel
theorem dX7_image_90 : decode cX7_image 90 = .ok (.if_icmp .ge 69, 3) := by decide +kernel
theorem dX7_image_93 : decode cX7_image 93 = .ok (.aload_n 0, 1) := by decide +kernel
theorem dX7_image_94 : decode cX7_image 94 = .ok (.getfield 218, 3) := by decide +kernel
theorem dX7_image_97 : decode cX7_image 97 = .ok (.iload_n 1, 1) := by decide +kernel
theorem dX7_image_98 : decode cX7_image 98 = .ok (.aload_n 0, 1) := by decide +kernel
theorem dX7_image_99 : decode cX7_image 99 = .ok (.getfield 28, 3) := by decide +kernel
theorem dX7_image_102 : decode cX7_image 102 = .ok (.iload_n 1, 1) := by decide +kernel
theorem dX7_image_103 : decode cX7_image 103 = .ok (.iaload, 1) := by decide +kernel
theorem dX7_image_104 : decode cX7_image 104 = .ok (.iastore, 1) := by decide +kernel
theorem dX7_image_105 : decode cX7_image 105 = .ok (.aload_n 0, 1) := by decide +kernel
theorem dX7_image_106 : decode cX7_image 106 = .ok (.getfield 221, 3) := by decide +kernel
theorem dX7_image_109 : decode cX7_image 109 = .ok (.iload_n 1, 1) := by decide +kernel
theorem dX7_image_110 : decode cX7_image 110 = .ok (.aload_n 0, 1) := by decide +kernel
theorem dX7_image_111 : decode cX7_image 111 = .ok (.getfield 32, 3) := by decide +kernel
theorem dX7_image_114 : decode cX7_image 114 = .ok (.iload_n 1, 1) := by decide +kernel
theorem dX7_image_115 : decode cX7_image 115 = .ok (.iaload, 1) := by decide +kernel
theorem dX7_image_116 : decode cX7_image 116 = .ok (.iastore, 1) := by decide +kernel
theorem dX7_image_117 : decode cX7_image 117 = .ok (.aload_n 0, 1) := by decide +kernel
theorem dX7_image_118 : decode cX7_image 118 = .ok (.getfield 224, 3) := by decide +kernel
theorem dX7_image_121 : decode cX7_image 121 = .ok (.iload_n 1, 1) := by decide +kernel
theorem dX7_image_122 : decode cX7_image 122 = .ok (.aload_n 0, 1) := by decide +kernel
theorem dX7_image_123 : decode cX7_image 123 = .ok (.getfield 35, 3) := by decide +kernel
theorem dX7_image_126 : decode cX7_image 126 = .ok (.iload_n 1, 1) := by decide +kernel
theorem dX7_image_127 : decode cX7_image 127 = .ok (.iaload, 1) := by decide +kernel
theorem dX7_image_128 : decode cX7_image 128 = .ok (.iastore, 1) := by decide +kernel
theorem dX7_image_129 : decode cX7_image 129 = .ok (.aload_n 0, 1) := by decide +kernel
theorem dX7_image_130 : decode cX7_image 130 = .ok (.getfield 227, 3) := by decide +kernel
theorem dX7_image_133 : decode cX7_image 133 = .ok (.iload_n 1, 1) := by decide +kernel
theorem dX7_image_134 : decode cX7_image 134 = .ok (.aload_n 0, 1) := by decide +kernel
theorem dX7_image_135 : decode cX7_image 135 = .ok (.getfield 38, 3) := by decide +kernel
theorem dX7_image_138 : decode cX7_image 138 = .ok (.iload_n 1, 1) := by decide +kernel
theorem dX7_image_139 : decode cX7_image 139 = .ok (.iaload, 1) := by decide +kernel
theorem dX7_image_140 : decode cX7_image 140 = .ok (.iastore, 1) := by decide +kernel
theorem dX7_image_141 : decode cX7_image 141 = .ok (.aload_n 0, 1) := by decide +kernel
theorem dX7_image_142 : decode cX7_image 142 = .ok (.getfield 230, 3) := by decide +kernel
theorem dX7_image_145 : decode cX7_image 145 = .ok (.iload_n 1, 1) := by decide +kernel
theorem dX7_image_146 : decode cX7_image 146 = .ok (.aload_n 0, 1) := by decide +kernel
theorem dX7_image_147 : decode cX7_image 147 = .ok (.getfield 41, 3) := by decide +kernel
theorem dX7_image_150 : decode cX7_image 150 = .ok (.iload_n 1, 1) := by decide +kernel
theorem dX7_image_151 : decode cX7_image 151 = .ok (.iaload, 1) := by decide +kernel
theorem dX7_image_152 : decode cX7_image 152 = .ok (.iastore, 1) := by decide +kernel
theorem dX7_image_153 : decode cX7_image 153 = .ok (.iinc 1 1, 3) := by decide +kernel
theorem dX7_image_156 : decode cX7_image 156 = .ok (.goto (-69), 3) := by decide +kernel
theorem dX7_image_159 : decode cX7_image 159 = .ok (.iconst 0, 1) := by decide +kernel
theorem dX7_image_160 : decode cX7_image 160 = .ok (.istore_n 1, 1) := by decide +kernel
theorem dX7_image_161 : decode cX7_image 161 = .ok (.iload_n 1, 1) := by decide +kernel
theorem dX7_image_162 : decode cX7_image 162 = .ok (.bipush 24, 2) := by decide +kernel
theorem dX7_image_164 : decode cX7_image 164 = .ok (.if_icmp .ge 21, 3) := by decide +kernel
theorem dX7_image_167 : decode cX7_image 167 = .ok (.aload_n 0, 1) := by decide +kernel
theorem dX7_image_168 : decode cX7_image 168 = .ok (.getfield 233, 3) := by decide +kernel
theorem dX7_image_171 : decode cX7_image 171 = .ok (.iload_n 1, 1) := by decide +kernel
theorem dX7_image_172 : decode cX7_image 172 = .ok (.aload_n 0, 1) := by decide +kernel
theorem dX7_image_173 : decode cX7_image 173 = .ok (.getfield 44, 3) := by decide +kernel
theorem dX7_image_176 : decode cX7_image 176 = .ok (.iload_n 1, 1) := by decide +kernel
theorem dX7_image_177 : decode cX7_image 177 = .ok (.iaload, 1) := by decide +kernel
theorem dX7_image_178 : decode cX7_image 178 = .ok (.iastore, 1) := by decide +kernel
theorem dX7_image_179 : decode cX7_image 179 = .ok (.iinc 1 1, 3) := by decide +kernel
theorem dX7_image_182 : decode cX7_image 182 = .ok (.goto (-21), 3) := by decide +kernel
theorem dX7_image_185 : decode cX7_image 185 = .ok (.iconst 0, 1) := by decide +kernel
theorem dX7_image_186 : decode cX7_image 186 = .ok (.istore_n 1, 1) := by decide +kernel
theorem dX7_image_187 : decode cX7_image 187 = .ok (.iload_n 1, 1) := by decide +kernel
theorem dX7_image_188 : decode cX7_image 188 = .ok (.iconst 3, 1) := by decide +kernel
theorem dX7_image_189 : decode cX7_image 189 = .ok (.if_icmp .ge 21, 3) := by decide +kernel
theorem dX7_image_192 : decode cX7_image 192 = .ok (.aload_n 0, 1) := by decide +kernel
theorem dX7_image_193 : decode cX7_image 193 = .ok (.getfield 236, 3) := by decide +kernel
theorem dX7_image_196 : decode cX7_image 196 = .ok (.iload_n 1, 1) := by decide +kernel
theorem dX7_image_197 : decode cX7_image 197 = .ok (.aload_n 0, 1) := by decide +kernel
theorem dX7_image_198 : decode cX7_image 198 = .ok (.getfield 47, 3) := by decide +kernel
theorem dX7_image_201 : decode cX7_image 201 = .ok (.iload_n 1, 1) := by decide +kernel
theorem dX7_image_202 : decode cX7_image 202 = .ok (.iaload, 1) := by decide +kernel
theorem dX7_image_203 : decode cX7_image 203 = .ok (.iastore, 1) := by decide +kernel
theorem dX7_image_204 : decode cX7_image 204 = .ok (.iinc 1 1, 3) := by decide +kernel
theorem dX7_image_207 : decode cX7_image 207 = .ok (.goto (-20), 3) := by decide +kernel
theorem dX7_image_210 : decode cX7_image 210 = .ok (.iconst 0, 1) := by decide +kernel
theorem dX7_image_211 : decode cX7_image 211 = .ok (.istore_n 1, 1) := by decide +kernel
theorem dX7_image_212 : decode cX7_image 212 = .ok (.iload_n 1, 1) := by decide +kernel
theorem dX7_image_213 : decode cX7_image 213 = .ok (.iconst 5, 1) := by decide +kernel
theorem dX7_image_214 : decode cX7_image 214 = .ok (.if_icmp .ge 33, 3) := by decide +kernel
theorem dX7_image_217 : decode cX7_image 217 = .ok (.aload_n 0, 1) := by decide +kernel
theorem dX7_image_218 : decode cX7_image 218 = .ok (.getfield 239, 3) := by decide +kernel
theorem dX7_image_221 : decode cX7_image 221 = .ok (.iload_n 1, 1) := by decide +kernel
theorem dX7_image_222 : decode cX7_image 222 = .ok (.aload_n 0, 1) := by decide +kernel
theorem dX7_image_223 : decode cX7_image 223 = .ok (.getfield 160, 3) := by decide +kernel
theorem dX7_image_226 : decode cX7_image 226 = .ok (.iload_n 1, 1) := by decide +kernel
theorem dX7_image_227 : decode cX7_image 227 = .ok (.iaload, 1) := by decide +kernel
theorem dX7_image_228 : decode cX7_image 228 = .ok (.iastore, 1) := by decide +kernel
theorem dX7_image_229 : decode cX7_image 229 = .ok (.aload_n 0, 1) := by decide +kernel
theorem dX7_image_230 : decode cX7_image 230 = .ok (.getfield 242, 3) := by decide +kernel
theorem dX7_image_233 : decode cX7_image 233 = .ok (.iload_n 1, 1) := by decide +kernel
theorem dX7_image_234 : decode cX7_image 234 = .ok (.aload_n 0, 1) := by decide +kernel
theorem dX7_image_235 : decode cX7_image 235 = .ok (.getfield 163, 3) := by decide +kernel
theorem dX7_image_238 : decode cX7_image 238 = .ok (.iload_n 1, 1) := by decide +kernel
theorem dX7_image_239 : decode cX7_image 239 = .ok (.iaload, 1) := by decide +kernel
theorem dX7_image_240 : decode cX7_image 240 = .ok (.iastore, 1) := by decide +kernel
theorem dX7_image_241 : decode cX7_image 241 = .ok (.iinc 1 1, 3) := by decide +kernel
theorem dX7_image_244 : decode cX7_image 244 = .ok (.goto (-32), 3) := by decide +kernel
theorem dX7_image_247 : decode cX7_image 247 = .ok (.iconst 0, 1) := by decide +kernel
theorem dX7_image_248 : decode cX7_image 248 = .ok (.istore_n 1, 1) := by decide +kernel
theorem dX7_image_249 : decode cX7_image 249 = .ok (.iload_n 1, 1) := by decide +kernel
theorem dX7_image_250 : decode cX7_image 250 = .ok (.bipush 10, 2) := by decide +kernel
theorem dX7_image_252 : decode cX7_image 252 = .ok (.if_icmp .ge 33, 3) := by decide +kernel
theorem dX7_image_255 : decode cX7_image 255 = .ok (.aload_n 0, 1) := by decide +kernel
theorem dX7_image_256 : decode cX7_image 256 = .ok (.getfield 245, 3) := by decide +kernel
theorem dX7_image_259 : decode cX7_image 259 = .ok (.iload_n 1, 1) := by decide +kernel
theorem dX7_image_260 : decode cX7_image 260 = .ok (.aload_n 0, 1) := by decide +kernel
theorem dX7_image_261 : decode cX7_image 261 = .ok (.getfield 172, 3) := by decide +kernel
theorem dX7_image_264 : decode cX7_image 264 = .ok (.iload_n 1, 1) := by decide +kernel
theorem dX7_image_265 : decode cX7_image 265 = .ok (.iaload, 1) := by decide +kernel
theorem dX7_image_266 : decode cX7_image 266 = .ok (.iastore, 1) := by decide +kernel
theorem dX7_image_267 : decode cX7_image 267 = .ok (.aload_n 0, 1) := by decide +kernel
theorem dX7_image_268 : decode cX7_image 268 = .ok (.getfield 248, 3) := by decide +kernel
theorem dX7_image_271 : decode cX7_image 271 = .ok (.iload_n 1, 1) := by decide +kernel
theorem dX7_image_272 : decode cX7_image 272 = .ok (.aload_n 0, 1) := by decide +kernel
theorem dX7_image_273 : decode cX7_image 273 = .ok (.getfield 175, 3) := by decide +kernel
theorem dX7_image_276 : decode cX7_image 276 = .ok (.iload_n 1, 1) := by decide +kernel
theorem dX7_image_277 : decode cX7_image 277 = .ok (.iaload, 1) := by decide +kernel
theorem dX7_image_278 : decode cX7_image 278 = .ok (.iastore, 1) := by decide +kernel
theorem dX7_image_279 : decode cX7_image 279 = .ok (.iinc 1 1, 3) := by decide +kernel
theorem dX7_image_282 : decode cX7_image 282 = .ok (.goto (-33), 3) := by decide +kernel
theorem dX7_image_285 : decode cX7_image 285 = .ok (.iconst 0, 1) := by decide +kernel
theorem dX7_image_286 : decode cX7_image 286 = .ok (.istore_n 1, 1) := by decide +kernel
theorem dX7_image_287 : decode cX7_image 287 = .ok (.iload_n 1, 1) := by decide +kernel
theorem dX7_image_288 : decode cX7_image 288 = .ok (.bipush 8, 2) := by decide +kernel
theorem dX7_image_290 : decode cX7_image 290 = .ok (.if_icmp .ge 33, 3) := by decide +kernel
theorem dX7_image_293 : decode cX7_image 293 = .ok (.aload_n 0, 1) := by decide +kernel
theorem dX7_image_294 : decode cX7_image 294 = .ok (.getfield 251, 3) := by decide +kernel
theorem dX7_image_297 : decode cX7_image 297 = .ok (.iload_n 1, 1) := by decide +kernel
theorem dX7_image_298 : decode cX7_image 298 = .ok (.aload_n 0, 1) := by decide +kernel
theorem dX7_image_299 : decode cX7_image 299 = .ok (.getfield 178, 3) := by decide +kernel
theorem dX7_image_302 : decode cX7_image 302 = .ok (.iload_n 1, 1) := by decide +kernel
theorem dX7_image_303 : decode cX7_image 303 = .ok (.iaload, 1) := by decide +kernel
theorem dX7_image_304 : decode cX7_image 304 = .ok (.iastore, 1) := by decide +kernel
theorem dX7_image_305 : decode cX7_image 305 = .ok (.aload_n 0, 1) := by decide +kernel
theorem dX7_image_306 : decode cX7_image 306 = .ok (.getfield 254, 3) := by decide +kernel
theorem dX7_image_309 : decode cX7_image 309 = .ok (.iload_n 1, 1) := by decide +kernel
theorem dX7_image_310 : decode cX7_image 310 = .ok (.aload_n 0, 1) := by decide +kernel
theorem dX7_image_311 : decode cX7_image 311 = .ok (.getfield 181, 3) := by decide +kernel
theorem dX7_image_314 : decode cX7_image 314 = .ok (.iload_n 1, 1) := by decide +kernel
theorem dX7_image_315 : decode cX7_image 315 = .ok (.iaload, 1) := by decide +kernel
theorem dX7_image_316 : decode cX7_image 316 = .ok (.iastore, 1) := by decide +kernel
theorem dX7_image_317 : decode cX7_image 317 = .ok (.iinc 1 1, 3) := by decide +kernel
theorem dX7_image_320 : decode cX7_image 320 = .ok (.goto (-33), 3) := by decide +kernel
theorem dX7_image_323 : decode cX7_image 323 = .ok (.aload_n 0, 1) := by decide +kernel
theorem dX7_image_324 : decode cX7_image 324 = .ok (.getfield 7, 3) := by decide +kernel
theorem dX7_image_327 : decode cX7_image 327 = .ok (.ireturn, 1) := by decide +kernel
theorem dX7_undo_0 : decode cX7_undo 0 = .ok (.aload_n 0, 1) := by decide +kernel
theorem dX7_undo_1 : decode cX7_undo 1 = .ok (.getfield 184, 3) := by decide +kernel
theorem dX7_undo_4 : decode cX7_undo 4 = .ok (.ifCond .ne 6, 3) := by decide +kernel
theorem dX7_undo_7 : decode cX7_undo 7 = .ok (.bipush (-3), 2) := by decide +kernel
theorem dX7_undo_9 : decode cX7_undo 9 = .ok (.ireturn, 1) := by decide +kernel
theorem dX7_undo_10 : decode cX7_undo 10 = .ok (.aload_n 0, 1) := by decide +kernel
theorem dX7_undo_11 : decode cX7_undo 11 = .ok (.aload_n 0, 1) := by decide +kernel
theorem dX7_undo_12 : decode cX7_undo 12 = .ok (.getfield 188, 3) := by decide +kernel
theorem dX7_undo_15 : decode cX7_undo 15 = .ok (.putfield 53, 3) := by decide +kernel
theorem dX7_undo_18 : decode cX7_undo 18 = .ok (.aload_n 0, 1) := by decide +kernel
theorem dX7_undo_19 : decode cX7_undo 19 = .ok (.aload_n 0, 1) := by decide +kernel
theorem dX7_undo_20 : decode cX7_undo 20 = .ok (.getfield 191, 3) := by decide +kernel
theorem dX7_undo_23 : decode cX7_undo 23 = .ok (.putfield 7, 3) := by decide +kernel
theorem dX7_undo_26 : decode cX7_undo 26 = .ok (.aload_n 0, 1) := by decide +kernel
theorem dX7_undo_27 : decode cX7_undo 27 = .ok (.aload_n 0, 1) := by decide +kernel
theorem dX7_undo_28 : decode cX7_undo 28 = .ok (.getfield 194, 3) := by decide +kernel
theorem dX7_undo_31 : decode cX7_undo 31 = .ok (.putfield 13, 3) := by decide +kernel
theorem dX7_undo_34 : decode cX7_undo 34 = .ok (.aload_n 0, 1) := by decide +kernel
theorem dX7_undo_35 : decode cX7_undo 35 = .ok (.aload_n 0, 1) := by decide +kernel
theorem dX7_undo_36 : decode cX7_undo 36 = .ok (.getfield 197, 3) := by decide +kernel
theorem dX7_undo_39 : decode cX7_undo 39 = .ok (.putfield 16, 3) := by decide +kernel
theorem dX7_undo_42 : decode cX7_undo 42 = .ok (.aload_n 0, 1) := by decide +kernel
theorem dX7_undo_43 : decode cX7_undo 43 = .ok (.aload_n 0, 1) := by decide +kernel
theorem dX7_undo_44 : decode cX7_undo 44 = .ok (.getfield 200, 3) := by decide +kernel
theorem dX7_undo_47 : decode cX7_undo 47 = .ok (.putfield 19, 3) := by decide +kernel
theorem dX7_undo_50 : decode cX7_undo 50 = .ok (.aload_n 0, 1) := by decide +kernel
theorem dX7_undo_51 : decode cX7_undo 51 = .ok (.aload_n 0, 1) := by decide +kernel
theorem dX7_undo_52 : decode cX7_undo 52 = .ok (.getfield 203, 3) := by decide +kernel
theorem dX7_undo_55 : decode cX7_undo 55 = .ok (.putfield 22, 3) := by decide +kernel
theorem dX7_undo_58 : decode cX7_undo 58 = .ok (.aload_n 0, 1) := by decide +kernel
theorem dX7_undo_59 : decode cX7_undo 59 = .ok (.aload_n 0, 1) := by decide +kernel
theorem dX7_undo_60 : decode cX7_undo 60 = .ok (.getfield 206, 3) := by decide +kernel
theorem dX7_undo_63 : decode cX7_undo 63 = .ok (.putfield 25, 3) := by decide +kernel
theorem dX7_undo_66 : decode cX7_undo 66 = .ok (.aload_n 0, 1) := by decide +kernel
theorem dX7_undo_67 : decode cX7_undo 67 = .ok (.aload_n 0, 1) := by decide +kernel
theorem dX7_undo_68 : decode cX7_undo 68 = .ok (.getfield 209, 3) := by decide +kernel
theorem dX7_undo_71 : decode cX7_undo 71 = .ok (.putfield 157, 3) := by decide +kernel
theorem dX7_undo_74 : decode cX7_undo 74 = .ok (.aload_n 0, 1) := by decide +kernel
theorem dX7_undo_75 : decode cX7_undo 75 = .ok (.aload_n 0, 1) := by decide +kernel
theorem dX7_undo_76 : decode cX7_undo 76 = .ok (.getfield 212, 3) := by decide +kernel
theorem dX7_undo_79 : decode cX7_undo 79 = .ok (.putfield 166, 3) := by decide +kernel
theorem dX7_undo_82 : decode cX7_undo 82 = .ok (.aload_n 0, 1) := by decide +kernel
theorem dX7_undo_83 : decode cX7_undo 83 = .ok (.aload_n 0, 1) := by decide +kernel
theorem dX7_undo_84 : decode cX7_undo 84 = .ok (.getfield 215, 3) := by decide +kernel
theorem dX7_undo_87 : decode cX7_undo 87 = .ok (.putfield 169, 3) := by decide +kernel
theorem dX7_undo_90 : decode cX7_undo 90 = .ok (.iconst 0, 1) := by decide +kernel
theorem dX7_undo_91 : decode cX7_undo 91 = .ok (.istore_n 1, 1) := by decide +kernel
theorem dX7_undo_92 : decode cX7_undo 92 = .ok (.iload_n 1, 1) := by decide +kernel
theorem dX7_undo_93 : decode cX7_undo 93 = .ok (.bipush 6, 2) := by decide +kernel
theorem dX7_undo_95 : decode cX7_undo 95 = .ok (.if_icmp .ge 69, 3) := by decide +kernel
theorem dX7_undo_98 : decode cX7_undo 98 = .ok (.aload_n 0, 1) := by decide +kernel
theorem dX7_undo_99 : decode cX7_undo 99 = .ok (.getfield 28, 3) := by decide +kernel
theorem dX7_undo_102 : decode cX7_undo 102 = .ok (.iload_n 1, 1) := by decide +kernel
theorem dX7_undo_103 : decode cX7_undo 103 = .ok (.aload_n 0, 1) := by decide +kernel
theorem dX7_undo_104 : decode cX7_undo 104 = .ok (.getfield 218, 3) := by decide +kernel
theorem dX7_undo_107 : decode cX7_undo 107 = .ok (.iload_n 1, 1) := by decide +kernel
theorem dX7_undo_108 : decode cX7_undo 108 = .ok (.iaload, 1) := by decide +kernel
theorem dX7_undo_109 : decode cX7_undo 109 = .ok (.iastore, 1) := by decide +kernel
theorem dX7_undo_110 : decode cX7_undo 110 = .ok (.aload_n 0, 1) := by decide +kernel
theorem dX7_undo_111 : decode cX7_undo 111 = .ok (.getfield 32, 3) := by decide +kernel
theorem dX7_undo_114 : decode cX7_undo 114 = .ok (.iload_n 1, 1) := by decide +kernel
theorem dX7_undo_115 : decode cX7_undo 115 = .ok (.aload_n 0, 1) := by decide +kernel
theorem dX7_undo_116 : decode cX7_undo 116 = .ok (.getfield 221, 3) := by decide +kernel
theorem dX7_undo_119 : decode cX7_undo 119 = .ok (.iload_n 1, 1) := by decide +kernel
theorem dX7_undo_120 : decode cX7_undo 120 = .ok (.iaload, 1) := by decide +kernel
theorem dX7_undo_121 : decode cX7_undo 121 = .ok (.iastore, 1) := by decide +kernel
theorem dX7_undo_122 : decode cX7_undo 122 = .ok (.aload_n 0, 1) := by decide +kernel
theorem dX7_undo_123 : decode cX7_undo 123 = .ok (.getfield 35, 3) := by decide +kernel
theorem dX7_undo_126 : decode cX7_undo 126 = .ok (.iload_n 1, 1) := by decide +kernel
theorem dX7_undo_127 : decode cX7_undo 127 = .ok (.aload_n 0, 1) := by decide +kernel
theorem dX7_undo_128 : decode cX7_undo 128 = .ok (.getfield 224, 3) := by decide +kernel
theorem dX7_undo_131 : decode cX7_undo 131 = .ok (.iload_n 1, 1) := by decide +kernel
theorem dX7_undo_132 : decode cX7_undo 132 = .ok (.iaload, 1) := by decide +kernel
theorem dX7_undo_133 : decode cX7_undo 133 = .ok (.iastore, 1) := by decide +kernel
theorem dX7_undo_134 : decode cX7_undo 134 = .ok (.aload_n 0, 1) := by decide +kernel
theorem dX7_undo_135 : decode cX7_undo 135 = .ok (.getfield 38, 3) := by decide +kernel
theorem dX7_undo_138 : decode cX7_undo 138 = .ok (.iload_n 1, 1) := by decide +kernel
theorem dX7_undo_139 : decode cX7_undo 139 = .ok (.aload_n 0, 1) := by decide +kernel
theorem dX7_undo_140 : decode cX7_undo 140 = .ok (.getfield 227, 3) := by decide +kernel
theorem dX7_undo_143 : decode cX7_undo 143 = .ok (.iload_n 1, 1) := by decide +kernel
theorem dX7_undo_144 : decode cX7_undo 144 = .ok (.iaload, 1) := by decide +kernel
theorem dX7_undo_145 : decode cX7_undo 145 = .ok (.iastore, 1) := by decide +kernel
theorem dX7_undo_146 : decode cX7_undo 146 = .ok (.aload_n 0, 1) := by decide +kernel
theorem dX7_undo_147 : decode cX7_undo 147 = .ok (.getfield 41, 3) := by decide +kernel
theorem dX7_undo_150 : decode cX7_undo 150 = .ok (.iload_n 1, 1) := by decide +kernel
theorem dX7_undo_151 : decode cX7_undo 151 = .ok (.aload_n 0, 1) := by decide +kernel
theorem dX7_undo_152 : decode cX7_undo 152 = .ok (.getfield 230, 3) := by decide +kernel
theorem dX7_undo_155 : decode cX7_undo 155 = .ok (.iload_n 1, 1) := by decide +kernel
theorem dX7_undo_156 : decode cX7_undo 156 = .ok (.iaload, 1) := by decide +kernel
theorem dX7_undo_157 : decode cX7_undo 157 = .ok (.iastore, 1) := by decide +kernel
theorem dX7_undo_158 : decode cX7_undo 158 = .ok (.iinc 1 1, 3) := by decide +kernel
theorem dX7_undo_161 : decode cX7_undo 161 = .ok (.goto (-69), 3) := by decide +kernel
theorem dX7_undo_164 : decode cX7_undo 164 = .ok (.iconst 0, 1) := by decide +kernel
theorem dX7_undo_165 : decode cX7_undo 165 = .ok (.istore_n 1, 1) := by decide +kernel
theorem dX7_undo_166 : decode cX7_undo 166 = .ok (.iload_n 1, 1) := by decide +kernel
theorem dX7_undo_167 : decode cX7_undo 167 = .ok (.bipush 24, 2) := by decide +kernel
theorem dX7_undo_169 : decode cX7_undo 169 = .ok (.if_icmp .ge 21, 3) := by decide +kernel
theorem dX7_undo_172 : decode cX7_undo 172 = .ok (.aload_n 0, 1) := by decide +kernel
theorem dX7_undo_173 : decode cX7_undo 173 = .ok (.getfield 44, 3) := by decide +kernel
theorem dX7_undo_176 : decode cX7_undo 176 = .ok (.iload_n 1, 1) := by decide +kernel
theorem dX7_undo_177 : decode cX7_undo 177 = .ok (.aload_n 0, 1) := by decide +kernel
theorem dX7_undo_178 : decode cX7_undo 178 = .ok (.getfield 233, 3) := by decide +kernel
theorem dX7_undo_181 : decode cX7_undo 181 = .ok (.iload_n 1, 1) := by decide +kernel
theorem dX7_undo_182 : decode cX7_undo 182 = .ok (.iaload, 1) := by decide +kernel
theorem dX7_undo_183 : decode cX7_undo 183 = .ok (.iastore, 1) := by decide +kernel
theorem dX7_undo_184 : decode cX7_undo 184 = .ok (.iinc 1 1, 3) := by decide +kernel
theorem dX7_undo_187 : decode cX7_undo 187 = .ok (.goto (-21), 3) := by decide +kernel
theorem dX7_undo_190 : decode cX7_undo 190 = .ok (.iconst 0, 1) := by decide +kernel
theorem dX7_undo_191 : decode cX7_undo 191 = .ok (.istore_n 1, 1) := by decide +kernel
theorem dX7_undo_192 : decode cX7_undo 192 = .ok (.iload_n 1, 1) := by decide +kernel
theorem dX7_undo_193 : decode cX7_undo 193 = .ok (.iconst 3, 1) := by decide +kernel
theorem dX7_undo_194 : decode cX7_undo 194 = .ok (.if_icmp .ge 21, 3) := by decide +kernel
theorem dX7_undo_197 : decode cX7_undo 197 = .ok (.aload_n 0, 1) := by decide +kernel
theorem dX7_undo_198 : decode cX7_undo 198 = .ok (.getfield 47, 3) := by decide +kernel
theorem dX7_undo_201 : decode cX7_undo 201 = .ok (.iload_n 1, 1) := by decide +kernel
theorem dX7_undo_202 : decode cX7_undo 202 = .ok (.aload_n 0, 1) := by decide +kernel
theorem dX7_undo_203 : decode cX7_undo 203 = .ok (.getfield 236, 3) := by decide +kernel
theorem dX7_undo_206 : decode cX7_undo 206 = .ok (.iload_n 1, 1) := by decide +kernel
theorem dX7_undo_207 : decode cX7_undo 207 = .ok (.iaload, 1) := by decide +kernel
theorem dX7_undo_208 : decode cX7_undo 208 = .ok (.iastore, 1) := by decide +kernel
theorem dX7_undo_209 : decode cX7_undo 209 = .ok (.iinc 1 1, 3) := by decide +kernel
theorem dX7_undo_212 : decode cX7_undo 212 = .ok (.goto (-20), 3) := by decide +kernel
theorem dX7_undo_215 : decode cX7_undo 215 = .ok (.iconst 0, 1) := by decide +kernel
theorem dX7_undo_216 : decode cX7_undo 216 = .ok (.istore_n 1, 1) := by decide +kernel
theorem dX7_undo_217 : decode cX7_undo 217 = .ok (.iload_n 1, 1) := by decide +kernel
theorem dX7_undo_218 : decode cX7_undo 218 = .ok (.iconst 5, 1) := by decide +kernel
theorem dX7_undo_219 : decode cX7_undo 219 = .ok (.if_icmp .ge 33, 3) := by decide +kernel
theorem dX7_undo_222 : decode cX7_undo 222 = .ok (.aload_n 0, 1) := by decide +kernel
theorem dX7_undo_223 : decode cX7_undo 223 = .ok (.getfield 160, 3) := by decide +kernel
theorem dX7_undo_226 : decode cX7_undo 226 = .ok (.iload_n 1, 1) := by decide +kernel
theorem dX7_undo_227 : decode cX7_undo 227 = .ok (.aload_n 0, 1) := by decide +kernel
theorem dX7_undo_228 : decode cX7_undo 228 = .ok (.getfield 239, 3) := by decide +kernel
theorem dX7_undo_231 : decode cX7_undo 231 = .ok (.iload_n 1, 1) := by decide +kernel
theorem dX7_undo_232 : decode cX7_undo 232 = .ok (.iaload, 1) := by decide +kernel
theorem dX7_undo_233 : decode cX7_undo 233 = .ok (.iastore, 1) := by decide +kernel
theorem dX7_undo_234 : decode cX7_undo 234 = .ok (.aload_n 0, 1) := by decide +kernel
theorem dX7_undo_235 : decode cX7_undo 235 = .ok (.getfield 163, 3) := by decide +kernel
theorem dX7_undo_238 : decode cX7_undo 238 = .ok (.iload_n 1, 1) := by decide +kernel
theorem dX7_undo_239 : decode cX7_undo 239 = .ok (.aload_n 0, 1) := by decide +kernel
theorem dX7_undo_240 : decode cX7_undo 240 = .ok (.getfield 242, 3) := by decide +kernel
theorem dX7_undo_243 : decode cX7_undo 243 = .ok (.iload_n 1, 1) := by decide +kernel
theorem dX7_undo_244 : decode cX7_undo 244 = .ok (.iaload, 1) := by decide +kernel
theorem dX7_undo_245 : decode cX7_undo 245 = .ok (.iastore, 1) := by decide +kernel
theorem dX7_undo_246 : decode cX7_undo 246 = .ok (.iinc 1 1, 3) := by decide +kernel
theorem dX7_undo_249 : decode cX7_undo 249 = .ok (.goto (-32), 3) := by decide +kernel
theorem dX7_undo_252 : decode cX7_undo 252 = .ok (.iconst 0, 1) := by decide +kernel
theorem dX7_undo_253 : decode cX7_undo 253 = .ok (.istore_n 1, 1) := by decide +kernel
theorem dX7_undo_254 : decode cX7_undo 254 = .ok (.iload_n 1, 1) := by decide +kernel
theorem dX7_undo_255 : decode cX7_undo 255 = .ok (.bipush 10, 2) := by decide +kernel
theorem dX7_undo_257 : decode cX7_undo 257 = .ok (.if_icmp .ge 33, 3) := by decide +kernel
theorem dX7_undo_260 : decode cX7_undo 260 = .ok (.aload_n 0, 1) := by decide +kernel
theorem dX7_undo_261 : decode cX7_undo 261 = .ok (.getfield 172, 3) := by decide +kernel
theorem dX7_undo_264 : decode cX7_undo 264 = .ok (.iload_n 1, 1) := by decide +kernel
theorem dX7_undo_265 : decode cX7_undo 265 = .ok (.aload_n 0, 1) := by decide +kernel
theorem dX7_undo_266 : decode cX7_undo 266 = .ok (.getfield 245, 3) := by decide +kernel
theorem dX7_undo_269 : decode cX7_undo 269 = .ok (.iload_n 1, 1) := by decide +kernel
theorem dX7_undo_270 : decode cX7_undo 270 = .ok (.iaload, 1) := by decide +kernel
theorem dX7_undo_271 : decode cX7_undo 271 = .ok (.iastore, 1) := by decide +kernel
theorem dX7_undo_272 : decode cX7_undo 272 = .ok (.aload_n 0, 1) := by decide +kernel
theorem dX7_undo_273 : decode cX7_undo 273 = .ok (.getfield 175, 3) := by decide +kernel
theorem dX7_undo_276 : decode cX7_undo 276 = .ok (.iload_n 1, 1) := by decide +kernel
theorem dX7_undo_277 : decode cX7_undo 277 = .ok (.aload_n 0, 1) := by decide +kernel
theorem dX7_undo_278 : decode cX7_undo 278 = .ok (.getfield 248, 3) := by decide +kernel
theorem dX7_undo_281 : decode cX7_undo 281 = .ok (.iload_n 1, 1) := by decide +kernel
theorem dX7_undo_282 : decode cX7_undo 282 = .ok (.iaload, 1) := by decide +kernel
theorem dX7_undo_283 : decode cX7_undo 283 = .ok (.iastore, 1) := by decide +kernel
theorem dX7_undo_284 : decode cX7_undo 284 = .ok (.iinc 1 1, 3) := by decide +kernel
theorem dX7_undo_287 : decode cX7_undo 287 = .ok (.goto (-33), 3) := by decide +kernel
theorem dX7_undo_290 : decode cX7_undo 290 = .ok (.iconst 0, 1) := by decide +kernel
theorem dX7_undo_291 : decode cX7_undo 291 = .ok (.istore_n 1, 1) := by decide +kernel
theorem dX7_undo_292 : decode cX7_undo 292 = .ok (.iload_n 1, 1) := by decide +kernel
theorem dX7_undo_293 : decode cX7_undo 293 = .ok (.bipush 8, 2) := by decide +kernel
theorem dX7_undo_295 : decode cX7_undo 295 = .ok (.if_icmp .ge 33, 3) := by decide +kernel
theorem dX7_undo_298 : decode cX7_undo 298 = .ok (.aload_n 0, 1) := by decide +kernel
theorem dX7_undo_299 : decode cX7_undo 299 = .ok (.getfield 178, 3) := by decide +kernel
theorem dX7_undo_302 : decode cX7_undo 302 = .ok (.iload_n 1, 1) := by decide +kernel
theorem dX7_undo_303 : decode cX7_undo 303 = .ok (.aload_n 0, 1) := by decide +kernel
theorem dX7_undo_304 : decode cX7_undo 304 = .ok (.getfield 251, 3) := by decide +kernel
theorem dX7_undo_307 : decode cX7_undo 307 = .ok (.iload_n 1, 1) := by decide +kernel
theorem dX7_undo_308 : decode cX7_undo 308 = .ok (.iaload, 1) := by decide +kernel
theorem dX7_undo_309 : decode cX7_undo 309 = .ok (.iastore, 1) := by decide +kernel
theorem dX7_undo_310 : decode cX7_undo 310 = .ok (.aload_n 0, 1) := by decide +kernel
theorem dX7_undo_311 : decode cX7_undo 311 = .ok (.getfield 181, 3) := by decide +kernel
theorem dX7_undo_314 : decode cX7_undo 314 = .ok (.iload_n 1, 1) := by decide +kernel
theorem dX7_undo_315 : decode cX7_undo 315 = .ok (.aload_n 0, 1) := by decide +kernel
theorem dX7_undo_316 : decode cX7_undo 316 = .ok (.getfield 254, 3) := by decide +kernel
theorem dX7_undo_319 : decode cX7_undo 319 = .ok (.iload_n 1, 1) := by decide +kernel
theorem dX7_undo_320 : decode cX7_undo 320 = .ok (.iaload, 1) := by decide +kernel
theorem dX7_undo_321 : decode cX7_undo 321 = .ok (.iastore, 1) := by decide +kernel
theorem dX7_undo_322 : decode cX7_undo 322 = .ok (.iinc 1 1, 3) := by decide +kernel
theorem dX7_undo_325 : decode cX7_undo 325 = .ok (.goto (-33), 3) := by decide +kernel
theorem dX7_undo_328 : decode cX7_undo 328 = .ok (.aload_n 0, 1) := by decide +kernel
theorem dX7_undo_329 : decode cX7_undo 329 = .ok (.getfield 7, 3) := by decide +kernel
theorem dX7_undo_332 : decode cX7_undo 332 = .ok (.ireturn, 1) := by decide +kernel
theorem dX7_body_0 : decode cX7_body 0 = .ok (.aload_n 0, 1) := by decide +kernel
theorem dX7_body_1 : decode cX7_body 1 = .ok (.getfield 257, 3) := by decide +kernel
theorem dX7_body_4 : decode cX7_body 4 = .ok (.bipush 20, 2) := by decide +kernel
theorem dX7_body_6 : decode cX7_body 6 = .ok (.if_icmp .ge 13, 3) := by decide +kernel
theorem dX7_body_9 : decode cX7_body 9 = .ok (.aload_n 0, 1) := by decide +kernel
theorem dX7_body_10 : decode cX7_body 10 = .ok (.getfield 260, 3) := by decide +kernel
theorem dX7_body_13 : decode cX7_body 13 = .ok (.aload_n 0, 1) := by decide +kernel
theorem dX7_body_14 : decode cX7_body 14 = .ok (.getfield 257, 3) := by decide +kernel
theorem dX7_body_17 : decode cX7_body 17 = .ok (.iload_n 1, 1) := by decide +kernel
theorem dX7_body_18 : decode cX7_body 18 = .ok (.iastore, 1) := by decide +kernel
theorem dX7_body_19 : decode cX7_body 19 = .ok (.aload_n 0, 1) := by decide +kernel
theorem dX7_body_20 : decode cX7_body 20 = .ok (.dup, 1) := by decide +kernel
theorem dX7_body_21 : decode cX7_body 21 = .ok (.getfield 257, 3) := by decide +kernel
theorem dX7_body_24 : decode cX7_body 24 = .ok (.iconst 1, 1) := by decide +kernel
theorem dX7_body_25 : decode cX7_body 25 = .ok (.iadd, 1) := by decide +kernel
theorem dX7_body_26 : decode cX7_body 26 = .ok (.putfield 257, 3) := by decide +kernel
theorem dX7_body_29 : decode cX7_body 29 = .ok (.return_, 1) := by decide +kernel
theorem dX7_pieceBends_0 : decode cX7_pieceBends 0 = .ok (.aload_n 0, 1) := by decide +kernel
theorem dX7_pieceBends_1 : decode cX7_pieceBends 1 = .ok (.bipush 10, 2) := by decide +kernel
theorem dX7_pieceBends_3 : decode cX7_pieceBends 3 = .ok (.invokevirtual 443, 3) := by decide +kernel
theorem dX7_pieceBends_6 : decode cX7_pieceBends 6 = .ok (.iload_n 2, 1) := by decide +kernel
theorem dX7_pieceBends_7 : decode cX7_pieceBends 7 = .ok (.iload_n 1, 1) := by decide +kernel
theorem dX7_pieceBends_8 : decode cX7_pieceBends 8 = .ok (.iadd, 1) := by decide +kernel
theorem dX7_pieceBends_9 : decode cX7_pieceBends 9 = .ok (.ireturn, 1) := by decide +kernel
theorem dX7_bendsAct_0 : decode cX7_bendsAct 0 = .ok (.aload_n 0, 1) := by decide +kernel
theorem dX7_bendsAct_1 : decode cX7_bendsAct 1 = .ok (.getfield 28, 3) := by decide +kernel
theorem dX7_bendsAct_4 : decode cX7_bendsAct 4 = .ok (.iload_n 1, 1) := by decide +kernel
theorem dX7_bendsAct_5 : decode cX7_bendsAct 5 = .ok (.iaload, 1) := by decide +kernel
theorem dX7_bendsAct_6 : decode cX7_bendsAct 6 = .ok (.tableswitch 83 2 6 #[34, 83, 49, 34, 63], 34) := by decide +kernel
theorem dX7_bendsAct_40 : decode cX7_bendsAct 40 = .ok (.aload_n 0, 1) := by decide +kernel
theorem dX7_bendsAct_41 : decode cX7_bendsAct 41 = .ok (.bipush 30, 2) := by decide +kernel
theorem dX7_bendsAct_43 : decode cX7_bendsAct 43 = .ok (.invokevirtual 443, 3) := by decide +kernel
theorem dX7_bendsAct_46 : decode cX7_bendsAct 46 = .ok (.aload_n 0, 1) := by decide +kernel
theorem dX7_bendsAct_47 : decode cX7_bendsAct 47 = .ok (.iload_n 1, 1) := by decide +kernel
theorem dX7_bendsAct_48 : decode cX7_bendsAct 48 = .ok (.iload_n 2, 1) := by decide +kernel
theorem dX7_bendsAct_49 : decode cX7_bendsAct 49 = .ok (.iconst 3, 1) := by decide +kernel
theorem dX7_bendsAct_50 : decode cX7_bendsAct 50 = .ok (.imul, 1) := by decide +kernel
theorem dX7_bendsAct_51 : decode cX7_bendsAct 51 = .ok (.invokevirtual 446, 3) := by decide +kernel
theorem dX7_bendsAct_54 : decode cX7_bendsAct 54 = .ok (.ireturn, 1) := by decide +kernel
theorem dX7_bendsAct_55 : decode cX7_bendsAct 55 = .ok (.aload_n 0, 1) := by decide +kernel
theorem dX7_bendsAct_56 : decode cX7_bendsAct 56 = .ok (.bipush 50, 2) := by decide +kernel
theorem dX7_bendsAct_58 : decode cX7_bendsAct 58 = .ok (.invokevirtual 443, 3) := by decide +kernel
theorem dX7_bendsAct_61 : decode cX7_bendsAct 61 = .ok (.aload_n 0, 1) := by decide +kernel
theorem dX7_bendsAct_62 : decode cX7_bendsAct 62 = .ok (.iload_n 1, 1) := by decide +kernel
theorem dX7_bendsAct_63 : decode cX7_bendsAct 63 = .ok (.iload_n 2, 1) := by decide +kernel
theorem dX7_bendsAct_64 : decode cX7_bendsAct 64 = .ok (.invokevirtual 446, 3) := by decide +kernel
theorem dX7_bendsAct_67 : decode cX7_bendsAct 67 = .ok (.ineg, 1) := by decide +kernel
theorem dX7_bendsAct_68 : decode cX7_bendsAct 68 = .ok (.ireturn, 1) := by decide +kernel
theorem dX7_bendsAct_69 : decode cX7_bendsAct 69 = .ok (.aload_n 0, 1) := by decide +kernel
theorem dX7_bendsAct_70 : decode cX7_bendsAct 70 = .ok (.bipush 71, 2) := by decide +kernel
theorem dX7_bendsAct_72 : decode cX7_bendsAct 72 = .ok (.invokevirtual 443, 3) := by decide +kernel
theorem dX7_bendsAct_75 : decode cX7_bendsAct 75 = .ok (.aload_n 0, 1) := by decide +kernel
theorem dX7_bendsAct_76 : decode cX7_bendsAct 76 = .ok (.iload_n 1, 1) := by decide +kernel
theorem dX7_bendsAct_77 : decode cX7_bendsAct 77 = .ok (.iload_n 2, 1) := by decide +kernel
theorem dX7_bendsAct_78 : decode cX7_bendsAct 78 = .ok (.invokevirtual 446, 3) := by decide +kernel
theorem dX7_bendsAct_81 : decode cX7_bendsAct 81 = .ok (.aload_n 0, 1) := by decide +kernel
theorem dX7_bendsAct_82 : decode cX7_bendsAct 82 = .ok (.getfield 32, 3) := by decide +kernel
theorem dX7_bendsAct_85 : decode cX7_bendsAct 85 = .ok (.iload_n 1, 1) := by decide +kernel
theorem dX7_bendsAct_86 : decode cX7_bendsAct 86 = .ok (.iaload, 1) := by decide +kernel
theorem dX7_bendsAct_87 : decode cX7_bendsAct 87 = .ok (.ixor, 1) := by decide +kernel
theorem dX7_bendsAct_88 : decode cX7_bendsAct 88 = .ok (.ireturn, 1) := by decide +kernel
theorem dX7_bendsAct_89 : decode cX7_bendsAct 89 = .ok (.aload_n 0, 1) := by decide +kernel
theorem dX7_bendsAct_90 : decode cX7_bendsAct 90 = .ok (.iload_n 1, 1) := by decide +kernel
theorem dX7_bendsAct_91 : decode cX7_bendsAct 91 = .ok (.iload_n 2, 1) := by decide +kernel
theorem dX7_bendsAct_92 : decode cX7_bendsAct 92 = .ok (.invokevirtual 446, 3) := by decide +kernel
theorem dX7_bendsAct_95 : decode cX7_bendsAct 95 = .ok (.ireturn, 1) := by decide +kernel
theorem dX7_pieceHolds_0 : decode cX7_pieceHolds 0 = .ok (.aload_n 0, 1) := by decide +kernel
theorem dX7_pieceHolds_1 : decode cX7_pieceHolds 1 = .ok (.bipush 11, 2) := by decide +kernel
theorem dX7_pieceHolds_3 : decode cX7_pieceHolds 3 = .ok (.invokevirtual 443, 3) := by decide +kernel
theorem dX7_pieceHolds_6 : decode cX7_pieceHolds 6 = .ok (.aload_n 0, 1) := by decide +kernel
theorem dX7_pieceHolds_7 : decode cX7_pieceHolds 7 = .ok (.iload_n 1, 1) := by decide +kernel
theorem dX7_pieceHolds_8 : decode cX7_pieceHolds 8 = .ok (.iload_n 2, 1) := by decide +kernel
theorem dX7_pieceHolds_9 : decode cX7_pieceHolds 9 = .ok (.invokevirtual 449, 3) := by decide +kernel
theorem dX7_pieceHolds_12 : decode cX7_pieceHolds 12 = .ok (.aload_n 0, 1) := by decide +kernel
theorem dX7_pieceHolds_13 : decode cX7_pieceHolds 13 = .ok (.getfield 32, 3) := by decide +kernel
theorem dX7_pieceHolds_16 : decode cX7_pieceHolds 16 = .ok (.iload_n 1, 1) := by decide +kernel
theorem dX7_pieceHolds_17 : decode cX7_pieceHolds 17 = .ok (.iaload, 1) := by decide +kernel
theorem dX7_pieceHolds_18 : decode cX7_pieceHolds 18 = .ok (.isub, 1) := by decide +kernel
theorem dX7_pieceHolds_19 : decode cX7_pieceHolds 19 = .ok (.ireturn, 1) := by decide +kernel
theorem dX7_oarHolds_0 : decode cX7_oarHolds 0 = .ok (.aload_n 0, 1) := by decide +kernel
theorem dX7_oarHolds_1 : decode cX7_oarHolds 1 = .ok (.bipush 20, 2) := by decide +kernel
theorem dX7_oarHolds_3 : decode cX7_oarHolds 3 = .ok (.invokevirtual 443, 3) := by decide +kernel
theorem dX7_oarHolds_6 : decode cX7_oarHolds 6 = .ok (.aload_n 0, 1) := by decide +kernel
theorem dX7_oarHolds_7 : decode cX7_oarHolds 7 = .ok (.iload_n 1, 1) := by decide +kernel
theorem dX7_oarHolds_8 : decode cX7_oarHolds 8 = .ok (.iload_n 2, 1) := by decide +kernel
theorem dX7_oarHolds_9 : decode cX7_oarHolds 9 = .ok (.invokevirtual 452, 3) := by decide +kernel
theorem dX7_oarHolds_12 : decode cX7_oarHolds 12 = .ok (.bipush 6, 2) := by decide +kernel
theorem dX7_oarHolds_14 : decode cX7_oarHolds 14 = .ok (.ixor, 1) := by decide +kernel
theorem dX7_oarHolds_15 : decode cX7_oarHolds 15 = .ok (.ireturn, 1) := by decide +kernel
theorem dX7_holdsAct_0 : decode cX7_holdsAct 0 = .ok (.aload_n 0, 1) := by decide +kernel
theorem dX7_holdsAct_1 : decode cX7_holdsAct 1 = .ok (.getfield 28, 3) := by decide +kernel
theorem dX7_holdsAct_4 : decode cX7_holdsAct 4 = .ok (.iload_n 1, 1) := by decide +kernel
theorem dX7_holdsAct_5 : decode cX7_holdsAct 5 = .ok (.iaload, 1) := by decide +kernel
theorem dX7_holdsAct_6 : decode cX7_holdsAct 6 = .ok (.lookupswitch 78 #[(1, 34), (4, 41), (6, 56)], 34) := by decide +kernel
theorem dX7_holdsAct_40 : decode cX7_holdsAct 40 = .ok (.aload_n 0, 1) := by decide +kernel
theorem dX7_holdsAct_41 : decode cX7_holdsAct 41 = .ok (.iload_n 1, 1) := by decide +kernel
theorem dX7_holdsAct_42 : decode cX7_holdsAct 42 = .ok (.iload_n 2, 1) := by decide +kernel
theorem dX7_holdsAct_43 : decode cX7_holdsAct 43 = .ok (.invokevirtual 455, 3) := by decide +kernel
theorem dX7_holdsAct_46 : decode cX7_holdsAct 46 = .ok (.ireturn, 1) := by decide +kernel
theorem dX7_holdsAct_47 : decode cX7_holdsAct 47 = .ok (.aload_n 0, 1) := by decide +kernel
theorem dX7_holdsAct_48 : decode cX7_holdsAct 48 = .ok (.bipush 51, 2) := by decide +kernel
theorem dX7_holdsAct_50 : decode cX7_holdsAct 50 = .ok (.invokevirtual 443, 3) := by decide +kernel
theorem dX7_holdsAct_53 : decode cX7_holdsAct 53 = .ok (.aload_n 0, 1) := by decide +kernel
theorem dX7_holdsAct_54 : decode cX7_holdsAct 54 = .ok (.iload_n 1, 1) := by decide +kernel
theorem dX7_holdsAct_55 : decode cX7_holdsAct 55 = .ok (.iload_n 2, 1) := by decide +kernel
theorem dX7_holdsAct_56 : decode cX7_holdsAct 56 = .ok (.iconst 1, 1) := by decide +kernel
theorem dX7_holdsAct_57 : decode cX7_holdsAct 57 = .ok (.iadd, 1) := by decide +kernel
theorem dX7_holdsAct_58 : decode cX7_holdsAct 58 = .ok (.invokevirtual 455, 3) := by decide +kernel
theorem dX7_holdsAct_61 : decode cX7_holdsAct 61 = .ok (.ireturn, 1) := by decide +kernel
theorem dX7_holdsAct_62 : decode cX7_holdsAct 62 = .ok (.aload_n 0, 1) := by decide +kernel
theorem dX7_holdsAct_63 : decode cX7_holdsAct 63 = .ok (.bipush 70, 2) := by decide +kernel
theorem dX7_holdsAct_65 : decode cX7_holdsAct 65 = .ok (.invokevirtual 443, 3) := by decide +kernel
theorem dX7_holdsAct_68 : decode cX7_holdsAct 68 = .ok (.aload_n 0, 1) := by decide +kernel
theorem dX7_holdsAct_69 : decode cX7_holdsAct 69 = .ok (.iload_n 1, 1) := by decide +kernel
theorem dX7_holdsAct_70 : decode cX7_holdsAct 70 = .ok (.iload_n 2, 1) := by decide +kernel
theorem dX7_holdsAct_71 : decode cX7_holdsAct 71 = .ok (.invokevirtual 452, 3) := by decide +kernel
theorem dX7_holdsAct_74 : decode cX7_holdsAct 74 = .ok (.istore_n 3, 1) := by decide +kernel
theorem dX7_holdsAct_75 : decode cX7_holdsAct 75 = .ok (.iload_n 3, 1) := by decide +kernel
theorem dX7_holdsAct_76 : decode cX7_holdsAct 76 = .ok (.aload_n 0, 1) := by decide +kernel
theorem dX7_holdsAct_77 : decode cX7_holdsAct 77 = .ok (.iload_n 1, 1) := by decide +kernel
theorem dX7_holdsAct_78 : decode cX7_holdsAct 78 = .ok (.iconst 2, 1) := by decide +kernel
theorem dX7_holdsAct_79 : decode cX7_holdsAct 79 = .ok (.invokevirtual 446, 3) := by decide +kernel
theorem dX7_holdsAct_82 : decode cX7_holdsAct 82 = .ok (.iadd, 1) := by decide +kernel
theorem dX7_holdsAct_83 : decode cX7_holdsAct 83 = .ok (.ireturn, 1) := by decide +kernel
theorem dX7_holdsAct_84 : decode cX7_holdsAct 84 = .ok (.aload_n 0, 1) := by decide +kernel
theorem dX7_holdsAct_85 : decode cX7_holdsAct 85 = .ok (.iload_n 1, 1) := by decide +kernel
theorem dX7_holdsAct_86 : decode cX7_holdsAct 86 = .ok (.iload_n 2, 1) := by decide +kernel
theorem dX7_holdsAct_87 : decode cX7_holdsAct 87 = .ok (.invokevirtual 452, 3) := by decide +kernel
theorem dX7_holdsAct_90 : decode cX7_holdsAct 90 = .ok (.ireturn, 1) := by decide +kernel
theorem dX7_pieceTells_0 : decode cX7_pieceTells 0 = .ok (.aload_n 0, 1) := by decide +kernel
theorem dX7_pieceTells_1 : decode cX7_pieceTells 1 = .ok (.bipush 12, 2) := by decide +kernel
theorem dX7_pieceTells_3 : decode cX7_pieceTells 3 = .ok (.invokevirtual 443, 3) := by decide +kernel
theorem dX7_pieceTells_6 : decode cX7_pieceTells 6 = .ok (.aload_n 0, 1) := by decide +kernel
theorem dX7_pieceTells_7 : decode cX7_pieceTells 7 = .ok (.iload_n 1, 1) := by decide +kernel
theorem dX7_pieceTells_8 : decode cX7_pieceTells 8 = .ok (.iload_n 2, 1) := by decide +kernel
theorem dX7_pieceTells_9 : decode cX7_pieceTells 9 = .ok (.invokevirtual 458, 3) := by decide +kernel
theorem dX7_pieceTells_12 : decode cX7_pieceTells 12 = .ok (.iconst 2, 1) := by decide +kernel
theorem dX7_pieceTells_13 : decode cX7_pieceTells 13 = .ok (.imul, 1) := by decide +kernel
theorem dX7_pieceTells_14 : decode cX7_pieceTells 14 = .ok (.ireturn, 1) := by decide +kernel
theorem dX7_tellsAct_0 : decode cX7_tellsAct 0 = .ok (.aload_n 0, 1) := by decide +kernel
theorem dX7_tellsAct_1 : decode cX7_tellsAct 1 = .ok (.getfield 28, 3) := by decide +kernel
theorem dX7_tellsAct_4 : decode cX7_tellsAct 4 = .ok (.iload_n 1, 1) := by decide +kernel
theorem dX7_tellsAct_5 : decode cX7_tellsAct 5 = .ok (.iaload, 1) := by decide +kernel
theorem dX7_tellsAct_6 : decode cX7_tellsAct 6 = .ok (.tableswitch 67 3 6 #[30, 67, 52, 30], 30) := by decide +kernel
theorem dX7_tellsAct_36 : decode cX7_tellsAct 36 = .ok (.aload_n 0, 1) := by decide +kernel
theorem dX7_tellsAct_37 : decode cX7_tellsAct 37 = .ok (.bipush 40, 2) := by decide +kernel
theorem dX7_tellsAct_39 : decode cX7_tellsAct 39 = .ok (.invokevirtual 443, 3) := by decide +kernel
theorem dX7_tellsAct_42 : decode cX7_tellsAct 42 = .ok (.aload_n 0, 1) := by decide +kernel
theorem dX7_tellsAct_43 : decode cX7_tellsAct 43 = .ok (.iload_n 1, 1) := by decide +kernel
theorem dX7_tellsAct_44 : decode cX7_tellsAct 44 = .ok (.iload_n 2, 1) := by decide +kernel
theorem dX7_tellsAct_45 : decode cX7_tellsAct 45 = .ok (.invokevirtual 461, 3) := by decide +kernel
theorem dX7_tellsAct_48 : decode cX7_tellsAct 48 = .ok (.istore_n 3, 1) := by decide +kernel
theorem dX7_tellsAct_49 : decode cX7_tellsAct 49 = .ok (.iload_n 3, 1) := by decide +kernel
theorem dX7_tellsAct_50 : decode cX7_tellsAct 50 = .ok (.aload_n 0, 1) := by decide +kernel
theorem dX7_tellsAct_51 : decode cX7_tellsAct 51 = .ok (.iload_n 1, 1) := by decide +kernel
theorem dX7_tellsAct_52 : decode cX7_tellsAct 52 = .ok (.iconst 1, 1) := by decide +kernel
theorem dX7_tellsAct_53 : decode cX7_tellsAct 53 = .ok (.invokevirtual 458, 3) := by decide +kernel
theorem dX7_tellsAct_56 : decode cX7_tellsAct 56 = .ok (.iadd, 1) := by decide +kernel
theorem dX7_tellsAct_57 : decode cX7_tellsAct 57 = .ok (.ireturn, 1) := by decide +kernel
theorem dX7_tellsAct_58 : decode cX7_tellsAct 58 = .ok (.aload_n 0, 1) := by decide +kernel
theorem dX7_tellsAct_59 : decode cX7_tellsAct 59 = .ok (.bipush 60, 2) := by decide +kernel
theorem dX7_tellsAct_61 : decode cX7_tellsAct 61 = .ok (.invokevirtual 443, 3) := by decide +kernel
theorem dX7_tellsAct_64 : decode cX7_tellsAct 64 = .ok (.aload_n 0, 1) := by decide +kernel
theorem dX7_tellsAct_65 : decode cX7_tellsAct 65 = .ok (.iload_n 1, 1) := by decide +kernel
theorem dX7_tellsAct_66 : decode cX7_tellsAct 66 = .ok (.iload_n 2, 1) := by decide +kernel
theorem dX7_tellsAct_67 : decode cX7_tellsAct 67 = .ok (.iload_n 1, 1) := by decide +kernel
theorem dX7_tellsAct_68 : decode cX7_tellsAct 68 = .ok (.isub, 1) := by decide +kernel
theorem dX7_tellsAct_69 : decode cX7_tellsAct 69 = .ok (.invokevirtual 461, 3) := by decide +kernel
theorem dX7_tellsAct_72 : decode cX7_tellsAct 72 = .ok (.ireturn, 1) := by decide +kernel
theorem dX7_tellsAct_73 : decode cX7_tellsAct 73 = .ok (.aload_n 0, 1) := by decide +kernel
theorem dX7_tellsAct_74 : decode cX7_tellsAct 74 = .ok (.iload_n 1, 1) := by decide +kernel
theorem dX7_tellsAct_75 : decode cX7_tellsAct 75 = .ok (.iload_n 2, 1) := by decide +kernel
theorem dX7_tellsAct_76 : decode cX7_tellsAct 76 = .ok (.invokevirtual 461, 3) := by decide +kernel
theorem dX7_tellsAct_79 : decode cX7_tellsAct 79 = .ok (.ireturn, 1) := by decide +kernel
theorem dX7_act_0 : decode cX7_act 0 = .ok (.aload_n 0, 1) := by decide +kernel
theorem dX7_act_1 : decode cX7_act 1 = .ok (.iconst 0, 1) := by decide +kernel
theorem dX7_act_2 : decode cX7_act 2 = .ok (.putfield 257, 3) := by decide +kernel
theorem dX7_act_5 : decode cX7_act 5 = .ok (.aload_n 0, 1) := by decide +kernel
theorem dX7_act_6 : decode cX7_act 6 = .ok (.iload_n 1, 1) := by decide +kernel
theorem dX7_act_7 : decode cX7_act 7 = .ok (.invokevirtual 280, 3) := by decide +kernel
theorem dX7_act_10 : decode cX7_act 10 = .ok (.ifCond .eq 13, 3) := by decide +kernel
theorem dX7_act_13 : decode cX7_act 13 = .ok (.aload_n 0, 1) := by decide +kernel
theorem dX7_act_14 : decode cX7_act 14 = .ok (.iload_n 2, 1) := by decide +kernel
theorem dX7_act_15 : decode cX7_act 15 = .ok (.iconst 0, 1) := by decide +kernel
theorem dX7_act_16 : decode cX7_act 16 = .ok (.iconst 2, 1) := by decide +kernel
theorem dX7_act_17 : decode cX7_act 17 = .ok (.invokevirtual 276, 3) := by decide +kernel
theorem dX7_act_20 : decode cX7_act 20 = .ok (.ifCond .ne 5, 3) := by decide +kernel
theorem dX7_act_23 : decode cX7_act 23 = .ok (.iconst 0, 1) := by decide +kernel
theorem dX7_act_24 : decode cX7_act 24 = .ok (.ireturn, 1) := by decide +kernel
theorem dX7_act_25 : decode cX7_act 25 = .ok (.iload_n 2, 1) := by decide +kernel
theorem dX7_act_26 : decode cX7_act 26 = .ok (.ifCond .ne 12, 3) := by decide +kernel
theorem dX7_act_29 : decode cX7_act 29 = .ok (.aload_n 0, 1) := by decide +kernel
theorem dX7_act_30 : decode cX7_act 30 = .ok (.iload_n 1, 1) := by decide +kernel
theorem dX7_act_31 : decode cX7_act 31 = .ok (.iload_n 3, 1) := by decide +kernel
theorem dX7_act_32 : decode cX7_act 32 = .ok (.invokevirtual 449, 3) := by decide +kernel
theorem dX7_act_35 : decode cX7_act 35 = .ok (.goto 23, 3) := by decide +kernel
theorem dX7_act_38 : decode cX7_act 38 = .ok (.iload_n 2, 1) := by decide +kernel
theorem dX7_act_39 : decode cX7_act 39 = .ok (.iconst 1, 1) := by decide +kernel
theorem dX7_act_40 : decode cX7_act 40 = .ok (.if_icmp .ne 12, 3) := by decide +kernel
theorem dX7_act_43 : decode cX7_act 43 = .ok (.aload_n 0, 1) := by decide +kernel
theorem dX7_act_44 : decode cX7_act 44 = .ok (.iload_n 1, 1) := by decide +kernel
theorem dX7_act_45 : decode cX7_act 45 = .ok (.iload_n 3, 1) := by decide +kernel
theorem dX7_act_46 : decode cX7_act 46 = .ok (.invokevirtual 458, 3) := by decide +kernel
theorem dX7_act_49 : decode cX7_act 49 = .ok (.goto 9, 3) := by decide +kernel
theorem dX7_act_52 : decode cX7_act 52 = .ok (.aload_n 0, 1) := by decide +kernel
theorem dX7_act_53 : decode cX7_act 53 = .ok (.iload_n 1, 1) := by decide +kernel
theorem dX7_act_54 : decode cX7_act 54 = .ok (.iload_n 3, 1) := by decide +kernel
theorem dX7_act_55 : decode cX7_act 55 = .ok (.invokevirtual 464, 3) := by decide +kernel
theorem dX7_act_58 : decode cX7_act 58 = .ok (.ireturn, 1) := by decide +kernel
theorem dX7_trace_0 : decode cX7_trace 0 = .ok (.aload_n 0, 1) := by decide +kernel
theorem dX7_trace_1 : decode cX7_trace 1 = .ok (.iload_n 1, 1) := by decide +kernel
theorem dX7_trace_2 : decode cX7_trace 2 = .ok (.iconst 0, 1) := by decide +kernel
theorem dX7_trace_3 : decode cX7_trace 3 = .ok (.bipush 19, 2) := by decide +kernel
theorem dX7_trace_5 : decode cX7_trace 5 = .ok (.invokevirtual 276, 3) := by decide +kernel
theorem dX7_trace_8 : decode cX7_trace 8 = .ok (.ifCond .eq 20, 3) := by decide +kernel
theorem dX7_trace_11 : decode cX7_trace 11 = .ok (.iload_n 1, 1) := by decide +kernel
theorem dX7_trace_12 : decode cX7_trace 12 = .ok (.aload_n 0, 1) := by decide +kernel
theorem dX7_trace_13 : decode cX7_trace 13 = .ok (.getfield 257, 3) := by decide +kernel
theorem dX7_trace_16 : decode cX7_trace 16 = .ok (.if_icmp .ge 12, 3) := by decide +kernel
theorem dX7_trace_19 : decode cX7_trace 19 = .ok (.aload_n 0, 1) := by decide +kernel
theorem dX7_trace_20 : decode cX7_trace 20 = .ok (.getfield 260, 3) := by decide +kernel
theorem dX7_trace_23 : decode cX7_trace 23 = .ok (.iload_n 1, 1) := by decide +kernel
theorem dX7_trace_24 : decode cX7_trace 24 = .ok (.iaload, 1) := by decide +kernel
theorem dX7_trace_25 : decode cX7_trace 25 = .ok (.goto 4, 3) := by decide +kernel
theorem dX7_trace_28 : decode cX7_trace 28 = .ok (.iconst (-1), 1) := by decide +kernel
theorem dX7_trace_29 : decode cX7_trace 29 = .ok (.ireturn, 1) := by decide +kernel
theorem dX7_taken_0 : decode cX7_taken 0 = .ok (.aload_n 0, 1) := by decide +kernel
theorem dX7_taken_1 : decode cX7_taken 1 = .ok (.iload_n 2, 1) := by decide +kernel
theorem dX7_taken_2 : decode cX7_taken 2 = .ok (.iconst 0, 1) := by decide +kernel
theorem dX7_taken_3 : decode cX7_taken 3 = .ok (.bipush 6, 2) := by decide +kernel
theorem dX7_taken_5 : decode cX7_taken 5 = .ok (.invokevirtual 276, 3) := by decide +kernel
theorem dX7_taken_8 : decode cX7_taken 8 = .ok (.ifCond .ne 6, 3) := by decide +kernel
theorem dX7_taken_11 : decode cX7_taken 11 = .ok (.bipush (-2), 2) := by decide +kernel
theorem dX7_taken_13 : decode cX7_taken 13 = .ok (.ireturn, 1) := by decide +kernel
theorem dX7_taken_14 : decode cX7_taken 14 = .ok (.aload_n 0, 1) := by decide +kernel
theorem dX7_taken_15 : decode cX7_taken 15 = .ok (.iload_n 1, 1) := by decide +kernel
theorem dX7_taken_16 : decode cX7_taken 16 = .ok (.invokevirtual 280, 3) := by decide +kernel
theorem dX7_taken_19 : decode cX7_taken 19 = .ok (.ifCond .ne 6, 3) := by decide +kernel
theorem dX7_taken_22 : decode cX7_taken 22 = .ok (.bipush (-11), 2) := by decide +kernel
theorem dX7_taken_24 : decode cX7_taken 24 = .ok (.ireturn, 1) := by decide +kernel
theorem dX7_taken_25 : decode cX7_taken 25 = .ok (.aload_n 0, 1) := by decide +kernel
theorem dX7_taken_26 : decode cX7_taken 26 = .ok (.getfield 28, 3) := by decide +kernel
theorem dX7_taken_29 : decode cX7_taken 29 = .ok (.iload_n 1, 1) := by decide +kernel
theorem dX7_taken_30 : decode cX7_taken 30 = .ok (.iaload, 1) := by decide +kernel
theorem dX7_taken_31 : decode cX7_taken 31 = .ok (.istore_n 3, 1) := by decide +kernel
theorem dX7_taken_32 : decode cX7_taken 32 = .ok (.iload_n 2, 1) := by decide +kernel
theorem dX7_taken_33 : decode cX7_taken 33 = .ok (.ifCond .eq 39, 3) := by decide +kernel
theorem dX7_taken_36 : decode cX7_taken 36 = .ok (.iload_n 3, 1) := by decide +kernel
theorem dX7_taken_37 : decode cX7_taken 37 = .ok (.iload_n 2, 1) := by decide +kernel
theorem dX7_taken_38 : decode cX7_taken 38 = .ok (.if_icmp .eq 34, 3) := by decide +kernel
theorem dX7_taken_41 : decode cX7_taken 41 = .ok (.iload_n 2, 1) := by decide +kernel
theorem dX7_taken_42 : decode cX7_taken 42 = .ok (.iconst 1, 1) := by decide +kernel
theorem dX7_taken_43 : decode cX7_taken 43 = .ok (.if_icmp .ne 8, 3) := by decide +kernel
theorem dX7_taken_46 : decode cX7_taken 46 = .ok (.iload_n 3, 1) := by decide +kernel
theorem dX7_taken_47 : decode cX7_taken 47 = .ok (.iconst 4, 1) := by decide +kernel
theorem dX7_taken_48 : decode cX7_taken 48 = .ok (.if_icmp .eq 24, 3) := by decide +kernel
theorem dX7_taken_51 : decode cX7_taken 51 = .ok (.iload_n 2, 1) := by decide +kernel
theorem dX7_taken_52 : decode cX7_taken 52 = .ok (.iconst 2, 1) := by decide +kernel
theorem dX7_taken_53 : decode cX7_taken 53 = .ok (.if_icmp .ne 8, 3) := by decide +kernel
theorem dX7_taken_56 : decode cX7_taken 56 = .ok (.iload_n 3, 1) := by decide +kernel
theorem dX7_taken_57 : decode cX7_taken 57 = .ok (.iconst 5, 1) := by decide +kernel
theorem dX7_taken_58 : decode cX7_taken 58 = .ok (.if_icmp .eq 14, 3) := by decide +kernel
theorem dX7_taken_61 : decode cX7_taken 61 = .ok (.iload_n 2, 1) := by decide +kernel
theorem dX7_taken_62 : decode cX7_taken 62 = .ok (.iconst 3, 1) := by decide +kernel
theorem dX7_taken_63 : decode cX7_taken 63 = .ok (.if_icmp .ne 13, 3) := by decide +kernel
theorem dX7_taken_66 : decode cX7_taken 66 = .ok (.iload_n 3, 1) := by decide +kernel
theorem dX7_taken_67 : decode cX7_taken 67 = .ok (.bipush 6, 2) := by decide +kernel
theorem dX7_taken_69 : decode cX7_taken 69 = .ok (.if_icmp .ne 7, 3) := by decide +kernel
theorem dX7_taken_72 : decode cX7_taken 72 = .ok (.iload_n 3, 1) := by decide +kernel
theorem dX7_taken_73 : decode cX7_taken 73 = .ok (.goto 5, 3) := by decide +kernel
theorem dX7_taken_76 : decode cX7_taken 76 = .ok (.bipush (-12), 2) := by decide +kernel
theorem dX7_taken_78 : decode cX7_taken 78 = .ok (.ireturn, 1) := by decide +kernel
theorem dX7_count_0 : decode cX7_count 0 = .ok (.iload_n 1, 1) := by decide +kernel
theorem dX7_count_1 : decode cX7_count 1 = .ok (.tableswitch 87 0 7 #[47, 52, 57, 62, 67, 72, 77, 82], 47) := by decide +kernel
theorem dX7_count_48 : decode cX7_count 48 = .ok (.aload_n 0, 1) := by decide +kernel
theorem dX7_count_49 : decode cX7_count 49 = .ok (.getfield 7, 3) := by decide +kernel
theorem dX7_count_52 : decode cX7_count 52 = .ok (.ireturn, 1) := by decide +kernel
theorem dX7_count_53 : decode cX7_count 53 = .ok (.aload_n 0, 1) := by decide +kernel
theorem dX7_count_54 : decode cX7_count 54 = .ok (.getfield 50, 3) := by decide +kernel
theorem dX7_count_57 : decode cX7_count 57 = .ok (.ireturn, 1) := by decide +kernel
theorem dX7_count_58 : decode cX7_count 58 = .ok (.aload_n 0, 1) := by decide +kernel
theorem dX7_count_59 : decode cX7_count 59 = .ok (.getfield 13, 3) := by decide +kernel
theorem dX7_count_62 : decode cX7_count 62 = .ok (.ireturn, 1) := by decide +kernel
theorem dX7_count_63 : decode cX7_count 63 = .ok (.aload_n 0, 1) := by decide +kernel
theorem dX7_count_64 : decode cX7_count 64 = .ok (.getfield 157, 3) := by decide +kernel
theorem dX7_count_67 : decode cX7_count 67 = .ok (.ireturn, 1) := by decide +kernel
theorem dX7_count_68 : decode cX7_count 68 = .ok (.aload_n 0, 1) := by decide +kernel
theorem dX7_count_69 : decode cX7_count 69 = .ok (.getfield 166, 3) := by decide +kernel
theorem dX7_count_72 : decode cX7_count 72 = .ok (.ireturn, 1) := by decide +kernel
theorem dX7_count_73 : decode cX7_count 73 = .ok (.aload_n 0, 1) := by decide +kernel
theorem dX7_count_74 : decode cX7_count 74 = .ok (.getfield 169, 3) := by decide +kernel
theorem dX7_count_77 : decode cX7_count 77 = .ok (.ireturn, 1) := by decide +kernel
theorem dX7_count_78 : decode cX7_count 78 = .ok (.aload_n 0, 1) := by decide +kernel
theorem dX7_count_79 : decode cX7_count 79 = .ok (.getfield 56, 3) := by decide +kernel
theorem dX7_count_82 : decode cX7_count 82 = .ok (.ireturn, 1) := by decide +kernel
theorem dX7_count_83 : decode cX7_count 83 = .ok (.aload_n 0, 1) := by decide +kernel
theorem dX7_count_84 : decode cX7_count 84 = .ok (.getfield 257, 3) := by decide +kernel
theorem dX7_count_87 : decode cX7_count 87 = .ok (.ireturn, 1) := by decide +kernel
theorem dX7_count_88 : decode cX7_count 88 = .ok (.bipush (-2), 2) := by decide +kernel
theorem dX7_count_90 : decode cX7_count 90 = .ok (.ireturn, 1) := by decide +kernel
theorem dX7_isTape_0 : decode cX7_isTape 0 = .ok (.aload_n 0, 1) := by decide +kernel
theorem dX7_isTape_1 : decode cX7_isTape 1 = .ok (.iload_n 1, 1) := by decide +kernel
theorem dX7_isTape_2 : decode cX7_isTape 2 = .ok (.iconst 0, 1) := by decide +kernel
theorem dX7_isTape_3 : decode cX7_isTape 3 = .ok (.iconst 5, 1) := by decide +kernel
theorem dX7_isTape_4 : decode cX7_isTape 4 = .ok (.invokevirtual 276, 3) := by decide +kernel
theorem dX7_isTape_7 : decode cX7_isTape 7 = .ok (.ireturn, 1) := by decide +kernel
theorem dX7_tape_0 : decode cX7_tape 0 = .ok (.aload_n 0, 1) := by decide +kernel
theorem dX7_tape_1 : decode cX7_tape 1 = .ok (.iload_n 1, 1) := by decide +kernel
theorem dX7_tape_2 : decode cX7_tape 2 = .ok (.invokevirtual 440, 3) := by decide +kernel
theorem dX7_tape_5 : decode cX7_tape 5 = .ok (.ifCond .ne 5, 3) := by decide +kernel
theorem dX7_tape_8 : decode cX7_tape 8 = .ok (.iconst (-1), 1) := by decide +kernel
theorem dX7_tape_9 : decode cX7_tape 9 = .ok (.ireturn, 1) := by decide +kernel
theorem dX7_tape_10 : decode cX7_tape 10 = .ok (.aload_n 0, 1) := by decide +kernel
theorem dX7_tape_11 : decode cX7_tape 11 = .ok (.iload_n 2, 1) := by decide +kernel
theorem dX7_tape_12 : decode cX7_tape 12 = .ok (.iconst (-1), 1) := by decide +kernel
theorem dX7_tape_13 : decode cX7_tape 13 = .ok (.iconst 4, 1) := by decide +kernel
theorem dX7_tape_14 : decode cX7_tape 14 = .ok (.invokevirtual 276, 3) := by decide +kernel
theorem dX7_tape_17 : decode cX7_tape 17 = .ok (.ifCond .eq 13, 3) := by decide +kernel
theorem dX7_tape_20 : decode cX7_tape 20 = .ok (.iload_n 2, 1) := by decide +kernel
theorem dX7_tape_21 : decode cX7_tape 21 = .ok (.ifCond .lt 12, 3) := by decide +kernel
theorem dX7_tape_24 : decode cX7_tape 24 = .ok (.iload_n 3, 1) := by decide +kernel
theorem dX7_tape_25 : decode cX7_tape 25 = .ok (.bipush 60, 2) := by decide +kernel
theorem dX7_tape_27 : decode cX7_tape 27 = .ok (.if_icmp .le 6, 3) := by decide +kernel
theorem dX7_tape_30 : decode cX7_tape 30 = .ok (.bipush (-2), 2) := by decide +kernel
theorem dX7_tape_32 : decode cX7_tape 32 = .ok (.ireturn, 1) := by decide +kernel
theorem dX7_tape_33 : decode cX7_tape 33 = .ok (.iload_n 2, 1) := by decide +kernel
theorem dX7_tape_34 : decode cX7_tape 34 = .ok (.ifCond .lt 10, 3) := by decide +kernel
theorem dX7_tape_37 : decode cX7_tape 37 = .ok (.iload_n 3, 1) := by decide +kernel
theorem dX7_tape_38 : decode cX7_tape 38 = .ok (.ifCond .ge 6, 3) := by decide +kernel
theorem dX7_tape_41 : decode cX7_tape 41 = .ok (.bipush (-14), 2) := by decide +kernel
theorem dX7_tape_43 : decode cX7_tape 43 = .ok (.ireturn, 1) := by decide +kernel
theorem dX7_tape_44 : decode cX7_tape 44 = .ok (.aload_n 0, 1) := by decide +kernel
theorem dX7_tape_45 : decode cX7_tape 45 = .ok (.getfield 263, 3) := by decide +kernel
theorem dX7_tape_48 : decode cX7_tape 48 = .ok (.iload_n 1, 1) := by decide +kernel
theorem dX7_tape_49 : decode cX7_tape 49 = .ok (.iload_n 2, 1) := by decide +kernel
theorem dX7_tape_50 : decode cX7_tape 50 = .ok (.iastore, 1) := by decide +kernel
theorem dX7_tape_51 : decode cX7_tape 51 = .ok (.aload_n 0, 1) := by decide +kernel
theorem dX7_tape_52 : decode cX7_tape 52 = .ok (.getfield 266, 3) := by decide +kernel
theorem dX7_tape_55 : decode cX7_tape 55 = .ok (.iload_n 1, 1) := by decide +kernel
theorem dX7_tape_56 : decode cX7_tape 56 = .ok (.iload_n 2, 1) := by decide +kernel
theorem dX7_tape_57 : decode cX7_tape 57 = .ok (.ifCond .ge 7, 3) := by decide +kernel
theorem dX7_tape_60 : decode cX7_tape 60 = .ok (.iconst 0, 1) := by decide +kernel
theorem dX7_tape_61 : decode cX7_tape 61 = .ok (.goto 4, 3) := by decide +kernel
theorem dX7_tape_64 : decode cX7_tape 64 = .ok (.iload_n 3, 1) := by decide +kernel
theorem dX7_tape_65 : decode cX7_tape 65 = .ok (.iastore, 1) := by decide +kernel
theorem dX7_tape_66 : decode cX7_tape 66 = .ok (.iconst 0, 1) := by decide +kernel
theorem dX7_tape_67 : decode cX7_tape 67 = .ok (.istore 4, 2) := by decide +kernel
theorem dX7_tape_69 : decode cX7_tape 69 = .ok (.iload 4, 2) := by decide +kernel
theorem dX7_tape_71 : decode cX7_tape 71 = .ok (.bipush 60, 2) := by decide +kernel
theorem dX7_tape_73 : decode cX7_tape 73 = .ok (.if_icmp .ge 22, 3) := by decide +kernel
theorem dX7_tape_76 : decode cX7_tape 76 = .ok (.aload_n 0, 1) := by decide +kernel
theorem dX7_tape_77 : decode cX7_tape 77 = .ok (.getfield 269, 3) := by decide +kernel
theorem dX7_tape_80 : decode cX7_tape 80 = .ok (.bipush 60, 2) := by decide +kernel
theorem dX7_tape_82 : decode cX7_tape 82 = .ok (.iload_n 1, 1) := by decide +kernel
theorem dX7_tape_83 : decode cX7_tape 83 = .ok (.imul, 1) := by decide +kernel
theorem dX7_tape_84 : decode cX7_tape 84 = .ok (.iload 4, 2) := by decide +kernel
theorem dX7_tape_86 : decode cX7_tape 86 = .ok (.iadd, 1) := by decide +kernel
theorem dX7_tape_87 : decode cX7_tape 87 = .ok (.lconst 0, 1) := by decide +kernel
theorem dX7_tape_88 : decode cX7_tape 88 = .ok (.lastore, 1) := by decide +kernel
theorem dX7_tape_89 : decode cX7_tape 89 = .ok (.iinc 4 1, 3) := by decide +kernel
theorem dX7_tape_92 : decode cX7_tape 92 = .ok (.goto (-23), 3) := by decide +kernel
theorem dX7_tape_95 : decode cX7_tape 95 = .ok (.iconst 1, 1) := by decide +kernel
theorem dX7_tape_96 : decode cX7_tape 96 = .ok (.ireturn, 1) := by decide +kernel
theorem dX7_narrow_0 : decode cX7_narrow 0 = .ok (.iload_n 1, 1) := by decide +kernel
theorem dX7_narrow_1 : decode cX7_narrow 1 = .ok (.ifCond .ne 10, 3) := by decide +kernel
theorem dX7_narrow_4 : decode cX7_narrow 4 = .ok (.lload_n 2, 1) := by decide +kernel
theorem dX7_narrow_5 : decode cX7_narrow 5 = .ok (.l2i, 1) := by decide +kernel
theorem dX7_narrow_6 : decode cX7_narrow 6 = .ok (.i2b, 1) := by decide +kernel
theorem dX7_narrow_7 : decode cX7_narrow 7 = .ok (.i2l, 1) := by decide +kernel
theorem dX7_narrow_8 : decode cX7_narrow 8 = .ok (.goto 46, 3) := by decide +kernel
theorem dX7_narrow_11 : decode cX7_narrow 11 = .ok (.iload_n 1, 1) := by decide +kernel
theorem dX7_narrow_12 : decode cX7_narrow 12 = .ok (.iconst 1, 1) := by decide +kernel
theorem dX7_narrow_13 : decode cX7_narrow 13 = .ok (.if_icmp .ne 10, 3) := by decide +kernel
theorem dX7_narrow_16 : decode cX7_narrow 16 = .ok (.lload_n 2, 1) := by decide +kernel
theorem dX7_narrow_17 : decode cX7_narrow 17 = .ok (.l2i, 1) := by decide +kernel
theorem dX7_narrow_18 : decode cX7_narrow 18 = .ok (.i2s, 1) := by decide +kernel
theorem dX7_narrow_19 : decode cX7_narrow 19 = .ok (.i2l, 1) := by decide +kernel
theorem dX7_narrow_20 : decode cX7_narrow 20 = .ok (.goto 34, 3) := by decide +kernel
theorem dX7_narrow_23 : decode cX7_narrow 23 = .ok (.iload_n 1, 1) := by decide +kernel
theorem dX7_narrow_24 : decode cX7_narrow 24 = .ok (.iconst 2, 1) := by decide +kernel
theorem dX7_narrow_25 : decode cX7_narrow 25 = .ok (.if_icmp .ne 9, 3) := by decide +kernel
theorem dX7_narrow_28 : decode cX7_narrow 28 = .ok (.lload_n 2, 1) := by decide +kernel
theorem dX7_narrow_29 : decode cX7_narrow 29 = .ok (.l2i, 1) := by decide +kernel
theorem dX7_narrow_30 : decode cX7_narrow 30 = .ok (.i2l, 1) := by decide +kernel
theorem dX7_narrow_31 : decode cX7_narrow 31 = .ok (.goto 23, 3) := by decide +kernel
theorem dX7_narrow_34 : decode cX7_narrow 34 = .ok (.iload_n 1, 1) := by decide +kernel
theorem dX7_narrow_35 : decode cX7_narrow 35 = .ok (.iconst 4, 1) := by decide +kernel
theorem dX7_narrow_36 : decode cX7_narrow 36 = .ok (.if_icmp .ne 17, 3) := by decide +kernel
theorem dX7_narrow_39 : decode cX7_narrow 39 = .ok (.lload_n 2, 1) := by decide +kernel
theorem dX7_narrow_40 : decode cX7_narrow 40 = .ok (.lconst 0, 1) := by decide +kernel
theorem dX7_narrow_41 : decode cX7_narrow 41 = .ok (.lcmp, 1) := by decide +kernel
theorem dX7_narrow_42 : decode cX7_narrow 42 = .ok (.ifCond .eq 7, 3) := by decide +kernel
theorem dX7_narrow_45 : decode cX7_narrow 45 = .ok (.lconst 1, 1) := by decide +kernel
theorem dX7_narrow_46 : decode cX7_narrow 46 = .ok (.goto 8, 3) := by decide +kernel
theorem dX7_narrow_49 : decode cX7_narrow 49 = .ok (.lconst 0, 1) := by decide +kernel
theorem dX7_narrow_50 : decode cX7_narrow 50 = .ok (.goto 4, 3) := by decide +kernel
theorem dX7_narrow_53 : decode cX7_narrow 53 = .ok (.lload_n 2, 1) := by decide +kernel
theorem dX7_narrow_54 : decode cX7_narrow 54 = .ok (.lreturn, 1) := by decide +kernel
theorem dX7_item_0 : decode cX7_item 0 = .ok (.aload_n 0, 1) := by decide +kernel
theorem dX7_item_1 : decode cX7_item 1 = .ok (.iload_n 1, 1) := by decide +kernel
theorem dX7_item_2 : decode cX7_item 2 = .ok (.invokevirtual 440, 3) := by decide +kernel
theorem dX7_item_5 : decode cX7_item 5 = .ok (.ifCond .ne 5, 3) := by decide +kernel
theorem dX7_item_8 : decode cX7_item 8 = .ok (.iconst (-1), 1) := by decide +kernel
theorem dX7_item_9 : decode cX7_item 9 = .ok (.ireturn, 1) := by decide +kernel
theorem dX7_item_10 : decode cX7_item 10 = .ok (.aload_n 0, 1) := by decide +kernel
theorem dX7_item_11 : decode cX7_item 11 = .ok (.getfield 263, 3) := by decide +kernel
theorem dX7_item_14 : decode cX7_item 14 = .ok (.iload_n 1, 1) := by decide +kernel
theorem dX7_item_15 : decode cX7_item 15 = .ok (.iaload, 1) := by decide +kernel
theorem dX7_item_16 : decode cX7_item 16 = .ok (.ifCond .ge 6, 3) := by decide +kernel
theorem dX7_item_19 : decode cX7_item 19 = .ok (.bipush (-11), 2) := by decide +kernel
theorem dX7_item_21 : decode cX7_item 21 = .ok (.ireturn, 1) := by decide +kernel
theorem dX7_item_22 : decode cX7_item 22 = .ok (.aload_n 0, 1) := by decide +kernel
theorem dX7_item_23 : decode cX7_item 23 = .ok (.iload_n 2, 1) := by decide +kernel
theorem dX7_item_24 : decode cX7_item 24 = .ok (.iconst 0, 1) := by decide +kernel
theorem dX7_item_25 : decode cX7_item 25 = .ok (.aload_n 0, 1) := by decide +kernel
theorem dX7_item_26 : decode cX7_item 26 = .ok (.getfield 266, 3) := by decide +kernel
theorem dX7_item_29 : decode cX7_item 29 = .ok (.iload_n 1, 1) := by decide +kernel
theorem dX7_item_30 : decode cX7_item 30 = .ok (.iaload, 1) := by decide +kernel
theorem dX7_item_31 : decode cX7_item 31 = .ok (.iconst 1, 1) := by decide +kernel
theorem dX7_item_32 : decode cX7_item 32 = .ok (.isub, 1) := by decide +kernel
theorem dX7_item_33 : decode cX7_item 33 = .ok (.invokevirtual 276, 3) := by decide +kernel
theorem dX7_item_36 : decode cX7_item 36 = .ok (.ifCond .ne 6, 3) := by decide +kernel
theorem dX7_item_39 : decode cX7_item 39 = .ok (.bipush (-13), 2) := by decide +kernel
theorem dX7_item_41 : decode cX7_item 41 = .ok (.ireturn, 1) := by decide +kernel
theorem dX7_item_42 : decode cX7_item 42 = .ok (.aload_n 0, 1) := by decide +kernel
theorem dX7_item_43 : decode cX7_item 43 = .ok (.getfield 269, 3) := by decide +kernel
theorem dX7_item_46 : decode cX7_item 46 = .ok (.bipush 60, 2) := by decide +kernel
theorem dX7_item_48 : decode cX7_item 48 = .ok (.iload_n 1, 1) := by decide +kernel
theorem dX7_item_49 : decode cX7_item 49 = .ok (.imul, 1) := by decide +kernel
theorem dX7_item_50 : decode cX7_item 50 = .ok (.iload_n 2, 1) := by decide +kernel
theorem dX7_item_51 : decode cX7_item 51 = .ok (.iadd, 1) := by decide +kernel
theorem dX7_item_52 : decode cX7_item 52 = .ok (.aload_n 0, 1) := by decide +kernel
theorem dX7_item_53 : decode cX7_item 53 = .ok (.aload_n 0, 1) := by decide +kernel
theorem dX7_item_54 : decode cX7_item 54 = .ok (.getfield 263, 3) := by decide +kernel
theorem dX7_item_57 : decode cX7_item 57 = .ok (.iload_n 1, 1) := by decide +kernel
theorem dX7_item_58 : decode cX7_item 58 = .ok (.iaload, 1) := by decide +kernel
theorem dX7_item_59 : decode cX7_item 59 = .ok (.lload_n 3, 1) := by decide +kernel
theorem dX7_item_60 : decode cX7_item 60 = .ok (.invokevirtual 467, 3) := by decide +kernel
theorem dX7_item_63 : decode cX7_item 63 = .ok (.lastore, 1) := by decide +kernel
theorem dX7_item_64 : decode cX7_item 64 = .ok (.iconst 1, 1) := by decide +kernel
theorem dX7_item_65 : decode cX7_item 65 = .ok (.ireturn, 1) := by decide +kernel
theorem dX7_read_0 : decode cX7_read 0 = .ok (.aload_n 0, 1) := by decide +kernel
theorem dX7_read_1 : decode cX7_read 1 = .ok (.iload_n 1, 1) := by decide +kernel
theorem dX7_read_2 : decode cX7_read 2 = .ok (.invokevirtual 440, 3) := by decide +kernel
theorem dX7_read_5 : decode cX7_read 5 = .ok (.ifCond .eq 29, 3) := by decide +kernel
theorem dX7_read_8 : decode cX7_read 8 = .ok (.aload_n 0, 1) := by decide +kernel
theorem dX7_read_9 : decode cX7_read 9 = .ok (.getfield 263, 3) := by decide +kernel
theorem dX7_read_12 : decode cX7_read 12 = .ok (.iload_n 1, 1) := by decide +kernel
theorem dX7_read_13 : decode cX7_read 13 = .ok (.iaload, 1) := by decide +kernel
theorem dX7_read_14 : decode cX7_read 14 = .ok (.ifCond .lt 20, 3) := by decide +kernel
theorem dX7_read_17 : decode cX7_read 17 = .ok (.aload_n 0, 1) := by decide +kernel
theorem dX7_read_18 : decode cX7_read 18 = .ok (.iload_n 2, 1) := by decide +kernel
theorem dX7_read_19 : decode cX7_read 19 = .ok (.iconst 0, 1) := by decide +kernel
theorem dX7_read_20 : decode cX7_read 20 = .ok (.aload_n 0, 1) := by decide +kernel
theorem dX7_read_21 : decode cX7_read 21 = .ok (.getfield 266, 3) := by decide +kernel
theorem dX7_read_24 : decode cX7_read 24 = .ok (.iload_n 1, 1) := by decide +kernel
theorem dX7_read_25 : decode cX7_read 25 = .ok (.iaload, 1) := by decide +kernel
theorem dX7_read_26 : decode cX7_read 26 = .ok (.iconst 1, 1) := by decide +kernel
theorem dX7_read_27 : decode cX7_read 27 = .ok (.isub, 1) := by decide +kernel
theorem dX7_read_28 : decode cX7_read 28 = .ok (.invokevirtual 276, 3) := by decide +kernel
theorem dX7_read_31 : decode cX7_read 31 = .ok (.ifCond .ne 9, 3) := by decide +kernel
theorem dX7_read_34 : decode cX7_read 34 = .ok (.ldc2_w 430, 3) := by decide +kernel
theorem dX7_read_37 : decode cX7_read 37 = .ok (.goto 14, 3) := by decide +kernel
theorem dX7_read_40 : decode cX7_read 40 = .ok (.aload_n 0, 1) := by decide +kernel
theorem dX7_read_41 : decode cX7_read 41 = .ok (.getfield 269, 3) := by decide +kernel
theorem dX7_read_44 : decode cX7_read 44 = .ok (.bipush 60, 2) := by decide +kernel
theorem dX7_read_46 : decode cX7_read 46 = .ok (.iload_n 1, 1) := by decide +kernel
theorem dX7_read_47 : decode cX7_read 47 = .ok (.imul, 1) := by decide +kernel
theorem dX7_read_48 : decode cX7_read 48 = .ok (.iload_n 2, 1) := by decide +kernel
theorem dX7_read_49 : decode cX7_read 49 = .ok (.iadd, 1) := by decide +kernel
theorem dX7_read_50 : decode cX7_read 50 = .ok (.laload, 1) := by decide +kernel
theorem dX7_read_51 : decode cX7_read 51 = .ok (.lreturn, 1) := by decide +kernel
theorem dX7_shift_0 : decode cX7_shift 0 = .ok (.aload_n 0, 1) := by decide +kernel
theorem dX7_shift_1 : decode cX7_shift 1 = .ok (.iload_n 1, 1) := by decide +kernel
theorem dX7_shift_2 : decode cX7_shift 2 = .ok (.invokevirtual 440, 3) := by decide +kernel
theorem dX7_shift_5 : decode cX7_shift 5 = .ok (.ifCond .eq 11, 3) := by decide +kernel
theorem dX7_shift_8 : decode cX7_shift 8 = .ok (.aload_n 0, 1) := by decide +kernel
theorem dX7_shift_9 : decode cX7_shift 9 = .ok (.iload_n 3, 1) := by decide +kernel
theorem dX7_shift_10 : decode cX7_shift 10 = .ok (.invokevirtual 440, 3) := by decide +kernel
theorem dX7_shift_13 : decode cX7_shift 13 = .ok (.ifCond .ne 5, 3) := by decide +kernel
theorem dX7_shift_16 : decode cX7_shift 16 = .ok (.iconst (-1), 1) := by decide +kernel
theorem dX7_shift_17 : decode cX7_shift 17 = .ok (.ireturn, 1) := by decide +kernel
theorem dX7_shift_18 : decode cX7_shift 18 = .ok (.aload_n 0, 1) := by decide +kernel
theorem dX7_shift_19 : decode cX7_shift 19 = .ok (.getfield 263, 3) := by decide +kernel
theorem dX7_shift_22 : decode cX7_shift 22 = .ok (.iload_n 1, 1) := by decide +kernel
theorem dX7_shift_23 : decode cX7_shift 23 = .ok (.iaload, 1) := by decide +kernel
theorem dX7_shift_24 : decode cX7_shift 24 = .ok (.ifCond .lt 12, 3) := by decide +kernel
theorem dX7_shift_27 : decode cX7_shift 27 = .ok (.aload_n 0, 1) := by decide +kernel
theorem dX7_shift_28 : decode cX7_shift 28 = .ok (.getfield 263, 3) := by decide +kernel
theorem dX7_shift_31 : decode cX7_shift 31 = .ok (.iload_n 3, 1) := by decide +kernel
theorem dX7_shift_32 : decode cX7_shift 32 = .ok (.iaload, 1) := by decide +kernel
theorem dX7_shift_33 : decode cX7_shift 33 = .ok (.ifCond .ge 6, 3) := by decide +kernel
theorem dX7_shift_36 : decode cX7_shift 36 = .ok (.bipush (-11), 2) := by decide +kernel
theorem dX7_shift_38 : decode cX7_shift 38 = .ok (.ireturn, 1) := by decide +kernel
theorem dX7_shift_39 : decode cX7_shift 39 = .ok (.aload_n 0, 1) := by decide +kernel
theorem dX7_shift_40 : decode cX7_shift 40 = .ok (.getfield 263, 3) := by decide +kernel
theorem dX7_shift_43 : decode cX7_shift 43 = .ok (.iload_n 1, 1) := by decide +kernel
theorem dX7_shift_44 : decode cX7_shift 44 = .ok (.iaload, 1) := by decide +kernel
theorem dX7_shift_45 : decode cX7_shift 45 = .ok (.aload_n 0, 1) := by decide +kernel
theorem dX7_shift_46 : decode cX7_shift 46 = .ok (.getfield 263, 3) := by decide +kernel
theorem dX7_shift_49 : decode cX7_shift 49 = .ok (.iload_n 3, 1) := by decide +kernel
theorem dX7_shift_50 : decode cX7_shift 50 = .ok (.iaload, 1) := by decide +kernel
theorem dX7_shift_51 : decode cX7_shift 51 = .ok (.if_icmp .eq 6, 3) := by decide +kernel
theorem dX7_shift_54 : decode cX7_shift 54 = .ok (.bipush (-12), 2) := by decide +kernel
theorem dX7_shift_56 : decode cX7_shift 56 = .ok (.ireturn, 1) := by decide +kernel
theorem dX7_shift_57 : decode cX7_shift 57 = .ok (.iload 5, 2) := by decide +kernel
theorem dX7_shift_59 : decode cX7_shift 59 = .ok (.ifCond .lt 39, 3) := by decide +kernel
theorem dX7_shift_62 : decode cX7_shift 62 = .ok (.iload_n 2, 1) := by decide +kernel
theorem dX7_shift_63 : decode cX7_shift 63 = .ok (.ifCond .lt 35, 3) := by decide +kernel
theorem dX7_shift_66 : decode cX7_shift 66 = .ok (.iload 4, 2) := by decide +kernel
theorem dX7_shift_68 : decode cX7_shift 68 = .ok (.ifCond .lt 30, 3) := by decide +kernel
theorem dX7_shift_71 : decode cX7_shift 71 = .ok (.iload_n 2, 1) := by decide +kernel
theorem dX7_shift_72 : decode cX7_shift 72 = .ok (.aload_n 0, 1) := by decide +kernel
theorem dX7_shift_73 : decode cX7_shift 73 = .ok (.getfield 266, 3) := by decide +kernel
theorem dX7_shift_76 : decode cX7_shift 76 = .ok (.iload_n 1, 1) := by decide +kernel
theorem dX7_shift_77 : decode cX7_shift 77 = .ok (.iaload, 1) := by decide +kernel
theorem dX7_shift_78 : decode cX7_shift 78 = .ok (.iload 5, 2) := by decide +kernel
theorem dX7_shift_80 : decode cX7_shift 80 = .ok (.isub, 1) := by decide +kernel
theorem dX7_shift_81 : decode cX7_shift 81 = .ok (.if_icmp .gt 17, 3) := by decide +kernel
theorem dX7_shift_84 : decode cX7_shift 84 = .ok (.iload 4, 2) := by decide +kernel
theorem dX7_shift_86 : decode cX7_shift 86 = .ok (.aload_n 0, 1) := by decide +kernel
theorem dX7_shift_87 : decode cX7_shift 87 = .ok (.getfield 266, 3) := by decide +kernel
theorem dX7_shift_90 : decode cX7_shift 90 = .ok (.iload_n 3, 1) := by decide +kernel
theorem dX7_shift_91 : decode cX7_shift 91 = .ok (.iaload, 1) := by decide +kernel
theorem dX7_shift_92 : decode cX7_shift 92 = .ok (.iload 5, 2) := by decide +kernel
theorem dX7_shift_94 : decode cX7_shift 94 = .ok (.isub, 1) := by decide +kernel
theorem dX7_shift_95 : decode cX7_shift 95 = .ok (.if_icmp .le 6, 3) := by decide +kernel
theorem dX7_shift_98 : decode cX7_shift 98 = .ok (.bipush (-13), 2) := by decide +kernel
theorem dX7_shift_100 : decode cX7_shift 100 = .ok (.ireturn, 1) := by decide +kernel
theorem dX7_shift_101 : decode cX7_shift 101 = .ok (.iconst 0, 1) := by decide +kernel
theorem dX7_shift_102 : decode cX7_shift 102 = .ok (.istore 6, 2) := by decide +kernel
theorem dX7_shift_104 : decode cX7_shift 104 = .ok (.iload 6, 2) := by decide +kernel
theorem dX7_shift_106 : decode cX7_shift 106 = .ok (.iload 5, 2) := by decide +kernel
theorem dX7_shift_108 : decode cX7_shift 108 = .ok (.if_icmp .ge 30, 3) := by decide +kernel
theorem dX7_shift_111 : decode cX7_shift 111 = .ok (.aload_n 0, 1) := by decide +kernel
theorem dX7_shift_112 : decode cX7_shift 112 = .ok (.getfield 273, 3) := by decide +kernel
theorem dX7_shift_115 : decode cX7_shift 115 = .ok (.iload 6, 2) := by decide +kernel
theorem dX7_shift_117 : decode cX7_shift 117 = .ok (.aload_n 0, 1) := by decide +kernel
theorem dX7_shift_118 : decode cX7_shift 118 = .ok (.getfield 269, 3) := by decide +kernel
theorem dX7_shift_121 : decode cX7_shift 121 = .ok (.bipush 60, 2) := by decide +kernel
theorem dX7_shift_123 : decode cX7_shift 123 = .ok (.iload_n 1, 1) := by decide +kernel
theorem dX7_shift_124 : decode cX7_shift 124 = .ok (.imul, 1) := by decide +kernel
theorem dX7_shift_125 : decode cX7_shift 125 = .ok (.iload_n 2, 1) := by decide +kernel
theorem dX7_shift_126 : decode cX7_shift 126 = .ok (.iadd, 1) := by decide +kernel
theorem dX7_shift_127 : decode cX7_shift 127 = .ok (.iload 6, 2) := by decide +kernel
theorem dX7_shift_129 : decode cX7_shift 129 = .ok (.iadd, 1) := by decide +kernel
theorem dX7_shift_130 : decode cX7_shift 130 = .ok (.laload, 1) := by decide +kernel
theorem dX7_shift_131 : decode cX7_shift 131 = .ok (.lastore, 1) := by decide +kernel
theorem dX7_shift_132 : decode cX7_shift 132 = .ok (.iinc 6 1, 3) := by decide +kernel
theorem dX7_shift_135 : decode cX7_shift 135 = .ok (.goto (-31), 3) := by decide +kernel
theorem dX7_shift_138 : decode cX7_shift 138 = .ok (.iconst 0, 1) := by decide +kernel
theorem dX7_shift_139 : decode cX7_shift 139 = .ok (.istore 6, 2) := by decide +kernel
theorem dX7_shift_141 : decode cX7_shift 141 = .ok (.iload 6, 2) := by decide +kernel
theorem dX7_shift_143 : decode cX7_shift 143 = .ok (.iload 5, 2) := by decide +kernel
theorem dX7_shift_145 : decode cX7_shift 145 = .ok (.if_icmp .ge 31, 3) := by decide +kernel
theorem dX7_shift_148 : decode cX7_shift 148 = .ok (.aload_n 0, 1) := by decide +kernel
theorem dX7_shift_149 : decode cX7_shift 149 = .ok (.getfield 269, 3) := by decide +kernel
theorem dX7_shift_152 : decode cX7_shift 152 = .ok (.bipush 60, 2) := by decide +kernel
theorem dX7_shift_154 : decode cX7_shift 154 = .ok (.iload_n 3, 1) := by decide +kernel
theorem dX7_shift_155 : decode cX7_shift 155 = .ok (.imul, 1) := by decide +kernel
theorem dX7_shift_156 : decode cX7_shift 156 = .ok (.iload 4, 2) := by decide +kernel
theorem dX7_shift_158 : decode cX7_shift 158 = .ok (.iadd, 1) := by decide +kernel
theorem dX7_shift_159 : decode cX7_shift 159 = .ok (.iload 6, 2) := by decide +kernel
theorem dX7_shift_161 : decode cX7_shift 161 = .ok (.iadd, 1) := by decide +kernel
theorem dX7_shift_162 : decode cX7_shift 162 = .ok (.aload_n 0, 1) := by decide +kernel
theorem dX7_shift_163 : decode cX7_shift 163 = .ok (.getfield 273, 3) := by decide +kernel
theorem dX7_shift_166 : decode cX7_shift 166 = .ok (.iload 6, 2) := by decide +kernel
theorem dX7_shift_168 : decode cX7_shift 168 = .ok (.laload, 1) := by decide +kernel
theorem dX7_shift_169 : decode cX7_shift 169 = .ok (.lastore, 1) := by decide +kernel
theorem dX7_shift_170 : decode cX7_shift 170 = .ok (.iinc 6 1, 3) := by decide +kernel
theorem dX7_shift_173 : decode cX7_shift 173 = .ok (.goto (-32), 3) := by decide +kernel
theorem dX7_shift_176 : decode cX7_shift 176 = .ok (.iload 5, 2) := by decide +kernel
theorem dX7_shift_178 : decode cX7_shift 178 = .ok (.ireturn, 1) := by decide +kernel
theorem dL_law_0 : decode cL_law 0 = .ok (.new 7, 3) := by decide +kernel
theorem dL_law_3 : decode cL_law 3 = .ok (.dup, 1) := by decide +kernel
theorem dL_law_4 : decode cL_law 4 = .ok (.invokespecial 9, 3) := by decide +kernel
theorem dL_law_7 : decode cL_law 7 = .ok (.astore_n 1, 1) := by decide +kernel
theorem dL_law_8 : decode cL_law 8 = .ok (.new 10, 3) := by decide +kernel
theorem dL_law_11 : decode cL_law 11 = .ok (.dup, 1) := by decide +kernel
theorem dL_law_12 : decode cL_law 12 = .ok (.invokespecial 12, 3) := by decide +kernel
theorem dL_law_15 : decode cL_law 15 = .ok (.astore_n 2, 1) := by decide +kernel
theorem dL_law_16 : decode cL_law 16 = .ok (.iconst 0, 1) := by decide +kernel
theorem dL_law_17 : decode cL_law 17 = .ok (.istore_n 3, 1) := by decide +kernel
theorem dL_law_18 : decode cL_law 18 = .ok (.iload_n 3, 1) := by decide +kernel
theorem dL_law_19 : decode cL_law 19 = .ok (.aload_n 0, 1) := by decide +kernel
theorem dL_law_20 : decode cL_law 20 = .ok (.arraylength, 1) := by decide +kernel
theorem dL_law_21 : decode cL_law 21 = .ok (.bipush 6, 2) := by decide +kernel
theorem dL_law_23 : decode cL_law 23 = .ok (.isub, 1) := by decide +kernel
theorem dL_law_24 : decode cL_law 24 = .ok (.if_icmp .gt 1329, 3) := by decide +kernel
theorem dL_law_27 : decode cL_law 27 = .ok (.aload_n 0, 1) := by decide +kernel
theorem dL_law_28 : decode cL_law 28 = .ok (.iload_n 3, 1) := by decide +kernel
theorem dL_law_29 : decode cL_law 29 = .ok (.iaload, 1) := by decide +kernel
theorem dL_law_30 : decode cL_law 30 = .ok (.bipush 63, 2) := by decide +kernel
theorem dL_law_32 : decode cL_law 32 = .ok (.iand, 1) := by decide +kernel
theorem dL_law_33 : decode cL_law 33 = .ok (.tableswitch 1314 0 37 #[167, 210, 243, 286, 329, 352, 375, 408, 431, 444, 467, 490, 523, 546, 569, 582, 605, 638, 661, 694, 727, 760, 794, 818, 851, 874, 907, 920, 953, 966, 979, 1022, 1045, 1078, 1101, 1144, 1217, 1251], 167) := by decide +kernel
theorem dL_law_200 : decode cL_law 200 = .ok (.aload_n 1, 1) := by decide +kernel
theorem dL_law_201 : decode cL_law 201 = .ok (.aload_n 0, 1) := by decide +kernel
theorem dL_law_202 : decode cL_law 202 = .ok (.iload_n 3, 1) := by decide +kernel
theorem dL_law_203 : decode cL_law 203 = .ok (.iconst 1, 1) := by decide +kernel
theorem dL_law_204 : decode cL_law 204 = .ok (.iadd, 1) := by decide +kernel
theorem dL_law_205 : decode cL_law 205 = .ok (.iaload, 1) := by decide +kernel
theorem dL_law_206 : decode cL_law 206 = .ok (.aload_n 0, 1) := by decide +kernel
theorem dL_law_207 : decode cL_law 207 = .ok (.iload_n 3, 1) := by decide +kernel
theorem dL_law_208 : decode cL_law 208 = .ok (.iconst 2, 1) := by decide +kernel
theorem dL_law_209 : decode cL_law 209 = .ok (.iadd, 1) := by decide +kernel
theorem dL_law_210 : decode cL_law 210 = .ok (.iaload, 1) := by decide +kernel
theorem dL_law_211 : decode cL_law 211 = .ok (.aload_n 0, 1) := by decide +kernel
theorem dL_law_212 : decode cL_law 212 = .ok (.iload_n 3, 1) := by decide +kernel
theorem dL_law_213 : decode cL_law 213 = .ok (.iconst 3, 1) := by decide +kernel
theorem dL_law_214 : decode cL_law 214 = .ok (.iadd, 1) := by decide +kernel
theorem dL_law_215 : decode cL_law 215 = .ok (.iaload, 1) := by decide +kernel
theorem dL_law_216 : decode cL_law 216 = .ok (.invokevirtual 13, 3) := by decide +kernel
theorem dL_law_219 : decode cL_law 219 = .ok (.aload_n 2, 1) := by decide +kernel
theorem dL_law_220 : decode cL_law 220 = .ok (.aload_n 0, 1) := by decide +kernel
theorem dL_law_221 : decode cL_law 221 = .ok (.iload_n 3, 1) := by decide +kernel
theorem dL_law_222 : decode cL_law 222 = .ok (.iconst 1, 1) := by decide +kernel
theorem dL_law_223 : decode cL_law 223 = .ok (.iadd, 1) := by decide +kernel
theorem dL_law_224 : decode cL_law 224 = .ok (.iaload, 1) := by decide +kernel
theorem dL_law_225 : decode cL_law 225 = .ok (.aload_n 0, 1) := by decide +kernel
theorem dL_law_226 : decode cL_law 226 = .ok (.iload_n 3, 1) := by decide +kernel
theorem dL_law_227 : decode cL_law 227 = .ok (.iconst 2, 1) := by decide +kernel
theorem dL_law_228 : decode cL_law 228 = .ok (.iadd, 1) := by decide +kernel
theorem dL_law_229 : decode cL_law 229 = .ok (.iaload, 1) := by decide +kernel
theorem dL_law_230 : decode cL_law 230 = .ok (.aload_n 0, 1) := by decide +kernel
theorem dL_law_231 : decode cL_law 231 = .ok (.iload_n 3, 1) := by decide +kernel
theorem dL_law_232 : decode cL_law 232 = .ok (.iconst 3, 1) := by decide +kernel
theorem dL_law_233 : decode cL_law 233 = .ok (.iadd, 1) := by decide +kernel
theorem dL_law_234 : decode cL_law 234 = .ok (.iaload, 1) := by decide +kernel
theorem dL_law_235 : decode cL_law 235 = .ok (.invokevirtual 17, 3) := by decide +kernel
theorem dL_law_238 : decode cL_law 238 = .ok (.if_icmp .eq 1109, 3) := by decide +kernel
theorem dL_law_241 : decode cL_law 241 = .ok (.iconst 0, 1) := by decide +kernel
theorem dL_law_242 : decode cL_law 242 = .ok (.ireturn, 1) := by decide +kernel
theorem dL_law_243 : decode cL_law 243 = .ok (.aload_n 1, 1) := by decide +kernel
theorem dL_law_244 : decode cL_law 244 = .ok (.aload_n 0, 1) := by decide +kernel
theorem dL_law_245 : decode cL_law 245 = .ok (.iload_n 3, 1) := by decide +kernel
theorem dL_law_246 : decode cL_law 246 = .ok (.iconst 1, 1) := by decide +kernel
theorem dL_law_247 : decode cL_law 247 = .ok (.iadd, 1) := by decide +kernel
theorem dL_law_248 : decode cL_law 248 = .ok (.iaload, 1) := by decide +kernel
theorem dL_law_249 : decode cL_law 249 = .ok (.aload_n 0, 1) := by decide +kernel
theorem dL_law_250 : decode cL_law 250 = .ok (.iload_n 3, 1) := by decide +kernel
theorem dL_law_251 : decode cL_law 251 = .ok (.iconst 2, 1) := by decide +kernel
theorem dL_law_252 : decode cL_law 252 = .ok (.iadd, 1) := by decide +kernel
theorem dL_law_253 : decode cL_law 253 = .ok (.iaload, 1) := by decide +kernel
theorem dL_law_254 : decode cL_law 254 = .ok (.invokevirtual 18, 3) := by decide +kernel
theorem dL_law_257 : decode cL_law 257 = .ok (.aload_n 2, 1) := by decide +kernel
theorem dL_law_258 : decode cL_law 258 = .ok (.aload_n 0, 1) := by decide +kernel
theorem dL_law_259 : decode cL_law 259 = .ok (.iload_n 3, 1) := by decide +kernel
theorem dL_law_260 : decode cL_law 260 = .ok (.iconst 1, 1) := by decide +kernel
theorem dL_law_261 : decode cL_law 261 = .ok (.iadd, 1) := by decide +kernel
theorem dL_law_262 : decode cL_law 262 = .ok (.iaload, 1) := by decide +kernel
theorem dL_law_263 : decode cL_law 263 = .ok (.aload_n 0, 1) := by decide +kernel
theorem dL_law_264 : decode cL_law 264 = .ok (.iload_n 3, 1) := by decide +kernel
theorem dL_law_265 : decode cL_law 265 = .ok (.iconst 2, 1) := by decide +kernel
theorem dL_law_266 : decode cL_law 266 = .ok (.iadd, 1) := by decide +kernel
theorem dL_law_267 : decode cL_law 267 = .ok (.iaload, 1) := by decide +kernel
theorem dL_law_268 : decode cL_law 268 = .ok (.invokevirtual 22, 3) := by decide +kernel
theorem dL_law_271 : decode cL_law 271 = .ok (.if_icmp .eq 1076, 3) := by decide +kernel
theorem dL_law_274 : decode cL_law 274 = .ok (.iconst 0, 1) := by decide +kernel
theorem dL_law_275 : decode cL_law 275 = .ok (.ireturn, 1) := by decide +kernel
theorem dL_law_276 : decode cL_law 276 = .ok (.aload_n 1, 1) := by decide +kernel
theorem dL_law_277 : decode cL_law 277 = .ok (.aload_n 0, 1) := by decide +kernel
theorem dL_law_278 : decode cL_law 278 = .ok (.iload_n 3, 1) := by decide +kernel
theorem dL_law_279 : decode cL_law 279 = .ok (.iconst 1, 1) := by decide +kernel
theorem dL_law_280 : decode cL_law 280 = .ok (.iadd, 1) := by decide +kernel
theorem dL_law_281 : decode cL_law 281 = .ok (.iaload, 1) := by decide +kernel
theorem dL_law_282 : decode cL_law 282 = .ok (.aload_n 0, 1) := by decide +kernel
theorem dL_law_283 : decode cL_law 283 = .ok (.iload_n 3, 1) := by decide +kernel
theorem dL_law_284 : decode cL_law 284 = .ok (.iconst 2, 1) := by decide +kernel
theorem dL_law_285 : decode cL_law 285 = .ok (.iadd, 1) := by decide +kernel
theorem dL_law_286 : decode cL_law 286 = .ok (.iaload, 1) := by decide +kernel
theorem dL_law_287 : decode cL_law 287 = .ok (.aload_n 0, 1) := by decide +kernel
theorem dL_law_288 : decode cL_law 288 = .ok (.iload_n 3, 1) := by decide +kernel
theorem dL_law_289 : decode cL_law 289 = .ok (.iconst 3, 1) := by decide +kernel
theorem dL_law_290 : decode cL_law 290 = .ok (.iadd, 1) := by decide +kernel
theorem dL_law_291 : decode cL_law 291 = .ok (.iaload, 1) := by decide +kernel
theorem dL_law_292 : decode cL_law 292 = .ok (.invokevirtual 23, 3) := by decide +kernel
theorem dL_law_295 : decode cL_law 295 = .ok (.aload_n 2, 1) := by decide +kernel
theorem dL_law_296 : decode cL_law 296 = .ok (.aload_n 0, 1) := by decide +kernel
theorem dL_law_297 : decode cL_law 297 = .ok (.iload_n 3, 1) := by decide +kernel
theorem dL_law_298 : decode cL_law 298 = .ok (.iconst 1, 1) := by decide +kernel
theorem dL_law_299 : decode cL_law 299 = .ok (.iadd, 1) := by decide +kernel
theorem dL_law_300 : decode cL_law 300 = .ok (.iaload, 1) := by decide +kernel
theorem dL_law_301 : decode cL_law 301 = .ok (.aload_n 0, 1) := by decide +kernel
theorem dL_law_302 : decode cL_law 302 = .ok (.iload_n 3, 1) := by decide +kernel
theorem dL_law_303 : decode cL_law 303 = .ok (.iconst 2, 1) := by decide +kernel
theorem dL_law_304 : decode cL_law 304 = .ok (.iadd, 1) := by decide +kernel
theorem dL_law_305 : decode cL_law 305 = .ok (.iaload, 1) := by decide +kernel
theorem dL_law_306 : decode cL_law 306 = .ok (.aload_n 0, 1) := by decide +kernel
theorem dL_law_307 : decode cL_law 307 = .ok (.iload_n 3, 1) := by decide +kernel
theorem dL_law_308 : decode cL_law 308 = .ok (.iconst 3, 1) := by decide +kernel
theorem dL_law_309 : decode cL_law 309 = .ok (.iadd, 1) := by decide +kernel
theorem dL_law_310 : decode cL_law 310 = .ok (.iaload, 1) := by decide +kernel
theorem dL_law_311 : decode cL_law 311 = .ok (.invokevirtual 26, 3) := by decide +kernel
theorem dL_law_314 : decode cL_law 314 = .ok (.if_icmp .eq 1033, 3) := by decide +kernel
theorem dL_law_317 : decode cL_law 317 = .ok (.iconst 0, 1) := by decide +kernel
theorem dL_law_318 : decode cL_law 318 = .ok (.ireturn, 1) := by decide +kernel
theorem dL_law_319 : decode cL_law 319 = .ok (.aload_n 1, 1) := by decide +kernel
theorem dL_law_320 : decode cL_law 320 = .ok (.aload_n 0, 1) := by decide +kernel
theorem dL_law_321 : decode cL_law 321 = .ok (.iload_n 3, 1) := by decide +kernel
theorem dL_law_322 : decode cL_law 322 = .ok (.iconst 1, 1) := by decide +kernel
theorem dL_law_323 : decode cL_law 323 = .ok (.iadd, 1) := by decide +kernel
theorem dL_law_324 : decode cL_law 324 = .ok (.iaload, 1) := by decide +kernel
theorem dL_law_325 : decode cL_law 325 = .ok (.aload_n 0, 1) := by decide +kernel
theorem dL_law_326 : decode cL_law 326 = .ok (.iload_n 3, 1) := by decide +kernel
theorem dL_law_327 : decode cL_law 327 = .ok (.iconst 2, 1) := by decide +kernel
theorem dL_law_328 : decode cL_law 328 = .ok (.iadd, 1) := by decide +kernel
theorem dL_law_329 : decode cL_law 329 = .ok (.iaload, 1) := by decide +kernel
theorem dL_law_330 : decode cL_law 330 = .ok (.aload_n 0, 1) := by decide +kernel
theorem dL_law_331 : decode cL_law 331 = .ok (.iload_n 3, 1) := by decide +kernel
theorem dL_law_332 : decode cL_law 332 = .ok (.iconst 3, 1) := by decide +kernel
theorem dL_law_333 : decode cL_law 333 = .ok (.iadd, 1) := by decide +kernel
theorem dL_law_334 : decode cL_law 334 = .ok (.iaload, 1) := by decide +kernel
theorem dL_law_335 : decode cL_law 335 = .ok (.invokevirtual 27, 3) := by decide +kernel
theorem dL_law_338 : decode cL_law 338 = .ok (.aload_n 2, 1) := by decide +kernel
theorem dL_law_339 : decode cL_law 339 = .ok (.aload_n 0, 1) := by decide +kernel
theorem dL_law_340 : decode cL_law 340 = .ok (.iload_n 3, 1) := by decide +kernel
theorem dL_law_341 : decode cL_law 341 = .ok (.iconst 1, 1) := by decide +kernel
theorem dL_law_342 : decode cL_law 342 = .ok (.iadd, 1) := by decide +kernel
theorem dL_law_343 : decode cL_law 343 = .ok (.iaload, 1) := by decide +kernel
theorem dL_law_344 : decode cL_law 344 = .ok (.aload_n 0, 1) := by decide +kernel
theorem dL_law_345 : decode cL_law 345 = .ok (.iload_n 3, 1) := by decide +kernel
theorem dL_law_346 : decode cL_law 346 = .ok (.iconst 2, 1) := by decide +kernel
theorem dL_law_347 : decode cL_law 347 = .ok (.iadd, 1) := by decide +kernel
theorem dL_law_348 : decode cL_law 348 = .ok (.iaload, 1) := by decide +kernel
theorem dL_law_349 : decode cL_law 349 = .ok (.aload_n 0, 1) := by decide +kernel
theorem dL_law_350 : decode cL_law 350 = .ok (.iload_n 3, 1) := by decide +kernel
theorem dL_law_351 : decode cL_law 351 = .ok (.iconst 3, 1) := by decide +kernel
theorem dL_law_352 : decode cL_law 352 = .ok (.iadd, 1) := by decide +kernel
theorem dL_law_353 : decode cL_law 353 = .ok (.iaload, 1) := by decide +kernel
theorem dL_law_354 : decode cL_law 354 = .ok (.invokevirtual 30, 3) := by decide +kernel
theorem dL_law_357 : decode cL_law 357 = .ok (.if_icmp .eq 990, 3) := by decide +kernel
theorem dL_law_360 : decode cL_law 360 = .ok (.iconst 0, 1) := by decide +kernel
theorem dL_law_361 : decode cL_law 361 = .ok (.ireturn, 1) := by decide +kernel
theorem dL_law_362 : decode cL_law 362 = .ok (.aload_n 1, 1) := by decide +kernel
theorem dL_law_363 : decode cL_law 363 = .ok (.aload_n 0, 1) := by decide +kernel
theorem dL_law_364 : decode cL_law 364 = .ok (.iload_n 3, 1) := by decide +kernel
theorem dL_law_365 : decode cL_law 365 = .ok (.iconst 1, 1) := by decide +kernel
theorem dL_law_366 : decode cL_law 366 = .ok (.iadd, 1) := by decide +kernel
theorem dL_law_367 : decode cL_law 367 = .ok (.iaload, 1) := by decide +kernel
theorem dL_law_368 : decode cL_law 368 = .ok (.invokevirtual 31, 3) := by decide +kernel
theorem dL_law_371 : decode cL_law 371 = .ok (.aload_n 2, 1) := by decide +kernel
theorem dL_law_372 : decode cL_law 372 = .ok (.aload_n 0, 1) := by decide +kernel
theorem dL_law_373 : decode cL_law 373 = .ok (.iload_n 3, 1) := by decide +kernel
theorem dL_law_374 : decode cL_law 374 = .ok (.iconst 1, 1) := by decide +kernel
theorem dL_law_375 : decode cL_law 375 = .ok (.iadd, 1) := by decide +kernel
theorem dL_law_376 : decode cL_law 376 = .ok (.iaload, 1) := by decide +kernel
theorem dL_law_377 : decode cL_law 377 = .ok (.invokevirtual 35, 3) := by decide +kernel
theorem dL_law_380 : decode cL_law 380 = .ok (.if_icmp .eq 967, 3) := by decide +kernel
theorem dL_law_383 : decode cL_law 383 = .ok (.iconst 0, 1) := by decide +kernel
theorem dL_law_384 : decode cL_law 384 = .ok (.ireturn, 1) := by decide +kernel
theorem dL_law_385 : decode cL_law 385 = .ok (.aload_n 1, 1) := by decide +kernel
theorem dL_law_386 : decode cL_law 386 = .ok (.aload_n 0, 1) := by decide +kernel
theorem dL_law_387 : decode cL_law 387 = .ok (.iload_n 3, 1) := by decide +kernel
theorem dL_law_388 : decode cL_law 388 = .ok (.iconst 1, 1) := by decide +kernel
theorem dL_law_389 : decode cL_law 389 = .ok (.iadd, 1) := by decide +kernel
theorem dL_law_390 : decode cL_law 390 = .ok (.iaload, 1) := by decide +kernel
theorem dL_law_391 : decode cL_law 391 = .ok (.invokevirtual 36, 3) := by decide +kernel
theorem dL_law_394 : decode cL_law 394 = .ok (.aload_n 2, 1) := by decide +kernel
theorem dL_law_395 : decode cL_law 395 = .ok (.aload_n 0, 1) := by decide +kernel
theorem dL_law_396 : decode cL_law 396 = .ok (.iload_n 3, 1) := by decide +kernel
theorem dL_law_397 : decode cL_law 397 = .ok (.iconst 1, 1) := by decide +kernel
theorem dL_law_398 : decode cL_law 398 = .ok (.iadd, 1) := by decide +kernel
theorem dL_law_399 : decode cL_law 399 = .ok (.iaload, 1) := by decide +kernel
theorem dL_law_400 : decode cL_law 400 = .ok (.invokevirtual 39, 3) := by decide +kernel
theorem dL_law_403 : decode cL_law 403 = .ok (.if_icmp .eq 944, 3) := by decide +kernel
theorem dL_law_406 : decode cL_law 406 = .ok (.iconst 0, 1) := by decide +kernel
theorem dL_law_407 : decode cL_law 407 = .ok (.ireturn, 1) := by decide +kernel
theorem dL_law_408 : decode cL_law 408 = .ok (.aload_n 1, 1) := by decide +kernel
theorem dL_law_409 : decode cL_law 409 = .ok (.aload_n 0, 1) := by decide +kernel
theorem dL_law_410 : decode cL_law 410 = .ok (.iload_n 3, 1) := by decide +kernel
theorem dL_law_411 : decode cL_law 411 = .ok (.iconst 1, 1) := by decide +kernel
theorem dL_law_412 : decode cL_law 412 = .ok (.iadd, 1) := by decide +kernel
theorem dL_law_413 : decode cL_law 413 = .ok (.iaload, 1) := by decide +kernel
theorem dL_law_414 : decode cL_law 414 = .ok (.aload_n 0, 1) := by decide +kernel
theorem dL_law_415 : decode cL_law 415 = .ok (.iload_n 3, 1) := by decide +kernel
theorem dL_law_416 : decode cL_law 416 = .ok (.iconst 2, 1) := by decide +kernel
theorem dL_law_417 : decode cL_law 417 = .ok (.iadd, 1) := by decide +kernel
theorem dL_law_418 : decode cL_law 418 = .ok (.iaload, 1) := by decide +kernel
theorem dL_law_419 : decode cL_law 419 = .ok (.invokevirtual 40, 3) := by decide +kernel
theorem dL_law_422 : decode cL_law 422 = .ok (.aload_n 2, 1) := by decide +kernel
theorem dL_law_423 : decode cL_law 423 = .ok (.aload_n 0, 1) := by decide +kernel
theorem dL_law_424 : decode cL_law 424 = .ok (.iload_n 3, 1) := by decide +kernel
theorem dL_law_425 : decode cL_law 425 = .ok (.iconst 1, 1) := by decide +kernel
theorem dL_law_426 : decode cL_law 426 = .ok (.iadd, 1) := by decide +kernel
theorem dL_law_427 : decode cL_law 427 = .ok (.iaload, 1) := by decide +kernel
theorem dL_law_428 : decode cL_law 428 = .ok (.aload_n 0, 1) := by decide +kernel
theorem dL_law_429 : decode cL_law 429 = .ok (.iload_n 3, 1) := by decide +kernel
theorem dL_law_430 : decode cL_law 430 = .ok (.iconst 2, 1) := by decide +kernel
theorem dL_law_431 : decode cL_law 431 = .ok (.iadd, 1) := by decide +kernel
theorem dL_law_432 : decode cL_law 432 = .ok (.iaload, 1) := by decide +kernel
theorem dL_law_433 : decode cL_law 433 = .ok (.invokevirtual 43, 3) := by decide +kernel
theorem dL_law_436 : decode cL_law 436 = .ok (.if_icmp .eq 911, 3) := by decide +kernel
theorem dL_law_439 : decode cL_law 439 = .ok (.iconst 0, 1) := by decide +kernel
theorem dL_law_440 : decode cL_law 440 = .ok (.ireturn, 1) := by decide +kernel
theorem dL_law_441 : decode cL_law 441 = .ok (.aload_n 1, 1) := by decide +kernel
theorem dL_law_442 : decode cL_law 442 = .ok (.aload_n 0, 1) := by decide +kernel
theorem dL_law_443 : decode cL_law 443 = .ok (.iload_n 3, 1) := by decide +kernel
theorem dL_law_444 : decode cL_law 444 = .ok (.iconst 1, 1) := by decide +kernel
theorem dL_law_445 : decode cL_law 445 = .ok (.iadd, 1) := by decide +kernel
theorem dL_law_446 : decode cL_law 446 = .ok (.iaload, 1) := by decide +kernel
theorem dL_law_447 : decode cL_law 447 = .ok (.invokevirtual 44, 3) := by decide +kernel
theorem dL_law_450 : decode cL_law 450 = .ok (.aload_n 2, 1) := by decide +kernel
theorem dL_law_451 : decode cL_law 451 = .ok (.aload_n 0, 1) := by decide +kernel
theorem dL_law_452 : decode cL_law 452 = .ok (.iload_n 3, 1) := by decide +kernel
theorem dL_law_453 : decode cL_law 453 = .ok (.iconst 1, 1) := by decide +kernel
theorem dL_law_454 : decode cL_law 454 = .ok (.iadd, 1) := by decide +kernel
theorem dL_law_455 : decode cL_law 455 = .ok (.iaload, 1) := by decide +kernel
theorem dL_law_456 : decode cL_law 456 = .ok (.invokevirtual 47, 3) := by decide +kernel
theorem dL_law_459 : decode cL_law 459 = .ok (.if_icmp .eq 888, 3) := by decide +kernel
theorem dL_law_462 : decode cL_law 462 = .ok (.iconst 0, 1) := by decide +kernel
theorem dL_law_463 : decode cL_law 463 = .ok (.ireturn, 1) := by decide +kernel
theorem dL_law_464 : decode cL_law 464 = .ok (.aload_n 1, 1) := by decide +kernel
theorem dL_law_465 : decode cL_law 465 = .ok (.invokevirtual 48, 3) := by decide +kernel
theorem dL_law_468 : decode cL_law 468 = .ok (.aload_n 2, 1) := by decide +kernel
theorem dL_law_469 : decode cL_law 469 = .ok (.invokevirtual 52, 3) := by decide +kernel
theorem dL_law_472 : decode cL_law 472 = .ok (.if_icmp .eq 875, 3) := by decide +kernel
theorem dL_law_475 : decode cL_law 475 = .ok (.iconst 0, 1) := by decide +kernel
theorem dL_law_476 : decode cL_law 476 = .ok (.ireturn, 1) := by decide +kernel
theorem dL_law_477 : decode cL_law 477 = .ok (.aload_n 1, 1) := by decide +kernel
theorem dL_law_478 : decode cL_law 478 = .ok (.aload_n 0, 1) := by decide +kernel
theorem dL_law_479 : decode cL_law 479 = .ok (.iload_n 3, 1) := by decide +kernel
theorem dL_law_480 : decode cL_law 480 = .ok (.iconst 1, 1) := by decide +kernel
theorem dL_law_481 : decode cL_law 481 = .ok (.iadd, 1) := by decide +kernel
theorem dL_law_482 : decode cL_law 482 = .ok (.iaload, 1) := by decide +kernel
theorem dL_law_483 : decode cL_law 483 = .ok (.invokevirtual 53, 3) := by decide +kernel
theorem dL_law_486 : decode cL_law 486 = .ok (.aload_n 2, 1) := by decide +kernel
theorem dL_law_487 : decode cL_law 487 = .ok (.aload_n 0, 1) := by decide +kernel
theorem dL_law_488 : decode cL_law 488 = .ok (.iload_n 3, 1) := by decide +kernel
theorem dL_law_489 : decode cL_law 489 = .ok (.iconst 1, 1) := by decide +kernel
theorem dL_law_490 : decode cL_law 490 = .ok (.iadd, 1) := by decide +kernel
theorem dL_law_491 : decode cL_law 491 = .ok (.iaload, 1) := by decide +kernel
theorem dL_law_492 : decode cL_law 492 = .ok (.invokevirtual 56, 3) := by decide +kernel
theorem dL_law_495 : decode cL_law 495 = .ok (.if_icmp .eq 852, 3) := by decide +kernel
theorem dL_law_498 : decode cL_law 498 = .ok (.iconst 0, 1) := by decide +kernel
theorem dL_law_499 : decode cL_law 499 = .ok (.ireturn, 1) := by decide +kernel
theorem dL_law_500 : decode cL_law 500 = .ok (.aload_n 1, 1) := by decide +kernel
theorem dL_law_501 : decode cL_law 501 = .ok (.aload_n 0, 1) := by decide +kernel
theorem dL_law_502 : decode cL_law 502 = .ok (.iload_n 3, 1) := by decide +kernel
theorem dL_law_503 : decode cL_law 503 = .ok (.iconst 1, 1) := by decide +kernel
theorem dL_law_504 : decode cL_law 504 = .ok (.iadd, 1) := by decide +kernel
theorem dL_law_505 : decode cL_law 505 = .ok (.iaload, 1) := by decide +kernel
theorem dL_law_506 : decode cL_law 506 = .ok (.invokevirtual 57, 3) := by decide +kernel
theorem dL_law_509 : decode cL_law 509 = .ok (.aload_n 2, 1) := by decide +kernel
theorem dL_law_510 : decode cL_law 510 = .ok (.aload_n 0, 1) := by decide +kernel
theorem dL_law_511 : decode cL_law 511 = .ok (.iload_n 3, 1) := by decide +kernel
theorem dL_law_512 : decode cL_law 512 = .ok (.iconst 1, 1) := by decide +kernel
theorem dL_law_513 : decode cL_law 513 = .ok (.iadd, 1) := by decide +kernel
theorem dL_law_514 : decode cL_law 514 = .ok (.iaload, 1) := by decide +kernel
theorem dL_law_515 : decode cL_law 515 = .ok (.invokevirtual 60, 3) := by decide +kernel
theorem dL_law_518 : decode cL_law 518 = .ok (.if_icmp .eq 829, 3) := by decide +kernel
theorem dL_law_521 : decode cL_law 521 = .ok (.iconst 0, 1) := by decide +kernel
theorem dL_law_522 : decode cL_law 522 = .ok (.ireturn, 1) := by decide +kernel
theorem dL_law_523 : decode cL_law 523 = .ok (.aload_n 1, 1) := by decide +kernel
theorem dL_law_524 : decode cL_law 524 = .ok (.aload_n 0, 1) := by decide +kernel
theorem dL_law_525 : decode cL_law 525 = .ok (.iload_n 3, 1) := by decide +kernel
theorem dL_law_526 : decode cL_law 526 = .ok (.iconst 1, 1) := by decide +kernel
theorem dL_law_527 : decode cL_law 527 = .ok (.iadd, 1) := by decide +kernel
theorem dL_law_528 : decode cL_law 528 = .ok (.iaload, 1) := by decide +kernel
theorem dL_law_529 : decode cL_law 529 = .ok (.aload_n 0, 1) := by decide +kernel
theorem dL_law_530 : decode cL_law 530 = .ok (.iload_n 3, 1) := by decide +kernel
theorem dL_law_531 : decode cL_law 531 = .ok (.iconst 2, 1) := by decide +kernel
theorem dL_law_532 : decode cL_law 532 = .ok (.iadd, 1) := by decide +kernel
theorem dL_law_533 : decode cL_law 533 = .ok (.iaload, 1) := by decide +kernel
theorem dL_law_534 : decode cL_law 534 = .ok (.invokevirtual 61, 3) := by decide +kernel
theorem dL_law_537 : decode cL_law 537 = .ok (.aload_n 2, 1) := by decide +kernel
theorem dL_law_538 : decode cL_law 538 = .ok (.aload_n 0, 1) := by decide +kernel
theorem dL_law_539 : decode cL_law 539 = .ok (.iload_n 3, 1) := by decide +kernel
theorem dL_law_540 : decode cL_law 540 = .ok (.iconst 1, 1) := by decide +kernel
theorem dL_law_541 : decode cL_law 541 = .ok (.iadd, 1) := by decide +kernel
theorem dL_law_542 : decode cL_law 542 = .ok (.iaload, 1) := by decide +kernel
theorem dL_law_543 : decode cL_law 543 = .ok (.aload_n 0, 1) := by decide +kernel
theorem dL_law_544 : decode cL_law 544 = .ok (.iload_n 3, 1) := by decide +kernel
theorem dL_law_545 : decode cL_law 545 = .ok (.iconst 2, 1) := by decide +kernel
theorem dL_law_546 : decode cL_law 546 = .ok (.iadd, 1) := by decide +kernel
theorem dL_law_547 : decode cL_law 547 = .ok (.iaload, 1) := by decide +kernel
theorem dL_law_548 : decode cL_law 548 = .ok (.invokevirtual 64, 3) := by decide +kernel
theorem dL_law_551 : decode cL_law 551 = .ok (.if_icmp .eq 796, 3) := by decide +kernel
theorem dL_law_554 : decode cL_law 554 = .ok (.iconst 0, 1) := by decide +kernel
theorem dL_law_555 : decode cL_law 555 = .ok (.ireturn, 1) := by decide +kernel
theorem dL_law_556 : decode cL_law 556 = .ok (.aload_n 1, 1) := by decide +kernel
theorem dL_law_557 : decode cL_law 557 = .ok (.aload_n 0, 1) := by decide +kernel
theorem dL_law_558 : decode cL_law 558 = .ok (.iload_n 3, 1) := by decide +kernel
theorem dL_law_559 : decode cL_law 559 = .ok (.iconst 1, 1) := by decide +kernel
theorem dL_law_560 : decode cL_law 560 = .ok (.iadd, 1) := by decide +kernel
theorem dL_law_561 : decode cL_law 561 = .ok (.iaload, 1) := by decide +kernel
theorem dL_law_562 : decode cL_law 562 = .ok (.invokevirtual 65, 3) := by decide +kernel
theorem dL_law_565 : decode cL_law 565 = .ok (.aload_n 2, 1) := by decide +kernel
theorem dL_law_566 : decode cL_law 566 = .ok (.aload_n 0, 1) := by decide +kernel
theorem dL_law_567 : decode cL_law 567 = .ok (.iload_n 3, 1) := by decide +kernel
theorem dL_law_568 : decode cL_law 568 = .ok (.iconst 1, 1) := by decide +kernel
theorem dL_law_569 : decode cL_law 569 = .ok (.iadd, 1) := by decide +kernel
theorem dL_law_570 : decode cL_law 570 = .ok (.iaload, 1) := by decide +kernel
theorem dL_law_571 : decode cL_law 571 = .ok (.invokevirtual 68, 3) := by decide +kernel
theorem dL_law_574 : decode cL_law 574 = .ok (.if_icmp .eq 773, 3) := by decide +kernel
theorem dL_law_577 : decode cL_law 577 = .ok (.iconst 0, 1) := by decide +kernel
theorem dL_law_578 : decode cL_law 578 = .ok (.ireturn, 1) := by decide +kernel
theorem dL_law_579 : decode cL_law 579 = .ok (.aload_n 1, 1) := by decide +kernel
theorem dL_law_580 : decode cL_law 580 = .ok (.aload_n 0, 1) := by decide +kernel
theorem dL_law_581 : decode cL_law 581 = .ok (.iload_n 3, 1) := by decide +kernel
theorem dL_law_582 : decode cL_law 582 = .ok (.iconst 1, 1) := by decide +kernel
theorem dL_law_583 : decode cL_law 583 = .ok (.iadd, 1) := by decide +kernel
theorem dL_law_584 : decode cL_law 584 = .ok (.iaload, 1) := by decide +kernel
theorem dL_law_585 : decode cL_law 585 = .ok (.invokevirtual 69, 3) := by decide +kernel
theorem dL_law_588 : decode cL_law 588 = .ok (.aload_n 2, 1) := by decide +kernel
theorem dL_law_589 : decode cL_law 589 = .ok (.aload_n 0, 1) := by decide +kernel
theorem dL_law_590 : decode cL_law 590 = .ok (.iload_n 3, 1) := by decide +kernel
theorem dL_law_591 : decode cL_law 591 = .ok (.iconst 1, 1) := by decide +kernel
theorem dL_law_592 : decode cL_law 592 = .ok (.iadd, 1) := by decide +kernel
theorem dL_law_593 : decode cL_law 593 = .ok (.iaload, 1) := by decide +kernel
theorem dL_law_594 : decode cL_law 594 = .ok (.invokevirtual 72, 3) := by decide +kernel
theorem dL_law_597 : decode cL_law 597 = .ok (.if_icmp .eq 750, 3) := by decide +kernel
theorem dL_law_600 : decode cL_law 600 = .ok (.iconst 0, 1) := by decide +kernel
theorem dL_law_601 : decode cL_law 601 = .ok (.ireturn, 1) := by decide +kernel
theorem dL_law_602 : decode cL_law 602 = .ok (.aload_n 1, 1) := by decide +kernel
theorem dL_law_603 : decode cL_law 603 = .ok (.invokevirtual 73, 3) := by decide +kernel
theorem dL_law_606 : decode cL_law 606 = .ok (.aload_n 2, 1) := by decide +kernel
theorem dL_law_607 : decode cL_law 607 = .ok (.invokevirtual 76, 3) := by decide +kernel
theorem dL_law_610 : decode cL_law 610 = .ok (.if_icmp .eq 737, 3) := by decide +kernel
theorem dL_law_613 : decode cL_law 613 = .ok (.iconst 0, 1) := by decide +kernel
theorem dL_law_614 : decode cL_law 614 = .ok (.ireturn, 1) := by decide +kernel
theorem dL_law_615 : decode cL_law 615 = .ok (.aload_n 1, 1) := by decide +kernel
theorem dL_law_616 : decode cL_law 616 = .ok (.aload_n 0, 1) := by decide +kernel
theorem dL_law_617 : decode cL_law 617 = .ok (.iload_n 3, 1) := by decide +kernel
theorem dL_law_618 : decode cL_law 618 = .ok (.iconst 1, 1) := by decide +kernel
theorem dL_law_619 : decode cL_law 619 = .ok (.iadd, 1) := by decide +kernel
theorem dL_law_620 : decode cL_law 620 = .ok (.iaload, 1) := by decide +kernel
theorem dL_law_621 : decode cL_law 621 = .ok (.invokevirtual 77, 3) := by decide +kernel
theorem dL_law_624 : decode cL_law 624 = .ok (.aload_n 2, 1) := by decide +kernel
theorem dL_law_625 : decode cL_law 625 = .ok (.aload_n 0, 1) := by decide +kernel
theorem dL_law_626 : decode cL_law 626 = .ok (.iload_n 3, 1) := by decide +kernel
theorem dL_law_627 : decode cL_law 627 = .ok (.iconst 1, 1) := by decide +kernel
theorem dL_law_628 : decode cL_law 628 = .ok (.iadd, 1) := by decide +kernel
theorem dL_law_629 : decode cL_law 629 = .ok (.iaload, 1) := by decide +kernel
theorem dL_law_630 : decode cL_law 630 = .ok (.invokevirtual 80, 3) := by decide +kernel
theorem dL_law_633 : decode cL_law 633 = .ok (.if_icmp .eq 714, 3) := by decide +kernel
theorem dL_law_636 : decode cL_law 636 = .ok (.iconst 0, 1) := by decide +kernel
theorem dL_law_637 : decode cL_law 637 = .ok (.ireturn, 1) := by decide +kernel
theorem dL_law_638 : decode cL_law 638 = .ok (.aload_n 1, 1) := by decide +kernel
theorem dL_law_639 : decode cL_law 639 = .ok (.aload_n 0, 1) := by decide +kernel
theorem dL_law_640 : decode cL_law 640 = .ok (.iload_n 3, 1) := by decide +kernel
theorem dL_law_641 : decode cL_law 641 = .ok (.iconst 1, 1) := by decide +kernel
theorem dL_law_642 : decode cL_law 642 = .ok (.iadd, 1) := by decide +kernel
theorem dL_law_643 : decode cL_law 643 = .ok (.iaload, 1) := by decide +kernel
theorem dL_law_644 : decode cL_law 644 = .ok (.aload_n 0, 1) := by decide +kernel
theorem dL_law_645 : decode cL_law 645 = .ok (.iload_n 3, 1) := by decide +kernel
theorem dL_law_646 : decode cL_law 646 = .ok (.iconst 2, 1) := by decide +kernel
theorem dL_law_647 : decode cL_law 647 = .ok (.iadd, 1) := by decide +kernel
theorem dL_law_648 : decode cL_law 648 = .ok (.iaload, 1) := by decide +kernel
theorem dL_law_649 : decode cL_law 649 = .ok (.invokevirtual 81, 3) := by decide +kernel
theorem dL_law_652 : decode cL_law 652 = .ok (.aload_n 2, 1) := by decide +kernel
theorem dL_law_653 : decode cL_law 653 = .ok (.aload_n 0, 1) := by decide +kernel
theorem dL_law_654 : decode cL_law 654 = .ok (.iload_n 3, 1) := by decide +kernel
theorem dL_law_655 : decode cL_law 655 = .ok (.iconst 1, 1) := by decide +kernel
theorem dL_law_656 : decode cL_law 656 = .ok (.iadd, 1) := by decide +kernel
theorem dL_law_657 : decode cL_law 657 = .ok (.iaload, 1) := by decide +kernel
theorem dL_law_658 : decode cL_law 658 = .ok (.aload_n 0, 1) := by decide +kernel
theorem dL_law_659 : decode cL_law 659 = .ok (.iload_n 3, 1) := by decide +kernel
theorem dL_law_660 : decode cL_law 660 = .ok (.iconst 2, 1) := by decide +kernel
theorem dL_law_661 : decode cL_law 661 = .ok (.iadd, 1) := by decide +kernel
theorem dL_law_662 : decode cL_law 662 = .ok (.iaload, 1) := by decide +kernel
theorem dL_law_663 : decode cL_law 663 = .ok (.invokevirtual 84, 3) := by decide +kernel
theorem dL_law_666 : decode cL_law 666 = .ok (.if_icmp .eq 681, 3) := by decide +kernel
theorem dL_law_669 : decode cL_law 669 = .ok (.iconst 0, 1) := by decide +kernel
theorem dL_law_670 : decode cL_law 670 = .ok (.ireturn, 1) := by decide +kernel
theorem dL_law_671 : decode cL_law 671 = .ok (.aload_n 1, 1) := by decide +kernel
theorem dL_law_672 : decode cL_law 672 = .ok (.aload_n 0, 1) := by decide +kernel
theorem dL_law_673 : decode cL_law 673 = .ok (.iload_n 3, 1) := by decide +kernel
theorem dL_law_674 : decode cL_law 674 = .ok (.iconst 1, 1) := by decide +kernel
theorem dL_law_675 : decode cL_law 675 = .ok (.iadd, 1) := by decide +kernel
theorem dL_law_676 : decode cL_law 676 = .ok (.iaload, 1) := by decide +kernel
theorem dL_law_677 : decode cL_law 677 = .ok (.invokevirtual 85, 3) := by decide +kernel
theorem dL_law_680 : decode cL_law 680 = .ok (.aload_n 2, 1) := by decide +kernel
theorem dL_law_681 : decode cL_law 681 = .ok (.aload_n 0, 1) := by decide +kernel
theorem dL_law_682 : decode cL_law 682 = .ok (.iload_n 3, 1) := by decide +kernel
theorem dL_law_683 : decode cL_law 683 = .ok (.iconst 1, 1) := by decide +kernel
theorem dL_law_684 : decode cL_law 684 = .ok (.iadd, 1) := by decide +kernel
theorem dL_law_685 : decode cL_law 685 = .ok (.iaload, 1) := by decide +kernel
theorem dL_law_686 : decode cL_law 686 = .ok (.invokevirtual 88, 3) := by decide +kernel
theorem dL_law_689 : decode cL_law 689 = .ok (.if_icmp .eq 658, 3) := by decide +kernel
theorem dL_law_692 : decode cL_law 692 = .ok (.iconst 0, 1) := by decide +kernel
theorem dL_law_693 : decode cL_law 693 = .ok (.ireturn, 1) := by decide +kernel
theorem dL_law_694 : decode cL_law 694 = .ok (.aload_n 1, 1) := by decide +kernel
theorem dL_law_695 : decode cL_law 695 = .ok (.aload_n 0, 1) := by decide +kernel
theorem dL_law_696 : decode cL_law 696 = .ok (.iload_n 3, 1) := by decide +kernel
theorem dL_law_697 : decode cL_law 697 = .ok (.iconst 1, 1) := by decide +kernel
theorem dL_law_698 : decode cL_law 698 = .ok (.iadd, 1) := by decide +kernel
theorem dL_law_699 : decode cL_law 699 = .ok (.iaload, 1) := by decide +kernel
theorem dL_law_700 : decode cL_law 700 = .ok (.aload_n 0, 1) := by decide +kernel
theorem dL_law_701 : decode cL_law 701 = .ok (.iload_n 3, 1) := by decide +kernel
theorem dL_law_702 : decode cL_law 702 = .ok (.iconst 2, 1) := by decide +kernel
theorem dL_law_703 : decode cL_law 703 = .ok (.iadd, 1) := by decide +kernel
theorem dL_law_704 : decode cL_law 704 = .ok (.iaload, 1) := by decide +kernel
theorem dL_law_705 : decode cL_law 705 = .ok (.invokevirtual 89, 3) := by decide +kernel
theorem dL_law_708 : decode cL_law 708 = .ok (.aload_n 2, 1) := by decide +kernel
theorem dL_law_709 : decode cL_law 709 = .ok (.aload_n 0, 1) := by decide +kernel
theorem dL_law_710 : decode cL_law 710 = .ok (.iload_n 3, 1) := by decide +kernel
theorem dL_law_711 : decode cL_law 711 = .ok (.iconst 1, 1) := by decide +kernel
theorem dL_law_712 : decode cL_law 712 = .ok (.iadd, 1) := by decide +kernel
theorem dL_law_713 : decode cL_law 713 = .ok (.iaload, 1) := by decide +kernel
theorem dL_law_714 : decode cL_law 714 = .ok (.aload_n 0, 1) := by decide +kernel
theorem dL_law_715 : decode cL_law 715 = .ok (.iload_n 3, 1) := by decide +kernel
theorem dL_law_716 : decode cL_law 716 = .ok (.iconst 2, 1) := by decide +kernel
theorem dL_law_717 : decode cL_law 717 = .ok (.iadd, 1) := by decide +kernel
theorem dL_law_718 : decode cL_law 718 = .ok (.iaload, 1) := by decide +kernel
theorem dL_law_719 : decode cL_law 719 = .ok (.invokevirtual 92, 3) := by decide +kernel
theorem dL_law_722 : decode cL_law 722 = .ok (.if_icmp .eq 625, 3) := by decide +kernel
theorem dL_law_725 : decode cL_law 725 = .ok (.iconst 0, 1) := by decide +kernel
theorem dL_law_726 : decode cL_law 726 = .ok (.ireturn, 1) := by decide +kernel
theorem dL_law_727 : decode cL_law 727 = .ok (.aload_n 1, 1) := by decide +kernel
theorem dL_law_728 : decode cL_law 728 = .ok (.aload_n 0, 1) := by decide +kernel
theorem dL_law_729 : decode cL_law 729 = .ok (.iload_n 3, 1) := by decide +kernel
theorem dL_law_730 : decode cL_law 730 = .ok (.iconst 1, 1) := by decide +kernel
theorem dL_law_731 : decode cL_law 731 = .ok (.iadd, 1) := by decide +kernel
theorem dL_law_732 : decode cL_law 732 = .ok (.iaload, 1) := by decide +kernel
theorem dL_law_733 : decode cL_law 733 = .ok (.aload_n 0, 1) := by decide +kernel
theorem dL_law_734 : decode cL_law 734 = .ok (.iload_n 3, 1) := by decide +kernel
theorem dL_law_735 : decode cL_law 735 = .ok (.iconst 2, 1) := by decide +kernel
theorem dL_law_736 : decode cL_law 736 = .ok (.iadd, 1) := by decide +kernel
theorem dL_law_737 : decode cL_law 737 = .ok (.iaload, 1) := by decide +kernel
theorem dL_law_738 : decode cL_law 738 = .ok (.invokevirtual 93, 3) := by decide +kernel
theorem dL_law_741 : decode cL_law 741 = .ok (.aload_n 2, 1) := by decide +kernel
theorem dL_law_742 : decode cL_law 742 = .ok (.aload_n 0, 1) := by decide +kernel
theorem dL_law_743 : decode cL_law 743 = .ok (.iload_n 3, 1) := by decide +kernel
theorem dL_law_744 : decode cL_law 744 = .ok (.iconst 1, 1) := by decide +kernel
theorem dL_law_745 : decode cL_law 745 = .ok (.iadd, 1) := by decide +kernel
theorem dL_law_746 : decode cL_law 746 = .ok (.iaload, 1) := by decide +kernel
theorem dL_law_747 : decode cL_law 747 = .ok (.aload_n 0, 1) := by decide +kernel
theorem dL_law_748 : decode cL_law 748 = .ok (.iload_n 3, 1) := by decide +kernel
theorem dL_law_749 : decode cL_law 749 = .ok (.iconst 2, 1) := by decide +kernel
theorem dL_law_750 : decode cL_law 750 = .ok (.iadd, 1) := by decide +kernel
theorem dL_law_751 : decode cL_law 751 = .ok (.iaload, 1) := by decide +kernel
theorem dL_law_752 : decode cL_law 752 = .ok (.invokevirtual 96, 3) := by decide +kernel
theorem dL_law_755 : decode cL_law 755 = .ok (.if_icmp .eq 592, 3) := by decide +kernel
theorem dL_law_758 : decode cL_law 758 = .ok (.iconst 0, 1) := by decide +kernel
theorem dL_law_759 : decode cL_law 759 = .ok (.ireturn, 1) := by decide +kernel
theorem dL_law_760 : decode cL_law 760 = .ok (.aload_n 1, 1) := by decide +kernel
theorem dL_law_761 : decode cL_law 761 = .ok (.aload_n 0, 1) := by decide +kernel
theorem dL_law_762 : decode cL_law 762 = .ok (.iload_n 3, 1) := by decide +kernel
theorem dL_law_763 : decode cL_law 763 = .ok (.iconst 1, 1) := by decide +kernel
theorem dL_law_764 : decode cL_law 764 = .ok (.iadd, 1) := by decide +kernel
theorem dL_law_765 : decode cL_law 765 = .ok (.iaload, 1) := by decide +kernel
theorem dL_law_766 : decode cL_law 766 = .ok (.aload_n 0, 1) := by decide +kernel
theorem dL_law_767 : decode cL_law 767 = .ok (.iload_n 3, 1) := by decide +kernel
theorem dL_law_768 : decode cL_law 768 = .ok (.iconst 2, 1) := by decide +kernel
theorem dL_law_769 : decode cL_law 769 = .ok (.iadd, 1) := by decide +kernel
theorem dL_law_770 : decode cL_law 770 = .ok (.iaload, 1) := by decide +kernel
theorem dL_law_771 : decode cL_law 771 = .ok (.invokevirtual 97, 3) := by decide +kernel
theorem dL_law_774 : decode cL_law 774 = .ok (.aload_n 2, 1) := by decide +kernel
theorem dL_law_775 : decode cL_law 775 = .ok (.aload_n 0, 1) := by decide +kernel
theorem dL_law_776 : decode cL_law 776 = .ok (.iload_n 3, 1) := by decide +kernel
theorem dL_law_777 : decode cL_law 777 = .ok (.iconst 1, 1) := by decide +kernel
theorem dL_law_778 : decode cL_law 778 = .ok (.iadd, 1) := by decide +kernel
theorem dL_law_779 : decode cL_law 779 = .ok (.iaload, 1) := by decide +kernel
theorem dL_law_780 : decode cL_law 780 = .ok (.aload_n 0, 1) := by decide +kernel
theorem dL_law_781 : decode cL_law 781 = .ok (.iload_n 3, 1) := by decide +kernel
theorem dL_law_782 : decode cL_law 782 = .ok (.iconst 2, 1) := by decide +kernel
theorem dL_law_783 : decode cL_law 783 = .ok (.iadd, 1) := by decide +kernel
theorem dL_law_784 : decode cL_law 784 = .ok (.iaload, 1) := by decide +kernel
theorem dL_law_785 : decode cL_law 785 = .ok (.invokevirtual 100, 3) := by decide +kernel
theorem dL_law_788 : decode cL_law 788 = .ok (.if_icmp .eq 559, 3) := by decide +kernel
theorem dL_law_791 : decode cL_law 791 = .ok (.iconst 0, 1) := by decide +kernel
theorem dL_law_792 : decode cL_law 792 = .ok (.ireturn, 1) := by decide +kernel
theorem dL_law_793 : decode cL_law 793 = .ok (.aload_n 1, 1) := by decide +kernel
theorem dL_law_794 : decode cL_law 794 = .ok (.aload_n 0, 1) := by decide +kernel
theorem dL_law_795 : decode cL_law 795 = .ok (.iload_n 3, 1) := by decide +kernel
theorem dL_law_796 : decode cL_law 796 = .ok (.iconst 1, 1) := by decide +kernel
theorem dL_law_797 : decode cL_law 797 = .ok (.iadd, 1) := by decide +kernel
theorem dL_law_798 : decode cL_law 798 = .ok (.iaload, 1) := by decide +kernel
theorem dL_law_799 : decode cL_law 799 = .ok (.aload_n 0, 1) := by decide +kernel
theorem dL_law_800 : decode cL_law 800 = .ok (.iload_n 3, 1) := by decide +kernel
theorem dL_law_801 : decode cL_law 801 = .ok (.iconst 2, 1) := by decide +kernel
theorem dL_law_802 : decode cL_law 802 = .ok (.iadd, 1) := by decide +kernel
theorem dL_law_803 : decode cL_law 803 = .ok (.iaload, 1) := by decide +kernel
theorem dL_law_804 : decode cL_law 804 = .ok (.invokevirtual 101, 3) := by decide +kernel
theorem dL_law_807 : decode cL_law 807 = .ok (.aload_n 2, 1) := by decide +kernel
theorem dL_law_808 : decode cL_law 808 = .ok (.aload_n 0, 1) := by decide +kernel
theorem dL_law_809 : decode cL_law 809 = .ok (.iload_n 3, 1) := by decide +kernel
theorem dL_law_810 : decode cL_law 810 = .ok (.iconst 1, 1) := by decide +kernel
theorem dL_law_811 : decode cL_law 811 = .ok (.iadd, 1) := by decide +kernel
theorem dL_law_812 : decode cL_law 812 = .ok (.iaload, 1) := by decide +kernel
theorem dL_law_813 : decode cL_law 813 = .ok (.aload_n 0, 1) := by decide +kernel
theorem dL_law_814 : decode cL_law 814 = .ok (.iload_n 3, 1) := by decide +kernel
theorem dL_law_815 : decode cL_law 815 = .ok (.iconst 2, 1) := by decide +kernel
theorem dL_law_816 : decode cL_law 816 = .ok (.iadd, 1) := by decide +kernel
theorem dL_law_817 : decode cL_law 817 = .ok (.iaload, 1) := by decide +kernel
theorem dL_law_818 : decode cL_law 818 = .ok (.invokevirtual 105, 3) := by decide +kernel
theorem dL_law_821 : decode cL_law 821 = .ok (.lcmp, 1) := by decide +kernel
theorem dL_law_822 : decode cL_law 822 = .ok (.ifCond .eq 525, 3) := by decide +kernel
theorem dL_law_825 : decode cL_law 825 = .ok (.iconst 0, 1) := by decide +kernel
theorem dL_law_826 : decode cL_law 826 = .ok (.ireturn, 1) := by decide +kernel
theorem dL_law_827 : decode cL_law 827 = .ok (.aload_n 1, 1) := by decide +kernel
theorem dL_law_828 : decode cL_law 828 = .ok (.aload_n 0, 1) := by decide +kernel
theorem dL_law_829 : decode cL_law 829 = .ok (.iload_n 3, 1) := by decide +kernel
theorem dL_law_830 : decode cL_law 830 = .ok (.iconst 1, 1) := by decide +kernel
theorem dL_law_831 : decode cL_law 831 = .ok (.iadd, 1) := by decide +kernel
theorem dL_law_832 : decode cL_law 832 = .ok (.iaload, 1) := by decide +kernel
theorem dL_law_833 : decode cL_law 833 = .ok (.invokevirtual 106, 3) := by decide +kernel
theorem dL_law_836 : decode cL_law 836 = .ok (.aload_n 2, 1) := by decide +kernel
theorem dL_law_837 : decode cL_law 837 = .ok (.aload_n 0, 1) := by decide +kernel
theorem dL_law_838 : decode cL_law 838 = .ok (.iload_n 3, 1) := by decide +kernel
theorem dL_law_839 : decode cL_law 839 = .ok (.iconst 1, 1) := by decide +kernel
theorem dL_law_840 : decode cL_law 840 = .ok (.iadd, 1) := by decide +kernel
theorem dL_law_841 : decode cL_law 841 = .ok (.iaload, 1) := by decide +kernel
theorem dL_law_842 : decode cL_law 842 = .ok (.invokevirtual 110, 3) := by decide +kernel
theorem dL_law_845 : decode cL_law 845 = .ok (.lcmp, 1) := by decide +kernel
theorem dL_law_846 : decode cL_law 846 = .ok (.ifCond .eq 501, 3) := by decide +kernel
theorem dL_law_849 : decode cL_law 849 = .ok (.iconst 0, 1) := by decide +kernel
theorem dL_law_850 : decode cL_law 850 = .ok (.ireturn, 1) := by decide +kernel
theorem dL_law_851 : decode cL_law 851 = .ok (.aload_n 1, 1) := by decide +kernel
theorem dL_law_852 : decode cL_law 852 = .ok (.aload_n 0, 1) := by decide +kernel
theorem dL_law_853 : decode cL_law 853 = .ok (.iload_n 3, 1) := by decide +kernel
theorem dL_law_854 : decode cL_law 854 = .ok (.iconst 1, 1) := by decide +kernel
theorem dL_law_855 : decode cL_law 855 = .ok (.iadd, 1) := by decide +kernel
theorem dL_law_856 : decode cL_law 856 = .ok (.iaload, 1) := by decide +kernel
theorem dL_law_857 : decode cL_law 857 = .ok (.aload_n 0, 1) := by decide +kernel
theorem dL_law_858 : decode cL_law 858 = .ok (.iload_n 3, 1) := by decide +kernel
theorem dL_law_859 : decode cL_law 859 = .ok (.iconst 2, 1) := by decide +kernel
theorem dL_law_860 : decode cL_law 860 = .ok (.iadd, 1) := by decide +kernel
theorem dL_law_861 : decode cL_law 861 = .ok (.iaload, 1) := by decide +kernel
theorem dL_law_862 : decode cL_law 862 = .ok (.invokevirtual 111, 3) := by decide +kernel
theorem dL_law_865 : decode cL_law 865 = .ok (.aload_n 2, 1) := by decide +kernel
theorem dL_law_866 : decode cL_law 866 = .ok (.aload_n 0, 1) := by decide +kernel
theorem dL_law_867 : decode cL_law 867 = .ok (.iload_n 3, 1) := by decide +kernel
theorem dL_law_868 : decode cL_law 868 = .ok (.iconst 1, 1) := by decide +kernel
theorem dL_law_869 : decode cL_law 869 = .ok (.iadd, 1) := by decide +kernel
theorem dL_law_870 : decode cL_law 870 = .ok (.iaload, 1) := by decide +kernel
theorem dL_law_871 : decode cL_law 871 = .ok (.aload_n 0, 1) := by decide +kernel
theorem dL_law_872 : decode cL_law 872 = .ok (.iload_n 3, 1) := by decide +kernel
theorem dL_law_873 : decode cL_law 873 = .ok (.iconst 2, 1) := by decide +kernel
theorem dL_law_874 : decode cL_law 874 = .ok (.iadd, 1) := by decide +kernel
theorem dL_law_875 : decode cL_law 875 = .ok (.iaload, 1) := by decide +kernel
theorem dL_law_876 : decode cL_law 876 = .ok (.invokevirtual 114, 3) := by decide +kernel
theorem dL_law_879 : decode cL_law 879 = .ok (.if_icmp .eq 468, 3) := by decide +kernel
theorem dL_law_882 : decode cL_law 882 = .ok (.iconst 0, 1) := by decide +kernel
theorem dL_law_883 : decode cL_law 883 = .ok (.ireturn, 1) := by decide +kernel
theorem dL_law_884 : decode cL_law 884 = .ok (.aload_n 1, 1) := by decide +kernel
theorem dL_law_885 : decode cL_law 885 = .ok (.aload_n 0, 1) := by decide +kernel
theorem dL_law_886 : decode cL_law 886 = .ok (.iload_n 3, 1) := by decide +kernel
theorem dL_law_887 : decode cL_law 887 = .ok (.iconst 1, 1) := by decide +kernel
theorem dL_law_888 : decode cL_law 888 = .ok (.iadd, 1) := by decide +kernel
theorem dL_law_889 : decode cL_law 889 = .ok (.iaload, 1) := by decide +kernel
theorem dL_law_890 : decode cL_law 890 = .ok (.invokevirtual 115, 3) := by decide +kernel
theorem dL_law_893 : decode cL_law 893 = .ok (.aload_n 2, 1) := by decide +kernel
theorem dL_law_894 : decode cL_law 894 = .ok (.aload_n 0, 1) := by decide +kernel
theorem dL_law_895 : decode cL_law 895 = .ok (.iload_n 3, 1) := by decide +kernel
theorem dL_law_896 : decode cL_law 896 = .ok (.iconst 1, 1) := by decide +kernel
theorem dL_law_897 : decode cL_law 897 = .ok (.iadd, 1) := by decide +kernel
theorem dL_law_898 : decode cL_law 898 = .ok (.iaload, 1) := by decide +kernel
theorem dL_law_899 : decode cL_law 899 = .ok (.invokevirtual 118, 3) := by decide +kernel
theorem dL_law_902 : decode cL_law 902 = .ok (.if_icmp .eq 445, 3) := by decide +kernel
theorem dL_law_905 : decode cL_law 905 = .ok (.iconst 0, 1) := by decide +kernel
theorem dL_law_906 : decode cL_law 906 = .ok (.ireturn, 1) := by decide +kernel
theorem dL_law_907 : decode cL_law 907 = .ok (.aload_n 1, 1) := by decide +kernel
theorem dL_law_908 : decode cL_law 908 = .ok (.aload_n 0, 1) := by decide +kernel
theorem dL_law_909 : decode cL_law 909 = .ok (.iload_n 3, 1) := by decide +kernel
theorem dL_law_910 : decode cL_law 910 = .ok (.iconst 1, 1) := by decide +kernel
theorem dL_law_911 : decode cL_law 911 = .ok (.iadd, 1) := by decide +kernel
theorem dL_law_912 : decode cL_law 912 = .ok (.iaload, 1) := by decide +kernel
theorem dL_law_913 : decode cL_law 913 = .ok (.aload_n 0, 1) := by decide +kernel
theorem dL_law_914 : decode cL_law 914 = .ok (.iload_n 3, 1) := by decide +kernel
theorem dL_law_915 : decode cL_law 915 = .ok (.iconst 2, 1) := by decide +kernel
theorem dL_law_916 : decode cL_law 916 = .ok (.iadd, 1) := by decide +kernel
theorem dL_law_917 : decode cL_law 917 = .ok (.iaload, 1) := by decide +kernel
theorem dL_law_918 : decode cL_law 918 = .ok (.invokevirtual 119, 3) := by decide +kernel
theorem dL_law_921 : decode cL_law 921 = .ok (.aload_n 2, 1) := by decide +kernel
theorem dL_law_922 : decode cL_law 922 = .ok (.aload_n 0, 1) := by decide +kernel
theorem dL_law_923 : decode cL_law 923 = .ok (.iload_n 3, 1) := by decide +kernel
theorem dL_law_924 : decode cL_law 924 = .ok (.iconst 1, 1) := by decide +kernel
theorem dL_law_925 : decode cL_law 925 = .ok (.iadd, 1) := by decide +kernel
theorem dL_law_926 : decode cL_law 926 = .ok (.iaload, 1) := by decide +kernel
theorem dL_law_927 : decode cL_law 927 = .ok (.aload_n 0, 1) := by decide +kernel
theorem dL_law_928 : decode cL_law 928 = .ok (.iload_n 3, 1) := by decide +kernel
theorem dL_law_929 : decode cL_law 929 = .ok (.iconst 2, 1) := by decide +kernel
theorem dL_law_930 : decode cL_law 930 = .ok (.iadd, 1) := by decide +kernel
theorem dL_law_931 : decode cL_law 931 = .ok (.iaload, 1) := by decide +kernel
theorem dL_law_932 : decode cL_law 932 = .ok (.invokevirtual 122, 3) := by decide +kernel
theorem dL_law_935 : decode cL_law 935 = .ok (.if_icmp .eq 412, 3) := by decide +kernel
theorem dL_law_938 : decode cL_law 938 = .ok (.iconst 0, 1) := by decide +kernel
theorem dL_law_939 : decode cL_law 939 = .ok (.ireturn, 1) := by decide +kernel
theorem dL_law_940 : decode cL_law 940 = .ok (.aload_n 1, 1) := by decide +kernel
theorem dL_law_941 : decode cL_law 941 = .ok (.invokevirtual 123, 3) := by decide +kernel
theorem dL_law_944 : decode cL_law 944 = .ok (.aload_n 2, 1) := by decide +kernel
theorem dL_law_945 : decode cL_law 945 = .ok (.invokevirtual 126, 3) := by decide +kernel
theorem dL_law_948 : decode cL_law 948 = .ok (.if_icmp .eq 399, 3) := by decide +kernel
theorem dL_law_951 : decode cL_law 951 = .ok (.iconst 0, 1) := by decide +kernel
theorem dL_law_952 : decode cL_law 952 = .ok (.ireturn, 1) := by decide +kernel
theorem dL_law_953 : decode cL_law 953 = .ok (.aload_n 1, 1) := by decide +kernel
theorem dL_law_954 : decode cL_law 954 = .ok (.aload_n 0, 1) := by decide +kernel
theorem dL_law_955 : decode cL_law 955 = .ok (.iload_n 3, 1) := by decide +kernel
theorem dL_law_956 : decode cL_law 956 = .ok (.iconst 1, 1) := by decide +kernel
theorem dL_law_957 : decode cL_law 957 = .ok (.iadd, 1) := by decide +kernel
theorem dL_law_958 : decode cL_law 958 = .ok (.iaload, 1) := by decide +kernel
theorem dL_law_959 : decode cL_law 959 = .ok (.aload_n 0, 1) := by decide +kernel
theorem dL_law_960 : decode cL_law 960 = .ok (.iload_n 3, 1) := by decide +kernel
theorem dL_law_961 : decode cL_law 961 = .ok (.iconst 2, 1) := by decide +kernel
theorem dL_law_962 : decode cL_law 962 = .ok (.iadd, 1) := by decide +kernel
theorem dL_law_963 : decode cL_law 963 = .ok (.iaload, 1) := by decide +kernel
theorem dL_law_964 : decode cL_law 964 = .ok (.invokevirtual 127, 3) := by decide +kernel
theorem dL_law_967 : decode cL_law 967 = .ok (.aload_n 2, 1) := by decide +kernel
theorem dL_law_968 : decode cL_law 968 = .ok (.aload_n 0, 1) := by decide +kernel
theorem dL_law_969 : decode cL_law 969 = .ok (.iload_n 3, 1) := by decide +kernel
theorem dL_law_970 : decode cL_law 970 = .ok (.iconst 1, 1) := by decide +kernel
theorem dL_law_971 : decode cL_law 971 = .ok (.iadd, 1) := by decide +kernel
theorem dL_law_972 : decode cL_law 972 = .ok (.iaload, 1) := by decide +kernel
theorem dL_law_973 : decode cL_law 973 = .ok (.aload_n 0, 1) := by decide +kernel
theorem dL_law_974 : decode cL_law 974 = .ok (.iload_n 3, 1) := by decide +kernel
theorem dL_law_975 : decode cL_law 975 = .ok (.iconst 2, 1) := by decide +kernel
theorem dL_law_976 : decode cL_law 976 = .ok (.iadd, 1) := by decide +kernel
theorem dL_law_977 : decode cL_law 977 = .ok (.iaload, 1) := by decide +kernel
theorem dL_law_978 : decode cL_law 978 = .ok (.invokevirtual 130, 3) := by decide +kernel
theorem dL_law_981 : decode cL_law 981 = .ok (.if_icmp .eq 366, 3) := by decide +kernel
theorem dL_law_984 : decode cL_law 984 = .ok (.iconst 0, 1) := by decide +kernel
theorem dL_law_985 : decode cL_law 985 = .ok (.ireturn, 1) := by decide +kernel
theorem dL_law_986 : decode cL_law 986 = .ok (.aload_n 1, 1) := by decide +kernel
theorem dL_law_987 : decode cL_law 987 = .ok (.invokevirtual 131, 3) := by decide +kernel
theorem dL_law_990 : decode cL_law 990 = .ok (.aload_n 2, 1) := by decide +kernel
theorem dL_law_991 : decode cL_law 991 = .ok (.invokevirtual 134, 3) := by decide +kernel
theorem dL_law_994 : decode cL_law 994 = .ok (.if_icmp .eq 353, 3) := by decide +kernel
theorem dL_law_997 : decode cL_law 997 = .ok (.iconst 0, 1) := by decide +kernel
theorem dL_law_998 : decode cL_law 998 = .ok (.ireturn, 1) := by decide +kernel
theorem dL_law_999 : decode cL_law 999 = .ok (.aload_n 1, 1) := by decide +kernel
theorem dL_law_1000 : decode cL_law 1000 = .ok (.invokevirtual 135, 3) := by decide +kernel
theorem dL_law_1003 : decode cL_law 1003 = .ok (.aload_n 2, 1) := by decide +kernel
theorem dL_law_1004 : decode cL_law 1004 = .ok (.invokevirtual 138, 3) := by decide +kernel
theorem dL_law_1007 : decode cL_law 1007 = .ok (.if_icmp .eq 340, 3) := by decide +kernel
theorem dL_law_1010 : decode cL_law 1010 = .ok (.iconst 0, 1) := by decide +kernel
theorem dL_law_1011 : decode cL_law 1011 = .ok (.ireturn, 1) := by decide +kernel
theorem dL_law_1012 : decode cL_law 1012 = .ok (.aload_n 1, 1) := by decide +kernel
theorem dL_law_1013 : decode cL_law 1013 = .ok (.aload_n 0, 1) := by decide +kernel
theorem dL_law_1014 : decode cL_law 1014 = .ok (.iload_n 3, 1) := by decide +kernel
theorem dL_law_1015 : decode cL_law 1015 = .ok (.iconst 1, 1) := by decide +kernel
theorem dL_law_1016 : decode cL_law 1016 = .ok (.iadd, 1) := by decide +kernel
theorem dL_law_1017 : decode cL_law 1017 = .ok (.iaload, 1) := by decide +kernel
theorem dL_law_1018 : decode cL_law 1018 = .ok (.aload_n 0, 1) := by decide +kernel
theorem dL_law_1019 : decode cL_law 1019 = .ok (.iload_n 3, 1) := by decide +kernel
theorem dL_law_1020 : decode cL_law 1020 = .ok (.iconst 2, 1) := by decide +kernel
theorem dL_law_1021 : decode cL_law 1021 = .ok (.iadd, 1) := by decide +kernel
theorem dL_law_1022 : decode cL_law 1022 = .ok (.iaload, 1) := by decide +kernel
theorem dL_law_1023 : decode cL_law 1023 = .ok (.aload_n 0, 1) := by decide +kernel
theorem dL_law_1024 : decode cL_law 1024 = .ok (.iload_n 3, 1) := by decide +kernel
theorem dL_law_1025 : decode cL_law 1025 = .ok (.iconst 3, 1) := by decide +kernel
theorem dL_law_1026 : decode cL_law 1026 = .ok (.iadd, 1) := by decide +kernel
theorem dL_law_1027 : decode cL_law 1027 = .ok (.iaload, 1) := by decide +kernel
theorem dL_law_1028 : decode cL_law 1028 = .ok (.invokevirtual 139, 3) := by decide +kernel
theorem dL_law_1031 : decode cL_law 1031 = .ok (.aload_n 2, 1) := by decide +kernel
theorem dL_law_1032 : decode cL_law 1032 = .ok (.aload_n 0, 1) := by decide +kernel
theorem dL_law_1033 : decode cL_law 1033 = .ok (.iload_n 3, 1) := by decide +kernel
theorem dL_law_1034 : decode cL_law 1034 = .ok (.iconst 1, 1) := by decide +kernel
theorem dL_law_1035 : decode cL_law 1035 = .ok (.iadd, 1) := by decide +kernel
theorem dL_law_1036 : decode cL_law 1036 = .ok (.iaload, 1) := by decide +kernel
theorem dL_law_1037 : decode cL_law 1037 = .ok (.aload_n 0, 1) := by decide +kernel
theorem dL_law_1038 : decode cL_law 1038 = .ok (.iload_n 3, 1) := by decide +kernel
theorem dL_law_1039 : decode cL_law 1039 = .ok (.iconst 2, 1) := by decide +kernel
theorem dL_law_1040 : decode cL_law 1040 = .ok (.iadd, 1) := by decide +kernel
theorem dL_law_1041 : decode cL_law 1041 = .ok (.iaload, 1) := by decide +kernel
theorem dL_law_1042 : decode cL_law 1042 = .ok (.aload_n 0, 1) := by decide +kernel
theorem dL_law_1043 : decode cL_law 1043 = .ok (.iload_n 3, 1) := by decide +kernel
theorem dL_law_1044 : decode cL_law 1044 = .ok (.iconst 3, 1) := by decide +kernel
theorem dL_law_1045 : decode cL_law 1045 = .ok (.iadd, 1) := by decide +kernel
theorem dL_law_1046 : decode cL_law 1046 = .ok (.iaload, 1) := by decide +kernel
theorem dL_law_1047 : decode cL_law 1047 = .ok (.invokevirtual 142, 3) := by decide +kernel
theorem dL_law_1050 : decode cL_law 1050 = .ok (.if_icmp .eq 297, 3) := by decide +kernel
theorem dL_law_1053 : decode cL_law 1053 = .ok (.iconst 0, 1) := by decide +kernel
theorem dL_law_1054 : decode cL_law 1054 = .ok (.ireturn, 1) := by decide +kernel
theorem dL_law_1055 : decode cL_law 1055 = .ok (.aload_n 1, 1) := by decide +kernel
theorem dL_law_1056 : decode cL_law 1056 = .ok (.aload_n 0, 1) := by decide +kernel
theorem dL_law_1057 : decode cL_law 1057 = .ok (.iload_n 3, 1) := by decide +kernel
theorem dL_law_1058 : decode cL_law 1058 = .ok (.iconst 1, 1) := by decide +kernel
theorem dL_law_1059 : decode cL_law 1059 = .ok (.iadd, 1) := by decide +kernel
theorem dL_law_1060 : decode cL_law 1060 = .ok (.iaload, 1) := by decide +kernel
theorem dL_law_1061 : decode cL_law 1061 = .ok (.invokevirtual 143, 3) := by decide +kernel
theorem dL_law_1064 : decode cL_law 1064 = .ok (.aload_n 2, 1) := by decide +kernel
theorem dL_law_1065 : decode cL_law 1065 = .ok (.aload_n 0, 1) := by decide +kernel
theorem dL_law_1066 : decode cL_law 1066 = .ok (.iload_n 3, 1) := by decide +kernel
theorem dL_law_1067 : decode cL_law 1067 = .ok (.iconst 1, 1) := by decide +kernel
theorem dL_law_1068 : decode cL_law 1068 = .ok (.iadd, 1) := by decide +kernel
theorem dL_law_1069 : decode cL_law 1069 = .ok (.iaload, 1) := by decide +kernel
theorem dL_law_1070 : decode cL_law 1070 = .ok (.invokevirtual 146, 3) := by decide +kernel
theorem dL_law_1073 : decode cL_law 1073 = .ok (.if_icmp .eq 274, 3) := by decide +kernel
theorem dL_law_1076 : decode cL_law 1076 = .ok (.iconst 0, 1) := by decide +kernel
theorem dL_law_1077 : decode cL_law 1077 = .ok (.ireturn, 1) := by decide +kernel
theorem dL_law_1078 : decode cL_law 1078 = .ok (.aload_n 1, 1) := by decide +kernel
theorem dL_law_1079 : decode cL_law 1079 = .ok (.aload_n 0, 1) := by decide +kernel
theorem dL_law_1080 : decode cL_law 1080 = .ok (.iload_n 3, 1) := by decide +kernel
theorem dL_law_1081 : decode cL_law 1081 = .ok (.iconst 1, 1) := by decide +kernel
theorem dL_law_1082 : decode cL_law 1082 = .ok (.iadd, 1) := by decide +kernel
theorem dL_law_1083 : decode cL_law 1083 = .ok (.iaload, 1) := by decide +kernel
theorem dL_law_1084 : decode cL_law 1084 = .ok (.aload_n 0, 1) := by decide +kernel
theorem dL_law_1085 : decode cL_law 1085 = .ok (.iload_n 3, 1) := by decide +kernel
theorem dL_law_1086 : decode cL_law 1086 = .ok (.iconst 2, 1) := by decide +kernel
theorem dL_law_1087 : decode cL_law 1087 = .ok (.iadd, 1) := by decide +kernel
theorem dL_law_1088 : decode cL_law 1088 = .ok (.iaload, 1) := by decide +kernel
theorem dL_law_1089 : decode cL_law 1089 = .ok (.invokevirtual 147, 3) := by decide +kernel
theorem dL_law_1092 : decode cL_law 1092 = .ok (.aload_n 2, 1) := by decide +kernel
theorem dL_law_1093 : decode cL_law 1093 = .ok (.aload_n 0, 1) := by decide +kernel
theorem dL_law_1094 : decode cL_law 1094 = .ok (.iload_n 3, 1) := by decide +kernel
theorem dL_law_1095 : decode cL_law 1095 = .ok (.iconst 1, 1) := by decide +kernel
theorem dL_law_1096 : decode cL_law 1096 = .ok (.iadd, 1) := by decide +kernel
theorem dL_law_1097 : decode cL_law 1097 = .ok (.iaload, 1) := by decide +kernel
theorem dL_law_1098 : decode cL_law 1098 = .ok (.aload_n 0, 1) := by decide +kernel
theorem dL_law_1099 : decode cL_law 1099 = .ok (.iload_n 3, 1) := by decide +kernel
theorem dL_law_1100 : decode cL_law 1100 = .ok (.iconst 2, 1) := by decide +kernel
theorem dL_law_1101 : decode cL_law 1101 = .ok (.iadd, 1) := by decide +kernel
theorem dL_law_1102 : decode cL_law 1102 = .ok (.iaload, 1) := by decide +kernel
theorem dL_law_1103 : decode cL_law 1103 = .ok (.invokevirtual 150, 3) := by decide +kernel
theorem dL_law_1106 : decode cL_law 1106 = .ok (.if_icmp .eq 241, 3) := by decide +kernel
theorem dL_law_1109 : decode cL_law 1109 = .ok (.iconst 0, 1) := by decide +kernel
theorem dL_law_1110 : decode cL_law 1110 = .ok (.ireturn, 1) := by decide +kernel
theorem dL_law_1111 : decode cL_law 1111 = .ok (.aload_n 1, 1) := by decide +kernel
theorem dL_law_1112 : decode cL_law 1112 = .ok (.aload_n 0, 1) := by decide +kernel
theorem dL_law_1113 : decode cL_law 1113 = .ok (.iload_n 3, 1) := by decide +kernel
theorem dL_law_1114 : decode cL_law 1114 = .ok (.iconst 1, 1) := by decide +kernel
theorem dL_law_1115 : decode cL_law 1115 = .ok (.iadd, 1) := by decide +kernel
theorem dL_law_1116 : decode cL_law 1116 = .ok (.iaload, 1) := by decide +kernel
theorem dL_law_1117 : decode cL_law 1117 = .ok (.invokevirtual 151, 3) := by decide +kernel
theorem dL_law_1120 : decode cL_law 1120 = .ok (.aload_n 2, 1) := by decide +kernel
theorem dL_law_1121 : decode cL_law 1121 = .ok (.aload_n 0, 1) := by decide +kernel
theorem dL_law_1122 : decode cL_law 1122 = .ok (.iload_n 3, 1) := by decide +kernel
theorem dL_law_1123 : decode cL_law 1123 = .ok (.iconst 1, 1) := by decide +kernel
theorem dL_law_1124 : decode cL_law 1124 = .ok (.iadd, 1) := by decide +kernel
theorem dL_law_1125 : decode cL_law 1125 = .ok (.iaload, 1) := by decide +kernel
theorem dL_law_1126 : decode cL_law 1126 = .ok (.invokevirtual 154, 3) := by decide +kernel
theorem dL_law_1129 : decode cL_law 1129 = .ok (.if_icmp .eq 218, 3) := by decide +kernel
theorem dL_law_1132 : decode cL_law 1132 = .ok (.iconst 0, 1) := by decide +kernel
theorem dL_law_1133 : decode cL_law 1133 = .ok (.ireturn, 1) := by decide +kernel
theorem dL_law_1134 : decode cL_law 1134 = .ok (.aload_n 1, 1) := by decide +kernel
theorem dL_law_1135 : decode cL_law 1135 = .ok (.aload_n 0, 1) := by decide +kernel
theorem dL_law_1136 : decode cL_law 1136 = .ok (.iload_n 3, 1) := by decide +kernel
theorem dL_law_1137 : decode cL_law 1137 = .ok (.iconst 1, 1) := by decide +kernel
theorem dL_law_1138 : decode cL_law 1138 = .ok (.iadd, 1) := by decide +kernel
theorem dL_law_1139 : decode cL_law 1139 = .ok (.iaload, 1) := by decide +kernel
theorem dL_law_1140 : decode cL_law 1140 = .ok (.aload_n 0, 1) := by decide +kernel
theorem dL_law_1141 : decode cL_law 1141 = .ok (.iload_n 3, 1) := by decide +kernel
theorem dL_law_1142 : decode cL_law 1142 = .ok (.iconst 2, 1) := by decide +kernel
theorem dL_law_1143 : decode cL_law 1143 = .ok (.iadd, 1) := by decide +kernel
theorem dL_law_1144 : decode cL_law 1144 = .ok (.iaload, 1) := by decide +kernel
theorem dL_law_1145 : decode cL_law 1145 = .ok (.aload_n 0, 1) := by decide +kernel
theorem dL_law_1146 : decode cL_law 1146 = .ok (.iload_n 3, 1) := by decide +kernel
theorem dL_law_1147 : decode cL_law 1147 = .ok (.iconst 3, 1) := by decide +kernel
theorem dL_law_1148 : decode cL_law 1148 = .ok (.iadd, 1) := by decide +kernel
theorem dL_law_1149 : decode cL_law 1149 = .ok (.iaload, 1) := by decide +kernel
theorem dL_law_1150 : decode cL_law 1150 = .ok (.invokevirtual 155, 3) := by decide +kernel
theorem dL_law_1153 : decode cL_law 1153 = .ok (.aload_n 2, 1) := by decide +kernel
theorem dL_law_1154 : decode cL_law 1154 = .ok (.aload_n 0, 1) := by decide +kernel
theorem dL_law_1155 : decode cL_law 1155 = .ok (.iload_n 3, 1) := by decide +kernel
theorem dL_law_1156 : decode cL_law 1156 = .ok (.iconst 1, 1) := by decide +kernel
theorem dL_law_1157 : decode cL_law 1157 = .ok (.iadd, 1) := by decide +kernel
theorem dL_law_1158 : decode cL_law 1158 = .ok (.iaload, 1) := by decide +kernel
theorem dL_law_1159 : decode cL_law 1159 = .ok (.aload_n 0, 1) := by decide +kernel
theorem dL_law_1160 : decode cL_law 1160 = .ok (.iload_n 3, 1) := by decide +kernel
theorem dL_law_1161 : decode cL_law 1161 = .ok (.iconst 2, 1) := by decide +kernel
theorem dL_law_1162 : decode cL_law 1162 = .ok (.iadd, 1) := by decide +kernel
theorem dL_law_1163 : decode cL_law 1163 = .ok (.iaload, 1) := by decide +kernel
theorem dL_law_1164 : decode cL_law 1164 = .ok (.aload_n 0, 1) := by decide +kernel
theorem dL_law_1165 : decode cL_law 1165 = .ok (.iload_n 3, 1) := by decide +kernel
theorem dL_law_1166 : decode cL_law 1166 = .ok (.iconst 3, 1) := by decide +kernel
theorem dL_law_1167 : decode cL_law 1167 = .ok (.iadd, 1) := by decide +kernel
theorem dL_law_1168 : decode cL_law 1168 = .ok (.iaload, 1) := by decide +kernel
theorem dL_law_1169 : decode cL_law 1169 = .ok (.invokevirtual 158, 3) := by decide +kernel
theorem dL_law_1172 : decode cL_law 1172 = .ok (.if_icmp .eq 175, 3) := by decide +kernel
theorem dL_law_1175 : decode cL_law 1175 = .ok (.iconst 0, 1) := by decide +kernel
theorem dL_law_1176 : decode cL_law 1176 = .ok (.ireturn, 1) := by decide +kernel
theorem dL_law_1177 : decode cL_law 1177 = .ok (.aload_n 1, 1) := by decide +kernel
theorem dL_law_1178 : decode cL_law 1178 = .ok (.aload_n 0, 1) := by decide +kernel
theorem dL_law_1179 : decode cL_law 1179 = .ok (.iload_n 3, 1) := by decide +kernel
theorem dL_law_1180 : decode cL_law 1180 = .ok (.iconst 1, 1) := by decide +kernel
theorem dL_law_1181 : decode cL_law 1181 = .ok (.iadd, 1) := by decide +kernel
theorem dL_law_1182 : decode cL_law 1182 = .ok (.iaload, 1) := by decide +kernel
theorem dL_law_1183 : decode cL_law 1183 = .ok (.aload_n 0, 1) := by decide +kernel
theorem dL_law_1184 : decode cL_law 1184 = .ok (.iload_n 3, 1) := by decide +kernel
theorem dL_law_1185 : decode cL_law 1185 = .ok (.iconst 2, 1) := by decide +kernel
theorem dL_law_1186 : decode cL_law 1186 = .ok (.iadd, 1) := by decide +kernel
theorem dL_law_1187 : decode cL_law 1187 = .ok (.iaload, 1) := by decide +kernel
theorem dL_law_1188 : decode cL_law 1188 = .ok (.aload_n 0, 1) := by decide +kernel
theorem dL_law_1189 : decode cL_law 1189 = .ok (.iload_n 3, 1) := by decide +kernel
theorem dL_law_1190 : decode cL_law 1190 = .ok (.iconst 3, 1) := by decide +kernel
theorem dL_law_1191 : decode cL_law 1191 = .ok (.iadd, 1) := by decide +kernel
theorem dL_law_1192 : decode cL_law 1192 = .ok (.iaload, 1) := by decide +kernel
theorem dL_law_1193 : decode cL_law 1193 = .ok (.i2l, 1) := by decide +kernel
theorem dL_law_1194 : decode cL_law 1194 = .ok (.bipush 32, 2) := by decide +kernel
theorem dL_law_1196 : decode cL_law 1196 = .ok (.lshl, 1) := by decide +kernel
theorem dL_law_1197 : decode cL_law 1197 = .ok (.aload_n 0, 1) := by decide +kernel
theorem dL_law_1198 : decode cL_law 1198 = .ok (.iload_n 3, 1) := by decide +kernel
theorem dL_law_1199 : decode cL_law 1199 = .ok (.iconst 4, 1) := by decide +kernel
theorem dL_law_1200 : decode cL_law 1200 = .ok (.iadd, 1) := by decide +kernel
theorem dL_law_1201 : decode cL_law 1201 = .ok (.iaload, 1) := by decide +kernel
theorem dL_law_1202 : decode cL_law 1202 = .ok (.i2l, 1) := by decide +kernel
theorem dL_law_1203 : decode cL_law 1203 = .ok (.ldc2_w 159, 3) := by decide +kernel
theorem dL_law_1206 : decode cL_law 1206 = .ok (.land, 1) := by decide +kernel
theorem dL_law_1207 : decode cL_law 1207 = .ok (.lor, 1) := by decide +kernel
theorem dL_law_1208 : decode cL_law 1208 = .ok (.invokevirtual 161, 3) := by decide +kernel
theorem dL_law_1211 : decode cL_law 1211 = .ok (.aload_n 2, 1) := by decide +kernel
theorem dL_law_1212 : decode cL_law 1212 = .ok (.aload_n 0, 1) := by decide +kernel
theorem dL_law_1213 : decode cL_law 1213 = .ok (.iload_n 3, 1) := by decide +kernel
theorem dL_law_1214 : decode cL_law 1214 = .ok (.iconst 1, 1) := by decide +kernel
theorem dL_law_1215 : decode cL_law 1215 = .ok (.iadd, 1) := by decide +kernel
theorem dL_law_1216 : decode cL_law 1216 = .ok (.iaload, 1) := by decide +kernel
theorem dL_law_1217 : decode cL_law 1217 = .ok (.aload_n 0, 1) := by decide +kernel
theorem dL_law_1218 : decode cL_law 1218 = .ok (.iload_n 3, 1) := by decide +kernel
theorem dL_law_1219 : decode cL_law 1219 = .ok (.iconst 2, 1) := by decide +kernel
theorem dL_law_1220 : decode cL_law 1220 = .ok (.iadd, 1) := by decide +kernel
theorem dL_law_1221 : decode cL_law 1221 = .ok (.iaload, 1) := by decide +kernel
theorem dL_law_1222 : decode cL_law 1222 = .ok (.aload_n 0, 1) := by decide +kernel
theorem dL_law_1223 : decode cL_law 1223 = .ok (.iload_n 3, 1) := by decide +kernel
theorem dL_law_1224 : decode cL_law 1224 = .ok (.iconst 3, 1) := by decide +kernel
theorem dL_law_1225 : decode cL_law 1225 = .ok (.iadd, 1) := by decide +kernel
theorem dL_law_1226 : decode cL_law 1226 = .ok (.iaload, 1) := by decide +kernel
theorem dL_law_1227 : decode cL_law 1227 = .ok (.i2l, 1) := by decide +kernel
theorem dL_law_1228 : decode cL_law 1228 = .ok (.bipush 32, 2) := by decide +kernel
theorem dL_law_1230 : decode cL_law 1230 = .ok (.lshl, 1) := by decide +kernel
theorem dL_law_1231 : decode cL_law 1231 = .ok (.aload_n 0, 1) := by decide +kernel
theorem dL_law_1232 : decode cL_law 1232 = .ok (.iload_n 3, 1) := by decide +kernel
theorem dL_law_1233 : decode cL_law 1233 = .ok (.iconst 4, 1) := by decide +kernel
theorem dL_law_1234 : decode cL_law 1234 = .ok (.iadd, 1) := by decide +kernel
theorem dL_law_1235 : decode cL_law 1235 = .ok (.iaload, 1) := by decide +kernel
theorem dL_law_1236 : decode cL_law 1236 = .ok (.i2l, 1) := by decide +kernel
theorem dL_law_1237 : decode cL_law 1237 = .ok (.ldc2_w 159, 3) := by decide +kernel
theorem dL_law_1240 : decode cL_law 1240 = .ok (.land, 1) := by decide +kernel
theorem dL_law_1241 : decode cL_law 1241 = .ok (.lor, 1) := by decide +kernel
theorem dL_law_1242 : decode cL_law 1242 = .ok (.invokevirtual 165, 3) := by decide +kernel
theorem dL_law_1245 : decode cL_law 1245 = .ok (.if_icmp .eq 102, 3) := by decide +kernel
theorem dL_law_1248 : decode cL_law 1248 = .ok (.iconst 0, 1) := by decide +kernel
theorem dL_law_1249 : decode cL_law 1249 = .ok (.ireturn, 1) := by decide +kernel
theorem dL_law_1250 : decode cL_law 1250 = .ok (.aload_n 1, 1) := by decide +kernel
theorem dL_law_1251 : decode cL_law 1251 = .ok (.aload_n 0, 1) := by decide +kernel
theorem dL_law_1252 : decode cL_law 1252 = .ok (.iload_n 3, 1) := by decide +kernel
theorem dL_law_1253 : decode cL_law 1253 = .ok (.iconst 1, 1) := by decide +kernel
theorem dL_law_1254 : decode cL_law 1254 = .ok (.iadd, 1) := by decide +kernel
theorem dL_law_1255 : decode cL_law 1255 = .ok (.iaload, 1) := by decide +kernel
theorem dL_law_1256 : decode cL_law 1256 = .ok (.aload_n 0, 1) := by decide +kernel
theorem dL_law_1257 : decode cL_law 1257 = .ok (.iload_n 3, 1) := by decide +kernel
theorem dL_law_1258 : decode cL_law 1258 = .ok (.iconst 2, 1) := by decide +kernel
theorem dL_law_1259 : decode cL_law 1259 = .ok (.iadd, 1) := by decide +kernel
theorem dL_law_1260 : decode cL_law 1260 = .ok (.iaload, 1) := by decide +kernel
theorem dL_law_1261 : decode cL_law 1261 = .ok (.invokevirtual 166, 3) := by decide +kernel
theorem dL_law_1264 : decode cL_law 1264 = .ok (.aload_n 2, 1) := by decide +kernel
theorem dL_law_1265 : decode cL_law 1265 = .ok (.aload_n 0, 1) := by decide +kernel
theorem dL_law_1266 : decode cL_law 1266 = .ok (.iload_n 3, 1) := by decide +kernel
theorem dL_law_1267 : decode cL_law 1267 = .ok (.iconst 1, 1) := by decide +kernel
theorem dL_law_1268 : decode cL_law 1268 = .ok (.iadd, 1) := by decide +kernel
theorem dL_law_1269 : decode cL_law 1269 = .ok (.iaload, 1) := by decide +kernel
theorem dL_law_1270 : decode cL_law 1270 = .ok (.aload_n 0, 1) := by decide +kernel
theorem dL_law_1271 : decode cL_law 1271 = .ok (.iload_n 3, 1) := by decide +kernel
theorem dL_law_1272 : decode cL_law 1272 = .ok (.iconst 2, 1) := by decide +kernel
theorem dL_law_1273 : decode cL_law 1273 = .ok (.iadd, 1) := by decide +kernel
theorem dL_law_1274 : decode cL_law 1274 = .ok (.iaload, 1) := by decide +kernel
theorem dL_law_1275 : decode cL_law 1275 = .ok (.invokevirtual 169, 3) := by decide +kernel
theorem dL_law_1278 : decode cL_law 1278 = .ok (.lcmp, 1) := by decide +kernel
theorem dL_law_1279 : decode cL_law 1279 = .ok (.ifCond .eq 68, 3) := by decide +kernel
theorem dL_law_1282 : decode cL_law 1282 = .ok (.iconst 0, 1) := by decide +kernel
theorem dL_law_1283 : decode cL_law 1283 = .ok (.ireturn, 1) := by decide +kernel
theorem dL_law_1284 : decode cL_law 1284 = .ok (.aload_n 1, 1) := by decide +kernel
theorem dL_law_1285 : decode cL_law 1285 = .ok (.aload_n 0, 1) := by decide +kernel
theorem dL_law_1286 : decode cL_law 1286 = .ok (.iload_n 3, 1) := by decide +kernel
theorem dL_law_1287 : decode cL_law 1287 = .ok (.iconst 1, 1) := by decide +kernel
theorem dL_law_1288 : decode cL_law 1288 = .ok (.iadd, 1) := by decide +kernel
theorem dL_law_1289 : decode cL_law 1289 = .ok (.iaload, 1) := by decide +kernel
theorem dL_law_1290 : decode cL_law 1290 = .ok (.aload_n 0, 1) := by decide +kernel
theorem dL_law_1291 : decode cL_law 1291 = .ok (.iload_n 3, 1) := by decide +kernel
theorem dL_law_1292 : decode cL_law 1292 = .ok (.iconst 2, 1) := by decide +kernel
theorem dL_law_1293 : decode cL_law 1293 = .ok (.iadd, 1) := by decide +kernel
theorem dL_law_1294 : decode cL_law 1294 = .ok (.iaload, 1) := by decide +kernel
theorem dL_law_1295 : decode cL_law 1295 = .ok (.aload_n 0, 1) := by decide +kernel
theorem dL_law_1296 : decode cL_law 1296 = .ok (.iload_n 3, 1) := by decide +kernel
theorem dL_law_1297 : decode cL_law 1297 = .ok (.iconst 3, 1) := by decide +kernel
theorem dL_law_1298 : decode cL_law 1298 = .ok (.iadd, 1) := by decide +kernel
theorem dL_law_1299 : decode cL_law 1299 = .ok (.iaload, 1) := by decide +kernel
theorem dL_law_1300 : decode cL_law 1300 = .ok (.aload_n 0, 1) := by decide +kernel
theorem dL_law_1301 : decode cL_law 1301 = .ok (.iload_n 3, 1) := by decide +kernel
theorem dL_law_1302 : decode cL_law 1302 = .ok (.iconst 4, 1) := by decide +kernel
theorem dL_law_1303 : decode cL_law 1303 = .ok (.iadd, 1) := by decide +kernel
theorem dL_law_1304 : decode cL_law 1304 = .ok (.iaload, 1) := by decide +kernel
theorem dL_law_1305 : decode cL_law 1305 = .ok (.aload_n 0, 1) := by decide +kernel
theorem dL_law_1306 : decode cL_law 1306 = .ok (.iload_n 3, 1) := by decide +kernel
theorem dL_law_1307 : decode cL_law 1307 = .ok (.iconst 5, 1) := by decide +kernel
theorem dL_law_1308 : decode cL_law 1308 = .ok (.iadd, 1) := by decide +kernel
theorem dL_law_1309 : decode cL_law 1309 = .ok (.iaload, 1) := by decide +kernel
theorem dL_law_1310 : decode cL_law 1310 = .ok (.invokevirtual 170, 3) := by decide +kernel
theorem dL_law_1313 : decode cL_law 1313 = .ok (.aload_n 2, 1) := by decide +kernel
theorem dL_law_1314 : decode cL_law 1314 = .ok (.aload_n 0, 1) := by decide +kernel
theorem dL_law_1315 : decode cL_law 1315 = .ok (.iload_n 3, 1) := by decide +kernel
theorem dL_law_1316 : decode cL_law 1316 = .ok (.iconst 1, 1) := by decide +kernel
theorem dL_law_1317 : decode cL_law 1317 = .ok (.iadd, 1) := by decide +kernel
theorem dL_law_1318 : decode cL_law 1318 = .ok (.iaload, 1) := by decide +kernel
theorem dL_law_1319 : decode cL_law 1319 = .ok (.aload_n 0, 1) := by decide +kernel
theorem dL_law_1320 : decode cL_law 1320 = .ok (.iload_n 3, 1) := by decide +kernel
theorem dL_law_1321 : decode cL_law 1321 = .ok (.iconst 2, 1) := by decide +kernel
theorem dL_law_1322 : decode cL_law 1322 = .ok (.iadd, 1) := by decide +kernel
theorem dL_law_1323 : decode cL_law 1323 = .ok (.iaload, 1) := by decide +kernel
theorem dL_law_1324 : decode cL_law 1324 = .ok (.aload_n 0, 1) := by decide +kernel
theorem dL_law_1325 : decode cL_law 1325 = .ok (.iload_n 3, 1) := by decide +kernel
theorem dL_law_1326 : decode cL_law 1326 = .ok (.iconst 3, 1) := by decide +kernel
theorem dL_law_1327 : decode cL_law 1327 = .ok (.iadd, 1) := by decide +kernel
theorem dL_law_1328 : decode cL_law 1328 = .ok (.iaload, 1) := by decide +kernel
theorem dL_law_1329 : decode cL_law 1329 = .ok (.aload_n 0, 1) := by decide +kernel
theorem dL_law_1330 : decode cL_law 1330 = .ok (.iload_n 3, 1) := by decide +kernel
theorem dL_law_1331 : decode cL_law 1331 = .ok (.iconst 4, 1) := by decide +kernel
theorem dL_law_1332 : decode cL_law 1332 = .ok (.iadd, 1) := by decide +kernel
theorem dL_law_1333 : decode cL_law 1333 = .ok (.iaload, 1) := by decide +kernel
theorem dL_law_1334 : decode cL_law 1334 = .ok (.aload_n 0, 1) := by decide +kernel
theorem dL_law_1335 : decode cL_law 1335 = .ok (.iload_n 3, 1) := by decide +kernel
theorem dL_law_1336 : decode cL_law 1336 = .ok (.iconst 5, 1) := by decide +kernel
theorem dL_law_1337 : decode cL_law 1337 = .ok (.iadd, 1) := by decide +kernel
theorem dL_law_1338 : decode cL_law 1338 = .ok (.iaload, 1) := by decide +kernel
theorem dL_law_1339 : decode cL_law 1339 = .ok (.invokevirtual 174, 3) := by decide +kernel
theorem dL_law_1342 : decode cL_law 1342 = .ok (.if_icmp .eq 5, 3) := by decide +kernel
theorem dL_law_1345 : decode cL_law 1345 = .ok (.iconst 0, 1) := by decide +kernel
theorem dL_law_1346 : decode cL_law 1346 = .ok (.ireturn, 1) := by decide +kernel
theorem dL_law_1347 : decode cL_law 1347 = .ok (.iinc 3 6, 3) := by decide +kernel
theorem dL_law_1350 : decode cL_law 1350 = .ok (.goto (-1332), 3) := by decide +kernel
theorem dL_law_1353 : decode cL_law 1353 = .ok (.iconst 1, 1) := by decide +kernel
theorem dL_law_1354 : decode cL_law 1354 = .ok (.ireturn, 1) := by decide +kernel
end
section
/-! THE LOGIC: one world for all objects (class, reference), a state of numbers, and what a piece of code makes of it -/
def TBL : List Cond := lw_tbl.filter goodWord
theorem tbl_in (i : Nat) {w : Cond} (h : tables_1[i]? = some w) (hg : goodWord w = true) : w ∈ TBL := List.mem_filter.mpr ⟨List.mem_append_right _ (List.mem_of_getElem? h), hg⟩
theorem tbl_sel (i : Nat) {q : MethodName × Nat} (h : lw_privs[i]? = some q) : Cond.selects q.1.cls q.1 q.1 ∈ TBL := List.mem_filter.mpr ⟨List.mem_append_left _ (List.mem_map.mpr ⟨q, List.mem_of_getElem? h, rfl⟩), by first | rfl | simp [goodWord, Cond.onTables, Cond.keeps, Cond.steady]⟩
abbrev HP : Type := (Nat → Nat → Int32) × (Nat → Nat → Int64) × (Nat → Option Nat)
abbrev SC : Type := Nat × Nat × List Nat
abbrev XE : Type := (Nat → Nat) × (Nat → ClassId) × va_G × (Nat → Nat) × Nat × (Nat → Int32)
abbrev MD : Type := MethodName × ByteArray × Nat × Option FieldType
def CL : List vw_C := [(RX0, TX0, 5), (RX1, TX1, 14), (RX2, TX2, 7), (RX3, TX3, 3), (RX4, TX4, 3), (RX5, TX5, 4), (RX6, TX6, 15), (RX7, TX7, 87)]
def TY (X : XE) : List (ClassId × FieldType) := [(X.2.1 1, .int), (X.2.1 2, .long), (X.2.1 3, .byte), (X.2.1 4, .boolean), (X.2.1 5, .object RX2), (X.2.1 6, .object RX4)]
def L6 : List Nat := [6, 14, 22, 30, 33, 36, 39, 42, 45, 0, 48, 0, 79, 81, 83]
def L7 : List Nat := [0, 0, 0, 0, 0, 0, 97, 98, 99, 100, 101, 102, 103, 0, 0, 0, 0, 0, 104, 105, 106, 107, 108, 109, 110, 111, 0, 0, 0, 112, 113, 0, 0, 114, 0, 0, 0, 0, 0, 115, 116, 117, 118, 0, 119, 0, 0, 120, 0, 121, 122, 0, 0, 123, 124, 125, 126, 0, 0, 0, 0, 0, 0, 0, 0, 0, 0, 0, 127, 128, 129, 130, 131, 132, 133, 134, 135, 136, 137, 138, 139, 0, 140, 141, 142, 143, 144]
/-- which cell a field that never changes names -/
def lr (k ci j : Nat) : Nat := if ci = 6 then L6.getD j 0 else if ci = 7 then L7.getD j 0 else k + 1 + j
def lra (t j : Nat) : Nat := if t = 5 then 49 + 5 * j else 84 + 2 * j
def fval (ad : Nat → Nat) (h : HP) (k ci j t : Nat) : Value := if t = 0 then .int (h.1 k j) else if t = 2 then .ref (ad (lr k ci j)) else va_rf ((h.2.2 k).map ad)
def cellE (X : XE) (h : HP) (k : Nat) (c : SC) : va_E := if c.1 = 0 then .inr (c.2.1, c.2.2.mapIdx (fun j t => fval X.1 h k c.2.1 j t)) else if c.1 = 1 then .inl (X.2.1 1, c.2.1, .inl (h.1 k)) else if c.1 = 2 then .inl (X.2.1 2, c.2.1, .inr (.inl (h.2.1 k))) else if c.1 = 3 then .inl (X.2.1 3, c.2.1, .inl (h.1 k)) else if c.1 = 4 then .inl (X.2.1 4, c.2.1, .inl (h.1 k)) else .inl (X.2.1 c.1, c.2.1, .inr (.inr (.inr (.inr (fun j => some (X.1 (lra c.1 j)))))))
def SH : List SC := [(0, 6, [2, 2, 2, 2, 2, 2, 2, 2, 2, 0, 2, 0, 2, 2, 2]), (0, 2, [2, 2, 2, 2, 0, 0, 0]), (1, 100, []), (1, 100, []), (1, 100, []), (1, 6, []), (0, 1, [2, 2, 2, 2, 2, 2, 2, 0, 0, 0, 0, 0, 0, 3]), (1, 6, []), (1, 6, []), (1, 6, []), (1, 6, []), (1, 6, []), (1, 24, []), (1, 3, []), (0, 1, [2, 2, 2, 2, 2, 2, 2, 0, 0, 0, 0, 0, 0, 3]), (1, 6, []), (1, 6, []), (1, 6, []), (1, 6, []), (1, 6, []), (1, 24, []), (1, 3, []), (0, 1, [2, 2, 2, 2, 2, 2, 2, 0, 0, 0, 0, 0, 0, 3]), (1, 6, []), (1, 6, []), (1, 6, []), (1, 6, []), (1, 6, []), (1, 24, []), (1, 3, []), (0, 3, [2, 2, 0]), (1, 5, []), (1, 5, []), (0, 3, [2, 2, 0]), (1, 10, []), (1, 10, []), (0, 3, [2, 2, 0]), (1, 8, []), (1, 8, []), (0, 3, [2, 2, 0]), (1, 5, []), (1, 5, []), (0, 3, [2, 2, 0]), (1, 10, []), (1, 10, []), (0, 3, [2, 2, 0]), (1, 8, []), (1, 8, []), (5, 6, []), (0, 2, [2, 2, 2, 2, 0, 0, 0]), (1, 100, []), (1, 100, []), (1, 100, []), (1, 6, []), (0, 2, [2, 2, 2, 2, 0, 0, 0]), (1, 100, []), (1, 100, []), (1, 100, []), (1, 6, []), (0, 2, [2, 2, 2, 2, 0, 0, 0]), (1, 100, []), (1, 100, []), (1, 100, []), (1, 6, []), (0, 2, [2, 2, 2, 2, 0, 0, 0]), (1, 100, []), (1, 100, []), (1, 100, []), (1, 6, []), (0, 2, [2, 2, 2, 2, 0, 0, 0]), (1, 100, []), (1, 100, []), (1, 100, []), (1, 6, []), (0, 2, [2, 2, 2, 2, 0, 0, 0]), (1, 100, []), (1, 100, []), (1, 100, []), (1, 6, []), (0, 5, [2, 3, 0, 0]), (3, 100, []), (0, 0, [2, 0, 0, 0, 0]), (1, 20, []), (6, 6, []), (0, 4, [2, 0, 0]), (2, 60, []), (0, 4, [2, 0, 0]), (2, 60, []), (0, 4, [2, 0, 0]), (2, 60, []), (0, 4, [2, 0, 0]), (2, 60, []), (0, 4, [2, 0, 0]), (2, 60, []), (0, 4, [2, 0, 0]), (2, 60, []), (0, 7, [0, 0, 0, 0, 0, 0, 2, 2, 2, 2, 2, 2, 2, 0, 0, 0, 0, 0, 2, 2, 2, 2, 2, 2, 2, 2, 0, 0, 0, 2, 2, 0, 0, 2, 0, 0, 0, 0, 0, 2, 2, 2, 2, 0, 2, 0, 0, 2, 0, 2, 2, 0, 0, 2, 2, 2, 2, 0, 0, 0, 0, 0, 0, 0, 0, 0, 0, 0, 2, 2, 2, 2, 2, 2, 2, 2, 2, 2, 2, 2, 2, 0, 2, 2, 2, 2, 2]), (1, 6, []), (1, 6, []), (1, 6, []), (1, 6, []), (1, 6, []), (1, 24, []), (1, 3, []), (1, 100, []), (1, 6, []), (1, 60, []), (1, 60, []), (1, 60, []), (1, 60, []), (1, 600, []), (1, 101, []), (1, 16, []), (4, 100, []), (1, 3, []), (1, 6, []), (1, 6, []), (1, 6, []), (1, 3, []), (1, 3, []), (1, 3, []), (1, 5, []), (1, 5, []), (1, 10, []), (1, 10, []), (1, 8, []), (1, 8, []), (1, 6, []), (1, 6, []), (1, 6, []), (1, 6, []), (1, 6, []), (1, 24, []), (1, 3, []), (1, 5, []), (1, 5, []), (1, 10, []), (1, 10, []), (1, 8, []), (1, 8, []), (1, 20, []), (1, 6, []), (1, 6, []), (2, 360, []), (2, 60, [])]
def wld (X : XE) (h : HP) : va_W := SH.mapIdx (fun k c => (X.1 k, cellE X h k c))
theorem wld_at (X : XE) (h : HP) {k : Nat} {c : SC} (hk : SH[k]? = some c) : (wld X h)[k]? = some (X.1 k, cellE X h k c) := by simp [wld, hk]
theorem wld_inv (X : XE) (h : HP) {k : Nat} {q : Nat × va_E} (hk : (wld X h)[k]? = some q) : ∃ c, SH[k]? = some c ∧ q = (X.1 k, cellE X h k c) := by
  simp only [wld, List.getElem?_mapIdx, Option.map_eq_some_iff] at hk
  obtain ⟨c, h1, h2⟩ := hk
  exact ⟨c, h1, h2.symm⟩
theorem wld_set (X : XE) (h h' : HP) {k : Nat} {c : SC} {e : va_E} (hk : SH[k]? = some c) (he : cellE X h' k c = e) (ho : ∀ j c', SH[j]? = some c' → j ≠ k → cellE X h' j c' = cellE X h j c') : (wld X h).set k (X.1 k, e) = wld X h' := by
  subst he
  apply List.ext_getElem?
  intro i
  rw [List.getElem?_set]
  by_cases hi : k = i
  · subst hi
    have hl : k < (wld X h).length := (List.getElem?_eq_some_iff.mp (wld_at X h hk)).1
    rw [if_pos rfl, if_pos hl, wld_at X h' hk]
  · rw [if_neg hi]
    cases hs : SH[i]? with
    | none => simp [wld, hs]
    | some c' => rw [wld_at X h hs, wld_at X h' hs, ho i c' hs (fun e => hi e.symm)]
/-- addresses don't depend on what the cells hold -/
theorem wld_D {A : Nat → Prop} {X : XE} {h h' : HP} (hD : va_D A (wld X h)) : va_D A (wld X h') := by
  refine ⟨fun i j p q hp hq e => ?_, fun k q hk => ?_⟩
  · obtain ⟨c, h1, rfl⟩ := wld_inv X h' hp
    obtain ⟨c', h1', rfl⟩ := wld_inv X h' hq
    exact hD.1 i j _ _ (wld_at X h h1) (wld_at X h h1') e
  · obtain ⟨c, h1, rfl⟩ := wld_inv X h' hk
    have h2 := hD.2 k _ (wld_at X h h1)
    exact h2
theorem wld_A {X : XE} {h h' : HP} {sz q : Nat} (hq : va_A (wld X h) sz q) : va_A (wld X h') sz q := by
  rcases hq with ⟨k, e, hk⟩ | hq
  · obtain ⟨c, h1, h2⟩ := wld_inv X h hk
    exact Or.inl ⟨k, cellE X h' k c, by rw [wld_at X h' h1]; cases h2; rfl⟩
  · exact Or.inr hq
def si (h : HP) (k j : Nat) (v : Int32) : HP := (va_up h.1 k (va_up (h.1 k) j v), h.2)
def sl (h : HP) (k j : Nat) (v : Int64) : HP := (h.1, va_up h.2.1 k (va_up (h.2.1 k) j v), h.2.2)
def sr (h : HP) (k : Nat) (v : Option Nat) : HP := (h.1, h.2.1, va_up h.2.2 k v)
/-- what never changes, outside the world: the tables, the texts, the script -/
def EX (X : XE) (A : Nat → Prop) (U : State) (H : Heap) : Prop :=
  (va_Z RX6 "KIND_ABOVE" "[I" (.ref (X.2.2.2.1 0)) A U H ∧ va_T .int (X.2.2.2.1 0) 7 (fun j => .int (([-1, 0, 0, 0, 1, 2, 3] : List Int32).getD j 0)) A U H ∧
  va_Z RX0 "BODIES" "[I" (.ref (X.2.2.2.1 1)) A U H ∧ va_T .int (X.2.2.2.1 1) 21 (fun j => .int (([10, 11, 12, 0, 20, 0, 30, 0, 0, 0, 0, 40, 50, 51, 0, 0, 0, 60, 71, 70, 0] : List Int32).getD j 0)) A U H) ∧
  (va_Z "java/lang/String" "COMPACT_STRINGS" "Z" (.int 1) A U H ∧ vk_S 2 [16, 6] [[102, 105, 114, 109, 119, 101, 97, 107, 119, 105, 110, 100, 108, 97, 115, 104], [112, 107, 118, 108, 119, 100]] (fun i => X.2.2.2.1 (2 + i)) (fun i => X.2.2.2.1 (4 + i)) A U H) ∧
  (va_X (X.2.2.2.1 6) X.2.2.2.2.1 X.2.2.2.2.2 U H ∧ X.2.2.2.1 6 < H.size ∧ ¬ A (X.2.2.2.1 6)) ∧
  (vk_R RX5 71 "firmweakwindlash" (X.2.2.2.1 2) U ∧ vk_R RX5 63 "pkvlwd" (X.2.2.2.1 3) U ∧ va_Nw (.fieldLinkNest RX0 39 RX6 "KIND_ABOVE" "[I" RX6) U)
theorem EX.kept {X : XE} {A : Nat → Prop} {U : State} {H H1 : Heap} (h : EX X A U H) (hz : H.size ≤ H1.size) (hq : ∀ a : Nat, a < H.size → ¬ A a → H1[a]? = H[a]?) : EX X A U H1 := by
  obtain ⟨⟨a1, a2, a3, a4⟩, ⟨b1, b2⟩, ⟨c1, c2, c3⟩, d⟩ := h
  exact ⟨⟨a1.kept hq, a2.kept hq, a3.kept hq, a4.kept hq⟩, ⟨b1.kept hq, b2.kept hq⟩, ⟨c1.kept (hq _ c2 c3), Nat.lt_of_lt_of_le c2 hz, c3⟩, d⟩
theorem EX.narrow {X : XE} {A B : Nat → Prop} {U : State} {H : Heap} (h : EX X A U H) (hAB : ∀ q, B q → A q) : EX X B U H := by
  obtain ⟨⟨a1, a2, a3, a4⟩, ⟨b1, b2⟩, ⟨c1, c2, c3⟩, d⟩ := h
  exact ⟨⟨a1.narrow hAB, a2.narrow hAB, a3.narrow hAB, a4.narrow hAB⟩, ⟨b1.narrow hAB, b2.narrow hAB⟩, ⟨c1, c2, fun z => c3 (hAB _ z)⟩, d⟩
theorem EX.warm {X : XE} {A : Nat → Prop} {s U : State} {H : Heap} (hW : s.WarmedH U.vm) (h : EX X A s H) : EX X A U H := by
  obtain ⟨⟨a1, a2, a3, a4⟩, ⟨b1, b2⟩, ⟨c1, c2, c3⟩, d1, d2, d3⟩ := h
  have hv := hW.alike
  exact ⟨⟨a1.moved hv, a2.moved hv, a3.moved hv, a4.moved hv⟩, ⟨b1.moved hv, b2.moved hv⟩, ⟨c1.moved hv, c2, c3⟩, vk_R.warm hW d1, vk_R.warm hW d2, va_Nw.warmF hW d3⟩
theorem EX.same {X : XE} {A : Nat → Prop} {u U : State} {H : Heap} (hvm : U.vm = u.vm) (h : EX X A u H) : EX X A U H := by
  obtain ⟨⟨a1, a2, a3, a4⟩, ⟨b1, b2⟩, ⟨c1, c2, c3⟩, d1, d2, d3⟩ := h
  have hv : u.vm.Alike U.vm := by rw [hvm]; exact Vm.Alike.refl u.vm
  exact ⟨⟨a1.moved hv, a2.moved hv, a3.moved hv, a4.moved hv⟩, ⟨b1.moved hv, b2.moved hv⟩, ⟨c1.moved hv, c2, c3⟩, vk_R.same hvm d1, vk_R.same hvm d2, va_Nw.same rfl hvm.symm d3⟩
def CTX (Y : MD) (d : Nat) (X : XE) (p : Program) (R : Room) (s : State) (m : MethodId) (args : Array Value) (c : Code) (A : Nat → Prop) : Prop :=
  (p.tables.exec = Jvm.exec ∧ c.code = Y.2.1 ∧ c.maxLocals = Y.2.2.1 ∧ s.vm.findClass Y.1.cls = some m.cls ∧ ∀ w ∈ TBL, w.before args s = true) ∧ d ≤ R.frames ∧ 60 * d ≤ R.locals ∧ (∀ q, s.heap.size ≤ q → A q) ∧ EX X A s s.heap ∧ va_K X.2.2.1 CL (TY X) s
def INV (X : XE) (A : Nat → Prop) (s : State) (H : Heap) (locs : List Loc) (h : HP) : Prop := va_P X.2.2.1 CL (wld X h) H ∧ va_D A (wld X h) ∧ va_S A s.heap H locs
def RTI (i : Instr) (r : Option Value) : Prop := (i = .ireturn ∧ ∃ v, r = some (.int v)) ∨ (i = .lreturn ∧ ∃ v, r = some (.long v)) ∨ (i = .return_ ∧ r = none)
/-- from here the code comes to its return, with r, and the numbers h' -/
def Run (Y : MD) (d : Nat) (X : XE) (pc : Nat) (lv : List (Nat × Value)) (st : List Value) (h : HP) (r : Option Value) (h' : HP) : Prop :=
  ∀ (p : Program) (l : Launch) (e : Env) (R : Room) (s : State) (m : MethodId) (args : Array Value) (below : List Frame) (meth : Method) (c : Code) (A : Nat → Prop) (cells slots : Nat) (Q : State → Prop),
    CTX Y d X p R s m args c A → cells ≤ R.cells → slots ≤ R.slots →
    (∀ (H : Heap) (locs : List Loc) (ls : Array Slot) (pcR : Nat) (i : Instr), decode Y.2.1 pcR = .ok (i, 1) → RTI i r → INV X A s H locs h' → W p l e R s m args below meth c H locs cells slots Q (F0 m pcR ls r.toList)) →
    ∀ (H : Heap) (locs : List Loc) (ls : Array Slot), INV X A s H locs h → lv_has ls Y.2.2.1 lv → W p l e R s m args below meth c H locs cells slots Q (F0 m pc ls st)
def QV (r : Option Value) (B : State → Prop) (A : Nat → Prop) : Array Value → State → Outcome → State → Prop := fun _ st oc t => (oc = .returned r ∧ B t) ∧ va_F A st t
/-- the contract: called with these, from the numbers h, any call of the method answers r and leaves h' -/
def CC (Y : MD) (d : Nat) (X : XE) (as : List Value) (h : HP) (r : Option Value) (h' : HP) : Prop :=
  ∀ (l : Launch) (sz : Nat), Met l Y.1 (.code Y.1 Y.2.1 Y.2.2.1 Y.2.2.2 :: TBL) ({ frames := d, cells := 0, slots := 0, locals := 60 * d }) (va_Pc as (fun U => U.heap.size = sz ∧ va_P X.2.2.1 CL (wld X h) U.heap ∧ va_K X.2.2.1 CL (TY X) U ∧ va_D (fun _ => True) (wld X h) ∧ EX X (va_A (wld X h) sz) U U.heap)) (QV r (fun t => va_P X.2.2.1 CL (wld X h') t.heap) (va_A (wld X h) sz)) 0 0 (va_A (wld X h) sz)
/-- which values a method of that type answers -/
def ROK (ret : Option FieldType) (r : Option Value) : Prop := match ret with
  | none => r = none
  | some .long => ∃ v, r = some (.long v)
  | some ty => ∃ v, r = some (.int v) ∧ narrow ty (.int v) = .int v
set_option maxHeartbeats 4000000 in
theorem CC_of {Y : MD} {d : Nat} {X : XE} {as : List Value} {h h' : HP} {r : Option Value} (hy : plainName Y.1.cls = true) (hn : (lg_sl as).length ≤ Y.2.2.1) (hr : ROK Y.2.2.2 r) (hR : Run Y d X 0 (lv_args 0 as) [] h r h') : CC Y d X as h r h' := by
  obtain ⟨y, code, nL, ret⟩ := Y
  intro l sz
  refine Met.ofW (cc := code) (maxL := nL) (ret := ret) hy rfl ?_
  intro p e s m args below meth c s₁ B hml hv
  obtain ⟨rfl, hsz, hP, hK, hD0, hE⟩ := hv
  have hts := atoms_spec (ws := .code y code nL ret :: TBL) B.pre
  have hown : s.vm.findClass y.cls = some m.cls := findClass_of_methodNamed B.named
  have hrt := B.returns
  have hlocks := B.notSynchronized
  subst hsz
  have hD := hD0.self (sz := s.heap.size)
  have hl := lv_entry as (n := nL) hn
  rw [lg_entry_eq]
  refine hR p l e _ s m as.toArray below meth c (va_A (wld X h) s.heap.size) 0 0 _ ⟨⟨B.exec, B.bytes, hml, hown, fun w hw => hts w (List.mem_cons_of_mem _ hw)⟩, Nat.le_refl d, Nat.le_refl _, fun q hq => Or.inr hq, hE, hK⟩ (Nat.le_refl 0) (Nat.le_refl 0) ?_ s.heap [] _ ⟨hP, hD, va_S.rf⟩ hl
  intro H locs ls pcR i hdg hi hI
  obtain ⟨hP9, hD9, hS9⟩ := hI
  have hq : ∀ t : State, t.heap = H → s.WarmedH t.vm → QV r (fun t => va_P X.2.2.1 CL (wld X h') t.heap) (va_A (wld X h) s.heap.size) as.toArray s (.returned r) t := fun t ht _ => ⟨⟨rfl, by show va_P X.2.2.1 CL (wld X h') t.heap; rw [ht]; exact hP9⟩, hS9.F ht⟩
  rcases hi with ⟨rfl, v, rfl⟩ | ⟨rfl, v, rfl⟩ | ⟨rfl, rfl⟩
  · have hrr : ∃ ty, ret = some ty ∧ narrow ty (.int v) = .int v := by
      dsimp only at hr
      cases ret with
      | none => simp [ROK] at hr
      | some ty => cases ty <;> simp [ROK] at hr <;> first | exact ⟨_, rfl, hr⟩ | (obtain ⟨w, h1, h2⟩ := hr; cases h1)
    obtain ⟨ty, rfl, hnn⟩ := hrr
    exact W.zret (v := v) B.exec B.bytes hrt hnn hq hS9.2.2 hdg hlocks
  · have hrr : ret = some .long := by
      dsimp only at hr
      cases ret with
      | none => simp [ROK] at hr
      | some ty => cases ty <;> simp [ROK] at hr <;> rfl
    subst hrr
    exact W.lret (v := v) B.exec B.bytes hrt hq hS9.2.2 hdg hlocks
  · have hrr : ret = none := by
      dsimp only at hr
      cases ret with
      | none => rfl
      | some ty => cases ty <;> simp [ROK] at hr
    subst hrr
    exact W.vret B.exec B.bytes hrt hq hS9.2.2 hdg hlocks
section VCG
variable {p : Program} {l : Launch} {e : Env} {R : Room} {s : State} {m : MethodId} {args : Array Value} {below : List Frame} {meth : Method} {c : Code} {H : Heap} {locs : List Loc} {cells slots : Nat} {Q : State → Prop}
variable {pc : Nat} {ls : Array Slot} {rest st0 : List Value} {a : Array Value} {A0 A1 : Nat → Prop} {H0 : Heap} {free : Addr → Prop}
theorem va_callg {r : Option Value} {B : State → Prop} (hr : va_Run p l e R s m args below meth c H locs cells slots 0 0 (F0 m pc ls st0) rest (QV r B A1 a) free) (hS : va_S A0 H0 H locs) (hA : ∀ q, q < H.size → A1 q → A0 q) (hf : ∀ q, free q → A0 q)
    (kk : ∀ (t : State) (H1 : Heap) (locs1 : List Loc), t.heap = H1 → B t → H.size ≤ H1.size → (∀ q : Nat, q < H.size → ¬ A1 q → H1[q]? = H[q]?) → va_S A0 H0 H1 locs1 → W p l e R s m args below meth c H1 locs1 cells slots Q (F0 m (pc + 3) ls (r.toList ++ rest))) : W p l e R s m args below meth c H locs cells slots Q (F0 m pc ls st0) := by
  intro T hT X
  obtain ⟨v, st₀, t, T', L, h0, X', hL, e1, e2, ⟨⟨hv, hb⟩, hz, hk⟩, st⟩ := hr T hT X
  cases hv
  rw [h0] at hz hk
  obtain ⟨t2, a1, b1⟩ := kk t T'.heap (locs ++ L) e1.symm hb (by rw [e1]; exact hz) (fun q h1 h2 => by rw [e1]; exact hk q h1 h2)
    ⟨Nat.le_trans hS.1 (by rw [e1]; exact hz), fun q h1 h2 => by rw [e1, hk q (Nat.lt_of_lt_of_le h1 hS.1) (fun z => h2 (hA q (Nat.lt_of_lt_of_le h1 hS.1) z))]; exact hS.2.1 q h1 h2, fun q hq => by
      rcases List.mem_append.mp hq with h | h
      · exact hS.2.2 q h
      · exact hf _ (hL q h)⟩ T' rfl X'
  exact ⟨t2, st t2 a1, b1⟩
end VCG
end
section
section RR
variable {Y : MD} {d : Nat} {X : XE} {pc : Nat} {lv : List (Nat × Value)} {st : List Value} {h h1 h2 h' : HP} {r : Option Value}
theorem r_iload_n {k : Fin 4} {i : Nat} {x : Int32} (n : Nat) (hk : lv[n]? = some (i, .int x)) (hi : (k : Nat) = i) (hdg : decode Y.2.1 pc = .ok (.iload_n k, 1)) (kk : Run Y d X (pc + 1) lv (.int x :: st) h r h') : Run Y d X pc lv (st) h r h' := by
  intro p l e R s m args below meth c A cells slots Q C0 c1 c2 K H locs ls hI hl
  exact lv_iload_n C0.1.1 C0.1.2.1 hdg hi (lv_at hl n hk) (kk p l e R s m args below meth c A cells slots Q C0 c1 c2 K H locs ls hI hl)
theorem r_iload {i : Nat} {x : Int32} (n : Nat) (hk : lv[n]? = some (i, .int x)) (hdg : decode Y.2.1 pc = .ok (.iload i, 2)) (kk : Run Y d X (pc + 2) lv (.int x :: st) h r h') : Run Y d X pc lv (st) h r h' := by
  intro p l e R s m args below meth c A cells slots Q C0 c1 c2 K H locs ls hI hl
  exact lv_iload C0.1.1 C0.1.2.1 hdg (lv_at hl n hk) (kk p l e R s m args below meth c A cells slots Q C0 c1 c2 K H locs ls hI hl)
theorem r_aload_n {k : Fin 4} {i : Nat} {x : Nat} (n : Nat) (hk : lv[n]? = some (i, .ref x)) (hi : (k : Nat) = i) (hdg : decode Y.2.1 pc = .ok (.aload_n k, 1)) (kk : Run Y d X (pc + 1) lv (.ref x :: st) h r h') : Run Y d X pc lv (st) h r h' := by
  intro p l e R s m args below meth c A cells slots Q C0 c1 c2 K H locs ls hI hl
  exact lv_aload_n C0.1.1 C0.1.2.1 hdg hi (lv_at hl n hk) (kk p l e R s m args below meth c A cells slots Q C0 c1 c2 K H locs ls hI hl)
theorem r_aload {i : Nat} {x : Nat} (n : Nat) (hk : lv[n]? = some (i, .ref x)) (hdg : decode Y.2.1 pc = .ok (.aload i, 2)) (kk : Run Y d X (pc + 2) lv (.ref x :: st) h r h') : Run Y d X pc lv (st) h r h' := by
  intro p l e R s m args below meth c A cells slots Q C0 c1 c2 K H locs ls hI hl
  exact lv_aload C0.1.1 C0.1.2.1 hdg (lv_at hl n hk) (kk p l e R s m args below meth c A cells slots Q C0 c1 c2 K H locs ls hI hl)
theorem r_lload_n {k : Fin 4} {i : Nat} {x : Int64} (n : Nat) (hk : lv[n]? = some (i, .long x)) (hi : (k : Nat) = i) (hdg : decode Y.2.1 pc = .ok (.lload_n k, 1)) (kk : Run Y d X (pc + 1) lv (.long x :: st) h r h') : Run Y d X pc lv (st) h r h' := by
  intro p l e R s m args below meth c A cells slots Q C0 c1 c2 K H locs ls hI hl
  exact lv_lload_n C0.1.1 C0.1.2.1 hdg hi (lv_at hl n hk) (kk p l e R s m args below meth c A cells slots Q C0 c1 c2 K H locs ls hI hl)
theorem r_lload {i : Nat} {x : Int64} (n : Nat) (hk : lv[n]? = some (i, .long x)) (hdg : decode Y.2.1 pc = .ok (.lload i, 2)) (kk : Run Y d X (pc + 2) lv (.long x :: st) h r h') : Run Y d X pc lv (st) h r h' := by
  intro p l e R s m args below meth c A cells slots Q C0 c1 c2 K H locs ls hI hl
  exact lv_lload C0.1.1 C0.1.2.1 hdg (lv_at hl n hk) (kk p l e R s m args below meth c A cells slots Q C0 c1 c2 K H locs ls hI hl)
theorem r_istore_n {lv' : List (Nat × Value)} {k : Fin 4} {i : Nat} {x : Int32} (hdg : decode Y.2.1 pc = .ok (.istore_n k, 1)) (hn : i < Y.2.2.1) (hl' : (i, Value.int x) :: lv.filter (fun q => !(q.1 == i) && !(q.1 + 1 == i && q.2.category == 2)) = lv') (hi : (k : Nat) = i) (kk : Run Y d X (pc + 1) lv' st h r h') : Run Y d X pc lv (.int x :: st) h r h' := by
  intro p l e R s m args below meth c A cells slots Q C0 c1 c2 K H locs ls hI hl
  exact lv_istore_n C0.1.1 C0.1.2.1 hdg hi hl hn hl' (fun ls' hl9 => kk p l e R s m args below meth c A cells slots Q C0 c1 c2 K H locs ls' hI hl9)
theorem r_istore {lv' : List (Nat × Value)} {i : Nat} {x : Int32} (hdg : decode Y.2.1 pc = .ok (.istore i, 2)) (hn : i < Y.2.2.1) (hl' : (i, Value.int x) :: lv.filter (fun q => !(q.1 == i) && !(q.1 + 1 == i && q.2.category == 2)) = lv') (kk : Run Y d X (pc + 2) lv' st h r h') : Run Y d X pc lv (.int x :: st) h r h' := by
  intro p l e R s m args below meth c A cells slots Q C0 c1 c2 K H locs ls hI hl
  exact lv_istore C0.1.1 C0.1.2.1 hdg hl hn hl' (fun ls' hl9 => kk p l e R s m args below meth c A cells slots Q C0 c1 c2 K H locs ls' hI hl9)
theorem r_astore_n {lv' : List (Nat × Value)} {k : Fin 4} {i : Nat} {x : Nat} (hdg : decode Y.2.1 pc = .ok (.astore_n k, 1)) (hn : i < Y.2.2.1) (hl' : (i, Value.ref x) :: lv.filter (fun q => !(q.1 == i) && !(q.1 + 1 == i && q.2.category == 2)) = lv') (hi : (k : Nat) = i) (kk : Run Y d X (pc + 1) lv' st h r h') : Run Y d X pc lv (.ref x :: st) h r h' := by
  intro p l e R s m args below meth c A cells slots Q C0 c1 c2 K H locs ls hI hl
  exact lv_astore_n C0.1.1 C0.1.2.1 hdg hi hl hn hl' (fun ls' hl9 => kk p l e R s m args below meth c A cells slots Q C0 c1 c2 K H locs ls' hI hl9)
theorem r_astore {lv' : List (Nat × Value)} {i : Nat} {x : Nat} (hdg : decode Y.2.1 pc = .ok (.astore i, 2)) (hn : i < Y.2.2.1) (hl' : (i, Value.ref x) :: lv.filter (fun q => !(q.1 == i) && !(q.1 + 1 == i && q.2.category == 2)) = lv') (kk : Run Y d X (pc + 2) lv' st h r h') : Run Y d X pc lv (.ref x :: st) h r h' := by
  intro p l e R s m args below meth c A cells slots Q C0 c1 c2 K H locs ls hI hl
  exact lv_astore C0.1.1 C0.1.2.1 hdg hl hn hl' (fun ls' hl9 => kk p l e R s m args below meth c A cells slots Q C0 c1 c2 K H locs ls' hI hl9)
theorem r_iinc {lv' : List (Nat × Value)} {i : Nat} {x v : Int32} {n : Int} (k : Nat) (hdg : decode Y.2.1 pc = .ok (.iinc i n, 3)) (hk : lv[k]? = some (i, .int x)) (hv : x + Int32.ofInt n = v) (hn : i < Y.2.2.1) (hl' : (i, Value.int v) :: lv.filter (fun q => !(q.1 == i) && !(q.1 + 1 == i && q.2.category == 2)) = lv') (kk : Run Y d X (pc + 3) lv' st h r h') : Run Y d X pc lv st h r h' := by
  intro p l e R s m args below meth c A cells slots Q C0 c1 c2 K H locs ls hI hl
  exact lv_iinc C0.1.1 C0.1.2.1 hdg hl hk hv hn hl' (fun ls' hl9 => kk p l e R s m args below meth c A cells slots Q C0 c1 c2 K H locs ls' hI hl9)
theorem r_sub {lv' : List (Nat × Value)} (ks : List Nat) (hs : lv_pick lv ks = lv') (kk : Run Y d X pc lv' st h r h') : Run Y d X pc lv st h r h' := by
  intro p l e R s m args below meth c A cells slots Q C0 c1 c2 K H locs ls hI hl
  exact kk p l e R s m args below meth c A cells slots Q C0 c1 c2 K H locs ls hI (lv_sub hl ks hs)
theorem r_iconst {n : Int} {v : Int32} (hv : Int32.ofInt n = v) (hdg : decode Y.2.1 pc = .ok (.iconst n, 1)) (kk : Run Y d X (pc + 1) lv (.int v :: st) h r h') : Run Y d X pc lv (st) h r h' := by
  intro p l e R s m args below meth c A cells slots Q C0 c1 c2 K H locs ls hI hl
  exact lv_iconst C0.1.1 C0.1.2.1 hdg hv (kk p l e R s m args below meth c A cells slots Q C0 c1 c2 K H locs ls hI hl)
theorem r_bipush {n : Int} {v : Int32} (hv : (Int8.ofInt n).toInt32 = v) (hdg : decode Y.2.1 pc = .ok (.bipush n, 2)) (kk : Run Y d X (pc + 2) lv (.int v :: st) h r h') : Run Y d X pc lv (st) h r h' := by
  intro p l e R s m args below meth c A cells slots Q C0 c1 c2 K H locs ls hI hl
  exact lv_bipush C0.1.1 C0.1.2.1 hdg hv (kk p l e R s m args below meth c A cells slots Q C0 c1 c2 K H locs ls hI hl)
theorem r_sipush {n : Int} {v : Int32} (hv : (Int16.ofInt n).toInt32 = v) (hdg : decode Y.2.1 pc = .ok (.sipush n, 3)) (kk : Run Y d X (pc + 3) lv (.int v :: st) h r h') : Run Y d X pc lv (st) h r h' := by
  intro p l e R s m args below meth c A cells slots Q C0 c1 c2 K H locs ls hI hl
  exact lv_sipush C0.1.1 C0.1.2.1 hdg hv (kk p l e R s m args below meth c A cells slots Q C0 c1 c2 K H locs ls hI hl)
theorem r_lconst {n : Fin 2} {v : Int64} (hv : Int64.ofNat (n : Nat) = v) (hdg : decode Y.2.1 pc = .ok (.lconst n, 1)) (kk : Run Y d X (pc + 1) lv (.long v :: st) h r h') : Run Y d X pc lv (st) h r h' := by
  intro p l e R s m args below meth c A cells slots Q C0 c1 c2 K H locs ls hI hl
  exact lv_lconst C0.1.1 C0.1.2.1 hdg hv (kk p l e R s m args below meth c A cells slots Q C0 c1 c2 K H locs ls hI hl)
theorem r_ldc {index : Nat} {v : Int32} (hw : Cond.constant Y.1.cls index v ∈ TBL) (hdg : decode Y.2.1 pc = .ok (.ldc index, 2)) (kk : Run Y d X (pc + 2) lv (.int v :: st) h r h') : Run Y d X pc lv (st) h r h' := by
  intro p l e R s m args below meth c A cells slots Q C0 c1 c2 K H locs ls hI hl
  exact lv_ldc C0.1.1 C0.1.2.1 C0.1.2.2.2.1 (C0.1.2.2.2.2 _ hw) hdg (kk p l e R s m args below meth c A cells slots Q C0 c1 c2 K H locs ls hI hl)
theorem r_ldcw {index : Nat} {v : Int32} (hw : Cond.constant Y.1.cls index v ∈ TBL) (hdg : decode Y.2.1 pc = .ok (.ldc_w index, 3)) (kk : Run Y d X (pc + 3) lv (.int v :: st) h r h') : Run Y d X pc lv (st) h r h' := by
  intro p l e R s m args below meth c A cells slots Q C0 c1 c2 K H locs ls hI hl
  exact lv_ldcw C0.1.1 C0.1.2.1 C0.1.2.2.2.1 (C0.1.2.2.2.2 _ hw) hdg (kk p l e R s m args below meth c A cells slots Q C0 c1 c2 K H locs ls hI hl)
theorem r_ldc2 {index : Nat} {v : Int64} (hw : Cond.constantLong Y.1.cls index v ∈ TBL) (hdg : decode Y.2.1 pc = .ok (.ldc2_w index, 3)) (kk : Run Y d X (pc + 3) lv (.long v :: st) h r h') : Run Y d X pc lv (st) h r h' := by
  intro p l e R s m args below meth c A cells slots Q C0 c1 c2 K H locs ls hI hl
  exact lv_ldc2 C0.1.1 C0.1.2.1 C0.1.2.2.2.1 (C0.1.2.2.2.2 _ hw) hdg (kk p l e R s m args below meth c A cells slots Q C0 c1 c2 K H locs ls hI hl)
theorem r_iadd {x y : Int32} (hdg : decode Y.2.1 pc = .ok (.iadd, 1)) (kk : Run Y d X (pc + 1) lv (.int (x + y) :: st) h r h') : Run Y d X pc lv (.int y :: .int x :: st) h r h' := by
  intro p l e R s m args below meth c A cells slots Q C0 c1 c2 K H locs ls hI hl
  exact lv_iadd C0.1.1 C0.1.2.1 hdg (kk p l e R s m args below meth c A cells slots Q C0 c1 c2 K H locs ls hI hl)
theorem r_isub {x y : Int32} (hdg : decode Y.2.1 pc = .ok (.isub, 1)) (kk : Run Y d X (pc + 1) lv (.int (x - y) :: st) h r h') : Run Y d X pc lv (.int y :: .int x :: st) h r h' := by
  intro p l e R s m args below meth c A cells slots Q C0 c1 c2 K H locs ls hI hl
  exact lv_isub C0.1.1 C0.1.2.1 hdg (kk p l e R s m args below meth c A cells slots Q C0 c1 c2 K H locs ls hI hl)
theorem r_imul {x y : Int32} (hdg : decode Y.2.1 pc = .ok (.imul, 1)) (kk : Run Y d X (pc + 1) lv (.int (x * y) :: st) h r h') : Run Y d X pc lv (.int y :: .int x :: st) h r h' := by
  intro p l e R s m args below meth c A cells slots Q C0 c1 c2 K H locs ls hI hl
  exact lv_imul C0.1.1 C0.1.2.1 hdg (kk p l e R s m args below meth c A cells slots Q C0 c1 c2 K H locs ls hI hl)
theorem r_iand {x y : Int32} (hdg : decode Y.2.1 pc = .ok (.iand, 1)) (kk : Run Y d X (pc + 1) lv (.int (x &&& y) :: st) h r h') : Run Y d X pc lv (.int y :: .int x :: st) h r h' := by
  intro p l e R s m args below meth c A cells slots Q C0 c1 c2 K H locs ls hI hl
  exact lv_iand C0.1.1 C0.1.2.1 hdg (kk p l e R s m args below meth c A cells slots Q C0 c1 c2 K H locs ls hI hl)
theorem r_ior {x y : Int32} (hdg : decode Y.2.1 pc = .ok (.ior, 1)) (kk : Run Y d X (pc + 1) lv (.int (x ||| y) :: st) h r h') : Run Y d X pc lv (.int y :: .int x :: st) h r h' := by
  intro p l e R s m args below meth c A cells slots Q C0 c1 c2 K H locs ls hI hl
  exact lv_ior C0.1.1 C0.1.2.1 hdg (kk p l e R s m args below meth c A cells slots Q C0 c1 c2 K H locs ls hI hl)
theorem r_ixor {x y : Int32} (hdg : decode Y.2.1 pc = .ok (.ixor, 1)) (kk : Run Y d X (pc + 1) lv (.int (x ^^^ y) :: st) h r h') : Run Y d X pc lv (.int y :: .int x :: st) h r h' := by
  intro p l e R s m args below meth c A cells slots Q C0 c1 c2 K H locs ls hI hl
  exact lv_ixor C0.1.1 C0.1.2.1 hdg (kk p l e R s m args below meth c A cells slots Q C0 c1 c2 K H locs ls hI hl)
theorem r_ishl {x y : Int32} (hdg : decode Y.2.1 pc = .ok (.ishl, 1)) (kk : Run Y d X (pc + 1) lv (.int (x <<< (y &&& 31)) :: st) h r h') : Run Y d X pc lv (.int y :: .int x :: st) h r h' := by
  intro p l e R s m args below meth c A cells slots Q C0 c1 c2 K H locs ls hI hl
  exact lv_ishl C0.1.1 C0.1.2.1 hdg (kk p l e R s m args below meth c A cells slots Q C0 c1 c2 K H locs ls hI hl)
theorem r_iushr {x y : Int32} (hdg : decode Y.2.1 pc = .ok (.iushr, 1)) (kk : Run Y d X (pc + 1) lv (.int (x.toUInt32 >>> (y.toUInt32 &&& Int32.toUInt32 31)).toInt32 :: st) h r h') : Run Y d X pc lv (.int y :: .int x :: st) h r h' := by
  intro p l e R s m args below meth c A cells slots Q C0 c1 c2 K H locs ls hI hl
  exact lv_iushr C0.1.1 C0.1.2.1 hdg rfl (kk p l e R s m args below meth c A cells slots Q C0 c1 c2 K H locs ls hI hl)
theorem r_idiv {x y : Int32} (hne : ¬ y = 0) (hdg : decode Y.2.1 pc = .ok (.idiv, 1)) (kk : Run Y d X (pc + 1) lv (.int (x / y) :: st) h r h') : Run Y d X pc lv (.int y :: .int x :: st) h r h' := by
  intro p l e R s m args below meth c A cells slots Q C0 c1 c2 K H locs ls hI hl
  exact lv_idiv C0.1.1 C0.1.2.1 hdg hne (kk p l e R s m args below meth c A cells slots Q C0 c1 c2 K H locs ls hI hl)
theorem r_irem {x y : Int32} (hne : ¬ y = 0) (hdg : decode Y.2.1 pc = .ok (.irem, 1)) (kk : Run Y d X (pc + 1) lv (.int (x - x / y * y) :: st) h r h') : Run Y d X pc lv (.int y :: .int x :: st) h r h' := by
  intro p l e R s m args below meth c A cells slots Q C0 c1 c2 K H locs ls hI hl
  exact lv_irem C0.1.1 C0.1.2.1 hdg hne (kk p l e R s m args below meth c A cells slots Q C0 c1 c2 K H locs ls hI hl)
theorem r_ineg {x : Int32} (hdg : decode Y.2.1 pc = .ok (.ineg, 1)) (kk : Run Y d X (pc + 1) lv (.int (-x) :: st) h r h') : Run Y d X pc lv (.int x :: st) h r h' := by
  intro p l e R s m args below meth c A cells slots Q C0 c1 c2 K H locs ls hI hl
  exact lv_ineg C0.1.1 C0.1.2.1 hdg (kk p l e R s m args below meth c A cells slots Q C0 c1 c2 K H locs ls hI hl)
theorem r_i2l {x : Int32} (hdg : decode Y.2.1 pc = .ok (.i2l, 1)) (kk : Run Y d X (pc + 1) lv (.long x.toInt64 :: st) h r h') : Run Y d X pc lv (.int x :: st) h r h' := by
  intro p l e R s m args below meth c A cells slots Q C0 c1 c2 K H locs ls hI hl
  exact lv_i2l C0.1.1 C0.1.2.1 hdg rfl (kk p l e R s m args below meth c A cells slots Q C0 c1 c2 K H locs ls hI hl)
theorem r_l2i {x : Int64} (hdg : decode Y.2.1 pc = .ok (.l2i, 1)) (kk : Run Y d X (pc + 1) lv (.int x.toInt32 :: st) h r h') : Run Y d X pc lv (.long x :: st) h r h' := by
  intro p l e R s m args below meth c A cells slots Q C0 c1 c2 K H locs ls hI hl
  exact lv_l2i C0.1.1 C0.1.2.1 hdg rfl (kk p l e R s m args below meth c A cells slots Q C0 c1 c2 K H locs ls hI hl)
theorem r_i2b {x : Int32} (hdg : decode Y.2.1 pc = .ok (.i2b, 1)) (kk : Run Y d X (pc + 1) lv (.int x.toInt8.toInt32 :: st) h r h') : Run Y d X pc lv (.int x :: st) h r h' := by
  intro p l e R s m args below meth c A cells slots Q C0 c1 c2 K H locs ls hI hl
  exact lv_i2b C0.1.1 C0.1.2.1 hdg rfl (kk p l e R s m args below meth c A cells slots Q C0 c1 c2 K H locs ls hI hl)
theorem r_i2s {x : Int32} (hdg : decode Y.2.1 pc = .ok (.i2s, 1)) (kk : Run Y d X (pc + 1) lv (.int x.toInt16.toInt32 :: st) h r h') : Run Y d X pc lv (.int x :: st) h r h' := by
  intro p l e R s m args below meth c A cells slots Q C0 c1 c2 K H locs ls hI hl
  exact lv_i2s C0.1.1 C0.1.2.1 hdg rfl (kk p l e R s m args below meth c A cells slots Q C0 c1 c2 K H locs ls hI hl)
theorem r_i2c {x : Int32} (hdg : decode Y.2.1 pc = .ok (.i2c, 1)) (kk : Run Y d X (pc + 1) lv (.int (x.toUInt32 % 65536).toInt32 :: st) h r h') : Run Y d X pc lv (.int x :: st) h r h' := by
  intro p l e R s m args below meth c A cells slots Q C0 c1 c2 K H locs ls hI hl
  exact lv_i2c C0.1.1 C0.1.2.1 hdg rfl (kk p l e R s m args below meth c A cells slots Q C0 c1 c2 K H locs ls hI hl)
theorem r_land {x y : Int64} (hdg : decode Y.2.1 pc = .ok (.land, 1)) (kk : Run Y d X (pc + 1) lv (.long (x &&& y) :: st) h r h') : Run Y d X pc lv (.long y :: .long x :: st) h r h' := by
  intro p l e R s m args below meth c A cells slots Q C0 c1 c2 K H locs ls hI hl
  exact lv_land C0.1.1 C0.1.2.1 hdg (kk p l e R s m args below meth c A cells slots Q C0 c1 c2 K H locs ls hI hl)
theorem r_lor {x y : Int64} (hdg : decode Y.2.1 pc = .ok (.lor, 1)) (kk : Run Y d X (pc + 1) lv (.long (x ||| y) :: st) h r h') : Run Y d X pc lv (.long y :: .long x :: st) h r h' := by
  intro p l e R s m args below meth c A cells slots Q C0 c1 c2 K H locs ls hI hl
  exact lv_lor C0.1.1 C0.1.2.1 hdg (kk p l e R s m args below meth c A cells slots Q C0 c1 c2 K H locs ls hI hl)
theorem r_lshl {x : Int64} {y : Int32} (hdg : decode Y.2.1 pc = .ok (.lshl, 1)) (kk : Run Y d X (pc + 1) lv (.long (x <<< (y.toInt64 &&& 63)) :: st) h r h') : Run Y d X pc lv (.int y :: .long x :: st) h r h' := by
  intro p l e R s m args below meth c A cells slots Q C0 c1 c2 K H locs ls hI hl
  exact lv_lshl C0.1.1 C0.1.2.1 hdg rfl (kk p l e R s m args below meth c A cells slots Q C0 c1 c2 K H locs ls hI hl)
theorem r_lcmp {x y : Int64} (hdg : decode Y.2.1 pc = .ok (.lcmp, 1)) (kk : Run Y d X (pc + 1) lv (.int (lg_cmp x y) :: st) h r h') : Run Y d X pc lv (.long y :: .long x :: st) h r h' := by
  intro p l e R s m args below meth c A cells slots Q C0 c1 c2 K H locs ls hI hl
  exact W.lcmp C0.1.1 C0.1.2.1 hdg (kk p l e R s m args below meth c A cells slots Q C0 c1 c2 K H locs ls hI hl)
theorem r_dup {v : Value} (hv : v.category = 1) (hdg : decode Y.2.1 pc = .ok (.dup, 1)) (kk : Run Y d X (pc + 1) lv (v :: v :: st) h r h') : Run Y d X pc lv (v :: st) h r h' := by
  intro p l e R s m args below meth c A cells slots Q C0 c1 c2 K H locs ls hI hl
  exact lv_dup C0.1.1 C0.1.2.1 hdg hv (kk p l e R s m args below meth c A cells slots Q C0 c1 c2 K H locs ls hI hl)
theorem r_pop {v : Value} (hv : v.category = 1) (hdg : decode Y.2.1 pc = .ok (.pop, 1)) (kk : Run Y d X (pc + 1) lv (st) h r h') : Run Y d X pc lv (v :: st) h r h' := by
  intro p l e R s m args below meth c A cells slots Q C0 c1 c2 K H locs ls hI hl
  exact lv_pop C0.1.1 C0.1.2.1 hdg hv (kk p l e R s m args below meth c A cells slots Q C0 c1 c2 K H locs ls hI hl)
theorem r_dup2 {v u : Value} (hv : v.category = 1) (hu : u.category = 1) (hdg : decode Y.2.1 pc = .ok (.dup2, 1)) (kk : Run Y d X (pc + 1) lv (v :: u :: v :: u :: st) h r h') : Run Y d X pc lv (v :: u :: st) h r h' := by
  intro p l e R s m args below meth c A cells slots Q C0 c1 c2 K H locs ls hI hl
  exact lv_dup2_11 C0.1.1 C0.1.2.1 hdg hv hu (kk p l e R s m args below meth c A cells slots Q C0 c1 c2 K H locs ls hI hl)
theorem r_goto {off : Int} (tgt : Nat) (hdg : decode Y.2.1 pc = .ok (.goto off, 3)) (ht : (pc : Int) + off = (tgt : Int)) (kk : Run Y d X tgt lv st h r h') : Run Y d X pc lv st h r h' := by
  intro p l e R s m args below meth c A cells slots Q C0 c1 c2 K H locs ls hI hl
  exact lv_goto C0.1.1 C0.1.2.1 hdg ht (kk p l e R s m args below meth c A cells slots Q C0 c1 c2 K H locs ls hI hl)
theorem r_if_eq_t {x : Int32} {off : Int} (tgt : Nat) (hdg : decode Y.2.1 pc = .ok (.ifCond .eq off, 3)) (ht : (pc : Int) + off = (tgt : Int)) (hc : x = 0) (kk : Run Y d X tgt lv st h r h') : Run Y d X pc lv (.int x :: st) h r h' := by
  intro p l e R s m args below meth c A cells slots Q C0 c1 c2 K H locs ls hI hl
  exact lv_if_eq C0.1.1 C0.1.2.1 hdg ht (fun _ => (kk p l e R s m args below meth c A cells slots Q C0 c1 c2 K H locs ls hI hl)) (fun q => absurd hc q)
theorem r_if_eq_f {x : Int32} {off : Int} (tgt : Nat) (hdg : decode Y.2.1 pc = .ok (.ifCond .eq off, 3)) (ht : (pc : Int) + off = (tgt : Int)) (hc : ¬ x = 0) (kk : Run Y d X (pc + 3) lv st h r h') : Run Y d X pc lv (.int x :: st) h r h' := by
  intro p l e R s m args below meth c A cells slots Q C0 c1 c2 K H locs ls hI hl
  exact lv_if_eq C0.1.1 C0.1.2.1 hdg ht (fun q => absurd q hc) (fun _ => (kk p l e R s m args below meth c A cells slots Q C0 c1 c2 K H locs ls hI hl))
theorem r_icmp_eq_t {x y : Int32} {off : Int} (tgt : Nat) (hdg : decode Y.2.1 pc = .ok (.if_icmp .eq off, 3)) (ht : (pc : Int) + off = (tgt : Int)) (hc : x = y) (kk : Run Y d X tgt lv st h r h') : Run Y d X pc lv (.int y :: .int x :: st) h r h' := by
  intro p l e R s m args below meth c A cells slots Q C0 c1 c2 K H locs ls hI hl
  exact lv_icmp_eq C0.1.1 C0.1.2.1 hdg ht (fun _ => (kk p l e R s m args below meth c A cells slots Q C0 c1 c2 K H locs ls hI hl)) (fun q => absurd hc q)
theorem r_icmp_eq_f {x y : Int32} {off : Int} (tgt : Nat) (hdg : decode Y.2.1 pc = .ok (.if_icmp .eq off, 3)) (ht : (pc : Int) + off = (tgt : Int)) (hc : ¬ x = y) (kk : Run Y d X (pc + 3) lv st h r h') : Run Y d X pc lv (.int y :: .int x :: st) h r h' := by
  intro p l e R s m args below meth c A cells slots Q C0 c1 c2 K H locs ls hI hl
  exact lv_icmp_eq C0.1.1 C0.1.2.1 hdg ht (fun q => absurd q hc) (fun _ => (kk p l e R s m args below meth c A cells slots Q C0 c1 c2 K H locs ls hI hl))
theorem r_if_ne_t {x : Int32} {off : Int} (tgt : Nat) (hdg : decode Y.2.1 pc = .ok (.ifCond .ne off, 3)) (ht : (pc : Int) + off = (tgt : Int)) (hc : x = 0) (kk : Run Y d X (pc + 3) lv st h r h') : Run Y d X pc lv (.int x :: st) h r h' := by
  intro p l e R s m args below meth c A cells slots Q C0 c1 c2 K H locs ls hI hl
  exact lv_if_ne C0.1.1 C0.1.2.1 hdg ht (fun q => absurd hc q) (fun _ => (kk p l e R s m args below meth c A cells slots Q C0 c1 c2 K H locs ls hI hl))
theorem r_if_ne_f {x : Int32} {off : Int} (tgt : Nat) (hdg : decode Y.2.1 pc = .ok (.ifCond .ne off, 3)) (ht : (pc : Int) + off = (tgt : Int)) (hc : ¬ x = 0) (kk : Run Y d X tgt lv st h r h') : Run Y d X pc lv (.int x :: st) h r h' := by
  intro p l e R s m args below meth c A cells slots Q C0 c1 c2 K H locs ls hI hl
  exact lv_if_ne C0.1.1 C0.1.2.1 hdg ht (fun _ => (kk p l e R s m args below meth c A cells slots Q C0 c1 c2 K H locs ls hI hl)) (fun q => absurd q hc)
theorem r_icmp_ne_t {x y : Int32} {off : Int} (tgt : Nat) (hdg : decode Y.2.1 pc = .ok (.if_icmp .ne off, 3)) (ht : (pc : Int) + off = (tgt : Int)) (hc : x = y) (kk : Run Y d X (pc + 3) lv st h r h') : Run Y d X pc lv (.int y :: .int x :: st) h r h' := by
  intro p l e R s m args below meth c A cells slots Q C0 c1 c2 K H locs ls hI hl
  exact lv_icmp_ne C0.1.1 C0.1.2.1 hdg ht (fun q => absurd hc q) (fun _ => (kk p l e R s m args below meth c A cells slots Q C0 c1 c2 K H locs ls hI hl))
theorem r_icmp_ne_f {x y : Int32} {off : Int} (tgt : Nat) (hdg : decode Y.2.1 pc = .ok (.if_icmp .ne off, 3)) (ht : (pc : Int) + off = (tgt : Int)) (hc : ¬ x = y) (kk : Run Y d X tgt lv st h r h') : Run Y d X pc lv (.int y :: .int x :: st) h r h' := by
  intro p l e R s m args below meth c A cells slots Q C0 c1 c2 K H locs ls hI hl
  exact lv_icmp_ne C0.1.1 C0.1.2.1 hdg ht (fun _ => (kk p l e R s m args below meth c A cells slots Q C0 c1 c2 K H locs ls hI hl)) (fun q => absurd q hc)
theorem r_if_lt_t {x : Int32} {off : Int} (tgt : Nat) (hdg : decode Y.2.1 pc = .ok (.ifCond .lt off, 3)) (ht : (pc : Int) + off = (tgt : Int)) (hc : x < 0) (kk : Run Y d X tgt lv st h r h') : Run Y d X pc lv (.int x :: st) h r h' := by
  intro p l e R s m args below meth c A cells slots Q C0 c1 c2 K H locs ls hI hl
  exact lv_if_lt C0.1.1 C0.1.2.1 hdg ht (fun _ => (kk p l e R s m args below meth c A cells slots Q C0 c1 c2 K H locs ls hI hl)) (fun q => absurd hc q)
theorem r_if_lt_f {x : Int32} {off : Int} (tgt : Nat) (hdg : decode Y.2.1 pc = .ok (.ifCond .lt off, 3)) (ht : (pc : Int) + off = (tgt : Int)) (hc : ¬ x < 0) (kk : Run Y d X (pc + 3) lv st h r h') : Run Y d X pc lv (.int x :: st) h r h' := by
  intro p l e R s m args below meth c A cells slots Q C0 c1 c2 K H locs ls hI hl
  exact lv_if_lt C0.1.1 C0.1.2.1 hdg ht (fun q => absurd q hc) (fun _ => (kk p l e R s m args below meth c A cells slots Q C0 c1 c2 K H locs ls hI hl))
theorem r_icmp_lt_t {x y : Int32} {off : Int} (tgt : Nat) (hdg : decode Y.2.1 pc = .ok (.if_icmp .lt off, 3)) (ht : (pc : Int) + off = (tgt : Int)) (hc : x < y) (kk : Run Y d X tgt lv st h r h') : Run Y d X pc lv (.int y :: .int x :: st) h r h' := by
  intro p l e R s m args below meth c A cells slots Q C0 c1 c2 K H locs ls hI hl
  exact lv_icmp_lt C0.1.1 C0.1.2.1 hdg ht (fun _ => (kk p l e R s m args below meth c A cells slots Q C0 c1 c2 K H locs ls hI hl)) (fun q => absurd hc q)
theorem r_icmp_lt_f {x y : Int32} {off : Int} (tgt : Nat) (hdg : decode Y.2.1 pc = .ok (.if_icmp .lt off, 3)) (ht : (pc : Int) + off = (tgt : Int)) (hc : ¬ x < y) (kk : Run Y d X (pc + 3) lv st h r h') : Run Y d X pc lv (.int y :: .int x :: st) h r h' := by
  intro p l e R s m args below meth c A cells slots Q C0 c1 c2 K H locs ls hI hl
  exact lv_icmp_lt C0.1.1 C0.1.2.1 hdg ht (fun q => absurd q hc) (fun _ => (kk p l e R s m args below meth c A cells slots Q C0 c1 c2 K H locs ls hI hl))
theorem r_if_ge_t {x : Int32} {off : Int} (tgt : Nat) (hdg : decode Y.2.1 pc = .ok (.ifCond .ge off, 3)) (ht : (pc : Int) + off = (tgt : Int)) (hc : 0 ≤ x) (kk : Run Y d X tgt lv st h r h') : Run Y d X pc lv (.int x :: st) h r h' := by
  intro p l e R s m args below meth c A cells slots Q C0 c1 c2 K H locs ls hI hl
  exact lv_if_ge C0.1.1 C0.1.2.1 hdg ht (fun _ => (kk p l e R s m args below meth c A cells slots Q C0 c1 c2 K H locs ls hI hl)) (fun q => absurd hc q)
theorem r_if_ge_f {x : Int32} {off : Int} (tgt : Nat) (hdg : decode Y.2.1 pc = .ok (.ifCond .ge off, 3)) (ht : (pc : Int) + off = (tgt : Int)) (hc : ¬ 0 ≤ x) (kk : Run Y d X (pc + 3) lv st h r h') : Run Y d X pc lv (.int x :: st) h r h' := by
  intro p l e R s m args below meth c A cells slots Q C0 c1 c2 K H locs ls hI hl
  exact lv_if_ge C0.1.1 C0.1.2.1 hdg ht (fun q => absurd q hc) (fun _ => (kk p l e R s m args below meth c A cells slots Q C0 c1 c2 K H locs ls hI hl))
theorem r_icmp_ge_t {x y : Int32} {off : Int} (tgt : Nat) (hdg : decode Y.2.1 pc = .ok (.if_icmp .ge off, 3)) (ht : (pc : Int) + off = (tgt : Int)) (hc : y ≤ x) (kk : Run Y d X tgt lv st h r h') : Run Y d X pc lv (.int y :: .int x :: st) h r h' := by
  intro p l e R s m args below meth c A cells slots Q C0 c1 c2 K H locs ls hI hl
  exact lv_icmp_ge C0.1.1 C0.1.2.1 hdg ht (fun _ => (kk p l e R s m args below meth c A cells slots Q C0 c1 c2 K H locs ls hI hl)) (fun q => absurd hc q)
theorem r_icmp_ge_f {x y : Int32} {off : Int} (tgt : Nat) (hdg : decode Y.2.1 pc = .ok (.if_icmp .ge off, 3)) (ht : (pc : Int) + off = (tgt : Int)) (hc : ¬ y ≤ x) (kk : Run Y d X (pc + 3) lv st h r h') : Run Y d X pc lv (.int y :: .int x :: st) h r h' := by
  intro p l e R s m args below meth c A cells slots Q C0 c1 c2 K H locs ls hI hl
  exact lv_icmp_ge C0.1.1 C0.1.2.1 hdg ht (fun q => absurd q hc) (fun _ => (kk p l e R s m args below meth c A cells slots Q C0 c1 c2 K H locs ls hI hl))
theorem r_if_gt_t {x : Int32} {off : Int} (tgt : Nat) (hdg : decode Y.2.1 pc = .ok (.ifCond .gt off, 3)) (ht : (pc : Int) + off = (tgt : Int)) (hc : 0 < x) (kk : Run Y d X tgt lv st h r h') : Run Y d X pc lv (.int x :: st) h r h' := by
  intro p l e R s m args below meth c A cells slots Q C0 c1 c2 K H locs ls hI hl
  exact lv_if_gt C0.1.1 C0.1.2.1 hdg ht (fun _ => (kk p l e R s m args below meth c A cells slots Q C0 c1 c2 K H locs ls hI hl)) (fun q => absurd hc q)
theorem r_if_gt_f {x : Int32} {off : Int} (tgt : Nat) (hdg : decode Y.2.1 pc = .ok (.ifCond .gt off, 3)) (ht : (pc : Int) + off = (tgt : Int)) (hc : ¬ 0 < x) (kk : Run Y d X (pc + 3) lv st h r h') : Run Y d X pc lv (.int x :: st) h r h' := by
  intro p l e R s m args below meth c A cells slots Q C0 c1 c2 K H locs ls hI hl
  exact lv_if_gt C0.1.1 C0.1.2.1 hdg ht (fun q => absurd q hc) (fun _ => (kk p l e R s m args below meth c A cells slots Q C0 c1 c2 K H locs ls hI hl))
theorem r_icmp_gt_t {x y : Int32} {off : Int} (tgt : Nat) (hdg : decode Y.2.1 pc = .ok (.if_icmp .gt off, 3)) (ht : (pc : Int) + off = (tgt : Int)) (hc : y < x) (kk : Run Y d X tgt lv st h r h') : Run Y d X pc lv (.int y :: .int x :: st) h r h' := by
  intro p l e R s m args below meth c A cells slots Q C0 c1 c2 K H locs ls hI hl
  exact lv_icmp_gt C0.1.1 C0.1.2.1 hdg ht (fun _ => (kk p l e R s m args below meth c A cells slots Q C0 c1 c2 K H locs ls hI hl)) (fun q => absurd hc q)
theorem r_icmp_gt_f {x y : Int32} {off : Int} (tgt : Nat) (hdg : decode Y.2.1 pc = .ok (.if_icmp .gt off, 3)) (ht : (pc : Int) + off = (tgt : Int)) (hc : ¬ y < x) (kk : Run Y d X (pc + 3) lv st h r h') : Run Y d X pc lv (.int y :: .int x :: st) h r h' := by
  intro p l e R s m args below meth c A cells slots Q C0 c1 c2 K H locs ls hI hl
  exact lv_icmp_gt C0.1.1 C0.1.2.1 hdg ht (fun q => absurd q hc) (fun _ => (kk p l e R s m args below meth c A cells slots Q C0 c1 c2 K H locs ls hI hl))
theorem r_if_le_t {x : Int32} {off : Int} (tgt : Nat) (hdg : decode Y.2.1 pc = .ok (.ifCond .le off, 3)) (ht : (pc : Int) + off = (tgt : Int)) (hc : x ≤ 0) (kk : Run Y d X tgt lv st h r h') : Run Y d X pc lv (.int x :: st) h r h' := by
  intro p l e R s m args below meth c A cells slots Q C0 c1 c2 K H locs ls hI hl
  exact lv_if_le C0.1.1 C0.1.2.1 hdg ht (fun _ => (kk p l e R s m args below meth c A cells slots Q C0 c1 c2 K H locs ls hI hl)) (fun q => absurd hc q)
theorem r_if_le_f {x : Int32} {off : Int} (tgt : Nat) (hdg : decode Y.2.1 pc = .ok (.ifCond .le off, 3)) (ht : (pc : Int) + off = (tgt : Int)) (hc : ¬ x ≤ 0) (kk : Run Y d X (pc + 3) lv st h r h') : Run Y d X pc lv (.int x :: st) h r h' := by
  intro p l e R s m args below meth c A cells slots Q C0 c1 c2 K H locs ls hI hl
  exact lv_if_le C0.1.1 C0.1.2.1 hdg ht (fun q => absurd q hc) (fun _ => (kk p l e R s m args below meth c A cells slots Q C0 c1 c2 K H locs ls hI hl))
theorem r_icmp_le_t {x y : Int32} {off : Int} (tgt : Nat) (hdg : decode Y.2.1 pc = .ok (.if_icmp .le off, 3)) (ht : (pc : Int) + off = (tgt : Int)) (hc : x ≤ y) (kk : Run Y d X tgt lv st h r h') : Run Y d X pc lv (.int y :: .int x :: st) h r h' := by
  intro p l e R s m args below meth c A cells slots Q C0 c1 c2 K H locs ls hI hl
  exact lv_icmp_le C0.1.1 C0.1.2.1 hdg ht (fun _ => (kk p l e R s m args below meth c A cells slots Q C0 c1 c2 K H locs ls hI hl)) (fun q => absurd hc q)
theorem r_icmp_le_f {x y : Int32} {off : Int} (tgt : Nat) (hdg : decode Y.2.1 pc = .ok (.if_icmp .le off, 3)) (ht : (pc : Int) + off = (tgt : Int)) (hc : ¬ x ≤ y) (kk : Run Y d X (pc + 3) lv st h r h') : Run Y d X pc lv (.int y :: .int x :: st) h r h' := by
  intro p l e R s m args below meth c A cells slots Q C0 c1 c2 K H locs ls hI hl
  exact lv_icmp_le C0.1.1 C0.1.2.1 hdg ht (fun q => absurd q hc) (fun _ => (kk p l e R s m args below meth c A cells slots Q C0 c1 c2 K H locs ls hI hl))
theorem tsw_o {x : Int32} (lo : Int) (n : Nat) (h : ∀ k, k < n → x.toInt ≠ lo + (k : Int)) : x.toInt < lo ∨ lo + (n : Int) - 1 < x.toInt := by
  by_cases q : x.toInt < lo
  · exact Or.inl q
  · by_cases q2 : lo + (n : Int) - 1 < x.toInt
    · exact Or.inr q2
    · exact absurd (show x.toInt = lo + (((x.toInt - lo).toNat : Nat) : Int) by omega) (h (x.toInt - lo).toNat (by omega))
theorem ne_int {x v : Int32} (h : ¬ x = v) : x.toInt ≠ v.toInt := fun e => h (Int32.toInt_inj.mp e)
theorem r_tsw_in {dflt lo hi : Int} {offs : Array Int} {len : Nat} {x v : Int32} {off : Int} (tgt : Nat) (hdg : decode Y.2.1 pc = .ok (.tableswitch dflt lo hi offs, len)) (hc : x = v) (hv1 : ¬ v.toInt < lo) (hv2 : ¬ hi < v.toInt) (ho : offs[(v.toInt - lo).toNat]? = some off) (ht : (pc : Int) + off = (tgt : Int)) (kk : Run Y d X tgt lv st h r h') : Run Y d X pc lv (.int x :: st) h r h' := by
  intro p l e R s m args below meth c A cells slots Q C0 c1 c2 K H locs ls hI hl
  subst hc
  exact lv_tableIn C0.1.1 C0.1.2.1 hdg hv1 hv2 ho ht (kk p l e R s m args below meth c A cells slots Q C0 c1 c2 K H locs ls hI hl)
theorem r_tsw_out {dflt lo hi : Int} {offs : Array Int} {len : Nat} {x : Int32} (tgt : Nat) (hdg : decode Y.2.1 pc = .ok (.tableswitch dflt lo hi offs, len)) (hx : x.toInt < lo ∨ hi < x.toInt) (ht : (pc : Int) + dflt = (tgt : Int)) (kk : Run Y d X tgt lv st h r h') : Run Y d X pc lv (.int x :: st) h r h' := by
  intro p l e R s m args below meth c A cells slots Q C0 c1 c2 K H locs ls hI hl
  exact lv_tableOut C0.1.1 C0.1.2.1 hdg hx ht (kk p l e R s m args below meth c A cells slots Q C0 c1 c2 K H locs ls hI hl)
theorem r_lsw {dflt : Int} {ps : Array (Int × Int)} {len : Nat} {x : Int32} {off : Int} (tgt : Nat) (hdg : decode Y.2.1 pc = .ok (.lookupswitch dflt ps, len)) (hp : (ps.toList.zip (ps.toList.drop 1)).all (fun (a, next) => a.1 < next.1) = true) (ho : Op.lookupswitch.offset ps.toList dflt x.toInt = off) (ht : (pc : Int) + off = (tgt : Int)) (kk : Run Y d X tgt lv st h r h') : Run Y d X pc lv (.int x :: st) h r h' := by
  intro p l e R s m args below meth c A cells slots Q C0 c1 c2 K H locs ls hI hl
  exact lv_lookup C0.1.1 C0.1.2.1 hdg hp ho ht (kk p l e R s m args below meth c A cells slots Q C0 c1 c2 K H locs ls hI hl)
theorem r_top {x y : Int32} (e : y = x) (kk : Run Y d X pc lv (.int y :: st) h r h') : Run Y d X pc lv (.int x :: st) h r h' := e ▸ kk
theorem r_topl {x y : Int64} (e : y = x) (kk : Run Y d X pc lv (.long y :: st) h r h') : Run Y d X pc lv (.long x :: st) h r h' := e ▸ kk
theorem r_heap (e : h1 = h) (kk : Run Y d X pc lv st h1 r h') : Run Y d X pc lv st h r h' := e ▸ kk
theorem r_iret {v : Int32} (hdg : decode Y.2.1 pc = .ok (.ireturn, 1)) : Run Y d X pc lv [.int v] h (some (.int v)) h := by
  intro p l e R s m args below meth c A cells slots Q C0 c1 c2 K H locs ls hI hl
  exact K H locs ls pc _ hdg (Or.inl ⟨rfl, v, rfl⟩) hI
theorem r_lret {v : Int64} (hdg : decode Y.2.1 pc = .ok (.lreturn, 1)) : Run Y d X pc lv [.long v] h (some (.long v)) h := by
  intro p l e R s m args below meth c A cells slots Q C0 c1 c2 K H locs ls hI hl
  exact K H locs ls pc _ hdg (Or.inr (Or.inl ⟨rfl, v, rfl⟩)) hI
theorem r_vret (hdg : decode Y.2.1 pc = .ok (.return_, 1)) : Run Y d X pc lv [] h none h := by
  intro p l e R s m args below meth c A cells slots Q C0 c1 c2 K H locs ls hI hl
  exact K H locs ls pc _ hdg (Or.inr (Or.inr ⟨rfl, rfl⟩)) hI
end RR
theorem si_row (h : HP) (k j : Nat) (v : Int32) : (si h k j v).1 k = upd (h.1 k) j v := by funext a; simp [si, va_up, upd]
theorem sl_row (h : HP) (k j : Nat) (v : Int64) : (sl h k j v).2.1 k = vp_updL (h.2.1 k) j v := by funext a; simp [sl, va_up, vp_updL]
/-- a field of ours, as an instruction of the class own names it -/
def FL (own : String) (idx ci j : Nat) : Prop := ∃ C T N, CL[ci]? = some (C, T, N) ∧ j < N ∧ (T j).1 = C ∧ Cond.fieldLink own idx C (T j).2.1 (T j).2.2.1 ∈ TBL ∧ (∀ w ∈ u_ws C T N, w ∈ TBL)
def FW (own : String) (idx ci j : Nat) (ty : FieldType) : Prop := ∃ C T N, CL[ci]? = some (C, T, N) ∧ j < N ∧ (T j).1 = C ∧ Cond.fieldLink own idx C (T j).2.1 (T j).2.2.1 ∈ TBL ∧ (∀ w ∈ u_ws C T N, w ∈ TBL) ∧ (∃ ty0 : Nat → FieldType, ∀ k, k < N → parseFieldDescriptor (T k).2.2.1 = some (ty0 k)) ∧ (∀ a, a < N → ∀ b, b < N → a ≠ b → (T a).2.1 ≠ (T b).2.1) ∧ (T j).2.2.2 = false ∧ parseFieldDescriptor (T j).2.2.1 = some ty
theorem cell_obj (X : XE) (h : HP) (k ci : Nat) (ks : List Nat) : cellE X h k (0, ci, ks) = .inr (ci, ks.mapIdx (fun j t => fval X.1 h k ci j t)) := rfl
theorem cell_i (X : XE) (h : HP) (k n : Nat) (ks : List Nat) : cellE X h k (1, n, ks) = .inl (X.2.1 1, n, .inl (h.1 k)) := rfl
theorem cell_l (X : XE) (h : HP) (k n : Nat) (ks : List Nat) : cellE X h k (2, n, ks) = .inl (X.2.1 2, n, .inr (.inl (h.2.1 k))) := rfl
theorem cell_b (X : XE) (h : HP) (k n : Nat) (ks : List Nat) : cellE X h k (3, n, ks) = .inl (X.2.1 3, n, .inl (h.1 k)) := rfl
theorem cell_z (X : XE) (h : HP) (k n : Nat) (ks : List Nat) : cellE X h k (4, n, ks) = .inl (X.2.1 4, n, .inl (h.1 k)) := rfl
theorem fval_si {ad : Nat → Nat} {h : HP} {k j : Nat} {v : Int32} {k' ci j' t : Nat} (hne : ¬ (k' = k ∧ j' = j)) : fval ad (si h k j v) k' ci j' t = fval ad h k' ci j' t := by
  unfold fval si
  by_cases hk : k' = k
  · subst hk
    have hj : j' ≠ j := fun e => hne ⟨rfl, e⟩
    simp [va_up, hj]
  · simp [va_up, hk]
theorem fval_sr {ad : Nat → Nat} {h : HP} {k : Nat} {v : Option Nat} {k' ci j' t : Nat} (hne : k' ≠ k ∨ t ≠ 3 ∧ (t = 0 ∨ t = 2)) : fval ad (sr h k v) k' ci j' t = fval ad h k' ci j' t := by
  unfold fval sr
  rcases hne with hk | ⟨-, rfl | rfl⟩
  · simp [va_up, hk]
  · rfl
  · rfl
theorem cellE_si_ne {X : XE} {h : HP} {k j : Nat} {v : Int32} {k' : Nat} {c : SC} (hk : k' ≠ k) : cellE X (si h k j v) k' c = cellE X h k' c := by
  have e1 : (si h k j v).1 k' = h.1 k' := by unfold si; simp [va_up, hk]
  have e2 : ∀ ci : Nat, (fun j' t => fval X.1 (si h k j v) k' ci j' t) = (fun j' t => fval X.1 h k' ci j' t) := fun ci => by
    funext j' t; exact fval_si (fun q => hk q.1)
  unfold cellE
  rw [e1, e2]
  rfl
theorem cellE_sl_ne {X : XE} {h : HP} {k j : Nat} {v : Int64} {k' : Nat} {c : SC} (hk : k' ≠ k) : cellE X (sl h k j v) k' c = cellE X h k' c := by
  have e1 : (sl h k j v).2.1 k' = h.2.1 k' := by unfold sl; simp [va_up, hk]
  unfold cellE
  rw [e1]
  rfl
theorem cellE_sr_ne {X : XE} {h : HP} {k : Nat} {v : Option Nat} {k' : Nat} {c : SC} (hk : k' ≠ k) : cellE X (sr h k v) k' c = cellE X h k' c := by
  have e2 : ∀ ci : Nat, (fun j' t => fval X.1 (sr h k v) k' ci j' t) = (fun j' t => fval X.1 h k' ci j' t) := fun ci => by
    funext j' t; exact fval_sr (Or.inl hk)
  unfold cellE
  rw [e2]
  rfl
theorem si_obj {X : XE} {h : HP} {k j ci : Nat} {ks : List Nat} {v : Int32} (hj : ks[j]? = some 0) : cellE X (si h k j v) k (0, ci, ks) = .inr (ci, (ks.mapIdx (fun j t => fval X.1 h k ci j t)).set j (.int v)) := by
  rw [cell_obj]
  congr 2
  apply List.ext_getElem?
  intro i
  rw [List.getElem?_set, List.getElem?_mapIdx, List.getElem?_mapIdx]
  by_cases hi : j = i
  · subst hi
    have hl := (List.getElem?_eq_some_iff.mp hj).1
    rw [if_pos rfl, if_pos (by simpa using hl), hj]
    simp [fval, si, va_up]
  · rw [if_neg hi]
    cases ks[i]? with
    | none => rfl
    | some t => exact congrArg some (fval_si (fun q => hi q.2.symm))
theorem sr_obj {X : XE} {h : HP} {k j ci : Nat} {ks : List Nat} {q : Nat} (hj : ks[j]? = some 3) (ho : ∀ i t, ks[i]? = some t → i ≠ j → t = 0 ∨ t = 2) : cellE X (sr h k (some q)) k (0, ci, ks) = .inr (ci, (ks.mapIdx (fun j t => fval X.1 h k ci j t)).set j (.ref (X.1 q))) := by
  rw [cell_obj]
  congr 2
  apply List.ext_getElem?
  intro i
  rw [List.getElem?_set, List.getElem?_mapIdx, List.getElem?_mapIdx]
  by_cases hi : j = i
  · subst hi
    have hl := (List.getElem?_eq_some_iff.mp hj).1
    rw [if_pos rfl, if_pos (by simpa using hl), hj]
    simp [fval, sr, va_up, va_rf]
  · rw [if_neg hi]
    cases ht : ks[i]? with
    | none => rfl
    | some t =>
      have h2 := ho i t ht (fun e => hi e.symm)
      exact congrArg some (fval_sr (Or.inr ⟨by rcases h2 with rfl | rfl <;> decide, h2⟩))
section RF
variable {Y : MD} {d : Nat} {X : XE} {pc : Nat} {lv : List (Nat × Value)} {st : List Value} {h h1 h2 h' : HP} {r : Option Value}
theorem r_geti {k ci idx j : Nat} {ks : List Nat} (hk : SH[k]? = some (0, ci, ks)) (hj : ks[j]? = some 0) (F : FL Y.1.cls idx ci j) (hdg : decode Y.2.1 pc = .ok (.getfield idx, 3)) (kk : Run Y d X (pc + 3) lv (.int (h.1 k j) :: st) h r h') : Run Y d X pc lv (.ref (X.1 k) :: st) h r h' := by
  intro p l e R s m args below meth c A cells slots Q C0 c1 c2 K H locs ls hI hl
  obtain ⟨C, T, N, g1, g2, g3, g4, g5⟩ := F
  exact va_get (ref := C) C0.1.1 C0.1.2.1 C0.1.2.2.2.2 g5 C0.1.2.2.2.1 C0.2.2.2.2.2 hI.1 k (wld_at X h hk) g1 j g2 (C0.1.2.2.2.2 _ g4) (by rw [g3]; exact fun _ h9 => h9) (v := .int (h.1 k j)) (by rw [List.getElem?_mapIdx, hj]; rfl) hdg (kk p l e R s m args below meth c A cells slots Q C0 c1 c2 K H locs ls hI hl)
theorem r_getr {k ci idx j : Nat} {ks : List Nat} {q : Nat} (hq : lr k ci j = q) (hk : SH[k]? = some (0, ci, ks)) (hj : ks[j]? = some 2) (F : FL Y.1.cls idx ci j) (hdg : decode Y.2.1 pc = .ok (.getfield idx, 3)) (kk : Run Y d X (pc + 3) lv (.ref (X.1 q) :: st) h r h') : Run Y d X pc lv (.ref (X.1 k) :: st) h r h' := by
  intro p l e R s m args below meth c A cells slots Q C0 c1 c2 K H locs ls hI hl
  obtain ⟨C, T, N, g1, g2, g3, g4, g5⟩ := F
  exact va_get (ref := C) C0.1.1 C0.1.2.1 C0.1.2.2.2.2 g5 C0.1.2.2.2.1 C0.2.2.2.2.2 hI.1 k (wld_at X h hk) g1 j g2 (C0.1.2.2.2.2 _ g4) (by rw [g3]; exact fun _ h9 => h9) (v := .ref (X.1 q)) (by rw [List.getElem?_mapIdx, hj]; subst hq; rfl) hdg (kk p l e R s m args below meth c A cells slots Q C0 c1 c2 K H locs ls hI hl)
theorem r_gets {k ci idx j : Nat} {ks : List Nat} {q : Nat} (hq : h.2.2 k = some q) (hk : SH[k]? = some (0, ci, ks)) (hj : ks[j]? = some 3) (F : FL Y.1.cls idx ci j) (hdg : decode Y.2.1 pc = .ok (.getfield idx, 3)) (kk : Run Y d X (pc + 3) lv (.ref (X.1 q) :: st) h r h') : Run Y d X pc lv (.ref (X.1 k) :: st) h r h' := by
  intro p l e R s m args below meth c A cells slots Q C0 c1 c2 K H locs ls hI hl
  obtain ⟨C, T, N, g1, g2, g3, g4, g5⟩ := F
  exact va_get (ref := C) C0.1.1 C0.1.2.1 C0.1.2.2.2.2 g5 C0.1.2.2.2.1 C0.2.2.2.2.2 hI.1 k (wld_at X h hk) g1 j g2 (C0.1.2.2.2.2 _ g4) (by rw [g3]; exact fun _ h9 => h9) (v := .ref (X.1 q)) (by rw [List.getElem?_mapIdx, hj]; simp [fval, hq, va_rf]) hdg (kk p l e R s m args below meth c A cells slots Q C0 c1 c2 K H locs ls hI hl)
theorem r_puti {k ci idx j : Nat} {ks : List Nat} {v : Int32} {ty : FieldType} (hk : SH[k]? = some (0, ci, ks)) (hj : ks[j]? = some 0) (F : FW Y.1.cls idx ci j ty) (hn : narrow ty (.int v) = .int v) (hf : fits ty (.int v) = true) (hdg : decode Y.2.1 pc = .ok (.putfield idx, 3)) (kk : Run Y d X (pc + 3) lv st (si h k j v) r h') : Run Y d X pc lv (.int v :: .ref (X.1 k) :: st) h r h' := by
  intro p l e9 R s m args below meth c A cells slots Q C0 c1 c2 K H locs ls hI hl
  obtain ⟨C, T, N, g1, g2, g3, g4, g5, ⟨ty0, g6⟩, g7, g8, g9⟩ := F
  refine va_put (ref := C) C0.1.1 C0.1.2.1 C0.1.2.2.2.2 g5 ty0 g6 g7 C0.1.2.2.2.1 C0.2.2.2.2.2 hI.1 hI.2.1 hI.2.2 k (wld_at X h hk) g1 j g2 (C0.1.2.2.2.2 _ g4) (by rw [g3]; exact fun _ h9 => h9) g8 g9 hn hf (by simpa using (List.getElem?_eq_some_iff.mp hj).1) hdg (fun H1 locs1 hP hD hS => ?_)
  have e := wld_set X h (si h k j v) hk (si_obj hj) (fun j' c' _ hne => cellE_si_ne hne)
  rw [e] at hP hD
  exact kk p l e9 R s m args below meth c A cells slots Q C0 c1 c2 K H1 locs1 ls ⟨hP, hD, hS⟩ hl
theorem r_puts {k ci idx j q : Nat} {ks : List Nat} {ty : FieldType} (hk : SH[k]? = some (0, ci, ks)) (hj : ks[j]? = some 3) (ho : ∀ i t, ks[i]? = some t → i ≠ j → t = 0 ∨ t = 2) (F : FW Y.1.cls idx ci j ty) (hn : narrow ty (.ref (X.1 q)) = .ref (X.1 q)) (hf : fits ty (.ref (X.1 q)) = true) (hdg : decode Y.2.1 pc = .ok (.putfield idx, 3)) (kk : Run Y d X (pc + 3) lv st (sr h k (some q)) r h') : Run Y d X pc lv (.ref (X.1 q) :: .ref (X.1 k) :: st) h r h' := by
  intro p l e9 R s m args below meth c A cells slots Q C0 c1 c2 K H locs ls hI hl
  obtain ⟨C, T, N, g1, g2, g3, g4, g5, ⟨ty0, g6⟩, g7, g8, g9⟩ := F
  refine va_put (ref := C) C0.1.1 C0.1.2.1 C0.1.2.2.2.2 g5 ty0 g6 g7 C0.1.2.2.2.1 C0.2.2.2.2.2 hI.1 hI.2.1 hI.2.2 k (wld_at X h hk) g1 j g2 (C0.1.2.2.2.2 _ g4) (by rw [g3]; exact fun _ h9 => h9) g8 g9 hn hf (by simpa using (List.getElem?_eq_some_iff.mp hj).1) hdg (fun H1 locs1 hP hD hS => ?_)
  have e := wld_set X h (sr h k (some q)) hk (sr_obj hj ho) (fun j' c' _ hne => cellE_sr_ne hne)
  rw [e] at hP hD
  exact kk p l e9 R s m args below meth c A cells slots Q C0 c1 c2 K H1 locs1 ls ⟨hP, hD, hS⟩ hl
theorem r_iald {k n : Nat} {ks : List Nat} {i : Int32} (hk : SH[k]? = some (1, n, ks)) (hb : vp_in i n) (hdg : decode Y.2.1 pc = .ok (.iaload, 1)) (kk : Run Y d X (pc + 1) lv (.int (h.1 k i.toNatClampNeg) :: st) h r h') : Run Y d X pc lv (.int i :: .ref (X.1 k) :: st) h r h' := by
  intro p l e R s m args below meth c A cells slots Q C0 c1 c2 K H locs ls hI hl
  exact va_iald C0.1.1 C0.1.2.1 C0.2.2.2.2.2 hI.1 k 0 (wld_at X h hk) rfl hb hdg (kk p l e R s m args below meth c A cells slots Q C0 c1 c2 K H locs ls hI hl)
theorem r_bald {k n : Nat} {ks : List Nat} {i : Int32} (hk : SH[k]? = some (3, n, ks)) (hb : vp_in i n) (hdg : decode Y.2.1 pc = .ok (.baload, 1)) (kk : Run Y d X (pc + 1) lv (.int (h.1 k i.toNatClampNeg) :: st) h r h') : Run Y d X pc lv (.int i :: .ref (X.1 k) :: st) h r h' := by
  intro p l e R s m args below meth c A cells slots Q C0 c1 c2 K H locs ls hI hl
  exact va_bald C0.1.1 C0.1.2.1 C0.2.2.2.2.2 hI.1 k 2 (wld_at X h hk) rfl hb hdg (kk p l e R s m args below meth c A cells slots Q C0 c1 c2 K H locs ls hI hl)
theorem r_zald {k n : Nat} {ks : List Nat} {i : Int32} (hk : SH[k]? = some (4, n, ks)) (hb : vp_in i n) (hdg : decode Y.2.1 pc = .ok (.baload, 1)) (kk : Run Y d X (pc + 1) lv (.int (h.1 k i.toNatClampNeg) :: st) h r h') : Run Y d X pc lv (.int i :: .ref (X.1 k) :: st) h r h' := by
  intro p l e R s m args below meth c A cells slots Q C0 c1 c2 K H locs ls hI hl
  exact va_zald C0.1.1 C0.1.2.1 C0.2.2.2.2.2 hI.1 k 3 (wld_at X h hk) rfl hb hdg (kk p l e R s m args below meth c A cells slots Q C0 c1 c2 K H locs ls hI hl)
theorem r_lald {k n : Nat} {ks : List Nat} {i : Int32} (hk : SH[k]? = some (2, n, ks)) (hb : vp_in i n) (hdg : decode Y.2.1 pc = .ok (.laload, 1)) (kk : Run Y d X (pc + 1) lv (.long (h.2.1 k i.toNatClampNeg) :: st) h r h') : Run Y d X pc lv (.int i :: .ref (X.1 k) :: st) h r h' := by
  intro p l e R s m args below meth c A cells slots Q C0 c1 c2 K H locs ls hI hl
  exact va_lald C0.1.1 C0.1.2.1 C0.2.2.2.2.2 hI.1 k 1 (wld_at X h hk) rfl hb hdg (kk p l e R s m args below meth c A cells slots Q C0 c1 c2 K H locs ls hI hl)
theorem r_iast {k n : Nat} {ks : List Nat} {i : Int32} {x : Int32} (hk : SH[k]? = some (1, n, ks)) (hb : vp_in i n) (hdg : decode Y.2.1 pc = .ok (.iastore, 1)) (kk : Run Y d X (pc + 1) lv st (si h k i.toNatClampNeg x) r h') : Run Y d X pc lv (.int x :: .int i :: .ref (X.1 k) :: st) h r h' := by
  intro p l e9 R s m args below meth c A cells slots Q C0 c1 c2 K H locs ls hI hl
  refine va_iast C0.1.1 C0.1.2.1 C0.2.2.2.2.2 hI.1 hI.2.1 hI.2.2 k 0 (wld_at X h hk) rfl hb hdg (fun H1 locs1 hP hD hS => ?_)
  have e := wld_set X h (si h k i.toNatClampNeg x) hk (by rw [cell_i, si_row]) (fun j' c' _ hne => cellE_si_ne hne)
  rw [e] at hP hD
  exact kk p l e9 R s m args below meth c A cells slots Q C0 c1 c2 K H1 locs1 ls ⟨hP, hD, hS⟩ hl
theorem r_bast {k n : Nat} {ks : List Nat} {i : Int32} {x : Int32} (hk : SH[k]? = some (3, n, ks)) (hb : vp_in i n) (hdg : decode Y.2.1 pc = .ok (.bastore, 1)) (kk : Run Y d X (pc + 1) lv st (si h k i.toNatClampNeg (vp_nar .byte x)) r h') : Run Y d X pc lv (.int x :: .int i :: .ref (X.1 k) :: st) h r h' := by
  intro p l e9 R s m args below meth c A cells slots Q C0 c1 c2 K H locs ls hI hl
  refine va_bast C0.1.1 C0.1.2.1 C0.2.2.2.2.2 hI.1 hI.2.1 hI.2.2 k 2 (wld_at X h hk) rfl hb hdg (fun H1 locs1 hP hD hS => ?_)
  have e := wld_set X h (si h k i.toNatClampNeg (vp_nar .byte x)) hk (by rw [cell_b, si_row]) (fun j' c' _ hne => cellE_si_ne hne)
  rw [e] at hP hD
  exact kk p l e9 R s m args below meth c A cells slots Q C0 c1 c2 K H1 locs1 ls ⟨hP, hD, hS⟩ hl
theorem r_zast {k n : Nat} {ks : List Nat} {i : Int32} {x : Int32} (hk : SH[k]? = some (4, n, ks)) (hb : vp_in i n) (hdg : decode Y.2.1 pc = .ok (.bastore, 1)) (kk : Run Y d X (pc + 1) lv st (si h k i.toNatClampNeg (vp_nar .boolean x)) r h') : Run Y d X pc lv (.int x :: .int i :: .ref (X.1 k) :: st) h r h' := by
  intro p l e9 R s m args below meth c A cells slots Q C0 c1 c2 K H locs ls hI hl
  refine va_zast C0.1.1 C0.1.2.1 C0.2.2.2.2.2 hI.1 hI.2.1 hI.2.2 k 3 (wld_at X h hk) rfl hb hdg (fun H1 locs1 hP hD hS => ?_)
  have e := wld_set X h (si h k i.toNatClampNeg (vp_nar .boolean x)) hk (by rw [cell_z, si_row]) (fun j' c' _ hne => cellE_si_ne hne)
  rw [e] at hP hD
  exact kk p l e9 R s m args below meth c A cells slots Q C0 c1 c2 K H1 locs1 ls ⟨hP, hD, hS⟩ hl
theorem r_last {k n : Nat} {ks : List Nat} {i : Int32} {x : Int64} (hk : SH[k]? = some (2, n, ks)) (hb : vp_in i n) (hdg : decode Y.2.1 pc = .ok (.lastore, 1)) (kk : Run Y d X (pc + 1) lv st (sl h k i.toNatClampNeg x) r h') : Run Y d X pc lv (.long x :: .int i :: .ref (X.1 k) :: st) h r h' := by
  intro p l e9 R s m args below meth c A cells slots Q C0 c1 c2 K H locs ls hI hl
  refine va_last C0.1.1 C0.1.2.1 C0.2.2.2.2.2 hI.1 hI.2.1 hI.2.2 k 1 (wld_at X h hk) rfl hb hdg (fun H1 locs1 hP hD hS => ?_)
  have e := wld_set X h (sl h k i.toNatClampNeg x) hk (by rw [cell_l, sl_row]) (fun j' c' _ hne => cellE_sl_ne hne)
  rw [e] at hP hD
  exact kk p l e9 R s m args below meth c A cells slots Q C0 c1 c2 K H1 locs1 ls ⟨hP, hD, hS⟩ hl
theorem r_aald {k n t q : Nat} {ks : List Nat} {i : Int32} (hk : SH[k]? = some (t, n, ks)) (ht : t = 5 ∨ t = 6) (hq : lra t i.toNatClampNeg = q) (hb : vp_in i n) (hdg : decode Y.2.1 pc = .ok (.aaload, 1)) (kk : Run Y d X (pc + 1) lv (.ref (X.1 q) :: st) h r h') : Run Y d X pc lv (.int i :: .ref (X.1 k) :: st) h r h' := by
  intro p l e R s m args below meth c A cells slots Q C0 c1 c2 K H locs ls hI hl
  subst hq
  rcases ht with rfl | rfl
  · exact va_aldq C0.1.1 C0.1.2.1 C0.2.2.2.2.2 hI.1 k 4 (wld_at X h hk) rfl hb hdg (kk p l e R s m args below meth c A cells slots Q C0 c1 c2 K H locs ls hI hl)
  · exact va_aldq C0.1.1 C0.1.2.1 C0.2.2.2.2.2 hI.1 k 5 (wld_at X h hk) rfl hb hdg (kk p l e R s m args below meth c A cells slots Q C0 c1 c2 K H locs ls hI hl)
theorem r_alen {k n : Nat} {ks : List Nat} {v : Int32} (hk : SH[k]? = some (1, n, ks)) (hv : Int32.ofNat n = v) (hdg : decode Y.2.1 pc = .ok (.arraylength, 1)) (kk : Run Y d X (pc + 1) lv (.int v :: st) h r h') : Run Y d X pc lv (.ref (X.1 k) :: st) h r h' := by
  intro p l e R s m args below meth c A cells slots Q C0 c1 c2 K H locs ls hI hl
  exact va_alen C0.1.1 C0.1.2.1 C0.2.2.2.2.2 hI.1 k 0 (wld_at X h hk) rfl hv hdg (kk p l e R s m args below meth c A cells slots Q C0 c1 c2 K H locs ls hI hl)
theorem r_slen {v : Int32} (hv : Int32.ofNat X.2.2.2.2.1 = v) (hdg : decode Y.2.1 pc = .ok (.arraylength, 1)) (kk : Run Y d X (pc + 1) lv (.int v :: st) h r h') : Run Y d X pc lv (.ref (X.2.2.2.1 6) :: st) h r h' := by
  intro p l e R s m args below meth c A cells slots Q C0 c1 c2 K H locs ls hI hl
  subst hv
  obtain ⟨-, -, ⟨x1, x2, x3⟩, -⟩ := C0.2.2.2.2.1
  exact va_slen C0.1.1 C0.1.2.1 x1 x2 x3 hI.2.2 hdg (kk p l e R s m args below meth c A cells slots Q C0 c1 c2 K H locs ls hI hl)
theorem r_sald {i : Int32} (hb : vp_in i X.2.2.2.2.1) (hdg : decode Y.2.1 pc = .ok (.iaload, 1)) (kk : Run Y d X (pc + 1) lv (.int (X.2.2.2.2.2 i.toNatClampNeg) :: st) h r h') : Run Y d X pc lv (.int i :: .ref (X.2.2.2.1 6) :: st) h r h' := by
  intro p l e R s m args below meth c A cells slots Q C0 c1 c2 K H locs ls hI hl
  obtain ⟨-, -, ⟨x1, x2, x3⟩, -⟩ := C0.2.2.2.2.1
  exact va_sld C0.1.1 C0.1.2.1 x1 x2 x3 hI.2.2 hb hdg (kk p l e R s m args below meth c A cells slots Q C0 c1 c2 K H locs ls hI hl)
theorem r_gka {index : Nat} (hw : Cond.fieldLink Y.1.cls index RX6 "KIND_ABOVE" "[I" ∈ TBL) (hdg : decode Y.2.1 pc = .ok (.getstatic index, 3)) (kk : Run Y d X (pc + 3) lv (.ref (X.2.2.2.1 0) :: st) h r h') : Run Y d X pc lv st h r h' := by
  intro p l e R s m args below meth c A cells slots Q C0 c1 c2 K H locs ls hI hl
  exact va_gets C0.1.1 C0.1.2.1 C0.2.2.2.2.1.1.1 hI.2.2 C0.1.2.2.2.1 (C0.1.2.2.2.2 _ hw) (fun _ h9 => h9) hdg (kk p l e R s m args below meth c A cells slots Q C0 c1 c2 K H locs ls hI hl)
theorem r_gkn (hY : Y.1.cls = RX0) (hdg : decode Y.2.1 pc = .ok (.getstatic 39, 3)) (kk : Run Y d X (pc + 3) lv (.ref (X.2.2.2.1 0) :: st) h r h') : Run Y d X pc lv st h r h' := by
  intro p l e R s m args below meth c A cells slots Q C0 c1 c2 K H locs ls hI hl
  exact va_getsN C0.1.1 C0.1.2.1 C0.2.2.2.2.1.1.1 hI.2.2 (by rw [← hY]; exact C0.1.2.2.2.1) (va_Nw.use rfl C0.2.2.2.2.1.2.2.2.2.2) (fun _ h9 => h9) hdg (kk p l e R s m args below meth c A cells slots Q C0 c1 c2 K H locs ls hI hl)
theorem r_gbo {index : Nat} (hw : Cond.fieldLink Y.1.cls index RX0 "BODIES" "[I" ∈ TBL) (hdg : decode Y.2.1 pc = .ok (.getstatic index, 3)) (kk : Run Y d X (pc + 3) lv (.ref (X.2.2.2.1 1) :: st) h r h') : Run Y d X pc lv st h r h' := by
  intro p l e R s m args below meth c A cells slots Q C0 c1 c2 K H locs ls hI hl
  exact va_gets C0.1.1 C0.1.2.1 C0.2.2.2.2.1.1.2.2.1 hI.2.2 C0.1.2.2.2.1 (C0.1.2.2.2.2 _ hw) (fun _ h9 => h9) hdg (kk p l e R s m args below meth c A cells slots Q C0 c1 c2 K H locs ls hI hl)
theorem r_ka {i : Int32} (hb : vp_in i 7) (hdg : decode Y.2.1 pc = .ok (.iaload, 1)) (kk : Run Y d X (pc + 1) lv (.int (([-1, 0, 0, 0, 1, 2, 3] : List Int32).getD i.toNatClampNeg 0) :: st) h r h') : Run Y d X pc lv (.int i :: .ref (X.2.2.2.1 0) :: st) h r h' := by
  intro p l e R s m args below meth c A cells slots Q C0 c1 c2 K H locs ls hI hl
  exact va_ti C0.1.1 C0.1.2.1 C0.2.2.2.2.1.1.2.1 hI.2.2 hb rfl hdg (kk p l e R s m args below meth c A cells slots Q C0 c1 c2 K H locs ls hI hl)
theorem r_bo {i : Int32} (hb : vp_in i 21) (hdg : decode Y.2.1 pc = .ok (.iaload, 1)) (kk : Run Y d X (pc + 1) lv (.int (([10, 11, 12, 0, 20, 0, 30, 0, 0, 0, 0, 40, 50, 51, 0, 0, 0, 60, 71, 70, 0] : List Int32).getD i.toNatClampNeg 0) :: st) h r h') : Run Y d X pc lv (.int i :: .ref (X.2.2.2.1 1) :: st) h r h' := by
  intro p l e R s m args below meth c A cells slots Q C0 c1 c2 K H locs ls hI hl
  exact va_ti C0.1.1 C0.1.2.1 C0.2.2.2.2.1.1.2.2.2 hI.2.2 hb rfl hdg (kk p l e R s m args below meth c A cells slots Q C0 c1 c2 K H locs ls hI hl)
theorem r_max {x y : Int32} {index : Nat} (hd : 1 ≤ d) (w1 : Cond.methodLink Y.1.cls index Lib.Math.max.name ∈ TBL) (w2 : Cond.static Lib.Math.max.name ∈ TBL) (w3 : Cond.initialized "java/lang/Math" ∈ TBL) (w4 : Cond.code Lib.Math.max.name Lib.Math.max.code 2 (some .int) ∈ TBL) (hcat : (st.map fun v => v.category).sum ≤ 8) (hdg : decode Y.2.1 pc = .ok (.invokestatic index, 3)) (kk : Run Y d X (pc + 3) lv (.int (if x < y then y else x) :: st) h r h') : Run Y d X pc lv (.int y :: .int x :: st) h r h' := by
  intro p l e R s m args below meth c A cells slots Q C0 c1 c2 K H locs ls hI hl
  exact va_mmax C0.1.1 C0.1.2.1 (by rw [C0.1.2.2.1]; exact hl.1.symm) C0.1.2.2.2.1 (C0.1.2.2.2.2 _ w1) (C0.1.2.2.2.2 _ w2) (C0.1.2.2.2.2 _ w3) (C0.1.2.2.2.2 _ w4) (Nat.le_trans hd C0.2.1) (by have := C0.2.2.1; omega) c1 c2 hdg (kk p l e R s m args below meth c A cells slots Q C0 c1 c2 K H locs ls hI hl)
theorem r_min {x y : Int32} {index : Nat} (hd : 1 ≤ d) (w1 : Cond.methodLink Y.1.cls index Lib.Math.min.name ∈ TBL) (w2 : Cond.static Lib.Math.min.name ∈ TBL) (w3 : Cond.initialized "java/lang/Math" ∈ TBL) (w4 : Cond.code Lib.Math.min.name Lib.Math.min.code 2 (some .int) ∈ TBL) (hcat : (st.map fun v => v.category).sum ≤ 8) (hdg : decode Y.2.1 pc = .ok (.invokestatic index, 3)) (kk : Run Y d X (pc + 3) lv (.int (if y < x then y else x) :: st) h r h') : Run Y d X pc lv (.int y :: .int x :: st) h r h' := by
  intro p l e R s m args below meth c A cells slots Q C0 c1 c2 K H locs ls hI hl
  exact va_mmin C0.1.1 C0.1.2.1 (by rw [C0.1.2.2.1]; exact hl.1.symm) C0.1.2.2.2.1 (C0.1.2.2.2.2 _ w1) (C0.1.2.2.2.2 _ w2) (C0.1.2.2.2.2 _ w3) (C0.1.2.2.2.2 _ w4) (Nat.le_trans hd C0.2.1) (by have := C0.2.2.1; omega) c1 c2 hdg (kk p l e R s m args below meth c A cells slots Q C0 c1 c2 K H locs ls hI hl)
theorem nfw : nativeFrameWords "java/lang/System" "arraycopy" 5 + 11 ≤ 40 := by decide +kernel
def cpk (i n : Int32) (k : Nat) : Bool := !(decide (i < 0)) && !(decide (n < 0)) && decide (i.toNatClampNeg + n.toNatClampNeg ≤ k)
theorem cpk_of {i n : Int32} {k : Nat} (h : cpk i n k = true) : ¬ i < 0 ∧ ¬ n < 0 ∧ i.toNatClampNeg + n.toNatClampNeg ≤ k := by simpa [cpk, and_assoc] using h
def ci (h : HP) (a b : Nat) (sp dp n : Int32) : HP := (va_up h.1 b (va_cpy (h.1 a) (h.1 b) sp.toNatClampNeg dp.toNatClampNeg n.toNatClampNeg), h.2)
def cl (h : HP) (a b : Nat) (sp dp n : Int32) : HP := (h.1, va_up h.2.1 b (va_cpy (h.2.1 a) (h.2.1 b) sp.toNatClampNeg dp.toNatClampNeg n.toNatClampNeg), h.2.2)
theorem ci_row (h : HP) (a b : Nat) (sp dp n : Int32) : (ci h a b sp dp n).1 b = va_cpy (h.1 a) (h.1 b) sp.toNatClampNeg dp.toNatClampNeg n.toNatClampNeg := by simp [ci, va_up]
theorem cl_row (h : HP) (a b : Nat) (sp dp n : Int32) : (cl h a b sp dp n).2.1 b = va_cpy (h.2.1 a) (h.2.1 b) sp.toNatClampNeg dp.toNatClampNeg n.toNatClampNeg := by simp [cl, va_up]
theorem r_copyi {a b na nb index : Nat} {ka kb : List Nat} {sp dp n : Int32} (hd : 1 ≤ d) (ha : SH[a]? = some (1, na, ka)) (hb : SH[b]? = some (1, nb, kb)) (g1 : cpk sp n na = true) (g2 : cpk dp n nb = true) (w1 : Cond.methodLink Y.1.cls index arraycopyName ∈ TBL) (w2 : Cond.native arraycopyName ∈ TBL) (w3 : Cond.static arraycopyName ∈ TBL) (w4 : Cond.initialized "java/lang/System" ∈ TBL) (hcat : (st.map fun v => v.category).sum ≤ 8) (hdg : decode Y.2.1 pc = .ok (.invokestatic index, 3)) (kk : Run Y d X (pc + 3) lv st (ci h a b sp dp n) r h') : Run Y d X pc lv (.int n :: .int dp :: .ref (X.1 b) :: .int sp :: .ref (X.1 a) :: st) h r h' := by
  intro p l e9 R s m args below meth c A cells slots Q C0 c1 c2 K H locs ls hI hl
  obtain ⟨a1, a2, a3⟩ := cpk_of g1
  obtain ⟨b1, -, b3⟩ := cpk_of g2
  refine va_copyi C0.1.1 C0.1.2.1 (by rw [C0.1.2.2.1]; exact hl.1.symm) C0.1.2.2.2.1 (C0.1.2.2.2.2 _ w1) (C0.1.2.2.2.2 _ w2) (C0.1.2.2.2.2 _ w3) (C0.1.2.2.2.2 _ w4) C0.2.2.2.2.2 hI.1 hI.2.1 hI.2.2 a b 0 0 (wld_at X h ha) (wld_at X h hb) rfl rfl rfl a1 b1 a2 a3 b3 (fun _ _ => rfl) (Nat.le_trans hd C0.2.1) (by have h9 := C0.2.2.1; have q := nfw; omega) hdg (fun H1 locs1 hP hD hS => ?_)
  have e := wld_set X h (ci h a b sp dp n) hb (by rw [cell_i, ci_row]) (fun j' c' _ hne => by unfold cellE fval ci; simp [va_up, hne])
  rw [e] at hP hD
  exact kk p l e9 R s m args below meth c A cells slots Q C0 c1 c2 K H1 locs1 ls ⟨hP, hD, hS⟩ hl
theorem r_copyl {a b na nb index : Nat} {ka kb : List Nat} {sp dp n : Int32} (hd : 1 ≤ d) (ha : SH[a]? = some (2, na, ka)) (hb : SH[b]? = some (2, nb, kb)) (g1 : cpk sp n na = true) (g2 : cpk dp n nb = true) (w1 : Cond.methodLink Y.1.cls index arraycopyName ∈ TBL) (w2 : Cond.native arraycopyName ∈ TBL) (w3 : Cond.static arraycopyName ∈ TBL) (w4 : Cond.initialized "java/lang/System" ∈ TBL) (hcat : (st.map fun v => v.category).sum ≤ 8) (hdg : decode Y.2.1 pc = .ok (.invokestatic index, 3)) (kk : Run Y d X (pc + 3) lv st (cl h a b sp dp n) r h') : Run Y d X pc lv (.int n :: .int dp :: .ref (X.1 b) :: .int sp :: .ref (X.1 a) :: st) h r h' := by
  intro p l e9 R s m args below meth c A cells slots Q C0 c1 c2 K H locs ls hI hl
  obtain ⟨a1, a2, a3⟩ := cpk_of g1
  obtain ⟨b1, -, b3⟩ := cpk_of g2
  refine va_copyl C0.1.1 C0.1.2.1 (by rw [C0.1.2.2.1]; exact hl.1.symm) C0.1.2.2.2.1 (C0.1.2.2.2.2 _ w1) (C0.1.2.2.2.2 _ w2) (C0.1.2.2.2.2 _ w3) (C0.1.2.2.2.2 _ w4) C0.2.2.2.2.2 hI.1 hI.2.1 hI.2.2 a b 1 1 (wld_at X h ha) (wld_at X h hb) rfl rfl rfl a1 b1 a2 a3 b3 (fun _ _ => rfl) (Nat.le_trans hd C0.2.1) (by have h9 := C0.2.2.1; have q := nfw; omega) hdg (fun H1 locs1 hP hD hS => ?_)
  have e := wld_set X h (cl h a b sp dp n) hb (by rw [cell_l, cl_row]) (fun j' c' _ hne => by unfold cellE fval cl; simp [va_up, hne])
  rw [e] at hP hD
  exact kk p l e9 R s m args below meth c A cells slots Q C0 c1 c2 K H1 locs1 ls ⟨hP, hD, hS⟩ hl
/-- how a call of Yc is linked from the class own: virtual; static -/
def CW (own : String) (idx n : Nat) (Yc : MD) : Prop := Cond.methodLink own idx Yc.1 ∈ TBL ∧ Cond.instanceMethod Yc.1 ∈ TBL ∧ Cond.selects Yc.1.cls Yc.1 Yc.1 ∈ TBL ∧ Cond.initialized Yc.1.cls ∈ TBL ∧ Cond.code Yc.1 Yc.2.1 Yc.2.2.1 Yc.2.2.2 ∈ TBL ∧ Yc.1.cls ≠ "java/lang/invoke/MethodHandle" ∧ Yc.1.cls ≠ "java/lang/invoke/VarHandle" ∧ (parseMethodDescriptor Yc.1.desc).map (fun d => d.parameters.length) = some n ∧ Yc.2.2.1 ≤ 30
def CSt (own : String) (idx n : Nat) (Yc : MD) : Prop := Cond.methodLink own idx Yc.1 ∈ TBL ∧ Cond.static Yc.1 ∈ TBL ∧ Cond.initialized Yc.1.cls ∈ TBL ∧ Cond.code Yc.1 Yc.2.1 Yc.2.2.1 Yc.2.2.2 ∈ TBL ∧ Yc.1.cls ≠ "java/lang/invoke/MethodHandle" ∧ Yc.1.cls ≠ "java/lang/invoke/VarHandle" ∧ (parseMethodDescriptor Yc.1.desc).map (fun d => d.parameters.length) = some n ∧ Yc.2.2.1 ≤ 30
theorem good_TBL {w : Cond} (h : w ∈ TBL) : w ∈ TBL ∧ ((w.onTables && w.keeps) = true ∨ ∃ ty, w = .arrayClass ty) := ⟨h, good_of_word (List.mem_filter.mp h).2⟩
theorem good_Y {Yc : MD} (h : Cond.code Yc.1 Yc.2.1 Yc.2.2.1 Yc.2.2.2 ∈ TBL) : GoodIn TBL (.code Yc.1 Yc.2.1 Yc.2.2.1 Yc.2.2.2 :: TBL) := fun w hw => by
  rcases List.mem_cons.mp hw with rfl | hw
  · exact good_TBL h
  · exact good_TBL hw
/-- what a callee needs of the state, from what the caller has -/
theorem call_pre {X : XE} {A : Nat → Prop} {s U : State} {H : Heap} {locs : List Loc} {h : HP} (hI : INV X A s H locs h) (hE : EX X A s s.heap) (hK : va_K X.2.2.1 CL (TY X) s) (hA : ∀ q, s.heap.size ≤ q → A q) (hU : U.heap = H) (hW : s.WarmedH U.vm) : U.heap.size = H.size ∧ va_P X.2.2.1 CL (wld X h) U.heap ∧ va_K X.2.2.1 CL (TY X) U ∧ va_D (fun _ => True) (wld X h) ∧ EX X (va_A (wld X h) H.size) U U.heap := by
  refine ⟨by rw [hU], by rw [hU]; exact hI.1, va_K.moved hW.alike hK, hI.2.1.weaken (fun _ _ _ _ => trivial), ?_⟩
  rw [hU]
  refine ((hE.kept hI.2.2.1 hI.2.2.2.1).narrow (B := va_A (wld X h) H.size) (fun q hq => ?_)).warm hW
  rcases hq with ⟨k, e, hk⟩ | hq
  · exact hI.2.1.2 k (q, e) hk
  · exact hA q (Nat.le_trans hI.2.2.1 hq)
theorem call_free {X : XE} {A : Nat → Prop} {s : State} {H : Heap} {locs : List Loc} {h : HP} (hI : INV X A s H locs h) (hA : ∀ q, s.heap.size ≤ q → A q) : ∀ q, va_A (wld X h) H.size q → A q := fun q hq => by
  rcases hq with ⟨k, e, hk⟩ | hq
  · exact hI.2.1.2 k (q, e) hk
  · exact hA q (Nat.le_trans hI.2.2.1 hq)
theorem r_callV {Yc : MD} {dc k ci idx n : Nat} {ks : List Nat} {As stk : List Value} {rc : Option Value} {T : u_T} {N : Nat} (hc : CC Yc dc X (.ref (X.1 k) :: As) h rc h1) (hd : dc + 1 ≤ d) (F : CW Y.1.cls idx n Yc) (hk : SH[k]? = some (0, ci, ks)) (hci : CL[ci]? = some (Yc.1.cls, T, N)) (hn : As.length = n) (hst : stk = As.reverse ++ .ref (X.1 k) :: st) (hcat : (st.map fun v => v.category).sum ≤ 8) (hdg : decode Y.2.1 pc = .ok (.invokevirtual idx, 3)) (kk : Run Y d X (pc + 3) lv (rc.toList ++ st) h1 r h') : Run Y d X pc lv stk h r h' := by
  intro p l e R s m args below meth c A cells slots Q C0 c1 c2 K H locs ls hI hl
  subst hst
  obtain ⟨f1, f2, f3, f4, f5, f6, f7, f8, f9⟩ := F
  have hts := C0.1.2.2.2.2
  have cw : CallW R s args Y.1.cls Yc.1.cls idx Yc.1 Yc.2.1 Yc.2.2.1 Yc.2.2.2 (.code Yc.1 Yc.2.1 Yc.2.2.1 Yc.2.2.2 :: TBL) ({ frames := dc, cells := 0, slots := 0, locals := 60 * dc }) 0 0 n :=
    ⟨callB_of n hts (good_Y f5) rfl rfl rfl (hts _ f4) (hts _ f1) ⟨f6, f7, f8⟩ ⟨by have := C0.2.1; show dc + 1 ≤ R.frames; omega, by have := C0.2.2.1; show 8 + (Yc.2.2.1 + 11) + 60 * dc ≤ R.locals; omega⟩, hts _ f2, hts _ f3⟩
  refine va_callg (va_runV (As := As) (rest := st) ⟨C0.1.1, C0.1.2.1, C0.1.2.2.1, C0.1.2.2.2.1, hts⟩ (hc l H.size) cw ⟨fun a U g mk q => by
      obtain ⟨q0, q1, q2, q3, q4, q5⟩ := q
      exact ⟨q0, q1, q2, va_K.moved (u := U) (U := U.calling g mk a) (Vm.Alike.refl U.vm) q3, q4, EX.same rfl q5⟩, va_recv C0.2.2.2.2.2 hI.1 hci (wld_at X h hk), fun U hU hW => ⟨rfl, call_pre hI C0.2.2.2.2.1 C0.2.2.2.2.2 C0.2.2.2.1 hU hW⟩⟩ rfl hn hl.1 rfl (lv_room hcat) hdg ⟨c1, c2⟩) hI.2.2 (fun q _ hq => call_free hI C0.2.2.2.1 q hq) (call_free hI C0.2.2.2.1) (fun t H1 locs1 ht hB _ _ hS => ?_)
  rw [ht] at hB
  exact kk p l e R s m args below meth c A cells slots Q C0 c1 c2 K H1 locs1 ls ⟨hB, wld_D hI.2.1, hS⟩ hl
theorem r_callS {Yc : MD} {dc idx n : Nat} {As stk : List Value} {rc : Option Value} (hc : CC Yc dc X As h rc h1) (hd : dc + 1 ≤ d) (F : CSt Y.1.cls idx n Yc) (hn : As.length = n) (hst : stk = As.reverse ++ st) (hcat : (st.map fun v => v.category).sum ≤ 8) (hdg : decode Y.2.1 pc = .ok (.invokestatic idx, 3)) (kk : Run Y d X (pc + 3) lv (rc.toList ++ st) h1 r h') : Run Y d X pc lv stk h r h' := by
  intro p l e R s m args below meth c A cells slots Q C0 c1 c2 K H locs ls hI hl
  subst hst
  obtain ⟨f1, f3, f4, f5, f6, f7, f8, f9⟩ := F
  have hts := C0.1.2.2.2.2
  have cw : CallB R s args Y.1.cls idx Yc.1 Yc.2.1 Yc.2.2.1 Yc.2.2.2 (.code Yc.1 Yc.2.1 Yc.2.2.1 Yc.2.2.2 :: TBL) ({ frames := dc, cells := 0, slots := 0, locals := 60 * dc }) 0 0 n ∧ (Cond.static Yc.1).before args s = true :=
    ⟨callB_of n hts (good_Y f5) rfl rfl rfl (hts _ f4) (hts _ f1) ⟨f6, f7, f8⟩ ⟨by have := C0.2.1; show dc + 1 ≤ R.frames; omega, by have := C0.2.2.1; show 8 + (Yc.2.2.1 + 11) + 60 * dc ≤ R.locals; omega⟩, hts _ f3⟩
  refine va_callg (va_runS (As := As) (rest := st) ⟨C0.1.1, C0.1.2.1, C0.1.2.2.1, C0.1.2.2.2.1, hts⟩ (hc l H.size) cw ⟨fun a U g mk q => by
      obtain ⟨q0, q1, q2, q3, q4, q5⟩ := q
      exact ⟨q0, q1, q2, va_K.moved (u := U) (U := U.calling g mk a) (Vm.Alike.refl U.vm) q3, q4, EX.same rfl q5⟩, fun U hU hW => ⟨rfl, call_pre hI C0.2.2.2.2.1 C0.2.2.2.2.2 C0.2.2.2.1 hU hW⟩⟩ rfl hn hl.1 rfl (lv_room hcat) hdg ⟨c1, c2⟩) hI.2.2 (fun q _ hq => call_free hI C0.2.2.2.1 q hq) (call_free hI C0.2.2.2.1) (fun t H1 locs1 ht hB _ _ hS => ?_)
  rw [ht] at hB
  exact kk p l e R s m args below meth c A cells slots Q C0 c1 c2 K H1 locs1 ls ⟨hB, wld_D hI.2.1, hS⟩ hl
end RF
def gd {β : Type} (b : Bool) (k : Option β) : Option β := if b = true then k else none
def lt {α β : Type} (x : α) (k : α → Option β) : Option β := k x
def bo {α β : Type} (x : Option α) (k : α → Option β) : Option β := match x with
  | some a => k a
  | none => none
def bd {α β : Type} (x : Option (α × HP)) (k : α → HP → Option β) : Option β := match x with
  | some (a, h) => k a h
  | none => none
theorem gd_so {β : Type} {b : Bool} {k : Option β} {y : β} (h : gd b k = some y) : b = true ∧ k = some y := by
  cases b with
  | false => cases h
  | true => exact ⟨rfl, h⟩
theorem lt_so {α β : Type} {x : α} {k : α → Option β} {y : β} (h : lt x k = some y) : ∃ z, z = x ∧ k z = some y := ⟨x, rfl, h⟩
theorem bo_so {α β : Type} {x : Option α} {k : α → Option β} {y : β} (h : bo x k = some y) : ∃ a, x = some a ∧ k a = some y := by
  cases x with
  | none => cases h
  | some a => exact ⟨a, rfl, h⟩
theorem bd_so {α β : Type} {x : Option (α × HP)} {k : α → HP → Option β} {y : β} (h : bd x k = some y) : ∃ a h1, x = some (a, h1) ∧ k a h1 = some y := by
  cases x with
  | none => cases h
  | some a => exact ⟨a.1, a.2, rfl, h⟩
theorem if_so {α : Type} {c : Prop} [Decidable c] {a b : Option α} {y : α} (h : (if c then a else b) = some y) : (c ∧ a = some y) ∨ (¬ c ∧ b = some y) := by
  by_cases hc : c
  · rw [if_pos hc] at h; exact Or.inl ⟨hc, h⟩
  · rw [if_neg hc] at h; exact Or.inr ⟨hc, h⟩
def inb (i : Int32) (n : Nat) : Bool := !(decide (i < 0)) && decide (i.toNatClampNeg < n)
theorem inb_vp {i : Int32} {n : Nat} (h : inb i n = true) : vp_in i n := by
  simp only [inb, Bool.and_eq_true, Bool.not_eq_true', decide_eq_false_iff_not, decide_eq_true_eq] at h
  intro q
  rcases q with q | q
  · exact h.1 q
  · omega
def nz (y : Int32) : Bool := !(decide (y = 0))
theorem nz_of {y : Int32} (h : nz y = true) : ¬ y = 0 := by simpa [nz] using h
def zok (v : Int32) : Bool := decide (v = 0) || decide (v = 1)
theorem zok_nar {v : Int32} (h : zok v = true) : narrow .boolean (.int v) = .int v := by
  simp only [zok, Bool.or_eq_true, decide_eq_true_eq] at h
  rcases h with rfl | rfl <;> rfl
def FU : Nat := 100000
end
