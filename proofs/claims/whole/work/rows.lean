section
-- ===== PART A: goes FIRST, ahead of the names: the tables' words, and 'selects' of the private methods out of them =====
/-- a private method of a class that the tables say can be made, by its rows of tables_1 -/
def lw_okq (q : MethodName × Nat) : Prop := (q.1.cls ≠ "java/lang/invoke/MethodHandle" ∧ q.1.cls ≠ "java/lang/invoke/VarHandle") ∧ Cond.instantiable q.1.cls q.2 ∈ tables_1 ∧ Cond.privateMethod q.1 ∈ tables_1 ∧ Cond.instanceMethod q.1 ∈ tables_1
theorem lw_p0 : lw_okq (⟨"MastLeft$Text", "readsClause", "()Z"⟩, 4) := ⟨⟨by decide +kernel, by decide +kernel⟩, List.mem_of_getElem? (i := 152) (by decide +kernel), List.mem_of_getElem? (i := 349) (by decide +kernel), List.mem_of_getElem? (i := 350) (by decide +kernel)⟩
theorem lw_p1 : lw_okq (⟨"MastLeft$Text", "takesWord", "()I"⟩, 4) := ⟨⟨by decide +kernel, by decide +kernel⟩, List.mem_of_getElem? (i := 152) (by decide +kernel), List.mem_of_getElem? (i := 353) (by decide +kernel), List.mem_of_getElem? (i := 354) (by decide +kernel)⟩
theorem lw_p2 : lw_okq (⟨"MastLeft$Text", "takes", "(I)Z"⟩, 4) := ⟨⟨by decide +kernel, by decide +kernel⟩, List.mem_of_getElem? (i := 152) (by decide +kernel), List.mem_of_getElem? (i := 399) (by decide +kernel), List.mem_of_getElem? (i := 400) (by decide +kernel)⟩
theorem lw_p3 : lw_okq (⟨"MastLeft$Text", "takesNumber", "()I"⟩, 4) := ⟨⟨by decide +kernel, by decide +kernel⟩, List.mem_of_getElem? (i := 152) (by decide +kernel), List.mem_of_getElem? (i := 403) (by decide +kernel), List.mem_of_getElem? (i := 404) (by decide +kernel)⟩
theorem lw_p4 : lw_okq (⟨"MastLeft$Text", "readsAny", "(I)Z"⟩, 4) := ⟨⟨by decide +kernel, by decide +kernel⟩, List.mem_of_getElem? (i := 152) (by decide +kernel), List.mem_of_getElem? (i := 407) (by decide +kernel), List.mem_of_getElem? (i := 408) (by decide +kernel)⟩
theorem lw_p5 : lw_okq (⟨"MastLeft$Text", "readsAll", "(I)Z"⟩, 4) := ⟨⟨by decide +kernel, by decide +kernel⟩, List.mem_of_getElem? (i := 152) (by decide +kernel), List.mem_of_getElem? (i := 411) (by decide +kernel), List.mem_of_getElem? (i := 412) (by decide +kernel)⟩
theorem lw_p6 : lw_okq (⟨"MastLeft$Text", "readsOne", "(I)Z"⟩, 4) := ⟨⟨by decide +kernel, by decide +kernel⟩, List.mem_of_getElem? (i := 152) (by decide +kernel), List.mem_of_getElem? (i := 415) (by decide +kernel), List.mem_of_getElem? (i := 416) (by decide +kernel)⟩
theorem lw_p7 : lw_okq (⟨"MastLeft", "bestRow", "(I)I"⟩, 15) := ⟨⟨by decide +kernel, by decide +kernel⟩, List.mem_of_getElem? (i := 17) (by decide +kernel), List.mem_of_getElem? (i := 558) (by decide +kernel), List.mem_of_getElem? (i := 559) (by decide +kernel)⟩
theorem lw_p8 : lw_okq (⟨"MastLeft", "worth", "(II)I"⟩, 15) := ⟨⟨by decide +kernel, by decide +kernel⟩, List.mem_of_getElem? (i := 17) (by decide +kernel), List.mem_of_getElem? (i := 562) (by decide +kernel), List.mem_of_getElem? (i := 563) (by decide +kernel)⟩
theorem lw_p9 : lw_okq (⟨"MastLeft", "fitting", "([IIII)I"⟩, 15) := ⟨⟨by decide +kernel, by decide +kernel⟩, List.mem_of_getElem? (i := 17) (by decide +kernel), List.mem_of_getElem? (i := 596) (by decide +kernel), List.mem_of_getElem? (i := 597) (by decide +kernel)⟩
theorem lw_p10 : lw_okq (⟨"MastLeft", "seenIsSo", "()Z"⟩, 15) := ⟨⟨by decide +kernel, by decide +kernel⟩, List.mem_of_getElem? (i := 17) (by decide +kernel), List.mem_of_getElem? (i := 600) (by decide +kernel), List.mem_of_getElem? (i := 601) (by decide +kernel)⟩
theorem lw_p11 : lw_okq (⟨"MastLeft", "followPlan", "(II)V"⟩, 15) := ⟨⟨by decide +kernel, by decide +kernel⟩, List.mem_of_getElem? (i := 17) (by decide +kernel), List.mem_of_getElem? (i := 629) (by decide +kernel), List.mem_of_getElem? (i := 630) (by decide +kernel)⟩
theorem lw_p12 : lw_okq (⟨"MastLeft$Acts", "run", "(IIII)I"⟩, 5) := ⟨⟨by decide +kernel, by decide +kernel⟩, List.mem_of_getElem? (i := 173) (by decide +kernel), List.mem_of_getElem? (i := 668) (by decide +kernel), List.mem_of_getElem? (i := 669) (by decide +kernel)⟩
theorem lw_p13 : lw_okq (⟨"MastLeftModel", "in", "(III)Z"⟩, 87) := ⟨⟨by decide +kernel, by decide +kernel⟩, List.mem_of_getElem? (i := 717) (by decide +kernel), List.mem_of_getElem? (i := 991) (by decide +kernel), List.mem_of_getElem? (i := 992) (by decide +kernel)⟩
theorem lw_p14 : lw_okq (⟨"MastLeftModel", "isPiece", "(I)Z"⟩, 87) := ⟨⟨by decide +kernel, by decide +kernel⟩, List.mem_of_getElem? (i := 717) (by decide +kernel), List.mem_of_getElem? (i := 999) (by decide +kernel), List.mem_of_getElem? (i := 1000) (by decide +kernel)⟩
theorem lw_p15 : lw_okq (⟨"MastLeftModel", "isFeet", "(I)Z"⟩, 87) := ⟨⟨by decide +kernel, by decide +kernel⟩, List.mem_of_getElem? (i := 717) (by decide +kernel), List.mem_of_getElem? (i := 1003) (by decide +kernel), List.mem_of_getElem? (i := 1004) (by decide +kernel)⟩
def lw_privs_1 : List (MethodName × Nat) := [(⟨"MastLeft$Text", "readsClause", "()Z"⟩, 4), (⟨"MastLeft$Text", "takesWord", "()I"⟩, 4), (⟨"MastLeft$Text", "takes", "(I)Z"⟩, 4), (⟨"MastLeft$Text", "takesNumber", "()I"⟩, 4), (⟨"MastLeft$Text", "readsAny", "(I)Z"⟩, 4), (⟨"MastLeft$Text", "readsAll", "(I)Z"⟩, 4), (⟨"MastLeft$Text", "readsOne", "(I)Z"⟩, 4), (⟨"MastLeft", "bestRow", "(I)I"⟩, 15), (⟨"MastLeft", "worth", "(II)I"⟩, 15), (⟨"MastLeft", "fitting", "([IIII)I"⟩, 15), (⟨"MastLeft", "seenIsSo", "()Z"⟩, 15), (⟨"MastLeft", "followPlan", "(II)V"⟩, 15), (⟨"MastLeft$Acts", "run", "(IIII)I"⟩, 5), (⟨"MastLeftModel", "in", "(III)Z"⟩, 87), (⟨"MastLeftModel", "isPiece", "(I)Z"⟩, 87), (⟨"MastLeftModel", "isFeet", "(I)Z"⟩, 87)]
theorem lw_r1 : ∀ q ∈ lw_privs_1, lw_okq q := List.forall_mem_cons.mpr ⟨lw_p0, List.forall_mem_cons.mpr ⟨lw_p1, List.forall_mem_cons.mpr ⟨lw_p2, List.forall_mem_cons.mpr ⟨lw_p3, List.forall_mem_cons.mpr ⟨lw_p4, List.forall_mem_cons.mpr ⟨lw_p5, List.forall_mem_cons.mpr ⟨lw_p6, List.forall_mem_cons.mpr ⟨lw_p7, List.forall_mem_cons.mpr ⟨lw_p8, List.forall_mem_cons.mpr ⟨lw_p9, List.forall_mem_cons.mpr ⟨lw_p10, List.forall_mem_cons.mpr ⟨lw_p11, List.forall_mem_cons.mpr ⟨lw_p12, List.forall_mem_cons.mpr ⟨lw_p13, List.forall_mem_cons.mpr ⟨lw_p14, List.forall_mem_cons.mpr ⟨lw_p15, fun _ h => absurd h List.not_mem_nil⟩⟩⟩⟩⟩⟩⟩⟩⟩⟩⟩⟩⟩⟩⟩⟩
theorem lw_p16 : lw_okq (⟨"MastLeftModel", "placeOf", "(I)I"⟩, 87) := ⟨⟨by decide +kernel, by decide +kernel⟩, List.mem_of_getElem? (i := 717) (by decide +kernel), List.mem_of_getElem? (i := 1015) (by decide +kernel), List.mem_of_getElem? (i := 1016) (by decide +kernel)⟩
theorem lw_p17 : lw_okq (⟨"MastLeftModel", "hoists", "(I)V"⟩, 87) := ⟨⟨by decide +kernel, by decide +kernel⟩, List.mem_of_getElem? (i := 717) (by decide +kernel), List.mem_of_getElem? (i := 1019) (by decide +kernel), List.mem_of_getElem? (i := 1020) (by decide +kernel)⟩
theorem lw_p18 : lw_okq (⟨"MastLeftModel", "isTrim", "(I)Z"⟩, 87) := ⟨⟨by decide +kernel, by decide +kernel⟩, List.mem_of_getElem? (i := 717) (by decide +kernel), List.mem_of_getElem? (i := 1031) (by decide +kernel), List.mem_of_getElem? (i := 1032) (by decide +kernel)⟩
theorem lw_p19 : lw_okq (⟨"MastLeftModel", "goesText", "(I)Z"⟩, 87) := ⟨⟨by decide +kernel, by decide +kernel⟩, List.mem_of_getElem? (i := 717) (by decide +kernel), List.mem_of_getElem? (i := 1043) (by decide +kernel), List.mem_of_getElem? (i := 1044) (by decide +kernel)⟩
theorem lw_p20 : lw_okq (⟨"MastLeftModel", "takesClause", "(I)Z"⟩, 87) := ⟨⟨by decide +kernel, by decide +kernel⟩, List.mem_of_getElem? (i := 717) (by decide +kernel), List.mem_of_getElem? (i := 1047) (by decide +kernel), List.mem_of_getElem? (i := 1048) (by decide +kernel)⟩
theorem lw_p21 : lw_okq (⟨"MastLeftModel", "takesHead", "(I)Z"⟩, 87) := ⟨⟨by decide +kernel, by decide +kernel⟩, List.mem_of_getElem? (i := 717) (by decide +kernel), List.mem_of_getElem? (i := 1051) (by decide +kernel), List.mem_of_getElem? (i := 1052) (by decide +kernel)⟩
theorem lw_p22 : lw_okq (⟨"MastLeftModel", "next", "()I"⟩, 87) := ⟨⟨by decide +kernel, by decide +kernel⟩, List.mem_of_getElem? (i := 717) (by decide +kernel), List.mem_of_getElem? (i := 1055) (by decide +kernel), List.mem_of_getElem? (i := 1056) (by decide +kernel)⟩
theorem lw_p23 : lw_okq (⟨"MastLeftModel", "takesWord", "(II)Z"⟩, 87) := ⟨⟨by decide +kernel, by decide +kernel⟩, List.mem_of_getElem? (i := 717) (by decide +kernel), List.mem_of_getElem? (i := 1059) (by decide +kernel), List.mem_of_getElem? (i := 1060) (by decide +kernel)⟩
theorem lw_p24 : lw_okq (⟨"MastLeftModel", "takes", "(I)Z"⟩, 87) := ⟨⟨by decide +kernel, by decide +kernel⟩, List.mem_of_getElem? (i := 717) (by decide +kernel), List.mem_of_getElem? (i := 1063) (by decide +kernel), List.mem_of_getElem? (i := 1064) (by decide +kernel)⟩
theorem lw_p25 : lw_okq (⟨"MastLeftModel", "second", "()I"⟩, 87) := ⟨⟨by decide +kernel, by decide +kernel⟩, List.mem_of_getElem? (i := 717) (by decide +kernel), List.mem_of_getElem? (i := 1067) (by decide +kernel), List.mem_of_getElem? (i := 1068) (by decide +kernel)⟩
theorem lw_p26 : lw_okq (⟨"MastLeftModel", "takesNumber", "()Z"⟩, 87) := ⟨⟨by decide +kernel, by decide +kernel⟩, List.mem_of_getElem? (i := 717) (by decide +kernel), List.mem_of_getElem? (i := 1071) (by decide +kernel), List.mem_of_getElem? (i := 1072) (by decide +kernel)⟩
theorem lw_p27 : lw_okq (⟨"MastLeftModel", "isDigit", "()Z"⟩, 87) := ⟨⟨by decide +kernel, by decide +kernel⟩, List.mem_of_getElem? (i := 717) (by decide +kernel), List.mem_of_getElem? (i := 1075) (by decide +kernel), List.mem_of_getElem? (i := 1076) (by decide +kernel)⟩
theorem lw_p28 : lw_okq (⟨"MastLeftModel", "takesE", "(I)Z"⟩, 87) := ⟨⟨by decide +kernel, by decide +kernel⟩, List.mem_of_getElem? (i := 717) (by decide +kernel), List.mem_of_getElem? (i := 1079) (by decide +kernel), List.mem_of_getElem? (i := 1080) (by decide +kernel)⟩
theorem lw_p29 : lw_okq (⟨"MastLeftModel", "takesTest", "()Z"⟩, 87) := ⟨⟨by decide +kernel, by decide +kernel⟩, List.mem_of_getElem? (i := 717) (by decide +kernel), List.mem_of_getElem? (i := 1083) (by decide +kernel), List.mem_of_getElem? (i := 1084) (by decide +kernel)⟩
theorem lw_p30 : lw_okq (⟨"MastLeftModel", "place", "(I)I"⟩, 87) := ⟨⟨by decide +kernel, by decide +kernel⟩, List.mem_of_getElem? (i := 717) (by decide +kernel), List.mem_of_getElem? (i := 1087) (by decide +kernel), List.mem_of_getElem? (i := 1088) (by decide +kernel)⟩
theorem lw_p31 : lw_okq (⟨"MastLeftModel", "emits", "(I)V"⟩, 87) := ⟨⟨by decide +kernel, by decide +kernel⟩, List.mem_of_getElem? (i := 717) (by decide +kernel), List.mem_of_getElem? (i := 1091) (by decide +kernel), List.mem_of_getElem? (i := 1092) (by decide +kernel)⟩
def lw_privs_2 : List (MethodName × Nat) := [(⟨"MastLeftModel", "placeOf", "(I)I"⟩, 87), (⟨"MastLeftModel", "hoists", "(I)V"⟩, 87), (⟨"MastLeftModel", "isTrim", "(I)Z"⟩, 87), (⟨"MastLeftModel", "goesText", "(I)Z"⟩, 87), (⟨"MastLeftModel", "takesClause", "(I)Z"⟩, 87), (⟨"MastLeftModel", "takesHead", "(I)Z"⟩, 87), (⟨"MastLeftModel", "next", "()I"⟩, 87), (⟨"MastLeftModel", "takesWord", "(II)Z"⟩, 87), (⟨"MastLeftModel", "takes", "(I)Z"⟩, 87), (⟨"MastLeftModel", "second", "()I"⟩, 87), (⟨"MastLeftModel", "takesNumber", "()Z"⟩, 87), (⟨"MastLeftModel", "isDigit", "()Z"⟩, 87), (⟨"MastLeftModel", "takesE", "(I)Z"⟩, 87), (⟨"MastLeftModel", "takesTest", "()Z"⟩, 87), (⟨"MastLeftModel", "place", "(I)I"⟩, 87), (⟨"MastLeftModel", "emits", "(I)V"⟩, 87)]
theorem lw_r2 : ∀ q ∈ lw_privs_2, lw_okq q := List.forall_mem_cons.mpr ⟨lw_p16, List.forall_mem_cons.mpr ⟨lw_p17, List.forall_mem_cons.mpr ⟨lw_p18, List.forall_mem_cons.mpr ⟨lw_p19, List.forall_mem_cons.mpr ⟨lw_p20, List.forall_mem_cons.mpr ⟨lw_p21, List.forall_mem_cons.mpr ⟨lw_p22, List.forall_mem_cons.mpr ⟨lw_p23, List.forall_mem_cons.mpr ⟨lw_p24, List.forall_mem_cons.mpr ⟨lw_p25, List.forall_mem_cons.mpr ⟨lw_p26, List.forall_mem_cons.mpr ⟨lw_p27, List.forall_mem_cons.mpr ⟨lw_p28, List.forall_mem_cons.mpr ⟨lw_p29, List.forall_mem_cons.mpr ⟨lw_p30, List.forall_mem_cons.mpr ⟨lw_p31, fun _ h => absurd h List.not_mem_nil⟩⟩⟩⟩⟩⟩⟩⟩⟩⟩⟩⟩⟩⟩⟩⟩
theorem lw_p32 : lw_okq (⟨"MastLeftModel", "whole", "()V"⟩, 87) := ⟨⟨by decide +kernel, by decide +kernel⟩, List.mem_of_getElem? (i := 717) (by decide +kernel), List.mem_of_getElem? (i := 1095) (by decide +kernel), List.mem_of_getElem? (i := 1096) (by decide +kernel)⟩
theorem lw_p33 : lw_okq (⟨"MastLeftModel", "settle", "(I)V"⟩, 87) := ⟨⟨by decide +kernel, by decide +kernel⟩, List.mem_of_getElem? (i := 717) (by decide +kernel), List.mem_of_getElem? (i := 1099) (by decide +kernel), List.mem_of_getElem? (i := 1100) (by decide +kernel)⟩
theorem lw_p34 : lw_okq (⟨"MastLeftModel", "heart", "(I)I"⟩, 87) := ⟨⟨by decide +kernel, by decide +kernel⟩, List.mem_of_getElem? (i := 717) (by decide +kernel), List.mem_of_getElem? (i := 1107) (by decide +kernel), List.mem_of_getElem? (i := 1108) (by decide +kernel)⟩
theorem lw_p35 : lw_okq (⟨"MastLeftModel", "begin", "()I"⟩, 87) := ⟨⟨by decide +kernel, by decide +kernel⟩, List.mem_of_getElem? (i := 717) (by decide +kernel), List.mem_of_getElem? (i := 1111) (by decide +kernel), List.mem_of_getElem? (i := 1112) (by decide +kernel)⟩
theorem lw_p36 : lw_okq (⟨"MastLeftModel", "behind", "()I"⟩, 87) := ⟨⟨by decide +kernel, by decide +kernel⟩, List.mem_of_getElem? (i := 717) (by decide +kernel), List.mem_of_getElem? (i := 1115) (by decide +kernel), List.mem_of_getElem? (i := 1116) (by decide +kernel)⟩
theorem lw_p37 : lw_okq (⟨"MastLeftModel", "holds", "(II)Z"⟩, 87) := ⟨⟨by decide +kernel, by decide +kernel⟩, List.mem_of_getElem? (i := 717) (by decide +kernel), List.mem_of_getElem? (i := 1119) (by decide +kernel), List.mem_of_getElem? (i := 1120) (by decide +kernel)⟩
theorem lw_p38 : lw_okq (⟨"MastLeftModel", "factOf", "(II)I"⟩, 87) := ⟨⟨by decide +kernel, by decide +kernel⟩, List.mem_of_getElem? (i := 717) (by decide +kernel), List.mem_of_getElem? (i := 1123) (by decide +kernel), List.mem_of_getElem? (i := 1124) (by decide +kernel)⟩
theorem lw_p39 : lw_okq (⟨"MastLeftModel", "strength", "(I)I"⟩, 87) := ⟨⟨by decide +kernel, by decide +kernel⟩, List.mem_of_getElem? (i := 717) (by decide +kernel), List.mem_of_getElem? (i := 1127) (by decide +kernel), List.mem_of_getElem? (i := 1128) (by decide +kernel)⟩
theorem lw_p40 : lw_okq (⟨"MastLeftModel", "least0", "(I)I"⟩, 87) := ⟨⟨by decide +kernel, by decide +kernel⟩, List.mem_of_getElem? (i := 717) (by decide +kernel), List.mem_of_getElem? (i := 1131) (by decide +kernel), List.mem_of_getElem? (i := 1132) (by decide +kernel)⟩
theorem lw_p41 : lw_okq (⟨"MastLeftModel", "above", "(I)I"⟩, 87) := ⟨⟨by decide +kernel, by decide +kernel⟩, List.mem_of_getElem? (i := 717) (by decide +kernel), List.mem_of_getElem? (i := 1135) (by decide +kernel), List.mem_of_getElem? (i := 1136) (by decide +kernel)⟩
theorem lw_p42 : lw_okq (⟨"MastLeftModel", "lastOf", "(II)I"⟩, 87) := ⟨⟨by decide +kernel, by decide +kernel⟩, List.mem_of_getElem? (i := 717) (by decide +kernel), List.mem_of_getElem? (i := 1139) (by decide +kernel), List.mem_of_getElem? (i := 1140) (by decide +kernel)⟩
theorem lw_p43 : lw_okq (⟨"MastLeftModel", "load", "(I)I"⟩, 87) := ⟨⟨by decide +kernel, by decide +kernel⟩, List.mem_of_getElem? (i := 717) (by decide +kernel), List.mem_of_getElem? (i := 1143) (by decide +kernel), List.mem_of_getElem? (i := 1144) (by decide +kernel)⟩
theorem lw_p44 : lw_okq (⟨"MastLeftModel", "height", "()I"⟩, 87) := ⟨⟨by decide +kernel, by decide +kernel⟩, List.mem_of_getElem? (i := 717) (by decide +kernel), List.mem_of_getElem? (i := 1151) (by decide +kernel), List.mem_of_getElem? (i := 1152) (by decide +kernel)⟩
theorem lw_p45 : lw_okq (⟨"MastLeftModel", "milesNow", "()I"⟩, 87) := ⟨⟨by decide +kernel, by decide +kernel⟩, List.mem_of_getElem? (i := 717) (by decide +kernel), List.mem_of_getElem? (i := 1155) (by decide +kernel), List.mem_of_getElem? (i := 1156) (by decide +kernel)⟩
theorem lw_p46 : lw_okq (⟨"MastLeftModel", "isDays", "(I)Z"⟩, 87) := ⟨⟨by decide +kernel, by decide +kernel⟩, List.mem_of_getElem? (i := 717) (by decide +kernel), List.mem_of_getElem? (i := 1163) (by decide +kernel), List.mem_of_getElem? (i := 1164) (by decide +kernel)⟩
theorem lw_p47 : lw_okq (⟨"MastLeftModel", "goDays", "(I)V"⟩, 87) := ⟨⟨by decide +kernel, by decide +kernel⟩, List.mem_of_getElem? (i := 717) (by decide +kernel), List.mem_of_getElem? (i := 1167) (by decide +kernel), List.mem_of_getElem? (i := 1168) (by decide +kernel)⟩
def lw_privs_3 : List (MethodName × Nat) := [(⟨"MastLeftModel", "whole", "()V"⟩, 87), (⟨"MastLeftModel", "settle", "(I)V"⟩, 87), (⟨"MastLeftModel", "heart", "(I)I"⟩, 87), (⟨"MastLeftModel", "begin", "()I"⟩, 87), (⟨"MastLeftModel", "behind", "()I"⟩, 87), (⟨"MastLeftModel", "holds", "(II)Z"⟩, 87), (⟨"MastLeftModel", "factOf", "(II)I"⟩, 87), (⟨"MastLeftModel", "strength", "(I)I"⟩, 87), (⟨"MastLeftModel", "least0", "(I)I"⟩, 87), (⟨"MastLeftModel", "above", "(I)I"⟩, 87), (⟨"MastLeftModel", "lastOf", "(II)I"⟩, 87), (⟨"MastLeftModel", "load", "(I)I"⟩, 87), (⟨"MastLeftModel", "height", "()I"⟩, 87), (⟨"MastLeftModel", "milesNow", "()I"⟩, 87), (⟨"MastLeftModel", "isDays", "(I)Z"⟩, 87), (⟨"MastLeftModel", "goDays", "(I)V"⟩, 87)]
theorem lw_r3 : ∀ q ∈ lw_privs_3, lw_okq q := List.forall_mem_cons.mpr ⟨lw_p32, List.forall_mem_cons.mpr ⟨lw_p33, List.forall_mem_cons.mpr ⟨lw_p34, List.forall_mem_cons.mpr ⟨lw_p35, List.forall_mem_cons.mpr ⟨lw_p36, List.forall_mem_cons.mpr ⟨lw_p37, List.forall_mem_cons.mpr ⟨lw_p38, List.forall_mem_cons.mpr ⟨lw_p39, List.forall_mem_cons.mpr ⟨lw_p40, List.forall_mem_cons.mpr ⟨lw_p41, List.forall_mem_cons.mpr ⟨lw_p42, List.forall_mem_cons.mpr ⟨lw_p43, List.forall_mem_cons.mpr ⟨lw_p44, List.forall_mem_cons.mpr ⟨lw_p45, List.forall_mem_cons.mpr ⟨lw_p46, List.forall_mem_cons.mpr ⟨lw_p47, fun _ h => absurd h List.not_mem_nil⟩⟩⟩⟩⟩⟩⟩⟩⟩⟩⟩⟩⟩⟩⟩⟩
theorem lw_p48 : lw_okq (⟨"MastLeftModel", "goDay", "()I"⟩, 87) := ⟨⟨by decide +kernel, by decide +kernel⟩, List.mem_of_getElem? (i := 717) (by decide +kernel), List.mem_of_getElem? (i := 1171) (by decide +kernel), List.mem_of_getElem? (i := 1172) (by decide +kernel)⟩
theorem lw_p49 : lw_okq (⟨"MastLeftModel", "breaksAt", "()I"⟩, 87) := ⟨⟨by decide +kernel, by decide +kernel⟩, List.mem_of_getElem? (i := 717) (by decide +kernel), List.mem_of_getElem? (i := 1175) (by decide +kernel), List.mem_of_getElem? (i := 1176) (by decide +kernel)⟩
theorem lw_p50 : lw_okq (⟨"MastLeftModel", "goWear", "()V"⟩, 87) := ⟨⟨by decide +kernel, by decide +kernel⟩, List.mem_of_getElem? (i := 717) (by decide +kernel), List.mem_of_getElem? (i := 1179) (by decide +kernel), List.mem_of_getElem? (i := 1180) (by decide +kernel)⟩
theorem lw_p51 : lw_okq (⟨"MastLeftModel", "least", "(II)I"⟩, 87) := ⟨⟨by decide +kernel, by decide +kernel⟩, List.mem_of_getElem? (i := 717) (by decide +kernel), List.mem_of_getElem? (i := 1183) (by decide +kernel), List.mem_of_getElem? (i := 1184) (by decide +kernel)⟩
theorem lw_p52 : lw_okq (⟨"MastLeftModel", "save", "()V"⟩, 87) := ⟨⟨by decide +kernel, by decide +kernel⟩, List.mem_of_getElem? (i := 717) (by decide +kernel), List.mem_of_getElem? (i := 1191) (by decide +kernel), List.mem_of_getElem? (i := 1192) (by decide +kernel)⟩
theorem lw_p53 : lw_okq (⟨"MastLeftModel", "putBack", "()V"⟩, 87) := ⟨⟨by decide +kernel, by decide +kernel⟩, List.mem_of_getElem? (i := 717) (by decide +kernel), List.mem_of_getElem? (i := 1196) (by decide +kernel), List.mem_of_getElem? (i := 1197) (by decide +kernel)⟩
theorem lw_p54 : lw_okq (⟨"MastLeftModel", "firstThen", "(I)I"⟩, 87) := ⟨⟨by decide +kernel, by decide +kernel⟩, List.mem_of_getElem? (i := 717) (by decide +kernel), List.mem_of_getElem? (i := 1204) (by decide +kernel), List.mem_of_getElem? (i := 1205) (by decide +kernel)⟩
theorem lw_p55 : lw_okq (⟨"MastLeftModel", "wentThen", "(I)I"⟩, 87) := ⟨⟨by decide +kernel, by decide +kernel⟩, List.mem_of_getElem? (i := 717) (by decide +kernel), List.mem_of_getElem? (i := 1216) (by decide +kernel), List.mem_of_getElem? (i := 1217) (by decide +kernel)⟩
theorem lw_p56 : lw_okq (⟨"MastLeftModel", "layBest", "(I)V"⟩, 87) := ⟨⟨by decide +kernel, by decide +kernel⟩, List.mem_of_getElem? (i := 717) (by decide +kernel), List.mem_of_getElem? (i := 1228) (by decide +kernel), List.mem_of_getElem? (i := 1229) (by decide +kernel)⟩
theorem lw_p57 : lw_okq (⟨"MastLeftModel", "tries", "(IIIII)V"⟩, 87) := ⟨⟨by decide +kernel, by decide +kernel⟩, List.mem_of_getElem? (i := 717) (by decide +kernel), List.mem_of_getElem? (i := 1232) (by decide +kernel), List.mem_of_getElem? (i := 1233) (by decide +kernel)⟩
theorem lw_p58 : lw_okq (⟨"MastLeftModel", "layOrder", "(I)Z"⟩, 87) := ⟨⟨by decide +kernel, by decide +kernel⟩, List.mem_of_getElem? (i := 717) (by decide +kernel), List.mem_of_getElem? (i := 1240) (by decide +kernel), List.mem_of_getElem? (i := 1241) (by decide +kernel)⟩
theorem lw_p59 : lw_okq (⟨"MastLeftModel", "isSeen", "()Z"⟩, 87) := ⟨⟨by decide +kernel, by decide +kernel⟩, List.mem_of_getElem? (i := 717) (by decide +kernel), List.mem_of_getElem? (i := 1252) (by decide +kernel), List.mem_of_getElem? (i := 1253) (by decide +kernel)⟩
theorem lw_p60 : lw_okq (⟨"MastLeftModel", "lowest", "(III)J"⟩, 87) := ⟨⟨by decide +kernel, by decide +kernel⟩, List.mem_of_getElem? (i := 717) (by decide +kernel), List.mem_of_getElem? (i := 1265) (by decide +kernel), List.mem_of_getElem? (i := 1266) (by decide +kernel)⟩
theorem lw_p61 : lw_okq (⟨"MastLeftModel", "divisor", "(II)I"⟩, 87) := ⟨⟨by decide +kernel, by decide +kernel⟩, List.mem_of_getElem? (i := 717) (by decide +kernel), List.mem_of_getElem? (i := 1269) (by decide +kernel), List.mem_of_getElem? (i := 1270) (by decide +kernel)⟩
theorem lw_p62 : lw_okq (⟨"MastLeftModel", "goPlan", "(II)V"⟩, 87) := ⟨⟨by decide +kernel, by decide +kernel⟩, List.mem_of_getElem? (i := 717) (by decide +kernel), List.mem_of_getElem? (i := 1285) (by decide +kernel), List.mem_of_getElem? (i := 1286) (by decide +kernel)⟩
theorem lw_p63 : lw_okq (⟨"MastLeftModel", "isTape", "(I)Z"⟩, 87) := ⟨⟨by decide +kernel, by decide +kernel⟩, List.mem_of_getElem? (i := 717) (by decide +kernel), List.mem_of_getElem? (i := 1301) (by decide +kernel), List.mem_of_getElem? (i := 1302) (by decide +kernel)⟩
def lw_privs_4 : List (MethodName × Nat) := [(⟨"MastLeftModel", "goDay", "()I"⟩, 87), (⟨"MastLeftModel", "breaksAt", "()I"⟩, 87), (⟨"MastLeftModel", "goWear", "()V"⟩, 87), (⟨"MastLeftModel", "least", "(II)I"⟩, 87), (⟨"MastLeftModel", "save", "()V"⟩, 87), (⟨"MastLeftModel", "putBack", "()V"⟩, 87), (⟨"MastLeftModel", "firstThen", "(I)I"⟩, 87), (⟨"MastLeftModel", "wentThen", "(I)I"⟩, 87), (⟨"MastLeftModel", "layBest", "(I)V"⟩, 87), (⟨"MastLeftModel", "tries", "(IIIII)V"⟩, 87), (⟨"MastLeftModel", "layOrder", "(I)Z"⟩, 87), (⟨"MastLeftModel", "isSeen", "()Z"⟩, 87), (⟨"MastLeftModel", "lowest", "(III)J"⟩, 87), (⟨"MastLeftModel", "divisor", "(II)I"⟩, 87), (⟨"MastLeftModel", "goPlan", "(II)V"⟩, 87), (⟨"MastLeftModel", "isTape", "(I)Z"⟩, 87)]
theorem lw_r4 : ∀ q ∈ lw_privs_4, lw_okq q := List.forall_mem_cons.mpr ⟨lw_p48, List.forall_mem_cons.mpr ⟨lw_p49, List.forall_mem_cons.mpr ⟨lw_p50, List.forall_mem_cons.mpr ⟨lw_p51, List.forall_mem_cons.mpr ⟨lw_p52, List.forall_mem_cons.mpr ⟨lw_p53, List.forall_mem_cons.mpr ⟨lw_p54, List.forall_mem_cons.mpr ⟨lw_p55, List.forall_mem_cons.mpr ⟨lw_p56, List.forall_mem_cons.mpr ⟨lw_p57, List.forall_mem_cons.mpr ⟨lw_p58, List.forall_mem_cons.mpr ⟨lw_p59, List.forall_mem_cons.mpr ⟨lw_p60, List.forall_mem_cons.mpr ⟨lw_p61, List.forall_mem_cons.mpr ⟨lw_p62, List.forall_mem_cons.mpr ⟨lw_p63, fun _ h => absurd h List.not_mem_nil⟩⟩⟩⟩⟩⟩⟩⟩⟩⟩⟩⟩⟩⟩⟩⟩
theorem lw_p64 : lw_okq (⟨"MastLeftModel", "bendsAct", "(II)I"⟩, 87) := ⟨⟨by decide +kernel, by decide +kernel⟩, List.mem_of_getElem? (i := 717) (by decide +kernel), List.mem_of_getElem? (i := 1317) (by decide +kernel), List.mem_of_getElem? (i := 1318) (by decide +kernel)⟩
theorem lw_p65 : lw_okq (⟨"MastLeftModel", "body", "(I)V"⟩, 87) := ⟨⟨by decide +kernel, by decide +kernel⟩, List.mem_of_getElem? (i := 717) (by decide +kernel), List.mem_of_getElem? (i := 1321) (by decide +kernel), List.mem_of_getElem? (i := 1322) (by decide +kernel)⟩
theorem lw_p66 : lw_okq (⟨"MastLeftModel", "pieceBends", "(II)I"⟩, 87) := ⟨⟨by decide +kernel, by decide +kernel⟩, List.mem_of_getElem? (i := 717) (by decide +kernel), List.mem_of_getElem? (i := 1325) (by decide +kernel), List.mem_of_getElem? (i := 1326) (by decide +kernel)⟩
theorem lw_p67 : lw_okq (⟨"MastLeftModel", "holdsAct", "(II)I"⟩, 87) := ⟨⟨by decide +kernel, by decide +kernel⟩, List.mem_of_getElem? (i := 717) (by decide +kernel), List.mem_of_getElem? (i := 1329) (by decide +kernel), List.mem_of_getElem? (i := 1330) (by decide +kernel)⟩
theorem lw_p68 : lw_okq (⟨"MastLeftModel", "oarHolds", "(II)I"⟩, 87) := ⟨⟨by decide +kernel, by decide +kernel⟩, List.mem_of_getElem? (i := 717) (by decide +kernel), List.mem_of_getElem? (i := 1333) (by decide +kernel), List.mem_of_getElem? (i := 1334) (by decide +kernel)⟩
theorem lw_p69 : lw_okq (⟨"MastLeftModel", "pieceHolds", "(II)I"⟩, 87) := ⟨⟨by decide +kernel, by decide +kernel⟩, List.mem_of_getElem? (i := 717) (by decide +kernel), List.mem_of_getElem? (i := 1337) (by decide +kernel), List.mem_of_getElem? (i := 1338) (by decide +kernel)⟩
theorem lw_p70 : lw_okq (⟨"MastLeftModel", "tellsAct", "(II)I"⟩, 87) := ⟨⟨by decide +kernel, by decide +kernel⟩, List.mem_of_getElem? (i := 717) (by decide +kernel), List.mem_of_getElem? (i := 1341) (by decide +kernel), List.mem_of_getElem? (i := 1342) (by decide +kernel)⟩
theorem lw_p71 : lw_okq (⟨"MastLeftModel", "pieceTells", "(II)I"⟩, 87) := ⟨⟨by decide +kernel, by decide +kernel⟩, List.mem_of_getElem? (i := 717) (by decide +kernel), List.mem_of_getElem? (i := 1345) (by decide +kernel), List.mem_of_getElem? (i := 1346) (by decide +kernel)⟩
theorem lw_p72 : lw_okq (⟨"MastLeftModel", "narrow", "(IJ)J"⟩, 87) := ⟨⟨by decide +kernel, by decide +kernel⟩, List.mem_of_getElem? (i := 717) (by decide +kernel), List.mem_of_getElem? (i := 1369) (by decide +kernel), List.mem_of_getElem? (i := 1370) (by decide +kernel)⟩
def lw_privs_5 : List (MethodName × Nat) := [(⟨"MastLeftModel", "bendsAct", "(II)I"⟩, 87), (⟨"MastLeftModel", "body", "(I)V"⟩, 87), (⟨"MastLeftModel", "pieceBends", "(II)I"⟩, 87), (⟨"MastLeftModel", "holdsAct", "(II)I"⟩, 87), (⟨"MastLeftModel", "oarHolds", "(II)I"⟩, 87), (⟨"MastLeftModel", "pieceHolds", "(II)I"⟩, 87), (⟨"MastLeftModel", "tellsAct", "(II)I"⟩, 87), (⟨"MastLeftModel", "pieceTells", "(II)I"⟩, 87), (⟨"MastLeftModel", "narrow", "(IJ)J"⟩, 87)]
theorem lw_r5 : ∀ q ∈ lw_privs_5, lw_okq q := List.forall_mem_cons.mpr ⟨lw_p64, List.forall_mem_cons.mpr ⟨lw_p65, List.forall_mem_cons.mpr ⟨lw_p66, List.forall_mem_cons.mpr ⟨lw_p67, List.forall_mem_cons.mpr ⟨lw_p68, List.forall_mem_cons.mpr ⟨lw_p69, List.forall_mem_cons.mpr ⟨lw_p70, List.forall_mem_cons.mpr ⟨lw_p71, List.forall_mem_cons.mpr ⟨lw_p72, fun _ h => absurd h List.not_mem_nil⟩⟩⟩⟩⟩⟩⟩⟩⟩
def lw_privs : List (MethodName × Nat) := lw_privs_1 ++ (lw_privs_2 ++ (lw_privs_3 ++ (lw_privs_4 ++ (lw_privs_5))))
def lw_tbl : List Cond := k2_sels lw_privs ++ tables_1
theorem lw_privs_ok : ∀ q ∈ lw_privs, lw_okq q := by
  show ∀ q ∈ lw_privs_1 ++ (lw_privs_2 ++ (lw_privs_3 ++ (lw_privs_4 ++ (lw_privs_5)))), lw_okq q
  exact List.forall_mem_append.mpr ⟨lw_r1, List.forall_mem_append.mpr ⟨lw_r2, List.forall_mem_append.mpr ⟨lw_r3, List.forall_mem_append.mpr ⟨lw_r4, lw_r5⟩⟩⟩⟩
-- ===== end of PART A; then your names; then what follows =====
def RX0 : String := "MastLeft$Acts"
def TX0 : u_T := fun k => match k with
  | 0 => ("MastLeft$Acts", "bodies", "[I", true)
  | 1 => ("MastLeft$Acts", "ran", "I", false)
  | 2 => ("MastLeft$Acts", "kind", "I", false)
  | 3 => ("MastLeft$Acts", "number", "I", false)
  | _ => ("MastLeft$Acts", "v", "I", false)
def tyX0 : Nat → FieldType := fun k => match k with
  | 0 => .array .int
  | 1 => .int
  | 2 => .int
  | 3 => .int
  | _ => .int
abbrev wsX00 : List Cond := u_ws RX0 TX0 5
theorem nmX0 : ∀ a, a < 5 → ∀ b, b < 5 → a ≠ b → (TX0 a).2.1 ≠ (TX0 b).2.1 := by decide +kernel
theorem tyX0_ok : ∀ k, k < 5 → parseFieldDescriptor (TX0 k).2.2.1 = some (tyX0 k) := by decide +kernel
abbrev cX0_init : ByteArray := prog_2_method_1_code
def yX0_init : MethodName := ⟨RX0, "<init>", "()V"⟩
abbrev cX0_start : ByteArray := prog_2_method_2_code
def yX0_start : MethodName := ⟨RX0, "start", "(IIIII)I"⟩
abbrev cX0_run : ByteArray := prog_2_method_3_code
def yX0_run : MethodName := ⟨RX0, "run", "(IIII)I"⟩
abbrev cX0_ownerOf : ByteArray := prog_2_method_4_code
def yX0_ownerOf : MethodName := ⟨RX0, "ownerOf", "(II)I"⟩
def RX1 : String := "MastLeft$Deck"
def TX1 : u_T := fun k => match k with
  | 0 => ("MastLeft$Deck", "kind", "[I", true)
  | 1 => ("MastLeft$Deck", "v", "[I", true)
  | 2 => ("MastLeft$Deck", "length", "[I", true)
  | 3 => ("MastLeft$Deck", "wear", "[I", true)
  | 4 => ("MastLeft$Deck", "broke", "[I", true)
  | 5 => ("MastLeft$Deck", "rows", "[I", true)
  | 6 => ("MastLeft$Deck", "mast", "[I", true)
  | 7 => ("MastLeft$Deck", "pieces", "I", false)
  | 8 => ("MastLeft$Deck", "stands", "I", false)
  | 9 => ("MastLeft$Deck", "sail", "I", false)
  | 10 => ("MastLeft$Deck", "stays", "I", false)
  | 11 => ("MastLeft$Deck", "went", "I", false)
  | 12 => ("MastLeft$Deck", "day", "I", false)
  | _ => ("MastLeft$Deck", "ocean", "LMastLeft$Ocean;", false)
def tyX1 : Nat → FieldType := fun k => match k with
  | 0 => .array .int
  | 1 => .array .int
  | 2 => .array .int
  | 3 => .array .int
  | 4 => .array .int
  | 5 => .array .int
  | 6 => .array .int
  | 7 => .int
  | 8 => .int
  | 9 => .int
  | 10 => .int
  | 11 => .int
  | 12 => .int
  | _ => .object "MastLeft$Ocean"
abbrev wsX10 : List Cond := u_ws RX1 TX1 14
theorem nmX1 : ∀ a, a < 14 → ∀ b, b < 14 → a ≠ b → (TX1 a).2.1 ≠ (TX1 b).2.1 := by decide +kernel
theorem tyX1_ok : ∀ k, k < 14 → parseFieldDescriptor (TX1 k).2.2.1 = some (tyX1 k) := by decide +kernel
abbrev cX1_init : ByteArray := prog_3_method_1_code
def yX1_init : MethodName := ⟨RX1, "<init>", "(LMastLeft$Ocean;)V"⟩
abbrev cX1_copyFrom : ByteArray := prog_3_method_2_code
def yX1_copyFrom : MethodName := ⟨RX1, "copyFrom", "(LMastLeft$Deck;)V"⟩
abbrev cX1_startFrom : ByteArray := prog_3_method_3_code
def yX1_startFrom : MethodName := ⟨RX1, "startFrom", "(LMastLeft$Deck;)V"⟩
abbrev cX1_take : ByteArray := prog_3_method_4_code
def yX1_take : MethodName := ⟨RX1, "take", "(III)I"⟩
abbrev cX1_has : ByteArray := prog_3_method_5_code
def yX1_has : MethodName := ⟨RX1, "has", "(I)Z"⟩
abbrev cX1_placeOf : ByteArray := prog_3_method_6_code
def yX1_placeOf : MethodName := ⟨RX1, "placeOf", "(I)I"⟩
abbrev cX1_putUpon : ByteArray := prog_3_method_7_code
def yX1_putUpon : MethodName := ⟨RX1, "putUpon", "(I)V"⟩
abbrev cX1_lashRow : ByteArray := prog_3_method_8_code
def yX1_lashRow : MethodName := ⟨RX1, "lashRow", "(I)Z"⟩
abbrev cX1_standsOfTheSame : ByteArray := prog_3_method_9_code
def yX1_standsOfTheSame : MethodName := ⟨RX1, "standsOfTheSame", "(LMastLeft$Deck;)Z"⟩
abbrev cX1_above : ByteArray := prog_3_method_10_code
def yX1_above : MethodName := ⟨RX1, "above", "(I)I"⟩
abbrev cX1_height : ByteArray := prog_3_method_11_code
def yX1_height : MethodName := ⟨RX1, "height", "()I"⟩
abbrev cX1_load : ByteArray := prog_3_method_12_code
def yX1_load : MethodName := ⟨RX1, "load", "(I)I"⟩
abbrev cX1_miles : ByteArray := prog_3_method_13_code
def yX1_miles : MethodName := ⟨RX1, "miles", "()I"⟩
abbrev cX1_strength : ByteArray := prog_3_method_14_code
def yX1_strength : MethodName := ⟨RX1, "strength", "(I)I"⟩
abbrev cX1_breaking : ByteArray := prog_3_method_15_code
def yX1_breaking : MethodName := ⟨RX1, "breaking", "()I"⟩
abbrev cX1_dayGoes : ByteArray := prog_3_method_16_code
def yX1_dayGoes : MethodName := ⟨RX1, "dayGoes", "()I"⟩
abbrev cX1_nothingBreaksIn : ByteArray := prog_3_method_17_code
def yX1_nothingBreaksIn : MethodName := ⟨RX1, "nothingBreaksIn", "(I)Z"⟩
def RX2 : String := "MastLeft$Ocean"
def TX2 : u_T := fun k => match k with
  | 0 => ("MastLeft$Ocean", "step", "[I", true)
  | 1 => ("MastLeft$Ocean", "letter", "[I", true)
  | 2 => ("MastLeft$Ocean", "number", "[I", true)
  | 3 => ("MastLeft$Ocean", "facts", "[I", true)
  | 4 => ("MastLeft$Ocean", "steps", "I", false)
  | 5 => ("MastLeft$Ocean", "wind", "I", false)
  | _ => ("MastLeft$Ocean", "lash", "I", false)
def tyX2 : Nat → FieldType := fun k => match k with
  | 0 => .array .int
  | 1 => .array .int
  | 2 => .array .int
  | 3 => .array .int
  | 4 => .int
  | 5 => .int
  | _ => .int
abbrev wsX20 : List Cond := u_ws RX2 TX2 7
theorem nmX2 : ∀ a, a < 7 → ∀ b, b < 7 → a ≠ b → (TX2 a).2.1 ≠ (TX2 b).2.1 := by decide +kernel
theorem tyX2_ok : ∀ k, k < 7 → parseFieldDescriptor (TX2 k).2.2.1 = some (tyX2 k) := by decide +kernel
abbrev cX2_init : ByteArray := prog_4_method_1_code
def yX2_init : MethodName := ⟨RX2, "<init>", "()V"⟩
abbrev cX2_becomeCalm : ByteArray := prog_4_method_2_code
def yX2_becomeCalm : MethodName := ⟨RX2, "becomeCalm", "()V"⟩
abbrev cX2_add : ByteArray := prog_4_method_3_code
def yX2_add : MethodName := ⟨RX2, "add", "(III)V"⟩
abbrev cX2_heart : ByteArray := prog_4_method_4_code
def yX2_heart : MethodName := ⟨RX2, "heart", "(LMastLeft$Deck;I)I"⟩
def RX3 : String := "MastLeft$Pairs"
def TX3 : u_T := fun k => match k with
  | 0 => ("MastLeft$Pairs", "left", "[I", true)
  | 1 => ("MastLeft$Pairs", "right", "[I", true)
  | _ => ("MastLeft$Pairs", "size", "I", false)
def tyX3 : Nat → FieldType := fun k => match k with
  | 0 => .array .int
  | 1 => .array .int
  | _ => .int
abbrev wsX30 : List Cond := u_ws RX3 TX3 3
theorem nmX3 : ∀ a, a < 3 → ∀ b, b < 3 → a ≠ b → (TX3 a).2.1 ≠ (TX3 b).2.1 := by decide +kernel
theorem tyX3_ok : ∀ k, k < 3 → parseFieldDescriptor (TX3 k).2.2.1 = some (tyX3 k) := by decide +kernel
abbrev cX3_init : ByteArray := prog_5_method_1_code
def yX3_init : MethodName := ⟨RX3, "<init>", "(I)V"⟩
abbrev cX3_add : ByteArray := prog_5_method_2_code
def yX3_add : MethodName := ⟨RX3, "add", "(II)Z"⟩
abbrev cX3_clear : ByteArray := prog_5_method_3_code
def yX3_clear : MethodName := ⟨RX3, "clear", "()I"⟩
abbrev cX3_copyFrom : ByteArray := prog_5_method_4_code
def yX3_copyFrom : MethodName := ⟨RX3, "copyFrom", "(LMastLeft$Pairs;)V"⟩
def RX4 : String := "MastLeft$Tape"
def TX4 : u_T := fun k => match k with
  | 0 => ("MastLeft$Tape", "items", "[J", true)
  | 1 => ("MastLeft$Tape", "sort", "I", false)
  | _ => ("MastLeft$Tape", "size", "I", false)
def tyX4 : Nat → FieldType := fun k => match k with
  | 0 => .array .long
  | 1 => .int
  | _ => .int
abbrev wsX40 : List Cond := u_ws RX4 TX4 3
theorem nmX4 : ∀ a, a < 3 → ∀ b, b < 3 → a ≠ b → (TX4 a).2.1 ≠ (TX4 b).2.1 := by decide +kernel
theorem tyX4_ok : ∀ k, k < 3 → parseFieldDescriptor (TX4 k).2.2.1 = some (tyX4 k) := by decide +kernel
abbrev cX4_init : ByteArray := prog_6_method_1_code
def yX4_init : MethodName := ⟨RX4, "<init>", "()V"⟩
abbrev cX4_become : ByteArray := prog_6_method_2_code
def yX4_become : MethodName := ⟨RX4, "become", "(II)V"⟩
abbrev cX4_cut : ByteArray := prog_6_method_3_code
def yX4_cut : MethodName := ⟨RX4, "cut", "(J)J"⟩
def RX5 : String := "MastLeft$Text"
def TX5 : u_T := fun k => match k with
  | 0 => ("MastLeft$Text", "signs", "[B", true)
  | 1 => ("MastLeft$Text", "into", "LMastLeft$Ocean;", false)
  | 2 => ("MastLeft$Text", "at", "I", false)
  | _ => ("MastLeft$Text", "size", "I", false)
def tyX5 : Nat → FieldType := fun k => match k with
  | 0 => .array .byte
  | 1 => .object "MastLeft$Ocean"
  | 2 => .int
  | _ => .int
abbrev wsX50 : List Cond := u_ws RX5 TX5 4
theorem nmX5 : ∀ a, a < 4 → ∀ b, b < 4 → a ≠ b → (TX5 a).2.1 ≠ (TX5 b).2.1 := by decide +kernel
theorem tyX5_ok : ∀ k, k < 4 → parseFieldDescriptor (TX5 k).2.2.1 = some (tyX5 k) := by decide +kernel
abbrev cX5_init : ByteArray := prog_7_method_1_code
def yX5_init : MethodName := ⟨RX5, "<init>", "()V"⟩
abbrev cX5_add : ByteArray := prog_7_method_2_code
def yX5_add : MethodName := ⟨RX5, "add", "(B)Z"⟩
abbrev cX5_readInto : ByteArray := prog_7_method_3_code
def yX5_readInto : MethodName := ⟨RX5, "readInto", "(LMastLeft$Ocean;)I"⟩
abbrev cX5_readsClause : ByteArray := prog_7_method_4_code
def yX5_readsClause : MethodName := ⟨RX5, "readsClause", "()Z"⟩
abbrev cX5_readsAny : ByteArray := prog_7_method_5_code
def yX5_readsAny : MethodName := ⟨RX5, "readsAny", "(I)Z"⟩
abbrev cX5_readsAll : ByteArray := prog_7_method_6_code
def yX5_readsAll : MethodName := ⟨RX5, "readsAll", "(I)Z"⟩
abbrev cX5_readsOne : ByteArray := prog_7_method_7_code
def yX5_readsOne : MethodName := ⟨RX5, "readsOne", "(I)Z"⟩
abbrev cX5_takes : ByteArray := prog_7_method_8_code
def yX5_takes : MethodName := ⟨RX5, "takes", "(I)Z"⟩
abbrev cX5_takesWord : ByteArray := prog_7_method_9_code
def yX5_takesWord : MethodName := ⟨RX5, "takesWord", "()I"⟩
abbrev cX5_takesNumber : ByteArray := prog_7_method_10_code
def yX5_takesNumber : MethodName := ⟨RX5, "takesNumber", "()I"⟩
def RX6 : String := "MastLeft"
def TX6 : u_T := fun k => match k with
  | 0 => ("MastLeft", "now", "LMastLeft$Deck;", true)
  | 1 => ("MastLeft", "kept", "LMastLeft$Deck;", true)
  | 2 => ("MastLeft", "trial", "LMastLeft$Deck;", true)
  | 3 => ("MastLeft", "seen", "LMastLeft$Pairs;", true)
  | 4 => ("MastLeft", "plans", "LMastLeft$Pairs;", true)
  | 5 => ("MastLeft", "books", "LMastLeft$Pairs;", true)
  | 6 => ("MastLeft", "keptSeen", "LMastLeft$Pairs;", true)
  | 7 => ("MastLeft", "keptPlans", "LMastLeft$Pairs;", true)
  | 8 => ("MastLeft", "keptBooks", "LMastLeft$Pairs;", true)
  | 9 => ("MastLeft", "imaged", "Z", false)
  | 10 => ("MastLeft", "oceans", "[LMastLeft$Ocean;", true)
  | 11 => ("MastLeft", "oceansRead", "I", false)
  | 12 => ("MastLeft", "text", "LMastLeft$Text;", true)
  | 13 => ("MastLeft", "acts", "LMastLeft$Acts;", true)
  | _ => ("MastLeft", "tapes", "[LMastLeft$Tape;", true)
def tyX6 : Nat → FieldType := fun k => match k with
  | 0 => .object "MastLeft$Deck"
  | 1 => .object "MastLeft$Deck"
  | 2 => .object "MastLeft$Deck"
  | 3 => .object "MastLeft$Pairs"
  | 4 => .object "MastLeft$Pairs"
  | 5 => .object "MastLeft$Pairs"
  | 6 => .object "MastLeft$Pairs"
  | 7 => .object "MastLeft$Pairs"
  | 8 => .object "MastLeft$Pairs"
  | 9 => .boolean
  | 10 => .array (.object "MastLeft$Ocean")
  | 11 => .int
  | 12 => .object "MastLeft$Text"
  | 13 => .object "MastLeft$Acts"
  | _ => .array (.object "MastLeft$Tape")
abbrev wsX60 : List Cond := u_ws RX6 TX6 15
theorem nmX6 : ∀ a, a < 15 → ∀ b, b < 15 → a ≠ b → (TX6 a).2.1 ≠ (TX6 b).2.1 := by decide +kernel
theorem tyX6_ok : ∀ k, k < 15 → parseFieldDescriptor (TX6 k).2.2.1 = some (tyX6 k) := by decide +kernel
abbrev cX6_init : ByteArray := prog_1_method_1_code
def yX6_init : MethodName := ⟨RX6, "<init>", "()V"⟩
abbrev cX6_piece : ByteArray := prog_1_method_2_code
def yX6_piece : MethodName := ⟨RX6, "piece", "(III)I"⟩
abbrev cX6_of : ByteArray := prog_1_method_3_code
def yX6_of : MethodName := ⟨RX6, "of", "(II)I"⟩
abbrev cX6_set : ByteArray := prog_1_method_4_code
def yX6_set : MethodName := ⟨RX6, "set", "(III)I"⟩
abbrev cX6_row : ByteArray := prog_1_method_5_code
def yX6_row : MethodName := ⟨RX6, "row", "(III)I"⟩
abbrev cX6_hoist : ByteArray := prog_1_method_6_code
def yX6_hoist : MethodName := ⟨RX6, "hoist", "(I)I"⟩
abbrev cX6_lower : ByteArray := prog_1_method_7_code
def yX6_lower : MethodName := ⟨RX6, "lower", "(I)I"⟩
abbrev cX6_trim : ByteArray := prog_1_method_8_code
def yX6_trim : MethodName := ⟨RX6, "trim", "(II)I"⟩
abbrev cX6_feed : ByteArray := prog_1_method_9_code
def yX6_feed : MethodName := ⟨RX6, "feed", "(I)I"⟩
abbrev cX6_ocean : ByteArray := prog_1_method_10_code
def yX6_ocean : MethodName := ⟨RX6, "ocean", "()I"⟩
abbrev cX6_told : ByteArray := prog_1_method_11_code
def yX6_told : MethodName := ⟨RX6, "told", "(I)I"⟩
abbrev cX6_pass : ByteArray := prog_1_method_12_code
def yX6_pass : MethodName := ⟨RX6, "pass", "(I)I"⟩
abbrev cX6_on : ByteArray := prog_1_method_13_code
def yX6_on : MethodName := ⟨RX6, "on", "(II)I"⟩
abbrev cX6_first : ByteArray := prog_1_method_14_code
def yX6_first : MethodName := ⟨RX6, "first", "(I)I"⟩
abbrev cX6_port : ByteArray := prog_1_method_15_code
def yX6_port : MethodName := ⟨RX6, "port", "(I)I"⟩
abbrev cX6_spread : ByteArray := prog_1_method_16_code
def yX6_spread : MethodName := ⟨RX6, "spread", "()I"⟩
abbrev cX6_fewest : ByteArray := prog_1_method_17_code
def yX6_fewest : MethodName := ⟨RX6, "fewest", "(I)I"⟩
abbrev cX6_best : ByteArray := prog_1_method_18_code
def yX6_best : MethodName := ⟨RX6, "best", "(II)I"⟩
abbrev cX6_longest : ByteArray := prog_1_method_19_code
def yX6_longest : MethodName := ⟨RX6, "longest", "(I)I"⟩
abbrev cX6_bestRow : ByteArray := prog_1_method_20_code
def yX6_bestRow : MethodName := ⟨RX6, "bestRow", "(I)I"⟩
abbrev cX6_worth : ByteArray := prog_1_method_21_code
def yX6_worth : MethodName := ⟨RX6, "worth", "(II)I"⟩
abbrev cX6_see : ByteArray := prog_1_method_22_code
def yX6_see : MethodName := ⟨RX6, "see", "(II)I"⟩
abbrev cX6_worn : ByteArray := prog_1_method_23_code
def yX6_worn : MethodName := ⟨RX6, "worn", "(II)I"⟩
abbrev cX6_can : ByteArray := prog_1_method_24_code
def yX6_can : MethodName := ⟨RX6, "can", "(II)I"⟩
abbrev cX6_fitting : ByteArray := prog_1_method_25_code
def yX6_fitting : MethodName := ⟨RX6, "fitting", "([IIII)I"⟩
abbrev cX6_seenIsSo : ByteArray := prog_1_method_26_code
def yX6_seenIsSo : MethodName := ⟨RX6, "seenIsSo", "()Z"⟩
abbrev cX6_odds : ByteArray := prog_1_method_27_code
def yX6_odds : MethodName := ⟨RX6, "odds", "(II)J"⟩
abbrev cX6_mean : ByteArray := prog_1_method_28_code
def yX6_mean : MethodName := ⟨RX6, "mean", "(I)J"⟩
abbrev cX6_inLowestTerms : ByteArray := prog_1_method_29_code
def yX6_inLowestTerms : MethodName := ⟨RX6, "inLowestTerms", "(III)J"⟩
abbrev cX6_plan : ByteArray := prog_1_method_30_code
def yX6_plan : MethodName := ⟨RX6, "plan", "(II)I"⟩
abbrev cX6_ends : ByteArray := prog_1_method_31_code
def yX6_ends : MethodName := ⟨RX6, "ends", "(I)I"⟩
abbrev cX6_followPlan : ByteArray := prog_1_method_32_code
def yX6_followPlan : MethodName := ⟨RX6, "followPlan", "(II)V"⟩
abbrev cX6_book : ByteArray := prog_1_method_33_code
def yX6_book : MethodName := ⟨RX6, "book", "(II)I"⟩
abbrev cX6_looked : ByteArray := prog_1_method_34_code
def yX6_looked : MethodName := ⟨RX6, "looked", "()I"⟩
abbrev cX6_judge : ByteArray := prog_1_method_35_code
def yX6_judge : MethodName := ⟨RX6, "judge", "(II)I"⟩
abbrev cX6_image : ByteArray := prog_1_method_36_code
def yX6_image : MethodName := ⟨RX6, "image", "()I"⟩
abbrev cX6_undo : ByteArray := prog_1_method_37_code
def yX6_undo : MethodName := ⟨RX6, "undo", "()I"⟩
abbrev cX6_act : ByteArray := prog_1_method_38_code
def yX6_act : MethodName := ⟨RX6, "act", "(III)I"⟩
abbrev cX6_trace : ByteArray := prog_1_method_39_code
def yX6_trace : MethodName := ⟨RX6, "trace", "(I)I"⟩
abbrev cX6_taken : ByteArray := prog_1_method_40_code
def yX6_taken : MethodName := ⟨RX6, "taken", "(II)I"⟩
abbrev cX6_count : ByteArray := prog_1_method_41_code
def yX6_count : MethodName := ⟨RX6, "count", "(I)I"⟩
abbrev cX6_tape : ByteArray := prog_1_method_42_code
def yX6_tape : MethodName := ⟨RX6, "tape", "(III)I"⟩
abbrev cX6_item : ByteArray := prog_1_method_43_code
def yX6_item : MethodName := ⟨RX6, "item", "(IIJ)I"⟩
abbrev cX6_read : ByteArray := prog_1_method_44_code
def yX6_read : MethodName := ⟨RX6, "read", "(II)J"⟩
abbrev cX6_shift : ByteArray := prog_1_method_45_code
def yX6_shift : MethodName := ⟨RX6, "shift", "(IIIII)I"⟩
abbrev cX6_within : ByteArray := prog_1_method_46_code
def yX6_within : MethodName := ⟨RX6, "within", "(III)Z"⟩
def RX7 : String := "MastLeftModel"
def TX7 : u_T := fun k => match k with
  | 0 => ("MastLeftModel", "pieces", "I", false)
  | 1 => ("MastLeftModel", "high", "I", false)
  | 2 => ("MastLeftModel", "sail", "I", false)
  | 3 => ("MastLeftModel", "stays", "I", false)
  | 4 => ("MastLeftModel", "miles0", "I", false)
  | 5 => ("MastLeftModel", "days", "I", false)
  | 6 => ("MastLeftModel", "kind", "[I", true)
  | 7 => ("MastLeftModel", "v", "[I", true)
  | 8 => ("MastLeftModel", "long0", "[I", true)
  | 9 => ("MastLeftModel", "wear", "[I", true)
  | 10 => ("MastLeftModel", "broke", "[I", true)
  | 11 => ("MastLeftModel", "rows", "[I", true)
  | 12 => ("MastLeftModel", "mast", "[I", true)
  | 13 => ("MastLeftModel", "oceans", "I", false)
  | 14 => ("MastLeftModel", "the", "I", false)
  | 15 => ("MastLeftModel", "fed", "I", false)
  | 16 => ("MastLeftModel", "at", "I", false)
  | 17 => ("MastLeftModel", "digits", "I", false)
  | 18 => ("MastLeftModel", "text", "[I", true)
  | 19 => ("MastLeftModel", "clauses", "[I", true)
  | 20 => ("MastLeftModel", "word", "[I", true)
  | 21 => ("MastLeftModel", "number", "[I", true)
  | 22 => ("MastLeftModel", "from", "[I", true)
  | 23 => ("MastLeftModel", "to", "[I", true)
  | 24 => ("MastLeftModel", "sign", "[I", true)
  | 25 => ("MastLeftModel", "waits", "[I", true)
  | 26 => ("MastLeftModel", "signs", "I", false)
  | 27 => ("MastLeftModel", "waiting", "I", false)
  | 28 => ("MastLeftModel", "open", "I", false)
  | 29 => ("MastLeftModel", "letters", "[I", true)
  | 30 => ("MastLeftModel", "pile", "[Z", true)
  | 31 => ("MastLeftModel", "mostMiles", "I", false)
  | 32 => ("MastLeftModel", "mostBroke", "I", false)
  | 33 => ("MastLeftModel", "loads", "[I", true)
  | 34 => ("MastLeftModel", "keptHigh", "I", false)
  | 35 => ("MastLeftModel", "keptSail", "I", false)
  | 36 => ("MastLeftModel", "keptStays", "I", false)
  | 37 => ("MastLeftModel", "keptMiles", "I", false)
  | 38 => ("MastLeftModel", "keptDays", "I", false)
  | 39 => ("MastLeftModel", "keptLong", "[I", true)
  | 40 => ("MastLeftModel", "keptWear", "[I", true)
  | 41 => ("MastLeftModel", "keptBroke", "[I", true)
  | 42 => ("MastLeftModel", "keptMast", "[I", true)
  | 43 => ("MastLeftModel", "brokeWhich", "I", false)
  | 44 => ("MastLeftModel", "bestRow", "[I", true)
  | 45 => ("MastLeftModel", "bestMany", "I", false)
  | 46 => ("MastLeftModel", "bestMuch", "I", false)
  | 47 => ("MastLeftModel", "longRow", "[I", true)
  | 48 => ("MastLeftModel", "seen", "I", false)
  | 49 => ("MastLeftModel", "seenMany", "[I", true)
  | 50 => ("MastLeftModel", "seenWhen", "[I", true)
  | 51 => ("MastLeftModel", "plans", "I", false)
  | 52 => ("MastLeftModel", "books", "I", false)
  | 53 => ("MastLeftModel", "planWhat", "[I", true)
  | 54 => ("MastLeftModel", "planNumber", "[I", true)
  | 55 => ("MastLeftModel", "bookWho", "[I", true)
  | 56 => ("MastLeftModel", "bookLong", "[I", true)
  | 57 => ("MastLeftModel", "hasImage", "Z", false)
  | 58 => ("MastLeftModel", "imageThe", "I", false)
  | 59 => ("MastLeftModel", "imagePieces", "I", false)
  | 60 => ("MastLeftModel", "imageHigh", "I", false)
  | 61 => ("MastLeftModel", "imageSail", "I", false)
  | 62 => ("MastLeftModel", "imageStays", "I", false)
  | 63 => ("MastLeftModel", "imageMiles", "I", false)
  | 64 => ("MastLeftModel", "imageDays", "I", false)
  | 65 => ("MastLeftModel", "imageSeen", "I", false)
  | 66 => ("MastLeftModel", "imagePlans", "I", false)
  | 67 => ("MastLeftModel", "imageBooks", "I", false)
  | 68 => ("MastLeftModel", "imageKind", "[I", true)
  | 69 => ("MastLeftModel", "imageV", "[I", true)
  | 70 => ("MastLeftModel", "imageLong", "[I", true)
  | 71 => ("MastLeftModel", "imageWear", "[I", true)
  | 72 => ("MastLeftModel", "imageBroke", "[I", true)
  | 73 => ("MastLeftModel", "imageRows", "[I", true)
  | 74 => ("MastLeftModel", "imageMast", "[I", true)
  | 75 => ("MastLeftModel", "imageMany", "[I", true)
  | 76 => ("MastLeftModel", "imageWhen", "[I", true)
  | 77 => ("MastLeftModel", "imageWhat", "[I", true)
  | 78 => ("MastLeftModel", "imageNumber", "[I", true)
  | 79 => ("MastLeftModel", "imageBookWho", "[I", true)
  | 80 => ("MastLeftModel", "imageBookLong", "[I", true)
  | 81 => ("MastLeftModel", "ran", "I", false)
  | 82 => ("MastLeftModel", "bodies", "[I", true)
  | 83 => ("MastLeftModel", "sort", "[I", true)
  | 84 => ("MastLeftModel", "length", "[I", true)
  | 85 => ("MastLeftModel", "item", "[J", true)
  | _ => ("MastLeftModel", "aside", "[J", true)
def tyX7 : Nat → FieldType := fun k => match k with
  | 0 => .int
  | 1 => .int
  | 2 => .int
  | 3 => .int
  | 4 => .int
  | 5 => .int
  | 6 => .array .int
  | 7 => .array .int
  | 8 => .array .int
  | 9 => .array .int
  | 10 => .array .int
  | 11 => .array .int
  | 12 => .array .int
  | 13 => .int
  | 14 => .int
  | 15 => .int
  | 16 => .int
  | 17 => .int
  | 18 => .array .int
  | 19 => .array .int
  | 20 => .array .int
  | 21 => .array .int
  | 22 => .array .int
  | 23 => .array .int
  | 24 => .array .int
  | 25 => .array .int
  | 26 => .int
  | 27 => .int
  | 28 => .int
  | 29 => .array .int
  | 30 => .array .boolean
  | 31 => .int
  | 32 => .int
  | 33 => .array .int
  | 34 => .int
  | 35 => .int
  | 36 => .int
  | 37 => .int
  | 38 => .int
  | 39 => .array .int
  | 40 => .array .int
  | 41 => .array .int
  | 42 => .array .int
  | 43 => .int
  | 44 => .array .int
  | 45 => .int
  | 46 => .int
  | 47 => .array .int
  | 48 => .int
  | 49 => .array .int
  | 50 => .array .int
  | 51 => .int
  | 52 => .int
  | 53 => .array .int
  | 54 => .array .int
  | 55 => .array .int
  | 56 => .array .int
  | 57 => .boolean
  | 58 => .int
  | 59 => .int
  | 60 => .int
  | 61 => .int
  | 62 => .int
  | 63 => .int
  | 64 => .int
  | 65 => .int
  | 66 => .int
  | 67 => .int
  | 68 => .array .int
  | 69 => .array .int
  | 70 => .array .int
  | 71 => .array .int
  | 72 => .array .int
  | 73 => .array .int
  | 74 => .array .int
  | 75 => .array .int
  | 76 => .array .int
  | 77 => .array .int
  | 78 => .array .int
  | 79 => .array .int
  | 80 => .array .int
  | 81 => .int
  | 82 => .array .int
  | 83 => .array .int
  | 84 => .array .int
  | 85 => .array .long
  | _ => .array .long
abbrev wsX70 : List Cond := u_ws RX7 TX7 87
theorem nmX7 : ∀ a, a < 87 → ∀ b, b < 87 → a ≠ b → (TX7 a).2.1 ≠ (TX7 b).2.1 := by decide +kernel
theorem tyX7_ok : ∀ k, k < 87 → parseFieldDescriptor (TX7 k).2.2.1 = some (tyX7 k) := by decide +kernel
abbrev cX7_init : ByteArray := prog_9_method_1_code
def yX7_init : MethodName := ⟨RX7, "<init>", "()V"⟩
abbrev cX7_in : ByteArray := prog_9_method_2_code
def yX7_in : MethodName := ⟨RX7, "in", "(III)Z"⟩
abbrev cX7_least0 : ByteArray := prog_9_method_3_code
def yX7_least0 : MethodName := ⟨RX7, "least0", "(I)I"⟩
abbrev cX7_least : ByteArray := prog_9_method_4_code
def yX7_least : MethodName := ⟨RX7, "least", "(II)I"⟩
abbrev cX7_isPiece : ByteArray := prog_9_method_5_code
def yX7_isPiece : MethodName := ⟨RX7, "isPiece", "(I)Z"⟩
abbrev cX7_isFeet : ByteArray := prog_9_method_6_code
def yX7_isFeet : MethodName := ⟨RX7, "isFeet", "(I)Z"⟩
abbrev cX7_isDays : ByteArray := prog_9_method_7_code
def yX7_isDays : MethodName := ⟨RX7, "isDays", "(I)Z"⟩
abbrev cX7_isTrim : ByteArray := prog_9_method_8_code
def yX7_isTrim : MethodName := ⟨RX7, "isTrim", "(I)Z"⟩
abbrev cX7_piece : ByteArray := prog_9_method_9_code
def yX7_piece : MethodName := ⟨RX7, "piece", "(III)I"⟩
abbrev cX7_set : ByteArray := prog_9_method_10_code
def yX7_set : MethodName := ⟨RX7, "set", "(III)I"⟩
abbrev cX7_row : ByteArray := prog_9_method_11_code
def yX7_row : MethodName := ⟨RX7, "row", "(III)I"⟩
abbrev cX7_placeOf : ByteArray := prog_9_method_12_code
def yX7_placeOf : MethodName := ⟨RX7, "placeOf", "(I)I"⟩
abbrev cX7_hoists : ByteArray := prog_9_method_13_code
def yX7_hoists : MethodName := ⟨RX7, "hoists", "(I)V"⟩
abbrev cX7_hoist : ByteArray := prog_9_method_14_code
def yX7_hoist : MethodName := ⟨RX7, "hoist", "(I)I"⟩
abbrev cX7_lower : ByteArray := prog_9_method_15_code
def yX7_lower : MethodName := ⟨RX7, "lower", "(I)I"⟩
abbrev cX7_trim : ByteArray := prog_9_method_16_code
def yX7_trim : MethodName := ⟨RX7, "trim", "(II)I"⟩
abbrev cX7_feed : ByteArray := prog_9_method_17_code
def yX7_feed : MethodName := ⟨RX7, "feed", "(I)I"⟩
abbrev cX7_next : ByteArray := prog_9_method_18_code
def yX7_next : MethodName := ⟨RX7, "next", "()I"⟩
abbrev cX7_second : ByteArray := prog_9_method_19_code
def yX7_second : MethodName := ⟨RX7, "second", "()I"⟩
abbrev cX7_takes : ByteArray := prog_9_method_20_code
def yX7_takes : MethodName := ⟨RX7, "takes", "(I)Z"⟩
abbrev cX7_takesWord : ByteArray := prog_9_method_21_code
def yX7_takesWord : MethodName := ⟨RX7, "takesWord", "(II)Z"⟩
abbrev cX7_isDigit : ByteArray := prog_9_method_22_code
def yX7_isDigit : MethodName := ⟨RX7, "isDigit", "()Z"⟩
abbrev cX7_takesNumber : ByteArray := prog_9_method_23_code
def yX7_takesNumber : MethodName := ⟨RX7, "takesNumber", "()Z"⟩
abbrev cX7_emits : ByteArray := prog_9_method_24_code
def yX7_emits : MethodName := ⟨RX7, "emits", "(I)V"⟩
abbrev cX7_whole : ByteArray := prog_9_method_25_code
def yX7_whole : MethodName := ⟨RX7, "whole", "()V"⟩
abbrev cX7_settle : ByteArray := prog_9_method_26_code
def yX7_settle : MethodName := ⟨RX7, "settle", "(I)V"⟩
abbrev cX7_place : ByteArray := prog_9_method_27_code
def yX7_place : MethodName := ⟨RX7, "place", "(I)I"⟩
abbrev cX7_takesTest : ByteArray := prog_9_method_28_code
def yX7_takesTest : MethodName := ⟨RX7, "takesTest", "()Z"⟩
abbrev cX7_takesE : ByteArray := prog_9_method_29_code
def yX7_takesE : MethodName := ⟨RX7, "takesE", "(I)Z"⟩
abbrev cX7_takesHead : ByteArray := prog_9_method_30_code
def yX7_takesHead : MethodName := ⟨RX7, "takesHead", "(I)Z"⟩
abbrev cX7_takesClause : ByteArray := prog_9_method_31_code
def yX7_takesClause : MethodName := ⟨RX7, "takesClause", "(I)Z"⟩
abbrev cX7_goesText : ByteArray := prog_9_method_32_code
def yX7_goesText : MethodName := ⟨RX7, "goesText", "(I)Z"⟩
abbrev cX7_ocean : ByteArray := prog_9_method_33_code
def yX7_ocean : MethodName := ⟨RX7, "ocean", "()I"⟩
abbrev cX7_begin : ByteArray := prog_9_method_34_code
def yX7_begin : MethodName := ⟨RX7, "begin", "()I"⟩
abbrev cX7_behind : ByteArray := prog_9_method_35_code
def yX7_behind : MethodName := ⟨RX7, "behind", "()I"⟩
abbrev cX7_lastOf : ByteArray := prog_9_method_36_code
def yX7_lastOf : MethodName := ⟨RX7, "lastOf", "(II)I"⟩
abbrev cX7_factOf : ByteArray := prog_9_method_37_code
def yX7_factOf : MethodName := ⟨RX7, "factOf", "(II)I"⟩
abbrev cX7_holds : ByteArray := prog_9_method_38_code
def yX7_holds : MethodName := ⟨RX7, "holds", "(II)Z"⟩
abbrev cX7_heart : ByteArray := prog_9_method_39_code
def yX7_heart : MethodName := ⟨RX7, "heart", "(I)I"⟩
abbrev cX7_strength : ByteArray := prog_9_method_40_code
def yX7_strength : MethodName := ⟨RX7, "strength", "(I)I"⟩
abbrev cX7_above : ByteArray := prog_9_method_41_code
def yX7_above : MethodName := ⟨RX7, "above", "(I)I"⟩
abbrev cX7_height : ByteArray := prog_9_method_42_code
def yX7_height : MethodName := ⟨RX7, "height", "()I"⟩
abbrev cX7_load : ByteArray := prog_9_method_43_code
def yX7_load : MethodName := ⟨RX7, "load", "(I)I"⟩
abbrev cX7_milesNow : ByteArray := prog_9_method_44_code
def yX7_milesNow : MethodName := ⟨RX7, "milesNow", "()I"⟩
abbrev cX7_of : ByteArray := prog_9_method_45_code
def yX7_of : MethodName := ⟨RX7, "of", "(II)I"⟩
abbrev cX7_told : ByteArray := prog_9_method_46_code
def yX7_told : MethodName := ⟨RX7, "told", "(I)I"⟩
abbrev cX7_breaksAt : ByteArray := prog_9_method_47_code
def yX7_breaksAt : MethodName := ⟨RX7, "breaksAt", "()I"⟩
abbrev cX7_goWear : ByteArray := prog_9_method_48_code
def yX7_goWear : MethodName := ⟨RX7, "goWear", "()V"⟩
abbrev cX7_goDay : ByteArray := prog_9_method_49_code
def yX7_goDay : MethodName := ⟨RX7, "goDay", "()I"⟩
abbrev cX7_goDays : ByteArray := prog_9_method_50_code
def yX7_goDays : MethodName := ⟨RX7, "goDays", "(I)V"⟩
abbrev cX7_pass : ByteArray := prog_9_method_51_code
def yX7_pass : MethodName := ⟨RX7, "pass", "(I)I"⟩
abbrev cX7_save : ByteArray := prog_9_method_52_code
def yX7_save : MethodName := ⟨RX7, "save", "()V"⟩
abbrev cX7_putBack : ByteArray := prog_9_method_53_code
def yX7_putBack : MethodName := ⟨RX7, "putBack", "()V"⟩
abbrev cX7_on : ByteArray := prog_9_method_54_code
def yX7_on : MethodName := ⟨RX7, "on", "(II)I"⟩
abbrev cX7_firstThen : ByteArray := prog_9_method_55_code
def yX7_firstThen : MethodName := ⟨RX7, "firstThen", "(I)I"⟩
abbrev cX7_first : ByteArray := prog_9_method_56_code
def yX7_first : MethodName := ⟨RX7, "first", "(I)I"⟩
abbrev cX7_port : ByteArray := prog_9_method_57_code
def yX7_port : MethodName := ⟨RX7, "port", "(I)I"⟩
abbrev cX7_wentThen : ByteArray := prog_9_method_58_code
def yX7_wentThen : MethodName := ⟨RX7, "wentThen", "(I)I"⟩
abbrev cX7_spread : ByteArray := prog_9_method_59_code
def yX7_spread : MethodName := ⟨RX7, "spread", "()I"⟩
abbrev cX7_fewest : ByteArray := prog_9_method_60_code
def yX7_fewest : MethodName := ⟨RX7, "fewest", "(I)I"⟩
abbrev cX7_tries : ByteArray := prog_9_method_61_code
def yX7_tries : MethodName := ⟨RX7, "tries", "(IIIII)V"⟩
abbrev cX7_layBest : ByteArray := prog_9_method_62_code
def yX7_layBest : MethodName := ⟨RX7, "layBest", "(I)V"⟩
abbrev cX7_best : ByteArray := prog_9_method_63_code
def yX7_best : MethodName := ⟨RX7, "best", "(II)I"⟩
abbrev cX7_layOrder : ByteArray := prog_9_method_64_code
def yX7_layOrder : MethodName := ⟨RX7, "layOrder", "(I)Z"⟩
abbrev cX7_longest : ByteArray := prog_9_method_65_code
def yX7_longest : MethodName := ⟨RX7, "longest", "(I)I"⟩
abbrev cX7_see : ByteArray := prog_9_method_66_code
def yX7_see : MethodName := ⟨RX7, "see", "(II)I"⟩
abbrev cX7_isSeen : ByteArray := prog_9_method_67_code
def yX7_isSeen : MethodName := ⟨RX7, "isSeen", "()Z"⟩
abbrev cX7_worn : ByteArray := prog_9_method_68_code
def yX7_worn : MethodName := ⟨RX7, "worn", "(II)I"⟩
abbrev cX7_can : ByteArray := prog_9_method_69_code
def yX7_can : MethodName := ⟨RX7, "can", "(II)I"⟩
abbrev cX7_divisor : ByteArray := prog_9_method_70_code
def yX7_divisor : MethodName := ⟨RX7, "divisor", "(II)I"⟩
abbrev cX7_lowest : ByteArray := prog_9_method_71_code
def yX7_lowest : MethodName := ⟨RX7, "lowest", "(III)J"⟩
abbrev cX7_odds : ByteArray := prog_9_method_72_code
def yX7_odds : MethodName := ⟨RX7, "odds", "(II)J"⟩
abbrev cX7_mean : ByteArray := prog_9_method_73_code
def yX7_mean : MethodName := ⟨RX7, "mean", "(I)J"⟩
abbrev cX7_plan : ByteArray := prog_9_method_74_code
def yX7_plan : MethodName := ⟨RX7, "plan", "(II)I"⟩
abbrev cX7_goPlan : ByteArray := prog_9_method_75_code
def yX7_goPlan : MethodName := ⟨RX7, "goPlan", "(II)V"⟩
abbrev cX7_ends : ByteArray := prog_9_method_76_code
def yX7_ends : MethodName := ⟨RX7, "ends", "(I)I"⟩
abbrev cX7_book : ByteArray := prog_9_method_77_code
def yX7_book : MethodName := ⟨RX7, "book", "(II)I"⟩
abbrev cX7_looked : ByteArray := prog_9_method_78_code
def yX7_looked : MethodName := ⟨RX7, "looked", "()I"⟩
abbrev cX7_judge : ByteArray := prog_9_method_79_code
def yX7_judge : MethodName := ⟨RX7, "judge", "(II)I"⟩
abbrev cX7_image : ByteArray := prog_9_method_80_code
def yX7_image : MethodName := ⟨RX7, "image", "()I"⟩
abbrev cX7_undo : ByteArray := prog_9_method_81_code
def yX7_undo : MethodName := ⟨RX7, "undo", "()I"⟩
abbrev cX7_body : ByteArray := prog_9_method_82_code
def yX7_body : MethodName := ⟨RX7, "body", "(I)V"⟩
abbrev cX7_pieceBends : ByteArray := prog_9_method_83_code
def yX7_pieceBends : MethodName := ⟨RX7, "pieceBends", "(II)I"⟩
abbrev cX7_bendsAct : ByteArray := prog_9_method_84_code
def yX7_bendsAct : MethodName := ⟨RX7, "bendsAct", "(II)I"⟩
abbrev cX7_pieceHolds : ByteArray := prog_9_method_85_code
def yX7_pieceHolds : MethodName := ⟨RX7, "pieceHolds", "(II)I"⟩
abbrev cX7_oarHolds : ByteArray := prog_9_method_86_code
def yX7_oarHolds : MethodName := ⟨RX7, "oarHolds", "(II)I"⟩
abbrev cX7_holdsAct : ByteArray := prog_9_method_87_code
def yX7_holdsAct : MethodName := ⟨RX7, "holdsAct", "(II)I"⟩
abbrev cX7_pieceTells : ByteArray := prog_9_method_88_code
def yX7_pieceTells : MethodName := ⟨RX7, "pieceTells", "(II)I"⟩
abbrev cX7_tellsAct : ByteArray := prog_9_method_89_code
def yX7_tellsAct : MethodName := ⟨RX7, "tellsAct", "(II)I"⟩
abbrev cX7_act : ByteArray := prog_9_method_90_code
def yX7_act : MethodName := ⟨RX7, "act", "(III)I"⟩
abbrev cX7_trace : ByteArray := prog_9_method_91_code
def yX7_trace : MethodName := ⟨RX7, "trace", "(I)I"⟩
abbrev cX7_taken : ByteArray := prog_9_method_92_code
def yX7_taken : MethodName := ⟨RX7, "taken", "(II)I"⟩
abbrev cX7_count : ByteArray := prog_9_method_93_code
def yX7_count : MethodName := ⟨RX7, "count", "(I)I"⟩
abbrev cX7_isTape : ByteArray := prog_9_method_94_code
def yX7_isTape : MethodName := ⟨RX7, "isTape", "(I)Z"⟩
abbrev cX7_tape : ByteArray := prog_9_method_95_code
def yX7_tape : MethodName := ⟨RX7, "tape", "(III)I"⟩
abbrev cX7_narrow : ByteArray := prog_9_method_96_code
def yX7_narrow : MethodName := ⟨RX7, "narrow", "(IJ)J"⟩
abbrev cX7_item : ByteArray := prog_9_method_97_code
def yX7_item : MethodName := ⟨RX7, "item", "(IIJ)I"⟩
abbrev cX7_read : ByteArray := prog_9_method_98_code
def yX7_read : MethodName := ⟨RX7, "read", "(II)J"⟩
abbrev cX7_shift : ByteArray := prog_9_method_99_code
def yX7_shift : MethodName := ⟨RX7, "shift", "(IIIII)I"⟩
def RJ11 : String := "java/lang/Character"
def TJ11 : u_T := fun k => match k with
  | _ => ("", "", "", false)
abbrev cJ11_isValidCodePoint_9a6ad : ByteArray := prog_10_method_11_code
def yJ11_isValidCodePoint_9a6ad : MethodName := ⟨RJ11, "isValidCodePoint", "(I)Z"⟩
abbrev cJ11_highSurrogate_5068e : ByteArray := prog_10_method_28_code
def yJ11_highSurrogate_5068e : MethodName := ⟨RJ11, "highSurrogate", "(I)C"⟩
abbrev cJ11_lowSurrogate_5068e : ByteArray := prog_10_method_29_code
def yJ11_lowSurrogate_5068e : MethodName := ⟨RJ11, "lowSurrogate", "(I)C"⟩
def RJ9 : String := "java/lang/Math"
def TJ9 : u_T := fun k => match k with
  | _ => ("", "", "", false)
abbrev cJ9_max_7cf53 : ByteArray := prog_11_method_65_code
def yJ9_max_7cf53 : MethodName := ⟨RJ9, "max", "(II)I"⟩
abbrev cJ9_min_7cf53 : ByteArray := prog_11_method_69_code
def yJ9_min_7cf53 : MethodName := ⟨RJ9, "min", "(II)I"⟩
def RJ0 : String := "java/lang/String"
def TJ0 : u_T := fun k => match k with
  | _ => ("", "", "", false)
abbrev cJ0_length_8abf5 : ByteArray := prog_12_method_54_code
def yJ0_length_8abf5 : MethodName := ⟨RJ0, "length", "()I"⟩
abbrev cJ0_charAt_5068e : ByteArray := prog_12_method_56_code
def yJ0_charAt_5068e : MethodName := ⟨RJ0, "charAt", "(I)C"⟩
abbrev cJ0_indexOf_0f7a4 : ByteArray := prog_12_method_79_code
def yJ0_indexOf_0f7a4 : MethodName := ⟨RJ0, "indexOf", "(I)I"⟩
abbrev cJ0_indexOf_7cf53 : ByteArray := prog_12_method_80_code
def yJ0_indexOf_7cf53 : MethodName := ⟨RJ0, "indexOf", "(II)I"⟩
abbrev cJ0_coder_7d493 : ByteArray := prog_12_method_152_code
def yJ0_coder_7d493 : MethodName := ⟨RJ0, "coder", "()B"⟩
abbrev cJ0_isLatin1_aae02 : ByteArray := prog_12_method_154_code
def yJ0_isLatin1_aae02 : MethodName := ⟨RJ0, "isLatin1", "()Z"⟩
abbrev cJ0_checkIndex_df160 : ByteArray := prog_12_method_155_code
def yJ0_checkIndex_df160 : MethodName := ⟨RJ0, "checkIndex", "(II)V"⟩
abbrev cJ0_checkBoundsBeginEnd_23922 : ByteArray := prog_12_method_158_code
def yJ0_checkBoundsBeginEnd_23922 : MethodName := ⟨RJ0, "checkBoundsBeginEnd", "(III)V"⟩
def RJ1 : String := "java/lang/StringLatin1"
def TJ1 : u_T := fun k => match k with
  | _ => ("", "", "", false)
abbrev cJ1_charAt_3b067 : ByteArray := prog_13_method_2_code
def yJ1_charAt_3b067 : MethodName := ⟨RJ1, "charAt", "([BI)C"⟩
abbrev cJ1_canEncode_9a6ad : ByteArray := prog_13_method_4_code
def yJ1_canEncode_9a6ad : MethodName := ⟨RJ1, "canEncode", "(I)Z"⟩
abbrev cJ1_indexOf_4cfef : ByteArray := prog_13_method_22_code
def yJ1_indexOf_4cfef : MethodName := ⟨RJ1, "indexOf", "([BIII)I"⟩
abbrev cJ1_indexOfChar_4cfef : ByteArray := prog_13_method_23_code
def yJ1_indexOfChar_4cfef : MethodName := ⟨RJ1, "indexOfChar", "([BIII)I"⟩
def RJ2 : String := "java/lang/StringUTF16"
def TJ2 : u_T := fun k => match k with
  | _ => ("", "", "", false)
abbrev cJ2_getChar_3b067 : ByteArray := prog_14_method_5_code
def yJ2_getChar_3b067 : MethodName := ⟨RJ2, "getChar", "([BI)C"⟩
abbrev cJ2_length_9d52b : ByteArray := prog_14_method_6_code
def yJ2_length_9d52b : MethodName := ⟨RJ2, "length", "([B)I"⟩
abbrev cJ2_indexOf_4cfef : ByteArray := prog_14_method_40_code
def yJ2_indexOf_4cfef : MethodName := ⟨RJ2, "indexOf", "([BIII)I"⟩
abbrev cJ2_indexOfChar_4cfef : ByteArray := prog_14_method_47_code
def yJ2_indexOfChar_4cfef : MethodName := ⟨RJ2, "indexOfChar", "([BIII)I"⟩
abbrev cJ2_indexOfCharUnsafe_4cfef : ByteArray := prog_14_method_48_code
def yJ2_indexOfCharUnsafe_4cfef : MethodName := ⟨RJ2, "indexOfCharUnsafe", "([BIII)I"⟩
abbrev cJ2_indexOfSupplementary_4cfef : ByteArray := prog_14_method_49_code
def yJ2_indexOfSupplementary_4cfef : MethodName := ⟨RJ2, "indexOfSupplementary", "([BIII)I"⟩
abbrev cJ2_charAt_3b067 : ByteArray := prog_14_method_83_code
def yJ2_charAt_3b067 : MethodName := ⟨RJ2, "charAt", "([BI)C"⟩
abbrev cJ2_checkIndex_2214a : ByteArray := prog_14_method_91_code
def yJ2_checkIndex_2214a : MethodName := ⟨RJ2, "checkIndex", "(I[B)V"⟩
abbrev cJ2_checkBoundsBeginEnd_d044e : ByteArray := prog_14_method_93_code
def yJ2_checkBoundsBeginEnd_d044e : MethodName := ⟨RJ2, "checkBoundsBeginEnd", "(II[B)V"⟩
def RJ10 : String := "java/lang/System"
def TJ10 : u_T := fun k => match k with
  | _ => ("", "", "", false)
def RJ3 : String := "jdk/internal/util/Preconditions"
def TJ3 : u_T := fun k => match k with
  | _ => ("", "", "", false)
abbrev cJ3_checkIndex_8e157 : ByteArray := prog_16_method_11_code
def yJ3_checkIndex_8e157 : MethodName := ⟨RJ3, "checkIndex", "(IILjava/util/function/BiFunction;)I"⟩
abbrev cJ3_checkFromToIndex_8c36e : ByteArray := prog_16_method_12_code
def yJ3_checkFromToIndex_8c36e : MethodName := ⟨RJ3, "checkFromToIndex", "(IIILjava/util/function/BiFunction;)I"⟩
def RL : String := "MastLeftLaw"
abbrev cL_law : ByteArray := code
def yL_law : MethodName := ⟨RL, "law", "([I)Z"⟩
end
section
/-! THE LOGIC: one world for all objects (class, reference), a state of numbers, and what a piece of code makes of it -/
def TBL : List Cond := lw_tbl.filter goodWord
theorem tbl_in (i : Nat) {w : Cond} (h : tables_1[i]? = some w) (hg : goodWord w = true) : w ∈ TBL := List.mem_filter.mpr ⟨List.mem_append_right _ (List.mem_of_getElem? h), hg⟩
theorem tbl_sel (i : Nat) {q : MethodName × Nat} (h : lw_privs[i]? = some q) : Cond.selects q.1.cls q.1 q.1 ∈ TBL := List.mem_filter.mpr ⟨List.mem_append_left _ (List.mem_map.mpr ⟨q, List.mem_of_getElem? h, rfl⟩), by first | rfl | simp [goodWord, Cond.onTables, Cond.keeps, Cond.steady]⟩
abbrev HP : Type := (Nat → Nat → Int32) × (Nat → Nat → Int64) × (Nat → Option Nat)
abbrev SC : Type := Nat × Nat × List Nat
abbrev XE : Type := (Nat → Nat) × (Nat → ClassId) × va_G × (Nat → Nat) × Nat × (Nat → Int32)
abbrev MD : Type := MethodName × ByteArray × Nat × Option FieldType
def CL : List vw_C := [(RX0, TX0, 5), (RX1, TX1, 14), (RX2, TX2, 7), (RX3, TX3, 3), (RX4, TX4, 3), (RX5, TX5, 4), (RX6, TX6, 15), (RX7, TX7, 87)]
def TY (X : XE) : List (ClassId × FieldType) := [(X.2.1 1, .int), (X.2.1 2, .long), (X.2.1 3, .byte), (X.2.1 4, .boolean), (X.2.1 5, .object RX2), (X.2.1 6, .object RX4)]
def L6 : List Nat := [6, 14, 22, 30, 33, 36, 39, 42, 45, 0, 48, 0, 79, 81, 83]
def L7 : List Nat := [0, 0, 0, 0, 0, 0, 97, 98, 99, 100, 101, 102, 103, 0, 0, 0, 0, 0, 104, 105, 106, 107, 108, 109, 110, 111, 0, 0, 0, 112, 113, 0, 0, 114, 0, 0, 0, 0, 0, 115, 116, 117, 118, 0, 119, 0, 0, 120, 0, 121, 122, 0, 0, 123, 124, 125, 126, 0, 0, 0, 0, 0, 0, 0, 0, 0, 0, 0, 127, 128, 129, 130, 131, 132, 133, 134, 135, 136, 137, 138, 139, 0, 140, 141, 142, 143, 144]
/-- which cell a field that never changes names -/
def lr (k ci j : Nat) : Nat := if ci = 6 then L6.getD j 0 else if ci = 7 then L7.getD j 0 else k + 1 + j
def lra (t j : Nat) : Nat := if t = 5 then 49 + 5 * j else 84 + 2 * j
def fval (ad : Nat → Nat) (h : HP) (k ci j t : Nat) : Value := if t = 0 then .int (h.1 k j) else if t = 2 then .ref (ad (lr k ci j)) else va_rf ((h.2.2 k).map ad)
def cellE (X : XE) (h : HP) (k : Nat) (c : SC) : va_E := if c.1 = 0 then .inr (c.2.1, c.2.2.mapIdx (fun j t => fval X.1 h k c.2.1 j t)) else if c.1 = 1 then .inl (X.2.1 1, c.2.1, .inl (h.1 k)) else if c.1 = 2 then .inl (X.2.1 2, c.2.1, .inr (.inl (h.2.1 k))) else if c.1 = 3 then .inl (X.2.1 3, c.2.1, .inl (h.1 k)) else if c.1 = 4 then .inl (X.2.1 4, c.2.1, .inl (h.1 k)) else .inl (X.2.1 c.1, c.2.1, .inr (.inr (.inr (.inr (fun j => some (X.1 (lra c.1 j)))))))
def SH : List SC := [(0, 6, [2, 2, 2, 2, 2, 2, 2, 2, 2, 0, 2, 0, 2, 2, 2]), (0, 2, [2, 2, 2, 2, 0, 0, 0]), (1, 100, []), (1, 100, []), (1, 100, []), (1, 6, []), (0, 1, [2, 2, 2, 2, 2, 2, 2, 0, 0, 0, 0, 0, 0, 3]), (1, 6, []), (1, 6, []), (1, 6, []), (1, 6, []), (1, 6, []), (1, 24, []), (1, 3, []), (0, 1, [2, 2, 2, 2, 2, 2, 2, 0, 0, 0, 0, 0, 0, 3]), (1, 6, []), (1, 6, []), (1, 6, []), (1, 6, []), (1, 6, []), (1, 24, []), (1, 3, []), (0, 1, [2, 2, 2, 2, 2, 2, 2, 0, 0, 0, 0, 0, 0, 3]), (1, 6, []), (1, 6, []), (1, 6, []), (1, 6, []), (1, 6, []), (1, 24, []), (1, 3, []), (0, 3, [2, 2, 0]), (1, 5, []), (1, 5, []), (0, 3, [2, 2, 0]), (1, 10, []), (1, 10, []), (0, 3, [2, 2, 0]), (1, 8, []), (1, 8, []), (0, 3, [2, 2, 0]), (1, 5, []), (1, 5, []), (0, 3, [2, 2, 0]), (1, 10, []), (1, 10, []), (0, 3, [2, 2, 0]), (1, 8, []), (1, 8, []), (5, 6, []), (0, 2, [2, 2, 2, 2, 0, 0, 0]), (1, 100, []), (1, 100, []), (1, 100, []), (1, 6, []), (0, 2, [2, 2, 2, 2, 0, 0, 0]), (1, 100, []), (1, 100, []), (1, 100, []), (1, 6, []), (0, 2, [2, 2, 2, 2, 0, 0, 0]), (1, 100, []), (1, 100, []), (1, 100, []), (1, 6, []), (0, 2, [2, 2, 2, 2, 0, 0, 0]), (1, 100, []), (1, 100, []), (1, 100, []), (1, 6, []), (0, 2, [2, 2, 2, 2, 0, 0, 0]), (1, 100, []), (1, 100, []), (1, 100, []), (1, 6, []), (0, 2, [2, 2, 2, 2, 0, 0, 0]), (1, 100, []), (1, 100, []), (1, 100, []), (1, 6, []), (0, 5, [2, 3, 0, 0]), (3, 100, []), (0, 0, [2, 0, 0, 0, 0]), (1, 20, []), (6, 6, []), (0, 4, [2, 0, 0]), (2, 60, []), (0, 4, [2, 0, 0]), (2, 60, []), (0, 4, [2, 0, 0]), (2, 60, []), (0, 4, [2, 0, 0]), (2, 60, []), (0, 4, [2, 0, 0]), (2, 60, []), (0, 4, [2, 0, 0]), (2, 60, []), (0, 7, [0, 0, 0, 0, 0, 0, 2, 2, 2, 2, 2, 2, 2, 0, 0, 0, 0, 0, 2, 2, 2, 2, 2, 2, 2, 2, 0, 0, 0, 2, 2, 0, 0, 2, 0, 0, 0, 0, 0, 2, 2, 2, 2, 0, 2, 0, 0, 2, 0, 2, 2, 0, 0, 2, 2, 2, 2, 0, 0, 0, 0, 0, 0, 0, 0, 0, 0, 0, 2, 2, 2, 2, 2, 2, 2, 2, 2, 2, 2, 2, 2, 0, 2, 2, 2, 2, 2]), (1, 6, []), (1, 6, []), (1, 6, []), (1, 6, []), (1, 6, []), (1, 24, []), (1, 3, []), (1, 100, []), (1, 6, []), (1, 60, []), (1, 60, []), (1, 60, []), (1, 60, []), (1, 600, []), (1, 101, []), (1, 16, []), (4, 100, []), (1, 3, []), (1, 6, []), (1, 6, []), (1, 6, []), (1, 3, []), (1, 3, []), (1, 3, []), (1, 5, []), (1, 5, []), (1, 10, []), (1, 10, []), (1, 8, []), (1, 8, []), (1, 6, []), (1, 6, []), (1, 6, []), (1, 6, []), (1, 6, []), (1, 24, []), (1, 3, []), (1, 5, []), (1, 5, []), (1, 10, []), (1, 10, []), (1, 8, []), (1, 8, []), (1, 20, []), (1, 6, []), (1, 6, []), (2, 360, []), (2, 60, [])]
def wld (X : XE) (h : HP) : va_W := SH.mapIdx (fun k c => (X.1 k, cellE X h k c))
theorem wld_at (X : XE) (h : HP) {k : Nat} {c : SC} (hk : SH[k]? = some c) : (wld X h)[k]? = some (X.1 k, cellE X h k c) := by simp [wld, hk]
theorem wld_inv (X : XE) (h : HP) {k : Nat} {q : Nat × va_E} (hk : (wld X h)[k]? = some q) : ∃ c, SH[k]? = some c ∧ q = (X.1 k, cellE X h k c) := by
  simp only [wld, List.getElem?_mapIdx, Option.map_eq_some_iff] at hk
  obtain ⟨c, h1, h2⟩ := hk
  exact ⟨c, h1, h2.symm⟩
theorem wld_set (X : XE) (h h' : HP) {k : Nat} {c : SC} {e : va_E} (hk : SH[k]? = some c) (he : cellE X h' k c = e) (ho : ∀ j c', SH[j]? = some c' → j ≠ k → cellE X h' j c' = cellE X h j c') : (wld X h).set k (X.1 k, e) = wld X h' := by
  subst he
  apply List.ext_getElem?
  intro i
  rw [List.getElem?_set]
  by_cases hi : k = i
  · subst hi
    have hl : k < (wld X h).length := (List.getElem?_eq_some_iff.mp (wld_at X h hk)).1
    rw [if_pos rfl, if_pos hl, wld_at X h' hk]
  · rw [if_neg hi]
    cases hs : SH[i]? with
    | none => simp [wld, hs]
    | some c' => rw [wld_at X h hs, wld_at X h' hs, ho i c' hs (fun e => hi e.symm)]
/-- addresses don't depend on what the cells hold -/
theorem wld_D {A : Nat → Prop} {X : XE} {h h' : HP} (hD : va_D A (wld X h)) : va_D A (wld X h') := by
  refine ⟨fun i j p q hp hq e => ?_, fun k q hk => ?_⟩
  · obtain ⟨c, h1, rfl⟩ := wld_inv X h' hp
    obtain ⟨c', h1', rfl⟩ := wld_inv X h' hq
    exact hD.1 i j _ _ (wld_at X h h1) (wld_at X h h1') e
  · obtain ⟨c, h1, rfl⟩ := wld_inv X h' hk
    have h2 := hD.2 k _ (wld_at X h h1)
    exact h2
theorem wld_A {X : XE} {h h' : HP} {sz q : Nat} (hq : va_A (wld X h) sz q) : va_A (wld X h') sz q := by
  rcases hq with ⟨k, e, hk⟩ | hq
  · obtain ⟨c, h1, h2⟩ := wld_inv X h hk
    exact Or.inl ⟨k, cellE X h' k c, by rw [wld_at X h' h1]; cases h2; rfl⟩
  · exact Or.inr hq
def si (h : HP) (k j : Nat) (v : Int32) : HP := (va_up h.1 k (va_up (h.1 k) j v), h.2)
def sl (h : HP) (k j : Nat) (v : Int64) : HP := (h.1, va_up h.2.1 k (va_up (h.2.1 k) j v), h.2.2)
def sr (h : HP) (k : Nat) (v : Option Nat) : HP := (h.1, h.2.1, va_up h.2.2 k v)
/-- what never changes, outside the world: the tables, the texts, the script -/
def EX (X : XE) (A : Nat → Prop) (U : State) (H : Heap) : Prop :=
  (va_Z RX6 "KIND_ABOVE" "[I" (.ref (X.2.2.2.1 0)) A U H ∧ va_T .int (X.2.2.2.1 0) 7 (fun j => .int (([-1, 0, 0, 0, 1, 2, 3] : List Int32).getD j 0)) A U H ∧
  va_Z RX0 "BODIES" "[I" (.ref (X.2.2.2.1 1)) A U H ∧ va_T .int (X.2.2.2.1 1) 21 (fun j => .int (([10, 11, 12, 0, 20, 0, 30, 0, 0, 0, 0, 40, 50, 51, 0, 0, 0, 60, 71, 70, 0] : List Int32).getD j 0)) A U H) ∧
  (va_Z "java/lang/String" "COMPACT_STRINGS" "Z" (.int 1) A U H ∧ vk_S 2 [16, 6] [[102, 105, 114, 109, 119, 101, 97, 107, 119, 105, 110, 100, 108, 97, 115, 104], [112, 107, 118, 108, 119, 100]] (fun i => X.2.2.2.1 (2 + i)) (fun i => X.2.2.2.1 (4 + i)) A U H) ∧
  (va_X (X.2.2.2.1 6) X.2.2.2.2.1 X.2.2.2.2.2 U H ∧ X.2.2.2.1 6 < H.size ∧ ¬ A (X.2.2.2.1 6)) ∧
  (vk_R RX5 71 "firmweakwindlash" (X.2.2.2.1 2) U ∧ vk_R RX5 63 "pkvlwd" (X.2.2.2.1 3) U ∧ va_Nw (.fieldLinkNest RX0 39 RX6 "KIND_ABOVE" "[I" RX6) U)
theorem EX.kept {X : XE} {A : Nat → Prop} {U : State} {H H1 : Heap} (h : EX X A U H) (hz : H.size ≤ H1.size) (hq : ∀ a : Nat, a < H.size → ¬ A a → H1[a]? = H[a]?) : EX X A U H1 := by
  obtain ⟨⟨a1, a2, a3, a4⟩, ⟨b1, b2⟩, ⟨c1, c2, c3⟩, d⟩ := h
  exact ⟨⟨a1.kept hq, a2.kept hq, a3.kept hq, a4.kept hq⟩, ⟨b1.kept hq, b2.kept hq⟩, ⟨c1.kept (hq _ c2 c3), Nat.lt_of_lt_of_le c2 hz, c3⟩, d⟩
theorem EX.narrow {X : XE} {A B : Nat → Prop} {U : State} {H : Heap} (h : EX X A U H) (hAB : ∀ q, B q → A q) : EX X B U H := by
  obtain ⟨⟨a1, a2, a3, a4⟩, ⟨b1, b2⟩, ⟨c1, c2, c3⟩, d⟩ := h
  exact ⟨⟨a1.narrow hAB, a2.narrow hAB, a3.narrow hAB, a4.narrow hAB⟩, ⟨b1.narrow hAB, b2.narrow hAB⟩, ⟨c1, c2, fun z => c3 (hAB _ z)⟩, d⟩
theorem EX.warm {X : XE} {A : Nat → Prop} {s U : State} {H : Heap} (hW : s.WarmedH U.vm) (h : EX X A s H) : EX X A U H := by
  obtain ⟨⟨a1, a2, a3, a4⟩, ⟨b1, b2⟩, ⟨c1, c2, c3⟩, d1, d2, d3⟩ := h
  have hv := hW.alike
  exact ⟨⟨a1.moved hv, a2.moved hv, a3.moved hv, a4.moved hv⟩, ⟨b1.moved hv, b2.moved hv⟩, ⟨c1.moved hv, c2, c3⟩, vk_R.warm hW d1, vk_R.warm hW d2, va_Nw.warmF hW d3⟩
theorem EX.same {X : XE} {A : Nat → Prop} {u U : State} {H : Heap} (hvm : U.vm = u.vm) (h : EX X A u H) : EX X A U H := by
  obtain ⟨⟨a1, a2, a3, a4⟩, ⟨b1, b2⟩, ⟨c1, c2, c3⟩, d1, d2, d3⟩ := h
  have hv : u.vm.Alike U.vm := by rw [hvm]; exact Vm.Alike.refl u.vm
  exact ⟨⟨a1.moved hv, a2.moved hv, a3.moved hv, a4.moved hv⟩, ⟨b1.moved hv, b2.moved hv⟩, ⟨c1.moved hv, c2, c3⟩, vk_R.same hvm d1, vk_R.same hvm d2, va_Nw.same rfl hvm.symm d3⟩
def CTX (Y : MD) (d : Nat) (X : XE) (p : Program) (R : Room) (s : State) (m : MethodId) (args : Array Value) (c : Code) (A : Nat → Prop) : Prop :=
  (p.tables.exec = Jvm.exec ∧ c.code = Y.2.1 ∧ c.maxLocals = Y.2.2.1 ∧ s.vm.findClass Y.1.cls = some m.cls ∧ ∀ w ∈ TBL, w.before args s = true) ∧ d ≤ R.frames ∧ 60 * d ≤ R.locals ∧ (∀ q, s.heap.size ≤ q → A q) ∧ EX X A s s.heap ∧ va_K X.2.2.1 CL (TY X) s
def INV (X : XE) (A : Nat → Prop) (s : State) (H : Heap) (locs : List Loc) (h : HP) : Prop := va_P X.2.2.1 CL (wld X h) H ∧ va_D A (wld X h) ∧ va_S A s.heap H locs
def RTI (ret : Option FieldType) (i : Instr) (r : Option Value) : Prop := (i = .ireturn ∧ ∃ (v : Int32) (ty : FieldType), r = some (.int v) ∧ ret = some ty ∧ narrow ty (.int v) = .int v) ∨ (i = .lreturn ∧ ∃ v, r = some (.long v) ∧ ret = some .long) ∨ (i = .return_ ∧ r = none ∧ ret = none)
/-- from here the code comes to its return, with r, and the numbers h' -/
def Run (Y : MD) (d : Nat) (X : XE) (pc : Nat) (lv : List (Nat × Value)) (st : List Value) (h : HP) (r : Option Value) (h' : HP) : Prop :=
  ∀ (p : Program) (l : Launch) (e : Env) (R : Room) (s : State) (m : MethodId) (args : Array Value) (below : List Frame) (meth : Method) (c : Code) (A : Nat → Prop) (cells slots : Nat) (Q : State → Prop),
    CTX Y d X p R s m args c A → cells ≤ R.cells → slots ≤ R.slots →
    (∀ (H : Heap) (locs : List Loc) (ls : Array Slot) (pcR : Nat) (i : Instr), decode Y.2.1 pcR = .ok (i, 1) → RTI Y.2.2.2 i r → INV X A s H locs h' → W p l e R s m args below meth c H locs cells slots Q (F0 m pcR ls r.toList)) →
    ∀ (H : Heap) (locs : List Loc) (ls : Array Slot), INV X A s H locs h → lv_has ls Y.2.2.1 lv → W p l e R s m args below meth c H locs cells slots Q (F0 m pc ls st)
def QV (r : Option Value) (B : State → Prop) (A : Nat → Prop) : Array Value → State → Outcome → State → Prop := fun _ st oc t => (oc = .returned r ∧ B t) ∧ va_F A st t
/-- the contract: called with these, from the numbers h, any call of the method answers r and leaves h' -/
def CC (Y : MD) (d : Nat) (X : XE) (as : List Value) (h : HP) (r : Option Value) (h' : HP) : Prop :=
  ∀ (l : Launch) (sz : Nat), Met l Y.1 (.code Y.1 Y.2.1 Y.2.2.1 Y.2.2.2 :: TBL) ({ frames := d, cells := 0, slots := 0, locals := 60 * d }) (va_Pc as (fun U => U.heap.size = sz ∧ va_P X.2.2.1 CL (wld X h) U.heap ∧ va_K X.2.2.1 CL (TY X) U ∧ va_D (fun _ => True) (wld X h) ∧ EX X (va_A (wld X h) sz) U U.heap)) (QV r (fun t => va_P X.2.2.1 CL (wld X h') t.heap) (va_A (wld X h) sz)) 0 0 (va_A (wld X h) sz)
set_option maxHeartbeats 4000000 in
theorem CC_of {Y : MD} {d : Nat} {X : XE} {as : List Value} {h h' : HP} {r : Option Value} (hy : plainName Y.1.cls = true) (hn : (lg_sl as).length ≤ Y.2.2.1) (hR : Run Y d X 0 (lv_args 0 as) [] h r h') : CC Y d X as h r h' := by
  obtain ⟨y, code, nL, ret⟩ := Y
  intro l sz
  refine Met.ofW (cc := code) (maxL := nL) (ret := ret) hy rfl ?_
  intro p e s m args below meth c s₁ B hml hv
  obtain ⟨rfl, hsz, hP, hK, hD0, hE⟩ := hv
  have hts := atoms_spec (ws := .code y code nL ret :: TBL) B.pre
  have hown : s.vm.findClass y.cls = some m.cls := findClass_of_methodNamed B.named
  have hrt := B.returns
  have hlocks := B.notSynchronized
  subst hsz
  have hD := hD0.self (sz := s.heap.size)
  have hl := lv_entry as (n := nL) hn
  rw [lg_entry_eq]
  refine hR p l e _ s m as.toArray below meth c (va_A (wld X h) s.heap.size) 0 0 _ ⟨⟨B.exec, B.bytes, hml, hown, fun w hw => hts w (List.mem_cons_of_mem _ hw)⟩, Nat.le_refl d, Nat.le_refl _, fun q hq => Or.inr hq, hE, hK⟩ (Nat.le_refl 0) (Nat.le_refl 0) ?_ s.heap [] _ ⟨hP, hD, va_S.rf⟩ hl
  intro H locs ls pcR i hdg hi hI
  obtain ⟨hP9, hD9, hS9⟩ := hI
  have hq : ∀ t : State, t.heap = H → s.WarmedH t.vm → QV r (fun t => va_P X.2.2.1 CL (wld X h') t.heap) (va_A (wld X h) s.heap.size) as.toArray s (.returned r) t := fun t ht _ => ⟨⟨rfl, by show va_P X.2.2.1 CL (wld X h') t.heap; rw [ht]; exact hP9⟩, hS9.F ht⟩
  rcases hi with ⟨rfl, v, ty, rfl, he, hnn⟩ | ⟨rfl, v, rfl, he⟩ | ⟨rfl, rfl, he⟩
  · exact W.zret (v := v) B.exec B.bytes (hrt.trans he) hnn hq hS9.2.2 hdg hlocks
  · exact W.lret (v := v) B.exec B.bytes (hrt.trans he) hq hS9.2.2 hdg hlocks
  · exact W.vret B.exec B.bytes (hrt.trans he) hq hS9.2.2 hdg hlocks
section VCG
variable {p : Program} {l : Launch} {e : Env} {R : Room} {s : State} {m : MethodId} {args : Array Value} {below : List Frame} {meth : Method} {c : Code} {H : Heap} {locs : List Loc} {cells slots : Nat} {Q : State → Prop}
variable {pc : Nat} {ls : Array Slot} {rest st0 : List Value} {a : Array Value} {A0 A1 : Nat → Prop} {H0 : Heap} {free : Addr → Prop}
theorem va_callg {r : Option Value} {B : State → Prop} (hr : va_Run p l e R s m args below meth c H locs cells slots 0 0 (F0 m pc ls st0) rest (QV r B A1 a) free) (hS : va_S A0 H0 H locs) (hA : ∀ q, q < H.size → A1 q → A0 q) (hf : ∀ q, free q → A0 q)
    (kk : ∀ (t : State) (H1 : Heap) (locs1 : List Loc), t.heap = H1 → B t → H.size ≤ H1.size → (∀ q : Nat, q < H.size → ¬ A1 q → H1[q]? = H[q]?) → va_S A0 H0 H1 locs1 → W p l e R s m args below meth c H1 locs1 cells slots Q (F0 m (pc + 3) ls (r.toList ++ rest))) : W p l e R s m args below meth c H locs cells slots Q (F0 m pc ls st0) := by
  intro T hT X
  obtain ⟨v, st₀, t, T', L, h0, X', hL, e1, e2, ⟨⟨hv, hb⟩, hz, hk⟩, st⟩ := hr T hT X
  cases hv
  rw [h0] at hz hk
  obtain ⟨t2, a1, b1⟩ := kk t T'.heap (locs ++ L) e1.symm hb (by rw [e1]; exact hz) (fun q h1 h2 => by rw [e1]; exact hk q h1 h2)
    ⟨Nat.le_trans hS.1 (by rw [e1]; exact hz), fun q h1 h2 => by rw [e1, hk q (Nat.lt_of_lt_of_le h1 hS.1) (fun z => h2 (hA q (Nat.lt_of_lt_of_le h1 hS.1) z))]; exact hS.2.1 q h1 h2, fun q hq => by
      rcases List.mem_append.mp hq with h | h
      · exact hS.2.2 q h
      · exact hf _ (hL q h)⟩ T' rfl X'
  exact ⟨t2, st t2 a1, b1⟩
end VCG
end
section
section RR
variable {Y : MD} {d : Nat} {X : XE} {pc : Nat} {lv : List (Nat × Value)} {st : List Value} {h h1 h2 h' : HP} {r : Option Value}
theorem r_iload_n (n9 : Nat) (hp : pc + 1 = n9) {k : Fin 4} {i : Nat} {x : Int32} (n : Nat) (hk : lv[n]? = some (i, .int x)) (hi : (k : Nat) = i) (hdg : decode Y.2.1 pc = .ok (.iload_n k, 1)) (kk : Run Y d X n9 lv (.int x :: st) h r h') : Run Y d X pc lv (st) h r h' := by
  subst hp
  intro p l e R s m args below meth c A cells slots Q C0 c1 c2 K H locs ls hI hl
  exact lv_iload_n C0.1.1 C0.1.2.1 hdg hi (lv_at hl n hk) (kk p l e R s m args below meth c A cells slots Q C0 c1 c2 K H locs ls hI hl)
theorem r_iload (n9 : Nat) (hp : pc + 2 = n9) {i : Nat} {x : Int32} (n : Nat) (hk : lv[n]? = some (i, .int x)) (hdg : decode Y.2.1 pc = .ok (.iload i, 2)) (kk : Run Y d X n9 lv (.int x :: st) h r h') : Run Y d X pc lv (st) h r h' := by
  subst hp
  intro p l e R s m args below meth c A cells slots Q C0 c1 c2 K H locs ls hI hl
  exact lv_iload C0.1.1 C0.1.2.1 hdg (lv_at hl n hk) (kk p l e R s m args below meth c A cells slots Q C0 c1 c2 K H locs ls hI hl)
theorem r_aload_n (n9 : Nat) (hp : pc + 1 = n9) {k : Fin 4} {i : Nat} {x : Nat} (n : Nat) (hk : lv[n]? = some (i, .ref x)) (hi : (k : Nat) = i) (hdg : decode Y.2.1 pc = .ok (.aload_n k, 1)) (kk : Run Y d X n9 lv (.ref x :: st) h r h') : Run Y d X pc lv (st) h r h' := by
  subst hp
  intro p l e R s m args below meth c A cells slots Q C0 c1 c2 K H locs ls hI hl
  exact lv_aload_n C0.1.1 C0.1.2.1 hdg hi (lv_at hl n hk) (kk p l e R s m args below meth c A cells slots Q C0 c1 c2 K H locs ls hI hl)
theorem r_aload (n9 : Nat) (hp : pc + 2 = n9) {i : Nat} {x : Nat} (n : Nat) (hk : lv[n]? = some (i, .ref x)) (hdg : decode Y.2.1 pc = .ok (.aload i, 2)) (kk : Run Y d X n9 lv (.ref x :: st) h r h') : Run Y d X pc lv (st) h r h' := by
  subst hp
  intro p l e R s m args below meth c A cells slots Q C0 c1 c2 K H locs ls hI hl
  exact lv_aload C0.1.1 C0.1.2.1 hdg (lv_at hl n hk) (kk p l e R s m args below meth c A cells slots Q C0 c1 c2 K H locs ls hI hl)
theorem r_lload_n (n9 : Nat) (hp : pc + 1 = n9) {k : Fin 4} {i : Nat} {x : Int64} (n : Nat) (hk : lv[n]? = some (i, .long x)) (hi : (k : Nat) = i) (hdg : decode Y.2.1 pc = .ok (.lload_n k, 1)) (kk : Run Y d X n9 lv (.long x :: st) h r h') : Run Y d X pc lv (st) h r h' := by
  subst hp
  intro p l e R s m args below meth c A cells slots Q C0 c1 c2 K H locs ls hI hl
  exact lv_lload_n C0.1.1 C0.1.2.1 hdg hi (lv_at hl n hk) (kk p l e R s m args below meth c A cells slots Q C0 c1 c2 K H locs ls hI hl)
theorem r_lload (n9 : Nat) (hp : pc + 2 = n9) {i : Nat} {x : Int64} (n : Nat) (hk : lv[n]? = some (i, .long x)) (hdg : decode Y.2.1 pc = .ok (.lload i, 2)) (kk : Run Y d X n9 lv (.long x :: st) h r h') : Run Y d X pc lv (st) h r h' := by
  subst hp
  intro p l e R s m args below meth c A cells slots Q C0 c1 c2 K H locs ls hI hl
  exact lv_lload C0.1.1 C0.1.2.1 hdg (lv_at hl n hk) (kk p l e R s m args below meth c A cells slots Q C0 c1 c2 K H locs ls hI hl)
theorem r_istore_n (n9 : Nat) (hp : pc + 1 = n9) {lv' : List (Nat × Value)} {k : Fin 4} {i : Nat} {x : Int32} (hdg : decode Y.2.1 pc = .ok (.istore_n k, 1)) (hn : i < Y.2.2.1) (hl' : (i, Value.int x) :: lv.filter (fun q => !(q.1 == i) && !(q.1 + 1 == i && q.2.category == 2)) = lv') (hi : (k : Nat) = i) (kk : Run Y d X n9 lv' st h r h') : Run Y d X pc lv (.int x :: st) h r h' := by
  subst hp
  intro p l e R s m args below meth c A cells slots Q C0 c1 c2 K H locs ls hI hl
  exact lv_istore_n C0.1.1 C0.1.2.1 hdg hi hl hn hl' (fun ls' hl9 => kk p l e R s m args below meth c A cells slots Q C0 c1 c2 K H locs ls' hI hl9)
theorem r_istore (n9 : Nat) (hp : pc + 2 = n9) {lv' : List (Nat × Value)} {i : Nat} {x : Int32} (hdg : decode Y.2.1 pc = .ok (.istore i, 2)) (hn : i < Y.2.2.1) (hl' : (i, Value.int x) :: lv.filter (fun q => !(q.1 == i) && !(q.1 + 1 == i && q.2.category == 2)) = lv') (kk : Run Y d X n9 lv' st h r h') : Run Y d X pc lv (.int x :: st) h r h' := by
  subst hp
  intro p l e R s m args below meth c A cells slots Q C0 c1 c2 K H locs ls hI hl
  exact lv_istore C0.1.1 C0.1.2.1 hdg hl hn hl' (fun ls' hl9 => kk p l e R s m args below meth c A cells slots Q C0 c1 c2 K H locs ls' hI hl9)
theorem r_astore_n (n9 : Nat) (hp : pc + 1 = n9) {lv' : List (Nat × Value)} {k : Fin 4} {i : Nat} {x : Nat} (hdg : decode Y.2.1 pc = .ok (.astore_n k, 1)) (hn : i < Y.2.2.1) (hl' : (i, Value.ref x) :: lv.filter (fun q => !(q.1 == i) && !(q.1 + 1 == i && q.2.category == 2)) = lv') (hi : (k : Nat) = i) (kk : Run Y d X n9 lv' st h r h') : Run Y d X pc lv (.ref x :: st) h r h' := by
  subst hp
  intro p l e R s m args below meth c A cells slots Q C0 c1 c2 K H locs ls hI hl
  exact lv_astore_n C0.1.1 C0.1.2.1 hdg hi hl hn hl' (fun ls' hl9 => kk p l e R s m args below meth c A cells slots Q C0 c1 c2 K H locs ls' hI hl9)
theorem r_astore (n9 : Nat) (hp : pc + 2 = n9) {lv' : List (Nat × Value)} {i : Nat} {x : Nat} (hdg : decode Y.2.1 pc = .ok (.astore i, 2)) (hn : i < Y.2.2.1) (hl' : (i, Value.ref x) :: lv.filter (fun q => !(q.1 == i) && !(q.1 + 1 == i && q.2.category == 2)) = lv') (kk : Run Y d X n9 lv' st h r h') : Run Y d X pc lv (.ref x :: st) h r h' := by
  subst hp
  intro p l e R s m args below meth c A cells slots Q C0 c1 c2 K H locs ls hI hl
  exact lv_astore C0.1.1 C0.1.2.1 hdg hl hn hl' (fun ls' hl9 => kk p l e R s m args below meth c A cells slots Q C0 c1 c2 K H locs ls' hI hl9)
theorem r_iinc (n9 : Nat) (hp : pc + 3 = n9) {lv' : List (Nat × Value)} {i : Nat} {x v : Int32} {n : Int} (k : Nat) (hdg : decode Y.2.1 pc = .ok (.iinc i n, 3)) (hk : lv[k]? = some (i, .int x)) (hv : x + Int32.ofInt n = v) (hn : i < Y.2.2.1) (hl' : (i, Value.int v) :: lv.filter (fun q => !(q.1 == i) && !(q.1 + 1 == i && q.2.category == 2)) = lv') (kk : Run Y d X n9 lv' st h r h') : Run Y d X pc lv st h r h' := by
  subst hp
  intro p l e R s m args below meth c A cells slots Q C0 c1 c2 K H locs ls hI hl
  exact lv_iinc C0.1.1 C0.1.2.1 hdg hl hk hv hn hl' (fun ls' hl9 => kk p l e R s m args below meth c A cells slots Q C0 c1 c2 K H locs ls' hI hl9)
theorem r_sub {lv' : List (Nat × Value)} (ks : List Nat) (hs : lv_pick lv ks = lv') (kk : Run Y d X pc lv' st h r h') : Run Y d X pc lv st h r h' := by
  intro p l e R s m args below meth c A cells slots Q C0 c1 c2 K H locs ls hI hl
  exact kk p l e R s m args below meth c A cells slots Q C0 c1 c2 K H locs ls hI (lv_sub hl ks hs)
theorem r_iconst (n9 : Nat) (hp : pc + 1 = n9) {n : Int} {v : Int32} (hv : Int32.ofInt n = v) (hdg : decode Y.2.1 pc = .ok (.iconst n, 1)) (kk : Run Y d X n9 lv (.int v :: st) h r h') : Run Y d X pc lv (st) h r h' := by
  subst hp
  intro p l e R s m args below meth c A cells slots Q C0 c1 c2 K H locs ls hI hl
  exact lv_iconst C0.1.1 C0.1.2.1 hdg hv (kk p l e R s m args below meth c A cells slots Q C0 c1 c2 K H locs ls hI hl)
theorem r_bipush (n9 : Nat) (hp : pc + 2 = n9) {n : Int} {v : Int32} (hv : (Int8.ofInt n).toInt32 = v) (hdg : decode Y.2.1 pc = .ok (.bipush n, 2)) (kk : Run Y d X n9 lv (.int v :: st) h r h') : Run Y d X pc lv (st) h r h' := by
  subst hp
  intro p l e R s m args below meth c A cells slots Q C0 c1 c2 K H locs ls hI hl
  exact lv_bipush C0.1.1 C0.1.2.1 hdg hv (kk p l e R s m args below meth c A cells slots Q C0 c1 c2 K H locs ls hI hl)
theorem r_sipush (n9 : Nat) (hp : pc + 3 = n9) {n : Int} {v : Int32} (hv : (Int16.ofInt n).toInt32 = v) (hdg : decode Y.2.1 pc = .ok (.sipush n, 3)) (kk : Run Y d X n9 lv (.int v :: st) h r h') : Run Y d X pc lv (st) h r h' := by
  subst hp
  intro p l e R s m args below meth c A cells slots Q C0 c1 c2 K H locs ls hI hl
  exact lv_sipush C0.1.1 C0.1.2.1 hdg hv (kk p l e R s m args below meth c A cells slots Q C0 c1 c2 K H locs ls hI hl)
theorem r_lconst (n9 : Nat) (hp : pc + 1 = n9) {n : Fin 2} {v : Int64} (hv : Int64.ofNat (n : Nat) = v) (hdg : decode Y.2.1 pc = .ok (.lconst n, 1)) (kk : Run Y d X n9 lv (.long v :: st) h r h') : Run Y d X pc lv (st) h r h' := by
  subst hp
  intro p l e R s m args below meth c A cells slots Q C0 c1 c2 K H locs ls hI hl
  exact lv_lconst C0.1.1 C0.1.2.1 hdg hv (kk p l e R s m args below meth c A cells slots Q C0 c1 c2 K H locs ls hI hl)
theorem r_ldc (n9 : Nat) (hp : pc + 2 = n9) {index : Nat} {v : Int32} (hw : Cond.constant Y.1.cls index v ∈ TBL) (hdg : decode Y.2.1 pc = .ok (.ldc index, 2)) (kk : Run Y d X n9 lv (.int v :: st) h r h') : Run Y d X pc lv (st) h r h' := by
  subst hp
  intro p l e R s m args below meth c A cells slots Q C0 c1 c2 K H locs ls hI hl
  exact lv_ldc C0.1.1 C0.1.2.1 C0.1.2.2.2.1 (C0.1.2.2.2.2 _ hw) hdg (kk p l e R s m args below meth c A cells slots Q C0 c1 c2 K H locs ls hI hl)
theorem r_ldcw (n9 : Nat) (hp : pc + 3 = n9) {index : Nat} {v : Int32} (hw : Cond.constant Y.1.cls index v ∈ TBL) (hdg : decode Y.2.1 pc = .ok (.ldc_w index, 3)) (kk : Run Y d X n9 lv (.int v :: st) h r h') : Run Y d X pc lv (st) h r h' := by
  subst hp
  intro p l e R s m args below meth c A cells slots Q C0 c1 c2 K H locs ls hI hl
  exact lv_ldcw C0.1.1 C0.1.2.1 C0.1.2.2.2.1 (C0.1.2.2.2.2 _ hw) hdg (kk p l e R s m args below meth c A cells slots Q C0 c1 c2 K H locs ls hI hl)
theorem r_ldc2 (n9 : Nat) (hp : pc + 3 = n9) {index : Nat} {v : Int64} (hw : Cond.constantLong Y.1.cls index v ∈ TBL) (hdg : decode Y.2.1 pc = .ok (.ldc2_w index, 3)) (kk : Run Y d X n9 lv (.long v :: st) h r h') : Run Y d X pc lv (st) h r h' := by
  subst hp
  intro p l e R s m args below meth c A cells slots Q C0 c1 c2 K H locs ls hI hl
  exact lv_ldc2 C0.1.1 C0.1.2.1 C0.1.2.2.2.1 (C0.1.2.2.2.2 _ hw) hdg (kk p l e R s m args below meth c A cells slots Q C0 c1 c2 K H locs ls hI hl)
theorem r_iadd (n9 : Nat) (hp : pc + 1 = n9) {x y : Int32} (hdg : decode Y.2.1 pc = .ok (.iadd, 1)) (kk : Run Y d X n9 lv (.int (x + y) :: st) h r h') : Run Y d X pc lv (.int y :: .int x :: st) h r h' := by
  subst hp
  intro p l e R s m args below meth c A cells slots Q C0 c1 c2 K H locs ls hI hl
  exact lv_iadd C0.1.1 C0.1.2.1 hdg (kk p l e R s m args below meth c A cells slots Q C0 c1 c2 K H locs ls hI hl)
theorem r_isub (n9 : Nat) (hp : pc + 1 = n9) {x y : Int32} (hdg : decode Y.2.1 pc = .ok (.isub, 1)) (kk : Run Y d X n9 lv (.int (x - y) :: st) h r h') : Run Y d X pc lv (.int y :: .int x :: st) h r h' := by
  subst hp
  intro p l e R s m args below meth c A cells slots Q C0 c1 c2 K H locs ls hI hl
  exact lv_isub C0.1.1 C0.1.2.1 hdg (kk p l e R s m args below meth c A cells slots Q C0 c1 c2 K H locs ls hI hl)
theorem r_imul (n9 : Nat) (hp : pc + 1 = n9) {x y : Int32} (hdg : decode Y.2.1 pc = .ok (.imul, 1)) (kk : Run Y d X n9 lv (.int (x * y) :: st) h r h') : Run Y d X pc lv (.int y :: .int x :: st) h r h' := by
  subst hp
  intro p l e R s m args below meth c A cells slots Q C0 c1 c2 K H locs ls hI hl
  exact lv_imul C0.1.1 C0.1.2.1 hdg (kk p l e R s m args below meth c A cells slots Q C0 c1 c2 K H locs ls hI hl)
theorem r_iand (n9 : Nat) (hp : pc + 1 = n9) {x y : Int32} (hdg : decode Y.2.1 pc = .ok (.iand, 1)) (kk : Run Y d X n9 lv (.int (x &&& y) :: st) h r h') : Run Y d X pc lv (.int y :: .int x :: st) h r h' := by
  subst hp
  intro p l e R s m args below meth c A cells slots Q C0 c1 c2 K H locs ls hI hl
  exact lv_iand C0.1.1 C0.1.2.1 hdg (kk p l e R s m args below meth c A cells slots Q C0 c1 c2 K H locs ls hI hl)
theorem r_ior (n9 : Nat) (hp : pc + 1 = n9) {x y : Int32} (hdg : decode Y.2.1 pc = .ok (.ior, 1)) (kk : Run Y d X n9 lv (.int (x ||| y) :: st) h r h') : Run Y d X pc lv (.int y :: .int x :: st) h r h' := by
  subst hp
  intro p l e R s m args below meth c A cells slots Q C0 c1 c2 K H locs ls hI hl
  exact lv_ior C0.1.1 C0.1.2.1 hdg (kk p l e R s m args below meth c A cells slots Q C0 c1 c2 K H locs ls hI hl)
theorem r_ixor (n9 : Nat) (hp : pc + 1 = n9) {x y : Int32} (hdg : decode Y.2.1 pc = .ok (.ixor, 1)) (kk : Run Y d X n9 lv (.int (x ^^^ y) :: st) h r h') : Run Y d X pc lv (.int y :: .int x :: st) h r h' := by
  subst hp
  intro p l e R s m args below meth c A cells slots Q C0 c1 c2 K H locs ls hI hl
  exact lv_ixor C0.1.1 C0.1.2.1 hdg (kk p l e R s m args below meth c A cells slots Q C0 c1 c2 K H locs ls hI hl)
theorem r_ishl (n9 : Nat) (hp : pc + 1 = n9) {x y : Int32} (hdg : decode Y.2.1 pc = .ok (.ishl, 1)) (kk : Run Y d X n9 lv (.int (x <<< (y &&& 31)) :: st) h r h') : Run Y d X pc lv (.int y :: .int x :: st) h r h' := by
  subst hp
  intro p l e R s m args below meth c A cells slots Q C0 c1 c2 K H locs ls hI hl
  exact lv_ishl C0.1.1 C0.1.2.1 hdg (kk p l e R s m args below meth c A cells slots Q C0 c1 c2 K H locs ls hI hl)
theorem r_iushr (n9 : Nat) (hp : pc + 1 = n9) {x y : Int32} (hdg : decode Y.2.1 pc = .ok (.iushr, 1)) (kk : Run Y d X n9 lv (.int (x.toUInt32 >>> (y.toUInt32 &&& Int32.toUInt32 31)).toInt32 :: st) h r h') : Run Y d X pc lv (.int y :: .int x :: st) h r h' := by
  subst hp
  intro p l e R s m args below meth c A cells slots Q C0 c1 c2 K H locs ls hI hl
  exact lv_iushr C0.1.1 C0.1.2.1 hdg rfl (kk p l e R s m args below meth c A cells slots Q C0 c1 c2 K H locs ls hI hl)
theorem r_idiv (n9 : Nat) (hp : pc + 1 = n9) {x y : Int32} (hne : ¬ y = 0) (hdg : decode Y.2.1 pc = .ok (.idiv, 1)) (kk : Run Y d X n9 lv (.int (x / y) :: st) h r h') : Run Y d X pc lv (.int y :: .int x :: st) h r h' := by
  subst hp
  intro p l e R s m args below meth c A cells slots Q C0 c1 c2 K H locs ls hI hl
  exact lv_idiv C0.1.1 C0.1.2.1 hdg hne (kk p l e R s m args below meth c A cells slots Q C0 c1 c2 K H locs ls hI hl)
theorem r_irem (n9 : Nat) (hp : pc + 1 = n9) {x y : Int32} (hne : ¬ y = 0) (hdg : decode Y.2.1 pc = .ok (.irem, 1)) (kk : Run Y d X n9 lv (.int (x - x / y * y) :: st) h r h') : Run Y d X pc lv (.int y :: .int x :: st) h r h' := by
  subst hp
  intro p l e R s m args below meth c A cells slots Q C0 c1 c2 K H locs ls hI hl
  exact lv_irem C0.1.1 C0.1.2.1 hdg hne (kk p l e R s m args below meth c A cells slots Q C0 c1 c2 K H locs ls hI hl)
theorem r_ineg (n9 : Nat) (hp : pc + 1 = n9) {x : Int32} (hdg : decode Y.2.1 pc = .ok (.ineg, 1)) (kk : Run Y d X n9 lv (.int (-x) :: st) h r h') : Run Y d X pc lv (.int x :: st) h r h' := by
  subst hp
  intro p l e R s m args below meth c A cells slots Q C0 c1 c2 K H locs ls hI hl
  exact lv_ineg C0.1.1 C0.1.2.1 hdg (kk p l e R s m args below meth c A cells slots Q C0 c1 c2 K H locs ls hI hl)
theorem r_i2l (n9 : Nat) (hp : pc + 1 = n9) {x : Int32} (hdg : decode Y.2.1 pc = .ok (.i2l, 1)) (kk : Run Y d X n9 lv (.long x.toInt64 :: st) h r h') : Run Y d X pc lv (.int x :: st) h r h' := by
  subst hp
  intro p l e R s m args below meth c A cells slots Q C0 c1 c2 K H locs ls hI hl
  exact lv_i2l C0.1.1 C0.1.2.1 hdg rfl (kk p l e R s m args below meth c A cells slots Q C0 c1 c2 K H locs ls hI hl)
theorem r_l2i (n9 : Nat) (hp : pc + 1 = n9) {x : Int64} (hdg : decode Y.2.1 pc = .ok (.l2i, 1)) (kk : Run Y d X n9 lv (.int x.toInt32 :: st) h r h') : Run Y d X pc lv (.long x :: st) h r h' := by
  subst hp
  intro p l e R s m args below meth c A cells slots Q C0 c1 c2 K H locs ls hI hl
  exact lv_l2i C0.1.1 C0.1.2.1 hdg rfl (kk p l e R s m args below meth c A cells slots Q C0 c1 c2 K H locs ls hI hl)
theorem r_i2b (n9 : Nat) (hp : pc + 1 = n9) {x : Int32} (hdg : decode Y.2.1 pc = .ok (.i2b, 1)) (kk : Run Y d X n9 lv (.int x.toInt8.toInt32 :: st) h r h') : Run Y d X pc lv (.int x :: st) h r h' := by
  subst hp
  intro p l e R s m args below meth c A cells slots Q C0 c1 c2 K H locs ls hI hl
  exact lv_i2b C0.1.1 C0.1.2.1 hdg rfl (kk p l e R s m args below meth c A cells slots Q C0 c1 c2 K H locs ls hI hl)
theorem r_i2s (n9 : Nat) (hp : pc + 1 = n9) {x : Int32} (hdg : decode Y.2.1 pc = .ok (.i2s, 1)) (kk : Run Y d X n9 lv (.int x.toInt16.toInt32 :: st) h r h') : Run Y d X pc lv (.int x :: st) h r h' := by
  subst hp
  intro p l e R s m args below meth c A cells slots Q C0 c1 c2 K H locs ls hI hl
  exact lv_i2s C0.1.1 C0.1.2.1 hdg rfl (kk p l e R s m args below meth c A cells slots Q C0 c1 c2 K H locs ls hI hl)
theorem r_i2c (n9 : Nat) (hp : pc + 1 = n9) {x : Int32} (hdg : decode Y.2.1 pc = .ok (.i2c, 1)) (kk : Run Y d X n9 lv (.int (x.toUInt32 % 65536).toInt32 :: st) h r h') : Run Y d X pc lv (.int x :: st) h r h' := by
  subst hp
  intro p l e R s m args below meth c A cells slots Q C0 c1 c2 K H locs ls hI hl
  exact lv_i2c C0.1.1 C0.1.2.1 hdg rfl (kk p l e R s m args below meth c A cells slots Q C0 c1 c2 K H locs ls hI hl)
theorem r_land (n9 : Nat) (hp : pc + 1 = n9) {x y : Int64} (hdg : decode Y.2.1 pc = .ok (.land, 1)) (kk : Run Y d X n9 lv (.long (x &&& y) :: st) h r h') : Run Y d X pc lv (.long y :: .long x :: st) h r h' := by
  subst hp
  intro p l e R s m args below meth c A cells slots Q C0 c1 c2 K H locs ls hI hl
  exact lv_land C0.1.1 C0.1.2.1 hdg (kk p l e R s m args below meth c A cells slots Q C0 c1 c2 K H locs ls hI hl)
theorem r_lor (n9 : Nat) (hp : pc + 1 = n9) {x y : Int64} (hdg : decode Y.2.1 pc = .ok (.lor, 1)) (kk : Run Y d X n9 lv (.long (x ||| y) :: st) h r h') : Run Y d X pc lv (.long y :: .long x :: st) h r h' := by
  subst hp
  intro p l e R s m args below meth c A cells slots Q C0 c1 c2 K H locs ls hI hl
  exact lv_lor C0.1.1 C0.1.2.1 hdg (kk p l e R s m args below meth c A cells slots Q C0 c1 c2 K H locs ls hI hl)
theorem r_lshl (n9 : Nat) (hp : pc + 1 = n9) {x : Int64} {y : Int32} (hdg : decode Y.2.1 pc = .ok (.lshl, 1)) (kk : Run Y d X n9 lv (.long (x <<< (y.toInt64 &&& 63)) :: st) h r h') : Run Y d X pc lv (.int y :: .long x :: st) h r h' := by
  subst hp
  intro p l e R s m args below meth c A cells slots Q C0 c1 c2 K H locs ls hI hl
  exact lv_lshl C0.1.1 C0.1.2.1 hdg rfl (kk p l e R s m args below meth c A cells slots Q C0 c1 c2 K H locs ls hI hl)
theorem r_lcmp (n9 : Nat) (hp : pc + 1 = n9) {x y : Int64} (hdg : decode Y.2.1 pc = .ok (.lcmp, 1)) (kk : Run Y d X n9 lv (.int (lg_cmp x y) :: st) h r h') : Run Y d X pc lv (.long y :: .long x :: st) h r h' := by
  subst hp
  intro p l e R s m args below meth c A cells slots Q C0 c1 c2 K H locs ls hI hl
  exact W.lcmp C0.1.1 C0.1.2.1 hdg (kk p l e R s m args below meth c A cells slots Q C0 c1 c2 K H locs ls hI hl)
theorem r_dup (n9 : Nat) (hp : pc + 1 = n9) {v : Value} (hv : v.category = 1) (hdg : decode Y.2.1 pc = .ok (.dup, 1)) (kk : Run Y d X n9 lv (v :: v :: st) h r h') : Run Y d X pc lv (v :: st) h r h' := by
  subst hp
  intro p l e R s m args below meth c A cells slots Q C0 c1 c2 K H locs ls hI hl
  exact lv_dup C0.1.1 C0.1.2.1 hdg hv (kk p l e R s m args below meth c A cells slots Q C0 c1 c2 K H locs ls hI hl)
theorem r_pop (n9 : Nat) (hp : pc + 1 = n9) {v : Value} (hv : v.category = 1) (hdg : decode Y.2.1 pc = .ok (.pop, 1)) (kk : Run Y d X n9 lv (st) h r h') : Run Y d X pc lv (v :: st) h r h' := by
  subst hp
  intro p l e R s m args below meth c A cells slots Q C0 c1 c2 K H locs ls hI hl
  exact lv_pop C0.1.1 C0.1.2.1 hdg hv (kk p l e R s m args below meth c A cells slots Q C0 c1 c2 K H locs ls hI hl)
theorem r_dup2 (n9 : Nat) (hp : pc + 1 = n9) {v u : Value} (hv : v.category = 1) (hu : u.category = 1) (hdg : decode Y.2.1 pc = .ok (.dup2, 1)) (kk : Run Y d X n9 lv (v :: u :: v :: u :: st) h r h') : Run Y d X pc lv (v :: u :: st) h r h' := by
  subst hp
  intro p l e R s m args below meth c A cells slots Q C0 c1 c2 K H locs ls hI hl
  exact lv_dup2_11 C0.1.1 C0.1.2.1 hdg hv hu (kk p l e R s m args below meth c A cells slots Q C0 c1 c2 K H locs ls hI hl)
theorem r_goto {off : Int} (tgt : Nat) (hdg : decode Y.2.1 pc = .ok (.goto off, 3)) (ht : (pc : Int) + off = (tgt : Int)) (kk : Run Y d X tgt lv st h r h') : Run Y d X pc lv st h r h' := by
  intro p l e R s m args below meth c A cells slots Q C0 c1 c2 K H locs ls hI hl
  exact lv_goto C0.1.1 C0.1.2.1 hdg ht (kk p l e R s m args below meth c A cells slots Q C0 c1 c2 K H locs ls hI hl)
theorem r_if_eq_t {x : Int32} {off : Int} (tgt : Nat) (hdg : decode Y.2.1 pc = .ok (.ifCond .eq off, 3)) (ht : (pc : Int) + off = (tgt : Int)) (hc : x = 0) (kk : Run Y d X tgt lv st h r h') : Run Y d X pc lv (.int x :: st) h r h' := by
  intro p l e R s m args below meth c A cells slots Q C0 c1 c2 K H locs ls hI hl
  exact lv_if_eq C0.1.1 C0.1.2.1 hdg ht (fun _ => (kk p l e R s m args below meth c A cells slots Q C0 c1 c2 K H locs ls hI hl)) (fun q => absurd hc q)
theorem r_if_eq_f (n9 : Nat) (hp : pc + 3 = n9) {x : Int32} {off : Int} (tgt : Nat) (hdg : decode Y.2.1 pc = .ok (.ifCond .eq off, 3)) (ht : (pc : Int) + off = (tgt : Int)) (hc : ¬ x = 0) (kk : Run Y d X n9 lv st h r h') : Run Y d X pc lv (.int x :: st) h r h' := by
  subst hp
  intro p l e R s m args below meth c A cells slots Q C0 c1 c2 K H locs ls hI hl
  exact lv_if_eq C0.1.1 C0.1.2.1 hdg ht (fun q => absurd q hc) (fun _ => (kk p l e R s m args below meth c A cells slots Q C0 c1 c2 K H locs ls hI hl))
theorem r_icmp_eq_t {x y : Int32} {off : Int} (tgt : Nat) (hdg : decode Y.2.1 pc = .ok (.if_icmp .eq off, 3)) (ht : (pc : Int) + off = (tgt : Int)) (hc : x = y) (kk : Run Y d X tgt lv st h r h') : Run Y d X pc lv (.int y :: .int x :: st) h r h' := by
  intro p l e R s m args below meth c A cells slots Q C0 c1 c2 K H locs ls hI hl
  exact lv_icmp_eq C0.1.1 C0.1.2.1 hdg ht (fun _ => (kk p l e R s m args below meth c A cells slots Q C0 c1 c2 K H locs ls hI hl)) (fun q => absurd hc q)
theorem r_icmp_eq_f (n9 : Nat) (hp : pc + 3 = n9) {x y : Int32} {off : Int} (tgt : Nat) (hdg : decode Y.2.1 pc = .ok (.if_icmp .eq off, 3)) (ht : (pc : Int) + off = (tgt : Int)) (hc : ¬ x = y) (kk : Run Y d X n9 lv st h r h') : Run Y d X pc lv (.int y :: .int x :: st) h r h' := by
  subst hp
  intro p l e R s m args below meth c A cells slots Q C0 c1 c2 K H locs ls hI hl
  exact lv_icmp_eq C0.1.1 C0.1.2.1 hdg ht (fun q => absurd q hc) (fun _ => (kk p l e R s m args below meth c A cells slots Q C0 c1 c2 K H locs ls hI hl))
theorem r_if_ne_t (n9 : Nat) (hp : pc + 3 = n9) {x : Int32} {off : Int} (tgt : Nat) (hdg : decode Y.2.1 pc = .ok (.ifCond .ne off, 3)) (ht : (pc : Int) + off = (tgt : Int)) (hc : x = 0) (kk : Run Y d X n9 lv st h r h') : Run Y d X pc lv (.int x :: st) h r h' := by
  subst hp
  intro p l e R s m args below meth c A cells slots Q C0 c1 c2 K H locs ls hI hl
  exact lv_if_ne C0.1.1 C0.1.2.1 hdg ht (fun q => absurd hc q) (fun _ => (kk p l e R s m args below meth c A cells slots Q C0 c1 c2 K H locs ls hI hl))
theorem r_if_ne_f {x : Int32} {off : Int} (tgt : Nat) (hdg : decode Y.2.1 pc = .ok (.ifCond .ne off, 3)) (ht : (pc : Int) + off = (tgt : Int)) (hc : ¬ x = 0) (kk : Run Y d X tgt lv st h r h') : Run Y d X pc lv (.int x :: st) h r h' := by
  intro p l e R s m args below meth c A cells slots Q C0 c1 c2 K H locs ls hI hl
  exact lv_if_ne C0.1.1 C0.1.2.1 hdg ht (fun _ => (kk p l e R s m args below meth c A cells slots Q C0 c1 c2 K H locs ls hI hl)) (fun q => absurd q hc)
theorem r_icmp_ne_t (n9 : Nat) (hp : pc + 3 = n9) {x y : Int32} {off : Int} (tgt : Nat) (hdg : decode Y.2.1 pc = .ok (.if_icmp .ne off, 3)) (ht : (pc : Int) + off = (tgt : Int)) (hc : x = y) (kk : Run Y d X n9 lv st h r h') : Run Y d X pc lv (.int y :: .int x :: st) h r h' := by
  subst hp
  intro p l e R s m args below meth c A cells slots Q C0 c1 c2 K H locs ls hI hl
  exact lv_icmp_ne C0.1.1 C0.1.2.1 hdg ht (fun q => absurd hc q) (fun _ => (kk p l e R s m args below meth c A cells slots Q C0 c1 c2 K H locs ls hI hl))
theorem r_icmp_ne_f {x y : Int32} {off : Int} (tgt : Nat) (hdg : decode Y.2.1 pc = .ok (.if_icmp .ne off, 3)) (ht : (pc : Int) + off = (tgt : Int)) (hc : ¬ x = y) (kk : Run Y d X tgt lv st h r h') : Run Y d X pc lv (.int y :: .int x :: st) h r h' := by
  intro p l e R s m args below meth c A cells slots Q C0 c1 c2 K H locs ls hI hl
  exact lv_icmp_ne C0.1.1 C0.1.2.1 hdg ht (fun _ => (kk p l e R s m args below meth c A cells slots Q C0 c1 c2 K H locs ls hI hl)) (fun q => absurd q hc)
theorem r_if_lt_t {x : Int32} {off : Int} (tgt : Nat) (hdg : decode Y.2.1 pc = .ok (.ifCond .lt off, 3)) (ht : (pc : Int) + off = (tgt : Int)) (hc : x < 0) (kk : Run Y d X tgt lv st h r h') : Run Y d X pc lv (.int x :: st) h r h' := by
  intro p l e R s m args below meth c A cells slots Q C0 c1 c2 K H locs ls hI hl
  exact lv_if_lt C0.1.1 C0.1.2.1 hdg ht (fun _ => (kk p l e R s m args below meth c A cells slots Q C0 c1 c2 K H locs ls hI hl)) (fun q => absurd hc q)
theorem r_if_lt_f (n9 : Nat) (hp : pc + 3 = n9) {x : Int32} {off : Int} (tgt : Nat) (hdg : decode Y.2.1 pc = .ok (.ifCond .lt off, 3)) (ht : (pc : Int) + off = (tgt : Int)) (hc : ¬ x < 0) (kk : Run Y d X n9 lv st h r h') : Run Y d X pc lv (.int x :: st) h r h' := by
  subst hp
  intro p l e R s m args below meth c A cells slots Q C0 c1 c2 K H locs ls hI hl
  exact lv_if_lt C0.1.1 C0.1.2.1 hdg ht (fun q => absurd q hc) (fun _ => (kk p l e R s m args below meth c A cells slots Q C0 c1 c2 K H locs ls hI hl))
theorem r_icmp_lt_t {x y : Int32} {off : Int} (tgt : Nat) (hdg : decode Y.2.1 pc = .ok (.if_icmp .lt off, 3)) (ht : (pc : Int) + off = (tgt : Int)) (hc : x < y) (kk : Run Y d X tgt lv st h r h') : Run Y d X pc lv (.int y :: .int x :: st) h r h' := by
  intro p l e R s m args below meth c A cells slots Q C0 c1 c2 K H locs ls hI hl
  exact lv_icmp_lt C0.1.1 C0.1.2.1 hdg ht (fun _ => (kk p l e R s m args below meth c A cells slots Q C0 c1 c2 K H locs ls hI hl)) (fun q => absurd hc q)
theorem r_icmp_lt_f (n9 : Nat) (hp : pc + 3 = n9) {x y : Int32} {off : Int} (tgt : Nat) (hdg : decode Y.2.1 pc = .ok (.if_icmp .lt off, 3)) (ht : (pc : Int) + off = (tgt : Int)) (hc : ¬ x < y) (kk : Run Y d X n9 lv st h r h') : Run Y d X pc lv (.int y :: .int x :: st) h r h' := by
  subst hp
  intro p l e R s m args below meth c A cells slots Q C0 c1 c2 K H locs ls hI hl
  exact lv_icmp_lt C0.1.1 C0.1.2.1 hdg ht (fun q => absurd q hc) (fun _ => (kk p l e R s m args below meth c A cells slots Q C0 c1 c2 K H locs ls hI hl))
theorem r_if_ge_t {x : Int32} {off : Int} (tgt : Nat) (hdg : decode Y.2.1 pc = .ok (.ifCond .ge off, 3)) (ht : (pc : Int) + off = (tgt : Int)) (hc : 0 ≤ x) (kk : Run Y d X tgt lv st h r h') : Run Y d X pc lv (.int x :: st) h r h' := by
  intro p l e R s m args below meth c A cells slots Q C0 c1 c2 K H locs ls hI hl
  exact lv_if_ge C0.1.1 C0.1.2.1 hdg ht (fun _ => (kk p l e R s m args below meth c A cells slots Q C0 c1 c2 K H locs ls hI hl)) (fun q => absurd hc q)
theorem r_if_ge_f (n9 : Nat) (hp : pc + 3 = n9) {x : Int32} {off : Int} (tgt : Nat) (hdg : decode Y.2.1 pc = .ok (.ifCond .ge off, 3)) (ht : (pc : Int) + off = (tgt : Int)) (hc : ¬ 0 ≤ x) (kk : Run Y d X n9 lv st h r h') : Run Y d X pc lv (.int x :: st) h r h' := by
  subst hp
  intro p l e R s m args below meth c A cells slots Q C0 c1 c2 K H locs ls hI hl
  exact lv_if_ge C0.1.1 C0.1.2.1 hdg ht (fun q => absurd q hc) (fun _ => (kk p l e R s m args below meth c A cells slots Q C0 c1 c2 K H locs ls hI hl))
theorem r_icmp_ge_t {x y : Int32} {off : Int} (tgt : Nat) (hdg : decode Y.2.1 pc = .ok (.if_icmp .ge off, 3)) (ht : (pc : Int) + off = (tgt : Int)) (hc : y ≤ x) (kk : Run Y d X tgt lv st h r h') : Run Y d X pc lv (.int y :: .int x :: st) h r h' := by
  intro p l e R s m args below meth c A cells slots Q C0 c1 c2 K H locs ls hI hl
  exact lv_icmp_ge C0.1.1 C0.1.2.1 hdg ht (fun _ => (kk p l e R s m args below meth c A cells slots Q C0 c1 c2 K H locs ls hI hl)) (fun q => absurd hc q)
theorem r_icmp_ge_f (n9 : Nat) (hp : pc + 3 = n9) {x y : Int32} {off : Int} (tgt : Nat) (hdg : decode Y.2.1 pc = .ok (.if_icmp .ge off, 3)) (ht : (pc : Int) + off = (tgt : Int)) (hc : ¬ y ≤ x) (kk : Run Y d X n9 lv st h r h') : Run Y d X pc lv (.int y :: .int x :: st) h r h' := by
  subst hp
  intro p l e R s m args below meth c A cells slots Q C0 c1 c2 K H locs ls hI hl
  exact lv_icmp_ge C0.1.1 C0.1.2.1 hdg ht (fun q => absurd q hc) (fun _ => (kk p l e R s m args below meth c A cells slots Q C0 c1 c2 K H locs ls hI hl))
theorem r_if_gt_t {x : Int32} {off : Int} (tgt : Nat) (hdg : decode Y.2.1 pc = .ok (.ifCond .gt off, 3)) (ht : (pc : Int) + off = (tgt : Int)) (hc : 0 < x) (kk : Run Y d X tgt lv st h r h') : Run Y d X pc lv (.int x :: st) h r h' := by
  intro p l e R s m args below meth c A cells slots Q C0 c1 c2 K H locs ls hI hl
  exact lv_if_gt C0.1.1 C0.1.2.1 hdg ht (fun _ => (kk p l e R s m args below meth c A cells slots Q C0 c1 c2 K H locs ls hI hl)) (fun q => absurd hc q)
theorem r_if_gt_f (n9 : Nat) (hp : pc + 3 = n9) {x : Int32} {off : Int} (tgt : Nat) (hdg : decode Y.2.1 pc = .ok (.ifCond .gt off, 3)) (ht : (pc : Int) + off = (tgt : Int)) (hc : ¬ 0 < x) (kk : Run Y d X n9 lv st h r h') : Run Y d X pc lv (.int x :: st) h r h' := by
  subst hp
  intro p l e R s m args below meth c A cells slots Q C0 c1 c2 K H locs ls hI hl
  exact lv_if_gt C0.1.1 C0.1.2.1 hdg ht (fun q => absurd q hc) (fun _ => (kk p l e R s m args below meth c A cells slots Q C0 c1 c2 K H locs ls hI hl))
theorem r_icmp_gt_t {x y : Int32} {off : Int} (tgt : Nat) (hdg : decode Y.2.1 pc = .ok (.if_icmp .gt off, 3)) (ht : (pc : Int) + off = (tgt : Int)) (hc : y < x) (kk : Run Y d X tgt lv st h r h') : Run Y d X pc lv (.int y :: .int x :: st) h r h' := by
  intro p l e R s m args below meth c A cells slots Q C0 c1 c2 K H locs ls hI hl
  exact lv_icmp_gt C0.1.1 C0.1.2.1 hdg ht (fun _ => (kk p l e R s m args below meth c A cells slots Q C0 c1 c2 K H locs ls hI hl)) (fun q => absurd hc q)
theorem r_icmp_gt_f (n9 : Nat) (hp : pc + 3 = n9) {x y : Int32} {off : Int} (tgt : Nat) (hdg : decode Y.2.1 pc = .ok (.if_icmp .gt off, 3)) (ht : (pc : Int) + off = (tgt : Int)) (hc : ¬ y < x) (kk : Run Y d X n9 lv st h r h') : Run Y d X pc lv (.int y :: .int x :: st) h r h' := by
  subst hp
  intro p l e R s m args below meth c A cells slots Q C0 c1 c2 K H locs ls hI hl
  exact lv_icmp_gt C0.1.1 C0.1.2.1 hdg ht (fun q => absurd q hc) (fun _ => (kk p l e R s m args below meth c A cells slots Q C0 c1 c2 K H locs ls hI hl))
theorem r_if_le_t {x : Int32} {off : Int} (tgt : Nat) (hdg : decode Y.2.1 pc = .ok (.ifCond .le off, 3)) (ht : (pc : Int) + off = (tgt : Int)) (hc : x ≤ 0) (kk : Run Y d X tgt lv st h r h') : Run Y d X pc lv (.int x :: st) h r h' := by
  intro p l e R s m args below meth c A cells slots Q C0 c1 c2 K H locs ls hI hl
  exact lv_if_le C0.1.1 C0.1.2.1 hdg ht (fun _ => (kk p l e R s m args below meth c A cells slots Q C0 c1 c2 K H locs ls hI hl)) (fun q => absurd hc q)
theorem r_if_le_f (n9 : Nat) (hp : pc + 3 = n9) {x : Int32} {off : Int} (tgt : Nat) (hdg : decode Y.2.1 pc = .ok (.ifCond .le off, 3)) (ht : (pc : Int) + off = (tgt : Int)) (hc : ¬ x ≤ 0) (kk : Run Y d X n9 lv st h r h') : Run Y d X pc lv (.int x :: st) h r h' := by
  subst hp
  intro p l e R s m args below meth c A cells slots Q C0 c1 c2 K H locs ls hI hl
  exact lv_if_le C0.1.1 C0.1.2.1 hdg ht (fun q => absurd q hc) (fun _ => (kk p l e R s m args below meth c A cells slots Q C0 c1 c2 K H locs ls hI hl))
theorem r_icmp_le_t {x y : Int32} {off : Int} (tgt : Nat) (hdg : decode Y.2.1 pc = .ok (.if_icmp .le off, 3)) (ht : (pc : Int) + off = (tgt : Int)) (hc : x ≤ y) (kk : Run Y d X tgt lv st h r h') : Run Y d X pc lv (.int y :: .int x :: st) h r h' := by
  intro p l e R s m args below meth c A cells slots Q C0 c1 c2 K H locs ls hI hl
  exact lv_icmp_le C0.1.1 C0.1.2.1 hdg ht (fun _ => (kk p l e R s m args below meth c A cells slots Q C0 c1 c2 K H locs ls hI hl)) (fun q => absurd hc q)
theorem r_icmp_le_f (n9 : Nat) (hp : pc + 3 = n9) {x y : Int32} {off : Int} (tgt : Nat) (hdg : decode Y.2.1 pc = .ok (.if_icmp .le off, 3)) (ht : (pc : Int) + off = (tgt : Int)) (hc : ¬ x ≤ y) (kk : Run Y d X n9 lv st h r h') : Run Y d X pc lv (.int y :: .int x :: st) h r h' := by
  subst hp
  intro p l e R s m args below meth c A cells slots Q C0 c1 c2 K H locs ls hI hl
  exact lv_icmp_le C0.1.1 C0.1.2.1 hdg ht (fun q => absurd q hc) (fun _ => (kk p l e R s m args below meth c A cells slots Q C0 c1 c2 K H locs ls hI hl))
theorem tsw_o {x : Int32} (lo : Int) (n : Nat) (h : ∀ k, k < n → x.toInt ≠ lo + (k : Int)) : x.toInt < lo ∨ lo + (n : Int) - 1 < x.toInt := by
  by_cases q : x.toInt < lo
  · exact Or.inl q
  · by_cases q2 : lo + (n : Int) - 1 < x.toInt
    · exact Or.inr q2
    · exact absurd (show x.toInt = lo + (((x.toInt - lo).toNat : Nat) : Int) by omega) (h (x.toInt - lo).toNat (by omega))
theorem ne_int {x v : Int32} (h : ¬ x = v) : x.toInt ≠ v.toInt := fun e => h (Int32.toInt_inj.mp e)
theorem r_tsw_in {dflt lo hi : Int} {offs : Array Int} {len : Nat} {x v : Int32} {off : Int} (tgt : Nat) (hdg : decode Y.2.1 pc = .ok (.tableswitch dflt lo hi offs, len)) (hc : x = v) (hv1 : ¬ v.toInt < lo) (hv2 : ¬ hi < v.toInt) (ho : offs[(v.toInt - lo).toNat]? = some off) (ht : (pc : Int) + off = (tgt : Int)) (kk : Run Y d X tgt lv st h r h') : Run Y d X pc lv (.int x :: st) h r h' := by
  intro p l e R s m args below meth c A cells slots Q C0 c1 c2 K H locs ls hI hl
  subst hc
  exact lv_tableIn C0.1.1 C0.1.2.1 hdg hv1 hv2 ho ht (kk p l e R s m args below meth c A cells slots Q C0 c1 c2 K H locs ls hI hl)
theorem r_tsw_out {dflt lo hi : Int} {offs : Array Int} {len : Nat} {x : Int32} (tgt : Nat) (hdg : decode Y.2.1 pc = .ok (.tableswitch dflt lo hi offs, len)) (hx : x.toInt < lo ∨ hi < x.toInt) (ht : (pc : Int) + dflt = (tgt : Int)) (kk : Run Y d X tgt lv st h r h') : Run Y d X pc lv (.int x :: st) h r h' := by
  intro p l e R s m args below meth c A cells slots Q C0 c1 c2 K H locs ls hI hl
  exact lv_tableOut C0.1.1 C0.1.2.1 hdg hx ht (kk p l e R s m args below meth c A cells slots Q C0 c1 c2 K H locs ls hI hl)
theorem r_lsw {dflt : Int} {ps : Array (Int × Int)} {len : Nat} {x : Int32} {off : Int} (tgt : Nat) (hdg : decode Y.2.1 pc = .ok (.lookupswitch dflt ps, len)) (hp : (ps.toList.zip (ps.toList.drop 1)).all (fun (a, next) => a.1 < next.1) = true) (ho : Op.lookupswitch.offset ps.toList dflt x.toInt = off) (ht : (pc : Int) + off = (tgt : Int)) (kk : Run Y d X tgt lv st h r h') : Run Y d X pc lv (.int x :: st) h r h' := by
  intro p l e R s m args below meth c A cells slots Q C0 c1 c2 K H locs ls hI hl
  exact lv_lookup C0.1.1 C0.1.2.1 hdg hp ho ht (kk p l e R s m args below meth c A cells slots Q C0 c1 c2 K H locs ls hI hl)
theorem r_top {x y : Int32} (e : y = x) (kk : Run Y d X pc lv (.int y :: st) h r h') : Run Y d X pc lv (.int x :: st) h r h' := e ▸ kk
theorem r_topl {x y : Int64} (e : y = x) (kk : Run Y d X pc lv (.long y :: st) h r h') : Run Y d X pc lv (.long x :: st) h r h' := e ▸ kk
theorem r_heap (e : h1 = h) (kk : Run Y d X pc lv st h1 r h') : Run Y d X pc lv st h r h' := e ▸ kk
theorem r_iret {v : Int32} {ty : FieldType} (hy : Y.2.2.2 = some ty) (hn : narrow ty (.int v) = .int v) (hdg : decode Y.2.1 pc = .ok (.ireturn, 1)) : Run Y d X pc lv [.int v] h (some (.int v)) h := by
  intro p l e R s m args below meth c A cells slots Q C0 c1 c2 K H locs ls hI hl
  exact K H locs ls pc _ hdg (Or.inl ⟨rfl, v, ty, rfl, hy, hn⟩) hI
theorem r_lret {v : Int64} (hy : Y.2.2.2 = some .long) (hdg : decode Y.2.1 pc = .ok (.lreturn, 1)) : Run Y d X pc lv [.long v] h (some (.long v)) h := by
  intro p l e R s m args below meth c A cells slots Q C0 c1 c2 K H locs ls hI hl
  exact K H locs ls pc _ hdg (Or.inr (Or.inl ⟨rfl, v, rfl, hy⟩)) hI
theorem r_vret (hy : Y.2.2.2 = none) (hdg : decode Y.2.1 pc = .ok (.return_, 1)) : Run Y d X pc lv [] h none h := by
  intro p l e R s m args below meth c A cells slots Q C0 c1 c2 K H locs ls hI hl
  exact K H locs ls pc _ hdg (Or.inr (Or.inr ⟨rfl, rfl, hy⟩)) hI
end RR
theorem si_row (h : HP) (k j : Nat) (v : Int32) : (si h k j v).1 k = upd (h.1 k) j v := by funext a; simp [si, va_up, upd]
theorem sl_row (h : HP) (k j : Nat) (v : Int64) : (sl h k j v).2.1 k = vp_updL (h.2.1 k) j v := by funext a; simp [sl, va_up, vp_updL]
/-- a field of ours, as an instruction of the class own names it -/
def FL (own : String) (idx ci j : Nat) : Prop := ∃ C T N, CL[ci]? = some (C, T, N) ∧ j < N ∧ (T j).1 = C ∧ Cond.fieldLink own idx C (T j).2.1 (T j).2.2.1 ∈ TBL ∧ (∀ w ∈ u_ws C T N, w ∈ TBL)
def FW (own : String) (idx ci j : Nat) (ty : FieldType) : Prop := ∃ C T N, CL[ci]? = some (C, T, N) ∧ j < N ∧ (T j).1 = C ∧ Cond.fieldLink own idx C (T j).2.1 (T j).2.2.1 ∈ TBL ∧ (∀ w ∈ u_ws C T N, w ∈ TBL) ∧ (∃ ty0 : Nat → FieldType, ∀ k, k < N → parseFieldDescriptor (T k).2.2.1 = some (ty0 k)) ∧ (∀ a, a < N → ∀ b, b < N → a ≠ b → (T a).2.1 ≠ (T b).2.1) ∧ (T j).2.2.2 = false ∧ parseFieldDescriptor (T j).2.2.1 = some ty
theorem cell_obj (X : XE) (h : HP) (k ci : Nat) (ks : List Nat) : cellE X h k (0, ci, ks) = .inr (ci, ks.mapIdx (fun j t => fval X.1 h k ci j t)) := rfl
theorem cell_i (X : XE) (h : HP) (k n : Nat) (ks : List Nat) : cellE X h k (1, n, ks) = .inl (X.2.1 1, n, .inl (h.1 k)) := rfl
theorem cell_l (X : XE) (h : HP) (k n : Nat) (ks : List Nat) : cellE X h k (2, n, ks) = .inl (X.2.1 2, n, .inr (.inl (h.2.1 k))) := rfl
theorem cell_b (X : XE) (h : HP) (k n : Nat) (ks : List Nat) : cellE X h k (3, n, ks) = .inl (X.2.1 3, n, .inl (h.1 k)) := rfl
theorem cell_z (X : XE) (h : HP) (k n : Nat) (ks : List Nat) : cellE X h k (4, n, ks) = .inl (X.2.1 4, n, .inl (h.1 k)) := rfl
theorem fval_si {ad : Nat → Nat} {h : HP} {k j : Nat} {v : Int32} {k' ci j' t : Nat} (hne : ¬ (k' = k ∧ j' = j)) : fval ad (si h k j v) k' ci j' t = fval ad h k' ci j' t := by
  unfold fval si
  by_cases hk : k' = k
  · subst hk
    have hj : j' ≠ j := fun e => hne ⟨rfl, e⟩
    simp [va_up, hj]
  · simp [va_up, hk]
theorem fval_sr {ad : Nat → Nat} {h : HP} {k : Nat} {v : Option Nat} {k' ci j' t : Nat} (hne : k' ≠ k ∨ t ≠ 3 ∧ (t = 0 ∨ t = 2)) : fval ad (sr h k v) k' ci j' t = fval ad h k' ci j' t := by
  unfold fval sr
  rcases hne with hk | ⟨-, rfl | rfl⟩
  · simp [va_up, hk]
  · rfl
  · rfl
theorem cellE_si_ne {X : XE} {h : HP} {k j : Nat} {v : Int32} {k' : Nat} {c : SC} (hk : k' ≠ k) : cellE X (si h k j v) k' c = cellE X h k' c := by
  have e1 : (si h k j v).1 k' = h.1 k' := by unfold si; simp [va_up, hk]
  have e2 : ∀ ci : Nat, (fun j' t => fval X.1 (si h k j v) k' ci j' t) = (fun j' t => fval X.1 h k' ci j' t) := fun ci => by
    funext j' t; exact fval_si (fun q => hk q.1)
  unfold cellE
  rw [e1, e2]
  rfl
theorem cellE_sl_ne {X : XE} {h : HP} {k j : Nat} {v : Int64} {k' : Nat} {c : SC} (hk : k' ≠ k) : cellE X (sl h k j v) k' c = cellE X h k' c := by
  have e1 : (sl h k j v).2.1 k' = h.2.1 k' := by unfold sl; simp [va_up, hk]
  unfold cellE
  rw [e1]
  rfl
theorem cellE_sr_ne {X : XE} {h : HP} {k : Nat} {v : Option Nat} {k' : Nat} {c : SC} (hk : k' ≠ k) : cellE X (sr h k v) k' c = cellE X h k' c := by
  have e2 : ∀ ci : Nat, (fun j' t => fval X.1 (sr h k v) k' ci j' t) = (fun j' t => fval X.1 h k' ci j' t) := fun ci => by
    funext j' t; exact fval_sr (Or.inl hk)
  unfold cellE
  rw [e2]
  rfl
theorem si_obj {X : XE} {h : HP} {k j ci : Nat} {ks : List Nat} {v : Int32} (hj : ks[j]? = some 0) : cellE X (si h k j v) k (0, ci, ks) = .inr (ci, (ks.mapIdx (fun j t => fval X.1 h k ci j t)).set j (.int v)) := by
  rw [cell_obj]
  congr 2
  apply List.ext_getElem?
  intro i
  rw [List.getElem?_set, List.getElem?_mapIdx, List.getElem?_mapIdx]
  by_cases hi : j = i
  · subst hi
    have hl := (List.getElem?_eq_some_iff.mp hj).1
    rw [if_pos rfl, if_pos (by simpa using hl), hj]
    simp [fval, si, va_up]
  · rw [if_neg hi]
    cases ks[i]? with
    | none => rfl
    | some t => exact congrArg some (fval_si (fun q => hi q.2.symm))
theorem sr_obj {X : XE} {h : HP} {k j ci : Nat} {ks : List Nat} {q : Nat} (hj : ks[j]? = some 3) (ho : ∀ i t, ks[i]? = some t → i ≠ j → t = 0 ∨ t = 2) : cellE X (sr h k (some q)) k (0, ci, ks) = .inr (ci, (ks.mapIdx (fun j t => fval X.1 h k ci j t)).set j (.ref (X.1 q))) := by
  rw [cell_obj]
  congr 2
  apply List.ext_getElem?
  intro i
  rw [List.getElem?_set, List.getElem?_mapIdx, List.getElem?_mapIdx]
  by_cases hi : j = i
  · subst hi
    have hl := (List.getElem?_eq_some_iff.mp hj).1
    rw [if_pos rfl, if_pos (by simpa using hl), hj]
    simp [fval, sr, va_up, va_rf]
  · rw [if_neg hi]
    cases ht : ks[i]? with
    | none => rfl
    | some t =>
      have h2 := ho i t ht (fun e => hi e.symm)
      exact congrArg some (fval_sr (Or.inr ⟨by rcases h2 with rfl | rfl <;> decide, h2⟩))
section RF
variable {Y : MD} {d : Nat} {X : XE} {pc : Nat} {lv : List (Nat × Value)} {st : List Value} {h h1 h2 h' : HP} {r : Option Value}
theorem r_geti (n9 : Nat) (hp : pc + 3 = n9) {k ci idx j : Nat} {ks : List Nat} (hk : SH[k]? = some (0, ci, ks)) (hj : ks[j]? = some 0) (F : FL Y.1.cls idx ci j) (hdg : decode Y.2.1 pc = .ok (.getfield idx, 3)) (kk : Run Y d X n9 lv (.int (h.1 k j) :: st) h r h') : Run Y d X pc lv (.ref (X.1 k) :: st) h r h' := by
  subst hp
  intro p l e R s m args below meth c A cells slots Q C0 c1 c2 K H locs ls hI hl
  obtain ⟨C, T, N, g1, g2, g3, g4, g5⟩ := F
  exact va_get (ref := C) C0.1.1 C0.1.2.1 C0.1.2.2.2.2 g5 C0.1.2.2.2.1 C0.2.2.2.2.2 hI.1 k (wld_at X h hk) g1 j g2 (C0.1.2.2.2.2 _ g4) (by rw [g3]; exact fun _ h9 => h9) (v := .int (h.1 k j)) (by rw [List.getElem?_mapIdx, hj]; rfl) hdg (kk p l e R s m args below meth c A cells slots Q C0 c1 c2 K H locs ls hI hl)
theorem r_getr (n9 : Nat) (hp : pc + 3 = n9) {k ci idx j : Nat} {ks : List Nat} {q : Nat} (hq : lr k ci j = q) (hk : SH[k]? = some (0, ci, ks)) (hj : ks[j]? = some 2) (F : FL Y.1.cls idx ci j) (hdg : decode Y.2.1 pc = .ok (.getfield idx, 3)) (kk : Run Y d X n9 lv (.ref (X.1 q) :: st) h r h') : Run Y d X pc lv (.ref (X.1 k) :: st) h r h' := by
  subst hp
  intro p l e R s m args below meth c A cells slots Q C0 c1 c2 K H locs ls hI hl
  obtain ⟨C, T, N, g1, g2, g3, g4, g5⟩ := F
  exact va_get (ref := C) C0.1.1 C0.1.2.1 C0.1.2.2.2.2 g5 C0.1.2.2.2.1 C0.2.2.2.2.2 hI.1 k (wld_at X h hk) g1 j g2 (C0.1.2.2.2.2 _ g4) (by rw [g3]; exact fun _ h9 => h9) (v := .ref (X.1 q)) (by rw [List.getElem?_mapIdx, hj]; subst hq; rfl) hdg (kk p l e R s m args below meth c A cells slots Q C0 c1 c2 K H locs ls hI hl)
theorem r_gets (n9 : Nat) (hp : pc + 3 = n9) {k ci idx j : Nat} {ks : List Nat} {q : Nat} (hq : h.2.2 k = some q) (hk : SH[k]? = some (0, ci, ks)) (hj : ks[j]? = some 3) (F : FL Y.1.cls idx ci j) (hdg : decode Y.2.1 pc = .ok (.getfield idx, 3)) (kk : Run Y d X n9 lv (.ref (X.1 q) :: st) h r h') : Run Y d X pc lv (.ref (X.1 k) :: st) h r h' := by
  subst hp
  intro p l e R s m args below meth c A cells slots Q C0 c1 c2 K H locs ls hI hl
  obtain ⟨C, T, N, g1, g2, g3, g4, g5⟩ := F
  exact va_get (ref := C) C0.1.1 C0.1.2.1 C0.1.2.2.2.2 g5 C0.1.2.2.2.1 C0.2.2.2.2.2 hI.1 k (wld_at X h hk) g1 j g2 (C0.1.2.2.2.2 _ g4) (by rw [g3]; exact fun _ h9 => h9) (v := .ref (X.1 q)) (by rw [List.getElem?_mapIdx, hj]; simp [fval, hq, va_rf]) hdg (kk p l e R s m args below meth c A cells slots Q C0 c1 c2 K H locs ls hI hl)
theorem r_puti (n9 : Nat) (hp : pc + 3 = n9) {k ci idx j : Nat} {ks : List Nat} {v : Int32} {ty : FieldType} (hk : SH[k]? = some (0, ci, ks)) (hj : ks[j]? = some 0) (F : FW Y.1.cls idx ci j ty) (hn : narrow ty (.int v) = .int v) (hf : fits ty (.int v) = true) (hdg : decode Y.2.1 pc = .ok (.putfield idx, 3)) (kk : Run Y d X n9 lv st (si h k j v) r h') : Run Y d X pc lv (.int v :: .ref (X.1 k) :: st) h r h' := by
  subst hp
  intro p l e9 R s m args below meth c A cells slots Q C0 c1 c2 K H locs ls hI hl
  obtain ⟨C, T, N, g1, g2, g3, g4, g5, ⟨ty0, g6⟩, g7, g8, g9⟩ := F
  refine va_put (ref := C) C0.1.1 C0.1.2.1 C0.1.2.2.2.2 g5 ty0 g6 g7 C0.1.2.2.2.1 C0.2.2.2.2.2 hI.1 hI.2.1 hI.2.2 k (wld_at X h hk) g1 j g2 (C0.1.2.2.2.2 _ g4) (by rw [g3]; exact fun _ h9 => h9) g8 g9 hn hf (by simpa using (List.getElem?_eq_some_iff.mp hj).1) hdg (fun H1 locs1 hP hD hS => ?_)
  have e := wld_set X h (si h k j v) hk (si_obj hj) (fun j' c' _ hne => cellE_si_ne hne)
  rw [e] at hP hD
  exact kk p l e9 R s m args below meth c A cells slots Q C0 c1 c2 K H1 locs1 ls ⟨hP, hD, hS⟩ hl
theorem r_puts (n9 : Nat) (hp : pc + 3 = n9) {k ci idx j q : Nat} {ks : List Nat} {ty : FieldType} (hk : SH[k]? = some (0, ci, ks)) (hj : ks[j]? = some 3) (ho : ∀ i t, ks[i]? = some t → i ≠ j → t = 0 ∨ t = 2) (F : FW Y.1.cls idx ci j ty) (hn : narrow ty (.ref (X.1 q)) = .ref (X.1 q)) (hf : fits ty (.ref (X.1 q)) = true) (hdg : decode Y.2.1 pc = .ok (.putfield idx, 3)) (kk : Run Y d X n9 lv st (sr h k (some q)) r h') : Run Y d X pc lv (.ref (X.1 q) :: .ref (X.1 k) :: st) h r h' := by
  subst hp
  intro p l e9 R s m args below meth c A cells slots Q C0 c1 c2 K H locs ls hI hl
  obtain ⟨C, T, N, g1, g2, g3, g4, g5, ⟨ty0, g6⟩, g7, g8, g9⟩ := F
  refine va_put (ref := C) C0.1.1 C0.1.2.1 C0.1.2.2.2.2 g5 ty0 g6 g7 C0.1.2.2.2.1 C0.2.2.2.2.2 hI.1 hI.2.1 hI.2.2 k (wld_at X h hk) g1 j g2 (C0.1.2.2.2.2 _ g4) (by rw [g3]; exact fun _ h9 => h9) g8 g9 hn hf (by simpa using (List.getElem?_eq_some_iff.mp hj).1) hdg (fun H1 locs1 hP hD hS => ?_)
  have e := wld_set X h (sr h k (some q)) hk (sr_obj hj ho) (fun j' c' _ hne => cellE_sr_ne hne)
  rw [e] at hP hD
  exact kk p l e9 R s m args below meth c A cells slots Q C0 c1 c2 K H1 locs1 ls ⟨hP, hD, hS⟩ hl
theorem r_iald (n9 : Nat) (hp : pc + 1 = n9) {k n : Nat} {ks : List Nat} {i : Int32} (hk : SH[k]? = some (1, n, ks)) (hb : vp_in i n) (hdg : decode Y.2.1 pc = .ok (.iaload, 1)) (kk : Run Y d X n9 lv (.int (h.1 k i.toNatClampNeg) :: st) h r h') : Run Y d X pc lv (.int i :: .ref (X.1 k) :: st) h r h' := by
  subst hp
  intro p l e R s m args below meth c A cells slots Q C0 c1 c2 K H locs ls hI hl
  exact va_iald C0.1.1 C0.1.2.1 C0.2.2.2.2.2 hI.1 k 0 (wld_at X h hk) rfl hb hdg (kk p l e R s m args below meth c A cells slots Q C0 c1 c2 K H locs ls hI hl)
theorem r_bald (n9 : Nat) (hp : pc + 1 = n9) {k n : Nat} {ks : List Nat} {i : Int32} (hk : SH[k]? = some (3, n, ks)) (hb : vp_in i n) (hdg : decode Y.2.1 pc = .ok (.baload, 1)) (kk : Run Y d X n9 lv (.int (h.1 k i.toNatClampNeg) :: st) h r h') : Run Y d X pc lv (.int i :: .ref (X.1 k) :: st) h r h' := by
  subst hp
  intro p l e R s m args below meth c A cells slots Q C0 c1 c2 K H locs ls hI hl
  exact va_bald C0.1.1 C0.1.2.1 C0.2.2.2.2.2 hI.1 k 2 (wld_at X h hk) rfl hb hdg (kk p l e R s m args below meth c A cells slots Q C0 c1 c2 K H locs ls hI hl)
theorem r_zald (n9 : Nat) (hp : pc + 1 = n9) {k n : Nat} {ks : List Nat} {i : Int32} (hk : SH[k]? = some (4, n, ks)) (hb : vp_in i n) (hdg : decode Y.2.1 pc = .ok (.baload, 1)) (kk : Run Y d X n9 lv (.int (h.1 k i.toNatClampNeg) :: st) h r h') : Run Y d X pc lv (.int i :: .ref (X.1 k) :: st) h r h' := by
  subst hp
  intro p l e R s m args below meth c A cells slots Q C0 c1 c2 K H locs ls hI hl
  exact va_zald C0.1.1 C0.1.2.1 C0.2.2.2.2.2 hI.1 k 3 (wld_at X h hk) rfl hb hdg (kk p l e R s m args below meth c A cells slots Q C0 c1 c2 K H locs ls hI hl)
theorem r_lald (n9 : Nat) (hp : pc + 1 = n9) {k n : Nat} {ks : List Nat} {i : Int32} (hk : SH[k]? = some (2, n, ks)) (hb : vp_in i n) (hdg : decode Y.2.1 pc = .ok (.laload, 1)) (kk : Run Y d X n9 lv (.long (h.2.1 k i.toNatClampNeg) :: st) h r h') : Run Y d X pc lv (.int i :: .ref (X.1 k) :: st) h r h' := by
  subst hp
  intro p l e R s m args below meth c A cells slots Q C0 c1 c2 K H locs ls hI hl
  exact va_lald C0.1.1 C0.1.2.1 C0.2.2.2.2.2 hI.1 k 1 (wld_at X h hk) rfl hb hdg (kk p l e R s m args below meth c A cells slots Q C0 c1 c2 K H locs ls hI hl)
theorem r_iast (n9 : Nat) (hp : pc + 1 = n9) {k n : Nat} {ks : List Nat} {i : Int32} {x : Int32} (hk : SH[k]? = some (1, n, ks)) (hb : vp_in i n) (hdg : decode Y.2.1 pc = .ok (.iastore, 1)) (kk : Run Y d X n9 lv st (si h k i.toNatClampNeg x) r h') : Run Y d X pc lv (.int x :: .int i :: .ref (X.1 k) :: st) h r h' := by
  subst hp
  intro p l e9 R s m args below meth c A cells slots Q C0 c1 c2 K H locs ls hI hl
  refine va_iast C0.1.1 C0.1.2.1 C0.2.2.2.2.2 hI.1 hI.2.1 hI.2.2 k 0 (wld_at X h hk) rfl hb hdg (fun H1 locs1 hP hD hS => ?_)
  have e := wld_set X h (si h k i.toNatClampNeg x) hk (by rw [cell_i, si_row]) (fun j' c' _ hne => cellE_si_ne hne)
  rw [e] at hP hD
  exact kk p l e9 R s m args below meth c A cells slots Q C0 c1 c2 K H1 locs1 ls ⟨hP, hD, hS⟩ hl
theorem r_bast (n9 : Nat) (hp : pc + 1 = n9) {k n : Nat} {ks : List Nat} {i : Int32} {x : Int32} (hk : SH[k]? = some (3, n, ks)) (hb : vp_in i n) (hdg : decode Y.2.1 pc = .ok (.bastore, 1)) (kk : Run Y d X n9 lv st (si h k i.toNatClampNeg (vp_nar .byte x)) r h') : Run Y d X pc lv (.int x :: .int i :: .ref (X.1 k) :: st) h r h' := by
  subst hp
  intro p l e9 R s m args below meth c A cells slots Q C0 c1 c2 K H locs ls hI hl
  refine va_bast C0.1.1 C0.1.2.1 C0.2.2.2.2.2 hI.1 hI.2.1 hI.2.2 k 2 (wld_at X h hk) rfl hb hdg (fun H1 locs1 hP hD hS => ?_)
  have e := wld_set X h (si h k i.toNatClampNeg (vp_nar .byte x)) hk (by rw [cell_b, si_row]) (fun j' c' _ hne => cellE_si_ne hne)
  rw [e] at hP hD
  exact kk p l e9 R s m args below meth c A cells slots Q C0 c1 c2 K H1 locs1 ls ⟨hP, hD, hS⟩ hl
theorem r_zast (n9 : Nat) (hp : pc + 1 = n9) {k n : Nat} {ks : List Nat} {i : Int32} {x : Int32} (hk : SH[k]? = some (4, n, ks)) (hb : vp_in i n) (hdg : decode Y.2.1 pc = .ok (.bastore, 1)) (kk : Run Y d X n9 lv st (si h k i.toNatClampNeg (vp_nar .boolean x)) r h') : Run Y d X pc lv (.int x :: .int i :: .ref (X.1 k) :: st) h r h' := by
  subst hp
  intro p l e9 R s m args below meth c A cells slots Q C0 c1 c2 K H locs ls hI hl
  refine va_zast C0.1.1 C0.1.2.1 C0.2.2.2.2.2 hI.1 hI.2.1 hI.2.2 k 3 (wld_at X h hk) rfl hb hdg (fun H1 locs1 hP hD hS => ?_)
  have e := wld_set X h (si h k i.toNatClampNeg (vp_nar .boolean x)) hk (by rw [cell_z, si_row]) (fun j' c' _ hne => cellE_si_ne hne)
  rw [e] at hP hD
  exact kk p l e9 R s m args below meth c A cells slots Q C0 c1 c2 K H1 locs1 ls ⟨hP, hD, hS⟩ hl
theorem r_last (n9 : Nat) (hp : pc + 1 = n9) {k n : Nat} {ks : List Nat} {i : Int32} {x : Int64} (hk : SH[k]? = some (2, n, ks)) (hb : vp_in i n) (hdg : decode Y.2.1 pc = .ok (.lastore, 1)) (kk : Run Y d X n9 lv st (sl h k i.toNatClampNeg x) r h') : Run Y d X pc lv (.long x :: .int i :: .ref (X.1 k) :: st) h r h' := by
  subst hp
  intro p l e9 R s m args below meth c A cells slots Q C0 c1 c2 K H locs ls hI hl
  refine va_last C0.1.1 C0.1.2.1 C0.2.2.2.2.2 hI.1 hI.2.1 hI.2.2 k 1 (wld_at X h hk) rfl hb hdg (fun H1 locs1 hP hD hS => ?_)
  have e := wld_set X h (sl h k i.toNatClampNeg x) hk (by rw [cell_l, sl_row]) (fun j' c' _ hne => cellE_sl_ne hne)
  rw [e] at hP hD
  exact kk p l e9 R s m args below meth c A cells slots Q C0 c1 c2 K H1 locs1 ls ⟨hP, hD, hS⟩ hl
theorem r_aald (n9 : Nat) (hp : pc + 1 = n9) {k n t q : Nat} {ks : List Nat} {i : Int32} (hk : SH[k]? = some (t, n, ks)) (ht : t = 5 ∨ t = 6) (hq : lra t i.toNatClampNeg = q) (hb : vp_in i n) (hdg : decode Y.2.1 pc = .ok (.aaload, 1)) (kk : Run Y d X n9 lv (.ref (X.1 q) :: st) h r h') : Run Y d X pc lv (.int i :: .ref (X.1 k) :: st) h r h' := by
  subst hp
  intro p l e R s m args below meth c A cells slots Q C0 c1 c2 K H locs ls hI hl
  subst hq
  rcases ht with rfl | rfl
  · exact va_aldq C0.1.1 C0.1.2.1 C0.2.2.2.2.2 hI.1 k 4 (wld_at X h hk) rfl hb hdg (kk p l e R s m args below meth c A cells slots Q C0 c1 c2 K H locs ls hI hl)
  · exact va_aldq C0.1.1 C0.1.2.1 C0.2.2.2.2.2 hI.1 k 5 (wld_at X h hk) rfl hb hdg (kk p l e R s m args below meth c A cells slots Q C0 c1 c2 K H locs ls hI hl)
theorem r_alen (n9 : Nat) (hp : pc + 1 = n9) {k n : Nat} {ks : List Nat} {v : Int32} (hk : SH[k]? = some (1, n, ks)) (hv : Int32.ofNat n = v) (hdg : decode Y.2.1 pc = .ok (.arraylength, 1)) (kk : Run Y d X n9 lv (.int v :: st) h r h') : Run Y d X pc lv (.ref (X.1 k) :: st) h r h' := by
  subst hp
  intro p l e R s m args below meth c A cells slots Q C0 c1 c2 K H locs ls hI hl
  exact va_alen C0.1.1 C0.1.2.1 C0.2.2.2.2.2 hI.1 k 0 (wld_at X h hk) rfl hv hdg (kk p l e R s m args below meth c A cells slots Q C0 c1 c2 K H locs ls hI hl)
theorem r_slen (n9 : Nat) (hp : pc + 1 = n9) {v : Int32} (hv : Int32.ofNat X.2.2.2.2.1 = v) (hdg : decode Y.2.1 pc = .ok (.arraylength, 1)) (kk : Run Y d X n9 lv (.int v :: st) h r h') : Run Y d X pc lv (.ref (X.2.2.2.1 6) :: st) h r h' := by
  subst hp
  intro p l e R s m args below meth c A cells slots Q C0 c1 c2 K H locs ls hI hl
  subst hv
  obtain ⟨-, -, ⟨x1, x2, x3⟩, -⟩ := C0.2.2.2.2.1
  exact va_slen C0.1.1 C0.1.2.1 x1 x2 x3 hI.2.2 hdg (kk p l e R s m args below meth c A cells slots Q C0 c1 c2 K H locs ls hI hl)
theorem r_sald (n9 : Nat) (hp : pc + 1 = n9) {i : Int32} (hb : vp_in i X.2.2.2.2.1) (hdg : decode Y.2.1 pc = .ok (.iaload, 1)) (kk : Run Y d X n9 lv (.int (X.2.2.2.2.2 i.toNatClampNeg) :: st) h r h') : Run Y d X pc lv (.int i :: .ref (X.2.2.2.1 6) :: st) h r h' := by
  subst hp
  intro p l e R s m args below meth c A cells slots Q C0 c1 c2 K H locs ls hI hl
  obtain ⟨-, -, ⟨x1, x2, x3⟩, -⟩ := C0.2.2.2.2.1
  exact va_sld C0.1.1 C0.1.2.1 x1 x2 x3 hI.2.2 hb hdg (kk p l e R s m args below meth c A cells slots Q C0 c1 c2 K H locs ls hI hl)
theorem r_gka (n9 : Nat) (hp : pc + 3 = n9) {index : Nat} (hw : Cond.fieldLink Y.1.cls index RX6 "KIND_ABOVE" "[I" ∈ TBL) (hdg : decode Y.2.1 pc = .ok (.getstatic index, 3)) (kk : Run Y d X n9 lv (.ref (X.2.2.2.1 0) :: st) h r h') : Run Y d X pc lv st h r h' := by
  subst hp
  intro p l e R s m args below meth c A cells slots Q C0 c1 c2 K H locs ls hI hl
  exact va_gets C0.1.1 C0.1.2.1 C0.2.2.2.2.1.1.1 hI.2.2 C0.1.2.2.2.1 (C0.1.2.2.2.2 _ hw) (fun _ h9 => h9) hdg (kk p l e R s m args below meth c A cells slots Q C0 c1 c2 K H locs ls hI hl)
theorem r_gkn (n9 : Nat) (hp : pc + 3 = n9) (hY : Y.1.cls = RX0) (hdg : decode Y.2.1 pc = .ok (.getstatic 39, 3)) (kk : Run Y d X n9 lv (.ref (X.2.2.2.1 0) :: st) h r h') : Run Y d X pc lv st h r h' := by
  subst hp
  intro p l e R s m args below meth c A cells slots Q C0 c1 c2 K H locs ls hI hl
  exact va_getsN C0.1.1 C0.1.2.1 C0.2.2.2.2.1.1.1 hI.2.2 (by rw [← hY]; exact C0.1.2.2.2.1) (va_Nw.use rfl C0.2.2.2.2.1.2.2.2.2.2) (fun _ h9 => h9) hdg (kk p l e R s m args below meth c A cells slots Q C0 c1 c2 K H locs ls hI hl)
theorem r_gbo (n9 : Nat) (hp : pc + 3 = n9) {index : Nat} (hw : Cond.fieldLink Y.1.cls index RX0 "BODIES" "[I" ∈ TBL) (hdg : decode Y.2.1 pc = .ok (.getstatic index, 3)) (kk : Run Y d X n9 lv (.ref (X.2.2.2.1 1) :: st) h r h') : Run Y d X pc lv st h r h' := by
  subst hp
  intro p l e R s m args below meth c A cells slots Q C0 c1 c2 K H locs ls hI hl
  exact va_gets C0.1.1 C0.1.2.1 C0.2.2.2.2.1.1.2.2.1 hI.2.2 C0.1.2.2.2.1 (C0.1.2.2.2.2 _ hw) (fun _ h9 => h9) hdg (kk p l e R s m args below meth c A cells slots Q C0 c1 c2 K H locs ls hI hl)
theorem r_ka (n9 : Nat) (hp : pc + 1 = n9) {i : Int32} (hb : vp_in i 7) (hdg : decode Y.2.1 pc = .ok (.iaload, 1)) (kk : Run Y d X n9 lv (.int (([-1, 0, 0, 0, 1, 2, 3] : List Int32).getD i.toNatClampNeg 0) :: st) h r h') : Run Y d X pc lv (.int i :: .ref (X.2.2.2.1 0) :: st) h r h' := by
  subst hp
  intro p l e R s m args below meth c A cells slots Q C0 c1 c2 K H locs ls hI hl
  exact va_ti C0.1.1 C0.1.2.1 C0.2.2.2.2.1.1.2.1 hI.2.2 hb rfl hdg (kk p l e R s m args below meth c A cells slots Q C0 c1 c2 K H locs ls hI hl)
theorem r_bo (n9 : Nat) (hp : pc + 1 = n9) {i : Int32} (hb : vp_in i 21) (hdg : decode Y.2.1 pc = .ok (.iaload, 1)) (kk : Run Y d X n9 lv (.int (([10, 11, 12, 0, 20, 0, 30, 0, 0, 0, 0, 40, 50, 51, 0, 0, 0, 60, 71, 70, 0] : List Int32).getD i.toNatClampNeg 0) :: st) h r h') : Run Y d X pc lv (.int i :: .ref (X.2.2.2.1 1) :: st) h r h' := by
  subst hp
  intro p l e R s m args below meth c A cells slots Q C0 c1 c2 K H locs ls hI hl
  exact va_ti C0.1.1 C0.1.2.1 C0.2.2.2.2.1.1.2.2.2 hI.2.2 hb rfl hdg (kk p l e R s m args below meth c A cells slots Q C0 c1 c2 K H locs ls hI hl)
theorem r_max (n9 : Nat) (hp : pc + 3 = n9) {x y : Int32} {index : Nat} (hd : 1 ≤ d) (w1 : Cond.methodLink Y.1.cls index Lib.Math.max.name ∈ TBL) (w2 : Cond.static Lib.Math.max.name ∈ TBL) (w3 : Cond.initialized "java/lang/Math" ∈ TBL) (w4 : Cond.code Lib.Math.max.name Lib.Math.max.code 2 (some .int) ∈ TBL) (hcat : (st.map fun v => v.category).sum ≤ 8) (hdg : decode Y.2.1 pc = .ok (.invokestatic index, 3)) (kk : Run Y d X n9 lv (.int (if x < y then y else x) :: st) h r h') : Run Y d X pc lv (.int y :: .int x :: st) h r h' := by
  subst hp
  intro p l e R s m args below meth c A cells slots Q C0 c1 c2 K H locs ls hI hl
  exact va_mmax C0.1.1 C0.1.2.1 (by rw [C0.1.2.2.1]; exact hl.1.symm) C0.1.2.2.2.1 (C0.1.2.2.2.2 _ w1) (C0.1.2.2.2.2 _ w2) (C0.1.2.2.2.2 _ w3) (C0.1.2.2.2.2 _ w4) (Nat.le_trans hd C0.2.1) (by have := C0.2.2.1; omega) c1 c2 hdg (kk p l e R s m args below meth c A cells slots Q C0 c1 c2 K H locs ls hI hl)
theorem r_min (n9 : Nat) (hp : pc + 3 = n9) {x y : Int32} {index : Nat} (hd : 1 ≤ d) (w1 : Cond.methodLink Y.1.cls index Lib.Math.min.name ∈ TBL) (w2 : Cond.static Lib.Math.min.name ∈ TBL) (w3 : Cond.initialized "java/lang/Math" ∈ TBL) (w4 : Cond.code Lib.Math.min.name Lib.Math.min.code 2 (some .int) ∈ TBL) (hcat : (st.map fun v => v.category).sum ≤ 8) (hdg : decode Y.2.1 pc = .ok (.invokestatic index, 3)) (kk : Run Y d X n9 lv (.int (if y < x then y else x) :: st) h r h') : Run Y d X pc lv (.int y :: .int x :: st) h r h' := by
  subst hp
  intro p l e R s m args below meth c A cells slots Q C0 c1 c2 K H locs ls hI hl
  exact va_mmin C0.1.1 C0.1.2.1 (by rw [C0.1.2.2.1]; exact hl.1.symm) C0.1.2.2.2.1 (C0.1.2.2.2.2 _ w1) (C0.1.2.2.2.2 _ w2) (C0.1.2.2.2.2 _ w3) (C0.1.2.2.2.2 _ w4) (Nat.le_trans hd C0.2.1) (by have := C0.2.2.1; omega) c1 c2 hdg (kk p l e R s m args below meth c A cells slots Q C0 c1 c2 K H locs ls hI hl)
theorem nfw : nativeFrameWords "java/lang/System" "arraycopy" 5 + 11 ≤ 40 := by decide +kernel
def cpk (i n : Int32) (k : Nat) : Bool := !(decide (i < 0)) && !(decide (n < 0)) && decide (i.toNatClampNeg + n.toNatClampNeg ≤ k)
theorem cpk_of {i n : Int32} {k : Nat} (h : cpk i n k = true) : ¬ i < 0 ∧ ¬ n < 0 ∧ i.toNatClampNeg + n.toNatClampNeg ≤ k := by simpa [cpk, and_assoc] using h
def ci (h : HP) (a b : Nat) (sp dp n : Int32) : HP := (va_up h.1 b (va_cpy (h.1 a) (h.1 b) sp.toNatClampNeg dp.toNatClampNeg n.toNatClampNeg), h.2)
def cl (h : HP) (a b : Nat) (sp dp n : Int32) : HP := (h.1, va_up h.2.1 b (va_cpy (h.2.1 a) (h.2.1 b) sp.toNatClampNeg dp.toNatClampNeg n.toNatClampNeg), h.2.2)
theorem ci_row (h : HP) (a b : Nat) (sp dp n : Int32) : (ci h a b sp dp n).1 b = va_cpy (h.1 a) (h.1 b) sp.toNatClampNeg dp.toNatClampNeg n.toNatClampNeg := by simp [ci, va_up]
theorem cl_row (h : HP) (a b : Nat) (sp dp n : Int32) : (cl h a b sp dp n).2.1 b = va_cpy (h.2.1 a) (h.2.1 b) sp.toNatClampNeg dp.toNatClampNeg n.toNatClampNeg := by simp [cl, va_up]
theorem r_copyi (n9 : Nat) (hp : pc + 3 = n9) {a b na nb index : Nat} {ka kb : List Nat} {sp dp n : Int32} (hd : 1 ≤ d) (ha : SH[a]? = some (1, na, ka)) (hb : SH[b]? = some (1, nb, kb)) (g1 : cpk sp n na = true) (g2 : cpk dp n nb = true) (w1 : Cond.methodLink Y.1.cls index arraycopyName ∈ TBL) (w2 : Cond.native arraycopyName ∈ TBL) (w3 : Cond.static arraycopyName ∈ TBL) (w4 : Cond.initialized "java/lang/System" ∈ TBL) (hcat : (st.map fun v => v.category).sum ≤ 8) (hdg : decode Y.2.1 pc = .ok (.invokestatic index, 3)) (kk : Run Y d X n9 lv st (ci h a b sp dp n) r h') : Run Y d X pc lv (.int n :: .int dp :: .ref (X.1 b) :: .int sp :: .ref (X.1 a) :: st) h r h' := by
  subst hp
  intro p l e9 R s m args below meth c A cells slots Q C0 c1 c2 K H locs ls hI hl
  obtain ⟨a1, a2, a3⟩ := cpk_of g1
  obtain ⟨b1, -, b3⟩ := cpk_of g2
  refine va_copyi C0.1.1 C0.1.2.1 (by rw [C0.1.2.2.1]; exact hl.1.symm) C0.1.2.2.2.1 (C0.1.2.2.2.2 _ w1) (C0.1.2.2.2.2 _ w2) (C0.1.2.2.2.2 _ w3) (C0.1.2.2.2.2 _ w4) C0.2.2.2.2.2 hI.1 hI.2.1 hI.2.2 a b 0 0 (wld_at X h ha) (wld_at X h hb) rfl rfl rfl a1 b1 a2 a3 b3 (fun _ _ => rfl) (Nat.le_trans hd C0.2.1) (by have h9 := C0.2.2.1; have q := nfw; omega) hdg (fun H1 locs1 hP hD hS => ?_)
  have e := wld_set X h (ci h a b sp dp n) hb (by rw [cell_i, ci_row]) (fun j' c' _ hne => by unfold cellE fval ci; simp [va_up, hne])
  rw [e] at hP hD
  exact kk p l e9 R s m args below meth c A cells slots Q C0 c1 c2 K H1 locs1 ls ⟨hP, hD, hS⟩ hl
theorem r_copyl (n9 : Nat) (hp : pc + 3 = n9) {a b na nb index : Nat} {ka kb : List Nat} {sp dp n : Int32} (hd : 1 ≤ d) (ha : SH[a]? = some (2, na, ka)) (hb : SH[b]? = some (2, nb, kb)) (g1 : cpk sp n na = true) (g2 : cpk dp n nb = true) (w1 : Cond.methodLink Y.1.cls index arraycopyName ∈ TBL) (w2 : Cond.native arraycopyName ∈ TBL) (w3 : Cond.static arraycopyName ∈ TBL) (w4 : Cond.initialized "java/lang/System" ∈ TBL) (hcat : (st.map fun v => v.category).sum ≤ 8) (hdg : decode Y.2.1 pc = .ok (.invokestatic index, 3)) (kk : Run Y d X n9 lv st (cl h a b sp dp n) r h') : Run Y d X pc lv (.int n :: .int dp :: .ref (X.1 b) :: .int sp :: .ref (X.1 a) :: st) h r h' := by
  subst hp
  intro p l e9 R s m args below meth c A cells slots Q C0 c1 c2 K H locs ls hI hl
  obtain ⟨a1, a2, a3⟩ := cpk_of g1
  obtain ⟨b1, -, b3⟩ := cpk_of g2
  refine va_copyl C0.1.1 C0.1.2.1 (by rw [C0.1.2.2.1]; exact hl.1.symm) C0.1.2.2.2.1 (C0.1.2.2.2.2 _ w1) (C0.1.2.2.2.2 _ w2) (C0.1.2.2.2.2 _ w3) (C0.1.2.2.2.2 _ w4) C0.2.2.2.2.2 hI.1 hI.2.1 hI.2.2 a b 1 1 (wld_at X h ha) (wld_at X h hb) rfl rfl rfl a1 b1 a2 a3 b3 (fun _ _ => rfl) (Nat.le_trans hd C0.2.1) (by have h9 := C0.2.2.1; have q := nfw; omega) hdg (fun H1 locs1 hP hD hS => ?_)
  have e := wld_set X h (cl h a b sp dp n) hb (by rw [cell_l, cl_row]) (fun j' c' _ hne => by unfold cellE fval cl; simp [va_up, hne])
  rw [e] at hP hD
  exact kk p l e9 R s m args below meth c A cells slots Q C0 c1 c2 K H1 locs1 ls ⟨hP, hD, hS⟩ hl
/-- how a call of Yc is linked from the class own: virtual; static -/
def CW (own : String) (idx n : Nat) (Yc : MD) : Prop := Cond.methodLink own idx Yc.1 ∈ TBL ∧ Cond.instanceMethod Yc.1 ∈ TBL ∧ Cond.selects Yc.1.cls Yc.1 Yc.1 ∈ TBL ∧ Cond.initialized Yc.1.cls ∈ TBL ∧ Cond.code Yc.1 Yc.2.1 Yc.2.2.1 Yc.2.2.2 ∈ TBL ∧ Yc.1.cls ≠ "java/lang/invoke/MethodHandle" ∧ Yc.1.cls ≠ "java/lang/invoke/VarHandle" ∧ (parseMethodDescriptor Yc.1.desc).map (fun d => d.parameters.length) = some n ∧ Yc.2.2.1 ≤ 30
def CSt (own : String) (idx n : Nat) (Yc : MD) : Prop := Cond.methodLink own idx Yc.1 ∈ TBL ∧ Cond.static Yc.1 ∈ TBL ∧ Cond.initialized Yc.1.cls ∈ TBL ∧ Cond.code Yc.1 Yc.2.1 Yc.2.2.1 Yc.2.2.2 ∈ TBL ∧ Yc.1.cls ≠ "java/lang/invoke/MethodHandle" ∧ Yc.1.cls ≠ "java/lang/invoke/VarHandle" ∧ (parseMethodDescriptor Yc.1.desc).map (fun d => d.parameters.length) = some n ∧ Yc.2.2.1 ≤ 30
theorem good_TBL {w : Cond} (h : w ∈ TBL) : w ∈ TBL ∧ ((w.onTables && w.keeps) = true ∨ ∃ ty, w = .arrayClass ty) := ⟨h, good_of_word (List.mem_filter.mp h).2⟩
theorem good_Y {Yc : MD} (h : Cond.code Yc.1 Yc.2.1 Yc.2.2.1 Yc.2.2.2 ∈ TBL) : GoodIn TBL (.code Yc.1 Yc.2.1 Yc.2.2.1 Yc.2.2.2 :: TBL) := fun w hw => by
  rcases List.mem_cons.mp hw with rfl | hw
  · exact good_TBL h
  · exact good_TBL hw
/-- what a callee needs of the state, from what the caller has -/
theorem call_pre {X : XE} {A : Nat → Prop} {s U : State} {H : Heap} {locs : List Loc} {h : HP} (hI : INV X A s H locs h) (hE : EX X A s s.heap) (hK : va_K X.2.2.1 CL (TY X) s) (hA : ∀ q, s.heap.size ≤ q → A q) (hU : U.heap = H) (hW : s.WarmedH U.vm) : U.heap.size = H.size ∧ va_P X.2.2.1 CL (wld X h) U.heap ∧ va_K X.2.2.1 CL (TY X) U ∧ va_D (fun _ => True) (wld X h) ∧ EX X (va_A (wld X h) H.size) U U.heap := by
  refine ⟨by rw [hU], by rw [hU]; exact hI.1, va_K.moved hW.alike hK, hI.2.1.weaken (fun _ _ _ _ => trivial), ?_⟩
  rw [hU]
  refine ((hE.kept hI.2.2.1 hI.2.2.2.1).narrow (B := va_A (wld X h) H.size) (fun q hq => ?_)).warm hW
  rcases hq with ⟨k, e, hk⟩ | hq
  · exact hI.2.1.2 k (q, e) hk
  · exact hA q (Nat.le_trans hI.2.2.1 hq)
theorem call_free {X : XE} {A : Nat → Prop} {s : State} {H : Heap} {locs : List Loc} {h : HP} (hI : INV X A s H locs h) (hA : ∀ q, s.heap.size ≤ q → A q) : ∀ q, va_A (wld X h) H.size q → A q := fun q hq => by
  rcases hq with ⟨k, e, hk⟩ | hq
  · exact hI.2.1.2 k (q, e) hk
  · exact hA q (Nat.le_trans hI.2.2.1 hq)
theorem r_callV (n9 : Nat) (hp : pc + 3 = n9) {Yc : MD} {dc k ci idx n : Nat} {ks : List Nat} {As stk : List Value} {rc : Option Value} {T : u_T} {N : Nat} (hc : CC Yc dc X (.ref (X.1 k) :: As) h rc h1) (hd : dc + 1 ≤ d) (F : CW Y.1.cls idx n Yc) (hk : SH[k]? = some (0, ci, ks)) (hci : CL[ci]? = some (Yc.1.cls, T, N)) (hn : As.length = n) (hst : stk = As.reverse ++ .ref (X.1 k) :: st) (hcat : (st.map fun v => v.category).sum ≤ 8) (hdg : decode Y.2.1 pc = .ok (.invokevirtual idx, 3)) (kk : Run Y d X n9 lv (rc.toList ++ st) h1 r h') : Run Y d X pc lv stk h r h' := by
  subst hp
  intro p l e R s m args below meth c A cells slots Q C0 c1 c2 K H locs ls hI hl
  subst hst
  obtain ⟨f1, f2, f3, f4, f5, f6, f7, f8, f9⟩ := F
  have hts := C0.1.2.2.2.2
  have cw : CallW R s args Y.1.cls Yc.1.cls idx Yc.1 Yc.2.1 Yc.2.2.1 Yc.2.2.2 (.code Yc.1 Yc.2.1 Yc.2.2.1 Yc.2.2.2 :: TBL) ({ frames := dc, cells := 0, slots := 0, locals := 60 * dc }) 0 0 n :=
    ⟨callB_of n hts (good_Y f5) rfl rfl rfl (hts _ f4) (hts _ f1) ⟨f6, f7, f8⟩ ⟨by have := C0.2.1; show dc + 1 ≤ R.frames; omega, by have := C0.2.2.1; show 8 + (Yc.2.2.1 + 11) + 60 * dc ≤ R.locals; omega⟩, hts _ f2, hts _ f3⟩
  refine va_callg (va_runV (As := As) (rest := st) ⟨C0.1.1, C0.1.2.1, C0.1.2.2.1, C0.1.2.2.2.1, hts⟩ (hc l H.size) cw ⟨fun a U g mk q => by
      obtain ⟨q0, q1, q2, q3, q4, q5⟩ := q
      exact ⟨q0, q1, q2, va_K.moved (u := U) (U := U.calling g mk a) (Vm.Alike.refl U.vm) q3, q4, EX.same rfl q5⟩, va_recv C0.2.2.2.2.2 hI.1 hci (wld_at X h hk), fun U hU hW => ⟨rfl, call_pre hI C0.2.2.2.2.1 C0.2.2.2.2.2 C0.2.2.2.1 hU hW⟩⟩ rfl hn hl.1 rfl (lv_room hcat) hdg ⟨c1, c2⟩) hI.2.2 (fun q _ hq => call_free hI C0.2.2.2.1 q hq) (call_free hI C0.2.2.2.1) (fun t H1 locs1 ht hB _ _ hS => ?_)
  rw [ht] at hB
  exact kk p l e R s m args below meth c A cells slots Q C0 c1 c2 K H1 locs1 ls ⟨hB, wld_D hI.2.1, hS⟩ hl
theorem r_callS (n9 : Nat) (hp : pc + 3 = n9) {Yc : MD} {dc idx n : Nat} {As stk : List Value} {rc : Option Value} (hc : CC Yc dc X As h rc h1) (hd : dc + 1 ≤ d) (F : CSt Y.1.cls idx n Yc) (hn : As.length = n) (hst : stk = As.reverse ++ st) (hcat : (st.map fun v => v.category).sum ≤ 8) (hdg : decode Y.2.1 pc = .ok (.invokestatic idx, 3)) (kk : Run Y d X n9 lv (rc.toList ++ st) h1 r h') : Run Y d X pc lv stk h r h' := by
  subst hp
  intro p l e R s m args below meth c A cells slots Q C0 c1 c2 K H locs ls hI hl
  subst hst
  obtain ⟨f1, f3, f4, f5, f6, f7, f8, f9⟩ := F
  have hts := C0.1.2.2.2.2
  have cw : CallB R s args Y.1.cls idx Yc.1 Yc.2.1 Yc.2.2.1 Yc.2.2.2 (.code Yc.1 Yc.2.1 Yc.2.2.1 Yc.2.2.2 :: TBL) ({ frames := dc, cells := 0, slots := 0, locals := 60 * dc }) 0 0 n ∧ (Cond.static Yc.1).before args s = true :=
    ⟨callB_of n hts (good_Y f5) rfl rfl rfl (hts _ f4) (hts _ f1) ⟨f6, f7, f8⟩ ⟨by have := C0.2.1; show dc + 1 ≤ R.frames; omega, by have := C0.2.2.1; show 8 + (Yc.2.2.1 + 11) + 60 * dc ≤ R.locals; omega⟩, hts _ f3⟩
  refine va_callg (va_runS (As := As) (rest := st) ⟨C0.1.1, C0.1.2.1, C0.1.2.2.1, C0.1.2.2.2.1, hts⟩ (hc l H.size) cw ⟨fun a U g mk q => by
      obtain ⟨q0, q1, q2, q3, q4, q5⟩ := q
      exact ⟨q0, q1, q2, va_K.moved (u := U) (U := U.calling g mk a) (Vm.Alike.refl U.vm) q3, q4, EX.same rfl q5⟩, fun U hU hW => ⟨rfl, call_pre hI C0.2.2.2.2.1 C0.2.2.2.2.2 C0.2.2.2.1 hU hW⟩⟩ rfl hn hl.1 rfl (lv_room hcat) hdg ⟨c1, c2⟩) hI.2.2 (fun q _ hq => call_free hI C0.2.2.2.1 q hq) (call_free hI C0.2.2.2.1) (fun t H1 locs1 ht hB _ _ hS => ?_)
  rw [ht] at hB
  exact kk p l e R s m args below meth c A cells slots Q C0 c1 c2 K H1 locs1 ls ⟨hB, wld_D hI.2.1, hS⟩ hl
theorem r_callVi (n9 : Nat) (hp : pc + 3 = n9) {v : Int32} {Yc : MD} {dc k ci idx n : Nat} {ks : List Nat} {As stk : List Value} {T : u_T} {N : Nat} (hc : CC Yc dc X (.ref (X.1 k) :: As) h (some (.int v)) h1) (hd : dc + 1 ≤ d) (F : CW Y.1.cls idx n Yc) (hk : SH[k]? = some (0, ci, ks)) (hci : CL[ci]? = some (Yc.1.cls, T, N)) (hn : As.length = n) (hst : stk = As.reverse ++ .ref (X.1 k) :: st) (hcat : (st.map fun v => v.category).sum ≤ 8) (hdg : decode Y.2.1 pc = .ok (.invokevirtual idx, 3)) (kk : Run Y d X n9 lv (.int v :: st) h1 r h') : Run Y d X pc lv stk h r h' := r_callV _ hp hc hd F hk hci hn hst hcat hdg kk
theorem r_callVl (n9 : Nat) (hp : pc + 3 = n9) {v : Int64} {Yc : MD} {dc k ci idx n : Nat} {ks : List Nat} {As stk : List Value} {T : u_T} {N : Nat} (hc : CC Yc dc X (.ref (X.1 k) :: As) h (some (.long v)) h1) (hd : dc + 1 ≤ d) (F : CW Y.1.cls idx n Yc) (hk : SH[k]? = some (0, ci, ks)) (hci : CL[ci]? = some (Yc.1.cls, T, N)) (hn : As.length = n) (hst : stk = As.reverse ++ .ref (X.1 k) :: st) (hcat : (st.map fun v => v.category).sum ≤ 8) (hdg : decode Y.2.1 pc = .ok (.invokevirtual idx, 3)) (kk : Run Y d X n9 lv (.long v :: st) h1 r h') : Run Y d X pc lv stk h r h' := r_callV _ hp hc hd F hk hci hn hst hcat hdg kk
theorem r_callVv (n9 : Nat) (hp : pc + 3 = n9) {Yc : MD} {dc k ci idx n : Nat} {ks : List Nat} {As stk : List Value} {T : u_T} {N : Nat} (hc : CC Yc dc X (.ref (X.1 k) :: As) h none h1) (hd : dc + 1 ≤ d) (F : CW Y.1.cls idx n Yc) (hk : SH[k]? = some (0, ci, ks)) (hci : CL[ci]? = some (Yc.1.cls, T, N)) (hn : As.length = n) (hst : stk = As.reverse ++ .ref (X.1 k) :: st) (hcat : (st.map fun v => v.category).sum ≤ 8) (hdg : decode Y.2.1 pc = .ok (.invokevirtual idx, 3)) (kk : Run Y d X n9 lv st h1 r h') : Run Y d X pc lv stk h r h' := r_callV _ hp hc hd F hk hci hn hst hcat hdg kk
theorem r_callSi (n9 : Nat) (hp : pc + 3 = n9) {v : Int32} {Yc : MD} {dc idx n : Nat} {As stk : List Value} (hc : CC Yc dc X As h (some (.int v)) h1) (hd : dc + 1 ≤ d) (F : CSt Y.1.cls idx n Yc) (hn : As.length = n) (hst : stk = As.reverse ++ st) (hcat : (st.map fun v => v.category).sum ≤ 8) (hdg : decode Y.2.1 pc = .ok (.invokestatic idx, 3)) (kk : Run Y d X n9 lv (.int v :: st) h1 r h') : Run Y d X pc lv stk h r h' := r_callS _ hp hc hd F hn hst hcat hdg kk
theorem r_callSl (n9 : Nat) (hp : pc + 3 = n9) {v : Int64} {Yc : MD} {dc idx n : Nat} {As stk : List Value} (hc : CC Yc dc X As h (some (.long v)) h1) (hd : dc + 1 ≤ d) (F : CSt Y.1.cls idx n Yc) (hn : As.length = n) (hst : stk = As.reverse ++ st) (hcat : (st.map fun v => v.category).sum ≤ 8) (hdg : decode Y.2.1 pc = .ok (.invokestatic idx, 3)) (kk : Run Y d X n9 lv (.long v :: st) h1 r h') : Run Y d X pc lv stk h r h' := r_callS _ hp hc hd F hn hst hcat hdg kk
theorem r_callSv (n9 : Nat) (hp : pc + 3 = n9) {Yc : MD} {dc idx n : Nat} {As stk : List Value} (hc : CC Yc dc X As h none h1) (hd : dc + 1 ≤ d) (F : CSt Y.1.cls idx n Yc) (hn : As.length = n) (hst : stk = As.reverse ++ st) (hcat : (st.map fun v => v.category).sum ≤ 8) (hdg : decode Y.2.1 pc = .ok (.invokestatic idx, 3)) (kk : Run Y d X n9 lv st h1 r h') : Run Y d X pc lv stk h r h' := r_callS _ hp hc hd F hn hst hcat hdg kk
end RF
def gd {β : Type} (b : Bool) (k : Option β) : Option β := if b = true then k else none
def lt {α β : Type} (x : α) (k : α → Option β) : Option β := k x
def bo {α β : Type} (x : Option α) (k : α → Option β) : Option β := match x with
  | some a => k a
  | none => none
def bd {α β : Type} (x : Option (α × HP)) (k : α → HP → Option β) : Option β := match x with
  | some (a, h) => k a h
  | none => none
theorem gd_so {β : Type} {b : Bool} {k : Option β} {y : β} (h : gd b k = some y) : b = true ∧ k = some y := by
  cases b with
  | false => cases h
  | true => exact ⟨rfl, h⟩
theorem lt_so {α β : Type} {x : α} {k : α → Option β} {y : β} (h : lt x k = some y) : ∃ z, z = x ∧ k z = some y := ⟨x, rfl, h⟩
theorem bo_so {α β : Type} {x : Option α} {k : α → Option β} {y : β} (h : bo x k = some y) : ∃ a, x = some a ∧ k a = some y := by
  cases x with
  | none => cases h
  | some a => exact ⟨a, rfl, h⟩
theorem bd_so {α β : Type} {x : Option (α × HP)} {k : α → HP → Option β} {y : β} (h : bd x k = some y) : ∃ a h1, x = some (a, h1) ∧ k a h1 = some y := by
  cases x with
  | none => cases h
  | some a => exact ⟨a.1, a.2, rfl, h⟩
theorem if_so {α : Type} {c : Prop} [Decidable c] {a b : Option α} {y : α} (h : (if c then a else b) = some y) : (c ∧ a = some y) ∨ (¬ c ∧ b = some y) := by
  by_cases hc : c
  · rw [if_pos hc] at h; exact Or.inl ⟨hc, h⟩
  · rw [if_neg hc] at h; exact Or.inr ⟨hc, h⟩
def inb (i : Int32) (n : Nat) : Bool := !(decide (i < 0)) && decide (i.toNatClampNeg < n)
theorem inb_vp {i : Int32} {n : Nat} (h : inb i n = true) : vp_in i n := by
  simp only [inb, Bool.and_eq_true, Bool.not_eq_true', decide_eq_false_iff_not, decide_eq_true_eq] at h
  intro q
  rcases q with q | q
  · exact h.1 q
  · omega
def nz (y : Int32) : Bool := !(decide (y = 0))
theorem nz_of {y : Int32} (h : nz y = true) : ¬ y = 0 := by simpa [nz] using h
def zok (v : Int32) : Bool := decide (v = 0) || decide (v = 1)
theorem zok_nar {v : Int32} (h : zok v = true) : narrow .boolean (.int v) = .int v := by
  simp only [zok, Bool.or_eq_true, decide_eq_true_eq] at h
  rcases h with rfl | rfl <;> rfl
def FU : Nat := 100000
end
section
theorem tb1 (i : Nat) {w : Cond} (h : tables_1_1[i]? = some w) (hg : goodWord w = true) : w ∈ TBL := List.mem_filter.mpr ⟨List.mem_append_right _ (show w ∈ tables_1_1 ++ (tables_1_2 ++ (tables_1_3 ++ (tables_1_4 ++ (tables_1_5 ++ tables_1_6)))) from List.mem_append_left _ ((List.mem_of_getElem? h))), hg⟩
theorem tb2 (i : Nat) {w : Cond} (h : tables_1_2[i]? = some w) (hg : goodWord w = true) : w ∈ TBL := List.mem_filter.mpr ⟨List.mem_append_right _ (show w ∈ tables_1_1 ++ (tables_1_2 ++ (tables_1_3 ++ (tables_1_4 ++ (tables_1_5 ++ tables_1_6)))) from List.mem_append_right _ (List.mem_append_left _ ((List.mem_of_getElem? h)))), hg⟩
theorem tb3 (i : Nat) {w : Cond} (h : tables_1_3[i]? = some w) (hg : goodWord w = true) : w ∈ TBL := List.mem_filter.mpr ⟨List.mem_append_right _ (show w ∈ tables_1_1 ++ (tables_1_2 ++ (tables_1_3 ++ (tables_1_4 ++ (tables_1_5 ++ tables_1_6)))) from List.mem_append_right _ (List.mem_append_right _ (List.mem_append_left _ ((List.mem_of_getElem? h))))), hg⟩
theorem tb4 (i : Nat) {w : Cond} (h : tables_1_4[i]? = some w) (hg : goodWord w = true) : w ∈ TBL := List.mem_filter.mpr ⟨List.mem_append_right _ (show w ∈ tables_1_1 ++ (tables_1_2 ++ (tables_1_3 ++ (tables_1_4 ++ (tables_1_5 ++ tables_1_6)))) from List.mem_append_right _ (List.mem_append_right _ (List.mem_append_right _ (List.mem_append_left _ ((List.mem_of_getElem? h)))))), hg⟩
theorem tb5 (i : Nat) {w : Cond} (h : tables_1_5[i]? = some w) (hg : goodWord w = true) : w ∈ TBL := List.mem_filter.mpr ⟨List.mem_append_right _ (show w ∈ tables_1_1 ++ (tables_1_2 ++ (tables_1_3 ++ (tables_1_4 ++ (tables_1_5 ++ tables_1_6)))) from List.mem_append_right _ (List.mem_append_right _ (List.mem_append_right _ (List.mem_append_right _ (List.mem_append_left _ ((List.mem_of_getElem? h))))))), hg⟩
theorem tb6 (i : Nat) {w : Cond} (h : tables_1_6[i]? = some w) (hg : goodWord w = true) : w ∈ TBL := List.mem_filter.mpr ⟨List.mem_append_right _ (show w ∈ tables_1_1 ++ (tables_1_2 ++ (tables_1_3 ++ (tables_1_4 ++ (tables_1_5 ++ tables_1_6)))) from List.mem_append_right _ (List.mem_append_right _ (List.mem_append_right _ (List.mem_append_right _ (List.mem_append_right _ ((List.mem_of_getElem? h))))))), hg⟩
theorem in_of (ws : List Cond) (ps : List Nat) (hp : ws = ps.filterMap (fun i => tables_1[i]?)) (hg : ws.all goodWord = true) : ∀ w ∈ ws, w ∈ TBL := by
  intro w hw
  have h1 := List.all_eq_true.mp hg w hw
  rw [hp] at hw
  obtain ⟨i, -, hi⟩ := List.mem_filterMap.mp hw
  exact List.mem_filter.mpr ⟨List.mem_append_right _ (List.mem_of_getElem? hi), h1⟩
set_option maxRecDepth 20000 in
theorem in_X0 : ∀ w ∈ u_ws RX0 TX0 5, w ∈ TBL := in_of _ [185, 187, 189, 191, 193] (by decide +kernel) (by decide +kernel)
theorem cl_0 : CL[0]? = some (RX0, TX0, 5) := rfl
set_option maxRecDepth 20000 in
theorem in_X1 : ∀ w ∈ u_ws RX1 TX1 14, w ∈ TBL := in_of _ [102, 104, 106, 108, 110, 112, 114, 116, 118, 120, 122, 124, 126, 128] (by decide +kernel) (by decide +kernel)
theorem cl_1 : CL[1]? = some (RX1, TX1, 14) := rfl
set_option maxRecDepth 20000 in
theorem in_X2 : ∀ w ∈ u_ws RX2 TX2 7, w ∈ TBL := in_of _ [47, 49, 51, 53, 55, 57, 59] (by decide +kernel) (by decide +kernel)
theorem cl_2 : CL[2]? = some (RX2, TX2, 7) := rfl
set_option maxRecDepth 20000 in
theorem in_X3 : ∀ w ∈ u_ws RX3 TX3 3, w ∈ TBL := in_of _ [143, 145, 147] (by decide +kernel) (by decide +kernel)
theorem cl_3 : CL[3]? = some (RX3, TX3, 3) := rfl
set_option maxRecDepth 20000 in
theorem in_X4 : ∀ w ∈ u_ws RX4 TX4 3, w ∈ TBL := in_of _ [209, 211, 213] (by decide +kernel) (by decide +kernel)
theorem cl_4 : CL[4]? = some (RX4, TX4, 3) := rfl
set_option maxRecDepth 20000 in
theorem in_X5 : ∀ w ∈ u_ws RX5 TX5 4, w ∈ TBL := in_of _ [162, 164, 166, 168] (by decide +kernel) (by decide +kernel)
theorem cl_5 : CL[5]? = some (RX5, TX5, 4) := rfl
set_option maxRecDepth 20000 in
theorem in_X6 : ∀ w ∈ u_ws RX6 TX6 15, w ∈ TBL := in_of _ [232, 234, 236, 238, 240, 242, 244, 246, 248, 250, 252, 254, 256, 258, 260] (by decide +kernel) (by decide +kernel)
theorem cl_6 : CL[6]? = some (RX6, TX6, 15) := rfl
set_option maxRecDepth 20000 in
theorem in_X7 : ∀ w ∈ u_ws RX7 TX7 87, w ∈ TBL := in_of _ [810, 812, 814, 816, 818, 820, 822, 824, 826, 828, 830, 832, 834, 836, 838, 840, 842, 844, 846, 848, 850, 852, 854, 856, 858, 860, 862, 864, 866, 868, 870, 872, 874, 876, 878, 880, 882, 884, 886, 888, 890, 892, 894, 896, 898, 900, 902, 904, 906, 908, 910, 912, 914, 916, 918, 920, 922, 924, 926, 928, 930, 932, 934, 936, 938, 940, 942, 944, 946, 948, 950, 952, 954, 956, 958, 960, 962, 964, 966, 968, 970, 972, 974, 976, 978, 980, 982] (by decide +kernel) (by decide +kernel)
theorem cl_7 : CL[7]? = some (RX7, TX7, 87) := rfl
def K7 : List Nat := [0, 0, 0, 0, 0, 0, 2, 2, 2, 2, 2, 2, 2, 0, 0, 0, 0, 0, 2, 2, 2, 2, 2, 2, 2, 2, 0, 0, 0, 2, 2, 0, 0, 2, 0, 0, 0, 0, 0, 2, 2, 2, 2, 0, 2, 0, 0, 2, 0, 2, 2, 0, 0, 2, 2, 2, 2, 0, 0, 0, 0, 0, 0, 0, 0, 0, 0, 0, 2, 2, 2, 2, 2, 2, 2, 2, 2, 2, 2, 2, 2, 0, 2, 2, 2, 2, 2]
theorem sh_0 : SH[0]? = some (0, 6, [2, 2, 2, 2, 2, 2, 2, 2, 2, 0, 2, 0, 2, 2, 2]) := rfl
theorem sh_1 : SH[1]? = some (0, 2, [2, 2, 2, 2, 0, 0, 0]) := rfl
theorem sh_2 : SH[2]? = some (1, 100, []) := rfl
theorem sh_3 : SH[3]? = some (1, 100, []) := rfl
theorem sh_4 : SH[4]? = some (1, 100, []) := rfl
theorem sh_5 : SH[5]? = some (1, 6, []) := rfl
theorem sh_6 : SH[6]? = some (0, 1, [2, 2, 2, 2, 2, 2, 2, 0, 0, 0, 0, 0, 0, 3]) := rfl
theorem sh_7 : SH[7]? = some (1, 6, []) := rfl
theorem sh_8 : SH[8]? = some (1, 6, []) := rfl
theorem sh_9 : SH[9]? = some (1, 6, []) := rfl
theorem sh_10 : SH[10]? = some (1, 6, []) := rfl
theorem sh_11 : SH[11]? = some (1, 6, []) := rfl
theorem sh_12 : SH[12]? = some (1, 24, []) := rfl
theorem sh_13 : SH[13]? = some (1, 3, []) := rfl
theorem sh_14 : SH[14]? = some (0, 1, [2, 2, 2, 2, 2, 2, 2, 0, 0, 0, 0, 0, 0, 3]) := rfl
theorem sh_15 : SH[15]? = some (1, 6, []) := rfl
theorem sh_16 : SH[16]? = some (1, 6, []) := rfl
theorem sh_17 : SH[17]? = some (1, 6, []) := rfl
theorem sh_18 : SH[18]? = some (1, 6, []) := rfl
theorem sh_19 : SH[19]? = some (1, 6, []) := rfl
theorem sh_20 : SH[20]? = some (1, 24, []) := rfl
theorem sh_21 : SH[21]? = some (1, 3, []) := rfl
theorem sh_22 : SH[22]? = some (0, 1, [2, 2, 2, 2, 2, 2, 2, 0, 0, 0, 0, 0, 0, 3]) := rfl
theorem sh_23 : SH[23]? = some (1, 6, []) := rfl
theorem sh_24 : SH[24]? = some (1, 6, []) := rfl
theorem sh_25 : SH[25]? = some (1, 6, []) := rfl
theorem sh_26 : SH[26]? = some (1, 6, []) := rfl
theorem sh_27 : SH[27]? = some (1, 6, []) := rfl
theorem sh_28 : SH[28]? = some (1, 24, []) := rfl
theorem sh_29 : SH[29]? = some (1, 3, []) := rfl
theorem sh_30 : SH[30]? = some (0, 3, [2, 2, 0]) := rfl
theorem sh_31 : SH[31]? = some (1, 5, []) := rfl
theorem sh_32 : SH[32]? = some (1, 5, []) := rfl
theorem sh_33 : SH[33]? = some (0, 3, [2, 2, 0]) := rfl
theorem sh_34 : SH[34]? = some (1, 10, []) := rfl
theorem sh_35 : SH[35]? = some (1, 10, []) := rfl
theorem sh_36 : SH[36]? = some (0, 3, [2, 2, 0]) := rfl
theorem sh_37 : SH[37]? = some (1, 8, []) := rfl
theorem sh_38 : SH[38]? = some (1, 8, []) := rfl
theorem sh_39 : SH[39]? = some (0, 3, [2, 2, 0]) := rfl
theorem sh_40 : SH[40]? = some (1, 5, []) := rfl
theorem sh_41 : SH[41]? = some (1, 5, []) := rfl
theorem sh_42 : SH[42]? = some (0, 3, [2, 2, 0]) := rfl
theorem sh_43 : SH[43]? = some (1, 10, []) := rfl
theorem sh_44 : SH[44]? = some (1, 10, []) := rfl
theorem sh_45 : SH[45]? = some (0, 3, [2, 2, 0]) := rfl
theorem sh_46 : SH[46]? = some (1, 8, []) := rfl
theorem sh_47 : SH[47]? = some (1, 8, []) := rfl
theorem sh_48 : SH[48]? = some (5, 6, []) := rfl
theorem sh_49 : SH[49]? = some (0, 2, [2, 2, 2, 2, 0, 0, 0]) := rfl
theorem sh_50 : SH[50]? = some (1, 100, []) := rfl
theorem sh_51 : SH[51]? = some (1, 100, []) := rfl
theorem sh_52 : SH[52]? = some (1, 100, []) := rfl
theorem sh_53 : SH[53]? = some (1, 6, []) := rfl
theorem sh_54 : SH[54]? = some (0, 2, [2, 2, 2, 2, 0, 0, 0]) := rfl
theorem sh_55 : SH[55]? = some (1, 100, []) := rfl
theorem sh_56 : SH[56]? = some (1, 100, []) := rfl
theorem sh_57 : SH[57]? = some (1, 100, []) := rfl
theorem sh_58 : SH[58]? = some (1, 6, []) := rfl
theorem sh_59 : SH[59]? = some (0, 2, [2, 2, 2, 2, 0, 0, 0]) := rfl
theorem sh_60 : SH[60]? = some (1, 100, []) := rfl
theorem sh_61 : SH[61]? = some (1, 100, []) := rfl
theorem sh_62 : SH[62]? = some (1, 100, []) := rfl
theorem sh_63 : SH[63]? = some (1, 6, []) := rfl
theorem sh_64 : SH[64]? = some (0, 2, [2, 2, 2, 2, 0, 0, 0]) := rfl
theorem sh_65 : SH[65]? = some (1, 100, []) := rfl
theorem sh_66 : SH[66]? = some (1, 100, []) := rfl
theorem sh_67 : SH[67]? = some (1, 100, []) := rfl
theorem sh_68 : SH[68]? = some (1, 6, []) := rfl
theorem sh_69 : SH[69]? = some (0, 2, [2, 2, 2, 2, 0, 0, 0]) := rfl
theorem sh_70 : SH[70]? = some (1, 100, []) := rfl
theorem sh_71 : SH[71]? = some (1, 100, []) := rfl
theorem sh_72 : SH[72]? = some (1, 100, []) := rfl
theorem sh_73 : SH[73]? = some (1, 6, []) := rfl
theorem sh_74 : SH[74]? = some (0, 2, [2, 2, 2, 2, 0, 0, 0]) := rfl
theorem sh_75 : SH[75]? = some (1, 100, []) := rfl
theorem sh_76 : SH[76]? = some (1, 100, []) := rfl
theorem sh_77 : SH[77]? = some (1, 100, []) := rfl
theorem sh_78 : SH[78]? = some (1, 6, []) := rfl
theorem sh_79 : SH[79]? = some (0, 5, [2, 3, 0, 0]) := rfl
theorem sh_80 : SH[80]? = some (3, 100, []) := rfl
theorem sh_81 : SH[81]? = some (0, 0, [2, 0, 0, 0, 0]) := rfl
theorem sh_82 : SH[82]? = some (1, 20, []) := rfl
theorem sh_83 : SH[83]? = some (6, 6, []) := rfl
theorem sh_84 : SH[84]? = some (0, 4, [2, 0, 0]) := rfl
theorem sh_85 : SH[85]? = some (2, 60, []) := rfl
theorem sh_86 : SH[86]? = some (0, 4, [2, 0, 0]) := rfl
theorem sh_87 : SH[87]? = some (2, 60, []) := rfl
theorem sh_88 : SH[88]? = some (0, 4, [2, 0, 0]) := rfl
theorem sh_89 : SH[89]? = some (2, 60, []) := rfl
theorem sh_90 : SH[90]? = some (0, 4, [2, 0, 0]) := rfl
theorem sh_91 : SH[91]? = some (2, 60, []) := rfl
theorem sh_92 : SH[92]? = some (0, 4, [2, 0, 0]) := rfl
theorem sh_93 : SH[93]? = some (2, 60, []) := rfl
theorem sh_94 : SH[94]? = some (0, 4, [2, 0, 0]) := rfl
theorem sh_95 : SH[95]? = some (2, 60, []) := rfl
theorem sh_96 : SH[96]? = some (0, 7, K7) := rfl
theorem sh_97 : SH[97]? = some (1, 6, []) := rfl
theorem sh_98 : SH[98]? = some (1, 6, []) := rfl
theorem sh_99 : SH[99]? = some (1, 6, []) := rfl
theorem sh_100 : SH[100]? = some (1, 6, []) := rfl
theorem sh_101 : SH[101]? = some (1, 6, []) := rfl
theorem sh_102 : SH[102]? = some (1, 24, []) := rfl
theorem sh_103 : SH[103]? = some (1, 3, []) := rfl
theorem sh_104 : SH[104]? = some (1, 100, []) := rfl
theorem sh_105 : SH[105]? = some (1, 6, []) := rfl
theorem sh_106 : SH[106]? = some (1, 60, []) := rfl
theorem sh_107 : SH[107]? = some (1, 60, []) := rfl
theorem sh_108 : SH[108]? = some (1, 60, []) := rfl
theorem sh_109 : SH[109]? = some (1, 60, []) := rfl
theorem sh_110 : SH[110]? = some (1, 600, []) := rfl
theorem sh_111 : SH[111]? = some (1, 101, []) := rfl
theorem sh_112 : SH[112]? = some (1, 16, []) := rfl
theorem sh_113 : SH[113]? = some (4, 100, []) := rfl
theorem sh_114 : SH[114]? = some (1, 3, []) := rfl
theorem sh_115 : SH[115]? = some (1, 6, []) := rfl
theorem sh_116 : SH[116]? = some (1, 6, []) := rfl
theorem sh_117 : SH[117]? = some (1, 6, []) := rfl
theorem sh_118 : SH[118]? = some (1, 3, []) := rfl
theorem sh_119 : SH[119]? = some (1, 3, []) := rfl
theorem sh_120 : SH[120]? = some (1, 3, []) := rfl
theorem sh_121 : SH[121]? = some (1, 5, []) := rfl
theorem sh_122 : SH[122]? = some (1, 5, []) := rfl
theorem sh_123 : SH[123]? = some (1, 10, []) := rfl
theorem sh_124 : SH[124]? = some (1, 10, []) := rfl
theorem sh_125 : SH[125]? = some (1, 8, []) := rfl
theorem sh_126 : SH[126]? = some (1, 8, []) := rfl
theorem sh_127 : SH[127]? = some (1, 6, []) := rfl
theorem sh_128 : SH[128]? = some (1, 6, []) := rfl
theorem sh_129 : SH[129]? = some (1, 6, []) := rfl
theorem sh_130 : SH[130]? = some (1, 6, []) := rfl
theorem sh_131 : SH[131]? = some (1, 6, []) := rfl
theorem sh_132 : SH[132]? = some (1, 24, []) := rfl
theorem sh_133 : SH[133]? = some (1, 3, []) := rfl
theorem sh_134 : SH[134]? = some (1, 5, []) := rfl
theorem sh_135 : SH[135]? = some (1, 5, []) := rfl
theorem sh_136 : SH[136]? = some (1, 10, []) := rfl
theorem sh_137 : SH[137]? = some (1, 10, []) := rfl
theorem sh_138 : SH[138]? = some (1, 8, []) := rfl
theorem sh_139 : SH[139]? = some (1, 8, []) := rfl
theorem sh_140 : SH[140]? = some (1, 20, []) := rfl
theorem sh_141 : SH[141]? = some (1, 6, []) := rfl
theorem sh_142 : SH[142]? = some (1, 6, []) := rfl
theorem sh_143 : SH[143]? = some (2, 360, []) := rfl
theorem sh_144 : SH[144]? = some (2, 60, []) := rfl
theorem kd_0_0 : ([2, 0, 0, 0, 0] : List Nat)[0]? = some 2 := rfl
theorem kd_0_1 : ([2, 0, 0, 0, 0] : List Nat)[1]? = some 0 := rfl
theorem kd_0_2 : ([2, 0, 0, 0, 0] : List Nat)[2]? = some 0 := rfl
theorem kd_0_3 : ([2, 0, 0, 0, 0] : List Nat)[3]? = some 0 := rfl
theorem kd_0_4 : ([2, 0, 0, 0, 0] : List Nat)[4]? = some 0 := rfl
theorem kd_1_0 : ([2, 2, 2, 2, 2, 2, 2, 0, 0, 0, 0, 0, 0, 3] : List Nat)[0]? = some 2 := rfl
theorem kd_1_1 : ([2, 2, 2, 2, 2, 2, 2, 0, 0, 0, 0, 0, 0, 3] : List Nat)[1]? = some 2 := rfl
theorem kd_1_2 : ([2, 2, 2, 2, 2, 2, 2, 0, 0, 0, 0, 0, 0, 3] : List Nat)[2]? = some 2 := rfl
theorem kd_1_3 : ([2, 2, 2, 2, 2, 2, 2, 0, 0, 0, 0, 0, 0, 3] : List Nat)[3]? = some 2 := rfl
theorem kd_1_4 : ([2, 2, 2, 2, 2, 2, 2, 0, 0, 0, 0, 0, 0, 3] : List Nat)[4]? = some 2 := rfl
theorem kd_1_5 : ([2, 2, 2, 2, 2, 2, 2, 0, 0, 0, 0, 0, 0, 3] : List Nat)[5]? = some 2 := rfl
theorem kd_1_6 : ([2, 2, 2, 2, 2, 2, 2, 0, 0, 0, 0, 0, 0, 3] : List Nat)[6]? = some 2 := rfl
theorem kd_1_7 : ([2, 2, 2, 2, 2, 2, 2, 0, 0, 0, 0, 0, 0, 3] : List Nat)[7]? = some 0 := rfl
theorem kd_1_8 : ([2, 2, 2, 2, 2, 2, 2, 0, 0, 0, 0, 0, 0, 3] : List Nat)[8]? = some 0 := rfl
theorem kd_1_9 : ([2, 2, 2, 2, 2, 2, 2, 0, 0, 0, 0, 0, 0, 3] : List Nat)[9]? = some 0 := rfl
theorem kd_1_10 : ([2, 2, 2, 2, 2, 2, 2, 0, 0, 0, 0, 0, 0, 3] : List Nat)[10]? = some 0 := rfl
theorem kd_1_11 : ([2, 2, 2, 2, 2, 2, 2, 0, 0, 0, 0, 0, 0, 3] : List Nat)[11]? = some 0 := rfl
theorem kd_1_12 : ([2, 2, 2, 2, 2, 2, 2, 0, 0, 0, 0, 0, 0, 3] : List Nat)[12]? = some 0 := rfl
theorem kd_1_13 : ([2, 2, 2, 2, 2, 2, 2, 0, 0, 0, 0, 0, 0, 3] : List Nat)[13]? = some 3 := rfl
theorem kd_2_0 : ([2, 2, 2, 2, 0, 0, 0] : List Nat)[0]? = some 2 := rfl
theorem kd_2_1 : ([2, 2, 2, 2, 0, 0, 0] : List Nat)[1]? = some 2 := rfl
theorem kd_2_2 : ([2, 2, 2, 2, 0, 0, 0] : List Nat)[2]? = some 2 := rfl
theorem kd_2_3 : ([2, 2, 2, 2, 0, 0, 0] : List Nat)[3]? = some 2 := rfl
theorem kd_2_4 : ([2, 2, 2, 2, 0, 0, 0] : List Nat)[4]? = some 0 := rfl
theorem kd_2_5 : ([2, 2, 2, 2, 0, 0, 0] : List Nat)[5]? = some 0 := rfl
theorem kd_2_6 : ([2, 2, 2, 2, 0, 0, 0] : List Nat)[6]? = some 0 := rfl
theorem kd_3_0 : ([2, 2, 0] : List Nat)[0]? = some 2 := rfl
theorem kd_3_1 : ([2, 2, 0] : List Nat)[1]? = some 2 := rfl
theorem kd_3_2 : ([2, 2, 0] : List Nat)[2]? = some 0 := rfl
theorem kd_4_0 : ([2, 0, 0] : List Nat)[0]? = some 2 := rfl
theorem kd_4_1 : ([2, 0, 0] : List Nat)[1]? = some 0 := rfl
theorem kd_4_2 : ([2, 0, 0] : List Nat)[2]? = some 0 := rfl
theorem kd_5_0 : ([2, 3, 0, 0] : List Nat)[0]? = some 2 := rfl
theorem kd_5_1 : ([2, 3, 0, 0] : List Nat)[1]? = some 3 := rfl
theorem kd_5_2 : ([2, 3, 0, 0] : List Nat)[2]? = some 0 := rfl
theorem kd_5_3 : ([2, 3, 0, 0] : List Nat)[3]? = some 0 := rfl
theorem kd_6_0 : ([2, 2, 2, 2, 2, 2, 2, 2, 2, 0, 2, 0, 2, 2, 2] : List Nat)[0]? = some 2 := rfl
theorem kd_6_1 : ([2, 2, 2, 2, 2, 2, 2, 2, 2, 0, 2, 0, 2, 2, 2] : List Nat)[1]? = some 2 := rfl
theorem kd_6_2 : ([2, 2, 2, 2, 2, 2, 2, 2, 2, 0, 2, 0, 2, 2, 2] : List Nat)[2]? = some 2 := rfl
theorem kd_6_3 : ([2, 2, 2, 2, 2, 2, 2, 2, 2, 0, 2, 0, 2, 2, 2] : List Nat)[3]? = some 2 := rfl
theorem kd_6_4 : ([2, 2, 2, 2, 2, 2, 2, 2, 2, 0, 2, 0, 2, 2, 2] : List Nat)[4]? = some 2 := rfl
theorem kd_6_5 : ([2, 2, 2, 2, 2, 2, 2, 2, 2, 0, 2, 0, 2, 2, 2] : List Nat)[5]? = some 2 := rfl
theorem kd_6_6 : ([2, 2, 2, 2, 2, 2, 2, 2, 2, 0, 2, 0, 2, 2, 2] : List Nat)[6]? = some 2 := rfl
theorem kd_6_7 : ([2, 2, 2, 2, 2, 2, 2, 2, 2, 0, 2, 0, 2, 2, 2] : List Nat)[7]? = some 2 := rfl
theorem kd_6_8 : ([2, 2, 2, 2, 2, 2, 2, 2, 2, 0, 2, 0, 2, 2, 2] : List Nat)[8]? = some 2 := rfl
theorem kd_6_9 : ([2, 2, 2, 2, 2, 2, 2, 2, 2, 0, 2, 0, 2, 2, 2] : List Nat)[9]? = some 0 := rfl
theorem kd_6_10 : ([2, 2, 2, 2, 2, 2, 2, 2, 2, 0, 2, 0, 2, 2, 2] : List Nat)[10]? = some 2 := rfl
theorem kd_6_11 : ([2, 2, 2, 2, 2, 2, 2, 2, 2, 0, 2, 0, 2, 2, 2] : List Nat)[11]? = some 0 := rfl
theorem kd_6_12 : ([2, 2, 2, 2, 2, 2, 2, 2, 2, 0, 2, 0, 2, 2, 2] : List Nat)[12]? = some 2 := rfl
theorem kd_6_13 : ([2, 2, 2, 2, 2, 2, 2, 2, 2, 0, 2, 0, 2, 2, 2] : List Nat)[13]? = some 2 := rfl
theorem kd_6_14 : ([2, 2, 2, 2, 2, 2, 2, 2, 2, 0, 2, 0, 2, 2, 2] : List Nat)[14]? = some 2 := rfl
theorem kd_7_0 : (K7)[0]? = some 0 := rfl
theorem kd_7_1 : (K7)[1]? = some 0 := rfl
theorem kd_7_2 : (K7)[2]? = some 0 := rfl
theorem kd_7_3 : (K7)[3]? = some 0 := rfl
theorem kd_7_4 : (K7)[4]? = some 0 := rfl
theorem kd_7_5 : (K7)[5]? = some 0 := rfl
theorem kd_7_6 : (K7)[6]? = some 2 := rfl
theorem kd_7_7 : (K7)[7]? = some 2 := rfl
theorem kd_7_8 : (K7)[8]? = some 2 := rfl
theorem kd_7_9 : (K7)[9]? = some 2 := rfl
theorem kd_7_10 : (K7)[10]? = some 2 := rfl
theorem kd_7_11 : (K7)[11]? = some 2 := rfl
theorem kd_7_12 : (K7)[12]? = some 2 := rfl
theorem kd_7_13 : (K7)[13]? = some 0 := rfl
theorem kd_7_14 : (K7)[14]? = some 0 := rfl
theorem kd_7_15 : (K7)[15]? = some 0 := rfl
theorem kd_7_16 : (K7)[16]? = some 0 := rfl
theorem kd_7_17 : (K7)[17]? = some 0 := rfl
theorem kd_7_18 : (K7)[18]? = some 2 := rfl
theorem kd_7_19 : (K7)[19]? = some 2 := rfl
theorem kd_7_20 : (K7)[20]? = some 2 := rfl
theorem kd_7_21 : (K7)[21]? = some 2 := rfl
theorem kd_7_22 : (K7)[22]? = some 2 := rfl
theorem kd_7_23 : (K7)[23]? = some 2 := rfl
theorem kd_7_24 : (K7)[24]? = some 2 := rfl
theorem kd_7_25 : (K7)[25]? = some 2 := rfl
theorem kd_7_26 : (K7)[26]? = some 0 := rfl
theorem kd_7_27 : (K7)[27]? = some 0 := rfl
theorem kd_7_28 : (K7)[28]? = some 0 := rfl
theorem kd_7_29 : (K7)[29]? = some 2 := rfl
theorem kd_7_30 : (K7)[30]? = some 2 := rfl
theorem kd_7_31 : (K7)[31]? = some 0 := rfl
theorem kd_7_32 : (K7)[32]? = some 0 := rfl
theorem kd_7_33 : (K7)[33]? = some 2 := rfl
theorem kd_7_34 : (K7)[34]? = some 0 := rfl
theorem kd_7_35 : (K7)[35]? = some 0 := rfl
theorem kd_7_36 : (K7)[36]? = some 0 := rfl
theorem kd_7_37 : (K7)[37]? = some 0 := rfl
theorem kd_7_38 : (K7)[38]? = some 0 := rfl
theorem kd_7_39 : (K7)[39]? = some 2 := rfl
theorem kd_7_40 : (K7)[40]? = some 2 := rfl
theorem kd_7_41 : (K7)[41]? = some 2 := rfl
theorem kd_7_42 : (K7)[42]? = some 2 := rfl
theorem kd_7_43 : (K7)[43]? = some 0 := rfl
theorem kd_7_44 : (K7)[44]? = some 2 := rfl
theorem kd_7_45 : (K7)[45]? = some 0 := rfl
theorem kd_7_46 : (K7)[46]? = some 0 := rfl
theorem kd_7_47 : (K7)[47]? = some 2 := rfl
theorem kd_7_48 : (K7)[48]? = some 0 := rfl
theorem kd_7_49 : (K7)[49]? = some 2 := rfl
theorem kd_7_50 : (K7)[50]? = some 2 := rfl
theorem kd_7_51 : (K7)[51]? = some 0 := rfl
theorem kd_7_52 : (K7)[52]? = some 0 := rfl
theorem kd_7_53 : (K7)[53]? = some 2 := rfl
theorem kd_7_54 : (K7)[54]? = some 2 := rfl
theorem kd_7_55 : (K7)[55]? = some 2 := rfl
theorem kd_7_56 : (K7)[56]? = some 2 := rfl
theorem kd_7_57 : (K7)[57]? = some 0 := rfl
theorem kd_7_58 : (K7)[58]? = some 0 := rfl
theorem kd_7_59 : (K7)[59]? = some 0 := rfl
theorem kd_7_60 : (K7)[60]? = some 0 := rfl
theorem kd_7_61 : (K7)[61]? = some 0 := rfl
theorem kd_7_62 : (K7)[62]? = some 0 := rfl
theorem kd_7_63 : (K7)[63]? = some 0 := rfl
theorem kd_7_64 : (K7)[64]? = some 0 := rfl
theorem kd_7_65 : (K7)[65]? = some 0 := rfl
theorem kd_7_66 : (K7)[66]? = some 0 := rfl
theorem kd_7_67 : (K7)[67]? = some 0 := rfl
theorem kd_7_68 : (K7)[68]? = some 2 := rfl
theorem kd_7_69 : (K7)[69]? = some 2 := rfl
theorem kd_7_70 : (K7)[70]? = some 2 := rfl
theorem kd_7_71 : (K7)[71]? = some 2 := rfl
theorem kd_7_72 : (K7)[72]? = some 2 := rfl
theorem kd_7_73 : (K7)[73]? = some 2 := rfl
theorem kd_7_74 : (K7)[74]? = some 2 := rfl
theorem kd_7_75 : (K7)[75]? = some 2 := rfl
theorem kd_7_76 : (K7)[76]? = some 2 := rfl
theorem kd_7_77 : (K7)[77]? = some 2 := rfl
theorem kd_7_78 : (K7)[78]? = some 2 := rfl
theorem kd_7_79 : (K7)[79]? = some 2 := rfl
theorem kd_7_80 : (K7)[80]? = some 2 := rfl
theorem kd_7_81 : (K7)[81]? = some 0 := rfl
theorem kd_7_82 : (K7)[82]? = some 2 := rfl
theorem kd_7_83 : (K7)[83]? = some 2 := rfl
theorem kd_7_84 : (K7)[84]? = some 2 := rfl
theorem kd_7_85 : (K7)[85]? = some 2 := rfl
theorem kd_7_86 : (K7)[86]? = some 2 := rfl
abbrev mX0_init : MD := (yX0_init, cX0_init, 1, none)
abbrev mX0_start : MD := (yX0_start, cX0_start, 6, (some .int))
abbrev mX0_run : MD := (yX0_run, cX0_run, 9, (some .int))
abbrev mX0_ownerOf : MD := (yX0_ownerOf, cX0_ownerOf, 4, (some .int))
abbrev mX1_init : MD := (yX1_init, cX1_init, 2, none)
abbrev mX1_copyFrom : MD := (yX1_copyFrom, cX1_copyFrom, 2, none)
abbrev mX1_startFrom : MD := (yX1_startFrom, cX1_startFrom, 2, none)
abbrev mX1_take : MD := (yX1_take, cX1_take, 6, (some .int))
abbrev mX1_has : MD := (yX1_has, cX1_has, 2, (some .boolean))
abbrev mX1_placeOf : MD := (yX1_placeOf, cX1_placeOf, 3, (some .int))
abbrev mX1_putUpon : MD := (yX1_putUpon, cX1_putUpon, 2, none)
abbrev mX1_lashRow : MD := (yX1_lashRow, cX1_lashRow, 7, (some .boolean))
abbrev mX1_standsOfTheSame : MD := (yX1_standsOfTheSame, cX1_standsOfTheSame, 3, (some .boolean))
abbrev mX1_above : MD := (yX1_above, cX1_above, 4, (some .int))
abbrev mX1_height : MD := (yX1_height, cX1_height, 1, (some .int))
abbrev mX1_load : MD := (yX1_load, cX1_load, 2, (some .int))
abbrev mX1_miles : MD := (yX1_miles, cX1_miles, 1, (some .int))
abbrev mX1_strength : MD := (yX1_strength, cX1_strength, 4, (some .int))
abbrev mX1_breaking : MD := (yX1_breaking, cX1_breaking, 2, (some .int))
abbrev mX1_dayGoes : MD := (yX1_dayGoes, cX1_dayGoes, 4, (some .int))
abbrev mX1_nothingBreaksIn : MD := (yX1_nothingBreaksIn, cX1_nothingBreaksIn, 3, (some .boolean))
abbrev mX2_init : MD := (yX2_init, cX2_init, 1, none)
abbrev mX2_becomeCalm : MD := (yX2_becomeCalm, cX2_becomeCalm, 1, none)
abbrev mX2_add : MD := (yX2_add, cX2_add, 4, none)
abbrev mX2_heart : MD := (yX2_heart, cX2_heart, 6, (some .int))
abbrev mX3_init : MD := (yX3_init, cX3_init, 2, none)
abbrev mX3_add : MD := (yX3_add, cX3_add, 3, (some .boolean))
abbrev mX3_clear : MD := (yX3_clear, cX3_clear, 1, (some .int))
abbrev mX3_copyFrom : MD := (yX3_copyFrom, cX3_copyFrom, 2, none)
abbrev mX4_init : MD := (yX4_init, cX4_init, 1, none)
abbrev mX4_become : MD := (yX4_become, cX4_become, 4, none)
abbrev mX4_cut : MD := (yX4_cut, cX4_cut, 3, (some .long))
abbrev mX5_init : MD := (yX5_init, cX5_init, 1, none)
abbrev mX5_add : MD := (yX5_add, cX5_add, 2, (some .boolean))
abbrev mX5_readInto : MD := (yX5_readInto, cX5_readInto, 3, (some .int))
abbrev mX5_readsClause : MD := (yX5_readsClause, cX5_readsClause, 3, (some .boolean))
abbrev mX5_readsAny : MD := (yX5_readsAny, cX5_readsAny, 3, (some .boolean))
abbrev mX5_readsAll : MD := (yX5_readsAll, cX5_readsAll, 3, (some .boolean))
abbrev mX5_readsOne : MD := (yX5_readsOne, cX5_readsOne, 5, (some .boolean))
abbrev mX5_takes : MD := (yX5_takes, cX5_takes, 2, (some .boolean))
abbrev mX5_takesWord : MD := (yX5_takesWord, cX5_takesWord, 4, (some .int))
abbrev mX5_takesNumber : MD := (yX5_takesNumber, cX5_takesNumber, 3, (some .int))
abbrev mX6_init : MD := (yX6_init, cX6_init, 3, none)
abbrev mX6_piece : MD := (yX6_piece, cX6_piece, 4, (some .int))
abbrev mX6_of : MD := (yX6_of, cX6_of, 4, (some .int))
abbrev mX6_set : MD := (yX6_set, cX6_set, 6, (some .int))
abbrev mX6_row : MD := (yX6_row, cX6_row, 5, (some .int))
abbrev mX6_hoist : MD := (yX6_hoist, cX6_hoist, 2, (some .int))
abbrev mX6_lower : MD := (yX6_lower, cX6_lower, 3, (some .int))
abbrev mX6_trim : MD := (yX6_trim, cX6_trim, 4, (some .int))
abbrev mX6_feed : MD := (yX6_feed, cX6_feed, 2, (some .int))
abbrev mX6_ocean : MD := (yX6_ocean, cX6_ocean, 2, (some .int))
abbrev mX6_told : MD := (yX6_told, cX6_told, 2, (some .int))
abbrev mX6_pass : MD := (yX6_pass, cX6_pass, 3, (some .int))
abbrev mX6_on : MD := (yX6_on, cX6_on, 6, (some .int))
abbrev mX6_first : MD := (yX6_first, cX6_first, 4, (some .int))
abbrev mX6_port : MD := (yX6_port, cX6_port, 3, (some .int))
abbrev mX6_spread : MD := (yX6_spread, cX6_spread, 5, (some .int))
abbrev mX6_fewest : MD := (yX6_fewest, cX6_fewest, 3, (some .int))
abbrev mX6_best : MD := (yX6_best, cX6_best, 4, (some .int))
abbrev mX6_longest : MD := (yX6_longest, cX6_longest, 4, (some .int))
abbrev mX6_bestRow : MD := (yX6_bestRow, cX6_bestRow, 6, (some .int))
abbrev mX6_worth : MD := (yX6_worth, cX6_worth, 4, (some .int))
abbrev mX6_see : MD := (yX6_see, cX6_see, 3, (some .int))
abbrev mX6_worn : MD := (yX6_worn, cX6_worn, 3, (some .int))
abbrev mX6_can : MD := (yX6_can, cX6_can, 3, (some .int))
abbrev mX6_fitting : MD := (yX6_fitting, cX6_fitting, 8, (some .int))
abbrev mX6_seenIsSo : MD := (yX6_seenIsSo, cX6_seenIsSo, 4, (some .boolean))
abbrev mX6_odds : MD := (yX6_odds, cX6_odds, 5, (some .long))
abbrev mX6_mean : MD := (yX6_mean, cX6_mean, 4, (some .long))
abbrev mX6_inLowestTerms : MD := (yX6_inLowestTerms, cX6_inLowestTerms, 4, (some .long))
abbrev mX6_plan : MD := (yX6_plan, cX6_plan, 3, (some .int))
abbrev mX6_ends : MD := (yX6_ends, cX6_ends, 3, (some .int))
abbrev mX6_followPlan : MD := (yX6_followPlan, cX6_followPlan, 3, none)
abbrev mX6_book : MD := (yX6_book, cX6_book, 3, (some .int))
abbrev mX6_looked : MD := (yX6_looked, cX6_looked, 3, (some .int))
abbrev mX6_judge : MD := (yX6_judge, cX6_judge, 5, (some .int))
abbrev mX6_image : MD := (yX6_image, cX6_image, 1, (some .int))
abbrev mX6_undo : MD := (yX6_undo, cX6_undo, 1, (some .int))
abbrev mX6_act : MD := (yX6_act, cX6_act, 4, (some .int))
abbrev mX6_trace : MD := (yX6_trace, cX6_trace, 2, (some .int))
abbrev mX6_taken : MD := (yX6_taken, cX6_taken, 6, (some .int))
abbrev mX6_count : MD := (yX6_count, cX6_count, 2, (some .int))
abbrev mX6_tape : MD := (yX6_tape, cX6_tape, 4, (some .int))
abbrev mX6_item : MD := (yX6_item, cX6_item, 6, (some .int))
abbrev mX6_read : MD := (yX6_read, cX6_read, 3, (some .long))
abbrev mX6_shift : MD := (yX6_shift, cX6_shift, 8, (some .int))
abbrev mX6_within : MD := (yX6_within, cX6_within, 3, (some .boolean))
abbrev mX7_init : MD := (yX7_init, cX7_init, 1, none)
abbrev mX7_in : MD := (yX7_in, cX7_in, 4, (some .boolean))
abbrev mX7_least0 : MD := (yX7_least0, cX7_least0, 2, (some .int))
abbrev mX7_least : MD := (yX7_least, cX7_least, 3, (some .int))
abbrev mX7_isPiece : MD := (yX7_isPiece, cX7_isPiece, 2, (some .boolean))
abbrev mX7_isFeet : MD := (yX7_isFeet, cX7_isFeet, 2, (some .boolean))
abbrev mX7_isDays : MD := (yX7_isDays, cX7_isDays, 2, (some .boolean))
abbrev mX7_isTrim : MD := (yX7_isTrim, cX7_isTrim, 2, (some .boolean))
abbrev mX7_piece : MD := (yX7_piece, cX7_piece, 5, (some .int))
abbrev mX7_set : MD := (yX7_set, cX7_set, 5, (some .int))
abbrev mX7_row : MD := (yX7_row, cX7_row, 5, (some .int))
abbrev mX7_placeOf : MD := (yX7_placeOf, cX7_placeOf, 3, (some .int))
abbrev mX7_hoists : MD := (yX7_hoists, cX7_hoists, 2, none)
abbrev mX7_hoist : MD := (yX7_hoist, cX7_hoist, 2, (some .int))
abbrev mX7_lower : MD := (yX7_lower, cX7_lower, 2, (some .int))
abbrev mX7_trim : MD := (yX7_trim, cX7_trim, 4, (some .int))
abbrev mX7_feed : MD := (yX7_feed, cX7_feed, 2, (some .int))
abbrev mX7_next : MD := (yX7_next, cX7_next, 1, (some .int))
abbrev mX7_second : MD := (yX7_second, cX7_second, 1, (some .int))
abbrev mX7_takes : MD := (yX7_takes, cX7_takes, 2, (some .boolean))
abbrev mX7_takesWord : MD := (yX7_takesWord, cX7_takesWord, 4, (some .boolean))
abbrev mX7_isDigit : MD := (yX7_isDigit, cX7_isDigit, 1, (some .boolean))
abbrev mX7_takesNumber : MD := (yX7_takesNumber, cX7_takesNumber, 2, (some .boolean))
abbrev mX7_emits : MD := (yX7_emits, cX7_emits, 2, none)
abbrev mX7_whole : MD := (yX7_whole, cX7_whole, 1, none)
abbrev mX7_settle : MD := (yX7_settle, cX7_settle, 2, none)
abbrev mX7_place : MD := (yX7_place, cX7_place, 2, (some .int))
abbrev mX7_takesTest : MD := (yX7_takesTest, cX7_takesTest, 3, (some .boolean))
abbrev mX7_takesE : MD := (yX7_takesE, cX7_takesE, 4, (some .boolean))
abbrev mX7_takesHead : MD := (yX7_takesHead, cX7_takesHead, 2, (some .boolean))
abbrev mX7_takesClause : MD := (yX7_takesClause, cX7_takesClause, 2, (some .boolean))
abbrev mX7_goesText : MD := (yX7_goesText, cX7_goesText, 3, (some .boolean))
abbrev mX7_ocean : MD := (yX7_ocean, cX7_ocean, 2, (some .int))
abbrev mX7_begin : MD := (yX7_begin, cX7_begin, 1, (some .int))
abbrev mX7_behind : MD := (yX7_behind, cX7_behind, 1, (some .int))
abbrev mX7_lastOf : MD := (yX7_lastOf, cX7_lastOf, 5, (some .int))
abbrev mX7_factOf : MD := (yX7_factOf, cX7_factOf, 3, (some .int))
abbrev mX7_holds : MD := (yX7_holds, cX7_holds, 8, (some .boolean))
abbrev mX7_heart : MD := (yX7_heart, cX7_heart, 4, (some .int))
abbrev mX7_strength : MD := (yX7_strength, cX7_strength, 3, (some .int))
abbrev mX7_above : MD := (yX7_above, cX7_above, 4, (some .int))
abbrev mX7_height : MD := (yX7_height, cX7_height, 1, (some .int))
abbrev mX7_load : MD := (yX7_load, cX7_load, 2, (some .int))
abbrev mX7_milesNow : MD := (yX7_milesNow, cX7_milesNow, 1, (some .int))
abbrev mX7_of : MD := (yX7_of, cX7_of, 4, (some .int))
abbrev mX7_told : MD := (yX7_told, cX7_told, 2, (some .int))
abbrev mX7_breaksAt : MD := (yX7_breaksAt, cX7_breaksAt, 2, (some .int))
abbrev mX7_goWear : MD := (yX7_goWear, cX7_goWear, 2, none)
abbrev mX7_goDay : MD := (yX7_goDay, cX7_goDay, 3, (some .int))
abbrev mX7_goDays : MD := (yX7_goDays, cX7_goDays, 3, none)
abbrev mX7_pass : MD := (yX7_pass, cX7_pass, 2, (some .int))
abbrev mX7_save : MD := (yX7_save, cX7_save, 2, none)
abbrev mX7_putBack : MD := (yX7_putBack, cX7_putBack, 2, none)
abbrev mX7_on : MD := (yX7_on, cX7_on, 4, (some .int))
abbrev mX7_firstThen : MD := (yX7_firstThen, cX7_firstThen, 5, (some .int))
abbrev mX7_first : MD := (yX7_first, cX7_first, 3, (some .int))
abbrev mX7_port : MD := (yX7_port, cX7_port, 3, (some .int))
abbrev mX7_wentThen : MD := (yX7_wentThen, cX7_wentThen, 3, (some .int))
abbrev mX7_spread : MD := (yX7_spread, cX7_spread, 5, (some .int))
abbrev mX7_fewest : MD := (yX7_fewest, cX7_fewest, 3, (some .int))
abbrev mX7_tries : MD := (yX7_tries, cX7_tries, 8, none)
abbrev mX7_layBest : MD := (yX7_layBest, cX7_layBest, 5, none)
abbrev mX7_best : MD := (yX7_best, cX7_best, 3, (some .int))
abbrev mX7_layOrder : MD := (yX7_layOrder, cX7_layOrder, 6, (some .boolean))
abbrev mX7_longest : MD := (yX7_longest, cX7_longest, 9, (some .int))
abbrev mX7_see : MD := (yX7_see, cX7_see, 3, (some .int))
abbrev mX7_isSeen : MD := (yX7_isSeen, cX7_isSeen, 3, (some .boolean))
abbrev mX7_worn : MD := (yX7_worn, cX7_worn, 7, (some .int))
abbrev mX7_can : MD := (yX7_can, cX7_can, 7, (some .int))
abbrev mX7_divisor : MD := (yX7_divisor, cX7_divisor, 6, (some .int))
abbrev mX7_lowest : MD := (yX7_lowest, cX7_lowest, 5, (some .long))
abbrev mX7_odds : MD := (yX7_odds, cX7_odds, 6, (some .long))
abbrev mX7_mean : MD := (yX7_mean, cX7_mean, 4, (some .long))
abbrev mX7_plan : MD := (yX7_plan, cX7_plan, 3, (some .int))
abbrev mX7_goPlan : MD := (yX7_goPlan, cX7_goPlan, 3, none)
abbrev mX7_ends : MD := (yX7_ends, cX7_ends, 3, (some .int))
abbrev mX7_book : MD := (yX7_book, cX7_book, 3, (some .int))
abbrev mX7_looked : MD := (yX7_looked, cX7_looked, 2, (some .int))
abbrev mX7_judge : MD := (yX7_judge, cX7_judge, 4, (some .int))
abbrev mX7_image : MD := (yX7_image, cX7_image, 2, (some .int))
abbrev mX7_undo : MD := (yX7_undo, cX7_undo, 2, (some .int))
abbrev mX7_body : MD := (yX7_body, cX7_body, 2, none)
abbrev mX7_pieceBends : MD := (yX7_pieceBends, cX7_pieceBends, 3, (some .int))
abbrev mX7_bendsAct : MD := (yX7_bendsAct, cX7_bendsAct, 3, (some .int))
abbrev mX7_pieceHolds : MD := (yX7_pieceHolds, cX7_pieceHolds, 3, (some .int))
abbrev mX7_oarHolds : MD := (yX7_oarHolds, cX7_oarHolds, 3, (some .int))
abbrev mX7_holdsAct : MD := (yX7_holdsAct, cX7_holdsAct, 4, (some .int))
abbrev mX7_pieceTells : MD := (yX7_pieceTells, cX7_pieceTells, 3, (some .int))
abbrev mX7_tellsAct : MD := (yX7_tellsAct, cX7_tellsAct, 4, (some .int))
abbrev mX7_act : MD := (yX7_act, cX7_act, 4, (some .int))
abbrev mX7_trace : MD := (yX7_trace, cX7_trace, 2, (some .int))
abbrev mX7_taken : MD := (yX7_taken, cX7_taken, 4, (some .int))
abbrev mX7_count : MD := (yX7_count, cX7_count, 2, (some .int))
abbrev mX7_isTape : MD := (yX7_isTape, cX7_isTape, 2, (some .boolean))
abbrev mX7_tape : MD := (yX7_tape, cX7_tape, 5, (some .int))
abbrev mX7_narrow : MD := (yX7_narrow, cX7_narrow, 4, (some .long))
abbrev mX7_item : MD := (yX7_item, cX7_item, 5, (some .int))
abbrev mX7_read : MD := (yX7_read, cX7_read, 3, (some .long))
abbrev mX7_shift : MD := (yX7_shift, cX7_shift, 7, (some .int))
abbrev mJ11_isValidCodePoint_9a6ad : MD := (yJ11_isValidCodePoint_9a6ad, cJ11_isValidCodePoint_9a6ad, 2, (some .boolean))
abbrev mJ11_highSurrogate_5068e : MD := (yJ11_highSurrogate_5068e, cJ11_highSurrogate_5068e, 1, (some .char))
abbrev mJ11_lowSurrogate_5068e : MD := (yJ11_lowSurrogate_5068e, cJ11_lowSurrogate_5068e, 1, (some .char))
abbrev mJ9_max_7cf53 : MD := (yJ9_max_7cf53, cJ9_max_7cf53, 2, (some .int))
abbrev mJ9_min_7cf53 : MD := (yJ9_min_7cf53, cJ9_min_7cf53, 2, (some .int))
abbrev mJ0_length_8abf5 : MD := (yJ0_length_8abf5, cJ0_length_8abf5, 1, (some .int))
abbrev mJ0_charAt_5068e : MD := (yJ0_charAt_5068e, cJ0_charAt_5068e, 2, (some .char))
abbrev mJ0_indexOf_0f7a4 : MD := (yJ0_indexOf_0f7a4, cJ0_indexOf_0f7a4, 2, (some .int))
abbrev mJ0_indexOf_7cf53 : MD := (yJ0_indexOf_7cf53, cJ0_indexOf_7cf53, 3, (some .int))
abbrev mJ0_coder_7d493 : MD := (yJ0_coder_7d493, cJ0_coder_7d493, 1, (some .byte))
abbrev mJ0_isLatin1_aae02 : MD := (yJ0_isLatin1_aae02, cJ0_isLatin1_aae02, 1, (some .boolean))
abbrev mJ0_checkIndex_df160 : MD := (yJ0_checkIndex_df160, cJ0_checkIndex_df160, 2, none)
abbrev mJ0_checkBoundsBeginEnd_23922 : MD := (yJ0_checkBoundsBeginEnd_23922, cJ0_checkBoundsBeginEnd_23922, 3, none)
abbrev mJ1_charAt_3b067 : MD := (yJ1_charAt_3b067, cJ1_charAt_3b067, 2, (some .char))
abbrev mJ1_canEncode_9a6ad : MD := (yJ1_canEncode_9a6ad, cJ1_canEncode_9a6ad, 1, (some .boolean))
abbrev mJ1_indexOf_4cfef : MD := (yJ1_indexOf_4cfef, cJ1_indexOf_4cfef, 4, (some .int))
abbrev mJ1_indexOfChar_4cfef : MD := (yJ1_indexOfChar_4cfef, cJ1_indexOfChar_4cfef, 6, (some .int))
abbrev mJ2_getChar_3b067 : MD := (yJ2_getChar_3b067, cJ2_getChar_3b067, 2, (some .char))
abbrev mJ2_length_9d52b : MD := (yJ2_length_9d52b, cJ2_length_9d52b, 1, (some .int))
abbrev mJ2_indexOf_4cfef : MD := (yJ2_indexOf_4cfef, cJ2_indexOf_4cfef, 4, (some .int))
abbrev mJ2_indexOfChar_4cfef : MD := (yJ2_indexOfChar_4cfef, cJ2_indexOfChar_4cfef, 4, (some .int))
abbrev mJ2_indexOfCharUnsafe_4cfef : MD := (yJ2_indexOfCharUnsafe_4cfef, cJ2_indexOfCharUnsafe_4cfef, 5, (some .int))
abbrev mJ2_indexOfSupplementary_4cfef : MD := (yJ2_indexOfSupplementary_4cfef, cJ2_indexOfSupplementary_4cfef, 7, (some .int))
abbrev mJ2_charAt_3b067 : MD := (yJ2_charAt_3b067, cJ2_charAt_3b067, 2, (some .char))
abbrev mJ2_checkIndex_2214a : MD := (yJ2_checkIndex_2214a, cJ2_checkIndex_2214a, 2, none)
abbrev mJ2_checkBoundsBeginEnd_d044e : MD := (yJ2_checkBoundsBeginEnd_d044e, cJ2_checkBoundsBeginEnd_d044e, 3, none)
abbrev mJ3_checkIndex_8e157 : MD := (yJ3_checkIndex_8e157, cJ3_checkIndex_8e157, 3, (some .int))
abbrev mJ3_checkFromToIndex_8c36e : MD := (yJ3_checkFromToIndex_8c36e, cJ3_checkFromToIndex_8c36e, 4, (some .int))
theorem fl_X0_11 : FL RX0 11 0 0 := ⟨RX0, TX0, 5, rfl, by decide, rfl, tb1 178 (by decide +kernel) rfl, in_X0⟩
theorem fl_X0_15 : FL RX0 15 0 2 := ⟨RX0, TX0, 5, rfl, by decide, rfl, tb1 182 (by decide +kernel) rfl, in_X0⟩
theorem fw_X0_15 : FW RX0 15 0 2 .int := ⟨RX0, TX0, 5, rfl, by decide, rfl, tb1 182 (by decide +kernel) rfl, in_X0, ⟨tyX0, tyX0_ok⟩, nmX0, rfl, by decide +kernel⟩
theorem fl_X0_19 : FL RX0 19 0 3 := ⟨RX0, TX0, 5, rfl, by decide, rfl, tb1 183 (by decide +kernel) rfl, in_X0⟩
theorem fw_X0_19 : FW RX0 19 0 3 .int := ⟨RX0, TX0, 5, rfl, by decide, rfl, tb1 183 (by decide +kernel) rfl, in_X0, ⟨tyX0, tyX0_ok⟩, nmX0, rfl, by decide +kernel⟩
theorem fl_X0_22 : FL RX0 22 0 4 := ⟨RX0, TX0, 5, rfl, by decide, rfl, tb1 184 (by decide +kernel) rfl, in_X0⟩
theorem fw_X0_22 : FW RX0 22 0 4 .int := ⟨RX0, TX0, 5, rfl, by decide, rfl, tb1 184 (by decide +kernel) rfl, in_X0, ⟨tyX0, tyX0_ok⟩, nmX0, rfl, by decide +kernel⟩
theorem fl_X0_25 : FL RX0 25 0 1 := ⟨RX0, TX0, 5, rfl, by decide, rfl, tb1 180 (by decide +kernel) rfl, in_X0⟩
theorem fw_X0_25 : FW RX0 25 0 1 .int := ⟨RX0, TX0, 5, rfl, by decide, rfl, tb1 180 (by decide +kernel) rfl, in_X0, ⟨tyX0, tyX0_ok⟩, nmX0, rfl, by decide +kernel⟩
theorem fl_X1_9 : FL RX1 9 1 0 := ⟨RX1, TX1, 14, rfl, by decide, rfl, tb1 69 (by decide +kernel) rfl, in_X1⟩
theorem fl_X1_15 : FL RX1 15 1 1 := ⟨RX1, TX1, 14, rfl, by decide, rfl, tb1 72 (by decide +kernel) rfl, in_X1⟩
theorem fl_X1_18 : FL RX1 18 1 2 := ⟨RX1, TX1, 14, rfl, by decide, rfl, tb1 75 (by decide +kernel) rfl, in_X1⟩
theorem fl_X1_21 : FL RX1 21 1 3 := ⟨RX1, TX1, 14, rfl, by decide, rfl, tb1 78 (by decide +kernel) rfl, in_X1⟩
theorem fl_X1_24 : FL RX1 24 1 4 := ⟨RX1, TX1, 14, rfl, by decide, rfl, tb1 81 (by decide +kernel) rfl, in_X1⟩
theorem fl_X1_27 : FL RX1 27 1 5 := ⟨RX1, TX1, 14, rfl, by decide, rfl, tb1 83 (by decide +kernel) rfl, in_X1⟩
theorem fl_X1_30 : FL RX1 30 1 6 := ⟨RX1, TX1, 14, rfl, by decide, rfl, tb1 85 (by decide +kernel) rfl, in_X1⟩
theorem fl_X1_33 : FL RX1 33 1 13 := ⟨RX1, TX1, 14, rfl, by decide, rfl, tb1 100 (by decide +kernel) rfl, in_X1⟩
theorem fw_X1_33 : FW RX1 33 1 13 (.object "MastLeft$Ocean") := ⟨RX1, TX1, 14, rfl, by decide, rfl, tb1 100 (by decide +kernel) rfl, in_X1, ⟨tyX1, tyX1_ok⟩, nmX1, rfl, by decide +kernel⟩
theorem fl_X1_37 : FL RX1 37 1 9 := ⟨RX1, TX1, 14, rfl, by decide, rfl, tb1 91 (by decide +kernel) rfl, in_X1⟩
theorem fw_X1_37 : FW RX1 37 1 9 .int := ⟨RX1, TX1, 14, rfl, by decide, rfl, tb1 91 (by decide +kernel) rfl, in_X1, ⟨tyX1, tyX1_ok⟩, nmX1, rfl, by decide +kernel⟩
theorem fl_X1_47 : FL RX1 47 1 7 := ⟨RX1, TX1, 14, rfl, by decide, rfl, tb1 88 (by decide +kernel) rfl, in_X1⟩
theorem fw_X1_47 : FW RX1 47 1 7 .int := ⟨RX1, TX1, 14, rfl, by decide, rfl, tb1 88 (by decide +kernel) rfl, in_X1, ⟨tyX1, tyX1_ok⟩, nmX1, rfl, by decide +kernel⟩
theorem fl_X1_50 : FL RX1 50 1 8 := ⟨RX1, TX1, 14, rfl, by decide, rfl, tb1 89 (by decide +kernel) rfl, in_X1⟩
theorem fw_X1_50 : FW RX1 50 1 8 .int := ⟨RX1, TX1, 14, rfl, by decide, rfl, tb1 89 (by decide +kernel) rfl, in_X1, ⟨tyX1, tyX1_ok⟩, nmX1, rfl, by decide +kernel⟩
theorem fl_X1_53 : FL RX1 53 1 10 := ⟨RX1, TX1, 14, rfl, by decide, rfl, tb1 93 (by decide +kernel) rfl, in_X1⟩
theorem fw_X1_53 : FW RX1 53 1 10 .int := ⟨RX1, TX1, 14, rfl, by decide, rfl, tb1 93 (by decide +kernel) rfl, in_X1, ⟨tyX1, tyX1_ok⟩, nmX1, rfl, by decide +kernel⟩
theorem fl_X1_56 : FL RX1 56 1 11 := ⟨RX1, TX1, 14, rfl, by decide, rfl, tb1 95 (by decide +kernel) rfl, in_X1⟩
theorem fw_X1_56 : FW RX1 56 1 11 .int := ⟨RX1, TX1, 14, rfl, by decide, rfl, tb1 95 (by decide +kernel) rfl, in_X1, ⟨tyX1, tyX1_ok⟩, nmX1, rfl, by decide +kernel⟩
theorem fl_X1_59 : FL RX1 59 1 12 := ⟨RX1, TX1, 14, rfl, by decide, rfl, tb1 97 (by decide +kernel) rfl, in_X1⟩
theorem fw_X1_59 : FW RX1 59 1 12 .int := ⟨RX1, TX1, 14, rfl, by decide, rfl, tb1 97 (by decide +kernel) rfl, in_X1, ⟨tyX1, tyX1_ok⟩, nmX1, rfl, by decide +kernel⟩
theorem fl_X1_70 : FL RX1 70 2 6 := ⟨RX2, TX2, 7, rfl, by decide, rfl, tb1 45 (by decide +kernel) rfl, in_X2⟩
theorem fl_X1_78 : FL RX1 78 2 5 := ⟨RX2, TX2, 7, rfl, by decide, rfl, tb1 42 (by decide +kernel) rfl, in_X2⟩
theorem fl_X2_9 : FL RX2 9 2 0 := ⟨RX2, TX2, 7, rfl, by decide, rfl, tb1 34 (by decide +kernel) rfl, in_X2⟩
theorem fl_X2_13 : FL RX2 13 2 1 := ⟨RX2, TX2, 7, rfl, by decide, rfl, tb1 35 (by decide +kernel) rfl, in_X2⟩
theorem fl_X2_16 : FL RX2 16 2 2 := ⟨RX2, TX2, 7, rfl, by decide, rfl, tb1 36 (by decide +kernel) rfl, in_X2⟩
theorem fl_X2_19 : FL RX2 19 2 3 := ⟨RX2, TX2, 7, rfl, by decide, rfl, tb1 37 (by decide +kernel) rfl, in_X2⟩
theorem fl_X2_25 : FL RX2 25 2 4 := ⟨RX2, TX2, 7, rfl, by decide, rfl, tb1 38 (by decide +kernel) rfl, in_X2⟩
theorem fw_X2_25 : FW RX2 25 2 4 .int := ⟨RX2, TX2, 7, rfl, by decide, rfl, tb1 38 (by decide +kernel) rfl, in_X2, ⟨tyX2, tyX2_ok⟩, nmX2, rfl, by decide +kernel⟩
theorem fw_X2_29 : FW RX2 29 2 5 .int := ⟨RX2, TX2, 7, rfl, by decide, rfl, tb1 39 (by decide +kernel) rfl, in_X2, ⟨tyX2, tyX2_ok⟩, nmX2, rfl, by decide +kernel⟩
theorem fw_X2_32 : FW RX2 32 2 6 .int := ⟨RX2, TX2, 7, rfl, by decide, rfl, tb1 43 (by decide +kernel) rfl, in_X2, ⟨tyX2, tyX2_ok⟩, nmX2, rfl, by decide +kernel⟩
theorem fl_X2_35 : FL RX2 35 1 0 := ⟨RX1, TX1, 14, rfl, by decide, rfl, tb1 71 (by decide +kernel) rfl, in_X1⟩
theorem fl_X2_40 : FL RX2 40 1 1 := ⟨RX1, TX1, 14, rfl, by decide, rfl, tb1 74 (by decide +kernel) rfl, in_X1⟩
theorem fl_X2_43 : FL RX2 43 1 2 := ⟨RX1, TX1, 14, rfl, by decide, rfl, tb1 77 (by decide +kernel) rfl, in_X1⟩
theorem fl_X2_46 : FL RX2 46 1 3 := ⟨RX1, TX1, 14, rfl, by decide, rfl, tb1 80 (by decide +kernel) rfl, in_X1⟩
theorem fl_X2_49 : FL RX2 49 1 12 := ⟨RX1, TX1, 14, rfl, by decide, rfl, tb1 98 (by decide +kernel) rfl, in_X1⟩
theorem fl_X3_7 : FL RX3 7 3 0 := ⟨RX3, TX3, 3, rfl, by decide, rfl, tb1 137 (by decide +kernel) rfl, in_X3⟩
theorem fl_X3_13 : FL RX3 13 3 1 := ⟨RX3, TX3, 3, rfl, by decide, rfl, tb1 139 (by decide +kernel) rfl, in_X3⟩
theorem fl_X3_16 : FL RX3 16 3 2 := ⟨RX3, TX3, 3, rfl, by decide, rfl, tb1 141 (by decide +kernel) rfl, in_X3⟩
theorem fw_X3_16 : FW RX3 16 3 2 .int := ⟨RX3, TX3, 3, rfl, by decide, rfl, tb1 141 (by decide +kernel) rfl, in_X3, ⟨tyX3, tyX3_ok⟩, nmX3, rfl, by decide +kernel⟩
theorem fl_X4_9 : FL RX4 9 4 0 := ⟨RX4, TX4, 3, rfl, by decide, rfl, tb1 203 (by decide +kernel) rfl, in_X4⟩
theorem fl_X4_13 : FL RX4 13 4 1 := ⟨RX4, TX4, 3, rfl, by decide, rfl, tb1 205 (by decide +kernel) rfl, in_X4⟩
theorem fw_X4_13 : FW RX4 13 4 1 .int := ⟨RX4, TX4, 3, rfl, by decide, rfl, tb1 205 (by decide +kernel) rfl, in_X4, ⟨tyX4, tyX4_ok⟩, nmX4, rfl, by decide +kernel⟩
theorem fw_X4_17 : FW RX4 17 4 2 .int := ⟨RX4, TX4, 3, rfl, by decide, rfl, tb1 207 (by decide +kernel) rfl, in_X4, ⟨tyX4, tyX4_ok⟩, nmX4, rfl, by decide +kernel⟩
theorem fl_X5_9 : FL RX5 9 5 0 := ⟨RX5, TX5, 4, rfl, by decide, rfl, tb1 157 (by decide +kernel) rfl, in_X5⟩
theorem fl_X5_13 : FL RX5 13 5 3 := ⟨RX5, TX5, 4, rfl, by decide, rfl, tb1 160 (by decide +kernel) rfl, in_X5⟩
theorem fw_X5_13 : FW RX5 13 5 3 .int := ⟨RX5, TX5, 4, rfl, by decide, rfl, tb1 160 (by decide +kernel) rfl, in_X5, ⟨tyX5, tyX5_ok⟩, nmX5, rfl, by decide +kernel⟩
theorem fl_X5_17 : FL RX5 17 5 1 := ⟨RX5, TX5, 4, rfl, by decide, rfl, tb1 158 (by decide +kernel) rfl, in_X5⟩
theorem fw_X5_17 : FW RX5 17 5 1 (.object "MastLeft$Ocean") := ⟨RX5, TX5, 4, rfl, by decide, rfl, tb1 158 (by decide +kernel) rfl, in_X5, ⟨tyX5, tyX5_ok⟩, nmX5, rfl, by decide +kernel⟩
theorem fl_X5_26 : FL RX5 26 5 2 := ⟨RX5, TX5, 4, rfl, by decide, rfl, tb1 159 (by decide +kernel) rfl, in_X5⟩
theorem fw_X5_26 : FW RX5 26 5 2 .int := ⟨RX5, TX5, 4, rfl, by decide, rfl, tb1 159 (by decide +kernel) rfl, in_X5, ⟨tyX5, tyX5_ok⟩, nmX5, rfl, by decide +kernel⟩
theorem fw_X5_44 : FW RX5 44 2 5 .int := ⟨RX2, TX2, 7, rfl, by decide, rfl, tb1 40 (by decide +kernel) rfl, in_X2, ⟨tyX2, tyX2_ok⟩, nmX2, rfl, by decide +kernel⟩
theorem fw_X5_47 : FW RX5 47 2 6 .int := ⟨RX2, TX2, 7, rfl, by decide, rfl, tb1 44 (by decide +kernel) rfl, in_X2, ⟨tyX2, tyX2_ok⟩, nmX2, rfl, by decide +kernel⟩
theorem fl_X6_17 : FL RX6 17 6 0 := ⟨RX6, TX6, 15, rfl, by decide, rfl, tb1 217 (by decide +kernel) rfl, in_X6⟩
theorem fl_X6_23 : FL RX6 23 6 1 := ⟨RX6, TX6, 15, rfl, by decide, rfl, tb1 218 (by decide +kernel) rfl, in_X6⟩
theorem fl_X6_26 : FL RX6 26 6 2 := ⟨RX6, TX6, 15, rfl, by decide, rfl, tb1 219 (by decide +kernel) rfl, in_X6⟩
theorem fl_X6_34 : FL RX6 34 6 3 := ⟨RX6, TX6, 15, rfl, by decide, rfl, tb1 220 (by decide +kernel) rfl, in_X6⟩
theorem fl_X6_38 : FL RX6 38 6 4 := ⟨RX6, TX6, 15, rfl, by decide, rfl, tb1 221 (by decide +kernel) rfl, in_X6⟩
theorem fl_X6_41 : FL RX6 41 6 5 := ⟨RX6, TX6, 15, rfl, by decide, rfl, tb1 222 (by decide +kernel) rfl, in_X6⟩
theorem fl_X6_44 : FL RX6 44 6 6 := ⟨RX6, TX6, 15, rfl, by decide, rfl, tb1 223 (by decide +kernel) rfl, in_X6⟩
theorem fl_X6_47 : FL RX6 47 6 7 := ⟨RX6, TX6, 15, rfl, by decide, rfl, tb1 224 (by decide +kernel) rfl, in_X6⟩
theorem fl_X6_50 : FL RX6 50 6 8 := ⟨RX6, TX6, 15, rfl, by decide, rfl, tb1 225 (by decide +kernel) rfl, in_X6⟩
theorem fl_X6_53 : FL RX6 53 6 10 := ⟨RX6, TX6, 15, rfl, by decide, rfl, tb1 227 (by decide +kernel) rfl, in_X6⟩
theorem fl_X6_60 : FL RX6 60 6 12 := ⟨RX6, TX6, 15, rfl, by decide, rfl, tb1 229 (by decide +kernel) rfl, in_X6⟩
theorem fl_X6_67 : FL RX6 67 6 13 := ⟨RX6, TX6, 15, rfl, by decide, rfl, tb1 230 (by decide +kernel) rfl, in_X6⟩
theorem fl_X6_73 : FL RX6 73 6 14 := ⟨RX6, TX6, 15, rfl, by decide, rfl, tb1 231 (by decide +kernel) rfl, in_X6⟩
theorem fl_X6_82 : FL RX6 82 1 7 := ⟨RX1, TX1, 14, rfl, by decide, rfl, tb1 87 (by decide +kernel) rfl, in_X1⟩
theorem fl_X6_94 : FL RX6 94 1 0 := ⟨RX1, TX1, 14, rfl, by decide, rfl, tb1 70 (by decide +kernel) rfl, in_X1⟩
theorem fl_X6_98 : FL RX6 98 1 1 := ⟨RX1, TX1, 14, rfl, by decide, rfl, tb1 73 (by decide +kernel) rfl, in_X1⟩
theorem fl_X6_101 : FL RX6 101 1 2 := ⟨RX1, TX1, 14, rfl, by decide, rfl, tb1 76 (by decide +kernel) rfl, in_X1⟩
theorem fl_X6_104 : FL RX6 104 1 3 := ⟨RX1, TX1, 14, rfl, by decide, rfl, tb1 79 (by decide +kernel) rfl, in_X1⟩
theorem fl_X6_107 : FL RX6 107 1 4 := ⟨RX1, TX1, 14, rfl, by decide, rfl, tb1 82 (by decide +kernel) rfl, in_X1⟩
theorem fl_X6_110 : FL RX6 110 1 13 := ⟨RX1, TX1, 14, rfl, by decide, rfl, tb1 101 (by decide +kernel) rfl, in_X1⟩
theorem fw_X6_110 : FW RX6 110 1 13 (.object "MastLeft$Ocean") := ⟨RX1, TX1, 14, rfl, by decide, rfl, tb1 101 (by decide +kernel) rfl, in_X1, ⟨tyX1, tyX1_ok⟩, nmX1, rfl, by decide +kernel⟩
theorem fl_X6_131 : FL RX6 131 1 5 := ⟨RX1, TX1, 14, rfl, by decide, rfl, tb1 84 (by decide +kernel) rfl, in_X1⟩
theorem fl_X6_134 : FL RX6 134 1 8 := ⟨RX1, TX1, 14, rfl, by decide, rfl, tb1 90 (by decide +kernel) rfl, in_X1⟩
theorem fw_X6_134 : FW RX6 134 1 8 .int := ⟨RX1, TX1, 14, rfl, by decide, rfl, tb1 90 (by decide +kernel) rfl, in_X1, ⟨tyX1, tyX1_ok⟩, nmX1, rfl, by decide +kernel⟩
theorem fl_X6_140 : FL RX6 140 1 9 := ⟨RX1, TX1, 14, rfl, by decide, rfl, tb1 92 (by decide +kernel) rfl, in_X1⟩
theorem fw_X6_140 : FW RX6 140 1 9 .int := ⟨RX1, TX1, 14, rfl, by decide, rfl, tb1 92 (by decide +kernel) rfl, in_X1, ⟨tyX1, tyX1_ok⟩, nmX1, rfl, by decide +kernel⟩
theorem fl_X6_143 : FL RX6 143 1 10 := ⟨RX1, TX1, 14, rfl, by decide, rfl, tb1 94 (by decide +kernel) rfl, in_X1⟩
theorem fw_X6_143 : FW RX6 143 1 10 .int := ⟨RX1, TX1, 14, rfl, by decide, rfl, tb1 94 (by decide +kernel) rfl, in_X1, ⟨tyX1, tyX1_ok⟩, nmX1, rfl, by decide +kernel⟩
theorem fl_X6_150 : FL RX6 150 5 3 := ⟨RX5, TX5, 4, rfl, by decide, rfl, tb1 161 (by decide +kernel) rfl, in_X5⟩
theorem fw_X6_150 : FW RX6 150 5 3 .int := ⟨RX5, TX5, 4, rfl, by decide, rfl, tb1 161 (by decide +kernel) rfl, in_X5, ⟨tyX5, tyX5_ok⟩, nmX5, rfl, by decide +kernel⟩
theorem fl_X6_153 : FL RX6 153 6 11 := ⟨RX6, TX6, 15, rfl, by decide, rfl, tb1 228 (by decide +kernel) rfl, in_X6⟩
theorem fw_X6_153 : FW RX6 153 6 11 .int := ⟨RX6, TX6, 15, rfl, by decide, rfl, tb1 228 (by decide +kernel) rfl, in_X6, ⟨tyX6, tyX6_ok⟩, nmX6, rfl, by decide +kernel⟩
theorem fl_X6_160 : FL RX6 160 1 12 := ⟨RX1, TX1, 14, rfl, by decide, rfl, tb1 99 (by decide +kernel) rfl, in_X1⟩
theorem fl_X6_163 : FL RX6 163 2 5 := ⟨RX2, TX2, 7, rfl, by decide, rfl, tb1 41 (by decide +kernel) rfl, in_X2⟩
theorem fl_X6_166 : FL RX6 166 2 6 := ⟨RX2, TX2, 7, rfl, by decide, rfl, tb1 46 (by decide +kernel) rfl, in_X2⟩
theorem fl_X6_169 : FL RX6 169 1 11 := ⟨RX1, TX1, 14, rfl, by decide, rfl, tb1 96 (by decide +kernel) rfl, in_X1⟩
theorem fl_X6_179 : FL RX6 179 1 6 := ⟨RX1, TX1, 14, rfl, by decide, rfl, tb1 86 (by decide +kernel) rfl, in_X1⟩
theorem fl_X6_215 : FL RX6 215 3 2 := ⟨RX3, TX3, 3, rfl, by decide, rfl, tb1 142 (by decide +kernel) rfl, in_X3⟩
theorem fl_X6_224 : FL RX6 224 3 1 := ⟨RX3, TX3, 3, rfl, by decide, rfl, tb1 140 (by decide +kernel) rfl, in_X3⟩
theorem fl_X6_232 : FL RX6 232 3 0 := ⟨RX3, TX3, 3, rfl, by decide, rfl, tb1 138 (by decide +kernel) rfl, in_X3⟩
theorem fl_X6_245 : FL RX6 245 4 1 := ⟨RX4, TX4, 3, rfl, by decide, rfl, tb1 206 (by decide +kernel) rfl, in_X4⟩
theorem fl_X6_248 : FL RX6 248 4 2 := ⟨RX4, TX4, 3, rfl, by decide, rfl, tb1 208 (by decide +kernel) rfl, in_X4⟩
theorem fl_X6_249 : FL RX6 249 4 0 := ⟨RX4, TX4, 3, rfl, by decide, rfl, tb1 204 (by decide +kernel) rfl, in_X4⟩
theorem fl_X6_259 : FL RX6 259 6 9 := ⟨RX6, TX6, 15, rfl, by decide, rfl, tb1 226 (by decide +kernel) rfl, in_X6⟩
theorem fw_X6_259 : FW RX6 259 6 9 .boolean := ⟨RX6, TX6, 15, rfl, by decide, rfl, tb1 226 (by decide +kernel) rfl, in_X6, ⟨tyX6, tyX6_ok⟩, nmX6, rfl, by decide +kernel⟩
theorem fl_X6_263 : FL RX6 263 0 1 := ⟨RX0, TX0, 5, rfl, by decide, rfl, tb1 181 (by decide +kernel) rfl, in_X0⟩
theorem fw_X6_263 : FW RX6 263 0 1 .int := ⟨RX0, TX0, 5, rfl, by decide, rfl, tb1 181 (by decide +kernel) rfl, in_X0, ⟨tyX0, tyX0_ok⟩, nmX0, rfl, by decide +kernel⟩
theorem fl_X6_270 : FL RX6 270 0 0 := ⟨RX0, TX0, 5, rfl, by decide, rfl, tb1 179 (by decide +kernel) rfl, in_X0⟩
theorem fl_X7_7 : FL RX7 7 7 0 := ⟨RX7, TX7, 87, rfl, by decide, rfl, tb4 3 (by decide +kernel) rfl, in_X7⟩
theorem fw_X7_7 : FW RX7 7 7 0 .int := ⟨RX7, TX7, 87, rfl, by decide, rfl, tb4 3 (by decide +kernel) rfl, in_X7, ⟨tyX7, tyX7_ok⟩, nmX7, rfl, by decide +kernel⟩
theorem fl_X7_13 : FL RX7 13 7 1 := ⟨RX7, TX7, 87, rfl, by decide, rfl, tb4 4 (by decide +kernel) rfl, in_X7⟩
theorem fw_X7_13 : FW RX7 13 7 1 .int := ⟨RX7, TX7, 87, rfl, by decide, rfl, tb4 4 (by decide +kernel) rfl, in_X7, ⟨tyX7, tyX7_ok⟩, nmX7, rfl, by decide +kernel⟩
theorem fl_X7_16 : FL RX7 16 7 2 := ⟨RX7, TX7, 87, rfl, by decide, rfl, tb4 5 (by decide +kernel) rfl, in_X7⟩
theorem fw_X7_16 : FW RX7 16 7 2 .int := ⟨RX7, TX7, 87, rfl, by decide, rfl, tb4 5 (by decide +kernel) rfl, in_X7, ⟨tyX7, tyX7_ok⟩, nmX7, rfl, by decide +kernel⟩
theorem fl_X7_19 : FL RX7 19 7 3 := ⟨RX7, TX7, 87, rfl, by decide, rfl, tb4 6 (by decide +kernel) rfl, in_X7⟩
theorem fw_X7_19 : FW RX7 19 7 3 .int := ⟨RX7, TX7, 87, rfl, by decide, rfl, tb4 6 (by decide +kernel) rfl, in_X7, ⟨tyX7, tyX7_ok⟩, nmX7, rfl, by decide +kernel⟩
theorem fl_X7_22 : FL RX7 22 7 4 := ⟨RX7, TX7, 87, rfl, by decide, rfl, tb4 7 (by decide +kernel) rfl, in_X7⟩
theorem fw_X7_22 : FW RX7 22 7 4 .int := ⟨RX7, TX7, 87, rfl, by decide, rfl, tb4 7 (by decide +kernel) rfl, in_X7, ⟨tyX7, tyX7_ok⟩, nmX7, rfl, by decide +kernel⟩
theorem fl_X7_25 : FL RX7 25 7 5 := ⟨RX7, TX7, 87, rfl, by decide, rfl, tb4 8 (by decide +kernel) rfl, in_X7⟩
theorem fw_X7_25 : FW RX7 25 7 5 .int := ⟨RX7, TX7, 87, rfl, by decide, rfl, tb4 8 (by decide +kernel) rfl, in_X7, ⟨tyX7, tyX7_ok⟩, nmX7, rfl, by decide +kernel⟩
theorem fl_X7_28 : FL RX7 28 7 6 := ⟨RX7, TX7, 87, rfl, by decide, rfl, tb4 9 (by decide +kernel) rfl, in_X7⟩
theorem fl_X7_32 : FL RX7 32 7 7 := ⟨RX7, TX7, 87, rfl, by decide, rfl, tb4 10 (by decide +kernel) rfl, in_X7⟩
theorem fl_X7_35 : FL RX7 35 7 8 := ⟨RX7, TX7, 87, rfl, by decide, rfl, tb4 11 (by decide +kernel) rfl, in_X7⟩
theorem fl_X7_38 : FL RX7 38 7 9 := ⟨RX7, TX7, 87, rfl, by decide, rfl, tb4 12 (by decide +kernel) rfl, in_X7⟩
theorem fl_X7_41 : FL RX7 41 7 10 := ⟨RX7, TX7, 87, rfl, by decide, rfl, tb4 13 (by decide +kernel) rfl, in_X7⟩
theorem fl_X7_44 : FL RX7 44 7 11 := ⟨RX7, TX7, 87, rfl, by decide, rfl, tb4 14 (by decide +kernel) rfl, in_X7⟩
theorem fl_X7_47 : FL RX7 47 7 12 := ⟨RX7, TX7, 87, rfl, by decide, rfl, tb4 15 (by decide +kernel) rfl, in_X7⟩
theorem fl_X7_50 : FL RX7 50 7 13 := ⟨RX7, TX7, 87, rfl, by decide, rfl, tb4 16 (by decide +kernel) rfl, in_X7⟩
theorem fw_X7_50 : FW RX7 50 7 13 .int := ⟨RX7, TX7, 87, rfl, by decide, rfl, tb4 16 (by decide +kernel) rfl, in_X7, ⟨tyX7, tyX7_ok⟩, nmX7, rfl, by decide +kernel⟩
theorem fl_X7_53 : FL RX7 53 7 14 := ⟨RX7, TX7, 87, rfl, by decide, rfl, tb4 17 (by decide +kernel) rfl, in_X7⟩
theorem fw_X7_53 : FW RX7 53 7 14 .int := ⟨RX7, TX7, 87, rfl, by decide, rfl, tb4 17 (by decide +kernel) rfl, in_X7, ⟨tyX7, tyX7_ok⟩, nmX7, rfl, by decide +kernel⟩
theorem fl_X7_56 : FL RX7 56 7 15 := ⟨RX7, TX7, 87, rfl, by decide, rfl, tb4 18 (by decide +kernel) rfl, in_X7⟩
theorem fw_X7_56 : FW RX7 56 7 15 .int := ⟨RX7, TX7, 87, rfl, by decide, rfl, tb4 18 (by decide +kernel) rfl, in_X7, ⟨tyX7, tyX7_ok⟩, nmX7, rfl, by decide +kernel⟩
theorem fl_X7_59 : FL RX7 59 7 16 := ⟨RX7, TX7, 87, rfl, by decide, rfl, tb4 19 (by decide +kernel) rfl, in_X7⟩
theorem fw_X7_59 : FW RX7 59 7 16 .int := ⟨RX7, TX7, 87, rfl, by decide, rfl, tb4 19 (by decide +kernel) rfl, in_X7, ⟨tyX7, tyX7_ok⟩, nmX7, rfl, by decide +kernel⟩
theorem fl_X7_62 : FL RX7 62 7 17 := ⟨RX7, TX7, 87, rfl, by decide, rfl, tb4 20 (by decide +kernel) rfl, in_X7⟩
theorem fw_X7_62 : FW RX7 62 7 17 .int := ⟨RX7, TX7, 87, rfl, by decide, rfl, tb4 20 (by decide +kernel) rfl, in_X7, ⟨tyX7, tyX7_ok⟩, nmX7, rfl, by decide +kernel⟩
theorem fl_X7_65 : FL RX7 65 7 18 := ⟨RX7, TX7, 87, rfl, by decide, rfl, tb4 21 (by decide +kernel) rfl, in_X7⟩
theorem fl_X7_68 : FL RX7 68 7 19 := ⟨RX7, TX7, 87, rfl, by decide, rfl, tb4 22 (by decide +kernel) rfl, in_X7⟩
theorem fl_X7_71 : FL RX7 71 7 20 := ⟨RX7, TX7, 87, rfl, by decide, rfl, tb4 23 (by decide +kernel) rfl, in_X7⟩
theorem fl_X7_74 : FL RX7 74 7 21 := ⟨RX7, TX7, 87, rfl, by decide, rfl, tb4 24 (by decide +kernel) rfl, in_X7⟩
theorem fl_X7_77 : FL RX7 77 7 22 := ⟨RX7, TX7, 87, rfl, by decide, rfl, tb4 25 (by decide +kernel) rfl, in_X7⟩
theorem fl_X7_80 : FL RX7 80 7 23 := ⟨RX7, TX7, 87, rfl, by decide, rfl, tb4 26 (by decide +kernel) rfl, in_X7⟩
theorem fl_X7_83 : FL RX7 83 7 24 := ⟨RX7, TX7, 87, rfl, by decide, rfl, tb4 27 (by decide +kernel) rfl, in_X7⟩
theorem fl_X7_86 : FL RX7 86 7 25 := ⟨RX7, TX7, 87, rfl, by decide, rfl, tb4 28 (by decide +kernel) rfl, in_X7⟩
theorem fl_X7_89 : FL RX7 89 7 26 := ⟨RX7, TX7, 87, rfl, by decide, rfl, tb4 29 (by decide +kernel) rfl, in_X7⟩
theorem fw_X7_89 : FW RX7 89 7 26 .int := ⟨RX7, TX7, 87, rfl, by decide, rfl, tb4 29 (by decide +kernel) rfl, in_X7, ⟨tyX7, tyX7_ok⟩, nmX7, rfl, by decide +kernel⟩
theorem fl_X7_92 : FL RX7 92 7 27 := ⟨RX7, TX7, 87, rfl, by decide, rfl, tb4 30 (by decide +kernel) rfl, in_X7⟩
theorem fw_X7_92 : FW RX7 92 7 27 .int := ⟨RX7, TX7, 87, rfl, by decide, rfl, tb4 30 (by decide +kernel) rfl, in_X7, ⟨tyX7, tyX7_ok⟩, nmX7, rfl, by decide +kernel⟩
theorem fl_X7_95 : FL RX7 95 7 28 := ⟨RX7, TX7, 87, rfl, by decide, rfl, tb4 31 (by decide +kernel) rfl, in_X7⟩
theorem fw_X7_95 : FW RX7 95 7 28 .int := ⟨RX7, TX7, 87, rfl, by decide, rfl, tb4 31 (by decide +kernel) rfl, in_X7, ⟨tyX7, tyX7_ok⟩, nmX7, rfl, by decide +kernel⟩
theorem fl_X7_98 : FL RX7 98 7 29 := ⟨RX7, TX7, 87, rfl, by decide, rfl, tb4 32 (by decide +kernel) rfl, in_X7⟩
theorem fl_X7_101 : FL RX7 101 7 30 := ⟨RX7, TX7, 87, rfl, by decide, rfl, tb4 33 (by decide +kernel) rfl, in_X7⟩
theorem fl_X7_106 : FL RX7 106 7 31 := ⟨RX7, TX7, 87, rfl, by decide, rfl, tb4 34 (by decide +kernel) rfl, in_X7⟩
theorem fw_X7_106 : FW RX7 106 7 31 .int := ⟨RX7, TX7, 87, rfl, by decide, rfl, tb4 34 (by decide +kernel) rfl, in_X7, ⟨tyX7, tyX7_ok⟩, nmX7, rfl, by decide +kernel⟩
theorem fl_X7_109 : FL RX7 109 7 32 := ⟨RX7, TX7, 87, rfl, by decide, rfl, tb4 35 (by decide +kernel) rfl, in_X7⟩
theorem fw_X7_109 : FW RX7 109 7 32 .int := ⟨RX7, TX7, 87, rfl, by decide, rfl, tb4 35 (by decide +kernel) rfl, in_X7, ⟨tyX7, tyX7_ok⟩, nmX7, rfl, by decide +kernel⟩
theorem fl_X7_112 : FL RX7 112 7 33 := ⟨RX7, TX7, 87, rfl, by decide, rfl, tb4 36 (by decide +kernel) rfl, in_X7⟩
theorem fl_X7_115 : FL RX7 115 7 34 := ⟨RX7, TX7, 87, rfl, by decide, rfl, tb4 37 (by decide +kernel) rfl, in_X7⟩
theorem fw_X7_115 : FW RX7 115 7 34 .int := ⟨RX7, TX7, 87, rfl, by decide, rfl, tb4 37 (by decide +kernel) rfl, in_X7, ⟨tyX7, tyX7_ok⟩, nmX7, rfl, by decide +kernel⟩
theorem fl_X7_118 : FL RX7 118 7 35 := ⟨RX7, TX7, 87, rfl, by decide, rfl, tb4 38 (by decide +kernel) rfl, in_X7⟩
theorem fw_X7_118 : FW RX7 118 7 35 .int := ⟨RX7, TX7, 87, rfl, by decide, rfl, tb4 38 (by decide +kernel) rfl, in_X7, ⟨tyX7, tyX7_ok⟩, nmX7, rfl, by decide +kernel⟩
theorem fl_X7_121 : FL RX7 121 7 36 := ⟨RX7, TX7, 87, rfl, by decide, rfl, tb4 39 (by decide +kernel) rfl, in_X7⟩
theorem fw_X7_121 : FW RX7 121 7 36 .int := ⟨RX7, TX7, 87, rfl, by decide, rfl, tb4 39 (by decide +kernel) rfl, in_X7, ⟨tyX7, tyX7_ok⟩, nmX7, rfl, by decide +kernel⟩
theorem fl_X7_124 : FL RX7 124 7 37 := ⟨RX7, TX7, 87, rfl, by decide, rfl, tb4 40 (by decide +kernel) rfl, in_X7⟩
theorem fw_X7_124 : FW RX7 124 7 37 .int := ⟨RX7, TX7, 87, rfl, by decide, rfl, tb4 40 (by decide +kernel) rfl, in_X7, ⟨tyX7, tyX7_ok⟩, nmX7, rfl, by decide +kernel⟩
theorem fl_X7_127 : FL RX7 127 7 38 := ⟨RX7, TX7, 87, rfl, by decide, rfl, tb4 41 (by decide +kernel) rfl, in_X7⟩
theorem fw_X7_127 : FW RX7 127 7 38 .int := ⟨RX7, TX7, 87, rfl, by decide, rfl, tb4 41 (by decide +kernel) rfl, in_X7, ⟨tyX7, tyX7_ok⟩, nmX7, rfl, by decide +kernel⟩
theorem fl_X7_130 : FL RX7 130 7 39 := ⟨RX7, TX7, 87, rfl, by decide, rfl, tb4 42 (by decide +kernel) rfl, in_X7⟩
theorem fl_X7_133 : FL RX7 133 7 40 := ⟨RX7, TX7, 87, rfl, by decide, rfl, tb4 43 (by decide +kernel) rfl, in_X7⟩
theorem fl_X7_136 : FL RX7 136 7 41 := ⟨RX7, TX7, 87, rfl, by decide, rfl, tb4 44 (by decide +kernel) rfl, in_X7⟩
theorem fl_X7_139 : FL RX7 139 7 42 := ⟨RX7, TX7, 87, rfl, by decide, rfl, tb4 45 (by decide +kernel) rfl, in_X7⟩
theorem fl_X7_142 : FL RX7 142 7 43 := ⟨RX7, TX7, 87, rfl, by decide, rfl, tb4 46 (by decide +kernel) rfl, in_X7⟩
theorem fw_X7_142 : FW RX7 142 7 43 .int := ⟨RX7, TX7, 87, rfl, by decide, rfl, tb4 46 (by decide +kernel) rfl, in_X7, ⟨tyX7, tyX7_ok⟩, nmX7, rfl, by decide +kernel⟩
theorem fl_X7_145 : FL RX7 145 7 44 := ⟨RX7, TX7, 87, rfl, by decide, rfl, tb4 47 (by decide +kernel) rfl, in_X7⟩
theorem fl_X7_148 : FL RX7 148 7 45 := ⟨RX7, TX7, 87, rfl, by decide, rfl, tb4 48 (by decide +kernel) rfl, in_X7⟩
theorem fw_X7_148 : FW RX7 148 7 45 .int := ⟨RX7, TX7, 87, rfl, by decide, rfl, tb4 48 (by decide +kernel) rfl, in_X7, ⟨tyX7, tyX7_ok⟩, nmX7, rfl, by decide +kernel⟩
theorem fl_X7_151 : FL RX7 151 7 46 := ⟨RX7, TX7, 87, rfl, by decide, rfl, tb4 49 (by decide +kernel) rfl, in_X7⟩
theorem fw_X7_151 : FW RX7 151 7 46 .int := ⟨RX7, TX7, 87, rfl, by decide, rfl, tb4 49 (by decide +kernel) rfl, in_X7, ⟨tyX7, tyX7_ok⟩, nmX7, rfl, by decide +kernel⟩
theorem fl_X7_154 : FL RX7 154 7 47 := ⟨RX7, TX7, 87, rfl, by decide, rfl, tb4 50 (by decide +kernel) rfl, in_X7⟩
theorem fl_X7_157 : FL RX7 157 7 48 := ⟨RX7, TX7, 87, rfl, by decide, rfl, tb4 51 (by decide +kernel) rfl, in_X7⟩
theorem fw_X7_157 : FW RX7 157 7 48 .int := ⟨RX7, TX7, 87, rfl, by decide, rfl, tb4 51 (by decide +kernel) rfl, in_X7, ⟨tyX7, tyX7_ok⟩, nmX7, rfl, by decide +kernel⟩
theorem fl_X7_160 : FL RX7 160 7 49 := ⟨RX7, TX7, 87, rfl, by decide, rfl, tb4 52 (by decide +kernel) rfl, in_X7⟩
theorem fl_X7_163 : FL RX7 163 7 50 := ⟨RX7, TX7, 87, rfl, by decide, rfl, tb4 53 (by decide +kernel) rfl, in_X7⟩
theorem fl_X7_166 : FL RX7 166 7 51 := ⟨RX7, TX7, 87, rfl, by decide, rfl, tb4 54 (by decide +kernel) rfl, in_X7⟩
theorem fw_X7_166 : FW RX7 166 7 51 .int := ⟨RX7, TX7, 87, rfl, by decide, rfl, tb4 54 (by decide +kernel) rfl, in_X7, ⟨tyX7, tyX7_ok⟩, nmX7, rfl, by decide +kernel⟩
theorem fl_X7_169 : FL RX7 169 7 52 := ⟨RX7, TX7, 87, rfl, by decide, rfl, tb4 55 (by decide +kernel) rfl, in_X7⟩
theorem fw_X7_169 : FW RX7 169 7 52 .int := ⟨RX7, TX7, 87, rfl, by decide, rfl, tb4 55 (by decide +kernel) rfl, in_X7, ⟨tyX7, tyX7_ok⟩, nmX7, rfl, by decide +kernel⟩
theorem fl_X7_172 : FL RX7 172 7 53 := ⟨RX7, TX7, 87, rfl, by decide, rfl, tb4 56 (by decide +kernel) rfl, in_X7⟩
theorem fl_X7_175 : FL RX7 175 7 54 := ⟨RX7, TX7, 87, rfl, by decide, rfl, tb4 57 (by decide +kernel) rfl, in_X7⟩
theorem fl_X7_178 : FL RX7 178 7 55 := ⟨RX7, TX7, 87, rfl, by decide, rfl, tb4 58 (by decide +kernel) rfl, in_X7⟩
theorem fl_X7_181 : FL RX7 181 7 56 := ⟨RX7, TX7, 87, rfl, by decide, rfl, tb4 59 (by decide +kernel) rfl, in_X7⟩
theorem fl_X7_184 : FL RX7 184 7 57 := ⟨RX7, TX7, 87, rfl, by decide, rfl, tb4 60 (by decide +kernel) rfl, in_X7⟩
theorem fw_X7_184 : FW RX7 184 7 57 .boolean := ⟨RX7, TX7, 87, rfl, by decide, rfl, tb4 60 (by decide +kernel) rfl, in_X7, ⟨tyX7, tyX7_ok⟩, nmX7, rfl, by decide +kernel⟩
theorem fl_X7_188 : FL RX7 188 7 58 := ⟨RX7, TX7, 87, rfl, by decide, rfl, tb4 61 (by decide +kernel) rfl, in_X7⟩
theorem fw_X7_188 : FW RX7 188 7 58 .int := ⟨RX7, TX7, 87, rfl, by decide, rfl, tb4 61 (by decide +kernel) rfl, in_X7, ⟨tyX7, tyX7_ok⟩, nmX7, rfl, by decide +kernel⟩
theorem fl_X7_191 : FL RX7 191 7 59 := ⟨RX7, TX7, 87, rfl, by decide, rfl, tb4 62 (by decide +kernel) rfl, in_X7⟩
theorem fw_X7_191 : FW RX7 191 7 59 .int := ⟨RX7, TX7, 87, rfl, by decide, rfl, tb4 62 (by decide +kernel) rfl, in_X7, ⟨tyX7, tyX7_ok⟩, nmX7, rfl, by decide +kernel⟩
theorem fl_X7_194 : FL RX7 194 7 60 := ⟨RX7, TX7, 87, rfl, by decide, rfl, tb4 63 (by decide +kernel) rfl, in_X7⟩
theorem fw_X7_194 : FW RX7 194 7 60 .int := ⟨RX7, TX7, 87, rfl, by decide, rfl, tb4 63 (by decide +kernel) rfl, in_X7, ⟨tyX7, tyX7_ok⟩, nmX7, rfl, by decide +kernel⟩
theorem fl_X7_197 : FL RX7 197 7 61 := ⟨RX7, TX7, 87, rfl, by decide, rfl, tb4 64 (by decide +kernel) rfl, in_X7⟩
theorem fw_X7_197 : FW RX7 197 7 61 .int := ⟨RX7, TX7, 87, rfl, by decide, rfl, tb4 64 (by decide +kernel) rfl, in_X7, ⟨tyX7, tyX7_ok⟩, nmX7, rfl, by decide +kernel⟩
theorem fl_X7_200 : FL RX7 200 7 62 := ⟨RX7, TX7, 87, rfl, by decide, rfl, tb4 65 (by decide +kernel) rfl, in_X7⟩
theorem fw_X7_200 : FW RX7 200 7 62 .int := ⟨RX7, TX7, 87, rfl, by decide, rfl, tb4 65 (by decide +kernel) rfl, in_X7, ⟨tyX7, tyX7_ok⟩, nmX7, rfl, by decide +kernel⟩
theorem fl_X7_203 : FL RX7 203 7 63 := ⟨RX7, TX7, 87, rfl, by decide, rfl, tb4 66 (by decide +kernel) rfl, in_X7⟩
theorem fw_X7_203 : FW RX7 203 7 63 .int := ⟨RX7, TX7, 87, rfl, by decide, rfl, tb4 66 (by decide +kernel) rfl, in_X7, ⟨tyX7, tyX7_ok⟩, nmX7, rfl, by decide +kernel⟩
theorem fl_X7_206 : FL RX7 206 7 64 := ⟨RX7, TX7, 87, rfl, by decide, rfl, tb4 67 (by decide +kernel) rfl, in_X7⟩
theorem fw_X7_206 : FW RX7 206 7 64 .int := ⟨RX7, TX7, 87, rfl, by decide, rfl, tb4 67 (by decide +kernel) rfl, in_X7, ⟨tyX7, tyX7_ok⟩, nmX7, rfl, by decide +kernel⟩
theorem fl_X7_209 : FL RX7 209 7 65 := ⟨RX7, TX7, 87, rfl, by decide, rfl, tb4 68 (by decide +kernel) rfl, in_X7⟩
theorem fw_X7_209 : FW RX7 209 7 65 .int := ⟨RX7, TX7, 87, rfl, by decide, rfl, tb4 68 (by decide +kernel) rfl, in_X7, ⟨tyX7, tyX7_ok⟩, nmX7, rfl, by decide +kernel⟩
theorem fl_X7_212 : FL RX7 212 7 66 := ⟨RX7, TX7, 87, rfl, by decide, rfl, tb4 69 (by decide +kernel) rfl, in_X7⟩
theorem fw_X7_212 : FW RX7 212 7 66 .int := ⟨RX7, TX7, 87, rfl, by decide, rfl, tb4 69 (by decide +kernel) rfl, in_X7, ⟨tyX7, tyX7_ok⟩, nmX7, rfl, by decide +kernel⟩
theorem fl_X7_215 : FL RX7 215 7 67 := ⟨RX7, TX7, 87, rfl, by decide, rfl, tb4 70 (by decide +kernel) rfl, in_X7⟩
theorem fw_X7_215 : FW RX7 215 7 67 .int := ⟨RX7, TX7, 87, rfl, by decide, rfl, tb4 70 (by decide +kernel) rfl, in_X7, ⟨tyX7, tyX7_ok⟩, nmX7, rfl, by decide +kernel⟩
theorem fl_X7_218 : FL RX7 218 7 68 := ⟨RX7, TX7, 87, rfl, by decide, rfl, tb4 71 (by decide +kernel) rfl, in_X7⟩
theorem fl_X7_221 : FL RX7 221 7 69 := ⟨RX7, TX7, 87, rfl, by decide, rfl, tb4 72 (by decide +kernel) rfl, in_X7⟩
theorem fl_X7_224 : FL RX7 224 7 70 := ⟨RX7, TX7, 87, rfl, by decide, rfl, tb4 73 (by decide +kernel) rfl, in_X7⟩
theorem fl_X7_227 : FL RX7 227 7 71 := ⟨RX7, TX7, 87, rfl, by decide, rfl, tb4 74 (by decide +kernel) rfl, in_X7⟩
theorem fl_X7_230 : FL RX7 230 7 72 := ⟨RX7, TX7, 87, rfl, by decide, rfl, tb4 75 (by decide +kernel) rfl, in_X7⟩
theorem fl_X7_233 : FL RX7 233 7 73 := ⟨RX7, TX7, 87, rfl, by decide, rfl, tb4 76 (by decide +kernel) rfl, in_X7⟩
theorem fl_X7_236 : FL RX7 236 7 74 := ⟨RX7, TX7, 87, rfl, by decide, rfl, tb4 77 (by decide +kernel) rfl, in_X7⟩
theorem fl_X7_239 : FL RX7 239 7 75 := ⟨RX7, TX7, 87, rfl, by decide, rfl, tb4 78 (by decide +kernel) rfl, in_X7⟩
theorem fl_X7_242 : FL RX7 242 7 76 := ⟨RX7, TX7, 87, rfl, by decide, rfl, tb4 79 (by decide +kernel) rfl, in_X7⟩
theorem fl_X7_245 : FL RX7 245 7 77 := ⟨RX7, TX7, 87, rfl, by decide, rfl, tb4 80 (by decide +kernel) rfl, in_X7⟩
theorem fl_X7_248 : FL RX7 248 7 78 := ⟨RX7, TX7, 87, rfl, by decide, rfl, tb4 81 (by decide +kernel) rfl, in_X7⟩
theorem fl_X7_251 : FL RX7 251 7 79 := ⟨RX7, TX7, 87, rfl, by decide, rfl, tb4 82 (by decide +kernel) rfl, in_X7⟩
theorem fl_X7_254 : FL RX7 254 7 80 := ⟨RX7, TX7, 87, rfl, by decide, rfl, tb4 83 (by decide +kernel) rfl, in_X7⟩
theorem fl_X7_257 : FL RX7 257 7 81 := ⟨RX7, TX7, 87, rfl, by decide, rfl, tb4 84 (by decide +kernel) rfl, in_X7⟩
theorem fw_X7_257 : FW RX7 257 7 81 .int := ⟨RX7, TX7, 87, rfl, by decide, rfl, tb4 84 (by decide +kernel) rfl, in_X7, ⟨tyX7, tyX7_ok⟩, nmX7, rfl, by decide +kernel⟩
theorem fl_X7_260 : FL RX7 260 7 82 := ⟨RX7, TX7, 87, rfl, by decide, rfl, tb4 85 (by decide +kernel) rfl, in_X7⟩
theorem fl_X7_263 : FL RX7 263 7 83 := ⟨RX7, TX7, 87, rfl, by decide, rfl, tb4 86 (by decide +kernel) rfl, in_X7⟩
theorem fl_X7_266 : FL RX7 266 7 84 := ⟨RX7, TX7, 87, rfl, by decide, rfl, tb4 87 (by decide +kernel) rfl, in_X7⟩
theorem fl_X7_269 : FL RX7 269 7 85 := ⟨RX7, TX7, 87, rfl, by decide, rfl, tb4 88 (by decide +kernel) rfl, in_X7⟩
theorem fl_X7_273 : FL RX7 273 7 86 := ⟨RX7, TX7, 87, rfl, by decide, rfl, tb4 89 (by decide +kernel) rfl, in_X7⟩
theorem cw_L_13 : CW RL 13 3 mX6_piece := ⟨tb2 23 (by decide +kernel) rfl, tb2 24 (by decide +kernel) rfl, tb2 25 (by decide +kernel) rfl, tb1 1 (by decide +kernel) rfl, tb2 26 (by decide +kernel) rfl, by decide +kernel, by decide +kernel, by decide +kernel, by decide⟩
theorem cw_L_17 : CW RL 17 3 mX7_piece := ⟨tb5 26 (by decide +kernel) rfl, tb5 27 (by decide +kernel) rfl, tb5 28 (by decide +kernel) rfl, tb1 8 (by decide +kernel) rfl, tb5 29 (by decide +kernel) rfl, by decide +kernel, by decide +kernel, by decide +kernel, by decide⟩
theorem cw_L_18 : CW RL 18 2 mX6_of := ⟨tb2 34 (by decide +kernel) rfl, tb2 35 (by decide +kernel) rfl, tb2 36 (by decide +kernel) rfl, tb1 1 (by decide +kernel) rfl, tb2 37 (by decide +kernel) rfl, by decide +kernel, by decide +kernel, by decide +kernel, by decide⟩
theorem cw_L_22 : CW RL 22 2 mX7_of := ⟨tb5 142 (by decide +kernel) rfl, tb5 143 (by decide +kernel) rfl, tb5 144 (by decide +kernel) rfl, tb1 8 (by decide +kernel) rfl, tb5 145 (by decide +kernel) rfl, by decide +kernel, by decide +kernel, by decide +kernel, by decide⟩
theorem cw_L_23 : CW RL 23 3 mX6_set := ⟨tb2 67 (by decide +kernel) rfl, tb2 68 (by decide +kernel) rfl, tb2 69 (by decide +kernel) rfl, tb1 1 (by decide +kernel) rfl, tb2 70 (by decide +kernel) rfl, by decide +kernel, by decide +kernel, by decide +kernel, by decide⟩
theorem cw_L_26 : CW RL 26 3 mX7_set := ⟨tb5 34 (by decide +kernel) rfl, tb5 35 (by decide +kernel) rfl, tb5 36 (by decide +kernel) rfl, tb1 8 (by decide +kernel) rfl, tb5 37 (by decide +kernel) rfl, by decide +kernel, by decide +kernel, by decide +kernel, by decide⟩
theorem cw_L_27 : CW RL 27 3 mX6_row := ⟨tb2 71 (by decide +kernel) rfl, tb2 72 (by decide +kernel) rfl, tb2 73 (by decide +kernel) rfl, tb1 1 (by decide +kernel) rfl, tb2 74 (by decide +kernel) rfl, by decide +kernel, by decide +kernel, by decide +kernel, by decide⟩
theorem cw_L_30 : CW RL 30 3 mX7_row := ⟨tb5 46 (by decide +kernel) rfl, tb5 47 (by decide +kernel) rfl, tb5 48 (by decide +kernel) rfl, tb1 8 (by decide +kernel) rfl, tb5 49 (by decide +kernel) rfl, by decide +kernel, by decide +kernel, by decide +kernel, by decide⟩
theorem cw_L_31 : CW RL 31 1 mX6_hoist := ⟨tb2 75 (by decide +kernel) rfl, tb2 76 (by decide +kernel) rfl, tb2 77 (by decide +kernel) rfl, tb1 1 (by decide +kernel) rfl, tb2 78 (by decide +kernel) rfl, by decide +kernel, by decide +kernel, by decide +kernel, by decide⟩
theorem cw_L_35 : CW RL 35 1 mX7_hoist := ⟨tb5 50 (by decide +kernel) rfl, tb5 51 (by decide +kernel) rfl, tb5 52 (by decide +kernel) rfl, tb1 8 (by decide +kernel) rfl, tb5 53 (by decide +kernel) rfl, by decide +kernel, by decide +kernel, by decide +kernel, by decide⟩
theorem cw_L_36 : CW RL 36 1 mX6_lower := ⟨tb2 83 (by decide +kernel) rfl, tb2 84 (by decide +kernel) rfl, tb2 85 (by decide +kernel) rfl, tb1 1 (by decide +kernel) rfl, tb2 86 (by decide +kernel) rfl, by decide +kernel, by decide +kernel, by decide +kernel, by decide⟩
theorem cw_L_39 : CW RL 39 1 mX7_lower := ⟨tb5 62 (by decide +kernel) rfl, tb5 63 (by decide +kernel) rfl, tb5 64 (by decide +kernel) rfl, tb1 8 (by decide +kernel) rfl, tb5 65 (by decide +kernel) rfl, by decide +kernel, by decide +kernel, by decide +kernel, by decide⟩
theorem cw_L_40 : CW RL 40 2 mX6_trim := ⟨tb2 87 (by decide +kernel) rfl, tb2 88 (by decide +kernel) rfl, tb2 89 (by decide +kernel) rfl, tb1 1 (by decide +kernel) rfl, tb2 90 (by decide +kernel) rfl, by decide +kernel, by decide +kernel, by decide +kernel, by decide⟩
theorem cw_L_43 : CW RL 43 2 mX7_trim := ⟨tb5 66 (by decide +kernel) rfl, tb5 67 (by decide +kernel) rfl, tb5 68 (by decide +kernel) rfl, tb1 8 (by decide +kernel) rfl, tb5 69 (by decide +kernel) rfl, by decide +kernel, by decide +kernel, by decide +kernel, by decide⟩
theorem cw_L_44 : CW RL 44 1 mX6_feed := ⟨tb2 91 (by decide +kernel) rfl, tb2 92 (by decide +kernel) rfl, tb2 93 (by decide +kernel) rfl, tb1 1 (by decide +kernel) rfl, tb2 94 (by decide +kernel) rfl, by decide +kernel, by decide +kernel, by decide +kernel, by decide⟩
theorem cw_L_47 : CW RL 47 1 mX7_feed := ⟨tb5 74 (by decide +kernel) rfl, tb5 75 (by decide +kernel) rfl, tb5 76 (by decide +kernel) rfl, tb1 8 (by decide +kernel) rfl, tb5 77 (by decide +kernel) rfl, by decide +kernel, by decide +kernel, by decide +kernel, by decide⟩
theorem cw_L_48 : CW RL 48 0 mX6_ocean := ⟨tb2 99 (by decide +kernel) rfl, tb2 100 (by decide +kernel) rfl, tb2 101 (by decide +kernel) rfl, tb1 1 (by decide +kernel) rfl, tb2 102 (by decide +kernel) rfl, by decide +kernel, by decide +kernel, by decide +kernel, by decide⟩
theorem cw_L_52 : CW RL 52 0 mX7_ocean := ⟨tb5 78 (by decide +kernel) rfl, tb5 79 (by decide +kernel) rfl, tb5 80 (by decide +kernel) rfl, tb1 8 (by decide +kernel) rfl, tb5 81 (by decide +kernel) rfl, by decide +kernel, by decide +kernel, by decide +kernel, by decide⟩
theorem cw_L_53 : CW RL 53 1 mX6_told := ⟨tb3 7 (by decide +kernel) rfl, tb3 8 (by decide +kernel) rfl, tb3 9 (by decide +kernel) rfl, tb1 1 (by decide +kernel) rfl, tb3 10 (by decide +kernel) rfl, by decide +kernel, by decide +kernel, by decide +kernel, by decide⟩
theorem cw_L_56 : CW RL 56 1 mX7_told := ⟨tb5 186 (by decide +kernel) rfl, tb5 187 (by decide +kernel) rfl, tb5 188 (by decide +kernel) rfl, tb1 8 (by decide +kernel) rfl, tb5 189 (by decide +kernel) rfl, by decide +kernel, by decide +kernel, by decide +kernel, by decide⟩
theorem cw_L_57 : CW RL 57 1 mX6_pass := ⟨tb3 20 (by decide +kernel) rfl, tb3 21 (by decide +kernel) rfl, tb3 22 (by decide +kernel) rfl, tb1 1 (by decide +kernel) rfl, tb3 23 (by decide +kernel) rfl, by decide +kernel, by decide +kernel, by decide +kernel, by decide⟩
theorem cw_L_60 : CW RL 60 1 mX7_pass := ⟨tb5 198 (by decide +kernel) rfl, tb5 199 (by decide +kernel) rfl, tb5 200 (by decide +kernel) rfl, tb1 8 (by decide +kernel) rfl, tb5 201 (by decide +kernel) rfl, by decide +kernel, by decide +kernel, by decide +kernel, by decide⟩
theorem cw_L_61 : CW RL 61 2 mX6_on := ⟨tb3 37 (by decide +kernel) rfl, tb3 38 (by decide +kernel) rfl, tb3 39 (by decide +kernel) rfl, tb1 1 (by decide +kernel) rfl, tb3 40 (by decide +kernel) rfl, by decide +kernel, by decide +kernel, by decide +kernel, by decide⟩
theorem cw_L_64 : CW RL 64 2 mX7_on := ⟨tb5 226 (by decide +kernel) rfl, tb5 227 (by decide +kernel) rfl, tb5 228 (by decide +kernel) rfl, tb1 8 (by decide +kernel) rfl, tb5 229 (by decide +kernel) rfl, by decide +kernel, by decide +kernel, by decide +kernel, by decide⟩
theorem cw_L_65 : CW RL 65 1 mX6_first := ⟨tb3 52 (by decide +kernel) rfl, tb3 53 (by decide +kernel) rfl, tb3 54 (by decide +kernel) rfl, tb1 1 (by decide +kernel) rfl, tb3 55 (by decide +kernel) rfl, by decide +kernel, by decide +kernel, by decide +kernel, by decide⟩
theorem cw_L_68 : CW RL 68 1 mX7_first := ⟨tb5 239 (by decide +kernel) rfl, tb6 0 (by decide +kernel) rfl, tb6 1 (by decide +kernel) rfl, tb1 8 (by decide +kernel) rfl, tb6 2 (by decide +kernel) rfl, by decide +kernel, by decide +kernel, by decide +kernel, by decide⟩
theorem cw_L_69 : CW RL 69 1 mX6_port := ⟨tb3 56 (by decide +kernel) rfl, tb3 57 (by decide +kernel) rfl, tb3 58 (by decide +kernel) rfl, tb1 1 (by decide +kernel) rfl, tb3 59 (by decide +kernel) rfl, by decide +kernel, by decide +kernel, by decide +kernel, by decide⟩
theorem cw_L_72 : CW RL 72 1 mX7_port := ⟨tb6 7 (by decide +kernel) rfl, tb6 8 (by decide +kernel) rfl, tb6 9 (by decide +kernel) rfl, tb1 8 (by decide +kernel) rfl, tb6 10 (by decide +kernel) rfl, by decide +kernel, by decide +kernel, by decide +kernel, by decide⟩
theorem cw_L_73 : CW RL 73 0 mX6_spread := ⟨tb3 60 (by decide +kernel) rfl, tb3 61 (by decide +kernel) rfl, tb3 62 (by decide +kernel) rfl, tb1 1 (by decide +kernel) rfl, tb3 63 (by decide +kernel) rfl, by decide +kernel, by decide +kernel, by decide +kernel, by decide⟩
theorem cw_L_76 : CW RL 76 0 mX7_spread := ⟨tb6 11 (by decide +kernel) rfl, tb6 12 (by decide +kernel) rfl, tb6 13 (by decide +kernel) rfl, tb1 8 (by decide +kernel) rfl, tb6 14 (by decide +kernel) rfl, by decide +kernel, by decide +kernel, by decide +kernel, by decide⟩
theorem cw_L_77 : CW RL 77 1 mX6_fewest := ⟨tb3 64 (by decide +kernel) rfl, tb3 65 (by decide +kernel) rfl, tb3 66 (by decide +kernel) rfl, tb1 1 (by decide +kernel) rfl, tb3 67 (by decide +kernel) rfl, by decide +kernel, by decide +kernel, by decide +kernel, by decide⟩
theorem cw_L_80 : CW RL 80 1 mX7_fewest := ⟨tb6 19 (by decide +kernel) rfl, tb6 20 (by decide +kernel) rfl, tb6 21 (by decide +kernel) rfl, tb1 8 (by decide +kernel) rfl, tb6 22 (by decide +kernel) rfl, by decide +kernel, by decide +kernel, by decide +kernel, by decide⟩
theorem cw_L_81 : CW RL 81 2 mX6_best := ⟨tb3 73 (by decide +kernel) rfl, tb3 74 (by decide +kernel) rfl, tb3 75 (by decide +kernel) rfl, tb1 1 (by decide +kernel) rfl, tb3 76 (by decide +kernel) rfl, by decide +kernel, by decide +kernel, by decide +kernel, by decide⟩
theorem cw_L_84 : CW RL 84 2 mX7_best := ⟨tb6 23 (by decide +kernel) rfl, tb6 24 (by decide +kernel) rfl, tb6 25 (by decide +kernel) rfl, tb1 8 (by decide +kernel) rfl, tb6 26 (by decide +kernel) rfl, by decide +kernel, by decide +kernel, by decide +kernel, by decide⟩
theorem cw_L_85 : CW RL 85 1 mX6_longest := ⟨tb3 95 (by decide +kernel) rfl, tb3 96 (by decide +kernel) rfl, tb3 97 (by decide +kernel) rfl, tb1 1 (by decide +kernel) rfl, tb3 98 (by decide +kernel) rfl, by decide +kernel, by decide +kernel, by decide +kernel, by decide⟩
theorem cw_L_88 : CW RL 88 1 mX7_longest := ⟨tb6 35 (by decide +kernel) rfl, tb6 36 (by decide +kernel) rfl, tb6 37 (by decide +kernel) rfl, tb1 8 (by decide +kernel) rfl, tb6 38 (by decide +kernel) rfl, by decide +kernel, by decide +kernel, by decide +kernel, by decide⟩
theorem cw_L_89 : CW RL 89 2 mX6_see := ⟨tb3 99 (by decide +kernel) rfl, tb3 100 (by decide +kernel) rfl, tb3 101 (by decide +kernel) rfl, tb1 1 (by decide +kernel) rfl, tb3 102 (by decide +kernel) rfl, by decide +kernel, by decide +kernel, by decide +kernel, by decide⟩
theorem cw_L_92 : CW RL 92 2 mX7_see := ⟨tb6 43 (by decide +kernel) rfl, tb6 44 (by decide +kernel) rfl, tb6 45 (by decide +kernel) rfl, tb1 8 (by decide +kernel) rfl, tb6 46 (by decide +kernel) rfl, by decide +kernel, by decide +kernel, by decide +kernel, by decide⟩
theorem cw_L_93 : CW RL 93 2 mX6_worn := ⟨tb3 111 (by decide +kernel) rfl, tb3 112 (by decide +kernel) rfl, tb3 113 (by decide +kernel) rfl, tb1 1 (by decide +kernel) rfl, tb3 114 (by decide +kernel) rfl, by decide +kernel, by decide +kernel, by decide +kernel, by decide⟩
theorem cw_L_96 : CW RL 96 2 mX7_worn := ⟨tb6 47 (by decide +kernel) rfl, tb6 48 (by decide +kernel) rfl, tb6 49 (by decide +kernel) rfl, tb1 8 (by decide +kernel) rfl, tb6 50 (by decide +kernel) rfl, by decide +kernel, by decide +kernel, by decide +kernel, by decide⟩
theorem cw_L_97 : CW RL 97 2 mX6_can := ⟨tb3 124 (by decide +kernel) rfl, tb3 125 (by decide +kernel) rfl, tb3 126 (by decide +kernel) rfl, tb1 1 (by decide +kernel) rfl, tb3 127 (by decide +kernel) rfl, by decide +kernel, by decide +kernel, by decide +kernel, by decide⟩
theorem cw_L_100 : CW RL 100 2 mX7_can := ⟨tb6 55 (by decide +kernel) rfl, tb6 56 (by decide +kernel) rfl, tb6 57 (by decide +kernel) rfl, tb1 8 (by decide +kernel) rfl, tb6 58 (by decide +kernel) rfl, by decide +kernel, by decide +kernel, by decide +kernel, by decide⟩
theorem cw_L_101 : CW RL 101 2 mX6_odds := ⟨tb3 128 (by decide +kernel) rfl, tb3 129 (by decide +kernel) rfl, tb3 130 (by decide +kernel) rfl, tb1 1 (by decide +kernel) rfl, tb3 131 (by decide +kernel) rfl, by decide +kernel, by decide +kernel, by decide +kernel, by decide⟩
theorem cw_L_105 : CW RL 105 2 mX7_odds := ⟨tb6 59 (by decide +kernel) rfl, tb6 60 (by decide +kernel) rfl, tb6 61 (by decide +kernel) rfl, tb1 8 (by decide +kernel) rfl, tb6 62 (by decide +kernel) rfl, by decide +kernel, by decide +kernel, by decide +kernel, by decide⟩
theorem cw_L_106 : CW RL 106 1 mX6_mean := ⟨tb3 136 (by decide +kernel) rfl, tb3 137 (by decide +kernel) rfl, tb3 138 (by decide +kernel) rfl, tb1 1 (by decide +kernel) rfl, tb3 139 (by decide +kernel) rfl, by decide +kernel, by decide +kernel, by decide +kernel, by decide⟩
theorem cw_L_110 : CW RL 110 1 mX7_mean := ⟨tb6 72 (by decide +kernel) rfl, tb6 73 (by decide +kernel) rfl, tb6 74 (by decide +kernel) rfl, tb1 8 (by decide +kernel) rfl, tb6 75 (by decide +kernel) rfl, by decide +kernel, by decide +kernel, by decide +kernel, by decide⟩
theorem cw_L_111 : CW RL 111 2 mX6_plan := ⟨tb3 140 (by decide +kernel) rfl, tb3 141 (by decide +kernel) rfl, tb3 142 (by decide +kernel) rfl, tb1 1 (by decide +kernel) rfl, tb3 143 (by decide +kernel) rfl, by decide +kernel, by decide +kernel, by decide +kernel, by decide⟩
theorem cw_L_114 : CW RL 114 2 mX7_plan := ⟨tb6 76 (by decide +kernel) rfl, tb6 77 (by decide +kernel) rfl, tb6 78 (by decide +kernel) rfl, tb1 8 (by decide +kernel) rfl, tb6 79 (by decide +kernel) rfl, by decide +kernel, by decide +kernel, by decide +kernel, by decide⟩
theorem cw_L_115 : CW RL 115 1 mX6_ends := ⟨tb3 144 (by decide +kernel) rfl, tb3 145 (by decide +kernel) rfl, tb3 146 (by decide +kernel) rfl, tb1 1 (by decide +kernel) rfl, tb3 147 (by decide +kernel) rfl, by decide +kernel, by decide +kernel, by decide +kernel, by decide⟩
theorem cw_L_118 : CW RL 118 1 mX7_ends := ⟨tb6 80 (by decide +kernel) rfl, tb6 81 (by decide +kernel) rfl, tb6 82 (by decide +kernel) rfl, tb1 8 (by decide +kernel) rfl, tb6 83 (by decide +kernel) rfl, by decide +kernel, by decide +kernel, by decide +kernel, by decide⟩
theorem cw_L_119 : CW RL 119 2 mX6_book := ⟨tb3 152 (by decide +kernel) rfl, tb3 153 (by decide +kernel) rfl, tb3 154 (by decide +kernel) rfl, tb1 1 (by decide +kernel) rfl, tb3 155 (by decide +kernel) rfl, by decide +kernel, by decide +kernel, by decide +kernel, by decide⟩
theorem cw_L_122 : CW RL 122 2 mX7_book := ⟨tb6 88 (by decide +kernel) rfl, tb6 89 (by decide +kernel) rfl, tb6 90 (by decide +kernel) rfl, tb1 8 (by decide +kernel) rfl, tb6 91 (by decide +kernel) rfl, by decide +kernel, by decide +kernel, by decide +kernel, by decide⟩
theorem cw_L_123 : CW RL 123 0 mX6_looked := ⟨tb3 156 (by decide +kernel) rfl, tb3 157 (by decide +kernel) rfl, tb3 158 (by decide +kernel) rfl, tb1 1 (by decide +kernel) rfl, tb3 159 (by decide +kernel) rfl, by decide +kernel, by decide +kernel, by decide +kernel, by decide⟩
theorem cw_L_126 : CW RL 126 0 mX7_looked := ⟨tb6 92 (by decide +kernel) rfl, tb6 93 (by decide +kernel) rfl, tb6 94 (by decide +kernel) rfl, tb1 8 (by decide +kernel) rfl, tb6 95 (by decide +kernel) rfl, by decide +kernel, by decide +kernel, by decide +kernel, by decide⟩
theorem cw_L_127 : CW RL 127 2 mX6_judge := ⟨tb3 160 (by decide +kernel) rfl, tb3 161 (by decide +kernel) rfl, tb3 162 (by decide +kernel) rfl, tb1 1 (by decide +kernel) rfl, tb3 163 (by decide +kernel) rfl, by decide +kernel, by decide +kernel, by decide +kernel, by decide⟩
theorem cw_L_130 : CW RL 130 2 mX7_judge := ⟨tb6 96 (by decide +kernel) rfl, tb6 97 (by decide +kernel) rfl, tb6 98 (by decide +kernel) rfl, tb1 8 (by decide +kernel) rfl, tb6 99 (by decide +kernel) rfl, by decide +kernel, by decide +kernel, by decide +kernel, by decide⟩
theorem cw_L_131 : CW RL 131 0 mX6_image := ⟨tb3 164 (by decide +kernel) rfl, tb3 165 (by decide +kernel) rfl, tb3 166 (by decide +kernel) rfl, tb1 1 (by decide +kernel) rfl, tb3 167 (by decide +kernel) rfl, by decide +kernel, by decide +kernel, by decide +kernel, by decide⟩
theorem cw_L_134 : CW RL 134 0 mX7_image := ⟨tb6 104 (by decide +kernel) rfl, tb6 105 (by decide +kernel) rfl, tb6 106 (by decide +kernel) rfl, tb1 8 (by decide +kernel) rfl, tb6 107 (by decide +kernel) rfl, by decide +kernel, by decide +kernel, by decide +kernel, by decide⟩
theorem cw_L_135 : CW RL 135 0 mX6_undo := ⟨tb3 175 (by decide +kernel) rfl, tb3 176 (by decide +kernel) rfl, tb3 177 (by decide +kernel) rfl, tb1 1 (by decide +kernel) rfl, tb3 178 (by decide +kernel) rfl, by decide +kernel, by decide +kernel, by decide +kernel, by decide⟩
theorem cw_L_138 : CW RL 138 0 mX7_undo := ⟨tb6 108 (by decide +kernel) rfl, tb6 109 (by decide +kernel) rfl, tb6 110 (by decide +kernel) rfl, tb1 8 (by decide +kernel) rfl, tb6 111 (by decide +kernel) rfl, by decide +kernel, by decide +kernel, by decide +kernel, by decide⟩
theorem cw_L_139 : CW RL 139 3 mX6_act := ⟨tb3 179 (by decide +kernel) rfl, tb3 180 (by decide +kernel) rfl, tb3 181 (by decide +kernel) rfl, tb1 1 (by decide +kernel) rfl, tb3 182 (by decide +kernel) rfl, by decide +kernel, by decide +kernel, by decide +kernel, by decide⟩
theorem cw_L_142 : CW RL 142 3 mX7_act := ⟨tb6 112 (by decide +kernel) rfl, tb6 113 (by decide +kernel) rfl, tb6 114 (by decide +kernel) rfl, tb1 8 (by decide +kernel) rfl, tb6 115 (by decide +kernel) rfl, by decide +kernel, by decide +kernel, by decide +kernel, by decide⟩
theorem cw_L_143 : CW RL 143 1 mX6_trace := ⟨tb3 198 (by decide +kernel) rfl, tb3 199 (by decide +kernel) rfl, tb3 200 (by decide +kernel) rfl, tb1 1 (by decide +kernel) rfl, tb3 201 (by decide +kernel) rfl, by decide +kernel, by decide +kernel, by decide +kernel, by decide⟩
theorem cw_L_146 : CW RL 146 1 mX7_trace := ⟨tb6 148 (by decide +kernel) rfl, tb6 149 (by decide +kernel) rfl, tb6 150 (by decide +kernel) rfl, tb1 8 (by decide +kernel) rfl, tb6 151 (by decide +kernel) rfl, by decide +kernel, by decide +kernel, by decide +kernel, by decide⟩
theorem cw_L_147 : CW RL 147 2 mX6_taken := ⟨tb3 202 (by decide +kernel) rfl, tb3 203 (by decide +kernel) rfl, tb3 204 (by decide +kernel) rfl, tb1 1 (by decide +kernel) rfl, tb3 205 (by decide +kernel) rfl, by decide +kernel, by decide +kernel, by decide +kernel, by decide⟩
theorem cw_L_150 : CW RL 150 2 mX7_taken := ⟨tb6 152 (by decide +kernel) rfl, tb6 153 (by decide +kernel) rfl, tb6 154 (by decide +kernel) rfl, tb1 8 (by decide +kernel) rfl, tb6 155 (by decide +kernel) rfl, by decide +kernel, by decide +kernel, by decide +kernel, by decide⟩
theorem cw_L_151 : CW RL 151 1 mX6_count := ⟨tb3 207 (by decide +kernel) rfl, tb3 208 (by decide +kernel) rfl, tb3 209 (by decide +kernel) rfl, tb1 1 (by decide +kernel) rfl, tb3 210 (by decide +kernel) rfl, by decide +kernel, by decide +kernel, by decide +kernel, by decide⟩
theorem cw_L_154 : CW RL 154 1 mX7_count := ⟨tb6 156 (by decide +kernel) rfl, tb6 157 (by decide +kernel) rfl, tb6 158 (by decide +kernel) rfl, tb1 8 (by decide +kernel) rfl, tb6 159 (by decide +kernel) rfl, by decide +kernel, by decide +kernel, by decide +kernel, by decide⟩
theorem cw_L_155 : CW RL 155 3 mX6_tape := ⟨tb3 211 (by decide +kernel) rfl, tb3 212 (by decide +kernel) rfl, tb3 213 (by decide +kernel) rfl, tb1 1 (by decide +kernel) rfl, tb3 214 (by decide +kernel) rfl, by decide +kernel, by decide +kernel, by decide +kernel, by decide⟩
theorem cw_L_158 : CW RL 158 3 mX7_tape := ⟨tb6 160 (by decide +kernel) rfl, tb6 161 (by decide +kernel) rfl, tb6 162 (by decide +kernel) rfl, tb1 8 (by decide +kernel) rfl, tb6 163 (by decide +kernel) rfl, by decide +kernel, by decide +kernel, by decide +kernel, by decide⟩
theorem cw_L_161 : CW RL 161 3 mX6_item := ⟨tb3 219 (by decide +kernel) rfl, tb3 220 (by decide +kernel) rfl, tb3 221 (by decide +kernel) rfl, tb1 1 (by decide +kernel) rfl, tb3 222 (by decide +kernel) rfl, by decide +kernel, by decide +kernel, by decide +kernel, by decide⟩
theorem cw_L_165 : CW RL 165 3 mX7_item := ⟨tb6 164 (by decide +kernel) rfl, tb6 165 (by decide +kernel) rfl, tb6 166 (by decide +kernel) rfl, tb1 8 (by decide +kernel) rfl, tb6 167 (by decide +kernel) rfl, by decide +kernel, by decide +kernel, by decide +kernel, by decide⟩
theorem cw_L_166 : CW RL 166 2 mX6_read := ⟨tb3 227 (by decide +kernel) rfl, tb3 228 (by decide +kernel) rfl, tb3 229 (by decide +kernel) rfl, tb1 1 (by decide +kernel) rfl, tb3 230 (by decide +kernel) rfl, by decide +kernel, by decide +kernel, by decide +kernel, by decide⟩
theorem cw_L_169 : CW RL 169 2 mX7_read := ⟨tb6 172 (by decide +kernel) rfl, tb6 173 (by decide +kernel) rfl, tb6 174 (by decide +kernel) rfl, tb1 8 (by decide +kernel) rfl, tb6 175 (by decide +kernel) rfl, by decide +kernel, by decide +kernel, by decide +kernel, by decide⟩
theorem cw_L_170 : CW RL 170 5 mX6_shift := ⟨tb3 231 (by decide +kernel) rfl, tb3 232 (by decide +kernel) rfl, tb3 233 (by decide +kernel) rfl, tb1 1 (by decide +kernel) rfl, tb3 234 (by decide +kernel) rfl, by decide +kernel, by decide +kernel, by decide +kernel, by decide⟩
theorem cw_L_174 : CW RL 174 5 mX7_shift := ⟨tb6 176 (by decide +kernel) rfl, tb6 177 (by decide +kernel) rfl, tb6 178 (by decide +kernel) rfl, tb1 8 (by decide +kernel) rfl, tb6 179 (by decide +kernel) rfl, by decide +kernel, by decide +kernel, by decide +kernel, by decide⟩
theorem cs_X0_32 : CSt RX0 32 2 mX0_ownerOf := ⟨tb3 191 (by decide +kernel) rfl, tb3 192 (by decide +kernel) rfl, tb1 6 (by decide +kernel) rfl, tb3 193 (by decide +kernel) rfl, by decide +kernel, by decide +kernel, by decide +kernel, by decide⟩
theorem cw_X0_28 : CW RX0 28 4 mX0_run := ⟨tb3 187 (by decide +kernel) rfl, tb3 189 (by decide +kernel) rfl, tbl_sel 12 (q := (yX0_run, 5)) (by decide +kernel), tb1 6 (by decide +kernel) rfl, tb3 190 (by decide +kernel) rfl, by decide +kernel, by decide +kernel, by decide +kernel, by decide⟩
theorem cw_X1_62 : CW RX1 62 1 mX1_copyFrom := ⟨tb3 45 (by decide +kernel) rfl, tb3 46 (by decide +kernel) rfl, tb3 47 (by decide +kernel) rfl, tb1 3 (by decide +kernel) rfl, tb3 48 (by decide +kernel) rfl, by decide +kernel, by decide +kernel, by decide +kernel, by decide⟩
theorem cw_X1_66 : CW RX1 66 1 mX1_placeOf := ⟨tb3 94 (by decide +kernel) rfl, tb2 55 (by decide +kernel) rfl, tb2 56 (by decide +kernel) rfl, tb1 3 (by decide +kernel) rfl, tb2 57 (by decide +kernel) rfl, by decide +kernel, by decide +kernel, by decide +kernel, by decide⟩
theorem cw_X1_75 : CW RX1 75 1 mX1_above := ⟨tb2 66 (by decide +kernel) rfl, tb2 59 (by decide +kernel) rfl, tb2 60 (by decide +kernel) rfl, tb1 3 (by decide +kernel) rfl, tb2 61 (by decide +kernel) rfl, by decide +kernel, by decide +kernel, by decide +kernel, by decide⟩
theorem cw_X1_87 : CW RX1 87 0 mX1_height := ⟨tb3 19 (by decide +kernel) rfl, tb3 12 (by decide +kernel) rfl, tb3 13 (by decide +kernel) rfl, tb1 3 (by decide +kernel) rfl, tb3 14 (by decide +kernel) rfl, by decide +kernel, by decide +kernel, by decide +kernel, by decide⟩
theorem cw_X1_91 : CW RX1 91 2 mX2_heart := ⟨tb2 50 (by decide +kernel) rfl, tb2 43 (by decide +kernel) rfl, tb2 44 (by decide +kernel) rfl, tb1 2 (by decide +kernel) rfl, tb2 45 (by decide +kernel) rfl, by decide +kernel, by decide +kernel, by decide +kernel, by decide⟩
theorem cw_X1_95 : CW RX1 95 1 mX1_load := ⟨tb3 32 (by decide +kernel) rfl, tb2 63 (by decide +kernel) rfl, tb2 64 (by decide +kernel) rfl, tb1 3 (by decide +kernel) rfl, tb2 65 (by decide +kernel) rfl, by decide +kernel, by decide +kernel, by decide +kernel, by decide⟩
theorem cw_X1_98 : CW RX1 98 1 mX1_strength := ⟨tb3 33 (by decide +kernel) rfl, tb2 47 (by decide +kernel) rfl, tb2 48 (by decide +kernel) rfl, tb1 3 (by decide +kernel) rfl, tb2 49 (by decide +kernel) rfl, by decide +kernel, by decide +kernel, by decide +kernel, by decide⟩
theorem cw_X1_101 : CW RX1 101 0 mX1_breaking := ⟨tb3 28 (by decide +kernel) rfl, tb3 29 (by decide +kernel) rfl, tb3 30 (by decide +kernel) rfl, tb1 3 (by decide +kernel) rfl, tb3 31 (by decide +kernel) rfl, by decide +kernel, by decide +kernel, by decide +kernel, by decide⟩
theorem cw_X1_108 : CW RX1 108 0 mX1_miles := ⟨tb3 36 (by decide +kernel) rfl, tb3 16 (by decide +kernel) rfl, tb3 17 (by decide +kernel) rfl, tb1 3 (by decide +kernel) rfl, tb3 18 (by decide +kernel) rfl, by decide +kernel, by decide +kernel, by decide +kernel, by decide⟩
theorem cw_X1_111 : CW RX1 111 0 mX1_dayGoes := ⟨tb3 72 (by decide +kernel) rfl, tb3 25 (by decide +kernel) rfl, tb3 26 (by decide +kernel) rfl, tb1 3 (by decide +kernel) rfl, tb3 27 (by decide +kernel) rfl, by decide +kernel, by decide +kernel, by decide +kernel, by decide⟩
theorem cw_X2_22 : CW RX2 22 0 mX2_becomeCalm := ⟨tb1 30 (by decide +kernel) rfl, tb1 31 (by decide +kernel) rfl, tb1 32 (by decide +kernel) rfl, tb1 2 (by decide +kernel) rfl, tb1 33 (by decide +kernel) rfl, by decide +kernel, by decide +kernel, by decide +kernel, by decide⟩
theorem cw_X5_21 : CW RX5 21 0 mX2_becomeCalm := ⟨tb2 107 (by decide +kernel) rfl, tb1 31 (by decide +kernel) rfl, tb1 32 (by decide +kernel) rfl, tb1 2 (by decide +kernel) rfl, tb1 33 (by decide +kernel) rfl, by decide +kernel, by decide +kernel, by decide +kernel, by decide⟩
theorem cw_X5_29 : CW RX5 29 0 mX5_readsClause := ⟨tb2 108 (by decide +kernel) rfl, tb2 110 (by decide +kernel) rfl, tbl_sel 0 (q := (yX5_readsClause, 4)) (by decide +kernel), tb1 5 (by decide +kernel) rfl, tb2 111 (by decide +kernel) rfl, by decide +kernel, by decide +kernel, by decide +kernel, by decide⟩
theorem cw_X5_33 : CW RX5 33 1 mX5_takes := ⟨tb2 158 (by decide +kernel) rfl, tb2 160 (by decide +kernel) rfl, tbl_sel 2 (q := (yX5_takes, 4)) (by decide +kernel), tb1 5 (by decide +kernel) rfl, tb2 161 (by decide +kernel) rfl, by decide +kernel, by decide +kernel, by decide +kernel, by decide⟩
theorem cw_X5_37 : CW RX5 37 0 mX5_takesWord := ⟨tb2 112 (by decide +kernel) rfl, tb2 114 (by decide +kernel) rfl, tbl_sel 1 (q := (yX5_takesWord, 4)) (by decide +kernel), tb1 5 (by decide +kernel) rfl, tb2 115 (by decide +kernel) rfl, by decide +kernel, by decide +kernel, by decide +kernel, by decide⟩
theorem cw_X5_41 : CW RX5 41 0 mX5_takesNumber := ⟨tb2 162 (by decide +kernel) rfl, tb2 164 (by decide +kernel) rfl, tbl_sel 3 (q := (yX5_takesNumber, 4)) (by decide +kernel), tb1 5 (by decide +kernel) rfl, tb2 165 (by decide +kernel) rfl, by decide +kernel, by decide +kernel, by decide +kernel, by decide⟩
theorem cw_X5_50 : CW RX5 50 1 mX5_readsAny := ⟨tb2 166 (by decide +kernel) rfl, tb2 168 (by decide +kernel) rfl, tbl_sel 4 (q := (yX5_readsAny, 4)) (by decide +kernel), tb1 5 (by decide +kernel) rfl, tb2 169 (by decide +kernel) rfl, by decide +kernel, by decide +kernel, by decide +kernel, by decide⟩
theorem cw_X5_53 : CW RX5 53 3 mX2_add := ⟨tb2 178 (by decide +kernel) rfl, tb2 179 (by decide +kernel) rfl, tb2 180 (by decide +kernel) rfl, tb1 2 (by decide +kernel) rfl, tb2 181 (by decide +kernel) rfl, by decide +kernel, by decide +kernel, by decide +kernel, by decide⟩
theorem cw_X5_57 : CW RX5 57 1 mX5_readsAll := ⟨tb2 170 (by decide +kernel) rfl, tb2 172 (by decide +kernel) rfl, tbl_sel 5 (q := (yX5_readsAll, 4)) (by decide +kernel), tb1 5 (by decide +kernel) rfl, tb2 173 (by decide +kernel) rfl, by decide +kernel, by decide +kernel, by decide +kernel, by decide⟩
theorem cw_X5_60 : CW RX5 60 1 mX5_readsOne := ⟨tb2 174 (by decide +kernel) rfl, tb2 176 (by decide +kernel) rfl, tbl_sel 6 (q := (yX5_readsOne, 4)) (by decide +kernel), tb1 5 (by decide +kernel) rfl, tb2 177 (by decide +kernel) rfl, by decide +kernel, by decide +kernel, by decide +kernel, by decide⟩
theorem cs_X6_78 : CSt RX6 78 3 mX6_within := ⟨tb2 27 (by decide +kernel) rfl, tb2 28 (by decide +kernel) rfl, tb1 1 (by decide +kernel) rfl, tb2 29 (by decide +kernel) rfl, by decide +kernel, by decide +kernel, by decide +kernel, by decide⟩
theorem cs_X6_237 : CSt RX6 237 3 mX6_inLowestTerms := ⟨tb3 133 (by decide +kernel) rfl, tb3 134 (by decide +kernel) rfl, tb1 1 (by decide +kernel) rfl, tb3 135 (by decide +kernel) rfl, by decide +kernel, by decide +kernel, by decide +kernel, by decide⟩
theorem cw_X6_86 : CW RX6 86 3 mX1_take := ⟨tb2 30 (by decide +kernel) rfl, tb2 31 (by decide +kernel) rfl, tb2 32 (by decide +kernel) rfl, tb1 3 (by decide +kernel) rfl, tb2 33 (by decide +kernel) rfl, by decide +kernel, by decide +kernel, by decide +kernel, by decide⟩
theorem cw_X6_90 : CW RX6 90 1 mX1_has := ⟨tb2 38 (by decide +kernel) rfl, tb2 39 (by decide +kernel) rfl, tb2 40 (by decide +kernel) rfl, tb1 3 (by decide +kernel) rfl, tb2 41 (by decide +kernel) rfl, by decide +kernel, by decide +kernel, by decide +kernel, by decide⟩
theorem cw_X6_114 : CW RX6 114 2 mX2_heart := ⟨tb2 42 (by decide +kernel) rfl, tb2 43 (by decide +kernel) rfl, tb2 44 (by decide +kernel) rfl, tb1 2 (by decide +kernel) rfl, tb2 45 (by decide +kernel) rfl, by decide +kernel, by decide +kernel, by decide +kernel, by decide⟩
theorem cw_X6_118 : CW RX6 118 1 mX1_strength := ⟨tb2 46 (by decide +kernel) rfl, tb2 47 (by decide +kernel) rfl, tb2 48 (by decide +kernel) rfl, tb1 3 (by decide +kernel) rfl, tb2 49 (by decide +kernel) rfl, by decide +kernel, by decide +kernel, by decide +kernel, by decide⟩
theorem cw_X6_122 : CW RX6 122 1 mX1_placeOf := ⟨tb2 54 (by decide +kernel) rfl, tb2 55 (by decide +kernel) rfl, tb2 56 (by decide +kernel) rfl, tb1 3 (by decide +kernel) rfl, tb2 57 (by decide +kernel) rfl, by decide +kernel, by decide +kernel, by decide +kernel, by decide⟩
theorem cw_X6_125 : CW RX6 125 1 mX1_above := ⟨tb2 58 (by decide +kernel) rfl, tb2 59 (by decide +kernel) rfl, tb2 60 (by decide +kernel) rfl, tb1 3 (by decide +kernel) rfl, tb2 61 (by decide +kernel) rfl, by decide +kernel, by decide +kernel, by decide +kernel, by decide⟩
theorem cw_X6_128 : CW RX6 128 1 mX1_load := ⟨tb2 62 (by decide +kernel) rfl, tb2 63 (by decide +kernel) rfl, tb2 64 (by decide +kernel) rfl, tb1 3 (by decide +kernel) rfl, tb2 65 (by decide +kernel) rfl, by decide +kernel, by decide +kernel, by decide +kernel, by decide⟩
theorem cw_X6_137 : CW RX6 137 1 mX1_putUpon := ⟨tb2 79 (by decide +kernel) rfl, tb2 80 (by decide +kernel) rfl, tb2 81 (by decide +kernel) rfl, tb1 3 (by decide +kernel) rfl, tb2 82 (by decide +kernel) rfl, by decide +kernel, by decide +kernel, by decide +kernel, by decide⟩
theorem cw_X6_146 : CW RX6 146 1 mX5_add := ⟨tb2 95 (by decide +kernel) rfl, tb2 96 (by decide +kernel) rfl, tb2 97 (by decide +kernel) rfl, tb1 5 (by decide +kernel) rfl, tb2 98 (by decide +kernel) rfl, by decide +kernel, by decide +kernel, by decide +kernel, by decide⟩
theorem cw_X6_156 : CW RX6 156 1 mX5_readInto := ⟨tb2 103 (by decide +kernel) rfl, tb2 104 (by decide +kernel) rfl, tb2 105 (by decide +kernel) rfl, tb1 5 (by decide +kernel) rfl, tb2 106 (by decide +kernel) rfl, by decide +kernel, by decide +kernel, by decide +kernel, by decide⟩
theorem cw_X6_172 : CW RX6 172 0 mX1_height := ⟨tb3 11 (by decide +kernel) rfl, tb3 12 (by decide +kernel) rfl, tb3 13 (by decide +kernel) rfl, tb1 3 (by decide +kernel) rfl, tb3 14 (by decide +kernel) rfl, by decide +kernel, by decide +kernel, by decide +kernel, by decide⟩
theorem cw_X6_176 : CW RX6 176 0 mX1_miles := ⟨tb3 15 (by decide +kernel) rfl, tb3 16 (by decide +kernel) rfl, tb3 17 (by decide +kernel) rfl, tb1 3 (by decide +kernel) rfl, tb3 18 (by decide +kernel) rfl, by decide +kernel, by decide +kernel, by decide +kernel, by decide⟩
theorem cw_X6_182 : CW RX6 182 0 mX1_dayGoes := ⟨tb3 24 (by decide +kernel) rfl, tb3 25 (by decide +kernel) rfl, tb3 26 (by decide +kernel) rfl, tb1 3 (by decide +kernel) rfl, tb3 27 (by decide +kernel) rfl, by decide +kernel, by decide +kernel, by decide +kernel, by decide⟩
theorem cw_X6_185 : CW RX6 185 1 mX1_startFrom := ⟨tb3 41 (by decide +kernel) rfl, tb3 42 (by decide +kernel) rfl, tb3 43 (by decide +kernel) rfl, tb1 3 (by decide +kernel) rfl, tb3 44 (by decide +kernel) rfl, by decide +kernel, by decide +kernel, by decide +kernel, by decide⟩
theorem cw_X6_189 : CW RX6 189 1 mX1_nothingBreaksIn := ⟨tb3 68 (by decide +kernel) rfl, tb3 69 (by decide +kernel) rfl, tb3 70 (by decide +kernel) rfl, tb1 3 (by decide +kernel) rfl, tb3 71 (by decide +kernel) rfl, by decide +kernel, by decide +kernel, by decide +kernel, by decide⟩
theorem cw_X6_192 : CW RX6 192 1 mX6_bestRow := ⟨tb3 77 (by decide +kernel) rfl, tb3 79 (by decide +kernel) rfl, tbl_sel 7 (q := (yX6_bestRow, 15)) (by decide +kernel), tb1 1 (by decide +kernel) rfl, tb3 80 (by decide +kernel) rfl, by decide +kernel, by decide +kernel, by decide +kernel, by decide⟩
theorem cw_X6_195 : CW RX6 195 2 mX6_worth := ⟨tb3 81 (by decide +kernel) rfl, tb3 83 (by decide +kernel) rfl, tbl_sel 8 (q := (yX6_worth, 15)) (by decide +kernel), tb1 1 (by decide +kernel) rfl, tb3 84 (by decide +kernel) rfl, by decide +kernel, by decide +kernel, by decide +kernel, by decide⟩
theorem cw_X6_199 : CW RX6 199 1 mX1_lashRow := ⟨tb3 85 (by decide +kernel) rfl, tb3 86 (by decide +kernel) rfl, tb3 87 (by decide +kernel) rfl, tb1 3 (by decide +kernel) rfl, tb3 88 (by decide +kernel) rfl, by decide +kernel, by decide +kernel, by decide +kernel, by decide⟩
theorem cw_X6_202 : CW RX6 202 0 mX1_breaking := ⟨tb3 89 (by decide +kernel) rfl, tb3 29 (by decide +kernel) rfl, tb3 30 (by decide +kernel) rfl, tb1 3 (by decide +kernel) rfl, tb3 31 (by decide +kernel) rfl, by decide +kernel, by decide +kernel, by decide +kernel, by decide⟩
theorem cw_X6_205 : CW RX6 205 1 mX1_standsOfTheSame := ⟨tb3 90 (by decide +kernel) rfl, tb3 91 (by decide +kernel) rfl, tb3 92 (by decide +kernel) rfl, tb1 3 (by decide +kernel) rfl, tb3 93 (by decide +kernel) rfl, by decide +kernel, by decide +kernel, by decide +kernel, by decide⟩
theorem cw_X6_209 : CW RX6 209 0 mX3_clear := ⟨tb3 103 (by decide +kernel) rfl, tb3 104 (by decide +kernel) rfl, tb3 105 (by decide +kernel) rfl, tb1 4 (by decide +kernel) rfl, tb3 106 (by decide +kernel) rfl, by decide +kernel, by decide +kernel, by decide +kernel, by decide⟩
theorem cw_X6_212 : CW RX6 212 2 mX3_add := ⟨tb3 107 (by decide +kernel) rfl, tb3 108 (by decide +kernel) rfl, tb3 109 (by decide +kernel) rfl, tb1 4 (by decide +kernel) rfl, tb3 110 (by decide +kernel) rfl, by decide +kernel, by decide +kernel, by decide +kernel, by decide⟩
theorem cw_X6_216 : CW RX6 216 4 mX6_fitting := ⟨tb3 115 (by decide +kernel) rfl, tb3 117 (by decide +kernel) rfl, tbl_sel 9 (q := (yX6_fitting, 15)) (by decide +kernel), tb1 1 (by decide +kernel) rfl, tb3 118 (by decide +kernel) rfl, by decide +kernel, by decide +kernel, by decide +kernel, by decide⟩
theorem cw_X6_220 : CW RX6 220 0 mX6_seenIsSo := ⟨tb3 119 (by decide +kernel) rfl, tb3 121 (by decide +kernel) rfl, tbl_sel 10 (q := (yX6_seenIsSo, 15)) (by decide +kernel), tb1 1 (by decide +kernel) rfl, tb3 122 (by decide +kernel) rfl, by decide +kernel, by decide +kernel, by decide +kernel, by decide⟩
theorem cw_X6_241 : CW RX6 241 2 mX6_followPlan := ⟨tb3 148 (by decide +kernel) rfl, tb3 150 (by decide +kernel) rfl, tbl_sel 11 (q := (yX6_followPlan, 15)) (by decide +kernel), tb1 1 (by decide +kernel) rfl, tb3 151 (by decide +kernel) rfl, by decide +kernel, by decide +kernel, by decide +kernel, by decide⟩
theorem cw_X6_253 : CW RX6 253 1 mX1_copyFrom := ⟨tb3 168 (by decide +kernel) rfl, tb3 46 (by decide +kernel) rfl, tb3 47 (by decide +kernel) rfl, tb1 3 (by decide +kernel) rfl, tb3 48 (by decide +kernel) rfl, by decide +kernel, by decide +kernel, by decide +kernel, by decide⟩
theorem cw_X6_256 : CW RX6 256 1 mX3_copyFrom := ⟨tb3 169 (by decide +kernel) rfl, tb3 170 (by decide +kernel) rfl, tb3 171 (by decide +kernel) rfl, tb1 4 (by decide +kernel) rfl, tb3 172 (by decide +kernel) rfl, by decide +kernel, by decide +kernel, by decide +kernel, by decide⟩
theorem cw_X6_266 : CW RX6 266 5 mX0_start := ⟨tb3 183 (by decide +kernel) rfl, tb3 184 (by decide +kernel) rfl, tb3 185 (by decide +kernel) rfl, tb1 6 (by decide +kernel) rfl, tb3 186 (by decide +kernel) rfl, by decide +kernel, by decide +kernel, by decide +kernel, by decide⟩
theorem cw_X6_276 : CW RX6 276 2 mX4_become := ⟨tb3 215 (by decide +kernel) rfl, tb3 216 (by decide +kernel) rfl, tb3 217 (by decide +kernel) rfl, tb1 7 (by decide +kernel) rfl, tb3 218 (by decide +kernel) rfl, by decide +kernel, by decide +kernel, by decide +kernel, by decide⟩
theorem cw_X6_279 : CW RX6 279 1 mX4_cut := ⟨tb3 223 (by decide +kernel) rfl, tb3 224 (by decide +kernel) rfl, tb3 225 (by decide +kernel) rfl, tb1 7 (by decide +kernel) rfl, tb3 226 (by decide +kernel) rfl, by decide +kernel, by decide +kernel, by decide +kernel, by decide⟩
theorem cw_X7_276 : CW RX7 276 3 mX7_in := ⟨tb5 30 (by decide +kernel) rfl, tb5 32 (by decide +kernel) rfl, tbl_sel 13 (q := (yX7_in, 87)) (by decide +kernel), tb1 8 (by decide +kernel) rfl, tb5 33 (by decide +kernel) rfl, by decide +kernel, by decide +kernel, by decide +kernel, by decide⟩
theorem cw_X7_280 : CW RX7 280 1 mX7_isPiece := ⟨tb5 38 (by decide +kernel) rfl, tb5 40 (by decide +kernel) rfl, tbl_sel 14 (q := (yX7_isPiece, 87)) (by decide +kernel), tb1 8 (by decide +kernel) rfl, tb5 41 (by decide +kernel) rfl, by decide +kernel, by decide +kernel, by decide +kernel, by decide⟩
theorem cw_X7_284 : CW RX7 284 1 mX7_isFeet := ⟨tb5 42 (by decide +kernel) rfl, tb5 44 (by decide +kernel) rfl, tbl_sel 15 (q := (yX7_isFeet, 87)) (by decide +kernel), tb1 8 (by decide +kernel) rfl, tb5 45 (by decide +kernel) rfl, by decide +kernel, by decide +kernel, by decide +kernel, by decide⟩
theorem cw_X7_287 : CW RX7 287 1 mX7_placeOf := ⟨tb5 54 (by decide +kernel) rfl, tb5 56 (by decide +kernel) rfl, tbl_sel 16 (q := (yX7_placeOf, 87)) (by decide +kernel), tb1 8 (by decide +kernel) rfl, tb5 57 (by decide +kernel) rfl, by decide +kernel, by decide +kernel, by decide +kernel, by decide⟩
theorem cw_X7_291 : CW RX7 291 1 mX7_hoists := ⟨tb5 58 (by decide +kernel) rfl, tb5 60 (by decide +kernel) rfl, tbl_sel 17 (q := (yX7_hoists, 87)) (by decide +kernel), tb1 8 (by decide +kernel) rfl, tb5 61 (by decide +kernel) rfl, by decide +kernel, by decide +kernel, by decide +kernel, by decide⟩
theorem cw_X7_295 : CW RX7 295 1 mX7_isTrim := ⟨tb5 70 (by decide +kernel) rfl, tb5 72 (by decide +kernel) rfl, tbl_sel 18 (q := (yX7_isTrim, 87)) (by decide +kernel), tb1 8 (by decide +kernel) rfl, tb5 73 (by decide +kernel) rfl, by decide +kernel, by decide +kernel, by decide +kernel, by decide⟩
theorem cw_X7_298 : CW RX7 298 0 mX7_next := ⟨tb5 94 (by decide +kernel) rfl, tb5 96 (by decide +kernel) rfl, tbl_sel 22 (q := (yX7_next, 87)) (by decide +kernel), tb1 8 (by decide +kernel) rfl, tb5 97 (by decide +kernel) rfl, by decide +kernel, by decide +kernel, by decide +kernel, by decide⟩
theorem cw_X7_302 : CW RX7 302 1 mX7_takes := ⟨tb5 102 (by decide +kernel) rfl, tb5 104 (by decide +kernel) rfl, tbl_sel 24 (q := (yX7_takes, 87)) (by decide +kernel), tb1 8 (by decide +kernel) rfl, tb5 105 (by decide +kernel) rfl, by decide +kernel, by decide +kernel, by decide +kernel, by decide⟩
theorem cw_X7_305 : CW RX7 305 0 mX7_isDigit := ⟨tb5 114 (by decide +kernel) rfl, tb5 116 (by decide +kernel) rfl, tbl_sel 27 (q := (yX7_isDigit, 87)) (by decide +kernel), tb1 8 (by decide +kernel) rfl, tb5 117 (by decide +kernel) rfl, by decide +kernel, by decide +kernel, by decide +kernel, by decide⟩
theorem cw_X7_309 : CW RX7 309 1 mX7_emits := ⟨tb5 130 (by decide +kernel) rfl, tb5 132 (by decide +kernel) rfl, tbl_sel 31 (q := (yX7_emits, 87)) (by decide +kernel), tb1 8 (by decide +kernel) rfl, tb5 133 (by decide +kernel) rfl, by decide +kernel, by decide +kernel, by decide +kernel, by decide⟩
theorem cw_X7_312 : CW RX7 312 1 mX7_place := ⟨tb5 126 (by decide +kernel) rfl, tb5 128 (by decide +kernel) rfl, tbl_sel 30 (q := (yX7_place, 87)) (by decide +kernel), tb1 8 (by decide +kernel) rfl, tb5 129 (by decide +kernel) rfl, by decide +kernel, by decide +kernel, by decide +kernel, by decide⟩
theorem cw_X7_315 : CW RX7 315 0 mX7_takesNumber := ⟨tb5 110 (by decide +kernel) rfl, tb5 112 (by decide +kernel) rfl, tbl_sel 26 (q := (yX7_takesNumber, 87)) (by decide +kernel), tb1 8 (by decide +kernel) rfl, tb5 113 (by decide +kernel) rfl, by decide +kernel, by decide +kernel, by decide +kernel, by decide⟩
theorem cw_X7_318 : CW RX7 318 0 mX7_whole := ⟨tb5 134 (by decide +kernel) rfl, tb5 136 (by decide +kernel) rfl, tbl_sel 32 (q := (yX7_whole, 87)) (by decide +kernel), tb1 8 (by decide +kernel) rfl, tb5 137 (by decide +kernel) rfl, by decide +kernel, by decide +kernel, by decide +kernel, by decide⟩
theorem cw_X7_321 : CW RX7 321 0 mX7_takesTest := ⟨tb5 122 (by decide +kernel) rfl, tb5 124 (by decide +kernel) rfl, tbl_sel 29 (q := (yX7_takesTest, 87)) (by decide +kernel), tb1 8 (by decide +kernel) rfl, tb5 125 (by decide +kernel) rfl, by decide +kernel, by decide +kernel, by decide +kernel, by decide⟩
theorem cw_X7_324 : CW RX7 324 1 mX7_settle := ⟨tb5 138 (by decide +kernel) rfl, tb5 140 (by decide +kernel) rfl, tbl_sel 33 (q := (yX7_settle, 87)) (by decide +kernel), tb1 8 (by decide +kernel) rfl, tb5 141 (by decide +kernel) rfl, by decide +kernel, by decide +kernel, by decide +kernel, by decide⟩
theorem cw_X7_327 : CW RX7 327 2 mX7_takesWord := ⟨tb5 98 (by decide +kernel) rfl, tb5 100 (by decide +kernel) rfl, tbl_sel 23 (q := (yX7_takesWord, 87)) (by decide +kernel), tb1 8 (by decide +kernel) rfl, tb5 101 (by decide +kernel) rfl, by decide +kernel, by decide +kernel, by decide +kernel, by decide⟩
theorem cw_X7_331 : CW RX7 331 0 mX7_second := ⟨tb5 106 (by decide +kernel) rfl, tb5 108 (by decide +kernel) rfl, tbl_sel 25 (q := (yX7_second, 87)) (by decide +kernel), tb1 8 (by decide +kernel) rfl, tb5 109 (by decide +kernel) rfl, by decide +kernel, by decide +kernel, by decide +kernel, by decide⟩
theorem cw_X7_334 : CW RX7 334 1 mX7_takesHead := ⟨tb5 90 (by decide +kernel) rfl, tb5 92 (by decide +kernel) rfl, tbl_sel 21 (q := (yX7_takesHead, 87)) (by decide +kernel), tb1 8 (by decide +kernel) rfl, tb5 93 (by decide +kernel) rfl, by decide +kernel, by decide +kernel, by decide +kernel, by decide⟩
theorem cw_X7_337 : CW RX7 337 1 mX7_takesE := ⟨tb5 118 (by decide +kernel) rfl, tb5 120 (by decide +kernel) rfl, tbl_sel 28 (q := (yX7_takesE, 87)) (by decide +kernel), tb1 8 (by decide +kernel) rfl, tb5 121 (by decide +kernel) rfl, by decide +kernel, by decide +kernel, by decide +kernel, by decide⟩
theorem cw_X7_340 : CW RX7 340 1 mX7_takesClause := ⟨tb5 86 (by decide +kernel) rfl, tb5 88 (by decide +kernel) rfl, tbl_sel 20 (q := (yX7_takesClause, 87)) (by decide +kernel), tb1 8 (by decide +kernel) rfl, tb5 89 (by decide +kernel) rfl, by decide +kernel, by decide +kernel, by decide +kernel, by decide⟩
theorem cw_X7_343 : CW RX7 343 1 mX7_goesText := ⟨tb5 82 (by decide +kernel) rfl, tb5 84 (by decide +kernel) rfl, tbl_sel 19 (q := (yX7_goesText, 87)) (by decide +kernel), tb1 8 (by decide +kernel) rfl, tb5 85 (by decide +kernel) rfl, by decide +kernel, by decide +kernel, by decide +kernel, by decide⟩
theorem cw_X7_346 : CW RX7 346 0 mX7_begin := ⟨tb5 150 (by decide +kernel) rfl, tb5 152 (by decide +kernel) rfl, tbl_sel 35 (q := (yX7_begin, 87)) (by decide +kernel), tb1 8 (by decide +kernel) rfl, tb5 153 (by decide +kernel) rfl, by decide +kernel, by decide +kernel, by decide +kernel, by decide⟩
theorem cw_X7_349 : CW RX7 349 0 mX7_behind := ⟨tb5 154 (by decide +kernel) rfl, tb5 156 (by decide +kernel) rfl, tbl_sel 36 (q := (yX7_behind, 87)) (by decide +kernel), tb1 8 (by decide +kernel) rfl, tb5 157 (by decide +kernel) rfl, by decide +kernel, by decide +kernel, by decide +kernel, by decide⟩
theorem cw_X7_352 : CW RX7 352 2 mX7_factOf := ⟨tb5 162 (by decide +kernel) rfl, tb5 164 (by decide +kernel) rfl, tbl_sel 38 (q := (yX7_factOf, 87)) (by decide +kernel), tb1 8 (by decide +kernel) rfl, tb5 165 (by decide +kernel) rfl, by decide +kernel, by decide +kernel, by decide +kernel, by decide⟩
theorem cw_X7_356 : CW RX7 356 2 mX7_holds := ⟨tb5 158 (by decide +kernel) rfl, tb5 160 (by decide +kernel) rfl, tbl_sel 37 (q := (yX7_holds, 87)) (by decide +kernel), tb1 8 (by decide +kernel) rfl, tb5 161 (by decide +kernel) rfl, by decide +kernel, by decide +kernel, by decide +kernel, by decide⟩
theorem cw_X7_359 : CW RX7 359 1 mX7_heart := ⟨tb5 146 (by decide +kernel) rfl, tb5 148 (by decide +kernel) rfl, tbl_sel 34 (q := (yX7_heart, 87)) (by decide +kernel), tb1 8 (by decide +kernel) rfl, tb5 149 (by decide +kernel) rfl, by decide +kernel, by decide +kernel, by decide +kernel, by decide⟩
theorem cw_X7_362 : CW RX7 362 1 mX7_least0 := ⟨tb5 170 (by decide +kernel) rfl, tb5 172 (by decide +kernel) rfl, tbl_sel 40 (q := (yX7_least0, 87)) (by decide +kernel), tb1 8 (by decide +kernel) rfl, tb5 173 (by decide +kernel) rfl, by decide +kernel, by decide +kernel, by decide +kernel, by decide⟩
theorem cw_X7_365 : CW RX7 365 2 mX7_lastOf := ⟨tb5 178 (by decide +kernel) rfl, tb5 180 (by decide +kernel) rfl, tbl_sel 42 (q := (yX7_lastOf, 87)) (by decide +kernel), tb1 8 (by decide +kernel) rfl, tb5 181 (by decide +kernel) rfl, by decide +kernel, by decide +kernel, by decide +kernel, by decide⟩
theorem cw_X7_368 : CW RX7 368 1 mX7_above := ⟨tb5 174 (by decide +kernel) rfl, tb5 176 (by decide +kernel) rfl, tbl_sel 41 (q := (yX7_above, 87)) (by decide +kernel), tb1 8 (by decide +kernel) rfl, tb5 177 (by decide +kernel) rfl, by decide +kernel, by decide +kernel, by decide +kernel, by decide⟩
theorem cw_X7_371 : CW RX7 371 0 mX7_height := ⟨tb5 190 (by decide +kernel) rfl, tb5 192 (by decide +kernel) rfl, tbl_sel 44 (q := (yX7_height, 87)) (by decide +kernel), tb1 8 (by decide +kernel) rfl, tb5 193 (by decide +kernel) rfl, by decide +kernel, by decide +kernel, by decide +kernel, by decide⟩
theorem cw_X7_374 : CW RX7 374 1 mX7_strength := ⟨tb5 166 (by decide +kernel) rfl, tb5 168 (by decide +kernel) rfl, tbl_sel 39 (q := (yX7_strength, 87)) (by decide +kernel), tb1 8 (by decide +kernel) rfl, tb5 169 (by decide +kernel) rfl, by decide +kernel, by decide +kernel, by decide +kernel, by decide⟩
theorem cw_X7_377 : CW RX7 377 1 mX7_load := ⟨tb5 182 (by decide +kernel) rfl, tb5 184 (by decide +kernel) rfl, tbl_sel 43 (q := (yX7_load, 87)) (by decide +kernel), tb1 8 (by decide +kernel) rfl, tb5 185 (by decide +kernel) rfl, by decide +kernel, by decide +kernel, by decide +kernel, by decide⟩
theorem cw_X7_380 : CW RX7 380 0 mX7_milesNow := ⟨tb5 194 (by decide +kernel) rfl, tb5 196 (by decide +kernel) rfl, tbl_sel 45 (q := (yX7_milesNow, 87)) (by decide +kernel), tb1 8 (by decide +kernel) rfl, tb5 197 (by decide +kernel) rfl, by decide +kernel, by decide +kernel, by decide +kernel, by decide⟩
theorem cw_X7_383 : CW RX7 383 2 mX7_least := ⟨tb5 222 (by decide +kernel) rfl, tb5 224 (by decide +kernel) rfl, tbl_sel 51 (q := (yX7_least, 87)) (by decide +kernel), tb1 8 (by decide +kernel) rfl, tb5 225 (by decide +kernel) rfl, by decide +kernel, by decide +kernel, by decide +kernel, by decide⟩
theorem cw_X7_386 : CW RX7 386 0 mX7_breaksAt := ⟨tb5 214 (by decide +kernel) rfl, tb5 216 (by decide +kernel) rfl, tbl_sel 49 (q := (yX7_breaksAt, 87)) (by decide +kernel), tb1 8 (by decide +kernel) rfl, tb5 217 (by decide +kernel) rfl, by decide +kernel, by decide +kernel, by decide +kernel, by decide⟩
theorem cw_X7_389 : CW RX7 389 0 mX7_goWear := ⟨tb5 218 (by decide +kernel) rfl, tb5 220 (by decide +kernel) rfl, tbl_sel 50 (q := (yX7_goWear, 87)) (by decide +kernel), tb1 8 (by decide +kernel) rfl, tb5 221 (by decide +kernel) rfl, by decide +kernel, by decide +kernel, by decide +kernel, by decide⟩
theorem cw_X7_392 : CW RX7 392 0 mX7_goDay := ⟨tb5 210 (by decide +kernel) rfl, tb5 212 (by decide +kernel) rfl, tbl_sel 48 (q := (yX7_goDay, 87)) (by decide +kernel), tb1 8 (by decide +kernel) rfl, tb5 213 (by decide +kernel) rfl, by decide +kernel, by decide +kernel, by decide +kernel, by decide⟩
theorem cw_X7_395 : CW RX7 395 1 mX7_isDays := ⟨tb5 202 (by decide +kernel) rfl, tb5 204 (by decide +kernel) rfl, tbl_sel 46 (q := (yX7_isDays, 87)) (by decide +kernel), tb1 8 (by decide +kernel) rfl, tb5 205 (by decide +kernel) rfl, by decide +kernel, by decide +kernel, by decide +kernel, by decide⟩
theorem cw_X7_398 : CW RX7 398 1 mX7_goDays := ⟨tb5 206 (by decide +kernel) rfl, tb5 208 (by decide +kernel) rfl, tbl_sel 47 (q := (yX7_goDays, 87)) (by decide +kernel), tb1 8 (by decide +kernel) rfl, tb5 209 (by decide +kernel) rfl, by decide +kernel, by decide +kernel, by decide +kernel, by decide⟩
theorem cw_X7_402 : CW RX7 402 0 mX7_save := ⟨tb5 230 (by decide +kernel) rfl, tb5 232 (by decide +kernel) rfl, tbl_sel 52 (q := (yX7_save, 87)) (by decide +kernel), tb1 8 (by decide +kernel) rfl, tb5 233 (by decide +kernel) rfl, by decide +kernel, by decide +kernel, by decide +kernel, by decide⟩
theorem cw_X7_405 : CW RX7 405 0 mX7_putBack := ⟨tb5 235 (by decide +kernel) rfl, tb5 237 (by decide +kernel) rfl, tbl_sel 53 (q := (yX7_putBack, 87)) (by decide +kernel), tb1 8 (by decide +kernel) rfl, tb5 238 (by decide +kernel) rfl, by decide +kernel, by decide +kernel, by decide +kernel, by decide⟩
theorem cw_X7_408 : CW RX7 408 1 mX7_firstThen := ⟨tb6 3 (by decide +kernel) rfl, tb6 5 (by decide +kernel) rfl, tbl_sel 54 (q := (yX7_firstThen, 87)) (by decide +kernel), tb1 8 (by decide +kernel) rfl, tb6 6 (by decide +kernel) rfl, by decide +kernel, by decide +kernel, by decide +kernel, by decide⟩
theorem cw_X7_411 : CW RX7 411 1 mX7_wentThen := ⟨tb6 15 (by decide +kernel) rfl, tb6 17 (by decide +kernel) rfl, tbl_sel 55 (q := (yX7_wentThen, 87)) (by decide +kernel), tb1 8 (by decide +kernel) rfl, tb6 18 (by decide +kernel) rfl, by decide +kernel, by decide +kernel, by decide +kernel, by decide⟩
theorem cw_X7_414 : CW RX7 414 5 mX7_tries := ⟨tb6 31 (by decide +kernel) rfl, tb6 33 (by decide +kernel) rfl, tbl_sel 57 (q := (yX7_tries, 87)) (by decide +kernel), tb1 8 (by decide +kernel) rfl, tb6 34 (by decide +kernel) rfl, by decide +kernel, by decide +kernel, by decide +kernel, by decide⟩
theorem cw_X7_418 : CW RX7 418 1 mX7_layBest := ⟨tb6 27 (by decide +kernel) rfl, tb6 29 (by decide +kernel) rfl, tbl_sel 56 (q := (yX7_layBest, 87)) (by decide +kernel), tb1 8 (by decide +kernel) rfl, tb6 30 (by decide +kernel) rfl, by decide +kernel, by decide +kernel, by decide +kernel, by decide⟩
theorem cw_X7_421 : CW RX7 421 1 mX7_layOrder := ⟨tb6 39 (by decide +kernel) rfl, tb6 41 (by decide +kernel) rfl, tbl_sel 58 (q := (yX7_layOrder, 87)) (by decide +kernel), tb1 8 (by decide +kernel) rfl, tb6 42 (by decide +kernel) rfl, by decide +kernel, by decide +kernel, by decide +kernel, by decide⟩
theorem cw_X7_424 : CW RX7 424 0 mX7_isSeen := ⟨tb6 51 (by decide +kernel) rfl, tb6 53 (by decide +kernel) rfl, tbl_sel 59 (q := (yX7_isSeen, 87)) (by decide +kernel), tb1 8 (by decide +kernel) rfl, tb6 54 (by decide +kernel) rfl, by decide +kernel, by decide +kernel, by decide +kernel, by decide⟩
theorem cw_X7_427 : CW RX7 427 2 mX7_divisor := ⟨tb6 68 (by decide +kernel) rfl, tb6 70 (by decide +kernel) rfl, tbl_sel 61 (q := (yX7_divisor, 87)) (by decide +kernel), tb1 8 (by decide +kernel) rfl, tb6 71 (by decide +kernel) rfl, by decide +kernel, by decide +kernel, by decide +kernel, by decide⟩
theorem cw_X7_432 : CW RX7 432 3 mX7_lowest := ⟨tb6 64 (by decide +kernel) rfl, tb6 66 (by decide +kernel) rfl, tbl_sel 60 (q := (yX7_lowest, 87)) (by decide +kernel), tb1 8 (by decide +kernel) rfl, tb6 67 (by decide +kernel) rfl, by decide +kernel, by decide +kernel, by decide +kernel, by decide⟩
theorem cw_X7_436 : CW RX7 436 2 mX7_goPlan := ⟨tb6 84 (by decide +kernel) rfl, tb6 86 (by decide +kernel) rfl, tbl_sel 62 (q := (yX7_goPlan, 87)) (by decide +kernel), tb1 8 (by decide +kernel) rfl, tb6 87 (by decide +kernel) rfl, by decide +kernel, by decide +kernel, by decide +kernel, by decide⟩
theorem cw_X7_440 : CW RX7 440 1 mX7_isTape := ⟨tb6 100 (by decide +kernel) rfl, tb6 102 (by decide +kernel) rfl, tbl_sel 63 (q := (yX7_isTape, 87)) (by decide +kernel), tb1 8 (by decide +kernel) rfl, tb6 103 (by decide +kernel) rfl, by decide +kernel, by decide +kernel, by decide +kernel, by decide⟩
theorem cw_X7_443 : CW RX7 443 1 mX7_body := ⟨tb6 120 (by decide +kernel) rfl, tb6 122 (by decide +kernel) rfl, tbl_sel 65 (q := (yX7_body, 87)) (by decide +kernel), tb1 8 (by decide +kernel) rfl, tb6 123 (by decide +kernel) rfl, by decide +kernel, by decide +kernel, by decide +kernel, by decide⟩
theorem cw_X7_446 : CW RX7 446 2 mX7_pieceBends := ⟨tb6 124 (by decide +kernel) rfl, tb6 126 (by decide +kernel) rfl, tbl_sel 66 (q := (yX7_pieceBends, 87)) (by decide +kernel), tb1 8 (by decide +kernel) rfl, tb6 127 (by decide +kernel) rfl, by decide +kernel, by decide +kernel, by decide +kernel, by decide⟩
theorem cw_X7_449 : CW RX7 449 2 mX7_bendsAct := ⟨tb6 116 (by decide +kernel) rfl, tb6 118 (by decide +kernel) rfl, tbl_sel 64 (q := (yX7_bendsAct, 87)) (by decide +kernel), tb1 8 (by decide +kernel) rfl, tb6 119 (by decide +kernel) rfl, by decide +kernel, by decide +kernel, by decide +kernel, by decide⟩
theorem cw_X7_452 : CW RX7 452 2 mX7_pieceHolds := ⟨tb6 136 (by decide +kernel) rfl, tb6 138 (by decide +kernel) rfl, tbl_sel 69 (q := (yX7_pieceHolds, 87)) (by decide +kernel), tb1 8 (by decide +kernel) rfl, tb6 139 (by decide +kernel) rfl, by decide +kernel, by decide +kernel, by decide +kernel, by decide⟩
theorem cw_X7_455 : CW RX7 455 2 mX7_oarHolds := ⟨tb6 132 (by decide +kernel) rfl, tb6 134 (by decide +kernel) rfl, tbl_sel 68 (q := (yX7_oarHolds, 87)) (by decide +kernel), tb1 8 (by decide +kernel) rfl, tb6 135 (by decide +kernel) rfl, by decide +kernel, by decide +kernel, by decide +kernel, by decide⟩
theorem cw_X7_458 : CW RX7 458 2 mX7_holdsAct := ⟨tb6 128 (by decide +kernel) rfl, tb6 130 (by decide +kernel) rfl, tbl_sel 67 (q := (yX7_holdsAct, 87)) (by decide +kernel), tb1 8 (by decide +kernel) rfl, tb6 131 (by decide +kernel) rfl, by decide +kernel, by decide +kernel, by decide +kernel, by decide⟩
theorem cw_X7_461 : CW RX7 461 2 mX7_pieceTells := ⟨tb6 144 (by decide +kernel) rfl, tb6 146 (by decide +kernel) rfl, tbl_sel 71 (q := (yX7_pieceTells, 87)) (by decide +kernel), tb1 8 (by decide +kernel) rfl, tb6 147 (by decide +kernel) rfl, by decide +kernel, by decide +kernel, by decide +kernel, by decide⟩
theorem cw_X7_464 : CW RX7 464 2 mX7_tellsAct := ⟨tb6 140 (by decide +kernel) rfl, tb6 142 (by decide +kernel) rfl, tbl_sel 70 (q := (yX7_tellsAct, 87)) (by decide +kernel), tb1 8 (by decide +kernel) rfl, tb6 143 (by decide +kernel) rfl, by decide +kernel, by decide +kernel, by decide +kernel, by decide⟩
theorem cw_X7_467 : CW RX7 467 2 mX7_narrow := ⟨tb6 168 (by decide +kernel) rfl, tb6 170 (by decide +kernel) rfl, tbl_sel 72 (q := (yX7_narrow, 87)) (by decide +kernel), tb1 8 (by decide +kernel) rfl, tb6 171 (by decide +kernel) rfl, by decide +kernel, by decide +kernel, by decide +kernel, by decide⟩
theorem cn_X1_107 : Cond.constant RX1 107 (99999) ∈ TBL := tb3 35 (by decide +kernel) rfl
theorem cn_X6_235 : Cond.constantLong RX6 235 (-9223372036854775808) ∈ TBL := tb3 132 (by decide +kernel) rfl
theorem cn_X7_105 : Cond.constant RX7 105 (99999) ∈ TBL := tb4 2 (by decide +kernel) rfl
theorem cn_X7_401 : Cond.constant RX7 401 (2000000000) ∈ TBL := tb5 234 (by decide +kernel) rfl
theorem cn_X7_430 : Cond.constantLong RX7 430 (-9223372036854775808) ∈ TBL := tb6 63 (by decide +kernel) rfl
theorem cn_L_159 : Cond.constantLong RL 159 (4294967295) ∈ TBL := tb6 180 (by decide +kernel) rfl
theorem ms_max : Cond.static Lib.Math.max.name ∈ TBL := tb2 52 (by decide +kernel) rfl
theorem mc_max : Cond.code Lib.Math.max.name Lib.Math.max.code 2 (some .int) ∈ TBL := tb2 53 (by decide +kernel) rfl
theorem ms_min : Cond.static Lib.Math.min.name ∈ TBL := tb2 207 (by decide +kernel) rfl
theorem mc_min : Cond.code Lib.Math.min.name Lib.Math.min.code 2 (some .int) ∈ TBL := tb2 208 (by decide +kernel) rfl
theorem ini_Math : Cond.initialized "java/lang/Math" ∈ TBL := tb1 9 (by decide +kernel) rfl
theorem ini_Sys : Cond.initialized "java/lang/System" ∈ TBL := tb1 15 (by decide +kernel) rfl
theorem ac_nat : Cond.native arraycopyName ∈ TBL := tb3 51 (by decide +kernel) rfl
theorem ac_st : Cond.static arraycopyName ∈ TBL := tb3 50 (by decide +kernel) rfl
theorem ml_X1_41 : Cond.methodLink RX1 41 arraycopyName ∈ TBL := tb3 49 (by decide +kernel) rfl
theorem ml_X1_81 : Cond.methodLink RX1 81 Lib.Math.max.name ∈ TBL := tb2 51 (by decide +kernel) rfl
theorem ml_X1_104 : Cond.methodLink RX1 104 Lib.Math.min.name ∈ TBL := tb3 34 (by decide +kernel) rfl
theorem ml_X3_20 : Cond.methodLink RX3 20 Lib.Math.min.name ∈ TBL := tb3 173 (by decide +kernel) rfl
theorem ml_X3_26 : Cond.methodLink RX3 26 arraycopyName ∈ TBL := tb3 174 (by decide +kernel) rfl
theorem ml_X5_77 : Cond.methodLink RX5 77 Lib.Math.max.name ∈ TBL := tb2 157 (by decide +kernel) rfl
theorem ml_X6_227 : Cond.methodLink RX6 227 Lib.Math.max.name ∈ TBL := tb3 123 (by decide +kernel) rfl
theorem ml_X6_283 : Cond.methodLink RX6 283 arraycopyName ∈ TBL := tb3 235 (by decide +kernel) rfl
theorem gs_X0_36 : Cond.fieldLink RX0 36 RX0 "BODIES" "[I" ∈ TBL := tb3 194 (by decide +kernel) rfl
theorem gs_X6_273 : Cond.fieldLink RX6 273 RX6 "KIND_ABOVE" "[I" ∈ TBL := tb3 206 (by decide +kernel) rfl
theorem ic_m1 : Int32.ofInt (-1) = (-1) := by decide
theorem ic_0 : Int32.ofInt 0 = 0 := by decide
theorem ic_1 : Int32.ofInt 1 = 1 := by decide
theorem ic_2 : Int32.ofInt 2 = 2 := by decide
theorem ic_3 : Int32.ofInt 3 = 3 := by decide
theorem ic_4 : Int32.ofInt 4 = 4 := by decide
theorem ic_5 : Int32.ofInt 5 = 5 := by decide
theorem ic_6 : Int32.ofInt 6 = 6 := by decide
theorem ic_10 : Int32.ofInt 10 = 10 := by decide
theorem bp_m38 : (Int8.ofInt (-38)).toInt32 = (-38) := by decide
theorem bp_m33 : (Int8.ofInt (-33)).toInt32 = (-33) := by decide
theorem bp_m14 : (Int8.ofInt (-14)).toInt32 = (-14) := by decide
theorem bp_m13 : (Int8.ofInt (-13)).toInt32 = (-13) := by decide
theorem bp_m12 : (Int8.ofInt (-12)).toInt32 = (-12) := by decide
theorem bp_m11 : (Int8.ofInt (-11)).toInt32 = (-11) := by decide
theorem bp_m10 : (Int8.ofInt (-10)).toInt32 = (-10) := by decide
theorem bp_m5 : (Int8.ofInt (-5)).toInt32 = (-5) := by decide
theorem bp_m4 : (Int8.ofInt (-4)).toInt32 = (-4) := by decide
theorem bp_m3 : (Int8.ofInt (-3)).toInt32 = (-3) := by decide
theorem bp_m2 : (Int8.ofInt (-2)).toInt32 = (-2) := by decide
theorem bp_6 : (Int8.ofInt 6).toInt32 = 6 := by decide
theorem bp_7 : (Int8.ofInt 7).toInt32 = 7 := by decide
theorem bp_8 : (Int8.ofInt 8).toInt32 = 8 := by decide
theorem bp_9 : (Int8.ofInt 9).toInt32 = 9 := by decide
theorem bp_10 : (Int8.ofInt 10).toInt32 = 10 := by decide
theorem bp_11 : (Int8.ofInt 11).toInt32 = 11 := by decide
theorem bp_12 : (Int8.ofInt 12).toInt32 = 12 := by decide
theorem bp_13 : (Int8.ofInt 13).toInt32 = 13 := by decide
theorem bp_14 : (Int8.ofInt 14).toInt32 = 14 := by decide
theorem bp_15 : (Int8.ofInt 15).toInt32 = 15 := by decide
theorem bp_16 : (Int8.ofInt 16).toInt32 = 16 := by decide
theorem bp_17 : (Int8.ofInt 17).toInt32 = 17 := by decide
theorem bp_19 : (Int8.ofInt 19).toInt32 = 19 := by decide
theorem bp_20 : (Int8.ofInt 20).toInt32 = 20 := by decide
theorem bp_24 : (Int8.ofInt 24).toInt32 = 24 := by decide
theorem bp_30 : (Int8.ofInt 30).toInt32 = 30 := by decide
theorem bp_32 : (Int8.ofInt 32).toInt32 = 32 := by decide
theorem bp_33 : (Int8.ofInt 33).toInt32 = 33 := by decide
theorem bp_36 : (Int8.ofInt 36).toInt32 = 36 := by decide
theorem bp_38 : (Int8.ofInt 38).toInt32 = 38 := by decide
theorem bp_40 : (Int8.ofInt 40).toInt32 = 40 := by decide
theorem bp_41 : (Int8.ofInt 41).toInt32 = 41 := by decide
theorem bp_48 : (Int8.ofInt 48).toInt32 = 48 := by decide
theorem bp_49 : (Int8.ofInt 49).toInt32 = 49 := by decide
theorem bp_50 : (Int8.ofInt 50).toInt32 = 50 := by decide
theorem bp_51 : (Int8.ofInt 51).toInt32 = 51 := by decide
theorem bp_57 : (Int8.ofInt 57).toInt32 = 57 := by decide
theorem bp_59 : (Int8.ofInt 59).toInt32 = 59 := by decide
theorem bp_60 : (Int8.ofInt 60).toInt32 = 60 := by decide
theorem bp_61 : (Int8.ofInt 61).toInt32 = 61 := by decide
theorem bp_62 : (Int8.ofInt 62).toInt32 = 62 := by decide
theorem bp_63 : (Int8.ofInt 63).toInt32 = 63 := by decide
theorem bp_70 : (Int8.ofInt 70).toInt32 = 70 := by decide
theorem bp_71 : (Int8.ofInt 71).toInt32 = 71 := by decide
theorem bp_97 : (Int8.ofInt 97).toInt32 = 97 := by decide
theorem bp_99 : (Int8.ofInt 99).toInt32 = 99 := by decide
theorem bp_100 : (Int8.ofInt 100).toInt32 = 100 := by decide
theorem bp_101 : (Int8.ofInt 101).toInt32 = 101 := by decide
theorem bp_102 : (Int8.ofInt 102).toInt32 = 102 := by decide
theorem bp_104 : (Int8.ofInt 104).toInt32 = 104 := by decide
theorem bp_105 : (Int8.ofInt 105).toInt32 = 105 := by decide
theorem bp_107 : (Int8.ofInt 107).toInt32 = 107 := by decide
theorem bp_108 : (Int8.ofInt 108).toInt32 = 108 := by decide
theorem bp_109 : (Int8.ofInt 109).toInt32 = 109 := by decide
theorem bp_110 : (Int8.ofInt 110).toInt32 = 110 := by decide
theorem bp_114 : (Int8.ofInt 114).toInt32 = 114 := by decide
theorem bp_115 : (Int8.ofInt 115).toInt32 = 115 := by decide
theorem bp_119 : (Int8.ofInt 119).toInt32 = 119 := by decide
theorem bp_124 : (Int8.ofInt 124).toInt32 = 124 := by decide
theorem bp_127 : (Int8.ofInt 127).toInt32 = 127 := by decide
theorem sp_m1001 : (Int16.ofInt (-1001)).toInt32 = (-1001) := by decide
theorem sp_216 : (Int16.ofInt 216).toInt32 = 216 := by decide
theorem sp_255 : (Int16.ofInt 255).toInt32 = 255 := by decide
theorem sp_294 : (Int16.ofInt 294).toInt32 = 294 := by decide
theorem sp_360 : (Int16.ofInt 360).toInt32 = 360 := by decide
theorem sp_600 : (Int16.ofInt 600).toInt32 = 600 := by decide
theorem sp_1000 : (Int16.ofInt 1000).toInt32 = 1000 := by decide
theorem sp_1023 : (Int16.ofInt 1023).toInt32 = 1023 := by decide
theorem sp_9999 : (Int16.ofInt 9999).toInt32 = 9999 := by decide
end
section
def aln (k : Nat) : Nat := ((SH[k]?).getD (0, 0, [])).2.1
def DK (o : Nat) : Prop := SH[o]? = some (0, 1, [2, 2, 2, 2, 2, 2, 2, 0, 0, 0, 0, 0, 0, 3]) ∧ SH[o + 1]? = some (1, 6, []) ∧ SH[o + 2]? = some (1, 6, []) ∧ SH[o + 3]? = some (1, 6, []) ∧ SH[o + 4]? = some (1, 6, []) ∧ SH[o + 5]? = some (1, 6, []) ∧ SH[o + 6]? = some (1, 24, []) ∧ SH[o + 7]? = some (1, 3, [])
def OC (o : Nat) : Prop := SH[o]? = some (0, 2, [2, 2, 2, 2, 0, 0, 0]) ∧ SH[o + 1]? = some (1, 100, []) ∧ SH[o + 2]? = some (1, 100, []) ∧ SH[o + 3]? = some (1, 100, []) ∧ SH[o + 4]? = some (1, 6, [])
def PR (o : Nat) : Prop := SH[o]? = some (0, 3, [2, 2, 0]) ∧ SH[o + 1]? = some (1, aln (o + 1), []) ∧ SH[o + 2]? = some (1, aln (o + 2), [])
def TP (o : Nat) : Prop := SH[o]? = some (0, 4, [2, 0, 0]) ∧ SH[o + 1]? = some (2, 60, [])
def AR6 (a : Nat) : Prop := SH[a]? = some (1, 6, [])
theorem dk_6 : DK 6 := ⟨sh_6, sh_7, sh_8, sh_9, sh_10, sh_11, sh_12, sh_13⟩
theorem dk_14 : DK 14 := ⟨sh_14, sh_15, sh_16, sh_17, sh_18, sh_19, sh_20, sh_21⟩
theorem dk_22 : DK 22 := ⟨sh_22, sh_23, sh_24, sh_25, sh_26, sh_27, sh_28, sh_29⟩
theorem oc_1 : OC 1 := ⟨sh_1, sh_2, sh_3, sh_4, sh_5⟩
theorem oc_49 : OC 49 := ⟨sh_49, sh_50, sh_51, sh_52, sh_53⟩
theorem oc_54 : OC 54 := ⟨sh_54, sh_55, sh_56, sh_57, sh_58⟩
theorem oc_59 : OC 59 := ⟨sh_59, sh_60, sh_61, sh_62, sh_63⟩
theorem oc_64 : OC 64 := ⟨sh_64, sh_65, sh_66, sh_67, sh_68⟩
theorem oc_69 : OC 69 := ⟨sh_69, sh_70, sh_71, sh_72, sh_73⟩
theorem oc_74 : OC 74 := ⟨sh_74, sh_75, sh_76, sh_77, sh_78⟩
theorem pr_30 : PR 30 := ⟨sh_30, sh_31, sh_32⟩
theorem pr_33 : PR 33 := ⟨sh_33, sh_34, sh_35⟩
theorem pr_36 : PR 36 := ⟨sh_36, sh_37, sh_38⟩
theorem pr_39 : PR 39 := ⟨sh_39, sh_40, sh_41⟩
theorem pr_42 : PR 42 := ⟨sh_42, sh_43, sh_44⟩
theorem pr_45 : PR 45 := ⟨sh_45, sh_46, sh_47⟩
theorem tp_84 : TP 84 := ⟨sh_84, sh_85⟩
theorem tp_86 : TP 86 := ⟨sh_86, sh_87⟩
theorem tp_88 : TP 88 := ⟨sh_88, sh_89⟩
theorem tp_90 : TP 90 := ⟨sh_90, sh_91⟩
theorem tp_92 : TP 92 := ⟨sh_92, sh_93⟩
theorem tp_94 : TP 94 := ⟨sh_94, sh_95⟩
def isOc (q : Nat) : Bool := decide (q = 1) || (decide (49 ≤ q) && decide (q ≤ 74) && decide ((q - 49) % 5 = 0))
theorem oc_of {q : Nat} (h : isOc q = true) : OC q := by
  simp only [isOc, Bool.or_eq_true, Bool.and_eq_true, decide_eq_true_eq] at h
  rcases h with rfl | ⟨⟨h1, h2⟩, h3⟩
  · exact oc_1
  · have : q = 49 ∨ q = 54 ∨ q = 59 ∨ q = 64 ∨ q = 69 ∨ q = 74 := by omega
    rcases this with rfl | rfl | rfl | rfl | rfl | rfl
    · exact oc_49
    · exact oc_54
    · exact oc_59
    · exact oc_64
    · exact oc_69
    · exact oc_74
theorem oca {i : Int32} (h : inb i 6 = true) : OC (lra 5 i.toNatClampNeg) := by
  simp only [inb, Bool.and_eq_true, decide_eq_true_eq] at h
  have h2 := h.2
  generalize i.toNatClampNeg = j at h2 ⊢
  match j, h2 with
  | 0, _ => exact oc_49
  | 1, _ => exact oc_54
  | 2, _ => exact oc_59
  | 3, _ => exact oc_64
  | 4, _ => exact oc_69
  | 5, _ => exact oc_74
  | j + 6, h2 => exact absurd h2 (by omega)
theorem tpa {i : Int32} (h : inb i 6 = true) : TP (lra 6 i.toNatClampNeg) := by
  simp only [inb, Bool.and_eq_true, decide_eq_true_eq] at h
  have h2 := h.2
  generalize i.toNatClampNeg = j at h2 ⊢
  match j, h2 with
  | 0, _ => exact tp_84
  | 1, _ => exact tp_86
  | 2, _ => exact tp_88
  | 3, _ => exact tp_90
  | 4, _ => exact tp_92
  | 5, _ => exact tp_94
  | j + 6, h2 => exact absurd h2 (by omega)
theorem ho_D : ∀ i t, ([2, 2, 2, 2, 2, 2, 2, 0, 0, 0, 0, 0, 0, 3] : List Nat)[i]? = some t → i ≠ 13 → t = 0 ∨ t = 2 := by
  intro i t h hi
  match i, h with
  | 0, h => exact Or.inr (Option.some.inj h).symm
  | 1, h => exact Or.inr (Option.some.inj h).symm
  | 2, h => exact Or.inr (Option.some.inj h).symm
  | 3, h => exact Or.inr (Option.some.inj h).symm
  | 4, h => exact Or.inr (Option.some.inj h).symm
  | 5, h => exact Or.inr (Option.some.inj h).symm
  | 6, h => exact Or.inr (Option.some.inj h).symm
  | 7, h => exact Or.inl (Option.some.inj h).symm
  | 8, h => exact Or.inl (Option.some.inj h).symm
  | 9, h => exact Or.inl (Option.some.inj h).symm
  | 10, h => exact Or.inl (Option.some.inj h).symm
  | 11, h => exact Or.inl (Option.some.inj h).symm
  | 12, h => exact Or.inl (Option.some.inj h).symm
  | 13, h => exact absurd rfl hi
  | i + 14, h => simp at h
theorem ho_T : ∀ i t, ([2, 3, 0, 0] : List Nat)[i]? = some t → i ≠ 1 → t = 0 ∨ t = 2 := by
  intro i t h hi
  match i, h with
  | 0, h => exact Or.inr (Option.some.inj h).symm
  | 1, h => exact absurd rfl hi
  | 2, h => exact Or.inl (Option.some.inj h).symm
  | 3, h => exact Or.inl (Option.some.inj h).symm
  | i + 4, h => simp at h
end
section
def dq (c : ByteArray) (q : Nat × Instr × Nat) : Bool := decide (decode c q.1 = .ok q.2)
theorem ck {c : ByteArray} {l : List (Nat × Instr × Nat)} (h : l.all (dq c) = true) (k : Nat) {pc : Nat} {i : Instr × Nat} (hk : l[k]? = some (pc, i)) : decode c pc = .ok i := of_decide_eq_true (List.all_eq_true.mp h (pc, i) (List.mem_of_getElem? hk))
def lX0_init_0 : List (Nat × Instr × Nat) := [(0, .aload_n 0, 1), (1, .invokespecial 3, 3), (4, .aload_n 0, 1), (5, .bipush 20, 2), (7, .newarray .int, 2), (9, .putfield 11, 3), (12, .return_, 1)]
set_option maxRecDepth 20000 in
theorem DX0_init_0 : lX0_init_0.all (dq cX0_init) = true := by decide +kernel
def lX0_start_0 : List (Nat × Instr × Nat) := [(0, .aload_n 0, 1), (1, .iload_n 1, 1), (2, .putfield 15, 3), (5, .aload_n 0, 1), (6, .iload_n 2, 1), (7, .putfield 19, 3), (10, .aload_n 0, 1), (11, .iload_n 3, 1), (12, .putfield 22, 3), (15, .aload_n 0, 1), (16, .iconst 0, 1), (17, .putfield 25, 3), (20, .aload_n 0, 1), (21, .aload_n 0, 1), (22, .getfield 15, 3), (25, .iload 4, 2), (27, .iload 5, 2), (29, .iconst 0, 1), (30, .invokevirtual 28, 3), (33, .ireturn, 1)]
set_option maxRecDepth 20000 in
theorem DX0_start_0 : lX0_start_0.all (dq cX0_start) = true := by decide +kernel
def lX0_run_0 : List (Nat × Instr × Nat) := [(0, .iload_n 1, 1), (1, .iload_n 2, 1), (2, .invokestatic 32, 3), (5, .istore 5, 2), (7, .iload 5, 2), (9, .ifCond .lt 10, 3), (12, .iload 4, 2), (14, .bipush 40, 2), (16, .if_icmp .le 5, 3), (19, .iconst 0, 1), (20, .ireturn, 1), (21, .getstatic 36, 3), (24, .iconst 3, 1), (25, .iload 5, 2), (27, .imul, 1), (28, .iload_n 2, 1), (29, .iadd, 1), (30, .iaload, 1), (31, .istore 6, 2), (33, .aload_n 0, 1), (34, .getfield 25, 3), (37, .bipush 20, 2), (39, .if_icmp .ge 14, 3), (42, .aload_n 0, 1), (43, .getfield 11, 3), (46, .aload_n 0, 1), (47, .getfield 25, 3), (50, .iload 6, 2), (52, .iastore, 1), (53, .aload_n 0, 1), (54, .dup, 1), (55, .getfield 25, 3), (58, .iconst 1, 1), (59, .iadd, 1), (60, .putfield 25, 3), (63, .getstatic 39, 3), (66, .iload 5, 2), (68, .iaload, 1), (69, .istore 7, 2), (71, .iload 4, 2), (73, .iconst 1, 1), (74, .iadd, 1), (75, .istore 8, 2), (77, .iload 6, 2), (79, .lookupswitch 267 #[(10, 97), (11, 104), (12, 122), (20, 137), (30, 151), (40, 164), (50, 188), (51, 200), (60, 213), (70, 229), (71, 251)], 97), (176, .iload_n 3, 1), (177, .aload_n 0, 1), (178, .getfield 19, 3), (181, .iadd, 1), (182, .ireturn, 1)]
set_option maxRecDepth 20000 in
theorem DX0_run_0 : lX0_run_0.all (dq cX0_run) = true := by decide +kernel
def lX0_run_1 : List (Nat × Instr × Nat) := [(183, .aload_n 0, 1), (184, .aload_n 0, 1), (185, .getfield 15, 3), (188, .iconst 0, 1), (189, .iload_n 3, 1), (190, .iload 8, 2), (192, .invokevirtual 28, 3), (195, .aload_n 0, 1), (196, .getfield 22, 3), (199, .isub, 1), (200, .ireturn, 1), (201, .aload_n 0, 1), (202, .aload_n 0, 1), (203, .getfield 15, 3), (206, .iconst 1, 1), (207, .iload_n 3, 1), (208, .iload 8, 2), (210, .invokevirtual 28, 3), (213, .iconst 2, 1), (214, .imul, 1), (215, .ireturn, 1), (216, .aload_n 0, 1), (217, .iload 7, 2), (219, .iconst 1, 1), (220, .iload_n 3, 1), (221, .iload 8, 2), (223, .invokevirtual 28, 3), (226, .bipush 6, 2), (228, .ixor, 1), (229, .ireturn, 1), (230, .aload_n 0, 1), (231, .iload 7, 2), (233, .iconst 0, 1), (234, .iload_n 3, 1), (235, .iconst 3, 1), (236, .imul, 1), (237, .iload 8, 2), (239, .invokevirtual 28, 3), (242, .ireturn, 1), (243, .aload_n 0, 1), (244, .iload 7, 2), (246, .iconst 2, 1), (247, .iload_n 3, 1), (248, .iload 8, 2), (250, .invokevirtual 28, 3), (253, .aload_n 0, 1), (254, .aload_n 0, 1), (255, .getfield 15, 3), (258, .iconst 1, 1), (259, .iconst 1, 1)]
set_option maxRecDepth 20000 in
theorem DX0_run_1 : lX0_run_1.all (dq cX0_run) = true := by decide +kernel
def lX0_run_2 : List (Nat × Instr × Nat) := [(260, .iload 8, 2), (262, .invokevirtual 28, 3), (265, .iadd, 1), (266, .ireturn, 1), (267, .aload_n 0, 1), (268, .iload 7, 2), (270, .iconst 0, 1), (271, .iload_n 3, 1), (272, .iload 8, 2), (274, .invokevirtual 28, 3), (277, .ineg, 1), (278, .ireturn, 1), (279, .aload_n 0, 1), (280, .iload 7, 2), (282, .iconst 1, 1), (283, .iload_n 3, 1), (284, .iconst 1, 1), (285, .iadd, 1), (286, .iload 8, 2), (288, .invokevirtual 28, 3), (291, .ireturn, 1), (292, .aload_n 0, 1), (293, .iload 7, 2), (295, .iconst 2, 1), (296, .iload_n 3, 1), (297, .aload_n 0, 1), (298, .getfield 19, 3), (301, .isub, 1), (302, .iload 8, 2), (304, .invokevirtual 28, 3), (307, .ireturn, 1), (308, .aload_n 0, 1), (309, .iload 7, 2), (311, .iconst 1, 1), (312, .iload_n 3, 1), (313, .iload 8, 2), (315, .invokevirtual 28, 3), (318, .aload_n 0, 1), (319, .iload 7, 2), (321, .iconst 0, 1), (322, .iconst 2, 1), (323, .iload 8, 2), (325, .invokevirtual 28, 3), (328, .iadd, 1), (329, .ireturn, 1), (330, .aload_n 0, 1), (331, .iload 7, 2), (333, .iconst 0, 1), (334, .iload_n 3, 1), (335, .iload 8, 2)]
set_option maxRecDepth 20000 in
theorem DX0_run_2 : lX0_run_2.all (dq cX0_run) = true := by decide +kernel
def lX0_run_3 : List (Nat × Instr × Nat) := [(337, .invokevirtual 28, 3), (340, .aload_n 0, 1), (341, .getfield 22, 3), (344, .ixor, 1), (345, .ireturn, 1), (346, .iconst 0, 1), (347, .ireturn, 1)]
set_option maxRecDepth 20000 in
theorem DX0_run_3 : lX0_run_3.all (dq cX0_run) = true := by decide +kernel
def lX0_ownerOf_0 : List (Nat × Instr × Nat) := [(0, .iload_n 0, 1), (1, .istore_n 2, 1), (2, .iconst 0, 1), (3, .istore_n 3, 1), (4, .iload_n 3, 1), (5, .bipush 7, 2), (7, .if_icmp .ge 31, 3), (10, .iload_n 2, 1), (11, .ifCond .lt 27, 3), (14, .getstatic 36, 3), (17, .iconst 3, 1), (18, .iload_n 2, 1), (19, .imul, 1), (20, .iload_n 1, 1), (21, .iadd, 1), (22, .iaload, 1), (23, .ifCond .ne 15, 3), (26, .getstatic 39, 3), (29, .iload_n 2, 1), (30, .iaload, 1), (31, .istore_n 2, 1), (32, .iinc 3 1, 3), (35, .goto (-31), 3), (38, .iload_n 2, 1), (39, .ireturn, 1)]
set_option maxRecDepth 20000 in
theorem DX0_ownerOf_0 : lX0_ownerOf_0.all (dq cX0_ownerOf) = true := by decide +kernel
def lX1_init_0 : List (Nat × Instr × Nat) := [(0, .aload_n 0, 1), (1, .invokespecial 3, 3), (4, .aload_n 0, 1), (5, .bipush 6, 2), (7, .newarray .int, 2), (9, .putfield 9, 3), (12, .aload_n 0, 1), (13, .bipush 6, 2), (15, .newarray .int, 2), (17, .putfield 15, 3), (20, .aload_n 0, 1), (21, .bipush 6, 2), (23, .newarray .int, 2), (25, .putfield 18, 3), (28, .aload_n 0, 1), (29, .bipush 6, 2), (31, .newarray .int, 2), (33, .putfield 21, 3), (36, .aload_n 0, 1), (37, .bipush 6, 2), (39, .newarray .int, 2), (41, .putfield 24, 3), (44, .aload_n 0, 1), (45, .bipush 24, 2), (47, .newarray .int, 2), (49, .putfield 27, 3), (52, .aload_n 0, 1), (53, .iconst 3, 1), (54, .newarray .int, 2), (56, .putfield 30, 3), (59, .aload_n 0, 1), (60, .aload_n 1, 1), (61, .putfield 33, 3), (64, .aload_n 0, 1), (65, .iconst 1, 1), (66, .putfield 37, 3), (69, .return_, 1)]
set_option maxRecDepth 20000 in
theorem DX1_init_0 : lX1_init_0.all (dq cX1_init) = true := by decide +kernel
def lX1_copyFrom_0 : List (Nat × Instr × Nat) := [(0, .aload_n 1, 1), (1, .getfield 9, 3), (4, .iconst 0, 1), (5, .aload_n 0, 1), (6, .getfield 9, 3), (9, .iconst 0, 1), (10, .bipush 6, 2), (12, .invokestatic 41, 3), (15, .aload_n 1, 1), (16, .getfield 15, 3), (19, .iconst 0, 1), (20, .aload_n 0, 1), (21, .getfield 15, 3), (24, .iconst 0, 1), (25, .bipush 6, 2), (27, .invokestatic 41, 3), (30, .aload_n 1, 1), (31, .getfield 18, 3), (34, .iconst 0, 1), (35, .aload_n 0, 1), (36, .getfield 18, 3), (39, .iconst 0, 1), (40, .bipush 6, 2), (42, .invokestatic 41, 3), (45, .aload_n 1, 1), (46, .getfield 21, 3), (49, .iconst 0, 1), (50, .aload_n 0, 1), (51, .getfield 21, 3), (54, .iconst 0, 1), (55, .bipush 6, 2), (57, .invokestatic 41, 3), (60, .aload_n 1, 1), (61, .getfield 24, 3), (64, .iconst 0, 1), (65, .aload_n 0, 1), (66, .getfield 24, 3), (69, .iconst 0, 1), (70, .bipush 6, 2), (72, .invokestatic 41, 3), (75, .aload_n 1, 1), (76, .getfield 27, 3), (79, .iconst 0, 1), (80, .aload_n 0, 1), (81, .getfield 27, 3), (84, .iconst 0, 1), (85, .bipush 24, 2), (87, .invokestatic 41, 3), (90, .aload_n 1, 1), (91, .getfield 30, 3)]
set_option maxRecDepth 20000 in
theorem DX1_copyFrom_0 : lX1_copyFrom_0.all (dq cX1_copyFrom) = true := by decide +kernel
def lX1_copyFrom_1 : List (Nat × Instr × Nat) := [(94, .iconst 0, 1), (95, .aload_n 0, 1), (96, .getfield 30, 3), (99, .iconst 0, 1), (100, .iconst 3, 1), (101, .invokestatic 41, 3), (104, .aload_n 0, 1), (105, .aload_n 1, 1), (106, .getfield 47, 3), (109, .putfield 47, 3), (112, .aload_n 0, 1), (113, .aload_n 1, 1), (114, .getfield 50, 3), (117, .putfield 50, 3), (120, .aload_n 0, 1), (121, .aload_n 1, 1), (122, .getfield 37, 3), (125, .putfield 37, 3), (128, .aload_n 0, 1), (129, .aload_n 1, 1), (130, .getfield 53, 3), (133, .putfield 53, 3), (136, .aload_n 0, 1), (137, .aload_n 1, 1), (138, .getfield 56, 3), (141, .putfield 56, 3), (144, .aload_n 0, 1), (145, .aload_n 1, 1), (146, .getfield 59, 3), (149, .putfield 59, 3), (152, .aload_n 0, 1), (153, .aload_n 1, 1), (154, .getfield 33, 3), (157, .putfield 33, 3), (160, .return_, 1)]
set_option maxRecDepth 20000 in
theorem DX1_copyFrom_1 : lX1_copyFrom_1.all (dq cX1_copyFrom) = true := by decide +kernel
def lX1_startFrom_0 : List (Nat × Instr × Nat) := [(0, .aload_n 0, 1), (1, .aload_n 1, 1), (2, .invokevirtual 62, 3), (5, .aload_n 0, 1), (6, .iconst 0, 1), (7, .putfield 56, 3), (10, .return_, 1)]
set_option maxRecDepth 20000 in
theorem DX1_startFrom_0 : lX1_startFrom_0.all (dq cX1_startFrom) = true := by decide +kernel
def lX1_take_0 : List (Nat × Instr × Nat) := [(0, .aload_n 0, 1), (1, .getfield 47, 3), (4, .istore 4, 2), (6, .aload_n 0, 1), (7, .getfield 9, 3), (10, .iload 4, 2), (12, .iload_n 1, 1), (13, .iastore, 1), (14, .aload_n 0, 1), (15, .getfield 15, 3), (18, .iload 4, 2), (20, .iload_n 2, 1), (21, .iastore, 1), (22, .aload_n 0, 1), (23, .getfield 18, 3), (26, .iload 4, 2), (28, .iload_n 3, 1), (29, .iastore, 1), (30, .aload_n 0, 1), (31, .getfield 21, 3), (34, .iload 4, 2), (36, .iconst 0, 1), (37, .iastore, 1), (38, .aload_n 0, 1), (39, .getfield 24, 3), (42, .iload 4, 2), (44, .iconst 0, 1), (45, .iastore, 1), (46, .iconst 0, 1), (47, .istore 5, 2), (49, .iload 5, 2), (51, .iconst 4, 1), (52, .if_icmp .ge 22, 3), (55, .aload_n 0, 1), (56, .getfield 27, 3), (59, .iconst 4, 1), (60, .iload 4, 2), (62, .imul, 1), (63, .iload 5, 2), (65, .iadd, 1), (66, .iconst 0, 1), (67, .iastore, 1), (68, .iinc 5 1, 3), (71, .goto (-22), 3), (74, .aload_n 0, 1), (75, .dup, 1), (76, .getfield 47, 3), (79, .iconst 1, 1), (80, .iadd, 1), (81, .putfield 47, 3)]
set_option maxRecDepth 20000 in
theorem DX1_take_0 : lX1_take_0.all (dq cX1_take) = true := by decide +kernel
def lX1_take_1 : List (Nat × Instr × Nat) := [(84, .iload 4, 2), (86, .ireturn, 1)]
set_option maxRecDepth 20000 in
theorem DX1_take_1 : lX1_take_1.all (dq cX1_take) = true := by decide +kernel
def lX1_has_0 : List (Nat × Instr × Nat) := [(0, .iload_n 1, 1), (1, .ifCond .lt 15, 3), (4, .iload_n 1, 1), (5, .aload_n 0, 1), (6, .getfield 47, 3), (9, .if_icmp .ge 7, 3), (12, .iconst 1, 1), (13, .goto 4, 3), (16, .iconst 0, 1), (17, .ireturn, 1)]
set_option maxRecDepth 20000 in
theorem DX1_has_0 : lX1_has_0.all (dq cX1_has) = true := by decide +kernel
def lX1_placeOf_0 : List (Nat × Instr × Nat) := [(0, .iconst 0, 1), (1, .istore_n 2, 1), (2, .iload_n 2, 1), (3, .aload_n 0, 1), (4, .getfield 50, 3), (7, .if_icmp .ge 21, 3), (10, .aload_n 0, 1), (11, .getfield 30, 3), (14, .iload_n 2, 1), (15, .iaload, 1), (16, .iload_n 1, 1), (17, .if_icmp .ne 5, 3), (20, .iload_n 2, 1), (21, .ireturn, 1), (22, .iinc 2 1, 3), (25, .goto (-23), 3), (28, .iconst (-1), 1), (29, .ireturn, 1)]
set_option maxRecDepth 20000 in
theorem DX1_placeOf_0 : lX1_placeOf_0.all (dq cX1_placeOf) = true := by decide +kernel
def lX1_putUpon_0 : List (Nat × Instr × Nat) := [(0, .aload_n 0, 1), (1, .getfield 50, 3), (4, .iconst 3, 1), (5, .if_icmp .ge 23, 3), (8, .aload_n 0, 1), (9, .getfield 30, 3), (12, .aload_n 0, 1), (13, .getfield 50, 3), (16, .iload_n 1, 1), (17, .iastore, 1), (18, .aload_n 0, 1), (19, .dup, 1), (20, .getfield 50, 3), (23, .iconst 1, 1), (24, .iadd, 1), (25, .putfield 50, 3), (28, .return_, 1)]
set_option maxRecDepth 20000 in
theorem DX1_putUpon_0 : lX1_putUpon_0.all (dq cX1_putUpon) = true := by decide +kernel
def lX1_lashRow_0 : List (Nat × Instr × Nat) := [(0, .iload_n 1, 1), (1, .ifCond .lt 10, 3), (4, .iload_n 1, 1), (5, .sipush 294, 3), (8, .if_icmp .lt 5, 3), (11, .iconst 0, 1), (12, .ireturn, 1), (13, .iload_n 1, 1), (14, .bipush 49, 2), (16, .idiv, 1), (17, .istore_n 2, 1), (18, .iload_n 1, 1), (19, .bipush 7, 2), (21, .idiv, 1), (22, .bipush 7, 2), (24, .irem, 1), (25, .iconst 1, 1), (26, .isub, 1), (27, .istore_n 3, 1), (28, .iload_n 1, 1), (29, .bipush 7, 2), (31, .irem, 1), (32, .iconst 1, 1), (33, .isub, 1), (34, .istore 4, 2), (36, .aload_n 0, 1), (37, .getfield 30, 3), (40, .iconst 0, 1), (41, .iload_n 2, 1), (42, .iastore, 1), (43, .aload_n 0, 1), (44, .getfield 30, 3), (47, .iconst 1, 1), (48, .iload_n 3, 1), (49, .iastore, 1), (50, .aload_n 0, 1), (51, .getfield 30, 3), (54, .iconst 2, 1), (55, .iload 4, 2), (57, .iastore, 1), (58, .aload_n 0, 1), (59, .iload_n 3, 1), (60, .ifCond .ge 7, 3), (63, .iconst 1, 1), (64, .goto 13, 3), (67, .iload 4, 2), (69, .ifCond .ge 7, 3), (72, .iconst 2, 1), (73, .goto 4, 3), (76, .iconst 3, 1)]
set_option maxRecDepth 20000 in
theorem DX1_lashRow_0 : lX1_lashRow_0.all (dq cX1_lashRow) = true := by decide +kernel
def lX1_lashRow_1 : List (Nat × Instr × Nat) := [(77, .putfield 50, 3), (80, .iload_n 3, 1), (81, .ifCond .ge 12, 3), (84, .iload 4, 2), (86, .ifCond .lt 7, 3), (89, .iconst 1, 1), (90, .goto 4, 3), (93, .iconst 0, 1), (94, .istore 5, 2), (96, .iload_n 2, 1), (97, .iload_n 3, 1), (98, .if_icmp .eq 19, 3), (101, .iload_n 2, 1), (102, .iload 4, 2), (104, .if_icmp .eq 13, 3), (107, .iload_n 3, 1), (108, .ifCond .lt 13, 3), (111, .iload_n 3, 1), (112, .iload 4, 2), (114, .if_icmp .ne 7, 3), (117, .iconst 1, 1), (118, .goto 4, 3), (121, .iconst 0, 1), (122, .istore 6, 2), (124, .iload 5, 2), (126, .ifCond .ne 37, 3), (129, .iload 6, 2), (131, .ifCond .ne 32, 3), (134, .iload_n 2, 1), (135, .aload_n 0, 1), (136, .getfield 47, 3), (139, .if_icmp .ge 24, 3), (142, .iload_n 3, 1), (143, .aload_n 0, 1), (144, .getfield 47, 3), (147, .if_icmp .ge 16, 3), (150, .iload 4, 2), (152, .aload_n 0, 1), (153, .getfield 47, 3), (156, .if_icmp .ge 7, 3), (159, .iconst 1, 1), (160, .goto 4, 3), (163, .iconst 0, 1), (164, .ireturn, 1)]
set_option maxRecDepth 20000 in
theorem DX1_lashRow_1 : lX1_lashRow_1.all (dq cX1_lashRow) = true := by decide +kernel
def lX1_standsOfTheSame_0 : List (Nat × Instr × Nat) := [(0, .iconst 0, 1), (1, .istore_n 2, 1), (2, .iload_n 2, 1), (3, .aload_n 0, 1), (4, .getfield 50, 3), (7, .if_icmp .ge 24, 3), (10, .aload_n 1, 1), (11, .aload_n 0, 1), (12, .getfield 30, 3), (15, .iload_n 2, 1), (16, .iaload, 1), (17, .invokevirtual 66, 3), (20, .ifCond .ge 5, 3), (23, .iconst 0, 1), (24, .ireturn, 1), (25, .iinc 2 1, 3), (28, .goto (-26), 3), (31, .aload_n 0, 1), (32, .getfield 50, 3), (35, .aload_n 1, 1), (36, .getfield 50, 3), (39, .if_icmp .ne 7, 3), (42, .iconst 1, 1), (43, .goto 4, 3), (46, .iconst 0, 1), (47, .ireturn, 1)]
set_option maxRecDepth 20000 in
theorem DX1_standsOfTheSame_0 : lX1_standsOfTheSame_0.all (dq cX1_standsOfTheSame) = true := by decide +kernel
def lX1_above_0 : List (Nat × Instr × Nat) := [(0, .iconst 0, 1), (1, .istore_n 2, 1), (2, .iload_n 1, 1), (3, .istore_n 3, 1), (4, .iload_n 3, 1), (5, .aload_n 0, 1), (6, .getfield 50, 3), (9, .if_icmp .ge 23, 3), (12, .iload_n 2, 1), (13, .aload_n 0, 1), (14, .getfield 18, 3), (17, .aload_n 0, 1), (18, .getfield 30, 3), (21, .iload_n 3, 1), (22, .iaload, 1), (23, .iaload, 1), (24, .iadd, 1), (25, .istore_n 2, 1), (26, .iinc 3 1, 3), (29, .goto (-25), 3), (32, .aload_n 0, 1), (33, .getfield 33, 3), (36, .getfield 70, 3), (39, .aload_n 0, 1), (40, .getfield 50, 3), (43, .iconst 1, 1), (44, .isub, 1), (45, .iload_n 1, 1), (46, .isub, 1), (47, .imul, 1), (48, .istore_n 3, 1), (49, .iload_n 2, 1), (50, .iload_n 3, 1), (51, .if_icmp .le 9, 3), (54, .iload_n 2, 1), (55, .iload_n 3, 1), (56, .isub, 1), (57, .goto 4, 3), (60, .iconst 0, 1), (61, .ireturn, 1)]
set_option maxRecDepth 20000 in
theorem DX1_above_0 : lX1_above_0.all (dq cX1_above) = true := by decide +kernel
def lX1_height_0 : List (Nat × Instr × Nat) := [(0, .aload_n 0, 1), (1, .getfield 50, 3), (4, .ifCond .ne 7, 3), (7, .iconst 0, 1), (8, .goto 8, 3), (11, .aload_n 0, 1), (12, .iconst 0, 1), (13, .invokevirtual 75, 3), (16, .ireturn, 1)]
set_option maxRecDepth 20000 in
theorem DX1_height_0 : lX1_height_0.all (dq cX1_height) = true := by decide +kernel
def lX1_load_0 : List (Nat × Instr × Nat) := [(0, .iconst 0, 1), (1, .aload_n 0, 1), (2, .iload_n 1, 1), (3, .invokevirtual 75, 3), (6, .aload_n 0, 1), (7, .getfield 37, 3), (10, .imul, 1), (11, .iconst 5, 1), (12, .idiv, 1), (13, .aload_n 0, 1), (14, .getfield 33, 3), (17, .getfield 78, 3), (20, .iadd, 1), (21, .iconst 3, 1), (22, .aload_n 0, 1), (23, .getfield 53, 3), (26, .imul, 1), (27, .isub, 1), (28, .invokestatic 81, 3), (31, .ireturn, 1)]
set_option maxRecDepth 20000 in
theorem DX1_load_0 : lX1_load_0.all (dq cX1_load) = true := by decide +kernel
def lX1_miles_0 : List (Nat × Instr × Nat) := [(0, .aload_n 0, 1), (1, .invokevirtual 87, 3), (4, .aload_n 0, 1), (5, .getfield 37, 3), (8, .imul, 1), (9, .bipush 10, 2), (11, .idiv, 1), (12, .ireturn, 1)]
set_option maxRecDepth 20000 in
theorem DX1_miles_0 : lX1_miles_0.all (dq cX1_miles) = true := by decide +kernel
def lX1_strength_0 : List (Nat × Instr × Nat) := [(0, .aload_n 0, 1), (1, .getfield 33, 3), (4, .aload_n 0, 1), (5, .iload_n 1, 1), (6, .invokevirtual 91, 3), (9, .istore_n 2, 1), (10, .iload_n 2, 1), (11, .aload_n 0, 1), (12, .getfield 21, 3), (15, .iload_n 1, 1), (16, .iaload, 1), (17, .isub, 1), (18, .istore_n 3, 1), (19, .aload_n 0, 1), (20, .getfield 9, 3), (23, .iload_n 1, 1), (24, .iaload, 1), (25, .tableswitch 135 1 6 #[39, 53, 59, 71, 92, 107], 39), (64, .iload_n 2, 1), (65, .iconst 2, 1), (66, .idiv, 1), (67, .aload_n 0, 1), (68, .getfield 21, 3), (71, .iload_n 1, 1), (72, .iaload, 1), (73, .isub, 1), (74, .istore_n 3, 1), (75, .goto 85, 3), (78, .iinc 3 10, 3), (81, .goto 79, 3), (84, .iload_n 3, 1), (85, .aload_n 0, 1), (86, .getfield 15, 3), (89, .iload_n 1, 1), (90, .iaload, 1), (91, .iadd, 1), (92, .istore_n 3, 1), (93, .goto 67, 3), (96, .iload_n 2, 1), (97, .iconst 2, 1), (98, .idiv, 1), (99, .aload_n 0, 1), (100, .getfield 21, 3), (103, .iload_n 1, 1), (104, .iaload, 1), (105, .isub, 1), (106, .iconst 2, 1), (107, .aload_n 0, 1), (108, .getfield 53, 3), (111, .imul, 1)]
set_option maxRecDepth 20000 in
theorem DX1_strength_0 : lX1_strength_0.all (dq cX1_strength) = true := by decide +kernel
def lX1_strength_1 : List (Nat × Instr × Nat) := [(112, .iadd, 1), (113, .istore_n 3, 1), (114, .goto 46, 3), (117, .iload_n 3, 1), (118, .bipush 10, 2), (120, .aload_n 0, 1), (121, .getfield 21, 3), (124, .iload_n 1, 1), (125, .iaload, 1), (126, .isub, 1), (127, .iadd, 1), (128, .istore_n 3, 1), (129, .goto 31, 3), (132, .iload_n 3, 1), (133, .aload_n 0, 1), (134, .getfield 15, 3), (137, .iload_n 1, 1), (138, .iaload, 1), (139, .aload_n 0, 1), (140, .getfield 27, 3), (143, .iconst 4, 1), (144, .iload_n 1, 1), (145, .imul, 1), (146, .aload_n 0, 1), (147, .getfield 59, 3), (150, .iconst 4, 1), (151, .irem, 1), (152, .iadd, 1), (153, .iaload, 1), (154, .iadd, 1), (155, .iadd, 1), (156, .istore_n 3, 1), (157, .goto 3, 3), (160, .iconst 0, 1), (161, .iload_n 3, 1), (162, .invokestatic 81, 3), (165, .ireturn, 1)]
set_option maxRecDepth 20000 in
theorem DX1_strength_1 : lX1_strength_1.all (dq cX1_strength) = true := by decide +kernel
def lX1_breaking_0 : List (Nat × Instr × Nat) := [(0, .iconst 0, 1), (1, .istore_n 1, 1), (2, .iload_n 1, 1), (3, .aload_n 0, 1), (4, .getfield 50, 3), (7, .if_icmp .ge 29, 3), (10, .aload_n 0, 1), (11, .iload_n 1, 1), (12, .invokevirtual 95, 3), (15, .aload_n 0, 1), (16, .aload_n 0, 1), (17, .getfield 30, 3), (20, .iload_n 1, 1), (21, .iaload, 1), (22, .invokevirtual 98, 3), (25, .if_icmp .le 5, 3), (28, .iload_n 1, 1), (29, .ireturn, 1), (30, .iinc 1 1, 3), (33, .goto (-31), 3), (36, .iconst (-1), 1), (37, .ireturn, 1)]
set_option maxRecDepth 20000 in
theorem DX1_breaking_0 : lX1_breaking_0.all (dq cX1_breaking) = true := by decide +kernel
def lX1_dayGoes_0 : List (Nat × Instr × Nat) := [(0, .aload_n 0, 1), (1, .invokevirtual 101, 3), (4, .istore_n 1, 1), (5, .aload_n 0, 1), (6, .dup, 1), (7, .getfield 59, 3), (10, .iconst 1, 1), (11, .iadd, 1), (12, .putfield 59, 3), (15, .iload_n 1, 1), (16, .ifCond .lt 58, 3), (19, .aload_n 0, 1), (20, .getfield 30, 3), (23, .iload_n 1, 1), (24, .iaload, 1), (25, .istore_n 2, 1), (26, .aload_n 0, 1), (27, .getfield 18, 3), (30, .iload_n 2, 1), (31, .aload_n 0, 1), (32, .getfield 18, 3), (35, .iload_n 2, 1), (36, .iaload, 1), (37, .iconst 2, 1), (38, .idiv, 1), (39, .iastore, 1), (40, .aload_n 0, 1), (41, .getfield 21, 3), (44, .iload_n 2, 1), (45, .iconst 0, 1), (46, .iastore, 1), (47, .aload_n 0, 1), (48, .getfield 24, 3), (51, .iload_n 2, 1), (52, .sipush 9999, 3), (55, .aload_n 0, 1), (56, .getfield 24, 3), (59, .iload_n 2, 1), (60, .iaload, 1), (61, .iconst 1, 1), (62, .iadd, 1), (63, .invokestatic 104, 3), (66, .iastore, 1), (67, .aload_n 0, 1), (68, .iload_n 1, 1), (69, .putfield 50, 3), (72, .iload_n 2, 1), (73, .ireturn, 1), (74, .aload_n 0, 1), (75, .ldc 107, 2)]
set_option maxRecDepth 20000 in
theorem DX1_dayGoes_0 : lX1_dayGoes_0.all (dq cX1_dayGoes) = true := by decide +kernel
def lX1_dayGoes_1 : List (Nat × Instr × Nat) := [(77, .aload_n 0, 1), (78, .getfield 56, 3), (81, .aload_n 0, 1), (82, .invokevirtual 108, 3), (85, .iadd, 1), (86, .invokestatic 104, 3), (89, .putfield 56, 3), (92, .iconst 0, 1), (93, .istore_n 2, 1), (94, .iload_n 2, 1), (95, .aload_n 0, 1), (96, .getfield 50, 3), (99, .if_icmp .ge 42, 3), (102, .aload_n 0, 1), (103, .getfield 30, 3), (106, .iload_n 2, 1), (107, .iaload, 1), (108, .istore_n 3, 1), (109, .aload_n 0, 1), (110, .getfield 21, 3), (113, .iload_n 3, 1), (114, .bipush 99, 2), (116, .aload_n 0, 1), (117, .getfield 21, 3), (120, .iload_n 3, 1), (121, .iaload, 1), (122, .aload_n 0, 1), (123, .iload_n 2, 1), (124, .invokevirtual 95, 3), (127, .bipush 10, 2), (129, .idiv, 1), (130, .iadd, 1), (131, .invokestatic 104, 3), (134, .iastore, 1), (135, .iinc 2 1, 3), (138, .goto (-44), 3), (141, .iconst (-1), 1), (142, .ireturn, 1)]
set_option maxRecDepth 20000 in
theorem DX1_dayGoes_1 : lX1_dayGoes_1.all (dq cX1_dayGoes) = true := by decide +kernel
def lX1_nothingBreaksIn_0 : List (Nat × Instr × Nat) := [(0, .iconst 0, 1), (1, .istore_n 2, 1), (2, .iload_n 2, 1), (3, .iload_n 1, 1), (4, .if_icmp .ge 18, 3), (7, .aload_n 0, 1), (8, .invokevirtual 111, 3), (11, .ifCond .lt 5, 3), (14, .iconst 0, 1), (15, .ireturn, 1), (16, .iinc 2 1, 3), (19, .goto (-17), 3), (22, .iconst 1, 1), (23, .ireturn, 1)]
set_option maxRecDepth 20000 in
theorem DX1_nothingBreaksIn_0 : lX1_nothingBreaksIn_0.all (dq cX1_nothingBreaksIn) = true := by decide +kernel
def lX2_init_0 : List (Nat × Instr × Nat) := [(0, .aload_n 0, 1), (1, .invokespecial 1, 3), (4, .aload_n 0, 1), (5, .bipush 100, 2), (7, .newarray .int, 2), (9, .putfield 9, 3), (12, .aload_n 0, 1), (13, .bipush 100, 2), (15, .newarray .int, 2), (17, .putfield 13, 3), (20, .aload_n 0, 1), (21, .bipush 100, 2), (23, .newarray .int, 2), (25, .putfield 16, 3), (28, .aload_n 0, 1), (29, .bipush 6, 2), (31, .newarray .int, 2), (33, .putfield 19, 3), (36, .aload_n 0, 1), (37, .invokevirtual 22, 3), (40, .return_, 1)]
set_option maxRecDepth 20000 in
theorem DX2_init_0 : lX2_init_0.all (dq cX2_init) = true := by decide +kernel
def lX2_becomeCalm_0 : List (Nat × Instr × Nat) := [(0, .aload_n 0, 1), (1, .iconst 0, 1), (2, .putfield 25, 3), (5, .aload_n 0, 1), (6, .iconst 5, 1), (7, .putfield 29, 3), (10, .aload_n 0, 1), (11, .iconst 2, 1), (12, .putfield 32, 3), (15, .return_, 1)]
set_option maxRecDepth 20000 in
theorem DX2_becomeCalm_0 : lX2_becomeCalm_0.all (dq cX2_becomeCalm) = true := by decide +kernel
def lX2_add_0 : List (Nat × Instr × Nat) := [(0, .aload_n 0, 1), (1, .getfield 25, 3), (4, .bipush 100, 2), (6, .if_icmp .ge 43, 3), (9, .aload_n 0, 1), (10, .getfield 9, 3), (13, .aload_n 0, 1), (14, .getfield 25, 3), (17, .iload_n 1, 1), (18, .iastore, 1), (19, .aload_n 0, 1), (20, .getfield 13, 3), (23, .aload_n 0, 1), (24, .getfield 25, 3), (27, .iload_n 2, 1), (28, .iastore, 1), (29, .aload_n 0, 1), (30, .getfield 16, 3), (33, .aload_n 0, 1), (34, .getfield 25, 3), (37, .iload_n 3, 1), (38, .iastore, 1), (39, .aload_n 0, 1), (40, .dup, 1), (41, .getfield 25, 3), (44, .iconst 1, 1), (45, .iadd, 1), (46, .putfield 25, 3), (49, .return_, 1)]
set_option maxRecDepth 20000 in
theorem DX2_add_0 : lX2_add_0.all (dq cX2_add) = true := by decide +kernel
def lX2_heart_0 : List (Nat × Instr × Nat) := [(0, .aload_n 0, 1), (1, .getfield 19, 3), (4, .iconst 0, 1), (5, .iload_n 2, 1), (6, .iastore, 1), (7, .aload_n 0, 1), (8, .getfield 19, 3), (11, .iconst 1, 1), (12, .aload_n 1, 1), (13, .getfield 35, 3), (16, .iload_n 2, 1), (17, .iaload, 1), (18, .iastore, 1), (19, .aload_n 0, 1), (20, .getfield 19, 3), (23, .iconst 2, 1), (24, .aload_n 1, 1), (25, .getfield 40, 3), (28, .iload_n 2, 1), (29, .iaload, 1), (30, .iastore, 1), (31, .aload_n 0, 1), (32, .getfield 19, 3), (35, .iconst 3, 1), (36, .aload_n 1, 1), (37, .getfield 43, 3), (40, .iload_n 2, 1), (41, .iaload, 1), (42, .bipush 10, 2), (44, .idiv, 1), (45, .iastore, 1), (46, .aload_n 0, 1), (47, .getfield 19, 3), (50, .iconst 4, 1), (51, .aload_n 1, 1), (52, .getfield 46, 3), (55, .iload_n 2, 1), (56, .iaload, 1), (57, .bipush 10, 2), (59, .idiv, 1), (60, .iastore, 1), (61, .aload_n 0, 1), (62, .getfield 19, 3), (65, .iconst 5, 1), (66, .aload_n 1, 1), (67, .getfield 49, 3), (70, .bipush 10, 2), (72, .irem, 1), (73, .iastore, 1), (74, .bipush 20, 2)]
set_option maxRecDepth 20000 in
theorem DX2_heart_0 : lX2_heart_0.all (dq cX2_heart) = true := by decide +kernel
def lX2_heart_1 : List (Nat × Instr × Nat) := [(76, .istore_n 3, 1), (77, .iconst 0, 1), (78, .istore 4, 2), (80, .iconst 0, 1), (81, .istore 5, 2), (83, .iload 5, 2), (85, .aload_n 0, 1), (86, .getfield 25, 3), (89, .if_icmp .ge 250, 3), (92, .aload_n 0, 1), (93, .getfield 9, 3), (96, .iload 5, 2), (98, .iaload, 1), (99, .lookupswitch 200 #[(33, 57), (38, 66), (59, 95), (60, 126), (61, 163), (124, 81)], 57), (156, .iload 4, 2), (158, .iconst 1, 1), (159, .ixor, 1), (160, .istore 4, 2), (162, .goto 171, 3), (165, .iload 4, 2), (167, .iconst 1, 1), (168, .iushr, 1), (169, .iload 4, 2), (171, .bipush (-2), 2), (173, .ior, 1), (174, .iand, 1), (175, .istore 4, 2), (177, .goto 156, 3), (180, .iload 4, 2), (182, .iconst 1, 1), (183, .iushr, 1), (184, .iload 4, 2), (186, .iconst 1, 1), (187, .iand, 1), (188, .ior, 1), (189, .istore 4, 2), (191, .goto 142, 3), (194, .iload_n 3, 1), (195, .iload 4, 2), (197, .iconst 1, 1), (198, .iand, 1), (199, .iconst 1, 1), (200, .if_icmp .ne 13, 3), (203, .aload_n 0, 1), (204, .getfield 16, 3), (207, .iload 5, 2), (209, .iaload, 1), (210, .goto 4, 3), (213, .iconst 0, 1), (214, .iadd, 1)]
set_option maxRecDepth 20000 in
theorem DX2_heart_1 : lX2_heart_1.all (dq cX2_heart) = true := by decide +kernel
def lX2_heart_2 : List (Nat × Instr × Nat) := [(215, .istore_n 3, 1), (216, .iload 4, 2), (218, .iconst 1, 1), (219, .iushr, 1), (220, .istore 4, 2), (222, .goto 111, 3), (225, .iload 4, 2), (227, .iconst 1, 1), (228, .ishl, 1), (229, .aload_n 0, 1), (230, .getfield 19, 3), (233, .aload_n 0, 1), (234, .getfield 13, 3), (237, .iload 5, 2), (239, .iaload, 1), (240, .iaload, 1), (241, .aload_n 0, 1), (242, .getfield 16, 3), (245, .iload 5, 2), (247, .iaload, 1), (248, .if_icmp .ge 7, 3), (251, .iconst 1, 1), (252, .goto 4, 3), (255, .iconst 0, 1), (256, .ior, 1), (257, .istore 4, 2), (259, .goto 74, 3), (262, .iload 4, 2), (264, .iconst 1, 1), (265, .ishl, 1), (266, .aload_n 0, 1), (267, .getfield 19, 3), (270, .aload_n 0, 1), (271, .getfield 13, 3), (274, .iload 5, 2), (276, .iaload, 1), (277, .iaload, 1), (278, .aload_n 0, 1), (279, .getfield 16, 3), (282, .iload 5, 2), (284, .iaload, 1), (285, .if_icmp .ne 7, 3), (288, .iconst 1, 1), (289, .goto 4, 3), (292, .iconst 0, 1), (293, .ior, 1), (294, .istore 4, 2), (296, .goto 37, 3), (299, .iload 4, 2), (301, .iconst 1, 1)]
set_option maxRecDepth 20000 in
theorem DX2_heart_2 : lX2_heart_2.all (dq cX2_heart) = true := by decide +kernel
def lX2_heart_3 : List (Nat × Instr × Nat) := [(302, .ishl, 1), (303, .aload_n 0, 1), (304, .getfield 19, 3), (307, .aload_n 0, 1), (308, .getfield 13, 3), (311, .iload 5, 2), (313, .iaload, 1), (314, .iaload, 1), (315, .aload_n 0, 1), (316, .getfield 16, 3), (319, .iload 5, 2), (321, .iaload, 1), (322, .if_icmp .le 7, 3), (325, .iconst 1, 1), (326, .goto 4, 3), (329, .iconst 0, 1), (330, .ior, 1), (331, .istore 4, 2), (333, .iinc 5 1, 3), (336, .goto (-253), 3), (339, .iload_n 3, 1), (340, .ireturn, 1)]
set_option maxRecDepth 20000 in
theorem DX2_heart_3 : lX2_heart_3.all (dq cX2_heart) = true := by decide +kernel
def lX3_init_0 : List (Nat × Instr × Nat) := [(0, .aload_n 0, 1), (1, .invokespecial 1, 3), (4, .aload_n 0, 1), (5, .iload_n 1, 1), (6, .newarray .int, 2), (8, .putfield 7, 3), (11, .aload_n 0, 1), (12, .iload_n 1, 1), (13, .newarray .int, 2), (15, .putfield 13, 3), (18, .return_, 1)]
set_option maxRecDepth 20000 in
theorem DX3_init_0 : lX3_init_0.all (dq cX3_init) = true := by decide +kernel
def lX3_add_0 : List (Nat × Instr × Nat) := [(0, .aload_n 0, 1), (1, .getfield 16, 3), (4, .aload_n 0, 1), (5, .getfield 7, 3), (8, .arraylength, 1), (9, .if_icmp .lt 5, 3), (12, .iconst 0, 1), (13, .ireturn, 1), (14, .aload_n 0, 1), (15, .getfield 7, 3), (18, .aload_n 0, 1), (19, .getfield 16, 3), (22, .iload_n 1, 1), (23, .iastore, 1), (24, .aload_n 0, 1), (25, .getfield 13, 3), (28, .aload_n 0, 1), (29, .getfield 16, 3), (32, .iload_n 2, 1), (33, .iastore, 1), (34, .aload_n 0, 1), (35, .dup, 1), (36, .getfield 16, 3), (39, .iconst 1, 1), (40, .iadd, 1), (41, .putfield 16, 3), (44, .iconst 1, 1), (45, .ireturn, 1)]
set_option maxRecDepth 20000 in
theorem DX3_add_0 : lX3_add_0.all (dq cX3_add) = true := by decide +kernel
def lX3_clear_0 : List (Nat × Instr × Nat) := [(0, .aload_n 0, 1), (1, .iconst 0, 1), (2, .putfield 16, 3), (5, .iconst 0, 1), (6, .ireturn, 1)]
set_option maxRecDepth 20000 in
theorem DX3_clear_0 : lX3_clear_0.all (dq cX3_clear) = true := by decide +kernel
def lX3_copyFrom_0 : List (Nat × Instr × Nat) := [(0, .aload_n 0, 1), (1, .aload_n 1, 1), (2, .getfield 16, 3), (5, .aload_n 0, 1), (6, .getfield 7, 3), (9, .arraylength, 1), (10, .invokestatic 20, 3), (13, .putfield 16, 3), (16, .aload_n 1, 1), (17, .getfield 7, 3), (20, .iconst 0, 1), (21, .aload_n 0, 1), (22, .getfield 7, 3), (25, .iconst 0, 1), (26, .aload_n 0, 1), (27, .getfield 16, 3), (30, .invokestatic 26, 3), (33, .aload_n 1, 1), (34, .getfield 13, 3), (37, .iconst 0, 1), (38, .aload_n 0, 1), (39, .getfield 13, 3), (42, .iconst 0, 1), (43, .aload_n 0, 1), (44, .getfield 16, 3), (47, .invokestatic 26, 3), (50, .return_, 1)]
set_option maxRecDepth 20000 in
theorem DX3_copyFrom_0 : lX3_copyFrom_0.all (dq cX3_copyFrom) = true := by decide +kernel
def lX4_init_0 : List (Nat × Instr × Nat) := [(0, .aload_n 0, 1), (1, .invokespecial 1, 3), (4, .aload_n 0, 1), (5, .bipush 60, 2), (7, .newarray .long, 2), (9, .putfield 9, 3), (12, .aload_n 0, 1), (13, .iconst (-1), 1), (14, .putfield 13, 3), (17, .return_, 1)]
set_option maxRecDepth 20000 in
theorem DX4_init_0 : lX4_init_0.all (dq cX4_init) = true := by decide +kernel
def lX4_become_0 : List (Nat × Instr × Nat) := [(0, .aload_n 0, 1), (1, .iload_n 1, 1), (2, .putfield 13, 3), (5, .aload_n 0, 1), (6, .iload_n 2, 1), (7, .putfield 17, 3), (10, .iconst 0, 1), (11, .istore_n 3, 1), (12, .iload_n 3, 1), (13, .bipush 60, 2), (15, .if_icmp .ge 16, 3), (18, .aload_n 0, 1), (19, .getfield 9, 3), (22, .iload_n 3, 1), (23, .lconst 0, 1), (24, .lastore, 1), (25, .iinc 3 1, 3), (28, .goto (-16), 3), (31, .return_, 1)]
set_option maxRecDepth 20000 in
theorem DX4_become_0 : lX4_become_0.all (dq cX4_become) = true := by decide +kernel
def lX4_cut_0 : List (Nat × Instr × Nat) := [(0, .aload_n 0, 1), (1, .getfield 13, 3), (4, .tableswitch 62 0 4 #[36, 41, 46, 62, 50], 36), (40, .lload_n 1, 1), (41, .l2i, 1), (42, .i2b, 1), (43, .i2l, 1), (44, .lreturn, 1), (45, .lload_n 1, 1), (46, .l2i, 1), (47, .i2s, 1), (48, .i2l, 1), (49, .lreturn, 1), (50, .lload_n 1, 1), (51, .l2i, 1), (52, .i2l, 1), (53, .lreturn, 1), (54, .lload_n 1, 1), (55, .lconst 0, 1), (56, .lcmp, 1), (57, .ifCond .eq 7, 3), (60, .lconst 1, 1), (61, .goto 4, 3), (64, .lconst 0, 1), (65, .lreturn, 1), (66, .lload_n 1, 1), (67, .lreturn, 1)]
set_option maxRecDepth 20000 in
theorem DX4_cut_0 : lX4_cut_0.all (dq cX4_cut) = true := by decide +kernel
def lX5_init_0 : List (Nat × Instr × Nat) := [(0, .aload_n 0, 1), (1, .invokespecial 1, 3), (4, .aload_n 0, 1), (5, .bipush 100, 2), (7, .newarray .byte, 2), (9, .putfield 9, 3), (12, .return_, 1)]
set_option maxRecDepth 20000 in
theorem DX5_init_0 : lX5_init_0.all (dq cX5_init) = true := by decide +kernel
def lX5_add_0 : List (Nat × Instr × Nat) := [(0, .aload_n 0, 1), (1, .getfield 13, 3), (4, .bipush 100, 2), (6, .if_icmp .lt 5, 3), (9, .iconst 0, 1), (10, .ireturn, 1), (11, .aload_n 0, 1), (12, .getfield 9, 3), (15, .aload_n 0, 1), (16, .getfield 13, 3), (19, .iload_n 1, 1), (20, .bastore, 1), (21, .aload_n 0, 1), (22, .dup, 1), (23, .getfield 13, 3), (26, .iconst 1, 1), (27, .iadd, 1), (28, .putfield 13, 3), (31, .iconst 1, 1), (32, .ireturn, 1)]
set_option maxRecDepth 20000 in
theorem DX5_add_0 : lX5_add_0.all (dq cX5_add) = true := by decide +kernel
def lX5_readInto_0 : List (Nat × Instr × Nat) := [(0, .aload_n 0, 1), (1, .aload_n 1, 1), (2, .putfield 17, 3), (5, .aload_n 0, 1), (6, .getfield 17, 3), (9, .invokevirtual 21, 3), (12, .aload_n 0, 1), (13, .iconst 0, 1), (14, .putfield 26, 3), (17, .iconst 1, 1), (18, .istore_n 2, 1), (19, .iload_n 2, 1), (20, .bipush 10, 2), (22, .if_icmp .gt 54, 3), (25, .aload_n 0, 1), (26, .invokevirtual 29, 3), (29, .ifCond .ne 8, 3), (32, .aload_n 0, 1), (33, .getfield 26, 3), (36, .ireturn, 1), (37, .aload_n 0, 1), (38, .getfield 26, 3), (41, .aload_n 0, 1), (42, .getfield 13, 3), (45, .if_icmp .ne 5, 3), (48, .iconst (-1), 1), (49, .ireturn, 1), (50, .iload_n 2, 1), (51, .bipush 10, 2), (53, .if_icmp .eq 12, 3), (56, .aload_n 0, 1), (57, .bipush 59, 2), (59, .invokevirtual 33, 3), (62, .ifCond .ne 8, 3), (65, .aload_n 0, 1), (66, .getfield 26, 3), (69, .ireturn, 1), (70, .iinc 2 1, 3), (73, .goto (-54), 3), (76, .aload_n 0, 1), (77, .getfield 26, 3), (80, .ireturn, 1)]
set_option maxRecDepth 20000 in
theorem DX5_readInto_0 : lX5_readInto_0.all (dq cX5_readInto) = true := by decide +kernel
def lX5_readsClause_0 : List (Nat × Instr × Nat) := [(0, .aload_n 0, 1), (1, .invokevirtual 37, 3), (4, .istore_n 1, 1), (5, .iload_n 1, 1), (6, .ifCond .lt 12, 3), (9, .aload_n 0, 1), (10, .bipush 32, 2), (12, .invokevirtual 33, 3), (15, .ifCond .ne 5, 3), (18, .iconst 0, 1), (19, .ireturn, 1), (20, .aload_n 0, 1), (21, .invokevirtual 41, 3), (24, .istore_n 2, 1), (25, .iload_n 2, 1), (26, .ifCond .ge 5, 3), (29, .iconst 0, 1), (30, .ireturn, 1), (31, .iload_n 1, 1), (32, .iconst 2, 1), (33, .if_icmp .ne 13, 3), (36, .aload_n 0, 1), (37, .getfield 17, 3), (40, .iload_n 2, 1), (41, .putfield 44, 3), (44, .iconst 1, 1), (45, .ireturn, 1), (46, .iload_n 1, 1), (47, .iconst 3, 1), (48, .if_icmp .ne 13, 3), (51, .aload_n 0, 1), (52, .getfield 17, 3), (55, .iload_n 2, 1), (56, .putfield 47, 3), (59, .iconst 1, 1), (60, .ireturn, 1), (61, .aload_n 0, 1), (62, .bipush 32, 2), (64, .invokevirtual 33, 3), (67, .ifCond .eq 11, 3), (70, .aload_n 0, 1), (71, .iconst 0, 1), (72, .invokevirtual 50, 3), (75, .ifCond .ne 5, 3), (78, .iconst 0, 1), (79, .ireturn, 1), (80, .aload_n 0, 1), (81, .getfield 17, 3), (84, .bipush 59, 2), (86, .iconst 0, 1)]
set_option maxRecDepth 20000 in
theorem DX5_readsClause_0 : lX5_readsClause_0.all (dq cX5_readsClause) = true := by decide +kernel
def lX5_readsClause_1 : List (Nat × Instr × Nat) := [(87, .iload_n 1, 1), (88, .ifCond .ne 7, 3), (91, .iload_n 2, 1), (92, .goto 5, 3), (95, .iload_n 2, 1), (96, .ineg, 1), (97, .invokevirtual 53, 3), (100, .iconst 1, 1), (101, .ireturn, 1)]
set_option maxRecDepth 20000 in
theorem DX5_readsClause_1 : lX5_readsClause_1.all (dq cX5_readsClause) = true := by decide +kernel
def lX5_readsAny_0 : List (Nat × Instr × Nat) := [(0, .aload_n 0, 1), (1, .iload_n 1, 1), (2, .invokevirtual 57, 3), (5, .ifCond .ne 5, 3), (8, .iconst 0, 1), (9, .ireturn, 1), (10, .iconst 0, 1), (11, .istore_n 2, 1), (12, .iload_n 2, 1), (13, .bipush 100, 2), (15, .if_icmp .ge 39, 3), (18, .aload_n 0, 1), (19, .bipush 124, 2), (21, .invokevirtual 33, 3), (24, .ifCond .eq 30, 3), (27, .aload_n 0, 1), (28, .iload_n 1, 1), (29, .invokevirtual 57, 3), (32, .ifCond .ne 5, 3), (35, .iconst 0, 1), (36, .ireturn, 1), (37, .aload_n 0, 1), (38, .getfield 17, 3), (41, .bipush 124, 2), (43, .iconst 0, 1), (44, .iconst 0, 1), (45, .invokevirtual 53, 3), (48, .iinc 2 1, 3), (51, .goto (-39), 3), (54, .iconst 1, 1), (55, .ireturn, 1)]
set_option maxRecDepth 20000 in
theorem DX5_readsAny_0 : lX5_readsAny_0.all (dq cX5_readsAny) = true := by decide +kernel
def lX5_readsAll_0 : List (Nat × Instr × Nat) := [(0, .aload_n 0, 1), (1, .iload_n 1, 1), (2, .invokevirtual 60, 3), (5, .ifCond .ne 5, 3), (8, .iconst 0, 1), (9, .ireturn, 1), (10, .iconst 0, 1), (11, .istore_n 2, 1), (12, .iload_n 2, 1), (13, .bipush 100, 2), (15, .if_icmp .ge 39, 3), (18, .aload_n 0, 1), (19, .bipush 38, 2), (21, .invokevirtual 33, 3), (24, .ifCond .eq 30, 3), (27, .aload_n 0, 1), (28, .iload_n 1, 1), (29, .invokevirtual 60, 3), (32, .ifCond .ne 5, 3), (35, .iconst 0, 1), (36, .ireturn, 1), (37, .aload_n 0, 1), (38, .getfield 17, 3), (41, .bipush 38, 2), (43, .iconst 0, 1), (44, .iconst 0, 1), (45, .invokevirtual 53, 3), (48, .iinc 2 1, 3), (51, .goto (-39), 3), (54, .iconst 1, 1), (55, .ireturn, 1)]
set_option maxRecDepth 20000 in
theorem DX5_readsAll_0 : lX5_readsAll_0.all (dq cX5_readsAll) = true := by decide +kernel
def lX5_readsOne_0 : List (Nat × Instr × Nat) := [(0, .iload_n 1, 1), (1, .iconst 4, 1), (2, .if_icmp .ge 37, 3), (5, .aload_n 0, 1), (6, .bipush 33, 2), (8, .invokevirtual 33, 3), (11, .ifCond .eq 28, 3), (14, .aload_n 0, 1), (15, .iload_n 1, 1), (16, .iconst 1, 1), (17, .iadd, 1), (18, .invokevirtual 60, 3), (21, .ifCond .ne 5, 3), (24, .iconst 0, 1), (25, .ireturn, 1), (26, .aload_n 0, 1), (27, .getfield 17, 3), (30, .bipush 33, 2), (32, .iconst 0, 1), (33, .iconst 0, 1), (34, .invokevirtual 53, 3), (37, .iconst 1, 1), (38, .ireturn, 1), (39, .iload_n 1, 1), (40, .iconst 4, 1), (41, .if_icmp .ge 37, 3), (44, .aload_n 0, 1), (45, .bipush 40, 2), (47, .invokevirtual 33, 3), (50, .ifCond .eq 28, 3), (53, .aload_n 0, 1), (54, .iload_n 1, 1), (55, .iconst 1, 1), (56, .iadd, 1), (57, .invokevirtual 50, 3), (60, .ifCond .eq 16, 3), (63, .aload_n 0, 1), (64, .bipush 41, 2), (66, .invokevirtual 33, 3), (69, .ifCond .eq 7, 3), (72, .iconst 1, 1), (73, .goto 4, 3), (76, .iconst 0, 1), (77, .ireturn, 1), (78, .aload_n 0, 1), (79, .getfield 26, 3), (82, .aload_n 0, 1), (83, .getfield 13, 3), (86, .if_icmp .ge 21, 3), (89, .ldc 63, 2)]
set_option maxRecDepth 20000 in
theorem DX5_readsOne_0 : lX5_readsOne_0.all (dq cX5_readsOne) = true := by decide +kernel
def lX5_readsOne_1 : List (Nat × Instr × Nat) := [(91, .aload_n 0, 1), (92, .getfield 9, 3), (95, .aload_n 0, 1), (96, .getfield 26, 3), (99, .baload, 1), (100, .i2c, 1), (101, .invokevirtual 65, 3), (104, .goto 4, 3), (107, .iconst (-1), 1), (108, .istore_n 2, 1), (109, .iload_n 2, 1), (110, .ifCond .ge 5, 3), (113, .iconst 0, 1), (114, .ireturn, 1), (115, .aload_n 0, 1), (116, .dup, 1), (117, .getfield 26, 3), (120, .iconst 1, 1), (121, .iadd, 1), (122, .putfield 26, 3), (125, .aload_n 0, 1), (126, .getfield 26, 3), (129, .aload_n 0, 1), (130, .getfield 13, 3), (133, .if_icmp .ge 15, 3), (136, .aload_n 0, 1), (137, .getfield 9, 3), (140, .aload_n 0, 1), (141, .getfield 26, 3), (144, .baload, 1), (145, .goto 4, 3), (148, .iconst 0, 1), (149, .istore_n 3, 1), (150, .aload_n 0, 1), (151, .bipush 60, 2), (153, .invokevirtual 33, 3), (156, .ifCond .ne 23, 3), (159, .aload_n 0, 1), (160, .bipush 61, 2), (162, .invokevirtual 33, 3), (165, .ifCond .ne 14, 3), (168, .aload_n 0, 1), (169, .bipush 62, 2), (171, .invokevirtual 33, 3), (174, .ifCond .ne 5, 3), (177, .iconst 0, 1), (178, .ireturn, 1), (179, .aload_n 0, 1), (180, .invokevirtual 41, 3), (183, .istore 4, 2)]
set_option maxRecDepth 20000 in
theorem DX5_readsOne_1 : lX5_readsOne_1.all (dq cX5_readsOne) = true := by decide +kernel
def lX5_readsOne_2 : List (Nat × Instr × Nat) := [(185, .iload 4, 2), (187, .ifCond .ge 5, 3), (190, .iconst 0, 1), (191, .ireturn, 1), (192, .aload_n 0, 1), (193, .getfield 17, 3), (196, .iload_n 3, 1), (197, .iload_n 2, 1), (198, .iload 4, 2), (200, .invokevirtual 53, 3), (203, .iconst 1, 1), (204, .ireturn, 1)]
set_option maxRecDepth 20000 in
theorem DX5_readsOne_2 : lX5_readsOne_2.all (dq cX5_readsOne) = true := by decide +kernel
def lX5_takes_0 : List (Nat × Instr × Nat) := [(0, .aload_n 0, 1), (1, .getfield 26, 3), (4, .aload_n 0, 1), (5, .getfield 13, 3), (8, .if_icmp .ge 28, 3), (11, .aload_n 0, 1), (12, .getfield 9, 3), (15, .aload_n 0, 1), (16, .getfield 26, 3), (19, .baload, 1), (20, .iload_n 1, 1), (21, .if_icmp .ne 15, 3), (24, .aload_n 0, 1), (25, .dup, 1), (26, .getfield 26, 3), (29, .iconst 1, 1), (30, .iadd, 1), (31, .putfield 26, 3), (34, .iconst 1, 1), (35, .ireturn, 1), (36, .iconst 0, 1), (37, .ireturn, 1)]
set_option maxRecDepth 20000 in
theorem DX5_takes_0 : lX5_takes_0.all (dq cX5_takes) = true := by decide +kernel
def lX5_takesWord_0 : List (Nat × Instr × Nat) := [(0, .iconst 0, 1), (1, .istore_n 1, 1), (2, .iconst 0, 1), (3, .istore_n 2, 1), (4, .iload_n 2, 1), (5, .iconst 3, 1), (6, .if_icmp .gt 82, 3), (9, .iconst 0, 1), (10, .istore_n 3, 1), (11, .iload_n 3, 1), (12, .iconst 4, 1), (13, .if_icmp .ge 46, 3), (16, .aload_n 0, 1), (17, .getfield 26, 3), (20, .iload_n 3, 1), (21, .iadd, 1), (22, .aload_n 0, 1), (23, .getfield 13, 3), (26, .if_icmp .ge 33, 3), (29, .aload_n 0, 1), (30, .getfield 9, 3), (33, .aload_n 0, 1), (34, .getfield 26, 3), (37, .iload_n 3, 1), (38, .iadd, 1), (39, .baload, 1), (40, .ldc 71, 2), (42, .iconst 4, 1), (43, .iload_n 2, 1), (44, .imul, 1), (45, .iload_n 3, 1), (46, .iadd, 1), (47, .invokevirtual 73, 3), (50, .if_icmp .ne 9, 3), (53, .iinc 3 1, 3), (56, .goto (-45), 3), (59, .iload_n 3, 1), (60, .iconst 4, 1), (61, .if_icmp .ne 15, 3), (64, .aload_n 0, 1), (65, .dup, 1), (66, .getfield 26, 3), (69, .iconst 4, 1), (70, .iadd, 1), (71, .putfield 26, 3), (74, .iload_n 2, 1), (75, .ireturn, 1), (76, .iload_n 1, 1), (77, .iload_n 3, 1), (78, .invokestatic 77, 3)]
set_option maxRecDepth 20000 in
theorem DX5_takesWord_0 : lX5_takesWord_0.all (dq cX5_takesWord) = true := by decide +kernel
def lX5_takesWord_1 : List (Nat × Instr × Nat) := [(81, .istore_n 1, 1), (82, .iinc 2 1, 3), (85, .goto (-81), 3), (88, .aload_n 0, 1), (89, .dup, 1), (90, .getfield 26, 3), (93, .iload_n 1, 1), (94, .iadd, 1), (95, .putfield 26, 3), (98, .iconst (-1), 1), (99, .ireturn, 1)]
set_option maxRecDepth 20000 in
theorem DX5_takesWord_1 : lX5_takesWord_1.all (dq cX5_takesWord) = true := by decide +kernel
def lX5_takesNumber_0 : List (Nat × Instr × Nat) := [(0, .iconst (-1), 1), (1, .istore_n 1, 1), (2, .iconst 0, 1), (3, .istore_n 2, 1), (4, .iload_n 2, 1), (5, .iconst 2, 1), (6, .if_icmp .ge 80, 3), (9, .aload_n 0, 1), (10, .getfield 26, 3), (13, .aload_n 0, 1), (14, .getfield 13, 3), (17, .if_icmp .ge 69, 3), (20, .aload_n 0, 1), (21, .getfield 9, 3), (24, .aload_n 0, 1), (25, .getfield 26, 3), (28, .baload, 1), (29, .bipush 48, 2), (31, .if_icmp .lt 55, 3), (34, .aload_n 0, 1), (35, .getfield 9, 3), (38, .aload_n 0, 1), (39, .getfield 26, 3), (42, .baload, 1), (43, .bipush 57, 2), (45, .if_icmp .gt 41, 3), (48, .iload_n 1, 1), (49, .iconst 0, 1), (50, .invokestatic 77, 3), (53, .bipush 10, 2), (55, .imul, 1), (56, .aload_n 0, 1), (57, .getfield 9, 3), (60, .aload_n 0, 1), (61, .getfield 26, 3), (64, .baload, 1), (65, .iadd, 1), (66, .bipush 48, 2), (68, .isub, 1), (69, .istore_n 1, 1), (70, .aload_n 0, 1), (71, .dup, 1), (72, .getfield 26, 3), (75, .iconst 1, 1), (76, .iadd, 1), (77, .putfield 26, 3), (80, .iinc 2 1, 3), (83, .goto (-79), 3), (86, .iload_n 1, 1), (87, .ireturn, 1)]
set_option maxRecDepth 20000 in
theorem DX5_takesNumber_0 : lX5_takesNumber_0.all (dq cX5_takesNumber) = true := by decide +kernel
def lX6_init_0 : List (Nat × Instr × Nat) := [(0, .aload_n 0, 1), (1, .invokespecial 3, 3), (4, .new 9, 3), (7, .dup, 1), (8, .invokespecial 11, 3), (11, .astore_n 1, 1), (12, .aload_n 0, 1), (13, .new 12, 3), (16, .dup, 1), (17, .aload_n 1, 1), (18, .invokespecial 14, 3), (21, .putfield 17, 3), (24, .aload_n 0, 1), (25, .new 12, 3), (28, .dup, 1), (29, .aload_n 1, 1), (30, .invokespecial 14, 3), (33, .putfield 23, 3), (36, .aload_n 0, 1), (37, .new 12, 3), (40, .dup, 1), (41, .aload_n 1, 1), (42, .invokespecial 14, 3), (45, .putfield 26, 3), (48, .aload_n 0, 1), (49, .new 29, 3), (52, .dup, 1), (53, .iconst 5, 1), (54, .invokespecial 31, 3), (57, .putfield 34, 3), (60, .aload_n 0, 1), (61, .new 29, 3), (64, .dup, 1), (65, .bipush 10, 2), (67, .invokespecial 31, 3), (70, .putfield 38, 3), (73, .aload_n 0, 1), (74, .new 29, 3), (77, .dup, 1), (78, .bipush 8, 2), (80, .invokespecial 31, 3), (83, .putfield 41, 3), (86, .aload_n 0, 1), (87, .new 29, 3), (90, .dup, 1), (91, .iconst 5, 1), (92, .invokespecial 31, 3), (95, .putfield 44, 3), (98, .aload_n 0, 1), (99, .new 29, 3)]
set_option maxRecDepth 20000 in
theorem DX6_init_0 : lX6_init_0.all (dq cX6_init) = true := by decide +kernel
def lX6_init_1 : List (Nat × Instr × Nat) := [(102, .dup, 1), (103, .bipush 10, 2), (105, .invokespecial 31, 3), (108, .putfield 47, 3), (111, .aload_n 0, 1), (112, .new 29, 3), (115, .dup, 1), (116, .bipush 8, 2), (118, .invokespecial 31, 3), (121, .putfield 50, 3), (124, .aload_n 0, 1), (125, .bipush 6, 2), (127, .anewarray 9, 3), (130, .putfield 53, 3), (133, .iconst 0, 1), (134, .istore_n 2, 1), (135, .iload_n 2, 1), (136, .bipush 6, 2), (138, .if_icmp .ge 22, 3), (141, .aload_n 0, 1), (142, .getfield 53, 3), (145, .iload_n 2, 1), (146, .new 9, 3), (149, .dup, 1), (150, .invokespecial 11, 3), (153, .aastore, 1), (154, .iinc 2 1, 3), (157, .goto (-22), 3), (160, .aload_n 0, 1), (161, .new 57, 3), (164, .dup, 1), (165, .invokespecial 59, 3), (168, .putfield 60, 3), (171, .aload_n 0, 1), (172, .new 64, 3), (175, .dup, 1), (176, .invokespecial 66, 3), (179, .putfield 67, 3), (182, .aload_n 0, 1), (183, .bipush 6, 2), (185, .anewarray 71, 3), (188, .putfield 73, 3), (191, .iconst 0, 1), (192, .istore_n 2, 1), (193, .iload_n 2, 1), (194, .bipush 6, 2), (196, .if_icmp .ge 22, 3), (199, .aload_n 0, 1), (200, .getfield 73, 3), (203, .iload_n 2, 1)]
set_option maxRecDepth 20000 in
theorem DX6_init_1 : lX6_init_1.all (dq cX6_init) = true := by decide +kernel
def lX6_init_2 : List (Nat × Instr × Nat) := [(204, .new 71, 3), (207, .dup, 1), (208, .invokespecial 77, 3), (211, .aastore, 1), (212, .iinc 2 1, 3), (215, .goto (-22), 3), (218, .return_, 1)]
set_option maxRecDepth 20000 in
theorem DX6_init_2 : lX6_init_2.all (dq cX6_init) = true := by decide +kernel
def lX6_piece_0 : List (Nat × Instr × Nat) := [(0, .iload_n 1, 1), (1, .iconst 0, 1), (2, .bipush 6, 2), (4, .invokestatic 78, 3), (7, .ifCond .ne 5, 3), (10, .iconst (-1), 1), (11, .ireturn, 1), (12, .iload_n 2, 1), (13, .iconst 0, 1), (14, .bipush 9, 2), (16, .invokestatic 78, 3), (19, .ifCond .eq 13, 3), (22, .iload_n 3, 1), (23, .iconst 1, 1), (24, .bipush 99, 2), (26, .invokestatic 78, 3), (29, .ifCond .ne 6, 3), (32, .bipush (-2), 2), (34, .ireturn, 1), (35, .aload_n 0, 1), (36, .getfield 17, 3), (39, .getfield 82, 3), (42, .bipush 6, 2), (44, .if_icmp .lt 6, 3), (47, .bipush (-4), 2), (49, .ireturn, 1), (50, .aload_n 0, 1), (51, .getfield 17, 3), (54, .iload_n 1, 1), (55, .iload_n 2, 1), (56, .iload_n 3, 1), (57, .invokevirtual 86, 3), (60, .ireturn, 1)]
set_option maxRecDepth 20000 in
theorem DX6_piece_0 : lX6_piece_0.all (dq cX6_piece) = true := by decide +kernel
def lX6_of_0 : List (Nat × Instr × Nat) := [(0, .aload_n 0, 1), (1, .getfield 17, 3), (4, .iload_n 1, 1), (5, .invokevirtual 90, 3), (8, .ifCond .eq 13, 3), (11, .iload_n 2, 1), (12, .iconst 0, 1), (13, .bipush 9, 2), (15, .invokestatic 78, 3), (18, .ifCond .ne 7, 3), (21, .sipush (-1001), 3), (24, .ireturn, 1), (25, .iload_n 2, 1), (26, .tableswitch 117 0 6 #[42, 52, 62, 72, 82, 92, 108], 42), (68, .aload_n 0, 1), (69, .getfield 17, 3), (72, .getfield 94, 3), (75, .iload_n 1, 1), (76, .iaload, 1), (77, .ireturn, 1), (78, .aload_n 0, 1), (79, .getfield 17, 3), (82, .getfield 98, 3), (85, .iload_n 1, 1), (86, .iaload, 1), (87, .ireturn, 1), (88, .aload_n 0, 1), (89, .getfield 17, 3), (92, .getfield 101, 3), (95, .iload_n 1, 1), (96, .iaload, 1), (97, .ireturn, 1), (98, .aload_n 0, 1), (99, .getfield 17, 3), (102, .getfield 104, 3), (105, .iload_n 1, 1), (106, .iaload, 1), (107, .ireturn, 1), (108, .aload_n 0, 1), (109, .getfield 17, 3), (112, .getfield 107, 3), (115, .iload_n 1, 1), (116, .iaload, 1), (117, .ireturn, 1), (118, .aload_n 0, 1), (119, .getfield 17, 3), (122, .getfield 110, 3), (125, .aload_n 0, 1), (126, .getfield 17, 3), (129, .iload_n 1, 1)]
set_option maxRecDepth 20000 in
theorem DX6_of_0 : lX6_of_0.all (dq cX6_of) = true := by decide +kernel
def lX6_of_1 : List (Nat × Instr × Nat) := [(130, .invokevirtual 114, 3), (133, .ireturn, 1), (134, .aload_n 0, 1), (135, .getfield 17, 3), (138, .iload_n 1, 1), (139, .invokevirtual 118, 3), (142, .ireturn, 1), (143, .aload_n 0, 1), (144, .getfield 17, 3), (147, .iload_n 1, 1), (148, .invokevirtual 122, 3), (151, .istore_n 3, 1), (152, .iload_n 3, 1), (153, .ifCond .ge 6, 3), (156, .bipush (-5), 2), (158, .ireturn, 1), (159, .iload_n 2, 1), (160, .bipush 7, 2), (162, .if_icmp .ne 7, 3), (165, .iload_n 3, 1), (166, .goto 28, 3), (169, .iload_n 2, 1), (170, .bipush 8, 2), (172, .if_icmp .ne 14, 3), (175, .aload_n 0, 1), (176, .getfield 17, 3), (179, .iload_n 3, 1), (180, .invokevirtual 125, 3), (183, .goto 11, 3), (186, .aload_n 0, 1), (187, .getfield 17, 3), (190, .iload_n 3, 1), (191, .invokevirtual 128, 3), (194, .ireturn, 1)]
set_option maxRecDepth 20000 in
theorem DX6_of_1 : lX6_of_1.all (dq cX6_of) = true := by decide +kernel
def lX6_set_0 : List (Nat × Instr × Nat) := [(0, .aload_n 0, 1), (1, .getfield 17, 3), (4, .iload_n 1, 1), (5, .invokevirtual 90, 3), (8, .ifCond .eq 12, 3), (11, .iload_n 2, 1), (12, .iconst 0, 1), (13, .iconst 1, 1), (14, .invokestatic 78, 3), (17, .ifCond .ne 5, 3), (20, .iconst (-1), 1), (21, .ireturn, 1), (22, .iload_n 3, 1), (23, .iconst 0, 1), (24, .bipush 99, 2), (26, .invokestatic 78, 3), (29, .ifCond .ne 6, 3), (32, .bipush (-2), 2), (34, .ireturn, 1), (35, .iload_n 2, 1), (36, .ifCond .ne 13, 3), (39, .aload_n 0, 1), (40, .getfield 17, 3), (43, .getfield 101, 3), (46, .goto 10, 3), (49, .aload_n 0, 1), (50, .getfield 17, 3), (53, .getfield 104, 3), (56, .astore 4, 2), (58, .aload 4, 2), (60, .iload_n 1, 1), (61, .iaload, 1), (62, .istore 5, 2), (64, .aload 4, 2), (66, .iload_n 1, 1), (67, .iload_n 3, 1), (68, .iastore, 1), (69, .iload 5, 2), (71, .ireturn, 1)]
set_option maxRecDepth 20000 in
theorem DX6_set_0 : lX6_set_0.all (dq cX6_set) = true := by decide +kernel
def lX6_row_0 : List (Nat × Instr × Nat) := [(0, .aload_n 0, 1), (1, .getfield 17, 3), (4, .iload_n 1, 1), (5, .invokevirtual 90, 3), (8, .ifCond .eq 12, 3), (11, .iload_n 2, 1), (12, .iconst 0, 1), (13, .iconst 3, 1), (14, .invokestatic 78, 3), (17, .ifCond .ne 5, 3), (20, .iconst (-1), 1), (21, .ireturn, 1), (22, .iload_n 3, 1), (23, .iconst 0, 1), (24, .bipush 9, 2), (26, .invokestatic 78, 3), (29, .ifCond .ne 6, 3), (32, .bipush (-2), 2), (34, .ireturn, 1), (35, .aload_n 0, 1), (36, .getfield 17, 3), (39, .getfield 94, 3), (42, .iload_n 1, 1), (43, .iaload, 1), (44, .bipush 6, 2), (46, .if_icmp .eq 6, 3), (49, .bipush (-3), 2), (51, .ireturn, 1), (52, .aload_n 0, 1), (53, .getfield 17, 3), (56, .getfield 131, 3), (59, .iconst 4, 1), (60, .iload_n 1, 1), (61, .imul, 1), (62, .iload_n 2, 1), (63, .iadd, 1), (64, .iaload, 1), (65, .istore 4, 2), (67, .aload_n 0, 1), (68, .getfield 17, 3), (71, .getfield 131, 3), (74, .iconst 4, 1), (75, .iload_n 1, 1), (76, .imul, 1), (77, .iload_n 2, 1), (78, .iadd, 1), (79, .iload_n 3, 1), (80, .iastore, 1), (81, .iload 4, 2), (83, .ireturn, 1)]
set_option maxRecDepth 20000 in
theorem DX6_row_0 : lX6_row_0.all (dq cX6_row) = true := by decide +kernel
def lX6_hoist_0 : List (Nat × Instr × Nat) := [(0, .aload_n 0, 1), (1, .getfield 17, 3), (4, .iload_n 1, 1), (5, .invokevirtual 90, 3), (8, .ifCond .ne 5, 3), (11, .iconst (-1), 1), (12, .ireturn, 1), (13, .aload_n 0, 1), (14, .getfield 17, 3), (17, .iload_n 1, 1), (18, .invokevirtual 122, 3), (21, .ifCond .lt 6, 3), (24, .bipush (-3), 2), (26, .ireturn, 1), (27, .aload_n 0, 1), (28, .getfield 17, 3), (31, .getfield 134, 3), (34, .iconst 3, 1), (35, .if_icmp .lt 6, 3), (38, .bipush (-4), 2), (40, .ireturn, 1), (41, .aload_n 0, 1), (42, .getfield 17, 3), (45, .iload_n 1, 1), (46, .invokevirtual 137, 3), (49, .aload_n 0, 1), (50, .getfield 17, 3), (53, .getfield 134, 3), (56, .ireturn, 1)]
set_option maxRecDepth 20000 in
theorem DX6_hoist_0 : lX6_hoist_0.all (dq cX6_hoist) = true := by decide +kernel
def lX6_lower_0 : List (Nat × Instr × Nat) := [(0, .aload_n 0, 1), (1, .getfield 17, 3), (4, .iload_n 1, 1), (5, .invokevirtual 90, 3), (8, .ifCond .ne 5, 3), (11, .iconst (-1), 1), (12, .ireturn, 1), (13, .aload_n 0, 1), (14, .getfield 17, 3), (17, .iload_n 1, 1), (18, .invokevirtual 122, 3), (21, .istore_n 2, 1), (22, .iload_n 2, 1), (23, .ifCond .ge 6, 3), (26, .bipush (-3), 2), (28, .ireturn, 1), (29, .aload_n 0, 1), (30, .getfield 17, 3), (33, .iload_n 2, 1), (34, .putfield 134, 3), (37, .iload_n 2, 1), (38, .ireturn, 1)]
set_option maxRecDepth 20000 in
theorem DX6_lower_0 : lX6_lower_0.all (dq cX6_lower) = true := by decide +kernel
def lX6_trim_0 : List (Nat × Instr × Nat) := [(0, .iload_n 1, 1), (1, .iconst 0, 1), (2, .iconst 1, 1), (3, .invokestatic 78, 3), (6, .ifCond .ne 5, 3), (9, .iconst (-1), 1), (10, .ireturn, 1), (11, .iload_n 2, 1), (12, .iconst 0, 1), (13, .bipush 9, 2), (15, .invokestatic 78, 3), (18, .ifCond .ne 6, 3), (21, .bipush (-2), 2), (23, .ireturn, 1), (24, .iload_n 1, 1), (25, .ifCond .ne 13, 3), (28, .aload_n 0, 1), (29, .getfield 17, 3), (32, .getfield 140, 3), (35, .goto 10, 3), (38, .aload_n 0, 1), (39, .getfield 17, 3), (42, .getfield 143, 3), (45, .istore_n 3, 1), (46, .iload_n 1, 1), (47, .ifCond .ne 14, 3), (50, .aload_n 0, 1), (51, .getfield 17, 3), (54, .iload_n 2, 1), (55, .putfield 140, 3), (58, .goto 11, 3), (61, .aload_n 0, 1), (62, .getfield 17, 3), (65, .iload_n 2, 1), (66, .putfield 143, 3), (69, .iload_n 3, 1), (70, .ireturn, 1)]
set_option maxRecDepth 20000 in
theorem DX6_trim_0 : lX6_trim_0.all (dq cX6_trim) = true := by decide +kernel
def lX6_feed_0 : List (Nat × Instr × Nat) := [(0, .iload_n 1, 1), (1, .iconst 0, 1), (2, .bipush 127, 2), (4, .invokestatic 78, 3), (7, .ifCond .ne 6, 3), (10, .bipush (-2), 2), (12, .ireturn, 1), (13, .aload_n 0, 1), (14, .getfield 60, 3), (17, .iload_n 1, 1), (18, .i2b, 1), (19, .invokevirtual 146, 3), (22, .ifCond .eq 13, 3), (25, .aload_n 0, 1), (26, .getfield 60, 3), (29, .getfield 150, 3), (32, .goto 5, 3), (35, .bipush (-4), 2), (37, .ireturn, 1)]
set_option maxRecDepth 20000 in
theorem DX6_feed_0 : lX6_feed_0.all (dq cX6_feed) = true := by decide +kernel
def lX6_ocean_0 : List (Nat × Instr × Nat) := [(0, .aload_n 0, 1), (1, .getfield 153, 3), (4, .bipush 6, 2), (6, .if_icmp .lt 6, 3), (9, .bipush (-4), 2), (11, .ireturn, 1), (12, .aload_n 0, 1), (13, .getfield 60, 3), (16, .aload_n 0, 1), (17, .getfield 53, 3), (20, .aload_n 0, 1), (21, .getfield 153, 3), (24, .aaload, 1), (25, .invokevirtual 156, 3), (28, .istore_n 1, 1), (29, .aload_n 0, 1), (30, .getfield 60, 3), (33, .iconst 0, 1), (34, .putfield 150, 3), (37, .iload_n 1, 1), (38, .ifCond .lt 8, 3), (41, .bipush (-10), 2), (43, .iload_n 1, 1), (44, .isub, 1), (45, .ireturn, 1), (46, .aload_n 0, 1), (47, .getfield 17, 3), (50, .aload_n 0, 1), (51, .getfield 53, 3), (54, .aload_n 0, 1), (55, .getfield 153, 3), (58, .aaload, 1), (59, .putfield 110, 3), (62, .aload_n 0, 1), (63, .dup, 1), (64, .getfield 153, 3), (67, .iconst 1, 1), (68, .iadd, 1), (69, .putfield 153, 3), (72, .aload_n 0, 1), (73, .getfield 153, 3), (76, .iconst 1, 1), (77, .isub, 1), (78, .ireturn, 1)]
set_option maxRecDepth 20000 in
theorem DX6_ocean_0 : lX6_ocean_0.all (dq cX6_ocean) = true := by decide +kernel
def lX6_told_0 : List (Nat × Instr × Nat) := [(0, .iload_n 1, 1), (1, .tableswitch 117 0 7 #[47, 55, 66, 77, 85, 93, 101, 109], 47), (48, .aload_n 0, 1), (49, .getfield 17, 3), (52, .getfield 160, 3), (55, .ireturn, 1), (56, .aload_n 0, 1), (57, .getfield 17, 3), (60, .getfield 110, 3), (63, .getfield 163, 3), (66, .ireturn, 1), (67, .aload_n 0, 1), (68, .getfield 17, 3), (71, .getfield 110, 3), (74, .getfield 166, 3), (77, .ireturn, 1), (78, .aload_n 0, 1), (79, .getfield 17, 3), (82, .getfield 140, 3), (85, .ireturn, 1), (86, .aload_n 0, 1), (87, .getfield 17, 3), (90, .getfield 143, 3), (93, .ireturn, 1), (94, .aload_n 0, 1), (95, .getfield 17, 3), (98, .getfield 169, 3), (101, .ireturn, 1), (102, .aload_n 0, 1), (103, .getfield 17, 3), (106, .invokevirtual 172, 3), (109, .ireturn, 1), (110, .aload_n 0, 1), (111, .getfield 17, 3), (114, .invokevirtual 176, 3), (117, .ireturn, 1), (118, .iload_n 1, 1), (119, .bipush 10, 2), (121, .bipush 9, 2), (123, .aload_n 0, 1), (124, .getfield 17, 3), (127, .getfield 134, 3), (130, .iadd, 1), (131, .invokestatic 78, 3), (134, .ifCond .eq 18, 3), (137, .aload_n 0, 1), (138, .getfield 17, 3), (141, .getfield 179, 3), (144, .iload_n 1, 1), (145, .bipush 10, 2)]
set_option maxRecDepth 20000 in
theorem DX6_told_0 : lX6_told_0.all (dq cX6_told) = true := by decide +kernel
def lX6_told_1 : List (Nat × Instr × Nat) := [(147, .isub, 1), (148, .iaload, 1), (149, .goto 4, 3), (152, .iconst (-1), 1), (153, .ireturn, 1)]
set_option maxRecDepth 20000 in
theorem DX6_told_1 : lX6_told_1.all (dq cX6_told) = true := by decide +kernel
def lX6_pass_0 : List (Nat × Instr × Nat) := [(0, .iload_n 1, 1), (1, .iconst 0, 1), (2, .bipush 60, 2), (4, .invokestatic 78, 3), (7, .ifCond .ne 6, 3), (10, .bipush (-2), 2), (12, .ireturn, 1), (13, .aload_n 0, 1), (14, .getfield 17, 3), (17, .getfield 160, 3), (20, .iload_n 1, 1), (21, .iadd, 1), (22, .sipush 9999, 3), (25, .if_icmp .le 6, 3), (28, .bipush (-3), 2), (30, .ireturn, 1), (31, .iconst 0, 1), (32, .istore_n 2, 1), (33, .iload_n 2, 1), (34, .iload_n 1, 1), (35, .if_icmp .ge 17, 3), (38, .aload_n 0, 1), (39, .getfield 17, 3), (42, .invokevirtual 182, 3), (45, .pop, 1), (46, .iinc 2 1, 3), (49, .goto (-16), 3), (52, .aload_n 0, 1), (53, .getfield 17, 3), (56, .getfield 169, 3), (59, .ireturn, 1)]
set_option maxRecDepth 20000 in
theorem DX6_pass_0 : lX6_pass_0.all (dq cX6_pass) = true := by decide +kernel
def lX6_on_0 : List (Nat × Instr × Nat) := [(0, .iload_n 2, 1), (1, .bipush 10, 2), (3, .bipush 9, 2), (5, .aload_n 0, 1), (6, .getfield 17, 3), (9, .getfield 82, 3), (12, .iadd, 1), (13, .invokestatic 78, 3), (16, .istore_n 3, 1), (17, .iload_n 2, 1), (18, .bipush 20, 2), (20, .bipush 19, 2), (22, .aload_n 0, 1), (23, .getfield 17, 3), (26, .getfield 82, 3), (29, .iadd, 1), (30, .invokestatic 78, 3), (33, .istore 4, 2), (35, .iload_n 2, 1), (36, .iconst 0, 1), (37, .iconst 2, 1), (38, .invokestatic 78, 3), (41, .ifCond .ne 14, 3), (44, .iload_n 3, 1), (45, .ifCond .ne 10, 3), (48, .iload 4, 2), (50, .ifCond .ne 5, 3), (53, .iconst (-1), 1), (54, .ireturn, 1), (55, .iload_n 1, 1), (56, .iconst 0, 1), (57, .bipush 60, 2), (59, .invokestatic 78, 3), (62, .ifCond .ne 6, 3), (65, .bipush (-2), 2), (67, .ireturn, 1), (68, .aload_n 0, 1), (69, .getfield 26, 3), (72, .aload_n 0, 1), (73, .getfield 17, 3), (76, .invokevirtual 185, 3), (79, .iconst 0, 1), (80, .istore 5, 2), (82, .iload 5, 2), (84, .iload_n 1, 1), (85, .if_icmp .ge 17, 3), (88, .aload_n 0, 1), (89, .getfield 26, 3), (92, .invokevirtual 182, 3), (95, .pop, 1)]
set_option maxRecDepth 20000 in
theorem DX6_on_0 : lX6_on_0.all (dq cX6_on) = true := by decide +kernel
def lX6_on_1 : List (Nat × Instr × Nat) := [(96, .iinc 5 1, 3), (99, .goto (-17), 3), (102, .iload_n 3, 1), (103, .ifCond .eq 16, 3), (106, .aload_n 0, 1), (107, .getfield 26, 3), (110, .getfield 101, 3), (113, .iload_n 2, 1), (114, .bipush 10, 2), (116, .isub, 1), (117, .iaload, 1), (118, .ireturn, 1), (119, .iload 4, 2), (121, .ifCond .eq 16, 3), (124, .aload_n 0, 1), (125, .getfield 26, 3), (128, .getfield 104, 3), (131, .iload_n 2, 1), (132, .bipush 20, 2), (134, .isub, 1), (135, .iaload, 1), (136, .ireturn, 1), (137, .iload_n 2, 1), (138, .ifCond .ne 13, 3), (141, .aload_n 0, 1), (142, .getfield 26, 3), (145, .getfield 169, 3), (148, .goto 25, 3), (151, .iload_n 2, 1), (152, .iconst 1, 1), (153, .if_icmp .ne 13, 3), (156, .aload_n 0, 1), (157, .getfield 26, 3), (160, .invokevirtual 172, 3), (163, .goto 10, 3), (166, .aload_n 0, 1), (167, .getfield 26, 3), (170, .getfield 134, 3), (173, .ireturn, 1)]
set_option maxRecDepth 20000 in
theorem DX6_on_1 : lX6_on_1.all (dq cX6_on) = true := by decide +kernel
def lX6_first_0 : List (Nat × Instr × Nat) := [(0, .iload_n 1, 1), (1, .iconst 0, 1), (2, .iconst 1, 1), (3, .invokestatic 78, 3), (6, .ifCond .ne 5, 3), (9, .iconst (-1), 1), (10, .ireturn, 1), (11, .aload_n 0, 1), (12, .getfield 26, 3), (15, .aload_n 0, 1), (16, .getfield 17, 3), (19, .invokevirtual 185, 3), (22, .iconst 0, 1), (23, .istore_n 2, 1), (24, .iload_n 2, 1), (25, .bipush 60, 2), (27, .if_icmp .gt 31, 3), (30, .aload_n 0, 1), (31, .getfield 26, 3), (34, .invokevirtual 182, 3), (37, .istore_n 3, 1), (38, .iload_n 3, 1), (39, .ifCond .lt 13, 3), (42, .iload_n 1, 1), (43, .ifCond .ne 7, 3), (46, .iload_n 2, 1), (47, .goto 4, 3), (50, .iload_n 3, 1), (51, .ireturn, 1), (52, .iinc 2 1, 3), (55, .goto (-31), 3), (58, .bipush (-5), 2), (60, .ireturn, 1)]
set_option maxRecDepth 20000 in
theorem DX6_first_0 : lX6_first_0.all (dq cX6_first) = true := by decide +kernel
def lX6_port_0 : List (Nat × Instr × Nat) := [(0, .iload_n 1, 1), (1, .iconst 0, 1), (2, .sipush 9999, 3), (5, .invokestatic 78, 3), (8, .ifCond .ne 6, 3), (11, .bipush (-2), 2), (13, .ireturn, 1), (14, .aload_n 0, 1), (15, .getfield 26, 3), (18, .aload_n 0, 1), (19, .getfield 17, 3), (22, .invokevirtual 185, 3), (25, .iconst 0, 1), (26, .istore_n 2, 1), (27, .iload_n 2, 1), (28, .bipush 99, 2), (30, .if_icmp .gt 30, 3), (33, .aload_n 0, 1), (34, .getfield 26, 3), (37, .getfield 169, 3), (40, .iload_n 1, 1), (41, .if_icmp .lt 5, 3), (44, .iload_n 2, 1), (45, .ireturn, 1), (46, .aload_n 0, 1), (47, .getfield 26, 3), (50, .invokevirtual 182, 3), (53, .pop, 1), (54, .iinc 2 1, 3), (57, .goto (-30), 3), (60, .bipush (-5), 2), (62, .ireturn, 1)]
set_option maxRecDepth 20000 in
theorem DX6_port_0 : lX6_port_0.all (dq cX6_port) = true := by decide +kernel
def lX6_spread_0 : List (Nat × Instr × Nat) := [(0, .iconst (-1), 1), (1, .istore_n 1, 1), (2, .iconst 0, 1), (3, .istore_n 2, 1), (4, .iconst 0, 1), (5, .istore_n 3, 1), (6, .iload_n 3, 1), (7, .bipush 9, 2), (9, .if_icmp .gt 73, 3), (12, .aload_n 0, 1), (13, .getfield 26, 3), (16, .aload_n 0, 1), (17, .getfield 17, 3), (20, .invokevirtual 185, 3), (23, .aload_n 0, 1), (24, .getfield 26, 3), (27, .iload_n 3, 1), (28, .putfield 140, 3), (31, .iconst 0, 1), (32, .istore 4, 2), (34, .iload 4, 2), (36, .bipush 30, 2), (38, .if_icmp .ge 17, 3), (41, .aload_n 0, 1), (42, .getfield 26, 3), (45, .invokevirtual 182, 3), (48, .pop, 1), (49, .iinc 4 1, 3), (52, .goto (-18), 3), (55, .aload_n 0, 1), (56, .getfield 26, 3), (59, .getfield 169, 3), (62, .iload_n 1, 1), (63, .if_icmp .le 13, 3), (66, .aload_n 0, 1), (67, .getfield 26, 3), (70, .getfield 169, 3), (73, .istore_n 1, 1), (74, .iload_n 3, 1), (75, .istore_n 2, 1), (76, .iinc 3 1, 3), (79, .goto (-73), 3), (82, .iload_n 2, 1), (83, .ireturn, 1)]
set_option maxRecDepth 20000 in
theorem DX6_spread_0 : lX6_spread_0.all (dq cX6_spread) = true := by decide +kernel
def lX6_fewest_0 : List (Nat × Instr × Nat) := [(0, .iload_n 1, 1), (1, .iconst 1, 1), (2, .bipush 30, 2), (4, .invokestatic 78, 3), (7, .ifCond .ne 6, 3), (10, .bipush (-2), 2), (12, .ireturn, 1), (13, .iconst 0, 1), (14, .istore_n 2, 1), (15, .iload_n 2, 1), (16, .bipush 9, 2), (18, .if_icmp .gt 41, 3), (21, .aload_n 0, 1), (22, .getfield 26, 3), (25, .aload_n 0, 1), (26, .getfield 17, 3), (29, .invokevirtual 185, 3), (32, .aload_n 0, 1), (33, .getfield 26, 3), (36, .iload_n 2, 1), (37, .putfield 143, 3), (40, .aload_n 0, 1), (41, .getfield 26, 3), (44, .iload_n 1, 1), (45, .invokevirtual 189, 3), (48, .ifCond .eq 5, 3), (51, .iload_n 2, 1), (52, .ireturn, 1), (53, .iinc 2 1, 3), (56, .goto (-41), 3), (59, .bipush (-5), 2), (61, .ireturn, 1)]
set_option maxRecDepth 20000 in
theorem DX6_fewest_0 : lX6_fewest_0.all (dq cX6_fewest) = true := by decide +kernel
def lX6_best_0 : List (Nat × Instr × Nat) := [(0, .iload_n 1, 1), (1, .iconst 0, 1), (2, .iconst 1, 1), (3, .invokestatic 78, 3), (6, .ifCond .eq 12, 3), (9, .iload_n 2, 1), (10, .iconst 0, 1), (11, .iconst 3, 1), (12, .invokestatic 78, 3), (15, .ifCond .ne 5, 3), (18, .iconst (-1), 1), (19, .ireturn, 1), (20, .aload_n 0, 1), (21, .iload_n 1, 1), (22, .invokevirtual 192, 3), (25, .istore_n 3, 1), (26, .iload_n 2, 1), (27, .iconst 3, 1), (28, .if_icmp .ne 12, 3), (31, .aload_n 0, 1), (32, .iload_n 1, 1), (33, .iload_n 3, 1), (34, .invokevirtual 195, 3), (37, .goto 39, 3), (40, .aload_n 0, 1), (41, .getfield 26, 3), (44, .iload_n 3, 1), (45, .invokevirtual 199, 3), (48, .ifCond .eq 26, 3), (51, .iload_n 2, 1), (52, .aload_n 0, 1), (53, .getfield 26, 3), (56, .getfield 134, 3), (59, .if_icmp .ge 15, 3), (62, .aload_n 0, 1), (63, .getfield 26, 3), (66, .getfield 179, 3), (69, .iload_n 2, 1), (70, .iaload, 1), (71, .goto 5, 3), (74, .bipush (-5), 2), (76, .ireturn, 1)]
set_option maxRecDepth 20000 in
theorem DX6_best_0 : lX6_best_0.all (dq cX6_best) = true := by decide +kernel
def lX6_longest_0 : List (Nat × Instr × Nat) := [(0, .iload_n 1, 1), (1, .iconst 0, 1), (2, .iconst 3, 1), (3, .invokestatic 78, 3), (6, .ifCond .ne 5, 3), (9, .iconst (-1), 1), (10, .ireturn, 1), (11, .aload_n 0, 1), (12, .iconst 2, 1), (13, .invokevirtual 192, 3), (16, .istore_n 2, 1), (17, .iload_n 1, 1), (18, .iconst 3, 1), (19, .if_icmp .ne 23, 3), (22, .aload_n 0, 1), (23, .iconst 2, 1), (24, .iload_n 2, 1), (25, .invokevirtual 195, 3), (28, .istore_n 3, 1), (29, .iload_n 3, 1), (30, .bipush 60, 2), (32, .if_icmp .le 8, 3), (35, .bipush (-5), 2), (37, .goto 4, 3), (40, .iload_n 3, 1), (41, .ireturn, 1), (42, .aload_n 0, 1), (43, .getfield 26, 3), (46, .iload_n 2, 1), (47, .invokevirtual 199, 3), (50, .ifCond .eq 26, 3), (53, .iload_n 1, 1), (54, .aload_n 0, 1), (55, .getfield 26, 3), (58, .getfield 134, 3), (61, .if_icmp .ge 15, 3), (64, .aload_n 0, 1), (65, .getfield 26, 3), (68, .getfield 179, 3), (71, .iload_n 1, 1), (72, .iaload, 1), (73, .goto 5, 3), (76, .bipush (-5), 2), (78, .ireturn, 1)]
set_option maxRecDepth 20000 in
theorem DX6_longest_0 : lX6_longest_0.all (dq cX6_longest) = true := by decide +kernel
def lX6_bestRow_0 : List (Nat × Instr × Nat) := [(0, .bipush (-5), 2), (2, .istore_n 2, 1), (3, .iconst (-1), 1), (4, .istore_n 3, 1), (5, .iconst 0, 1), (6, .istore 4, 2), (8, .iload 4, 2), (10, .sipush 294, 3), (13, .if_icmp .ge 30, 3), (16, .aload_n 0, 1), (17, .iload_n 1, 1), (18, .iload 4, 2), (20, .invokevirtual 195, 3), (23, .istore 5, 2), (25, .iload 5, 2), (27, .iload_n 2, 1), (28, .if_icmp .le 9, 3), (31, .iload 5, 2), (33, .istore_n 2, 1), (34, .iload 4, 2), (36, .istore_n 3, 1), (37, .iinc 4 1, 3), (40, .goto (-32), 3), (43, .iload_n 3, 1), (44, .ireturn, 1)]
set_option maxRecDepth 20000 in
theorem DX6_bestRow_0 : lX6_bestRow_0.all (dq cX6_bestRow) = true := by decide +kernel
def lX6_worth_0 : List (Nat × Instr × Nat) := [(0, .aload_n 0, 1), (1, .getfield 26, 3), (4, .aload_n 0, 1), (5, .getfield 17, 3), (8, .invokevirtual 185, 3), (11, .aload_n 0, 1), (12, .getfield 26, 3), (15, .iload_n 2, 1), (16, .invokevirtual 199, 3), (19, .ifCond .ne 6, 3), (22, .bipush (-5), 2), (24, .ireturn, 1), (25, .iload_n 1, 1), (26, .iconst 1, 1), (27, .if_icmp .ne 26, 3), (30, .aload_n 0, 1), (31, .getfield 26, 3), (34, .invokevirtual 202, 3), (37, .ifCond .ge 13, 3), (40, .aload_n 0, 1), (41, .getfield 26, 3), (44, .invokevirtual 172, 3), (47, .goto 5, 3), (50, .bipush (-5), 2), (52, .ireturn, 1), (53, .iload_n 1, 1), (54, .ifCond .ne 33, 3), (57, .iconst 0, 1), (58, .istore_n 3, 1), (59, .iload_n 3, 1), (60, .bipush 10, 2), (62, .if_icmp .ge 17, 3), (65, .aload_n 0, 1), (66, .getfield 26, 3), (69, .invokevirtual 182, 3), (72, .pop, 1), (73, .iinc 3 1, 3), (76, .goto (-17), 3), (79, .aload_n 0, 1), (80, .getfield 26, 3), (83, .getfield 169, 3), (86, .ireturn, 1), (87, .aload_n 0, 1), (88, .getfield 26, 3), (91, .aload_n 0, 1), (92, .getfield 17, 3), (95, .invokevirtual 205, 3), (98, .ifCond .ne 6, 3), (101, .bipush (-5), 2), (103, .ireturn, 1)]
set_option maxRecDepth 20000 in
theorem DX6_worth_0 : lX6_worth_0.all (dq cX6_worth) = true := by decide +kernel
def lX6_worth_1 : List (Nat × Instr × Nat) := [(104, .iconst 0, 1), (105, .istore_n 3, 1), (106, .iload_n 3, 1), (107, .bipush 60, 2), (109, .if_icmp .gt 21, 3), (112, .aload_n 0, 1), (113, .getfield 26, 3), (116, .invokevirtual 182, 3), (119, .ifCond .lt 5, 3), (122, .iload_n 3, 1), (123, .ireturn, 1), (124, .iinc 3 1, 3), (127, .goto (-21), 3), (130, .bipush 61, 2), (132, .ireturn, 1)]
set_option maxRecDepth 20000 in
theorem DX6_worth_1 : lX6_worth_1.all (dq cX6_worth) = true := by decide +kernel
def lX6_see_0 : List (Nat × Instr × Nat) := [(0, .iload_n 1, 1), (1, .iconst (-1), 1), (2, .if_icmp .ne 11, 3), (5, .aload_n 0, 1), (6, .getfield 34, 3), (9, .invokevirtual 209, 3), (12, .ireturn, 1), (13, .iload_n 1, 1), (14, .iconst 0, 1), (15, .iconst 3, 1), (16, .invokestatic 78, 3), (19, .ifCond .eq 13, 3), (22, .iload_n 2, 1), (23, .iconst 0, 1), (24, .bipush 20, 2), (26, .invokestatic 78, 3), (29, .ifCond .ne 6, 3), (32, .bipush (-2), 2), (34, .ireturn, 1), (35, .aload_n 0, 1), (36, .getfield 34, 3), (39, .iload_n 1, 1), (40, .iload_n 2, 1), (41, .invokevirtual 212, 3), (44, .ifCond .eq 13, 3), (47, .aload_n 0, 1), (48, .getfield 34, 3), (51, .getfield 215, 3), (54, .goto 5, 3), (57, .bipush (-4), 2), (59, .ireturn, 1)]
set_option maxRecDepth 20000 in
theorem DX6_see_0 : lX6_see_0.all (dq cX6_see) = true := by decide +kernel
def lX6_worn_0 : List (Nat × Instr × Nat) := [(0, .aload_n 0, 1), (1, .getfield 17, 3), (4, .iload_n 1, 1), (5, .invokevirtual 90, 3), (8, .ifCond .eq 12, 3), (11, .iload_n 2, 1), (12, .iconst 0, 1), (13, .iconst 1, 1), (14, .invokestatic 78, 3), (17, .ifCond .ne 5, 3), (20, .iconst (-1), 1), (21, .ireturn, 1), (22, .aload_n 0, 1), (23, .aload_n 0, 1), (24, .getfield 26, 3), (27, .getfield 104, 3), (30, .iload_n 1, 1), (31, .bipush 60, 2), (33, .iload_n 2, 1), (34, .invokevirtual 216, 3), (37, .ireturn, 1)]
set_option maxRecDepth 20000 in
theorem DX6_worn_0 : lX6_worn_0.all (dq cX6_worn) = true := by decide +kernel
def lX6_can_0 : List (Nat × Instr × Nat) := [(0, .aload_n 0, 1), (1, .getfield 17, 3), (4, .iload_n 1, 1), (5, .invokevirtual 90, 3), (8, .ifCond .eq 12, 3), (11, .iload_n 2, 1), (12, .iconst 0, 1), (13, .iconst 1, 1), (14, .invokestatic 78, 3), (17, .ifCond .ne 5, 3), (20, .iconst (-1), 1), (21, .ireturn, 1), (22, .aload_n 0, 1), (23, .aload_n 0, 1), (24, .getfield 26, 3), (27, .getfield 98, 3), (30, .iload_n 1, 1), (31, .bipush 9, 2), (33, .iload_n 2, 1), (34, .invokevirtual 216, 3), (37, .ireturn, 1)]
set_option maxRecDepth 20000 in
theorem DX6_can_0 : lX6_can_0.all (dq cX6_can) = true := by decide +kernel
def lX6_fitting_0 : List (Nat × Instr × Nat) := [(0, .iconst 0, 1), (1, .istore 5, 2), (3, .bipush (-5), 2), (5, .istore 6, 2), (7, .iconst 0, 1), (8, .istore 7, 2), (10, .iload 7, 2), (12, .iload_n 3, 1), (13, .if_icmp .gt 49, 3), (16, .aload_n 0, 1), (17, .getfield 26, 3), (20, .aload_n 0, 1), (21, .getfield 17, 3), (24, .invokevirtual 185, 3), (27, .aload_n 1, 1), (28, .iload_n 2, 1), (29, .iload 7, 2), (31, .iastore, 1), (32, .aload_n 0, 1), (33, .invokevirtual 220, 3), (36, .ifCond .eq 20, 3), (39, .iload 5, 2), (41, .ifCond .ne 8, 3), (44, .iload 7, 2), (46, .goto 5, 3), (49, .iload 6, 2), (51, .istore 6, 2), (53, .iinc 5 1, 3), (56, .iinc 7 1, 3), (59, .goto (-49), 3), (62, .iload 4, 2), (64, .ifCond .ne 8, 3), (67, .iload 5, 2), (69, .goto 5, 3), (72, .iload 6, 2), (74, .ireturn, 1)]
set_option maxRecDepth 20000 in
theorem DX6_fitting_0 : lX6_fitting_0.all (dq cX6_fitting) = true := by decide +kernel
def lX6_seenIsSo_0 : List (Nat × Instr × Nat) := [(0, .iconst 0, 1), (1, .istore_n 1, 1), (2, .iconst 0, 1), (3, .istore_n 2, 1), (4, .iload_n 2, 1), (5, .aload_n 0, 1), (6, .getfield 34, 3), (9, .getfield 215, 3), (12, .if_icmp .ge 23, 3), (15, .iload_n 1, 1), (16, .aload_n 0, 1), (17, .getfield 34, 3), (20, .getfield 224, 3), (23, .iload_n 2, 1), (24, .iaload, 1), (25, .invokestatic 227, 3), (28, .istore_n 1, 1), (29, .iinc 2 1, 3), (32, .goto (-28), 3), (35, .iconst 0, 1), (36, .istore_n 2, 1), (37, .iload_n 2, 1), (38, .iload_n 1, 1), (39, .if_icmp .gt 70, 3), (42, .iconst 0, 1), (43, .istore_n 3, 1), (44, .iload_n 3, 1), (45, .aload_n 0, 1), (46, .getfield 34, 3), (49, .getfield 215, 3), (52, .if_icmp .ge 43, 3), (55, .aload_n 0, 1), (56, .getfield 34, 3), (59, .getfield 224, 3), (62, .iload_n 3, 1), (63, .iaload, 1), (64, .iload_n 2, 1), (65, .if_icmp .ne 24, 3), (68, .aload_n 0, 1), (69, .getfield 34, 3), (72, .getfield 232, 3), (75, .iload_n 3, 1), (76, .iaload, 1), (77, .aload_n 0, 1), (78, .getfield 26, 3), (81, .getfield 134, 3), (84, .if_icmp .eq 5, 3), (87, .iconst 0, 1), (88, .ireturn, 1), (89, .iinc 3 1, 3)]
set_option maxRecDepth 20000 in
theorem DX6_seenIsSo_0 : lX6_seenIsSo_0.all (dq cX6_seenIsSo) = true := by decide +kernel
def lX6_seenIsSo_1 : List (Nat × Instr × Nat) := [(92, .goto (-48), 3), (95, .aload_n 0, 1), (96, .getfield 26, 3), (99, .invokevirtual 182, 3), (102, .pop, 1), (103, .iinc 2 1, 3), (106, .goto (-69), 3), (109, .iconst 1, 1), (110, .ireturn, 1)]
set_option maxRecDepth 20000 in
theorem DX6_seenIsSo_1 : lX6_seenIsSo_1.all (dq cX6_seenIsSo) = true := by decide +kernel
def lX6_odds_0 : List (Nat × Instr × Nat) := [(0, .iload_n 1, 1), (1, .iconst 0, 1), (2, .bipush 60, 2), (4, .invokestatic 78, 3), (7, .ifCond .eq 22, 3), (10, .iload_n 2, 1), (11, .iconst 0, 1), (12, .iconst 1, 1), (13, .invokestatic 78, 3), (16, .ifCond .eq 13, 3), (19, .aload_n 0, 1), (20, .getfield 17, 3), (23, .getfield 134, 3), (26, .ifCond .ne 7, 3), (29, .ldc2_w 235, 3), (32, .lreturn, 1), (33, .iconst 0, 1), (34, .istore_n 3, 1), (35, .iconst 0, 1), (36, .istore 4, 2), (38, .iload 4, 2), (40, .aload_n 0, 1), (41, .getfield 17, 3), (44, .getfield 134, 3), (47, .if_icmp .ge 43, 3), (50, .aload_n 0, 1), (51, .getfield 26, 3), (54, .aload_n 0, 1), (55, .getfield 17, 3), (58, .invokevirtual 185, 3), (61, .aload_n 0, 1), (62, .getfield 26, 3), (65, .iload 4, 2), (67, .putfield 134, 3), (70, .aload_n 0, 1), (71, .getfield 26, 3), (74, .iload_n 1, 1), (75, .invokevirtual 189, 3), (78, .ifCond .eq 6, 3), (81, .iinc 3 1, 3), (84, .iinc 4 1, 3), (87, .goto (-49), 3), (90, .iload_n 3, 1), (91, .aload_n 0, 1), (92, .getfield 17, 3), (95, .getfield 134, 3), (98, .iload_n 2, 1), (99, .invokestatic 237, 3), (102, .lreturn, 1)]
set_option maxRecDepth 20000 in
theorem DX6_odds_0 : lX6_odds_0.all (dq cX6_odds) = true := by decide +kernel
def lX6_mean_0 : List (Nat × Instr × Nat) := [(0, .iload_n 1, 1), (1, .iconst 0, 1), (2, .iconst 1, 1), (3, .invokestatic 78, 3), (6, .ifCond .eq 13, 3), (9, .aload_n 0, 1), (10, .getfield 17, 3), (13, .getfield 134, 3), (16, .ifCond .ne 7, 3), (19, .ldc2_w 235, 3), (22, .lreturn, 1), (23, .iconst 0, 1), (24, .istore_n 2, 1), (25, .iconst 0, 1), (26, .istore_n 3, 1), (27, .iload_n 3, 1), (28, .aload_n 0, 1), (29, .getfield 17, 3), (32, .getfield 134, 3), (35, .if_icmp .ge 20, 3), (38, .iload_n 2, 1), (39, .aload_n 0, 1), (40, .getfield 17, 3), (43, .iload_n 3, 1), (44, .invokevirtual 128, 3), (47, .iadd, 1), (48, .istore_n 2, 1), (49, .iinc 3 1, 3), (52, .goto (-25), 3), (55, .iload_n 2, 1), (56, .aload_n 0, 1), (57, .getfield 17, 3), (60, .getfield 134, 3), (63, .iload_n 1, 1), (64, .invokestatic 237, 3), (67, .lreturn, 1)]
set_option maxRecDepth 20000 in
theorem DX6_mean_0 : lX6_mean_0.all (dq cX6_mean) = true := by decide +kernel
def lX6_inLowestTerms_0 : List (Nat × Instr × Nat) := [(0, .iload_n 1, 1), (1, .ifCond .le 13, 3), (4, .iload_n 0, 1), (5, .iload_n 1, 1), (6, .irem, 1), (7, .ifCond .ne 7, 3), (10, .iconst 1, 1), (11, .goto 4, 3), (14, .iconst 0, 1), (15, .istore_n 3, 1), (16, .iload_n 2, 1), (17, .ifCond .ne 17, 3), (20, .iload_n 3, 1), (21, .ifCond .eq 10, 3), (24, .iload_n 0, 1), (25, .iload_n 1, 1), (26, .idiv, 1), (27, .i2l, 1), (28, .goto 5, 3), (31, .iload_n 0, 1), (32, .i2l, 1), (33, .lreturn, 1), (34, .iload_n 3, 1), (35, .ifCond .eq 7, 3), (38, .lconst 1, 1), (39, .goto 5, 3), (42, .iload_n 1, 1), (43, .i2l, 1), (44, .lreturn, 1)]
set_option maxRecDepth 20000 in
theorem DX6_inLowestTerms_0 : lX6_inLowestTerms_0.all (dq cX6_inLowestTerms) = true := by decide +kernel
def lX6_plan_0 : List (Nat × Instr × Nat) := [(0, .iload_n 1, 1), (1, .iconst (-1), 1), (2, .if_icmp .ne 11, 3), (5, .aload_n 0, 1), (6, .getfield 38, 3), (9, .invokevirtual 209, 3), (12, .ireturn, 1), (13, .iload_n 1, 1), (14, .iconst 0, 1), (15, .iconst 4, 1), (16, .invokestatic 78, 3), (19, .ifCond .eq 19, 3), (22, .iload_n 1, 1), (23, .iconst 3, 1), (24, .if_icmp .ne 16, 3), (27, .aload_n 0, 1), (28, .getfield 17, 3), (31, .iload_n 2, 1), (32, .invokevirtual 90, 3), (35, .ifCond .ne 5, 3), (38, .iconst (-1), 1), (39, .ireturn, 1), (40, .iload_n 1, 1), (41, .iconst 1, 1), (42, .if_icmp .eq 8, 3), (45, .iload_n 1, 1), (46, .iconst 2, 1), (47, .if_icmp .ne 16, 3), (50, .iload_n 2, 1), (51, .iconst 0, 1), (52, .bipush 9, 2), (54, .invokestatic 78, 3), (57, .ifCond .ne 6, 3), (60, .bipush (-2), 2), (62, .ireturn, 1), (63, .aload_n 0, 1), (64, .getfield 38, 3), (67, .iload_n 1, 1), (68, .iload_n 2, 1), (69, .invokevirtual 212, 3), (72, .ifCond .eq 13, 3), (75, .aload_n 0, 1), (76, .getfield 38, 3), (79, .getfield 215, 3), (82, .goto 5, 3), (85, .bipush (-4), 2), (87, .ireturn, 1)]
set_option maxRecDepth 20000 in
theorem DX6_plan_0 : lX6_plan_0.all (dq cX6_plan) = true := by decide +kernel
def lX6_ends_0 : List (Nat × Instr × Nat) := [(0, .iload_n 1, 1), (1, .iconst 0, 1), (2, .iconst 1, 1), (3, .invokestatic 78, 3), (6, .ifCond .ne 5, 3), (9, .iconst (-1), 1), (10, .ireturn, 1), (11, .aload_n 0, 1), (12, .getfield 26, 3), (15, .aload_n 0, 1), (16, .getfield 17, 3), (19, .invokevirtual 185, 3), (22, .iconst 0, 1), (23, .istore_n 2, 1), (24, .iload_n 2, 1), (25, .aload_n 0, 1), (26, .getfield 38, 3), (29, .getfield 215, 3), (32, .if_icmp .ge 31, 3), (35, .aload_n 0, 1), (36, .aload_n 0, 1), (37, .getfield 38, 3), (40, .getfield 232, 3), (43, .iload_n 2, 1), (44, .iaload, 1), (45, .aload_n 0, 1), (46, .getfield 38, 3), (49, .getfield 224, 3), (52, .iload_n 2, 1), (53, .iaload, 1), (54, .invokevirtual 241, 3), (57, .iinc 2 1, 3), (60, .goto (-36), 3), (63, .iload_n 1, 1), (64, .ifCond .ne 13, 3), (67, .aload_n 0, 1), (68, .getfield 26, 3), (71, .getfield 169, 3), (74, .goto 10, 3), (77, .aload_n 0, 1), (78, .getfield 26, 3), (81, .invokevirtual 172, 3), (84, .ireturn, 1)]
set_option maxRecDepth 20000 in
theorem DX6_ends_0 : lX6_ends_0.all (dq cX6_ends) = true := by decide +kernel
def lX6_followPlan_0 : List (Nat × Instr × Nat) := [(0, .iload_n 1, 1), (1, .tableswitch 97 0 3 #[31, 42, 53, 64], 31), (32, .aload_n 0, 1), (33, .getfield 26, 3), (36, .invokevirtual 182, 3), (39, .pop, 1), (40, .goto 66, 3), (43, .aload_n 0, 1), (44, .getfield 26, 3), (47, .iload_n 2, 1), (48, .putfield 140, 3), (51, .goto 55, 3), (54, .aload_n 0, 1), (55, .getfield 26, 3), (58, .iload_n 2, 1), (59, .putfield 143, 3), (62, .goto 44, 3), (65, .aload_n 0, 1), (66, .getfield 26, 3), (69, .iload_n 2, 1), (70, .invokevirtual 90, 3), (73, .ifCond .eq 33, 3), (76, .aload_n 0, 1), (77, .getfield 26, 3), (80, .iload_n 2, 1), (81, .invokevirtual 122, 3), (84, .ifCond .ge 22, 3), (87, .aload_n 0, 1), (88, .getfield 26, 3), (91, .iload_n 2, 1), (92, .invokevirtual 137, 3), (95, .goto 11, 3), (98, .aload_n 0, 1), (99, .getfield 26, 3), (102, .iconst 0, 1), (103, .putfield 134, 3), (106, .return_, 1)]
set_option maxRecDepth 20000 in
theorem DX6_followPlan_0 : lX6_followPlan_0.all (dq cX6_followPlan) = true := by decide +kernel
def lX6_book_0 : List (Nat × Instr × Nat) := [(0, .iload_n 1, 1), (1, .iconst (-1), 1), (2, .if_icmp .ne 11, 3), (5, .aload_n 0, 1), (6, .getfield 41, 3), (9, .invokevirtual 209, 3), (12, .ireturn, 1), (13, .aload_n 0, 1), (14, .getfield 17, 3), (17, .iload_n 1, 1), (18, .invokevirtual 90, 3), (21, .ifCond .ne 5, 3), (24, .iconst (-1), 1), (25, .ireturn, 1), (26, .iload_n 2, 1), (27, .iconst 0, 1), (28, .bipush 99, 2), (30, .invokestatic 78, 3), (33, .ifCond .ne 6, 3), (36, .bipush (-2), 2), (38, .ireturn, 1), (39, .aload_n 0, 1), (40, .getfield 41, 3), (43, .iload_n 1, 1), (44, .iload_n 2, 1), (45, .invokevirtual 212, 3), (48, .ifCond .eq 13, 3), (51, .aload_n 0, 1), (52, .getfield 41, 3), (55, .getfield 215, 3), (58, .goto 5, 3), (61, .bipush (-4), 2), (63, .ireturn, 1)]
set_option maxRecDepth 20000 in
theorem DX6_book_0 : lX6_book_0.all (dq cX6_book) = true := by decide +kernel
def lX6_looked_0 : List (Nat × Instr × Nat) := [(0, .iconst 0, 1), (1, .istore_n 1, 1), (2, .iload_n 1, 1), (3, .aload_n 0, 1), (4, .getfield 41, 3), (7, .getfield 215, 3), (10, .if_icmp .ge 53, 3), (13, .aload_n 0, 1), (14, .getfield 41, 3), (17, .getfield 232, 3), (20, .iload_n 1, 1), (21, .iaload, 1), (22, .istore_n 2, 1), (23, .aload_n 0, 1), (24, .getfield 17, 3), (27, .iload_n 2, 1), (28, .invokevirtual 90, 3), (31, .ifCond .eq 24, 3), (34, .aload_n 0, 1), (35, .getfield 17, 3), (38, .getfield 101, 3), (41, .iload_n 2, 1), (42, .iaload, 1), (43, .aload_n 0, 1), (44, .getfield 41, 3), (47, .getfield 224, 3), (50, .iload_n 1, 1), (51, .iaload, 1), (52, .if_icmp .eq 5, 3), (55, .iload_n 1, 1), (56, .ireturn, 1), (57, .iinc 1 1, 3), (60, .goto (-58), 3), (63, .bipush (-5), 2), (65, .ireturn, 1)]
set_option maxRecDepth 20000 in
theorem DX6_looked_0 : lX6_looked_0.all (dq cX6_looked) = true := by decide +kernel
def lX6_judge_0 : List (Nat × Instr × Nat) := [(0, .iload_n 1, 1), (1, .iconst 0, 1), (2, .iconst 5, 1), (3, .invokestatic 78, 3), (6, .ifCond .ne 5, 3), (9, .iconst (-1), 1), (10, .ireturn, 1), (11, .aload_n 0, 1), (12, .getfield 73, 3), (15, .iload_n 1, 1), (16, .aaload, 1), (17, .astore_n 3, 1), (18, .aload_n 3, 1), (19, .getfield 245, 3), (22, .iconst (-1), 1), (23, .if_icmp .eq 13, 3), (26, .aload_n 3, 1), (27, .getfield 245, 3), (30, .ifCond .eq 6, 3), (33, .bipush (-12), 2), (35, .ireturn, 1), (36, .iconst 0, 1), (37, .istore 4, 2), (39, .iload 4, 2), (41, .aload_n 0, 1), (42, .getfield 17, 3), (45, .getfield 82, 3), (48, .if_icmp .ge 57, 3), (51, .iload_n 2, 1), (52, .ifCond .lt 14, 3), (55, .iload_n 2, 1), (56, .aload_n 3, 1), (57, .getfield 248, 3), (60, .iload 4, 2), (62, .isub, 1), (63, .if_icmp .lt 9, 3), (66, .bipush 100, 2), (68, .iload 4, 2), (70, .iadd, 1), (71, .ireturn, 1), (72, .aload_n 3, 1), (73, .getfield 249, 3), (76, .iload_n 2, 1), (77, .iload 4, 2), (79, .iadd, 1), (80, .laload, 1), (81, .aload_n 0, 1), (82, .getfield 17, 3), (85, .getfield 101, 3), (88, .iload 4, 2)]
set_option maxRecDepth 20000 in
theorem DX6_judge_0 : lX6_judge_0.all (dq cX6_judge) = true := by decide +kernel
def lX6_judge_1 : List (Nat × Instr × Nat) := [(90, .iaload, 1), (91, .i2l, 1), (92, .lcmp, 1), (93, .ifCond .eq 6, 3), (96, .iload 4, 2), (98, .ireturn, 1), (99, .iinc 4 1, 3), (102, .goto (-63), 3), (105, .bipush (-5), 2), (107, .ireturn, 1)]
set_option maxRecDepth 20000 in
theorem DX6_judge_1 : lX6_judge_1.all (dq cX6_judge) = true := by decide +kernel
def lX6_image_0 : List (Nat × Instr × Nat) := [(0, .aload_n 0, 1), (1, .getfield 23, 3), (4, .aload_n 0, 1), (5, .getfield 17, 3), (8, .invokevirtual 253, 3), (11, .aload_n 0, 1), (12, .getfield 44, 3), (15, .aload_n 0, 1), (16, .getfield 34, 3), (19, .invokevirtual 256, 3), (22, .aload_n 0, 1), (23, .getfield 47, 3), (26, .aload_n 0, 1), (27, .getfield 38, 3), (30, .invokevirtual 256, 3), (33, .aload_n 0, 1), (34, .getfield 50, 3), (37, .aload_n 0, 1), (38, .getfield 41, 3), (41, .invokevirtual 256, 3), (44, .aload_n 0, 1), (45, .iconst 1, 1), (46, .putfield 259, 3), (49, .aload_n 0, 1), (50, .getfield 17, 3), (53, .getfield 82, 3), (56, .ireturn, 1)]
set_option maxRecDepth 20000 in
theorem DX6_image_0 : lX6_image_0.all (dq cX6_image) = true := by decide +kernel
def lX6_undo_0 : List (Nat × Instr × Nat) := [(0, .aload_n 0, 1), (1, .getfield 259, 3), (4, .ifCond .ne 6, 3), (7, .bipush (-3), 2), (9, .ireturn, 1), (10, .aload_n 0, 1), (11, .getfield 17, 3), (14, .aload_n 0, 1), (15, .getfield 23, 3), (18, .invokevirtual 253, 3), (21, .aload_n 0, 1), (22, .getfield 34, 3), (25, .aload_n 0, 1), (26, .getfield 44, 3), (29, .invokevirtual 256, 3), (32, .aload_n 0, 1), (33, .getfield 38, 3), (36, .aload_n 0, 1), (37, .getfield 47, 3), (40, .invokevirtual 256, 3), (43, .aload_n 0, 1), (44, .getfield 41, 3), (47, .aload_n 0, 1), (48, .getfield 50, 3), (51, .invokevirtual 256, 3), (54, .aload_n 0, 1), (55, .getfield 17, 3), (58, .getfield 82, 3), (61, .ireturn, 1)]
set_option maxRecDepth 20000 in
theorem DX6_undo_0 : lX6_undo_0.all (dq cX6_undo) = true := by decide +kernel
def lX6_act_0 : List (Nat × Instr × Nat) := [(0, .aload_n 0, 1), (1, .getfield 17, 3), (4, .iload_n 1, 1), (5, .invokevirtual 90, 3), (8, .ifCond .eq 12, 3), (11, .iload_n 2, 1), (12, .iconst 0, 1), (13, .iconst 2, 1), (14, .invokestatic 78, 3), (17, .ifCond .ne 13, 3), (20, .aload_n 0, 1), (21, .getfield 67, 3), (24, .iconst 0, 1), (25, .putfield 263, 3), (28, .iconst 0, 1), (29, .ireturn, 1), (30, .aload_n 0, 1), (31, .getfield 67, 3), (34, .aload_n 0, 1), (35, .getfield 17, 3), (38, .getfield 94, 3), (41, .iload_n 1, 1), (42, .iaload, 1), (43, .iload_n 1, 1), (44, .aload_n 0, 1), (45, .getfield 17, 3), (48, .getfield 98, 3), (51, .iload_n 1, 1), (52, .iaload, 1), (53, .iload_n 2, 1), (54, .iload_n 3, 1), (55, .invokevirtual 266, 3), (58, .ireturn, 1)]
set_option maxRecDepth 20000 in
theorem DX6_act_0 : lX6_act_0.all (dq cX6_act) = true := by decide +kernel
def lX6_trace_0 : List (Nat × Instr × Nat) := [(0, .iload_n 1, 1), (1, .ifCond .lt 32, 3), (4, .iload_n 1, 1), (5, .aload_n 0, 1), (6, .getfield 67, 3), (9, .getfield 263, 3), (12, .if_icmp .ge 21, 3), (15, .iload_n 1, 1), (16, .bipush 20, 2), (18, .if_icmp .ge 15, 3), (21, .aload_n 0, 1), (22, .getfield 67, 3), (25, .getfield 270, 3), (28, .iload_n 1, 1), (29, .iaload, 1), (30, .goto 4, 3), (33, .iconst (-1), 1), (34, .ireturn, 1)]
set_option maxRecDepth 20000 in
theorem DX6_trace_0 : lX6_trace_0.all (dq cX6_trace) = true := by decide +kernel
def lX6_taken_0 : List (Nat × Instr × Nat) := [(0, .iload_n 2, 1), (1, .iconst 0, 1), (2, .bipush 6, 2), (4, .invokestatic 78, 3), (7, .ifCond .ne 6, 3), (10, .bipush (-2), 2), (12, .ireturn, 1), (13, .aload_n 0, 1), (14, .getfield 17, 3), (17, .iload_n 1, 1), (18, .invokevirtual 90, 3), (21, .ifCond .ne 6, 3), (24, .bipush (-11), 2), (26, .ireturn, 1), (27, .aload_n 0, 1), (28, .getfield 17, 3), (31, .getfield 94, 3), (34, .iload_n 1, 1), (35, .iaload, 1), (36, .istore_n 3, 1), (37, .iload_n 3, 1), (38, .istore 4, 2), (40, .iconst 0, 1), (41, .istore 5, 2), (43, .iload 5, 2), (45, .bipush 7, 2), (47, .if_icmp .ge 30, 3), (50, .iload 4, 2), (52, .ifCond .lt 25, 3), (55, .iload 4, 2), (57, .iload_n 2, 1), (58, .if_icmp .ne 5, 3), (61, .iload_n 3, 1), (62, .ireturn, 1), (63, .getstatic 273, 3), (66, .iload 4, 2), (68, .iaload, 1), (69, .istore 4, 2), (71, .iinc 5 1, 3), (74, .goto (-31), 3), (77, .bipush (-12), 2), (79, .ireturn, 1)]
set_option maxRecDepth 20000 in
theorem DX6_taken_0 : lX6_taken_0.all (dq cX6_taken) = true := by decide +kernel
def lX6_count_0 : List (Nat × Instr × Nat) := [(0, .iload_n 1, 1), (1, .tableswitch 108 0 7 #[47, 55, 60, 68, 76, 84, 92, 100], 47), (48, .aload_n 0, 1), (49, .getfield 17, 3), (52, .getfield 82, 3), (55, .ireturn, 1), (56, .aload_n 0, 1), (57, .getfield 153, 3), (60, .ireturn, 1), (61, .aload_n 0, 1), (62, .getfield 17, 3), (65, .getfield 134, 3), (68, .ireturn, 1), (69, .aload_n 0, 1), (70, .getfield 34, 3), (73, .getfield 215, 3), (76, .ireturn, 1), (77, .aload_n 0, 1), (78, .getfield 38, 3), (81, .getfield 215, 3), (84, .ireturn, 1), (85, .aload_n 0, 1), (86, .getfield 41, 3), (89, .getfield 215, 3), (92, .ireturn, 1), (93, .aload_n 0, 1), (94, .getfield 60, 3), (97, .getfield 150, 3), (100, .ireturn, 1), (101, .aload_n 0, 1), (102, .getfield 67, 3), (105, .getfield 263, 3), (108, .ireturn, 1), (109, .bipush (-2), 2), (111, .ireturn, 1)]
set_option maxRecDepth 20000 in
theorem DX6_count_0 : lX6_count_0.all (dq cX6_count) = true := by decide +kernel
def lX6_tape_0 : List (Nat × Instr × Nat) := [(0, .iload_n 1, 1), (1, .iconst 0, 1), (2, .iconst 5, 1), (3, .invokestatic 78, 3), (6, .ifCond .ne 5, 3), (9, .iconst (-1), 1), (10, .ireturn, 1), (11, .iload_n 2, 1), (12, .iconst (-1), 1), (13, .if_icmp .ne 16, 3), (16, .aload_n 0, 1), (17, .getfield 73, 3), (20, .iload_n 1, 1), (21, .aaload, 1), (22, .iload_n 2, 1), (23, .iconst 0, 1), (24, .invokevirtual 276, 3), (27, .iconst 1, 1), (28, .ireturn, 1), (29, .iload_n 2, 1), (30, .iconst 0, 1), (31, .iconst 4, 1), (32, .invokestatic 78, 3), (35, .ifCond .eq 9, 3), (38, .iload_n 3, 1), (39, .bipush 60, 2), (41, .if_icmp .le 6, 3), (44, .bipush (-2), 2), (46, .ireturn, 1), (47, .iload_n 3, 1), (48, .ifCond .ge 6, 3), (51, .bipush (-14), 2), (53, .ireturn, 1), (54, .aload_n 0, 1), (55, .getfield 73, 3), (58, .iload_n 1, 1), (59, .aaload, 1), (60, .iload_n 2, 1), (61, .iload_n 3, 1), (62, .invokevirtual 276, 3), (65, .iconst 1, 1), (66, .ireturn, 1)]
set_option maxRecDepth 20000 in
theorem DX6_tape_0 : lX6_tape_0.all (dq cX6_tape) = true := by decide +kernel
def lX6_item_0 : List (Nat × Instr × Nat) := [(0, .iload_n 1, 1), (1, .iconst 0, 1), (2, .iconst 5, 1), (3, .invokestatic 78, 3), (6, .ifCond .ne 5, 3), (9, .iconst (-1), 1), (10, .ireturn, 1), (11, .aload_n 0, 1), (12, .getfield 73, 3), (15, .iload_n 1, 1), (16, .aaload, 1), (17, .astore 5, 2), (19, .aload 5, 2), (21, .getfield 245, 3), (24, .iconst (-1), 1), (25, .if_icmp .ne 6, 3), (28, .bipush (-11), 2), (30, .ireturn, 1), (31, .iload_n 2, 1), (32, .iconst 0, 1), (33, .aload 5, 2), (35, .getfield 248, 3), (38, .iconst 1, 1), (39, .isub, 1), (40, .invokestatic 78, 3), (43, .ifCond .ne 6, 3), (46, .bipush (-13), 2), (48, .ireturn, 1), (49, .aload 5, 2), (51, .getfield 249, 3), (54, .iload_n 2, 1), (55, .aload 5, 2), (57, .lload_n 3, 1), (58, .invokevirtual 279, 3), (61, .lastore, 1), (62, .iconst 1, 1), (63, .ireturn, 1)]
set_option maxRecDepth 20000 in
theorem DX6_item_0 : lX6_item_0.all (dq cX6_item) = true := by decide +kernel
def lX6_read_0 : List (Nat × Instr × Nat) := [(0, .iload_n 1, 1), (1, .iconst 0, 1), (2, .iconst 5, 1), (3, .invokestatic 78, 3), (6, .ifCond .eq 22, 3), (9, .iload_n 2, 1), (10, .iconst 0, 1), (11, .aload_n 0, 1), (12, .getfield 73, 3), (15, .iload_n 1, 1), (16, .aaload, 1), (17, .getfield 248, 3), (20, .iconst 1, 1), (21, .isub, 1), (22, .invokestatic 78, 3), (25, .ifCond .ne 7, 3), (28, .ldc2_w 235, 3), (31, .lreturn, 1), (32, .aload_n 0, 1), (33, .getfield 73, 3), (36, .iload_n 1, 1), (37, .aaload, 1), (38, .getfield 249, 3), (41, .iload_n 2, 1), (42, .laload, 1), (43, .lreturn, 1)]
set_option maxRecDepth 20000 in
theorem DX6_read_0 : lX6_read_0.all (dq cX6_read) = true := by decide +kernel
def lX6_shift_0 : List (Nat × Instr × Nat) := [(0, .iload_n 1, 1), (1, .iconst 0, 1), (2, .iconst 5, 1), (3, .invokestatic 78, 3), (6, .ifCond .eq 12, 3), (9, .iload_n 3, 1), (10, .iconst 0, 1), (11, .iconst 5, 1), (12, .invokestatic 78, 3), (15, .ifCond .ne 5, 3), (18, .iconst (-1), 1), (19, .ireturn, 1), (20, .aload_n 0, 1), (21, .getfield 73, 3), (24, .iload_n 1, 1), (25, .aaload, 1), (26, .astore 6, 2), (28, .aload_n 0, 1), (29, .getfield 73, 3), (32, .iload_n 3, 1), (33, .aaload, 1), (34, .astore 7, 2), (36, .aload 6, 2), (38, .getfield 245, 3), (41, .iconst (-1), 1), (42, .if_icmp .eq 12, 3), (45, .aload 7, 2), (47, .getfield 245, 3), (50, .iconst (-1), 1), (51, .if_icmp .ne 6, 3), (54, .bipush (-11), 2), (56, .ireturn, 1), (57, .aload 6, 2), (59, .getfield 245, 3), (62, .aload 7, 2), (64, .getfield 245, 3), (67, .if_icmp .eq 6, 3), (70, .bipush (-12), 2), (72, .ireturn, 1), (73, .iload 5, 2), (75, .ifCond .lt 37, 3), (78, .iload_n 2, 1), (79, .ifCond .lt 33, 3), (82, .iload 4, 2), (84, .ifCond .lt 28, 3), (87, .iload 5, 2), (89, .aload 6, 2), (91, .getfield 248, 3), (94, .iload_n 2, 1), (95, .isub, 1)]
set_option maxRecDepth 20000 in
theorem DX6_shift_0 : lX6_shift_0.all (dq cX6_shift) = true := by decide +kernel
def lX6_shift_1 : List (Nat × Instr × Nat) := [(96, .if_icmp .gt 16, 3), (99, .iload 5, 2), (101, .aload 7, 2), (103, .getfield 248, 3), (106, .iload 4, 2), (108, .isub, 1), (109, .if_icmp .le 6, 3), (112, .bipush (-13), 2), (114, .ireturn, 1), (115, .aload 6, 2), (117, .getfield 249, 3), (120, .iload_n 2, 1), (121, .aload 7, 2), (123, .getfield 249, 3), (126, .iload 4, 2), (128, .iload 5, 2), (130, .invokestatic 283, 3), (133, .iload 5, 2), (135, .ireturn, 1)]
set_option maxRecDepth 20000 in
theorem DX6_shift_1 : lX6_shift_1.all (dq cX6_shift) = true := by decide +kernel
def lX6_within_0 : List (Nat × Instr × Nat) := [(0, .iload_n 0, 1), (1, .iload_n 1, 1), (2, .if_icmp .lt 12, 3), (5, .iload_n 0, 1), (6, .iload_n 2, 1), (7, .if_icmp .gt 7, 3), (10, .iconst 1, 1), (11, .goto 4, 3), (14, .iconst 0, 1), (15, .ireturn, 1)]
set_option maxRecDepth 20000 in
theorem DX6_within_0 : lX6_within_0.all (dq cX6_within) = true := by decide +kernel
def lX7_init_0 : List (Nat × Instr × Nat) := [(0, .aload_n 0, 1), (1, .invokespecial 1, 3), (4, .aload_n 0, 1), (5, .iconst 0, 1), (6, .putfield 7, 3), (9, .aload_n 0, 1), (10, .iconst 0, 1), (11, .putfield 13, 3), (14, .aload_n 0, 1), (15, .iconst 1, 1), (16, .putfield 16, 3), (19, .aload_n 0, 1), (20, .iconst 0, 1), (21, .putfield 19, 3), (24, .aload_n 0, 1), (25, .iconst 0, 1), (26, .putfield 22, 3), (29, .aload_n 0, 1), (30, .iconst 0, 1), (31, .putfield 25, 3), (34, .aload_n 0, 1), (35, .bipush 6, 2), (37, .newarray .int, 2), (39, .putfield 28, 3), (42, .aload_n 0, 1), (43, .bipush 6, 2), (45, .newarray .int, 2), (47, .putfield 32, 3), (50, .aload_n 0, 1), (51, .bipush 6, 2), (53, .newarray .int, 2), (55, .putfield 35, 3), (58, .aload_n 0, 1), (59, .bipush 6, 2), (61, .newarray .int, 2), (63, .putfield 38, 3), (66, .aload_n 0, 1), (67, .bipush 6, 2), (69, .newarray .int, 2), (71, .putfield 41, 3), (74, .aload_n 0, 1), (75, .bipush 24, 2), (77, .newarray .int, 2), (79, .putfield 44, 3), (82, .aload_n 0, 1), (83, .iconst 3, 1), (84, .newarray .int, 2), (86, .putfield 47, 3), (89, .aload_n 0, 1), (90, .iconst 0, 1)]
set_option maxRecDepth 20000 in
theorem DX7_init_0 : lX7_init_0.all (dq cX7_init) = true := by decide +kernel
def lX7_init_1 : List (Nat × Instr × Nat) := [(91, .putfield 50, 3), (94, .aload_n 0, 1), (95, .iconst (-1), 1), (96, .putfield 53, 3), (99, .aload_n 0, 1), (100, .iconst 0, 1), (101, .putfield 56, 3), (104, .aload_n 0, 1), (105, .iconst 0, 1), (106, .putfield 59, 3), (109, .aload_n 0, 1), (110, .iconst 0, 1), (111, .putfield 62, 3), (114, .aload_n 0, 1), (115, .bipush 100, 2), (117, .newarray .int, 2), (119, .putfield 65, 3), (122, .aload_n 0, 1), (123, .bipush 6, 2), (125, .newarray .int, 2), (127, .putfield 68, 3), (130, .aload_n 0, 1), (131, .bipush 60, 2), (133, .newarray .int, 2), (135, .putfield 71, 3), (138, .aload_n 0, 1), (139, .bipush 60, 2), (141, .newarray .int, 2), (143, .putfield 74, 3), (146, .aload_n 0, 1), (147, .bipush 60, 2), (149, .newarray .int, 2), (151, .putfield 77, 3), (154, .aload_n 0, 1), (155, .bipush 60, 2), (157, .newarray .int, 2), (159, .putfield 80, 3), (162, .aload_n 0, 1), (163, .sipush 600, 3), (166, .newarray .int, 2), (168, .putfield 83, 3), (171, .aload_n 0, 1), (172, .bipush 101, 2), (174, .newarray .int, 2), (176, .putfield 86, 3), (179, .aload_n 0, 1), (180, .iconst 0, 1), (181, .putfield 89, 3), (184, .aload_n 0, 1), (185, .iconst 0, 1)]
set_option maxRecDepth 20000 in
theorem DX7_init_1 : lX7_init_1.all (dq cX7_init) = true := by decide +kernel
def lX7_init_2 : List (Nat × Instr × Nat) := [(186, .putfield 92, 3), (189, .aload_n 0, 1), (190, .iconst 0, 1), (191, .putfield 95, 3), (194, .aload_n 0, 1), (195, .bipush 16, 2), (197, .newarray .int, 2), (199, .dup, 1), (200, .iconst 0, 1), (201, .bipush 102, 2), (203, .iastore, 1), (204, .dup, 1), (205, .iconst 1, 1), (206, .bipush 105, 2), (208, .iastore, 1), (209, .dup, 1), (210, .iconst 2, 1), (211, .bipush 114, 2), (213, .iastore, 1), (214, .dup, 1), (215, .iconst 3, 1), (216, .bipush 109, 2), (218, .iastore, 1), (219, .dup, 1), (220, .iconst 4, 1), (221, .bipush 119, 2), (223, .iastore, 1), (224, .dup, 1), (225, .iconst 5, 1), (226, .bipush 101, 2), (228, .iastore, 1), (229, .dup, 1), (230, .bipush 6, 2), (232, .bipush 97, 2), (234, .iastore, 1), (235, .dup, 1), (236, .bipush 7, 2), (238, .bipush 107, 2), (240, .iastore, 1), (241, .dup, 1), (242, .bipush 8, 2), (244, .bipush 119, 2), (246, .iastore, 1), (247, .dup, 1), (248, .bipush 9, 2), (250, .bipush 105, 2), (252, .iastore, 1), (253, .dup, 1), (254, .bipush 10, 2), (256, .bipush 110, 2)]
set_option maxRecDepth 20000 in
theorem DX7_init_2 : lX7_init_2.all (dq cX7_init) = true := by decide +kernel
def lX7_init_3 : List (Nat × Instr × Nat) := [(258, .iastore, 1), (259, .dup, 1), (260, .bipush 11, 2), (262, .bipush 100, 2), (264, .iastore, 1), (265, .dup, 1), (266, .bipush 12, 2), (268, .bipush 108, 2), (270, .iastore, 1), (271, .dup, 1), (272, .bipush 13, 2), (274, .bipush 97, 2), (276, .iastore, 1), (277, .dup, 1), (278, .bipush 14, 2), (280, .bipush 115, 2), (282, .iastore, 1), (283, .dup, 1), (284, .bipush 15, 2), (286, .bipush 104, 2), (288, .iastore, 1), (289, .putfield 98, 3), (292, .aload_n 0, 1), (293, .bipush 100, 2), (295, .newarray .boolean, 2), (297, .putfield 101, 3), (300, .aload_n 0, 1), (301, .ldc 105, 2), (303, .putfield 106, 3), (306, .aload_n 0, 1), (307, .sipush 9999, 3), (310, .putfield 109, 3), (313, .aload_n 0, 1), (314, .iconst 3, 1), (315, .newarray .int, 2), (317, .putfield 112, 3), (320, .aload_n 0, 1), (321, .iconst 0, 1), (322, .putfield 115, 3), (325, .aload_n 0, 1), (326, .iconst 0, 1), (327, .putfield 118, 3), (330, .aload_n 0, 1), (331, .iconst 0, 1), (332, .putfield 121, 3), (335, .aload_n 0, 1), (336, .iconst 0, 1), (337, .putfield 124, 3), (340, .aload_n 0, 1), (341, .iconst 0, 1)]
set_option maxRecDepth 20000 in
theorem DX7_init_3 : lX7_init_3.all (dq cX7_init) = true := by decide +kernel
def lX7_init_4 : List (Nat × Instr × Nat) := [(342, .putfield 127, 3), (345, .aload_n 0, 1), (346, .bipush 6, 2), (348, .newarray .int, 2), (350, .putfield 130, 3), (353, .aload_n 0, 1), (354, .bipush 6, 2), (356, .newarray .int, 2), (358, .putfield 133, 3), (361, .aload_n 0, 1), (362, .bipush 6, 2), (364, .newarray .int, 2), (366, .putfield 136, 3), (369, .aload_n 0, 1), (370, .iconst 3, 1), (371, .newarray .int, 2), (373, .putfield 139, 3), (376, .aload_n 0, 1), (377, .iconst 0, 1), (378, .putfield 142, 3), (381, .aload_n 0, 1), (382, .iconst 3, 1), (383, .newarray .int, 2), (385, .putfield 145, 3), (388, .aload_n 0, 1), (389, .iconst 0, 1), (390, .putfield 148, 3), (393, .aload_n 0, 1), (394, .iconst 0, 1), (395, .putfield 151, 3), (398, .aload_n 0, 1), (399, .iconst 3, 1), (400, .newarray .int, 2), (402, .putfield 154, 3), (405, .aload_n 0, 1), (406, .iconst 0, 1), (407, .putfield 157, 3), (410, .aload_n 0, 1), (411, .iconst 5, 1), (412, .newarray .int, 2), (414, .putfield 160, 3), (417, .aload_n 0, 1), (418, .iconst 5, 1), (419, .newarray .int, 2), (421, .putfield 163, 3), (424, .aload_n 0, 1), (425, .iconst 0, 1), (426, .putfield 166, 3), (429, .aload_n 0, 1), (430, .iconst 0, 1)]
set_option maxRecDepth 20000 in
theorem DX7_init_4 : lX7_init_4.all (dq cX7_init) = true := by decide +kernel
def lX7_init_5 : List (Nat × Instr × Nat) := [(431, .putfield 169, 3), (434, .aload_n 0, 1), (435, .bipush 10, 2), (437, .newarray .int, 2), (439, .putfield 172, 3), (442, .aload_n 0, 1), (443, .bipush 10, 2), (445, .newarray .int, 2), (447, .putfield 175, 3), (450, .aload_n 0, 1), (451, .bipush 8, 2), (453, .newarray .int, 2), (455, .putfield 178, 3), (458, .aload_n 0, 1), (459, .bipush 8, 2), (461, .newarray .int, 2), (463, .putfield 181, 3), (466, .aload_n 0, 1), (467, .iconst 0, 1), (468, .putfield 184, 3), (471, .aload_n 0, 1), (472, .iconst (-1), 1), (473, .putfield 188, 3), (476, .aload_n 0, 1), (477, .iconst 0, 1), (478, .putfield 191, 3), (481, .aload_n 0, 1), (482, .iconst 0, 1), (483, .putfield 194, 3), (486, .aload_n 0, 1), (487, .iconst 0, 1), (488, .putfield 197, 3), (491, .aload_n 0, 1), (492, .iconst 0, 1), (493, .putfield 200, 3), (496, .aload_n 0, 1), (497, .iconst 0, 1), (498, .putfield 203, 3), (501, .aload_n 0, 1), (502, .iconst 0, 1), (503, .putfield 206, 3), (506, .aload_n 0, 1), (507, .iconst 0, 1), (508, .putfield 209, 3), (511, .aload_n 0, 1), (512, .iconst 0, 1), (513, .putfield 212, 3), (516, .aload_n 0, 1), (517, .iconst 0, 1), (518, .putfield 215, 3)]
set_option maxRecDepth 20000 in
theorem DX7_init_5 : lX7_init_5.all (dq cX7_init) = true := by decide +kernel
def lX7_init_6 : List (Nat × Instr × Nat) := [(521, .aload_n 0, 1), (522, .bipush 6, 2), (524, .newarray .int, 2), (526, .putfield 218, 3), (529, .aload_n 0, 1), (530, .bipush 6, 2), (532, .newarray .int, 2), (534, .putfield 221, 3), (537, .aload_n 0, 1), (538, .bipush 6, 2), (540, .newarray .int, 2), (542, .putfield 224, 3), (545, .aload_n 0, 1), (546, .bipush 6, 2), (548, .newarray .int, 2), (550, .putfield 227, 3), (553, .aload_n 0, 1), (554, .bipush 6, 2), (556, .newarray .int, 2), (558, .putfield 230, 3), (561, .aload_n 0, 1), (562, .bipush 24, 2), (564, .newarray .int, 2), (566, .putfield 233, 3), (569, .aload_n 0, 1), (570, .iconst 3, 1), (571, .newarray .int, 2), (573, .putfield 236, 3), (576, .aload_n 0, 1), (577, .iconst 5, 1), (578, .newarray .int, 2), (580, .putfield 239, 3), (583, .aload_n 0, 1), (584, .iconst 5, 1), (585, .newarray .int, 2), (587, .putfield 242, 3), (590, .aload_n 0, 1), (591, .bipush 10, 2), (593, .newarray .int, 2), (595, .putfield 245, 3), (598, .aload_n 0, 1), (599, .bipush 10, 2), (601, .newarray .int, 2), (603, .putfield 248, 3), (606, .aload_n 0, 1), (607, .bipush 8, 2), (609, .newarray .int, 2), (611, .putfield 251, 3), (614, .aload_n 0, 1), (615, .bipush 8, 2)]
set_option maxRecDepth 20000 in
theorem DX7_init_6 : lX7_init_6.all (dq cX7_init) = true := by decide +kernel
def lX7_init_7 : List (Nat × Instr × Nat) := [(617, .newarray .int, 2), (619, .putfield 254, 3), (622, .aload_n 0, 1), (623, .iconst 0, 1), (624, .putfield 257, 3), (627, .aload_n 0, 1), (628, .bipush 20, 2), (630, .newarray .int, 2), (632, .putfield 260, 3), (635, .aload_n 0, 1), (636, .bipush 6, 2), (638, .newarray .int, 2), (640, .dup, 1), (641, .iconst 0, 1), (642, .iconst (-1), 1), (643, .iastore, 1), (644, .dup, 1), (645, .iconst 1, 1), (646, .iconst (-1), 1), (647, .iastore, 1), (648, .dup, 1), (649, .iconst 2, 1), (650, .iconst (-1), 1), (651, .iastore, 1), (652, .dup, 1), (653, .iconst 3, 1), (654, .iconst (-1), 1), (655, .iastore, 1), (656, .dup, 1), (657, .iconst 4, 1), (658, .iconst (-1), 1), (659, .iastore, 1), (660, .dup, 1), (661, .iconst 5, 1), (662, .iconst (-1), 1), (663, .iastore, 1), (664, .putfield 263, 3), (667, .aload_n 0, 1), (668, .bipush 6, 2), (670, .newarray .int, 2), (672, .putfield 266, 3), (675, .aload_n 0, 1), (676, .sipush 360, 3), (679, .newarray .long, 2), (681, .putfield 269, 3), (684, .aload_n 0, 1), (685, .bipush 60, 2), (687, .newarray .long, 2), (689, .putfield 273, 3), (692, .return_, 1)]
set_option maxRecDepth 20000 in
theorem DX7_init_7 : lX7_init_7.all (dq cX7_init) = true := by decide +kernel
def lX7_in_0 : List (Nat × Instr × Nat) := [(0, .iload_n 1, 1), (1, .iload_n 2, 1), (2, .if_icmp .lt 12, 3), (5, .iload_n 1, 1), (6, .iload_n 3, 1), (7, .if_icmp .gt 7, 3), (10, .iconst 1, 1), (11, .goto 4, 3), (14, .iconst 0, 1), (15, .ireturn, 1)]
set_option maxRecDepth 20000 in
theorem DX7_in_0 : lX7_in_0.all (dq cX7_in) = true := by decide +kernel
def lX7_least0_0 : List (Nat × Instr × Nat) := [(0, .iload_n 1, 1), (1, .ifCond .ge 7, 3), (4, .iconst 0, 1), (5, .goto 4, 3), (8, .iload_n 1, 1), (9, .ireturn, 1)]
set_option maxRecDepth 20000 in
theorem DX7_least0_0 : lX7_least0_0.all (dq cX7_least0) = true := by decide +kernel
def lX7_least_0 : List (Nat × Instr × Nat) := [(0, .iload_n 1, 1), (1, .iload_n 2, 1), (2, .if_icmp .ge 7, 3), (5, .iload_n 1, 1), (6, .goto 4, 3), (9, .iload_n 2, 1), (10, .ireturn, 1)]
set_option maxRecDepth 20000 in
theorem DX7_least_0 : lX7_least_0.all (dq cX7_least) = true := by decide +kernel
def lX7_isPiece_0 : List (Nat × Instr × Nat) := [(0, .aload_n 0, 1), (1, .iload_n 1, 1), (2, .iconst 0, 1), (3, .aload_n 0, 1), (4, .getfield 7, 3), (7, .iconst 1, 1), (8, .isub, 1), (9, .invokevirtual 276, 3), (12, .ireturn, 1)]
set_option maxRecDepth 20000 in
theorem DX7_isPiece_0 : lX7_isPiece_0.all (dq cX7_isPiece) = true := by decide +kernel
def lX7_isFeet_0 : List (Nat × Instr × Nat) := [(0, .aload_n 0, 1), (1, .iload_n 1, 1), (2, .iconst 0, 1), (3, .bipush 99, 2), (5, .invokevirtual 276, 3), (8, .ireturn, 1)]
set_option maxRecDepth 20000 in
theorem DX7_isFeet_0 : lX7_isFeet_0.all (dq cX7_isFeet) = true := by decide +kernel
def lX7_isDays_0 : List (Nat × Instr × Nat) := [(0, .aload_n 0, 1), (1, .iload_n 1, 1), (2, .iconst 0, 1), (3, .bipush 60, 2), (5, .invokevirtual 276, 3), (8, .ireturn, 1)]
set_option maxRecDepth 20000 in
theorem DX7_isDays_0 : lX7_isDays_0.all (dq cX7_isDays) = true := by decide +kernel
def lX7_isTrim_0 : List (Nat × Instr × Nat) := [(0, .aload_n 0, 1), (1, .iload_n 1, 1), (2, .iconst 0, 1), (3, .bipush 9, 2), (5, .invokevirtual 276, 3), (8, .ireturn, 1)]
set_option maxRecDepth 20000 in
theorem DX7_isTrim_0 : lX7_isTrim_0.all (dq cX7_isTrim) = true := by decide +kernel
def lX7_piece_0 : List (Nat × Instr × Nat) := [(0, .aload_n 0, 1), (1, .iload_n 1, 1), (2, .iconst 0, 1), (3, .bipush 6, 2), (5, .invokevirtual 276, 3), (8, .ifCond .ne 5, 3), (11, .iconst (-1), 1), (12, .ireturn, 1), (13, .aload_n 0, 1), (14, .iload_n 2, 1), (15, .iconst 0, 1), (16, .bipush 9, 2), (18, .invokevirtual 276, 3), (21, .ifCond .eq 14, 3), (24, .aload_n 0, 1), (25, .iload_n 3, 1), (26, .iconst 1, 1), (27, .bipush 99, 2), (29, .invokevirtual 276, 3), (32, .ifCond .ne 6, 3), (35, .bipush (-2), 2), (37, .ireturn, 1), (38, .aload_n 0, 1), (39, .getfield 7, 3), (42, .bipush 6, 2), (44, .if_icmp .ne 6, 3), (47, .bipush (-4), 2), (49, .ireturn, 1), (50, .aload_n 0, 1), (51, .getfield 28, 3), (54, .aload_n 0, 1), (55, .getfield 7, 3), (58, .iload_n 1, 1), (59, .iastore, 1), (60, .aload_n 0, 1), (61, .getfield 32, 3), (64, .aload_n 0, 1), (65, .getfield 7, 3), (68, .iload_n 2, 1), (69, .iastore, 1), (70, .aload_n 0, 1), (71, .getfield 35, 3), (74, .aload_n 0, 1), (75, .getfield 7, 3), (78, .iload_n 3, 1), (79, .iastore, 1), (80, .aload_n 0, 1), (81, .getfield 38, 3), (84, .aload_n 0, 1), (85, .getfield 7, 3)]
set_option maxRecDepth 20000 in
theorem DX7_piece_0 : lX7_piece_0.all (dq cX7_piece) = true := by decide +kernel
def lX7_piece_1 : List (Nat × Instr × Nat) := [(88, .iconst 0, 1), (89, .iastore, 1), (90, .aload_n 0, 1), (91, .getfield 41, 3), (94, .aload_n 0, 1), (95, .getfield 7, 3), (98, .iconst 0, 1), (99, .iastore, 1), (100, .iconst 0, 1), (101, .istore 4, 2), (103, .iload 4, 2), (105, .iconst 4, 1), (106, .if_icmp .ge 24, 3), (109, .aload_n 0, 1), (110, .getfield 44, 3), (113, .iconst 4, 1), (114, .aload_n 0, 1), (115, .getfield 7, 3), (118, .imul, 1), (119, .iload 4, 2), (121, .iadd, 1), (122, .iconst 0, 1), (123, .iastore, 1), (124, .iinc 4 1, 3), (127, .goto (-24), 3), (130, .aload_n 0, 1), (131, .dup, 1), (132, .getfield 7, 3), (135, .iconst 1, 1), (136, .iadd, 1), (137, .putfield 7, 3), (140, .aload_n 0, 1), (141, .getfield 7, 3), (144, .iconst 1, 1), (145, .isub, 1), (146, .ireturn, 1)]
set_option maxRecDepth 20000 in
theorem DX7_piece_1 : lX7_piece_1.all (dq cX7_piece) = true := by decide +kernel
def lX7_set_0 : List (Nat × Instr × Nat) := [(0, .aload_n 0, 1), (1, .iload_n 1, 1), (2, .invokevirtual 280, 3), (5, .ifCond .eq 13, 3), (8, .aload_n 0, 1), (9, .iload_n 2, 1), (10, .iconst 0, 1), (11, .iconst 1, 1), (12, .invokevirtual 276, 3), (15, .ifCond .ne 5, 3), (18, .iconst (-1), 1), (19, .ireturn, 1), (20, .aload_n 0, 1), (21, .iload_n 3, 1), (22, .invokevirtual 284, 3), (25, .ifCond .ne 6, 3), (28, .bipush (-2), 2), (30, .ireturn, 1), (31, .iload_n 2, 1), (32, .ifCond .ne 12, 3), (35, .aload_n 0, 1), (36, .getfield 35, 3), (39, .iload_n 1, 1), (40, .iaload, 1), (41, .goto 9, 3), (44, .aload_n 0, 1), (45, .getfield 38, 3), (48, .iload_n 1, 1), (49, .iaload, 1), (50, .istore 4, 2), (52, .iload_n 2, 1), (53, .ifCond .ne 13, 3), (56, .aload_n 0, 1), (57, .getfield 35, 3), (60, .iload_n 1, 1), (61, .iload_n 3, 1), (62, .iastore, 1), (63, .goto 10, 3), (66, .aload_n 0, 1), (67, .getfield 38, 3), (70, .iload_n 1, 1), (71, .iload_n 3, 1), (72, .iastore, 1), (73, .iload 4, 2), (75, .ireturn, 1)]
set_option maxRecDepth 20000 in
theorem DX7_set_0 : lX7_set_0.all (dq cX7_set) = true := by decide +kernel
def lX7_row_0 : List (Nat × Instr × Nat) := [(0, .aload_n 0, 1), (1, .iload_n 1, 1), (2, .invokevirtual 280, 3), (5, .ifCond .eq 13, 3), (8, .aload_n 0, 1), (9, .iload_n 2, 1), (10, .iconst 0, 1), (11, .iconst 3, 1), (12, .invokevirtual 276, 3), (15, .ifCond .ne 5, 3), (18, .iconst (-1), 1), (19, .ireturn, 1), (20, .aload_n 0, 1), (21, .iload_n 3, 1), (22, .iconst 0, 1), (23, .bipush 9, 2), (25, .invokevirtual 276, 3), (28, .ifCond .ne 6, 3), (31, .bipush (-2), 2), (33, .ireturn, 1), (34, .aload_n 0, 1), (35, .getfield 28, 3), (38, .iload_n 1, 1), (39, .iaload, 1), (40, .bipush 6, 2), (42, .if_icmp .eq 6, 3), (45, .bipush (-3), 2), (47, .ireturn, 1), (48, .aload_n 0, 1), (49, .getfield 44, 3), (52, .iconst 4, 1), (53, .iload_n 1, 1), (54, .imul, 1), (55, .iload_n 2, 1), (56, .iadd, 1), (57, .iaload, 1), (58, .istore 4, 2), (60, .aload_n 0, 1), (61, .getfield 44, 3), (64, .iconst 4, 1), (65, .iload_n 1, 1), (66, .imul, 1), (67, .iload_n 2, 1), (68, .iadd, 1), (69, .iload_n 3, 1), (70, .iastore, 1), (71, .iload 4, 2), (73, .ireturn, 1)]
set_option maxRecDepth 20000 in
theorem DX7_row_0 : lX7_row_0.all (dq cX7_row) = true := by decide +kernel
def lX7_placeOf_0 : List (Nat × Instr × Nat) := [(0, .iconst 0, 1), (1, .istore_n 2, 1), (2, .iload_n 2, 1), (3, .aload_n 0, 1), (4, .getfield 13, 3), (7, .if_icmp .ge 21, 3), (10, .aload_n 0, 1), (11, .getfield 47, 3), (14, .iload_n 2, 1), (15, .iaload, 1), (16, .iload_n 1, 1), (17, .if_icmp .ne 5, 3), (20, .iload_n 2, 1), (21, .ireturn, 1), (22, .iinc 2 1, 3), (25, .goto (-23), 3), (28, .bipush (-5), 2), (30, .ireturn, 1)]
set_option maxRecDepth 20000 in
theorem DX7_placeOf_0 : lX7_placeOf_0.all (dq cX7_placeOf) = true := by decide +kernel
def lX7_hoists_0 : List (Nat × Instr × Nat) := [(0, .aload_n 0, 1), (1, .getfield 47, 3), (4, .aload_n 0, 1), (5, .getfield 13, 3), (8, .iload_n 1, 1), (9, .iastore, 1), (10, .aload_n 0, 1), (11, .dup, 1), (12, .getfield 13, 3), (15, .iconst 1, 1), (16, .iadd, 1), (17, .putfield 13, 3), (20, .return_, 1)]
set_option maxRecDepth 20000 in
theorem DX7_hoists_0 : lX7_hoists_0.all (dq cX7_hoists) = true := by decide +kernel
def lX7_hoist_0 : List (Nat × Instr × Nat) := [(0, .aload_n 0, 1), (1, .iload_n 1, 1), (2, .invokevirtual 280, 3), (5, .ifCond .ne 5, 3), (8, .iconst (-1), 1), (9, .ireturn, 1), (10, .aload_n 0, 1), (11, .iload_n 1, 1), (12, .invokevirtual 287, 3), (15, .ifCond .lt 6, 3), (18, .bipush (-3), 2), (20, .ireturn, 1), (21, .aload_n 0, 1), (22, .getfield 13, 3), (25, .iconst 3, 1), (26, .if_icmp .ne 6, 3), (29, .bipush (-4), 2), (31, .ireturn, 1), (32, .aload_n 0, 1), (33, .iload_n 1, 1), (34, .invokevirtual 291, 3), (37, .aload_n 0, 1), (38, .getfield 13, 3), (41, .ireturn, 1)]
set_option maxRecDepth 20000 in
theorem DX7_hoist_0 : lX7_hoist_0.all (dq cX7_hoist) = true := by decide +kernel
def lX7_lower_0 : List (Nat × Instr × Nat) := [(0, .aload_n 0, 1), (1, .iload_n 1, 1), (2, .invokevirtual 280, 3), (5, .ifCond .ne 5, 3), (8, .iconst (-1), 1), (9, .ireturn, 1), (10, .aload_n 0, 1), (11, .iload_n 1, 1), (12, .invokevirtual 287, 3), (15, .ifCond .ge 6, 3), (18, .bipush (-3), 2), (20, .ireturn, 1), (21, .aload_n 0, 1), (22, .aload_n 0, 1), (23, .iload_n 1, 1), (24, .invokevirtual 287, 3), (27, .putfield 13, 3), (30, .aload_n 0, 1), (31, .getfield 13, 3), (34, .ireturn, 1)]
set_option maxRecDepth 20000 in
theorem DX7_lower_0 : lX7_lower_0.all (dq cX7_lower) = true := by decide +kernel
def lX7_trim_0 : List (Nat × Instr × Nat) := [(0, .aload_n 0, 1), (1, .iload_n 1, 1), (2, .iconst 0, 1), (3, .iconst 1, 1), (4, .invokevirtual 276, 3), (7, .ifCond .ne 5, 3), (10, .iconst (-1), 1), (11, .ireturn, 1), (12, .aload_n 0, 1), (13, .iload_n 2, 1), (14, .invokevirtual 295, 3), (17, .ifCond .ne 6, 3), (20, .bipush (-2), 2), (22, .ireturn, 1), (23, .iload_n 1, 1), (24, .ifCond .ne 10, 3), (27, .aload_n 0, 1), (28, .getfield 16, 3), (31, .goto 7, 3), (34, .aload_n 0, 1), (35, .getfield 19, 3), (38, .istore_n 3, 1), (39, .iload_n 1, 1), (40, .ifCond .ne 11, 3), (43, .aload_n 0, 1), (44, .iload_n 2, 1), (45, .putfield 16, 3), (48, .goto 8, 3), (51, .aload_n 0, 1), (52, .iload_n 2, 1), (53, .putfield 19, 3), (56, .iload_n 3, 1), (57, .ireturn, 1)]
set_option maxRecDepth 20000 in
theorem DX7_trim_0 : lX7_trim_0.all (dq cX7_trim) = true := by decide +kernel
def lX7_feed_0 : List (Nat × Instr × Nat) := [(0, .aload_n 0, 1), (1, .iload_n 1, 1), (2, .iconst 0, 1), (3, .bipush 127, 2), (5, .invokevirtual 276, 3), (8, .ifCond .ne 6, 3), (11, .bipush (-2), 2), (13, .ireturn, 1), (14, .aload_n 0, 1), (15, .getfield 56, 3), (18, .bipush 100, 2), (20, .if_icmp .ne 6, 3), (23, .bipush (-4), 2), (25, .ireturn, 1), (26, .aload_n 0, 1), (27, .getfield 65, 3), (30, .aload_n 0, 1), (31, .getfield 56, 3), (34, .iload_n 1, 1), (35, .iastore, 1), (36, .aload_n 0, 1), (37, .dup, 1), (38, .getfield 56, 3), (41, .iconst 1, 1), (42, .iadd, 1), (43, .putfield 56, 3), (46, .aload_n 0, 1), (47, .getfield 56, 3), (50, .ireturn, 1)]
set_option maxRecDepth 20000 in
theorem DX7_feed_0 : lX7_feed_0.all (dq cX7_feed) = true := by decide +kernel
def lX7_next_0 : List (Nat × Instr × Nat) := [(0, .aload_n 0, 1), (1, .getfield 59, 3), (4, .aload_n 0, 1), (5, .getfield 56, 3), (8, .if_icmp .ge 15, 3), (11, .aload_n 0, 1), (12, .getfield 65, 3), (15, .aload_n 0, 1), (16, .getfield 59, 3), (19, .iaload, 1), (20, .goto 4, 3), (23, .iconst (-1), 1), (24, .ireturn, 1)]
set_option maxRecDepth 20000 in
theorem DX7_next_0 : lX7_next_0.all (dq cX7_next) = true := by decide +kernel
def lX7_second_0 : List (Nat × Instr × Nat) := [(0, .aload_n 0, 1), (1, .getfield 59, 3), (4, .iconst 1, 1), (5, .iadd, 1), (6, .aload_n 0, 1), (7, .getfield 56, 3), (10, .if_icmp .ge 17, 3), (13, .aload_n 0, 1), (14, .getfield 65, 3), (17, .aload_n 0, 1), (18, .getfield 59, 3), (21, .iconst 1, 1), (22, .iadd, 1), (23, .iaload, 1), (24, .goto 4, 3), (27, .iconst (-1), 1), (28, .ireturn, 1)]
set_option maxRecDepth 20000 in
theorem DX7_second_0 : lX7_second_0.all (dq cX7_second) = true := by decide +kernel
def lX7_takes_0 : List (Nat × Instr × Nat) := [(0, .aload_n 0, 1), (1, .invokevirtual 298, 3), (4, .iload_n 1, 1), (5, .if_icmp .eq 5, 3), (8, .iconst 0, 1), (9, .ireturn, 1), (10, .aload_n 0, 1), (11, .dup, 1), (12, .getfield 59, 3), (15, .iconst 1, 1), (16, .iadd, 1), (17, .putfield 59, 3), (20, .iconst 1, 1), (21, .ireturn, 1)]
set_option maxRecDepth 20000 in
theorem DX7_takes_0 : lX7_takes_0.all (dq cX7_takes) = true := by decide +kernel
def lX7_takesWord_0 : List (Nat × Instr × Nat) := [(0, .iconst 0, 1), (1, .istore_n 3, 1), (2, .iload_n 3, 1), (3, .iload_n 2, 1), (4, .if_icmp .ge 26, 3), (7, .aload_n 0, 1), (8, .aload_n 0, 1), (9, .getfield 98, 3), (12, .iload_n 1, 1), (13, .iload_n 3, 1), (14, .iadd, 1), (15, .iaload, 1), (16, .invokevirtual 302, 3), (19, .ifCond .ne 5, 3), (22, .iconst 0, 1), (23, .ireturn, 1), (24, .iinc 3 1, 3), (27, .goto (-25), 3), (30, .aload_n 0, 1), (31, .bipush 32, 2), (33, .invokevirtual 302, 3), (36, .ireturn, 1)]
set_option maxRecDepth 20000 in
theorem DX7_takesWord_0 : lX7_takesWord_0.all (dq cX7_takesWord) = true := by decide +kernel
def lX7_isDigit_0 : List (Nat × Instr × Nat) := [(0, .aload_n 0, 1), (1, .aload_n 0, 1), (2, .invokevirtual 298, 3), (5, .bipush 48, 2), (7, .bipush 57, 2), (9, .invokevirtual 276, 3), (12, .ireturn, 1)]
set_option maxRecDepth 20000 in
theorem DX7_isDigit_0 : lX7_isDigit_0.all (dq cX7_isDigit) = true := by decide +kernel
def lX7_takesNumber_0 : List (Nat × Instr × Nat) := [(0, .aload_n 0, 1), (1, .invokevirtual 305, 3), (4, .ifCond .ne 5, 3), (7, .iconst 0, 1), (8, .ireturn, 1), (9, .aload_n 0, 1), (10, .iconst 0, 1), (11, .putfield 62, 3), (14, .iconst 0, 1), (15, .istore_n 1, 1), (16, .iload_n 1, 1), (17, .iconst 2, 1), (18, .if_icmp .ge 45, 3), (21, .aload_n 0, 1), (22, .invokevirtual 305, 3), (25, .ifCond .eq 38, 3), (28, .aload_n 0, 1), (29, .bipush 10, 2), (31, .aload_n 0, 1), (32, .getfield 62, 3), (35, .imul, 1), (36, .aload_n 0, 1), (37, .invokevirtual 298, 3), (40, .iadd, 1), (41, .bipush 48, 2), (43, .isub, 1), (44, .putfield 62, 3), (47, .aload_n 0, 1), (48, .dup, 1), (49, .getfield 59, 3), (52, .iconst 1, 1), (53, .iadd, 1), (54, .putfield 59, 3), (57, .iinc 1 1, 3), (60, .goto (-44), 3), (63, .iconst 1, 1), (64, .ireturn, 1)]
set_option maxRecDepth 20000 in
theorem DX7_takesNumber_0 : lX7_takesNumber_0.all (dq cX7_takesNumber) = true := by decide +kernel
def lX7_emits_0 : List (Nat × Instr × Nat) := [(0, .aload_n 0, 1), (1, .getfield 83, 3), (4, .aload_n 0, 1), (5, .getfield 89, 3), (8, .iload_n 1, 1), (9, .iastore, 1), (10, .aload_n 0, 1), (11, .dup, 1), (12, .getfield 89, 3), (15, .iconst 1, 1), (16, .iadd, 1), (17, .putfield 89, 3), (20, .return_, 1)]
set_option maxRecDepth 20000 in
theorem DX7_emits_0 : lX7_emits_0.all (dq cX7_emits) = true := by decide +kernel
def lX7_whole_0 : List (Nat × Instr × Nat) := [(0, .aload_n 0, 1), (1, .getfield 92, 3), (4, .ifCond .le 48, 3), (7, .aload_n 0, 1), (8, .getfield 86, 3), (11, .aload_n 0, 1), (12, .getfield 92, 3), (15, .iconst 1, 1), (16, .isub, 1), (17, .iaload, 1), (18, .bipush 33, 2), (20, .if_icmp .ne 32, 3), (23, .aload_n 0, 1), (24, .bipush (-33), 2), (26, .invokevirtual 309, 3), (29, .aload_n 0, 1), (30, .dup, 1), (31, .getfield 92, 3), (34, .iconst 1, 1), (35, .isub, 1), (36, .putfield 92, 3), (39, .aload_n 0, 1), (40, .dup, 1), (41, .getfield 95, 3), (44, .iconst 1, 1), (45, .isub, 1), (46, .putfield 95, 3), (49, .goto (-49), 3), (52, .return_, 1)]
set_option maxRecDepth 20000 in
theorem DX7_whole_0 : lX7_whole_0.all (dq cX7_whole) = true := by decide +kernel
def lX7_settle_0 : List (Nat × Instr × Nat) := [(0, .aload_n 0, 1), (1, .getfield 92, 3), (4, .ifCond .le 68, 3), (7, .aload_n 0, 1), (8, .getfield 86, 3), (11, .aload_n 0, 1), (12, .getfield 92, 3), (15, .iconst 1, 1), (16, .isub, 1), (17, .iaload, 1), (18, .bipush 38, 2), (20, .if_icmp .eq 25, 3), (23, .aload_n 0, 1), (24, .getfield 86, 3), (27, .aload_n 0, 1), (28, .getfield 92, 3), (31, .iconst 1, 1), (32, .isub, 1), (33, .iaload, 1), (34, .bipush 124, 2), (36, .if_icmp .ne 36, 3), (39, .iload_n 1, 1), (40, .bipush 38, 2), (42, .if_icmp .eq 30, 3), (45, .aload_n 0, 1), (46, .dup, 1), (47, .getfield 92, 3), (50, .iconst 1, 1), (51, .isub, 1), (52, .putfield 92, 3), (55, .aload_n 0, 1), (56, .aload_n 0, 1), (57, .getfield 86, 3), (60, .aload_n 0, 1), (61, .getfield 92, 3), (64, .iaload, 1), (65, .ineg, 1), (66, .invokevirtual 309, 3), (69, .goto (-69), 3), (72, .return_, 1)]
set_option maxRecDepth 20000 in
theorem DX7_settle_0 : lX7_settle_0.all (dq cX7_settle) = true := by decide +kernel
def lX7_place_0 : List (Nat × Instr × Nat) := [(0, .iload_n 1, 1), (1, .tableswitch 107 100 119 #[105, 107, 107, 107, 107, 107, 107, 97, 101, 107, 107, 107, 95, 107, 107, 107, 107, 107, 99, 103], 95), (96, .iconst 0, 1), (97, .ireturn, 1), (98, .iconst 1, 1), (99, .ireturn, 1), (100, .iconst 2, 1), (101, .ireturn, 1), (102, .iconst 3, 1), (103, .ireturn, 1), (104, .iconst 4, 1), (105, .ireturn, 1), (106, .iconst 5, 1), (107, .ireturn, 1), (108, .iconst (-1), 1), (109, .ireturn, 1)]
set_option maxRecDepth 20000 in
theorem DX7_place_0 : lX7_place_0.all (dq cX7_place) = true := by decide +kernel
def lX7_takesTest_0 : List (Nat × Instr × Nat) := [(0, .aload_n 0, 1), (1, .aload_n 0, 1), (2, .invokevirtual 298, 3), (5, .invokevirtual 312, 3), (8, .istore_n 1, 1), (9, .iload_n 1, 1), (10, .ifCond .ge 5, 3), (13, .iconst 0, 1), (14, .ireturn, 1), (15, .aload_n 0, 1), (16, .dup, 1), (17, .getfield 59, 3), (20, .iconst 1, 1), (21, .iadd, 1), (22, .putfield 59, 3), (25, .aload_n 0, 1), (26, .invokevirtual 298, 3), (29, .istore_n 2, 1), (30, .aload_n 0, 1), (31, .iload_n 2, 1), (32, .bipush 60, 2), (34, .bipush 62, 2), (36, .invokevirtual 276, 3), (39, .ifCond .ne 5, 3), (42, .iconst 0, 1), (43, .ireturn, 1), (44, .aload_n 0, 1), (45, .dup, 1), (46, .getfield 59, 3), (49, .iconst 1, 1), (50, .iadd, 1), (51, .putfield 59, 3), (54, .aload_n 0, 1), (55, .invokevirtual 315, 3), (58, .ifCond .ne 5, 3), (61, .iconst 0, 1), (62, .ireturn, 1), (63, .aload_n 0, 1), (64, .sipush 1000, 3), (67, .iload_n 1, 1), (68, .imul, 1), (69, .bipush 100, 2), (71, .iload_n 2, 1), (72, .bipush 60, 2), (74, .isub, 1), (75, .imul, 1), (76, .iadd, 1), (77, .aload_n 0, 1), (78, .getfield 62, 3), (81, .iadd, 1)]
set_option maxRecDepth 20000 in
theorem DX7_takesTest_0 : lX7_takesTest_0.all (dq cX7_takesTest) = true := by decide +kernel
def lX7_takesTest_1 : List (Nat × Instr × Nat) := [(82, .invokevirtual 309, 3), (85, .aload_n 0, 1), (86, .invokevirtual 318, 3), (89, .iconst 1, 1), (90, .ireturn, 1)]
set_option maxRecDepth 20000 in
theorem DX7_takesTest_1 : lX7_takesTest_1.all (dq cX7_takesTest) = true := by decide +kernel
def lX7_takesE_0 : List (Nat × Instr × Nat) := [(0, .aload_n 0, 1), (1, .iconst 0, 1), (2, .putfield 92, 3), (5, .aload_n 0, 1), (6, .iconst 0, 1), (7, .putfield 95, 3), (10, .aload_n 0, 1), (11, .getfield 77, 3), (14, .iload_n 1, 1), (15, .aload_n 0, 1), (16, .getfield 89, 3), (19, .iastore, 1), (20, .iconst 1, 1), (21, .istore_n 2, 1), (22, .aload_n 0, 1), (23, .invokevirtual 298, 3), (26, .istore_n 3, 1), (27, .iload_n 2, 1), (28, .ifCond .eq 82, 3), (31, .iload_n 3, 1), (32, .bipush 33, 2), (34, .if_icmp .eq 9, 3), (37, .iload_n 3, 1), (38, .bipush 40, 2), (40, .if_icmp .ne 56, 3), (43, .aload_n 0, 1), (44, .getfield 95, 3), (47, .iconst 4, 1), (48, .if_icmp .ne 5, 3), (51, .iconst 0, 1), (52, .ireturn, 1), (53, .aload_n 0, 1), (54, .dup, 1), (55, .getfield 95, 3), (58, .iconst 1, 1), (59, .iadd, 1), (60, .putfield 95, 3), (63, .aload_n 0, 1), (64, .getfield 86, 3), (67, .aload_n 0, 1), (68, .getfield 92, 3), (71, .iload_n 3, 1), (72, .iastore, 1), (73, .aload_n 0, 1), (74, .dup, 1), (75, .getfield 92, 3), (78, .iconst 1, 1), (79, .iadd, 1), (80, .putfield 92, 3), (83, .aload_n 0, 1)]
set_option maxRecDepth 20000 in
theorem DX7_takesE_0 : lX7_takesE_0.all (dq cX7_takesE) = true := by decide +kernel
def lX7_takesE_1 : List (Nat × Instr × Nat) := [(84, .dup, 1), (85, .getfield 59, 3), (88, .iconst 1, 1), (89, .iadd, 1), (90, .putfield 59, 3), (93, .goto (-71), 3), (96, .aload_n 0, 1), (97, .invokevirtual 321, 3), (100, .ifCond .eq 8, 3), (103, .iconst 0, 1), (104, .istore_n 2, 1), (105, .goto (-83), 3), (108, .iconst 0, 1), (109, .ireturn, 1), (110, .iload_n 3, 1), (111, .bipush 38, 2), (113, .if_icmp .eq 9, 3), (116, .iload_n 3, 1), (117, .bipush 124, 2), (119, .if_icmp .ne 43, 3), (122, .aload_n 0, 1), (123, .iload_n 3, 1), (124, .invokevirtual 324, 3), (127, .aload_n 0, 1), (128, .getfield 86, 3), (131, .aload_n 0, 1), (132, .getfield 92, 3), (135, .iload_n 3, 1), (136, .iastore, 1), (137, .aload_n 0, 1), (138, .dup, 1), (139, .getfield 92, 3), (142, .iconst 1, 1), (143, .iadd, 1), (144, .putfield 92, 3), (147, .iconst 1, 1), (148, .istore_n 2, 1), (149, .aload_n 0, 1), (150, .dup, 1), (151, .getfield 59, 3), (154, .iconst 1, 1), (155, .iadd, 1), (156, .putfield 59, 3), (159, .goto (-137), 3), (162, .aload_n 0, 1), (163, .bipush 124, 2), (165, .invokevirtual 324, 3), (168, .aload_n 0, 1), (169, .getfield 80, 3), (172, .iload_n 1, 1)]
set_option maxRecDepth 20000 in
theorem DX7_takesE_1 : lX7_takesE_1.all (dq cX7_takesE) = true := by decide +kernel
def lX7_takesE_2 : List (Nat × Instr × Nat) := [(173, .aload_n 0, 1), (174, .getfield 89, 3), (177, .iastore, 1), (178, .aload_n 0, 1), (179, .getfield 92, 3), (182, .ifCond .ne 5, 3), (185, .iconst 1, 1), (186, .ireturn, 1), (187, .iload_n 3, 1), (188, .bipush 41, 2), (190, .if_icmp .eq 5, 3), (193, .iconst 0, 1), (194, .ireturn, 1), (195, .aload_n 0, 1), (196, .dup, 1), (197, .getfield 92, 3), (200, .iconst 1, 1), (201, .isub, 1), (202, .putfield 92, 3), (205, .aload_n 0, 1), (206, .dup, 1), (207, .getfield 95, 3), (210, .iconst 1, 1), (211, .isub, 1), (212, .putfield 95, 3), (215, .aload_n 0, 1), (216, .dup, 1), (217, .getfield 59, 3), (220, .iconst 1, 1), (221, .iadd, 1), (222, .putfield 59, 3), (225, .aload_n 0, 1), (226, .invokevirtual 318, 3), (229, .goto (-207), 3)]
set_option maxRecDepth 20000 in
theorem DX7_takesE_2 : lX7_takesE_2.all (dq cX7_takesE) = true := by decide +kernel
def lX7_takesHead_0 : List (Nat × Instr × Nat) := [(0, .aload_n 0, 1), (1, .invokevirtual 298, 3), (4, .lookupswitch 57 #[(102, 28), (108, 42)], 28), (32, .aload_n 0, 1), (33, .getfield 71, 3), (36, .iload_n 1, 1), (37, .iconst 0, 1), (38, .iastore, 1), (39, .aload_n 0, 1), (40, .iconst 0, 1), (41, .iconst 4, 1), (42, .invokevirtual 327, 3), (45, .ireturn, 1), (46, .aload_n 0, 1), (47, .getfield 71, 3), (50, .iload_n 1, 1), (51, .iconst 3, 1), (52, .iastore, 1), (53, .aload_n 0, 1), (54, .bipush 12, 2), (56, .iconst 4, 1), (57, .invokevirtual 327, 3), (60, .ireturn, 1), (61, .aload_n 0, 1), (62, .getfield 71, 3), (65, .iload_n 1, 1), (66, .aload_n 0, 1), (67, .invokevirtual 331, 3), (70, .bipush 105, 2), (72, .if_icmp .ne 7, 3), (75, .iconst 2, 1), (76, .goto 4, 3), (79, .iconst 1, 1), (80, .iastore, 1), (81, .aload_n 0, 1), (82, .getfield 71, 3), (85, .iload_n 1, 1), (86, .iaload, 1), (87, .iconst 2, 1), (88, .if_icmp .ne 13, 3), (91, .aload_n 0, 1), (92, .bipush 8, 2), (94, .iconst 4, 1), (95, .invokevirtual 327, 3), (98, .goto 9, 3), (101, .aload_n 0, 1), (102, .iconst 4, 1), (103, .iconst 4, 1), (104, .invokevirtual 327, 3), (107, .ireturn, 1)]
set_option maxRecDepth 20000 in
theorem DX7_takesHead_0 : lX7_takesHead_0.all (dq cX7_takesHead) = true := by decide +kernel
def lX7_takesClause_0 : List (Nat × Instr × Nat) := [(0, .aload_n 0, 1), (1, .iload_n 1, 1), (2, .invokevirtual 334, 3), (5, .ifCond .eq 10, 3), (8, .aload_n 0, 1), (9, .invokevirtual 315, 3), (12, .ifCond .ne 5, 3), (15, .iconst 0, 1), (16, .ireturn, 1), (17, .aload_n 0, 1), (18, .getfield 74, 3), (21, .iload_n 1, 1), (22, .aload_n 0, 1), (23, .getfield 62, 3), (26, .iastore, 1), (27, .aload_n 0, 1), (28, .getfield 71, 3), (31, .iload_n 1, 1), (32, .iaload, 1), (33, .iconst 2, 1), (34, .if_icmp .ge 20, 3), (37, .aload_n 0, 1), (38, .bipush 32, 2), (40, .invokevirtual 302, 3), (43, .ifCond .eq 15, 3), (46, .aload_n 0, 1), (47, .iload_n 1, 1), (48, .invokevirtual 337, 3), (51, .ifCond .eq 7, 3), (54, .iconst 1, 1), (55, .goto 4, 3), (58, .iconst 0, 1), (59, .ireturn, 1)]
set_option maxRecDepth 20000 in
theorem DX7_takesClause_0 : lX7_takesClause_0.all (dq cX7_takesClause) = true := by decide +kernel
def lX7_goesText_0 : List (Nat × Instr × Nat) := [(0, .aload_n 0, 1), (1, .iconst 0, 1), (2, .putfield 59, 3), (5, .aload_n 0, 1), (6, .bipush 100, 2), (8, .iload_n 1, 1), (9, .imul, 1), (10, .putfield 89, 3), (13, .iconst 0, 1), (14, .istore_n 2, 1), (15, .aload_n 0, 1), (16, .bipush 10, 2), (18, .iload_n 1, 1), (19, .imul, 1), (20, .iload_n 2, 1), (21, .iadd, 1), (22, .invokevirtual 340, 3), (25, .ifCond .ne 5, 3), (28, .iconst 0, 1), (29, .ireturn, 1), (30, .iinc 2 1, 3), (33, .aload_n 0, 1), (34, .getfield 68, 3), (37, .iload_n 1, 1), (38, .iload_n 2, 1), (39, .iastore, 1), (40, .aload_n 0, 1), (41, .getfield 59, 3), (44, .aload_n 0, 1), (45, .getfield 56, 3), (48, .if_icmp .ne 5, 3), (51, .iconst 1, 1), (52, .ireturn, 1), (53, .iload_n 2, 1), (54, .bipush 10, 2), (56, .if_icmp .eq 12, 3), (59, .aload_n 0, 1), (60, .bipush 59, 2), (62, .invokevirtual 302, 3), (65, .ifCond .ne (-50), 3), (68, .iconst 0, 1), (69, .ireturn, 1)]
set_option maxRecDepth 20000 in
theorem DX7_goesText_0 : lX7_goesText_0.all (dq cX7_goesText) = true := by decide +kernel
def lX7_ocean_0 : List (Nat × Instr × Nat) := [(0, .aload_n 0, 1), (1, .getfield 50, 3), (4, .bipush 6, 2), (6, .if_icmp .ne 6, 3), (9, .bipush (-4), 2), (11, .ireturn, 1), (12, .aload_n 0, 1), (13, .aload_n 0, 1), (14, .getfield 50, 3), (17, .invokevirtual 343, 3), (20, .istore_n 1, 1), (21, .aload_n 0, 1), (22, .iconst 0, 1), (23, .putfield 56, 3), (26, .iload_n 1, 1), (27, .ifCond .ne 11, 3), (30, .bipush (-10), 2), (32, .aload_n 0, 1), (33, .getfield 59, 3), (36, .isub, 1), (37, .ireturn, 1), (38, .aload_n 0, 1), (39, .aload_n 0, 1), (40, .getfield 50, 3), (43, .putfield 53, 3), (46, .aload_n 0, 1), (47, .dup, 1), (48, .getfield 50, 3), (51, .iconst 1, 1), (52, .iadd, 1), (53, .putfield 50, 3), (56, .aload_n 0, 1), (57, .getfield 53, 3), (60, .ireturn, 1)]
set_option maxRecDepth 20000 in
theorem DX7_ocean_0 : lX7_ocean_0.all (dq cX7_ocean) = true := by decide +kernel
def lX7_begin_0 : List (Nat × Instr × Nat) := [(0, .aload_n 0, 1), (1, .getfield 53, 3), (4, .ifCond .ge 7, 3), (7, .iconst 0, 1), (8, .goto 10, 3), (11, .bipush 10, 2), (13, .aload_n 0, 1), (14, .getfield 53, 3), (17, .imul, 1), (18, .ireturn, 1)]
set_option maxRecDepth 20000 in
theorem DX7_begin_0 : lX7_begin_0.all (dq cX7_begin) = true := by decide +kernel
def lX7_behind_0 : List (Nat × Instr × Nat) := [(0, .aload_n 0, 1), (1, .getfield 53, 3), (4, .ifCond .ge 7, 3), (7, .iconst 0, 1), (8, .goto 20, 3), (11, .bipush 10, 2), (13, .aload_n 0, 1), (14, .getfield 53, 3), (17, .imul, 1), (18, .aload_n 0, 1), (19, .getfield 68, 3), (22, .aload_n 0, 1), (23, .getfield 53, 3), (26, .iaload, 1), (27, .iadd, 1), (28, .ireturn, 1)]
set_option maxRecDepth 20000 in
theorem DX7_behind_0 : lX7_behind_0.all (dq cX7_behind) = true := by decide +kernel
def lX7_lastOf_0 : List (Nat × Instr × Nat) := [(0, .iload_n 2, 1), (1, .istore_n 3, 1), (2, .aload_n 0, 1), (3, .invokevirtual 346, 3), (6, .istore 4, 2), (8, .iload 4, 2), (10, .aload_n 0, 1), (11, .invokevirtual 349, 3), (14, .if_icmp .ge 32, 3), (17, .aload_n 0, 1), (18, .getfield 71, 3), (21, .iload 4, 2), (23, .iaload, 1), (24, .iload_n 1, 1), (25, .if_icmp .ne 13, 3), (28, .aload_n 0, 1), (29, .getfield 74, 3), (32, .iload 4, 2), (34, .iaload, 1), (35, .goto 4, 3), (38, .iload_n 3, 1), (39, .istore_n 3, 1), (40, .iinc 4 1, 3), (43, .goto (-35), 3), (46, .iload_n 3, 1), (47, .ireturn, 1)]
set_option maxRecDepth 20000 in
theorem DX7_lastOf_0 : lX7_lastOf_0.all (dq cX7_lastOf) = true := by decide +kernel
def lX7_factOf_0 : List (Nat × Instr × Nat) := [(0, .iload_n 1, 1), (1, .tableswitch 71 0 4 #[35, 37, 44, 51, 61], 35), (36, .iload_n 2, 1), (37, .ireturn, 1), (38, .aload_n 0, 1), (39, .getfield 28, 3), (42, .iload_n 2, 1), (43, .iaload, 1), (44, .ireturn, 1), (45, .aload_n 0, 1), (46, .getfield 32, 3), (49, .iload_n 2, 1), (50, .iaload, 1), (51, .ireturn, 1), (52, .aload_n 0, 1), (53, .getfield 35, 3), (56, .iload_n 2, 1), (57, .iaload, 1), (58, .bipush 10, 2), (60, .idiv, 1), (61, .ireturn, 1), (62, .aload_n 0, 1), (63, .getfield 38, 3), (66, .iload_n 2, 1), (67, .iaload, 1), (68, .bipush 10, 2), (70, .idiv, 1), (71, .ireturn, 1), (72, .aload_n 0, 1), (73, .getfield 25, 3), (76, .bipush 10, 2), (78, .irem, 1), (79, .ireturn, 1)]
set_option maxRecDepth 20000 in
theorem DX7_factOf_0 : lX7_factOf_0.all (dq cX7_factOf) = true := by decide +kernel
def lX7_holds_0 : List (Nat × Instr × Nat) := [(0, .iconst 0, 1), (1, .istore_n 3, 1), (2, .aload_n 0, 1), (3, .getfield 77, 3), (6, .iload_n 1, 1), (7, .iaload, 1), (8, .istore 4, 2), (10, .iload 4, 2), (12, .aload_n 0, 1), (13, .getfield 80, 3), (16, .iload_n 1, 1), (17, .iaload, 1), (18, .if_icmp .ge 225, 3), (21, .aload_n 0, 1), (22, .getfield 83, 3), (25, .iload 4, 2), (27, .iaload, 1), (28, .istore 5, 2), (30, .iload 5, 2), (32, .bipush (-33), 2), (34, .if_icmp .ne 30, 3), (37, .aload_n 0, 1), (38, .getfield 101, 3), (41, .iload_n 3, 1), (42, .iconst 1, 1), (43, .isub, 1), (44, .aload_n 0, 1), (45, .getfield 101, 3), (48, .iload_n 3, 1), (49, .iconst 1, 1), (50, .isub, 1), (51, .baload, 1), (52, .ifCond .ne 7, 3), (55, .iconst 1, 1), (56, .goto 4, 3), (59, .iconst 0, 1), (60, .bastore, 1), (61, .goto 176, 3), (64, .iload 5, 2), (66, .ifCond .ge 77, 3), (69, .iinc 3 (-1), 3), (72, .aload_n 0, 1), (73, .getfield 101, 3), (76, .iload_n 3, 1), (77, .iconst 1, 1), (78, .isub, 1), (79, .iload 5, 2), (81, .bipush (-38), 2), (83, .if_icmp .ne 31, 3), (86, .aload_n 0, 1)]
set_option maxRecDepth 20000 in
theorem DX7_holds_0 : lX7_holds_0.all (dq cX7_holds) = true := by decide +kernel
def lX7_holds_1 : List (Nat × Instr × Nat) := [(87, .getfield 101, 3), (90, .iload_n 3, 1), (91, .iconst 1, 1), (92, .isub, 1), (93, .baload, 1), (94, .ifCond .eq 16, 3), (97, .aload_n 0, 1), (98, .getfield 101, 3), (101, .iload_n 3, 1), (102, .baload, 1), (103, .ifCond .eq 7, 3), (106, .iconst 1, 1), (107, .goto 32, 3), (110, .iconst 0, 1), (111, .goto 28, 3), (114, .aload_n 0, 1), (115, .getfield 101, 3), (118, .iload_n 3, 1), (119, .iconst 1, 1), (120, .isub, 1), (121, .baload, 1), (122, .ifCond .ne 12, 3), (125, .aload_n 0, 1), (126, .getfield 101, 3), (129, .iload_n 3, 1), (130, .baload, 1), (131, .ifCond .eq 7, 3), (134, .iconst 1, 1), (135, .goto 4, 3), (138, .iconst 0, 1), (139, .bastore, 1), (140, .goto 97, 3), (143, .aload_n 0, 1), (144, .iload 5, 2), (146, .sipush 1000, 3), (149, .idiv, 1), (150, .iload_n 2, 1), (151, .invokevirtual 352, 3), (154, .istore 6, 2), (156, .iload 5, 2), (158, .bipush 100, 2), (160, .idiv, 1), (161, .bipush 10, 2), (163, .irem, 1), (164, .istore 7, 2), (166, .aload_n 0, 1), (167, .getfield 101, 3), (170, .iload_n 3, 1), (171, .iload 7, 2), (173, .ifCond .ne 21, 3)]
set_option maxRecDepth 20000 in
theorem DX7_holds_1 : lX7_holds_1.all (dq cX7_holds) = true := by decide +kernel
def lX7_holds_2 : List (Nat × Instr × Nat) := [(176, .iload 6, 2), (178, .iload 5, 2), (180, .bipush 100, 2), (182, .irem, 1), (183, .if_icmp .ge 7, 3), (186, .iconst 1, 1), (187, .goto 46, 3), (190, .iconst 0, 1), (191, .goto 42, 3), (194, .iload 7, 2), (196, .iconst 1, 1), (197, .if_icmp .ne 21, 3), (200, .iload 6, 2), (202, .iload 5, 2), (204, .bipush 100, 2), (206, .irem, 1), (207, .if_icmp .ne 7, 3), (210, .iconst 1, 1), (211, .goto 22, 3), (214, .iconst 0, 1), (215, .goto 18, 3), (218, .iload 6, 2), (220, .iload 5, 2), (222, .bipush 100, 2), (224, .irem, 1), (225, .if_icmp .le 7, 3), (228, .iconst 1, 1), (229, .goto 4, 3), (232, .iconst 0, 1), (233, .bastore, 1), (234, .iinc 3 1, 3), (237, .iinc 4 1, 3), (240, .goto (-230), 3), (243, .aload_n 0, 1), (244, .getfield 101, 3), (247, .iconst 0, 1), (248, .baload, 1), (249, .ireturn, 1)]
set_option maxRecDepth 20000 in
theorem DX7_holds_2 : lX7_holds_2.all (dq cX7_holds) = true := by decide +kernel
def lX7_heart_0 : List (Nat × Instr × Nat) := [(0, .bipush 20, 2), (2, .istore_n 2, 1), (3, .aload_n 0, 1), (4, .invokevirtual 346, 3), (7, .istore_n 3, 1), (8, .iload_n 3, 1), (9, .aload_n 0, 1), (10, .invokevirtual 349, 3), (13, .if_icmp .ge 59, 3), (16, .aload_n 0, 1), (17, .getfield 71, 3), (20, .iload_n 3, 1), (21, .iaload, 1), (22, .iconst 1, 1), (23, .if_icmp .gt 43, 3), (26, .aload_n 0, 1), (27, .iload_n 3, 1), (28, .iload_n 1, 1), (29, .invokevirtual 356, 3), (32, .ifCond .ne 6, 3), (35, .goto 31, 3), (38, .iload_n 2, 1), (39, .aload_n 0, 1), (40, .getfield 71, 3), (43, .iload_n 3, 1), (44, .iaload, 1), (45, .ifCond .ne 12, 3), (48, .aload_n 0, 1), (49, .getfield 74, 3), (52, .iload_n 3, 1), (53, .iaload, 1), (54, .goto 10, 3), (57, .aload_n 0, 1), (58, .getfield 74, 3), (61, .iload_n 3, 1), (62, .iaload, 1), (63, .ineg, 1), (64, .iadd, 1), (65, .istore_n 2, 1), (66, .iinc 3 1, 3), (69, .goto (-61), 3), (72, .iload_n 2, 1), (73, .ireturn, 1)]
set_option maxRecDepth 20000 in
theorem DX7_heart_0 : lX7_heart_0.all (dq cX7_heart) = true := by decide +kernel
def lX7_strength_0 : List (Nat × Instr × Nat) := [(0, .aload_n 0, 1), (1, .iload_n 1, 1), (2, .invokevirtual 359, 3), (5, .istore_n 2, 1), (6, .aload_n 0, 1), (7, .getfield 28, 3), (10, .iload_n 1, 1), (11, .iaload, 1), (12, .tableswitch 167 1 6 #[40, 55, 71, 91, 113, 131], 40), (52, .aload_n 0, 1), (53, .iload_n 2, 1), (54, .iconst 2, 1), (55, .idiv, 1), (56, .aload_n 0, 1), (57, .getfield 38, 3), (60, .iload_n 1, 1), (61, .iaload, 1), (62, .isub, 1), (63, .invokevirtual 362, 3), (66, .ireturn, 1), (67, .aload_n 0, 1), (68, .iload_n 2, 1), (69, .aload_n 0, 1), (70, .getfield 38, 3), (73, .iload_n 1, 1), (74, .iaload, 1), (75, .isub, 1), (76, .bipush 10, 2), (78, .iadd, 1), (79, .invokevirtual 362, 3), (82, .ireturn, 1), (83, .aload_n 0, 1), (84, .iload_n 2, 1), (85, .aload_n 0, 1), (86, .getfield 38, 3), (89, .iload_n 1, 1), (90, .iaload, 1), (91, .isub, 1), (92, .aload_n 0, 1), (93, .getfield 32, 3), (96, .iload_n 1, 1), (97, .iaload, 1), (98, .iadd, 1), (99, .invokevirtual 362, 3), (102, .ireturn, 1), (103, .aload_n 0, 1), (104, .iload_n 2, 1), (105, .iconst 2, 1), (106, .idiv, 1), (107, .aload_n 0, 1)]
set_option maxRecDepth 20000 in
theorem DX7_strength_0 : lX7_strength_0.all (dq cX7_strength) = true := by decide +kernel
def lX7_strength_1 : List (Nat × Instr × Nat) := [(108, .getfield 38, 3), (111, .iload_n 1, 1), (112, .iaload, 1), (113, .isub, 1), (114, .iconst 2, 1), (115, .aload_n 0, 1), (116, .getfield 19, 3), (119, .imul, 1), (120, .iadd, 1), (121, .invokevirtual 362, 3), (124, .ireturn, 1), (125, .aload_n 0, 1), (126, .iload_n 2, 1), (127, .iconst 2, 1), (128, .aload_n 0, 1), (129, .getfield 38, 3), (132, .iload_n 1, 1), (133, .iaload, 1), (134, .imul, 1), (135, .isub, 1), (136, .bipush 10, 2), (138, .iadd, 1), (139, .invokevirtual 362, 3), (142, .ireturn, 1), (143, .aload_n 0, 1), (144, .iload_n 2, 1), (145, .aload_n 0, 1), (146, .getfield 38, 3), (149, .iload_n 1, 1), (150, .iaload, 1), (151, .isub, 1), (152, .aload_n 0, 1), (153, .getfield 32, 3), (156, .iload_n 1, 1), (157, .iaload, 1), (158, .iadd, 1), (159, .aload_n 0, 1), (160, .getfield 44, 3), (163, .iconst 4, 1), (164, .iload_n 1, 1), (165, .imul, 1), (166, .aload_n 0, 1), (167, .getfield 25, 3), (170, .iconst 4, 1), (171, .irem, 1), (172, .iadd, 1), (173, .iaload, 1), (174, .iadd, 1), (175, .invokevirtual 362, 3), (178, .ireturn, 1)]
set_option maxRecDepth 20000 in
theorem DX7_strength_1 : lX7_strength_1.all (dq cX7_strength) = true := by decide +kernel
def lX7_strength_2 : List (Nat × Instr × Nat) := [(179, .aload_n 0, 1), (180, .iload_n 2, 1), (181, .aload_n 0, 1), (182, .getfield 38, 3), (185, .iload_n 1, 1), (186, .iaload, 1), (187, .isub, 1), (188, .invokevirtual 362, 3), (191, .ireturn, 1)]
set_option maxRecDepth 20000 in
theorem DX7_strength_2 : lX7_strength_2.all (dq cX7_strength) = true := by decide +kernel
def lX7_above_0 : List (Nat × Instr × Nat) := [(0, .iconst 0, 1), (1, .istore_n 2, 1), (2, .iload_n 1, 1), (3, .istore_n 3, 1), (4, .iload_n 3, 1), (5, .aload_n 0, 1), (6, .getfield 13, 3), (9, .if_icmp .ge 23, 3), (12, .iload_n 2, 1), (13, .aload_n 0, 1), (14, .getfield 35, 3), (17, .aload_n 0, 1), (18, .getfield 47, 3), (21, .iload_n 3, 1), (22, .iaload, 1), (23, .iaload, 1), (24, .iadd, 1), (25, .istore_n 2, 1), (26, .iinc 3 1, 3), (29, .goto (-25), 3), (32, .aload_n 0, 1), (33, .iload_n 2, 1), (34, .aload_n 0, 1), (35, .iconst 3, 1), (36, .iconst 2, 1), (37, .invokevirtual 365, 3), (40, .aload_n 0, 1), (41, .getfield 13, 3), (44, .iload_n 1, 1), (45, .isub, 1), (46, .iconst 1, 1), (47, .isub, 1), (48, .imul, 1), (49, .isub, 1), (50, .invokevirtual 362, 3), (53, .ireturn, 1)]
set_option maxRecDepth 20000 in
theorem DX7_above_0 : lX7_above_0.all (dq cX7_above) = true := by decide +kernel
def lX7_height_0 : List (Nat × Instr × Nat) := [(0, .aload_n 0, 1), (1, .getfield 13, 3), (4, .ifCond .ne 7, 3), (7, .iconst 0, 1), (8, .goto 8, 3), (11, .aload_n 0, 1), (12, .iconst 0, 1), (13, .invokevirtual 368, 3), (16, .ireturn, 1)]
set_option maxRecDepth 20000 in
theorem DX7_height_0 : lX7_height_0.all (dq cX7_height) = true := by decide +kernel
def lX7_load_0 : List (Nat × Instr × Nat) := [(0, .aload_n 0, 1), (1, .aload_n 0, 1), (2, .iload_n 1, 1), (3, .invokevirtual 368, 3), (6, .aload_n 0, 1), (7, .getfield 16, 3), (10, .imul, 1), (11, .iconst 5, 1), (12, .idiv, 1), (13, .aload_n 0, 1), (14, .iconst 2, 1), (15, .iconst 5, 1), (16, .invokevirtual 365, 3), (19, .iadd, 1), (20, .iconst 3, 1), (21, .aload_n 0, 1), (22, .getfield 19, 3), (25, .imul, 1), (26, .isub, 1), (27, .invokevirtual 362, 3), (30, .ireturn, 1)]
set_option maxRecDepth 20000 in
theorem DX7_load_0 : lX7_load_0.all (dq cX7_load) = true := by decide +kernel
def lX7_milesNow_0 : List (Nat × Instr × Nat) := [(0, .aload_n 0, 1), (1, .invokevirtual 371, 3), (4, .aload_n 0, 1), (5, .getfield 16, 3), (8, .imul, 1), (9, .bipush 10, 2), (11, .idiv, 1), (12, .ireturn, 1)]
set_option maxRecDepth 20000 in
theorem DX7_milesNow_0 : lX7_milesNow_0.all (dq cX7_milesNow) = true := by decide +kernel
def lX7_of_0 : List (Nat × Instr × Nat) := [(0, .aload_n 0, 1), (1, .iload_n 1, 1), (2, .invokevirtual 280, 3), (5, .ifCond .ne 7, 3), (8, .sipush (-1001), 3), (11, .ireturn, 1), (12, .aload_n 0, 1), (13, .iload_n 1, 1), (14, .invokevirtual 287, 3), (17, .istore_n 3, 1), (18, .iload_n 2, 1), (19, .tableswitch 132 0 9 #[53, 60, 67, 74, 81, 88, 94, 100, 102, 117], 53), (72, .aload_n 0, 1), (73, .getfield 28, 3), (76, .iload_n 1, 1), (77, .iaload, 1), (78, .ireturn, 1), (79, .aload_n 0, 1), (80, .getfield 32, 3), (83, .iload_n 1, 1), (84, .iaload, 1), (85, .ireturn, 1), (86, .aload_n 0, 1), (87, .getfield 35, 3), (90, .iload_n 1, 1), (91, .iaload, 1), (92, .ireturn, 1), (93, .aload_n 0, 1), (94, .getfield 38, 3), (97, .iload_n 1, 1), (98, .iaload, 1), (99, .ireturn, 1), (100, .aload_n 0, 1), (101, .getfield 41, 3), (104, .iload_n 1, 1), (105, .iaload, 1), (106, .ireturn, 1), (107, .aload_n 0, 1), (108, .iload_n 1, 1), (109, .invokevirtual 359, 3), (112, .ireturn, 1), (113, .aload_n 0, 1), (114, .iload_n 1, 1), (115, .invokevirtual 374, 3), (118, .ireturn, 1), (119, .iload_n 3, 1), (120, .ireturn, 1), (121, .iload_n 3, 1), (122, .ifCond .ge 8, 3), (125, .bipush (-5), 2)]
set_option maxRecDepth 20000 in
theorem DX7_of_0 : lX7_of_0.all (dq cX7_of) = true := by decide +kernel
def lX7_of_1 : List (Nat × Instr × Nat) := [(127, .goto 8, 3), (130, .aload_n 0, 1), (131, .iload_n 3, 1), (132, .invokevirtual 368, 3), (135, .ireturn, 1), (136, .iload_n 3, 1), (137, .ifCond .ge 8, 3), (140, .bipush (-5), 2), (142, .goto 8, 3), (145, .aload_n 0, 1), (146, .iload_n 3, 1), (147, .invokevirtual 377, 3), (150, .ireturn, 1), (151, .sipush (-1001), 3), (154, .ireturn, 1)]
set_option maxRecDepth 20000 in
theorem DX7_of_1 : lX7_of_1.all (dq cX7_of) = true := by decide +kernel
def lX7_told_0 : List (Nat × Instr × Nat) := [(0, .aload_n 0, 1), (1, .iload_n 1, 1), (2, .bipush 10, 2), (4, .bipush 9, 2), (6, .aload_n 0, 1), (7, .getfield 13, 3), (10, .iadd, 1), (11, .invokevirtual 276, 3), (14, .ifCond .eq 13, 3), (17, .aload_n 0, 1), (18, .getfield 47, 3), (21, .iload_n 1, 1), (22, .bipush 10, 2), (24, .isub, 1), (25, .iaload, 1), (26, .ireturn, 1), (27, .iload_n 1, 1), (28, .tableswitch 92 0 7 #[48, 53, 60, 67, 72, 77, 82, 87], 48), (76, .aload_n 0, 1), (77, .getfield 25, 3), (80, .ireturn, 1), (81, .aload_n 0, 1), (82, .iconst 2, 1), (83, .iconst 5, 1), (84, .invokevirtual 365, 3), (87, .ireturn, 1), (88, .aload_n 0, 1), (89, .iconst 3, 1), (90, .iconst 2, 1), (91, .invokevirtual 365, 3), (94, .ireturn, 1), (95, .aload_n 0, 1), (96, .getfield 16, 3), (99, .ireturn, 1), (100, .aload_n 0, 1), (101, .getfield 19, 3), (104, .ireturn, 1), (105, .aload_n 0, 1), (106, .getfield 22, 3), (109, .ireturn, 1), (110, .aload_n 0, 1), (111, .invokevirtual 371, 3), (114, .ireturn, 1), (115, .aload_n 0, 1), (116, .invokevirtual 380, 3), (119, .ireturn, 1), (120, .iconst (-1), 1), (121, .ireturn, 1)]
set_option maxRecDepth 20000 in
theorem DX7_told_0 : lX7_told_0.all (dq cX7_told) = true := by decide +kernel
def lX7_breaksAt_0 : List (Nat × Instr × Nat) := [(0, .iconst 0, 1), (1, .istore_n 1, 1), (2, .iload_n 1, 1), (3, .aload_n 0, 1), (4, .getfield 13, 3), (7, .if_icmp .ge 29, 3), (10, .aload_n 0, 1), (11, .iload_n 1, 1), (12, .invokevirtual 377, 3), (15, .aload_n 0, 1), (16, .aload_n 0, 1), (17, .getfield 47, 3), (20, .iload_n 1, 1), (21, .iaload, 1), (22, .invokevirtual 374, 3), (25, .if_icmp .le 5, 3), (28, .iload_n 1, 1), (29, .ireturn, 1), (30, .iinc 1 1, 3), (33, .goto (-31), 3), (36, .bipush (-5), 2), (38, .ireturn, 1)]
set_option maxRecDepth 20000 in
theorem DX7_breaksAt_0 : lX7_breaksAt_0.all (dq cX7_breaksAt) = true := by decide +kernel
def lX7_goWear_0 : List (Nat × Instr × Nat) := [(0, .aload_n 0, 1), (1, .aload_n 0, 1), (2, .aload_n 0, 1), (3, .getfield 22, 3), (6, .aload_n 0, 1), (7, .invokevirtual 380, 3), (10, .iadd, 1), (11, .aload_n 0, 1), (12, .getfield 106, 3), (15, .invokevirtual 383, 3), (18, .putfield 22, 3), (21, .iconst 0, 1), (22, .istore_n 1, 1), (23, .iload_n 1, 1), (24, .aload_n 0, 1), (25, .getfield 13, 3), (28, .if_icmp .ge 20, 3), (31, .aload_n 0, 1), (32, .getfield 112, 3), (35, .iload_n 1, 1), (36, .aload_n 0, 1), (37, .iload_n 1, 1), (38, .invokevirtual 377, 3), (41, .iastore, 1), (42, .iinc 1 1, 3), (45, .goto (-22), 3), (48, .iconst 0, 1), (49, .istore_n 1, 1), (50, .iload_n 1, 1), (51, .aload_n 0, 1), (52, .getfield 13, 3), (55, .if_icmp .ge 47, 3), (58, .aload_n 0, 1), (59, .getfield 38, 3), (62, .aload_n 0, 1), (63, .getfield 47, 3), (66, .iload_n 1, 1), (67, .iaload, 1), (68, .aload_n 0, 1), (69, .aload_n 0, 1), (70, .getfield 38, 3), (73, .aload_n 0, 1), (74, .getfield 47, 3), (77, .iload_n 1, 1), (78, .iaload, 1), (79, .iaload, 1), (80, .aload_n 0, 1), (81, .getfield 112, 3), (84, .iload_n 1, 1), (85, .iaload, 1)]
set_option maxRecDepth 20000 in
theorem DX7_goWear_0 : lX7_goWear_0.all (dq cX7_goWear) = true := by decide +kernel
def lX7_goWear_1 : List (Nat × Instr × Nat) := [(86, .bipush 10, 2), (88, .idiv, 1), (89, .iadd, 1), (90, .bipush 99, 2), (92, .invokevirtual 383, 3), (95, .iastore, 1), (96, .iinc 1 1, 3), (99, .goto (-49), 3), (102, .return_, 1)]
set_option maxRecDepth 20000 in
theorem DX7_goWear_1 : lX7_goWear_1.all (dq cX7_goWear) = true := by decide +kernel
def lX7_goDay_0 : List (Nat × Instr × Nat) := [(0, .aload_n 0, 1), (1, .invokevirtual 386, 3), (4, .istore_n 1, 1), (5, .iload_n 1, 1), (6, .ifCond .ge 8, 3), (9, .bipush (-5), 2), (11, .goto 9, 3), (14, .aload_n 0, 1), (15, .getfield 47, 3), (18, .iload_n 1, 1), (19, .iaload, 1), (20, .istore_n 2, 1), (21, .iload_n 1, 1), (22, .ifCond .ge 10, 3), (25, .aload_n 0, 1), (26, .invokevirtual 389, 3), (29, .goto 47, 3), (32, .aload_n 0, 1), (33, .getfield 35, 3), (36, .iload_n 2, 1), (37, .dup2, 1), (38, .iaload, 1), (39, .iconst 2, 1), (40, .idiv, 1), (41, .iastore, 1), (42, .aload_n 0, 1), (43, .getfield 38, 3), (46, .iload_n 2, 1), (47, .iconst 0, 1), (48, .iastore, 1), (49, .aload_n 0, 1), (50, .getfield 41, 3), (53, .iload_n 2, 1), (54, .aload_n 0, 1), (55, .aload_n 0, 1), (56, .getfield 41, 3), (59, .iload_n 2, 1), (60, .iaload, 1), (61, .iconst 1, 1), (62, .iadd, 1), (63, .aload_n 0, 1), (64, .getfield 109, 3), (67, .invokevirtual 383, 3), (70, .iastore, 1), (71, .aload_n 0, 1), (72, .iload_n 1, 1), (73, .putfield 13, 3), (76, .aload_n 0, 1), (77, .dup, 1), (78, .getfield 25, 3)]
set_option maxRecDepth 20000 in
theorem DX7_goDay_0 : lX7_goDay_0.all (dq cX7_goDay) = true := by decide +kernel
def lX7_goDay_1 : List (Nat × Instr × Nat) := [(81, .iconst 1, 1), (82, .iadd, 1), (83, .putfield 25, 3), (86, .iload_n 2, 1), (87, .ireturn, 1)]
set_option maxRecDepth 20000 in
theorem DX7_goDay_1 : lX7_goDay_1.all (dq cX7_goDay) = true := by decide +kernel
def lX7_goDays_0 : List (Nat × Instr × Nat) := [(0, .iconst 0, 1), (1, .istore_n 2, 1), (2, .iload_n 2, 1), (3, .iload_n 1, 1), (4, .if_icmp .ge 14, 3), (7, .aload_n 0, 1), (8, .invokevirtual 392, 3), (11, .pop, 1), (12, .iinc 2 1, 3), (15, .goto (-13), 3), (18, .return_, 1)]
set_option maxRecDepth 20000 in
theorem DX7_goDays_0 : lX7_goDays_0.all (dq cX7_goDays) = true := by decide +kernel
def lX7_pass_0 : List (Nat × Instr × Nat) := [(0, .aload_n 0, 1), (1, .iload_n 1, 1), (2, .invokevirtual 395, 3), (5, .ifCond .ne 6, 3), (8, .bipush (-2), 2), (10, .ireturn, 1), (11, .aload_n 0, 1), (12, .getfield 25, 3), (15, .iload_n 1, 1), (16, .iadd, 1), (17, .sipush 9999, 3), (20, .if_icmp .le 6, 3), (23, .bipush (-3), 2), (25, .ireturn, 1), (26, .aload_n 0, 1), (27, .iload_n 1, 1), (28, .invokevirtual 398, 3), (31, .aload_n 0, 1), (32, .getfield 22, 3), (35, .ireturn, 1)]
set_option maxRecDepth 20000 in
theorem DX7_pass_0 : lX7_pass_0.all (dq cX7_pass) = true := by decide +kernel
def lX7_save_0 : List (Nat × Instr × Nat) := [(0, .aload_n 0, 1), (1, .ldc_w 401, 3), (4, .putfield 106, 3), (7, .aload_n 0, 1), (8, .ldc_w 401, 3), (11, .putfield 109, 3), (14, .aload_n 0, 1), (15, .aload_n 0, 1), (16, .getfield 13, 3), (19, .putfield 115, 3), (22, .aload_n 0, 1), (23, .aload_n 0, 1), (24, .getfield 16, 3), (27, .putfield 118, 3), (30, .aload_n 0, 1), (31, .aload_n 0, 1), (32, .getfield 19, 3), (35, .putfield 121, 3), (38, .aload_n 0, 1), (39, .aload_n 0, 1), (40, .getfield 22, 3), (43, .putfield 124, 3), (46, .aload_n 0, 1), (47, .aload_n 0, 1), (48, .getfield 25, 3), (51, .putfield 127, 3), (54, .iconst 0, 1), (55, .istore_n 1, 1), (56, .iload_n 1, 1), (57, .bipush 6, 2), (59, .if_icmp .ge 45, 3), (62, .aload_n 0, 1), (63, .getfield 130, 3), (66, .iload_n 1, 1), (67, .aload_n 0, 1), (68, .getfield 35, 3), (71, .iload_n 1, 1), (72, .iaload, 1), (73, .iastore, 1), (74, .aload_n 0, 1), (75, .getfield 133, 3), (78, .iload_n 1, 1), (79, .aload_n 0, 1), (80, .getfield 38, 3), (83, .iload_n 1, 1), (84, .iaload, 1), (85, .iastore, 1), (86, .aload_n 0, 1), (87, .getfield 136, 3), (90, .iload_n 1, 1)]
set_option maxRecDepth 20000 in
theorem DX7_save_0 : lX7_save_0.all (dq cX7_save) = true := by decide +kernel
def lX7_save_1 : List (Nat × Instr × Nat) := [(91, .aload_n 0, 1), (92, .getfield 41, 3), (95, .iload_n 1, 1), (96, .iaload, 1), (97, .iastore, 1), (98, .iinc 1 1, 3), (101, .goto (-45), 3), (104, .iconst 0, 1), (105, .istore_n 1, 1), (106, .iload_n 1, 1), (107, .iconst 3, 1), (108, .if_icmp .ge 21, 3), (111, .aload_n 0, 1), (112, .getfield 139, 3), (115, .iload_n 1, 1), (116, .aload_n 0, 1), (117, .getfield 47, 3), (120, .iload_n 1, 1), (121, .iaload, 1), (122, .iastore, 1), (123, .iinc 1 1, 3), (126, .goto (-20), 3), (129, .return_, 1)]
set_option maxRecDepth 20000 in
theorem DX7_save_1 : lX7_save_1.all (dq cX7_save) = true := by decide +kernel
def lX7_putBack_0 : List (Nat × Instr × Nat) := [(0, .aload_n 0, 1), (1, .ldc 105, 2), (3, .putfield 106, 3), (6, .aload_n 0, 1), (7, .sipush 9999, 3), (10, .putfield 109, 3), (13, .aload_n 0, 1), (14, .aload_n 0, 1), (15, .getfield 115, 3), (18, .putfield 13, 3), (21, .aload_n 0, 1), (22, .aload_n 0, 1), (23, .getfield 118, 3), (26, .putfield 16, 3), (29, .aload_n 0, 1), (30, .aload_n 0, 1), (31, .getfield 121, 3), (34, .putfield 19, 3), (37, .aload_n 0, 1), (38, .aload_n 0, 1), (39, .getfield 124, 3), (42, .putfield 22, 3), (45, .aload_n 0, 1), (46, .aload_n 0, 1), (47, .getfield 127, 3), (50, .putfield 25, 3), (53, .iconst 0, 1), (54, .istore_n 1, 1), (55, .iload_n 1, 1), (56, .bipush 6, 2), (58, .if_icmp .ge 45, 3), (61, .aload_n 0, 1), (62, .getfield 35, 3), (65, .iload_n 1, 1), (66, .aload_n 0, 1), (67, .getfield 130, 3), (70, .iload_n 1, 1), (71, .iaload, 1), (72, .iastore, 1), (73, .aload_n 0, 1), (74, .getfield 38, 3), (77, .iload_n 1, 1), (78, .aload_n 0, 1), (79, .getfield 133, 3), (82, .iload_n 1, 1), (83, .iaload, 1), (84, .iastore, 1), (85, .aload_n 0, 1), (86, .getfield 41, 3), (89, .iload_n 1, 1)]
set_option maxRecDepth 20000 in
theorem DX7_putBack_0 : lX7_putBack_0.all (dq cX7_putBack) = true := by decide +kernel
def lX7_putBack_1 : List (Nat × Instr × Nat) := [(90, .aload_n 0, 1), (91, .getfield 136, 3), (94, .iload_n 1, 1), (95, .iaload, 1), (96, .iastore, 1), (97, .iinc 1 1, 3), (100, .goto (-45), 3), (103, .iconst 0, 1), (104, .istore_n 1, 1), (105, .iload_n 1, 1), (106, .iconst 3, 1), (107, .if_icmp .ge 21, 3), (110, .aload_n 0, 1), (111, .getfield 47, 3), (114, .iload_n 1, 1), (115, .aload_n 0, 1), (116, .getfield 139, 3), (119, .iload_n 1, 1), (120, .iaload, 1), (121, .iastore, 1), (122, .iinc 1 1, 3), (125, .goto (-20), 3), (128, .return_, 1)]
set_option maxRecDepth 20000 in
theorem DX7_putBack_1 : lX7_putBack_1.all (dq cX7_putBack) = true := by decide +kernel
def lX7_on_0 : List (Nat × Instr × Nat) := [(0, .aload_n 0, 1), (1, .iload_n 2, 1), (2, .iconst 0, 1), (3, .iconst 2, 1), (4, .invokevirtual 276, 3), (7, .ifCond .ne 39, 3), (10, .aload_n 0, 1), (11, .iload_n 2, 1), (12, .bipush 10, 2), (14, .bipush 9, 2), (16, .aload_n 0, 1), (17, .getfield 7, 3), (20, .iadd, 1), (21, .invokevirtual 276, 3), (24, .ifCond .ne 22, 3), (27, .aload_n 0, 1), (28, .iload_n 2, 1), (29, .bipush 20, 2), (31, .bipush 19, 2), (33, .aload_n 0, 1), (34, .getfield 7, 3), (37, .iadd, 1), (38, .invokevirtual 276, 3), (41, .ifCond .ne 5, 3), (44, .iconst (-1), 1), (45, .ireturn, 1), (46, .aload_n 0, 1), (47, .iload_n 1, 1), (48, .invokevirtual 395, 3), (51, .ifCond .ne 6, 3), (54, .bipush (-2), 2), (56, .ireturn, 1), (57, .aload_n 0, 1), (58, .invokevirtual 402, 3), (61, .aload_n 0, 1), (62, .iload_n 1, 1), (63, .invokevirtual 398, 3), (66, .iload_n 2, 1), (67, .ifCond .ne 15, 3), (70, .aload_n 0, 1), (71, .getfield 22, 3), (74, .aload_n 0, 1), (75, .getfield 124, 3), (78, .isub, 1), (79, .goto 54, 3), (82, .iload_n 2, 1), (83, .iconst 1, 1), (84, .if_icmp .ne 10, 3), (87, .aload_n 0, 1), (88, .invokevirtual 371, 3)]
set_option maxRecDepth 20000 in
theorem DX7_on_0 : lX7_on_0.all (dq cX7_on) = true := by decide +kernel
def lX7_on_1 : List (Nat × Instr × Nat) := [(91, .goto 42, 3), (94, .iload_n 2, 1), (95, .iconst 2, 1), (96, .if_icmp .ne 10, 3), (99, .aload_n 0, 1), (100, .getfield 13, 3), (103, .goto 30, 3), (106, .iload_n 2, 1), (107, .bipush 20, 2), (109, .if_icmp .ge 15, 3), (112, .aload_n 0, 1), (113, .getfield 35, 3), (116, .iload_n 2, 1), (117, .bipush 10, 2), (119, .isub, 1), (120, .iaload, 1), (121, .goto 12, 3), (124, .aload_n 0, 1), (125, .getfield 38, 3), (128, .iload_n 2, 1), (129, .bipush 20, 2), (131, .isub, 1), (132, .iaload, 1), (133, .istore_n 3, 1), (134, .aload_n 0, 1), (135, .invokevirtual 405, 3), (138, .iload_n 3, 1), (139, .ireturn, 1)]
set_option maxRecDepth 20000 in
theorem DX7_on_1 : lX7_on_1.all (dq cX7_on) = true := by decide +kernel
def lX7_firstThen_0 : List (Nat × Instr × Nat) := [(0, .bipush (-5), 2), (2, .istore_n 2, 1), (3, .aload_n 0, 1), (4, .bipush (-5), 2), (6, .putfield 142, 3), (9, .iconst 0, 1), (10, .istore_n 3, 1), (11, .iload_n 3, 1), (12, .iload_n 1, 1), (13, .if_icmp .ge 35, 3), (16, .iload_n 2, 1), (17, .ifCond .ge 31, 3), (20, .aload_n 0, 1), (21, .invokevirtual 392, 3), (24, .istore 4, 2), (26, .iload 4, 2), (28, .ifCond .ge 6, 3), (31, .goto 11, 3), (34, .iload_n 3, 1), (35, .istore_n 2, 1), (36, .aload_n 0, 1), (37, .iload 4, 2), (39, .putfield 142, 3), (42, .iinc 3 1, 3), (45, .goto (-34), 3), (48, .aload_n 0, 1), (49, .invokevirtual 405, 3), (52, .iload_n 2, 1), (53, .ireturn, 1)]
set_option maxRecDepth 20000 in
theorem DX7_firstThen_0 : lX7_firstThen_0.all (dq cX7_firstThen) = true := by decide +kernel
def lX7_first_0 : List (Nat × Instr × Nat) := [(0, .aload_n 0, 1), (1, .iload_n 1, 1), (2, .iconst 0, 1), (3, .iconst 1, 1), (4, .invokevirtual 276, 3), (7, .ifCond .ne 5, 3), (10, .iconst (-1), 1), (11, .ireturn, 1), (12, .aload_n 0, 1), (13, .invokevirtual 402, 3), (16, .aload_n 0, 1), (17, .bipush 61, 2), (19, .invokevirtual 408, 3), (22, .istore_n 2, 1), (23, .iload_n 1, 1), (24, .ifCond .ne 7, 3), (27, .iload_n 2, 1), (28, .goto 7, 3), (31, .aload_n 0, 1), (32, .getfield 142, 3), (35, .ireturn, 1)]
set_option maxRecDepth 20000 in
theorem DX7_first_0 : lX7_first_0.all (dq cX7_first) = true := by decide +kernel
def lX7_port_0 : List (Nat × Instr × Nat) := [(0, .aload_n 0, 1), (1, .iload_n 1, 1), (2, .iconst 0, 1), (3, .sipush 9999, 3), (6, .invokevirtual 276, 3), (9, .ifCond .ne 6, 3), (12, .bipush (-2), 2), (14, .ireturn, 1), (15, .aload_n 0, 1), (16, .invokevirtual 402, 3), (19, .iconst 0, 1), (20, .istore_n 2, 1), (21, .iload_n 2, 1), (22, .bipush 100, 2), (24, .if_icmp .ge 27, 3), (27, .aload_n 0, 1), (28, .getfield 22, 3), (31, .aload_n 0, 1), (32, .getfield 124, 3), (35, .isub, 1), (36, .iload_n 1, 1), (37, .if_icmp .ge 14, 3), (40, .aload_n 0, 1), (41, .invokevirtual 392, 3), (44, .pop, 1), (45, .iinc 2 1, 3), (48, .goto (-27), 3), (51, .aload_n 0, 1), (52, .invokevirtual 405, 3), (55, .iload_n 2, 1), (56, .bipush 100, 2), (58, .if_icmp .ge 7, 3), (61, .iload_n 2, 1), (62, .goto 5, 3), (65, .bipush (-5), 2), (67, .ireturn, 1)]
set_option maxRecDepth 20000 in
theorem DX7_port_0 : lX7_port_0.all (dq cX7_port) = true := by decide +kernel
def lX7_wentThen_0 : List (Nat × Instr × Nat) := [(0, .aload_n 0, 1), (1, .iload_n 1, 1), (2, .invokevirtual 398, 3), (5, .aload_n 0, 1), (6, .getfield 22, 3), (9, .aload_n 0, 1), (10, .getfield 124, 3), (13, .isub, 1), (14, .istore_n 2, 1), (15, .aload_n 0, 1), (16, .invokevirtual 405, 3), (19, .iload_n 2, 1), (20, .ireturn, 1)]
set_option maxRecDepth 20000 in
theorem DX7_wentThen_0 : lX7_wentThen_0.all (dq cX7_wentThen) = true := by decide +kernel
def lX7_spread_0 : List (Nat × Instr × Nat) := [(0, .iconst 0, 1), (1, .istore_n 1, 1), (2, .iconst (-1), 1), (3, .istore_n 2, 1), (4, .iconst 0, 1), (5, .istore_n 3, 1), (6, .iload_n 3, 1), (7, .bipush 10, 2), (9, .if_icmp .ge 40, 3), (12, .aload_n 0, 1), (13, .invokevirtual 402, 3), (16, .aload_n 0, 1), (17, .iload_n 3, 1), (18, .putfield 16, 3), (21, .aload_n 0, 1), (22, .bipush 30, 2), (24, .invokevirtual 411, 3), (27, .istore 4, 2), (29, .iload 4, 2), (31, .iload_n 2, 1), (32, .if_icmp .gt 6, 3), (35, .goto 8, 3), (38, .iload_n 3, 1), (39, .istore_n 1, 1), (40, .iload 4, 2), (42, .istore_n 2, 1), (43, .iinc 3 1, 3), (46, .goto (-40), 3), (49, .iload_n 1, 1), (50, .ireturn, 1)]
set_option maxRecDepth 20000 in
theorem DX7_spread_0 : lX7_spread_0.all (dq cX7_spread) = true := by decide +kernel
def lX7_fewest_0 : List (Nat × Instr × Nat) := [(0, .aload_n 0, 1), (1, .iload_n 1, 1), (2, .iconst 1, 1), (3, .bipush 30, 2), (5, .invokevirtual 276, 3), (8, .ifCond .ne 6, 3), (11, .bipush (-2), 2), (13, .ireturn, 1), (14, .iconst 0, 1), (15, .istore_n 2, 1), (16, .iload_n 2, 1), (17, .bipush 10, 2), (19, .if_icmp .ge 28, 3), (22, .aload_n 0, 1), (23, .invokevirtual 402, 3), (26, .aload_n 0, 1), (27, .iload_n 2, 1), (28, .putfield 19, 3), (31, .aload_n 0, 1), (32, .iload_n 1, 1), (33, .invokevirtual 408, 3), (36, .ifCond .ge 5, 3), (39, .iload_n 2, 1), (40, .ireturn, 1), (41, .iinc 2 1, 3), (44, .goto (-28), 3), (47, .bipush (-5), 2), (49, .ireturn, 1)]
set_option maxRecDepth 20000 in
theorem DX7_fewest_0 : lX7_fewest_0.all (dq cX7_fewest) = true := by decide +kernel
def lX7_tries_0 : List (Nat × Instr × Nat) := [(0, .aload_n 0, 1), (1, .invokevirtual 402, 3), (4, .aload_n 0, 1), (5, .iload_n 2, 1), (6, .putfield 13, 3), (9, .aload_n 0, 1), (10, .getfield 47, 3), (13, .iconst 0, 1), (14, .iload_n 3, 1), (15, .iastore, 1), (16, .aload_n 0, 1), (17, .getfield 47, 3), (20, .iconst 1, 1), (21, .iload 4, 2), (23, .iastore, 1), (24, .aload_n 0, 1), (25, .getfield 47, 3), (28, .iconst 2, 1), (29, .iload 5, 2), (31, .iastore, 1), (32, .iload_n 1, 1), (33, .ifCond .eq 10, 3), (36, .aload_n 0, 1), (37, .invokevirtual 386, 3), (40, .ifCond .ge 7, 3), (43, .iconst 1, 1), (44, .goto 4, 3), (47, .iconst 0, 1), (48, .istore 6, 2), (50, .iload_n 1, 1), (51, .ifCond .ne 12, 3), (54, .aload_n 0, 1), (55, .bipush 10, 2), (57, .invokevirtual 411, 3), (60, .goto 7, 3), (63, .aload_n 0, 1), (64, .invokevirtual 371, 3), (67, .istore 7, 2), (69, .iload_n 1, 1), (70, .iconst 1, 1), (71, .if_icmp .ne 7, 3), (74, .aload_n 0, 1), (75, .invokevirtual 405, 3), (78, .iload 6, 2), (80, .ifCond .eq 19, 3), (83, .aload_n 0, 1), (84, .getfield 148, 3), (87, .ifCond .le 13, 3), (90, .iload 7, 2), (92, .aload_n 0, 1)]
set_option maxRecDepth 20000 in
theorem DX7_tries_0 : lX7_tries_0.all (dq cX7_tries) = true := by decide +kernel
def lX7_tries_1 : List (Nat × Instr × Nat) := [(93, .getfield 151, 3), (96, .if_icmp .gt 4, 3), (99, .return_, 1), (100, .aload_n 0, 1), (101, .iload_n 2, 1), (102, .putfield 148, 3), (105, .aload_n 0, 1), (106, .iload 7, 2), (108, .putfield 151, 3), (111, .aload_n 0, 1), (112, .getfield 145, 3), (115, .iconst 0, 1), (116, .iload_n 3, 1), (117, .iastore, 1), (118, .aload_n 0, 1), (119, .getfield 145, 3), (122, .iconst 1, 1), (123, .iload 4, 2), (125, .iastore, 1), (126, .aload_n 0, 1), (127, .getfield 145, 3), (130, .iconst 2, 1), (131, .iload 5, 2), (133, .iastore, 1), (134, .return_, 1)]
set_option maxRecDepth 20000 in
theorem DX7_tries_1 : lX7_tries_1.all (dq cX7_tries) = true := by decide +kernel
def lX7_layBest_0 : List (Nat × Instr × Nat) := [(0, .aload_n 0, 1), (1, .iconst 0, 1), (2, .putfield 148, 3), (5, .iconst 0, 1), (6, .istore_n 2, 1), (7, .iload_n 2, 1), (8, .aload_n 0, 1), (9, .getfield 7, 3), (12, .if_icmp .ge 91, 3), (15, .aload_n 0, 1), (16, .iload_n 1, 1), (17, .iconst 1, 1), (18, .iload_n 2, 1), (19, .iconst 0, 1), (20, .iconst 0, 1), (21, .invokevirtual 414, 3), (24, .iconst 0, 1), (25, .istore_n 3, 1), (26, .iload_n 3, 1), (27, .aload_n 0, 1), (28, .getfield 7, 3), (31, .if_icmp .ge 66, 3), (34, .iload_n 3, 1), (35, .iload_n 2, 1), (36, .if_icmp .ne 6, 3), (39, .goto 52, 3), (42, .aload_n 0, 1), (43, .iload_n 1, 1), (44, .iconst 2, 1), (45, .iload_n 2, 1), (46, .iload_n 3, 1), (47, .iconst 0, 1), (48, .invokevirtual 414, 3), (51, .iconst 0, 1), (52, .istore 4, 2), (54, .iload 4, 2), (56, .aload_n 0, 1), (57, .getfield 7, 3), (60, .if_icmp .ge 31, 3), (63, .iload 4, 2), (65, .iload_n 2, 1), (66, .if_icmp .eq 19, 3), (69, .iload 4, 2), (71, .iload_n 3, 1), (72, .if_icmp .eq 13, 3), (75, .aload_n 0, 1), (76, .iload_n 1, 1), (77, .iconst 3, 1), (78, .iload_n 2, 1), (79, .iload_n 3, 1)]
set_option maxRecDepth 20000 in
theorem DX7_layBest_0 : lX7_layBest_0.all (dq cX7_layBest) = true := by decide +kernel
def lX7_layBest_1 : List (Nat × Instr × Nat) := [(80, .iload 4, 2), (82, .invokevirtual 414, 3), (85, .iinc 4 1, 3), (88, .goto (-34), 3), (91, .iinc 3 1, 3), (94, .goto (-68), 3), (97, .iinc 2 1, 3), (100, .goto (-93), 3), (103, .return_, 1)]
set_option maxRecDepth 20000 in
theorem DX7_layBest_1 : lX7_layBest_1.all (dq cX7_layBest) = true := by decide +kernel
def lX7_best_0 : List (Nat × Instr × Nat) := [(0, .aload_n 0, 1), (1, .iload_n 1, 1), (2, .iconst 0, 1), (3, .iconst 1, 1), (4, .invokevirtual 276, 3), (7, .ifCond .eq 13, 3), (10, .aload_n 0, 1), (11, .iload_n 2, 1), (12, .iconst 0, 1), (13, .iconst 3, 1), (14, .invokevirtual 276, 3), (17, .ifCond .ne 5, 3), (20, .iconst (-1), 1), (21, .ireturn, 1), (22, .aload_n 0, 1), (23, .iload_n 1, 1), (24, .invokevirtual 418, 3), (27, .iload_n 2, 1), (28, .iconst 3, 1), (29, .if_icmp .ne 20, 3), (32, .aload_n 0, 1), (33, .getfield 148, 3), (36, .ifCond .ne 8, 3), (39, .bipush (-5), 2), (41, .goto 7, 3), (44, .aload_n 0, 1), (45, .getfield 151, 3), (48, .ireturn, 1), (49, .iload_n 2, 1), (50, .aload_n 0, 1), (51, .getfield 148, 3), (54, .if_icmp .ge 12, 3), (57, .aload_n 0, 1), (58, .getfield 145, 3), (61, .iload_n 2, 1), (62, .iaload, 1), (63, .goto 5, 3), (66, .bipush (-5), 2), (68, .ireturn, 1)]
set_option maxRecDepth 20000 in
theorem DX7_best_0 : lX7_best_0.all (dq cX7_best) = true := by decide +kernel
def lX7_layOrder_0 : List (Nat × Instr × Nat) := [(0, .iload_n 1, 1), (1, .istore_n 2, 1), (2, .aload_n 0, 1), (3, .getfield 115, 3), (6, .iconst 1, 1), (7, .isub, 1), (8, .istore_n 3, 1), (9, .iload_n 3, 1), (10, .ifCond .lt 24, 3), (13, .aload_n 0, 1), (14, .getfield 47, 3), (17, .iload_n 3, 1), (18, .iload_n 2, 1), (19, .bipush 6, 2), (21, .irem, 1), (22, .iastore, 1), (23, .iload_n 2, 1), (24, .bipush 6, 2), (26, .idiv, 1), (27, .istore_n 2, 1), (28, .iinc 3 (-1), 3), (31, .goto (-22), 3), (34, .iconst 0, 1), (35, .istore_n 3, 1), (36, .iload_n 3, 1), (37, .aload_n 0, 1), (38, .getfield 115, 3), (41, .if_icmp .ge 108, 3), (44, .iconst 0, 1), (45, .istore 4, 2), (47, .iconst 0, 1), (48, .istore 5, 2), (50, .iload 5, 2), (52, .aload_n 0, 1), (53, .getfield 115, 3), (56, .if_icmp .ge 37, 3), (59, .iload 4, 2), (61, .ifCond .ne 19, 3), (64, .aload_n 0, 1), (65, .getfield 139, 3), (68, .iload 5, 2), (70, .iaload, 1), (71, .aload_n 0, 1), (72, .getfield 47, 3), (75, .iload_n 3, 1), (76, .iaload, 1), (77, .if_icmp .ne 7, 3), (80, .iconst 1, 1), (81, .goto 4, 3), (84, .iconst 0, 1)]
set_option maxRecDepth 20000 in
theorem DX7_layOrder_0 : lX7_layOrder_0.all (dq cX7_layOrder) = true := by decide +kernel
def lX7_layOrder_1 : List (Nat × Instr × Nat) := [(85, .istore 4, 2), (87, .iinc 5 1, 3), (90, .goto (-40), 3), (93, .iconst 0, 1), (94, .istore 5, 2), (96, .iload 5, 2), (98, .iload_n 3, 1), (99, .if_icmp .ge 37, 3), (102, .iload 4, 2), (104, .ifCond .eq 23, 3), (107, .aload_n 0, 1), (108, .getfield 47, 3), (111, .iload 5, 2), (113, .iaload, 1), (114, .aload_n 0, 1), (115, .getfield 47, 3), (118, .iload_n 3, 1), (119, .iaload, 1), (120, .if_icmp .eq 7, 3), (123, .iconst 1, 1), (124, .goto 4, 3), (127, .iconst 0, 1), (128, .istore 4, 2), (130, .iinc 5 1, 3), (133, .goto (-37), 3), (136, .iload 4, 2), (138, .ifCond .ne 5, 3), (141, .iconst 0, 1), (142, .ireturn, 1), (143, .iinc 3 1, 3), (146, .goto (-110), 3), (149, .iconst 1, 1), (150, .ireturn, 1)]
set_option maxRecDepth 20000 in
theorem DX7_layOrder_1 : lX7_layOrder_1.all (dq cX7_layOrder) = true := by decide +kernel
def lX7_longest_0 : List (Nat × Instr × Nat) := [(0, .aload_n 0, 1), (1, .iload_n 1, 1), (2, .iconst 0, 1), (3, .iconst 3, 1), (4, .invokevirtual 276, 3), (7, .ifCond .ne 5, 3), (10, .iconst (-1), 1), (11, .ireturn, 1), (12, .aload_n 0, 1), (13, .getfield 13, 3), (16, .ifCond .ne 6, 3), (19, .bipush (-5), 2), (21, .ireturn, 1), (22, .aload_n 0, 1), (23, .getfield 13, 3), (26, .iconst 1, 1), (27, .if_icmp .ne 8, 3), (30, .bipush 6, 2), (32, .goto 19, 3), (35, .aload_n 0, 1), (36, .getfield 13, 3), (39, .iconst 2, 1), (40, .if_icmp .ne 8, 3), (43, .bipush 36, 2), (45, .goto 6, 3), (48, .sipush 216, 3), (51, .istore_n 2, 1), (52, .iconst (-1), 1), (53, .istore_n 3, 1), (54, .iconst 0, 1), (55, .istore 4, 2), (57, .iload 4, 2), (59, .iload_n 2, 1), (60, .if_icmp .ge 111, 3), (63, .aload_n 0, 1), (64, .invokevirtual 402, 3), (67, .aload_n 0, 1), (68, .iload 4, 2), (70, .invokevirtual 421, 3), (73, .ifCond .ne 10, 3), (76, .aload_n 0, 1), (77, .invokevirtual 405, 3), (80, .goto 85, 3), (83, .aload_n 0, 1), (84, .getfield 47, 3), (87, .iconst 0, 1), (88, .iaload, 1), (89, .istore 5, 2), (91, .aload_n 0, 1), (92, .getfield 47, 3)]
set_option maxRecDepth 20000 in
theorem DX7_longest_0 : lX7_longest_0.all (dq cX7_longest) = true := by decide +kernel
def lX7_longest_1 : List (Nat × Instr × Nat) := [(95, .iconst 1, 1), (96, .iaload, 1), (97, .istore 6, 2), (99, .aload_n 0, 1), (100, .getfield 47, 3), (103, .iconst 2, 1), (104, .iaload, 1), (105, .istore 7, 2), (107, .aload_n 0, 1), (108, .bipush 61, 2), (110, .invokevirtual 408, 3), (113, .istore 8, 2), (115, .iload 8, 2), (117, .ifCond .ge 8, 3), (120, .bipush 99, 2), (122, .goto 5, 3), (125, .iload 8, 2), (127, .istore 8, 2), (129, .iload 8, 2), (131, .iload_n 3, 1), (132, .if_icmp .gt 6, 3), (135, .goto 30, 3), (138, .iload 8, 2), (140, .istore_n 3, 1), (141, .aload_n 0, 1), (142, .getfield 154, 3), (145, .iconst 0, 1), (146, .iload 5, 2), (148, .iastore, 1), (149, .aload_n 0, 1), (150, .getfield 154, 3), (153, .iconst 1, 1), (154, .iload 6, 2), (156, .iastore, 1), (157, .aload_n 0, 1), (158, .getfield 154, 3), (161, .iconst 2, 1), (162, .iload 7, 2), (164, .iastore, 1), (165, .iinc 4 1, 3), (168, .goto (-111), 3), (171, .iload_n 1, 1), (172, .iconst 3, 1), (173, .if_icmp .ne 16, 3), (176, .iload_n 3, 1), (177, .bipush 99, 2), (179, .if_icmp .ne 8, 3), (182, .bipush (-5), 2), (184, .goto 4, 3), (187, .iload_n 3, 1)]
set_option maxRecDepth 20000 in
theorem DX7_longest_1 : lX7_longest_1.all (dq cX7_longest) = true := by decide +kernel
def lX7_longest_2 : List (Nat × Instr × Nat) := [(188, .ireturn, 1), (189, .iload_n 1, 1), (190, .aload_n 0, 1), (191, .getfield 13, 3), (194, .if_icmp .ge 12, 3), (197, .aload_n 0, 1), (198, .getfield 154, 3), (201, .iload_n 1, 1), (202, .iaload, 1), (203, .goto 5, 3), (206, .bipush (-5), 2), (208, .ireturn, 1)]
set_option maxRecDepth 20000 in
theorem DX7_longest_2 : lX7_longest_2.all (dq cX7_longest) = true := by decide +kernel
def lX7_see_0 : List (Nat × Instr × Nat) := [(0, .iload_n 1, 1), (1, .iconst (-1), 1), (2, .if_icmp .ne 10, 3), (5, .aload_n 0, 1), (6, .iconst 0, 1), (7, .putfield 157, 3), (10, .iconst 0, 1), (11, .ireturn, 1), (12, .aload_n 0, 1), (13, .iload_n 1, 1), (14, .iconst 0, 1), (15, .iconst 3, 1), (16, .invokevirtual 276, 3), (19, .ifCond .eq 14, 3), (22, .aload_n 0, 1), (23, .iload_n 2, 1), (24, .iconst 0, 1), (25, .bipush 20, 2), (27, .invokevirtual 276, 3), (30, .ifCond .ne 6, 3), (33, .bipush (-2), 2), (35, .ireturn, 1), (36, .aload_n 0, 1), (37, .getfield 157, 3), (40, .iconst 5, 1), (41, .if_icmp .ne 6, 3), (44, .bipush (-4), 2), (46, .ireturn, 1), (47, .aload_n 0, 1), (48, .getfield 160, 3), (51, .aload_n 0, 1), (52, .getfield 157, 3), (55, .iload_n 1, 1), (56, .iastore, 1), (57, .aload_n 0, 1), (58, .getfield 163, 3), (61, .aload_n 0, 1), (62, .getfield 157, 3), (65, .iload_n 2, 1), (66, .iastore, 1), (67, .aload_n 0, 1), (68, .dup, 1), (69, .getfield 157, 3), (72, .iconst 1, 1), (73, .iadd, 1), (74, .putfield 157, 3), (77, .aload_n 0, 1), (78, .getfield 157, 3), (81, .ireturn, 1)]
set_option maxRecDepth 20000 in
theorem DX7_see_0 : lX7_see_0.all (dq cX7_see) = true := by decide +kernel
def lX7_isSeen_0 : List (Nat × Instr × Nat) := [(0, .iconst 1, 1), (1, .istore_n 1, 1), (2, .iconst 0, 1), (3, .istore_n 2, 1), (4, .iload_n 2, 1), (5, .aload_n 0, 1), (6, .getfield 157, 3), (9, .if_icmp .ge 50, 3), (12, .iload_n 1, 1), (13, .ifCond .eq 46, 3), (16, .aload_n 0, 1), (17, .invokevirtual 402, 3), (20, .aload_n 0, 1), (21, .aload_n 0, 1), (22, .getfield 163, 3), (25, .iload_n 2, 1), (26, .iaload, 1), (27, .invokevirtual 398, 3), (30, .aload_n 0, 1), (31, .getfield 13, 3), (34, .aload_n 0, 1), (35, .getfield 160, 3), (38, .iload_n 2, 1), (39, .iaload, 1), (40, .if_icmp .ne 7, 3), (43, .iconst 1, 1), (44, .goto 4, 3), (47, .iconst 0, 1), (48, .istore_n 1, 1), (49, .aload_n 0, 1), (50, .invokevirtual 405, 3), (53, .iinc 2 1, 3), (56, .goto (-52), 3), (59, .iload_n 1, 1), (60, .ireturn, 1)]
set_option maxRecDepth 20000 in
theorem DX7_isSeen_0 : lX7_isSeen_0.all (dq cX7_isSeen) = true := by decide +kernel
def lX7_worn_0 : List (Nat × Instr × Nat) := [(0, .aload_n 0, 1), (1, .iload_n 1, 1), (2, .invokevirtual 280, 3), (5, .ifCond .eq 13, 3), (8, .aload_n 0, 1), (9, .iload_n 2, 1), (10, .iconst 0, 1), (11, .iconst 1, 1), (12, .invokevirtual 276, 3), (15, .ifCond .ne 5, 3), (18, .iconst (-1), 1), (19, .ireturn, 1), (20, .aload_n 0, 1), (21, .getfield 38, 3), (24, .iload_n 1, 1), (25, .iaload, 1), (26, .istore_n 3, 1), (27, .iconst 0, 1), (28, .istore 4, 2), (30, .bipush (-5), 2), (32, .istore 5, 2), (34, .bipush 60, 2), (36, .istore 6, 2), (38, .iload 6, 2), (40, .ifCond .lt 34, 3), (43, .aload_n 0, 1), (44, .getfield 38, 3), (47, .iload_n 1, 1), (48, .iload 6, 2), (50, .iastore, 1), (51, .aload_n 0, 1), (52, .invokevirtual 424, 3), (55, .ifCond .ne 6, 3), (58, .goto 10, 3), (61, .iinc 4 1, 3), (64, .iload 6, 2), (66, .istore 5, 2), (68, .iinc 6 (-1), 3), (71, .goto (-33), 3), (74, .aload_n 0, 1), (75, .getfield 38, 3), (78, .iload_n 1, 1), (79, .iload_n 3, 1), (80, .iastore, 1), (81, .iload_n 2, 1), (82, .ifCond .ne 8, 3), (85, .iload 4, 2), (87, .goto 5, 3), (90, .iload 5, 2), (92, .ireturn, 1)]
set_option maxRecDepth 20000 in
theorem DX7_worn_0 : lX7_worn_0.all (dq cX7_worn) = true := by decide +kernel
def lX7_can_0 : List (Nat × Instr × Nat) := [(0, .aload_n 0, 1), (1, .iload_n 1, 1), (2, .invokevirtual 280, 3), (5, .ifCond .eq 13, 3), (8, .aload_n 0, 1), (9, .iload_n 2, 1), (10, .iconst 0, 1), (11, .iconst 1, 1), (12, .invokevirtual 276, 3), (15, .ifCond .ne 5, 3), (18, .iconst (-1), 1), (19, .ireturn, 1), (20, .aload_n 0, 1), (21, .getfield 32, 3), (24, .iload_n 1, 1), (25, .iaload, 1), (26, .istore_n 3, 1), (27, .iconst 0, 1), (28, .istore 4, 2), (30, .bipush (-5), 2), (32, .istore 5, 2), (34, .bipush 9, 2), (36, .istore 6, 2), (38, .iload 6, 2), (40, .ifCond .lt 34, 3), (43, .aload_n 0, 1), (44, .getfield 32, 3), (47, .iload_n 1, 1), (48, .iload 6, 2), (50, .iastore, 1), (51, .aload_n 0, 1), (52, .invokevirtual 424, 3), (55, .ifCond .ne 6, 3), (58, .goto 10, 3), (61, .iinc 4 1, 3), (64, .iload 6, 2), (66, .istore 5, 2), (68, .iinc 6 (-1), 3), (71, .goto (-33), 3), (74, .aload_n 0, 1), (75, .getfield 32, 3), (78, .iload_n 1, 1), (79, .iload_n 3, 1), (80, .iastore, 1), (81, .iload_n 2, 1), (82, .ifCond .ne 8, 3), (85, .iload 4, 2), (87, .goto 5, 3), (90, .iload 5, 2), (92, .ireturn, 1)]
set_option maxRecDepth 20000 in
theorem DX7_can_0 : lX7_can_0.all (dq cX7_can) = true := by decide +kernel
def lX7_divisor_0 : List (Nat × Instr × Nat) := [(0, .iload_n 1, 1), (1, .istore_n 3, 1), (2, .iload_n 2, 1), (3, .istore 4, 2), (5, .iload 4, 2), (7, .ifCond .eq 19, 3), (10, .iload_n 3, 1), (11, .iload 4, 2), (13, .irem, 1), (14, .istore 5, 2), (16, .iload 4, 2), (18, .istore_n 3, 1), (19, .iload 5, 2), (21, .istore 4, 2), (23, .goto (-18), 3), (26, .iload_n 3, 1), (27, .ireturn, 1)]
set_option maxRecDepth 20000 in
theorem DX7_divisor_0 : lX7_divisor_0.all (dq cX7_divisor) = true := by decide +kernel
def lX7_lowest_0 : List (Nat × Instr × Nat) := [(0, .aload_n 0, 1), (1, .iload_n 1, 1), (2, .iload_n 2, 1), (3, .invokevirtual 427, 3), (6, .istore 4, 2), (8, .iload_n 3, 1), (9, .ifCond .ne 11, 3), (12, .iload_n 1, 1), (13, .iload 4, 2), (15, .idiv, 1), (16, .i2l, 1), (17, .goto 8, 3), (20, .iload_n 2, 1), (21, .iload 4, 2), (23, .idiv, 1), (24, .i2l, 1), (25, .lreturn, 1)]
set_option maxRecDepth 20000 in
theorem DX7_lowest_0 : lX7_lowest_0.all (dq cX7_lowest) = true := by decide +kernel
def lX7_odds_0 : List (Nat × Instr × Nat) := [(0, .aload_n 0, 1), (1, .iload_n 1, 1), (2, .invokevirtual 395, 3), (5, .ifCond .eq 20, 3), (8, .aload_n 0, 1), (9, .iload_n 2, 1), (10, .iconst 0, 1), (11, .iconst 1, 1), (12, .invokevirtual 276, 3), (15, .ifCond .eq 10, 3), (18, .aload_n 0, 1), (19, .getfield 13, 3), (22, .ifCond .ne 7, 3), (25, .ldc2_w 430, 3), (28, .lreturn, 1), (29, .iconst 0, 1), (30, .istore_n 3, 1), (31, .aload_n 0, 1), (32, .getfield 13, 3), (35, .istore 4, 2), (37, .iconst 0, 1), (38, .istore 5, 2), (40, .iload 5, 2), (42, .iload 4, 2), (44, .if_icmp .ge 35, 3), (47, .aload_n 0, 1), (48, .invokevirtual 402, 3), (51, .aload_n 0, 1), (52, .iload 5, 2), (54, .putfield 13, 3), (57, .iload_n 3, 1), (58, .aload_n 0, 1), (59, .iload_n 1, 1), (60, .invokevirtual 408, 3), (63, .ifCond .ge 7, 3), (66, .iconst 1, 1), (67, .goto 4, 3), (70, .iconst 0, 1), (71, .iadd, 1), (72, .istore_n 3, 1), (73, .iinc 5 1, 3), (76, .goto (-36), 3), (79, .aload_n 0, 1), (80, .iload_n 3, 1), (81, .iload 4, 2), (83, .iload_n 2, 1), (84, .invokevirtual 432, 3), (87, .lreturn, 1)]
set_option maxRecDepth 20000 in
theorem DX7_odds_0 : lX7_odds_0.all (dq cX7_odds) = true := by decide +kernel
def lX7_mean_0 : List (Nat × Instr × Nat) := [(0, .aload_n 0, 1), (1, .iload_n 1, 1), (2, .iconst 0, 1), (3, .iconst 1, 1), (4, .invokevirtual 276, 3), (7, .ifCond .eq 10, 3), (10, .aload_n 0, 1), (11, .getfield 13, 3), (14, .ifCond .ne 7, 3), (17, .ldc2_w 430, 3), (20, .lreturn, 1), (21, .iconst 0, 1), (22, .istore_n 2, 1), (23, .iconst 0, 1), (24, .istore_n 3, 1), (25, .iload_n 3, 1), (26, .aload_n 0, 1), (27, .getfield 13, 3), (30, .if_icmp .ge 17, 3), (33, .iload_n 2, 1), (34, .aload_n 0, 1), (35, .iload_n 3, 1), (36, .invokevirtual 377, 3), (39, .iadd, 1), (40, .istore_n 2, 1), (41, .iinc 3 1, 3), (44, .goto (-19), 3), (47, .aload_n 0, 1), (48, .iload_n 2, 1), (49, .aload_n 0, 1), (50, .getfield 13, 3), (53, .iload_n 1, 1), (54, .invokevirtual 432, 3), (57, .lreturn, 1)]
set_option maxRecDepth 20000 in
theorem DX7_mean_0 : lX7_mean_0.all (dq cX7_mean) = true := by decide +kernel
def lX7_plan_0 : List (Nat × Instr × Nat) := [(0, .iload_n 1, 1), (1, .iconst (-1), 1), (2, .if_icmp .ne 10, 3), (5, .aload_n 0, 1), (6, .iconst 0, 1), (7, .putfield 166, 3), (10, .iconst 0, 1), (11, .ireturn, 1), (12, .aload_n 0, 1), (13, .iload_n 1, 1), (14, .iconst 0, 1), (15, .iconst 4, 1), (16, .invokevirtual 276, 3), (19, .ifCond .eq 16, 3), (22, .iload_n 1, 1), (23, .iconst 3, 1), (24, .if_icmp .ne 13, 3), (27, .aload_n 0, 1), (28, .iload_n 2, 1), (29, .invokevirtual 280, 3), (32, .ifCond .ne 5, 3), (35, .iconst (-1), 1), (36, .ireturn, 1), (37, .aload_n 0, 1), (38, .iload_n 1, 1), (39, .iconst 1, 1), (40, .iconst 2, 1), (41, .invokevirtual 276, 3), (44, .ifCond .eq 14, 3), (47, .aload_n 0, 1), (48, .iload_n 2, 1), (49, .invokevirtual 295, 3), (52, .ifCond .ne 6, 3), (55, .bipush (-2), 2), (57, .ireturn, 1), (58, .aload_n 0, 1), (59, .getfield 166, 3), (62, .bipush 10, 2), (64, .if_icmp .ne 6, 3), (67, .bipush (-4), 2), (69, .ireturn, 1), (70, .aload_n 0, 1), (71, .getfield 172, 3), (74, .aload_n 0, 1), (75, .getfield 166, 3), (78, .iload_n 1, 1), (79, .iastore, 1), (80, .aload_n 0, 1), (81, .getfield 175, 3), (84, .aload_n 0, 1)]
set_option maxRecDepth 20000 in
theorem DX7_plan_0 : lX7_plan_0.all (dq cX7_plan) = true := by decide +kernel
def lX7_plan_1 : List (Nat × Instr × Nat) := [(85, .getfield 166, 3), (88, .iload_n 2, 1), (89, .iastore, 1), (90, .aload_n 0, 1), (91, .dup, 1), (92, .getfield 166, 3), (95, .iconst 1, 1), (96, .iadd, 1), (97, .putfield 166, 3), (100, .aload_n 0, 1), (101, .getfield 166, 3), (104, .ireturn, 1)]
set_option maxRecDepth 20000 in
theorem DX7_plan_1 : lX7_plan_1.all (dq cX7_plan) = true := by decide +kernel
def lX7_goPlan_0 : List (Nat × Instr × Nat) := [(0, .iload_n 1, 1), (1, .ifCond .ne 8, 3), (4, .aload_n 0, 1), (5, .invokevirtual 392, 3), (8, .pop, 1), (9, .iload_n 1, 1), (10, .iconst 1, 1), (11, .if_icmp .ne 8, 3), (14, .aload_n 0, 1), (15, .iload_n 2, 1), (16, .putfield 16, 3), (19, .iload_n 1, 1), (20, .iconst 2, 1), (21, .if_icmp .ne 8, 3), (24, .aload_n 0, 1), (25, .iload_n 2, 1), (26, .putfield 19, 3), (29, .iload_n 1, 1), (30, .iconst 3, 1), (31, .if_icmp .ne 24, 3), (34, .aload_n 0, 1), (35, .iload_n 2, 1), (36, .invokevirtual 287, 3), (39, .ifCond .ge 16, 3), (42, .aload_n 0, 1), (43, .getfield 13, 3), (46, .iconst 3, 1), (47, .if_icmp .ge 8, 3), (50, .aload_n 0, 1), (51, .iload_n 2, 1), (52, .invokevirtual 291, 3), (55, .iload_n 1, 1), (56, .iconst 4, 1), (57, .if_icmp .ne 8, 3), (60, .aload_n 0, 1), (61, .iconst 0, 1), (62, .putfield 13, 3), (65, .return_, 1)]
set_option maxRecDepth 20000 in
theorem DX7_goPlan_0 : lX7_goPlan_0.all (dq cX7_goPlan) = true := by decide +kernel
def lX7_ends_0 : List (Nat × Instr × Nat) := [(0, .aload_n 0, 1), (1, .iload_n 1, 1), (2, .iconst 0, 1), (3, .iconst 1, 1), (4, .invokevirtual 276, 3), (7, .ifCond .ne 5, 3), (10, .iconst (-1), 1), (11, .ireturn, 1), (12, .aload_n 0, 1), (13, .invokevirtual 402, 3), (16, .iconst 0, 1), (17, .istore_n 2, 1), (18, .iload_n 2, 1), (19, .aload_n 0, 1), (20, .getfield 166, 3), (23, .if_icmp .ge 25, 3), (26, .aload_n 0, 1), (27, .aload_n 0, 1), (28, .getfield 172, 3), (31, .iload_n 2, 1), (32, .iaload, 1), (33, .aload_n 0, 1), (34, .getfield 175, 3), (37, .iload_n 2, 1), (38, .iaload, 1), (39, .invokevirtual 436, 3), (42, .iinc 2 1, 3), (45, .goto (-27), 3), (48, .iload_n 1, 1), (49, .ifCond .ne 15, 3), (52, .aload_n 0, 1), (53, .getfield 22, 3), (56, .aload_n 0, 1), (57, .getfield 124, 3), (60, .isub, 1), (61, .goto 7, 3), (64, .aload_n 0, 1), (65, .invokevirtual 371, 3), (68, .istore_n 2, 1), (69, .aload_n 0, 1), (70, .invokevirtual 405, 3), (73, .iload_n 2, 1), (74, .ireturn, 1)]
set_option maxRecDepth 20000 in
theorem DX7_ends_0 : lX7_ends_0.all (dq cX7_ends) = true := by decide +kernel
def lX7_book_0 : List (Nat × Instr × Nat) := [(0, .iload_n 1, 1), (1, .iconst (-1), 1), (2, .if_icmp .ne 10, 3), (5, .aload_n 0, 1), (6, .iconst 0, 1), (7, .putfield 169, 3), (10, .iconst 0, 1), (11, .ireturn, 1), (12, .aload_n 0, 1), (13, .iload_n 1, 1), (14, .invokevirtual 280, 3), (17, .ifCond .ne 5, 3), (20, .iconst (-1), 1), (21, .ireturn, 1), (22, .aload_n 0, 1), (23, .iload_n 2, 1), (24, .invokevirtual 284, 3), (27, .ifCond .ne 6, 3), (30, .bipush (-2), 2), (32, .ireturn, 1), (33, .aload_n 0, 1), (34, .getfield 169, 3), (37, .bipush 8, 2), (39, .if_icmp .ne 6, 3), (42, .bipush (-4), 2), (44, .ireturn, 1), (45, .aload_n 0, 1), (46, .getfield 178, 3), (49, .aload_n 0, 1), (50, .getfield 169, 3), (53, .iload_n 1, 1), (54, .iastore, 1), (55, .aload_n 0, 1), (56, .getfield 181, 3), (59, .aload_n 0, 1), (60, .getfield 169, 3), (63, .iload_n 2, 1), (64, .iastore, 1), (65, .aload_n 0, 1), (66, .dup, 1), (67, .getfield 169, 3), (70, .iconst 1, 1), (71, .iadd, 1), (72, .putfield 169, 3), (75, .aload_n 0, 1), (76, .getfield 169, 3), (79, .ireturn, 1)]
set_option maxRecDepth 20000 in
theorem DX7_book_0 : lX7_book_0.all (dq cX7_book) = true := by decide +kernel
def lX7_looked_0 : List (Nat × Instr × Nat) := [(0, .iconst 0, 1), (1, .istore_n 1, 1), (2, .iload_n 1, 1), (3, .aload_n 0, 1), (4, .getfield 169, 3), (7, .if_icmp .ge 31, 3), (10, .aload_n 0, 1), (11, .getfield 35, 3), (14, .aload_n 0, 1), (15, .getfield 178, 3), (18, .iload_n 1, 1), (19, .iaload, 1), (20, .iaload, 1), (21, .aload_n 0, 1), (22, .getfield 181, 3), (25, .iload_n 1, 1), (26, .iaload, 1), (27, .if_icmp .eq 5, 3), (30, .iload_n 1, 1), (31, .ireturn, 1), (32, .iinc 1 1, 3), (35, .goto (-33), 3), (38, .bipush (-5), 2), (40, .ireturn, 1)]
set_option maxRecDepth 20000 in
theorem DX7_looked_0 : lX7_looked_0.all (dq cX7_looked) = true := by decide +kernel
def lX7_judge_0 : List (Nat × Instr × Nat) := [(0, .aload_n 0, 1), (1, .iload_n 1, 1), (2, .invokevirtual 440, 3), (5, .ifCond .ne 5, 3), (8, .iconst (-1), 1), (9, .ireturn, 1), (10, .aload_n 0, 1), (11, .getfield 263, 3), (14, .iload_n 1, 1), (15, .iaload, 1), (16, .ifCond .le 6, 3), (19, .bipush (-12), 2), (21, .ireturn, 1), (22, .iconst 0, 1), (23, .istore_n 3, 1), (24, .iload_n 3, 1), (25, .aload_n 0, 1), (26, .getfield 7, 3), (29, .if_icmp .ge 67, 3), (32, .aload_n 0, 1), (33, .getfield 263, 3), (36, .iload_n 1, 1), (37, .iaload, 1), (38, .ifCond .lt 21, 3), (41, .iload_n 2, 1), (42, .ifCond .lt 17, 3), (45, .iload_n 2, 1), (46, .aload_n 0, 1), (47, .getfield 266, 3), (50, .iload_n 1, 1), (51, .iaload, 1), (52, .iload_n 3, 1), (53, .isub, 1), (54, .iconst 1, 1), (55, .isub, 1), (56, .if_icmp .le 8, 3), (59, .bipush 100, 2), (61, .iload_n 3, 1), (62, .iadd, 1), (63, .ireturn, 1), (64, .aload_n 0, 1), (65, .getfield 269, 3), (68, .bipush 60, 2), (70, .iload_n 1, 1), (71, .imul, 1), (72, .iload_n 2, 1), (73, .iadd, 1), (74, .iload_n 3, 1), (75, .iadd, 1), (76, .laload, 1)]
set_option maxRecDepth 20000 in
theorem DX7_judge_0 : lX7_judge_0.all (dq cX7_judge) = true := by decide +kernel
def lX7_judge_1 : List (Nat × Instr × Nat) := [(77, .aload_n 0, 1), (78, .getfield 35, 3), (81, .iload_n 3, 1), (82, .iaload, 1), (83, .i2l, 1), (84, .lcmp, 1), (85, .ifCond .eq 5, 3), (88, .iload_n 3, 1), (89, .ireturn, 1), (90, .iinc 3 1, 3), (93, .goto (-69), 3), (96, .bipush (-5), 2), (98, .ireturn, 1)]
set_option maxRecDepth 20000 in
theorem DX7_judge_1 : lX7_judge_1.all (dq cX7_judge) = true := by decide +kernel
def lX7_image_0 : List (Nat × Instr × Nat) := [(0, .aload_n 0, 1), (1, .iconst 1, 1), (2, .putfield 184, 3), (5, .aload_n 0, 1), (6, .aload_n 0, 1), (7, .getfield 53, 3), (10, .putfield 188, 3), (13, .aload_n 0, 1), (14, .aload_n 0, 1), (15, .getfield 7, 3), (18, .putfield 191, 3), (21, .aload_n 0, 1), (22, .aload_n 0, 1), (23, .getfield 13, 3), (26, .putfield 194, 3), (29, .aload_n 0, 1), (30, .aload_n 0, 1), (31, .getfield 16, 3), (34, .putfield 197, 3), (37, .aload_n 0, 1), (38, .aload_n 0, 1), (39, .getfield 19, 3), (42, .putfield 200, 3), (45, .aload_n 0, 1), (46, .aload_n 0, 1), (47, .getfield 22, 3), (50, .putfield 203, 3), (53, .aload_n 0, 1), (54, .aload_n 0, 1), (55, .getfield 25, 3), (58, .putfield 206, 3), (61, .aload_n 0, 1), (62, .aload_n 0, 1), (63, .getfield 157, 3), (66, .putfield 209, 3), (69, .aload_n 0, 1), (70, .aload_n 0, 1), (71, .getfield 166, 3), (74, .putfield 212, 3), (77, .aload_n 0, 1), (78, .aload_n 0, 1), (79, .getfield 169, 3), (82, .putfield 215, 3), (85, .iconst 0, 1), (86, .istore_n 1, 1), (87, .iload_n 1, 1), (88, .bipush 6, 2), (90, .if_icmp .ge 69, 3), (93, .aload_n 0, 1), (94, .getfield 218, 3)]
set_option maxRecDepth 20000 in
theorem DX7_image_0 : lX7_image_0.all (dq cX7_image) = true := by decide +kernel
def lX7_image_1 : List (Nat × Instr × Nat) := [(97, .iload_n 1, 1), (98, .aload_n 0, 1), (99, .getfield 28, 3), (102, .iload_n 1, 1), (103, .iaload, 1), (104, .iastore, 1), (105, .aload_n 0, 1), (106, .getfield 221, 3), (109, .iload_n 1, 1), (110, .aload_n 0, 1), (111, .getfield 32, 3), (114, .iload_n 1, 1), (115, .iaload, 1), (116, .iastore, 1), (117, .aload_n 0, 1), (118, .getfield 224, 3), (121, .iload_n 1, 1), (122, .aload_n 0, 1), (123, .getfield 35, 3), (126, .iload_n 1, 1), (127, .iaload, 1), (128, .iastore, 1), (129, .aload_n 0, 1), (130, .getfield 227, 3), (133, .iload_n 1, 1), (134, .aload_n 0, 1), (135, .getfield 38, 3), (138, .iload_n 1, 1), (139, .iaload, 1), (140, .iastore, 1), (141, .aload_n 0, 1), (142, .getfield 230, 3), (145, .iload_n 1, 1), (146, .aload_n 0, 1), (147, .getfield 41, 3), (150, .iload_n 1, 1), (151, .iaload, 1), (152, .iastore, 1), (153, .iinc 1 1, 3), (156, .goto (-69), 3), (159, .iconst 0, 1), (160, .istore_n 1, 1), (161, .iload_n 1, 1), (162, .bipush 24, 2), (164, .if_icmp .ge 21, 3), (167, .aload_n 0, 1), (168, .getfield 233, 3), (171, .iload_n 1, 1), (172, .aload_n 0, 1), (173, .getfield 44, 3)]
set_option maxRecDepth 20000 in
theorem DX7_image_1 : lX7_image_1.all (dq cX7_image) = true := by decide +kernel
def lX7_image_2 : List (Nat × Instr × Nat) := [(176, .iload_n 1, 1), (177, .iaload, 1), (178, .iastore, 1), (179, .iinc 1 1, 3), (182, .goto (-21), 3), (185, .iconst 0, 1), (186, .istore_n 1, 1), (187, .iload_n 1, 1), (188, .iconst 3, 1), (189, .if_icmp .ge 21, 3), (192, .aload_n 0, 1), (193, .getfield 236, 3), (196, .iload_n 1, 1), (197, .aload_n 0, 1), (198, .getfield 47, 3), (201, .iload_n 1, 1), (202, .iaload, 1), (203, .iastore, 1), (204, .iinc 1 1, 3), (207, .goto (-20), 3), (210, .iconst 0, 1), (211, .istore_n 1, 1), (212, .iload_n 1, 1), (213, .iconst 5, 1), (214, .if_icmp .ge 33, 3), (217, .aload_n 0, 1), (218, .getfield 239, 3), (221, .iload_n 1, 1), (222, .aload_n 0, 1), (223, .getfield 160, 3), (226, .iload_n 1, 1), (227, .iaload, 1), (228, .iastore, 1), (229, .aload_n 0, 1), (230, .getfield 242, 3), (233, .iload_n 1, 1), (234, .aload_n 0, 1), (235, .getfield 163, 3), (238, .iload_n 1, 1), (239, .iaload, 1), (240, .iastore, 1), (241, .iinc 1 1, 3), (244, .goto (-32), 3), (247, .iconst 0, 1), (248, .istore_n 1, 1), (249, .iload_n 1, 1), (250, .bipush 10, 2), (252, .if_icmp .ge 33, 3), (255, .aload_n 0, 1), (256, .getfield 245, 3)]
set_option maxRecDepth 20000 in
theorem DX7_image_2 : lX7_image_2.all (dq cX7_image) = true := by decide +kernel
def lX7_image_3 : List (Nat × Instr × Nat) := [(259, .iload_n 1, 1), (260, .aload_n 0, 1), (261, .getfield 172, 3), (264, .iload_n 1, 1), (265, .iaload, 1), (266, .iastore, 1), (267, .aload_n 0, 1), (268, .getfield 248, 3), (271, .iload_n 1, 1), (272, .aload_n 0, 1), (273, .getfield 175, 3), (276, .iload_n 1, 1), (277, .iaload, 1), (278, .iastore, 1), (279, .iinc 1 1, 3), (282, .goto (-33), 3), (285, .iconst 0, 1), (286, .istore_n 1, 1), (287, .iload_n 1, 1), (288, .bipush 8, 2), (290, .if_icmp .ge 33, 3), (293, .aload_n 0, 1), (294, .getfield 251, 3), (297, .iload_n 1, 1), (298, .aload_n 0, 1), (299, .getfield 178, 3), (302, .iload_n 1, 1), (303, .iaload, 1), (304, .iastore, 1), (305, .aload_n 0, 1), (306, .getfield 254, 3), (309, .iload_n 1, 1), (310, .aload_n 0, 1), (311, .getfield 181, 3), (314, .iload_n 1, 1), (315, .iaload, 1), (316, .iastore, 1), (317, .iinc 1 1, 3), (320, .goto (-33), 3), (323, .aload_n 0, 1), (324, .getfield 7, 3), (327, .ireturn, 1)]
set_option maxRecDepth 20000 in
theorem DX7_image_3 : lX7_image_3.all (dq cX7_image) = true := by decide +kernel
def lX7_undo_0 : List (Nat × Instr × Nat) := [(0, .aload_n 0, 1), (1, .getfield 184, 3), (4, .ifCond .ne 6, 3), (7, .bipush (-3), 2), (9, .ireturn, 1), (10, .aload_n 0, 1), (11, .aload_n 0, 1), (12, .getfield 188, 3), (15, .putfield 53, 3), (18, .aload_n 0, 1), (19, .aload_n 0, 1), (20, .getfield 191, 3), (23, .putfield 7, 3), (26, .aload_n 0, 1), (27, .aload_n 0, 1), (28, .getfield 194, 3), (31, .putfield 13, 3), (34, .aload_n 0, 1), (35, .aload_n 0, 1), (36, .getfield 197, 3), (39, .putfield 16, 3), (42, .aload_n 0, 1), (43, .aload_n 0, 1), (44, .getfield 200, 3), (47, .putfield 19, 3), (50, .aload_n 0, 1), (51, .aload_n 0, 1), (52, .getfield 203, 3), (55, .putfield 22, 3), (58, .aload_n 0, 1), (59, .aload_n 0, 1), (60, .getfield 206, 3), (63, .putfield 25, 3), (66, .aload_n 0, 1), (67, .aload_n 0, 1), (68, .getfield 209, 3), (71, .putfield 157, 3), (74, .aload_n 0, 1), (75, .aload_n 0, 1), (76, .getfield 212, 3), (79, .putfield 166, 3), (82, .aload_n 0, 1), (83, .aload_n 0, 1), (84, .getfield 215, 3), (87, .putfield 169, 3), (90, .iconst 0, 1), (91, .istore_n 1, 1), (92, .iload_n 1, 1), (93, .bipush 6, 2), (95, .if_icmp .ge 69, 3)]
set_option maxRecDepth 20000 in
theorem DX7_undo_0 : lX7_undo_0.all (dq cX7_undo) = true := by decide +kernel
def lX7_undo_1 : List (Nat × Instr × Nat) := [(98, .aload_n 0, 1), (99, .getfield 28, 3), (102, .iload_n 1, 1), (103, .aload_n 0, 1), (104, .getfield 218, 3), (107, .iload_n 1, 1), (108, .iaload, 1), (109, .iastore, 1), (110, .aload_n 0, 1), (111, .getfield 32, 3), (114, .iload_n 1, 1), (115, .aload_n 0, 1), (116, .getfield 221, 3), (119, .iload_n 1, 1), (120, .iaload, 1), (121, .iastore, 1), (122, .aload_n 0, 1), (123, .getfield 35, 3), (126, .iload_n 1, 1), (127, .aload_n 0, 1), (128, .getfield 224, 3), (131, .iload_n 1, 1), (132, .iaload, 1), (133, .iastore, 1), (134, .aload_n 0, 1), (135, .getfield 38, 3), (138, .iload_n 1, 1), (139, .aload_n 0, 1), (140, .getfield 227, 3), (143, .iload_n 1, 1), (144, .iaload, 1), (145, .iastore, 1), (146, .aload_n 0, 1), (147, .getfield 41, 3), (150, .iload_n 1, 1), (151, .aload_n 0, 1), (152, .getfield 230, 3), (155, .iload_n 1, 1), (156, .iaload, 1), (157, .iastore, 1), (158, .iinc 1 1, 3), (161, .goto (-69), 3), (164, .iconst 0, 1), (165, .istore_n 1, 1), (166, .iload_n 1, 1), (167, .bipush 24, 2), (169, .if_icmp .ge 21, 3), (172, .aload_n 0, 1), (173, .getfield 44, 3), (176, .iload_n 1, 1)]
set_option maxRecDepth 20000 in
theorem DX7_undo_1 : lX7_undo_1.all (dq cX7_undo) = true := by decide +kernel
def lX7_undo_2 : List (Nat × Instr × Nat) := [(177, .aload_n 0, 1), (178, .getfield 233, 3), (181, .iload_n 1, 1), (182, .iaload, 1), (183, .iastore, 1), (184, .iinc 1 1, 3), (187, .goto (-21), 3), (190, .iconst 0, 1), (191, .istore_n 1, 1), (192, .iload_n 1, 1), (193, .iconst 3, 1), (194, .if_icmp .ge 21, 3), (197, .aload_n 0, 1), (198, .getfield 47, 3), (201, .iload_n 1, 1), (202, .aload_n 0, 1), (203, .getfield 236, 3), (206, .iload_n 1, 1), (207, .iaload, 1), (208, .iastore, 1), (209, .iinc 1 1, 3), (212, .goto (-20), 3), (215, .iconst 0, 1), (216, .istore_n 1, 1), (217, .iload_n 1, 1), (218, .iconst 5, 1), (219, .if_icmp .ge 33, 3), (222, .aload_n 0, 1), (223, .getfield 160, 3), (226, .iload_n 1, 1), (227, .aload_n 0, 1), (228, .getfield 239, 3), (231, .iload_n 1, 1), (232, .iaload, 1), (233, .iastore, 1), (234, .aload_n 0, 1), (235, .getfield 163, 3), (238, .iload_n 1, 1), (239, .aload_n 0, 1), (240, .getfield 242, 3), (243, .iload_n 1, 1), (244, .iaload, 1), (245, .iastore, 1), (246, .iinc 1 1, 3), (249, .goto (-32), 3), (252, .iconst 0, 1), (253, .istore_n 1, 1), (254, .iload_n 1, 1), (255, .bipush 10, 2), (257, .if_icmp .ge 33, 3)]
set_option maxRecDepth 20000 in
theorem DX7_undo_2 : lX7_undo_2.all (dq cX7_undo) = true := by decide +kernel
def lX7_undo_3 : List (Nat × Instr × Nat) := [(260, .aload_n 0, 1), (261, .getfield 172, 3), (264, .iload_n 1, 1), (265, .aload_n 0, 1), (266, .getfield 245, 3), (269, .iload_n 1, 1), (270, .iaload, 1), (271, .iastore, 1), (272, .aload_n 0, 1), (273, .getfield 175, 3), (276, .iload_n 1, 1), (277, .aload_n 0, 1), (278, .getfield 248, 3), (281, .iload_n 1, 1), (282, .iaload, 1), (283, .iastore, 1), (284, .iinc 1 1, 3), (287, .goto (-33), 3), (290, .iconst 0, 1), (291, .istore_n 1, 1), (292, .iload_n 1, 1), (293, .bipush 8, 2), (295, .if_icmp .ge 33, 3), (298, .aload_n 0, 1), (299, .getfield 178, 3), (302, .iload_n 1, 1), (303, .aload_n 0, 1), (304, .getfield 251, 3), (307, .iload_n 1, 1), (308, .iaload, 1), (309, .iastore, 1), (310, .aload_n 0, 1), (311, .getfield 181, 3), (314, .iload_n 1, 1), (315, .aload_n 0, 1), (316, .getfield 254, 3), (319, .iload_n 1, 1), (320, .iaload, 1), (321, .iastore, 1), (322, .iinc 1 1, 3), (325, .goto (-33), 3), (328, .aload_n 0, 1), (329, .getfield 7, 3), (332, .ireturn, 1)]
set_option maxRecDepth 20000 in
theorem DX7_undo_3 : lX7_undo_3.all (dq cX7_undo) = true := by decide +kernel
def lX7_body_0 : List (Nat × Instr × Nat) := [(0, .aload_n 0, 1), (1, .getfield 257, 3), (4, .bipush 20, 2), (6, .if_icmp .ge 13, 3), (9, .aload_n 0, 1), (10, .getfield 260, 3), (13, .aload_n 0, 1), (14, .getfield 257, 3), (17, .iload_n 1, 1), (18, .iastore, 1), (19, .aload_n 0, 1), (20, .dup, 1), (21, .getfield 257, 3), (24, .iconst 1, 1), (25, .iadd, 1), (26, .putfield 257, 3), (29, .return_, 1)]
set_option maxRecDepth 20000 in
theorem DX7_body_0 : lX7_body_0.all (dq cX7_body) = true := by decide +kernel
def lX7_pieceBends_0 : List (Nat × Instr × Nat) := [(0, .aload_n 0, 1), (1, .bipush 10, 2), (3, .invokevirtual 443, 3), (6, .iload_n 2, 1), (7, .iload_n 1, 1), (8, .iadd, 1), (9, .ireturn, 1)]
set_option maxRecDepth 20000 in
theorem DX7_pieceBends_0 : lX7_pieceBends_0.all (dq cX7_pieceBends) = true := by decide +kernel
def lX7_bendsAct_0 : List (Nat × Instr × Nat) := [(0, .aload_n 0, 1), (1, .getfield 28, 3), (4, .iload_n 1, 1), (5, .iaload, 1), (6, .tableswitch 83 2 6 #[34, 83, 49, 34, 63], 34), (40, .aload_n 0, 1), (41, .bipush 30, 2), (43, .invokevirtual 443, 3), (46, .aload_n 0, 1), (47, .iload_n 1, 1), (48, .iload_n 2, 1), (49, .iconst 3, 1), (50, .imul, 1), (51, .invokevirtual 446, 3), (54, .ireturn, 1), (55, .aload_n 0, 1), (56, .bipush 50, 2), (58, .invokevirtual 443, 3), (61, .aload_n 0, 1), (62, .iload_n 1, 1), (63, .iload_n 2, 1), (64, .invokevirtual 446, 3), (67, .ineg, 1), (68, .ireturn, 1), (69, .aload_n 0, 1), (70, .bipush 71, 2), (72, .invokevirtual 443, 3), (75, .aload_n 0, 1), (76, .iload_n 1, 1), (77, .iload_n 2, 1), (78, .invokevirtual 446, 3), (81, .aload_n 0, 1), (82, .getfield 32, 3), (85, .iload_n 1, 1), (86, .iaload, 1), (87, .ixor, 1), (88, .ireturn, 1), (89, .aload_n 0, 1), (90, .iload_n 1, 1), (91, .iload_n 2, 1), (92, .invokevirtual 446, 3), (95, .ireturn, 1)]
set_option maxRecDepth 20000 in
theorem DX7_bendsAct_0 : lX7_bendsAct_0.all (dq cX7_bendsAct) = true := by decide +kernel
def lX7_pieceHolds_0 : List (Nat × Instr × Nat) := [(0, .aload_n 0, 1), (1, .bipush 11, 2), (3, .invokevirtual 443, 3), (6, .aload_n 0, 1), (7, .iload_n 1, 1), (8, .iload_n 2, 1), (9, .invokevirtual 449, 3), (12, .aload_n 0, 1), (13, .getfield 32, 3), (16, .iload_n 1, 1), (17, .iaload, 1), (18, .isub, 1), (19, .ireturn, 1)]
set_option maxRecDepth 20000 in
theorem DX7_pieceHolds_0 : lX7_pieceHolds_0.all (dq cX7_pieceHolds) = true := by decide +kernel
def lX7_oarHolds_0 : List (Nat × Instr × Nat) := [(0, .aload_n 0, 1), (1, .bipush 20, 2), (3, .invokevirtual 443, 3), (6, .aload_n 0, 1), (7, .iload_n 1, 1), (8, .iload_n 2, 1), (9, .invokevirtual 452, 3), (12, .bipush 6, 2), (14, .ixor, 1), (15, .ireturn, 1)]
set_option maxRecDepth 20000 in
theorem DX7_oarHolds_0 : lX7_oarHolds_0.all (dq cX7_oarHolds) = true := by decide +kernel
def lX7_holdsAct_0 : List (Nat × Instr × Nat) := [(0, .aload_n 0, 1), (1, .getfield 28, 3), (4, .iload_n 1, 1), (5, .iaload, 1), (6, .lookupswitch 78 #[(1, 34), (4, 41), (6, 56)], 34), (40, .aload_n 0, 1), (41, .iload_n 1, 1), (42, .iload_n 2, 1), (43, .invokevirtual 455, 3), (46, .ireturn, 1), (47, .aload_n 0, 1), (48, .bipush 51, 2), (50, .invokevirtual 443, 3), (53, .aload_n 0, 1), (54, .iload_n 1, 1), (55, .iload_n 2, 1), (56, .iconst 1, 1), (57, .iadd, 1), (58, .invokevirtual 455, 3), (61, .ireturn, 1), (62, .aload_n 0, 1), (63, .bipush 70, 2), (65, .invokevirtual 443, 3), (68, .aload_n 0, 1), (69, .iload_n 1, 1), (70, .iload_n 2, 1), (71, .invokevirtual 452, 3), (74, .istore_n 3, 1), (75, .iload_n 3, 1), (76, .aload_n 0, 1), (77, .iload_n 1, 1), (78, .iconst 2, 1), (79, .invokevirtual 446, 3), (82, .iadd, 1), (83, .ireturn, 1), (84, .aload_n 0, 1), (85, .iload_n 1, 1), (86, .iload_n 2, 1), (87, .invokevirtual 452, 3), (90, .ireturn, 1)]
set_option maxRecDepth 20000 in
theorem DX7_holdsAct_0 : lX7_holdsAct_0.all (dq cX7_holdsAct) = true := by decide +kernel
def lX7_pieceTells_0 : List (Nat × Instr × Nat) := [(0, .aload_n 0, 1), (1, .bipush 12, 2), (3, .invokevirtual 443, 3), (6, .aload_n 0, 1), (7, .iload_n 1, 1), (8, .iload_n 2, 1), (9, .invokevirtual 458, 3), (12, .iconst 2, 1), (13, .imul, 1), (14, .ireturn, 1)]
set_option maxRecDepth 20000 in
theorem DX7_pieceTells_0 : lX7_pieceTells_0.all (dq cX7_pieceTells) = true := by decide +kernel
def lX7_tellsAct_0 : List (Nat × Instr × Nat) := [(0, .aload_n 0, 1), (1, .getfield 28, 3), (4, .iload_n 1, 1), (5, .iaload, 1), (6, .tableswitch 67 3 6 #[30, 67, 52, 30], 30), (36, .aload_n 0, 1), (37, .bipush 40, 2), (39, .invokevirtual 443, 3), (42, .aload_n 0, 1), (43, .iload_n 1, 1), (44, .iload_n 2, 1), (45, .invokevirtual 461, 3), (48, .istore_n 3, 1), (49, .iload_n 3, 1), (50, .aload_n 0, 1), (51, .iload_n 1, 1), (52, .iconst 1, 1), (53, .invokevirtual 458, 3), (56, .iadd, 1), (57, .ireturn, 1), (58, .aload_n 0, 1), (59, .bipush 60, 2), (61, .invokevirtual 443, 3), (64, .aload_n 0, 1), (65, .iload_n 1, 1), (66, .iload_n 2, 1), (67, .iload_n 1, 1), (68, .isub, 1), (69, .invokevirtual 461, 3), (72, .ireturn, 1), (73, .aload_n 0, 1), (74, .iload_n 1, 1), (75, .iload_n 2, 1), (76, .invokevirtual 461, 3), (79, .ireturn, 1)]
set_option maxRecDepth 20000 in
theorem DX7_tellsAct_0 : lX7_tellsAct_0.all (dq cX7_tellsAct) = true := by decide +kernel
def lX7_act_0 : List (Nat × Instr × Nat) := [(0, .aload_n 0, 1), (1, .iconst 0, 1), (2, .putfield 257, 3), (5, .aload_n 0, 1), (6, .iload_n 1, 1), (7, .invokevirtual 280, 3), (10, .ifCond .eq 13, 3), (13, .aload_n 0, 1), (14, .iload_n 2, 1), (15, .iconst 0, 1), (16, .iconst 2, 1), (17, .invokevirtual 276, 3), (20, .ifCond .ne 5, 3), (23, .iconst 0, 1), (24, .ireturn, 1), (25, .iload_n 2, 1), (26, .ifCond .ne 12, 3), (29, .aload_n 0, 1), (30, .iload_n 1, 1), (31, .iload_n 3, 1), (32, .invokevirtual 449, 3), (35, .goto 23, 3), (38, .iload_n 2, 1), (39, .iconst 1, 1), (40, .if_icmp .ne 12, 3), (43, .aload_n 0, 1), (44, .iload_n 1, 1), (45, .iload_n 3, 1), (46, .invokevirtual 458, 3), (49, .goto 9, 3), (52, .aload_n 0, 1), (53, .iload_n 1, 1), (54, .iload_n 3, 1), (55, .invokevirtual 464, 3), (58, .ireturn, 1)]
set_option maxRecDepth 20000 in
theorem DX7_act_0 : lX7_act_0.all (dq cX7_act) = true := by decide +kernel
def lX7_trace_0 : List (Nat × Instr × Nat) := [(0, .aload_n 0, 1), (1, .iload_n 1, 1), (2, .iconst 0, 1), (3, .bipush 19, 2), (5, .invokevirtual 276, 3), (8, .ifCond .eq 20, 3), (11, .iload_n 1, 1), (12, .aload_n 0, 1), (13, .getfield 257, 3), (16, .if_icmp .ge 12, 3), (19, .aload_n 0, 1), (20, .getfield 260, 3), (23, .iload_n 1, 1), (24, .iaload, 1), (25, .goto 4, 3), (28, .iconst (-1), 1), (29, .ireturn, 1)]
set_option maxRecDepth 20000 in
theorem DX7_trace_0 : lX7_trace_0.all (dq cX7_trace) = true := by decide +kernel
def lX7_taken_0 : List (Nat × Instr × Nat) := [(0, .aload_n 0, 1), (1, .iload_n 2, 1), (2, .iconst 0, 1), (3, .bipush 6, 2), (5, .invokevirtual 276, 3), (8, .ifCond .ne 6, 3), (11, .bipush (-2), 2), (13, .ireturn, 1), (14, .aload_n 0, 1), (15, .iload_n 1, 1), (16, .invokevirtual 280, 3), (19, .ifCond .ne 6, 3), (22, .bipush (-11), 2), (24, .ireturn, 1), (25, .aload_n 0, 1), (26, .getfield 28, 3), (29, .iload_n 1, 1), (30, .iaload, 1), (31, .istore_n 3, 1), (32, .iload_n 2, 1), (33, .ifCond .eq 39, 3), (36, .iload_n 3, 1), (37, .iload_n 2, 1), (38, .if_icmp .eq 34, 3), (41, .iload_n 2, 1), (42, .iconst 1, 1), (43, .if_icmp .ne 8, 3), (46, .iload_n 3, 1), (47, .iconst 4, 1), (48, .if_icmp .eq 24, 3), (51, .iload_n 2, 1), (52, .iconst 2, 1), (53, .if_icmp .ne 8, 3), (56, .iload_n 3, 1), (57, .iconst 5, 1), (58, .if_icmp .eq 14, 3), (61, .iload_n 2, 1), (62, .iconst 3, 1), (63, .if_icmp .ne 13, 3), (66, .iload_n 3, 1), (67, .bipush 6, 2), (69, .if_icmp .ne 7, 3), (72, .iload_n 3, 1), (73, .goto 5, 3), (76, .bipush (-12), 2), (78, .ireturn, 1)]
set_option maxRecDepth 20000 in
theorem DX7_taken_0 : lX7_taken_0.all (dq cX7_taken) = true := by decide +kernel
def lX7_count_0 : List (Nat × Instr × Nat) := [(0, .iload_n 1, 1), (1, .tableswitch 87 0 7 #[47, 52, 57, 62, 67, 72, 77, 82], 47), (48, .aload_n 0, 1), (49, .getfield 7, 3), (52, .ireturn, 1), (53, .aload_n 0, 1), (54, .getfield 50, 3), (57, .ireturn, 1), (58, .aload_n 0, 1), (59, .getfield 13, 3), (62, .ireturn, 1), (63, .aload_n 0, 1), (64, .getfield 157, 3), (67, .ireturn, 1), (68, .aload_n 0, 1), (69, .getfield 166, 3), (72, .ireturn, 1), (73, .aload_n 0, 1), (74, .getfield 169, 3), (77, .ireturn, 1), (78, .aload_n 0, 1), (79, .getfield 56, 3), (82, .ireturn, 1), (83, .aload_n 0, 1), (84, .getfield 257, 3), (87, .ireturn, 1), (88, .bipush (-2), 2), (90, .ireturn, 1)]
set_option maxRecDepth 20000 in
theorem DX7_count_0 : lX7_count_0.all (dq cX7_count) = true := by decide +kernel
def lX7_isTape_0 : List (Nat × Instr × Nat) := [(0, .aload_n 0, 1), (1, .iload_n 1, 1), (2, .iconst 0, 1), (3, .iconst 5, 1), (4, .invokevirtual 276, 3), (7, .ireturn, 1)]
set_option maxRecDepth 20000 in
theorem DX7_isTape_0 : lX7_isTape_0.all (dq cX7_isTape) = true := by decide +kernel
def lX7_tape_0 : List (Nat × Instr × Nat) := [(0, .aload_n 0, 1), (1, .iload_n 1, 1), (2, .invokevirtual 440, 3), (5, .ifCond .ne 5, 3), (8, .iconst (-1), 1), (9, .ireturn, 1), (10, .aload_n 0, 1), (11, .iload_n 2, 1), (12, .iconst (-1), 1), (13, .iconst 4, 1), (14, .invokevirtual 276, 3), (17, .ifCond .eq 13, 3), (20, .iload_n 2, 1), (21, .ifCond .lt 12, 3), (24, .iload_n 3, 1), (25, .bipush 60, 2), (27, .if_icmp .le 6, 3), (30, .bipush (-2), 2), (32, .ireturn, 1), (33, .iload_n 2, 1), (34, .ifCond .lt 10, 3), (37, .iload_n 3, 1), (38, .ifCond .ge 6, 3), (41, .bipush (-14), 2), (43, .ireturn, 1), (44, .aload_n 0, 1), (45, .getfield 263, 3), (48, .iload_n 1, 1), (49, .iload_n 2, 1), (50, .iastore, 1), (51, .aload_n 0, 1), (52, .getfield 266, 3), (55, .iload_n 1, 1), (56, .iload_n 2, 1), (57, .ifCond .ge 7, 3), (60, .iconst 0, 1), (61, .goto 4, 3), (64, .iload_n 3, 1), (65, .iastore, 1), (66, .iconst 0, 1), (67, .istore 4, 2), (69, .iload 4, 2), (71, .bipush 60, 2), (73, .if_icmp .ge 22, 3), (76, .aload_n 0, 1), (77, .getfield 269, 3), (80, .bipush 60, 2), (82, .iload_n 1, 1), (83, .imul, 1), (84, .iload 4, 2)]
set_option maxRecDepth 20000 in
theorem DX7_tape_0 : lX7_tape_0.all (dq cX7_tape) = true := by decide +kernel
def lX7_tape_1 : List (Nat × Instr × Nat) := [(86, .iadd, 1), (87, .lconst 0, 1), (88, .lastore, 1), (89, .iinc 4 1, 3), (92, .goto (-23), 3), (95, .iconst 1, 1), (96, .ireturn, 1)]
set_option maxRecDepth 20000 in
theorem DX7_tape_1 : lX7_tape_1.all (dq cX7_tape) = true := by decide +kernel
def lX7_narrow_0 : List (Nat × Instr × Nat) := [(0, .iload_n 1, 1), (1, .ifCond .ne 10, 3), (4, .lload_n 2, 1), (5, .l2i, 1), (6, .i2b, 1), (7, .i2l, 1), (8, .goto 46, 3), (11, .iload_n 1, 1), (12, .iconst 1, 1), (13, .if_icmp .ne 10, 3), (16, .lload_n 2, 1), (17, .l2i, 1), (18, .i2s, 1), (19, .i2l, 1), (20, .goto 34, 3), (23, .iload_n 1, 1), (24, .iconst 2, 1), (25, .if_icmp .ne 9, 3), (28, .lload_n 2, 1), (29, .l2i, 1), (30, .i2l, 1), (31, .goto 23, 3), (34, .iload_n 1, 1), (35, .iconst 4, 1), (36, .if_icmp .ne 17, 3), (39, .lload_n 2, 1), (40, .lconst 0, 1), (41, .lcmp, 1), (42, .ifCond .eq 7, 3), (45, .lconst 1, 1), (46, .goto 8, 3), (49, .lconst 0, 1), (50, .goto 4, 3), (53, .lload_n 2, 1), (54, .lreturn, 1)]
set_option maxRecDepth 20000 in
theorem DX7_narrow_0 : lX7_narrow_0.all (dq cX7_narrow) = true := by decide +kernel
def lX7_item_0 : List (Nat × Instr × Nat) := [(0, .aload_n 0, 1), (1, .iload_n 1, 1), (2, .invokevirtual 440, 3), (5, .ifCond .ne 5, 3), (8, .iconst (-1), 1), (9, .ireturn, 1), (10, .aload_n 0, 1), (11, .getfield 263, 3), (14, .iload_n 1, 1), (15, .iaload, 1), (16, .ifCond .ge 6, 3), (19, .bipush (-11), 2), (21, .ireturn, 1), (22, .aload_n 0, 1), (23, .iload_n 2, 1), (24, .iconst 0, 1), (25, .aload_n 0, 1), (26, .getfield 266, 3), (29, .iload_n 1, 1), (30, .iaload, 1), (31, .iconst 1, 1), (32, .isub, 1), (33, .invokevirtual 276, 3), (36, .ifCond .ne 6, 3), (39, .bipush (-13), 2), (41, .ireturn, 1), (42, .aload_n 0, 1), (43, .getfield 269, 3), (46, .bipush 60, 2), (48, .iload_n 1, 1), (49, .imul, 1), (50, .iload_n 2, 1), (51, .iadd, 1), (52, .aload_n 0, 1), (53, .aload_n 0, 1), (54, .getfield 263, 3), (57, .iload_n 1, 1), (58, .iaload, 1), (59, .lload_n 3, 1), (60, .invokevirtual 467, 3), (63, .lastore, 1), (64, .iconst 1, 1), (65, .ireturn, 1)]
set_option maxRecDepth 20000 in
theorem DX7_item_0 : lX7_item_0.all (dq cX7_item) = true := by decide +kernel
def lX7_read_0 : List (Nat × Instr × Nat) := [(0, .aload_n 0, 1), (1, .iload_n 1, 1), (2, .invokevirtual 440, 3), (5, .ifCond .eq 29, 3), (8, .aload_n 0, 1), (9, .getfield 263, 3), (12, .iload_n 1, 1), (13, .iaload, 1), (14, .ifCond .lt 20, 3), (17, .aload_n 0, 1), (18, .iload_n 2, 1), (19, .iconst 0, 1), (20, .aload_n 0, 1), (21, .getfield 266, 3), (24, .iload_n 1, 1), (25, .iaload, 1), (26, .iconst 1, 1), (27, .isub, 1), (28, .invokevirtual 276, 3), (31, .ifCond .ne 9, 3), (34, .ldc2_w 430, 3), (37, .goto 14, 3), (40, .aload_n 0, 1), (41, .getfield 269, 3), (44, .bipush 60, 2), (46, .iload_n 1, 1), (47, .imul, 1), (48, .iload_n 2, 1), (49, .iadd, 1), (50, .laload, 1), (51, .lreturn, 1)]
set_option maxRecDepth 20000 in
theorem DX7_read_0 : lX7_read_0.all (dq cX7_read) = true := by decide +kernel
def lX7_shift_0 : List (Nat × Instr × Nat) := [(0, .aload_n 0, 1), (1, .iload_n 1, 1), (2, .invokevirtual 440, 3), (5, .ifCond .eq 11, 3), (8, .aload_n 0, 1), (9, .iload_n 3, 1), (10, .invokevirtual 440, 3), (13, .ifCond .ne 5, 3), (16, .iconst (-1), 1), (17, .ireturn, 1), (18, .aload_n 0, 1), (19, .getfield 263, 3), (22, .iload_n 1, 1), (23, .iaload, 1), (24, .ifCond .lt 12, 3), (27, .aload_n 0, 1), (28, .getfield 263, 3), (31, .iload_n 3, 1), (32, .iaload, 1), (33, .ifCond .ge 6, 3), (36, .bipush (-11), 2), (38, .ireturn, 1), (39, .aload_n 0, 1), (40, .getfield 263, 3), (43, .iload_n 1, 1), (44, .iaload, 1), (45, .aload_n 0, 1), (46, .getfield 263, 3), (49, .iload_n 3, 1), (50, .iaload, 1), (51, .if_icmp .eq 6, 3), (54, .bipush (-12), 2), (56, .ireturn, 1), (57, .iload 5, 2), (59, .ifCond .lt 39, 3), (62, .iload_n 2, 1), (63, .ifCond .lt 35, 3), (66, .iload 4, 2), (68, .ifCond .lt 30, 3), (71, .iload_n 2, 1), (72, .aload_n 0, 1), (73, .getfield 266, 3), (76, .iload_n 1, 1), (77, .iaload, 1), (78, .iload 5, 2), (80, .isub, 1), (81, .if_icmp .gt 17, 3), (84, .iload 4, 2), (86, .aload_n 0, 1), (87, .getfield 266, 3)]
set_option maxRecDepth 20000 in
theorem DX7_shift_0 : lX7_shift_0.all (dq cX7_shift) = true := by decide +kernel
def lX7_shift_1 : List (Nat × Instr × Nat) := [(90, .iload_n 3, 1), (91, .iaload, 1), (92, .iload 5, 2), (94, .isub, 1), (95, .if_icmp .le 6, 3), (98, .bipush (-13), 2), (100, .ireturn, 1), (101, .iconst 0, 1), (102, .istore 6, 2), (104, .iload 6, 2), (106, .iload 5, 2), (108, .if_icmp .ge 30, 3), (111, .aload_n 0, 1), (112, .getfield 273, 3), (115, .iload 6, 2), (117, .aload_n 0, 1), (118, .getfield 269, 3), (121, .bipush 60, 2), (123, .iload_n 1, 1), (124, .imul, 1), (125, .iload_n 2, 1), (126, .iadd, 1), (127, .iload 6, 2), (129, .iadd, 1), (130, .laload, 1), (131, .lastore, 1), (132, .iinc 6 1, 3), (135, .goto (-31), 3), (138, .iconst 0, 1), (139, .istore 6, 2), (141, .iload 6, 2), (143, .iload 5, 2), (145, .if_icmp .ge 31, 3), (148, .aload_n 0, 1), (149, .getfield 269, 3), (152, .bipush 60, 2), (154, .iload_n 3, 1), (155, .imul, 1), (156, .iload 4, 2), (158, .iadd, 1), (159, .iload 6, 2), (161, .iadd, 1), (162, .aload_n 0, 1), (163, .getfield 273, 3), (166, .iload 6, 2), (168, .laload, 1), (169, .lastore, 1), (170, .iinc 6 1, 3), (173, .goto (-32), 3), (176, .iload 5, 2)]
set_option maxRecDepth 20000 in
theorem DX7_shift_1 : lX7_shift_1.all (dq cX7_shift) = true := by decide +kernel
def lX7_shift_2 : List (Nat × Instr × Nat) := [(178, .ireturn, 1)]
set_option maxRecDepth 20000 in
theorem DX7_shift_2 : lX7_shift_2.all (dq cX7_shift) = true := by decide +kernel
def lJ11_isValidCodePoint_9a6ad_0 : List (Nat × Instr × Nat) := [(0, .iload_n 0, 1), (1, .bipush 16, 2), (3, .iushr, 1), (4, .istore_n 1, 1), (5, .iload_n 1, 1), (6, .bipush 17, 2), (8, .if_icmp .ge 7, 3), (11, .iconst 1, 1), (12, .goto 4, 3), (15, .iconst 0, 1), (16, .ireturn, 1)]
set_option maxRecDepth 20000 in
theorem DJ11_isValidCodePoint_9a6ad_0 : lJ11_isValidCodePoint_9a6ad_0.all (dq cJ11_isValidCodePoint_9a6ad) = true := by decide +kernel
def lJ11_highSurrogate_5068e_0 : List (Nat × Instr × Nat) := [(0, .iload_n 0, 1), (1, .bipush 10, 2), (3, .iushr, 1), (4, .ldc 110, 2), (6, .iadd, 1), (7, .i2c, 1), (8, .ireturn, 1)]
set_option maxRecDepth 20000 in
theorem DJ11_highSurrogate_5068e_0 : lJ11_highSurrogate_5068e_0.all (dq cJ11_highSurrogate_5068e) = true := by decide +kernel
def lJ11_lowSurrogate_5068e_0 : List (Nat × Instr × Nat) := [(0, .iload_n 0, 1), (1, .sipush 1023, 3), (4, .iand, 1), (5, .ldc 76, 2), (7, .iadd, 1), (8, .i2c, 1), (9, .ireturn, 1)]
set_option maxRecDepth 20000 in
theorem DJ11_lowSurrogate_5068e_0 : lJ11_lowSurrogate_5068e_0.all (dq cJ11_lowSurrogate_5068e) = true := by decide +kernel
def lJ9_max_7cf53_0 : List (Nat × Instr × Nat) := [(0, .iload_n 0, 1), (1, .iload_n 1, 1), (2, .if_icmp .lt 7, 3), (5, .iload_n 0, 1), (6, .goto 4, 3), (9, .iload_n 1, 1), (10, .ireturn, 1)]
set_option maxRecDepth 20000 in
theorem DJ9_max_7cf53_0 : lJ9_max_7cf53_0.all (dq cJ9_max_7cf53) = true := by decide +kernel
def lJ9_min_7cf53_0 : List (Nat × Instr × Nat) := [(0, .iload_n 0, 1), (1, .iload_n 1, 1), (2, .if_icmp .gt 7, 3), (5, .iload_n 0, 1), (6, .goto 4, 3), (9, .iload_n 1, 1), (10, .ireturn, 1)]
set_option maxRecDepth 20000 in
theorem DJ9_min_7cf53_0 : lJ9_min_7cf53_0.all (dq cJ9_min_7cf53) = true := by decide +kernel
def lJ0_length_8abf5_0 : List (Nat × Instr × Nat) := [(0, .aload_n 0, 1), (1, .getfield 9, 3), (4, .arraylength, 1), (5, .aload_n 0, 1), (6, .invokevirtual 335, 3), (9, .ishr, 1), (10, .ireturn, 1)]
set_option maxRecDepth 20000 in
theorem DJ0_length_8abf5_0 : lJ0_length_8abf5_0.all (dq cJ0_length_8abf5) = true := by decide +kernel
def lJ0_charAt_5068e_0 : List (Nat × Instr × Nat) := [(0, .aload_n 0, 1), (1, .invokevirtual 492, 3), (4, .ifCond .eq 12, 3), (7, .aload_n 0, 1), (8, .getfield 9, 3), (11, .iload_n 1, 1), (12, .invokestatic 495, 3), (15, .ireturn, 1), (16, .aload_n 0, 1), (17, .getfield 9, 3), (20, .iload_n 1, 1), (21, .invokestatic 498, 3), (24, .ireturn, 1)]
set_option maxRecDepth 20000 in
theorem DJ0_charAt_5068e_0 : lJ0_charAt_5068e_0.all (dq cJ0_charAt_5068e) = true := by decide +kernel
def lJ0_indexOf_0f7a4_0 : List (Nat × Instr × Nat) := [(0, .aload_n 0, 1), (1, .iload_n 1, 1), (2, .iconst 0, 1), (3, .invokevirtual 633, 3), (6, .ireturn, 1)]
set_option maxRecDepth 20000 in
theorem DJ0_indexOf_0f7a4_0 : lJ0_indexOf_0f7a4_0.all (dq cJ0_indexOf_0f7a4) = true := by decide +kernel
def lJ0_indexOf_7cf53_0 : List (Nat × Instr × Nat) := [(0, .aload_n 0, 1), (1, .invokevirtual 492, 3), (4, .ifCond .eq 19, 3), (7, .aload_n 0, 1), (8, .getfield 9, 3), (11, .iload_n 1, 1), (12, .iload_n 2, 1), (13, .aload_n 0, 1), (14, .invokevirtual 505, 3), (17, .invokestatic 637, 3), (20, .goto 16, 3), (23, .aload_n 0, 1), (24, .getfield 9, 3), (27, .iload_n 1, 1), (28, .iload_n 2, 1), (29, .aload_n 0, 1), (30, .invokevirtual 505, 3), (33, .invokestatic 640, 3), (36, .ireturn, 1)]
set_option maxRecDepth 20000 in
theorem DJ0_indexOf_7cf53_0 : lJ0_indexOf_7cf53_0.all (dq cJ0_indexOf_7cf53) = true := by decide +kernel
def lJ0_coder_7d493_0 : List (Nat × Instr × Nat) := [(0, .getstatic 38, 3), (3, .ifCond .eq 10, 3), (6, .aload_n 0, 1), (7, .getfield 15, 3), (10, .goto 4, 3), (13, .iconst 1, 1), (14, .ireturn, 1)]
set_option maxRecDepth 20000 in
theorem DJ0_coder_7d493_0 : lJ0_coder_7d493_0.all (dq cJ0_coder_7d493) = true := by decide +kernel
def lJ0_isLatin1_aae02_0 : List (Nat × Instr × Nat) := [(0, .getstatic 38, 3), (3, .ifCond .eq 14, 3), (6, .aload_n 0, 1), (7, .getfield 15, 3), (10, .ifCond .ne 7, 3), (13, .iconst 1, 1), (14, .goto 4, 3), (17, .iconst 0, 1), (18, .ireturn, 1)]
set_option maxRecDepth 20000 in
theorem DJ0_isLatin1_aae02_0 : lJ0_isLatin1_aae02_0.all (dq cJ0_isLatin1_aae02) = true := by decide +kernel
def lJ0_checkIndex_df160_0 : List (Nat × Instr × Nat) := [(0, .iload_n 0, 1), (1, .iload_n 1, 1), (2, .getstatic 1053, 3), (5, .invokestatic 1059, 3), (8, .pop, 1), (9, .return_, 1)]
set_option maxRecDepth 20000 in
theorem DJ0_checkIndex_df160_0 : lJ0_checkIndex_df160_0.all (dq cJ0_checkIndex_df160) = true := by decide +kernel
def lJ0_checkBoundsBeginEnd_23922_0 : List (Nat × Instr × Nat) := [(0, .iload_n 0, 1), (1, .iload_n 1, 1), (2, .iload_n 2, 1), (3, .getstatic 1053, 3), (6, .invokestatic 1062, 3), (9, .pop, 1), (10, .return_, 1)]
set_option maxRecDepth 20000 in
theorem DJ0_checkBoundsBeginEnd_23922_0 : lJ0_checkBoundsBeginEnd_23922_0.all (dq cJ0_checkBoundsBeginEnd_23922) = true := by decide +kernel
def lJ1_charAt_3b067_0 : List (Nat × Instr × Nat) := [(0, .iload_n 1, 1), (1, .aload_n 0, 1), (2, .arraylength, 1), (3, .invokestatic 9, 3), (6, .aload_n 0, 1), (7, .iload_n 1, 1), (8, .baload, 1), (9, .sipush 255, 3), (12, .iand, 1), (13, .i2c, 1), (14, .ireturn, 1)]
set_option maxRecDepth 20000 in
theorem DJ1_charAt_3b067_0 : lJ1_charAt_3b067_0.all (dq cJ1_charAt_3b067) = true := by decide +kernel
def lJ1_canEncode_9a6ad_0 : List (Nat × Instr × Nat) := [(0, .iload_n 0, 1), (1, .ifCond .lt 14, 3), (4, .iload_n 0, 1), (5, .sipush 255, 3), (8, .if_icmp .gt 7, 3), (11, .iconst 1, 1), (12, .goto 4, 3), (15, .iconst 0, 1), (16, .ireturn, 1)]
set_option maxRecDepth 20000 in
theorem DJ1_canEncode_9a6ad_0 : lJ1_canEncode_9a6ad_0.all (dq cJ1_canEncode_9a6ad) = true := by decide +kernel
def lJ1_indexOf_4cfef_0 : List (Nat × Instr × Nat) := [(0, .iload_n 1, 1), (1, .invokestatic 88, 3), (4, .ifCond .ne 5, 3), (7, .iconst (-1), 1), (8, .ireturn, 1), (9, .iload_n 2, 1), (10, .iconst 0, 1), (11, .invokestatic 92, 3), (14, .istore_n 2, 1), (15, .iload_n 3, 1), (16, .aload_n 0, 1), (17, .arraylength, 1), (18, .invokestatic 38, 3), (21, .istore_n 3, 1), (22, .iload_n 2, 1), (23, .iload_n 3, 1), (24, .if_icmp .lt 5, 3), (27, .iconst (-1), 1), (28, .ireturn, 1), (29, .aload_n 0, 1), (30, .iload_n 1, 1), (31, .iload_n 2, 1), (32, .iload_n 3, 1), (33, .invokestatic 95, 3), (36, .ireturn, 1)]
set_option maxRecDepth 20000 in
theorem DJ1_indexOf_4cfef_0 : lJ1_indexOf_4cfef_0.all (dq cJ1_indexOf_4cfef) = true := by decide +kernel
def lJ1_indexOfChar_4cfef_0 : List (Nat × Instr × Nat) := [(0, .iload_n 1, 1), (1, .i2b, 1), (2, .istore 4, 2), (4, .iload_n 2, 1), (5, .istore 5, 2), (7, .iload 5, 2), (9, .iload_n 3, 1), (10, .if_icmp .ge 21, 3), (13, .aload_n 0, 1), (14, .iload 5, 2), (16, .baload, 1), (17, .iload 4, 2), (19, .if_icmp .ne 6, 3), (22, .iload 5, 2), (24, .ireturn, 1), (25, .iinc 5 1, 3), (28, .goto (-21), 3), (31, .iconst (-1), 1), (32, .ireturn, 1)]
set_option maxRecDepth 20000 in
theorem DJ1_indexOfChar_4cfef_0 : lJ1_indexOfChar_4cfef_0.all (dq cJ1_indexOfChar_4cfef) = true := by decide +kernel
def lJ2_getChar_3b067_0 : List (Nat × Instr × Nat) := [(0, .getstatic 44, 3), (3, .ifCond .ne 25, 3), (6, .iload_n 1, 1), (7, .ifCond .lt 11, 3), (10, .iload_n 1, 1), (11, .aload_n 0, 1), (12, .invokestatic 48, 3), (15, .if_icmp .lt 13, 3), (18, .new 52, 3), (21, .dup, 1), (22, .ldc 54, 2), (24, .invokespecial 56, 3), (27, .athrow, 1), (28, .iload_n 1, 1), (29, .iconst 1, 1), (30, .ishl, 1), (31, .istore_n 1, 1), (32, .aload_n 0, 1), (33, .iload_n 1, 1), (34, .iinc 1 1, 3), (37, .baload, 1), (38, .sipush 255, 3), (41, .iand, 1), (42, .getstatic 59, 3), (45, .ishl, 1), (46, .aload_n 0, 1), (47, .iload_n 1, 1), (48, .baload, 1), (49, .sipush 255, 3), (52, .iand, 1), (53, .getstatic 63, 3), (56, .ishl, 1), (57, .ior, 1), (58, .i2c, 1), (59, .ireturn, 1)]
set_option maxRecDepth 20000 in
theorem DJ2_getChar_3b067_0 : lJ2_getChar_3b067_0.all (dq cJ2_getChar_3b067) = true := by decide +kernel
def lJ2_length_9d52b_0 : List (Nat × Instr × Nat) := [(0, .aload_n 0, 1), (1, .arraylength, 1), (2, .iconst 1, 1), (3, .ishr, 1), (4, .ireturn, 1)]
set_option maxRecDepth 20000 in
theorem DJ2_length_9d52b_0 : lJ2_length_9d52b_0.all (dq cJ2_length_9d52b) = true := by decide +kernel
def lJ2_indexOf_4cfef_0 : List (Nat × Instr × Nat) := [(0, .iload_n 2, 1), (1, .iconst 0, 1), (2, .invokestatic 224, 3), (5, .istore_n 2, 1), (6, .iload_n 3, 1), (7, .aload_n 0, 1), (8, .arraylength, 1), (9, .iconst 1, 1), (10, .ishr, 1), (11, .invokestatic 183, 3), (14, .istore_n 3, 1), (15, .iload_n 2, 1), (16, .iload_n 3, 1), (17, .if_icmp .lt 5, 3), (20, .iconst (-1), 1), (21, .ireturn, 1), (22, .iload_n 1, 1), (23, .ldc 227, 2), (25, .if_icmp .ge 11, 3), (28, .aload_n 0, 1), (29, .iload_n 1, 1), (30, .iload_n 2, 1), (31, .iload_n 3, 1), (32, .invokestatic 228, 3), (35, .ireturn, 1), (36, .aload_n 0, 1), (37, .iload_n 1, 1), (38, .iload_n 2, 1), (39, .iload_n 3, 1), (40, .invokestatic 232, 3), (43, .ireturn, 1)]
set_option maxRecDepth 20000 in
theorem DJ2_indexOf_4cfef_0 : lJ2_indexOf_4cfef_0.all (dq cJ2_indexOf_4cfef) = true := by decide +kernel
def lJ2_indexOfChar_4cfef_0 : List (Nat × Instr × Nat) := [(0, .iload_n 2, 1), (1, .iload_n 3, 1), (2, .aload_n 0, 1), (3, .invokestatic 96, 3), (6, .aload_n 0, 1), (7, .iload_n 1, 1), (8, .iload_n 2, 1), (9, .iload_n 3, 1), (10, .invokestatic 244, 3), (13, .ireturn, 1)]
set_option maxRecDepth 20000 in
theorem DJ2_indexOfChar_4cfef_0 : lJ2_indexOfChar_4cfef_0.all (dq cJ2_indexOfChar_4cfef) = true := by decide +kernel
def lJ2_indexOfCharUnsafe_4cfef_0 : List (Nat × Instr × Nat) := [(0, .iload_n 2, 1), (1, .istore 4, 2), (3, .iload 4, 2), (5, .iload_n 3, 1), (6, .if_icmp .ge 22, 3), (9, .aload_n 0, 1), (10, .iload 4, 2), (12, .invokestatic 71, 3), (15, .iload_n 1, 1), (16, .if_icmp .ne 6, 3), (19, .iload 4, 2), (21, .ireturn, 1), (22, .iinc 4 1, 3), (25, .goto (-22), 3), (28, .iconst (-1), 1), (29, .ireturn, 1)]
set_option maxRecDepth 20000 in
theorem DJ2_indexOfCharUnsafe_4cfef_0 : lJ2_indexOfCharUnsafe_4cfef_0.all (dq cJ2_indexOfCharUnsafe_4cfef) = true := by decide +kernel
def lJ2_indexOfSupplementary_4cfef_0 : List (Nat × Instr × Nat) := [(0, .iload_n 1, 1), (1, .invokestatic 164, 3), (4, .ifCond .eq 65, 3), (7, .iload_n 1, 1), (8, .invokestatic 157, 3), (11, .istore 4, 2), (13, .iload_n 1, 1), (14, .invokestatic 161, 3), (17, .istore 5, 2), (19, .iload_n 2, 1), (20, .iload_n 3, 1), (21, .aload_n 0, 1), (22, .invokestatic 96, 3), (25, .iload_n 2, 1), (26, .istore 6, 2), (28, .iload 6, 2), (30, .iload_n 3, 1), (31, .iconst 1, 1), (32, .isub, 1), (33, .if_icmp .ge 36, 3), (36, .aload_n 0, 1), (37, .iload 6, 2), (39, .invokestatic 71, 3), (42, .iload 4, 2), (44, .if_icmp .ne 19, 3), (47, .aload_n 0, 1), (48, .iload 6, 2), (50, .iconst 1, 1), (51, .iadd, 1), (52, .invokestatic 71, 3), (55, .iload 5, 2), (57, .if_icmp .ne 6, 3), (60, .iload 6, 2), (62, .ireturn, 1), (63, .iinc 6 1, 3), (66, .goto (-38), 3), (69, .iconst (-1), 1), (70, .ireturn, 1)]
set_option maxRecDepth 20000 in
theorem DJ2_indexOfSupplementary_4cfef_0 : lJ2_indexOfSupplementary_4cfef_0.all (dq cJ2_indexOfSupplementary_4cfef) = true := by decide +kernel
def lJ2_charAt_3b067_0 : List (Nat × Instr × Nat) := [(0, .iload_n 1, 1), (1, .aload_n 0, 1), (2, .invokestatic 67, 3), (5, .aload_n 0, 1), (6, .iload_n 1, 1), (7, .invokestatic 71, 3), (10, .ireturn, 1)]
set_option maxRecDepth 20000 in
theorem DJ2_charAt_3b067_0 : lJ2_charAt_3b067_0.all (dq cJ2_charAt_3b067) = true := by decide +kernel
def lJ2_checkIndex_2214a_0 : List (Nat × Instr × Nat) := [(0, .iload_n 0, 1), (1, .aload_n 1, 1), (2, .invokestatic 48, 3), (5, .invokestatic 414, 3), (8, .return_, 1)]
set_option maxRecDepth 20000 in
theorem DJ2_checkIndex_2214a_0 : lJ2_checkIndex_2214a_0.all (dq cJ2_checkIndex_2214a) = true := by decide +kernel
def lJ2_checkBoundsBeginEnd_d044e_0 : List (Nat × Instr × Nat) := [(0, .iload_n 0, 1), (1, .iload_n 1, 1), (2, .aload_n 2, 1), (3, .invokestatic 48, 3), (6, .invokestatic 241, 3), (9, .return_, 1)]
set_option maxRecDepth 20000 in
theorem DJ2_checkBoundsBeginEnd_d044e_0 : lJ2_checkBoundsBeginEnd_d044e_0.all (dq cJ2_checkBoundsBeginEnd_d044e) = true := by decide +kernel
def lJ3_checkIndex_8e157_0 : List (Nat × Instr × Nat) := [(0, .iload_n 0, 1), (1, .ifCond .lt 8, 3), (4, .iload_n 0, 1), (5, .iload_n 1, 1), (6, .if_icmp .lt 10, 3), (9, .aload_n 2, 1), (10, .iload_n 0, 1), (11, .iload_n 1, 1), (12, .invokestatic 95, 3), (15, .athrow, 1), (16, .iload_n 0, 1), (17, .ireturn, 1)]
set_option maxRecDepth 20000 in
theorem DJ3_checkIndex_8e157_0 : lJ3_checkIndex_8e157_0.all (dq cJ3_checkIndex_8e157) = true := by decide +kernel
def lJ3_checkFromToIndex_8c36e_0 : List (Nat × Instr × Nat) := [(0, .iload_n 0, 1), (1, .ifCond .lt 13, 3), (4, .iload_n 0, 1), (5, .iload_n 1, 1), (6, .if_icmp .gt 8, 3), (9, .iload_n 1, 1), (10, .iload_n 2, 1), (11, .if_icmp .le 11, 3), (14, .aload_n 3, 1), (15, .iload_n 0, 1), (16, .iload_n 1, 1), (17, .iload_n 2, 1), (18, .invokestatic 99, 3), (21, .athrow, 1), (22, .iload_n 0, 1), (23, .ireturn, 1)]
set_option maxRecDepth 20000 in
theorem DJ3_checkFromToIndex_8c36e_0 : lJ3_checkFromToIndex_8c36e_0.all (dq cJ3_checkFromToIndex_8c36e) = true := by decide +kernel
def lL_law_0 : List (Nat × Instr × Nat) := [(0, .new 7, 3), (3, .dup, 1), (4, .invokespecial 9, 3), (7, .astore_n 1, 1), (8, .new 10, 3), (11, .dup, 1), (12, .invokespecial 12, 3), (15, .astore_n 2, 1), (16, .iconst 0, 1), (17, .istore_n 3, 1), (18, .iload_n 3, 1), (19, .aload_n 0, 1), (20, .arraylength, 1), (21, .bipush 6, 2), (23, .isub, 1), (24, .if_icmp .gt 1329, 3), (27, .aload_n 0, 1), (28, .iload_n 3, 1), (29, .iaload, 1), (30, .bipush 63, 2), (32, .iand, 1), (33, .tableswitch 1314 0 37 #[167, 210, 243, 286, 329, 352, 375, 408, 431, 444, 467, 490, 523, 546, 569, 582, 605, 638, 661, 694, 727, 760, 794, 818, 851, 874, 907, 920, 953, 966, 979, 1022, 1045, 1078, 1101, 1144, 1217, 1251], 167), (200, .aload_n 1, 1), (201, .aload_n 0, 1), (202, .iload_n 3, 1), (203, .iconst 1, 1), (204, .iadd, 1), (205, .iaload, 1), (206, .aload_n 0, 1), (207, .iload_n 3, 1), (208, .iconst 2, 1), (209, .iadd, 1), (210, .iaload, 1), (211, .aload_n 0, 1), (212, .iload_n 3, 1), (213, .iconst 3, 1), (214, .iadd, 1), (215, .iaload, 1), (216, .invokevirtual 13, 3), (219, .aload_n 2, 1), (220, .aload_n 0, 1), (221, .iload_n 3, 1), (222, .iconst 1, 1), (223, .iadd, 1), (224, .iaload, 1), (225, .aload_n 0, 1), (226, .iload_n 3, 1), (227, .iconst 2, 1), (228, .iadd, 1), (229, .iaload, 1)]
set_option maxRecDepth 20000 in
theorem DL_law_0 : lL_law_0.all (dq cL_law) = true := by decide +kernel
def lL_law_1 : List (Nat × Instr × Nat) := [(230, .aload_n 0, 1), (231, .iload_n 3, 1), (232, .iconst 3, 1), (233, .iadd, 1), (234, .iaload, 1), (235, .invokevirtual 17, 3), (238, .if_icmp .eq 1109, 3), (241, .iconst 0, 1), (242, .ireturn, 1), (243, .aload_n 1, 1), (244, .aload_n 0, 1), (245, .iload_n 3, 1), (246, .iconst 1, 1), (247, .iadd, 1), (248, .iaload, 1), (249, .aload_n 0, 1), (250, .iload_n 3, 1), (251, .iconst 2, 1), (252, .iadd, 1), (253, .iaload, 1), (254, .invokevirtual 18, 3), (257, .aload_n 2, 1), (258, .aload_n 0, 1), (259, .iload_n 3, 1), (260, .iconst 1, 1), (261, .iadd, 1), (262, .iaload, 1), (263, .aload_n 0, 1), (264, .iload_n 3, 1), (265, .iconst 2, 1), (266, .iadd, 1), (267, .iaload, 1), (268, .invokevirtual 22, 3), (271, .if_icmp .eq 1076, 3), (274, .iconst 0, 1), (275, .ireturn, 1), (276, .aload_n 1, 1), (277, .aload_n 0, 1), (278, .iload_n 3, 1), (279, .iconst 1, 1), (280, .iadd, 1), (281, .iaload, 1), (282, .aload_n 0, 1), (283, .iload_n 3, 1), (284, .iconst 2, 1), (285, .iadd, 1), (286, .iaload, 1), (287, .aload_n 0, 1), (288, .iload_n 3, 1), (289, .iconst 3, 1)]
set_option maxRecDepth 20000 in
theorem DL_law_1 : lL_law_1.all (dq cL_law) = true := by decide +kernel
def lL_law_2 : List (Nat × Instr × Nat) := [(290, .iadd, 1), (291, .iaload, 1), (292, .invokevirtual 23, 3), (295, .aload_n 2, 1), (296, .aload_n 0, 1), (297, .iload_n 3, 1), (298, .iconst 1, 1), (299, .iadd, 1), (300, .iaload, 1), (301, .aload_n 0, 1), (302, .iload_n 3, 1), (303, .iconst 2, 1), (304, .iadd, 1), (305, .iaload, 1), (306, .aload_n 0, 1), (307, .iload_n 3, 1), (308, .iconst 3, 1), (309, .iadd, 1), (310, .iaload, 1), (311, .invokevirtual 26, 3), (314, .if_icmp .eq 1033, 3), (317, .iconst 0, 1), (318, .ireturn, 1), (319, .aload_n 1, 1), (320, .aload_n 0, 1), (321, .iload_n 3, 1), (322, .iconst 1, 1), (323, .iadd, 1), (324, .iaload, 1), (325, .aload_n 0, 1), (326, .iload_n 3, 1), (327, .iconst 2, 1), (328, .iadd, 1), (329, .iaload, 1), (330, .aload_n 0, 1), (331, .iload_n 3, 1), (332, .iconst 3, 1), (333, .iadd, 1), (334, .iaload, 1), (335, .invokevirtual 27, 3), (338, .aload_n 2, 1), (339, .aload_n 0, 1), (340, .iload_n 3, 1), (341, .iconst 1, 1), (342, .iadd, 1), (343, .iaload, 1), (344, .aload_n 0, 1), (345, .iload_n 3, 1), (346, .iconst 2, 1), (347, .iadd, 1)]
set_option maxRecDepth 20000 in
theorem DL_law_2 : lL_law_2.all (dq cL_law) = true := by decide +kernel
def lL_law_3 : List (Nat × Instr × Nat) := [(348, .iaload, 1), (349, .aload_n 0, 1), (350, .iload_n 3, 1), (351, .iconst 3, 1), (352, .iadd, 1), (353, .iaload, 1), (354, .invokevirtual 30, 3), (357, .if_icmp .eq 990, 3), (360, .iconst 0, 1), (361, .ireturn, 1), (362, .aload_n 1, 1), (363, .aload_n 0, 1), (364, .iload_n 3, 1), (365, .iconst 1, 1), (366, .iadd, 1), (367, .iaload, 1), (368, .invokevirtual 31, 3), (371, .aload_n 2, 1), (372, .aload_n 0, 1), (373, .iload_n 3, 1), (374, .iconst 1, 1), (375, .iadd, 1), (376, .iaload, 1), (377, .invokevirtual 35, 3), (380, .if_icmp .eq 967, 3), (383, .iconst 0, 1), (384, .ireturn, 1), (385, .aload_n 1, 1), (386, .aload_n 0, 1), (387, .iload_n 3, 1), (388, .iconst 1, 1), (389, .iadd, 1), (390, .iaload, 1), (391, .invokevirtual 36, 3), (394, .aload_n 2, 1), (395, .aload_n 0, 1), (396, .iload_n 3, 1), (397, .iconst 1, 1), (398, .iadd, 1), (399, .iaload, 1), (400, .invokevirtual 39, 3), (403, .if_icmp .eq 944, 3), (406, .iconst 0, 1), (407, .ireturn, 1), (408, .aload_n 1, 1), (409, .aload_n 0, 1), (410, .iload_n 3, 1), (411, .iconst 1, 1), (412, .iadd, 1), (413, .iaload, 1)]
set_option maxRecDepth 20000 in
theorem DL_law_3 : lL_law_3.all (dq cL_law) = true := by decide +kernel
def lL_law_4 : List (Nat × Instr × Nat) := [(414, .aload_n 0, 1), (415, .iload_n 3, 1), (416, .iconst 2, 1), (417, .iadd, 1), (418, .iaload, 1), (419, .invokevirtual 40, 3), (422, .aload_n 2, 1), (423, .aload_n 0, 1), (424, .iload_n 3, 1), (425, .iconst 1, 1), (426, .iadd, 1), (427, .iaload, 1), (428, .aload_n 0, 1), (429, .iload_n 3, 1), (430, .iconst 2, 1), (431, .iadd, 1), (432, .iaload, 1), (433, .invokevirtual 43, 3), (436, .if_icmp .eq 911, 3), (439, .iconst 0, 1), (440, .ireturn, 1), (441, .aload_n 1, 1), (442, .aload_n 0, 1), (443, .iload_n 3, 1), (444, .iconst 1, 1), (445, .iadd, 1), (446, .iaload, 1), (447, .invokevirtual 44, 3), (450, .aload_n 2, 1), (451, .aload_n 0, 1), (452, .iload_n 3, 1), (453, .iconst 1, 1), (454, .iadd, 1), (455, .iaload, 1), (456, .invokevirtual 47, 3), (459, .if_icmp .eq 888, 3), (462, .iconst 0, 1), (463, .ireturn, 1), (464, .aload_n 1, 1), (465, .invokevirtual 48, 3), (468, .aload_n 2, 1), (469, .invokevirtual 52, 3), (472, .if_icmp .eq 875, 3), (475, .iconst 0, 1), (476, .ireturn, 1), (477, .aload_n 1, 1), (478, .aload_n 0, 1), (479, .iload_n 3, 1), (480, .iconst 1, 1), (481, .iadd, 1)]
set_option maxRecDepth 20000 in
theorem DL_law_4 : lL_law_4.all (dq cL_law) = true := by decide +kernel
def lL_law_5 : List (Nat × Instr × Nat) := [(482, .iaload, 1), (483, .invokevirtual 53, 3), (486, .aload_n 2, 1), (487, .aload_n 0, 1), (488, .iload_n 3, 1), (489, .iconst 1, 1), (490, .iadd, 1), (491, .iaload, 1), (492, .invokevirtual 56, 3), (495, .if_icmp .eq 852, 3), (498, .iconst 0, 1), (499, .ireturn, 1), (500, .aload_n 1, 1), (501, .aload_n 0, 1), (502, .iload_n 3, 1), (503, .iconst 1, 1), (504, .iadd, 1), (505, .iaload, 1), (506, .invokevirtual 57, 3), (509, .aload_n 2, 1), (510, .aload_n 0, 1), (511, .iload_n 3, 1), (512, .iconst 1, 1), (513, .iadd, 1), (514, .iaload, 1), (515, .invokevirtual 60, 3), (518, .if_icmp .eq 829, 3), (521, .iconst 0, 1), (522, .ireturn, 1), (523, .aload_n 1, 1), (524, .aload_n 0, 1), (525, .iload_n 3, 1), (526, .iconst 1, 1), (527, .iadd, 1), (528, .iaload, 1), (529, .aload_n 0, 1), (530, .iload_n 3, 1), (531, .iconst 2, 1), (532, .iadd, 1), (533, .iaload, 1), (534, .invokevirtual 61, 3), (537, .aload_n 2, 1), (538, .aload_n 0, 1), (539, .iload_n 3, 1), (540, .iconst 1, 1), (541, .iadd, 1), (542, .iaload, 1), (543, .aload_n 0, 1), (544, .iload_n 3, 1), (545, .iconst 2, 1)]
set_option maxRecDepth 20000 in
theorem DL_law_5 : lL_law_5.all (dq cL_law) = true := by decide +kernel
def lL_law_6 : List (Nat × Instr × Nat) := [(546, .iadd, 1), (547, .iaload, 1), (548, .invokevirtual 64, 3), (551, .if_icmp .eq 796, 3), (554, .iconst 0, 1), (555, .ireturn, 1), (556, .aload_n 1, 1), (557, .aload_n 0, 1), (558, .iload_n 3, 1), (559, .iconst 1, 1), (560, .iadd, 1), (561, .iaload, 1), (562, .invokevirtual 65, 3), (565, .aload_n 2, 1), (566, .aload_n 0, 1), (567, .iload_n 3, 1), (568, .iconst 1, 1), (569, .iadd, 1), (570, .iaload, 1), (571, .invokevirtual 68, 3), (574, .if_icmp .eq 773, 3), (577, .iconst 0, 1), (578, .ireturn, 1), (579, .aload_n 1, 1), (580, .aload_n 0, 1), (581, .iload_n 3, 1), (582, .iconst 1, 1), (583, .iadd, 1), (584, .iaload, 1), (585, .invokevirtual 69, 3), (588, .aload_n 2, 1), (589, .aload_n 0, 1), (590, .iload_n 3, 1), (591, .iconst 1, 1), (592, .iadd, 1), (593, .iaload, 1), (594, .invokevirtual 72, 3), (597, .if_icmp .eq 750, 3), (600, .iconst 0, 1), (601, .ireturn, 1), (602, .aload_n 1, 1), (603, .invokevirtual 73, 3), (606, .aload_n 2, 1), (607, .invokevirtual 76, 3), (610, .if_icmp .eq 737, 3), (613, .iconst 0, 1), (614, .ireturn, 1), (615, .aload_n 1, 1), (616, .aload_n 0, 1), (617, .iload_n 3, 1)]
set_option maxRecDepth 20000 in
theorem DL_law_6 : lL_law_6.all (dq cL_law) = true := by decide +kernel
def lL_law_7 : List (Nat × Instr × Nat) := [(618, .iconst 1, 1), (619, .iadd, 1), (620, .iaload, 1), (621, .invokevirtual 77, 3), (624, .aload_n 2, 1), (625, .aload_n 0, 1), (626, .iload_n 3, 1), (627, .iconst 1, 1), (628, .iadd, 1), (629, .iaload, 1), (630, .invokevirtual 80, 3), (633, .if_icmp .eq 714, 3), (636, .iconst 0, 1), (637, .ireturn, 1), (638, .aload_n 1, 1), (639, .aload_n 0, 1), (640, .iload_n 3, 1), (641, .iconst 1, 1), (642, .iadd, 1), (643, .iaload, 1), (644, .aload_n 0, 1), (645, .iload_n 3, 1), (646, .iconst 2, 1), (647, .iadd, 1), (648, .iaload, 1), (649, .invokevirtual 81, 3), (652, .aload_n 2, 1), (653, .aload_n 0, 1), (654, .iload_n 3, 1), (655, .iconst 1, 1), (656, .iadd, 1), (657, .iaload, 1), (658, .aload_n 0, 1), (659, .iload_n 3, 1), (660, .iconst 2, 1), (661, .iadd, 1), (662, .iaload, 1), (663, .invokevirtual 84, 3), (666, .if_icmp .eq 681, 3), (669, .iconst 0, 1), (670, .ireturn, 1), (671, .aload_n 1, 1), (672, .aload_n 0, 1), (673, .iload_n 3, 1), (674, .iconst 1, 1), (675, .iadd, 1), (676, .iaload, 1), (677, .invokevirtual 85, 3), (680, .aload_n 2, 1), (681, .aload_n 0, 1)]
set_option maxRecDepth 20000 in
theorem DL_law_7 : lL_law_7.all (dq cL_law) = true := by decide +kernel
def lL_law_8 : List (Nat × Instr × Nat) := [(682, .iload_n 3, 1), (683, .iconst 1, 1), (684, .iadd, 1), (685, .iaload, 1), (686, .invokevirtual 88, 3), (689, .if_icmp .eq 658, 3), (692, .iconst 0, 1), (693, .ireturn, 1), (694, .aload_n 1, 1), (695, .aload_n 0, 1), (696, .iload_n 3, 1), (697, .iconst 1, 1), (698, .iadd, 1), (699, .iaload, 1), (700, .aload_n 0, 1), (701, .iload_n 3, 1), (702, .iconst 2, 1), (703, .iadd, 1), (704, .iaload, 1), (705, .invokevirtual 89, 3), (708, .aload_n 2, 1), (709, .aload_n 0, 1), (710, .iload_n 3, 1), (711, .iconst 1, 1), (712, .iadd, 1), (713, .iaload, 1), (714, .aload_n 0, 1), (715, .iload_n 3, 1), (716, .iconst 2, 1), (717, .iadd, 1), (718, .iaload, 1), (719, .invokevirtual 92, 3), (722, .if_icmp .eq 625, 3), (725, .iconst 0, 1), (726, .ireturn, 1), (727, .aload_n 1, 1), (728, .aload_n 0, 1), (729, .iload_n 3, 1), (730, .iconst 1, 1), (731, .iadd, 1), (732, .iaload, 1), (733, .aload_n 0, 1), (734, .iload_n 3, 1), (735, .iconst 2, 1), (736, .iadd, 1), (737, .iaload, 1), (738, .invokevirtual 93, 3), (741, .aload_n 2, 1), (742, .aload_n 0, 1), (743, .iload_n 3, 1)]
set_option maxRecDepth 20000 in
theorem DL_law_8 : lL_law_8.all (dq cL_law) = true := by decide +kernel
def lL_law_9 : List (Nat × Instr × Nat) := [(744, .iconst 1, 1), (745, .iadd, 1), (746, .iaload, 1), (747, .aload_n 0, 1), (748, .iload_n 3, 1), (749, .iconst 2, 1), (750, .iadd, 1), (751, .iaload, 1), (752, .invokevirtual 96, 3), (755, .if_icmp .eq 592, 3), (758, .iconst 0, 1), (759, .ireturn, 1), (760, .aload_n 1, 1), (761, .aload_n 0, 1), (762, .iload_n 3, 1), (763, .iconst 1, 1), (764, .iadd, 1), (765, .iaload, 1), (766, .aload_n 0, 1), (767, .iload_n 3, 1), (768, .iconst 2, 1), (769, .iadd, 1), (770, .iaload, 1), (771, .invokevirtual 97, 3), (774, .aload_n 2, 1), (775, .aload_n 0, 1), (776, .iload_n 3, 1), (777, .iconst 1, 1), (778, .iadd, 1), (779, .iaload, 1), (780, .aload_n 0, 1), (781, .iload_n 3, 1), (782, .iconst 2, 1), (783, .iadd, 1), (784, .iaload, 1), (785, .invokevirtual 100, 3), (788, .if_icmp .eq 559, 3), (791, .iconst 0, 1), (792, .ireturn, 1), (793, .aload_n 1, 1), (794, .aload_n 0, 1), (795, .iload_n 3, 1), (796, .iconst 1, 1), (797, .iadd, 1), (798, .iaload, 1), (799, .aload_n 0, 1), (800, .iload_n 3, 1), (801, .iconst 2, 1), (802, .iadd, 1), (803, .iaload, 1)]
set_option maxRecDepth 20000 in
theorem DL_law_9 : lL_law_9.all (dq cL_law) = true := by decide +kernel
def lL_law_10 : List (Nat × Instr × Nat) := [(804, .invokevirtual 101, 3), (807, .aload_n 2, 1), (808, .aload_n 0, 1), (809, .iload_n 3, 1), (810, .iconst 1, 1), (811, .iadd, 1), (812, .iaload, 1), (813, .aload_n 0, 1), (814, .iload_n 3, 1), (815, .iconst 2, 1), (816, .iadd, 1), (817, .iaload, 1), (818, .invokevirtual 105, 3), (821, .lcmp, 1), (822, .ifCond .eq 525, 3), (825, .iconst 0, 1), (826, .ireturn, 1), (827, .aload_n 1, 1), (828, .aload_n 0, 1), (829, .iload_n 3, 1), (830, .iconst 1, 1), (831, .iadd, 1), (832, .iaload, 1), (833, .invokevirtual 106, 3), (836, .aload_n 2, 1), (837, .aload_n 0, 1), (838, .iload_n 3, 1), (839, .iconst 1, 1), (840, .iadd, 1), (841, .iaload, 1), (842, .invokevirtual 110, 3), (845, .lcmp, 1), (846, .ifCond .eq 501, 3), (849, .iconst 0, 1), (850, .ireturn, 1), (851, .aload_n 1, 1), (852, .aload_n 0, 1), (853, .iload_n 3, 1), (854, .iconst 1, 1), (855, .iadd, 1), (856, .iaload, 1), (857, .aload_n 0, 1), (858, .iload_n 3, 1), (859, .iconst 2, 1), (860, .iadd, 1), (861, .iaload, 1), (862, .invokevirtual 111, 3), (865, .aload_n 2, 1), (866, .aload_n 0, 1), (867, .iload_n 3, 1)]
set_option maxRecDepth 20000 in
theorem DL_law_10 : lL_law_10.all (dq cL_law) = true := by decide +kernel
def lL_law_11 : List (Nat × Instr × Nat) := [(868, .iconst 1, 1), (869, .iadd, 1), (870, .iaload, 1), (871, .aload_n 0, 1), (872, .iload_n 3, 1), (873, .iconst 2, 1), (874, .iadd, 1), (875, .iaload, 1), (876, .invokevirtual 114, 3), (879, .if_icmp .eq 468, 3), (882, .iconst 0, 1), (883, .ireturn, 1), (884, .aload_n 1, 1), (885, .aload_n 0, 1), (886, .iload_n 3, 1), (887, .iconst 1, 1), (888, .iadd, 1), (889, .iaload, 1), (890, .invokevirtual 115, 3), (893, .aload_n 2, 1), (894, .aload_n 0, 1), (895, .iload_n 3, 1), (896, .iconst 1, 1), (897, .iadd, 1), (898, .iaload, 1), (899, .invokevirtual 118, 3), (902, .if_icmp .eq 445, 3), (905, .iconst 0, 1), (906, .ireturn, 1), (907, .aload_n 1, 1), (908, .aload_n 0, 1), (909, .iload_n 3, 1), (910, .iconst 1, 1), (911, .iadd, 1), (912, .iaload, 1), (913, .aload_n 0, 1), (914, .iload_n 3, 1), (915, .iconst 2, 1), (916, .iadd, 1), (917, .iaload, 1), (918, .invokevirtual 119, 3), (921, .aload_n 2, 1), (922, .aload_n 0, 1), (923, .iload_n 3, 1), (924, .iconst 1, 1), (925, .iadd, 1), (926, .iaload, 1), (927, .aload_n 0, 1), (928, .iload_n 3, 1), (929, .iconst 2, 1)]
set_option maxRecDepth 20000 in
theorem DL_law_11 : lL_law_11.all (dq cL_law) = true := by decide +kernel
def lL_law_12 : List (Nat × Instr × Nat) := [(930, .iadd, 1), (931, .iaload, 1), (932, .invokevirtual 122, 3), (935, .if_icmp .eq 412, 3), (938, .iconst 0, 1), (939, .ireturn, 1), (940, .aload_n 1, 1), (941, .invokevirtual 123, 3), (944, .aload_n 2, 1), (945, .invokevirtual 126, 3), (948, .if_icmp .eq 399, 3), (951, .iconst 0, 1), (952, .ireturn, 1), (953, .aload_n 1, 1), (954, .aload_n 0, 1), (955, .iload_n 3, 1), (956, .iconst 1, 1), (957, .iadd, 1), (958, .iaload, 1), (959, .aload_n 0, 1), (960, .iload_n 3, 1), (961, .iconst 2, 1), (962, .iadd, 1), (963, .iaload, 1), (964, .invokevirtual 127, 3), (967, .aload_n 2, 1), (968, .aload_n 0, 1), (969, .iload_n 3, 1), (970, .iconst 1, 1), (971, .iadd, 1), (972, .iaload, 1), (973, .aload_n 0, 1), (974, .iload_n 3, 1), (975, .iconst 2, 1), (976, .iadd, 1), (977, .iaload, 1), (978, .invokevirtual 130, 3), (981, .if_icmp .eq 366, 3), (984, .iconst 0, 1), (985, .ireturn, 1), (986, .aload_n 1, 1), (987, .invokevirtual 131, 3), (990, .aload_n 2, 1), (991, .invokevirtual 134, 3), (994, .if_icmp .eq 353, 3), (997, .iconst 0, 1), (998, .ireturn, 1), (999, .aload_n 1, 1), (1000, .invokevirtual 135, 3), (1003, .aload_n 2, 1)]
set_option maxRecDepth 20000 in
theorem DL_law_12 : lL_law_12.all (dq cL_law) = true := by decide +kernel
def lL_law_13 : List (Nat × Instr × Nat) := [(1004, .invokevirtual 138, 3), (1007, .if_icmp .eq 340, 3), (1010, .iconst 0, 1), (1011, .ireturn, 1), (1012, .aload_n 1, 1), (1013, .aload_n 0, 1), (1014, .iload_n 3, 1), (1015, .iconst 1, 1), (1016, .iadd, 1), (1017, .iaload, 1), (1018, .aload_n 0, 1), (1019, .iload_n 3, 1), (1020, .iconst 2, 1), (1021, .iadd, 1), (1022, .iaload, 1), (1023, .aload_n 0, 1), (1024, .iload_n 3, 1), (1025, .iconst 3, 1), (1026, .iadd, 1), (1027, .iaload, 1), (1028, .invokevirtual 139, 3), (1031, .aload_n 2, 1), (1032, .aload_n 0, 1), (1033, .iload_n 3, 1), (1034, .iconst 1, 1), (1035, .iadd, 1), (1036, .iaload, 1), (1037, .aload_n 0, 1), (1038, .iload_n 3, 1), (1039, .iconst 2, 1), (1040, .iadd, 1), (1041, .iaload, 1), (1042, .aload_n 0, 1), (1043, .iload_n 3, 1), (1044, .iconst 3, 1), (1045, .iadd, 1), (1046, .iaload, 1), (1047, .invokevirtual 142, 3), (1050, .if_icmp .eq 297, 3), (1053, .iconst 0, 1), (1054, .ireturn, 1), (1055, .aload_n 1, 1), (1056, .aload_n 0, 1), (1057, .iload_n 3, 1), (1058, .iconst 1, 1), (1059, .iadd, 1), (1060, .iaload, 1), (1061, .invokevirtual 143, 3), (1064, .aload_n 2, 1), (1065, .aload_n 0, 1)]
set_option maxRecDepth 20000 in
theorem DL_law_13 : lL_law_13.all (dq cL_law) = true := by decide +kernel
def lL_law_14 : List (Nat × Instr × Nat) := [(1066, .iload_n 3, 1), (1067, .iconst 1, 1), (1068, .iadd, 1), (1069, .iaload, 1), (1070, .invokevirtual 146, 3), (1073, .if_icmp .eq 274, 3), (1076, .iconst 0, 1), (1077, .ireturn, 1), (1078, .aload_n 1, 1), (1079, .aload_n 0, 1), (1080, .iload_n 3, 1), (1081, .iconst 1, 1), (1082, .iadd, 1), (1083, .iaload, 1), (1084, .aload_n 0, 1), (1085, .iload_n 3, 1), (1086, .iconst 2, 1), (1087, .iadd, 1), (1088, .iaload, 1), (1089, .invokevirtual 147, 3), (1092, .aload_n 2, 1), (1093, .aload_n 0, 1), (1094, .iload_n 3, 1), (1095, .iconst 1, 1), (1096, .iadd, 1), (1097, .iaload, 1), (1098, .aload_n 0, 1), (1099, .iload_n 3, 1), (1100, .iconst 2, 1), (1101, .iadd, 1), (1102, .iaload, 1), (1103, .invokevirtual 150, 3), (1106, .if_icmp .eq 241, 3), (1109, .iconst 0, 1), (1110, .ireturn, 1), (1111, .aload_n 1, 1), (1112, .aload_n 0, 1), (1113, .iload_n 3, 1), (1114, .iconst 1, 1), (1115, .iadd, 1), (1116, .iaload, 1), (1117, .invokevirtual 151, 3), (1120, .aload_n 2, 1), (1121, .aload_n 0, 1), (1122, .iload_n 3, 1), (1123, .iconst 1, 1), (1124, .iadd, 1), (1125, .iaload, 1), (1126, .invokevirtual 154, 3), (1129, .if_icmp .eq 218, 3)]
set_option maxRecDepth 20000 in
theorem DL_law_14 : lL_law_14.all (dq cL_law) = true := by decide +kernel
def lL_law_15 : List (Nat × Instr × Nat) := [(1132, .iconst 0, 1), (1133, .ireturn, 1), (1134, .aload_n 1, 1), (1135, .aload_n 0, 1), (1136, .iload_n 3, 1), (1137, .iconst 1, 1), (1138, .iadd, 1), (1139, .iaload, 1), (1140, .aload_n 0, 1), (1141, .iload_n 3, 1), (1142, .iconst 2, 1), (1143, .iadd, 1), (1144, .iaload, 1), (1145, .aload_n 0, 1), (1146, .iload_n 3, 1), (1147, .iconst 3, 1), (1148, .iadd, 1), (1149, .iaload, 1), (1150, .invokevirtual 155, 3), (1153, .aload_n 2, 1), (1154, .aload_n 0, 1), (1155, .iload_n 3, 1), (1156, .iconst 1, 1), (1157, .iadd, 1), (1158, .iaload, 1), (1159, .aload_n 0, 1), (1160, .iload_n 3, 1), (1161, .iconst 2, 1), (1162, .iadd, 1), (1163, .iaload, 1), (1164, .aload_n 0, 1), (1165, .iload_n 3, 1), (1166, .iconst 3, 1), (1167, .iadd, 1), (1168, .iaload, 1), (1169, .invokevirtual 158, 3), (1172, .if_icmp .eq 175, 3), (1175, .iconst 0, 1), (1176, .ireturn, 1), (1177, .aload_n 1, 1), (1178, .aload_n 0, 1), (1179, .iload_n 3, 1), (1180, .iconst 1, 1), (1181, .iadd, 1), (1182, .iaload, 1), (1183, .aload_n 0, 1), (1184, .iload_n 3, 1), (1185, .iconst 2, 1), (1186, .iadd, 1), (1187, .iaload, 1)]
set_option maxRecDepth 20000 in
theorem DL_law_15 : lL_law_15.all (dq cL_law) = true := by decide +kernel
def lL_law_16 : List (Nat × Instr × Nat) := [(1188, .aload_n 0, 1), (1189, .iload_n 3, 1), (1190, .iconst 3, 1), (1191, .iadd, 1), (1192, .iaload, 1), (1193, .i2l, 1), (1194, .bipush 32, 2), (1196, .lshl, 1), (1197, .aload_n 0, 1), (1198, .iload_n 3, 1), (1199, .iconst 4, 1), (1200, .iadd, 1), (1201, .iaload, 1), (1202, .i2l, 1), (1203, .ldc2_w 159, 3), (1206, .land, 1), (1207, .lor, 1), (1208, .invokevirtual 161, 3), (1211, .aload_n 2, 1), (1212, .aload_n 0, 1), (1213, .iload_n 3, 1), (1214, .iconst 1, 1), (1215, .iadd, 1), (1216, .iaload, 1), (1217, .aload_n 0, 1), (1218, .iload_n 3, 1), (1219, .iconst 2, 1), (1220, .iadd, 1), (1221, .iaload, 1), (1222, .aload_n 0, 1), (1223, .iload_n 3, 1), (1224, .iconst 3, 1), (1225, .iadd, 1), (1226, .iaload, 1), (1227, .i2l, 1), (1228, .bipush 32, 2), (1230, .lshl, 1), (1231, .aload_n 0, 1), (1232, .iload_n 3, 1), (1233, .iconst 4, 1), (1234, .iadd, 1), (1235, .iaload, 1), (1236, .i2l, 1), (1237, .ldc2_w 159, 3), (1240, .land, 1), (1241, .lor, 1), (1242, .invokevirtual 165, 3), (1245, .if_icmp .eq 102, 3), (1248, .iconst 0, 1), (1249, .ireturn, 1)]
set_option maxRecDepth 20000 in
theorem DL_law_16 : lL_law_16.all (dq cL_law) = true := by decide +kernel
def lL_law_17 : List (Nat × Instr × Nat) := [(1250, .aload_n 1, 1), (1251, .aload_n 0, 1), (1252, .iload_n 3, 1), (1253, .iconst 1, 1), (1254, .iadd, 1), (1255, .iaload, 1), (1256, .aload_n 0, 1), (1257, .iload_n 3, 1), (1258, .iconst 2, 1), (1259, .iadd, 1), (1260, .iaload, 1), (1261, .invokevirtual 166, 3), (1264, .aload_n 2, 1), (1265, .aload_n 0, 1), (1266, .iload_n 3, 1), (1267, .iconst 1, 1), (1268, .iadd, 1), (1269, .iaload, 1), (1270, .aload_n 0, 1), (1271, .iload_n 3, 1), (1272, .iconst 2, 1), (1273, .iadd, 1), (1274, .iaload, 1), (1275, .invokevirtual 169, 3), (1278, .lcmp, 1), (1279, .ifCond .eq 68, 3), (1282, .iconst 0, 1), (1283, .ireturn, 1), (1284, .aload_n 1, 1), (1285, .aload_n 0, 1), (1286, .iload_n 3, 1), (1287, .iconst 1, 1), (1288, .iadd, 1), (1289, .iaload, 1), (1290, .aload_n 0, 1), (1291, .iload_n 3, 1), (1292, .iconst 2, 1), (1293, .iadd, 1), (1294, .iaload, 1), (1295, .aload_n 0, 1), (1296, .iload_n 3, 1), (1297, .iconst 3, 1), (1298, .iadd, 1), (1299, .iaload, 1), (1300, .aload_n 0, 1), (1301, .iload_n 3, 1), (1302, .iconst 4, 1), (1303, .iadd, 1), (1304, .iaload, 1), (1305, .aload_n 0, 1)]
set_option maxRecDepth 20000 in
theorem DL_law_17 : lL_law_17.all (dq cL_law) = true := by decide +kernel
def lL_law_18 : List (Nat × Instr × Nat) := [(1306, .iload_n 3, 1), (1307, .iconst 5, 1), (1308, .iadd, 1), (1309, .iaload, 1), (1310, .invokevirtual 170, 3), (1313, .aload_n 2, 1), (1314, .aload_n 0, 1), (1315, .iload_n 3, 1), (1316, .iconst 1, 1), (1317, .iadd, 1), (1318, .iaload, 1), (1319, .aload_n 0, 1), (1320, .iload_n 3, 1), (1321, .iconst 2, 1), (1322, .iadd, 1), (1323, .iaload, 1), (1324, .aload_n 0, 1), (1325, .iload_n 3, 1), (1326, .iconst 3, 1), (1327, .iadd, 1), (1328, .iaload, 1), (1329, .aload_n 0, 1), (1330, .iload_n 3, 1), (1331, .iconst 4, 1), (1332, .iadd, 1), (1333, .iaload, 1), (1334, .aload_n 0, 1), (1335, .iload_n 3, 1), (1336, .iconst 5, 1), (1337, .iadd, 1), (1338, .iaload, 1), (1339, .invokevirtual 174, 3), (1342, .if_icmp .eq 5, 3), (1345, .iconst 0, 1), (1346, .ireturn, 1), (1347, .iinc 3 6, 3), (1350, .goto (-1332), 3), (1353, .iconst 1, 1), (1354, .ireturn, 1)]
set_option maxRecDepth 20000 in
theorem DL_law_18 : lL_law_18.all (dq cL_law) = true := by decide +kernel
end
section
theorem lq_6_0 : lr 0 6 0 = 6 := rfl
theorem lq_6_1 : lr 0 6 1 = 14 := rfl
theorem lq_6_2 : lr 0 6 2 = 22 := rfl
theorem lq_6_3 : lr 0 6 3 = 30 := rfl
theorem lq_6_4 : lr 0 6 4 = 33 := rfl
theorem lq_6_5 : lr 0 6 5 = 36 := rfl
theorem lq_6_6 : lr 0 6 6 = 39 := rfl
theorem lq_6_7 : lr 0 6 7 = 42 := rfl
theorem lq_6_8 : lr 0 6 8 = 45 := rfl
theorem lq_6_10 : lr 0 6 10 = 48 := rfl
theorem lq_6_12 : lr 0 6 12 = 79 := rfl
theorem lq_6_13 : lr 0 6 13 = 81 := rfl
theorem lq_6_14 : lr 0 6 14 = 83 := rfl
theorem lq_7_6 : lr 96 7 6 = 97 := rfl
theorem lq_7_7 : lr 96 7 7 = 98 := rfl
theorem lq_7_8 : lr 96 7 8 = 99 := rfl
theorem lq_7_9 : lr 96 7 9 = 100 := rfl
theorem lq_7_10 : lr 96 7 10 = 101 := rfl
theorem lq_7_11 : lr 96 7 11 = 102 := rfl
theorem lq_7_12 : lr 96 7 12 = 103 := rfl
theorem lq_7_18 : lr 96 7 18 = 104 := rfl
theorem lq_7_19 : lr 96 7 19 = 105 := rfl
theorem lq_7_20 : lr 96 7 20 = 106 := rfl
theorem lq_7_21 : lr 96 7 21 = 107 := rfl
theorem lq_7_22 : lr 96 7 22 = 108 := rfl
theorem lq_7_23 : lr 96 7 23 = 109 := rfl
theorem lq_7_24 : lr 96 7 24 = 110 := rfl
theorem lq_7_25 : lr 96 7 25 = 111 := rfl
theorem lq_7_29 : lr 96 7 29 = 112 := rfl
theorem lq_7_30 : lr 96 7 30 = 113 := rfl
theorem lq_7_33 : lr 96 7 33 = 114 := rfl
theorem lq_7_39 : lr 96 7 39 = 115 := rfl
theorem lq_7_40 : lr 96 7 40 = 116 := rfl
theorem lq_7_41 : lr 96 7 41 = 117 := rfl
theorem lq_7_42 : lr 96 7 42 = 118 := rfl
theorem lq_7_44 : lr 96 7 44 = 119 := rfl
theorem lq_7_47 : lr 96 7 47 = 120 := rfl
theorem lq_7_49 : lr 96 7 49 = 121 := rfl
theorem lq_7_50 : lr 96 7 50 = 122 := rfl
theorem lq_7_53 : lr 96 7 53 = 123 := rfl
theorem lq_7_54 : lr 96 7 54 = 124 := rfl
theorem lq_7_55 : lr 96 7 55 = 125 := rfl
theorem lq_7_56 : lr 96 7 56 = 126 := rfl
theorem lq_7_68 : lr 96 7 68 = 127 := rfl
theorem lq_7_69 : lr 96 7 69 = 128 := rfl
theorem lq_7_70 : lr 96 7 70 = 129 := rfl
theorem lq_7_71 : lr 96 7 71 = 130 := rfl
theorem lq_7_72 : lr 96 7 72 = 131 := rfl
theorem lq_7_73 : lr 96 7 73 = 132 := rfl
theorem lq_7_74 : lr 96 7 74 = 133 := rfl
theorem lq_7_75 : lr 96 7 75 = 134 := rfl
theorem lq_7_76 : lr 96 7 76 = 135 := rfl
theorem lq_7_77 : lr 96 7 77 = 136 := rfl
theorem lq_7_78 : lr 96 7 78 = 137 := rfl
theorem lq_7_79 : lr 96 7 79 = 138 := rfl
theorem lq_7_80 : lr 96 7 80 = 139 := rfl
theorem lq_7_82 : lr 96 7 82 = 140 := rfl
theorem lq_7_83 : lr 96 7 83 = 141 := rfl
theorem lq_7_84 : lr 96 7 84 = 142 := rfl
theorem lq_7_85 : lr 96 7 85 = 143 := rfl
theorem lq_7_86 : lr 96 7 86 = 144 := rfl
theorem lq_0_0 (o : Nat) : lr o 0 0 = o + 1 := rfl
theorem lq_1_0 (o : Nat) : lr o 1 0 = o + 1 := rfl
theorem lq_1_1 (o : Nat) : lr o 1 1 = o + 2 := rfl
theorem lq_1_2 (o : Nat) : lr o 1 2 = o + 3 := rfl
theorem lq_1_3 (o : Nat) : lr o 1 3 = o + 4 := rfl
theorem lq_1_4 (o : Nat) : lr o 1 4 = o + 5 := rfl
theorem lq_1_5 (o : Nat) : lr o 1 5 = o + 6 := rfl
theorem lq_1_6 (o : Nat) : lr o 1 6 = o + 7 := rfl
theorem lq_2_0 (o : Nat) : lr o 2 0 = o + 1 := rfl
theorem lq_2_1 (o : Nat) : lr o 2 1 = o + 2 := rfl
theorem lq_2_2 (o : Nat) : lr o 2 2 = o + 3 := rfl
theorem lq_2_3 (o : Nat) : lr o 2 3 = o + 4 := rfl
theorem lq_3_0 (o : Nat) : lr o 3 0 = o + 1 := rfl
theorem lq_3_1 (o : Nat) : lr o 3 1 = o + 2 := rfl
theorem lq_4_0 (o : Nat) : lr o 4 0 = o + 1 := rfl
theorem lq_5_0 (o : Nat) : lr o 5 0 = o + 1 := rfl
theorem so1 {α : Type} {a c : α} (h : some a = some c) : c = a := (Option.some.inj h).symm
theorem so2 {α β : Type} {a c : α} {b d : β} (h : some (a, b) = some (c, d)) : c = a ∧ d = b := ⟨(congrArg Prod.fst (Option.some.inj h)).symm, (congrArg Prod.snd (Option.some.inj h)).symm⟩
def lix (c : Int32) : Int32 := if c = 112 then 0 else if c = 107 then 1 else if c = 118 then 2 else if c = 108 then 3 else if c = 119 then 4 else if c = 100 then 5 else -1
section RJ
variable {Y : MD} {d : Nat} {X : XE} {pc : Nat} {lv : List (Nat × Value)} {st : List Value} {h h1 h2 h' : HP} {r : Option Value}
theorem r_ldS0 (n9 : Nat) (hp : pc + 2 = n9) (hY : Y.1.cls = RX5) (hdg : decode Y.2.1 pc = .ok (.ldc 71, 2)) (kk : Run Y d X n9 lv (.ref (X.2.2.2.1 2) :: st) h r h') : Run Y d X pc lv st h r h' := by
  subst hp
  intro p l e R s m args below meth c A cells slots Q C0 c1 c2 K H locs ls hI hl
  exact va_ldcS C0.1.1 C0.1.2.1 (by rw [← hY]; exact C0.1.2.2.2.1) C0.2.2.2.2.1.2.2.2.1 hdg (kk p l e R s m args below meth c A cells slots Q C0 c1 c2 K H locs ls hI hl)
theorem r_ldS1 (n9 : Nat) (hp : pc + 2 = n9) (hY : Y.1.cls = RX5) (hdg : decode Y.2.1 pc = .ok (.ldc 63, 2)) (kk : Run Y d X n9 lv (.ref (X.2.2.2.1 3) :: st) h r h') : Run Y d X pc lv st h r h' := by
  subst hp
  intro p l e R s m args below meth c A cells slots Q C0 c1 c2 K H locs ls hI hl
  exact va_ldcS C0.1.1 C0.1.2.1 (by rw [← hY]; exact C0.1.2.2.2.1) C0.2.2.2.2.1.2.2.2.2.1 hdg (kk p l e R s m args below meth c A cells slots Q C0 c1 c2 K H locs ls hI hl)
theorem r_charAt {i : Int32} (n9 : Nat) (hp : pc + 3 = n9) (hd : 8 ≤ d) (hY : Y.1.cls = RX5) (hb : vp_in i 16) (hcat : (st.map fun v => v.category).sum ≤ 8) (hdg : decode Y.2.1 pc = .ok (.invokevirtual 73, 3)) (kk : Run Y d X n9 lv (.int (([102, 105, 114, 109, 119, 101, 97, 107, 119, 105, 110, 100, 108, 97, 115, 104] : List Int32).getD i.toNatClampNeg 0) :: st) h r h') : Run Y d X pc lv (.int i :: .ref (X.2.2.2.1 2) :: st) h r h' := by
  sorry
theorem r_indexOf {x : Int32} (n9 : Nat) (hp : pc + 3 = n9) (hd : 8 ≤ d) (hY : Y.1.cls = RX5) (hcat : (st.map fun v => v.category).sum ≤ 8) (hdg : decode Y.2.1 pc = .ok (.invokevirtual 65, 3)) (kk : Run Y d X n9 lv (.int (lix (x.toUInt32 % 65536).toInt32) :: st) h r h') : Run Y d X pc lv (.int (x.toUInt32 % 65536).toInt32 :: .ref (X.2.2.2.1 3) :: st) h r h' := by
  sorry
end RJ
theorem lsw_d {ps : List (Int × Int)} {dflt x : Int} (hx : ∀ q ∈ ps, x ≠ q.1) : Op.lookupswitch.offset ps dflt x = dflt := by
  sorry
end
section
-- X0_ownerOf
def f_X0_ownerOf_L4 (h : HP) : Nat → Int32 → Int32 → Int32 → Option Int32
  | 0, _, _, _ => none
  | n + 1, x1, x2, x3 => if (7 : Int32) ≤ x3 then (some x2) else (if x2 < 0 then (some x2) else (gd (inb ((3 * x2) + x1) 21) (if (([10, 11, 12, 0, 20, 0, 30, 0, 0, 0, 0, 40, 50, 51, 0, 0, 0, 60, 71, 70, 0] : List Int32).getD (Int32.toNatClampNeg ((3 * x2) + x1)) 0) = 0 then (gd (inb x2 7) (lt ((([-1, 0, 0, 0, 1, 2, 3] : List Int32).getD (Int32.toNatClampNeg x2) 0) : Int32) fun v6 => lt (x3 + 1 : Int32) fun v8 => f_X0_ownerOf_L4 h n x1 v6 v8)) else (some x2))))
set_option maxHeartbeats 4000000 in
set_option maxRecDepth 100000 in
theorem A_X0_ownerOf_L4 (X : XE) (h : HP) (r : Int32) : ∀ (n : Nat) (x1 : Int32) (x2 : Int32) (x3 : Int32), f_X0_ownerOf_L4 h n x1 x2 x3 = some r → Run mX0_ownerOf 1 X 4 [(1, .int x1), (2, .int x2), (3, .int x3)] [] h (some (.int r)) h := by
  intro n
  induction n with
  | zero => intro x1 x2 x3 hf; cases hf
  | succ n ih =>
    intro x1 x2 x3 hf
    rw [f_X0_ownerOf_L4] at hf
    refine r_iload_n 5 rfl 2 rfl rfl (ck DX0_ownerOf_0 4 rfl) ?_
    refine r_bipush 7 rfl bp_7 (ck DX0_ownerOf_0 5 rfl) ?_
    rcases if_so hf with ⟨c1, hf⟩ | ⟨c1, hf⟩
    · refine r_icmp_ge_t 38 (ck DX0_ownerOf_0 6 rfl) (by decide) c1 ?_
      refine r_iload_n 39 rfl 1 rfl rfl (ck DX0_ownerOf_0 23 rfl) ?_
      obtain rfl := so1 hf
      exact r_iret rfl rfl (ck DX0_ownerOf_0 24 rfl)
    · refine r_icmp_ge_f 10 rfl 38 (ck DX0_ownerOf_0 6 rfl) (by decide) c1 ?_
      refine r_iload_n 11 rfl 1 rfl rfl (ck DX0_ownerOf_0 7 rfl) ?_
      rcases if_so hf with ⟨c2, hf⟩ | ⟨c2, hf⟩
      · refine r_if_lt_t 38 (ck DX0_ownerOf_0 8 rfl) (by decide) c2 ?_
        refine r_iload_n 39 rfl 1 rfl rfl (ck DX0_ownerOf_0 23 rfl) ?_
        obtain rfl := so1 hf
        exact r_iret rfl rfl (ck DX0_ownerOf_0 24 rfl)
      · refine r_if_lt_f 14 rfl 38 (ck DX0_ownerOf_0 8 rfl) (by decide) c2 ?_
        refine r_gbo 17 rfl gs_X0_36 (ck DX0_ownerOf_0 9 rfl) ?_
        refine r_iconst 18 rfl ic_3 (ck DX0_ownerOf_0 10 rfl) ?_
        refine r_iload_n 19 rfl 1 rfl rfl (ck DX0_ownerOf_0 11 rfl) ?_
        refine r_imul 20 rfl (ck DX0_ownerOf_0 12 rfl) ?_
        refine r_iload_n 21 rfl 0 rfl rfl (ck DX0_ownerOf_0 13 rfl) ?_
        refine r_iadd 22 rfl (ck DX0_ownerOf_0 14 rfl) ?_
        obtain ⟨b3, hf⟩ := gd_so hf
        refine r_bo 23 rfl (inb_vp b3) (ck DX0_ownerOf_0 15 rfl) ?_
        rcases if_so hf with ⟨c4, hf⟩ | ⟨c4, hf⟩
        · refine r_if_ne_t 26 rfl 38 (ck DX0_ownerOf_0 16 rfl) (by decide) c4 ?_
          refine r_gkn 29 rfl rfl (ck DX0_ownerOf_0 17 rfl) ?_
          refine r_iload_n 30 rfl 1 rfl rfl (ck DX0_ownerOf_0 18 rfl) ?_
          obtain ⟨b5, hf⟩ := gd_so hf
          refine r_ka 31 rfl (inb_vp b5) (ck DX0_ownerOf_0 19 rfl) ?_
          obtain ⟨v6, e7, hf⟩ := lt_so hf
          refine r_top e7 ?_
          refine r_istore_n (lv' := [(2, .int v6), (1, .int x1), (3, .int x3)]) 32 rfl (ck DX0_ownerOf_0 20 rfl) (by decide) rfl rfl ?_
          obtain ⟨v8, e9, hf⟩ := lt_so hf
          refine r_iinc (lv' := [(3, .int v8), (2, .int v6), (1, .int x1)]) 35 rfl 2 (ck DX0_ownerOf_0 21 rfl) rfl (by rw [e9, ic_1]) (by decide) rfl ?_
          refine r_goto 4 (ck DX0_ownerOf_0 22 rfl) (by decide) ?_
          refine r_sub (lv' := [(1, .int x1), (2, .int v6), (3, .int v8)]) [2, 1, 0] rfl ?_
          exact ih x1 v6 v8 hf
        · refine r_if_ne_f 38 (ck DX0_ownerOf_0 16 rfl) (by decide) c4 ?_
          refine r_iload_n 39 rfl 1 rfl rfl (ck DX0_ownerOf_0 23 rfl) ?_
          obtain rfl := so1 hf
          exact r_iret rfl rfl (ck DX0_ownerOf_0 24 rfl)
def f_X0_ownerOf (x0 : Int32) (x1 : Int32) (h : HP) : Option Int32 := f_X0_ownerOf_L4 h FU x1 x0 0
set_option maxHeartbeats 4000000 in
set_option maxRecDepth 100000 in
theorem A_X0_ownerOf (X : XE) (x0 : Int32) (x1 : Int32) (h : HP) (r : Int32) (hf : f_X0_ownerOf x0 x1 h = some r) : CC mX0_ownerOf 1 X [.int x0, .int x1] h (some (.int r)) h := by
  refine CC_of rfl (Nat.le_of_ble_eq_true rfl) ?_
  show Run mX0_ownerOf 1 X 0 [(0, .int x0), (1, .int x1)] [] h (some (.int r)) h
  unfold f_X0_ownerOf at hf
  refine r_iload_n 1 rfl 0 rfl rfl (ck DX0_ownerOf_0 0 rfl) ?_
  refine r_istore_n (lv' := [(2, .int x0), (0, .int x0), (1, .int x1)]) 2 rfl (ck DX0_ownerOf_0 1 rfl) (by decide) rfl rfl ?_
  refine r_iconst 3 rfl ic_0 (ck DX0_ownerOf_0 2 rfl) ?_
  refine r_istore_n (lv' := [(3, .int 0), (2, .int x0), (0, .int x0), (1, .int x1)]) 4 rfl (ck DX0_ownerOf_0 3 rfl) (by decide) rfl rfl ?_
  refine r_sub (lv' := [(1, .int x1), (2, .int x0), (3, .int 0)]) [3, 1, 0] rfl ?_
  exact A_X0_ownerOf_L4 X h _ FU x1 x0 0 hf
-- X0_run
def f_X0_run_J53 (rcM : Int32 → Int32 → Int32 → Int32 → HP → Option (Int32 × HP)) (x3 : Int32) (x4 : Int32) (x5 : Int32) (x6 : Int32) (h : HP) : Option (Int32 × HP) := lt (si h 81 1 ((h.1 81 1) + 1)) fun g9 => gd (inb x5 7) (lt ((([-1, 0, 0, 0, 1, 2, 3] : List Int32).getD (Int32.toNatClampNeg x5) 0) : Int32) fun v12 => lt ((x4 + 1) : Int32) fun v14 => if x6 = 10 then (some ((x3 + (g9.1 81 3)), g9)) else (if x6 = 11 then (bd (rcM (g9.1 81 2) 0 x3 v14 g9) fun v20 g18 => some ((v20 - (g18.1 81 4)), g18)) else (if x6 = 12 then (bd (rcM (g9.1 81 2) 1 x3 v14 g9) fun v24 g22 => some ((v24 * 2), g22)) else (if x6 = 20 then (bd (rcM v12 1 x3 v14 g9) fun v28 g26 => some ((v28 ^^^ 6), g26)) else (if x6 = 30 then (bd (rcM v12 0 (x3 * 3) v14 g9) fun v32 g30 => some (v32, g30)) else (if x6 = 40 then (bd (rcM v12 2 x3 v14 g9) fun v36 g34 => bd (rcM (g34.1 81 2) 1 1 v14 g34) fun v39 g37 => some ((v36 + v39), g37)) else (if x6 = 50 then (bd (rcM v12 0 x3 v14 g9) fun v43 g41 => some ((-v43), g41)) else (if x6 = 51 then (bd (rcM v12 1 (x3 + 1) v14 g9) fun v47 g45 => some (v47, g45)) else (if x6 = 60 then (bd (rcM v12 2 (x3 - (g9.1 81 3)) v14 g9) fun v51 g49 => some (v51, g49)) else (if x6 = 70 then (bd (rcM v12 1 x3 v14 g9) fun v55 g53 => bd (rcM v12 0 2 v14 g53) fun v58 g56 => some ((v55 + v58), g56)) else (if x6 = 71 then (bd (rcM v12 0 x3 v14 g9) fun v62 g60 => some ((v62 ^^^ (g60.1 81 4)), g60)) else ((some (0, g9))))))))))))))
set_option maxHeartbeats 4000000 in
set_option maxRecDepth 100000 in
theorem A_X0_run_J53 (X : XE) (rcM : Int32 → Int32 → Int32 → Int32 → HP → Option (Int32 × HP)) (dM : Nat) (hrM : ∀ (a0 : Int32) (a1 : Int32) (a2 : Int32) (a3 : Int32) (h : HP) (r : Int32) (h1 : HP), rcM a0 a1 a2 a3 h = some (r, h1) → CC mX0_run dM X [.ref (X.1 81), .int a0, .int a1, .int a2, .int a3] h (some (.int r)) h1) (r : Int32) (h' : HP) (x3 : Int32) (x4 : Int32) (x5 : Int32) (x6 : Int32) (h : HP) (hf : f_X0_run_J53 rcM x3 x4 x5 x6 h = some (r, h')) : Run mX0_run (dM + 2) X 53 [(0, .ref (X.1 81)), (3, .int x3), (4, .int x4), (5, .int x5), (6, .int x6)] [] h (some (.int r)) h' := by
  unfold f_X0_run_J53 at hf
  refine r_aload_n 54 rfl 0 rfl rfl (ck DX0_run_0 29 rfl) ?_
  refine r_dup 55 rfl rfl (ck DX0_run_0 30 rfl) ?_
  refine r_geti 58 rfl sh_81 kd_0_1 fl_X0_25 (ck DX0_run_0 31 rfl) ?_
  refine r_iconst 59 rfl ic_1 (ck DX0_run_0 32 rfl) ?_
  refine r_iadd 60 rfl (ck DX0_run_0 33 rfl) ?_
  obtain ⟨g9, e10, hf⟩ := lt_so hf
  refine r_puti 63 rfl sh_81 kd_0_1 fw_X0_25 rfl rfl (ck DX0_run_0 34 rfl) ?_
  refine r_heap e10 ?_
  refine r_gkn 66 rfl rfl (ck DX0_run_0 35 rfl) ?_
  refine r_iload 68 rfl 3 rfl (ck DX0_run_0 36 rfl) ?_
  obtain ⟨b11, hf⟩ := gd_so hf
  refine r_ka 69 rfl (inb_vp b11) (ck DX0_run_0 37 rfl) ?_
  obtain ⟨v12, e13, hf⟩ := lt_so hf
  refine r_top e13 ?_
  refine r_istore (lv' := [(7, .int v12), (0, .ref (X.1 81)), (3, .int x3), (4, .int x4), (5, .int x5), (6, .int x6)]) 71 rfl (ck DX0_run_0 38 rfl) (by decide) rfl ?_
  refine r_iload 73 rfl 3 rfl (ck DX0_run_0 39 rfl) ?_
  refine r_iconst 74 rfl ic_1 (ck DX0_run_0 40 rfl) ?_
  refine r_iadd 75 rfl (ck DX0_run_0 41 rfl) ?_
  obtain ⟨v14, e15, hf⟩ := lt_so hf
  refine r_top e15 ?_
  refine r_istore (lv' := [(8, .int v14), (7, .int v12), (0, .ref (X.1 81)), (3, .int x3), (4, .int x4), (5, .int x5), (6, .int x6)]) 77 rfl (ck DX0_run_0 42 rfl) (by decide) rfl ?_
  refine r_iload 79 rfl 6 rfl (ck DX0_run_0 43 rfl) ?_
  rcases if_so hf with ⟨c16, hf⟩ | ⟨c16, hf⟩
  · refine r_lsw 176 (ck DX0_run_0 44 rfl) (by decide) (by rw [c16] <;> decide) (by decide) ?_
    refine r_iload_n 177 rfl 3 rfl rfl (ck DX0_run_0 45 rfl) ?_
    refine r_aload_n 178 rfl 2 rfl rfl (ck DX0_run_0 46 rfl) ?_
    refine r_geti 181 rfl sh_81 kd_0_3 fl_X0_19 (ck DX0_run_0 47 rfl) ?_
    refine r_iadd 182 rfl (ck DX0_run_0 48 rfl) ?_
    obtain ⟨rfl, rfl⟩ := so2 hf
    exact r_iret rfl rfl (ck DX0_run_0 49 rfl)
  · skip
    rcases if_so hf with ⟨c17, hf⟩ | ⟨c17, hf⟩
    · refine r_lsw 183 (ck DX0_run_0 44 rfl) (by decide) (by rw [c17] <;> decide) (by decide) ?_
      refine r_aload_n 184 rfl 2 rfl rfl (ck DX0_run_1 0 rfl) ?_
      refine r_aload_n 185 rfl 2 rfl rfl (ck DX0_run_1 1 rfl) ?_
      refine r_geti 188 rfl sh_81 kd_0_2 fl_X0_15 (ck DX0_run_1 2 rfl) ?_
      refine r_iconst 189 rfl ic_0 (ck DX0_run_1 3 rfl) ?_
      refine r_iload_n 190 rfl 3 rfl rfl (ck DX0_run_1 4 rfl) ?_
      refine r_iload 192 rfl 0 rfl (ck DX0_run_1 5 rfl) ?_
      obtain ⟨v20, g18, e19, hf⟩ := bd_so hf
      refine r_callVi 195 rfl (hrM (g9.1 81 2) 0 x3 v14 g9 v20 g18 e19) (by omega) cw_X0_28 sh_81 cl_0 rfl rfl (Nat.le_of_ble_eq_true rfl) (ck DX0_run_1 6 rfl) ?_
      refine r_aload_n 196 rfl 2 rfl rfl (ck DX0_run_1 7 rfl) ?_
      refine r_geti 199 rfl sh_81 kd_0_4 fl_X0_22 (ck DX0_run_1 8 rfl) ?_
      refine r_isub 200 rfl (ck DX0_run_1 9 rfl) ?_
      obtain ⟨rfl, rfl⟩ := so2 hf
      exact r_iret rfl rfl (ck DX0_run_1 10 rfl)
    · skip
      rcases if_so hf with ⟨c21, hf⟩ | ⟨c21, hf⟩
      · refine r_lsw 201 (ck DX0_run_0 44 rfl) (by decide) (by rw [c21] <;> decide) (by decide) ?_
        refine r_aload_n 202 rfl 2 rfl rfl (ck DX0_run_1 11 rfl) ?_
        refine r_aload_n 203 rfl 2 rfl rfl (ck DX0_run_1 12 rfl) ?_
        refine r_geti 206 rfl sh_81 kd_0_2 fl_X0_15 (ck DX0_run_1 13 rfl) ?_
        refine r_iconst 207 rfl ic_1 (ck DX0_run_1 14 rfl) ?_
        refine r_iload_n 208 rfl 3 rfl rfl (ck DX0_run_1 15 rfl) ?_
        refine r_iload 210 rfl 0 rfl (ck DX0_run_1 16 rfl) ?_
        obtain ⟨v24, g22, e23, hf⟩ := bd_so hf
        refine r_callVi 213 rfl (hrM (g9.1 81 2) 1 x3 v14 g9 v24 g22 e23) (by omega) cw_X0_28 sh_81 cl_0 rfl rfl (Nat.le_of_ble_eq_true rfl) (ck DX0_run_1 17 rfl) ?_
        refine r_iconst 214 rfl ic_2 (ck DX0_run_1 18 rfl) ?_
        refine r_imul 215 rfl (ck DX0_run_1 19 rfl) ?_
        obtain ⟨rfl, rfl⟩ := so2 hf
        exact r_iret rfl rfl (ck DX0_run_1 20 rfl)
      · skip
        rcases if_so hf with ⟨c25, hf⟩ | ⟨c25, hf⟩
        · refine r_lsw 216 (ck DX0_run_0 44 rfl) (by decide) (by rw [c25] <;> decide) (by decide) ?_
          refine r_aload_n 217 rfl 2 rfl rfl (ck DX0_run_1 21 rfl) ?_
          refine r_iload 219 rfl 1 rfl (ck DX0_run_1 22 rfl) ?_
          refine r_iconst 220 rfl ic_1 (ck DX0_run_1 23 rfl) ?_
          refine r_iload_n 221 rfl 3 rfl rfl (ck DX0_run_1 24 rfl) ?_
          refine r_iload 223 rfl 0 rfl (ck DX0_run_1 25 rfl) ?_
          obtain ⟨v28, g26, e27, hf⟩ := bd_so hf
          refine r_callVi 226 rfl (hrM v12 1 x3 v14 g9 v28 g26 e27) (by omega) cw_X0_28 sh_81 cl_0 rfl rfl (Nat.le_of_ble_eq_true rfl) (ck DX0_run_1 26 rfl) ?_
          refine r_bipush 228 rfl bp_6 (ck DX0_run_1 27 rfl) ?_
          refine r_ixor 229 rfl (ck DX0_run_1 28 rfl) ?_
          obtain ⟨rfl, rfl⟩ := so2 hf
          exact r_iret rfl rfl (ck DX0_run_1 29 rfl)
        · skip
          rcases if_so hf with ⟨c29, hf⟩ | ⟨c29, hf⟩
          · refine r_lsw 230 (ck DX0_run_0 44 rfl) (by decide) (by rw [c29] <;> decide) (by decide) ?_
            refine r_aload_n 231 rfl 2 rfl rfl (ck DX0_run_1 30 rfl) ?_
            refine r_iload 233 rfl 1 rfl (ck DX0_run_1 31 rfl) ?_
            refine r_iconst 234 rfl ic_0 (ck DX0_run_1 32 rfl) ?_
            refine r_iload_n 235 rfl 3 rfl rfl (ck DX0_run_1 33 rfl) ?_
            refine r_iconst 236 rfl ic_3 (ck DX0_run_1 34 rfl) ?_
            refine r_imul 237 rfl (ck DX0_run_1 35 rfl) ?_
            refine r_iload 239 rfl 0 rfl (ck DX0_run_1 36 rfl) ?_
            obtain ⟨v32, g30, e31, hf⟩ := bd_so hf
            refine r_callVi 242 rfl (hrM v12 0 (x3 * 3) v14 g9 v32 g30 e31) (by omega) cw_X0_28 sh_81 cl_0 rfl rfl (Nat.le_of_ble_eq_true rfl) (ck DX0_run_1 37 rfl) ?_
            obtain ⟨rfl, rfl⟩ := so2 hf
            exact r_iret rfl rfl (ck DX0_run_1 38 rfl)
          · skip
            rcases if_so hf with ⟨c33, hf⟩ | ⟨c33, hf⟩
            · refine r_lsw 243 (ck DX0_run_0 44 rfl) (by decide) (by rw [c33] <;> decide) (by decide) ?_
              refine r_aload_n 244 rfl 2 rfl rfl (ck DX0_run_1 39 rfl) ?_
              refine r_iload 246 rfl 1 rfl (ck DX0_run_1 40 rfl) ?_
              refine r_iconst 247 rfl ic_2 (ck DX0_run_1 41 rfl) ?_
              refine r_iload_n 248 rfl 3 rfl rfl (ck DX0_run_1 42 rfl) ?_
              refine r_iload 250 rfl 0 rfl (ck DX0_run_1 43 rfl) ?_
              obtain ⟨v36, g34, e35, hf⟩ := bd_so hf
              refine r_callVi 253 rfl (hrM v12 2 x3 v14 g9 v36 g34 e35) (by omega) cw_X0_28 sh_81 cl_0 rfl rfl (Nat.le_of_ble_eq_true rfl) (ck DX0_run_1 44 rfl) ?_
              refine r_aload_n 254 rfl 2 rfl rfl (ck DX0_run_1 45 rfl) ?_
              refine r_aload_n 255 rfl 2 rfl rfl (ck DX0_run_1 46 rfl) ?_
              refine r_geti 258 rfl sh_81 kd_0_2 fl_X0_15 (ck DX0_run_1 47 rfl) ?_
              refine r_iconst 259 rfl ic_1 (ck DX0_run_1 48 rfl) ?_
              refine r_iconst 260 rfl ic_1 (ck DX0_run_1 49 rfl) ?_
              refine r_iload 262 rfl 0 rfl (ck DX0_run_2 0 rfl) ?_
              obtain ⟨v39, g37, e38, hf⟩ := bd_so hf
              refine r_callVi 265 rfl (hrM (g34.1 81 2) 1 1 v14 g34 v39 g37 e38) (by omega) cw_X0_28 sh_81 cl_0 rfl rfl (Nat.le_of_ble_eq_true rfl) (ck DX0_run_2 1 rfl) ?_
              refine r_iadd 266 rfl (ck DX0_run_2 2 rfl) ?_
              obtain ⟨rfl, rfl⟩ := so2 hf
              exact r_iret rfl rfl (ck DX0_run_2 3 rfl)
            · skip
              rcases if_so hf with ⟨c40, hf⟩ | ⟨c40, hf⟩
              · refine r_lsw 267 (ck DX0_run_0 44 rfl) (by decide) (by rw [c40] <;> decide) (by decide) ?_
                refine r_aload_n 268 rfl 2 rfl rfl (ck DX0_run_2 4 rfl) ?_
                refine r_iload 270 rfl 1 rfl (ck DX0_run_2 5 rfl) ?_
                refine r_iconst 271 rfl ic_0 (ck DX0_run_2 6 rfl) ?_
                refine r_iload_n 272 rfl 3 rfl rfl (ck DX0_run_2 7 rfl) ?_
                refine r_iload 274 rfl 0 rfl (ck DX0_run_2 8 rfl) ?_
                obtain ⟨v43, g41, e42, hf⟩ := bd_so hf
                refine r_callVi 277 rfl (hrM v12 0 x3 v14 g9 v43 g41 e42) (by omega) cw_X0_28 sh_81 cl_0 rfl rfl (Nat.le_of_ble_eq_true rfl) (ck DX0_run_2 9 rfl) ?_
                refine r_ineg 278 rfl (ck DX0_run_2 10 rfl) ?_
                obtain ⟨rfl, rfl⟩ := so2 hf
                exact r_iret rfl rfl (ck DX0_run_2 11 rfl)
              · skip
                rcases if_so hf with ⟨c44, hf⟩ | ⟨c44, hf⟩
                · refine r_lsw 279 (ck DX0_run_0 44 rfl) (by decide) (by rw [c44] <;> decide) (by decide) ?_
                  refine r_aload_n 280 rfl 2 rfl rfl (ck DX0_run_2 12 rfl) ?_
                  refine r_iload 282 rfl 1 rfl (ck DX0_run_2 13 rfl) ?_
                  refine r_iconst 283 rfl ic_1 (ck DX0_run_2 14 rfl) ?_
                  refine r_iload_n 284 rfl 3 rfl rfl (ck DX0_run_2 15 rfl) ?_
                  refine r_iconst 285 rfl ic_1 (ck DX0_run_2 16 rfl) ?_
                  refine r_iadd 286 rfl (ck DX0_run_2 17 rfl) ?_
                  refine r_iload 288 rfl 0 rfl (ck DX0_run_2 18 rfl) ?_
                  obtain ⟨v47, g45, e46, hf⟩ := bd_so hf
                  refine r_callVi 291 rfl (hrM v12 1 (x3 + 1) v14 g9 v47 g45 e46) (by omega) cw_X0_28 sh_81 cl_0 rfl rfl (Nat.le_of_ble_eq_true rfl) (ck DX0_run_2 19 rfl) ?_
                  obtain ⟨rfl, rfl⟩ := so2 hf
                  exact r_iret rfl rfl (ck DX0_run_2 20 rfl)
                · skip
                  rcases if_so hf with ⟨c48, hf⟩ | ⟨c48, hf⟩
                  · refine r_lsw 292 (ck DX0_run_0 44 rfl) (by decide) (by rw [c48] <;> decide) (by decide) ?_
                    refine r_aload_n 293 rfl 2 rfl rfl (ck DX0_run_2 21 rfl) ?_
                    refine r_iload 295 rfl 1 rfl (ck DX0_run_2 22 rfl) ?_
                    refine r_iconst 296 rfl ic_2 (ck DX0_run_2 23 rfl) ?_
                    refine r_iload_n 297 rfl 3 rfl rfl (ck DX0_run_2 24 rfl) ?_
                    refine r_aload_n 298 rfl 2 rfl rfl (ck DX0_run_2 25 rfl) ?_
                    refine r_geti 301 rfl sh_81 kd_0_3 fl_X0_19 (ck DX0_run_2 26 rfl) ?_
                    refine r_isub 302 rfl (ck DX0_run_2 27 rfl) ?_
                    refine r_iload 304 rfl 0 rfl (ck DX0_run_2 28 rfl) ?_
                    obtain ⟨v51, g49, e50, hf⟩ := bd_so hf
                    refine r_callVi 307 rfl (hrM v12 2 (x3 - (g9.1 81 3)) v14 g9 v51 g49 e50) (by omega) cw_X0_28 sh_81 cl_0 rfl rfl (Nat.le_of_ble_eq_true rfl) (ck DX0_run_2 29 rfl) ?_
                    obtain ⟨rfl, rfl⟩ := so2 hf
                    exact r_iret rfl rfl (ck DX0_run_2 30 rfl)
                  · skip
                    rcases if_so hf with ⟨c52, hf⟩ | ⟨c52, hf⟩
                    · refine r_lsw 308 (ck DX0_run_0 44 rfl) (by decide) (by rw [c52] <;> decide) (by decide) ?_
                      refine r_aload_n 309 rfl 2 rfl rfl (ck DX0_run_2 31 rfl) ?_
                      refine r_iload 311 rfl 1 rfl (ck DX0_run_2 32 rfl) ?_
                      refine r_iconst 312 rfl ic_1 (ck DX0_run_2 33 rfl) ?_
                      refine r_iload_n 313 rfl 3 rfl rfl (ck DX0_run_2 34 rfl) ?_
                      refine r_iload 315 rfl 0 rfl (ck DX0_run_2 35 rfl) ?_
                      obtain ⟨v55, g53, e54, hf⟩ := bd_so hf
                      refine r_callVi 318 rfl (hrM v12 1 x3 v14 g9 v55 g53 e54) (by omega) cw_X0_28 sh_81 cl_0 rfl rfl (Nat.le_of_ble_eq_true rfl) (ck DX0_run_2 36 rfl) ?_
                      refine r_aload_n 319 rfl 2 rfl rfl (ck DX0_run_2 37 rfl) ?_
                      refine r_iload 321 rfl 1 rfl (ck DX0_run_2 38 rfl) ?_
                      refine r_iconst 322 rfl ic_0 (ck DX0_run_2 39 rfl) ?_
                      refine r_iconst 323 rfl ic_2 (ck DX0_run_2 40 rfl) ?_
                      refine r_iload 325 rfl 0 rfl (ck DX0_run_2 41 rfl) ?_
                      obtain ⟨v58, g56, e57, hf⟩ := bd_so hf
                      refine r_callVi 328 rfl (hrM v12 0 2 v14 g53 v58 g56 e57) (by omega) cw_X0_28 sh_81 cl_0 rfl rfl (Nat.le_of_ble_eq_true rfl) (ck DX0_run_2 42 rfl) ?_
                      refine r_iadd 329 rfl (ck DX0_run_2 43 rfl) ?_
                      obtain ⟨rfl, rfl⟩ := so2 hf
                      exact r_iret rfl rfl (ck DX0_run_2 44 rfl)
                    · skip
                      rcases if_so hf with ⟨c59, hf⟩ | ⟨c59, hf⟩
                      · refine r_lsw 330 (ck DX0_run_0 44 rfl) (by decide) (by rw [c59] <;> decide) (by decide) ?_
                        refine r_aload_n 331 rfl 2 rfl rfl (ck DX0_run_2 45 rfl) ?_
                        refine r_iload 333 rfl 1 rfl (ck DX0_run_2 46 rfl) ?_
                        refine r_iconst 334 rfl ic_0 (ck DX0_run_2 47 rfl) ?_
                        refine r_iload_n 335 rfl 3 rfl rfl (ck DX0_run_2 48 rfl) ?_
                        refine r_iload 337 rfl 0 rfl (ck DX0_run_2 49 rfl) ?_
                        obtain ⟨v62, g60, e61, hf⟩ := bd_so hf
                        refine r_callVi 340 rfl (hrM v12 0 x3 v14 g9 v62 g60 e61) (by omega) cw_X0_28 sh_81 cl_0 rfl rfl (Nat.le_of_ble_eq_true rfl) (ck DX0_run_3 0 rfl) ?_
                        refine r_aload_n 341 rfl 2 rfl rfl (ck DX0_run_3 1 rfl) ?_
                        refine r_geti 344 rfl sh_81 kd_0_4 fl_X0_22 (ck DX0_run_3 2 rfl) ?_
                        refine r_ixor 345 rfl (ck DX0_run_3 3 rfl) ?_
                        obtain ⟨rfl, rfl⟩ := so2 hf
                        exact r_iret rfl rfl (ck DX0_run_3 4 rfl)
                      · skip
                        refine r_lsw 346 (ck DX0_run_0 44 rfl) (by decide) (lsw_d (by intro q hq; simp at hq; rcases hq with rfl | rfl | rfl | rfl | rfl | rfl | rfl | rfl | rfl | rfl | rfl <;> first | exact ne_int c16 | exact ne_int c17 | exact ne_int c21 | exact ne_int c25 | exact ne_int c29 | exact ne_int c33 | exact ne_int c40 | exact ne_int c44 | exact ne_int c48 | exact ne_int c52 | exact ne_int c59)) (by decide) ?_
                        refine r_iconst 347 rfl ic_0 (ck DX0_run_3 5 rfl) ?_
                        obtain ⟨rfl, rfl⟩ := so2 hf
                        exact r_iret rfl rfl (ck DX0_run_3 6 rfl)
def f_X0_run_B (rcM : Int32 → Int32 → Int32 → Int32 → HP → Option (Int32 × HP)) (x1 : Int32) (x2 : Int32) (x3 : Int32) (x4 : Int32) (h : HP) : Option (Int32 × HP) := bo (f_X0_ownerOf x1 x2 h) fun v1 => if v1 < 0 then (some (0, h)) else (if x4 ≤ 40 then (gd (inb ((3 * v1) + x2) 21) (lt ((([10, 11, 12, 0, 20, 0, 30, 0, 0, 0, 0, 40, 50, 51, 0, 0, 0, 60, 71, 70, 0] : List Int32).getD (Int32.toNatClampNeg ((3 * v1) + x2)) 0) : Int32) fun v6 => if (20 : Int32) ≤ (h.1 81 1) then (f_X0_run_J53 rcM x3 x4 v1 v6 h) else (gd (inb (h.1 81 1) 20) (lt (si h 82 (Int32.toNatClampNeg (h.1 81 1)) v6) fun g64 => f_X0_run_J53 rcM x3 x4 v1 v6 g64)))) else (some (0, h)))
set_option maxHeartbeats 4000000 in
set_option maxRecDepth 100000 in
theorem A_X0_run_B (X : XE) (rcM : Int32 → Int32 → Int32 → Int32 → HP → Option (Int32 × HP)) (dM : Nat) (hrM : ∀ (a0 : Int32) (a1 : Int32) (a2 : Int32) (a3 : Int32) (h : HP) (r : Int32) (h1 : HP), rcM a0 a1 a2 a3 h = some (r, h1) → CC mX0_run dM X [.ref (X.1 81), .int a0, .int a1, .int a2, .int a3] h (some (.int r)) h1) (x1 : Int32) (x2 : Int32) (x3 : Int32) (x4 : Int32) (h : HP) (r : Int32) (h' : HP) (hf : f_X0_run_B rcM x1 x2 x3 x4 h = some (r, h')) : CC mX0_run (dM + 2) X [.ref (X.1 81), .int x1, .int x2, .int x3, .int x4] h (some (.int r)) h' := by
  refine CC_of rfl (Nat.le_of_ble_eq_true rfl) ?_
  show Run mX0_run (dM + 2) X 0 [(0, .ref (X.1 81)), (1, .int x1), (2, .int x2), (3, .int x3), (4, .int x4)] [] h (some (.int r)) h'
  unfold f_X0_run_B at hf
  refine r_iload_n 1 rfl 1 rfl rfl (ck DX0_run_0 0 rfl) ?_
  refine r_iload_n 2 rfl 2 rfl rfl (ck DX0_run_0 1 rfl) ?_
  obtain ⟨v1, e2, hf⟩ := bo_so hf
  refine r_callSi 5 rfl (A_X0_ownerOf X x1 x2 h v1 e2) (by omega) cs_X0_32 rfl rfl (Nat.le_of_ble_eq_true rfl) (ck DX0_run_0 2 rfl) ?_
  refine r_istore (lv' := [(5, .int v1), (0, .ref (X.1 81)), (1, .int x1), (2, .int x2), (3, .int x3), (4, .int x4)]) 7 rfl (ck DX0_run_0 3 rfl) (by decide) rfl ?_
  refine r_iload 9 rfl 0 rfl (ck DX0_run_0 4 rfl) ?_
  rcases if_so hf with ⟨c3, hf⟩ | ⟨c3, hf⟩
  · refine r_if_lt_t 19 (ck DX0_run_0 5 rfl) (by decide) c3 ?_
    refine r_iconst 20 rfl ic_0 (ck DX0_run_0 9 rfl) ?_
    obtain ⟨rfl, rfl⟩ := so2 hf
    exact r_iret rfl rfl (ck DX0_run_0 10 rfl)
  · refine r_if_lt_f 12 rfl 19 (ck DX0_run_0 5 rfl) (by decide) c3 ?_
    refine r_iload 14 rfl 5 rfl (ck DX0_run_0 6 rfl) ?_
    refine r_bipush 16 rfl bp_40 (ck DX0_run_0 7 rfl) ?_
    rcases if_so hf with ⟨c4, hf⟩ | ⟨c4, hf⟩
    · refine r_icmp_le_t 21 (ck DX0_run_0 8 rfl) (by decide) c4 ?_
      refine r_gbo 24 rfl gs_X0_36 (ck DX0_run_0 11 rfl) ?_
      refine r_iconst 25 rfl ic_3 (ck DX0_run_0 12 rfl) ?_
      refine r_iload 27 rfl 0 rfl (ck DX0_run_0 13 rfl) ?_
      refine r_imul 28 rfl (ck DX0_run_0 14 rfl) ?_
      refine r_iload_n 29 rfl 3 rfl rfl (ck DX0_run_0 15 rfl) ?_
      refine r_iadd 30 rfl (ck DX0_run_0 16 rfl) ?_
      obtain ⟨b5, hf⟩ := gd_so hf
      refine r_bo 31 rfl (inb_vp b5) (ck DX0_run_0 17 rfl) ?_
      obtain ⟨v6, e7, hf⟩ := lt_so hf
      refine r_top e7 ?_
      refine r_istore (lv' := [(6, .int v6), (5, .int v1), (0, .ref (X.1 81)), (1, .int x1), (2, .int x2), (3, .int x3), (4, .int x4)]) 33 rfl (ck DX0_run_0 18 rfl) (by decide) rfl ?_
      refine r_aload_n 34 rfl 2 rfl rfl (ck DX0_run_0 19 rfl) ?_
      refine r_geti 37 rfl sh_81 kd_0_1 fl_X0_25 (ck DX0_run_0 20 rfl) ?_
      refine r_bipush 39 rfl bp_20 (ck DX0_run_0 21 rfl) ?_
      rcases if_so hf with ⟨c8, hf⟩ | ⟨c8, hf⟩
      · refine r_icmp_ge_t 53 (ck DX0_run_0 22 rfl) (by decide) c8 ?_
        refine r_sub (lv' := [(0, .ref (X.1 81)), (3, .int x3), (4, .int x4), (5, .int v1), (6, .int v6)]) [2, 5, 6, 1, 0] rfl ?_
        exact A_X0_run_J53 X rcM dM hrM _ _ x3 x4 v1 v6 h hf
      · refine r_icmp_ge_f 42 rfl 53 (ck DX0_run_0 22 rfl) (by decide) c8 ?_
        refine r_aload_n 43 rfl 2 rfl rfl (ck DX0_run_0 23 rfl) ?_
        refine r_getr (q := 82) 46 rfl (lq_0_0 81) sh_81 kd_0_0 fl_X0_11 (ck DX0_run_0 24 rfl) ?_
        refine r_aload_n 47 rfl 2 rfl rfl (ck DX0_run_0 25 rfl) ?_
        refine r_geti 50 rfl sh_81 kd_0_1 fl_X0_25 (ck DX0_run_0 26 rfl) ?_
        refine r_iload 52 rfl 0 rfl (ck DX0_run_0 27 rfl) ?_
        obtain ⟨b63, hf⟩ := gd_so hf
        obtain ⟨g64, e65, hf⟩ := lt_so hf
        refine r_iast 53 rfl sh_82 (inb_vp b63) (ck DX0_run_0 28 rfl) ?_
        refine r_heap e65 ?_
        refine r_sub (lv' := [(0, .ref (X.1 81)), (3, .int x3), (4, .int x4), (5, .int v1), (6, .int v6)]) [2, 5, 6, 1, 0] rfl ?_
        exact A_X0_run_J53 X rcM dM hrM _ _ x3 x4 v1 v6 g64 hf
    · refine r_icmp_le_f 19 rfl 21 (ck DX0_run_0 8 rfl) (by decide) c4 ?_
      refine r_iconst 20 rfl ic_0 (ck DX0_run_0 9 rfl) ?_
      obtain ⟨rfl, rfl⟩ := so2 hf
      exact r_iret rfl rfl (ck DX0_run_0 10 rfl)
def f_X0_run : Nat → Int32 → Int32 → Int32 → Int32 → HP → Option (Int32 × HP)
  | 0, _, _, _, _, _ => none
  | n + 1, x1, x2, x3, x4, h => f_X0_run_B (f_X0_run n) x1 x2 x3 x4 h
theorem A_X0_run (X : XE) : ∀ (n : Nat) (a0 : Int32) (a1 : Int32) (a2 : Int32) (a3 : Int32) (h : HP) (r : Int32) (h1 : HP), f_X0_run n a0 a1 a2 a3 h = some (r, h1) → CC mX0_run (n * 2) X [.ref (X.1 81), .int a0, .int a1, .int a2, .int a3] h (some (.int r)) h1 := by
  intro n
  induction n with
  | zero => intro a0 a1 a2 a3 h r h1 hf; cases hf
  | succ n ih =>
    intro a0 a1 a2 a3 h r h1 hf
    rw [f_X0_run] at hf
    have q := A_X0_run_B X (f_X0_run n) (n * 2) ih a0 a1 a2 a3 h r h1 hf
    have e : (n + 1) * 2 = n * 2 + 2 := by omega
    rw [e]
    exact q
-- X0_start
def f_X0_start (x1 : Int32) (x2 : Int32) (x3 : Int32) (x4 : Int32) (x5 : Int32) (h : HP) : Option (Int32 × HP) := lt (si h 81 2 x1) fun g1 => lt (si g1 81 3 x2) fun g3 => lt (si g3 81 4 x3) fun g5 => lt (si g5 81 1 0) fun g7 => bd (f_X0_run 50 (g7.1 81 2) x4 x5 0 g7) fun v11 g9 => some (v11, g9)
set_option maxHeartbeats 4000000 in
set_option maxRecDepth 100000 in
theorem A_X0_start (X : XE) (x1 : Int32) (x2 : Int32) (x3 : Int32) (x4 : Int32) (x5 : Int32) (h : HP) (r : Int32) (h' : HP) (hf : f_X0_start x1 x2 x3 x4 x5 h = some (r, h')) : CC mX0_start 101 X [.ref (X.1 81), .int x1, .int x2, .int x3, .int x4, .int x5] h (some (.int r)) h' := by
  refine CC_of rfl (Nat.le_of_ble_eq_true rfl) ?_
  show Run mX0_start 101 X 0 [(0, .ref (X.1 81)), (1, .int x1), (2, .int x2), (3, .int x3), (4, .int x4), (5, .int x5)] [] h (some (.int r)) h'
  unfold f_X0_start at hf
  refine r_aload_n 1 rfl 0 rfl rfl (ck DX0_start_0 0 rfl) ?_
  refine r_iload_n 2 rfl 1 rfl rfl (ck DX0_start_0 1 rfl) ?_
  obtain ⟨g1, e2, hf⟩ := lt_so hf
  refine r_puti 5 rfl sh_81 kd_0_2 fw_X0_15 rfl rfl (ck DX0_start_0 2 rfl) ?_
  refine r_heap e2 ?_
  refine r_aload_n 6 rfl 0 rfl rfl (ck DX0_start_0 3 rfl) ?_
  refine r_iload_n 7 rfl 2 rfl rfl (ck DX0_start_0 4 rfl) ?_
  obtain ⟨g3, e4, hf⟩ := lt_so hf
  refine r_puti 10 rfl sh_81 kd_0_3 fw_X0_19 rfl rfl (ck DX0_start_0 5 rfl) ?_
  refine r_heap e4 ?_
  refine r_aload_n 11 rfl 0 rfl rfl (ck DX0_start_0 6 rfl) ?_
  refine r_iload_n 12 rfl 3 rfl rfl (ck DX0_start_0 7 rfl) ?_
  obtain ⟨g5, e6, hf⟩ := lt_so hf
  refine r_puti 15 rfl sh_81 kd_0_4 fw_X0_22 rfl rfl (ck DX0_start_0 8 rfl) ?_
  refine r_heap e6 ?_
  refine r_aload_n 16 rfl 0 rfl rfl (ck DX0_start_0 9 rfl) ?_
  refine r_iconst 17 rfl ic_0 (ck DX0_start_0 10 rfl) ?_
  obtain ⟨g7, e8, hf⟩ := lt_so hf
  refine r_puti 20 rfl sh_81 kd_0_1 fw_X0_25 rfl rfl (ck DX0_start_0 11 rfl) ?_
  refine r_heap e8 ?_
  refine r_aload_n 21 rfl 0 rfl rfl (ck DX0_start_0 12 rfl) ?_
  refine r_aload_n 22 rfl 0 rfl rfl (ck DX0_start_0 13 rfl) ?_
  refine r_geti 25 rfl sh_81 kd_0_2 fl_X0_15 (ck DX0_start_0 14 rfl) ?_
  refine r_iload 27 rfl 4 rfl (ck DX0_start_0 15 rfl) ?_
  refine r_iload 29 rfl 5 rfl (ck DX0_start_0 16 rfl) ?_
  refine r_iconst 30 rfl ic_0 (ck DX0_start_0 17 rfl) ?_
  obtain ⟨v11, g9, e10, hf⟩ := bd_so hf
  refine r_callVi 33 rfl (A_X0_run X 50 (g7.1 81 2) x4 x5 0 g7 v11 g9 e10) (by omega) cw_X0_28 sh_81 cl_0 rfl rfl (Nat.le_of_ble_eq_true rfl) (ck DX0_start_0 18 rfl) ?_
  obtain ⟨rfl, rfl⟩ := so2 hf
  exact r_iret rfl rfl (ck DX0_start_0 19 rfl)
-- X2_heart
def f_X2_heart_L83 (o : Nat) (q1 : Nat) : Nat → Int32 → Int32 → Int32 → HP → Option (Int32 × HP)
  | 0, _, _, _, _ => none
  | n + 1, x3, x4, x5, h => if (h.1 o 4) ≤ x5 then (some (x3, h)) else (gd (inb x5 100) (lt ((h.1 (o + 1) (Int32.toNatClampNeg x5)) : Int32) fun v25 => if v25 = 33 then (lt ((x4 ^^^ 1) : Int32) fun v28 => lt (x5 + 1 : Int32) fun v30 => f_X2_heart_L83 o q1 n x3 v28 v30 h) else (if v25 = 38 then (lt (((((Int32.toUInt32 x4) >>> ((Int32.toUInt32 1) &&& Int32.toUInt32 31)).toInt32) &&& (x4 ||| (-2))) : Int32) fun v33 => lt (x5 + 1 : Int32) fun v35 => f_X2_heart_L83 o q1 n x3 v33 v35 h) else (if v25 = 59 then (if (x4 &&& 1) = 1 then (gd (inb x5 100) (lt ((x3 + (h.1 (o + 3) (Int32.toNatClampNeg x5))) : Int32) fun v40 => lt ((((Int32.toUInt32 x4) >>> ((Int32.toUInt32 1) &&& Int32.toUInt32 31)).toInt32) : Int32) fun v42 => lt (x5 + 1 : Int32) fun v44 => f_X2_heart_L83 o q1 n v40 v42 v44 h)) else (lt ((x3 + 0) : Int32) fun v46 => lt ((((Int32.toUInt32 x4) >>> ((Int32.toUInt32 1) &&& Int32.toUInt32 31)).toInt32) : Int32) fun v48 => lt (x5 + 1 : Int32) fun v50 => f_X2_heart_L83 o q1 n v46 v48 v50 h)) else (if v25 = 60 then (gd (inb x5 100) (gd (inb (h.1 (o + 2) (Int32.toNatClampNeg x5)) 6) (gd (inb x5 100) (if (h.1 (o + 3) (Int32.toNatClampNeg x5)) ≤ (h.1 (o + 4) (Int32.toNatClampNeg (h.1 (o + 2) (Int32.toNatClampNeg x5)))) then (lt (((x4 <<< (1 &&& 31)) ||| 0) : Int32) fun v57 => lt (x5 + 1 : Int32) fun v59 => f_X2_heart_L83 o q1 n x3 v57 v59 h) else (lt (((x4 <<< (1 &&& 31)) ||| 1) : Int32) fun v61 => lt (x5 + 1 : Int32) fun v63 => f_X2_heart_L83 o q1 n x3 v61 v63 h))))) else (if v25 = 61 then (gd (inb x5 100) (gd (inb (h.1 (o + 2) (Int32.toNatClampNeg x5)) 6) (gd (inb x5 100) (if (h.1 (o + 4) (Int32.toNatClampNeg (h.1 (o + 2) (Int32.toNatClampNeg x5)))) = (h.1 (o + 3) (Int32.toNatClampNeg x5)) then (lt (((x4 <<< (1 &&& 31)) ||| 1) : Int32) fun v70 => lt (x5 + 1 : Int32) fun v72 => f_X2_heart_L83 o q1 n x3 v70 v72 h) else (lt (((x4 <<< (1 &&& 31)) ||| 0) : Int32) fun v74 => lt (x5 + 1 : Int32) fun v76 => f_X2_heart_L83 o q1 n x3 v74 v76 h))))) else (if v25 = 124 then (lt (((((Int32.toUInt32 x4) >>> ((Int32.toUInt32 1) &&& Int32.toUInt32 31)).toInt32) ||| (x4 &&& 1)) : Int32) fun v79 => lt (x5 + 1 : Int32) fun v81 => f_X2_heart_L83 o q1 n x3 v79 v81 h) else ((gd (inb x5 100) (gd (inb (h.1 (o + 2) (Int32.toNatClampNeg x5)) 6) (gd (inb x5 100) (if (h.1 (o + 4) (Int32.toNatClampNeg (h.1 (o + 2) (Int32.toNatClampNeg x5)))) ≤ (h.1 (o + 3) (Int32.toNatClampNeg x5)) then (lt (((x4 <<< (1 &&& 31)) ||| 0) : Int32) fun v87 => lt (x5 + 1 : Int32) fun v89 => f_X2_heart_L83 o q1 n x3 v87 v89 h) else (lt (((x4 <<< (1 &&& 31)) ||| 1) : Int32) fun v91 => lt (x5 + 1 : Int32) fun v93 => f_X2_heart_L83 o q1 n x3 v91 v93 h)))))))))))))
set_option maxHeartbeats 4000000 in
set_option maxRecDepth 100000 in
theorem A_X2_heart_L83 (X : XE) (o : Nat) (ho : OC o) (q1 : Nat) (hq1 : DK q1) (r : Int32) (h' : HP) : ∀ (n : Nat) (x3 : Int32) (x4 : Int32) (x5 : Int32) (h : HP), f_X2_heart_L83 o q1 n x3 x4 x5 h = some (r, h') → Run mX2_heart 1 X 83 [(0, .ref (X.1 o)), (3, .int x3), (4, .int x4), (5, .int x5)] [] h (some (.int r)) h' := by
  intro n
  induction n with
  | zero => intro x3 x4 x5 h hf; cases hf
  | succ n ih =>
    intro x3 x4 x5 h hf
    rw [f_X2_heart_L83] at hf
    refine r_iload 85 rfl 3 rfl (ck DX2_heart_1 5 rfl) ?_
    refine r_aload_n 86 rfl 0 rfl rfl (ck DX2_heart_1 6 rfl) ?_
    refine r_geti 89 rfl ho.1 kd_2_4 fl_X2_25 (ck DX2_heart_1 7 rfl) ?_
    rcases if_so hf with ⟨c23, hf⟩ | ⟨c23, hf⟩
    · refine r_icmp_ge_t 339 (ck DX2_heart_1 8 rfl) (by decide) c23 ?_
      refine r_iload_n 340 rfl 1 rfl rfl (ck DX2_heart_3 20 rfl) ?_
      obtain ⟨rfl, rfl⟩ := so2 hf
      exact r_iret rfl rfl (ck DX2_heart_3 21 rfl)
    · refine r_icmp_ge_f 92 rfl 339 (ck DX2_heart_1 8 rfl) (by decide) c23 ?_
      refine r_aload_n 93 rfl 0 rfl rfl (ck DX2_heart_1 9 rfl) ?_
      refine r_getr (q := o + 1) 96 rfl (lq_2_0 o) ho.1 kd_2_0 fl_X2_9 (ck DX2_heart_1 10 rfl) ?_
      refine r_iload 98 rfl 3 rfl (ck DX2_heart_1 11 rfl) ?_
      obtain ⟨b24, hf⟩ := gd_so hf
      refine r_iald 99 rfl ho.2.1 (inb_vp b24) (ck DX2_heart_1 12 rfl) ?_
      obtain ⟨v25, e26, hf⟩ := lt_so hf
      refine r_top e26 ?_
      rcases if_so hf with ⟨c27, hf⟩ | ⟨c27, hf⟩
      · refine r_lsw 156 (ck DX2_heart_1 13 rfl) (by decide) (by rw [c27] <;> decide) (by decide) ?_
        refine r_iload 158 rfl 2 rfl (ck DX2_heart_1 14 rfl) ?_
        refine r_iconst 159 rfl ic_1 (ck DX2_heart_1 15 rfl) ?_
        refine r_ixor 160 rfl (ck DX2_heart_1 16 rfl) ?_
        obtain ⟨v28, e29, hf⟩ := lt_so hf
        refine r_top e29 ?_
        refine r_istore (lv' := [(4, .int v28), (0, .ref (X.1 o)), (3, .int x3), (5, .int x5)]) 162 rfl (ck DX2_heart_1 17 rfl) (by decide) rfl ?_
        refine r_goto 333 (ck DX2_heart_1 18 rfl) (by decide) ?_
        obtain ⟨v30, e31, hf⟩ := lt_so hf
        refine r_iinc (lv' := [(5, .int v30), (4, .int v28), (0, .ref (X.1 o)), (3, .int x3)]) 336 rfl 3 (ck DX2_heart_3 18 rfl) rfl (by rw [e31, ic_1]) (by decide) rfl ?_
        refine r_goto 83 (ck DX2_heart_3 19 rfl) (by decide) ?_
        refine r_sub (lv' := [(0, .ref (X.1 o)), (3, .int x3), (4, .int v28), (5, .int v30)]) [2, 3, 1, 0] rfl ?_
        exact ih x3 v28 v30 h hf
      · skip
        rcases if_so hf with ⟨c32, hf⟩ | ⟨c32, hf⟩
        · refine r_lsw 165 (ck DX2_heart_1 13 rfl) (by decide) (by rw [c32] <;> decide) (by decide) ?_
          refine r_iload 167 rfl 2 rfl (ck DX2_heart_1 19 rfl) ?_
          refine r_iconst 168 rfl ic_1 (ck DX2_heart_1 20 rfl) ?_
          refine r_iushr 169 rfl (ck DX2_heart_1 21 rfl) ?_
          refine r_iload 171 rfl 2 rfl (ck DX2_heart_1 22 rfl) ?_
          refine r_bipush 173 rfl bp_m2 (ck DX2_heart_1 23 rfl) ?_
          refine r_ior 174 rfl (ck DX2_heart_1 24 rfl) ?_
          refine r_iand 175 rfl (ck DX2_heart_1 25 rfl) ?_
          obtain ⟨v33, e34, hf⟩ := lt_so hf
          refine r_top e34 ?_
          refine r_istore (lv' := [(4, .int v33), (0, .ref (X.1 o)), (3, .int x3), (5, .int x5)]) 177 rfl (ck DX2_heart_1 26 rfl) (by decide) rfl ?_
          refine r_goto 333 (ck DX2_heart_1 27 rfl) (by decide) ?_
          obtain ⟨v35, e36, hf⟩ := lt_so hf
          refine r_iinc (lv' := [(5, .int v35), (4, .int v33), (0, .ref (X.1 o)), (3, .int x3)]) 336 rfl 3 (ck DX2_heart_3 18 rfl) rfl (by rw [e36, ic_1]) (by decide) rfl ?_
          refine r_goto 83 (ck DX2_heart_3 19 rfl) (by decide) ?_
          refine r_sub (lv' := [(0, .ref (X.1 o)), (3, .int x3), (4, .int v33), (5, .int v35)]) [2, 3, 1, 0] rfl ?_
          exact ih x3 v33 v35 h hf
        · skip
          rcases if_so hf with ⟨c37, hf⟩ | ⟨c37, hf⟩
          · refine r_lsw 194 (ck DX2_heart_1 13 rfl) (by decide) (by rw [c37] <;> decide) (by decide) ?_
            refine r_iload_n 195 rfl 1 rfl rfl (ck DX2_heart_1 37 rfl) ?_
            refine r_iload 197 rfl 2 rfl (ck DX2_heart_1 38 rfl) ?_
            refine r_iconst 198 rfl ic_1 (ck DX2_heart_1 39 rfl) ?_
            refine r_iand 199 rfl (ck DX2_heart_1 40 rfl) ?_
            refine r_iconst 200 rfl ic_1 (ck DX2_heart_1 41 rfl) ?_
            rcases if_so hf with ⟨c38, hf⟩ | ⟨c38, hf⟩
            · refine r_icmp_ne_t 203 rfl 213 (ck DX2_heart_1 42 rfl) (by decide) c38 ?_
              refine r_aload_n 204 rfl 0 rfl rfl (ck DX2_heart_1 43 rfl) ?_
              refine r_getr (q := o + 3) 207 rfl (lq_2_2 o) ho.1 kd_2_2 fl_X2_16 (ck DX2_heart_1 44 rfl) ?_
              refine r_iload 209 rfl 3 rfl (ck DX2_heart_1 45 rfl) ?_
              obtain ⟨b39, hf⟩ := gd_so hf
              refine r_iald 210 rfl ho.2.2.2.1 (inb_vp b39) (ck DX2_heart_1 46 rfl) ?_
              refine r_goto 214 (ck DX2_heart_1 47 rfl) (by decide) ?_
              refine r_iadd 215 rfl (ck DX2_heart_1 49 rfl) ?_
              obtain ⟨v40, e41, hf⟩ := lt_so hf
              refine r_top e41 ?_
              refine r_istore_n (lv' := [(3, .int v40), (0, .ref (X.1 o)), (4, .int x4), (5, .int x5)]) 216 rfl (ck DX2_heart_2 0 rfl) (by decide) rfl rfl ?_
              refine r_iload 218 rfl 2 rfl (ck DX2_heart_2 1 rfl) ?_
              refine r_iconst 219 rfl ic_1 (ck DX2_heart_2 2 rfl) ?_
              refine r_iushr 220 rfl (ck DX2_heart_2 3 rfl) ?_
              obtain ⟨v42, e43, hf⟩ := lt_so hf
              refine r_top e43 ?_
              refine r_istore (lv' := [(4, .int v42), (3, .int v40), (0, .ref (X.1 o)), (5, .int x5)]) 222 rfl (ck DX2_heart_2 4 rfl) (by decide) rfl ?_
              refine r_goto 333 (ck DX2_heart_2 5 rfl) (by decide) ?_
              obtain ⟨v44, e45, hf⟩ := lt_so hf
              refine r_iinc (lv' := [(5, .int v44), (4, .int v42), (3, .int v40), (0, .ref (X.1 o))]) 336 rfl 3 (ck DX2_heart_3 18 rfl) rfl (by rw [e45, ic_1]) (by decide) rfl ?_
              refine r_goto 83 (ck DX2_heart_3 19 rfl) (by decide) ?_
              refine r_sub (lv' := [(0, .ref (X.1 o)), (3, .int v40), (4, .int v42), (5, .int v44)]) [3, 2, 1, 0] rfl ?_
              exact ih v40 v42 v44 h hf
            · refine r_icmp_ne_f 213 (ck DX2_heart_1 42 rfl) (by decide) c38 ?_
              refine r_iconst 214 rfl ic_0 (ck DX2_heart_1 48 rfl) ?_
              refine r_iadd 215 rfl (ck DX2_heart_1 49 rfl) ?_
              obtain ⟨v46, e47, hf⟩ := lt_so hf
              refine r_top e47 ?_
              refine r_istore_n (lv' := [(3, .int v46), (0, .ref (X.1 o)), (4, .int x4), (5, .int x5)]) 216 rfl (ck DX2_heart_2 0 rfl) (by decide) rfl rfl ?_
              refine r_iload 218 rfl 2 rfl (ck DX2_heart_2 1 rfl) ?_
              refine r_iconst 219 rfl ic_1 (ck DX2_heart_2 2 rfl) ?_
              refine r_iushr 220 rfl (ck DX2_heart_2 3 rfl) ?_
              obtain ⟨v48, e49, hf⟩ := lt_so hf
              refine r_top e49 ?_
              refine r_istore (lv' := [(4, .int v48), (3, .int v46), (0, .ref (X.1 o)), (5, .int x5)]) 222 rfl (ck DX2_heart_2 4 rfl) (by decide) rfl ?_
              refine r_goto 333 (ck DX2_heart_2 5 rfl) (by decide) ?_
              obtain ⟨v50, e51, hf⟩ := lt_so hf
              refine r_iinc (lv' := [(5, .int v50), (4, .int v48), (3, .int v46), (0, .ref (X.1 o))]) 336 rfl 3 (ck DX2_heart_3 18 rfl) rfl (by rw [e51, ic_1]) (by decide) rfl ?_
              refine r_goto 83 (ck DX2_heart_3 19 rfl) (by decide) ?_
              refine r_sub (lv' := [(0, .ref (X.1 o)), (3, .int v46), (4, .int v48), (5, .int v50)]) [3, 2, 1, 0] rfl ?_
              exact ih v46 v48 v50 h hf
          · skip
            rcases if_so hf with ⟨c52, hf⟩ | ⟨c52, hf⟩
            · refine r_lsw 225 (ck DX2_heart_1 13 rfl) (by decide) (by rw [c52] <;> decide) (by decide) ?_
              refine r_iload 227 rfl 2 rfl (ck DX2_heart_2 6 rfl) ?_
              refine r_iconst 228 rfl ic_1 (ck DX2_heart_2 7 rfl) ?_
              refine r_ishl 229 rfl (ck DX2_heart_2 8 rfl) ?_
              refine r_aload_n 230 rfl 0 rfl rfl (ck DX2_heart_2 9 rfl) ?_
              refine r_getr (q := o + 4) 233 rfl (lq_2_3 o) ho.1 kd_2_3 fl_X2_19 (ck DX2_heart_2 10 rfl) ?_
              refine r_aload_n 234 rfl 0 rfl rfl (ck DX2_heart_2 11 rfl) ?_
              refine r_getr (q := o + 2) 237 rfl (lq_2_1 o) ho.1 kd_2_1 fl_X2_13 (ck DX2_heart_2 12 rfl) ?_
              refine r_iload 239 rfl 3 rfl (ck DX2_heart_2 13 rfl) ?_
              obtain ⟨b53, hf⟩ := gd_so hf
              refine r_iald 240 rfl ho.2.2.1 (inb_vp b53) (ck DX2_heart_2 14 rfl) ?_
              obtain ⟨b54, hf⟩ := gd_so hf
              refine r_iald 241 rfl ho.2.2.2.2 (inb_vp b54) (ck DX2_heart_2 15 rfl) ?_
              refine r_aload_n 242 rfl 0 rfl rfl (ck DX2_heart_2 16 rfl) ?_
              refine r_getr (q := o + 3) 245 rfl (lq_2_2 o) ho.1 kd_2_2 fl_X2_16 (ck DX2_heart_2 17 rfl) ?_
              refine r_iload 247 rfl 3 rfl (ck DX2_heart_2 18 rfl) ?_
              obtain ⟨b55, hf⟩ := gd_so hf
              refine r_iald 248 rfl ho.2.2.2.1 (inb_vp b55) (ck DX2_heart_2 19 rfl) ?_
              rcases if_so hf with ⟨c56, hf⟩ | ⟨c56, hf⟩
              · refine r_icmp_ge_t 255 (ck DX2_heart_2 20 rfl) (by decide) c56 ?_
                refine r_iconst 256 rfl ic_0 (ck DX2_heart_2 23 rfl) ?_
                refine r_ior 257 rfl (ck DX2_heart_2 24 rfl) ?_
                obtain ⟨v57, e58, hf⟩ := lt_so hf
                refine r_top e58 ?_
                refine r_istore (lv' := [(4, .int v57), (0, .ref (X.1 o)), (3, .int x3), (5, .int x5)]) 259 rfl (ck DX2_heart_2 25 rfl) (by decide) rfl ?_
                refine r_goto 333 (ck DX2_heart_2 26 rfl) (by decide) ?_
                obtain ⟨v59, e60, hf⟩ := lt_so hf
                refine r_iinc (lv' := [(5, .int v59), (4, .int v57), (0, .ref (X.1 o)), (3, .int x3)]) 336 rfl 3 (ck DX2_heart_3 18 rfl) rfl (by rw [e60, ic_1]) (by decide) rfl ?_
                refine r_goto 83 (ck DX2_heart_3 19 rfl) (by decide) ?_
                refine r_sub (lv' := [(0, .ref (X.1 o)), (3, .int x3), (4, .int v57), (5, .int v59)]) [2, 3, 1, 0] rfl ?_
                exact ih x3 v57 v59 h hf
              · refine r_icmp_ge_f 251 rfl 255 (ck DX2_heart_2 20 rfl) (by decide) c56 ?_
                refine r_iconst 252 rfl ic_1 (ck DX2_heart_2 21 rfl) ?_
                refine r_goto 256 (ck DX2_heart_2 22 rfl) (by decide) ?_
                refine r_ior 257 rfl (ck DX2_heart_2 24 rfl) ?_
                obtain ⟨v61, e62, hf⟩ := lt_so hf
                refine r_top e62 ?_
                refine r_istore (lv' := [(4, .int v61), (0, .ref (X.1 o)), (3, .int x3), (5, .int x5)]) 259 rfl (ck DX2_heart_2 25 rfl) (by decide) rfl ?_
                refine r_goto 333 (ck DX2_heart_2 26 rfl) (by decide) ?_
                obtain ⟨v63, e64, hf⟩ := lt_so hf
                refine r_iinc (lv' := [(5, .int v63), (4, .int v61), (0, .ref (X.1 o)), (3, .int x3)]) 336 rfl 3 (ck DX2_heart_3 18 rfl) rfl (by rw [e64, ic_1]) (by decide) rfl ?_
                refine r_goto 83 (ck DX2_heart_3 19 rfl) (by decide) ?_
                refine r_sub (lv' := [(0, .ref (X.1 o)), (3, .int x3), (4, .int v61), (5, .int v63)]) [2, 3, 1, 0] rfl ?_
                exact ih x3 v61 v63 h hf
            · skip
              rcases if_so hf with ⟨c65, hf⟩ | ⟨c65, hf⟩
              · refine r_lsw 262 (ck DX2_heart_1 13 rfl) (by decide) (by rw [c65] <;> decide) (by decide) ?_
                refine r_iload 264 rfl 2 rfl (ck DX2_heart_2 27 rfl) ?_
                refine r_iconst 265 rfl ic_1 (ck DX2_heart_2 28 rfl) ?_
                refine r_ishl 266 rfl (ck DX2_heart_2 29 rfl) ?_
                refine r_aload_n 267 rfl 0 rfl rfl (ck DX2_heart_2 30 rfl) ?_
                refine r_getr (q := o + 4) 270 rfl (lq_2_3 o) ho.1 kd_2_3 fl_X2_19 (ck DX2_heart_2 31 rfl) ?_
                refine r_aload_n 271 rfl 0 rfl rfl (ck DX2_heart_2 32 rfl) ?_
                refine r_getr (q := o + 2) 274 rfl (lq_2_1 o) ho.1 kd_2_1 fl_X2_13 (ck DX2_heart_2 33 rfl) ?_
                refine r_iload 276 rfl 3 rfl (ck DX2_heart_2 34 rfl) ?_
                obtain ⟨b66, hf⟩ := gd_so hf
                refine r_iald 277 rfl ho.2.2.1 (inb_vp b66) (ck DX2_heart_2 35 rfl) ?_
                obtain ⟨b67, hf⟩ := gd_so hf
                refine r_iald 278 rfl ho.2.2.2.2 (inb_vp b67) (ck DX2_heart_2 36 rfl) ?_
                refine r_aload_n 279 rfl 0 rfl rfl (ck DX2_heart_2 37 rfl) ?_
                refine r_getr (q := o + 3) 282 rfl (lq_2_2 o) ho.1 kd_2_2 fl_X2_16 (ck DX2_heart_2 38 rfl) ?_
                refine r_iload 284 rfl 3 rfl (ck DX2_heart_2 39 rfl) ?_
                obtain ⟨b68, hf⟩ := gd_so hf
                refine r_iald 285 rfl ho.2.2.2.1 (inb_vp b68) (ck DX2_heart_2 40 rfl) ?_
                rcases if_so hf with ⟨c69, hf⟩ | ⟨c69, hf⟩
                · refine r_icmp_ne_t 288 rfl 292 (ck DX2_heart_2 41 rfl) (by decide) c69 ?_
                  refine r_iconst 289 rfl ic_1 (ck DX2_heart_2 42 rfl) ?_
                  refine r_goto 293 (ck DX2_heart_2 43 rfl) (by decide) ?_
                  refine r_ior 294 rfl (ck DX2_heart_2 45 rfl) ?_
                  obtain ⟨v70, e71, hf⟩ := lt_so hf
                  refine r_top e71 ?_
                  refine r_istore (lv' := [(4, .int v70), (0, .ref (X.1 o)), (3, .int x3), (5, .int x5)]) 296 rfl (ck DX2_heart_2 46 rfl) (by decide) rfl ?_
                  refine r_goto 333 (ck DX2_heart_2 47 rfl) (by decide) ?_
                  obtain ⟨v72, e73, hf⟩ := lt_so hf
                  refine r_iinc (lv' := [(5, .int v72), (4, .int v70), (0, .ref (X.1 o)), (3, .int x3)]) 336 rfl 3 (ck DX2_heart_3 18 rfl) rfl (by rw [e73, ic_1]) (by decide) rfl ?_
                  refine r_goto 83 (ck DX2_heart_3 19 rfl) (by decide) ?_
                  refine r_sub (lv' := [(0, .ref (X.1 o)), (3, .int x3), (4, .int v70), (5, .int v72)]) [2, 3, 1, 0] rfl ?_
                  exact ih x3 v70 v72 h hf
                · refine r_icmp_ne_f 292 (ck DX2_heart_2 41 rfl) (by decide) c69 ?_
                  refine r_iconst 293 rfl ic_0 (ck DX2_heart_2 44 rfl) ?_
                  refine r_ior 294 rfl (ck DX2_heart_2 45 rfl) ?_
                  obtain ⟨v74, e75, hf⟩ := lt_so hf
                  refine r_top e75 ?_
                  refine r_istore (lv' := [(4, .int v74), (0, .ref (X.1 o)), (3, .int x3), (5, .int x5)]) 296 rfl (ck DX2_heart_2 46 rfl) (by decide) rfl ?_
                  refine r_goto 333 (ck DX2_heart_2 47 rfl) (by decide) ?_
                  obtain ⟨v76, e77, hf⟩ := lt_so hf
                  refine r_iinc (lv' := [(5, .int v76), (4, .int v74), (0, .ref (X.1 o)), (3, .int x3)]) 336 rfl 3 (ck DX2_heart_3 18 rfl) rfl (by rw [e77, ic_1]) (by decide) rfl ?_
                  refine r_goto 83 (ck DX2_heart_3 19 rfl) (by decide) ?_
                  refine r_sub (lv' := [(0, .ref (X.1 o)), (3, .int x3), (4, .int v74), (5, .int v76)]) [2, 3, 1, 0] rfl ?_
                  exact ih x3 v74 v76 h hf
              · skip
                rcases if_so hf with ⟨c78, hf⟩ | ⟨c78, hf⟩
                · refine r_lsw 180 (ck DX2_heart_1 13 rfl) (by decide) (by rw [c78] <;> decide) (by decide) ?_
                  refine r_iload 182 rfl 2 rfl (ck DX2_heart_1 28 rfl) ?_
                  refine r_iconst 183 rfl ic_1 (ck DX2_heart_1 29 rfl) ?_
                  refine r_iushr 184 rfl (ck DX2_heart_1 30 rfl) ?_
                  refine r_iload 186 rfl 2 rfl (ck DX2_heart_1 31 rfl) ?_
                  refine r_iconst 187 rfl ic_1 (ck DX2_heart_1 32 rfl) ?_
                  refine r_iand 188 rfl (ck DX2_heart_1 33 rfl) ?_
                  refine r_ior 189 rfl (ck DX2_heart_1 34 rfl) ?_
                  obtain ⟨v79, e80, hf⟩ := lt_so hf
                  refine r_top e80 ?_
                  refine r_istore (lv' := [(4, .int v79), (0, .ref (X.1 o)), (3, .int x3), (5, .int x5)]) 191 rfl (ck DX2_heart_1 35 rfl) (by decide) rfl ?_
                  refine r_goto 333 (ck DX2_heart_1 36 rfl) (by decide) ?_
                  obtain ⟨v81, e82, hf⟩ := lt_so hf
                  refine r_iinc (lv' := [(5, .int v81), (4, .int v79), (0, .ref (X.1 o)), (3, .int x3)]) 336 rfl 3 (ck DX2_heart_3 18 rfl) rfl (by rw [e82, ic_1]) (by decide) rfl ?_
                  refine r_goto 83 (ck DX2_heart_3 19 rfl) (by decide) ?_
                  refine r_sub (lv' := [(0, .ref (X.1 o)), (3, .int x3), (4, .int v79), (5, .int v81)]) [2, 3, 1, 0] rfl ?_
                  exact ih x3 v79 v81 h hf
                · skip
                  refine r_lsw 299 (ck DX2_heart_1 13 rfl) (by decide) (lsw_d (by intro q hq; simp at hq; rcases hq with rfl | rfl | rfl | rfl | rfl | rfl <;> first | exact ne_int c27 | exact ne_int c32 | exact ne_int c37 | exact ne_int c52 | exact ne_int c65 | exact ne_int c78)) (by decide) ?_
                  refine r_iload 301 rfl 2 rfl (ck DX2_heart_2 48 rfl) ?_
                  refine r_iconst 302 rfl ic_1 (ck DX2_heart_2 49 rfl) ?_
                  refine r_ishl 303 rfl (ck DX2_heart_3 0 rfl) ?_
                  refine r_aload_n 304 rfl 0 rfl rfl (ck DX2_heart_3 1 rfl) ?_
                  refine r_getr (q := o + 4) 307 rfl (lq_2_3 o) ho.1 kd_2_3 fl_X2_19 (ck DX2_heart_3 2 rfl) ?_
                  refine r_aload_n 308 rfl 0 rfl rfl (ck DX2_heart_3 3 rfl) ?_
                  refine r_getr (q := o + 2) 311 rfl (lq_2_1 o) ho.1 kd_2_1 fl_X2_13 (ck DX2_heart_3 4 rfl) ?_
                  refine r_iload 313 rfl 3 rfl (ck DX2_heart_3 5 rfl) ?_
                  obtain ⟨b83, hf⟩ := gd_so hf
                  refine r_iald 314 rfl ho.2.2.1 (inb_vp b83) (ck DX2_heart_3 6 rfl) ?_
                  obtain ⟨b84, hf⟩ := gd_so hf
                  refine r_iald 315 rfl ho.2.2.2.2 (inb_vp b84) (ck DX2_heart_3 7 rfl) ?_
                  refine r_aload_n 316 rfl 0 rfl rfl (ck DX2_heart_3 8 rfl) ?_
                  refine r_getr (q := o + 3) 319 rfl (lq_2_2 o) ho.1 kd_2_2 fl_X2_16 (ck DX2_heart_3 9 rfl) ?_
                  refine r_iload 321 rfl 3 rfl (ck DX2_heart_3 10 rfl) ?_
                  obtain ⟨b85, hf⟩ := gd_so hf
                  refine r_iald 322 rfl ho.2.2.2.1 (inb_vp b85) (ck DX2_heart_3 11 rfl) ?_
                  rcases if_so hf with ⟨c86, hf⟩ | ⟨c86, hf⟩
                  · refine r_icmp_le_t 329 (ck DX2_heart_3 12 rfl) (by decide) c86 ?_
                    refine r_iconst 330 rfl ic_0 (ck DX2_heart_3 15 rfl) ?_
                    refine r_ior 331 rfl (ck DX2_heart_3 16 rfl) ?_
                    obtain ⟨v87, e88, hf⟩ := lt_so hf
                    refine r_top e88 ?_
                    refine r_istore (lv' := [(4, .int v87), (0, .ref (X.1 o)), (3, .int x3), (5, .int x5)]) 333 rfl (ck DX2_heart_3 17 rfl) (by decide) rfl ?_
                    obtain ⟨v89, e90, hf⟩ := lt_so hf
                    refine r_iinc (lv' := [(5, .int v89), (4, .int v87), (0, .ref (X.1 o)), (3, .int x3)]) 336 rfl 3 (ck DX2_heart_3 18 rfl) rfl (by rw [e90, ic_1]) (by decide) rfl ?_
                    refine r_goto 83 (ck DX2_heart_3 19 rfl) (by decide) ?_
                    refine r_sub (lv' := [(0, .ref (X.1 o)), (3, .int x3), (4, .int v87), (5, .int v89)]) [2, 3, 1, 0] rfl ?_
                    exact ih x3 v87 v89 h hf
                  · refine r_icmp_le_f 325 rfl 329 (ck DX2_heart_3 12 rfl) (by decide) c86 ?_
                    refine r_iconst 326 rfl ic_1 (ck DX2_heart_3 13 rfl) ?_
                    refine r_goto 330 (ck DX2_heart_3 14 rfl) (by decide) ?_
                    refine r_ior 331 rfl (ck DX2_heart_3 16 rfl) ?_
                    obtain ⟨v91, e92, hf⟩ := lt_so hf
                    refine r_top e92 ?_
                    refine r_istore (lv' := [(4, .int v91), (0, .ref (X.1 o)), (3, .int x3), (5, .int x5)]) 333 rfl (ck DX2_heart_3 17 rfl) (by decide) rfl ?_
                    obtain ⟨v93, e94, hf⟩ := lt_so hf
                    refine r_iinc (lv' := [(5, .int v93), (4, .int v91), (0, .ref (X.1 o)), (3, .int x3)]) 336 rfl 3 (ck DX2_heart_3 18 rfl) rfl (by rw [e94, ic_1]) (by decide) rfl ?_
                    refine r_goto 83 (ck DX2_heart_3 19 rfl) (by decide) ?_
                    refine r_sub (lv' := [(0, .ref (X.1 o)), (3, .int x3), (4, .int v91), (5, .int v93)]) [2, 3, 1, 0] rfl ?_
                    exact ih x3 v91 v93 h hf
def f_X2_heart (o : Nat) (q1 : Nat) (x2 : Int32) (h : HP) : Option (Int32 × HP) := gd (inb 0 6) (lt (si h (o + 4) (Int32.toNatClampNeg 0) x2) fun g2 => gd (inb x2 6) (gd (inb 1 6) (lt (si g2 (o + 4) (Int32.toNatClampNeg 1) (g2.1 (q1 + 1) (Int32.toNatClampNeg x2))) fun g6 => gd (inb x2 6) (gd (inb 2 6) (lt (si g6 (o + 4) (Int32.toNatClampNeg 2) (g6.1 (q1 + 2) (Int32.toNatClampNeg x2))) fun g10 => gd (inb x2 6) (gd (inb 3 6) (lt (si g10 (o + 4) (Int32.toNatClampNeg 3) ((g10.1 (q1 + 3) (Int32.toNatClampNeg x2)) / 10)) fun g14 => gd (inb x2 6) (gd (inb 4 6) (lt (si g14 (o + 4) (Int32.toNatClampNeg 4) ((g14.1 (q1 + 4) (Int32.toNatClampNeg x2)) / 10)) fun g18 => gd (inb 5 6) (lt (si g18 (o + 4) (Int32.toNatClampNeg 5) ((g18.1 q1 12) - (g18.1 q1 12) / 10 * 10)) fun g21 => f_X2_heart_L83 o q1 FU 20 0 0 g21))))))))))
set_option maxHeartbeats 4000000 in
set_option maxRecDepth 100000 in
theorem A_X2_heart (X : XE) (o : Nat) (ho : OC o) (q1 : Nat) (hq1 : DK q1) (x2 : Int32) (h : HP) (r : Int32) (h' : HP) (hf : f_X2_heart o q1 x2 h = some (r, h')) : CC mX2_heart 1 X [.ref (X.1 o), .ref (X.1 q1), .int x2] h (some (.int r)) h' := by
  refine CC_of rfl (Nat.le_of_ble_eq_true rfl) ?_
  show Run mX2_heart 1 X 0 [(0, .ref (X.1 o)), (1, .ref (X.1 q1)), (2, .int x2)] [] h (some (.int r)) h'
  unfold f_X2_heart at hf
  refine r_aload_n 1 rfl 0 rfl rfl (ck DX2_heart_0 0 rfl) ?_
  refine r_getr (q := o + 4) 4 rfl (lq_2_3 o) ho.1 kd_2_3 fl_X2_19 (ck DX2_heart_0 1 rfl) ?_
  refine r_iconst 5 rfl ic_0 (ck DX2_heart_0 2 rfl) ?_
  refine r_iload_n 6 rfl 2 rfl rfl (ck DX2_heart_0 3 rfl) ?_
  obtain ⟨b1, hf⟩ := gd_so hf
  obtain ⟨g2, e3, hf⟩ := lt_so hf
  refine r_iast 7 rfl ho.2.2.2.2 (inb_vp b1) (ck DX2_heart_0 4 rfl) ?_
  refine r_heap e3 ?_
  refine r_aload_n 8 rfl 0 rfl rfl (ck DX2_heart_0 5 rfl) ?_
  refine r_getr (q := o + 4) 11 rfl (lq_2_3 o) ho.1 kd_2_3 fl_X2_19 (ck DX2_heart_0 6 rfl) ?_
  refine r_iconst 12 rfl ic_1 (ck DX2_heart_0 7 rfl) ?_
  refine r_aload_n 13 rfl 1 rfl rfl (ck DX2_heart_0 8 rfl) ?_
  refine r_getr (q := q1 + 1) 16 rfl (lq_1_0 q1) hq1.1 kd_1_0 fl_X2_35 (ck DX2_heart_0 9 rfl) ?_
  refine r_iload_n 17 rfl 2 rfl rfl (ck DX2_heart_0 10 rfl) ?_
  obtain ⟨b4, hf⟩ := gd_so hf
  refine r_iald 18 rfl hq1.2.1 (inb_vp b4) (ck DX2_heart_0 11 rfl) ?_
  obtain ⟨b5, hf⟩ := gd_so hf
  obtain ⟨g6, e7, hf⟩ := lt_so hf
  refine r_iast 19 rfl ho.2.2.2.2 (inb_vp b5) (ck DX2_heart_0 12 rfl) ?_
  refine r_heap e7 ?_
  refine r_aload_n 20 rfl 0 rfl rfl (ck DX2_heart_0 13 rfl) ?_
  refine r_getr (q := o + 4) 23 rfl (lq_2_3 o) ho.1 kd_2_3 fl_X2_19 (ck DX2_heart_0 14 rfl) ?_
  refine r_iconst 24 rfl ic_2 (ck DX2_heart_0 15 rfl) ?_
  refine r_aload_n 25 rfl 1 rfl rfl (ck DX2_heart_0 16 rfl) ?_
  refine r_getr (q := q1 + 2) 28 rfl (lq_1_1 q1) hq1.1 kd_1_1 fl_X2_40 (ck DX2_heart_0 17 rfl) ?_
  refine r_iload_n 29 rfl 2 rfl rfl (ck DX2_heart_0 18 rfl) ?_
  obtain ⟨b8, hf⟩ := gd_so hf
  refine r_iald 30 rfl hq1.2.2.1 (inb_vp b8) (ck DX2_heart_0 19 rfl) ?_
  obtain ⟨b9, hf⟩ := gd_so hf
  obtain ⟨g10, e11, hf⟩ := lt_so hf
  refine r_iast 31 rfl ho.2.2.2.2 (inb_vp b9) (ck DX2_heart_0 20 rfl) ?_
  refine r_heap e11 ?_
  refine r_aload_n 32 rfl 0 rfl rfl (ck DX2_heart_0 21 rfl) ?_
  refine r_getr (q := o + 4) 35 rfl (lq_2_3 o) ho.1 kd_2_3 fl_X2_19 (ck DX2_heart_0 22 rfl) ?_
  refine r_iconst 36 rfl ic_3 (ck DX2_heart_0 23 rfl) ?_
  refine r_aload_n 37 rfl 1 rfl rfl (ck DX2_heart_0 24 rfl) ?_
  refine r_getr (q := q1 + 3) 40 rfl (lq_1_2 q1) hq1.1 kd_1_2 fl_X2_43 (ck DX2_heart_0 25 rfl) ?_
  refine r_iload_n 41 rfl 2 rfl rfl (ck DX2_heart_0 26 rfl) ?_
  obtain ⟨b12, hf⟩ := gd_so hf
  refine r_iald 42 rfl hq1.2.2.2.1 (inb_vp b12) (ck DX2_heart_0 27 rfl) ?_
  refine r_bipush 44 rfl bp_10 (ck DX2_heart_0 28 rfl) ?_
  refine r_idiv 45 rfl (by decide) (ck DX2_heart_0 29 rfl) ?_
  obtain ⟨b13, hf⟩ := gd_so hf
  obtain ⟨g14, e15, hf⟩ := lt_so hf
  refine r_iast 46 rfl ho.2.2.2.2 (inb_vp b13) (ck DX2_heart_0 30 rfl) ?_
  refine r_heap e15 ?_
  refine r_aload_n 47 rfl 0 rfl rfl (ck DX2_heart_0 31 rfl) ?_
  refine r_getr (q := o + 4) 50 rfl (lq_2_3 o) ho.1 kd_2_3 fl_X2_19 (ck DX2_heart_0 32 rfl) ?_
  refine r_iconst 51 rfl ic_4 (ck DX2_heart_0 33 rfl) ?_
  refine r_aload_n 52 rfl 1 rfl rfl (ck DX2_heart_0 34 rfl) ?_
  refine r_getr (q := q1 + 4) 55 rfl (lq_1_3 q1) hq1.1 kd_1_3 fl_X2_46 (ck DX2_heart_0 35 rfl) ?_
  refine r_iload_n 56 rfl 2 rfl rfl (ck DX2_heart_0 36 rfl) ?_
  obtain ⟨b16, hf⟩ := gd_so hf
  refine r_iald 57 rfl hq1.2.2.2.2.1 (inb_vp b16) (ck DX2_heart_0 37 rfl) ?_
  refine r_bipush 59 rfl bp_10 (ck DX2_heart_0 38 rfl) ?_
  refine r_idiv 60 rfl (by decide) (ck DX2_heart_0 39 rfl) ?_
  obtain ⟨b17, hf⟩ := gd_so hf
  obtain ⟨g18, e19, hf⟩ := lt_so hf
  refine r_iast 61 rfl ho.2.2.2.2 (inb_vp b17) (ck DX2_heart_0 40 rfl) ?_
  refine r_heap e19 ?_
  refine r_aload_n 62 rfl 0 rfl rfl (ck DX2_heart_0 41 rfl) ?_
  refine r_getr (q := o + 4) 65 rfl (lq_2_3 o) ho.1 kd_2_3 fl_X2_19 (ck DX2_heart_0 42 rfl) ?_
  refine r_iconst 66 rfl ic_5 (ck DX2_heart_0 43 rfl) ?_
  refine r_aload_n 67 rfl 1 rfl rfl (ck DX2_heart_0 44 rfl) ?_
  refine r_geti 70 rfl hq1.1 kd_1_12 fl_X2_49 (ck DX2_heart_0 45 rfl) ?_
  refine r_bipush 72 rfl bp_10 (ck DX2_heart_0 46 rfl) ?_
  refine r_irem 73 rfl (by decide) (ck DX2_heart_0 47 rfl) ?_
  obtain ⟨b20, hf⟩ := gd_so hf
  obtain ⟨g21, e22, hf⟩ := lt_so hf
  refine r_iast 74 rfl ho.2.2.2.2 (inb_vp b20) (ck DX2_heart_0 48 rfl) ?_
  refine r_heap e22 ?_
  refine r_bipush 76 rfl bp_20 (ck DX2_heart_0 49 rfl) ?_
  refine r_istore_n (lv' := [(3, .int 20), (0, .ref (X.1 o)), (1, .ref (X.1 q1)), (2, .int x2)]) 77 rfl (ck DX2_heart_1 0 rfl) (by decide) rfl rfl ?_
  refine r_iconst 78 rfl ic_0 (ck DX2_heart_1 1 rfl) ?_
  refine r_istore (lv' := [(4, .int 0), (3, .int 20), (0, .ref (X.1 o)), (1, .ref (X.1 q1)), (2, .int x2)]) 80 rfl (ck DX2_heart_1 2 rfl) (by decide) rfl ?_
  refine r_iconst 81 rfl ic_0 (ck DX2_heart_1 3 rfl) ?_
  refine r_istore (lv' := [(5, .int 0), (4, .int 0), (3, .int 20), (0, .ref (X.1 o)), (1, .ref (X.1 q1)), (2, .int x2)]) 83 rfl (ck DX2_heart_1 4 rfl) (by decide) rfl ?_
  refine r_sub (lv' := [(0, .ref (X.1 o)), (3, .int 20), (4, .int 0), (5, .int 0)]) [3, 2, 1, 0] rfl ?_
  exact A_X2_heart_L83 X o ho q1 hq1 _ _ FU 20 0 0 g21 hf
-- X2_becomeCalm
def f_X2_becomeCalm (o : Nat) (h : HP) : Option HP := lt (si h o 4 0) fun g1 => lt (si g1 o 5 5) fun g3 => lt (si g3 o 6 2) fun g5 => some g5
set_option maxHeartbeats 4000000 in
set_option maxRecDepth 100000 in
theorem A_X2_becomeCalm (X : XE) (o : Nat) (ho : OC o) (h : HP) (h' : HP) (hf : f_X2_becomeCalm o h = some h') : CC mX2_becomeCalm 1 X [.ref (X.1 o)] h none h' := by
  refine CC_of rfl (Nat.le_of_ble_eq_true rfl) ?_
  show Run mX2_becomeCalm 1 X 0 [(0, .ref (X.1 o))] [] h none h'
  unfold f_X2_becomeCalm at hf
  refine r_aload_n 1 rfl 0 rfl rfl (ck DX2_becomeCalm_0 0 rfl) ?_
  refine r_iconst 2 rfl ic_0 (ck DX2_becomeCalm_0 1 rfl) ?_
  obtain ⟨g1, e2, hf⟩ := lt_so hf
  refine r_puti 5 rfl ho.1 kd_2_4 fw_X2_25 rfl rfl (ck DX2_becomeCalm_0 2 rfl) ?_
  refine r_heap e2 ?_
  refine r_aload_n 6 rfl 0 rfl rfl (ck DX2_becomeCalm_0 3 rfl) ?_
  refine r_iconst 7 rfl ic_5 (ck DX2_becomeCalm_0 4 rfl) ?_
  obtain ⟨g3, e4, hf⟩ := lt_so hf
  refine r_puti 10 rfl ho.1 kd_2_5 fw_X2_29 rfl rfl (ck DX2_becomeCalm_0 5 rfl) ?_
  refine r_heap e4 ?_
  refine r_aload_n 11 rfl 0 rfl rfl (ck DX2_becomeCalm_0 6 rfl) ?_
  refine r_iconst 12 rfl ic_2 (ck DX2_becomeCalm_0 7 rfl) ?_
  obtain ⟨g5, e6, hf⟩ := lt_so hf
  refine r_puti 15 rfl ho.1 kd_2_6 fw_X2_32 rfl rfl (ck DX2_becomeCalm_0 8 rfl) ?_
  refine r_heap e6 ?_
  obtain rfl := so1 hf
  exact r_vret rfl (ck DX2_becomeCalm_0 9 rfl)
-- X2_add
def f_X2_add (o : Nat) (x1 : Int32) (x2 : Int32) (x3 : Int32) (h : HP) : Option HP := if (100 : Int32) ≤ (h.1 o 4) then (some h) else (gd (inb (h.1 o 4) 100) (lt (si h (o + 1) (Int32.toNatClampNeg (h.1 o 4)) x1) fun g3 => gd (inb (g3.1 o 4) 100) (lt (si g3 (o + 2) (Int32.toNatClampNeg (g3.1 o 4)) x2) fun g6 => gd (inb (g6.1 o 4) 100) (lt (si g6 (o + 3) (Int32.toNatClampNeg (g6.1 o 4)) x3) fun g9 => lt (si g9 o 4 ((g9.1 o 4) + 1)) fun g11 => some g11))))
set_option maxHeartbeats 4000000 in
set_option maxRecDepth 100000 in
theorem A_X2_add (X : XE) (o : Nat) (ho : OC o) (x1 : Int32) (x2 : Int32) (x3 : Int32) (h : HP) (h' : HP) (hf : f_X2_add o x1 x2 x3 h = some h') : CC mX2_add 1 X [.ref (X.1 o), .int x1, .int x2, .int x3] h none h' := by
  refine CC_of rfl (Nat.le_of_ble_eq_true rfl) ?_
  show Run mX2_add 1 X 0 [(0, .ref (X.1 o)), (1, .int x1), (2, .int x2), (3, .int x3)] [] h none h'
  unfold f_X2_add at hf
  refine r_aload_n 1 rfl 0 rfl rfl (ck DX2_add_0 0 rfl) ?_
  refine r_geti 4 rfl ho.1 kd_2_4 fl_X2_25 (ck DX2_add_0 1 rfl) ?_
  refine r_bipush 6 rfl bp_100 (ck DX2_add_0 2 rfl) ?_
  rcases if_so hf with ⟨c1, hf⟩ | ⟨c1, hf⟩
  · refine r_icmp_ge_t 49 (ck DX2_add_0 3 rfl) (by decide) c1 ?_
    obtain rfl := so1 hf
    exact r_vret rfl (ck DX2_add_0 28 rfl)
  · refine r_icmp_ge_f 9 rfl 49 (ck DX2_add_0 3 rfl) (by decide) c1 ?_
    refine r_aload_n 10 rfl 0 rfl rfl (ck DX2_add_0 4 rfl) ?_
    refine r_getr (q := o + 1) 13 rfl (lq_2_0 o) ho.1 kd_2_0 fl_X2_9 (ck DX2_add_0 5 rfl) ?_
    refine r_aload_n 14 rfl 0 rfl rfl (ck DX2_add_0 6 rfl) ?_
    refine r_geti 17 rfl ho.1 kd_2_4 fl_X2_25 (ck DX2_add_0 7 rfl) ?_
    refine r_iload_n 18 rfl 1 rfl rfl (ck DX2_add_0 8 rfl) ?_
    obtain ⟨b2, hf⟩ := gd_so hf
    obtain ⟨g3, e4, hf⟩ := lt_so hf
    refine r_iast 19 rfl ho.2.1 (inb_vp b2) (ck DX2_add_0 9 rfl) ?_
    refine r_heap e4 ?_
    refine r_aload_n 20 rfl 0 rfl rfl (ck DX2_add_0 10 rfl) ?_
    refine r_getr (q := o + 2) 23 rfl (lq_2_1 o) ho.1 kd_2_1 fl_X2_13 (ck DX2_add_0 11 rfl) ?_
    refine r_aload_n 24 rfl 0 rfl rfl (ck DX2_add_0 12 rfl) ?_
    refine r_geti 27 rfl ho.1 kd_2_4 fl_X2_25 (ck DX2_add_0 13 rfl) ?_
    refine r_iload_n 28 rfl 2 rfl rfl (ck DX2_add_0 14 rfl) ?_
    obtain ⟨b5, hf⟩ := gd_so hf
    obtain ⟨g6, e7, hf⟩ := lt_so hf
    refine r_iast 29 rfl ho.2.2.1 (inb_vp b5) (ck DX2_add_0 15 rfl) ?_
    refine r_heap e7 ?_
    refine r_aload_n 30 rfl 0 rfl rfl (ck DX2_add_0 16 rfl) ?_
    refine r_getr (q := o + 3) 33 rfl (lq_2_2 o) ho.1 kd_2_2 fl_X2_16 (ck DX2_add_0 17 rfl) ?_
    refine r_aload_n 34 rfl 0 rfl rfl (ck DX2_add_0 18 rfl) ?_
    refine r_geti 37 rfl ho.1 kd_2_4 fl_X2_25 (ck DX2_add_0 19 rfl) ?_
    refine r_iload_n 38 rfl 3 rfl rfl (ck DX2_add_0 20 rfl) ?_
    obtain ⟨b8, hf⟩ := gd_so hf
    obtain ⟨g9, e10, hf⟩ := lt_so hf
    refine r_iast 39 rfl ho.2.2.2.1 (inb_vp b8) (ck DX2_add_0 21 rfl) ?_
    refine r_heap e10 ?_
    refine r_aload_n 40 rfl 0 rfl rfl (ck DX2_add_0 22 rfl) ?_
    refine r_dup 41 rfl rfl (ck DX2_add_0 23 rfl) ?_
    refine r_geti 44 rfl ho.1 kd_2_4 fl_X2_25 (ck DX2_add_0 24 rfl) ?_
    refine r_iconst 45 rfl ic_1 (ck DX2_add_0 25 rfl) ?_
    refine r_iadd 46 rfl (ck DX2_add_0 26 rfl) ?_
    obtain ⟨g11, e12, hf⟩ := lt_so hf
    refine r_puti 49 rfl ho.1 kd_2_4 fw_X2_25 rfl rfl (ck DX2_add_0 27 rfl) ?_
    refine r_heap e12 ?_
    obtain rfl := so1 hf
    exact r_vret rfl (ck DX2_add_0 28 rfl)
-- X3_add
def f_X3_add (o : Nat) (x1 : Int32) (x2 : Int32) (h : HP) : Option (Int32 × HP) := if (h.1 o 2) < (Int32.ofNat (aln (o + 1))) then (gd (inb (h.1 o 2) (aln (o + 1))) (lt (si h (o + 1) (Int32.toNatClampNeg (h.1 o 2)) x1) fun g3 => gd (inb (g3.1 o 2) (aln (o + 2))) (lt (si g3 (o + 2) (Int32.toNatClampNeg (g3.1 o 2)) x2) fun g6 => lt (si g6 o 2 ((g6.1 o 2) + 1)) fun g8 => some (1, g8)))) else (some (0, h))
set_option maxHeartbeats 4000000 in
set_option maxRecDepth 100000 in
theorem A_X3_add (X : XE) (o : Nat) (ho : PR o) (x1 : Int32) (x2 : Int32) (h : HP) (r : Int32) (h' : HP) (hf : f_X3_add o x1 x2 h = some (r, h')) : CC mX3_add 1 X [.ref (X.1 o), .int x1, .int x2] h (some (.int r)) h' := by
  refine CC_of rfl (Nat.le_of_ble_eq_true rfl) ?_
  show Run mX3_add 1 X 0 [(0, .ref (X.1 o)), (1, .int x1), (2, .int x2)] [] h (some (.int r)) h'
  unfold f_X3_add at hf
  refine r_aload_n 1 rfl 0 rfl rfl (ck DX3_add_0 0 rfl) ?_
  refine r_geti 4 rfl ho.1 kd_3_2 fl_X3_16 (ck DX3_add_0 1 rfl) ?_
  refine r_aload_n 5 rfl 0 rfl rfl (ck DX3_add_0 2 rfl) ?_
  refine r_getr (q := o + 1) 8 rfl (lq_3_0 o) ho.1 kd_3_0 fl_X3_7 (ck DX3_add_0 3 rfl) ?_
  refine r_alen 9 rfl ho.2.1 rfl (ck DX3_add_0 4 rfl) ?_
  rcases if_so hf with ⟨c1, hf⟩ | ⟨c1, hf⟩
  · refine r_icmp_lt_t 14 (ck DX3_add_0 5 rfl) (by decide) c1 ?_
    refine r_aload_n 15 rfl 0 rfl rfl (ck DX3_add_0 8 rfl) ?_
    refine r_getr (q := o + 1) 18 rfl (lq_3_0 o) ho.1 kd_3_0 fl_X3_7 (ck DX3_add_0 9 rfl) ?_
    refine r_aload_n 19 rfl 0 rfl rfl (ck DX3_add_0 10 rfl) ?_
    refine r_geti 22 rfl ho.1 kd_3_2 fl_X3_16 (ck DX3_add_0 11 rfl) ?_
    refine r_iload_n 23 rfl 1 rfl rfl (ck DX3_add_0 12 rfl) ?_
    obtain ⟨b2, hf⟩ := gd_so hf
    obtain ⟨g3, e4, hf⟩ := lt_so hf
    refine r_iast 24 rfl ho.2.1 (inb_vp b2) (ck DX3_add_0 13 rfl) ?_
    refine r_heap e4 ?_
    refine r_aload_n 25 rfl 0 rfl rfl (ck DX3_add_0 14 rfl) ?_
    refine r_getr (q := o + 2) 28 rfl (lq_3_1 o) ho.1 kd_3_1 fl_X3_13 (ck DX3_add_0 15 rfl) ?_
    refine r_aload_n 29 rfl 0 rfl rfl (ck DX3_add_0 16 rfl) ?_
    refine r_geti 32 rfl ho.1 kd_3_2 fl_X3_16 (ck DX3_add_0 17 rfl) ?_
    refine r_iload_n 33 rfl 2 rfl rfl (ck DX3_add_0 18 rfl) ?_
    obtain ⟨b5, hf⟩ := gd_so hf
    obtain ⟨g6, e7, hf⟩ := lt_so hf
    refine r_iast 34 rfl ho.2.2 (inb_vp b5) (ck DX3_add_0 19 rfl) ?_
    refine r_heap e7 ?_
    refine r_aload_n 35 rfl 0 rfl rfl (ck DX3_add_0 20 rfl) ?_
    refine r_dup 36 rfl rfl (ck DX3_add_0 21 rfl) ?_
    refine r_geti 39 rfl ho.1 kd_3_2 fl_X3_16 (ck DX3_add_0 22 rfl) ?_
    refine r_iconst 40 rfl ic_1 (ck DX3_add_0 23 rfl) ?_
    refine r_iadd 41 rfl (ck DX3_add_0 24 rfl) ?_
    obtain ⟨g8, e9, hf⟩ := lt_so hf
    refine r_puti 44 rfl ho.1 kd_3_2 fw_X3_16 rfl rfl (ck DX3_add_0 25 rfl) ?_
    refine r_heap e9 ?_
    refine r_iconst 45 rfl ic_1 (ck DX3_add_0 26 rfl) ?_
    obtain ⟨rfl, rfl⟩ := so2 hf
    exact r_iret rfl rfl (ck DX3_add_0 27 rfl)
  · refine r_icmp_lt_f 12 rfl 14 (ck DX3_add_0 5 rfl) (by decide) c1 ?_
    refine r_iconst 13 rfl ic_0 (ck DX3_add_0 6 rfl) ?_
    obtain ⟨rfl, rfl⟩ := so2 hf
    exact r_iret rfl rfl (ck DX3_add_0 7 rfl)
-- X3_clear
def f_X3_clear (o : Nat) (h : HP) : Option (Int32 × HP) := lt (si h o 2 0) fun g1 => some (0, g1)
set_option maxHeartbeats 4000000 in
set_option maxRecDepth 100000 in
theorem A_X3_clear (X : XE) (o : Nat) (ho : PR o) (h : HP) (r : Int32) (h' : HP) (hf : f_X3_clear o h = some (r, h')) : CC mX3_clear 1 X [.ref (X.1 o)] h (some (.int r)) h' := by
  refine CC_of rfl (Nat.le_of_ble_eq_true rfl) ?_
  show Run mX3_clear 1 X 0 [(0, .ref (X.1 o))] [] h (some (.int r)) h'
  unfold f_X3_clear at hf
  refine r_aload_n 1 rfl 0 rfl rfl (ck DX3_clear_0 0 rfl) ?_
  refine r_iconst 2 rfl ic_0 (ck DX3_clear_0 1 rfl) ?_
  obtain ⟨g1, e2, hf⟩ := lt_so hf
  refine r_puti 5 rfl ho.1 kd_3_2 fw_X3_16 rfl rfl (ck DX3_clear_0 2 rfl) ?_
  refine r_heap e2 ?_
  refine r_iconst 6 rfl ic_0 (ck DX3_clear_0 3 rfl) ?_
  obtain ⟨rfl, rfl⟩ := so2 hf
  exact r_iret rfl rfl (ck DX3_clear_0 4 rfl)
-- X3_copyFrom
def f_X3_copyFrom (o : Nat) (q1 : Nat) (h : HP) : Option HP := lt (si h o 2 (if (Int32.ofNat (aln (o + 1))) < (h.1 q1 2) then (Int32.ofNat (aln (o + 1))) else (h.1 q1 2))) fun g1 => gd (cpk 0 (g1.1 o 2) (aln (q1 + 1))) (gd (cpk 0 (g1.1 o 2) (aln (o + 1))) (lt (ci g1 (q1 + 1) (o + 1) 0 0 (g1.1 o 2)) fun g5 => gd (cpk 0 (g5.1 o 2) (aln (q1 + 2))) (gd (cpk 0 (g5.1 o 2) (aln (o + 2))) (lt (ci g5 (q1 + 2) (o + 2) 0 0 (g5.1 o 2)) fun g9 => some g9))))
set_option maxHeartbeats 4000000 in
set_option maxRecDepth 100000 in
theorem A_X3_copyFrom (X : XE) (o : Nat) (ho : PR o) (q1 : Nat) (hq1 : PR q1) (h : HP) (h' : HP) (hf : f_X3_copyFrom o q1 h = some h') : CC mX3_copyFrom 1 X [.ref (X.1 o), .ref (X.1 q1)] h none h' := by
  refine CC_of rfl (Nat.le_of_ble_eq_true rfl) ?_
  show Run mX3_copyFrom 1 X 0 [(0, .ref (X.1 o)), (1, .ref (X.1 q1))] [] h none h'
  unfold f_X3_copyFrom at hf
  refine r_aload_n 1 rfl 0 rfl rfl (ck DX3_copyFrom_0 0 rfl) ?_
  refine r_aload_n 2 rfl 1 rfl rfl (ck DX3_copyFrom_0 1 rfl) ?_
  refine r_geti 5 rfl hq1.1 kd_3_2 fl_X3_16 (ck DX3_copyFrom_0 2 rfl) ?_
  refine r_aload_n 6 rfl 0 rfl rfl (ck DX3_copyFrom_0 3 rfl) ?_
  refine r_getr (q := o + 1) 9 rfl (lq_3_0 o) ho.1 kd_3_0 fl_X3_7 (ck DX3_copyFrom_0 4 rfl) ?_
  refine r_alen 10 rfl ho.2.1 rfl (ck DX3_copyFrom_0 5 rfl) ?_
  refine r_min 13 rfl (by decide) ml_X3_20 ms_min ini_Math mc_min (Nat.le_of_ble_eq_true rfl) (ck DX3_copyFrom_0 6 rfl) ?_
  obtain ⟨g1, e2, hf⟩ := lt_so hf
  refine r_puti 16 rfl ho.1 kd_3_2 fw_X3_16 rfl rfl (ck DX3_copyFrom_0 7 rfl) ?_
  refine r_heap e2 ?_
  refine r_aload_n 17 rfl 1 rfl rfl (ck DX3_copyFrom_0 8 rfl) ?_
  refine r_getr (q := q1 + 1) 20 rfl (lq_3_0 q1) hq1.1 kd_3_0 fl_X3_7 (ck DX3_copyFrom_0 9 rfl) ?_
  refine r_iconst 21 rfl ic_0 (ck DX3_copyFrom_0 10 rfl) ?_
  refine r_aload_n 22 rfl 0 rfl rfl (ck DX3_copyFrom_0 11 rfl) ?_
  refine r_getr (q := o + 1) 25 rfl (lq_3_0 o) ho.1 kd_3_0 fl_X3_7 (ck DX3_copyFrom_0 12 rfl) ?_
  refine r_iconst 26 rfl ic_0 (ck DX3_copyFrom_0 13 rfl) ?_
  refine r_aload_n 27 rfl 0 rfl rfl (ck DX3_copyFrom_0 14 rfl) ?_
  refine r_geti 30 rfl ho.1 kd_3_2 fl_X3_16 (ck DX3_copyFrom_0 15 rfl) ?_
  obtain ⟨b3, hf⟩ := gd_so hf
  obtain ⟨b4, hf⟩ := gd_so hf
  obtain ⟨g5, e6, hf⟩ := lt_so hf
  refine r_copyi 33 rfl (by decide) hq1.2.1 ho.2.1 b3 b4 ml_X3_26 ac_nat ac_st ini_Sys (Nat.le_of_ble_eq_true rfl) (ck DX3_copyFrom_0 16 rfl) ?_
  refine r_heap e6 ?_
  refine r_aload_n 34 rfl 1 rfl rfl (ck DX3_copyFrom_0 17 rfl) ?_
  refine r_getr (q := q1 + 2) 37 rfl (lq_3_1 q1) hq1.1 kd_3_1 fl_X3_13 (ck DX3_copyFrom_0 18 rfl) ?_
  refine r_iconst 38 rfl ic_0 (ck DX3_copyFrom_0 19 rfl) ?_
  refine r_aload_n 39 rfl 0 rfl rfl (ck DX3_copyFrom_0 20 rfl) ?_
  refine r_getr (q := o + 2) 42 rfl (lq_3_1 o) ho.1 kd_3_1 fl_X3_13 (ck DX3_copyFrom_0 21 rfl) ?_
  refine r_iconst 43 rfl ic_0 (ck DX3_copyFrom_0 22 rfl) ?_
  refine r_aload_n 44 rfl 0 rfl rfl (ck DX3_copyFrom_0 23 rfl) ?_
  refine r_geti 47 rfl ho.1 kd_3_2 fl_X3_16 (ck DX3_copyFrom_0 24 rfl) ?_
  obtain ⟨b7, hf⟩ := gd_so hf
  obtain ⟨b8, hf⟩ := gd_so hf
  obtain ⟨g9, e10, hf⟩ := lt_so hf
  refine r_copyi 50 rfl (by decide) hq1.2.2 ho.2.2 b7 b8 ml_X3_26 ac_nat ac_st ini_Sys (Nat.le_of_ble_eq_true rfl) (ck DX3_copyFrom_0 25 rfl) ?_
  refine r_heap e10 ?_
  obtain rfl := so1 hf
  exact r_vret rfl (ck DX3_copyFrom_0 26 rfl)
-- X4_become
def f_X4_become_L12 (o : Nat) : Nat → Int32 → HP → Option HP
  | 0, _, _ => none
  | n + 1, x3, h => if (60 : Int32) ≤ x3 then (some h) else (gd (inb x3 60) (lt (sl h (o + 1) (Int32.toNatClampNeg x3) 0) fun g7 => lt (x3 + 1 : Int32) fun v9 => f_X4_become_L12 o n v9 g7))
set_option maxHeartbeats 4000000 in
set_option maxRecDepth 100000 in
theorem A_X4_become_L12 (X : XE) (o : Nat) (ho : TP o) (h' : HP) : ∀ (n : Nat) (x3 : Int32) (h : HP), f_X4_become_L12 o n x3 h = some h' → Run mX4_become 1 X 12 [(0, .ref (X.1 o)), (3, .int x3)] [] h none h' := by
  intro n
  induction n with
  | zero => intro x3 h hf; cases hf
  | succ n ih =>
    intro x3 h hf
    rw [f_X4_become_L12] at hf
    refine r_iload_n 13 rfl 1 rfl rfl (ck DX4_become_0 8 rfl) ?_
    refine r_bipush 15 rfl bp_60 (ck DX4_become_0 9 rfl) ?_
    rcases if_so hf with ⟨c5, hf⟩ | ⟨c5, hf⟩
    · refine r_icmp_ge_t 31 (ck DX4_become_0 10 rfl) (by decide) c5 ?_
      obtain rfl := so1 hf
      exact r_vret rfl (ck DX4_become_0 18 rfl)
    · refine r_icmp_ge_f 18 rfl 31 (ck DX4_become_0 10 rfl) (by decide) c5 ?_
      refine r_aload_n 19 rfl 0 rfl rfl (ck DX4_become_0 11 rfl) ?_
      refine r_getr (q := o + 1) 22 rfl (lq_4_0 o) ho.1 kd_4_0 fl_X4_9 (ck DX4_become_0 12 rfl) ?_
      refine r_iload_n 23 rfl 1 rfl rfl (ck DX4_become_0 13 rfl) ?_
      refine r_lconst (v := 0) 24 rfl rfl (ck DX4_become_0 14 rfl) ?_
      obtain ⟨b6, hf⟩ := gd_so hf
      obtain ⟨g7, e8, hf⟩ := lt_so hf
      refine r_last 25 rfl ho.2 (inb_vp b6) (ck DX4_become_0 15 rfl) ?_
      refine r_heap e8 ?_
      obtain ⟨v9, e10, hf⟩ := lt_so hf
      refine r_iinc (lv' := [(3, .int v9), (0, .ref (X.1 o))]) 28 rfl 1 (ck DX4_become_0 16 rfl) rfl (by rw [e10, ic_1]) (by decide) rfl ?_
      refine r_goto 12 (ck DX4_become_0 17 rfl) (by decide) ?_
      refine r_sub (lv' := [(0, .ref (X.1 o)), (3, .int v9)]) [1, 0] rfl ?_
      exact ih v9 g7 hf
def f_X4_become (o : Nat) (x1 : Int32) (x2 : Int32) (h : HP) : Option HP := lt (si h o 1 x1) fun g1 => lt (si g1 o 2 x2) fun g3 => f_X4_become_L12 o FU 0 g3
set_option maxHeartbeats 4000000 in
set_option maxRecDepth 100000 in
theorem A_X4_become (X : XE) (o : Nat) (ho : TP o) (x1 : Int32) (x2 : Int32) (h : HP) (h' : HP) (hf : f_X4_become o x1 x2 h = some h') : CC mX4_become 1 X [.ref (X.1 o), .int x1, .int x2] h none h' := by
  refine CC_of rfl (Nat.le_of_ble_eq_true rfl) ?_
  show Run mX4_become 1 X 0 [(0, .ref (X.1 o)), (1, .int x1), (2, .int x2)] [] h none h'
  unfold f_X4_become at hf
  refine r_aload_n 1 rfl 0 rfl rfl (ck DX4_become_0 0 rfl) ?_
  refine r_iload_n 2 rfl 1 rfl rfl (ck DX4_become_0 1 rfl) ?_
  obtain ⟨g1, e2, hf⟩ := lt_so hf
  refine r_puti 5 rfl ho.1 kd_4_1 fw_X4_13 rfl rfl (ck DX4_become_0 2 rfl) ?_
  refine r_heap e2 ?_
  refine r_aload_n 6 rfl 0 rfl rfl (ck DX4_become_0 3 rfl) ?_
  refine r_iload_n 7 rfl 2 rfl rfl (ck DX4_become_0 4 rfl) ?_
  obtain ⟨g3, e4, hf⟩ := lt_so hf
  refine r_puti 10 rfl ho.1 kd_4_2 fw_X4_17 rfl rfl (ck DX4_become_0 5 rfl) ?_
  refine r_heap e4 ?_
  refine r_iconst 11 rfl ic_0 (ck DX4_become_0 6 rfl) ?_
  refine r_istore_n (lv' := [(3, .int 0), (0, .ref (X.1 o)), (1, .int x1), (2, .int x2)]) 12 rfl (ck DX4_become_0 7 rfl) (by decide) rfl rfl ?_
  refine r_sub (lv' := [(0, .ref (X.1 o)), (3, .int 0)]) [1, 0] rfl ?_
  exact A_X4_become_L12 X o ho _ FU 0 g3 hf
-- X4_cut
def f_X4_cut (o : Nat) (y1 : Int64) (h : HP) : Option Int64 := lt ((h.1 o 1) : Int32) fun v1 => if v1 = 0 then (some (Int32.toInt64 (Int8.toInt32 (Int32.toInt8 (Int64.toInt32 y1))))) else (if v1 = 1 then (some (Int32.toInt64 (Int16.toInt32 (Int32.toInt16 (Int64.toInt32 y1))))) else (if v1 = 2 then (some (Int32.toInt64 (Int64.toInt32 y1))) else (if v1 = 3 then (some y1) else (if v1 = 4 then (if (lg_cmp y1 0) = 0 then (some 0) else (some 1)) else ((some y1))))))
set_option maxHeartbeats 4000000 in
set_option maxRecDepth 100000 in
theorem A_X4_cut (X : XE) (o : Nat) (ho : TP o) (y1 : Int64) (h : HP) (r : Int64) (hf : f_X4_cut o y1 h = some r) : CC mX4_cut 1 X [.ref (X.1 o), .long y1] h (some (.long r)) h := by
  refine CC_of rfl (Nat.le_of_ble_eq_true rfl) ?_
  show Run mX4_cut 1 X 0 [(0, .ref (X.1 o)), (1, .long y1)] [] h (some (.long r)) h
  unfold f_X4_cut at hf
  refine r_aload_n 1 rfl 0 rfl rfl (ck DX4_cut_0 0 rfl) ?_
  refine r_geti 4 rfl ho.1 kd_4_1 fl_X4_13 (ck DX4_cut_0 1 rfl) ?_
  obtain ⟨v1, e2, hf⟩ := lt_so hf
  refine r_top e2 ?_
  rcases if_so hf with ⟨c3, hf⟩ | ⟨c3, hf⟩
  · refine r_tsw_in (v := 0) 40 (ck DX4_cut_0 2 rfl) c3 (by decide) (by decide) rfl (by decide) ?_
    refine r_lload_n 41 rfl 1 rfl rfl (ck DX4_cut_0 3 rfl) ?_
    refine r_l2i 42 rfl (ck DX4_cut_0 4 rfl) ?_
    refine r_i2b 43 rfl (ck DX4_cut_0 5 rfl) ?_
    refine r_i2l 44 rfl (ck DX4_cut_0 6 rfl) ?_
    obtain rfl := so1 hf
    exact r_lret rfl (ck DX4_cut_0 7 rfl)
  · skip
    rcases if_so hf with ⟨c4, hf⟩ | ⟨c4, hf⟩
    · refine r_tsw_in (v := 1) 45 (ck DX4_cut_0 2 rfl) c4 (by decide) (by decide) rfl (by decide) ?_
      refine r_lload_n 46 rfl 1 rfl rfl (ck DX4_cut_0 8 rfl) ?_
      refine r_l2i 47 rfl (ck DX4_cut_0 9 rfl) ?_
      refine r_i2s 48 rfl (ck DX4_cut_0 10 rfl) ?_
      refine r_i2l 49 rfl (ck DX4_cut_0 11 rfl) ?_
      obtain rfl := so1 hf
      exact r_lret rfl (ck DX4_cut_0 12 rfl)
    · skip
      rcases if_so hf with ⟨c5, hf⟩ | ⟨c5, hf⟩
      · refine r_tsw_in (v := 2) 50 (ck DX4_cut_0 2 rfl) c5 (by decide) (by decide) rfl (by decide) ?_
        refine r_lload_n 51 rfl 1 rfl rfl (ck DX4_cut_0 13 rfl) ?_
        refine r_l2i 52 rfl (ck DX4_cut_0 14 rfl) ?_
        refine r_i2l 53 rfl (ck DX4_cut_0 15 rfl) ?_
        obtain rfl := so1 hf
        exact r_lret rfl (ck DX4_cut_0 16 rfl)
      · skip
        rcases if_so hf with ⟨c6, hf⟩ | ⟨c6, hf⟩
        · refine r_tsw_in (v := 3) 66 (ck DX4_cut_0 2 rfl) c6 (by decide) (by decide) rfl (by decide) ?_
          refine r_lload_n 67 rfl 1 rfl rfl (ck DX4_cut_0 25 rfl) ?_
          obtain rfl := so1 hf
          exact r_lret rfl (ck DX4_cut_0 26 rfl)
        · skip
          rcases if_so hf with ⟨c7, hf⟩ | ⟨c7, hf⟩
          · refine r_tsw_in (v := 4) 54 (ck DX4_cut_0 2 rfl) c7 (by decide) (by decide) rfl (by decide) ?_
            refine r_lload_n 55 rfl 1 rfl rfl (ck DX4_cut_0 17 rfl) ?_
            refine r_lconst (v := 0) 56 rfl rfl (ck DX4_cut_0 18 rfl) ?_
            refine r_lcmp 57 rfl (ck DX4_cut_0 19 rfl) ?_
            rcases if_so hf with ⟨c8, hf⟩ | ⟨c8, hf⟩
            · refine r_if_eq_t 64 (ck DX4_cut_0 20 rfl) (by decide) c8 ?_
              refine r_lconst (v := 0) 65 rfl rfl (ck DX4_cut_0 23 rfl) ?_
              obtain rfl := so1 hf
              exact r_lret rfl (ck DX4_cut_0 24 rfl)
            · refine r_if_eq_f 60 rfl 64 (ck DX4_cut_0 20 rfl) (by decide) c8 ?_
              refine r_lconst (v := 1) 61 rfl rfl (ck DX4_cut_0 21 rfl) ?_
              refine r_goto 65 (ck DX4_cut_0 22 rfl) (by decide) ?_
              obtain rfl := so1 hf
              exact r_lret rfl (ck DX4_cut_0 24 rfl)
          · skip
            have hx9 : v1.toInt < 0 ∨ (4 : Int) < v1.toInt := by
              have h8 := tsw_o (x := v1) 0 5 (fun k hk => by
                match k, hk with
                | 0, _ => exact ne_int c3
                | 1, _ => exact ne_int c4
                | 2, _ => exact ne_int c5
                | 3, _ => exact ne_int c6
                | 4, _ => exact ne_int c7
                | k + 5, hk => exact absurd hk (by omega))
              exact h8
            refine r_tsw_out 66 (ck DX4_cut_0 2 rfl) hx9 (by decide) ?_
            refine r_lload_n 67 rfl 1 rfl rfl (ck DX4_cut_0 25 rfl) ?_
            obtain rfl := so1 hf
            exact r_lret rfl (ck DX4_cut_0 26 rfl)
end
