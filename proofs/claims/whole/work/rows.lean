section
-- ===== PART A: goes FIRST, ahead of the names: the tables' words, and 'selects' of the private methods out of them =====
/-- a private method of a class that the tables say can be made, by its rows of tables_1 -/
def lw_okq (q : MethodName × Nat) : Prop := (q.1.cls ≠ "java/lang/invoke/MethodHandle" ∧ q.1.cls ≠ "java/lang/invoke/VarHandle") ∧ Cond.instantiable q.1.cls q.2 ∈ tables_1 ∧ Cond.privateMethod q.1 ∈ tables_1 ∧ Cond.instanceMethod q.1 ∈ tables_1
theorem lw_p0 : lw_okq (⟨"SewnFields$Text", "kindAt", "(I)I"⟩, 5) := ⟨⟨by decide +kernel, by decide +kernel⟩, List.mem_of_getElem? (i := 46) (by decide +kernel), List.mem_of_getElem? (i := 315) (by decide +kernel), List.mem_of_getElem? (i := 316) (by decide +kernel)⟩
theorem lw_p1 : lw_okq (⟨"SewnFields$Reader", "passItem", "(LSewnFields$Text;)Z"⟩, 2) := ⟨⟨by decide +kernel, by decide +kernel⟩, List.mem_of_getElem? (i := 69) (by decide +kernel), List.mem_of_getElem? (i := 323) (by decide +kernel), List.mem_of_getElem? (i := 324) (by decide +kernel)⟩
theorem lw_p2 : lw_okq (⟨"SewnFields$Text", "tokenLetter", "(I)C"⟩, 5) := ⟨⟨by decide +kernel, by decide +kernel⟩, List.mem_of_getElem? (i := 46) (by decide +kernel), List.mem_of_getElem? (i := 342) (by decide +kernel), List.mem_of_getElem? (i := 343) (by decide +kernel)⟩
theorem lw_p3 : lw_okq (⟨"SewnFields$Reader", "passCells", "(LSewnFields$Text;)Z"⟩, 2) := ⟨⟨by decide +kernel, by decide +kernel⟩, List.mem_of_getElem? (i := 69) (by decide +kernel), List.mem_of_getElem? (i := 385) (by decide +kernel), List.mem_of_getElem? (i := 386) (by decide +kernel)⟩
theorem lw_p4 : lw_okq (⟨"SewnFields$Reader", "passSemicolon", "(LSewnFields$Text;)Z"⟩, 2) := ⟨⟨by decide +kernel, by decide +kernel⟩, List.mem_of_getElem? (i := 69) (by decide +kernel), List.mem_of_getElem? (i := 421) (by decide +kernel), List.mem_of_getElem? (i := 422) (by decide +kernel)⟩
theorem lw_p5 : lw_okq (⟨"SewnFields$Reader", "passOfColour", "(LSewnFields$Text;II)Z"⟩, 2) := ⟨⟨by decide +kernel, by decide +kernel⟩, List.mem_of_getElem? (i := 69) (by decide +kernel), List.mem_of_getElem? (i := 430) (by decide +kernel), List.mem_of_getElem? (i := 431) (by decide +kernel)⟩
theorem lw_p6 : lw_okq (⟨"SewnFields$Reader", "passValue", "(LSewnFields$Text;III)Z"⟩, 2) := ⟨⟨by decide +kernel, by decide +kernel⟩, List.mem_of_getElem? (i := 69) (by decide +kernel), List.mem_of_getElem? (i := 434) (by decide +kernel), List.mem_of_getElem? (i := 435) (by decide +kernel)⟩
theorem lw_p7 : lw_okq (⟨"SewnFields$FieldMap", "addField", "(LSewnFields$Cloth;I)V"⟩, 8) := ⟨⟨by decide +kernel, by decide +kernel⟩, List.mem_of_getElem? (i := 84) (by decide +kernel), List.mem_of_getElem? (i := 480) (by decide +kernel), List.mem_of_getElem? (i := 481) (by decide +kernel)⟩
theorem lw_p8 : lw_okq (⟨"SewnFields$Wave", "reach", "(II)V"⟩, 3) := ⟨⟨by decide +kernel, by decide +kernel⟩, List.mem_of_getElem? (i := 90) (by decide +kernel), List.mem_of_getElem? (i := 489) (by decide +kernel), List.mem_of_getElem? (i := 490) (by decide +kernel)⟩
theorem lw_p9 : lw_okq (⟨"SewnFields", "cellsOfOtherColour", "(IIIII)I"⟩, 10) := ⟨⟨by decide +kernel, by decide +kernel⟩, List.mem_of_getElem? (i := 20) (by decide +kernel), List.mem_of_getElem? (i := 528) (by decide +kernel), List.mem_of_getElem? (i := 529) (by decide +kernel)⟩
theorem lw_p10 : lw_okq (⟨"SewnFields", "change", "(II)I"⟩, 10) := ⟨⟨by decide +kernel, by decide +kernel⟩, List.mem_of_getElem? (i := 20) (by decide +kernel), List.mem_of_getElem? (i := 539) (by decide +kernel), List.mem_of_getElem? (i := 540) (by decide +kernel)⟩
theorem lw_p11 : lw_okq (⟨"SewnFields", "betterWay", "(I)I"⟩, 10) := ⟨⟨by decide +kernel, by decide +kernel⟩, List.mem_of_getElem? (i := 20) (by decide +kernel), List.mem_of_getElem? (i := 610) (by decide +kernel), List.mem_of_getElem? (i := 611) (by decide +kernel)⟩
theorem lw_p12 : lw_okq (⟨"SewnFields$Sewing", "findRows", "(LSewnFields$Cloth;LSewnFields$FieldMap;I)V"⟩, 15) := ⟨⟨by decide +kernel, by decide +kernel⟩, List.mem_of_getElem? (i := 133) (by decide +kernel), List.mem_of_getElem? (i := 622) (by decide +kernel), List.mem_of_getElem? (i := 623) (by decide +kernel)⟩
theorem lw_p13 : lw_okq (⟨"SewnFields$Sewing", "lineLength", "(LSewnFields$Cloth;)I"⟩, 15) := ⟨⟨by decide +kernel, by decide +kernel⟩, List.mem_of_getElem? (i := 133) (by decide +kernel), List.mem_of_getElem? (i := 628) (by decide +kernel), List.mem_of_getElem? (i := 629) (by decide +kernel)⟩
theorem lw_p14 : lw_okq (⟨"SewnFields$Sewing", "placeIn", "(II)I"⟩, 15) := ⟨⟨by decide +kernel, by decide +kernel⟩, List.mem_of_getElem? (i := 133) (by decide +kernel), List.mem_of_getElem? (i := 632) (by decide +kernel), List.mem_of_getElem? (i := 633) (by decide +kernel)⟩
theorem lw_p15 : lw_okq (⟨"SewnFields$Sewing", "startRow", "(III)V"⟩, 15) := ⟨⟨by decide +kernel, by decide +kernel⟩, List.mem_of_getElem? (i := 133) (by decide +kernel), List.mem_of_getElem? (i := 638) (by decide +kernel), List.mem_of_getElem? (i := 639) (by decide +kernel)⟩
def lw_privs_1 : List (MethodName × Nat) := [(⟨"SewnFields$Text", "kindAt", "(I)I"⟩, 5), (⟨"SewnFields$Reader", "passItem", "(LSewnFields$Text;)Z"⟩, 2), (⟨"SewnFields$Text", "tokenLetter", "(I)C"⟩, 5), (⟨"SewnFields$Reader", "passCells", "(LSewnFields$Text;)Z"⟩, 2), (⟨"SewnFields$Reader", "passSemicolon", "(LSewnFields$Text;)Z"⟩, 2), (⟨"SewnFields$Reader", "passOfColour", "(LSewnFields$Text;II)Z"⟩, 2), (⟨"SewnFields$Reader", "passValue", "(LSewnFields$Text;III)Z"⟩, 2), (⟨"SewnFields$FieldMap", "addField", "(LSewnFields$Cloth;I)V"⟩, 8), (⟨"SewnFields$Wave", "reach", "(II)V"⟩, 3), (⟨"SewnFields", "cellsOfOtherColour", "(IIIII)I"⟩, 10), (⟨"SewnFields", "change", "(II)I"⟩, 10), (⟨"SewnFields", "betterWay", "(I)I"⟩, 10), (⟨"SewnFields$Sewing", "findRows", "(LSewnFields$Cloth;LSewnFields$FieldMap;I)V"⟩, 15), (⟨"SewnFields$Sewing", "lineLength", "(LSewnFields$Cloth;)I"⟩, 15), (⟨"SewnFields$Sewing", "placeIn", "(II)I"⟩, 15), (⟨"SewnFields$Sewing", "startRow", "(III)V"⟩, 15)]
theorem lw_r1 : ∀ q ∈ lw_privs_1, lw_okq q := List.forall_mem_cons.mpr ⟨lw_p0, List.forall_mem_cons.mpr ⟨lw_p1, List.forall_mem_cons.mpr ⟨lw_p2, List.forall_mem_cons.mpr ⟨lw_p3, List.forall_mem_cons.mpr ⟨lw_p4, List.forall_mem_cons.mpr ⟨lw_p5, List.forall_mem_cons.mpr ⟨lw_p6, List.forall_mem_cons.mpr ⟨lw_p7, List.forall_mem_cons.mpr ⟨lw_p8, List.forall_mem_cons.mpr ⟨lw_p9, List.forall_mem_cons.mpr ⟨lw_p10, List.forall_mem_cons.mpr ⟨lw_p11, List.forall_mem_cons.mpr ⟨lw_p12, List.forall_mem_cons.mpr ⟨lw_p13, List.forall_mem_cons.mpr ⟨lw_p14, List.forall_mem_cons.mpr ⟨lw_p15, fun _ h => absurd h List.not_mem_nil⟩⟩⟩⟩⟩⟩⟩⟩⟩⟩⟩⟩⟩⟩⟩⟩
theorem lw_p16 : lw_okq (⟨"SewnFields$Sewing", "joinRows", "()V"⟩, 15) := ⟨⟨by decide +kernel, by decide +kernel⟩, List.mem_of_getElem? (i := 133) (by decide +kernel), List.mem_of_getElem? (i := 643) (by decide +kernel), List.mem_of_getElem? (i := 644) (by decide +kernel)⟩
theorem lw_p17 : lw_okq (⟨"SewnFields$Sewing", "rowContinuedBy", "(I)I"⟩, 15) := ⟨⟨by decide +kernel, by decide +kernel⟩, List.mem_of_getElem? (i := 133) (by decide +kernel), List.mem_of_getElem? (i := 647) (by decide +kernel), List.mem_of_getElem? (i := 648) (by decide +kernel)⟩
theorem lw_p18 : lw_okq (⟨"SewnFields$Sewing", "isNextTo", "(II)Z"⟩, 15) := ⟨⟨by decide +kernel, by decide +kernel⟩, List.mem_of_getElem? (i := 133) (by decide +kernel), List.mem_of_getElem? (i := 651) (by decide +kernel), List.mem_of_getElem? (i := 652) (by decide +kernel)⟩
theorem lw_p19 : lw_okq (⟨"SewnFields$Sewing", "stitches", "()I"⟩, 15) := ⟨⟨by decide +kernel, by decide +kernel⟩, List.mem_of_getElem? (i := 133) (by decide +kernel), List.mem_of_getElem? (i := 660) (by decide +kernel), List.mem_of_getElem? (i := 661) (by decide +kernel)⟩
theorem lw_p20 : lw_okq (⟨"SewnFields$Sewing", "travel", "(LSewnFields$Cloth;)I"⟩, 15) := ⟨⟨by decide +kernel, by decide +kernel⟩, List.mem_of_getElem? (i := 133) (by decide +kernel), List.mem_of_getElem? (i := 672) (by decide +kernel), List.mem_of_getElem? (i := 673) (by decide +kernel)⟩
theorem lw_p21 : lw_okq (⟨"SewnFields$FieldMap", "markBeside", "(II)V"⟩, 8) := ⟨⟨by decide +kernel, by decide +kernel⟩, List.mem_of_getElem? (i := 84) (by decide +kernel), List.mem_of_getElem? (i := 697) (by decide +kernel), List.mem_of_getElem? (i := 698) (by decide +kernel)⟩
theorem lw_p22 : lw_okq (⟨"SewnFields", "covered", "(II)I"⟩, 10) := ⟨⟨by decide +kernel, by decide +kernel⟩, List.mem_of_getElem? (i := 20) (by decide +kernel), List.mem_of_getElem? (i := 706) (by decide +kernel), List.mem_of_getElem? (i := 707) (by decide +kernel)⟩
theorem lw_p23 : lw_okq (⟨"SewnFields$SewingOrder", "nextColour", "(LSewnFields$Cloth;LSewnFields$FieldMap;)I"⟩, 4) := ⟨⟨by decide +kernel, by decide +kernel⟩, List.mem_of_getElem? (i := 187) (by decide +kernel), List.mem_of_getElem? (i := 786) (by decide +kernel), List.mem_of_getElem? (i := 787) (by decide +kernel)⟩
theorem lw_p24 : lw_okq (⟨"SewnFields$SewingOrder", "isSewn", "(I)Z"⟩, 4) := ⟨⟨by decide +kernel, by decide +kernel⟩, List.mem_of_getElem? (i := 187) (by decide +kernel), List.mem_of_getElem? (i := 792) (by decide +kernel), List.mem_of_getElem? (i := 793) (by decide +kernel)⟩
theorem lw_p25 : lw_okq (⟨"SewnFields$SewingOrder", "mustWait", "(LSewnFields$Cloth;I)Z"⟩, 4) := ⟨⟨by decide +kernel, by decide +kernel⟩, List.mem_of_getElem? (i := 187) (by decide +kernel), List.mem_of_getElem? (i := 797) (by decide +kernel), List.mem_of_getElem? (i := 798) (by decide +kernel)⟩
theorem lw_p26 : lw_okq (⟨"SewnFields$Cloth", "isBeside", "(II)Z"⟩, 1) := ⟨⟨by decide +kernel, by decide +kernel⟩, List.mem_of_getElem? (i := 28) (by decide +kernel), List.mem_of_getElem? (i := 810) (by decide +kernel), List.mem_of_getElem? (i := 811) (by decide +kernel)⟩
theorem lw_p27 : lw_okq (⟨"SewnFields$SewingOrder", "addFields", "(LSewnFields$FieldMap;I)V"⟩, 4) := ⟨⟨by decide +kernel, by decide +kernel⟩, List.mem_of_getElem? (i := 187) (by decide +kernel), List.mem_of_getElem? (i := 815) (by decide +kernel), List.mem_of_getElem? (i := 816) (by decide +kernel)⟩
theorem lw_p28 : lw_okq (⟨"SewnFieldsModel", "reads", "()I"⟩, 35) := ⟨⟨by decide +kernel, by decide +kernel⟩, List.mem_of_getElem? (i := 888) (by decide +kernel), List.mem_of_getElem? (i := 1015) (by decide +kernel), List.mem_of_getElem? (i := 1016) (by decide +kernel)⟩
theorem lw_p29 : lw_okq (⟨"SewnFieldsModel", "steps", "()V"⟩, 35) := ⟨⟨by decide +kernel, by decide +kernel⟩, List.mem_of_getElem? (i := 888) (by decide +kernel), List.mem_of_getElem? (i := 1019) (by decide +kernel), List.mem_of_getElem? (i := 1020) (by decide +kernel)⟩
theorem lw_p30 : lw_okq (⟨"SewnFieldsModel", "at", "(I)I"⟩, 35) := ⟨⟨by decide +kernel, by decide +kernel⟩, List.mem_of_getElem? (i := 888) (by decide +kernel), List.mem_of_getElem? (i := 1023) (by decide +kernel), List.mem_of_getElem? (i := 1024) (by decide +kernel)⟩
theorem lw_p31 : lw_okq (⟨"SewnFieldsModel", "wordOf", "()I"⟩, 35) := ⟨⟨by decide +kernel, by decide +kernel⟩, List.mem_of_getElem? (i := 888) (by decide +kernel), List.mem_of_getElem? (i := 1027) (by decide +kernel), List.mem_of_getElem? (i := 1028) (by decide +kernel)⟩
def lw_privs_2 : List (MethodName × Nat) := [(⟨"SewnFields$Sewing", "joinRows", "()V"⟩, 15), (⟨"SewnFields$Sewing", "rowContinuedBy", "(I)I"⟩, 15), (⟨"SewnFields$Sewing", "isNextTo", "(II)Z"⟩, 15), (⟨"SewnFields$Sewing", "stitches", "()I"⟩, 15), (⟨"SewnFields$Sewing", "travel", "(LSewnFields$Cloth;)I"⟩, 15), (⟨"SewnFields$FieldMap", "markBeside", "(II)V"⟩, 8), (⟨"SewnFields", "covered", "(II)I"⟩, 10), (⟨"SewnFields$SewingOrder", "nextColour", "(LSewnFields$Cloth;LSewnFields$FieldMap;)I"⟩, 4), (⟨"SewnFields$SewingOrder", "isSewn", "(I)Z"⟩, 4), (⟨"SewnFields$SewingOrder", "mustWait", "(LSewnFields$Cloth;I)Z"⟩, 4), (⟨"SewnFields$Cloth", "isBeside", "(II)Z"⟩, 1), (⟨"SewnFields$SewingOrder", "addFields", "(LSewnFields$FieldMap;I)V"⟩, 4), (⟨"SewnFieldsModel", "reads", "()I"⟩, 35), (⟨"SewnFieldsModel", "steps", "()V"⟩, 35), (⟨"SewnFieldsModel", "at", "(I)I"⟩, 35), (⟨"SewnFieldsModel", "wordOf", "()I"⟩, 35)]
theorem lw_r2 : ∀ q ∈ lw_privs_2, lw_okq q := List.forall_mem_cons.mpr ⟨lw_p16, List.forall_mem_cons.mpr ⟨lw_p17, List.forall_mem_cons.mpr ⟨lw_p18, List.forall_mem_cons.mpr ⟨lw_p19, List.forall_mem_cons.mpr ⟨lw_p20, List.forall_mem_cons.mpr ⟨lw_p21, List.forall_mem_cons.mpr ⟨lw_p22, List.forall_mem_cons.mpr ⟨lw_p23, List.forall_mem_cons.mpr ⟨lw_p24, List.forall_mem_cons.mpr ⟨lw_p25, List.forall_mem_cons.mpr ⟨lw_p26, List.forall_mem_cons.mpr ⟨lw_p27, List.forall_mem_cons.mpr ⟨lw_p28, List.forall_mem_cons.mpr ⟨lw_p29, List.forall_mem_cons.mpr ⟨lw_p30, List.forall_mem_cons.mpr ⟨lw_p31, fun _ h => absurd h List.not_mem_nil⟩⟩⟩⟩⟩⟩⟩⟩⟩⟩⟩⟩⟩⟩⟩⟩
theorem lw_p32 : lw_okq (⟨"SewnFieldsModel", "isWord", "(IIII)Z"⟩, 35) := ⟨⟨by decide +kernel, by decide +kernel⟩, List.mem_of_getElem? (i := 888) (by decide +kernel), List.mem_of_getElem? (i := 1031) (by decide +kernel), List.mem_of_getElem? (i := 1032) (by decide +kernel)⟩
theorem lw_p33 : lw_okq (⟨"SewnFieldsModel", "readsRow", "()V"⟩, 35) := ⟨⟨by decide +kernel, by decide +kernel⟩, List.mem_of_getElem? (i := 888) (by decide +kernel), List.mem_of_getElem? (i := 1035) (by decide +kernel), List.mem_of_getElem? (i := 1036) (by decide +kernel)⟩
theorem lw_p34 : lw_okq (⟨"SewnFieldsModel", "takes", "(Z)V"⟩, 35) := ⟨⟨by decide +kernel, by decide +kernel⟩, List.mem_of_getElem? (i := 888) (by decide +kernel), List.mem_of_getElem? (i := 1039) (by decide +kernel), List.mem_of_getElem? (i := 1040) (by decide +kernel)⟩
theorem lw_p35 : lw_okq (⟨"SewnFieldsModel", "readsOf", "(II)V"⟩, 35) := ⟨⟨by decide +kernel, by decide +kernel⟩, List.mem_of_getElem? (i := 888) (by decide +kernel), List.mem_of_getElem? (i := 1043) (by decide +kernel), List.mem_of_getElem? (i := 1044) (by decide +kernel)⟩
theorem lw_p36 : lw_okq (⟨"SewnFieldsModel", "figure", "(II)I"⟩, 35) := ⟨⟨by decide +kernel, by decide +kernel⟩, List.mem_of_getElem? (i := 888) (by decide +kernel), List.mem_of_getElem? (i := 1047) (by decide +kernel), List.mem_of_getElem? (i := 1048) (by decide +kernel)⟩
theorem lw_p37 : lw_okq (⟨"SewnFieldsModel", "readsOne", "(III)V"⟩, 35) := ⟨⟨by decide +kernel, by decide +kernel⟩, List.mem_of_getElem? (i := 888) (by decide +kernel), List.mem_of_getElem? (i := 1051) (by decide +kernel), List.mem_of_getElem? (i := 1052) (by decide +kernel)⟩
theorem lw_p38 : lw_okq (⟨"SewnFieldsModel", "notes", "()V"⟩, 35) := ⟨⟨by decide +kernel, by decide +kernel⟩, List.mem_of_getElem? (i := 888) (by decide +kernel), List.mem_of_getElem? (i := 1055) (by decide +kernel), List.mem_of_getElem? (i := 1056) (by decide +kernel)⟩
theorem lw_p39 : lw_okq (⟨"SewnFieldsModel", "isCell", "(II)Z"⟩, 35) := ⟨⟨by decide +kernel, by decide +kernel⟩, List.mem_of_getElem? (i := 888) (by decide +kernel), List.mem_of_getElem? (i := 1063) (by decide +kernel), List.mem_of_getElem? (i := 1064) (by decide +kernel)⟩
theorem lw_p40 : lw_okq (⟨"SewnFieldsModel", "cells", "()I"⟩, 35) := ⟨⟨by decide +kernel, by decide +kernel⟩, List.mem_of_getElem? (i := 888) (by decide +kernel), List.mem_of_getElem? (i := 1067) (by decide +kernel), List.mem_of_getElem? (i := 1068) (by decide +kernel)⟩
theorem lw_p41 : lw_okq (⟨"SewnFieldsModel", "becomes", "(II)I"⟩, 35) := ⟨⟨by decide +kernel, by decide +kernel⟩, List.mem_of_getElem? (i := 888) (by decide +kernel), List.mem_of_getElem? (i := 1075) (by decide +kernel), List.mem_of_getElem? (i := 1076) (by decide +kernel)⟩
theorem lw_p42 : lw_okq (⟨"SewnFieldsModel", "laysFields", "()V"⟩, 35) := ⟨⟨by decide +kernel, by decide +kernel⟩, List.mem_of_getElem? (i := 888) (by decide +kernel), List.mem_of_getElem? (i := 1099) (by decide +kernel), List.mem_of_getElem? (i := 1100) (by decide +kernel)⟩
theorem lw_p43 : lw_okq (⟨"SewnFieldsModel", "spreads", "(II)V"⟩, 35) := ⟨⟨by decide +kernel, by decide +kernel⟩, List.mem_of_getElem? (i := 888) (by decide +kernel), List.mem_of_getElem? (i := 1103) (by decide +kernel), List.mem_of_getElem? (i := 1104) (by decide +kernel)⟩
theorem lw_p44 : lw_okq (⟨"SewnFieldsModel", "areBeside", "(II)Z"⟩, 35) := ⟨⟨by decide +kernel, by decide +kernel⟩, List.mem_of_getElem? (i := 888) (by decide +kernel), List.mem_of_getElem? (i := 1107) (by decide +kernel), List.mem_of_getElem? (i := 1108) (by decide +kernel)⟩
theorem lw_p45 : lw_okq (⟨"SewnFieldsModel", "isField", "(I)Z"⟩, 35) := ⟨⟨by decide +kernel, by decide +kernel⟩, List.mem_of_getElem? (i := 888) (by decide +kernel), List.mem_of_getElem? (i := 1115) (by decide +kernel), List.mem_of_getElem? (i := 1116) (by decide +kernel)⟩
theorem lw_p46 : lw_okq (⟨"SewnFieldsModel", "colourOf", "(I)I"⟩, 35) := ⟨⟨by decide +kernel, by decide +kernel⟩, List.mem_of_getElem? (i := 888) (by decide +kernel), List.mem_of_getElem? (i := 1119) (by decide +kernel), List.mem_of_getElem? (i := 1120) (by decide +kernel)⟩
theorem lw_p47 : lw_okq (⟨"SewnFieldsModel", "lowestOf", "(I)I"⟩, 35) := ⟨⟨by decide +kernel, by decide +kernel⟩, List.mem_of_getElem? (i := 888) (by decide +kernel), List.mem_of_getElem? (i := 1123) (by decide +kernel), List.mem_of_getElem? (i := 1124) (by decide +kernel)⟩
def lw_privs_3 : List (MethodName × Nat) := [(⟨"SewnFieldsModel", "isWord", "(IIII)Z"⟩, 35), (⟨"SewnFieldsModel", "readsRow", "()V"⟩, 35), (⟨"SewnFieldsModel", "takes", "(Z)V"⟩, 35), (⟨"SewnFieldsModel", "readsOf", "(II)V"⟩, 35), (⟨"SewnFieldsModel", "figure", "(II)I"⟩, 35), (⟨"SewnFieldsModel", "readsOne", "(III)V"⟩, 35), (⟨"SewnFieldsModel", "notes", "()V"⟩, 35), (⟨"SewnFieldsModel", "isCell", "(II)Z"⟩, 35), (⟨"SewnFieldsModel", "cells", "()I"⟩, 35), (⟨"SewnFieldsModel", "becomes", "(II)I"⟩, 35), (⟨"SewnFieldsModel", "laysFields", "()V"⟩, 35), (⟨"SewnFieldsModel", "spreads", "(II)V"⟩, 35), (⟨"SewnFieldsModel", "areBeside", "(II)Z"⟩, 35), (⟨"SewnFieldsModel", "isField", "(I)Z"⟩, 35), (⟨"SewnFieldsModel", "colourOf", "(I)I"⟩, 35), (⟨"SewnFieldsModel", "lowestOf", "(I)I"⟩, 35)]
theorem lw_r3 : ∀ q ∈ lw_privs_3, lw_okq q := List.forall_mem_cons.mpr ⟨lw_p32, List.forall_mem_cons.mpr ⟨lw_p33, List.forall_mem_cons.mpr ⟨lw_p34, List.forall_mem_cons.mpr ⟨lw_p35, List.forall_mem_cons.mpr ⟨lw_p36, List.forall_mem_cons.mpr ⟨lw_p37, List.forall_mem_cons.mpr ⟨lw_p38, List.forall_mem_cons.mpr ⟨lw_p39, List.forall_mem_cons.mpr ⟨lw_p40, List.forall_mem_cons.mpr ⟨lw_p41, List.forall_mem_cons.mpr ⟨lw_p42, List.forall_mem_cons.mpr ⟨lw_p43, List.forall_mem_cons.mpr ⟨lw_p44, List.forall_mem_cons.mpr ⟨lw_p45, List.forall_mem_cons.mpr ⟨lw_p46, List.forall_mem_cons.mpr ⟨lw_p47, fun _ h => absurd h List.not_mem_nil⟩⟩⟩⟩⟩⟩⟩⟩⟩⟩⟩⟩⟩⟩⟩⟩
theorem lw_p48 : lw_okq (⟨"SewnFieldsModel", "sizeOf", "(I)I"⟩, 35) := ⟨⟨by decide +kernel, by decide +kernel⟩, List.mem_of_getElem? (i := 888) (by decide +kernel), List.mem_of_getElem? (i := 1127) (by decide +kernel), List.mem_of_getElem? (i := 1128) (by decide +kernel)⟩
theorem lw_p49 : lw_okq (⟨"SewnFieldsModel", "bestWay", "(I)I"⟩, 35) := ⟨⟨by decide +kernel, by decide +kernel⟩, List.mem_of_getElem? (i := 888) (by decide +kernel), List.mem_of_getElem? (i := 1131) (by decide +kernel), List.mem_of_getElem? (i := 1132) (by decide +kernel)⟩
theorem lw_p50 : lw_okq (⟨"SewnFieldsModel", "toldOf", "(III)I"⟩, 35) := ⟨⟨by decide +kernel, by decide +kernel⟩, List.mem_of_getElem? (i := 888) (by decide +kernel), List.mem_of_getElem? (i := 1135) (by decide +kernel), List.mem_of_getElem? (i := 1136) (by decide +kernel)⟩
theorem lw_p51 : lw_okq (⟨"SewnFieldsModel", "laysRows", "(II)V"⟩, 35) := ⟨⟨by decide +kernel, by decide +kernel⟩, List.mem_of_getElem? (i := 888) (by decide +kernel), List.mem_of_getElem? (i := 1139) (by decide +kernel), List.mem_of_getElem? (i := 1140) (by decide +kernel)⟩
theorem lw_p52 : lw_okq (⟨"SewnFieldsModel", "cellAt", "(II)I"⟩, 35) := ⟨⟨by decide +kernel, by decide +kernel⟩, List.mem_of_getElem? (i := 888) (by decide +kernel), List.mem_of_getElem? (i := 1143) (by decide +kernel), List.mem_of_getElem? (i := 1144) (by decide +kernel)⟩
theorem lw_p53 : lw_okq (⟨"SewnFieldsModel", "laysNexts", "()V"⟩, 35) := ⟨⟨by decide +kernel, by decide +kernel⟩, List.mem_of_getElem? (i := 888) (by decide +kernel), List.mem_of_getElem? (i := 1147) (by decide +kernel), List.mem_of_getElem? (i := 1148) (by decide +kernel)⟩
theorem lw_p54 : lw_okq (⟨"SewnFieldsModel", "laysParts", "()V"⟩, 35) := ⟨⟨by decide +kernel, by decide +kernel⟩, List.mem_of_getElem? (i := 888) (by decide +kernel), List.mem_of_getElem? (i := 1151) (by decide +kernel), List.mem_of_getElem? (i := 1152) (by decide +kernel)⟩
theorem lw_p55 : lw_okq (⟨"SewnFieldsModel", "stitches", "()I"⟩, 35) := ⟨⟨by decide +kernel, by decide +kernel⟩, List.mem_of_getElem? (i := 888) (by decide +kernel), List.mem_of_getElem? (i := 1155) (by decide +kernel), List.mem_of_getElem? (i := 1156) (by decide +kernel)⟩
theorem lw_p56 : lw_okq (⟨"SewnFieldsModel", "stitchesOf", "(I)I"⟩, 35) := ⟨⟨by decide +kernel, by decide +kernel⟩, List.mem_of_getElem? (i := 888) (by decide +kernel), List.mem_of_getElem? (i := 1159) (by decide +kernel), List.mem_of_getElem? (i := 1160) (by decide +kernel)⟩
theorem lw_p57 : lw_okq (⟨"SewnFieldsModel", "lengthOf", "(I)I"⟩, 35) := ⟨⟨by decide +kernel, by decide +kernel⟩, List.mem_of_getElem? (i := 888) (by decide +kernel), List.mem_of_getElem? (i := 1163) (by decide +kernel), List.mem_of_getElem? (i := 1164) (by decide +kernel)⟩
theorem lw_p58 : lw_okq (⟨"SewnFieldsModel", "travel", "()I"⟩, 35) := ⟨⟨by decide +kernel, by decide +kernel⟩, List.mem_of_getElem? (i := 888) (by decide +kernel), List.mem_of_getElem? (i := 1167) (by decide +kernel), List.mem_of_getElem? (i := 1168) (by decide +kernel)⟩
theorem lw_p59 : lw_okq (⟨"SewnFieldsModel", "hiddenOf", "(I)I"⟩, 35) := ⟨⟨by decide +kernel, by decide +kernel⟩, List.mem_of_getElem? (i := 888) (by decide +kernel), List.mem_of_getElem? (i := 1171) (by decide +kernel), List.mem_of_getElem? (i := 1172) (by decide +kernel)⟩
theorem lw_p60 : lw_okq (⟨"SewnFieldsModel", "endOf", "(I)I"⟩, 35) := ⟨⟨by decide +kernel, by decide +kernel⟩, List.mem_of_getElem? (i := 888) (by decide +kernel), List.mem_of_getElem? (i := 1175) (by decide +kernel), List.mem_of_getElem? (i := 1176) (by decide +kernel)⟩
theorem lw_p61 : lw_okq (⟨"SewnFieldsModel", "startOf", "(I)I"⟩, 35) := ⟨⟨by decide +kernel, by decide +kernel⟩, List.mem_of_getElem? (i := 888) (by decide +kernel), List.mem_of_getElem? (i := 1179) (by decide +kernel), List.mem_of_getElem? (i := 1180) (by decide +kernel)⟩
theorem lw_p62 : lw_okq (⟨"SewnFieldsModel", "stepsBetween", "(II)I"⟩, 35) := ⟨⟨by decide +kernel, by decide +kernel⟩, List.mem_of_getElem? (i := 888) (by decide +kernel), List.mem_of_getElem? (i := 1183) (by decide +kernel), List.mem_of_getElem? (i := 1184) (by decide +kernel)⟩
theorem lw_p63 : lw_okq (⟨"SewnFieldsModel", "coveredBy", "(II)I"⟩, 35) := ⟨⟨by decide +kernel, by decide +kernel⟩, List.mem_of_getElem? (i := 888) (by decide +kernel), List.mem_of_getElem? (i := 1187) (by decide +kernel), List.mem_of_getElem? (i := 1188) (by decide +kernel)⟩
def lw_privs_4 : List (MethodName × Nat) := [(⟨"SewnFieldsModel", "sizeOf", "(I)I"⟩, 35), (⟨"SewnFieldsModel", "bestWay", "(I)I"⟩, 35), (⟨"SewnFieldsModel", "toldOf", "(III)I"⟩, 35), (⟨"SewnFieldsModel", "laysRows", "(II)V"⟩, 35), (⟨"SewnFieldsModel", "cellAt", "(II)I"⟩, 35), (⟨"SewnFieldsModel", "laysNexts", "()V"⟩, 35), (⟨"SewnFieldsModel", "laysParts", "()V"⟩, 35), (⟨"SewnFieldsModel", "stitches", "()I"⟩, 35), (⟨"SewnFieldsModel", "stitchesOf", "(I)I"⟩, 35), (⟨"SewnFieldsModel", "lengthOf", "(I)I"⟩, 35), (⟨"SewnFieldsModel", "travel", "()I"⟩, 35), (⟨"SewnFieldsModel", "hiddenOf", "(I)I"⟩, 35), (⟨"SewnFieldsModel", "endOf", "(I)I"⟩, 35), (⟨"SewnFieldsModel", "startOf", "(I)I"⟩, 35), (⟨"SewnFieldsModel", "stepsBetween", "(II)I"⟩, 35), (⟨"SewnFieldsModel", "coveredBy", "(II)I"⟩, 35)]
theorem lw_r4 : ∀ q ∈ lw_privs_4, lw_okq q := List.forall_mem_cons.mpr ⟨lw_p48, List.forall_mem_cons.mpr ⟨lw_p49, List.forall_mem_cons.mpr ⟨lw_p50, List.forall_mem_cons.mpr ⟨lw_p51, List.forall_mem_cons.mpr ⟨lw_p52, List.forall_mem_cons.mpr ⟨lw_p53, List.forall_mem_cons.mpr ⟨lw_p54, List.forall_mem_cons.mpr ⟨lw_p55, List.forall_mem_cons.mpr ⟨lw_p56, List.forall_mem_cons.mpr ⟨lw_p57, List.forall_mem_cons.mpr ⟨lw_p58, List.forall_mem_cons.mpr ⟨lw_p59, List.forall_mem_cons.mpr ⟨lw_p60, List.forall_mem_cons.mpr ⟨lw_p61, List.forall_mem_cons.mpr ⟨lw_p62, List.forall_mem_cons.mpr ⟨lw_p63, fun _ h => absurd h List.not_mem_nil⟩⟩⟩⟩⟩⟩⟩⟩⟩⟩⟩⟩⟩⟩⟩⟩
theorem lw_p64 : lw_okq (⟨"SewnFieldsModel", "covers", "(I)V"⟩, 35) := ⟨⟨by decide +kernel, by decide +kernel⟩, List.mem_of_getElem? (i := 888) (by decide +kernel), List.mem_of_getElem? (i := 1191) (by decide +kernel), List.mem_of_getElem? (i := 1192) (by decide +kernel)⟩
theorem lw_p65 : lw_okq (⟨"SewnFieldsModel", "touching", "(I)I"⟩, 35) := ⟨⟨by decide +kernel, by decide +kernel⟩, List.mem_of_getElem? (i := 888) (by decide +kernel), List.mem_of_getElem? (i := 1195) (by decide +kernel), List.mem_of_getElem? (i := 1196) (by decide +kernel)⟩
theorem lw_p66 : lw_okq (⟨"SewnFieldsModel", "touch", "(II)Z"⟩, 35) := ⟨⟨by decide +kernel, by decide +kernel⟩, List.mem_of_getElem? (i := 888) (by decide +kernel), List.mem_of_getElem? (i := 1199) (by decide +kernel), List.mem_of_getElem? (i := 1200) (by decide +kernel)⟩
theorem lw_p67 : lw_okq (⟨"SewnFieldsModel", "laysAhead", "()V"⟩, 35) := ⟨⟨by decide +kernel, by decide +kernel⟩, List.mem_of_getElem? (i := 888) (by decide +kernel), List.mem_of_getElem? (i := 1219) (by decide +kernel), List.mem_of_getElem? (i := 1220) (by decide +kernel)⟩
theorem lw_p68 : lw_okq (⟨"SewnFieldsModel", "laysChanges", "()V"⟩, 35) := ⟨⟨by decide +kernel, by decide +kernel⟩, List.mem_of_getElem? (i := 888) (by decide +kernel), List.mem_of_getElem? (i := 1223) (by decide +kernel), List.mem_of_getElem? (i := 1224) (by decide +kernel)⟩
theorem lw_p69 : lw_okq (⟨"SewnFieldsModel", "mayCome", "(II)Z"⟩, 35) := ⟨⟨by decide +kernel, by decide +kernel⟩, List.mem_of_getElem? (i := 888) (by decide +kernel), List.mem_of_getElem? (i := 1227) (by decide +kernel), List.mem_of_getElem? (i := 1228) (by decide +kernel)⟩
theorem lw_p70 : lw_okq (⟨"SewnFieldsModel", "withField", "(III)I"⟩, 35) := ⟨⟨by decide +kernel, by decide +kernel⟩, List.mem_of_getElem? (i := 888) (by decide +kernel), List.mem_of_getElem? (i := 1231) (by decide +kernel), List.mem_of_getElem? (i := 1232) (by decide +kernel)⟩
theorem lw_p71 : lw_okq (⟨"SewnFieldsModel", "fieldAt", "(I)I"⟩, 35) := ⟨⟨by decide +kernel, by decide +kernel⟩, List.mem_of_getElem? (i := 888) (by decide +kernel), List.mem_of_getElem? (i := 1235) (by decide +kernel), List.mem_of_getElem? (i := 1236) (by decide +kernel)⟩
theorem lw_p72 : lw_okq (⟨"SewnFieldsModel", "isSo", "(I)Z"⟩, 35) := ⟨⟨by decide +kernel, by decide +kernel⟩, List.mem_of_getElem? (i := 888) (by decide +kernel), List.mem_of_getElem? (i := 1251) (by decide +kernel), List.mem_of_getElem? (i := 1252) (by decide +kernel)⟩
theorem lw_p73 : lw_okq (⟨"SewnFieldsModel", "fieldsNow", "()I"⟩, 35) := ⟨⟨by decide +kernel, by decide +kernel⟩, List.mem_of_getElem? (i := 888) (by decide +kernel), List.mem_of_getElem? (i := 1259) (by decide +kernel), List.mem_of_getElem? (i := 1260) (by decide +kernel)⟩
theorem lw_p74 : lw_okq (⟨"SewnFieldsModel", "coloured", "()I"⟩, 35) := ⟨⟨by decide +kernel, by decide +kernel⟩, List.mem_of_getElem? (i := 888) (by decide +kernel), List.mem_of_getElem? (i := 1271) (by decide +kernel), List.mem_of_getElem? (i := 1272) (by decide +kernel)⟩
def lw_privs_5 : List (MethodName × Nat) := [(⟨"SewnFieldsModel", "covers", "(I)V"⟩, 35), (⟨"SewnFieldsModel", "touching", "(I)I"⟩, 35), (⟨"SewnFieldsModel", "touch", "(II)Z"⟩, 35), (⟨"SewnFieldsModel", "laysAhead", "()V"⟩, 35), (⟨"SewnFieldsModel", "laysChanges", "()V"⟩, 35), (⟨"SewnFieldsModel", "mayCome", "(II)Z"⟩, 35), (⟨"SewnFieldsModel", "withField", "(III)I"⟩, 35), (⟨"SewnFieldsModel", "fieldAt", "(I)I"⟩, 35), (⟨"SewnFieldsModel", "isSo", "(I)Z"⟩, 35), (⟨"SewnFieldsModel", "fieldsNow", "()I"⟩, 35), (⟨"SewnFieldsModel", "coloured", "()I"⟩, 35)]
theorem lw_r5 : ∀ q ∈ lw_privs_5, lw_okq q := List.forall_mem_cons.mpr ⟨lw_p64, List.forall_mem_cons.mpr ⟨lw_p65, List.forall_mem_cons.mpr ⟨lw_p66, List.forall_mem_cons.mpr ⟨lw_p67, List.forall_mem_cons.mpr ⟨lw_p68, List.forall_mem_cons.mpr ⟨lw_p69, List.forall_mem_cons.mpr ⟨lw_p70, List.forall_mem_cons.mpr ⟨lw_p71, List.forall_mem_cons.mpr ⟨lw_p72, List.forall_mem_cons.mpr ⟨lw_p73, List.forall_mem_cons.mpr ⟨lw_p74, fun _ h => absurd h List.not_mem_nil⟩⟩⟩⟩⟩⟩⟩⟩⟩⟩⟩
def lw_privs : List (MethodName × Nat) := lw_privs_1 ++ (lw_privs_2 ++ (lw_privs_3 ++ (lw_privs_4 ++ (lw_privs_5))))
def lw_tbl : List Cond := k2_sels lw_privs ++ tables_1
theorem lw_privs_ok : ∀ q ∈ lw_privs, lw_okq q := by
  show ∀ q ∈ lw_privs_1 ++ (lw_privs_2 ++ (lw_privs_3 ++ (lw_privs_4 ++ (lw_privs_5)))), lw_okq q
  exact List.forall_mem_append.mpr ⟨lw_r1, List.forall_mem_append.mpr ⟨lw_r2, List.forall_mem_append.mpr ⟨lw_r3, List.forall_mem_append.mpr ⟨lw_r4, lw_r5⟩⟩⟩⟩
/-! ===== BEGIN words of one list among another's, by their places ===== -/
theorem goodIn_r {big : List Cond} (ws : List Cond) (ps : List Nat) (hp : ws = ps.filterMap (fun i => big[i]?)) (h : ws.all goodWord = true) : GoodIn big ws := by
  intro w hw
  have h1 := List.all_eq_true.mp h w hw
  rw [hp] at hw
  obtain ⟨i, -, hi⟩ := List.mem_filterMap.mp hw
  have hm : w ∈ big := by first | exact List.mem_of_getElem? hi | exact List.getElem?_mem hi
  exact ⟨hm, good_of_word h1⟩
theorem goodIn_app {big a b : List Cond} (ha : GoodIn big a) (hb : GoodIn big b) : GoodIn big (a ++ b) := fun w h => (List.mem_append.mp h).elim (ha w) (hb w)
theorem goodIn_ca {big a b : List Cond} {c : Cond} (ha : GoodIn big (c :: a)) (hb : GoodIn big b) : GoodIn big (c :: (a ++ b)) := fun w h => (List.mem_cons.mp h).elim (fun e => ha w (List.mem_cons.mpr (Or.inl e))) (fun h => (List.mem_append.mp h).elim (fun h => ha w (List.mem_cons.mpr (Or.inr h))) (hb w))
theorem goodIn_sub {big ws : List Cond} (hm : ∀ w ∈ ws, w ∈ big) (h : ws.all goodWord = true) : GoodIn big ws := fun w hw => ⟨hm w hw, good_of_word (List.all_eq_true.mp h w hw)⟩
/-! ===== END ===== -/

/-! ===== BEGIN new T[n][m]: the outer array a place, the inner ones among the pooled ===== -/
/-- f, but v at every address of l -/
def vr_up {α : Type} (f : Nat → α) (l : List Nat) (v : α) : Nat → α := fun a => if a ∈ l then v else f a
theorem vr_up_in {α : Type} {f : Nat → α} {l : List Nat} {v : α} {a : Nat} (h : a ∈ l) : vr_up f l v a = v := if_pos h
theorem vr_up_ne {α : Type} {f : Nat → α} {l : List Nat} {v : α} {a : Nat} (h : a ∉ l) : vr_up f l v a = f a := if_neg h
theorem vr_rows {L l : List Nat} {f : Nat → va_E} {e : va_E} (h : ∀ a, a ∈ l → a ∉ L) : va_pl L f ++ l.map (fun a => (a, e)) = va_pl (L ++ l) (vr_up f l e) := by
  unfold va_pl
  rw [List.map_append]
  congr 1
  · apply List.map_congr_left
    intro a ha
    rw [vr_up_ne (fun q => h a q ha)]
  · apply List.map_congr_left
    intro a ha
    rw [vr_up_in ha]
theorem vr_lay {X rows : va_W} {x : Nat × va_E} {pl : va_W} {D : va_G} {cl : List vw_C} {H : Heap} (hP : va_P D cl (((X ++ pl) ++ [x]) ++ rows) H) : va_P D cl ((X ++ [x]) ++ (pl ++ rows)) H := by
  rw [List.append_assoc (X ++ pl)] at hP
  have h := va_P.swap hP
  rw [← List.append_assoc X] at h
  have h2 := va_P.swap h
  rw [List.append_assoc (X ++ [x])] at h2
  exact h2
theorem vr_layD {X rows : va_W} {x : Nat × va_E} {pl : va_W} {A : Nat → Prop} (hD : va_D A (((X ++ pl) ++ [x]) ++ rows)) : va_D A ((X ++ [x]) ++ (pl ++ rows)) := by
  rw [List.append_assoc (X ++ pl)] at hD
  have h := va_D.swap hD
  rw [← List.append_assoc X] at h
  have h2 := va_D.swap h
  rw [List.append_assoc (X ++ [x])] at h2
  exact h2
theorem vr_outer (c : ClassId) (N h0 : Nat) : ∀ i : Nat, Jvm.Free.Multi.outerC c N h0 i = arrV c N (fun j => va_rf (if j < i then some (h0 + 1 + j) else none))
  | 0 => by
    show ({ cls := c, slots := Array.replicate N .null, vm := .none } : Cell) = _
    rw [arrV_new]
    refine congrArg (arrV c N) (funext fun j => ?_)
    simp [va_rf]
  | i + 1 => by
    show (Jvm.Free.Multi.outerC c N h0 i).setSlot i (.ref (h0 + 1 + i)) = _
    rw [vr_outer c N h0 i, arrV_store]
    refine congrArg (arrV c N) (funext fun j => ?_)
    by_cases e : j = i
    · subst e
      simp [updV, va_rf]
    · by_cases h : j < i
      · simp [updV, e, h, Nat.lt_succ_of_lt h]
      · simp [updV, e, h, show ¬ j < i + 1 by omega]
section VGM
variable {p : Program} {l : Launch} {e : Env} {R : Room} {s : State} {m : MethodId} {args : Array Value} {below : List Frame} {meth : Method} {c : Code} {H : Heap} {locs : List Loc} {cells slots : Nat} {Q : State → Prop}
variable {cc : ByteArray} {pc : Nat} {ls : Array Slot} {rest : List Value} {D : va_G} {cl : List vw_C} {A : Nat → Prop} {a : Nat} {tys : List (ClassId × FieldType)} {ws : va_W} {H0 : Heap}
theorem va_mna {X : va_W} {L : List Nat} {f : Nat → va_E} {cc : ByteArray} (hexec : p.tables.exec = Jvm.exec) (hb : c.code = cc) {own : String} {index : Nat} {ty : FieldType} {cy : ClassId} (hown : s.vm.findClass own = some m.cls) (hclink : (Cond.classLink own index ("[" ++ (FieldType.array ty).toString)).before args s = true) (hover : (Cond.arrayOver (.array ty)).before args s = true) (harr : (Cond.arrayClass ty).before args s = true) (hcy : s.vm.findClass (FieldType.array ty).toString = some cy)
    (hK : va_K D cl tys s) (hP : va_P D cl (X ++ va_pl L f) H) (hD : va_D A (X ++ va_pl L f)) (hS : va_S A H0 H locs) (hA : ∀ q, H0.size ≤ q → A q) {n k : Int32} {N' K' : Nat} {z : vp_A} (hn : ¬ n < 0) (hk : ¬ k < 0) (hN : n.toNatClampNeg = N') (hM : k.toNatClampNeg = K')
    (hb1 : N' * 4 ≤ 536870912) (hb2 : K' * componentBytes ty ≤ 536870912) (hb3 : K' ≤ 536870912) (hdf : fits ty (defaultValue ty) = true) (hdd : (defaultValue ty).isDefault = true) (hcells : cells + (1 + N') ≤ R.cells) (hslots : slots + (N' + N' * K') ≤ R.slots) (hz : ∀ c : ClassId, Jvm.Free.Multi.innerC c K' (defaultValue ty) = vp_cell c z) (hdg : decode cc pc = .ok (.multianewarray index 2, 4))
    (kk : ∀ (q : Nat) (r : Nat → Nat) (cA : ClassId) (H1 : Heap), (∀ i j : Nat, i < N' → j < N' → r i = r j → i = j) → (∀ i : Nat, i < N' → r i ∉ L) → va_K D cl (tys ++ [(cA, .array ty)]) s →
      va_P D cl ((X ++ [(q, .inl (cA, N', .inr (.inr (.inr (.inr (fun i => if i < N' then some (r i) else none))))))]) ++ va_pl (L ++ (List.range N').map r) (vr_up f ((List.range N').map r) (.inl (cy, z)))) H1 → va_D A ((X ++ [(q, .inl (cA, N', .inr (.inr (.inr (.inr (fun i => if i < N' then some (r i) else none))))))]) ++ va_pl (L ++ (List.range N').map r) (vr_up f ((List.range N').map r) (.inl (cy, z)))) → va_S A H0 H1 locs →
      W p l e R s m args below meth c H1 locs (cells + 1 + N') (slots + N' + N' * K') Q (F0 m (pc + 4) ls (.ref q :: rest))) : W p l e R s m args below meth c H locs cells slots Q (F0 m pc ls (.int k :: .int n :: rest)) := by
  subst hN
  subst hM
  intro T hT Xs
  obtain ⟨vm₁, cA, comp, -, fA, fC, hO, -, X', step⟩ := Xs.multianewarray2F hexec hown hclink hover harr (g := F0 m pc ls (.int k :: .int n :: rest)) rfl (by rw [hb]; exact hdg) rfl hn hk hb1 hb2 hb3 hdf hdd hcells hslots
  have ec : some cy = some comp := hcy.symm.trans fC
  cases ec
  generalize hF : Jvm.Free.Multi.fill (T.setVm vm₁) cA cy n.toNatClampNeg k.toNatClampNeg (defaultValue ty) n.toNatClampNeg = F at X' step
  have hTh : (T.setVm vm₁).heap = H := hT
  obtain ⟨f1, f2, -, -⟩ := Jvm.Free.Multi.fill_facts (T.setVm vm₁) cA cy n.toNatClampNeg k.toNatClampNeg (defaultValue ty) n.toNatClampNeg
  rw [hF, hTh] at f1 f2
  have hold : ∀ x : Nat, x < H.size → F.heap[x]? = H[x]? := fun x hx => by
    have := Jvm.Free.Multi.fill_old (T.setVm vm₁) cA cy n.toNatClampNeg k.toNatClampNeg (defaultValue ty) (a := x) (by rw [hTh]; exact hx) n.toNatClampNeg
    rw [hF, hTh] at this
    exact this
  have hrow : ∀ j : Nat, j < n.toNatClampNeg → F.heap[H.size + 1 + j]? = some (vp_cell cy z) := fun j hj => by
    have := Jvm.Free.Multi.fill_inner (T.setVm vm₁) cA cy n.toNatClampNeg k.toNatClampNeg (defaultValue ty) n.toNatClampNeg j hj
    rw [hF, hTh, hz] at this
    exact this
  have hout : Jvm.Free.Multi.outerC cA n.toNatClampNeg H.size n.toNatClampNeg = vp_cell cA (n.toNatClampNeg, .inr (.inr (.inr (.inr (fun i => if i < n.toNatClampNeg then some (H.size + 1 + i) else none))))) := by
    rw [vp_cell_q]
    exact vr_outer cA n.toNatClampNeg H.size n.toNatClampNeg
  rw [hout] at f2
  have hlt : ∀ a, a ∈ L → a < H.size := fun a ha => by
    obtain ⟨k9, hk9⟩ := va_pl_get (X := X) (f := f) ha
    exact (hP k9 _ hk9).lt
  have hnl : ∀ i : Nat, i < n.toNatClampNeg → H.size + 1 + i ∉ L := fun i _ h => by
    have := hlt _ h
    omega
  have hnm : ∀ a, a ∈ (List.range n.toNatClampNeg).map (fun i => H.size + 1 + i) → a ∉ L := fun a ha h => by
    obtain ⟨i, -, rfl⟩ := List.mem_map.mp ha
    have := hlt _ h
    omega
  have hP0 : va_P D cl (X ++ va_pl L f) F.heap := hP.kept (fun k9 x hx => hold x.1 ((hP k9 x hx).lt))
  have hP1 : va_P D cl ((X ++ va_pl L f) ++ [(H.size, .inl (cA, n.toNatClampNeg, .inr (.inr (.inr (.inr (fun i => if i < n.toNatClampNeg then some (H.size + 1 + i) else none))))))]) F.heap := hP0.app (fun k9 x hx => by
    have h0 : k9 < 1 := (List.getElem?_eq_some_iff.mp hx).1
    rw [show k9 = 0 by omega] at hx
    cases hx
    exact f2)
  have hP2 : va_P D cl (((X ++ va_pl L f) ++ [(H.size, .inl (cA, n.toNatClampNeg, .inr (.inr (.inr (.inr (fun i => if i < n.toNatClampNeg then some (H.size + 1 + i) else none))))))]) ++ ((List.range n.toNatClampNeg).map (fun i => H.size + 1 + i)).map (fun a => (a, .inl (cy, z)))) F.heap := hP1.app (fun k9 x hx => by
    obtain ⟨a, ha, rfl⟩ := List.mem_map.mp (List.mem_of_getElem? hx)
    obtain ⟨i, hi, rfl⟩ := List.mem_map.mp ha
    exact hrow i (List.mem_range.mp hi))
  have hD2 : va_D A (((X ++ va_pl L f) ++ [(H.size, .inl (cA, n.toNatClampNeg, .inr (.inr (.inr (.inr (fun i => if i < n.toNatClampNeg then some (H.size + 1 + i) else none))))))]) ++ ((List.range n.toNatClampNeg).map (fun i => H.size + 1 + i)).map (fun a => (a, .inl (cy, z)))) := by
    have hD1 := hD.push (e := .inl (cA, n.toNatClampNeg, .inr (.inr (.inr (.inr (fun i => if i < n.toNatClampNeg then some (H.size + 1 + i) else none)))))) hP rfl (hA _ hS.1)
    generalize hW1 : (X ++ va_pl L f) ++ [(H.size, .inl (cA, n.toNatClampNeg, .inr (.inr (.inr (.inr (fun i => if i < n.toNatClampNeg then some (H.size + 1 + i) else none))))))] = W1 at hD1 hP1 ⊢
    have hle : ∀ (k9 : Nat) (x : Nat × va_E), W1[k9]? = some x → x.1 ≤ H.size := fun k9 x hx => by
      rw [← hW1] at hx
      by_cases hl : k9 < (X ++ va_pl L f).length
      · rw [List.getElem?_append_left hl] at hx
        exact Nat.le_of_lt ((hP k9 x hx).lt)
      · rw [List.getElem?_append_right (by omega)] at hx
        have h0 : k9 - (X ++ va_pl L f).length < 1 := (List.getElem?_eq_some_iff.mp hx).1
        rw [show k9 - (X ++ va_pl L f).length = 0 by omega] at hx
        cases hx
        exact Nat.le_refl _
    have hr : ∀ (k9 : Nat) (x : Nat × va_E), (((List.range n.toNatClampNeg).map (fun i => H.size + 1 + i)).map (fun a => ((a, .inl (cy, z)) : Nat × va_E)))[k9]? = some x → x.1 = H.size + 1 + k9 := fun k9 x hx => by
      rw [List.getElem?_map, List.getElem?_map] at hx
      by_cases h9 : k9 < n.toNatClampNeg
      · rw [List.getElem?_range h9] at hx
        cases hx
        rfl
      · have hn0 : (List.range n.toNatClampNeg)[k9]? = none := List.getElem?_eq_none (by rw [List.length_range]; omega)
        rw [hn0] at hx
        cases hx
    refine ⟨fun i j x y hi hj hxy => ?_, fun k9 x hx => ?_⟩
    · by_cases h1 : i < W1.length <;> by_cases h2 : j < W1.length
      · rw [List.getElem?_append_left h1] at hi
        rw [List.getElem?_append_left h2] at hj
        exact hD1.1 i j x y hi hj hxy
      · rw [List.getElem?_append_left h1] at hi
        rw [List.getElem?_append_right (by omega)] at hj
        have := hle _ _ hi
        have := hr _ _ hj
        omega
      · rw [List.getElem?_append_right (by omega)] at hi
        rw [List.getElem?_append_left h2] at hj
        have := hle _ _ hj
        have := hr _ _ hi
        omega
      · rw [List.getElem?_append_right (by omega)] at hi hj
        have := hr _ _ hi
        have := hr _ _ hj
        omega
    · by_cases h1 : k9 < W1.length
      · rw [List.getElem?_append_left h1] at hx
        exact hD1.2 k9 x hx
      · rw [List.getElem?_append_right (by omega)] at hx
        have := hr _ _ hx
        exact hA _ (by have := hS.1; omega)
  have hAr : ArrOfT s cA (.array ty) := fun N9 z9 => by
    obtain ⟨-, k9, hk9, cm9, hkk9⟩ := (hO 0 0 0).1
    exact ⟨(fun q hq => by cases hq), k9, hk9, cm9, hkk9⟩
  have hK2 : va_K D cl (tys ++ [(cA, .array ty)]) s := ⟨hK.1, fun k9 x hx => by
    by_cases hl : k9 < tys.length
    · rw [List.getElem?_append_left hl] at hx
      exact hK.2 k9 x hx
    · rw [List.getElem?_append_right (by omega)] at hx
      have h0 : k9 - tys.length < 1 := (List.getElem?_eq_some_iff.mp hx).1
      rw [show k9 - tys.length = 0 by omega] at hx
      cases hx
      exact ⟨hAr, fA⟩⟩
  obtain ⟨t, a1, b1⟩ := kk H.size (fun i => H.size + 1 + i) cA F.heap (fun i j _ _ h => by have h9 : H.size + 1 + i = H.size + 1 + j := h; omega) hnl hK2 (by rw [← vr_rows hnm]; exact vr_lay hP2) (by rw [← vr_rows hnm]; exact vr_layD hD2) ⟨by rw [f1]; have := hS.1; omega, fun x h1 h2 => (hold x (Nat.lt_of_lt_of_le h1 hS.1)).trans (hS.2.1 x h1 h2), hS.2.2⟩ F rfl X'
  refine ⟨t, step t ?_, b1⟩
  have e : T.heap.size = H.size := by rw [hT]
  rw [e]
  exact a1
end VGM
/-! ===== END ===== -/

/-! ===== BEGIN printed: names, fields, word lists, decode rows ===== -/
def RX0 : String := "SewnFields$Cloth"
def TX0 : u_T := fun k => match k with
  | _ => ("SewnFields$Cloth", "values", "[I", true)
def tyX0 : Nat → FieldType := fun k => match k with
  | _ => .array .int
abbrev wsX00 : List Cond := u_ws RX0 TX0 1
theorem nmX0 : ∀ a, a < 1 → ∀ b, b < 1 → a ≠ b → (TX0 a).2.1 ≠ (TX0 b).2.1 := by decide +kernel
theorem tyX0_ok : ∀ k, k < 1 → parseFieldDescriptor (TX0 k).2.2.1 = some (tyX0 k) := by decide +kernel
abbrev cX0_init : ByteArray := prog_2_method_1_code
def yX0_init : MethodName := ⟨RX0, "<init>", "()V"⟩
abbrev cX0_start : ByteArray := prog_2_method_2_code
def yX0_start : MethodName := ⟨RX0, "start", "()V"⟩
abbrev cX0_get : ByteArray := prog_2_method_3_code
def yX0_get : MethodName := ⟨RX0, "get", "(I)I"⟩
abbrev cX0_set : ByteArray := prog_2_method_4_code
def yX0_set : MethodName := ⟨RX0, "set", "(II)V"⟩
abbrev cX0_paint : ByteArray := prog_2_method_5_code
def yX0_paint : MethodName := ⟨RX0, "paint", "(II)V"⟩
abbrev cX0_width : ByteArray := prog_2_method_6_code
def yX0_width : MethodName := ⟨RX0, "width", "()I"⟩
abbrev cX0_height : ByteArray := prog_2_method_7_code
def yX0_height : MethodName := ⟨RX0, "height", "()I"⟩
abbrev cX0_most : ByteArray := prog_2_method_8_code
def yX0_most : MethodName := ⟨RX0, "most", "()I"⟩
abbrev cX0_pull : ByteArray := prog_2_method_9_code
def yX0_pull : MethodName := ⟨RX0, "pull", "()I"⟩
abbrev cX0_wayOf : ByteArray := prog_2_method_10_code
def yX0_wayOf : MethodName := ⟨RX0, "wayOf", "(I)I"⟩
abbrev cX0_rankOf : ByteArray := prog_2_method_11_code
def yX0_rankOf : MethodName := ⟨RX0, "rankOf", "(I)I"⟩
abbrev cX0_has : ByteArray := prog_2_method_12_code
def yX0_has : MethodName := ⟨RX0, "has", "(II)Z"⟩
abbrev cX0_colourAt : ByteArray := prog_2_method_13_code
def yX0_colourAt : MethodName := ⟨RX0, "colourAt", "(I)I"⟩
abbrev cX0_numberOf : ByteArray := prog_2_method_14_code
def yX0_numberOf : MethodName := ⟨RX0, "numberOf", "(I)I"⟩
abbrev cX0_touch : ByteArray := prog_2_method_15_code
def yX0_touch : MethodName := ⟨RX0, "touch", "(II)Z"⟩
abbrev cX0_isBeside : ByteArray := prog_2_method_16_code
def yX0_isBeside : MethodName := ⟨RX0, "isBeside", "(II)Z"⟩
abbrev cX0_copy : ByteArray := prog_2_method_17_code
def yX0_copy : MethodName := ⟨RX0, "copy", "(LSewnFields$Cloth;)V"⟩
abbrev cX0_saveTo : ByteArray := prog_2_method_18_code
def yX0_saveTo : MethodName := ⟨RX0, "saveTo", "([I)V"⟩
abbrev cX0_loadFrom : ByteArray := prog_2_method_19_code
def yX0_loadFrom : MethodName := ⟨RX0, "loadFrom", "([I)V"⟩
def RX1 : String := "SewnFields$FieldMap"
def TX1 : u_T := fun k => match k with
  | 0 => ("SewnFields$FieldMap", "wave", "LSewnFields$Wave;", true)
  | 1 => ("SewnFields$FieldMap", "fields", "[I", true)
  | 2 => ("SewnFields$FieldMap", "colours", "[I", true)
  | 3 => ("SewnFields$FieldMap", "sizes", "[I", true)
  | 4 => ("SewnFields$FieldMap", "smallest", "[I", true)
  | 5 => ("SewnFields$FieldMap", "touched", "[Z", true)
  | 6 => ("SewnFields$FieldMap", "size", "I", false)
  | _ => ("SewnFields$FieldMap", "cells", "I", false)
def tyX1 : Nat → FieldType := fun k => match k with
  | 0 => .object "SewnFields$Wave"
  | 1 => .array .int
  | 2 => .array .int
  | 3 => .array .int
  | 4 => .array .int
  | 5 => .array .boolean
  | 6 => .int
  | _ => .int
abbrev wsX10 : List Cond := u_ws RX1 TX1 8
theorem nmX1 : ∀ a, a < 8 → ∀ b, b < 8 → a ≠ b → (TX1 a).2.1 ≠ (TX1 b).2.1 := by decide +kernel
theorem tyX1_ok : ∀ k, k < 8 → parseFieldDescriptor (TX1 k).2.2.1 = some (tyX1 k) := by decide +kernel
abbrev cX1_init : ByteArray := prog_3_method_1_code
def yX1_init : MethodName := ⟨RX1, "<init>", "()V"⟩
abbrev cX1_number : ByteArray := prog_3_method_2_code
def yX1_number : MethodName := ⟨RX1, "number", "(LSewnFields$Cloth;)V"⟩
abbrev cX1_addField : ByteArray := prog_3_method_3_code
def yX1_addField : MethodName := ⟨RX1, "addField", "(LSewnFields$Cloth;I)V"⟩
abbrev cX1_has : ByteArray := prog_3_method_4_code
def yX1_has : MethodName := ⟨RX1, "has", "(I)Z"⟩
abbrev cX1_size : ByteArray := prog_3_method_5_code
def yX1_size : MethodName := ⟨RX1, "size", "()I"⟩
abbrev cX1_cells : ByteArray := prog_3_method_6_code
def yX1_cells : MethodName := ⟨RX1, "cells", "()I"⟩
abbrev cX1_fieldAt : ByteArray := prog_3_method_7_code
def yX1_fieldAt : MethodName := ⟨RX1, "fieldAt", "(I)I"⟩
abbrev cX1_colourOf : ByteArray := prog_3_method_8_code
def yX1_colourOf : MethodName := ⟨RX1, "colourOf", "(I)I"⟩
abbrev cX1_sizeOf : ByteArray := prog_3_method_9_code
def yX1_sizeOf : MethodName := ⟨RX1, "sizeOf", "(I)I"⟩
abbrev cX1_smallestOf : ByteArray := prog_3_method_10_code
def yX1_smallestOf : MethodName := ⟨RX1, "smallestOf", "(I)I"⟩
abbrev cX1_touching : ByteArray := prog_3_method_11_code
def yX1_touching : MethodName := ⟨RX1, "touching", "(I)I"⟩
abbrev cX1_markBeside : ByteArray := prog_3_method_12_code
def yX1_markBeside : MethodName := ⟨RX1, "markBeside", "(II)V"⟩
def RX2 : String := "SewnFields$History"
def TX2 : u_T := fun k => match k with
  | 0 => ("SewnFields$History", "before", "[[I", true)
  | 1 => ("SewnFields$History", "next", "I", false)
  | _ => ("SewnFields$History", "size", "I", false)
def tyX2 : Nat → FieldType := fun k => match k with
  | 0 => .array (.array .int)
  | 1 => .int
  | _ => .int
abbrev wsX20 : List Cond := u_ws RX2 TX2 3
theorem nmX2 : ∀ a, a < 3 → ∀ b, b < 3 → a ≠ b → (TX2 a).2.1 ≠ (TX2 b).2.1 := by decide +kernel
theorem tyX2_ok : ∀ k, k < 3 → parseFieldDescriptor (TX2 k).2.2.1 = some (tyX2 k) := by decide +kernel
abbrev cX2_init : ByteArray := prog_4_method_1_code
def yX2_init : MethodName := ⟨RX2, "<init>", "()V"⟩
abbrev cX2_size : ByteArray := prog_4_method_2_code
def yX2_size : MethodName := ⟨RX2, "size", "()I"⟩
abbrev cX2_drop : ByteArray := prog_4_method_3_code
def yX2_drop : MethodName := ⟨RX2, "drop", "()V"⟩
abbrev cX2_push : ByteArray := prog_4_method_4_code
def yX2_push : MethodName := ⟨RX2, "push", "(LSewnFields$Cloth;)V"⟩
abbrev cX2_pop : ByteArray := prog_4_method_5_code
def yX2_pop : MethodName := ⟨RX2, "pop", "(LSewnFields$Cloth;)V"⟩
def RX3 : String := "SewnFields$Observations"
def TX3 : u_T := fun k => match k with
  | 0 => ("SewnFields$Observations", "directions", "[I", true)
  | 1 => ("SewnFields$Observations", "whats", "[I", true)
  | 2 => ("SewnFields$Observations", "figures", "[I", true)
  | _ => ("SewnFields$Observations", "size", "I", false)
def tyX3 : Nat → FieldType := fun k => match k with
  | 0 => .array .int
  | 1 => .array .int
  | 2 => .array .int
  | _ => .int
abbrev wsX30 : List Cond := u_ws RX3 TX3 4
theorem nmX3 : ∀ a, a < 4 → ∀ b, b < 4 → a ≠ b → (TX3 a).2.1 ≠ (TX3 b).2.1 := by decide +kernel
theorem tyX3_ok : ∀ k, k < 4 → parseFieldDescriptor (TX3 k).2.2.1 = some (tyX3 k) := by decide +kernel
abbrev cX3_init : ByteArray := prog_5_method_1_code
def yX3_init : MethodName := ⟨RX3, "<init>", "()V"⟩
abbrev cX3_size : ByteArray := prog_5_method_2_code
def yX3_size : MethodName := ⟨RX3, "size", "()I"⟩
abbrev cX3_add : ByteArray := prog_5_method_3_code
def yX3_add : MethodName := ⟨RX3, "add", "(III)V"⟩
abbrev cX3_drop : ByteArray := prog_5_method_4_code
def yX3_drop : MethodName := ⟨RX3, "drop", "()V"⟩
abbrev cX3_agree : ByteArray := prog_5_method_5_code
def yX3_agree : MethodName := ⟨RX3, "agree", "(LSewnFields$Cloth;LSewnFields$FieldMap;LSewnFields$Sewing;I)Z"⟩
def RX4 : String := "SewnFields$Reader"
def TX4 : u_T := fun k => match k with
  | 0 => ("SewnFields$Reader", "told", "LSewnFields$Cloth;", true)
  | _ => ("SewnFields$Reader", "rows", "I", false)
def tyX4 : Nat → FieldType := fun k => match k with
  | 0 => .object "SewnFields$Cloth"
  | _ => .int
abbrev wsX40 : List Cond := u_ws RX4 TX4 2
theorem nmX4 : ∀ a, a < 2 → ∀ b, b < 2 → a ≠ b → (TX4 a).2.1 ≠ (TX4 b).2.1 := by decide +kernel
theorem tyX4_ok : ∀ k, k < 2 → parseFieldDescriptor (TX4 k).2.2.1 = some (tyX4 k) := by decide +kernel
abbrev cX4_init : ByteArray := prog_6_method_1_code
def yX4_init : MethodName := ⟨RX4, "<init>", "()V"⟩
abbrev cX4_told : ByteArray := prog_6_method_2_code
def yX4_told : MethodName := ⟨RX4, "told", "()LSewnFields$Cloth;"⟩
abbrev cX4_read : ByteArray := prog_6_method_3_code
def yX4_read : MethodName := ⟨RX4, "read", "(LSewnFields$Text;)I"⟩
abbrev cX4_passItem : ByteArray := prog_6_method_4_code
def yX4_passItem : MethodName := ⟨RX4, "passItem", "(LSewnFields$Text;)Z"⟩
abbrev cX4_passCells : ByteArray := prog_6_method_5_code
def yX4_passCells : MethodName := ⟨RX4, "passCells", "(LSewnFields$Text;)Z"⟩
abbrev cX4_passOfColour : ByteArray := prog_6_method_6_code
def yX4_passOfColour : MethodName := ⟨RX4, "passOfColour", "(LSewnFields$Text;II)Z"⟩
abbrev cX4_passValue : ByteArray := prog_6_method_7_code
def yX4_passValue : MethodName := ⟨RX4, "passValue", "(LSewnFields$Text;III)Z"⟩
abbrev cX4_passSemicolon : ByteArray := prog_6_method_8_code
def yX4_passSemicolon : MethodName := ⟨RX4, "passSemicolon", "(LSewnFields$Text;)Z"⟩
def RX5 : String := "SewnFields$Sewing"
def TX5 : u_T := fun k => match k with
  | 0 => ("SewnFields$Sewing", "wave", "LSewnFields$Wave;", true)
  | 1 => ("SewnFields$Sewing", "lines", "[I", true)
  | 2 => ("SewnFields$Sewing", "firsts", "[I", true)
  | 3 => ("SewnFields$Sewing", "lasts", "[I", true)
  | 4 => ("SewnFields$Sewing", "starts", "[I", true)
  | 5 => ("SewnFields$Sewing", "ends", "[I", true)
  | 6 => ("SewnFields$Sewing", "parts", "[I", true)
  | 7 => ("SewnFields$Sewing", "startRows", "[I", true)
  | 8 => ("SewnFields$Sewing", "endRows", "[I", true)
  | 9 => ("SewnFields$Sewing", "sizes", "[I", true)
  | 10 => ("SewnFields$Sewing", "covered", "[Z", true)
  | 11 => ("SewnFields$Sewing", "way", "I", false)
  | 12 => ("SewnFields$Sewing", "most", "I", false)
  | 13 => ("SewnFields$Sewing", "rowsLaid", "I", false)
  | _ => ("SewnFields$Sewing", "partsLaid", "I", false)
def tyX5 : Nat → FieldType := fun k => match k with
  | 0 => .object "SewnFields$Wave"
  | 1 => .array .int
  | 2 => .array .int
  | 3 => .array .int
  | 4 => .array .int
  | 5 => .array .int
  | 6 => .array .int
  | 7 => .array .int
  | 8 => .array .int
  | 9 => .array .int
  | 10 => .array .boolean
  | 11 => .int
  | 12 => .int
  | 13 => .int
  | _ => .int
abbrev wsX50 : List Cond := u_ws RX5 TX5 15
theorem nmX5 : ∀ a, a < 15 → ∀ b, b < 15 → a ≠ b → (TX5 a).2.1 ≠ (TX5 b).2.1 := by decide +kernel
theorem tyX5_ok : ∀ k, k < 15 → parseFieldDescriptor (TX5 k).2.2.1 = some (tyX5 k) := by decide +kernel
abbrev cX5_init : ByteArray := prog_7_method_1_code
def yX5_init : MethodName := ⟨RX5, "<init>", "()V"⟩
abbrev cX5_lay : ByteArray := prog_7_method_2_code
def yX5_lay : MethodName := ⟨RX5, "lay", "(LSewnFields$Cloth;LSewnFields$FieldMap;II)V"⟩
abbrev cX5_rowsLaid : ByteArray := prog_7_method_3_code
def yX5_rowsLaid : MethodName := ⟨RX5, "rowsLaid", "()I"⟩
abbrev cX5_rowStart : ByteArray := prog_7_method_4_code
def yX5_rowStart : MethodName := ⟨RX5, "rowStart", "(I)I"⟩
abbrev cX5_rowLength : ByteArray := prog_7_method_5_code
def yX5_rowLength : MethodName := ⟨RX5, "rowLength", "(I)I"⟩
abbrev cX5_rowStitches : ByteArray := prog_7_method_6_code
def yX5_rowStitches : MethodName := ⟨RX5, "rowStitches", "(I)I"⟩
abbrev cX5_rowPart : ByteArray := prog_7_method_7_code
def yX5_rowPart : MethodName := ⟨RX5, "rowPart", "(I)I"⟩
abbrev cX5_partsLaid : ByteArray := prog_7_method_8_code
def yX5_partsLaid : MethodName := ⟨RX5, "partsLaid", "()I"⟩
abbrev cX5_partRows : ByteArray := prog_7_method_9_code
def yX5_partRows : MethodName := ⟨RX5, "partRows", "(I)I"⟩
abbrev cX5_partStart : ByteArray := prog_7_method_10_code
def yX5_partStart : MethodName := ⟨RX5, "partStart", "(I)I"⟩
abbrev cX5_partEnd : ByteArray := prog_7_method_11_code
def yX5_partEnd : MethodName := ⟨RX5, "partEnd", "(I)I"⟩
abbrev cX5_hiddenWay : ByteArray := prog_7_method_12_code
def yX5_hiddenWay : MethodName := ⟨RX5, "hiddenWay", "(LSewnFields$Cloth;I)I"⟩
abbrev cX5_figure : ByteArray := prog_7_method_13_code
def yX5_figure : MethodName := ⟨RX5, "figure", "(LSewnFields$Cloth;I)I"⟩
abbrev cX5_stitches : ByteArray := prog_7_method_14_code
def yX5_stitches : MethodName := ⟨RX5, "stitches", "()I"⟩
abbrev cX5_travel : ByteArray := prog_7_method_15_code
def yX5_travel : MethodName := ⟨RX5, "travel", "(LSewnFields$Cloth;)I"⟩
abbrev cX5_cover : ByteArray := prog_7_method_16_code
def yX5_cover : MethodName := ⟨RX5, "cover", "(LSewnFields$Cloth;)V"⟩
abbrev cX5_coveredCells : ByteArray := prog_7_method_17_code
def yX5_coveredCells : MethodName := ⟨RX5, "coveredCells", "()I"⟩
abbrev cX5_coveredOf : ByteArray := prog_7_method_18_code
def yX5_coveredOf : MethodName := ⟨RX5, "coveredOf", "(LSewnFields$Cloth;I)I"⟩
abbrev cX5_placeIn : ByteArray := prog_7_method_19_code
def yX5_placeIn : MethodName := ⟨RX5, "placeIn", "(II)I"⟩
abbrev cX5_lineLength : ByteArray := prog_7_method_20_code
def yX5_lineLength : MethodName := ⟨RX5, "lineLength", "(LSewnFields$Cloth;)I"⟩
abbrev cX5_findRows : ByteArray := prog_7_method_21_code
def yX5_findRows : MethodName := ⟨RX5, "findRows", "(LSewnFields$Cloth;LSewnFields$FieldMap;I)V"⟩
abbrev cX5_startRow : ByteArray := prog_7_method_22_code
def yX5_startRow : MethodName := ⟨RX5, "startRow", "(III)V"⟩
abbrev cX5_joinRows : ByteArray := prog_7_method_23_code
def yX5_joinRows : MethodName := ⟨RX5, "joinRows", "()V"⟩
abbrev cX5_rowContinuedBy : ByteArray := prog_7_method_24_code
def yX5_rowContinuedBy : MethodName := ⟨RX5, "rowContinuedBy", "(I)I"⟩
abbrev cX5_isNextTo : ByteArray := prog_7_method_25_code
def yX5_isNextTo : MethodName := ⟨RX5, "isNextTo", "(II)Z"⟩
def RX6 : String := "SewnFields$SewingOrder"
def TX6 : u_T := fun k => match k with
  | 0 => ("SewnFields$SewingOrder", "sequence", "[I", true)
  | 1 => ("SewnFields$SewingOrder", "done", "[Z", true)
  | 2 => ("SewnFields$SewingOrder", "size", "I", false)
  | _ => ("SewnFields$SewingOrder", "coloursSewn", "I", false)
def tyX6 : Nat → FieldType := fun k => match k with
  | 0 => .array .int
  | 1 => .array .boolean
  | 2 => .int
  | _ => .int
abbrev wsX60 : List Cond := u_ws RX6 TX6 4
theorem nmX6 : ∀ a, a < 4 → ∀ b, b < 4 → a ≠ b → (TX6 a).2.1 ≠ (TX6 b).2.1 := by decide +kernel
theorem tyX6_ok : ∀ k, k < 4 → parseFieldDescriptor (TX6 k).2.2.1 = some (tyX6 k) := by decide +kernel
abbrev cX6_init : ByteArray := prog_8_method_1_code
def yX6_init : MethodName := ⟨RX6, "<init>", "()V"⟩
abbrev cX6_lay : ByteArray := prog_8_method_2_code
def yX6_lay : MethodName := ⟨RX6, "lay", "(LSewnFields$Cloth;LSewnFields$FieldMap;)V"⟩
abbrev cX6_changes : ByteArray := prog_8_method_3_code
def yX6_changes : MethodName := ⟨RX6, "changes", "()I"⟩
abbrev cX6_fieldAt : ByteArray := prog_8_method_4_code
def yX6_fieldAt : MethodName := ⟨RX6, "fieldAt", "(I)I"⟩
abbrev cX6_nextColour : ByteArray := prog_8_method_5_code
def yX6_nextColour : MethodName := ⟨RX6, "nextColour", "(LSewnFields$Cloth;LSewnFields$FieldMap;)I"⟩
abbrev cX6_isSewn : ByteArray := prog_8_method_6_code
def yX6_isSewn : MethodName := ⟨RX6, "isSewn", "(I)Z"⟩
abbrev cX6_mustWait : ByteArray := prog_8_method_7_code
def yX6_mustWait : MethodName := ⟨RX6, "mustWait", "(LSewnFields$Cloth;I)Z"⟩
abbrev cX6_addFields : ByteArray := prog_8_method_8_code
def yX6_addFields : MethodName := ⟨RX6, "addFields", "(LSewnFields$FieldMap;I)V"⟩
def RX7 : String := "SewnFields$Text"
def TX7 : u_T := fun k => match k with
  | 0 => ("SewnFields$Text", "letters", "[C", true)
  | 1 => ("SewnFields$Text", "length", "I", false)
  | 2 => ("SewnFields$Text", "kind", "I", false)
  | 3 => ("SewnFields$Text", "start", "I", false)
  | _ => ("SewnFields$Text", "end", "I", false)
def tyX7 : Nat → FieldType := fun k => match k with
  | 0 => .array .char
  | 1 => .int
  | 2 => .int
  | 3 => .int
  | _ => .int
abbrev wsX70 : List Cond := u_ws RX7 TX7 5
theorem nmX7 : ∀ a, a < 5 → ∀ b, b < 5 → a ≠ b → (TX7 a).2.1 ≠ (TX7 b).2.1 := by decide +kernel
theorem tyX7_ok : ∀ k, k < 5 → parseFieldDescriptor (TX7 k).2.2.1 = some (tyX7 k) := by decide +kernel
abbrev cX7_init : ByteArray := prog_9_method_1_code
def yX7_init : MethodName := ⟨RX7, "<init>", "()V"⟩
abbrev cX7_length : ByteArray := prog_9_method_2_code
def yX7_length : MethodName := ⟨RX7, "length", "()I"⟩
abbrev cX7_append : ByteArray := prog_9_method_3_code
def yX7_append : MethodName := ⟨RX7, "append", "(C)V"⟩
abbrev cX7_drop : ByteArray := prog_9_method_4_code
def yX7_drop : MethodName := ⟨RX7, "drop", "()V"⟩
abbrev cX7_toFirstToken : ByteArray := prog_9_method_5_code
def yX7_toFirstToken : MethodName := ⟨RX7, "toFirstToken", "()V"⟩
abbrev cX7_toNextToken : ByteArray := prog_9_method_6_code
def yX7_toNextToken : MethodName := ⟨RX7, "toNextToken", "()V"⟩
abbrev cX7_tokenStart : ByteArray := prog_9_method_7_code
def yX7_tokenStart : MethodName := ⟨RX7, "tokenStart", "()I"⟩
abbrev cX7_isAtEnd : ByteArray := prog_9_method_8_code
def yX7_isAtEnd : MethodName := ⟨RX7, "isAtEnd", "()Z"⟩
abbrev cX7_isSemicolon : ByteArray := prog_9_method_9_code
def yX7_isSemicolon : MethodName := ⟨RX7, "isSemicolon", "()Z"⟩
abbrev cX7_isWord : ByteArray := prog_9_method_10_code
def yX7_isWord : MethodName := ⟨RX7, "isWord", "(Ljava/lang/String;)Z"⟩
abbrev cX7_isDigits : ByteArray := prog_9_method_11_code
def yX7_isDigits : MethodName := ⟨RX7, "isDigits", "(IIII)Z"⟩
abbrev cX7_tokenLength : ByteArray := prog_9_method_12_code
def yX7_tokenLength : MethodName := ⟨RX7, "tokenLength", "()I"⟩
abbrev cX7_digit : ByteArray := prog_9_method_13_code
def yX7_digit : MethodName := ⟨RX7, "digit", "(I)I"⟩
abbrev cX7_tokenLetter : ByteArray := prog_9_method_14_code
def yX7_tokenLetter : MethodName := ⟨RX7, "tokenLetter", "(I)C"⟩
abbrev cX7_kindAt : ByteArray := prog_9_method_15_code
def yX7_kindAt : MethodName := ⟨RX7, "kindAt", "(I)I"⟩
def RX8 : String := "SewnFields$Wave"
def TX8 : u_T := fun k => match k with
  | 0 => ("SewnFields$Wave", "reached", "[I", true)
  | 1 => ("SewnFields$Wave", "steps", "[I", true)
  | _ => ("SewnFields$Wave", "size", "I", false)
def tyX8 : Nat → FieldType := fun k => match k with
  | 0 => .array .int
  | 1 => .array .int
  | _ => .int
abbrev wsX80 : List Cond := u_ws RX8 TX8 3
theorem nmX8 : ∀ a, a < 3 → ∀ b, b < 3 → a ≠ b → (TX8 a).2.1 ≠ (TX8 b).2.1 := by decide +kernel
theorem tyX8_ok : ∀ k, k < 3 → parseFieldDescriptor (TX8 k).2.2.1 = some (tyX8 k) := by decide +kernel
abbrev cX8_init : ByteArray := prog_10_method_1_code
def yX8_init : MethodName := ⟨RX8, "<init>", "()V"⟩
abbrev cX8_spread : ByteArray := prog_10_method_2_code
def yX8_spread : MethodName := ⟨RX8, "spread", "(LSewnFields$Cloth;I)V"⟩
abbrev cX8_size : ByteArray := prog_10_method_3_code
def yX8_size : MethodName := ⟨RX8, "size", "()I"⟩
abbrev cX8_place : ByteArray := prog_10_method_4_code
def yX8_place : MethodName := ⟨RX8, "place", "(I)I"⟩
abbrev cX8_stepsTo : ByteArray := prog_10_method_5_code
def yX8_stepsTo : MethodName := ⟨RX8, "stepsTo", "(I)I"⟩
abbrev cX8_reach : ByteArray := prog_10_method_6_code
def yX8_reach : MethodName := ⟨RX8, "reach", "(II)V"⟩
def RX9 : String := "SewnFields"
def TX9 : u_T := fun k => match k with
  | 0 => ("SewnFields", "cloth", "LSewnFields$Cloth;", true)
  | 1 => ("SewnFields", "text", "LSewnFields$Text;", true)
  | 2 => ("SewnFields", "reader", "LSewnFields$Reader;", true)
  | 3 => ("SewnFields", "map", "LSewnFields$FieldMap;", true)
  | 4 => ("SewnFields", "sewing", "LSewnFields$Sewing;", true)
  | 5 => ("SewnFields", "plan", "LSewnFields$SewingOrder;", true)
  | 6 => ("SewnFields", "observations", "LSewnFields$Observations;", true)
  | 7 => ("SewnFields", "history", "LSewnFields$History;", true)
  | 8 => ("SewnFields", "snapshots", "[[I", true)
  | _ => ("SewnFields", "saved", "[Z", true)
def tyX9 : Nat → FieldType := fun k => match k with
  | 0 => .object "SewnFields$Cloth"
  | 1 => .object "SewnFields$Text"
  | 2 => .object "SewnFields$Reader"
  | 3 => .object "SewnFields$FieldMap"
  | 4 => .object "SewnFields$Sewing"
  | 5 => .object "SewnFields$SewingOrder"
  | 6 => .object "SewnFields$Observations"
  | 7 => .object "SewnFields$History"
  | 8 => .array (.array .int)
  | _ => .array .boolean
abbrev wsX90 : List Cond := u_ws RX9 TX9 10
theorem nmX9 : ∀ a, a < 10 → ∀ b, b < 10 → a ≠ b → (TX9 a).2.1 ≠ (TX9 b).2.1 := by decide +kernel
theorem tyX9_ok : ∀ k, k < 10 → parseFieldDescriptor (TX9 k).2.2.1 = some (tyX9 k) := by decide +kernel
abbrev cX9_init : ByteArray := prog_1_method_1_code
def yX9_init : MethodName := ⟨RX9, "<init>", "()V"⟩
abbrev cX9_type : ByteArray := prog_1_method_2_code
def yX9_type : MethodName := ⟨RX9, "type", "(I)I"⟩
abbrev cX9_clear : ByteArray := prog_1_method_3_code
def yX9_clear : MethodName := ⟨RX9, "clear", "()I"⟩
abbrev cX9_tells : ByteArray := prog_1_method_4_code
def yX9_tells : MethodName := ⟨RX9, "tells", "()I"⟩
abbrev cX9_paints : ByteArray := prog_1_method_5_code
def yX9_paints : MethodName := ⟨RX9, "paints", "(IIIII)I"⟩
abbrev cX9_ways : ByteArray := prog_1_method_6_code
def yX9_ways : MethodName := ⟨RX9, "ways", "(II)I"⟩
abbrev cX9_ranks : ByteArray := prog_1_method_7_code
def yX9_ranks : MethodName := ⟨RX9, "ranks", "(II)I"⟩
abbrev cX9_mosts : ByteArray := prog_1_method_8_code
def yX9_mosts : MethodName := ⟨RX9, "mosts", "(I)I"⟩
abbrev cX9_pulls : ByteArray := prog_1_method_9_code
def yX9_pulls : MethodName := ⟨RX9, "pulls", "(I)I"⟩
abbrev cX9_undo : ByteArray := prog_1_method_10_code
def yX9_undo : MethodName := ⟨RX9, "undo", "()I"⟩
abbrev cX9_cell : ByteArray := prog_1_method_11_code
def yX9_cell : MethodName := ⟨RX9, "cell", "(III)I"⟩
abbrev cX9_field : ByteArray := prog_1_method_12_code
def yX9_field : MethodName := ⟨RX9, "field", "(II)I"⟩
abbrev cX9_sewn : ByteArray := prog_1_method_13_code
def yX9_sewn : MethodName := ⟨RX9, "sewn", "(III)I"⟩
abbrev cX9_row : ByteArray := prog_1_method_14_code
def yX9_row : MethodName := ⟨RX9, "row", "(IIII)I"⟩
abbrev cX9_part : ByteArray := prog_1_method_15_code
def yX9_part : MethodName := ⟨RX9, "part", "(IIII)I"⟩
abbrev cX9_order : ByteArray := prog_1_method_16_code
def yX9_order : MethodName := ⟨RX9, "order", "(I)I"⟩
abbrev cX9_sees : ByteArray := prog_1_method_17_code
def yX9_sees : MethodName := ⟨RX9, "sees", "(III)I"⟩
abbrev cX9_forget : ByteArray := prog_1_method_18_code
def yX9_forget : MethodName := ⟨RX9, "forget", "()I"⟩
abbrev cX9_which : ByteArray := prog_1_method_19_code
def yX9_which : MethodName := ⟨RX9, "which", "(I)I"⟩
abbrev cX9_keep : ByteArray := prog_1_method_20_code
def yX9_keep : MethodName := ⟨RX9, "keep", "(I)I"⟩
abbrev cX9_back : ByteArray := prog_1_method_21_code
def yX9_back : MethodName := ⟨RX9, "back", "(I)I"⟩
abbrev cX9_count : ByteArray := prog_1_method_22_code
def yX9_count : MethodName := ⟨RX9, "count", "(I)I"⟩
abbrev cX9_change : ByteArray := prog_1_method_23_code
def yX9_change : MethodName := ⟨RX9, "change", "(II)I"⟩
abbrev cX9_cellsOfOtherColour : ByteArray := prog_1_method_24_code
def yX9_cellsOfOtherColour : MethodName := ⟨RX9, "cellsOfOtherColour", "(IIIII)I"⟩
abbrev cX9_betterWay : ByteArray := prog_1_method_25_code
def yX9_betterWay : MethodName := ⟨RX9, "betterWay", "(I)I"⟩
abbrev cX9_covered : ByteArray := prog_1_method_26_code
def yX9_covered : MethodName := ⟨RX9, "covered", "(II)I"⟩
abbrev cX9_within : ByteArray := prog_1_method_27_code
def yX9_within : MethodName := ⟨RX9, "within", "(III)Z"⟩
abbrev cX9_at : ByteArray := prog_1_method_28_code
def yX9_at : MethodName := ⟨RX9, "at", "([II)I"⟩
abbrev cX9_put : ByteArray := prog_1_method_29_code
def yX9_put : MethodName := ⟨RX9, "put", "([III)V"⟩
abbrev cX9_wipe : ByteArray := prog_1_method_30_code
def yX9_wipe : MethodName := ⟨RX9, "wipe", "([Z)V"⟩
abbrev cX9_countTrue : ByteArray := prog_1_method_31_code
def yX9_countTrue : MethodName := ⟨RX9, "countTrue", "([Z)I"⟩
abbrev cX9_placeOf : ByteArray := prog_1_method_32_code
def yX9_placeOf : MethodName := ⟨RX9, "placeOf", "(II)I"⟩
abbrev cX9_beside : ByteArray := prog_1_method_33_code
def yX9_beside : MethodName := ⟨RX9, "beside", "(II)I"⟩
def RX10 : String := "SewnFieldsModel"
def TX10 : u_T := fun k => match k with
  | 0 => ("SewnFieldsModel", "thrown", "I", false)
  | 1 => ("SewnFieldsModel", "s", "[I", true)
  | 2 => ("SewnFieldsModel", "draft", "[I", true)
  | 3 => ("SewnFieldsModel", "past", "[I", true)
  | 4 => ("SewnFieldsModel", "undos", "I", false)
  | 5 => ("SewnFieldsModel", "kept", "[I", true)
  | 6 => ("SewnFieldsModel", "isKept", "[Z", true)
  | 7 => ("SewnFieldsModel", "facts", "[I", true)
  | 8 => ("SewnFieldsModel", "manyFacts", "I", false)
  | 9 => ("SewnFieldsModel", "text", "[B", true)
  | 10 => ("SewnFieldsModel", "typed", "I", false)
  | 11 => ("SewnFieldsModel", "from", "I", false)
  | 12 => ("SewnFieldsModel", "to", "I", false)
  | 13 => ("SewnFieldsModel", "token", "I", false)
  | 14 => ("SewnFieldsModel", "fault", "I", false)
  | 15 => ("SewnFieldsModel", "fieldOf", "[I", true)
  | 16 => ("SewnFieldsModel", "fields", "I", false)
  | 17 => ("SewnFieldsModel", "rows", "I", false)
  | 18 => ("SewnFieldsModel", "line", "[I", true)
  | 19 => ("SewnFieldsModel", "begin", "[I", true)
  | 20 => ("SewnFieldsModel", "end", "[I", true)
  | 21 => ("SewnFieldsModel", "behindMany", "[I", true)
  | 22 => ("SewnFieldsModel", "behind", "[I", true)
  | 23 => ("SewnFieldsModel", "aheadMany", "[I", true)
  | 24 => ("SewnFieldsModel", "part", "[I", true)
  | 25 => ("SewnFieldsModel", "parts", "I", false)
  | 26 => ("SewnFieldsModel", "partRows", "[I", true)
  | 27 => ("SewnFieldsModel", "firstRow", "[I", true)
  | 28 => ("SewnFieldsModel", "lastRow", "[I", true)
  | 29 => ("SewnFieldsModel", "wayLaid", "I", false)
  | 30 => ("SewnFieldsModel", "far", "[I", true)
  | 31 => ("SewnFieldsModel", "covered", "[Z", true)
  | 32 => ("SewnFieldsModel", "ahead", "[I", true)
  | 33 => ("SewnFieldsModel", "colours", "[I", true)
  | _ => ("SewnFieldsModel", "changes", "[I", true)
def tyX10 : Nat → FieldType := fun k => match k with
  | 0 => .int
  | 1 => .array .int
  | 2 => .array .int
  | 3 => .array .int
  | 4 => .int
  | 5 => .array .int
  | 6 => .array .boolean
  | 7 => .array .int
  | 8 => .int
  | 9 => .array .byte
  | 10 => .int
  | 11 => .int
  | 12 => .int
  | 13 => .int
  | 14 => .int
  | 15 => .array .int
  | 16 => .int
  | 17 => .int
  | 18 => .array .int
  | 19 => .array .int
  | 20 => .array .int
  | 21 => .array .int
  | 22 => .array .int
  | 23 => .array .int
  | 24 => .array .int
  | 25 => .int
  | 26 => .array .int
  | 27 => .array .int
  | 28 => .array .int
  | 29 => .int
  | 30 => .array .int
  | 31 => .array .boolean
  | 32 => .array .int
  | 33 => .array .int
  | _ => .array .int
abbrev wsX100 : List Cond := u_ws RX10 TX10 35
theorem nmX10 : ∀ a, a < 35 → ∀ b, b < 35 → a ≠ b → (TX10 a).2.1 ≠ (TX10 b).2.1 := by decide +kernel
theorem tyX10_ok : ∀ k, k < 35 → parseFieldDescriptor (TX10 k).2.2.1 = some (tyX10 k) := by decide +kernel
abbrev cX10_init : ByteArray := prog_12_method_1_code
def yX10_init : MethodName := ⟨RX10, "<init>", "()V"⟩
abbrev cX10_in : ByteArray := prog_12_method_3_code
def yX10_in : MethodName := ⟨RX10, "in", "(III)Z"⟩
abbrev cX10_type : ByteArray := prog_12_method_4_code
def yX10_type : MethodName := ⟨RX10, "type", "(I)I"⟩
abbrev cX10_clear : ByteArray := prog_12_method_5_code
def yX10_clear : MethodName := ⟨RX10, "clear", "()I"⟩
abbrev cX10_at : ByteArray := prog_12_method_6_code
def yX10_at : MethodName := ⟨RX10, "at", "(I)I"⟩
abbrev cX10_isWord : ByteArray := prog_12_method_7_code
def yX10_isWord : MethodName := ⟨RX10, "isWord", "(IIII)Z"⟩
abbrev cX10_wordOf : ByteArray := prog_12_method_8_code
def yX10_wordOf : MethodName := ⟨RX10, "wordOf", "()I"⟩
abbrev cX10_steps : ByteArray := prog_12_method_9_code
def yX10_steps : MethodName := ⟨RX10, "steps", "()V"⟩
abbrev cX10_takes : ByteArray := prog_12_method_10_code
def yX10_takes : MethodName := ⟨RX10, "takes", "(Z)V"⟩
abbrev cX10_readsRow : ByteArray := prog_12_method_11_code
def yX10_readsRow : MethodName := ⟨RX10, "readsRow", "()V"⟩
abbrev cX10_figure : ByteArray := prog_12_method_12_code
def yX10_figure : MethodName := ⟨RX10, "figure", "(II)I"⟩
abbrev cX10_readsOf : ByteArray := prog_12_method_13_code
def yX10_readsOf : MethodName := ⟨RX10, "readsOf", "(II)V"⟩
abbrev cX10_readsOne : ByteArray := prog_12_method_14_code
def yX10_readsOne : MethodName := ⟨RX10, "readsOne", "(III)V"⟩
abbrev cX10_reads : ByteArray := prog_12_method_15_code
def yX10_reads : MethodName := ⟨RX10, "reads", "()I"⟩
abbrev cX10_tells : ByteArray := prog_12_method_16_code
def yX10_tells : MethodName := ⟨RX10, "tells", "()I"⟩
abbrev cX10_notes : ByteArray := prog_12_method_17_code
def yX10_notes : MethodName := ⟨RX10, "notes", "()V"⟩
abbrev cX10_cells : ByteArray := prog_12_method_18_code
def yX10_cells : MethodName := ⟨RX10, "cells", "()I"⟩
abbrev cX10_isCell : ByteArray := prog_12_method_19_code
def yX10_isCell : MethodName := ⟨RX10, "isCell", "(II)Z"⟩
abbrev cX10_paints : ByteArray := prog_12_method_20_code
def yX10_paints : MethodName := ⟨RX10, "paints", "(IIIII)I"⟩
abbrev cX10_becomes : ByteArray := prog_12_method_21_code
def yX10_becomes : MethodName := ⟨RX10, "becomes", "(II)I"⟩
abbrev cX10_ways : ByteArray := prog_12_method_22_code
def yX10_ways : MethodName := ⟨RX10, "ways", "(II)I"⟩
abbrev cX10_ranks : ByteArray := prog_12_method_23_code
def yX10_ranks : MethodName := ⟨RX10, "ranks", "(II)I"⟩
abbrev cX10_mosts : ByteArray := prog_12_method_24_code
def yX10_mosts : MethodName := ⟨RX10, "mosts", "(I)I"⟩
abbrev cX10_pulls : ByteArray := prog_12_method_25_code
def yX10_pulls : MethodName := ⟨RX10, "pulls", "(I)I"⟩
abbrev cX10_undo : ByteArray := prog_12_method_26_code
def yX10_undo : MethodName := ⟨RX10, "undo", "()I"⟩
abbrev cX10_areBeside : ByteArray := prog_12_method_27_code
def yX10_areBeside : MethodName := ⟨RX10, "areBeside", "(II)Z"⟩
abbrev cX10_spreads : ByteArray := prog_12_method_28_code
def yX10_spreads : MethodName := ⟨RX10, "spreads", "(II)V"⟩
abbrev cX10_laysFields : ByteArray := prog_12_method_29_code
def yX10_laysFields : MethodName := ⟨RX10, "laysFields", "()V"⟩
abbrev cX10_lowestOf : ByteArray := prog_12_method_30_code
def yX10_lowestOf : MethodName := ⟨RX10, "lowestOf", "(I)I"⟩
abbrev cX10_colourOf : ByteArray := prog_12_method_31_code
def yX10_colourOf : MethodName := ⟨RX10, "colourOf", "(I)I"⟩
abbrev cX10_sizeOf : ByteArray := prog_12_method_32_code
def yX10_sizeOf : MethodName := ⟨RX10, "sizeOf", "(I)I"⟩
abbrev cX10_cellAt : ByteArray := prog_12_method_33_code
def yX10_cellAt : MethodName := ⟨RX10, "cellAt", "(II)I"⟩
abbrev cX10_laysRows : ByteArray := prog_12_method_34_code
def yX10_laysRows : MethodName := ⟨RX10, "laysRows", "(II)V"⟩
abbrev cX10_laysNexts : ByteArray := prog_12_method_35_code
def yX10_laysNexts : MethodName := ⟨RX10, "laysNexts", "()V"⟩
abbrev cX10_laysParts : ByteArray := prog_12_method_36_code
def yX10_laysParts : MethodName := ⟨RX10, "laysParts", "()V"⟩
abbrev cX10_lengthOf : ByteArray := prog_12_method_37_code
def yX10_lengthOf : MethodName := ⟨RX10, "lengthOf", "(I)I"⟩
abbrev cX10_stitchesOf : ByteArray := prog_12_method_38_code
def yX10_stitchesOf : MethodName := ⟨RX10, "stitchesOf", "(I)I"⟩
abbrev cX10_startOf : ByteArray := prog_12_method_39_code
def yX10_startOf : MethodName := ⟨RX10, "startOf", "(I)I"⟩
abbrev cX10_endOf : ByteArray := prog_12_method_40_code
def yX10_endOf : MethodName := ⟨RX10, "endOf", "(I)I"⟩
abbrev cX10_stepsBetween : ByteArray := prog_12_method_41_code
def yX10_stepsBetween : MethodName := ⟨RX10, "stepsBetween", "(II)I"⟩
abbrev cX10_hiddenOf : ByteArray := prog_12_method_42_code
def yX10_hiddenOf : MethodName := ⟨RX10, "hiddenOf", "(I)I"⟩
abbrev cX10_travel : ByteArray := prog_12_method_43_code
def yX10_travel : MethodName := ⟨RX10, "travel", "()I"⟩
abbrev cX10_stitches : ByteArray := prog_12_method_44_code
def yX10_stitches : MethodName := ⟨RX10, "stitches", "()I"⟩
abbrev cX10_toldOf : ByteArray := prog_12_method_45_code
def yX10_toldOf : MethodName := ⟨RX10, "toldOf", "(III)I"⟩
abbrev cX10_bestWay : ByteArray := prog_12_method_46_code
def yX10_bestWay : MethodName := ⟨RX10, "bestWay", "(I)I"⟩
abbrev cX10_covers : ByteArray := prog_12_method_47_code
def yX10_covers : MethodName := ⟨RX10, "covers", "(I)V"⟩
abbrev cX10_coveredBy : ByteArray := prog_12_method_48_code
def yX10_coveredBy : MethodName := ⟨RX10, "coveredBy", "(II)I"⟩
abbrev cX10_touch : ByteArray := prog_12_method_49_code
def yX10_touch : MethodName := ⟨RX10, "touch", "(II)Z"⟩
abbrev cX10_touching : ByteArray := prog_12_method_50_code
def yX10_touching : MethodName := ⟨RX10, "touching", "(I)I"⟩
abbrev cX10_cell : ByteArray := prog_12_method_51_code
def yX10_cell : MethodName := ⟨RX10, "cell", "(III)I"⟩
abbrev cX10_isField : ByteArray := prog_12_method_52_code
def yX10_isField : MethodName := ⟨RX10, "isField", "(I)Z"⟩
abbrev cX10_field : ByteArray := prog_12_method_53_code
def yX10_field : MethodName := ⟨RX10, "field", "(II)I"⟩
abbrev cX10_sewn : ByteArray := prog_12_method_54_code
def yX10_sewn : MethodName := ⟨RX10, "sewn", "(III)I"⟩
abbrev cX10_row : ByteArray := prog_12_method_55_code
def yX10_row : MethodName := ⟨RX10, "row", "(IIII)I"⟩
abbrev cX10_part : ByteArray := prog_12_method_56_code
def yX10_part : MethodName := ⟨RX10, "part", "(IIII)I"⟩
abbrev cX10_laysAhead : ByteArray := prog_12_method_57_code
def yX10_laysAhead : MethodName := ⟨RX10, "laysAhead", "()V"⟩
abbrev cX10_mayCome : ByteArray := prog_12_method_58_code
def yX10_mayCome : MethodName := ⟨RX10, "mayCome", "(II)Z"⟩
abbrev cX10_withField : ByteArray := prog_12_method_59_code
def yX10_withField : MethodName := ⟨RX10, "withField", "(III)I"⟩
abbrev cX10_laysChanges : ByteArray := prog_12_method_60_code
def yX10_laysChanges : MethodName := ⟨RX10, "laysChanges", "()V"⟩
abbrev cX10_fieldAt : ByteArray := prog_12_method_61_code
def yX10_fieldAt : MethodName := ⟨RX10, "fieldAt", "(I)I"⟩
abbrev cX10_order : ByteArray := prog_12_method_62_code
def yX10_order : MethodName := ⟨RX10, "order", "(I)I"⟩
abbrev cX10_sees : ByteArray := prog_12_method_63_code
def yX10_sees : MethodName := ⟨RX10, "sees", "(III)I"⟩
abbrev cX10_forget : ByteArray := prog_12_method_64_code
def yX10_forget : MethodName := ⟨RX10, "forget", "()I"⟩
abbrev cX10_isSo : ByteArray := prog_12_method_65_code
def yX10_isSo : MethodName := ⟨RX10, "isSo", "(I)Z"⟩
abbrev cX10_which : ByteArray := prog_12_method_66_code
def yX10_which : MethodName := ⟨RX10, "which", "(I)I"⟩
abbrev cX10_fieldsNow : ByteArray := prog_12_method_67_code
def yX10_fieldsNow : MethodName := ⟨RX10, "fieldsNow", "()I"⟩
abbrev cX10_keep : ByteArray := prog_12_method_68_code
def yX10_keep : MethodName := ⟨RX10, "keep", "(I)I"⟩
abbrev cX10_back : ByteArray := prog_12_method_69_code
def yX10_back : MethodName := ⟨RX10, "back", "(I)I"⟩
abbrev cX10_coloured : ByteArray := prog_12_method_70_code
def yX10_coloured : MethodName := ⟨RX10, "coloured", "()I"⟩
abbrev cX10_count : ByteArray := prog_12_method_71_code
def yX10_count : MethodName := ⟨RX10, "count", "(I)I"⟩
def RJx145de : String := "java/io/Serializable"
def TJx145de : u_T := fun k => match k with
  | _ => ("", "", "", false)
def tyJx145de : Nat → FieldType := fun k => match k with
  | _ => .int
abbrev wsJx145de0 : List Cond := u_ws RJx145de TJx145de 0
theorem nmJx145de : ∀ a, a < 0 → ∀ b, b < 0 → a ≠ b → (TJx145de a).2.1 ≠ (TJx145de b).2.1 := by decide +kernel
theorem tyJx145de_ok : ∀ k, k < 0 → parseFieldDescriptor (TJx145de k).2.2.1 = some (tyJx145de k) := by decide +kernel
def RJx9f9b0 : String := "java/lang/CharSequence"
def TJx9f9b0 : u_T := fun k => match k with
  | _ => ("", "", "", false)
def tyJx9f9b0 : Nat → FieldType := fun k => match k with
  | _ => .int
abbrev wsJx9f9b00 : List Cond := u_ws RJx9f9b0 TJx9f9b0 0
theorem nmJx9f9b0 : ∀ a, a < 0 → ∀ b, b < 0 → a ≠ b → (TJx9f9b0 a).2.1 ≠ (TJx9f9b0 b).2.1 := by decide +kernel
theorem tyJx9f9b0_ok : ∀ k, k < 0 → parseFieldDescriptor (TJx9f9b0 k).2.2.1 = some (tyJx9f9b0 k) := by decide +kernel
def RJxb160c : String := "java/lang/Comparable"
def TJxb160c : u_T := fun k => match k with
  | _ => ("", "", "", false)
def tyJxb160c : Nat → FieldType := fun k => match k with
  | _ => .int
abbrev wsJxb160c0 : List Cond := u_ws RJxb160c TJxb160c 0
theorem nmJxb160c : ∀ a, a < 0 → ∀ b, b < 0 → a ≠ b → (TJxb160c a).2.1 ≠ (TJxb160c b).2.1 := by decide +kernel
theorem tyJxb160c_ok : ∀ k, k < 0 → parseFieldDescriptor (TJxb160c k).2.2.1 = some (tyJxb160c k) := by decide +kernel
def RJ9 : String := "java/lang/Math"
def TJ9 : u_T := fun k => match k with
  | _ => ("", "", "", false)
def tyJ9 : Nat → FieldType := fun k => match k with
  | _ => .int
abbrev wsJ90 : List Cond := u_ws RJ9 TJ9 0
theorem nmJ9 : ∀ a, a < 0 → ∀ b, b < 0 → a ≠ b → (TJ9 a).2.1 ≠ (TJ9 b).2.1 := by decide +kernel
theorem tyJ9_ok : ∀ k, k < 0 → parseFieldDescriptor (TJ9 k).2.2.1 = some (tyJ9 k) := by decide +kernel
abbrev cJ9_max_7cf53 : ByteArray := prog_13_method_65_code
def yJ9_max_7cf53 : MethodName := ⟨RJ9, "max", "(II)I"⟩
abbrev cJ9_min_7cf53 : ByteArray := prog_13_method_69_code
def yJ9_min_7cf53 : MethodName := ⟨RJ9, "min", "(II)I"⟩
def RJ0 : String := "java/lang/String"
def TJ0 : u_T := fun k => match k with
  | _ => ("", "", "", false)
def tyJ0 : Nat → FieldType := fun k => match k with
  | _ => .int
abbrev wsJ00 : List Cond := u_ws RJ0 TJ0 0
theorem nmJ0 : ∀ a, a < 0 → ∀ b, b < 0 → a ≠ b → (TJ0 a).2.1 ≠ (TJ0 b).2.1 := by decide +kernel
theorem tyJ0_ok : ∀ k, k < 0 → parseFieldDescriptor (TJ0 k).2.2.1 = some (tyJ0 k) := by decide +kernel
abbrev cJ0_length_8abf5 : ByteArray := prog_14_method_54_code
def yJ0_length_8abf5 : MethodName := ⟨RJ0, "length", "()I"⟩
abbrev cJ0_charAt_5068e : ByteArray := prog_14_method_56_code
def yJ0_charAt_5068e : MethodName := ⟨RJ0, "charAt", "(I)C"⟩
abbrev cJ0_coder_7d493 : ByteArray := prog_14_method_152_code
def yJ0_coder_7d493 : MethodName := ⟨RJ0, "coder", "()B"⟩
abbrev cJ0_isLatin1_aae02 : ByteArray := prog_14_method_154_code
def yJ0_isLatin1_aae02 : MethodName := ⟨RJ0, "isLatin1", "()Z"⟩
abbrev cJ0_checkIndex_df160 : ByteArray := prog_14_method_155_code
def yJ0_checkIndex_df160 : MethodName := ⟨RJ0, "checkIndex", "(II)V"⟩
def RJ1 : String := "java/lang/StringLatin1"
def TJ1 : u_T := fun k => match k with
  | _ => ("", "", "", false)
def tyJ1 : Nat → FieldType := fun k => match k with
  | _ => .int
abbrev wsJ10 : List Cond := u_ws RJ1 TJ1 0
theorem nmJ1 : ∀ a, a < 0 → ∀ b, b < 0 → a ≠ b → (TJ1 a).2.1 ≠ (TJ1 b).2.1 := by decide +kernel
theorem tyJ1_ok : ∀ k, k < 0 → parseFieldDescriptor (TJ1 k).2.2.1 = some (tyJ1 k) := by decide +kernel
abbrev cJ1_charAt_3b067 : ByteArray := prog_15_method_2_code
def yJ1_charAt_3b067 : MethodName := ⟨RJ1, "charAt", "([BI)C"⟩
def RJ2 : String := "java/lang/StringUTF16"
def TJ2 : u_T := fun k => match k with
  | _ => ("", "", "", false)
def tyJ2 : Nat → FieldType := fun k => match k with
  | _ => .int
abbrev wsJ20 : List Cond := u_ws RJ2 TJ2 0
theorem nmJ2 : ∀ a, a < 0 → ∀ b, b < 0 → a ≠ b → (TJ2 a).2.1 ≠ (TJ2 b).2.1 := by decide +kernel
theorem tyJ2_ok : ∀ k, k < 0 → parseFieldDescriptor (TJ2 k).2.2.1 = some (tyJ2 k) := by decide +kernel
abbrev cJ2_getChar_3b067 : ByteArray := prog_16_method_5_code
def yJ2_getChar_3b067 : MethodName := ⟨RJ2, "getChar", "([BI)C"⟩
abbrev cJ2_length_9d52b : ByteArray := prog_16_method_6_code
def yJ2_length_9d52b : MethodName := ⟨RJ2, "length", "([B)I"⟩
abbrev cJ2_charAt_3b067 : ByteArray := prog_16_method_83_code
def yJ2_charAt_3b067 : MethodName := ⟨RJ2, "charAt", "([BI)C"⟩
abbrev cJ2_checkIndex_2214a : ByteArray := prog_16_method_91_code
def yJ2_checkIndex_2214a : MethodName := ⟨RJ2, "checkIndex", "(I[B)V"⟩
def RJ10 : String := "java/lang/System"
def TJ10 : u_T := fun k => match k with
  | _ => ("", "", "", false)
def tyJ10 : Nat → FieldType := fun k => match k with
  | _ => .int
abbrev wsJ100 : List Cond := u_ws RJ10 TJ10 0
theorem nmJ10 : ∀ a, a < 0 → ∀ b, b < 0 → a ≠ b → (TJ10 a).2.1 ≠ (TJ10 b).2.1 := by decide +kernel
theorem tyJ10_ok : ∀ k, k < 0 → parseFieldDescriptor (TJ10 k).2.2.1 = some (tyJ10 k) := by decide +kernel
def RJxfd54e : String := "java/lang/constant/Constable"
def TJxfd54e : u_T := fun k => match k with
  | _ => ("", "", "", false)
def tyJxfd54e : Nat → FieldType := fun k => match k with
  | _ => .int
abbrev wsJxfd54e0 : List Cond := u_ws RJxfd54e TJxfd54e 0
theorem nmJxfd54e : ∀ a, a < 0 → ∀ b, b < 0 → a ≠ b → (TJxfd54e a).2.1 ≠ (TJxfd54e b).2.1 := by decide +kernel
theorem tyJxfd54e_ok : ∀ k, k < 0 → parseFieldDescriptor (TJxfd54e k).2.2.1 = some (tyJxfd54e k) := by decide +kernel
def RJx3cf43 : String := "java/lang/constant/ConstantDesc"
def TJx3cf43 : u_T := fun k => match k with
  | _ => ("", "", "", false)
def tyJx3cf43 : Nat → FieldType := fun k => match k with
  | _ => .int
abbrev wsJx3cf430 : List Cond := u_ws RJx3cf43 TJx3cf43 0
theorem nmJx3cf43 : ∀ a, a < 0 → ∀ b, b < 0 → a ≠ b → (TJx3cf43 a).2.1 ≠ (TJx3cf43 b).2.1 := by decide +kernel
theorem tyJx3cf43_ok : ∀ k, k < 0 → parseFieldDescriptor (TJx3cf43 k).2.2.1 = some (tyJx3cf43 k) := by decide +kernel
def RJ7 : String := "java/util/Arrays"
def TJ7 : u_T := fun k => match k with
  | _ => ("", "", "", false)
def tyJ7 : Nat → FieldType := fun k => match k with
  | _ => .int
abbrev wsJ70 : List Cond := u_ws RJ7 TJ7 0
theorem nmJ7 : ∀ a, a < 0 → ∀ b, b < 0 → a ≠ b → (TJ7 a).2.1 ≠ (TJ7 b).2.1 := by decide +kernel
theorem tyJ7_ok : ∀ k, k < 0 → parseFieldDescriptor (TJ7 k).2.2.1 = some (tyJ7 k) := by decide +kernel
abbrev cJ7_fill_53178 : ByteArray := prog_18_method_103_code
def yJ7_fill_53178 : MethodName := ⟨RJ7, "fill", "([II)V"⟩
def RJ3 : String := "jdk/internal/util/Preconditions"
def TJ3 : u_T := fun k => match k with
  | _ => ("", "", "", false)
def tyJ3 : Nat → FieldType := fun k => match k with
  | _ => .int
abbrev wsJ30 : List Cond := u_ws RJ3 TJ3 0
theorem nmJ3 : ∀ a, a < 0 → ∀ b, b < 0 → a ≠ b → (TJ3 a).2.1 ≠ (TJ3 b).2.1 := by decide +kernel
theorem tyJ3_ok : ∀ k, k < 0 → parseFieldDescriptor (TJ3 k).2.2.1 = some (tyJ3 k) := by decide +kernel
abbrev cJ3_checkIndex_8e157 : ByteArray := prog_19_method_11_code
def yJ3_checkIndex_8e157 : MethodName := ⟨RJ3, "checkIndex", "(IILjava/util/function/BiFunction;)I"⟩
def RL : String := "SewnFieldsLaw"
abbrev cL_law : ByteArray := code
abbrev vwCl : List vw_C := [(RX0, TX0, 1), (RX1, TX1, 8), (RX2, TX2, 3), (RX3, TX3, 4), (RX4, TX4, 2), (RX5, TX5, 15), (RX6, TX6, 4), (RX7, TX7, 5), (RX8, TX8, 3), (RX9, TX9, 10), (RX10, TX10, 35)]
end
section
theorem dX0_init_0 : decode cX0_init 0 = .ok (.aload_n 0, 1) := by decide +kernel
theorem dX0_init_1 : decode cX0_init 1 = .ok (.invokespecial 5, 3) := by decide +kernel
theorem dX0_init_4 : decode cX0_init 4 = .ok (.aload_n 0, 1) := by decide +kernel
theorem dX0_init_5 : decode cX0_init 5 = .ok (.bipush 60, 2) := by decide +kernel
theorem dX0_init_7 : decode cX0_init 7 = .ok (.newarray .int, 2) := by decide +kernel
theorem dX0_init_9 : decode cX0_init 9 = .ok (.putfield 11, 3) := by decide +kernel
theorem dX0_init_12 : decode cX0_init 12 = .ok (.aload_n 0, 1) := by decide +kernel
theorem dX0_init_13 : decode cX0_init 13 = .ok (.invokevirtual 15, 3) := by decide +kernel
theorem dX0_init_16 : decode cX0_init 16 = .ok (.return_, 1) := by decide +kernel
theorem dX0_start_0 : decode cX0_start 0 = .ok (.aload_n 0, 1) := by decide +kernel
theorem dX0_start_1 : decode cX0_start 1 = .ok (.getfield 11, 3) := by decide +kernel
theorem dX0_start_4 : decode cX0_start 4 = .ok (.iconst 0, 1) := by decide +kernel
theorem dX0_start_5 : decode cX0_start 5 = .ok (.invokestatic 18, 3) := by decide +kernel
theorem dX0_start_8 : decode cX0_start 8 = .ok (.aload_n 0, 1) := by decide +kernel
theorem dX0_start_9 : decode cX0_start 9 = .ok (.getfield 11, 3) := by decide +kernel
theorem dX0_start_12 : decode cX0_start 12 = .ok (.iconst 0, 1) := by decide +kernel
theorem dX0_start_13 : decode cX0_start 13 = .ok (.iconst 1, 1) := by decide +kernel
theorem dX0_start_14 : decode cX0_start 14 = .ok (.iastore, 1) := by decide +kernel
theorem dX0_start_15 : decode cX0_start 15 = .ok (.aload_n 0, 1) := by decide +kernel
theorem dX0_start_16 : decode cX0_start 16 = .ok (.getfield 11, 3) := by decide +kernel
theorem dX0_start_19 : decode cX0_start 19 = .ok (.iconst 1, 1) := by decide +kernel
theorem dX0_start_20 : decode cX0_start 20 = .ok (.iconst 1, 1) := by decide +kernel
theorem dX0_start_21 : decode cX0_start 21 = .ok (.iastore, 1) := by decide +kernel
theorem dX0_start_22 : decode cX0_start 22 = .ok (.aload_n 0, 1) := by decide +kernel
theorem dX0_start_23 : decode cX0_start 23 = .ok (.getfield 11, 3) := by decide +kernel
theorem dX0_start_26 : decode cX0_start 26 = .ok (.iconst 2, 1) := by decide +kernel
theorem dX0_start_27 : decode cX0_start 27 = .ok (.iconst 3, 1) := by decide +kernel
theorem dX0_start_28 : decode cX0_start 28 = .ok (.iastore, 1) := by decide +kernel
theorem dX0_start_29 : decode cX0_start 29 = .ok (.return_, 1) := by decide +kernel
theorem dX0_get_0 : decode cX0_get 0 = .ok (.aload_n 0, 1) := by decide +kernel
theorem dX0_get_1 : decode cX0_get 1 = .ok (.getfield 11, 3) := by decide +kernel
theorem dX0_get_4 : decode cX0_get 4 = .ok (.iload_n 1, 1) := by decide +kernel
theorem dX0_get_5 : decode cX0_get 5 = .ok (.invokestatic 24, 3) := by decide +kernel
theorem dX0_get_8 : decode cX0_get 8 = .ok (.ireturn, 1) := by decide +kernel
theorem dX0_set_0 : decode cX0_set 0 = .ok (.aload_n 0, 1) := by decide +kernel
theorem dX0_set_1 : decode cX0_set 1 = .ok (.getfield 11, 3) := by decide +kernel
theorem dX0_set_4 : decode cX0_set 4 = .ok (.iload_n 1, 1) := by decide +kernel
theorem dX0_set_5 : decode cX0_set 5 = .ok (.iload_n 2, 1) := by decide +kernel
theorem dX0_set_6 : decode cX0_set 6 = .ok (.invokestatic 28, 3) := by decide +kernel
theorem dX0_set_9 : decode cX0_set 9 = .ok (.return_, 1) := by decide +kernel
theorem dX0_paint_0 : decode cX0_paint 0 = .ok (.iload_n 1, 1) := by decide +kernel
theorem dX0_paint_1 : decode cX0_paint 1 = .ok (.ifCond .lt 19, 3) := by decide +kernel
theorem dX0_paint_4 : decode cX0_paint 4 = .ok (.iload_n 1, 1) := by decide +kernel
theorem dX0_paint_5 : decode cX0_paint 5 = .ok (.bipush 48, 2) := by decide +kernel
theorem dX0_paint_7 : decode cX0_paint 7 = .ok (.if_icmp .ge 13, 3) := by decide +kernel
theorem dX0_paint_10 : decode cX0_paint 10 = .ok (.aload_n 0, 1) := by decide +kernel
theorem dX0_paint_11 : decode cX0_paint 11 = .ok (.getfield 11, 3) := by decide +kernel
theorem dX0_paint_14 : decode cX0_paint 14 = .ok (.bipush 12, 2) := by decide +kernel
theorem dX0_paint_16 : decode cX0_paint 16 = .ok (.iload_n 1, 1) := by decide +kernel
theorem dX0_paint_17 : decode cX0_paint 17 = .ok (.iadd, 1) := by decide +kernel
theorem dX0_paint_18 : decode cX0_paint 18 = .ok (.iload_n 2, 1) := by decide +kernel
theorem dX0_paint_19 : decode cX0_paint 19 = .ok (.iastore, 1) := by decide +kernel
theorem dX0_paint_20 : decode cX0_paint 20 = .ok (.return_, 1) := by decide +kernel
theorem dX0_width_0 : decode cX0_width 0 = .ok (.aload_n 0, 1) := by decide +kernel
theorem dX0_width_1 : decode cX0_width 1 = .ok (.getfield 11, 3) := by decide +kernel
theorem dX0_width_4 : decode cX0_width 4 = .ok (.iconst 0, 1) := by decide +kernel
theorem dX0_width_5 : decode cX0_width 5 = .ok (.iaload, 1) := by decide +kernel
theorem dX0_width_6 : decode cX0_width 6 = .ok (.ireturn, 1) := by decide +kernel
theorem dX0_height_0 : decode cX0_height 0 = .ok (.aload_n 0, 1) := by decide +kernel
theorem dX0_height_1 : decode cX0_height 1 = .ok (.getfield 11, 3) := by decide +kernel
theorem dX0_height_4 : decode cX0_height 4 = .ok (.iconst 1, 1) := by decide +kernel
theorem dX0_height_5 : decode cX0_height 5 = .ok (.iaload, 1) := by decide +kernel
theorem dX0_height_6 : decode cX0_height 6 = .ok (.ireturn, 1) := by decide +kernel
theorem dX0_most_0 : decode cX0_most 0 = .ok (.aload_n 0, 1) := by decide +kernel
theorem dX0_most_1 : decode cX0_most 1 = .ok (.getfield 11, 3) := by decide +kernel
theorem dX0_most_4 : decode cX0_most 4 = .ok (.iconst 2, 1) := by decide +kernel
theorem dX0_most_5 : decode cX0_most 5 = .ok (.iaload, 1) := by decide +kernel
theorem dX0_most_6 : decode cX0_most 6 = .ok (.ireturn, 1) := by decide +kernel
theorem dX0_pull_0 : decode cX0_pull 0 = .ok (.aload_n 0, 1) := by decide +kernel
theorem dX0_pull_1 : decode cX0_pull 1 = .ok (.getfield 11, 3) := by decide +kernel
theorem dX0_pull_4 : decode cX0_pull 4 = .ok (.iconst 3, 1) := by decide +kernel
theorem dX0_pull_5 : decode cX0_pull 5 = .ok (.iaload, 1) := by decide +kernel
theorem dX0_pull_6 : decode cX0_pull 6 = .ok (.ireturn, 1) := by decide +kernel
theorem dX0_wayOf_0 : decode cX0_wayOf 0 = .ok (.iload_n 1, 1) := by decide +kernel
theorem dX0_wayOf_1 : decode cX0_wayOf 1 = .ok (.iconst 1, 1) := by decide +kernel
theorem dX0_wayOf_2 : decode cX0_wayOf 2 = .ok (.iconst 3, 1) := by decide +kernel
theorem dX0_wayOf_3 : decode cX0_wayOf 3 = .ok (.invokestatic 32, 3) := by decide +kernel
theorem dX0_wayOf_6 : decode cX0_wayOf 6 = .ok (.ifCond .eq 14, 3) := by decide +kernel
theorem dX0_wayOf_9 : decode cX0_wayOf 9 = .ok (.aload_n 0, 1) := by decide +kernel
theorem dX0_wayOf_10 : decode cX0_wayOf 10 = .ok (.getfield 11, 3) := by decide +kernel
theorem dX0_wayOf_13 : decode cX0_wayOf 13 = .ok (.iconst 4, 1) := by decide +kernel
theorem dX0_wayOf_14 : decode cX0_wayOf 14 = .ok (.iload_n 1, 1) := by decide +kernel
theorem dX0_wayOf_15 : decode cX0_wayOf 15 = .ok (.iadd, 1) := by decide +kernel
theorem dX0_wayOf_16 : decode cX0_wayOf 16 = .ok (.iaload, 1) := by decide +kernel
theorem dX0_wayOf_17 : decode cX0_wayOf 17 = .ok (.goto 4, 3) := by decide +kernel
theorem dX0_wayOf_20 : decode cX0_wayOf 20 = .ok (.iconst 0, 1) := by decide +kernel
theorem dX0_wayOf_21 : decode cX0_wayOf 21 = .ok (.ireturn, 1) := by decide +kernel
theorem dX0_rankOf_0 : decode cX0_rankOf 0 = .ok (.iload_n 1, 1) := by decide +kernel
theorem dX0_rankOf_1 : decode cX0_rankOf 1 = .ok (.iconst 1, 1) := by decide +kernel
theorem dX0_rankOf_2 : decode cX0_rankOf 2 = .ok (.iconst 3, 1) := by decide +kernel
theorem dX0_rankOf_3 : decode cX0_rankOf 3 = .ok (.invokestatic 32, 3) := by decide +kernel
theorem dX0_rankOf_6 : decode cX0_rankOf 6 = .ok (.ifCond .eq 15, 3) := by decide +kernel
theorem dX0_rankOf_9 : decode cX0_rankOf 9 = .ok (.aload_n 0, 1) := by decide +kernel
theorem dX0_rankOf_10 : decode cX0_rankOf 10 = .ok (.getfield 11, 3) := by decide +kernel
theorem dX0_rankOf_13 : decode cX0_rankOf 13 = .ok (.bipush 8, 2) := by decide +kernel
theorem dX0_rankOf_15 : decode cX0_rankOf 15 = .ok (.iload_n 1, 1) := by decide +kernel
theorem dX0_rankOf_16 : decode cX0_rankOf 16 = .ok (.iadd, 1) := by decide +kernel
theorem dX0_rankOf_17 : decode cX0_rankOf 17 = .ok (.iaload, 1) := by decide +kernel
theorem dX0_rankOf_18 : decode cX0_rankOf 18 = .ok (.goto 4, 3) := by decide +kernel
theorem dX0_rankOf_21 : decode cX0_rankOf 21 = .ok (.iconst 0, 1) := by decide +kernel
theorem dX0_rankOf_22 : decode cX0_rankOf 22 = .ok (.ireturn, 1) := by decide +kernel
theorem dX0_has_0 : decode cX0_has 0 = .ok (.iload_n 1, 1) := by decide +kernel
theorem dX0_has_1 : decode cX0_has 1 = .ok (.iconst 0, 1) := by decide +kernel
theorem dX0_has_2 : decode cX0_has 2 = .ok (.aload_n 0, 1) := by decide +kernel
theorem dX0_has_3 : decode cX0_has 3 = .ok (.invokevirtual 36, 3) := by decide +kernel
theorem dX0_has_6 : decode cX0_has 6 = .ok (.iconst 1, 1) := by decide +kernel
theorem dX0_has_7 : decode cX0_has 7 = .ok (.isub, 1) := by decide +kernel
theorem dX0_has_8 : decode cX0_has 8 = .ok (.invokestatic 32, 3) := by decide +kernel
theorem dX0_has_11 : decode cX0_has 11 = .ok (.ifCond .eq 21, 3) := by decide +kernel
theorem dX0_has_14 : decode cX0_has 14 = .ok (.iload_n 2, 1) := by decide +kernel
theorem dX0_has_15 : decode cX0_has 15 = .ok (.iconst 0, 1) := by decide +kernel
theorem dX0_has_16 : decode cX0_has 16 = .ok (.aload_n 0, 1) := by decide +kernel
theorem dX0_has_17 : decode cX0_has 17 = .ok (.invokevirtual 40, 3) := by decide +kernel
theorem dX0_has_20 : decode cX0_has 20 = .ok (.iconst 1, 1) := by decide +kernel
theorem dX0_has_21 : decode cX0_has 21 = .ok (.isub, 1) := by decide +kernel
theorem dX0_has_22 : decode cX0_has 22 = .ok (.invokestatic 32, 3) := by decide +kernel
theorem dX0_has_25 : decode cX0_has 25 = .ok (.ifCond .eq 7, 3) := by decide +kernel
theorem dX0_has_28 : decode cX0_has 28 = .ok (.iconst 1, 1) := by decide +kernel
theorem dX0_has_29 : decode cX0_has 29 = .ok (.goto 4, 3) := by decide +kernel
theorem dX0_has_32 : decode cX0_has 32 = .ok (.iconst 0, 1) := by decide +kernel
theorem dX0_has_33 : decode cX0_has 33 = .ok (.ireturn, 1) := by decide +kernel
theorem dX0_colourAt_0 : decode cX0_colourAt 0 = .ok (.iload_n 1, 1) := by decide +kernel
theorem dX0_colourAt_1 : decode cX0_colourAt 1 = .ok (.ifCond .lt 21, 3) := by decide +kernel
theorem dX0_colourAt_4 : decode cX0_colourAt 4 = .ok (.iload_n 1, 1) := by decide +kernel
theorem dX0_colourAt_5 : decode cX0_colourAt 5 = .ok (.bipush 48, 2) := by decide +kernel
theorem dX0_colourAt_7 : decode cX0_colourAt 7 = .ok (.if_icmp .ge 15, 3) := by decide +kernel
theorem dX0_colourAt_10 : decode cX0_colourAt 10 = .ok (.aload_n 0, 1) := by decide +kernel
theorem dX0_colourAt_11 : decode cX0_colourAt 11 = .ok (.getfield 11, 3) := by decide +kernel
theorem dX0_colourAt_14 : decode cX0_colourAt 14 = .ok (.bipush 12, 2) := by decide +kernel
theorem dX0_colourAt_16 : decode cX0_colourAt 16 = .ok (.iload_n 1, 1) := by decide +kernel
theorem dX0_colourAt_17 : decode cX0_colourAt 17 = .ok (.iadd, 1) := by decide +kernel
theorem dX0_colourAt_18 : decode cX0_colourAt 18 = .ok (.iaload, 1) := by decide +kernel
theorem dX0_colourAt_19 : decode cX0_colourAt 19 = .ok (.goto 4, 3) := by decide +kernel
theorem dX0_colourAt_22 : decode cX0_colourAt 22 = .ok (.iconst 0, 1) := by decide +kernel
theorem dX0_colourAt_23 : decode cX0_colourAt 23 = .ok (.ireturn, 1) := by decide +kernel
theorem dX0_numberOf_0 : decode cX0_numberOf 0 = .ok (.aload_n 0, 1) := by decide +kernel
theorem dX0_numberOf_1 : decode cX0_numberOf 1 = .ok (.invokevirtual 36, 3) := by decide +kernel
theorem dX0_numberOf_4 : decode cX0_numberOf 4 = .ok (.iload_n 1, 1) := by decide +kernel
theorem dX0_numberOf_5 : decode cX0_numberOf 5 = .ok (.bipush 8, 2) := by decide +kernel
theorem dX0_numberOf_7 : decode cX0_numberOf 7 = .ok (.idiv, 1) := by decide +kernel
theorem dX0_numberOf_8 : decode cX0_numberOf 8 = .ok (.imul, 1) := by decide +kernel
theorem dX0_numberOf_9 : decode cX0_numberOf 9 = .ok (.iload_n 1, 1) := by decide +kernel
theorem dX0_numberOf_10 : decode cX0_numberOf 10 = .ok (.bipush 8, 2) := by decide +kernel
theorem dX0_numberOf_12 : decode cX0_numberOf 12 = .ok (.irem, 1) := by decide +kernel
theorem dX0_numberOf_13 : decode cX0_numberOf 13 = .ok (.iadd, 1) := by decide +kernel
theorem dX0_numberOf_14 : decode cX0_numberOf 14 = .ok (.ireturn, 1) := by decide +kernel
theorem dX0_touch_0 : decode cX0_touch 0 = .ok (.iconst 0, 1) := by decide +kernel
theorem dX0_touch_1 : decode cX0_touch 1 = .ok (.istore_n 3, 1) := by decide +kernel
theorem dX0_touch_2 : decode cX0_touch 2 = .ok (.iload_n 3, 1) := by decide +kernel
theorem dX0_touch_3 : decode cX0_touch 3 = .ok (.bipush 48, 2) := by decide +kernel
theorem dX0_touch_5 : decode cX0_touch 5 = .ok (.if_icmp .ge 29, 3) := by decide +kernel
theorem dX0_touch_8 : decode cX0_touch 8 = .ok (.aload_n 0, 1) := by decide +kernel
theorem dX0_touch_9 : decode cX0_touch 9 = .ok (.iload_n 3, 1) := by decide +kernel
theorem dX0_touch_10 : decode cX0_touch 10 = .ok (.invokevirtual 43, 3) := by decide +kernel
theorem dX0_touch_13 : decode cX0_touch 13 = .ok (.iload_n 1, 1) := by decide +kernel
theorem dX0_touch_14 : decode cX0_touch 14 = .ok (.if_icmp .ne 14, 3) := by decide +kernel
theorem dX0_touch_17 : decode cX0_touch 17 = .ok (.aload_n 0, 1) := by decide +kernel
theorem dX0_touch_18 : decode cX0_touch 18 = .ok (.iload_n 3, 1) := by decide +kernel
theorem dX0_touch_19 : decode cX0_touch 19 = .ok (.iload_n 2, 1) := by decide +kernel
theorem dX0_touch_20 : decode cX0_touch 20 = .ok (.invokevirtual 47, 3) := by decide +kernel
theorem dX0_touch_23 : decode cX0_touch 23 = .ok (.ifCond .eq 5, 3) := by decide +kernel
theorem dX0_touch_26 : decode cX0_touch 26 = .ok (.iconst 1, 1) := by decide +kernel
theorem dX0_touch_27 : decode cX0_touch 27 = .ok (.ireturn, 1) := by decide +kernel
theorem dX0_touch_28 : decode cX0_touch 28 = .ok (.iinc 3 1, 3) := by decide +kernel
theorem dX0_touch_31 : decode cX0_touch 31 = .ok (.goto (-29), 3) := by decide +kernel
theorem dX0_touch_34 : decode cX0_touch 34 = .ok (.iconst 0, 1) := by decide +kernel
theorem dX0_touch_35 : decode cX0_touch 35 = .ok (.ireturn, 1) := by decide +kernel
theorem dX0_isBeside_0 : decode cX0_isBeside 0 = .ok (.iconst 0, 1) := by decide +kernel
theorem dX0_isBeside_1 : decode cX0_isBeside 1 = .ok (.istore_n 3, 1) := by decide +kernel
theorem dX0_isBeside_2 : decode cX0_isBeside 2 = .ok (.iload_n 3, 1) := by decide +kernel
theorem dX0_isBeside_3 : decode cX0_isBeside 3 = .ok (.iconst 4, 1) := by decide +kernel
theorem dX0_isBeside_4 : decode cX0_isBeside 4 = .ok (.if_icmp .ge 24, 3) := by decide +kernel
theorem dX0_isBeside_7 : decode cX0_isBeside 7 = .ok (.aload_n 0, 1) := by decide +kernel
theorem dX0_isBeside_8 : decode cX0_isBeside 8 = .ok (.iload_n 1, 1) := by decide +kernel
theorem dX0_isBeside_9 : decode cX0_isBeside 9 = .ok (.iload_n 3, 1) := by decide +kernel
theorem dX0_isBeside_10 : decode cX0_isBeside 10 = .ok (.invokestatic 51, 3) := by decide +kernel
theorem dX0_isBeside_13 : decode cX0_isBeside 13 = .ok (.invokevirtual 43, 3) := by decide +kernel
theorem dX0_isBeside_16 : decode cX0_isBeside 16 = .ok (.iload_n 2, 1) := by decide +kernel
theorem dX0_isBeside_17 : decode cX0_isBeside 17 = .ok (.if_icmp .ne 5, 3) := by decide +kernel
theorem dX0_isBeside_20 : decode cX0_isBeside 20 = .ok (.iconst 1, 1) := by decide +kernel
theorem dX0_isBeside_21 : decode cX0_isBeside 21 = .ok (.ireturn, 1) := by decide +kernel
theorem dX0_isBeside_22 : decode cX0_isBeside 22 = .ok (.iinc 3 1, 3) := by decide +kernel
theorem dX0_isBeside_25 : decode cX0_isBeside 25 = .ok (.goto (-23), 3) := by decide +kernel
theorem dX0_isBeside_28 : decode cX0_isBeside 28 = .ok (.iconst 0, 1) := by decide +kernel
theorem dX0_isBeside_29 : decode cX0_isBeside 29 = .ok (.ireturn, 1) := by decide +kernel
theorem dX0_copy_0 : decode cX0_copy 0 = .ok (.aload_n 0, 1) := by decide +kernel
theorem dX0_copy_1 : decode cX0_copy 1 = .ok (.aload_n 1, 1) := by decide +kernel
theorem dX0_copy_2 : decode cX0_copy 2 = .ok (.getfield 11, 3) := by decide +kernel
theorem dX0_copy_5 : decode cX0_copy 5 = .ok (.invokevirtual 55, 3) := by decide +kernel
theorem dX0_copy_8 : decode cX0_copy 8 = .ok (.return_, 1) := by decide +kernel
theorem dX0_saveTo_0 : decode cX0_saveTo 0 = .ok (.aload_n 1, 1) := by decide +kernel
theorem dX0_saveTo_1 : decode cX0_saveTo 1 = .ok (.ifnull 22, 3) := by decide +kernel
theorem dX0_saveTo_4 : decode cX0_saveTo 4 = .ok (.aload_n 1, 1) := by decide +kernel
theorem dX0_saveTo_5 : decode cX0_saveTo 5 = .ok (.arraylength, 1) := by decide +kernel
theorem dX0_saveTo_6 : decode cX0_saveTo 6 = .ok (.bipush 60, 2) := by decide +kernel
theorem dX0_saveTo_8 : decode cX0_saveTo 8 = .ok (.if_icmp .ne 15, 3) := by decide +kernel
theorem dX0_saveTo_11 : decode cX0_saveTo 11 = .ok (.aload_n 0, 1) := by decide +kernel
theorem dX0_saveTo_12 : decode cX0_saveTo 12 = .ok (.getfield 11, 3) := by decide +kernel
theorem dX0_saveTo_15 : decode cX0_saveTo 15 = .ok (.iconst 0, 1) := by decide +kernel
theorem dX0_saveTo_16 : decode cX0_saveTo 16 = .ok (.aload_n 1, 1) := by decide +kernel
theorem dX0_saveTo_17 : decode cX0_saveTo 17 = .ok (.iconst 0, 1) := by decide +kernel
theorem dX0_saveTo_18 : decode cX0_saveTo 18 = .ok (.bipush 60, 2) := by decide +kernel
theorem dX0_saveTo_20 : decode cX0_saveTo 20 = .ok (.invokestatic 59, 3) := by decide +kernel
theorem dX0_saveTo_23 : decode cX0_saveTo 23 = .ok (.return_, 1) := by decide +kernel
theorem dX0_loadFrom_0 : decode cX0_loadFrom 0 = .ok (.aload_n 1, 1) := by decide +kernel
theorem dX0_loadFrom_1 : decode cX0_loadFrom 1 = .ok (.ifnull 22, 3) := by decide +kernel
theorem dX0_loadFrom_4 : decode cX0_loadFrom 4 = .ok (.aload_n 1, 1) := by decide +kernel
theorem dX0_loadFrom_5 : decode cX0_loadFrom 5 = .ok (.arraylength, 1) := by decide +kernel
theorem dX0_loadFrom_6 : decode cX0_loadFrom 6 = .ok (.bipush 60, 2) := by decide +kernel
theorem dX0_loadFrom_8 : decode cX0_loadFrom 8 = .ok (.if_icmp .ne 15, 3) := by decide +kernel
theorem dX0_loadFrom_11 : decode cX0_loadFrom 11 = .ok (.aload_n 1, 1) := by decide +kernel
theorem dX0_loadFrom_12 : decode cX0_loadFrom 12 = .ok (.iconst 0, 1) := by decide +kernel
theorem dX0_loadFrom_13 : decode cX0_loadFrom 13 = .ok (.aload_n 0, 1) := by decide +kernel
theorem dX0_loadFrom_14 : decode cX0_loadFrom 14 = .ok (.getfield 11, 3) := by decide +kernel
theorem dX0_loadFrom_17 : decode cX0_loadFrom 17 = .ok (.iconst 0, 1) := by decide +kernel
theorem dX0_loadFrom_18 : decode cX0_loadFrom 18 = .ok (.bipush 60, 2) := by decide +kernel
theorem dX0_loadFrom_20 : decode cX0_loadFrom 20 = .ok (.invokestatic 59, 3) := by decide +kernel
theorem dX0_loadFrom_23 : decode cX0_loadFrom 23 = .ok (.return_, 1) := by decide +kernel
theorem dX1_init_0 : decode cX1_init 0 = .ok (.aload_n 0, 1) := by decide +kernel
theorem dX1_init_1 : decode cX1_init 1 = .ok (.invokespecial 3, 3) := by decide +kernel
theorem dX1_init_4 : decode cX1_init 4 = .ok (.aload_n 0, 1) := by decide +kernel
theorem dX1_init_5 : decode cX1_init 5 = .ok (.new 9, 3) := by decide +kernel
theorem dX1_init_8 : decode cX1_init 8 = .ok (.dup, 1) := by decide +kernel
theorem dX1_init_9 : decode cX1_init 9 = .ok (.invokespecial 11, 3) := by decide +kernel
theorem dX1_init_12 : decode cX1_init 12 = .ok (.putfield 12, 3) := by decide +kernel
theorem dX1_init_15 : decode cX1_init 15 = .ok (.aload_n 0, 1) := by decide +kernel
theorem dX1_init_16 : decode cX1_init 16 = .ok (.bipush 48, 2) := by decide +kernel
theorem dX1_init_18 : decode cX1_init 18 = .ok (.newarray .int, 2) := by decide +kernel
theorem dX1_init_20 : decode cX1_init 20 = .ok (.putfield 18, 3) := by decide +kernel
theorem dX1_init_23 : decode cX1_init 23 = .ok (.aload_n 0, 1) := by decide +kernel
theorem dX1_init_24 : decode cX1_init 24 = .ok (.bipush 48, 2) := by decide +kernel
theorem dX1_init_26 : decode cX1_init 26 = .ok (.newarray .int, 2) := by decide +kernel
theorem dX1_init_28 : decode cX1_init 28 = .ok (.putfield 22, 3) := by decide +kernel
theorem dX1_init_31 : decode cX1_init 31 = .ok (.aload_n 0, 1) := by decide +kernel
theorem dX1_init_32 : decode cX1_init 32 = .ok (.bipush 48, 2) := by decide +kernel
theorem dX1_init_34 : decode cX1_init 34 = .ok (.newarray .int, 2) := by decide +kernel
theorem dX1_init_36 : decode cX1_init 36 = .ok (.putfield 25, 3) := by decide +kernel
theorem dX1_init_39 : decode cX1_init 39 = .ok (.aload_n 0, 1) := by decide +kernel
theorem dX1_init_40 : decode cX1_init 40 = .ok (.bipush 48, 2) := by decide +kernel
theorem dX1_init_42 : decode cX1_init 42 = .ok (.newarray .int, 2) := by decide +kernel
theorem dX1_init_44 : decode cX1_init 44 = .ok (.putfield 28, 3) := by decide +kernel
theorem dX1_init_47 : decode cX1_init 47 = .ok (.aload_n 0, 1) := by decide +kernel
theorem dX1_init_48 : decode cX1_init 48 = .ok (.bipush 48, 2) := by decide +kernel
theorem dX1_init_50 : decode cX1_init 50 = .ok (.newarray .boolean, 2) := by decide +kernel
theorem dX1_init_52 : decode cX1_init 52 = .ok (.putfield 31, 3) := by decide +kernel
theorem dX1_init_55 : decode cX1_init 55 = .ok (.aload_n 0, 1) := by decide +kernel
theorem dX1_init_56 : decode cX1_init 56 = .ok (.getfield 18, 3) := by decide +kernel
theorem dX1_init_59 : decode cX1_init 59 = .ok (.bipush (-9), 2) := by decide +kernel
theorem dX1_init_61 : decode cX1_init 61 = .ok (.invokestatic 35, 3) := by decide +kernel
theorem dX1_init_64 : decode cX1_init 64 = .ok (.return_, 1) := by decide +kernel
theorem dX1_number_0 : decode cX1_number 0 = .ok (.aload_n 0, 1) := by decide +kernel
theorem dX1_number_1 : decode cX1_number 1 = .ok (.getfield 18, 3) := by decide +kernel
theorem dX1_number_4 : decode cX1_number 4 = .ok (.bipush (-9), 2) := by decide +kernel
theorem dX1_number_6 : decode cX1_number 6 = .ok (.invokestatic 35, 3) := by decide +kernel
theorem dX1_number_9 : decode cX1_number 9 = .ok (.aload_n 0, 1) := by decide +kernel
theorem dX1_number_10 : decode cX1_number 10 = .ok (.iconst 0, 1) := by decide +kernel
theorem dX1_number_11 : decode cX1_number 11 = .ok (.putfield 41, 3) := by decide +kernel
theorem dX1_number_14 : decode cX1_number 14 = .ok (.aload_n 0, 1) := by decide +kernel
theorem dX1_number_15 : decode cX1_number 15 = .ok (.iconst 0, 1) := by decide +kernel
theorem dX1_number_16 : decode cX1_number 16 = .ok (.putfield 45, 3) := by decide +kernel
theorem dX1_number_19 : decode cX1_number 19 = .ok (.iconst 0, 1) := by decide +kernel
theorem dX1_number_20 : decode cX1_number 20 = .ok (.istore_n 2, 1) := by decide +kernel
theorem dX1_number_21 : decode cX1_number 21 = .ok (.iload_n 2, 1) := by decide +kernel
theorem dX1_number_22 : decode cX1_number 22 = .ok (.bipush 48, 2) := by decide +kernel
theorem dX1_number_24 : decode cX1_number 24 = .ok (.if_icmp .ge 34, 3) := by decide +kernel
theorem dX1_number_27 : decode cX1_number 27 = .ok (.aload_n 1, 1) := by decide +kernel
theorem dX1_number_28 : decode cX1_number 28 = .ok (.iload_n 2, 1) := by decide +kernel
theorem dX1_number_29 : decode cX1_number 29 = .ok (.invokevirtual 48, 3) := by decide +kernel
theorem dX1_number_32 : decode cX1_number 32 = .ok (.ifCond .eq 20, 3) := by decide +kernel
theorem dX1_number_35 : decode cX1_number 35 = .ok (.aload_n 0, 1) := by decide +kernel
theorem dX1_number_36 : decode cX1_number 36 = .ok (.getfield 18, 3) := by decide +kernel
theorem dX1_number_39 : decode cX1_number 39 = .ok (.iload_n 2, 1) := by decide +kernel
theorem dX1_number_40 : decode cX1_number 40 = .ok (.iaload, 1) := by decide +kernel
theorem dX1_number_41 : decode cX1_number 41 = .ok (.bipush (-9), 2) := by decide +kernel
theorem dX1_number_43 : decode cX1_number 43 = .ok (.if_icmp .ne 9, 3) := by decide +kernel
theorem dX1_number_46 : decode cX1_number 46 = .ok (.aload_n 0, 1) := by decide +kernel
theorem dX1_number_47 : decode cX1_number 47 = .ok (.aload_n 1, 1) := by decide +kernel
theorem dX1_number_48 : decode cX1_number 48 = .ok (.iload_n 2, 1) := by decide +kernel
theorem dX1_number_49 : decode cX1_number 49 = .ok (.invokevirtual 54, 3) := by decide +kernel
theorem dX1_number_52 : decode cX1_number 52 = .ok (.iinc 2 1, 3) := by decide +kernel
theorem dX1_number_55 : decode cX1_number 55 = .ok (.goto (-34), 3) := by decide +kernel
theorem dX1_number_58 : decode cX1_number 58 = .ok (.return_, 1) := by decide +kernel
theorem dX1_addField_0 : decode cX1_addField 0 = .ok (.aload_n 0, 1) := by decide +kernel
theorem dX1_addField_1 : decode cX1_addField 1 = .ok (.getfield 12, 3) := by decide +kernel
theorem dX1_addField_4 : decode cX1_addField 4 = .ok (.aload_n 1, 1) := by decide +kernel
theorem dX1_addField_5 : decode cX1_addField 5 = .ok (.iload_n 2, 1) := by decide +kernel
theorem dX1_addField_6 : decode cX1_addField 6 = .ok (.invokevirtual 58, 3) := by decide +kernel
theorem dX1_addField_9 : decode cX1_addField 9 = .ok (.iconst 0, 1) := by decide +kernel
theorem dX1_addField_10 : decode cX1_addField 10 = .ok (.istore_n 3, 1) := by decide +kernel
theorem dX1_addField_11 : decode cX1_addField 11 = .ok (.iload_n 3, 1) := by decide +kernel
theorem dX1_addField_12 : decode cX1_addField 12 = .ok (.aload_n 0, 1) := by decide +kernel
theorem dX1_addField_13 : decode cX1_addField 13 = .ok (.getfield 12, 3) := by decide +kernel
theorem dX1_addField_16 : decode cX1_addField 16 = .ok (.invokevirtual 61, 3) := by decide +kernel
theorem dX1_addField_19 : decode cX1_addField 19 = .ok (.if_icmp .ge 28, 3) := by decide +kernel
theorem dX1_addField_22 : decode cX1_addField 22 = .ok (.aload_n 0, 1) := by decide +kernel
theorem dX1_addField_23 : decode cX1_addField 23 = .ok (.getfield 18, 3) := by decide +kernel
theorem dX1_addField_26 : decode cX1_addField 26 = .ok (.aload_n 0, 1) := by decide +kernel
theorem dX1_addField_27 : decode cX1_addField 27 = .ok (.getfield 12, 3) := by decide +kernel
theorem dX1_addField_30 : decode cX1_addField 30 = .ok (.iload_n 3, 1) := by decide +kernel
theorem dX1_addField_31 : decode cX1_addField 31 = .ok (.invokevirtual 64, 3) := by decide +kernel
theorem dX1_addField_34 : decode cX1_addField 34 = .ok (.aload_n 0, 1) := by decide +kernel
theorem dX1_addField_35 : decode cX1_addField 35 = .ok (.getfield 41, 3) := by decide +kernel
theorem dX1_addField_38 : decode cX1_addField 38 = .ok (.invokestatic 67, 3) := by decide +kernel
theorem dX1_addField_41 : decode cX1_addField 41 = .ok (.iinc 3 1, 3) := by decide +kernel
theorem dX1_addField_44 : decode cX1_addField 44 = .ok (.goto (-33), 3) := by decide +kernel
theorem dX1_addField_47 : decode cX1_addField 47 = .ok (.aload_n 0, 1) := by decide +kernel
theorem dX1_addField_48 : decode cX1_addField 48 = .ok (.getfield 22, 3) := by decide +kernel
theorem dX1_addField_51 : decode cX1_addField 51 = .ok (.aload_n 0, 1) := by decide +kernel
theorem dX1_addField_52 : decode cX1_addField 52 = .ok (.getfield 41, 3) := by decide +kernel
theorem dX1_addField_55 : decode cX1_addField 55 = .ok (.aload_n 1, 1) := by decide +kernel
theorem dX1_addField_56 : decode cX1_addField 56 = .ok (.iload_n 2, 1) := by decide +kernel
theorem dX1_addField_57 : decode cX1_addField 57 = .ok (.invokevirtual 48, 3) := by decide +kernel
theorem dX1_addField_60 : decode cX1_addField 60 = .ok (.invokestatic 67, 3) := by decide +kernel
theorem dX1_addField_63 : decode cX1_addField 63 = .ok (.aload_n 0, 1) := by decide +kernel
theorem dX1_addField_64 : decode cX1_addField 64 = .ok (.getfield 25, 3) := by decide +kernel
theorem dX1_addField_67 : decode cX1_addField 67 = .ok (.aload_n 0, 1) := by decide +kernel
theorem dX1_addField_68 : decode cX1_addField 68 = .ok (.getfield 41, 3) := by decide +kernel
theorem dX1_addField_71 : decode cX1_addField 71 = .ok (.aload_n 0, 1) := by decide +kernel
theorem dX1_addField_72 : decode cX1_addField 72 = .ok (.getfield 12, 3) := by decide +kernel
theorem dX1_addField_75 : decode cX1_addField 75 = .ok (.invokevirtual 61, 3) := by decide +kernel
theorem dX1_addField_78 : decode cX1_addField 78 = .ok (.invokestatic 67, 3) := by decide +kernel
theorem dX1_addField_81 : decode cX1_addField 81 = .ok (.aload_n 0, 1) := by decide +kernel
theorem dX1_addField_82 : decode cX1_addField 82 = .ok (.getfield 28, 3) := by decide +kernel
theorem dX1_addField_85 : decode cX1_addField 85 = .ok (.aload_n 0, 1) := by decide +kernel
theorem dX1_addField_86 : decode cX1_addField 86 = .ok (.getfield 41, 3) := by decide +kernel
theorem dX1_addField_89 : decode cX1_addField 89 = .ok (.iload_n 2, 1) := by decide +kernel
theorem dX1_addField_90 : decode cX1_addField 90 = .ok (.invokestatic 67, 3) := by decide +kernel
theorem dX1_addField_93 : decode cX1_addField 93 = .ok (.aload_n 0, 1) := by decide +kernel
theorem dX1_addField_94 : decode cX1_addField 94 = .ok (.dup, 1) := by decide +kernel
theorem dX1_addField_95 : decode cX1_addField 95 = .ok (.getfield 45, 3) := by decide +kernel
theorem dX1_addField_98 : decode cX1_addField 98 = .ok (.aload_n 0, 1) := by decide +kernel
theorem dX1_addField_99 : decode cX1_addField 99 = .ok (.getfield 12, 3) := by decide +kernel
theorem dX1_addField_102 : decode cX1_addField 102 = .ok (.invokevirtual 61, 3) := by decide +kernel
theorem dX1_addField_105 : decode cX1_addField 105 = .ok (.iadd, 1) := by decide +kernel
theorem dX1_addField_106 : decode cX1_addField 106 = .ok (.putfield 45, 3) := by decide +kernel
theorem dX1_addField_109 : decode cX1_addField 109 = .ok (.aload_n 0, 1) := by decide +kernel
theorem dX1_addField_110 : decode cX1_addField 110 = .ok (.dup, 1) := by decide +kernel
theorem dX1_addField_111 : decode cX1_addField 111 = .ok (.getfield 41, 3) := by decide +kernel
theorem dX1_addField_114 : decode cX1_addField 114 = .ok (.iconst 1, 1) := by decide +kernel
theorem dX1_addField_115 : decode cX1_addField 115 = .ok (.iadd, 1) := by decide +kernel
theorem dX1_addField_116 : decode cX1_addField 116 = .ok (.putfield 41, 3) := by decide +kernel
theorem dX1_addField_119 : decode cX1_addField 119 = .ok (.return_, 1) := by decide +kernel
theorem dX1_has_0 : decode cX1_has 0 = .ok (.iload_n 1, 1) := by decide +kernel
theorem dX1_has_1 : decode cX1_has 1 = .ok (.ifCond .lt 15, 3) := by decide +kernel
theorem dX1_has_4 : decode cX1_has 4 = .ok (.iload_n 1, 1) := by decide +kernel
theorem dX1_has_5 : decode cX1_has 5 = .ok (.aload_n 0, 1) := by decide +kernel
theorem dX1_has_6 : decode cX1_has 6 = .ok (.getfield 41, 3) := by decide +kernel
theorem dX1_has_9 : decode cX1_has 9 = .ok (.if_icmp .ge 7, 3) := by decide +kernel
theorem dX1_has_12 : decode cX1_has 12 = .ok (.iconst 1, 1) := by decide +kernel
theorem dX1_has_13 : decode cX1_has 13 = .ok (.goto 4, 3) := by decide +kernel
theorem dX1_has_16 : decode cX1_has 16 = .ok (.iconst 0, 1) := by decide +kernel
theorem dX1_has_17 : decode cX1_has 17 = .ok (.ireturn, 1) := by decide +kernel
theorem dX1_size_0 : decode cX1_size 0 = .ok (.aload_n 0, 1) := by decide +kernel
theorem dX1_size_1 : decode cX1_size 1 = .ok (.getfield 41, 3) := by decide +kernel
theorem dX1_size_4 : decode cX1_size 4 = .ok (.ireturn, 1) := by decide +kernel
theorem dX1_cells_0 : decode cX1_cells 0 = .ok (.aload_n 0, 1) := by decide +kernel
theorem dX1_cells_1 : decode cX1_cells 1 = .ok (.getfield 45, 3) := by decide +kernel
theorem dX1_cells_4 : decode cX1_cells 4 = .ok (.ireturn, 1) := by decide +kernel
theorem dX1_fieldAt_0 : decode cX1_fieldAt 0 = .ok (.aload_n 0, 1) := by decide +kernel
theorem dX1_fieldAt_1 : decode cX1_fieldAt 1 = .ok (.getfield 18, 3) := by decide +kernel
theorem dX1_fieldAt_4 : decode cX1_fieldAt 4 = .ok (.iload_n 1, 1) := by decide +kernel
theorem dX1_fieldAt_5 : decode cX1_fieldAt 5 = .ok (.invokestatic 71, 3) := by decide +kernel
theorem dX1_fieldAt_8 : decode cX1_fieldAt 8 = .ok (.ireturn, 1) := by decide +kernel
theorem dX1_colourOf_0 : decode cX1_colourOf 0 = .ok (.aload_n 0, 1) := by decide +kernel
theorem dX1_colourOf_1 : decode cX1_colourOf 1 = .ok (.getfield 22, 3) := by decide +kernel
theorem dX1_colourOf_4 : decode cX1_colourOf 4 = .ok (.iload_n 1, 1) := by decide +kernel
theorem dX1_colourOf_5 : decode cX1_colourOf 5 = .ok (.invokestatic 71, 3) := by decide +kernel
theorem dX1_colourOf_8 : decode cX1_colourOf 8 = .ok (.ireturn, 1) := by decide +kernel
theorem dX1_sizeOf_0 : decode cX1_sizeOf 0 = .ok (.aload_n 0, 1) := by decide +kernel
theorem dX1_sizeOf_1 : decode cX1_sizeOf 1 = .ok (.getfield 25, 3) := by decide +kernel
theorem dX1_sizeOf_4 : decode cX1_sizeOf 4 = .ok (.iload_n 1, 1) := by decide +kernel
theorem dX1_sizeOf_5 : decode cX1_sizeOf 5 = .ok (.invokestatic 71, 3) := by decide +kernel
theorem dX1_sizeOf_8 : decode cX1_sizeOf 8 = .ok (.ireturn, 1) := by decide +kernel
theorem dX1_smallestOf_0 : decode cX1_smallestOf 0 = .ok (.aload_n 0, 1) := by decide +kernel
theorem dX1_smallestOf_1 : decode cX1_smallestOf 1 = .ok (.getfield 28, 3) := by decide +kernel
theorem dX1_smallestOf_4 : decode cX1_smallestOf 4 = .ok (.iload_n 1, 1) := by decide +kernel
theorem dX1_smallestOf_5 : decode cX1_smallestOf 5 = .ok (.invokestatic 71, 3) := by decide +kernel
theorem dX1_smallestOf_8 : decode cX1_smallestOf 8 = .ok (.ireturn, 1) := by decide +kernel
theorem dX1_touching_0 : decode cX1_touching 0 = .ok (.aload_n 0, 1) := by decide +kernel
theorem dX1_touching_1 : decode cX1_touching 1 = .ok (.getfield 31, 3) := by decide +kernel
theorem dX1_touching_4 : decode cX1_touching 4 = .ok (.invokestatic 75, 3) := by decide +kernel
theorem dX1_touching_7 : decode cX1_touching 7 = .ok (.iconst 0, 1) := by decide +kernel
theorem dX1_touching_8 : decode cX1_touching 8 = .ok (.istore_n 2, 1) := by decide +kernel
theorem dX1_touching_9 : decode cX1_touching 9 = .ok (.iload_n 2, 1) := by decide +kernel
theorem dX1_touching_10 : decode cX1_touching 10 = .ok (.bipush 48, 2) := by decide +kernel
theorem dX1_touching_12 : decode cX1_touching 12 = .ok (.if_icmp .ge 25, 3) := by decide +kernel
theorem dX1_touching_15 : decode cX1_touching 15 = .ok (.aload_n 0, 1) := by decide +kernel
theorem dX1_touching_16 : decode cX1_touching 16 = .ok (.getfield 18, 3) := by decide +kernel
theorem dX1_touching_19 : decode cX1_touching 19 = .ok (.iload_n 2, 1) := by decide +kernel
theorem dX1_touching_20 : decode cX1_touching 20 = .ok (.iaload, 1) := by decide +kernel
theorem dX1_touching_21 : decode cX1_touching 21 = .ok (.iload_n 1, 1) := by decide +kernel
theorem dX1_touching_22 : decode cX1_touching 22 = .ok (.if_icmp .ne 9, 3) := by decide +kernel
theorem dX1_touching_25 : decode cX1_touching 25 = .ok (.aload_n 0, 1) := by decide +kernel
theorem dX1_touching_26 : decode cX1_touching 26 = .ok (.iload_n 2, 1) := by decide +kernel
theorem dX1_touching_27 : decode cX1_touching 27 = .ok (.iload_n 1, 1) := by decide +kernel
theorem dX1_touching_28 : decode cX1_touching 28 = .ok (.invokevirtual 79, 3) := by decide +kernel
theorem dX1_touching_31 : decode cX1_touching 31 = .ok (.iinc 2 1, 3) := by decide +kernel
theorem dX1_touching_34 : decode cX1_touching 34 = .ok (.goto (-25), 3) := by decide +kernel
theorem dX1_touching_37 : decode cX1_touching 37 = .ok (.aload_n 0, 1) := by decide +kernel
theorem dX1_touching_38 : decode cX1_touching 38 = .ok (.getfield 31, 3) := by decide +kernel
theorem dX1_touching_41 : decode cX1_touching 41 = .ok (.invokestatic 83, 3) := by decide +kernel
theorem dX1_touching_44 : decode cX1_touching 44 = .ok (.ireturn, 1) := by decide +kernel
theorem dX1_markBeside_0 : decode cX1_markBeside 0 = .ok (.iconst 0, 1) := by decide +kernel
theorem dX1_markBeside_1 : decode cX1_markBeside 1 = .ok (.istore_n 3, 1) := by decide +kernel
theorem dX1_markBeside_2 : decode cX1_markBeside 2 = .ok (.iload_n 3, 1) := by decide +kernel
theorem dX1_markBeside_3 : decode cX1_markBeside 3 = .ok (.iconst 4, 1) := by decide +kernel
theorem dX1_markBeside_4 : decode cX1_markBeside 4 = .ok (.if_icmp .ge 46, 3) := by decide +kernel
theorem dX1_markBeside_7 : decode cX1_markBeside 7 = .ok (.aload_n 0, 1) := by decide +kernel
theorem dX1_markBeside_8 : decode cX1_markBeside 8 = .ok (.iload_n 1, 1) := by decide +kernel
theorem dX1_markBeside_9 : decode cX1_markBeside 9 = .ok (.iload_n 3, 1) := by decide +kernel
theorem dX1_markBeside_10 : decode cX1_markBeside 10 = .ok (.invokestatic 87, 3) := by decide +kernel
theorem dX1_markBeside_13 : decode cX1_markBeside 13 = .ok (.invokevirtual 91, 3) := by decide +kernel
theorem dX1_markBeside_16 : decode cX1_markBeside 16 = .ok (.istore 4, 2) := by decide +kernel
theorem dX1_markBeside_18 : decode cX1_markBeside 18 = .ok (.iload 4, 2) := by decide +kernel
theorem dX1_markBeside_20 : decode cX1_markBeside 20 = .ok (.ifCond .lt 24, 3) := by decide +kernel
theorem dX1_markBeside_23 : decode cX1_markBeside 23 = .ok (.iload 4, 2) := by decide +kernel
theorem dX1_markBeside_25 : decode cX1_markBeside 25 = .ok (.bipush 48, 2) := by decide +kernel
theorem dX1_markBeside_27 : decode cX1_markBeside 27 = .ok (.if_icmp .ge 17, 3) := by decide +kernel
theorem dX1_markBeside_30 : decode cX1_markBeside 30 = .ok (.iload 4, 2) := by decide +kernel
theorem dX1_markBeside_32 : decode cX1_markBeside 32 = .ok (.iload_n 2, 1) := by decide +kernel
theorem dX1_markBeside_33 : decode cX1_markBeside 33 = .ok (.if_icmp .eq 11, 3) := by decide +kernel
theorem dX1_markBeside_36 : decode cX1_markBeside 36 = .ok (.aload_n 0, 1) := by decide +kernel
theorem dX1_markBeside_37 : decode cX1_markBeside 37 = .ok (.getfield 31, 3) := by decide +kernel
theorem dX1_markBeside_40 : decode cX1_markBeside 40 = .ok (.iload 4, 2) := by decide +kernel
theorem dX1_markBeside_42 : decode cX1_markBeside 42 = .ok (.iconst 1, 1) := by decide +kernel
theorem dX1_markBeside_43 : decode cX1_markBeside 43 = .ok (.bastore, 1) := by decide +kernel
theorem dX1_markBeside_44 : decode cX1_markBeside 44 = .ok (.iinc 3 1, 3) := by decide +kernel
theorem dX1_markBeside_47 : decode cX1_markBeside 47 = .ok (.goto (-45), 3) := by decide +kernel
theorem dX1_markBeside_50 : decode cX1_markBeside 50 = .ok (.return_, 1) := by decide +kernel
theorem dX2_init_0 : decode cX2_init 0 = .ok (.aload_n 0, 1) := by decide +kernel
theorem dX2_init_1 : decode cX2_init 1 = .ok (.invokespecial 3, 3) := by decide +kernel
theorem dX2_init_4 : decode cX2_init 4 = .ok (.aload_n 0, 1) := by decide +kernel
theorem dX2_init_5 : decode cX2_init 5 = .ok (.bipush 6, 2) := by decide +kernel
theorem dX2_init_7 : decode cX2_init 7 = .ok (.bipush 60, 2) := by decide +kernel
theorem dX2_init_9 : decode cX2_init 9 = .ok (.multianewarray 11 2, 4) := by decide +kernel
theorem dX2_init_13 : decode cX2_init 13 = .ok (.putfield 13, 3) := by decide +kernel
theorem dX2_init_16 : decode cX2_init 16 = .ok (.return_, 1) := by decide +kernel
theorem dX2_size_0 : decode cX2_size 0 = .ok (.aload_n 0, 1) := by decide +kernel
theorem dX2_size_1 : decode cX2_size 1 = .ok (.getfield 18, 3) := by decide +kernel
theorem dX2_size_4 : decode cX2_size 4 = .ok (.ireturn, 1) := by decide +kernel
theorem dX2_drop_0 : decode cX2_drop 0 = .ok (.aload_n 0, 1) := by decide +kernel
theorem dX2_drop_1 : decode cX2_drop 1 = .ok (.iconst 0, 1) := by decide +kernel
theorem dX2_drop_2 : decode cX2_drop 2 = .ok (.putfield 18, 3) := by decide +kernel
theorem dX2_drop_5 : decode cX2_drop 5 = .ok (.return_, 1) := by decide +kernel
theorem dX2_push_0 : decode cX2_push 0 = .ok (.aload_n 0, 1) := by decide +kernel
theorem dX2_push_1 : decode cX2_push 1 = .ok (.getfield 22, 3) := by decide +kernel
theorem dX2_push_4 : decode cX2_push 4 = .ok (.iconst 0, 1) := by decide +kernel
theorem dX2_push_5 : decode cX2_push 5 = .ok (.iconst 5, 1) := by decide +kernel
theorem dX2_push_6 : decode cX2_push 6 = .ok (.invokestatic 25, 3) := by decide +kernel
theorem dX2_push_9 : decode cX2_push 9 = .ok (.ifCond .eq 16, 3) := by decide +kernel
theorem dX2_push_12 : decode cX2_push 12 = .ok (.aload_n 1, 1) := by decide +kernel
theorem dX2_push_13 : decode cX2_push 13 = .ok (.aload_n 0, 1) := by decide +kernel
theorem dX2_push_14 : decode cX2_push 14 = .ok (.getfield 13, 3) := by decide +kernel
theorem dX2_push_17 : decode cX2_push 17 = .ok (.aload_n 0, 1) := by decide +kernel
theorem dX2_push_18 : decode cX2_push 18 = .ok (.getfield 22, 3) := by decide +kernel
theorem dX2_push_21 : decode cX2_push 21 = .ok (.aaload, 1) := by decide +kernel
theorem dX2_push_22 : decode cX2_push 22 = .ok (.invokevirtual 29, 3) := by decide +kernel
theorem dX2_push_25 : decode cX2_push 25 = .ok (.aload_n 0, 1) := by decide +kernel
theorem dX2_push_26 : decode cX2_push 26 = .ok (.aload_n 0, 1) := by decide +kernel
theorem dX2_push_27 : decode cX2_push 27 = .ok (.getfield 22, 3) := by decide +kernel
theorem dX2_push_30 : decode cX2_push 30 = .ok (.iconst 1, 1) := by decide +kernel
theorem dX2_push_31 : decode cX2_push 31 = .ok (.iadd, 1) := by decide +kernel
theorem dX2_push_32 : decode cX2_push 32 = .ok (.bipush 6, 2) := by decide +kernel
theorem dX2_push_34 : decode cX2_push 34 = .ok (.if_icmp .ge 12, 3) := by decide +kernel
theorem dX2_push_37 : decode cX2_push 37 = .ok (.aload_n 0, 1) := by decide +kernel
theorem dX2_push_38 : decode cX2_push 38 = .ok (.getfield 22, 3) := by decide +kernel
theorem dX2_push_41 : decode cX2_push 41 = .ok (.iconst 1, 1) := by decide +kernel
theorem dX2_push_42 : decode cX2_push 42 = .ok (.iadd, 1) := by decide +kernel
theorem dX2_push_43 : decode cX2_push 43 = .ok (.goto 4, 3) := by decide +kernel
theorem dX2_push_46 : decode cX2_push 46 = .ok (.iconst 0, 1) := by decide +kernel
theorem dX2_push_47 : decode cX2_push 47 = .ok (.putfield 22, 3) := by decide +kernel
theorem dX2_push_50 : decode cX2_push 50 = .ok (.aload_n 0, 1) := by decide +kernel
theorem dX2_push_51 : decode cX2_push 51 = .ok (.aload_n 0, 1) := by decide +kernel
theorem dX2_push_52 : decode cX2_push 52 = .ok (.getfield 18, 3) := by decide +kernel
theorem dX2_push_55 : decode cX2_push 55 = .ok (.iconst 1, 1) := by decide +kernel
theorem dX2_push_56 : decode cX2_push 56 = .ok (.iadd, 1) := by decide +kernel
theorem dX2_push_57 : decode cX2_push 57 = .ok (.bipush 6, 2) := by decide +kernel
theorem dX2_push_59 : decode cX2_push 59 = .ok (.invokestatic 33, 3) := by decide +kernel
theorem dX2_push_62 : decode cX2_push 62 = .ok (.putfield 18, 3) := by decide +kernel
theorem dX2_push_65 : decode cX2_push 65 = .ok (.return_, 1) := by decide +kernel
theorem dX2_pop_0 : decode cX2_pop 0 = .ok (.aload_n 0, 1) := by decide +kernel
theorem dX2_pop_1 : decode cX2_pop 1 = .ok (.aload_n 0, 1) := by decide +kernel
theorem dX2_pop_2 : decode cX2_pop 2 = .ok (.getfield 22, 3) := by decide +kernel
theorem dX2_pop_5 : decode cX2_pop 5 = .ok (.ifCond .le 12, 3) := by decide +kernel
theorem dX2_pop_8 : decode cX2_pop 8 = .ok (.aload_n 0, 1) := by decide +kernel
theorem dX2_pop_9 : decode cX2_pop 9 = .ok (.getfield 22, 3) := by decide +kernel
theorem dX2_pop_12 : decode cX2_pop 12 = .ok (.iconst 1, 1) := by decide +kernel
theorem dX2_pop_13 : decode cX2_pop 13 = .ok (.isub, 1) := by decide +kernel
theorem dX2_pop_14 : decode cX2_pop 14 = .ok (.goto 4, 3) := by decide +kernel
theorem dX2_pop_17 : decode cX2_pop 17 = .ok (.iconst 5, 1) := by decide +kernel
theorem dX2_pop_18 : decode cX2_pop 18 = .ok (.putfield 22, 3) := by decide +kernel
theorem dX2_pop_21 : decode cX2_pop 21 = .ok (.aload_n 0, 1) := by decide +kernel
theorem dX2_pop_22 : decode cX2_pop 22 = .ok (.getfield 22, 3) := by decide +kernel
theorem dX2_pop_25 : decode cX2_pop 25 = .ok (.iconst 0, 1) := by decide +kernel
theorem dX2_pop_26 : decode cX2_pop 26 = .ok (.iconst 5, 1) := by decide +kernel
theorem dX2_pop_27 : decode cX2_pop 27 = .ok (.invokestatic 25, 3) := by decide +kernel
theorem dX2_pop_30 : decode cX2_pop 30 = .ok (.ifCond .eq 16, 3) := by decide +kernel
theorem dX2_pop_33 : decode cX2_pop 33 = .ok (.aload_n 1, 1) := by decide +kernel
theorem dX2_pop_34 : decode cX2_pop 34 = .ok (.aload_n 0, 1) := by decide +kernel
theorem dX2_pop_35 : decode cX2_pop 35 = .ok (.getfield 13, 3) := by decide +kernel
theorem dX2_pop_38 : decode cX2_pop 38 = .ok (.aload_n 0, 1) := by decide +kernel
theorem dX2_pop_39 : decode cX2_pop 39 = .ok (.getfield 22, 3) := by decide +kernel
theorem dX2_pop_42 : decode cX2_pop 42 = .ok (.aaload, 1) := by decide +kernel
theorem dX2_pop_43 : decode cX2_pop 43 = .ok (.invokevirtual 39, 3) := by decide +kernel
theorem dX2_pop_46 : decode cX2_pop 46 = .ok (.aload_n 0, 1) := by decide +kernel
theorem dX2_pop_47 : decode cX2_pop 47 = .ok (.aload_n 0, 1) := by decide +kernel
theorem dX2_pop_48 : decode cX2_pop 48 = .ok (.getfield 18, 3) := by decide +kernel
theorem dX2_pop_51 : decode cX2_pop 51 = .ok (.iconst 1, 1) := by decide +kernel
theorem dX2_pop_52 : decode cX2_pop 52 = .ok (.isub, 1) := by decide +kernel
theorem dX2_pop_53 : decode cX2_pop 53 = .ok (.iconst 0, 1) := by decide +kernel
theorem dX2_pop_54 : decode cX2_pop 54 = .ok (.invokestatic 42, 3) := by decide +kernel
theorem dX2_pop_57 : decode cX2_pop 57 = .ok (.putfield 18, 3) := by decide +kernel
theorem dX2_pop_60 : decode cX2_pop 60 = .ok (.return_, 1) := by decide +kernel
theorem dX3_init_0 : decode cX3_init 0 = .ok (.aload_n 0, 1) := by decide +kernel
theorem dX3_init_1 : decode cX3_init 1 = .ok (.invokespecial 3, 3) := by decide +kernel
theorem dX3_init_4 : decode cX3_init 4 = .ok (.aload_n 0, 1) := by decide +kernel
theorem dX3_init_5 : decode cX3_init 5 = .ok (.bipush 6, 2) := by decide +kernel
theorem dX3_init_7 : decode cX3_init 7 = .ok (.newarray .int, 2) := by decide +kernel
theorem dX3_init_9 : decode cX3_init 9 = .ok (.putfield 9, 3) := by decide +kernel
theorem dX3_init_12 : decode cX3_init 12 = .ok (.aload_n 0, 1) := by decide +kernel
theorem dX3_init_13 : decode cX3_init 13 = .ok (.bipush 6, 2) := by decide +kernel
theorem dX3_init_15 : decode cX3_init 15 = .ok (.newarray .int, 2) := by decide +kernel
theorem dX3_init_17 : decode cX3_init 17 = .ok (.putfield 15, 3) := by decide +kernel
theorem dX3_init_20 : decode cX3_init 20 = .ok (.aload_n 0, 1) := by decide +kernel
theorem dX3_init_21 : decode cX3_init 21 = .ok (.bipush 6, 2) := by decide +kernel
theorem dX3_init_23 : decode cX3_init 23 = .ok (.newarray .int, 2) := by decide +kernel
theorem dX3_init_25 : decode cX3_init 25 = .ok (.putfield 18, 3) := by decide +kernel
theorem dX3_init_28 : decode cX3_init 28 = .ok (.return_, 1) := by decide +kernel
theorem dX3_size_0 : decode cX3_size 0 = .ok (.aload_n 0, 1) := by decide +kernel
theorem dX3_size_1 : decode cX3_size 1 = .ok (.getfield 21, 3) := by decide +kernel
theorem dX3_size_4 : decode cX3_size 4 = .ok (.ireturn, 1) := by decide +kernel
theorem dX3_add_0 : decode cX3_add 0 = .ok (.aload_n 0, 1) := by decide +kernel
theorem dX3_add_1 : decode cX3_add 1 = .ok (.getfield 9, 3) := by decide +kernel
theorem dX3_add_4 : decode cX3_add 4 = .ok (.aload_n 0, 1) := by decide +kernel
theorem dX3_add_5 : decode cX3_add 5 = .ok (.getfield 21, 3) := by decide +kernel
theorem dX3_add_8 : decode cX3_add 8 = .ok (.iload_n 1, 1) := by decide +kernel
theorem dX3_add_9 : decode cX3_add 9 = .ok (.invokestatic 25, 3) := by decide +kernel
theorem dX3_add_12 : decode cX3_add 12 = .ok (.aload_n 0, 1) := by decide +kernel
theorem dX3_add_13 : decode cX3_add 13 = .ok (.getfield 15, 3) := by decide +kernel
theorem dX3_add_16 : decode cX3_add 16 = .ok (.aload_n 0, 1) := by decide +kernel
theorem dX3_add_17 : decode cX3_add 17 = .ok (.getfield 21, 3) := by decide +kernel
theorem dX3_add_20 : decode cX3_add 20 = .ok (.iload_n 2, 1) := by decide +kernel
theorem dX3_add_21 : decode cX3_add 21 = .ok (.invokestatic 25, 3) := by decide +kernel
theorem dX3_add_24 : decode cX3_add 24 = .ok (.aload_n 0, 1) := by decide +kernel
theorem dX3_add_25 : decode cX3_add 25 = .ok (.getfield 18, 3) := by decide +kernel
theorem dX3_add_28 : decode cX3_add 28 = .ok (.aload_n 0, 1) := by decide +kernel
theorem dX3_add_29 : decode cX3_add 29 = .ok (.getfield 21, 3) := by decide +kernel
theorem dX3_add_32 : decode cX3_add 32 = .ok (.iload_n 3, 1) := by decide +kernel
theorem dX3_add_33 : decode cX3_add 33 = .ok (.invokestatic 25, 3) := by decide +kernel
theorem dX3_add_36 : decode cX3_add 36 = .ok (.aload_n 0, 1) := by decide +kernel
theorem dX3_add_37 : decode cX3_add 37 = .ok (.aload_n 0, 1) := by decide +kernel
theorem dX3_add_38 : decode cX3_add 38 = .ok (.getfield 21, 3) := by decide +kernel
theorem dX3_add_41 : decode cX3_add 41 = .ok (.iconst 1, 1) := by decide +kernel
theorem dX3_add_42 : decode cX3_add 42 = .ok (.iadd, 1) := by decide +kernel
theorem dX3_add_43 : decode cX3_add 43 = .ok (.bipush 6, 2) := by decide +kernel
theorem dX3_add_45 : decode cX3_add 45 = .ok (.invokestatic 29, 3) := by decide +kernel
theorem dX3_add_48 : decode cX3_add 48 = .ok (.putfield 21, 3) := by decide +kernel
theorem dX3_add_51 : decode cX3_add 51 = .ok (.return_, 1) := by decide +kernel
theorem dX3_drop_0 : decode cX3_drop 0 = .ok (.aload_n 0, 1) := by decide +kernel
theorem dX3_drop_1 : decode cX3_drop 1 = .ok (.iconst 0, 1) := by decide +kernel
theorem dX3_drop_2 : decode cX3_drop 2 = .ok (.putfield 21, 3) := by decide +kernel
theorem dX3_drop_5 : decode cX3_drop 5 = .ok (.return_, 1) := by decide +kernel
theorem dX3_agree_0 : decode cX3_agree 0 = .ok (.iconst 0, 1) := by decide +kernel
theorem dX3_agree_1 : decode cX3_agree 1 = .ok (.istore 5, 2) := by decide +kernel
theorem dX3_agree_3 : decode cX3_agree 3 = .ok (.iload 5, 2) := by decide +kernel
theorem dX3_agree_5 : decode cX3_agree 5 = .ok (.aload_n 0, 1) := by decide +kernel
theorem dX3_agree_6 : decode cX3_agree 6 = .ok (.getfield 21, 3) := by decide +kernel
theorem dX3_agree_9 : decode cX3_agree 9 = .ok (.if_icmp .ge 54, 3) := by decide +kernel
theorem dX3_agree_12 : decode cX3_agree 12 = .ok (.aload_n 3, 1) := by decide +kernel
theorem dX3_agree_13 : decode cX3_agree 13 = .ok (.aload_n 1, 1) := by decide +kernel
theorem dX3_agree_14 : decode cX3_agree 14 = .ok (.aload_n 2, 1) := by decide +kernel
theorem dX3_agree_15 : decode cX3_agree 15 = .ok (.iload 4, 2) := by decide +kernel
theorem dX3_agree_17 : decode cX3_agree 17 = .ok (.aload_n 0, 1) := by decide +kernel
theorem dX3_agree_18 : decode cX3_agree 18 = .ok (.getfield 9, 3) := by decide +kernel
theorem dX3_agree_21 : decode cX3_agree 21 = .ok (.iload 5, 2) := by decide +kernel
theorem dX3_agree_23 : decode cX3_agree 23 = .ok (.invokestatic 35, 3) := by decide +kernel
theorem dX3_agree_26 : decode cX3_agree 26 = .ok (.invokevirtual 39, 3) := by decide +kernel
theorem dX3_agree_29 : decode cX3_agree 29 = .ok (.aload_n 3, 1) := by decide +kernel
theorem dX3_agree_30 : decode cX3_agree 30 = .ok (.aload_n 1, 1) := by decide +kernel
theorem dX3_agree_31 : decode cX3_agree 31 = .ok (.aload_n 0, 1) := by decide +kernel
theorem dX3_agree_32 : decode cX3_agree 32 = .ok (.getfield 15, 3) := by decide +kernel
theorem dX3_agree_35 : decode cX3_agree 35 = .ok (.iload 5, 2) := by decide +kernel
theorem dX3_agree_37 : decode cX3_agree 37 = .ok (.invokestatic 35, 3) := by decide +kernel
theorem dX3_agree_40 : decode cX3_agree 40 = .ok (.invokevirtual 45, 3) := by decide +kernel
theorem dX3_agree_43 : decode cX3_agree 43 = .ok (.aload_n 0, 1) := by decide +kernel
theorem dX3_agree_44 : decode cX3_agree 44 = .ok (.getfield 18, 3) := by decide +kernel
theorem dX3_agree_47 : decode cX3_agree 47 = .ok (.iload 5, 2) := by decide +kernel
theorem dX3_agree_49 : decode cX3_agree 49 = .ok (.invokestatic 35, 3) := by decide +kernel
theorem dX3_agree_52 : decode cX3_agree 52 = .ok (.if_icmp .eq 5, 3) := by decide +kernel
theorem dX3_agree_55 : decode cX3_agree 55 = .ok (.iconst 0, 1) := by decide +kernel
theorem dX3_agree_56 : decode cX3_agree 56 = .ok (.ireturn, 1) := by decide +kernel
theorem dX3_agree_57 : decode cX3_agree 57 = .ok (.iinc 5 1, 3) := by decide +kernel
theorem dX3_agree_60 : decode cX3_agree 60 = .ok (.goto (-57), 3) := by decide +kernel
theorem dX3_agree_63 : decode cX3_agree 63 = .ok (.iconst 1, 1) := by decide +kernel
theorem dX3_agree_64 : decode cX3_agree 64 = .ok (.ireturn, 1) := by decide +kernel
theorem dX4_init_0 : decode cX4_init 0 = .ok (.aload_n 0, 1) := by decide +kernel
theorem dX4_init_1 : decode cX4_init 1 = .ok (.invokespecial 3, 3) := by decide +kernel
theorem dX4_init_4 : decode cX4_init 4 = .ok (.aload_n 0, 1) := by decide +kernel
theorem dX4_init_5 : decode cX4_init 5 = .ok (.new 9, 3) := by decide +kernel
theorem dX4_init_8 : decode cX4_init 8 = .ok (.dup, 1) := by decide +kernel
theorem dX4_init_9 : decode cX4_init 9 = .ok (.invokespecial 11, 3) := by decide +kernel
theorem dX4_init_12 : decode cX4_init 12 = .ok (.putfield 12, 3) := by decide +kernel
theorem dX4_init_15 : decode cX4_init 15 = .ok (.return_, 1) := by decide +kernel
theorem dX4_told_0 : decode cX4_told 0 = .ok (.aload_n 0, 1) := by decide +kernel
theorem dX4_told_1 : decode cX4_told 1 = .ok (.getfield 12, 3) := by decide +kernel
theorem dX4_told_4 : decode cX4_told 4 = .ok (.areturn, 1) := by decide +kernel
theorem dX4_read_0 : decode cX4_read 0 = .ok (.aload_n 0, 1) := by decide +kernel
theorem dX4_read_1 : decode cX4_read 1 = .ok (.getfield 12, 3) := by decide +kernel
theorem dX4_read_4 : decode cX4_read 4 = .ok (.invokevirtual 18, 3) := by decide +kernel
theorem dX4_read_7 : decode cX4_read 7 = .ok (.aload_n 0, 1) := by decide +kernel
theorem dX4_read_8 : decode cX4_read 8 = .ok (.iconst 0, 1) := by decide +kernel
theorem dX4_read_9 : decode cX4_read 9 = .ok (.putfield 21, 3) := by decide +kernel
theorem dX4_read_12 : decode cX4_read 12 = .ok (.aload_n 1, 1) := by decide +kernel
theorem dX4_read_13 : decode cX4_read 13 = .ok (.invokevirtual 25, 3) := by decide +kernel
theorem dX4_read_16 : decode cX4_read 16 = .ok (.iconst 0, 1) := by decide +kernel
theorem dX4_read_17 : decode cX4_read 17 = .ok (.istore_n 2, 1) := by decide +kernel
theorem dX4_read_18 : decode cX4_read 18 = .ok (.iload_n 2, 1) := by decide +kernel
theorem dX4_read_19 : decode cX4_read 19 = .ok (.bipush 120, 2) := by decide +kernel
theorem dX4_read_21 : decode cX4_read 21 = .ok (.if_icmp .ge 32, 3) := by decide +kernel
theorem dX4_read_24 : decode cX4_read 24 = .ok (.aload_n 1, 1) := by decide +kernel
theorem dX4_read_25 : decode cX4_read 25 = .ok (.invokevirtual 30, 3) := by decide +kernel
theorem dX4_read_28 : decode cX4_read 28 = .ok (.ifCond .ne 25, 3) := by decide +kernel
theorem dX4_read_31 : decode cX4_read 31 = .ok (.aload_n 0, 1) := by decide +kernel
theorem dX4_read_32 : decode cX4_read 32 = .ok (.aload_n 1, 1) := by decide +kernel
theorem dX4_read_33 : decode cX4_read 33 = .ok (.invokevirtual 34, 3) := by decide +kernel
theorem dX4_read_36 : decode cX4_read 36 = .ok (.ifCond .ne 11, 3) := by decide +kernel
theorem dX4_read_39 : decode cX4_read 39 = .ok (.bipush (-10), 2) := by decide +kernel
theorem dX4_read_41 : decode cX4_read 41 = .ok (.aload_n 1, 1) := by decide +kernel
theorem dX4_read_42 : decode cX4_read 42 = .ok (.invokevirtual 38, 3) := by decide +kernel
theorem dX4_read_45 : decode cX4_read 45 = .ok (.isub, 1) := by decide +kernel
theorem dX4_read_46 : decode cX4_read 46 = .ok (.ireturn, 1) := by decide +kernel
theorem dX4_read_47 : decode cX4_read 47 = .ok (.iinc 2 1, 3) := by decide +kernel
theorem dX4_read_50 : decode cX4_read 50 = .ok (.goto (-32), 3) := by decide +kernel
theorem dX4_read_53 : decode cX4_read 53 = .ok (.aload_n 0, 1) := by decide +kernel
theorem dX4_read_54 : decode cX4_read 54 = .ok (.getfield 21, 3) := by decide +kernel
theorem dX4_read_57 : decode cX4_read 57 = .ok (.ifCond .ne 13, 3) := by decide +kernel
theorem dX4_read_60 : decode cX4_read 60 = .ok (.bipush (-10), 2) := by decide +kernel
theorem dX4_read_62 : decode cX4_read 62 = .ok (.aload_n 1, 1) := by decide +kernel
theorem dX4_read_63 : decode cX4_read 63 = .ok (.invokevirtual 38, 3) := by decide +kernel
theorem dX4_read_66 : decode cX4_read 66 = .ok (.isub, 1) := by decide +kernel
theorem dX4_read_67 : decode cX4_read 67 = .ok (.goto 4, 3) := by decide +kernel
theorem dX4_read_70 : decode cX4_read 70 = .ok (.iload_n 2, 1) := by decide +kernel
theorem dX4_read_71 : decode cX4_read 71 = .ok (.ireturn, 1) := by decide +kernel
theorem dX4_passItem_0 : decode cX4_passItem 0 = .ok (.aload_n 1, 1) := by decide +kernel
theorem dX4_passItem_1 : decode cX4_passItem 1 = .ok (.ldc 42, 2) := by decide +kernel
theorem dX4_passItem_3 : decode cX4_passItem 3 = .ok (.invokevirtual 44, 3) := by decide +kernel
theorem dX4_passItem_6 : decode cX4_passItem 6 = .ok (.ifCond .eq 38, 3) := by decide +kernel
theorem dX4_passItem_9 : decode cX4_passItem 9 = .ok (.aload_n 0, 1) := by decide +kernel
theorem dX4_passItem_10 : decode cX4_passItem 10 = .ok (.getfield 21, 3) := by decide +kernel
theorem dX4_passItem_13 : decode cX4_passItem 13 = .ok (.bipush 6, 2) := by decide +kernel
theorem dX4_passItem_15 : decode cX4_passItem 15 = .ok (.if_icmp .ge 29, 3) := by decide +kernel
theorem dX4_passItem_18 : decode cX4_passItem 18 = .ok (.aload_n 1, 1) := by decide +kernel
theorem dX4_passItem_19 : decode cX4_passItem 19 = .ok (.invokevirtual 48, 3) := by decide +kernel
theorem dX4_passItem_22 : decode cX4_passItem 22 = .ok (.aload_n 0, 1) := by decide +kernel
theorem dX4_passItem_23 : decode cX4_passItem 23 = .ok (.aload_n 1, 1) := by decide +kernel
theorem dX4_passItem_24 : decode cX4_passItem 24 = .ok (.invokevirtual 51, 3) := by decide +kernel
theorem dX4_passItem_27 : decode cX4_passItem 27 = .ok (.ifCond .eq 15, 3) := by decide +kernel
theorem dX4_passItem_30 : decode cX4_passItem 30 = .ok (.aload_n 0, 1) := by decide +kernel
theorem dX4_passItem_31 : decode cX4_passItem 31 = .ok (.aload_n 1, 1) := by decide +kernel
theorem dX4_passItem_32 : decode cX4_passItem 32 = .ok (.invokevirtual 54, 3) := by decide +kernel
theorem dX4_passItem_35 : decode cX4_passItem 35 = .ok (.ifCond .eq 7, 3) := by decide +kernel
theorem dX4_passItem_38 : decode cX4_passItem 38 = .ok (.iconst 1, 1) := by decide +kernel
theorem dX4_passItem_39 : decode cX4_passItem 39 = .ok (.goto 4, 3) := by decide +kernel
theorem dX4_passItem_42 : decode cX4_passItem 42 = .ok (.iconst 0, 1) := by decide +kernel
theorem dX4_passItem_43 : decode cX4_passItem 43 = .ok (.ireturn, 1) := by decide +kernel
theorem dX4_passItem_44 : decode cX4_passItem 44 = .ok (.aload_n 1, 1) := by decide +kernel
theorem dX4_passItem_45 : decode cX4_passItem 45 = .ok (.ldc 57, 2) := by decide +kernel
theorem dX4_passItem_47 : decode cX4_passItem 47 = .ok (.invokevirtual 44, 3) := by decide +kernel
theorem dX4_passItem_50 : decode cX4_passItem 50 = .ok (.ifCond .eq 27, 3) := by decide +kernel
theorem dX4_passItem_53 : decode cX4_passItem 53 = .ok (.aload_n 0, 1) := by decide +kernel
theorem dX4_passItem_54 : decode cX4_passItem 54 = .ok (.aload_n 1, 1) := by decide +kernel
theorem dX4_passItem_55 : decode cX4_passItem 55 = .ok (.iconst 4, 1) := by decide +kernel
theorem dX4_passItem_56 : decode cX4_passItem 56 = .ok (.iconst 1, 1) := by decide +kernel
theorem dX4_passItem_57 : decode cX4_passItem 57 = .ok (.invokevirtual 59, 3) := by decide +kernel
theorem dX4_passItem_60 : decode cX4_passItem 60 = .ok (.ifCond .eq 15, 3) := by decide +kernel
theorem dX4_passItem_63 : decode cX4_passItem 63 = .ok (.aload_n 0, 1) := by decide +kernel
theorem dX4_passItem_64 : decode cX4_passItem 64 = .ok (.aload_n 1, 1) := by decide +kernel
theorem dX4_passItem_65 : decode cX4_passItem 65 = .ok (.invokevirtual 54, 3) := by decide +kernel
theorem dX4_passItem_68 : decode cX4_passItem 68 = .ok (.ifCond .eq 7, 3) := by decide +kernel
theorem dX4_passItem_71 : decode cX4_passItem 71 = .ok (.iconst 1, 1) := by decide +kernel
theorem dX4_passItem_72 : decode cX4_passItem 72 = .ok (.goto 4, 3) := by decide +kernel
theorem dX4_passItem_75 : decode cX4_passItem 75 = .ok (.iconst 0, 1) := by decide +kernel
theorem dX4_passItem_76 : decode cX4_passItem 76 = .ok (.ireturn, 1) := by decide +kernel
theorem dX4_passItem_77 : decode cX4_passItem 77 = .ok (.aload_n 1, 1) := by decide +kernel
theorem dX4_passItem_78 : decode cX4_passItem 78 = .ok (.ldc 63, 2) := by decide +kernel
theorem dX4_passItem_80 : decode cX4_passItem 80 = .ok (.invokevirtual 44, 3) := by decide +kernel
theorem dX4_passItem_83 : decode cX4_passItem 83 = .ok (.ifCond .eq 29, 3) := by decide +kernel
theorem dX4_passItem_86 : decode cX4_passItem 86 = .ok (.aload_n 0, 1) := by decide +kernel
theorem dX4_passItem_87 : decode cX4_passItem 87 = .ok (.aload_n 1, 1) := by decide +kernel
theorem dX4_passItem_88 : decode cX4_passItem 88 = .ok (.bipush 8, 2) := by decide +kernel
theorem dX4_passItem_90 : decode cX4_passItem 90 = .ok (.bipush 9, 2) := by decide +kernel
theorem dX4_passItem_92 : decode cX4_passItem 92 = .ok (.invokevirtual 59, 3) := by decide +kernel
theorem dX4_passItem_95 : decode cX4_passItem 95 = .ok (.ifCond .eq 15, 3) := by decide +kernel
theorem dX4_passItem_98 : decode cX4_passItem 98 = .ok (.aload_n 0, 1) := by decide +kernel
theorem dX4_passItem_99 : decode cX4_passItem 99 = .ok (.aload_n 1, 1) := by decide +kernel
theorem dX4_passItem_100 : decode cX4_passItem 100 = .ok (.invokevirtual 54, 3) := by decide +kernel
theorem dX4_passItem_103 : decode cX4_passItem 103 = .ok (.ifCond .eq 7, 3) := by decide +kernel
theorem dX4_passItem_106 : decode cX4_passItem 106 = .ok (.iconst 1, 1) := by decide +kernel
theorem dX4_passItem_107 : decode cX4_passItem 107 = .ok (.goto 4, 3) := by decide +kernel
theorem dX4_passItem_110 : decode cX4_passItem 110 = .ok (.iconst 0, 1) := by decide +kernel
theorem dX4_passItem_111 : decode cX4_passItem 111 = .ok (.ireturn, 1) := by decide +kernel
theorem dX4_passItem_112 : decode cX4_passItem 112 = .ok (.aload_n 1, 1) := by decide +kernel
theorem dX4_passItem_113 : decode cX4_passItem 113 = .ok (.ldc 65, 2) := by decide +kernel
theorem dX4_passItem_115 : decode cX4_passItem 115 = .ok (.invokevirtual 44, 3) := by decide +kernel
theorem dX4_passItem_118 : decode cX4_passItem 118 = .ok (.ifCond .eq 32, 3) := by decide +kernel
theorem dX4_passItem_121 : decode cX4_passItem 121 = .ok (.aload_n 1, 1) := by decide +kernel
theorem dX4_passItem_122 : decode cX4_passItem 122 = .ok (.invokevirtual 48, 3) := by decide +kernel
theorem dX4_passItem_125 : decode cX4_passItem 125 = .ok (.aload_n 0, 1) := by decide +kernel
theorem dX4_passItem_126 : decode cX4_passItem 126 = .ok (.aload_n 1, 1) := by decide +kernel
theorem dX4_passItem_127 : decode cX4_passItem 127 = .ok (.iconst 2, 1) := by decide +kernel
theorem dX4_passItem_128 : decode cX4_passItem 128 = .ok (.iconst 1, 1) := by decide +kernel
theorem dX4_passItem_129 : decode cX4_passItem 129 = .ok (.iconst 5, 1) := by decide +kernel
theorem dX4_passItem_130 : decode cX4_passItem 130 = .ok (.invokevirtual 67, 3) := by decide +kernel
theorem dX4_passItem_133 : decode cX4_passItem 133 = .ok (.ifCond .eq 15, 3) := by decide +kernel
theorem dX4_passItem_136 : decode cX4_passItem 136 = .ok (.aload_n 0, 1) := by decide +kernel
theorem dX4_passItem_137 : decode cX4_passItem 137 = .ok (.aload_n 1, 1) := by decide +kernel
theorem dX4_passItem_138 : decode cX4_passItem 138 = .ok (.invokevirtual 54, 3) := by decide +kernel
theorem dX4_passItem_141 : decode cX4_passItem 141 = .ok (.ifCond .eq 7, 3) := by decide +kernel
theorem dX4_passItem_144 : decode cX4_passItem 144 = .ok (.iconst 1, 1) := by decide +kernel
theorem dX4_passItem_145 : decode cX4_passItem 145 = .ok (.goto 4, 3) := by decide +kernel
theorem dX4_passItem_148 : decode cX4_passItem 148 = .ok (.iconst 0, 1) := by decide +kernel
theorem dX4_passItem_149 : decode cX4_passItem 149 = .ok (.ireturn, 1) := by decide +kernel
theorem dX4_passItem_150 : decode cX4_passItem 150 = .ok (.aload_n 1, 1) := by decide +kernel
theorem dX4_passItem_151 : decode cX4_passItem 151 = .ok (.ldc 71, 2) := by decide +kernel
theorem dX4_passItem_153 : decode cX4_passItem 153 = .ok (.invokevirtual 44, 3) := by decide +kernel
theorem dX4_passItem_156 : decode cX4_passItem 156 = .ok (.ifCond .eq 32, 3) := by decide +kernel
theorem dX4_passItem_159 : decode cX4_passItem 159 = .ok (.aload_n 1, 1) := by decide +kernel
theorem dX4_passItem_160 : decode cX4_passItem 160 = .ok (.invokevirtual 48, 3) := by decide +kernel
theorem dX4_passItem_163 : decode cX4_passItem 163 = .ok (.aload_n 0, 1) := by decide +kernel
theorem dX4_passItem_164 : decode cX4_passItem 164 = .ok (.aload_n 1, 1) := by decide +kernel
theorem dX4_passItem_165 : decode cX4_passItem 165 = .ok (.iconst 3, 1) := by decide +kernel
theorem dX4_passItem_166 : decode cX4_passItem 166 = .ok (.iconst 0, 1) := by decide +kernel
theorem dX4_passItem_167 : decode cX4_passItem 167 = .ok (.iconst 2, 1) := by decide +kernel
theorem dX4_passItem_168 : decode cX4_passItem 168 = .ok (.invokevirtual 67, 3) := by decide +kernel
theorem dX4_passItem_171 : decode cX4_passItem 171 = .ok (.ifCond .eq 15, 3) := by decide +kernel
theorem dX4_passItem_174 : decode cX4_passItem 174 = .ok (.aload_n 0, 1) := by decide +kernel
theorem dX4_passItem_175 : decode cX4_passItem 175 = .ok (.aload_n 1, 1) := by decide +kernel
theorem dX4_passItem_176 : decode cX4_passItem 176 = .ok (.invokevirtual 54, 3) := by decide +kernel
theorem dX4_passItem_179 : decode cX4_passItem 179 = .ok (.ifCond .eq 7, 3) := by decide +kernel
theorem dX4_passItem_182 : decode cX4_passItem 182 = .ok (.iconst 1, 1) := by decide +kernel
theorem dX4_passItem_183 : decode cX4_passItem 183 = .ok (.goto 4, 3) := by decide +kernel
theorem dX4_passItem_186 : decode cX4_passItem 186 = .ok (.iconst 0, 1) := by decide +kernel
theorem dX4_passItem_187 : decode cX4_passItem 187 = .ok (.ireturn, 1) := by decide +kernel
theorem dX4_passItem_188 : decode cX4_passItem 188 = .ok (.iconst 0, 1) := by decide +kernel
theorem dX4_passItem_189 : decode cX4_passItem 189 = .ok (.ireturn, 1) := by decide +kernel
theorem dX4_passCells_0 : decode cX4_passCells 0 = .ok (.aload_n 0, 1) := by decide +kernel
theorem dX4_passCells_1 : decode cX4_passCells 1 = .ok (.getfield 21, 3) := by decide +kernel
theorem dX4_passCells_4 : decode cX4_passCells 4 = .ok (.ifCond .ne 7, 3) := by decide +kernel
theorem dX4_passCells_7 : decode cX4_passCells 7 = .ok (.iconst 1, 1) := by decide +kernel
theorem dX4_passCells_8 : decode cX4_passCells 8 = .ok (.goto 10, 3) := by decide +kernel
theorem dX4_passCells_11 : decode cX4_passCells 11 = .ok (.aload_n 0, 1) := by decide +kernel
theorem dX4_passCells_12 : decode cX4_passCells 12 = .ok (.getfield 12, 3) := by decide +kernel
theorem dX4_passCells_15 : decode cX4_passCells 15 = .ok (.invokevirtual 73, 3) := by decide +kernel
theorem dX4_passCells_18 : decode cX4_passCells 18 = .ok (.istore_n 2, 1) := by decide +kernel
theorem dX4_passCells_19 : decode cX4_passCells 19 = .ok (.aload_n 0, 1) := by decide +kernel
theorem dX4_passCells_20 : decode cX4_passCells 20 = .ok (.getfield 21, 3) := by decide +kernel
theorem dX4_passCells_23 : decode cX4_passCells 23 = .ok (.ifCond .ne 8, 3) := by decide +kernel
theorem dX4_passCells_26 : decode cX4_passCells 26 = .ok (.bipush 8, 2) := by decide +kernel
theorem dX4_passCells_28 : decode cX4_passCells 28 = .ok (.goto 10, 3) := by decide +kernel
theorem dX4_passCells_31 : decode cX4_passCells 31 = .ok (.aload_n 0, 1) := by decide +kernel
theorem dX4_passCells_32 : decode cX4_passCells 32 = .ok (.getfield 12, 3) := by decide +kernel
theorem dX4_passCells_35 : decode cX4_passCells 35 = .ok (.invokevirtual 73, 3) := by decide +kernel
theorem dX4_passCells_38 : decode cX4_passCells 38 = .ok (.istore_n 3, 1) := by decide +kernel
theorem dX4_passCells_39 : decode cX4_passCells 39 = .ok (.aload_n 1, 1) := by decide +kernel
theorem dX4_passCells_40 : decode cX4_passCells 40 = .ok (.iload_n 2, 1) := by decide +kernel
theorem dX4_passCells_41 : decode cX4_passCells 41 = .ok (.iload_n 3, 1) := by decide +kernel
theorem dX4_passCells_42 : decode cX4_passCells 42 = .ok (.iconst 0, 1) := by decide +kernel
theorem dX4_passCells_43 : decode cX4_passCells 43 = .ok (.iconst 3, 1) := by decide +kernel
theorem dX4_passCells_44 : decode cX4_passCells 44 = .ok (.invokevirtual 76, 3) := by decide +kernel
theorem dX4_passCells_47 : decode cX4_passCells 47 = .ok (.ifCond .ne 5, 3) := by decide +kernel
theorem dX4_passCells_50 : decode cX4_passCells 50 = .ok (.iconst 0, 1) := by decide +kernel
theorem dX4_passCells_51 : decode cX4_passCells 51 = .ok (.ireturn, 1) := by decide +kernel
theorem dX4_passCells_52 : decode cX4_passCells 52 = .ok (.iconst 0, 1) := by decide +kernel
theorem dX4_passCells_53 : decode cX4_passCells 53 = .ok (.istore 4, 2) := by decide +kernel
theorem dX4_passCells_55 : decode cX4_passCells 55 = .ok (.iload 4, 2) := by decide +kernel
theorem dX4_passCells_57 : decode cX4_passCells 57 = .ok (.aload_n 1, 1) := by decide +kernel
theorem dX4_passCells_58 : decode cX4_passCells 58 = .ok (.invokevirtual 80, 3) := by decide +kernel
theorem dX4_passCells_61 : decode cX4_passCells 61 = .ok (.if_icmp .ge 31, 3) := by decide +kernel
theorem dX4_passCells_64 : decode cX4_passCells 64 = .ok (.aload_n 0, 1) := by decide +kernel
theorem dX4_passCells_65 : decode cX4_passCells 65 = .ok (.getfield 12, 3) := by decide +kernel
theorem dX4_passCells_68 : decode cX4_passCells 68 = .ok (.iload 4, 2) := by decide +kernel
theorem dX4_passCells_70 : decode cX4_passCells 70 = .ok (.aload_n 0, 1) := by decide +kernel
theorem dX4_passCells_71 : decode cX4_passCells 71 = .ok (.getfield 21, 3) := by decide +kernel
theorem dX4_passCells_74 : decode cX4_passCells 74 = .ok (.invokestatic 83, 3) := by decide +kernel
theorem dX4_passCells_77 : decode cX4_passCells 77 = .ok (.aload_n 1, 1) := by decide +kernel
theorem dX4_passCells_78 : decode cX4_passCells 78 = .ok (.iload 4, 2) := by decide +kernel
theorem dX4_passCells_80 : decode cX4_passCells 80 = .ok (.invokevirtual 87, 3) := by decide +kernel
theorem dX4_passCells_83 : decode cX4_passCells 83 = .ok (.invokevirtual 91, 3) := by decide +kernel
theorem dX4_passCells_86 : decode cX4_passCells 86 = .ok (.iinc 4 1, 3) := by decide +kernel
theorem dX4_passCells_89 : decode cX4_passCells 89 = .ok (.goto (-34), 3) := by decide +kernel
theorem dX4_passCells_92 : decode cX4_passCells 92 = .ok (.aload_n 0, 1) := by decide +kernel
theorem dX4_passCells_93 : decode cX4_passCells 93 = .ok (.dup, 1) := by decide +kernel
theorem dX4_passCells_94 : decode cX4_passCells 94 = .ok (.getfield 21, 3) := by decide +kernel
theorem dX4_passCells_97 : decode cX4_passCells 97 = .ok (.iconst 1, 1) := by decide +kernel
theorem dX4_passCells_98 : decode cX4_passCells 98 = .ok (.iadd, 1) := by decide +kernel
theorem dX4_passCells_99 : decode cX4_passCells 99 = .ok (.putfield 21, 3) := by decide +kernel
theorem dX4_passCells_102 : decode cX4_passCells 102 = .ok (.aload_n 0, 1) := by decide +kernel
theorem dX4_passCells_103 : decode cX4_passCells 103 = .ok (.getfield 12, 3) := by decide +kernel
theorem dX4_passCells_106 : decode cX4_passCells 106 = .ok (.iconst 0, 1) := by decide +kernel
theorem dX4_passCells_107 : decode cX4_passCells 107 = .ok (.aload_n 1, 1) := by decide +kernel
theorem dX4_passCells_108 : decode cX4_passCells 108 = .ok (.invokevirtual 80, 3) := by decide +kernel
theorem dX4_passCells_111 : decode cX4_passCells 111 = .ok (.invokevirtual 95, 3) := by decide +kernel
theorem dX4_passCells_114 : decode cX4_passCells 114 = .ok (.aload_n 0, 1) := by decide +kernel
theorem dX4_passCells_115 : decode cX4_passCells 115 = .ok (.getfield 12, 3) := by decide +kernel
theorem dX4_passCells_118 : decode cX4_passCells 118 = .ok (.iconst 1, 1) := by decide +kernel
theorem dX4_passCells_119 : decode cX4_passCells 119 = .ok (.aload_n 0, 1) := by decide +kernel
theorem dX4_passCells_120 : decode cX4_passCells 120 = .ok (.getfield 21, 3) := by decide +kernel
theorem dX4_passCells_123 : decode cX4_passCells 123 = .ok (.invokevirtual 95, 3) := by decide +kernel
theorem dX4_passCells_126 : decode cX4_passCells 126 = .ok (.aload_n 1, 1) := by decide +kernel
theorem dX4_passCells_127 : decode cX4_passCells 127 = .ok (.invokevirtual 48, 3) := by decide +kernel
theorem dX4_passCells_130 : decode cX4_passCells 130 = .ok (.iconst 1, 1) := by decide +kernel
theorem dX4_passCells_131 : decode cX4_passCells 131 = .ok (.ireturn, 1) := by decide +kernel
theorem dX4_passOfColour_0 : decode cX4_passOfColour 0 = .ok (.aload_n 1, 1) := by decide +kernel
theorem dX4_passOfColour_1 : decode cX4_passOfColour 1 = .ok (.invokevirtual 48, 3) := by decide +kernel
theorem dX4_passOfColour_4 : decode cX4_passOfColour 4 = .ok (.aload_n 1, 1) := by decide +kernel
theorem dX4_passOfColour_5 : decode cX4_passOfColour 5 = .ok (.iconst 1, 1) := by decide +kernel
theorem dX4_passOfColour_6 : decode cX4_passOfColour 6 = .ok (.iconst 1, 1) := by decide +kernel
theorem dX4_passOfColour_7 : decode cX4_passOfColour 7 = .ok (.iconst 1, 1) := by decide +kernel
theorem dX4_passOfColour_8 : decode cX4_passOfColour 8 = .ok (.iconst 3, 1) := by decide +kernel
theorem dX4_passOfColour_9 : decode cX4_passOfColour 9 = .ok (.invokevirtual 76, 3) := by decide +kernel
theorem dX4_passOfColour_12 : decode cX4_passOfColour 12 = .ok (.ifCond .ne 5, 3) := by decide +kernel
theorem dX4_passOfColour_15 : decode cX4_passOfColour 15 = .ok (.iconst 0, 1) := by decide +kernel
theorem dX4_passOfColour_16 : decode cX4_passOfColour 16 = .ok (.ireturn, 1) := by decide +kernel
theorem dX4_passOfColour_17 : decode cX4_passOfColour 17 = .ok (.aload_n 1, 1) := by decide +kernel
theorem dX4_passOfColour_18 : decode cX4_passOfColour 18 = .ok (.iconst 0, 1) := by decide +kernel
theorem dX4_passOfColour_19 : decode cX4_passOfColour 19 = .ok (.invokevirtual 87, 3) := by decide +kernel
theorem dX4_passOfColour_22 : decode cX4_passOfColour 22 = .ok (.istore 4, 2) := by decide +kernel
theorem dX4_passOfColour_24 : decode cX4_passOfColour 24 = .ok (.aload_n 1, 1) := by decide +kernel
theorem dX4_passOfColour_25 : decode cX4_passOfColour 25 = .ok (.invokevirtual 48, 3) := by decide +kernel
theorem dX4_passOfColour_28 : decode cX4_passOfColour 28 = .ok (.aload_n 0, 1) := by decide +kernel
theorem dX4_passOfColour_29 : decode cX4_passOfColour 29 = .ok (.aload_n 1, 1) := by decide +kernel
theorem dX4_passOfColour_30 : decode cX4_passOfColour 30 = .ok (.iload_n 2, 1) := by decide +kernel
theorem dX4_passOfColour_31 : decode cX4_passOfColour 31 = .ok (.iload 4, 2) := by decide +kernel
theorem dX4_passOfColour_33 : decode cX4_passOfColour 33 = .ok (.iadd, 1) := by decide +kernel
theorem dX4_passOfColour_34 : decode cX4_passOfColour 34 = .ok (.iconst 0, 1) := by decide +kernel
theorem dX4_passOfColour_35 : decode cX4_passOfColour 35 = .ok (.iload_n 3, 1) := by decide +kernel
theorem dX4_passOfColour_36 : decode cX4_passOfColour 36 = .ok (.invokevirtual 67, 3) := by decide +kernel
theorem dX4_passOfColour_39 : decode cX4_passOfColour 39 = .ok (.ireturn, 1) := by decide +kernel
theorem dX4_passValue_0 : decode cX4_passValue 0 = .ok (.aload_n 1, 1) := by decide +kernel
theorem dX4_passValue_1 : decode cX4_passValue 1 = .ok (.iconst 1, 1) := by decide +kernel
theorem dX4_passValue_2 : decode cX4_passValue 2 = .ok (.iconst 1, 1) := by decide +kernel
theorem dX4_passValue_3 : decode cX4_passValue 3 = .ok (.iload_n 3, 1) := by decide +kernel
theorem dX4_passValue_4 : decode cX4_passValue 4 = .ok (.iload 4, 2) := by decide +kernel
theorem dX4_passValue_6 : decode cX4_passValue 6 = .ok (.invokevirtual 76, 3) := by decide +kernel
theorem dX4_passValue_9 : decode cX4_passValue 9 = .ok (.ifCond .ne 5, 3) := by decide +kernel
theorem dX4_passValue_12 : decode cX4_passValue 12 = .ok (.iconst 0, 1) := by decide +kernel
theorem dX4_passValue_13 : decode cX4_passValue 13 = .ok (.ireturn, 1) := by decide +kernel
theorem dX4_passValue_14 : decode cX4_passValue 14 = .ok (.aload_n 0, 1) := by decide +kernel
theorem dX4_passValue_15 : decode cX4_passValue 15 = .ok (.getfield 12, 3) := by decide +kernel
theorem dX4_passValue_18 : decode cX4_passValue 18 = .ok (.iload_n 2, 1) := by decide +kernel
theorem dX4_passValue_19 : decode cX4_passValue 19 = .ok (.aload_n 1, 1) := by decide +kernel
theorem dX4_passValue_20 : decode cX4_passValue 20 = .ok (.iconst 0, 1) := by decide +kernel
theorem dX4_passValue_21 : decode cX4_passValue 21 = .ok (.invokevirtual 87, 3) := by decide +kernel
theorem dX4_passValue_24 : decode cX4_passValue 24 = .ok (.invokevirtual 95, 3) := by decide +kernel
theorem dX4_passValue_27 : decode cX4_passValue 27 = .ok (.aload_n 1, 1) := by decide +kernel
theorem dX4_passValue_28 : decode cX4_passValue 28 = .ok (.invokevirtual 48, 3) := by decide +kernel
theorem dX4_passValue_31 : decode cX4_passValue 31 = .ok (.iconst 1, 1) := by decide +kernel
theorem dX4_passValue_32 : decode cX4_passValue 32 = .ok (.ireturn, 1) := by decide +kernel
theorem dX4_passSemicolon_0 : decode cX4_passSemicolon 0 = .ok (.aload_n 1, 1) := by decide +kernel
theorem dX4_passSemicolon_1 : decode cX4_passSemicolon 1 = .ok (.invokevirtual 98, 3) := by decide +kernel
theorem dX4_passSemicolon_4 : decode cX4_passSemicolon 4 = .ok (.ifCond .ne 5, 3) := by decide +kernel
theorem dX4_passSemicolon_7 : decode cX4_passSemicolon 7 = .ok (.iconst 0, 1) := by decide +kernel
theorem dX4_passSemicolon_8 : decode cX4_passSemicolon 8 = .ok (.ireturn, 1) := by decide +kernel
theorem dX4_passSemicolon_9 : decode cX4_passSemicolon 9 = .ok (.aload_n 1, 1) := by decide +kernel
theorem dX4_passSemicolon_10 : decode cX4_passSemicolon 10 = .ok (.invokevirtual 48, 3) := by decide +kernel
theorem dX4_passSemicolon_13 : decode cX4_passSemicolon 13 = .ok (.iconst 1, 1) := by decide +kernel
theorem dX4_passSemicolon_14 : decode cX4_passSemicolon 14 = .ok (.ireturn, 1) := by decide +kernel
theorem dX5_init_0 : decode cX5_init 0 = .ok (.aload_n 0, 1) := by decide +kernel
theorem dX5_init_1 : decode cX5_init 1 = .ok (.invokespecial 3, 3) := by decide +kernel
theorem dX5_init_4 : decode cX5_init 4 = .ok (.aload_n 0, 1) := by decide +kernel
theorem dX5_init_5 : decode cX5_init 5 = .ok (.new 9, 3) := by decide +kernel
theorem dX5_init_8 : decode cX5_init 8 = .ok (.dup, 1) := by decide +kernel
theorem dX5_init_9 : decode cX5_init 9 = .ok (.invokespecial 11, 3) := by decide +kernel
theorem dX5_init_12 : decode cX5_init 12 = .ok (.putfield 12, 3) := by decide +kernel
theorem dX5_init_15 : decode cX5_init 15 = .ok (.aload_n 0, 1) := by decide +kernel
theorem dX5_init_16 : decode cX5_init 16 = .ok (.bipush 48, 2) := by decide +kernel
theorem dX5_init_18 : decode cX5_init 18 = .ok (.newarray .int, 2) := by decide +kernel
theorem dX5_init_20 : decode cX5_init 20 = .ok (.putfield 18, 3) := by decide +kernel
theorem dX5_init_23 : decode cX5_init 23 = .ok (.aload_n 0, 1) := by decide +kernel
theorem dX5_init_24 : decode cX5_init 24 = .ok (.bipush 48, 2) := by decide +kernel
theorem dX5_init_26 : decode cX5_init 26 = .ok (.newarray .int, 2) := by decide +kernel
theorem dX5_init_28 : decode cX5_init 28 = .ok (.putfield 22, 3) := by decide +kernel
theorem dX5_init_31 : decode cX5_init 31 = .ok (.aload_n 0, 1) := by decide +kernel
theorem dX5_init_32 : decode cX5_init 32 = .ok (.bipush 48, 2) := by decide +kernel
theorem dX5_init_34 : decode cX5_init 34 = .ok (.newarray .int, 2) := by decide +kernel
theorem dX5_init_36 : decode cX5_init 36 = .ok (.putfield 25, 3) := by decide +kernel
theorem dX5_init_39 : decode cX5_init 39 = .ok (.aload_n 0, 1) := by decide +kernel
theorem dX5_init_40 : decode cX5_init 40 = .ok (.bipush 48, 2) := by decide +kernel
theorem dX5_init_42 : decode cX5_init 42 = .ok (.newarray .int, 2) := by decide +kernel
theorem dX5_init_44 : decode cX5_init 44 = .ok (.putfield 28, 3) := by decide +kernel
theorem dX5_init_47 : decode cX5_init 47 = .ok (.aload_n 0, 1) := by decide +kernel
theorem dX5_init_48 : decode cX5_init 48 = .ok (.bipush 48, 2) := by decide +kernel
theorem dX5_init_50 : decode cX5_init 50 = .ok (.newarray .int, 2) := by decide +kernel
theorem dX5_init_52 : decode cX5_init 52 = .ok (.putfield 31, 3) := by decide +kernel
theorem dX5_init_55 : decode cX5_init 55 = .ok (.aload_n 0, 1) := by decide +kernel
theorem dX5_init_56 : decode cX5_init 56 = .ok (.bipush 48, 2) := by decide +kernel
theorem dX5_init_58 : decode cX5_init 58 = .ok (.newarray .int, 2) := by decide +kernel
theorem dX5_init_60 : decode cX5_init 60 = .ok (.putfield 34, 3) := by decide +kernel
theorem dX5_init_63 : decode cX5_init 63 = .ok (.aload_n 0, 1) := by decide +kernel
theorem dX5_init_64 : decode cX5_init 64 = .ok (.bipush 48, 2) := by decide +kernel
theorem dX5_init_66 : decode cX5_init 66 = .ok (.newarray .int, 2) := by decide +kernel
theorem dX5_init_68 : decode cX5_init 68 = .ok (.putfield 37, 3) := by decide +kernel
theorem dX5_init_71 : decode cX5_init 71 = .ok (.aload_n 0, 1) := by decide +kernel
theorem dX5_init_72 : decode cX5_init 72 = .ok (.bipush 48, 2) := by decide +kernel
theorem dX5_init_74 : decode cX5_init 74 = .ok (.newarray .int, 2) := by decide +kernel
theorem dX5_init_76 : decode cX5_init 76 = .ok (.putfield 40, 3) := by decide +kernel
theorem dX5_init_79 : decode cX5_init 79 = .ok (.aload_n 0, 1) := by decide +kernel
theorem dX5_init_80 : decode cX5_init 80 = .ok (.bipush 48, 2) := by decide +kernel
theorem dX5_init_82 : decode cX5_init 82 = .ok (.newarray .int, 2) := by decide +kernel
theorem dX5_init_84 : decode cX5_init 84 = .ok (.putfield 43, 3) := by decide +kernel
theorem dX5_init_87 : decode cX5_init 87 = .ok (.aload_n 0, 1) := by decide +kernel
theorem dX5_init_88 : decode cX5_init 88 = .ok (.bipush 48, 2) := by decide +kernel
theorem dX5_init_90 : decode cX5_init 90 = .ok (.newarray .boolean, 2) := by decide +kernel
theorem dX5_init_92 : decode cX5_init 92 = .ok (.putfield 46, 3) := by decide +kernel
theorem dX5_init_95 : decode cX5_init 95 = .ok (.return_, 1) := by decide +kernel
theorem dX5_lay_0 : decode cX5_lay 0 = .ok (.aload_n 0, 1) := by decide +kernel
theorem dX5_lay_1 : decode cX5_lay 1 = .ok (.iload 4, 2) := by decide +kernel
theorem dX5_lay_3 : decode cX5_lay 3 = .ok (.putfield 50, 3) := by decide +kernel
theorem dX5_lay_6 : decode cX5_lay 6 = .ok (.aload_n 0, 1) := by decide +kernel
theorem dX5_lay_7 : decode cX5_lay 7 = .ok (.aload_n 1, 1) := by decide +kernel
theorem dX5_lay_8 : decode cX5_lay 8 = .ok (.invokevirtual 54, 3) := by decide +kernel
theorem dX5_lay_11 : decode cX5_lay 11 = .ok (.putfield 60, 3) := by decide +kernel
theorem dX5_lay_14 : decode cX5_lay 14 = .ok (.aload_n 0, 1) := by decide +kernel
theorem dX5_lay_15 : decode cX5_lay 15 = .ok (.aload_n 1, 1) := by decide +kernel
theorem dX5_lay_16 : decode cX5_lay 16 = .ok (.aload_n 2, 1) := by decide +kernel
theorem dX5_lay_17 : decode cX5_lay 17 = .ok (.iload_n 3, 1) := by decide +kernel
theorem dX5_lay_18 : decode cX5_lay 18 = .ok (.invokevirtual 62, 3) := by decide +kernel
theorem dX5_lay_21 : decode cX5_lay 21 = .ok (.aload_n 0, 1) := by decide +kernel
theorem dX5_lay_22 : decode cX5_lay 22 = .ok (.invokevirtual 66, 3) := by decide +kernel
theorem dX5_lay_25 : decode cX5_lay 25 = .ok (.return_, 1) := by decide +kernel
theorem dX5_rowsLaid_0 : decode cX5_rowsLaid 0 = .ok (.aload_n 0, 1) := by decide +kernel
theorem dX5_rowsLaid_1 : decode cX5_rowsLaid 1 = .ok (.getfield 69, 3) := by decide +kernel
theorem dX5_rowsLaid_4 : decode cX5_rowsLaid 4 = .ok (.ireturn, 1) := by decide +kernel
theorem dX5_rowStart_0 : decode cX5_rowStart 0 = .ok (.aload_n 0, 1) := by decide +kernel
theorem dX5_rowStart_1 : decode cX5_rowStart 1 = .ok (.getfield 28, 3) := by decide +kernel
theorem dX5_rowStart_4 : decode cX5_rowStart 4 = .ok (.iload_n 1, 1) := by decide +kernel
theorem dX5_rowStart_5 : decode cX5_rowStart 5 = .ok (.invokestatic 72, 3) := by decide +kernel
theorem dX5_rowStart_8 : decode cX5_rowStart 8 = .ok (.ireturn, 1) := by decide +kernel
theorem dX5_rowLength_0 : decode cX5_rowLength 0 = .ok (.aload_n 0, 1) := by decide +kernel
theorem dX5_rowLength_1 : decode cX5_rowLength 1 = .ok (.getfield 25, 3) := by decide +kernel
theorem dX5_rowLength_4 : decode cX5_rowLength 4 = .ok (.iload_n 1, 1) := by decide +kernel
theorem dX5_rowLength_5 : decode cX5_rowLength 5 = .ok (.invokestatic 72, 3) := by decide +kernel
theorem dX5_rowLength_8 : decode cX5_rowLength 8 = .ok (.aload_n 0, 1) := by decide +kernel
theorem dX5_rowLength_9 : decode cX5_rowLength 9 = .ok (.getfield 22, 3) := by decide +kernel
theorem dX5_rowLength_12 : decode cX5_rowLength 12 = .ok (.iload_n 1, 1) := by decide +kernel
theorem dX5_rowLength_13 : decode cX5_rowLength 13 = .ok (.invokestatic 72, 3) := by decide +kernel
theorem dX5_rowLength_16 : decode cX5_rowLength 16 = .ok (.isub, 1) := by decide +kernel
theorem dX5_rowLength_17 : decode cX5_rowLength 17 = .ok (.iconst 1, 1) := by decide +kernel
theorem dX5_rowLength_18 : decode cX5_rowLength 18 = .ok (.iadd, 1) := by decide +kernel
theorem dX5_rowLength_19 : decode cX5_rowLength 19 = .ok (.ireturn, 1) := by decide +kernel
theorem dX5_rowStitches_0 : decode cX5_rowStitches 0 = .ok (.aload_n 0, 1) := by decide +kernel
theorem dX5_rowStitches_1 : decode cX5_rowStitches 1 = .ok (.getfield 60, 3) := by decide +kernel
theorem dX5_rowStitches_4 : decode cX5_rowStitches 4 = .ok (.iconst 1, 1) := by decide +kernel
theorem dX5_rowStitches_5 : decode cX5_rowStitches 5 = .ok (.if_icmp .ge 7, 3) := by decide +kernel
theorem dX5_rowStitches_8 : decode cX5_rowStitches 8 = .ok (.iconst 0, 1) := by decide +kernel
theorem dX5_rowStitches_9 : decode cX5_rowStitches 9 = .ok (.goto 20, 3) := by decide +kernel
theorem dX5_rowStitches_12 : decode cX5_rowStitches 12 = .ok (.aload_n 0, 1) := by decide +kernel
theorem dX5_rowStitches_13 : decode cX5_rowStitches 13 = .ok (.iload_n 1, 1) := by decide +kernel
theorem dX5_rowStitches_14 : decode cX5_rowStitches 14 = .ok (.invokevirtual 76, 3) := by decide +kernel
theorem dX5_rowStitches_17 : decode cX5_rowStitches 17 = .ok (.aload_n 0, 1) := by decide +kernel
theorem dX5_rowStitches_18 : decode cX5_rowStitches 18 = .ok (.getfield 60, 3) := by decide +kernel
theorem dX5_rowStitches_21 : decode cX5_rowStitches 21 = .ok (.iadd, 1) := by decide +kernel
theorem dX5_rowStitches_22 : decode cX5_rowStitches 22 = .ok (.iconst 1, 1) := by decide +kernel
theorem dX5_rowStitches_23 : decode cX5_rowStitches 23 = .ok (.isub, 1) := by decide +kernel
theorem dX5_rowStitches_24 : decode cX5_rowStitches 24 = .ok (.aload_n 0, 1) := by decide +kernel
theorem dX5_rowStitches_25 : decode cX5_rowStitches 25 = .ok (.getfield 60, 3) := by decide +kernel
theorem dX5_rowStitches_28 : decode cX5_rowStitches 28 = .ok (.idiv, 1) := by decide +kernel
theorem dX5_rowStitches_29 : decode cX5_rowStitches 29 = .ok (.ireturn, 1) := by decide +kernel
theorem dX5_rowPart_0 : decode cX5_rowPart 0 = .ok (.aload_n 0, 1) := by decide +kernel
theorem dX5_rowPart_1 : decode cX5_rowPart 1 = .ok (.getfield 34, 3) := by decide +kernel
theorem dX5_rowPart_4 : decode cX5_rowPart 4 = .ok (.iload_n 1, 1) := by decide +kernel
theorem dX5_rowPart_5 : decode cX5_rowPart 5 = .ok (.invokestatic 72, 3) := by decide +kernel
theorem dX5_rowPart_8 : decode cX5_rowPart 8 = .ok (.ireturn, 1) := by decide +kernel
theorem dX5_partsLaid_0 : decode cX5_partsLaid 0 = .ok (.aload_n 0, 1) := by decide +kernel
theorem dX5_partsLaid_1 : decode cX5_partsLaid 1 = .ok (.getfield 80, 3) := by decide +kernel
theorem dX5_partsLaid_4 : decode cX5_partsLaid 4 = .ok (.ireturn, 1) := by decide +kernel
theorem dX5_partRows_0 : decode cX5_partRows 0 = .ok (.aload_n 0, 1) := by decide +kernel
theorem dX5_partRows_1 : decode cX5_partRows 1 = .ok (.getfield 43, 3) := by decide +kernel
theorem dX5_partRows_4 : decode cX5_partRows 4 = .ok (.iload_n 1, 1) := by decide +kernel
theorem dX5_partRows_5 : decode cX5_partRows 5 = .ok (.invokestatic 72, 3) := by decide +kernel
theorem dX5_partRows_8 : decode cX5_partRows 8 = .ok (.ireturn, 1) := by decide +kernel
theorem dX5_partStart_0 : decode cX5_partStart 0 = .ok (.aload_n 0, 1) := by decide +kernel
theorem dX5_partStart_1 : decode cX5_partStart 1 = .ok (.getfield 28, 3) := by decide +kernel
theorem dX5_partStart_4 : decode cX5_partStart 4 = .ok (.aload_n 0, 1) := by decide +kernel
theorem dX5_partStart_5 : decode cX5_partStart 5 = .ok (.getfield 37, 3) := by decide +kernel
theorem dX5_partStart_8 : decode cX5_partStart 8 = .ok (.iload_n 1, 1) := by decide +kernel
theorem dX5_partStart_9 : decode cX5_partStart 9 = .ok (.invokestatic 72, 3) := by decide +kernel
theorem dX5_partStart_12 : decode cX5_partStart 12 = .ok (.invokestatic 72, 3) := by decide +kernel
theorem dX5_partStart_15 : decode cX5_partStart 15 = .ok (.ireturn, 1) := by decide +kernel
theorem dX5_partEnd_0 : decode cX5_partEnd 0 = .ok (.aload_n 0, 1) := by decide +kernel
theorem dX5_partEnd_1 : decode cX5_partEnd 1 = .ok (.getfield 43, 3) := by decide +kernel
theorem dX5_partEnd_4 : decode cX5_partEnd 4 = .ok (.iload_n 1, 1) := by decide +kernel
theorem dX5_partEnd_5 : decode cX5_partEnd 5 = .ok (.invokestatic 72, 3) := by decide +kernel
theorem dX5_partEnd_8 : decode cX5_partEnd 8 = .ok (.iconst 2, 1) := by decide +kernel
theorem dX5_partEnd_9 : decode cX5_partEnd 9 = .ok (.irem, 1) := by decide +kernel
theorem dX5_partEnd_10 : decode cX5_partEnd 10 = .ok (.iconst 1, 1) := by decide +kernel
theorem dX5_partEnd_11 : decode cX5_partEnd 11 = .ok (.if_icmp .ne 7, 3) := by decide +kernel
theorem dX5_partEnd_14 : decode cX5_partEnd 14 = .ok (.iconst 1, 1) := by decide +kernel
theorem dX5_partEnd_15 : decode cX5_partEnd 15 = .ok (.goto 4, 3) := by decide +kernel
theorem dX5_partEnd_18 : decode cX5_partEnd 18 = .ok (.iconst 0, 1) := by decide +kernel
theorem dX5_partEnd_19 : decode cX5_partEnd 19 = .ok (.istore_n 2, 1) := by decide +kernel
theorem dX5_partEnd_20 : decode cX5_partEnd 20 = .ok (.iload_n 2, 1) := by decide +kernel
theorem dX5_partEnd_21 : decode cX5_partEnd 21 = .ok (.ifCond .eq 10, 3) := by decide +kernel
theorem dX5_partEnd_24 : decode cX5_partEnd 24 = .ok (.aload_n 0, 1) := by decide +kernel
theorem dX5_partEnd_25 : decode cX5_partEnd 25 = .ok (.getfield 31, 3) := by decide +kernel
theorem dX5_partEnd_28 : decode cX5_partEnd 28 = .ok (.goto 7, 3) := by decide +kernel
theorem dX5_partEnd_31 : decode cX5_partEnd 31 = .ok (.aload_n 0, 1) := by decide +kernel
theorem dX5_partEnd_32 : decode cX5_partEnd 32 = .ok (.getfield 28, 3) := by decide +kernel
theorem dX5_partEnd_35 : decode cX5_partEnd 35 = .ok (.aload_n 0, 1) := by decide +kernel
theorem dX5_partEnd_36 : decode cX5_partEnd 36 = .ok (.getfield 40, 3) := by decide +kernel
theorem dX5_partEnd_39 : decode cX5_partEnd 39 = .ok (.iload_n 1, 1) := by decide +kernel
theorem dX5_partEnd_40 : decode cX5_partEnd 40 = .ok (.invokestatic 72, 3) := by decide +kernel
theorem dX5_partEnd_43 : decode cX5_partEnd 43 = .ok (.invokestatic 72, 3) := by decide +kernel
theorem dX5_partEnd_46 : decode cX5_partEnd 46 = .ok (.ireturn, 1) := by decide +kernel
theorem dX5_hiddenWay_0 : decode cX5_hiddenWay 0 = .ok (.iload_n 2, 1) := by decide +kernel
theorem dX5_hiddenWay_1 : decode cX5_hiddenWay 1 = .ok (.ifCond .lt 13, 3) := by decide +kernel
theorem dX5_hiddenWay_4 : decode cX5_hiddenWay 4 = .ok (.iload_n 2, 1) := by decide +kernel
theorem dX5_hiddenWay_5 : decode cX5_hiddenWay 5 = .ok (.aload_n 0, 1) := by decide +kernel
theorem dX5_hiddenWay_6 : decode cX5_hiddenWay 6 = .ok (.getfield 80, 3) := by decide +kernel
theorem dX5_hiddenWay_9 : decode cX5_hiddenWay 9 = .ok (.iconst 1, 1) := by decide +kernel
theorem dX5_hiddenWay_10 : decode cX5_hiddenWay 10 = .ok (.isub, 1) := by decide +kernel
theorem dX5_hiddenWay_11 : decode cX5_hiddenWay 11 = .ok (.if_icmp .lt 6, 3) := by decide +kernel
theorem dX5_hiddenWay_14 : decode cX5_hiddenWay 14 = .ok (.bipush (-9), 2) := by decide +kernel
theorem dX5_hiddenWay_16 : decode cX5_hiddenWay 16 = .ok (.ireturn, 1) := by decide +kernel
theorem dX5_hiddenWay_17 : decode cX5_hiddenWay 17 = .ok (.aload_n 0, 1) := by decide +kernel
theorem dX5_hiddenWay_18 : decode cX5_hiddenWay 18 = .ok (.getfield 12, 3) := by decide +kernel
theorem dX5_hiddenWay_21 : decode cX5_hiddenWay 21 = .ok (.aload_n 1, 1) := by decide +kernel
theorem dX5_hiddenWay_22 : decode cX5_hiddenWay 22 = .ok (.aload_n 0, 1) := by decide +kernel
theorem dX5_hiddenWay_23 : decode cX5_hiddenWay 23 = .ok (.iload_n 2, 1) := by decide +kernel
theorem dX5_hiddenWay_24 : decode cX5_hiddenWay 24 = .ok (.invokevirtual 83, 3) := by decide +kernel
theorem dX5_hiddenWay_27 : decode cX5_hiddenWay 27 = .ok (.invokevirtual 86, 3) := by decide +kernel
theorem dX5_hiddenWay_30 : decode cX5_hiddenWay 30 = .ok (.aload_n 0, 1) := by decide +kernel
theorem dX5_hiddenWay_31 : decode cX5_hiddenWay 31 = .ok (.getfield 12, 3) := by decide +kernel
theorem dX5_hiddenWay_34 : decode cX5_hiddenWay 34 = .ok (.aload_n 0, 1) := by decide +kernel
theorem dX5_hiddenWay_35 : decode cX5_hiddenWay 35 = .ok (.iload_n 2, 1) := by decide +kernel
theorem dX5_hiddenWay_36 : decode cX5_hiddenWay 36 = .ok (.iconst 1, 1) := by decide +kernel
theorem dX5_hiddenWay_37 : decode cX5_hiddenWay 37 = .ok (.iadd, 1) := by decide +kernel
theorem dX5_hiddenWay_38 : decode cX5_hiddenWay 38 = .ok (.invokevirtual 90, 3) := by decide +kernel
theorem dX5_hiddenWay_41 : decode cX5_hiddenWay 41 = .ok (.invokevirtual 93, 3) := by decide +kernel
theorem dX5_hiddenWay_44 : decode cX5_hiddenWay 44 = .ok (.ireturn, 1) := by decide +kernel
theorem dX5_figure_0 : decode cX5_figure 0 = .ok (.iload_n 2, 1) := by decide +kernel
theorem dX5_figure_1 : decode cX5_figure 1 = .ok (.tableswitch 42 0 2 #[27, 32, 37], 27) := by decide +kernel
theorem dX5_figure_28 : decode cX5_figure 28 = .ok (.aload_n 0, 1) := by decide +kernel
theorem dX5_figure_29 : decode cX5_figure 29 = .ok (.getfield 69, 3) := by decide +kernel
theorem dX5_figure_32 : decode cX5_figure 32 = .ok (.ireturn, 1) := by decide +kernel
theorem dX5_figure_33 : decode cX5_figure 33 = .ok (.aload_n 0, 1) := by decide +kernel
theorem dX5_figure_34 : decode cX5_figure 34 = .ok (.getfield 80, 3) := by decide +kernel
theorem dX5_figure_37 : decode cX5_figure 37 = .ok (.ireturn, 1) := by decide +kernel
theorem dX5_figure_38 : decode cX5_figure 38 = .ok (.aload_n 0, 1) := by decide +kernel
theorem dX5_figure_39 : decode cX5_figure 39 = .ok (.invokevirtual 96, 3) := by decide +kernel
theorem dX5_figure_42 : decode cX5_figure 42 = .ok (.ireturn, 1) := by decide +kernel
theorem dX5_figure_43 : decode cX5_figure 43 = .ok (.aload_n 0, 1) := by decide +kernel
theorem dX5_figure_44 : decode cX5_figure 44 = .ok (.aload_n 1, 1) := by decide +kernel
theorem dX5_figure_45 : decode cX5_figure 45 = .ok (.invokevirtual 99, 3) := by decide +kernel
theorem dX5_figure_48 : decode cX5_figure 48 = .ok (.ireturn, 1) := by decide +kernel
theorem dX5_stitches_0 : decode cX5_stitches 0 = .ok (.iconst 0, 1) := by decide +kernel
theorem dX5_stitches_1 : decode cX5_stitches 1 = .ok (.istore_n 1, 1) := by decide +kernel
theorem dX5_stitches_2 : decode cX5_stitches 2 = .ok (.iconst 0, 1) := by decide +kernel
theorem dX5_stitches_3 : decode cX5_stitches 3 = .ok (.istore_n 2, 1) := by decide +kernel
theorem dX5_stitches_4 : decode cX5_stitches 4 = .ok (.iload_n 2, 1) := by decide +kernel
theorem dX5_stitches_5 : decode cX5_stitches 5 = .ok (.aload_n 0, 1) := by decide +kernel
theorem dX5_stitches_6 : decode cX5_stitches 6 = .ok (.getfield 69, 3) := by decide +kernel
theorem dX5_stitches_9 : decode cX5_stitches 9 = .ok (.if_icmp .ge 17, 3) := by decide +kernel
theorem dX5_stitches_12 : decode cX5_stitches 12 = .ok (.iload_n 1, 1) := by decide +kernel
theorem dX5_stitches_13 : decode cX5_stitches 13 = .ok (.aload_n 0, 1) := by decide +kernel
theorem dX5_stitches_14 : decode cX5_stitches 14 = .ok (.iload_n 2, 1) := by decide +kernel
theorem dX5_stitches_15 : decode cX5_stitches 15 = .ok (.invokevirtual 103, 3) := by decide +kernel
theorem dX5_stitches_18 : decode cX5_stitches 18 = .ok (.iadd, 1) := by decide +kernel
theorem dX5_stitches_19 : decode cX5_stitches 19 = .ok (.istore_n 1, 1) := by decide +kernel
theorem dX5_stitches_20 : decode cX5_stitches 20 = .ok (.iinc 2 1, 3) := by decide +kernel
theorem dX5_stitches_23 : decode cX5_stitches 23 = .ok (.goto (-19), 3) := by decide +kernel
theorem dX5_stitches_26 : decode cX5_stitches 26 = .ok (.iload_n 1, 1) := by decide +kernel
theorem dX5_stitches_27 : decode cX5_stitches 27 = .ok (.ireturn, 1) := by decide +kernel
theorem dX5_travel_0 : decode cX5_travel 0 = .ok (.iconst 0, 1) := by decide +kernel
theorem dX5_travel_1 : decode cX5_travel 1 = .ok (.istore_n 2, 1) := by decide +kernel
theorem dX5_travel_2 : decode cX5_travel 2 = .ok (.iconst 0, 1) := by decide +kernel
theorem dX5_travel_3 : decode cX5_travel 3 = .ok (.istore_n 3, 1) := by decide +kernel
theorem dX5_travel_4 : decode cX5_travel 4 = .ok (.iload_n 3, 1) := by decide +kernel
theorem dX5_travel_5 : decode cX5_travel 5 = .ok (.aload_n 0, 1) := by decide +kernel
theorem dX5_travel_6 : decode cX5_travel 6 = .ok (.getfield 80, 3) := by decide +kernel
theorem dX5_travel_9 : decode cX5_travel 9 = .ok (.iconst 1, 1) := by decide +kernel
theorem dX5_travel_10 : decode cX5_travel 10 = .ok (.isub, 1) := by decide +kernel
theorem dX5_travel_11 : decode cX5_travel 11 = .ok (.if_icmp .ge 18, 3) := by decide +kernel
theorem dX5_travel_14 : decode cX5_travel 14 = .ok (.iload_n 2, 1) := by decide +kernel
theorem dX5_travel_15 : decode cX5_travel 15 = .ok (.aload_n 0, 1) := by decide +kernel
theorem dX5_travel_16 : decode cX5_travel 16 = .ok (.aload_n 1, 1) := by decide +kernel
theorem dX5_travel_17 : decode cX5_travel 17 = .ok (.iload_n 3, 1) := by decide +kernel
theorem dX5_travel_18 : decode cX5_travel 18 = .ok (.invokevirtual 106, 3) := by decide +kernel
theorem dX5_travel_21 : decode cX5_travel 21 = .ok (.iadd, 1) := by decide +kernel
theorem dX5_travel_22 : decode cX5_travel 22 = .ok (.istore_n 2, 1) := by decide +kernel
theorem dX5_travel_23 : decode cX5_travel 23 = .ok (.iinc 3 1, 3) := by decide +kernel
theorem dX5_travel_26 : decode cX5_travel 26 = .ok (.goto (-22), 3) := by decide +kernel
theorem dX5_travel_29 : decode cX5_travel 29 = .ok (.iload_n 2, 1) := by decide +kernel
theorem dX5_travel_30 : decode cX5_travel 30 = .ok (.ireturn, 1) := by decide +kernel
theorem dX5_cover_0 : decode cX5_cover 0 = .ok (.aload_n 0, 1) := by decide +kernel
theorem dX5_cover_1 : decode cX5_cover 1 = .ok (.getfield 46, 3) := by decide +kernel
theorem dX5_cover_4 : decode cX5_cover 4 = .ok (.invokestatic 110, 3) := by decide +kernel
theorem dX5_cover_7 : decode cX5_cover 7 = .ok (.iconst 0, 1) := by decide +kernel
theorem dX5_cover_8 : decode cX5_cover 8 = .ok (.istore_n 2, 1) := by decide +kernel
theorem dX5_cover_9 : decode cX5_cover 9 = .ok (.iload_n 2, 1) := by decide +kernel
theorem dX5_cover_10 : decode cX5_cover 10 = .ok (.aload_n 0, 1) := by decide +kernel
theorem dX5_cover_11 : decode cX5_cover 11 = .ok (.getfield 69, 3) := by decide +kernel
theorem dX5_cover_14 : decode cX5_cover 14 = .ok (.if_icmp .ge 103, 3) := by decide +kernel
theorem dX5_cover_17 : decode cX5_cover 17 = .ok (.aload_n 0, 1) := by decide +kernel
theorem dX5_cover_18 : decode cX5_cover 18 = .ok (.getfield 22, 3) := by decide +kernel
theorem dX5_cover_21 : decode cX5_cover 21 = .ok (.iload_n 2, 1) := by decide +kernel
theorem dX5_cover_22 : decode cX5_cover 22 = .ok (.invokestatic 72, 3) := by decide +kernel
theorem dX5_cover_25 : decode cX5_cover 25 = .ok (.aload_n 1, 1) := by decide +kernel
theorem dX5_cover_26 : decode cX5_cover 26 = .ok (.invokevirtual 114, 3) := by decide +kernel
theorem dX5_cover_29 : decode cX5_cover 29 = .ok (.isub, 1) := by decide +kernel
theorem dX5_cover_30 : decode cX5_cover 30 = .ok (.iconst 0, 1) := by decide +kernel
theorem dX5_cover_31 : decode cX5_cover 31 = .ok (.invokestatic 117, 3) := by decide +kernel
theorem dX5_cover_34 : decode cX5_cover 34 = .ok (.istore_n 3, 1) := by decide +kernel
theorem dX5_cover_35 : decode cX5_cover 35 = .ok (.aload_n 0, 1) := by decide +kernel
theorem dX5_cover_36 : decode cX5_cover 36 = .ok (.getfield 25, 3) := by decide +kernel
theorem dX5_cover_39 : decode cX5_cover 39 = .ok (.iload_n 2, 1) := by decide +kernel
theorem dX5_cover_40 : decode cX5_cover 40 = .ok (.invokestatic 72, 3) := by decide +kernel
theorem dX5_cover_43 : decode cX5_cover 43 = .ok (.aload_n 1, 1) := by decide +kernel
theorem dX5_cover_44 : decode cX5_cover 44 = .ok (.invokevirtual 114, 3) := by decide +kernel
theorem dX5_cover_47 : decode cX5_cover 47 = .ok (.iadd, 1) := by decide +kernel
theorem dX5_cover_48 : decode cX5_cover 48 = .ok (.aload_n 0, 1) := by decide +kernel
theorem dX5_cover_49 : decode cX5_cover 49 = .ok (.aload_n 1, 1) := by decide +kernel
theorem dX5_cover_50 : decode cX5_cover 50 = .ok (.invokevirtual 123, 3) := by decide +kernel
theorem dX5_cover_53 : decode cX5_cover 53 = .ok (.iconst 1, 1) := by decide +kernel
theorem dX5_cover_54 : decode cX5_cover 54 = .ok (.isub, 1) := by decide +kernel
theorem dX5_cover_55 : decode cX5_cover 55 = .ok (.invokestatic 126, 3) := by decide +kernel
theorem dX5_cover_58 : decode cX5_cover 58 = .ok (.istore 4, 2) := by decide +kernel
theorem dX5_cover_60 : decode cX5_cover 60 = .ok (.iload_n 3, 1) := by decide +kernel
theorem dX5_cover_61 : decode cX5_cover 61 = .ok (.istore 5, 2) := by decide +kernel
theorem dX5_cover_63 : decode cX5_cover 63 = .ok (.iload 5, 2) := by decide +kernel
theorem dX5_cover_65 : decode cX5_cover 65 = .ok (.iload 4, 2) := by decide +kernel
theorem dX5_cover_67 : decode cX5_cover 67 = .ok (.if_icmp .gt 44, 3) := by decide +kernel
theorem dX5_cover_70 : decode cX5_cover 70 = .ok (.aload_n 0, 1) := by decide +kernel
theorem dX5_cover_71 : decode cX5_cover 71 = .ok (.aload_n 0, 1) := by decide +kernel
theorem dX5_cover_72 : decode cX5_cover 72 = .ok (.getfield 18, 3) := by decide +kernel
theorem dX5_cover_75 : decode cX5_cover 75 = .ok (.iload_n 2, 1) := by decide +kernel
theorem dX5_cover_76 : decode cX5_cover 76 = .ok (.invokestatic 72, 3) := by decide +kernel
theorem dX5_cover_79 : decode cX5_cover 79 = .ok (.iload 5, 2) := by decide +kernel
theorem dX5_cover_81 : decode cX5_cover 81 = .ok (.invokevirtual 129, 3) := by decide +kernel
theorem dX5_cover_84 : decode cX5_cover 84 = .ok (.istore 6, 2) := by decide +kernel
theorem dX5_cover_86 : decode cX5_cover 86 = .ok (.iload 6, 2) := by decide +kernel
theorem dX5_cover_88 : decode cX5_cover 88 = .ok (.iconst 0, 1) := by decide +kernel
theorem dX5_cover_89 : decode cX5_cover 89 = .ok (.bipush 47, 2) := by decide +kernel
theorem dX5_cover_91 : decode cX5_cover 91 = .ok (.invokestatic 132, 3) := by decide +kernel
theorem dX5_cover_94 : decode cX5_cover 94 = .ok (.ifCond .eq 11, 3) := by decide +kernel
theorem dX5_cover_97 : decode cX5_cover 97 = .ok (.aload_n 0, 1) := by decide +kernel
theorem dX5_cover_98 : decode cX5_cover 98 = .ok (.getfield 46, 3) := by decide +kernel
theorem dX5_cover_101 : decode cX5_cover 101 = .ok (.iload 6, 2) := by decide +kernel
theorem dX5_cover_103 : decode cX5_cover 103 = .ok (.iconst 1, 1) := by decide +kernel
theorem dX5_cover_104 : decode cX5_cover 104 = .ok (.bastore, 1) := by decide +kernel
theorem dX5_cover_105 : decode cX5_cover 105 = .ok (.iinc 5 1, 3) := by decide +kernel
theorem dX5_cover_108 : decode cX5_cover 108 = .ok (.goto (-45), 3) := by decide +kernel
theorem dX5_cover_111 : decode cX5_cover 111 = .ok (.iinc 2 1, 3) := by decide +kernel
theorem dX5_cover_114 : decode cX5_cover 114 = .ok (.goto (-105), 3) := by decide +kernel
theorem dX5_cover_117 : decode cX5_cover 117 = .ok (.return_, 1) := by decide +kernel
theorem dX5_coveredCells_0 : decode cX5_coveredCells 0 = .ok (.aload_n 0, 1) := by decide +kernel
theorem dX5_coveredCells_1 : decode cX5_coveredCells 1 = .ok (.getfield 46, 3) := by decide +kernel
theorem dX5_coveredCells_4 : decode cX5_coveredCells 4 = .ok (.invokestatic 136, 3) := by decide +kernel
theorem dX5_coveredCells_7 : decode cX5_coveredCells 7 = .ok (.ireturn, 1) := by decide +kernel
theorem dX5_coveredOf_0 : decode cX5_coveredOf 0 = .ok (.iconst 0, 1) := by decide +kernel
theorem dX5_coveredOf_1 : decode cX5_coveredOf 1 = .ok (.istore_n 3, 1) := by decide +kernel
theorem dX5_coveredOf_2 : decode cX5_coveredOf 2 = .ok (.iconst 0, 1) := by decide +kernel
theorem dX5_coveredOf_3 : decode cX5_coveredOf 3 = .ok (.istore 4, 2) := by decide +kernel
theorem dX5_coveredOf_5 : decode cX5_coveredOf 5 = .ok (.iload 4, 2) := by decide +kernel
theorem dX5_coveredOf_7 : decode cX5_coveredOf 7 = .ok (.bipush 48, 2) := by decide +kernel
theorem dX5_coveredOf_9 : decode cX5_coveredOf 9 = .ok (.if_icmp .ge 37, 3) := by decide +kernel
theorem dX5_coveredOf_12 : decode cX5_coveredOf 12 = .ok (.iload_n 3, 1) := by decide +kernel
theorem dX5_coveredOf_13 : decode cX5_coveredOf 13 = .ok (.aload_n 0, 1) := by decide +kernel
theorem dX5_coveredOf_14 : decode cX5_coveredOf 14 = .ok (.getfield 46, 3) := by decide +kernel
theorem dX5_coveredOf_17 : decode cX5_coveredOf 17 = .ok (.iload 4, 2) := by decide +kernel
theorem dX5_coveredOf_19 : decode cX5_coveredOf 19 = .ok (.baload, 1) := by decide +kernel
theorem dX5_coveredOf_20 : decode cX5_coveredOf 20 = .ok (.ifCond .eq 17, 3) := by decide +kernel
theorem dX5_coveredOf_23 : decode cX5_coveredOf 23 = .ok (.aload_n 1, 1) := by decide +kernel
theorem dX5_coveredOf_24 : decode cX5_coveredOf 24 = .ok (.iload 4, 2) := by decide +kernel
theorem dX5_coveredOf_26 : decode cX5_coveredOf 26 = .ok (.invokevirtual 140, 3) := by decide +kernel
theorem dX5_coveredOf_29 : decode cX5_coveredOf 29 = .ok (.iload_n 2, 1) := by decide +kernel
theorem dX5_coveredOf_30 : decode cX5_coveredOf 30 = .ok (.if_icmp .ne 7, 3) := by decide +kernel
theorem dX5_coveredOf_33 : decode cX5_coveredOf 33 = .ok (.iconst 1, 1) := by decide +kernel
theorem dX5_coveredOf_34 : decode cX5_coveredOf 34 = .ok (.goto 4, 3) := by decide +kernel
theorem dX5_coveredOf_37 : decode cX5_coveredOf 37 = .ok (.iconst 0, 1) := by decide +kernel
theorem dX5_coveredOf_38 : decode cX5_coveredOf 38 = .ok (.iadd, 1) := by decide +kernel
theorem dX5_coveredOf_39 : decode cX5_coveredOf 39 = .ok (.istore_n 3, 1) := by decide +kernel
theorem dX5_coveredOf_40 : decode cX5_coveredOf 40 = .ok (.iinc 4 1, 3) := by decide +kernel
theorem dX5_coveredOf_43 : decode cX5_coveredOf 43 = .ok (.goto (-38), 3) := by decide +kernel
theorem dX5_coveredOf_46 : decode cX5_coveredOf 46 = .ok (.iload_n 3, 1) := by decide +kernel
theorem dX5_coveredOf_47 : decode cX5_coveredOf 47 = .ok (.ireturn, 1) := by decide +kernel
theorem dX5_placeIn_0 : decode cX5_placeIn 0 = .ok (.aload_n 0, 1) := by decide +kernel
theorem dX5_placeIn_1 : decode cX5_placeIn 1 = .ok (.getfield 50, 3) := by decide +kernel
theorem dX5_placeIn_4 : decode cX5_placeIn 4 = .ok (.ifCond .ne 11, 3) := by decide +kernel
theorem dX5_placeIn_7 : decode cX5_placeIn 7 = .ok (.iload_n 2, 1) := by decide +kernel
theorem dX5_placeIn_8 : decode cX5_placeIn 8 = .ok (.iload_n 1, 1) := by decide +kernel
theorem dX5_placeIn_9 : decode cX5_placeIn 9 = .ok (.invokestatic 143, 3) := by decide +kernel
theorem dX5_placeIn_12 : decode cX5_placeIn 12 = .ok (.goto 8, 3) := by decide +kernel
theorem dX5_placeIn_15 : decode cX5_placeIn 15 = .ok (.iload_n 1, 1) := by decide +kernel
theorem dX5_placeIn_16 : decode cX5_placeIn 16 = .ok (.iload_n 2, 1) := by decide +kernel
theorem dX5_placeIn_17 : decode cX5_placeIn 17 = .ok (.invokestatic 143, 3) := by decide +kernel
theorem dX5_placeIn_20 : decode cX5_placeIn 20 = .ok (.ireturn, 1) := by decide +kernel
theorem dX5_lineLength_0 : decode cX5_lineLength 0 = .ok (.aload_n 0, 1) := by decide +kernel
theorem dX5_lineLength_1 : decode cX5_lineLength 1 = .ok (.getfield 50, 3) := by decide +kernel
theorem dX5_lineLength_4 : decode cX5_lineLength 4 = .ok (.ifCond .ne 10, 3) := by decide +kernel
theorem dX5_lineLength_7 : decode cX5_lineLength 7 = .ok (.aload_n 1, 1) := by decide +kernel
theorem dX5_lineLength_8 : decode cX5_lineLength 8 = .ok (.invokevirtual 146, 3) := by decide +kernel
theorem dX5_lineLength_11 : decode cX5_lineLength 11 = .ok (.goto 7, 3) := by decide +kernel
theorem dX5_lineLength_14 : decode cX5_lineLength 14 = .ok (.aload_n 1, 1) := by decide +kernel
theorem dX5_lineLength_15 : decode cX5_lineLength 15 = .ok (.invokevirtual 149, 3) := by decide +kernel
theorem dX5_lineLength_18 : decode cX5_lineLength 18 = .ok (.ireturn, 1) := by decide +kernel
theorem dX5_findRows_0 : decode cX5_findRows 0 = .ok (.aload_n 0, 1) := by decide +kernel
theorem dX5_findRows_1 : decode cX5_findRows 1 = .ok (.getfield 50, 3) := by decide +kernel
theorem dX5_findRows_4 : decode cX5_findRows 4 = .ok (.ifCond .ne 10, 3) := by decide +kernel
theorem dX5_findRows_7 : decode cX5_findRows 7 = .ok (.aload_n 1, 1) := by decide +kernel
theorem dX5_findRows_8 : decode cX5_findRows 8 = .ok (.invokevirtual 149, 3) := by decide +kernel
theorem dX5_findRows_11 : decode cX5_findRows 11 = .ok (.goto 7, 3) := by decide +kernel
theorem dX5_findRows_14 : decode cX5_findRows 14 = .ok (.aload_n 1, 1) := by decide +kernel
theorem dX5_findRows_15 : decode cX5_findRows 15 = .ok (.invokevirtual 146, 3) := by decide +kernel
theorem dX5_findRows_18 : decode cX5_findRows 18 = .ok (.istore 4, 2) := by decide +kernel
theorem dX5_findRows_20 : decode cX5_findRows 20 = .ok (.aload_n 0, 1) := by decide +kernel
theorem dX5_findRows_21 : decode cX5_findRows 21 = .ok (.iconst 0, 1) := by decide +kernel
theorem dX5_findRows_22 : decode cX5_findRows 22 = .ok (.putfield 69, 3) := by decide +kernel
theorem dX5_findRows_25 : decode cX5_findRows 25 = .ok (.iconst 0, 1) := by decide +kernel
theorem dX5_findRows_26 : decode cX5_findRows 26 = .ok (.istore 5, 2) := by decide +kernel
theorem dX5_findRows_28 : decode cX5_findRows 28 = .ok (.iload 5, 2) := by decide +kernel
theorem dX5_findRows_30 : decode cX5_findRows 30 = .ok (.iload 4, 2) := by decide +kernel
theorem dX5_findRows_32 : decode cX5_findRows 32 = .ok (.if_icmp .ge 117, 3) := by decide +kernel
theorem dX5_findRows_35 : decode cX5_findRows 35 = .ok (.iconst 0, 1) := by decide +kernel
theorem dX5_findRows_36 : decode cX5_findRows 36 = .ok (.istore 6, 2) := by decide +kernel
theorem dX5_findRows_38 : decode cX5_findRows 38 = .ok (.iconst 0, 1) := by decide +kernel
theorem dX5_findRows_39 : decode cX5_findRows 39 = .ok (.istore 7, 2) := by decide +kernel
theorem dX5_findRows_41 : decode cX5_findRows 41 = .ok (.iload 7, 2) := by decide +kernel
theorem dX5_findRows_43 : decode cX5_findRows 43 = .ok (.aload_n 0, 1) := by decide +kernel
theorem dX5_findRows_44 : decode cX5_findRows 44 = .ok (.aload_n 1, 1) := by decide +kernel
theorem dX5_findRows_45 : decode cX5_findRows 45 = .ok (.invokevirtual 123, 3) := by decide +kernel
theorem dX5_findRows_48 : decode cX5_findRows 48 = .ok (.if_icmp .ge 95, 3) := by decide +kernel
theorem dX5_findRows_51 : decode cX5_findRows 51 = .ok (.aload_n 0, 1) := by decide +kernel
theorem dX5_findRows_52 : decode cX5_findRows 52 = .ok (.iload 5, 2) := by decide +kernel
theorem dX5_findRows_54 : decode cX5_findRows 54 = .ok (.iload 7, 2) := by decide +kernel
theorem dX5_findRows_56 : decode cX5_findRows 56 = .ok (.invokevirtual 129, 3) := by decide +kernel
theorem dX5_findRows_59 : decode cX5_findRows 59 = .ok (.istore 8, 2) := by decide +kernel
theorem dX5_findRows_61 : decode cX5_findRows 61 = .ok (.aload_n 2, 1) := by decide +kernel
theorem dX5_findRows_62 : decode cX5_findRows 62 = .ok (.iload 8, 2) := by decide +kernel
theorem dX5_findRows_64 : decode cX5_findRows 64 = .ok (.invokevirtual 152, 3) := by decide +kernel
theorem dX5_findRows_67 : decode cX5_findRows 67 = .ok (.iload_n 3, 1) := by decide +kernel
theorem dX5_findRows_68 : decode cX5_findRows 68 = .ok (.if_icmp .ne 7, 3) := by decide +kernel
theorem dX5_findRows_71 : decode cX5_findRows 71 = .ok (.iconst 1, 1) := by decide +kernel
theorem dX5_findRows_72 : decode cX5_findRows 72 = .ok (.goto 4, 3) := by decide +kernel
theorem dX5_findRows_75 : decode cX5_findRows 75 = .ok (.iconst 0, 1) := by decide +kernel
theorem dX5_findRows_76 : decode cX5_findRows 76 = .ok (.istore 9, 2) := by decide +kernel
theorem dX5_findRows_78 : decode cX5_findRows 78 = .ok (.iload 9, 2) := by decide +kernel
theorem dX5_findRows_80 : decode cX5_findRows 80 = .ok (.ifCond .eq 18, 3) := by decide +kernel
theorem dX5_findRows_83 : decode cX5_findRows 83 = .ok (.iload 6, 2) := by decide +kernel
theorem dX5_findRows_85 : decode cX5_findRows 85 = .ok (.ifCond .ne 13, 3) := by decide +kernel
theorem dX5_findRows_88 : decode cX5_findRows 88 = .ok (.aload_n 0, 1) := by decide +kernel
theorem dX5_findRows_89 : decode cX5_findRows 89 = .ok (.iload 5, 2) := by decide +kernel
theorem dX5_findRows_91 : decode cX5_findRows 91 = .ok (.iload 7, 2) := by decide +kernel
theorem dX5_findRows_93 : decode cX5_findRows 93 = .ok (.iload 8, 2) := by decide +kernel
theorem dX5_findRows_95 : decode cX5_findRows 95 = .ok (.invokevirtual 157, 3) := by decide +kernel
theorem dX5_findRows_98 : decode cX5_findRows 98 = .ok (.iload 9, 2) := by decide +kernel
theorem dX5_findRows_100 : decode cX5_findRows 100 = .ok (.ifCond .eq 33, 3) := by decide +kernel
theorem dX5_findRows_103 : decode cX5_findRows 103 = .ok (.aload_n 0, 1) := by decide +kernel
theorem dX5_findRows_104 : decode cX5_findRows 104 = .ok (.getfield 25, 3) := by decide +kernel
theorem dX5_findRows_107 : decode cX5_findRows 107 = .ok (.aload_n 0, 1) := by decide +kernel
theorem dX5_findRows_108 : decode cX5_findRows 108 = .ok (.getfield 69, 3) := by decide +kernel
theorem dX5_findRows_111 : decode cX5_findRows 111 = .ok (.iconst 1, 1) := by decide +kernel
theorem dX5_findRows_112 : decode cX5_findRows 112 = .ok (.isub, 1) := by decide +kernel
theorem dX5_findRows_113 : decode cX5_findRows 113 = .ok (.iload 7, 2) := by decide +kernel
theorem dX5_findRows_115 : decode cX5_findRows 115 = .ok (.invokestatic 161, 3) := by decide +kernel
theorem dX5_findRows_118 : decode cX5_findRows 118 = .ok (.aload_n 0, 1) := by decide +kernel
theorem dX5_findRows_119 : decode cX5_findRows 119 = .ok (.getfield 31, 3) := by decide +kernel
theorem dX5_findRows_122 : decode cX5_findRows 122 = .ok (.aload_n 0, 1) := by decide +kernel
theorem dX5_findRows_123 : decode cX5_findRows 123 = .ok (.getfield 69, 3) := by decide +kernel
theorem dX5_findRows_126 : decode cX5_findRows 126 = .ok (.iconst 1, 1) := by decide +kernel
theorem dX5_findRows_127 : decode cX5_findRows 127 = .ok (.isub, 1) := by decide +kernel
theorem dX5_findRows_128 : decode cX5_findRows 128 = .ok (.iload 8, 2) := by decide +kernel
theorem dX5_findRows_130 : decode cX5_findRows 130 = .ok (.invokestatic 161, 3) := by decide +kernel
theorem dX5_findRows_133 : decode cX5_findRows 133 = .ok (.iload 9, 2) := by decide +kernel
theorem dX5_findRows_135 : decode cX5_findRows 135 = .ok (.istore 6, 2) := by decide +kernel
theorem dX5_findRows_137 : decode cX5_findRows 137 = .ok (.iinc 7 1, 3) := by decide +kernel
theorem dX5_findRows_140 : decode cX5_findRows 140 = .ok (.goto (-99), 3) := by decide +kernel
theorem dX5_findRows_143 : decode cX5_findRows 143 = .ok (.iinc 5 1, 3) := by decide +kernel
theorem dX5_findRows_146 : decode cX5_findRows 146 = .ok (.goto (-118), 3) := by decide +kernel
theorem dX5_findRows_149 : decode cX5_findRows 149 = .ok (.return_, 1) := by decide +kernel
theorem dX5_startRow_0 : decode cX5_startRow 0 = .ok (.aload_n 0, 1) := by decide +kernel
theorem dX5_startRow_1 : decode cX5_startRow 1 = .ok (.getfield 18, 3) := by decide +kernel
theorem dX5_startRow_4 : decode cX5_startRow 4 = .ok (.aload_n 0, 1) := by decide +kernel
theorem dX5_startRow_5 : decode cX5_startRow 5 = .ok (.getfield 69, 3) := by decide +kernel
theorem dX5_startRow_8 : decode cX5_startRow 8 = .ok (.iload_n 1, 1) := by decide +kernel
theorem dX5_startRow_9 : decode cX5_startRow 9 = .ok (.invokestatic 161, 3) := by decide +kernel
theorem dX5_startRow_12 : decode cX5_startRow 12 = .ok (.aload_n 0, 1) := by decide +kernel
theorem dX5_startRow_13 : decode cX5_startRow 13 = .ok (.getfield 22, 3) := by decide +kernel
theorem dX5_startRow_16 : decode cX5_startRow 16 = .ok (.aload_n 0, 1) := by decide +kernel
theorem dX5_startRow_17 : decode cX5_startRow 17 = .ok (.getfield 69, 3) := by decide +kernel
theorem dX5_startRow_20 : decode cX5_startRow 20 = .ok (.iload_n 2, 1) := by decide +kernel
theorem dX5_startRow_21 : decode cX5_startRow 21 = .ok (.invokestatic 161, 3) := by decide +kernel
theorem dX5_startRow_24 : decode cX5_startRow 24 = .ok (.aload_n 0, 1) := by decide +kernel
theorem dX5_startRow_25 : decode cX5_startRow 25 = .ok (.getfield 28, 3) := by decide +kernel
theorem dX5_startRow_28 : decode cX5_startRow 28 = .ok (.aload_n 0, 1) := by decide +kernel
theorem dX5_startRow_29 : decode cX5_startRow 29 = .ok (.getfield 69, 3) := by decide +kernel
theorem dX5_startRow_32 : decode cX5_startRow 32 = .ok (.iload_n 3, 1) := by decide +kernel
theorem dX5_startRow_33 : decode cX5_startRow 33 = .ok (.invokestatic 161, 3) := by decide +kernel
theorem dX5_startRow_36 : decode cX5_startRow 36 = .ok (.aload_n 0, 1) := by decide +kernel
theorem dX5_startRow_37 : decode cX5_startRow 37 = .ok (.dup, 1) := by decide +kernel
theorem dX5_startRow_38 : decode cX5_startRow 38 = .ok (.getfield 69, 3) := by decide +kernel
theorem dX5_startRow_41 : decode cX5_startRow 41 = .ok (.iconst 1, 1) := by decide +kernel
theorem dX5_startRow_42 : decode cX5_startRow 42 = .ok (.iadd, 1) := by decide +kernel
theorem dX5_startRow_43 : decode cX5_startRow 43 = .ok (.putfield 69, 3) := by decide +kernel
theorem dX5_startRow_46 : decode cX5_startRow 46 = .ok (.return_, 1) := by decide +kernel
theorem dX5_joinRows_0 : decode cX5_joinRows 0 = .ok (.aload_n 0, 1) := by decide +kernel
theorem dX5_joinRows_1 : decode cX5_joinRows 1 = .ok (.iconst 0, 1) := by decide +kernel
theorem dX5_joinRows_2 : decode cX5_joinRows 2 = .ok (.putfield 80, 3) := by decide +kernel
theorem dX5_joinRows_5 : decode cX5_joinRows 5 = .ok (.iconst 0, 1) := by decide +kernel
theorem dX5_joinRows_6 : decode cX5_joinRows 6 = .ok (.istore_n 1, 1) := by decide +kernel
theorem dX5_joinRows_7 : decode cX5_joinRows 7 = .ok (.iload_n 1, 1) := by decide +kernel
theorem dX5_joinRows_8 : decode cX5_joinRows 8 = .ok (.aload_n 0, 1) := by decide +kernel
theorem dX5_joinRows_9 : decode cX5_joinRows 9 = .ok (.getfield 69, 3) := by decide +kernel
theorem dX5_joinRows_12 : decode cX5_joinRows 12 = .ok (.if_icmp .ge 107, 3) := by decide +kernel
theorem dX5_joinRows_15 : decode cX5_joinRows 15 = .ok (.aload_n 0, 1) := by decide +kernel
theorem dX5_joinRows_16 : decode cX5_joinRows 16 = .ok (.iload_n 1, 1) := by decide +kernel
theorem dX5_joinRows_17 : decode cX5_joinRows 17 = .ok (.invokevirtual 165, 3) := by decide +kernel
theorem dX5_joinRows_20 : decode cX5_joinRows 20 = .ok (.istore_n 2, 1) := by decide +kernel
theorem dX5_joinRows_21 : decode cX5_joinRows 21 = .ok (.iload_n 2, 1) := by decide +kernel
theorem dX5_joinRows_22 : decode cX5_joinRows 22 = .ok (.bipush (-9), 2) := by decide +kernel
theorem dX5_joinRows_24 : decode cX5_joinRows 24 = .ok (.if_icmp .ne 10, 3) := by decide +kernel
theorem dX5_joinRows_27 : decode cX5_joinRows 27 = .ok (.aload_n 0, 1) := by decide +kernel
theorem dX5_joinRows_28 : decode cX5_joinRows 28 = .ok (.getfield 80, 3) := by decide +kernel
theorem dX5_joinRows_31 : decode cX5_joinRows 31 = .ok (.goto 11, 3) := by decide +kernel
theorem dX5_joinRows_34 : decode cX5_joinRows 34 = .ok (.aload_n 0, 1) := by decide +kernel
theorem dX5_joinRows_35 : decode cX5_joinRows 35 = .ok (.getfield 34, 3) := by decide +kernel
theorem dX5_joinRows_38 : decode cX5_joinRows 38 = .ok (.iload_n 2, 1) := by decide +kernel
theorem dX5_joinRows_39 : decode cX5_joinRows 39 = .ok (.invokestatic 72, 3) := by decide +kernel
theorem dX5_joinRows_42 : decode cX5_joinRows 42 = .ok (.istore_n 3, 1) := by decide +kernel
theorem dX5_joinRows_43 : decode cX5_joinRows 43 = .ok (.iload_n 2, 1) := by decide +kernel
theorem dX5_joinRows_44 : decode cX5_joinRows 44 = .ok (.bipush (-9), 2) := by decide +kernel
theorem dX5_joinRows_46 : decode cX5_joinRows 46 = .ok (.if_icmp .ne 31, 3) := by decide +kernel
theorem dX5_joinRows_49 : decode cX5_joinRows 49 = .ok (.aload_n 0, 1) := by decide +kernel
theorem dX5_joinRows_50 : decode cX5_joinRows 50 = .ok (.getfield 37, 3) := by decide +kernel
theorem dX5_joinRows_53 : decode cX5_joinRows 53 = .ok (.iload_n 3, 1) := by decide +kernel
theorem dX5_joinRows_54 : decode cX5_joinRows 54 = .ok (.iload_n 1, 1) := by decide +kernel
theorem dX5_joinRows_55 : decode cX5_joinRows 55 = .ok (.invokestatic 161, 3) := by decide +kernel
theorem dX5_joinRows_58 : decode cX5_joinRows 58 = .ok (.aload_n 0, 1) := by decide +kernel
theorem dX5_joinRows_59 : decode cX5_joinRows 59 = .ok (.getfield 43, 3) := by decide +kernel
theorem dX5_joinRows_62 : decode cX5_joinRows 62 = .ok (.iload_n 3, 1) := by decide +kernel
theorem dX5_joinRows_63 : decode cX5_joinRows 63 = .ok (.iconst 0, 1) := by decide +kernel
theorem dX5_joinRows_64 : decode cX5_joinRows 64 = .ok (.invokestatic 161, 3) := by decide +kernel
theorem dX5_joinRows_67 : decode cX5_joinRows 67 = .ok (.aload_n 0, 1) := by decide +kernel
theorem dX5_joinRows_68 : decode cX5_joinRows 68 = .ok (.dup, 1) := by decide +kernel
theorem dX5_joinRows_69 : decode cX5_joinRows 69 = .ok (.getfield 80, 3) := by decide +kernel
theorem dX5_joinRows_72 : decode cX5_joinRows 72 = .ok (.iconst 1, 1) := by decide +kernel
theorem dX5_joinRows_73 : decode cX5_joinRows 73 = .ok (.iadd, 1) := by decide +kernel
theorem dX5_joinRows_74 : decode cX5_joinRows 74 = .ok (.putfield 80, 3) := by decide +kernel
theorem dX5_joinRows_77 : decode cX5_joinRows 77 = .ok (.aload_n 0, 1) := by decide +kernel
theorem dX5_joinRows_78 : decode cX5_joinRows 78 = .ok (.getfield 34, 3) := by decide +kernel
theorem dX5_joinRows_81 : decode cX5_joinRows 81 = .ok (.iload_n 1, 1) := by decide +kernel
theorem dX5_joinRows_82 : decode cX5_joinRows 82 = .ok (.iload_n 3, 1) := by decide +kernel
theorem dX5_joinRows_83 : decode cX5_joinRows 83 = .ok (.invokestatic 161, 3) := by decide +kernel
theorem dX5_joinRows_86 : decode cX5_joinRows 86 = .ok (.aload_n 0, 1) := by decide +kernel
theorem dX5_joinRows_87 : decode cX5_joinRows 87 = .ok (.getfield 40, 3) := by decide +kernel
theorem dX5_joinRows_90 : decode cX5_joinRows 90 = .ok (.iload_n 3, 1) := by decide +kernel
theorem dX5_joinRows_91 : decode cX5_joinRows 91 = .ok (.iload_n 1, 1) := by decide +kernel
theorem dX5_joinRows_92 : decode cX5_joinRows 92 = .ok (.invokestatic 161, 3) := by decide +kernel
theorem dX5_joinRows_95 : decode cX5_joinRows 95 = .ok (.aload_n 0, 1) := by decide +kernel
theorem dX5_joinRows_96 : decode cX5_joinRows 96 = .ok (.getfield 43, 3) := by decide +kernel
theorem dX5_joinRows_99 : decode cX5_joinRows 99 = .ok (.iload_n 3, 1) := by decide +kernel
theorem dX5_joinRows_100 : decode cX5_joinRows 100 = .ok (.aload_n 0, 1) := by decide +kernel
theorem dX5_joinRows_101 : decode cX5_joinRows 101 = .ok (.getfield 43, 3) := by decide +kernel
theorem dX5_joinRows_104 : decode cX5_joinRows 104 = .ok (.iload_n 3, 1) := by decide +kernel
theorem dX5_joinRows_105 : decode cX5_joinRows 105 = .ok (.invokestatic 72, 3) := by decide +kernel
theorem dX5_joinRows_108 : decode cX5_joinRows 108 = .ok (.iconst 1, 1) := by decide +kernel
theorem dX5_joinRows_109 : decode cX5_joinRows 109 = .ok (.iadd, 1) := by decide +kernel
theorem dX5_joinRows_110 : decode cX5_joinRows 110 = .ok (.invokestatic 161, 3) := by decide +kernel
theorem dX5_joinRows_113 : decode cX5_joinRows 113 = .ok (.iinc 1 1, 3) := by decide +kernel
theorem dX5_joinRows_116 : decode cX5_joinRows 116 = .ok (.goto (-109), 3) := by decide +kernel
theorem dX5_joinRows_119 : decode cX5_joinRows 119 = .ok (.return_, 1) := by decide +kernel
theorem dX5_rowContinuedBy_0 : decode cX5_rowContinuedBy 0 = .ok (.bipush (-9), 2) := by decide +kernel
theorem dX5_rowContinuedBy_2 : decode cX5_rowContinuedBy 2 = .ok (.istore_n 2, 1) := by decide +kernel
theorem dX5_rowContinuedBy_3 : decode cX5_rowContinuedBy 3 = .ok (.iconst 0, 1) := by decide +kernel
theorem dX5_rowContinuedBy_4 : decode cX5_rowContinuedBy 4 = .ok (.istore_n 3, 1) := by decide +kernel
theorem dX5_rowContinuedBy_5 : decode cX5_rowContinuedBy 5 = .ok (.iload_n 3, 1) := by decide +kernel
theorem dX5_rowContinuedBy_6 : decode cX5_rowContinuedBy 6 = .ok (.iload_n 1, 1) := by decide +kernel
theorem dX5_rowContinuedBy_7 : decode cX5_rowContinuedBy 7 = .ok (.if_icmp .ge 29, 3) := by decide +kernel
theorem dX5_rowContinuedBy_10 : decode cX5_rowContinuedBy 10 = .ok (.aload_n 0, 1) := by decide +kernel
theorem dX5_rowContinuedBy_11 : decode cX5_rowContinuedBy 11 = .ok (.iload_n 1, 1) := by decide +kernel
theorem dX5_rowContinuedBy_12 : decode cX5_rowContinuedBy 12 = .ok (.iload_n 3, 1) := by decide +kernel
theorem dX5_rowContinuedBy_13 : decode cX5_rowContinuedBy 13 = .ok (.invokevirtual 168, 3) := by decide +kernel
theorem dX5_rowContinuedBy_16 : decode cX5_rowContinuedBy 16 = .ok (.ifCond .eq 14, 3) := by decide +kernel
theorem dX5_rowContinuedBy_19 : decode cX5_rowContinuedBy 19 = .ok (.iload_n 2, 1) := by decide +kernel
theorem dX5_rowContinuedBy_20 : decode cX5_rowContinuedBy 20 = .ok (.bipush (-9), 2) := by decide +kernel
theorem dX5_rowContinuedBy_22 : decode cX5_rowContinuedBy 22 = .ok (.if_icmp .eq 6, 3) := by decide +kernel
theorem dX5_rowContinuedBy_25 : decode cX5_rowContinuedBy 25 = .ok (.bipush (-9), 2) := by decide +kernel
theorem dX5_rowContinuedBy_27 : decode cX5_rowContinuedBy 27 = .ok (.ireturn, 1) := by decide +kernel
theorem dX5_rowContinuedBy_28 : decode cX5_rowContinuedBy 28 = .ok (.iload_n 3, 1) := by decide +kernel
theorem dX5_rowContinuedBy_29 : decode cX5_rowContinuedBy 29 = .ok (.istore_n 2, 1) := by decide +kernel
theorem dX5_rowContinuedBy_30 : decode cX5_rowContinuedBy 30 = .ok (.iinc 3 1, 3) := by decide +kernel
theorem dX5_rowContinuedBy_33 : decode cX5_rowContinuedBy 33 = .ok (.goto (-28), 3) := by decide +kernel
theorem dX5_rowContinuedBy_36 : decode cX5_rowContinuedBy 36 = .ok (.iload_n 2, 1) := by decide +kernel
theorem dX5_rowContinuedBy_37 : decode cX5_rowContinuedBy 37 = .ok (.iconst 1, 1) := by decide +kernel
theorem dX5_rowContinuedBy_38 : decode cX5_rowContinuedBy 38 = .ok (.iadd, 1) := by decide +kernel
theorem dX5_rowContinuedBy_39 : decode cX5_rowContinuedBy 39 = .ok (.istore_n 3, 1) := by decide +kernel
theorem dX5_rowContinuedBy_40 : decode cX5_rowContinuedBy 40 = .ok (.iload_n 2, 1) := by decide +kernel
theorem dX5_rowContinuedBy_41 : decode cX5_rowContinuedBy 41 = .ok (.bipush (-9), 2) := by decide +kernel
theorem dX5_rowContinuedBy_43 : decode cX5_rowContinuedBy 43 = .ok (.if_icmp .eq 34, 3) := by decide +kernel
theorem dX5_rowContinuedBy_46 : decode cX5_rowContinuedBy 46 = .ok (.iload_n 3, 1) := by decide +kernel
theorem dX5_rowContinuedBy_47 : decode cX5_rowContinuedBy 47 = .ok (.aload_n 0, 1) := by decide +kernel
theorem dX5_rowContinuedBy_48 : decode cX5_rowContinuedBy 48 = .ok (.getfield 69, 3) := by decide +kernel
theorem dX5_rowContinuedBy_51 : decode cX5_rowContinuedBy 51 = .ok (.if_icmp .ge 26, 3) := by decide +kernel
theorem dX5_rowContinuedBy_54 : decode cX5_rowContinuedBy 54 = .ok (.iload_n 3, 1) := by decide +kernel
theorem dX5_rowContinuedBy_55 : decode cX5_rowContinuedBy 55 = .ok (.iload_n 1, 1) := by decide +kernel
theorem dX5_rowContinuedBy_56 : decode cX5_rowContinuedBy 56 = .ok (.if_icmp .eq 15, 3) := by decide +kernel
theorem dX5_rowContinuedBy_59 : decode cX5_rowContinuedBy 59 = .ok (.aload_n 0, 1) := by decide +kernel
theorem dX5_rowContinuedBy_60 : decode cX5_rowContinuedBy 60 = .ok (.iload_n 3, 1) := by decide +kernel
theorem dX5_rowContinuedBy_61 : decode cX5_rowContinuedBy 61 = .ok (.iload_n 2, 1) := by decide +kernel
theorem dX5_rowContinuedBy_62 : decode cX5_rowContinuedBy 62 = .ok (.invokevirtual 168, 3) := by decide +kernel
theorem dX5_rowContinuedBy_65 : decode cX5_rowContinuedBy 65 = .ok (.ifCond .eq 6, 3) := by decide +kernel
theorem dX5_rowContinuedBy_68 : decode cX5_rowContinuedBy 68 = .ok (.bipush (-9), 2) := by decide +kernel
theorem dX5_rowContinuedBy_70 : decode cX5_rowContinuedBy 70 = .ok (.ireturn, 1) := by decide +kernel
theorem dX5_rowContinuedBy_71 : decode cX5_rowContinuedBy 71 = .ok (.iinc 3 1, 3) := by decide +kernel
theorem dX5_rowContinuedBy_74 : decode cX5_rowContinuedBy 74 = .ok (.goto (-34), 3) := by decide +kernel
theorem dX5_rowContinuedBy_77 : decode cX5_rowContinuedBy 77 = .ok (.iload_n 2, 1) := by decide +kernel
theorem dX5_rowContinuedBy_78 : decode cX5_rowContinuedBy 78 = .ok (.ireturn, 1) := by decide +kernel
theorem dX5_isNextTo_0 : decode cX5_isNextTo 0 = .ok (.aload_n 0, 1) := by decide +kernel
theorem dX5_isNextTo_1 : decode cX5_isNextTo 1 = .ok (.getfield 18, 3) := by decide +kernel
theorem dX5_isNextTo_4 : decode cX5_isNextTo 4 = .ok (.iload_n 1, 1) := by decide +kernel
theorem dX5_isNextTo_5 : decode cX5_isNextTo 5 = .ok (.invokestatic 72, 3) := by decide +kernel
theorem dX5_isNextTo_8 : decode cX5_isNextTo 8 = .ok (.aload_n 0, 1) := by decide +kernel
theorem dX5_isNextTo_9 : decode cX5_isNextTo 9 = .ok (.getfield 18, 3) := by decide +kernel
theorem dX5_isNextTo_12 : decode cX5_isNextTo 12 = .ok (.iload_n 2, 1) := by decide +kernel
theorem dX5_isNextTo_13 : decode cX5_isNextTo 13 = .ok (.invokestatic 72, 3) := by decide +kernel
theorem dX5_isNextTo_16 : decode cX5_isNextTo 16 = .ok (.iconst 1, 1) := by decide +kernel
theorem dX5_isNextTo_17 : decode cX5_isNextTo 17 = .ok (.iadd, 1) := by decide +kernel
theorem dX5_isNextTo_18 : decode cX5_isNextTo 18 = .ok (.if_icmp .ne 45, 3) := by decide +kernel
theorem dX5_isNextTo_21 : decode cX5_isNextTo 21 = .ok (.aload_n 0, 1) := by decide +kernel
theorem dX5_isNextTo_22 : decode cX5_isNextTo 22 = .ok (.getfield 22, 3) := by decide +kernel
theorem dX5_isNextTo_25 : decode cX5_isNextTo 25 = .ok (.iload_n 1, 1) := by decide +kernel
theorem dX5_isNextTo_26 : decode cX5_isNextTo 26 = .ok (.invokestatic 72, 3) := by decide +kernel
theorem dX5_isNextTo_29 : decode cX5_isNextTo 29 = .ok (.aload_n 0, 1) := by decide +kernel
theorem dX5_isNextTo_30 : decode cX5_isNextTo 30 = .ok (.getfield 25, 3) := by decide +kernel
theorem dX5_isNextTo_33 : decode cX5_isNextTo 33 = .ok (.iload_n 2, 1) := by decide +kernel
theorem dX5_isNextTo_34 : decode cX5_isNextTo 34 = .ok (.invokestatic 72, 3) := by decide +kernel
theorem dX5_isNextTo_37 : decode cX5_isNextTo 37 = .ok (.if_icmp .gt 26, 3) := by decide +kernel
theorem dX5_isNextTo_40 : decode cX5_isNextTo 40 = .ok (.aload_n 0, 1) := by decide +kernel
theorem dX5_isNextTo_41 : decode cX5_isNextTo 41 = .ok (.getfield 25, 3) := by decide +kernel
theorem dX5_isNextTo_44 : decode cX5_isNextTo 44 = .ok (.iload_n 1, 1) := by decide +kernel
theorem dX5_isNextTo_45 : decode cX5_isNextTo 45 = .ok (.invokestatic 72, 3) := by decide +kernel
theorem dX5_isNextTo_48 : decode cX5_isNextTo 48 = .ok (.aload_n 0, 1) := by decide +kernel
theorem dX5_isNextTo_49 : decode cX5_isNextTo 49 = .ok (.getfield 22, 3) := by decide +kernel
theorem dX5_isNextTo_52 : decode cX5_isNextTo 52 = .ok (.iload_n 2, 1) := by decide +kernel
theorem dX5_isNextTo_53 : decode cX5_isNextTo 53 = .ok (.invokestatic 72, 3) := by decide +kernel
theorem dX5_isNextTo_56 : decode cX5_isNextTo 56 = .ok (.if_icmp .lt 7, 3) := by decide +kernel
theorem dX5_isNextTo_59 : decode cX5_isNextTo 59 = .ok (.iconst 1, 1) := by decide +kernel
theorem dX5_isNextTo_60 : decode cX5_isNextTo 60 = .ok (.goto 4, 3) := by decide +kernel
theorem dX5_isNextTo_63 : decode cX5_isNextTo 63 = .ok (.iconst 0, 1) := by decide +kernel
theorem dX5_isNextTo_64 : decode cX5_isNextTo 64 = .ok (.ireturn, 1) := by decide +kernel
theorem dX6_init_0 : decode cX6_init 0 = .ok (.aload_n 0, 1) := by decide +kernel
theorem dX6_init_1 : decode cX6_init 1 = .ok (.invokespecial 3, 3) := by decide +kernel
theorem dX6_init_4 : decode cX6_init 4 = .ok (.aload_n 0, 1) := by decide +kernel
theorem dX6_init_5 : decode cX6_init 5 = .ok (.bipush 10, 2) := by decide +kernel
theorem dX6_init_7 : decode cX6_init 7 = .ok (.newarray .int, 2) := by decide +kernel
theorem dX6_init_9 : decode cX6_init 9 = .ok (.putfield 9, 3) := by decide +kernel
theorem dX6_init_12 : decode cX6_init 12 = .ok (.aload_n 0, 1) := by decide +kernel
theorem dX6_init_13 : decode cX6_init 13 = .ok (.iconst 4, 1) := by decide +kernel
theorem dX6_init_14 : decode cX6_init 14 = .ok (.newarray .boolean, 2) := by decide +kernel
theorem dX6_init_16 : decode cX6_init 16 = .ok (.putfield 15, 3) := by decide +kernel
theorem dX6_init_19 : decode cX6_init 19 = .ok (.return_, 1) := by decide +kernel
theorem dX6_lay_0 : decode cX6_lay 0 = .ok (.aload_n 0, 1) := by decide +kernel
theorem dX6_lay_1 : decode cX6_lay 1 = .ok (.getfield 15, 3) := by decide +kernel
theorem dX6_lay_4 : decode cX6_lay 4 = .ok (.invokestatic 19, 3) := by decide +kernel
theorem dX6_lay_7 : decode cX6_lay 7 = .ok (.aload_n 0, 1) := by decide +kernel
theorem dX6_lay_8 : decode cX6_lay 8 = .ok (.iconst 0, 1) := by decide +kernel
theorem dX6_lay_9 : decode cX6_lay 9 = .ok (.putfield 23, 3) := by decide +kernel
theorem dX6_lay_12 : decode cX6_lay 12 = .ok (.aload_n 0, 1) := by decide +kernel
theorem dX6_lay_13 : decode cX6_lay 13 = .ok (.iconst 0, 1) := by decide +kernel
theorem dX6_lay_14 : decode cX6_lay 14 = .ok (.putfield 27, 3) := by decide +kernel
theorem dX6_lay_17 : decode cX6_lay 17 = .ok (.iconst 0, 1) := by decide +kernel
theorem dX6_lay_18 : decode cX6_lay 18 = .ok (.istore_n 3, 1) := by decide +kernel
theorem dX6_lay_19 : decode cX6_lay 19 = .ok (.iload_n 3, 1) := by decide +kernel
theorem dX6_lay_20 : decode cX6_lay 20 = .ok (.iconst 3, 1) := by decide +kernel
theorem dX6_lay_21 : decode cX6_lay 21 = .ok (.if_icmp .ge 53, 3) := by decide +kernel
theorem dX6_lay_24 : decode cX6_lay 24 = .ok (.aload_n 0, 1) := by decide +kernel
theorem dX6_lay_25 : decode cX6_lay 25 = .ok (.aload_n 1, 1) := by decide +kernel
theorem dX6_lay_26 : decode cX6_lay 26 = .ok (.aload_n 2, 1) := by decide +kernel
theorem dX6_lay_27 : decode cX6_lay 27 = .ok (.invokevirtual 30, 3) := by decide +kernel
theorem dX6_lay_30 : decode cX6_lay 30 = .ok (.istore 4, 2) := by decide +kernel
theorem dX6_lay_32 : decode cX6_lay 32 = .ok (.iload 4, 2) := by decide +kernel
theorem dX6_lay_34 : decode cX6_lay 34 = .ok (.ifCond .le 34, 3) := by decide +kernel
theorem dX6_lay_37 : decode cX6_lay 37 = .ok (.iload 4, 2) := by decide +kernel
theorem dX6_lay_39 : decode cX6_lay 39 = .ok (.iconst 3, 1) := by decide +kernel
theorem dX6_lay_40 : decode cX6_lay 40 = .ok (.if_icmp .gt 28, 3) := by decide +kernel
theorem dX6_lay_43 : decode cX6_lay 43 = .ok (.aload_n 0, 1) := by decide +kernel
theorem dX6_lay_44 : decode cX6_lay 44 = .ok (.aload_n 2, 1) := by decide +kernel
theorem dX6_lay_45 : decode cX6_lay 45 = .ok (.iload 4, 2) := by decide +kernel
theorem dX6_lay_47 : decode cX6_lay 47 = .ok (.invokevirtual 34, 3) := by decide +kernel
theorem dX6_lay_50 : decode cX6_lay 50 = .ok (.aload_n 0, 1) := by decide +kernel
theorem dX6_lay_51 : decode cX6_lay 51 = .ok (.getfield 15, 3) := by decide +kernel
theorem dX6_lay_54 : decode cX6_lay 54 = .ok (.iload 4, 2) := by decide +kernel
theorem dX6_lay_56 : decode cX6_lay 56 = .ok (.iconst 1, 1) := by decide +kernel
theorem dX6_lay_57 : decode cX6_lay 57 = .ok (.bastore, 1) := by decide +kernel
theorem dX6_lay_58 : decode cX6_lay 58 = .ok (.aload_n 0, 1) := by decide +kernel
theorem dX6_lay_59 : decode cX6_lay 59 = .ok (.dup, 1) := by decide +kernel
theorem dX6_lay_60 : decode cX6_lay 60 = .ok (.getfield 27, 3) := by decide +kernel
theorem dX6_lay_63 : decode cX6_lay 63 = .ok (.iconst 1, 1) := by decide +kernel
theorem dX6_lay_64 : decode cX6_lay 64 = .ok (.iadd, 1) := by decide +kernel
theorem dX6_lay_65 : decode cX6_lay 65 = .ok (.putfield 27, 3) := by decide +kernel
theorem dX6_lay_68 : decode cX6_lay 68 = .ok (.iinc 3 1, 3) := by decide +kernel
theorem dX6_lay_71 : decode cX6_lay 71 = .ok (.goto (-52), 3) := by decide +kernel
theorem dX6_lay_74 : decode cX6_lay 74 = .ok (.return_, 1) := by decide +kernel
theorem dX6_changes_0 : decode cX6_changes 0 = .ok (.aload_n 0, 1) := by decide +kernel
theorem dX6_changes_1 : decode cX6_changes 1 = .ok (.getfield 27, 3) := by decide +kernel
theorem dX6_changes_4 : decode cX6_changes 4 = .ok (.iconst 1, 1) := by decide +kernel
theorem dX6_changes_5 : decode cX6_changes 5 = .ok (.isub, 1) := by decide +kernel
theorem dX6_changes_6 : decode cX6_changes 6 = .ok (.ireturn, 1) := by decide +kernel
theorem dX6_fieldAt_0 : decode cX6_fieldAt 0 = .ok (.iload_n 1, 1) := by decide +kernel
theorem dX6_fieldAt_1 : decode cX6_fieldAt 1 = .ok (.aload_n 0, 1) := by decide +kernel
theorem dX6_fieldAt_2 : decode cX6_fieldAt 2 = .ok (.getfield 23, 3) := by decide +kernel
theorem dX6_fieldAt_5 : decode cX6_fieldAt 5 = .ok (.if_icmp .ge 14, 3) := by decide +kernel
theorem dX6_fieldAt_8 : decode cX6_fieldAt 8 = .ok (.aload_n 0, 1) := by decide +kernel
theorem dX6_fieldAt_9 : decode cX6_fieldAt 9 = .ok (.getfield 9, 3) := by decide +kernel
theorem dX6_fieldAt_12 : decode cX6_fieldAt 12 = .ok (.iload_n 1, 1) := by decide +kernel
theorem dX6_fieldAt_13 : decode cX6_fieldAt 13 = .ok (.invokestatic 38, 3) := by decide +kernel
theorem dX6_fieldAt_16 : decode cX6_fieldAt 16 = .ok (.goto 5, 3) := by decide +kernel
theorem dX6_fieldAt_19 : decode cX6_fieldAt 19 = .ok (.bipush (-9), 2) := by decide +kernel
theorem dX6_fieldAt_21 : decode cX6_fieldAt 21 = .ok (.ireturn, 1) := by decide +kernel
theorem dX6_nextColour_0 : decode cX6_nextColour 0 = .ok (.iconst 0, 1) := by decide +kernel
theorem dX6_nextColour_1 : decode cX6_nextColour 1 = .ok (.istore_n 3, 1) := by decide +kernel
theorem dX6_nextColour_2 : decode cX6_nextColour 2 = .ok (.iload_n 3, 1) := by decide +kernel
theorem dX6_nextColour_3 : decode cX6_nextColour 3 = .ok (.aload_n 2, 1) := by decide +kernel
theorem dX6_nextColour_4 : decode cX6_nextColour 4 = .ok (.invokevirtual 42, 3) := by decide +kernel
theorem dX6_nextColour_7 : decode cX6_nextColour 7 = .ok (.if_icmp .ge 38, 3) := by decide +kernel
theorem dX6_nextColour_10 : decode cX6_nextColour 10 = .ok (.aload_n 2, 1) := by decide +kernel
theorem dX6_nextColour_11 : decode cX6_nextColour 11 = .ok (.iload_n 3, 1) := by decide +kernel
theorem dX6_nextColour_12 : decode cX6_nextColour 12 = .ok (.invokevirtual 47, 3) := by decide +kernel
theorem dX6_nextColour_15 : decode cX6_nextColour 15 = .ok (.istore 4, 2) := by decide +kernel
theorem dX6_nextColour_17 : decode cX6_nextColour 17 = .ok (.aload_n 0, 1) := by decide +kernel
theorem dX6_nextColour_18 : decode cX6_nextColour 18 = .ok (.iload 4, 2) := by decide +kernel
theorem dX6_nextColour_20 : decode cX6_nextColour 20 = .ok (.invokevirtual 51, 3) := by decide +kernel
theorem dX6_nextColour_23 : decode cX6_nextColour 23 = .ok (.ifCond .ne 16, 3) := by decide +kernel
theorem dX6_nextColour_26 : decode cX6_nextColour 26 = .ok (.aload_n 0, 1) := by decide +kernel
theorem dX6_nextColour_27 : decode cX6_nextColour 27 = .ok (.aload_n 1, 1) := by decide +kernel
theorem dX6_nextColour_28 : decode cX6_nextColour 28 = .ok (.iload 4, 2) := by decide +kernel
theorem dX6_nextColour_30 : decode cX6_nextColour 30 = .ok (.invokevirtual 55, 3) := by decide +kernel
theorem dX6_nextColour_33 : decode cX6_nextColour 33 = .ok (.ifCond .ne 6, 3) := by decide +kernel
theorem dX6_nextColour_36 : decode cX6_nextColour 36 = .ok (.iload 4, 2) := by decide +kernel
theorem dX6_nextColour_38 : decode cX6_nextColour 38 = .ok (.ireturn, 1) := by decide +kernel
theorem dX6_nextColour_39 : decode cX6_nextColour 39 = .ok (.iinc 3 1, 3) := by decide +kernel
theorem dX6_nextColour_42 : decode cX6_nextColour 42 = .ok (.goto (-40), 3) := by decide +kernel
theorem dX6_nextColour_45 : decode cX6_nextColour 45 = .ok (.bipush (-9), 2) := by decide +kernel
theorem dX6_nextColour_47 : decode cX6_nextColour 47 = .ok (.ireturn, 1) := by decide +kernel
theorem dX6_isSewn_0 : decode cX6_isSewn 0 = .ok (.iload_n 1, 1) := by decide +kernel
theorem dX6_isSewn_1 : decode cX6_isSewn 1 = .ok (.iconst 0, 1) := by decide +kernel
theorem dX6_isSewn_2 : decode cX6_isSewn 2 = .ok (.iconst 3, 1) := by decide +kernel
theorem dX6_isSewn_3 : decode cX6_isSewn 3 = .ok (.invokestatic 59, 3) := by decide +kernel
theorem dX6_isSewn_6 : decode cX6_isSewn 6 = .ok (.ifCond .eq 16, 3) := by decide +kernel
theorem dX6_isSewn_9 : decode cX6_isSewn 9 = .ok (.aload_n 0, 1) := by decide +kernel
theorem dX6_isSewn_10 : decode cX6_isSewn 10 = .ok (.getfield 15, 3) := by decide +kernel
theorem dX6_isSewn_13 : decode cX6_isSewn 13 = .ok (.iload_n 1, 1) := by decide +kernel
theorem dX6_isSewn_14 : decode cX6_isSewn 14 = .ok (.baload, 1) := by decide +kernel
theorem dX6_isSewn_15 : decode cX6_isSewn 15 = .ok (.ifCond .eq 7, 3) := by decide +kernel
theorem dX6_isSewn_18 : decode cX6_isSewn 18 = .ok (.iconst 1, 1) := by decide +kernel
theorem dX6_isSewn_19 : decode cX6_isSewn 19 = .ok (.goto 4, 3) := by decide +kernel
theorem dX6_isSewn_22 : decode cX6_isSewn 22 = .ok (.iconst 0, 1) := by decide +kernel
theorem dX6_isSewn_23 : decode cX6_isSewn 23 = .ok (.ireturn, 1) := by decide +kernel
theorem dX6_mustWait_0 : decode cX6_mustWait 0 = .ok (.iconst 1, 1) := by decide +kernel
theorem dX6_mustWait_1 : decode cX6_mustWait 1 = .ok (.istore_n 3, 1) := by decide +kernel
theorem dX6_mustWait_2 : decode cX6_mustWait 2 = .ok (.iload_n 3, 1) := by decide +kernel
theorem dX6_mustWait_3 : decode cX6_mustWait 3 = .ok (.iconst 3, 1) := by decide +kernel
theorem dX6_mustWait_4 : decode cX6_mustWait 4 = .ok (.if_icmp .gt 41, 3) := by decide +kernel
theorem dX6_mustWait_7 : decode cX6_mustWait 7 = .ok (.aload_n 0, 1) := by decide +kernel
theorem dX6_mustWait_8 : decode cX6_mustWait 8 = .ok (.iload_n 3, 1) := by decide +kernel
theorem dX6_mustWait_9 : decode cX6_mustWait 9 = .ok (.invokevirtual 51, 3) := by decide +kernel
theorem dX6_mustWait_12 : decode cX6_mustWait 12 = .ok (.ifCond .ne 27, 3) := by decide +kernel
theorem dX6_mustWait_15 : decode cX6_mustWait 15 = .ok (.aload_n 1, 1) := by decide +kernel
theorem dX6_mustWait_16 : decode cX6_mustWait 16 = .ok (.iload_n 3, 1) := by decide +kernel
theorem dX6_mustWait_17 : decode cX6_mustWait 17 = .ok (.invokevirtual 63, 3) := by decide +kernel
theorem dX6_mustWait_20 : decode cX6_mustWait 20 = .ok (.aload_n 1, 1) := by decide +kernel
theorem dX6_mustWait_21 : decode cX6_mustWait 21 = .ok (.iload_n 2, 1) := by decide +kernel
theorem dX6_mustWait_22 : decode cX6_mustWait 22 = .ok (.invokevirtual 63, 3) := by decide +kernel
theorem dX6_mustWait_25 : decode cX6_mustWait 25 = .ok (.if_icmp .ge 14, 3) := by decide +kernel
theorem dX6_mustWait_28 : decode cX6_mustWait 28 = .ok (.aload_n 1, 1) := by decide +kernel
theorem dX6_mustWait_29 : decode cX6_mustWait 29 = .ok (.iload_n 3, 1) := by decide +kernel
theorem dX6_mustWait_30 : decode cX6_mustWait 30 = .ok (.iload_n 2, 1) := by decide +kernel
theorem dX6_mustWait_31 : decode cX6_mustWait 31 = .ok (.invokevirtual 68, 3) := by decide +kernel
theorem dX6_mustWait_34 : decode cX6_mustWait 34 = .ok (.ifCond .eq 5, 3) := by decide +kernel
theorem dX6_mustWait_37 : decode cX6_mustWait 37 = .ok (.iconst 1, 1) := by decide +kernel
theorem dX6_mustWait_38 : decode cX6_mustWait 38 = .ok (.ireturn, 1) := by decide +kernel
theorem dX6_mustWait_39 : decode cX6_mustWait 39 = .ok (.iinc 3 1, 3) := by decide +kernel
theorem dX6_mustWait_42 : decode cX6_mustWait 42 = .ok (.goto (-40), 3) := by decide +kernel
theorem dX6_mustWait_45 : decode cX6_mustWait 45 = .ok (.iconst 0, 1) := by decide +kernel
theorem dX6_mustWait_46 : decode cX6_mustWait 46 = .ok (.ireturn, 1) := by decide +kernel
theorem dX6_addFields_0 : decode cX6_addFields 0 = .ok (.iconst 0, 1) := by decide +kernel
theorem dX6_addFields_1 : decode cX6_addFields 1 = .ok (.istore_n 3, 1) := by decide +kernel
theorem dX6_addFields_2 : decode cX6_addFields 2 = .ok (.iload_n 3, 1) := by decide +kernel
theorem dX6_addFields_3 : decode cX6_addFields 3 = .ok (.aload_n 1, 1) := by decide +kernel
theorem dX6_addFields_4 : decode cX6_addFields 4 = .ok (.invokevirtual 42, 3) := by decide +kernel
theorem dX6_addFields_7 : decode cX6_addFields 7 = .ok (.if_icmp .ge 40, 3) := by decide +kernel
theorem dX6_addFields_10 : decode cX6_addFields 10 = .ok (.aload_n 1, 1) := by decide +kernel
theorem dX6_addFields_11 : decode cX6_addFields 11 = .ok (.iload_n 3, 1) := by decide +kernel
theorem dX6_addFields_12 : decode cX6_addFields 12 = .ok (.invokevirtual 47, 3) := by decide +kernel
theorem dX6_addFields_15 : decode cX6_addFields 15 = .ok (.iload_n 2, 1) := by decide +kernel
theorem dX6_addFields_16 : decode cX6_addFields 16 = .ok (.if_icmp .ne 25, 3) := by decide +kernel
theorem dX6_addFields_19 : decode cX6_addFields 19 = .ok (.aload_n 0, 1) := by decide +kernel
theorem dX6_addFields_20 : decode cX6_addFields 20 = .ok (.getfield 9, 3) := by decide +kernel
theorem dX6_addFields_23 : decode cX6_addFields 23 = .ok (.aload_n 0, 1) := by decide +kernel
theorem dX6_addFields_24 : decode cX6_addFields 24 = .ok (.getfield 23, 3) := by decide +kernel
theorem dX6_addFields_27 : decode cX6_addFields 27 = .ok (.iload_n 3, 1) := by decide +kernel
theorem dX6_addFields_28 : decode cX6_addFields 28 = .ok (.invokestatic 72, 3) := by decide +kernel
theorem dX6_addFields_31 : decode cX6_addFields 31 = .ok (.aload_n 0, 1) := by decide +kernel
theorem dX6_addFields_32 : decode cX6_addFields 32 = .ok (.dup, 1) := by decide +kernel
theorem dX6_addFields_33 : decode cX6_addFields 33 = .ok (.getfield 23, 3) := by decide +kernel
theorem dX6_addFields_36 : decode cX6_addFields 36 = .ok (.iconst 1, 1) := by decide +kernel
theorem dX6_addFields_37 : decode cX6_addFields 37 = .ok (.iadd, 1) := by decide +kernel
theorem dX6_addFields_38 : decode cX6_addFields 38 = .ok (.putfield 23, 3) := by decide +kernel
theorem dX6_addFields_41 : decode cX6_addFields 41 = .ok (.iinc 3 1, 3) := by decide +kernel
theorem dX6_addFields_44 : decode cX6_addFields 44 = .ok (.goto (-42), 3) := by decide +kernel
theorem dX6_addFields_47 : decode cX6_addFields 47 = .ok (.return_, 1) := by decide +kernel
theorem dX7_init_0 : decode cX7_init 0 = .ok (.aload_n 0, 1) := by decide +kernel
theorem dX7_init_1 : decode cX7_init 1 = .ok (.invokespecial 3, 3) := by decide +kernel
theorem dX7_init_4 : decode cX7_init 4 = .ok (.aload_n 0, 1) := by decide +kernel
theorem dX7_init_5 : decode cX7_init 5 = .ok (.bipush 120, 2) := by decide +kernel
theorem dX7_init_7 : decode cX7_init 7 = .ok (.newarray .char, 2) := by decide +kernel
theorem dX7_init_9 : decode cX7_init 9 = .ok (.putfield 9, 3) := by decide +kernel
theorem dX7_init_12 : decode cX7_init 12 = .ok (.return_, 1) := by decide +kernel
theorem dX7_length_0 : decode cX7_length 0 = .ok (.aload_n 0, 1) := by decide +kernel
theorem dX7_length_1 : decode cX7_length 1 = .ok (.getfield 15, 3) := by decide +kernel
theorem dX7_length_4 : decode cX7_length 4 = .ok (.ireturn, 1) := by decide +kernel
theorem dX7_append_0 : decode cX7_append 0 = .ok (.aload_n 0, 1) := by decide +kernel
theorem dX7_append_1 : decode cX7_append 1 = .ok (.getfield 15, 3) := by decide +kernel
theorem dX7_append_4 : decode cX7_append 4 = .ok (.aload_n 0, 1) := by decide +kernel
theorem dX7_append_5 : decode cX7_append 5 = .ok (.getfield 9, 3) := by decide +kernel
theorem dX7_append_8 : decode cX7_append 8 = .ok (.arraylength, 1) := by decide +kernel
theorem dX7_append_9 : decode cX7_append 9 = .ok (.if_icmp .ge 23, 3) := by decide +kernel
theorem dX7_append_12 : decode cX7_append 12 = .ok (.aload_n 0, 1) := by decide +kernel
theorem dX7_append_13 : decode cX7_append 13 = .ok (.getfield 9, 3) := by decide +kernel
theorem dX7_append_16 : decode cX7_append 16 = .ok (.aload_n 0, 1) := by decide +kernel
theorem dX7_append_17 : decode cX7_append 17 = .ok (.getfield 15, 3) := by decide +kernel
theorem dX7_append_20 : decode cX7_append 20 = .ok (.iload_n 1, 1) := by decide +kernel
theorem dX7_append_21 : decode cX7_append 21 = .ok (.castore, 1) := by decide +kernel
theorem dX7_append_22 : decode cX7_append 22 = .ok (.aload_n 0, 1) := by decide +kernel
theorem dX7_append_23 : decode cX7_append 23 = .ok (.dup, 1) := by decide +kernel
theorem dX7_append_24 : decode cX7_append 24 = .ok (.getfield 15, 3) := by decide +kernel
theorem dX7_append_27 : decode cX7_append 27 = .ok (.iconst 1, 1) := by decide +kernel
theorem dX7_append_28 : decode cX7_append 28 = .ok (.iadd, 1) := by decide +kernel
theorem dX7_append_29 : decode cX7_append 29 = .ok (.putfield 15, 3) := by decide +kernel
theorem dX7_append_32 : decode cX7_append 32 = .ok (.return_, 1) := by decide +kernel
theorem dX7_drop_0 : decode cX7_drop 0 = .ok (.aload_n 0, 1) := by decide +kernel
theorem dX7_drop_1 : decode cX7_drop 1 = .ok (.iconst 0, 1) := by decide +kernel
theorem dX7_drop_2 : decode cX7_drop 2 = .ok (.putfield 15, 3) := by decide +kernel
theorem dX7_drop_5 : decode cX7_drop 5 = .ok (.return_, 1) := by decide +kernel
theorem dX7_toFirstToken_0 : decode cX7_toFirstToken 0 = .ok (.aload_n 0, 1) := by decide +kernel
theorem dX7_toFirstToken_1 : decode cX7_toFirstToken 1 = .ok (.iconst 0, 1) := by decide +kernel
theorem dX7_toFirstToken_2 : decode cX7_toFirstToken 2 = .ok (.putfield 19, 3) := by decide +kernel
theorem dX7_toFirstToken_5 : decode cX7_toFirstToken 5 = .ok (.aload_n 0, 1) := by decide +kernel
theorem dX7_toFirstToken_6 : decode cX7_toFirstToken 6 = .ok (.invokevirtual 22, 3) := by decide +kernel
theorem dX7_toFirstToken_9 : decode cX7_toFirstToken 9 = .ok (.return_, 1) := by decide +kernel
theorem dX7_toNextToken_0 : decode cX7_toNextToken 0 = .ok (.aload_n 0, 1) := by decide +kernel
theorem dX7_toNextToken_1 : decode cX7_toNextToken 1 = .ok (.aload_n 0, 1) := by decide +kernel
theorem dX7_toNextToken_2 : decode cX7_toNextToken 2 = .ok (.getfield 19, 3) := by decide +kernel
theorem dX7_toNextToken_5 : decode cX7_toNextToken 5 = .ok (.putfield 25, 3) := by decide +kernel
theorem dX7_toNextToken_8 : decode cX7_toNextToken 8 = .ok (.aload_n 0, 1) := by decide +kernel
theorem dX7_toNextToken_9 : decode cX7_toNextToken 9 = .ok (.getfield 25, 3) := by decide +kernel
theorem dX7_toNextToken_12 : decode cX7_toNextToken 12 = .ok (.aload_n 0, 1) := by decide +kernel
theorem dX7_toNextToken_13 : decode cX7_toNextToken 13 = .ok (.getfield 15, 3) := by decide +kernel
theorem dX7_toNextToken_16 : decode cX7_toNextToken 16 = .ok (.if_icmp .ge 28, 3) := by decide +kernel
theorem dX7_toNextToken_19 : decode cX7_toNextToken 19 = .ok (.aload_n 0, 1) := by decide +kernel
theorem dX7_toNextToken_20 : decode cX7_toNextToken 20 = .ok (.aload_n 0, 1) := by decide +kernel
theorem dX7_toNextToken_21 : decode cX7_toNextToken 21 = .ok (.getfield 25, 3) := by decide +kernel
theorem dX7_toNextToken_24 : decode cX7_toNextToken 24 = .ok (.invokevirtual 28, 3) := by decide +kernel
theorem dX7_toNextToken_27 : decode cX7_toNextToken 27 = .ok (.iconst 1, 1) := by decide +kernel
theorem dX7_toNextToken_28 : decode cX7_toNextToken 28 = .ok (.if_icmp .ne 16, 3) := by decide +kernel
theorem dX7_toNextToken_31 : decode cX7_toNextToken 31 = .ok (.aload_n 0, 1) := by decide +kernel
theorem dX7_toNextToken_32 : decode cX7_toNextToken 32 = .ok (.dup, 1) := by decide +kernel
theorem dX7_toNextToken_33 : decode cX7_toNextToken 33 = .ok (.getfield 25, 3) := by decide +kernel
theorem dX7_toNextToken_36 : decode cX7_toNextToken 36 = .ok (.iconst 1, 1) := by decide +kernel
theorem dX7_toNextToken_37 : decode cX7_toNextToken 37 = .ok (.iadd, 1) := by decide +kernel
theorem dX7_toNextToken_38 : decode cX7_toNextToken 38 = .ok (.putfield 25, 3) := by decide +kernel
theorem dX7_toNextToken_41 : decode cX7_toNextToken 41 = .ok (.goto (-33), 3) := by decide +kernel
theorem dX7_toNextToken_44 : decode cX7_toNextToken 44 = .ok (.aload_n 0, 1) := by decide +kernel
theorem dX7_toNextToken_45 : decode cX7_toNextToken 45 = .ok (.aload_n 0, 1) := by decide +kernel
theorem dX7_toNextToken_46 : decode cX7_toNextToken 46 = .ok (.aload_n 0, 1) := by decide +kernel
theorem dX7_toNextToken_47 : decode cX7_toNextToken 47 = .ok (.getfield 25, 3) := by decide +kernel
theorem dX7_toNextToken_50 : decode cX7_toNextToken 50 = .ok (.invokevirtual 28, 3) := by decide +kernel
theorem dX7_toNextToken_53 : decode cX7_toNextToken 53 = .ok (.putfield 32, 3) := by decide +kernel
theorem dX7_toNextToken_56 : decode cX7_toNextToken 56 = .ok (.aload_n 0, 1) := by decide +kernel
theorem dX7_toNextToken_57 : decode cX7_toNextToken 57 = .ok (.aload_n 0, 1) := by decide +kernel
theorem dX7_toNextToken_58 : decode cX7_toNextToken 58 = .ok (.getfield 32, 3) := by decide +kernel
theorem dX7_toNextToken_61 : decode cX7_toNextToken 61 = .ok (.ifCond .ne 10, 3) := by decide +kernel
theorem dX7_toNextToken_64 : decode cX7_toNextToken 64 = .ok (.aload_n 0, 1) := by decide +kernel
theorem dX7_toNextToken_65 : decode cX7_toNextToken 65 = .ok (.getfield 25, 3) := by decide +kernel
theorem dX7_toNextToken_68 : decode cX7_toNextToken 68 = .ok (.goto 9, 3) := by decide +kernel
theorem dX7_toNextToken_71 : decode cX7_toNextToken 71 = .ok (.aload_n 0, 1) := by decide +kernel
theorem dX7_toNextToken_72 : decode cX7_toNextToken 72 = .ok (.getfield 25, 3) := by decide +kernel
theorem dX7_toNextToken_75 : decode cX7_toNextToken 75 = .ok (.iconst 1, 1) := by decide +kernel
theorem dX7_toNextToken_76 : decode cX7_toNextToken 76 = .ok (.iadd, 1) := by decide +kernel
theorem dX7_toNextToken_77 : decode cX7_toNextToken 77 = .ok (.putfield 19, 3) := by decide +kernel
theorem dX7_toNextToken_80 : decode cX7_toNextToken 80 = .ok (.aload_n 0, 1) := by decide +kernel
theorem dX7_toNextToken_81 : decode cX7_toNextToken 81 = .ok (.getfield 19, 3) := by decide +kernel
theorem dX7_toNextToken_84 : decode cX7_toNextToken 84 = .ok (.aload_n 0, 1) := by decide +kernel
theorem dX7_toNextToken_85 : decode cX7_toNextToken 85 = .ok (.getfield 15, 3) := by decide +kernel
theorem dX7_toNextToken_88 : decode cX7_toNextToken 88 = .ok (.if_icmp .ge 47, 3) := by decide +kernel
theorem dX7_toNextToken_91 : decode cX7_toNextToken 91 = .ok (.aload_n 0, 1) := by decide +kernel
theorem dX7_toNextToken_92 : decode cX7_toNextToken 92 = .ok (.getfield 32, 3) := by decide +kernel
theorem dX7_toNextToken_95 : decode cX7_toNextToken 95 = .ok (.iconst 2, 1) := by decide +kernel
theorem dX7_toNextToken_96 : decode cX7_toNextToken 96 = .ok (.if_icmp .eq 11, 3) := by decide +kernel
theorem dX7_toNextToken_99 : decode cX7_toNextToken 99 = .ok (.aload_n 0, 1) := by decide +kernel
theorem dX7_toNextToken_100 : decode cX7_toNextToken 100 = .ok (.getfield 32, 3) := by decide +kernel
theorem dX7_toNextToken_103 : decode cX7_toNextToken 103 = .ok (.iconst 3, 1) := by decide +kernel
theorem dX7_toNextToken_104 : decode cX7_toNextToken 104 = .ok (.if_icmp .ne 31, 3) := by decide +kernel
theorem dX7_toNextToken_107 : decode cX7_toNextToken 107 = .ok (.aload_n 0, 1) := by decide +kernel
theorem dX7_toNextToken_108 : decode cX7_toNextToken 108 = .ok (.aload_n 0, 1) := by decide +kernel
theorem dX7_toNextToken_109 : decode cX7_toNextToken 109 = .ok (.getfield 19, 3) := by decide +kernel
theorem dX7_toNextToken_112 : decode cX7_toNextToken 112 = .ok (.invokevirtual 28, 3) := by decide +kernel
theorem dX7_toNextToken_115 : decode cX7_toNextToken 115 = .ok (.aload_n 0, 1) := by decide +kernel
theorem dX7_toNextToken_116 : decode cX7_toNextToken 116 = .ok (.getfield 32, 3) := by decide +kernel
theorem dX7_toNextToken_119 : decode cX7_toNextToken 119 = .ok (.if_icmp .ne 16, 3) := by decide +kernel
theorem dX7_toNextToken_122 : decode cX7_toNextToken 122 = .ok (.aload_n 0, 1) := by decide +kernel
theorem dX7_toNextToken_123 : decode cX7_toNextToken 123 = .ok (.dup, 1) := by decide +kernel
theorem dX7_toNextToken_124 : decode cX7_toNextToken 124 = .ok (.getfield 19, 3) := by decide +kernel
theorem dX7_toNextToken_127 : decode cX7_toNextToken 127 = .ok (.iconst 1, 1) := by decide +kernel
theorem dX7_toNextToken_128 : decode cX7_toNextToken 128 = .ok (.iadd, 1) := by decide +kernel
theorem dX7_toNextToken_129 : decode cX7_toNextToken 129 = .ok (.putfield 19, 3) := by decide +kernel
theorem dX7_toNextToken_132 : decode cX7_toNextToken 132 = .ok (.goto (-52), 3) := by decide +kernel
theorem dX7_toNextToken_135 : decode cX7_toNextToken 135 = .ok (.return_, 1) := by decide +kernel
theorem dX7_tokenStart_0 : decode cX7_tokenStart 0 = .ok (.aload_n 0, 1) := by decide +kernel
theorem dX7_tokenStart_1 : decode cX7_tokenStart 1 = .ok (.getfield 25, 3) := by decide +kernel
theorem dX7_tokenStart_4 : decode cX7_tokenStart 4 = .ok (.ireturn, 1) := by decide +kernel
theorem dX7_isAtEnd_0 : decode cX7_isAtEnd 0 = .ok (.aload_n 0, 1) := by decide +kernel
theorem dX7_isAtEnd_1 : decode cX7_isAtEnd 1 = .ok (.getfield 32, 3) := by decide +kernel
theorem dX7_isAtEnd_4 : decode cX7_isAtEnd 4 = .ok (.ifCond .ne 7, 3) := by decide +kernel
theorem dX7_isAtEnd_7 : decode cX7_isAtEnd 7 = .ok (.iconst 1, 1) := by decide +kernel
theorem dX7_isAtEnd_8 : decode cX7_isAtEnd 8 = .ok (.goto 4, 3) := by decide +kernel
theorem dX7_isAtEnd_11 : decode cX7_isAtEnd 11 = .ok (.iconst 0, 1) := by decide +kernel
theorem dX7_isAtEnd_12 : decode cX7_isAtEnd 12 = .ok (.ireturn, 1) := by decide +kernel
theorem dX7_isSemicolon_0 : decode cX7_isSemicolon 0 = .ok (.aload_n 0, 1) := by decide +kernel
theorem dX7_isSemicolon_1 : decode cX7_isSemicolon 1 = .ok (.getfield 32, 3) := by decide +kernel
theorem dX7_isSemicolon_4 : decode cX7_isSemicolon 4 = .ok (.iconst 4, 1) := by decide +kernel
theorem dX7_isSemicolon_5 : decode cX7_isSemicolon 5 = .ok (.if_icmp .ne 7, 3) := by decide +kernel
theorem dX7_isSemicolon_8 : decode cX7_isSemicolon 8 = .ok (.iconst 1, 1) := by decide +kernel
theorem dX7_isSemicolon_9 : decode cX7_isSemicolon 9 = .ok (.goto 4, 3) := by decide +kernel
theorem dX7_isSemicolon_12 : decode cX7_isSemicolon 12 = .ok (.iconst 0, 1) := by decide +kernel
theorem dX7_isSemicolon_13 : decode cX7_isSemicolon 13 = .ok (.ireturn, 1) := by decide +kernel
theorem dX7_isWord_0 : decode cX7_isWord 0 = .ok (.aload_n 0, 1) := by decide +kernel
theorem dX7_isWord_1 : decode cX7_isWord 1 = .ok (.getfield 32, 3) := by decide +kernel
theorem dX7_isWord_4 : decode cX7_isWord 4 = .ok (.iconst 2, 1) := by decide +kernel
theorem dX7_isWord_5 : decode cX7_isWord 5 = .ok (.if_icmp .ne 19, 3) := by decide +kernel
theorem dX7_isWord_8 : decode cX7_isWord 8 = .ok (.aload_n 0, 1) := by decide +kernel
theorem dX7_isWord_9 : decode cX7_isWord 9 = .ok (.getfield 19, 3) := by decide +kernel
theorem dX7_isWord_12 : decode cX7_isWord 12 = .ok (.aload_n 0, 1) := by decide +kernel
theorem dX7_isWord_13 : decode cX7_isWord 13 = .ok (.getfield 25, 3) := by decide +kernel
theorem dX7_isWord_16 : decode cX7_isWord 16 = .ok (.isub, 1) := by decide +kernel
theorem dX7_isWord_17 : decode cX7_isWord 17 = .ok (.aload_n 1, 1) := by decide +kernel
theorem dX7_isWord_18 : decode cX7_isWord 18 = .ok (.invokevirtual 35, 3) := by decide +kernel
theorem dX7_isWord_21 : decode cX7_isWord 21 = .ok (.if_icmp .eq 5, 3) := by decide +kernel
theorem dX7_isWord_24 : decode cX7_isWord 24 = .ok (.iconst 0, 1) := by decide +kernel
theorem dX7_isWord_25 : decode cX7_isWord 25 = .ok (.ireturn, 1) := by decide +kernel
theorem dX7_isWord_26 : decode cX7_isWord 26 = .ok (.iconst 0, 1) := by decide +kernel
theorem dX7_isWord_27 : decode cX7_isWord 27 = .ok (.istore_n 2, 1) := by decide +kernel
theorem dX7_isWord_28 : decode cX7_isWord 28 = .ok (.iload_n 2, 1) := by decide +kernel
theorem dX7_isWord_29 : decode cX7_isWord 29 = .ok (.aload_n 1, 1) := by decide +kernel
theorem dX7_isWord_30 : decode cX7_isWord 30 = .ok (.invokevirtual 35, 3) := by decide +kernel
theorem dX7_isWord_33 : decode cX7_isWord 33 = .ok (.if_icmp .ge 24, 3) := by decide +kernel
theorem dX7_isWord_36 : decode cX7_isWord 36 = .ok (.aload_n 0, 1) := by decide +kernel
theorem dX7_isWord_37 : decode cX7_isWord 37 = .ok (.iload_n 2, 1) := by decide +kernel
theorem dX7_isWord_38 : decode cX7_isWord 38 = .ok (.invokevirtual 40, 3) := by decide +kernel
theorem dX7_isWord_41 : decode cX7_isWord 41 = .ok (.aload_n 1, 1) := by decide +kernel
theorem dX7_isWord_42 : decode cX7_isWord 42 = .ok (.iload_n 2, 1) := by decide +kernel
theorem dX7_isWord_43 : decode cX7_isWord 43 = .ok (.invokevirtual 44, 3) := by decide +kernel
theorem dX7_isWord_46 : decode cX7_isWord 46 = .ok (.if_icmp .eq 5, 3) := by decide +kernel
theorem dX7_isWord_49 : decode cX7_isWord 49 = .ok (.iconst 0, 1) := by decide +kernel
theorem dX7_isWord_50 : decode cX7_isWord 50 = .ok (.ireturn, 1) := by decide +kernel
theorem dX7_isWord_51 : decode cX7_isWord 51 = .ok (.iinc 2 1, 3) := by decide +kernel
theorem dX7_isWord_54 : decode cX7_isWord 54 = .ok (.goto (-26), 3) := by decide +kernel
theorem dX7_isWord_57 : decode cX7_isWord 57 = .ok (.iconst 1, 1) := by decide +kernel
theorem dX7_isWord_58 : decode cX7_isWord 58 = .ok (.ireturn, 1) := by decide +kernel
theorem dX7_isDigits_0 : decode cX7_isDigits 0 = .ok (.aload_n 0, 1) := by decide +kernel
theorem dX7_isDigits_1 : decode cX7_isDigits 1 = .ok (.getfield 32, 3) := by decide +kernel
theorem dX7_isDigits_4 : decode cX7_isDigits 4 = .ok (.iconst 3, 1) := by decide +kernel
theorem dX7_isDigits_5 : decode cX7_isDigits 5 = .ok (.if_icmp .ne 20, 3) := by decide +kernel
theorem dX7_isDigits_8 : decode cX7_isDigits 8 = .ok (.aload_n 0, 1) := by decide +kernel
theorem dX7_isDigits_9 : decode cX7_isDigits 9 = .ok (.getfield 19, 3) := by decide +kernel
theorem dX7_isDigits_12 : decode cX7_isDigits 12 = .ok (.aload_n 0, 1) := by decide +kernel
theorem dX7_isDigits_13 : decode cX7_isDigits 13 = .ok (.getfield 25, 3) := by decide +kernel
theorem dX7_isDigits_16 : decode cX7_isDigits 16 = .ok (.isub, 1) := by decide +kernel
theorem dX7_isDigits_17 : decode cX7_isDigits 17 = .ok (.iload_n 1, 1) := by decide +kernel
theorem dX7_isDigits_18 : decode cX7_isDigits 18 = .ok (.iload_n 2, 1) := by decide +kernel
theorem dX7_isDigits_19 : decode cX7_isDigits 19 = .ok (.invokestatic 47, 3) := by decide +kernel
theorem dX7_isDigits_22 : decode cX7_isDigits 22 = .ok (.ifCond .ne 5, 3) := by decide +kernel
theorem dX7_isDigits_25 : decode cX7_isDigits 25 = .ok (.iconst 0, 1) := by decide +kernel
theorem dX7_isDigits_26 : decode cX7_isDigits 26 = .ok (.ireturn, 1) := by decide +kernel
theorem dX7_isDigits_27 : decode cX7_isDigits 27 = .ok (.iconst 0, 1) := by decide +kernel
theorem dX7_isDigits_28 : decode cX7_isDigits 28 = .ok (.istore 5, 2) := by decide +kernel
theorem dX7_isDigits_30 : decode cX7_isDigits 30 = .ok (.iload 5, 2) := by decide +kernel
theorem dX7_isDigits_32 : decode cX7_isDigits 32 = .ok (.aload_n 0, 1) := by decide +kernel
theorem dX7_isDigits_33 : decode cX7_isDigits 33 = .ok (.getfield 19, 3) := by decide +kernel
theorem dX7_isDigits_36 : decode cX7_isDigits 36 = .ok (.aload_n 0, 1) := by decide +kernel
theorem dX7_isDigits_37 : decode cX7_isDigits 37 = .ok (.getfield 25, 3) := by decide +kernel
theorem dX7_isDigits_40 : decode cX7_isDigits 40 = .ok (.isub, 1) := by decide +kernel
theorem dX7_isDigits_41 : decode cX7_isDigits 41 = .ok (.if_icmp .ge 26, 3) := by decide +kernel
theorem dX7_isDigits_44 : decode cX7_isDigits 44 = .ok (.aload_n 0, 1) := by decide +kernel
theorem dX7_isDigits_45 : decode cX7_isDigits 45 = .ok (.iload 5, 2) := by decide +kernel
theorem dX7_isDigits_47 : decode cX7_isDigits 47 = .ok (.invokevirtual 51, 3) := by decide +kernel
theorem dX7_isDigits_50 : decode cX7_isDigits 50 = .ok (.iload_n 3, 1) := by decide +kernel
theorem dX7_isDigits_51 : decode cX7_isDigits 51 = .ok (.iload 4, 2) := by decide +kernel
theorem dX7_isDigits_53 : decode cX7_isDigits 53 = .ok (.invokestatic 47, 3) := by decide +kernel
theorem dX7_isDigits_56 : decode cX7_isDigits 56 = .ok (.ifCond .ne 5, 3) := by decide +kernel
theorem dX7_isDigits_59 : decode cX7_isDigits 59 = .ok (.iconst 0, 1) := by decide +kernel
theorem dX7_isDigits_60 : decode cX7_isDigits 60 = .ok (.ireturn, 1) := by decide +kernel
theorem dX7_isDigits_61 : decode cX7_isDigits 61 = .ok (.iinc 5 1, 3) := by decide +kernel
theorem dX7_isDigits_64 : decode cX7_isDigits 64 = .ok (.goto (-34), 3) := by decide +kernel
theorem dX7_isDigits_67 : decode cX7_isDigits 67 = .ok (.iconst 1, 1) := by decide +kernel
theorem dX7_isDigits_68 : decode cX7_isDigits 68 = .ok (.ireturn, 1) := by decide +kernel
theorem dX7_tokenLength_0 : decode cX7_tokenLength 0 = .ok (.aload_n 0, 1) := by decide +kernel
theorem dX7_tokenLength_1 : decode cX7_tokenLength 1 = .ok (.getfield 19, 3) := by decide +kernel
theorem dX7_tokenLength_4 : decode cX7_tokenLength 4 = .ok (.aload_n 0, 1) := by decide +kernel
theorem dX7_tokenLength_5 : decode cX7_tokenLength 5 = .ok (.getfield 25, 3) := by decide +kernel
theorem dX7_tokenLength_8 : decode cX7_tokenLength 8 = .ok (.isub, 1) := by decide +kernel
theorem dX7_tokenLength_9 : decode cX7_tokenLength 9 = .ok (.ireturn, 1) := by decide +kernel
theorem dX7_digit_0 : decode cX7_digit 0 = .ok (.aload_n 0, 1) := by decide +kernel
theorem dX7_digit_1 : decode cX7_digit 1 = .ok (.iload_n 1, 1) := by decide +kernel
theorem dX7_digit_2 : decode cX7_digit 2 = .ok (.invokevirtual 40, 3) := by decide +kernel
theorem dX7_digit_5 : decode cX7_digit 5 = .ok (.bipush 48, 2) := by decide +kernel
theorem dX7_digit_7 : decode cX7_digit 7 = .ok (.isub, 1) := by decide +kernel
theorem dX7_digit_8 : decode cX7_digit 8 = .ok (.ireturn, 1) := by decide +kernel
theorem dX7_tokenLetter_0 : decode cX7_tokenLetter 0 = .ok (.aload_n 0, 1) := by decide +kernel
theorem dX7_tokenLetter_1 : decode cX7_tokenLetter 1 = .ok (.getfield 25, 3) := by decide +kernel
theorem dX7_tokenLetter_4 : decode cX7_tokenLetter 4 = .ok (.iload_n 1, 1) := by decide +kernel
theorem dX7_tokenLetter_5 : decode cX7_tokenLetter 5 = .ok (.iadd, 1) := by decide +kernel
theorem dX7_tokenLetter_6 : decode cX7_tokenLetter 6 = .ok (.istore_n 2, 1) := by decide +kernel
theorem dX7_tokenLetter_7 : decode cX7_tokenLetter 7 = .ok (.iload_n 2, 1) := by decide +kernel
theorem dX7_tokenLetter_8 : decode cX7_tokenLetter 8 = .ok (.ifCond .lt 21, 3) := by decide +kernel
theorem dX7_tokenLetter_11 : decode cX7_tokenLetter 11 = .ok (.iload_n 2, 1) := by decide +kernel
theorem dX7_tokenLetter_12 : decode cX7_tokenLetter 12 = .ok (.aload_n 0, 1) := by decide +kernel
theorem dX7_tokenLetter_13 : decode cX7_tokenLetter 13 = .ok (.getfield 9, 3) := by decide +kernel
theorem dX7_tokenLetter_16 : decode cX7_tokenLetter 16 = .ok (.arraylength, 1) := by decide +kernel
theorem dX7_tokenLetter_17 : decode cX7_tokenLetter 17 = .ok (.if_icmp .ge 12, 3) := by decide +kernel
theorem dX7_tokenLetter_20 : decode cX7_tokenLetter 20 = .ok (.aload_n 0, 1) := by decide +kernel
theorem dX7_tokenLetter_21 : decode cX7_tokenLetter 21 = .ok (.getfield 9, 3) := by decide +kernel
theorem dX7_tokenLetter_24 : decode cX7_tokenLetter 24 = .ok (.iload_n 2, 1) := by decide +kernel
theorem dX7_tokenLetter_25 : decode cX7_tokenLetter 25 = .ok (.caload, 1) := by decide +kernel
theorem dX7_tokenLetter_26 : decode cX7_tokenLetter 26 = .ok (.goto 5, 3) := by decide +kernel
theorem dX7_tokenLetter_29 : decode cX7_tokenLetter 29 = .ok (.bipush 32, 2) := by decide +kernel
theorem dX7_tokenLetter_31 : decode cX7_tokenLetter 31 = .ok (.ireturn, 1) := by decide +kernel
theorem dX7_kindAt_0 : decode cX7_kindAt 0 = .ok (.iload_n 1, 1) := by decide +kernel
theorem dX7_kindAt_1 : decode cX7_kindAt 1 = .ok (.ifCond .lt 20, 3) := by decide +kernel
theorem dX7_kindAt_4 : decode cX7_kindAt 4 = .ok (.iload_n 1, 1) := by decide +kernel
theorem dX7_kindAt_5 : decode cX7_kindAt 5 = .ok (.aload_n 0, 1) := by decide +kernel
theorem dX7_kindAt_6 : decode cX7_kindAt 6 = .ok (.getfield 15, 3) := by decide +kernel
theorem dX7_kindAt_9 : decode cX7_kindAt 9 = .ok (.if_icmp .ge 12, 3) := by decide +kernel
theorem dX7_kindAt_12 : decode cX7_kindAt 12 = .ok (.iload_n 1, 1) := by decide +kernel
theorem dX7_kindAt_13 : decode cX7_kindAt 13 = .ok (.aload_n 0, 1) := by decide +kernel
theorem dX7_kindAt_14 : decode cX7_kindAt 14 = .ok (.getfield 9, 3) := by decide +kernel
theorem dX7_kindAt_17 : decode cX7_kindAt 17 = .ok (.arraylength, 1) := by decide +kernel
theorem dX7_kindAt_18 : decode cX7_kindAt 18 = .ok (.if_icmp .lt 5, 3) := by decide +kernel
theorem dX7_kindAt_21 : decode cX7_kindAt 21 = .ok (.iconst 0, 1) := by decide +kernel
theorem dX7_kindAt_22 : decode cX7_kindAt 22 = .ok (.ireturn, 1) := by decide +kernel
theorem dX7_kindAt_23 : decode cX7_kindAt 23 = .ok (.aload_n 0, 1) := by decide +kernel
theorem dX7_kindAt_24 : decode cX7_kindAt 24 = .ok (.getfield 9, 3) := by decide +kernel
theorem dX7_kindAt_27 : decode cX7_kindAt 27 = .ok (.iload_n 1, 1) := by decide +kernel
theorem dX7_kindAt_28 : decode cX7_kindAt 28 = .ok (.caload, 1) := by decide +kernel
theorem dX7_kindAt_29 : decode cX7_kindAt 29 = .ok (.istore_n 2, 1) := by decide +kernel
theorem dX7_kindAt_30 : decode cX7_kindAt 30 = .ok (.iload_n 2, 1) := by decide +kernel
theorem dX7_kindAt_31 : decode cX7_kindAt 31 = .ok (.bipush 97, 2) := by decide +kernel
theorem dX7_kindAt_33 : decode cX7_kindAt 33 = .ok (.if_icmp .lt 11, 3) := by decide +kernel
theorem dX7_kindAt_36 : decode cX7_kindAt 36 = .ok (.iload_n 2, 1) := by decide +kernel
theorem dX7_kindAt_37 : decode cX7_kindAt 37 = .ok (.bipush 122, 2) := by decide +kernel
theorem dX7_kindAt_39 : decode cX7_kindAt 39 = .ok (.if_icmp .gt 5, 3) := by decide +kernel
theorem dX7_kindAt_42 : decode cX7_kindAt 42 = .ok (.iconst 2, 1) := by decide +kernel
theorem dX7_kindAt_43 : decode cX7_kindAt 43 = .ok (.ireturn, 1) := by decide +kernel
theorem dX7_kindAt_44 : decode cX7_kindAt 44 = .ok (.iload_n 2, 1) := by decide +kernel
theorem dX7_kindAt_45 : decode cX7_kindAt 45 = .ok (.bipush 48, 2) := by decide +kernel
theorem dX7_kindAt_47 : decode cX7_kindAt 47 = .ok (.if_icmp .lt 11, 3) := by decide +kernel
theorem dX7_kindAt_50 : decode cX7_kindAt 50 = .ok (.iload_n 2, 1) := by decide +kernel
theorem dX7_kindAt_51 : decode cX7_kindAt 51 = .ok (.bipush 57, 2) := by decide +kernel
theorem dX7_kindAt_53 : decode cX7_kindAt 53 = .ok (.if_icmp .gt 5, 3) := by decide +kernel
theorem dX7_kindAt_56 : decode cX7_kindAt 56 = .ok (.iconst 3, 1) := by decide +kernel
theorem dX7_kindAt_57 : decode cX7_kindAt 57 = .ok (.ireturn, 1) := by decide +kernel
theorem dX7_kindAt_58 : decode cX7_kindAt 58 = .ok (.iload_n 2, 1) := by decide +kernel
theorem dX7_kindAt_59 : decode cX7_kindAt 59 = .ok (.bipush 32, 2) := by decide +kernel
theorem dX7_kindAt_61 : decode cX7_kindAt 61 = .ok (.if_icmp .ne 5, 3) := by decide +kernel
theorem dX7_kindAt_64 : decode cX7_kindAt 64 = .ok (.iconst 1, 1) := by decide +kernel
theorem dX7_kindAt_65 : decode cX7_kindAt 65 = .ok (.ireturn, 1) := by decide +kernel
theorem dX7_kindAt_66 : decode cX7_kindAt 66 = .ok (.iload_n 2, 1) := by decide +kernel
theorem dX7_kindAt_67 : decode cX7_kindAt 67 = .ok (.bipush 59, 2) := by decide +kernel
theorem dX7_kindAt_69 : decode cX7_kindAt 69 = .ok (.if_icmp .ne 7, 3) := by decide +kernel
theorem dX7_kindAt_72 : decode cX7_kindAt 72 = .ok (.iconst 4, 1) := by decide +kernel
theorem dX7_kindAt_73 : decode cX7_kindAt 73 = .ok (.goto 4, 3) := by decide +kernel
theorem dX7_kindAt_76 : decode cX7_kindAt 76 = .ok (.iconst 5, 1) := by decide +kernel
theorem dX7_kindAt_77 : decode cX7_kindAt 77 = .ok (.ireturn, 1) := by decide +kernel
theorem dX8_init_0 : decode cX8_init 0 = .ok (.aload_n 0, 1) := by decide +kernel
theorem dX8_init_1 : decode cX8_init 1 = .ok (.invokespecial 3, 3) := by decide +kernel
theorem dX8_init_4 : decode cX8_init 4 = .ok (.aload_n 0, 1) := by decide +kernel
theorem dX8_init_5 : decode cX8_init 5 = .ok (.bipush 48, 2) := by decide +kernel
theorem dX8_init_7 : decode cX8_init 7 = .ok (.newarray .int, 2) := by decide +kernel
theorem dX8_init_9 : decode cX8_init 9 = .ok (.putfield 9, 3) := by decide +kernel
theorem dX8_init_12 : decode cX8_init 12 = .ok (.aload_n 0, 1) := by decide +kernel
theorem dX8_init_13 : decode cX8_init 13 = .ok (.bipush 48, 2) := by decide +kernel
theorem dX8_init_15 : decode cX8_init 15 = .ok (.newarray .int, 2) := by decide +kernel
theorem dX8_init_17 : decode cX8_init 17 = .ok (.putfield 15, 3) := by decide +kernel
theorem dX8_init_20 : decode cX8_init 20 = .ok (.return_, 1) := by decide +kernel
theorem dX8_spread_0 : decode cX8_spread 0 = .ok (.aload_n 0, 1) := by decide +kernel
theorem dX8_spread_1 : decode cX8_spread 1 = .ok (.getfield 15, 3) := by decide +kernel
theorem dX8_spread_4 : decode cX8_spread 4 = .ok (.bipush (-9), 2) := by decide +kernel
theorem dX8_spread_6 : decode cX8_spread 6 = .ok (.invokestatic 18, 3) := by decide +kernel
theorem dX8_spread_9 : decode cX8_spread 9 = .ok (.aload_n 0, 1) := by decide +kernel
theorem dX8_spread_10 : decode cX8_spread 10 = .ok (.iconst 0, 1) := by decide +kernel
theorem dX8_spread_11 : decode cX8_spread 11 = .ok (.putfield 24, 3) := by decide +kernel
theorem dX8_spread_14 : decode cX8_spread 14 = .ok (.aload_n 0, 1) := by decide +kernel
theorem dX8_spread_15 : decode cX8_spread 15 = .ok (.iload_n 2, 1) := by decide +kernel
theorem dX8_spread_16 : decode cX8_spread 16 = .ok (.iconst 0, 1) := by decide +kernel
theorem dX8_spread_17 : decode cX8_spread 17 = .ok (.invokevirtual 28, 3) := by decide +kernel
theorem dX8_spread_20 : decode cX8_spread 20 = .ok (.iconst 0, 1) := by decide +kernel
theorem dX8_spread_21 : decode cX8_spread 21 = .ok (.istore_n 3, 1) := by decide +kernel
theorem dX8_spread_22 : decode cX8_spread 22 = .ok (.iload_n 3, 1) := by decide +kernel
theorem dX8_spread_23 : decode cX8_spread 23 = .ok (.aload_n 0, 1) := by decide +kernel
theorem dX8_spread_24 : decode cX8_spread 24 = .ok (.getfield 24, 3) := by decide +kernel
theorem dX8_spread_27 : decode cX8_spread 27 = .ok (.if_icmp .ge 86, 3) := by decide +kernel
theorem dX8_spread_30 : decode cX8_spread 30 = .ok (.iload_n 3, 1) := by decide +kernel
theorem dX8_spread_31 : decode cX8_spread 31 = .ok (.bipush 48, 2) := by decide +kernel
theorem dX8_spread_33 : decode cX8_spread 33 = .ok (.if_icmp .ge 80, 3) := by decide +kernel
theorem dX8_spread_36 : decode cX8_spread 36 = .ok (.aload_n 0, 1) := by decide +kernel
theorem dX8_spread_37 : decode cX8_spread 37 = .ok (.getfield 9, 3) := by decide +kernel
theorem dX8_spread_40 : decode cX8_spread 40 = .ok (.iload_n 3, 1) := by decide +kernel
theorem dX8_spread_41 : decode cX8_spread 41 = .ok (.iaload, 1) := by decide +kernel
theorem dX8_spread_42 : decode cX8_spread 42 = .ok (.istore 4, 2) := by decide +kernel
theorem dX8_spread_44 : decode cX8_spread 44 = .ok (.iconst 0, 1) := by decide +kernel
theorem dX8_spread_45 : decode cX8_spread 45 = .ok (.istore 5, 2) := by decide +kernel
theorem dX8_spread_47 : decode cX8_spread 47 = .ok (.iload 5, 2) := by decide +kernel
theorem dX8_spread_49 : decode cX8_spread 49 = .ok (.iconst 4, 1) := by decide +kernel
theorem dX8_spread_50 : decode cX8_spread 50 = .ok (.if_icmp .ge 57, 3) := by decide +kernel
theorem dX8_spread_53 : decode cX8_spread 53 = .ok (.iload 4, 2) := by decide +kernel
theorem dX8_spread_55 : decode cX8_spread 55 = .ok (.iload 5, 2) := by decide +kernel
theorem dX8_spread_57 : decode cX8_spread 57 = .ok (.invokestatic 32, 3) := by decide +kernel
theorem dX8_spread_60 : decode cX8_spread 60 = .ok (.istore 6, 2) := by decide +kernel
theorem dX8_spread_62 : decode cX8_spread 62 = .ok (.aload_n 1, 1) := by decide +kernel
theorem dX8_spread_63 : decode cX8_spread 63 = .ok (.iload 6, 2) := by decide +kernel
theorem dX8_spread_65 : decode cX8_spread 65 = .ok (.invokevirtual 36, 3) := by decide +kernel
theorem dX8_spread_68 : decode cX8_spread 68 = .ok (.aload_n 1, 1) := by decide +kernel
theorem dX8_spread_69 : decode cX8_spread 69 = .ok (.iload_n 2, 1) := by decide +kernel
theorem dX8_spread_70 : decode cX8_spread 70 = .ok (.invokevirtual 36, 3) := by decide +kernel
theorem dX8_spread_73 : decode cX8_spread 73 = .ok (.if_icmp .ne 28, 3) := by decide +kernel
theorem dX8_spread_76 : decode cX8_spread 76 = .ok (.aload_n 0, 1) := by decide +kernel
theorem dX8_spread_77 : decode cX8_spread 77 = .ok (.iload 6, 2) := by decide +kernel
theorem dX8_spread_79 : decode cX8_spread 79 = .ok (.invokevirtual 42, 3) := by decide +kernel
theorem dX8_spread_82 : decode cX8_spread 82 = .ok (.bipush (-9), 2) := by decide +kernel
theorem dX8_spread_84 : decode cX8_spread 84 = .ok (.if_icmp .ne 17, 3) := by decide +kernel
theorem dX8_spread_87 : decode cX8_spread 87 = .ok (.aload_n 0, 1) := by decide +kernel
theorem dX8_spread_88 : decode cX8_spread 88 = .ok (.iload 6, 2) := by decide +kernel
theorem dX8_spread_90 : decode cX8_spread 90 = .ok (.aload_n 0, 1) := by decide +kernel
theorem dX8_spread_91 : decode cX8_spread 91 = .ok (.iload 4, 2) := by decide +kernel
theorem dX8_spread_93 : decode cX8_spread 93 = .ok (.invokevirtual 42, 3) := by decide +kernel
theorem dX8_spread_96 : decode cX8_spread 96 = .ok (.iconst 1, 1) := by decide +kernel
theorem dX8_spread_97 : decode cX8_spread 97 = .ok (.iadd, 1) := by decide +kernel
theorem dX8_spread_98 : decode cX8_spread 98 = .ok (.invokevirtual 28, 3) := by decide +kernel
theorem dX8_spread_101 : decode cX8_spread 101 = .ok (.iinc 5 1, 3) := by decide +kernel
theorem dX8_spread_104 : decode cX8_spread 104 = .ok (.goto (-57), 3) := by decide +kernel
theorem dX8_spread_107 : decode cX8_spread 107 = .ok (.iinc 3 1, 3) := by decide +kernel
theorem dX8_spread_110 : decode cX8_spread 110 = .ok (.goto (-88), 3) := by decide +kernel
theorem dX8_spread_113 : decode cX8_spread 113 = .ok (.return_, 1) := by decide +kernel
theorem dX8_size_0 : decode cX8_size 0 = .ok (.aload_n 0, 1) := by decide +kernel
theorem dX8_size_1 : decode cX8_size 1 = .ok (.getfield 24, 3) := by decide +kernel
theorem dX8_size_4 : decode cX8_size 4 = .ok (.ireturn, 1) := by decide +kernel
theorem dX8_place_0 : decode cX8_place 0 = .ok (.aload_n 0, 1) := by decide +kernel
theorem dX8_place_1 : decode cX8_place 1 = .ok (.getfield 9, 3) := by decide +kernel
theorem dX8_place_4 : decode cX8_place 4 = .ok (.iload_n 1, 1) := by decide +kernel
theorem dX8_place_5 : decode cX8_place 5 = .ok (.invokestatic 45, 3) := by decide +kernel
theorem dX8_place_8 : decode cX8_place 8 = .ok (.ireturn, 1) := by decide +kernel
theorem dX8_stepsTo_0 : decode cX8_stepsTo 0 = .ok (.iload_n 1, 1) := by decide +kernel
theorem dX8_stepsTo_1 : decode cX8_stepsTo 1 = .ok (.ifCond .lt 18, 3) := by decide +kernel
theorem dX8_stepsTo_4 : decode cX8_stepsTo 4 = .ok (.iload_n 1, 1) := by decide +kernel
theorem dX8_stepsTo_5 : decode cX8_stepsTo 5 = .ok (.bipush 48, 2) := by decide +kernel
theorem dX8_stepsTo_7 : decode cX8_stepsTo 7 = .ok (.if_icmp .ge 12, 3) := by decide +kernel
theorem dX8_stepsTo_10 : decode cX8_stepsTo 10 = .ok (.aload_n 0, 1) := by decide +kernel
theorem dX8_stepsTo_11 : decode cX8_stepsTo 11 = .ok (.getfield 15, 3) := by decide +kernel
theorem dX8_stepsTo_14 : decode cX8_stepsTo 14 = .ok (.iload_n 1, 1) := by decide +kernel
theorem dX8_stepsTo_15 : decode cX8_stepsTo 15 = .ok (.iaload, 1) := by decide +kernel
theorem dX8_stepsTo_16 : decode cX8_stepsTo 16 = .ok (.goto 5, 3) := by decide +kernel
theorem dX8_stepsTo_19 : decode cX8_stepsTo 19 = .ok (.bipush (-9), 2) := by decide +kernel
theorem dX8_stepsTo_21 : decode cX8_stepsTo 21 = .ok (.ireturn, 1) := by decide +kernel
theorem dX8_reach_0 : decode cX8_reach 0 = .ok (.iload_n 1, 1) := by decide +kernel
theorem dX8_reach_1 : decode cX8_reach 1 = .ok (.ifCond .lt 45, 3) := by decide +kernel
theorem dX8_reach_4 : decode cX8_reach 4 = .ok (.iload_n 1, 1) := by decide +kernel
theorem dX8_reach_5 : decode cX8_reach 5 = .ok (.bipush 48, 2) := by decide +kernel
theorem dX8_reach_7 : decode cX8_reach 7 = .ok (.if_icmp .ge 39, 3) := by decide +kernel
theorem dX8_reach_10 : decode cX8_reach 10 = .ok (.aload_n 0, 1) := by decide +kernel
theorem dX8_reach_11 : decode cX8_reach 11 = .ok (.getfield 24, 3) := by decide +kernel
theorem dX8_reach_14 : decode cX8_reach 14 = .ok (.bipush 48, 2) := by decide +kernel
theorem dX8_reach_16 : decode cX8_reach 16 = .ok (.if_icmp .ge 30, 3) := by decide +kernel
theorem dX8_reach_19 : decode cX8_reach 19 = .ok (.aload_n 0, 1) := by decide +kernel
theorem dX8_reach_20 : decode cX8_reach 20 = .ok (.getfield 9, 3) := by decide +kernel
theorem dX8_reach_23 : decode cX8_reach 23 = .ok (.aload_n 0, 1) := by decide +kernel
theorem dX8_reach_24 : decode cX8_reach 24 = .ok (.getfield 24, 3) := by decide +kernel
theorem dX8_reach_27 : decode cX8_reach 27 = .ok (.iload_n 1, 1) := by decide +kernel
theorem dX8_reach_28 : decode cX8_reach 28 = .ok (.iastore, 1) := by decide +kernel
theorem dX8_reach_29 : decode cX8_reach 29 = .ok (.aload_n 0, 1) := by decide +kernel
theorem dX8_reach_30 : decode cX8_reach 30 = .ok (.getfield 15, 3) := by decide +kernel
theorem dX8_reach_33 : decode cX8_reach 33 = .ok (.iload_n 1, 1) := by decide +kernel
theorem dX8_reach_34 : decode cX8_reach 34 = .ok (.iload_n 2, 1) := by decide +kernel
theorem dX8_reach_35 : decode cX8_reach 35 = .ok (.iastore, 1) := by decide +kernel
theorem dX8_reach_36 : decode cX8_reach 36 = .ok (.aload_n 0, 1) := by decide +kernel
theorem dX8_reach_37 : decode cX8_reach 37 = .ok (.dup, 1) := by decide +kernel
theorem dX8_reach_38 : decode cX8_reach 38 = .ok (.getfield 24, 3) := by decide +kernel
theorem dX8_reach_41 : decode cX8_reach 41 = .ok (.iconst 1, 1) := by decide +kernel
theorem dX8_reach_42 : decode cX8_reach 42 = .ok (.iadd, 1) := by decide +kernel
theorem dX8_reach_43 : decode cX8_reach 43 = .ok (.putfield 24, 3) := by decide +kernel
theorem dX8_reach_46 : decode cX8_reach 46 = .ok (.return_, 1) := by decide +kernel
theorem dX9_init_0 : decode cX9_init 0 = .ok (.aload_n 0, 1) := by decide +kernel
theorem dX9_init_1 : decode cX9_init 1 = .ok (.invokespecial 3, 3) := by decide +kernel
theorem dX9_init_4 : decode cX9_init 4 = .ok (.aload_n 0, 1) := by decide +kernel
theorem dX9_init_5 : decode cX9_init 5 = .ok (.new 9, 3) := by decide +kernel
theorem dX9_init_8 : decode cX9_init 8 = .ok (.dup, 1) := by decide +kernel
theorem dX9_init_9 : decode cX9_init 9 = .ok (.invokespecial 11, 3) := by decide +kernel
theorem dX9_init_12 : decode cX9_init 12 = .ok (.putfield 12, 3) := by decide +kernel
theorem dX9_init_15 : decode cX9_init 15 = .ok (.aload_n 0, 1) := by decide +kernel
theorem dX9_init_16 : decode cX9_init 16 = .ok (.new 16, 3) := by decide +kernel
theorem dX9_init_19 : decode cX9_init 19 = .ok (.dup, 1) := by decide +kernel
theorem dX9_init_20 : decode cX9_init 20 = .ok (.invokespecial 18, 3) := by decide +kernel
theorem dX9_init_23 : decode cX9_init 23 = .ok (.putfield 19, 3) := by decide +kernel
theorem dX9_init_26 : decode cX9_init 26 = .ok (.aload_n 0, 1) := by decide +kernel
theorem dX9_init_27 : decode cX9_init 27 = .ok (.new 23, 3) := by decide +kernel
theorem dX9_init_30 : decode cX9_init 30 = .ok (.dup, 1) := by decide +kernel
theorem dX9_init_31 : decode cX9_init 31 = .ok (.invokespecial 25, 3) := by decide +kernel
theorem dX9_init_34 : decode cX9_init 34 = .ok (.putfield 26, 3) := by decide +kernel
theorem dX9_init_37 : decode cX9_init 37 = .ok (.aload_n 0, 1) := by decide +kernel
theorem dX9_init_38 : decode cX9_init 38 = .ok (.new 30, 3) := by decide +kernel
theorem dX9_init_41 : decode cX9_init 41 = .ok (.dup, 1) := by decide +kernel
theorem dX9_init_42 : decode cX9_init 42 = .ok (.invokespecial 32, 3) := by decide +kernel
theorem dX9_init_45 : decode cX9_init 45 = .ok (.putfield 33, 3) := by decide +kernel
theorem dX9_init_48 : decode cX9_init 48 = .ok (.aload_n 0, 1) := by decide +kernel
theorem dX9_init_49 : decode cX9_init 49 = .ok (.new 37, 3) := by decide +kernel
theorem dX9_init_52 : decode cX9_init 52 = .ok (.dup, 1) := by decide +kernel
theorem dX9_init_53 : decode cX9_init 53 = .ok (.invokespecial 39, 3) := by decide +kernel
theorem dX9_init_56 : decode cX9_init 56 = .ok (.putfield 40, 3) := by decide +kernel
theorem dX9_init_59 : decode cX9_init 59 = .ok (.aload_n 0, 1) := by decide +kernel
theorem dX9_init_60 : decode cX9_init 60 = .ok (.new 44, 3) := by decide +kernel
theorem dX9_init_63 : decode cX9_init 63 = .ok (.dup, 1) := by decide +kernel
theorem dX9_init_64 : decode cX9_init 64 = .ok (.invokespecial 46, 3) := by decide +kernel
theorem dX9_init_67 : decode cX9_init 67 = .ok (.putfield 47, 3) := by decide +kernel
theorem dX9_init_70 : decode cX9_init 70 = .ok (.aload_n 0, 1) := by decide +kernel
theorem dX9_init_71 : decode cX9_init 71 = .ok (.new 51, 3) := by decide +kernel
theorem dX9_init_74 : decode cX9_init 74 = .ok (.dup, 1) := by decide +kernel
theorem dX9_init_75 : decode cX9_init 75 = .ok (.invokespecial 53, 3) := by decide +kernel
theorem dX9_init_78 : decode cX9_init 78 = .ok (.putfield 54, 3) := by decide +kernel
theorem dX9_init_81 : decode cX9_init 81 = .ok (.aload_n 0, 1) := by decide +kernel
theorem dX9_init_82 : decode cX9_init 82 = .ok (.new 58, 3) := by decide +kernel
theorem dX9_init_85 : decode cX9_init 85 = .ok (.dup, 1) := by decide +kernel
theorem dX9_init_86 : decode cX9_init 86 = .ok (.invokespecial 60, 3) := by decide +kernel
theorem dX9_init_89 : decode cX9_init 89 = .ok (.putfield 61, 3) := by decide +kernel
theorem dX9_init_92 : decode cX9_init 92 = .ok (.aload_n 0, 1) := by decide +kernel
theorem dX9_init_93 : decode cX9_init 93 = .ok (.iconst 2, 1) := by decide +kernel
theorem dX9_init_94 : decode cX9_init 94 = .ok (.bipush 60, 2) := by decide +kernel
theorem dX9_init_96 : decode cX9_init 96 = .ok (.multianewarray 65 2, 4) := by decide +kernel
theorem dX9_init_100 : decode cX9_init 100 = .ok (.putfield 67, 3) := by decide +kernel
theorem dX9_init_103 : decode cX9_init 103 = .ok (.aload_n 0, 1) := by decide +kernel
theorem dX9_init_104 : decode cX9_init 104 = .ok (.iconst 2, 1) := by decide +kernel
theorem dX9_init_105 : decode cX9_init 105 = .ok (.newarray .boolean, 2) := by decide +kernel
theorem dX9_init_107 : decode cX9_init 107 = .ok (.putfield 70, 3) := by decide +kernel
theorem dX9_init_110 : decode cX9_init 110 = .ok (.return_, 1) := by decide +kernel
theorem dX9_type_0 : decode cX9_type 0 = .ok (.iload_n 1, 1) := by decide +kernel
theorem dX9_type_1 : decode cX9_type 1 = .ok (.iconst 0, 1) := by decide +kernel
theorem dX9_type_2 : decode cX9_type 2 = .ok (.sipush 255, 3) := by decide +kernel
theorem dX9_type_5 : decode cX9_type 5 = .ok (.invokestatic 74, 3) := by decide +kernel
theorem dX9_type_8 : decode cX9_type 8 = .ok (.ifCond .ne 5, 3) := by decide +kernel
theorem dX9_type_11 : decode cX9_type 11 = .ok (.iconst (-1), 1) := by decide +kernel
theorem dX9_type_12 : decode cX9_type 12 = .ok (.ireturn, 1) := by decide +kernel
theorem dX9_type_13 : decode cX9_type 13 = .ok (.aload_n 0, 1) := by decide +kernel
theorem dX9_type_14 : decode cX9_type 14 = .ok (.getfield 19, 3) := by decide +kernel
theorem dX9_type_17 : decode cX9_type 17 = .ok (.invokevirtual 78, 3) := by decide +kernel
theorem dX9_type_20 : decode cX9_type 20 = .ok (.bipush 120, 2) := by decide +kernel
theorem dX9_type_22 : decode cX9_type 22 = .ok (.if_icmp .lt 6, 3) := by decide +kernel
theorem dX9_type_25 : decode cX9_type 25 = .ok (.bipush (-3), 2) := by decide +kernel
theorem dX9_type_27 : decode cX9_type 27 = .ok (.ireturn, 1) := by decide +kernel
theorem dX9_type_28 : decode cX9_type 28 = .ok (.aload_n 0, 1) := by decide +kernel
theorem dX9_type_29 : decode cX9_type 29 = .ok (.getfield 19, 3) := by decide +kernel
theorem dX9_type_32 : decode cX9_type 32 = .ok (.iload_n 1, 1) := by decide +kernel
theorem dX9_type_33 : decode cX9_type 33 = .ok (.i2c, 1) := by decide +kernel
theorem dX9_type_34 : decode cX9_type 34 = .ok (.invokevirtual 82, 3) := by decide +kernel
theorem dX9_type_37 : decode cX9_type 37 = .ok (.aload_n 0, 1) := by decide +kernel
theorem dX9_type_38 : decode cX9_type 38 = .ok (.getfield 19, 3) := by decide +kernel
theorem dX9_type_41 : decode cX9_type 41 = .ok (.invokevirtual 78, 3) := by decide +kernel
theorem dX9_type_44 : decode cX9_type 44 = .ok (.ireturn, 1) := by decide +kernel
theorem dX9_clear_0 : decode cX9_clear 0 = .ok (.aload_n 0, 1) := by decide +kernel
theorem dX9_clear_1 : decode cX9_clear 1 = .ok (.getfield 19, 3) := by decide +kernel
theorem dX9_clear_4 : decode cX9_clear 4 = .ok (.invokevirtual 78, 3) := by decide +kernel
theorem dX9_clear_7 : decode cX9_clear 7 = .ok (.istore_n 1, 1) := by decide +kernel
theorem dX9_clear_8 : decode cX9_clear 8 = .ok (.aload_n 0, 1) := by decide +kernel
theorem dX9_clear_9 : decode cX9_clear 9 = .ok (.getfield 19, 3) := by decide +kernel
theorem dX9_clear_12 : decode cX9_clear 12 = .ok (.invokevirtual 86, 3) := by decide +kernel
theorem dX9_clear_15 : decode cX9_clear 15 = .ok (.iload_n 1, 1) := by decide +kernel
theorem dX9_clear_16 : decode cX9_clear 16 = .ok (.ireturn, 1) := by decide +kernel
theorem dX9_tells_0 : decode cX9_tells 0 = .ok (.aload_n 0, 1) := by decide +kernel
theorem dX9_tells_1 : decode cX9_tells 1 = .ok (.getfield 26, 3) := by decide +kernel
theorem dX9_tells_4 : decode cX9_tells 4 = .ok (.aload_n 0, 1) := by decide +kernel
theorem dX9_tells_5 : decode cX9_tells 5 = .ok (.getfield 19, 3) := by decide +kernel
theorem dX9_tells_8 : decode cX9_tells 8 = .ok (.invokevirtual 89, 3) := by decide +kernel
theorem dX9_tells_11 : decode cX9_tells 11 = .ok (.istore_n 1, 1) := by decide +kernel
theorem dX9_tells_12 : decode cX9_tells 12 = .ok (.iload_n 1, 1) := by decide +kernel
theorem dX9_tells_13 : decode cX9_tells 13 = .ok (.ifCond .ge 5, 3) := by decide +kernel
theorem dX9_tells_16 : decode cX9_tells 16 = .ok (.iload_n 1, 1) := by decide +kernel
theorem dX9_tells_17 : decode cX9_tells 17 = .ok (.ireturn, 1) := by decide +kernel
theorem dX9_tells_18 : decode cX9_tells 18 = .ok (.aload_n 0, 1) := by decide +kernel
theorem dX9_tells_19 : decode cX9_tells 19 = .ok (.getfield 61, 3) := by decide +kernel
theorem dX9_tells_22 : decode cX9_tells 22 = .ok (.aload_n 0, 1) := by decide +kernel
theorem dX9_tells_23 : decode cX9_tells 23 = .ok (.getfield 12, 3) := by decide +kernel
theorem dX9_tells_26 : decode cX9_tells 26 = .ok (.invokevirtual 93, 3) := by decide +kernel
theorem dX9_tells_29 : decode cX9_tells 29 = .ok (.aload_n 0, 1) := by decide +kernel
theorem dX9_tells_30 : decode cX9_tells 30 = .ok (.getfield 12, 3) := by decide +kernel
theorem dX9_tells_33 : decode cX9_tells 33 = .ok (.aload_n 0, 1) := by decide +kernel
theorem dX9_tells_34 : decode cX9_tells 34 = .ok (.getfield 26, 3) := by decide +kernel
theorem dX9_tells_37 : decode cX9_tells 37 = .ok (.invokevirtual 97, 3) := by decide +kernel
theorem dX9_tells_40 : decode cX9_tells 40 = .ok (.invokevirtual 101, 3) := by decide +kernel
theorem dX9_tells_43 : decode cX9_tells 43 = .ok (.aload_n 0, 1) := by decide +kernel
theorem dX9_tells_44 : decode cX9_tells 44 = .ok (.getfield 19, 3) := by decide +kernel
theorem dX9_tells_47 : decode cX9_tells 47 = .ok (.invokevirtual 86, 3) := by decide +kernel
theorem dX9_tells_50 : decode cX9_tells 50 = .ok (.aload_n 0, 1) := by decide +kernel
theorem dX9_tells_51 : decode cX9_tells 51 = .ok (.getfield 33, 3) := by decide +kernel
theorem dX9_tells_54 : decode cX9_tells 54 = .ok (.aload_n 0, 1) := by decide +kernel
theorem dX9_tells_55 : decode cX9_tells 55 = .ok (.getfield 12, 3) := by decide +kernel
theorem dX9_tells_58 : decode cX9_tells 58 = .ok (.invokevirtual 104, 3) := by decide +kernel
theorem dX9_tells_61 : decode cX9_tells 61 = .ok (.iload_n 1, 1) := by decide +kernel
theorem dX9_tells_62 : decode cX9_tells 62 = .ok (.ireturn, 1) := by decide +kernel
theorem dX9_paints_0 : decode cX9_paints 0 = .ok (.aload_n 0, 1) := by decide +kernel
theorem dX9_paints_1 : decode cX9_paints 1 = .ok (.getfield 12, 3) := by decide +kernel
theorem dX9_paints_4 : decode cX9_paints 4 = .ok (.iload_n 1, 1) := by decide +kernel
theorem dX9_paints_5 : decode cX9_paints 5 = .ok (.iload_n 2, 1) := by decide +kernel
theorem dX9_paints_6 : decode cX9_paints 6 = .ok (.invokevirtual 107, 3) := by decide +kernel
theorem dX9_paints_9 : decode cX9_paints 9 = .ok (.ifCond .eq 37, 3) := by decide +kernel
theorem dX9_paints_12 : decode cX9_paints 12 = .ok (.aload_n 0, 1) := by decide +kernel
theorem dX9_paints_13 : decode cX9_paints 13 = .ok (.getfield 12, 3) := by decide +kernel
theorem dX9_paints_16 : decode cX9_paints 16 = .ok (.iload_n 3, 1) := by decide +kernel
theorem dX9_paints_17 : decode cX9_paints 17 = .ok (.iload 4, 2) := by decide +kernel
theorem dX9_paints_19 : decode cX9_paints 19 = .ok (.invokevirtual 107, 3) := by decide +kernel
theorem dX9_paints_22 : decode cX9_paints 22 = .ok (.ifCond .eq 24, 3) := by decide +kernel
theorem dX9_paints_25 : decode cX9_paints 25 = .ok (.iload_n 3, 1) := by decide +kernel
theorem dX9_paints_26 : decode cX9_paints 26 = .ok (.iload_n 1, 1) := by decide +kernel
theorem dX9_paints_27 : decode cX9_paints 27 = .ok (.if_icmp .lt 19, 3) := by decide +kernel
theorem dX9_paints_30 : decode cX9_paints 30 = .ok (.iload 4, 2) := by decide +kernel
theorem dX9_paints_32 : decode cX9_paints 32 = .ok (.iload_n 2, 1) := by decide +kernel
theorem dX9_paints_33 : decode cX9_paints 33 = .ok (.if_icmp .lt 13, 3) := by decide +kernel
theorem dX9_paints_36 : decode cX9_paints 36 = .ok (.iload 5, 2) := by decide +kernel
theorem dX9_paints_38 : decode cX9_paints 38 = .ok (.iconst 0, 1) := by decide +kernel
theorem dX9_paints_39 : decode cX9_paints 39 = .ok (.iconst 3, 1) := by decide +kernel
theorem dX9_paints_40 : decode cX9_paints 40 = .ok (.invokestatic 74, 3) := by decide +kernel
theorem dX9_paints_43 : decode cX9_paints 43 = .ok (.ifCond .ne 5, 3) := by decide +kernel
theorem dX9_paints_46 : decode cX9_paints 46 = .ok (.iconst (-1), 1) := by decide +kernel
theorem dX9_paints_47 : decode cX9_paints 47 = .ok (.ireturn, 1) := by decide +kernel
theorem dX9_paints_48 : decode cX9_paints 48 = .ok (.aload_n 0, 1) := by decide +kernel
theorem dX9_paints_49 : decode cX9_paints 49 = .ok (.iload_n 1, 1) := by decide +kernel
theorem dX9_paints_50 : decode cX9_paints 50 = .ok (.iload_n 2, 1) := by decide +kernel
theorem dX9_paints_51 : decode cX9_paints 51 = .ok (.iload_n 3, 1) := by decide +kernel
theorem dX9_paints_52 : decode cX9_paints 52 = .ok (.iload 4, 2) := by decide +kernel
theorem dX9_paints_54 : decode cX9_paints 54 = .ok (.iload 5, 2) := by decide +kernel
theorem dX9_paints_56 : decode cX9_paints 56 = .ok (.invokevirtual 111, 3) := by decide +kernel
theorem dX9_paints_59 : decode cX9_paints 59 = .ok (.istore 6, 2) := by decide +kernel
theorem dX9_paints_61 : decode cX9_paints 61 = .ok (.iload 6, 2) := by decide +kernel
theorem dX9_paints_63 : decode cX9_paints 63 = .ok (.ifCond .ne 6, 3) := by decide +kernel
theorem dX9_paints_66 : decode cX9_paints 66 = .ok (.bipush (-2), 2) := by decide +kernel
theorem dX9_paints_68 : decode cX9_paints 68 = .ok (.ireturn, 1) := by decide +kernel
theorem dX9_paints_69 : decode cX9_paints 69 = .ok (.aload_n 0, 1) := by decide +kernel
theorem dX9_paints_70 : decode cX9_paints 70 = .ok (.getfield 61, 3) := by decide +kernel
theorem dX9_paints_73 : decode cX9_paints 73 = .ok (.aload_n 0, 1) := by decide +kernel
theorem dX9_paints_74 : decode cX9_paints 74 = .ok (.getfield 12, 3) := by decide +kernel
theorem dX9_paints_77 : decode cX9_paints 77 = .ok (.invokevirtual 93, 3) := by decide +kernel
theorem dX9_paints_80 : decode cX9_paints 80 = .ok (.iload_n 2, 1) := by decide +kernel
theorem dX9_paints_81 : decode cX9_paints 81 = .ok (.istore 7, 2) := by decide +kernel
theorem dX9_paints_83 : decode cX9_paints 83 = .ok (.iload 7, 2) := by decide +kernel
theorem dX9_paints_85 : decode cX9_paints 85 = .ok (.iload 4, 2) := by decide +kernel
theorem dX9_paints_87 : decode cX9_paints 87 = .ok (.if_icmp .gt 40, 3) := by decide +kernel
theorem dX9_paints_90 : decode cX9_paints 90 = .ok (.iload_n 1, 1) := by decide +kernel
theorem dX9_paints_91 : decode cX9_paints 91 = .ok (.istore 8, 2) := by decide +kernel
theorem dX9_paints_93 : decode cX9_paints 93 = .ok (.iload 8, 2) := by decide +kernel
theorem dX9_paints_95 : decode cX9_paints 95 = .ok (.iload_n 3, 1) := by decide +kernel
theorem dX9_paints_96 : decode cX9_paints 96 = .ok (.if_icmp .gt 25, 3) := by decide +kernel
theorem dX9_paints_99 : decode cX9_paints 99 = .ok (.aload_n 0, 1) := by decide +kernel
theorem dX9_paints_100 : decode cX9_paints 100 = .ok (.getfield 12, 3) := by decide +kernel
theorem dX9_paints_103 : decode cX9_paints 103 = .ok (.iload 8, 2) := by decide +kernel
theorem dX9_paints_105 : decode cX9_paints 105 = .ok (.iload 7, 2) := by decide +kernel
theorem dX9_paints_107 : decode cX9_paints 107 = .ok (.invokestatic 115, 3) := by decide +kernel
theorem dX9_paints_110 : decode cX9_paints 110 = .ok (.iload 5, 2) := by decide +kernel
theorem dX9_paints_112 : decode cX9_paints 112 = .ok (.invokevirtual 119, 3) := by decide +kernel
theorem dX9_paints_115 : decode cX9_paints 115 = .ok (.iinc 8 1, 3) := by decide +kernel
theorem dX9_paints_118 : decode cX9_paints 118 = .ok (.goto (-25), 3) := by decide +kernel
theorem dX9_paints_121 : decode cX9_paints 121 = .ok (.iinc 7 1, 3) := by decide +kernel
theorem dX9_paints_124 : decode cX9_paints 124 = .ok (.goto (-41), 3) := by decide +kernel
theorem dX9_paints_127 : decode cX9_paints 127 = .ok (.aload_n 0, 1) := by decide +kernel
theorem dX9_paints_128 : decode cX9_paints 128 = .ok (.getfield 33, 3) := by decide +kernel
theorem dX9_paints_131 : decode cX9_paints 131 = .ok (.aload_n 0, 1) := by decide +kernel
theorem dX9_paints_132 : decode cX9_paints 132 = .ok (.getfield 12, 3) := by decide +kernel
theorem dX9_paints_135 : decode cX9_paints 135 = .ok (.invokevirtual 104, 3) := by decide +kernel
theorem dX9_paints_138 : decode cX9_paints 138 = .ok (.iload 6, 2) := by decide +kernel
theorem dX9_paints_140 : decode cX9_paints 140 = .ok (.ireturn, 1) := by decide +kernel
theorem dX9_ways_0 : decode cX9_ways 0 = .ok (.iload_n 1, 1) := by decide +kernel
theorem dX9_ways_1 : decode cX9_ways 1 = .ok (.iconst 1, 1) := by decide +kernel
theorem dX9_ways_2 : decode cX9_ways 2 = .ok (.iconst 3, 1) := by decide +kernel
theorem dX9_ways_3 : decode cX9_ways 3 = .ok (.invokestatic 74, 3) := by decide +kernel
theorem dX9_ways_6 : decode cX9_ways 6 = .ok (.ifCond .eq 12, 3) := by decide +kernel
theorem dX9_ways_9 : decode cX9_ways 9 = .ok (.iload_n 2, 1) := by decide +kernel
theorem dX9_ways_10 : decode cX9_ways 10 = .ok (.iconst 0, 1) := by decide +kernel
theorem dX9_ways_11 : decode cX9_ways 11 = .ok (.iconst 1, 1) := by decide +kernel
theorem dX9_ways_12 : decode cX9_ways 12 = .ok (.invokestatic 74, 3) := by decide +kernel
theorem dX9_ways_15 : decode cX9_ways 15 = .ok (.ifCond .ne 5, 3) := by decide +kernel
theorem dX9_ways_18 : decode cX9_ways 18 = .ok (.iconst (-1), 1) := by decide +kernel
theorem dX9_ways_19 : decode cX9_ways 19 = .ok (.ireturn, 1) := by decide +kernel
theorem dX9_ways_20 : decode cX9_ways 20 = .ok (.aload_n 0, 1) := by decide +kernel
theorem dX9_ways_21 : decode cX9_ways 21 = .ok (.iconst 4, 1) := by decide +kernel
theorem dX9_ways_22 : decode cX9_ways 22 = .ok (.iload_n 1, 1) := by decide +kernel
theorem dX9_ways_23 : decode cX9_ways 23 = .ok (.iadd, 1) := by decide +kernel
theorem dX9_ways_24 : decode cX9_ways 24 = .ok (.iload_n 2, 1) := by decide +kernel
theorem dX9_ways_25 : decode cX9_ways 25 = .ok (.invokevirtual 123, 3) := by decide +kernel
theorem dX9_ways_28 : decode cX9_ways 28 = .ok (.ireturn, 1) := by decide +kernel
theorem dX9_ranks_0 : decode cX9_ranks 0 = .ok (.iload_n 1, 1) := by decide +kernel
theorem dX9_ranks_1 : decode cX9_ranks 1 = .ok (.iconst 1, 1) := by decide +kernel
theorem dX9_ranks_2 : decode cX9_ranks 2 = .ok (.iconst 3, 1) := by decide +kernel
theorem dX9_ranks_3 : decode cX9_ranks 3 = .ok (.invokestatic 74, 3) := by decide +kernel
theorem dX9_ranks_6 : decode cX9_ranks 6 = .ok (.ifCond .eq 13, 3) := by decide +kernel
theorem dX9_ranks_9 : decode cX9_ranks 9 = .ok (.iload_n 2, 1) := by decide +kernel
theorem dX9_ranks_10 : decode cX9_ranks 10 = .ok (.iconst 0, 1) := by decide +kernel
theorem dX9_ranks_11 : decode cX9_ranks 11 = .ok (.bipush 9, 2) := by decide +kernel
theorem dX9_ranks_13 : decode cX9_ranks 13 = .ok (.invokestatic 74, 3) := by decide +kernel
theorem dX9_ranks_16 : decode cX9_ranks 16 = .ok (.ifCond .ne 5, 3) := by decide +kernel
theorem dX9_ranks_19 : decode cX9_ranks 19 = .ok (.iconst (-1), 1) := by decide +kernel
theorem dX9_ranks_20 : decode cX9_ranks 20 = .ok (.ireturn, 1) := by decide +kernel
theorem dX9_ranks_21 : decode cX9_ranks 21 = .ok (.aload_n 0, 1) := by decide +kernel
theorem dX9_ranks_22 : decode cX9_ranks 22 = .ok (.bipush 8, 2) := by decide +kernel
theorem dX9_ranks_24 : decode cX9_ranks 24 = .ok (.iload_n 1, 1) := by decide +kernel
theorem dX9_ranks_25 : decode cX9_ranks 25 = .ok (.iadd, 1) := by decide +kernel
theorem dX9_ranks_26 : decode cX9_ranks 26 = .ok (.iload_n 2, 1) := by decide +kernel
theorem dX9_ranks_27 : decode cX9_ranks 27 = .ok (.invokevirtual 123, 3) := by decide +kernel
theorem dX9_ranks_30 : decode cX9_ranks 30 = .ok (.ireturn, 1) := by decide +kernel
theorem dX9_mosts_0 : decode cX9_mosts 0 = .ok (.iload_n 1, 1) := by decide +kernel
theorem dX9_mosts_1 : decode cX9_mosts 1 = .ok (.iconst 1, 1) := by decide +kernel
theorem dX9_mosts_2 : decode cX9_mosts 2 = .ok (.iconst 5, 1) := by decide +kernel
theorem dX9_mosts_3 : decode cX9_mosts 3 = .ok (.invokestatic 74, 3) := by decide +kernel
theorem dX9_mosts_6 : decode cX9_mosts 6 = .ok (.ifCond .eq 12, 3) := by decide +kernel
theorem dX9_mosts_9 : decode cX9_mosts 9 = .ok (.aload_n 0, 1) := by decide +kernel
theorem dX9_mosts_10 : decode cX9_mosts 10 = .ok (.iconst 2, 1) := by decide +kernel
theorem dX9_mosts_11 : decode cX9_mosts 11 = .ok (.iload_n 1, 1) := by decide +kernel
theorem dX9_mosts_12 : decode cX9_mosts 12 = .ok (.invokevirtual 123, 3) := by decide +kernel
theorem dX9_mosts_15 : decode cX9_mosts 15 = .ok (.goto 4, 3) := by decide +kernel
theorem dX9_mosts_18 : decode cX9_mosts 18 = .ok (.iconst (-1), 1) := by decide +kernel
theorem dX9_mosts_19 : decode cX9_mosts 19 = .ok (.ireturn, 1) := by decide +kernel
theorem dX9_pulls_0 : decode cX9_pulls 0 = .ok (.iload_n 1, 1) := by decide +kernel
theorem dX9_pulls_1 : decode cX9_pulls 1 = .ok (.iconst 0, 1) := by decide +kernel
theorem dX9_pulls_2 : decode cX9_pulls 2 = .ok (.iconst 2, 1) := by decide +kernel
theorem dX9_pulls_3 : decode cX9_pulls 3 = .ok (.invokestatic 74, 3) := by decide +kernel
theorem dX9_pulls_6 : decode cX9_pulls 6 = .ok (.ifCond .eq 12, 3) := by decide +kernel
theorem dX9_pulls_9 : decode cX9_pulls 9 = .ok (.aload_n 0, 1) := by decide +kernel
theorem dX9_pulls_10 : decode cX9_pulls 10 = .ok (.iconst 3, 1) := by decide +kernel
theorem dX9_pulls_11 : decode cX9_pulls 11 = .ok (.iload_n 1, 1) := by decide +kernel
theorem dX9_pulls_12 : decode cX9_pulls 12 = .ok (.invokevirtual 123, 3) := by decide +kernel
theorem dX9_pulls_15 : decode cX9_pulls 15 = .ok (.goto 4, 3) := by decide +kernel
theorem dX9_pulls_18 : decode cX9_pulls 18 = .ok (.iconst (-1), 1) := by decide +kernel
theorem dX9_pulls_19 : decode cX9_pulls 19 = .ok (.ireturn, 1) := by decide +kernel
theorem dX9_undo_0 : decode cX9_undo 0 = .ok (.aload_n 0, 1) := by decide +kernel
theorem dX9_undo_1 : decode cX9_undo 1 = .ok (.getfield 61, 3) := by decide +kernel
theorem dX9_undo_4 : decode cX9_undo 4 = .ok (.invokevirtual 126, 3) := by decide +kernel
theorem dX9_undo_7 : decode cX9_undo 7 = .ok (.ifCond .ne 6, 3) := by decide +kernel
theorem dX9_undo_10 : decode cX9_undo 10 = .ok (.bipush (-2), 2) := by decide +kernel
theorem dX9_undo_12 : decode cX9_undo 12 = .ok (.ireturn, 1) := by decide +kernel
theorem dX9_undo_13 : decode cX9_undo 13 = .ok (.aload_n 0, 1) := by decide +kernel
theorem dX9_undo_14 : decode cX9_undo 14 = .ok (.getfield 61, 3) := by decide +kernel
theorem dX9_undo_17 : decode cX9_undo 17 = .ok (.aload_n 0, 1) := by decide +kernel
theorem dX9_undo_18 : decode cX9_undo 18 = .ok (.getfield 12, 3) := by decide +kernel
theorem dX9_undo_21 : decode cX9_undo 21 = .ok (.invokevirtual 129, 3) := by decide +kernel
theorem dX9_undo_24 : decode cX9_undo 24 = .ok (.aload_n 0, 1) := by decide +kernel
theorem dX9_undo_25 : decode cX9_undo 25 = .ok (.getfield 33, 3) := by decide +kernel
theorem dX9_undo_28 : decode cX9_undo 28 = .ok (.aload_n 0, 1) := by decide +kernel
theorem dX9_undo_29 : decode cX9_undo 29 = .ok (.getfield 12, 3) := by decide +kernel
theorem dX9_undo_32 : decode cX9_undo 32 = .ok (.invokevirtual 104, 3) := by decide +kernel
theorem dX9_undo_35 : decode cX9_undo 35 = .ok (.aload_n 0, 1) := by decide +kernel
theorem dX9_undo_36 : decode cX9_undo 36 = .ok (.getfield 61, 3) := by decide +kernel
theorem dX9_undo_39 : decode cX9_undo 39 = .ok (.invokevirtual 126, 3) := by decide +kernel
theorem dX9_undo_42 : decode cX9_undo 42 = .ok (.ireturn, 1) := by decide +kernel
theorem dX9_cell_0 : decode cX9_cell 0 = .ok (.aload_n 0, 1) := by decide +kernel
theorem dX9_cell_1 : decode cX9_cell 1 = .ok (.getfield 12, 3) := by decide +kernel
theorem dX9_cell_4 : decode cX9_cell 4 = .ok (.iload_n 1, 1) := by decide +kernel
theorem dX9_cell_5 : decode cX9_cell 5 = .ok (.iload_n 2, 1) := by decide +kernel
theorem dX9_cell_6 : decode cX9_cell 6 = .ok (.invokevirtual 107, 3) := by decide +kernel
theorem dX9_cell_9 : decode cX9_cell 9 = .ok (.ifCond .eq 12, 3) := by decide +kernel
theorem dX9_cell_12 : decode cX9_cell 12 = .ok (.iload_n 3, 1) := by decide +kernel
theorem dX9_cell_13 : decode cX9_cell 13 = .ok (.iconst 0, 1) := by decide +kernel
theorem dX9_cell_14 : decode cX9_cell 14 = .ok (.iconst 1, 1) := by decide +kernel
theorem dX9_cell_15 : decode cX9_cell 15 = .ok (.invokestatic 74, 3) := by decide +kernel
theorem dX9_cell_18 : decode cX9_cell 18 = .ok (.ifCond .ne 5, 3) := by decide +kernel
theorem dX9_cell_21 : decode cX9_cell 21 = .ok (.iconst (-1), 1) := by decide +kernel
theorem dX9_cell_22 : decode cX9_cell 22 = .ok (.ireturn, 1) := by decide +kernel
theorem dX9_cell_23 : decode cX9_cell 23 = .ok (.iload_n 1, 1) := by decide +kernel
theorem dX9_cell_24 : decode cX9_cell 24 = .ok (.iload_n 2, 1) := by decide +kernel
theorem dX9_cell_25 : decode cX9_cell 25 = .ok (.invokestatic 115, 3) := by decide +kernel
theorem dX9_cell_28 : decode cX9_cell 28 = .ok (.istore 4, 2) := by decide +kernel
theorem dX9_cell_30 : decode cX9_cell 30 = .ok (.iload_n 3, 1) := by decide +kernel
theorem dX9_cell_31 : decode cX9_cell 31 = .ok (.ifCond .ne 15, 3) := by decide +kernel
theorem dX9_cell_34 : decode cX9_cell 34 = .ok (.aload_n 0, 1) := by decide +kernel
theorem dX9_cell_35 : decode cX9_cell 35 = .ok (.getfield 12, 3) := by decide +kernel
theorem dX9_cell_38 : decode cX9_cell 38 = .ok (.iload 4, 2) := by decide +kernel
theorem dX9_cell_40 : decode cX9_cell 40 = .ok (.invokevirtual 132, 3) := by decide +kernel
theorem dX9_cell_43 : decode cX9_cell 43 = .ok (.goto 12, 3) := by decide +kernel
theorem dX9_cell_46 : decode cX9_cell 46 = .ok (.aload_n 0, 1) := by decide +kernel
theorem dX9_cell_47 : decode cX9_cell 47 = .ok (.getfield 33, 3) := by decide +kernel
theorem dX9_cell_50 : decode cX9_cell 50 = .ok (.iload 4, 2) := by decide +kernel
theorem dX9_cell_52 : decode cX9_cell 52 = .ok (.invokevirtual 136, 3) := by decide +kernel
theorem dX9_cell_55 : decode cX9_cell 55 = .ok (.ireturn, 1) := by decide +kernel
theorem dX9_field_0 : decode cX9_field 0 = .ok (.aload_n 0, 1) := by decide +kernel
theorem dX9_field_1 : decode cX9_field 1 = .ok (.getfield 33, 3) := by decide +kernel
theorem dX9_field_4 : decode cX9_field 4 = .ok (.iload_n 1, 1) := by decide +kernel
theorem dX9_field_5 : decode cX9_field 5 = .ok (.invokevirtual 139, 3) := by decide +kernel
theorem dX9_field_8 : decode cX9_field 8 = .ok (.ifCond .eq 13, 3) := by decide +kernel
theorem dX9_field_11 : decode cX9_field 11 = .ok (.iload_n 2, 1) := by decide +kernel
theorem dX9_field_12 : decode cX9_field 12 = .ok (.iconst 0, 1) := by decide +kernel
theorem dX9_field_13 : decode cX9_field 13 = .ok (.bipush 7, 2) := by decide +kernel
theorem dX9_field_15 : decode cX9_field 15 = .ok (.invokestatic 74, 3) := by decide +kernel
theorem dX9_field_18 : decode cX9_field 18 = .ok (.ifCond .ne 5, 3) := by decide +kernel
theorem dX9_field_21 : decode cX9_field 21 = .ok (.iconst (-1), 1) := by decide +kernel
theorem dX9_field_22 : decode cX9_field 22 = .ok (.ireturn, 1) := by decide +kernel
theorem dX9_field_23 : decode cX9_field 23 = .ok (.iload_n 2, 1) := by decide +kernel
theorem dX9_field_24 : decode cX9_field 24 = .ok (.tableswitch 97 0 7 #[48, 57, 66, 82, 97, 97, 97, 88], 48) := by decide +kernel
theorem dX9_field_72 : decode cX9_field 72 = .ok (.aload_n 0, 1) := by decide +kernel
theorem dX9_field_73 : decode cX9_field 73 = .ok (.getfield 33, 3) := by decide +kernel
theorem dX9_field_76 : decode cX9_field 76 = .ok (.iload_n 1, 1) := by decide +kernel
theorem dX9_field_77 : decode cX9_field 77 = .ok (.invokevirtual 142, 3) := by decide +kernel
theorem dX9_field_80 : decode cX9_field 80 = .ok (.ireturn, 1) := by decide +kernel
theorem dX9_field_81 : decode cX9_field 81 = .ok (.aload_n 0, 1) := by decide +kernel
theorem dX9_field_82 : decode cX9_field 82 = .ok (.getfield 33, 3) := by decide +kernel
theorem dX9_field_85 : decode cX9_field 85 = .ok (.iload_n 1, 1) := by decide +kernel
theorem dX9_field_86 : decode cX9_field 86 = .ok (.invokevirtual 145, 3) := by decide +kernel
theorem dX9_field_89 : decode cX9_field 89 = .ok (.ireturn, 1) := by decide +kernel
theorem dX9_field_90 : decode cX9_field 90 = .ok (.aload_n 0, 1) := by decide +kernel
theorem dX9_field_91 : decode cX9_field 91 = .ok (.getfield 12, 3) := by decide +kernel
theorem dX9_field_94 : decode cX9_field 94 = .ok (.aload_n 0, 1) := by decide +kernel
theorem dX9_field_95 : decode cX9_field 95 = .ok (.getfield 33, 3) := by decide +kernel
theorem dX9_field_98 : decode cX9_field 98 = .ok (.iload_n 1, 1) := by decide +kernel
theorem dX9_field_99 : decode cX9_field 99 = .ok (.invokevirtual 148, 3) := by decide +kernel
theorem dX9_field_102 : decode cX9_field 102 = .ok (.invokevirtual 151, 3) := by decide +kernel
theorem dX9_field_105 : decode cX9_field 105 = .ok (.ireturn, 1) := by decide +kernel
theorem dX9_field_106 : decode cX9_field 106 = .ok (.aload_n 0, 1) := by decide +kernel
theorem dX9_field_107 : decode cX9_field 107 = .ok (.iload_n 1, 1) := by decide +kernel
theorem dX9_field_108 : decode cX9_field 108 = .ok (.invokevirtual 154, 3) := by decide +kernel
theorem dX9_field_111 : decode cX9_field 111 = .ok (.ireturn, 1) := by decide +kernel
theorem dX9_field_112 : decode cX9_field 112 = .ok (.aload_n 0, 1) := by decide +kernel
theorem dX9_field_113 : decode cX9_field 113 = .ok (.getfield 33, 3) := by decide +kernel
theorem dX9_field_116 : decode cX9_field 116 = .ok (.iload_n 1, 1) := by decide +kernel
theorem dX9_field_117 : decode cX9_field 117 = .ok (.invokevirtual 157, 3) := by decide +kernel
theorem dX9_field_120 : decode cX9_field 120 = .ok (.ireturn, 1) := by decide +kernel
theorem dX9_field_121 : decode cX9_field 121 = .ok (.aload_n 0, 1) := by decide +kernel
theorem dX9_field_122 : decode cX9_field 122 = .ok (.iload_n 1, 1) := by decide +kernel
theorem dX9_field_123 : decode cX9_field 123 = .ok (.iload_n 2, 1) := by decide +kernel
theorem dX9_field_124 : decode cX9_field 124 = .ok (.invokevirtual 160, 3) := by decide +kernel
theorem dX9_field_127 : decode cX9_field 127 = .ok (.ireturn, 1) := by decide +kernel
theorem dX9_sewn_0 : decode cX9_sewn 0 = .ok (.aload_n 0, 1) := by decide +kernel
theorem dX9_sewn_1 : decode cX9_sewn 1 = .ok (.getfield 33, 3) := by decide +kernel
theorem dX9_sewn_4 : decode cX9_sewn 4 = .ok (.iload_n 1, 1) := by decide +kernel
theorem dX9_sewn_5 : decode cX9_sewn 5 = .ok (.invokevirtual 139, 3) := by decide +kernel
theorem dX9_sewn_8 : decode cX9_sewn 8 = .ok (.ifCond .eq 21, 3) := by decide +kernel
theorem dX9_sewn_11 : decode cX9_sewn 11 = .ok (.iload_n 2, 1) := by decide +kernel
theorem dX9_sewn_12 : decode cX9_sewn 12 = .ok (.iconst 0, 1) := by decide +kernel
theorem dX9_sewn_13 : decode cX9_sewn 13 = .ok (.iconst 1, 1) := by decide +kernel
theorem dX9_sewn_14 : decode cX9_sewn 14 = .ok (.invokestatic 74, 3) := by decide +kernel
theorem dX9_sewn_17 : decode cX9_sewn 17 = .ok (.ifCond .eq 12, 3) := by decide +kernel
theorem dX9_sewn_20 : decode cX9_sewn 20 = .ok (.iload_n 3, 1) := by decide +kernel
theorem dX9_sewn_21 : decode cX9_sewn 21 = .ok (.iconst 0, 1) := by decide +kernel
theorem dX9_sewn_22 : decode cX9_sewn 22 = .ok (.iconst 3, 1) := by decide +kernel
theorem dX9_sewn_23 : decode cX9_sewn 23 = .ok (.invokestatic 74, 3) := by decide +kernel
theorem dX9_sewn_26 : decode cX9_sewn 26 = .ok (.ifCond .ne 5, 3) := by decide +kernel
theorem dX9_sewn_29 : decode cX9_sewn 29 = .ok (.iconst (-1), 1) := by decide +kernel
theorem dX9_sewn_30 : decode cX9_sewn 30 = .ok (.ireturn, 1) := by decide +kernel
theorem dX9_sewn_31 : decode cX9_sewn 31 = .ok (.aload_n 0, 1) := by decide +kernel
theorem dX9_sewn_32 : decode cX9_sewn 32 = .ok (.getfield 40, 3) := by decide +kernel
theorem dX9_sewn_35 : decode cX9_sewn 35 = .ok (.aload_n 0, 1) := by decide +kernel
theorem dX9_sewn_36 : decode cX9_sewn 36 = .ok (.getfield 12, 3) := by decide +kernel
theorem dX9_sewn_39 : decode cX9_sewn 39 = .ok (.aload_n 0, 1) := by decide +kernel
theorem dX9_sewn_40 : decode cX9_sewn 40 = .ok (.getfield 33, 3) := by decide +kernel
theorem dX9_sewn_43 : decode cX9_sewn 43 = .ok (.iload_n 1, 1) := by decide +kernel
theorem dX9_sewn_44 : decode cX9_sewn 44 = .ok (.iload_n 2, 1) := by decide +kernel
theorem dX9_sewn_45 : decode cX9_sewn 45 = .ok (.invokevirtual 163, 3) := by decide +kernel
theorem dX9_sewn_48 : decode cX9_sewn 48 = .ok (.aload_n 0, 1) := by decide +kernel
theorem dX9_sewn_49 : decode cX9_sewn 49 = .ok (.getfield 40, 3) := by decide +kernel
theorem dX9_sewn_52 : decode cX9_sewn 52 = .ok (.aload_n 0, 1) := by decide +kernel
theorem dX9_sewn_53 : decode cX9_sewn 53 = .ok (.getfield 12, 3) := by decide +kernel
theorem dX9_sewn_56 : decode cX9_sewn 56 = .ok (.iload_n 3, 1) := by decide +kernel
theorem dX9_sewn_57 : decode cX9_sewn 57 = .ok (.invokevirtual 167, 3) := by decide +kernel
theorem dX9_sewn_60 : decode cX9_sewn 60 = .ok (.ireturn, 1) := by decide +kernel
theorem dX9_row_0 : decode cX9_row 0 = .ok (.aload_n 0, 1) := by decide +kernel
theorem dX9_row_1 : decode cX9_row 1 = .ok (.getfield 33, 3) := by decide +kernel
theorem dX9_row_4 : decode cX9_row 4 = .ok (.iload_n 1, 1) := by decide +kernel
theorem dX9_row_5 : decode cX9_row 5 = .ok (.invokevirtual 139, 3) := by decide +kernel
theorem dX9_row_8 : decode cX9_row 8 = .ok (.ifCond .eq 26, 3) := by decide +kernel
theorem dX9_row_11 : decode cX9_row 11 = .ok (.iload_n 2, 1) := by decide +kernel
theorem dX9_row_12 : decode cX9_row 12 = .ok (.iconst 0, 1) := by decide +kernel
theorem dX9_row_13 : decode cX9_row 13 = .ok (.iconst 1, 1) := by decide +kernel
theorem dX9_row_14 : decode cX9_row 14 = .ok (.invokestatic 74, 3) := by decide +kernel
theorem dX9_row_17 : decode cX9_row 17 = .ok (.ifCond .eq 17, 3) := by decide +kernel
theorem dX9_row_20 : decode cX9_row 20 = .ok (.iload_n 3, 1) := by decide +kernel
theorem dX9_row_21 : decode cX9_row 21 = .ok (.ifCond .lt 13, 3) := by decide +kernel
theorem dX9_row_24 : decode cX9_row 24 = .ok (.iload 4, 2) := by decide +kernel
theorem dX9_row_26 : decode cX9_row 26 = .ok (.iconst 0, 1) := by decide +kernel
theorem dX9_row_27 : decode cX9_row 27 = .ok (.iconst 3, 1) := by decide +kernel
theorem dX9_row_28 : decode cX9_row 28 = .ok (.invokestatic 74, 3) := by decide +kernel
theorem dX9_row_31 : decode cX9_row 31 = .ok (.ifCond .ne 5, 3) := by decide +kernel
theorem dX9_row_34 : decode cX9_row 34 = .ok (.iconst (-1), 1) := by decide +kernel
theorem dX9_row_35 : decode cX9_row 35 = .ok (.ireturn, 1) := by decide +kernel
theorem dX9_row_36 : decode cX9_row 36 = .ok (.aload_n 0, 1) := by decide +kernel
theorem dX9_row_37 : decode cX9_row 37 = .ok (.getfield 40, 3) := by decide +kernel
theorem dX9_row_40 : decode cX9_row 40 = .ok (.aload_n 0, 1) := by decide +kernel
theorem dX9_row_41 : decode cX9_row 41 = .ok (.getfield 12, 3) := by decide +kernel
theorem dX9_row_44 : decode cX9_row 44 = .ok (.aload_n 0, 1) := by decide +kernel
theorem dX9_row_45 : decode cX9_row 45 = .ok (.getfield 33, 3) := by decide +kernel
theorem dX9_row_48 : decode cX9_row 48 = .ok (.iload_n 1, 1) := by decide +kernel
theorem dX9_row_49 : decode cX9_row 49 = .ok (.iload_n 2, 1) := by decide +kernel
theorem dX9_row_50 : decode cX9_row 50 = .ok (.invokevirtual 163, 3) := by decide +kernel
theorem dX9_row_53 : decode cX9_row 53 = .ok (.iload_n 3, 1) := by decide +kernel
theorem dX9_row_54 : decode cX9_row 54 = .ok (.aload_n 0, 1) := by decide +kernel
theorem dX9_row_55 : decode cX9_row 55 = .ok (.getfield 40, 3) := by decide +kernel
theorem dX9_row_58 : decode cX9_row 58 = .ok (.invokevirtual 171, 3) := by decide +kernel
theorem dX9_row_61 : decode cX9_row 61 = .ok (.if_icmp .lt 6, 3) := by decide +kernel
theorem dX9_row_64 : decode cX9_row 64 = .ok (.bipush (-9), 2) := by decide +kernel
theorem dX9_row_66 : decode cX9_row 66 = .ok (.ireturn, 1) := by decide +kernel
theorem dX9_row_67 : decode cX9_row 67 = .ok (.iload 4, 2) := by decide +kernel
theorem dX9_row_69 : decode cX9_row 69 = .ok (.tableswitch 61 0 2 #[27, 43, 52], 27) := by decide +kernel
theorem dX9_row_96 : decode cX9_row 96 = .ok (.aload_n 0, 1) := by decide +kernel
theorem dX9_row_97 : decode cX9_row 97 = .ok (.getfield 12, 3) := by decide +kernel
theorem dX9_row_100 : decode cX9_row 100 = .ok (.aload_n 0, 1) := by decide +kernel
theorem dX9_row_101 : decode cX9_row 101 = .ok (.getfield 40, 3) := by decide +kernel
theorem dX9_row_104 : decode cX9_row 104 = .ok (.iload_n 3, 1) := by decide +kernel
theorem dX9_row_105 : decode cX9_row 105 = .ok (.invokevirtual 174, 3) := by decide +kernel
theorem dX9_row_108 : decode cX9_row 108 = .ok (.invokevirtual 151, 3) := by decide +kernel
theorem dX9_row_111 : decode cX9_row 111 = .ok (.ireturn, 1) := by decide +kernel
theorem dX9_row_112 : decode cX9_row 112 = .ok (.aload_n 0, 1) := by decide +kernel
theorem dX9_row_113 : decode cX9_row 113 = .ok (.getfield 40, 3) := by decide +kernel
theorem dX9_row_116 : decode cX9_row 116 = .ok (.iload_n 3, 1) := by decide +kernel
theorem dX9_row_117 : decode cX9_row 117 = .ok (.invokevirtual 177, 3) := by decide +kernel
theorem dX9_row_120 : decode cX9_row 120 = .ok (.ireturn, 1) := by decide +kernel
theorem dX9_row_121 : decode cX9_row 121 = .ok (.aload_n 0, 1) := by decide +kernel
theorem dX9_row_122 : decode cX9_row 122 = .ok (.getfield 40, 3) := by decide +kernel
theorem dX9_row_125 : decode cX9_row 125 = .ok (.iload_n 3, 1) := by decide +kernel
theorem dX9_row_126 : decode cX9_row 126 = .ok (.invokevirtual 180, 3) := by decide +kernel
theorem dX9_row_129 : decode cX9_row 129 = .ok (.ireturn, 1) := by decide +kernel
theorem dX9_row_130 : decode cX9_row 130 = .ok (.aload_n 0, 1) := by decide +kernel
theorem dX9_row_131 : decode cX9_row 131 = .ok (.getfield 40, 3) := by decide +kernel
theorem dX9_row_134 : decode cX9_row 134 = .ok (.iload_n 3, 1) := by decide +kernel
theorem dX9_row_135 : decode cX9_row 135 = .ok (.invokevirtual 183, 3) := by decide +kernel
theorem dX9_row_138 : decode cX9_row 138 = .ok (.ireturn, 1) := by decide +kernel
theorem dX9_part_0 : decode cX9_part 0 = .ok (.aload_n 0, 1) := by decide +kernel
theorem dX9_part_1 : decode cX9_part 1 = .ok (.getfield 33, 3) := by decide +kernel
theorem dX9_part_4 : decode cX9_part 4 = .ok (.iload_n 1, 1) := by decide +kernel
theorem dX9_part_5 : decode cX9_part 5 = .ok (.invokevirtual 139, 3) := by decide +kernel
theorem dX9_part_8 : decode cX9_part 8 = .ok (.ifCond .eq 26, 3) := by decide +kernel
theorem dX9_part_11 : decode cX9_part 11 = .ok (.iload_n 2, 1) := by decide +kernel
theorem dX9_part_12 : decode cX9_part 12 = .ok (.iconst 0, 1) := by decide +kernel
theorem dX9_part_13 : decode cX9_part 13 = .ok (.iconst 1, 1) := by decide +kernel
theorem dX9_part_14 : decode cX9_part 14 = .ok (.invokestatic 74, 3) := by decide +kernel
theorem dX9_part_17 : decode cX9_part 17 = .ok (.ifCond .eq 17, 3) := by decide +kernel
theorem dX9_part_20 : decode cX9_part 20 = .ok (.iload_n 3, 1) := by decide +kernel
theorem dX9_part_21 : decode cX9_part 21 = .ok (.ifCond .lt 13, 3) := by decide +kernel
theorem dX9_part_24 : decode cX9_part 24 = .ok (.iload 4, 2) := by decide +kernel
theorem dX9_part_26 : decode cX9_part 26 = .ok (.iconst 0, 1) := by decide +kernel
theorem dX9_part_27 : decode cX9_part 27 = .ok (.iconst 3, 1) := by decide +kernel
theorem dX9_part_28 : decode cX9_part 28 = .ok (.invokestatic 74, 3) := by decide +kernel
theorem dX9_part_31 : decode cX9_part 31 = .ok (.ifCond .ne 5, 3) := by decide +kernel
theorem dX9_part_34 : decode cX9_part 34 = .ok (.iconst (-1), 1) := by decide +kernel
theorem dX9_part_35 : decode cX9_part 35 = .ok (.ireturn, 1) := by decide +kernel
theorem dX9_part_36 : decode cX9_part 36 = .ok (.aload_n 0, 1) := by decide +kernel
theorem dX9_part_37 : decode cX9_part 37 = .ok (.getfield 40, 3) := by decide +kernel
theorem dX9_part_40 : decode cX9_part 40 = .ok (.aload_n 0, 1) := by decide +kernel
theorem dX9_part_41 : decode cX9_part 41 = .ok (.getfield 12, 3) := by decide +kernel
theorem dX9_part_44 : decode cX9_part 44 = .ok (.aload_n 0, 1) := by decide +kernel
theorem dX9_part_45 : decode cX9_part 45 = .ok (.getfield 33, 3) := by decide +kernel
theorem dX9_part_48 : decode cX9_part 48 = .ok (.iload_n 1, 1) := by decide +kernel
theorem dX9_part_49 : decode cX9_part 49 = .ok (.iload_n 2, 1) := by decide +kernel
theorem dX9_part_50 : decode cX9_part 50 = .ok (.invokevirtual 163, 3) := by decide +kernel
theorem dX9_part_53 : decode cX9_part 53 = .ok (.iload_n 3, 1) := by decide +kernel
theorem dX9_part_54 : decode cX9_part 54 = .ok (.aload_n 0, 1) := by decide +kernel
theorem dX9_part_55 : decode cX9_part 55 = .ok (.getfield 40, 3) := by decide +kernel
theorem dX9_part_58 : decode cX9_part 58 = .ok (.invokevirtual 186, 3) := by decide +kernel
theorem dX9_part_61 : decode cX9_part 61 = .ok (.if_icmp .lt 6, 3) := by decide +kernel
theorem dX9_part_64 : decode cX9_part 64 = .ok (.bipush (-9), 2) := by decide +kernel
theorem dX9_part_66 : decode cX9_part 66 = .ok (.ireturn, 1) := by decide +kernel
theorem dX9_part_67 : decode cX9_part 67 = .ok (.iload 4, 2) := by decide +kernel
theorem dX9_part_69 : decode cX9_part 69 = .ok (.tableswitch 68 0 2 #[27, 36, 52], 27) := by decide +kernel
theorem dX9_part_96 : decode cX9_part 96 = .ok (.aload_n 0, 1) := by decide +kernel
theorem dX9_part_97 : decode cX9_part 97 = .ok (.getfield 40, 3) := by decide +kernel
theorem dX9_part_100 : decode cX9_part 100 = .ok (.iload_n 3, 1) := by decide +kernel
theorem dX9_part_101 : decode cX9_part 101 = .ok (.invokevirtual 189, 3) := by decide +kernel
theorem dX9_part_104 : decode cX9_part 104 = .ok (.ireturn, 1) := by decide +kernel
theorem dX9_part_105 : decode cX9_part 105 = .ok (.aload_n 0, 1) := by decide +kernel
theorem dX9_part_106 : decode cX9_part 106 = .ok (.getfield 12, 3) := by decide +kernel
theorem dX9_part_109 : decode cX9_part 109 = .ok (.aload_n 0, 1) := by decide +kernel
theorem dX9_part_110 : decode cX9_part 110 = .ok (.getfield 40, 3) := by decide +kernel
theorem dX9_part_113 : decode cX9_part 113 = .ok (.iload_n 3, 1) := by decide +kernel
theorem dX9_part_114 : decode cX9_part 114 = .ok (.invokevirtual 192, 3) := by decide +kernel
theorem dX9_part_117 : decode cX9_part 117 = .ok (.invokevirtual 151, 3) := by decide +kernel
theorem dX9_part_120 : decode cX9_part 120 = .ok (.ireturn, 1) := by decide +kernel
theorem dX9_part_121 : decode cX9_part 121 = .ok (.aload_n 0, 1) := by decide +kernel
theorem dX9_part_122 : decode cX9_part 122 = .ok (.getfield 12, 3) := by decide +kernel
theorem dX9_part_125 : decode cX9_part 125 = .ok (.aload_n 0, 1) := by decide +kernel
theorem dX9_part_126 : decode cX9_part 126 = .ok (.getfield 40, 3) := by decide +kernel
theorem dX9_part_129 : decode cX9_part 129 = .ok (.iload_n 3, 1) := by decide +kernel
theorem dX9_part_130 : decode cX9_part 130 = .ok (.invokevirtual 195, 3) := by decide +kernel
theorem dX9_part_133 : decode cX9_part 133 = .ok (.invokevirtual 151, 3) := by decide +kernel
theorem dX9_part_136 : decode cX9_part 136 = .ok (.ireturn, 1) := by decide +kernel
theorem dX9_part_137 : decode cX9_part 137 = .ok (.aload_n 0, 1) := by decide +kernel
theorem dX9_part_138 : decode cX9_part 138 = .ok (.getfield 40, 3) := by decide +kernel
theorem dX9_part_141 : decode cX9_part 141 = .ok (.aload_n 0, 1) := by decide +kernel
theorem dX9_part_142 : decode cX9_part 142 = .ok (.getfield 12, 3) := by decide +kernel
theorem dX9_part_145 : decode cX9_part 145 = .ok (.iload_n 3, 1) := by decide +kernel
theorem dX9_part_146 : decode cX9_part 146 = .ok (.invokevirtual 198, 3) := by decide +kernel
theorem dX9_part_149 : decode cX9_part 149 = .ok (.ireturn, 1) := by decide +kernel
theorem dX9_order_0 : decode cX9_order 0 = .ok (.iload_n 1, 1) := by decide +kernel
theorem dX9_order_1 : decode cX9_order 1 = .ok (.iconst (-1), 1) := by decide +kernel
theorem dX9_order_2 : decode cX9_order 2 = .ok (.if_icmp .ge 5, 3) := by decide +kernel
theorem dX9_order_5 : decode cX9_order 5 = .ok (.iconst (-1), 1) := by decide +kernel
theorem dX9_order_6 : decode cX9_order 6 = .ok (.ireturn, 1) := by decide +kernel
theorem dX9_order_7 : decode cX9_order 7 = .ok (.aload_n 0, 1) := by decide +kernel
theorem dX9_order_8 : decode cX9_order 8 = .ok (.getfield 33, 3) := by decide +kernel
theorem dX9_order_11 : decode cX9_order 11 = .ok (.invokevirtual 201, 3) := by decide +kernel
theorem dX9_order_14 : decode cX9_order 14 = .ok (.bipush 10, 2) := by decide +kernel
theorem dX9_order_16 : decode cX9_order 16 = .ok (.if_icmp .le 6, 3) := by decide +kernel
theorem dX9_order_19 : decode cX9_order 19 = .ok (.bipush (-3), 2) := by decide +kernel
theorem dX9_order_21 : decode cX9_order 21 = .ok (.ireturn, 1) := by decide +kernel
theorem dX9_order_22 : decode cX9_order 22 = .ok (.aload_n 0, 1) := by decide +kernel
theorem dX9_order_23 : decode cX9_order 23 = .ok (.getfield 33, 3) := by decide +kernel
theorem dX9_order_26 : decode cX9_order 26 = .ok (.invokevirtual 201, 3) := by decide +kernel
theorem dX9_order_29 : decode cX9_order 29 = .ok (.ifCond .ne 6, 3) := by decide +kernel
theorem dX9_order_32 : decode cX9_order 32 = .ok (.bipush (-9), 2) := by decide +kernel
theorem dX9_order_34 : decode cX9_order 34 = .ok (.ireturn, 1) := by decide +kernel
theorem dX9_order_35 : decode cX9_order 35 = .ok (.aload_n 0, 1) := by decide +kernel
theorem dX9_order_36 : decode cX9_order 36 = .ok (.getfield 47, 3) := by decide +kernel
theorem dX9_order_39 : decode cX9_order 39 = .ok (.aload_n 0, 1) := by decide +kernel
theorem dX9_order_40 : decode cX9_order 40 = .ok (.getfield 12, 3) := by decide +kernel
theorem dX9_order_43 : decode cX9_order 43 = .ok (.aload_n 0, 1) := by decide +kernel
theorem dX9_order_44 : decode cX9_order 44 = .ok (.getfield 33, 3) := by decide +kernel
theorem dX9_order_47 : decode cX9_order 47 = .ok (.invokevirtual 202, 3) := by decide +kernel
theorem dX9_order_50 : decode cX9_order 50 = .ok (.iload_n 1, 1) := by decide +kernel
theorem dX9_order_51 : decode cX9_order 51 = .ok (.iconst (-1), 1) := by decide +kernel
theorem dX9_order_52 : decode cX9_order 52 = .ok (.if_icmp .ne 13, 3) := by decide +kernel
theorem dX9_order_55 : decode cX9_order 55 = .ok (.aload_n 0, 1) := by decide +kernel
theorem dX9_order_56 : decode cX9_order 56 = .ok (.getfield 47, 3) := by decide +kernel
theorem dX9_order_59 : decode cX9_order 59 = .ok (.invokevirtual 205, 3) := by decide +kernel
theorem dX9_order_62 : decode cX9_order 62 = .ok (.goto 11, 3) := by decide +kernel
theorem dX9_order_65 : decode cX9_order 65 = .ok (.aload_n 0, 1) := by decide +kernel
theorem dX9_order_66 : decode cX9_order 66 = .ok (.getfield 47, 3) := by decide +kernel
theorem dX9_order_69 : decode cX9_order 69 = .ok (.iload_n 1, 1) := by decide +kernel
theorem dX9_order_70 : decode cX9_order 70 = .ok (.invokevirtual 208, 3) := by decide +kernel
theorem dX9_order_73 : decode cX9_order 73 = .ok (.ireturn, 1) := by decide +kernel
theorem dX9_sees_0 : decode cX9_sees 0 = .ok (.iload_n 1, 1) := by decide +kernel
theorem dX9_sees_1 : decode cX9_sees 1 = .ok (.iconst 0, 1) := by decide +kernel
theorem dX9_sees_2 : decode cX9_sees 2 = .ok (.iconst 1, 1) := by decide +kernel
theorem dX9_sees_3 : decode cX9_sees 3 = .ok (.invokestatic 74, 3) := by decide +kernel
theorem dX9_sees_6 : decode cX9_sees 6 = .ok (.ifCond .eq 22, 3) := by decide +kernel
theorem dX9_sees_9 : decode cX9_sees 9 = .ok (.iload_n 2, 1) := by decide +kernel
theorem dX9_sees_10 : decode cX9_sees 10 = .ok (.iconst 0, 1) := by decide +kernel
theorem dX9_sees_11 : decode cX9_sees 11 = .ok (.iconst 3, 1) := by decide +kernel
theorem dX9_sees_12 : decode cX9_sees 12 = .ok (.invokestatic 74, 3) := by decide +kernel
theorem dX9_sees_15 : decode cX9_sees 15 = .ok (.ifCond .eq 13, 3) := by decide +kernel
theorem dX9_sees_18 : decode cX9_sees 18 = .ok (.iload_n 3, 1) := by decide +kernel
theorem dX9_sees_19 : decode cX9_sees 19 = .ok (.iconst 0, 1) := by decide +kernel
theorem dX9_sees_20 : decode cX9_sees 20 = .ok (.bipush 99, 2) := by decide +kernel
theorem dX9_sees_22 : decode cX9_sees 22 = .ok (.invokestatic 74, 3) := by decide +kernel
theorem dX9_sees_25 : decode cX9_sees 25 = .ok (.ifCond .ne 5, 3) := by decide +kernel
theorem dX9_sees_28 : decode cX9_sees 28 = .ok (.iconst (-1), 1) := by decide +kernel
theorem dX9_sees_29 : decode cX9_sees 29 = .ok (.ireturn, 1) := by decide +kernel
theorem dX9_sees_30 : decode cX9_sees 30 = .ok (.aload_n 0, 1) := by decide +kernel
theorem dX9_sees_31 : decode cX9_sees 31 = .ok (.getfield 54, 3) := by decide +kernel
theorem dX9_sees_34 : decode cX9_sees 34 = .ok (.invokevirtual 209, 3) := by decide +kernel
theorem dX9_sees_37 : decode cX9_sees 37 = .ok (.bipush 6, 2) := by decide +kernel
theorem dX9_sees_39 : decode cX9_sees 39 = .ok (.if_icmp .lt 6, 3) := by decide +kernel
theorem dX9_sees_42 : decode cX9_sees 42 = .ok (.bipush (-3), 2) := by decide +kernel
theorem dX9_sees_44 : decode cX9_sees 44 = .ok (.ireturn, 1) := by decide +kernel
theorem dX9_sees_45 : decode cX9_sees 45 = .ok (.aload_n 0, 1) := by decide +kernel
theorem dX9_sees_46 : decode cX9_sees 46 = .ok (.getfield 54, 3) := by decide +kernel
theorem dX9_sees_49 : decode cX9_sees 49 = .ok (.iload_n 1, 1) := by decide +kernel
theorem dX9_sees_50 : decode cX9_sees 50 = .ok (.iload_n 2, 1) := by decide +kernel
theorem dX9_sees_51 : decode cX9_sees 51 = .ok (.iload_n 3, 1) := by decide +kernel
theorem dX9_sees_52 : decode cX9_sees 52 = .ok (.invokevirtual 210, 3) := by decide +kernel
theorem dX9_sees_55 : decode cX9_sees 55 = .ok (.aload_n 0, 1) := by decide +kernel
theorem dX9_sees_56 : decode cX9_sees 56 = .ok (.getfield 54, 3) := by decide +kernel
theorem dX9_sees_59 : decode cX9_sees 59 = .ok (.invokevirtual 209, 3) := by decide +kernel
theorem dX9_sees_62 : decode cX9_sees 62 = .ok (.ireturn, 1) := by decide +kernel
theorem dX9_forget_0 : decode cX9_forget 0 = .ok (.aload_n 0, 1) := by decide +kernel
theorem dX9_forget_1 : decode cX9_forget 1 = .ok (.getfield 54, 3) := by decide +kernel
theorem dX9_forget_4 : decode cX9_forget 4 = .ok (.invokevirtual 209, 3) := by decide +kernel
theorem dX9_forget_7 : decode cX9_forget 7 = .ok (.istore_n 1, 1) := by decide +kernel
theorem dX9_forget_8 : decode cX9_forget 8 = .ok (.aload_n 0, 1) := by decide +kernel
theorem dX9_forget_9 : decode cX9_forget 9 = .ok (.getfield 54, 3) := by decide +kernel
theorem dX9_forget_12 : decode cX9_forget 12 = .ok (.invokevirtual 214, 3) := by decide +kernel
theorem dX9_forget_15 : decode cX9_forget 15 = .ok (.iload_n 1, 1) := by decide +kernel
theorem dX9_forget_16 : decode cX9_forget 16 = .ok (.ireturn, 1) := by decide +kernel
theorem dX9_which_0 : decode cX9_which 0 = .ok (.iload_n 1, 1) := by decide +kernel
theorem dX9_which_1 : decode cX9_which 1 = .ok (.iconst 0, 1) := by decide +kernel
theorem dX9_which_2 : decode cX9_which 2 = .ok (.iconst 1, 1) := by decide +kernel
theorem dX9_which_3 : decode cX9_which 3 = .ok (.invokestatic 74, 3) := by decide +kernel
theorem dX9_which_6 : decode cX9_which 6 = .ok (.ifCond .ne 5, 3) := by decide +kernel
theorem dX9_which_9 : decode cX9_which 9 = .ok (.iconst (-1), 1) := by decide +kernel
theorem dX9_which_10 : decode cX9_which 10 = .ok (.ireturn, 1) := by decide +kernel
theorem dX9_which_11 : decode cX9_which 11 = .ok (.iconst 0, 1) := by decide +kernel
theorem dX9_which_12 : decode cX9_which 12 = .ok (.istore_n 2, 1) := by decide +kernel
theorem dX9_which_13 : decode cX9_which 13 = .ok (.bipush (-9), 2) := by decide +kernel
theorem dX9_which_15 : decode cX9_which 15 = .ok (.istore_n 3, 1) := by decide +kernel
theorem dX9_which_16 : decode cX9_which 16 = .ok (.iconst 0, 1) := by decide +kernel
theorem dX9_which_17 : decode cX9_which 17 = .ok (.istore 4, 2) := by decide +kernel
theorem dX9_which_19 : decode cX9_which 19 = .ok (.iload 4, 2) := by decide +kernel
theorem dX9_which_21 : decode cX9_which 21 = .ok (.aload_n 0, 1) := by decide +kernel
theorem dX9_which_22 : decode cX9_which 22 = .ok (.getfield 33, 3) := by decide +kernel
theorem dX9_which_25 : decode cX9_which 25 = .ok (.invokevirtual 201, 3) := by decide +kernel
theorem dX9_which_28 : decode cX9_which 28 = .ok (.if_icmp .ge 49, 3) := by decide +kernel
theorem dX9_which_31 : decode cX9_which 31 = .ok (.aload_n 0, 1) := by decide +kernel
theorem dX9_which_32 : decode cX9_which 32 = .ok (.getfield 54, 3) := by decide +kernel
theorem dX9_which_35 : decode cX9_which 35 = .ok (.aload_n 0, 1) := by decide +kernel
theorem dX9_which_36 : decode cX9_which 36 = .ok (.getfield 12, 3) := by decide +kernel
theorem dX9_which_39 : decode cX9_which 39 = .ok (.aload_n 0, 1) := by decide +kernel
theorem dX9_which_40 : decode cX9_which 40 = .ok (.getfield 33, 3) := by decide +kernel
theorem dX9_which_43 : decode cX9_which 43 = .ok (.aload_n 0, 1) := by decide +kernel
theorem dX9_which_44 : decode cX9_which 44 = .ok (.getfield 40, 3) := by decide +kernel
theorem dX9_which_47 : decode cX9_which 47 = .ok (.iload 4, 2) := by decide +kernel
theorem dX9_which_49 : decode cX9_which 49 = .ok (.invokevirtual 215, 3) := by decide +kernel
theorem dX9_which_52 : decode cX9_which 52 = .ok (.ifCond .eq 19, 3) := by decide +kernel
theorem dX9_which_55 : decode cX9_which 55 = .ok (.iinc 2 1, 3) := by decide +kernel
theorem dX9_which_58 : decode cX9_which 58 = .ok (.iload_n 3, 1) := by decide +kernel
theorem dX9_which_59 : decode cX9_which 59 = .ok (.bipush (-9), 2) := by decide +kernel
theorem dX9_which_61 : decode cX9_which 61 = .ok (.if_icmp .ne 8, 3) := by decide +kernel
theorem dX9_which_64 : decode cX9_which 64 = .ok (.iload 4, 2) := by decide +kernel
theorem dX9_which_66 : decode cX9_which 66 = .ok (.goto 4, 3) := by decide +kernel
theorem dX9_which_69 : decode cX9_which 69 = .ok (.iload_n 3, 1) := by decide +kernel
theorem dX9_which_70 : decode cX9_which 70 = .ok (.istore_n 3, 1) := by decide +kernel
theorem dX9_which_71 : decode cX9_which 71 = .ok (.iinc 4 1, 3) := by decide +kernel
theorem dX9_which_74 : decode cX9_which 74 = .ok (.goto (-55), 3) := by decide +kernel
theorem dX9_which_77 : decode cX9_which 77 = .ok (.iload_n 1, 1) := by decide +kernel
theorem dX9_which_78 : decode cX9_which 78 = .ok (.ifCond .ne 7, 3) := by decide +kernel
theorem dX9_which_81 : decode cX9_which 81 = .ok (.iload_n 2, 1) := by decide +kernel
theorem dX9_which_82 : decode cX9_which 82 = .ok (.goto 4, 3) := by decide +kernel
theorem dX9_which_85 : decode cX9_which 85 = .ok (.iload_n 3, 1) := by decide +kernel
theorem dX9_which_86 : decode cX9_which 86 = .ok (.ireturn, 1) := by decide +kernel
theorem dX9_keep_0 : decode cX9_keep 0 = .ok (.iload_n 1, 1) := by decide +kernel
theorem dX9_keep_1 : decode cX9_keep 1 = .ok (.ifCond .lt 8, 3) := by decide +kernel
theorem dX9_keep_4 : decode cX9_keep 4 = .ok (.iload_n 1, 1) := by decide +kernel
theorem dX9_keep_5 : decode cX9_keep 5 = .ok (.iconst 2, 1) := by decide +kernel
theorem dX9_keep_6 : decode cX9_keep 6 = .ok (.if_icmp .lt 5, 3) := by decide +kernel
theorem dX9_keep_9 : decode cX9_keep 9 = .ok (.iconst (-1), 1) := by decide +kernel
theorem dX9_keep_10 : decode cX9_keep 10 = .ok (.ireturn, 1) := by decide +kernel
theorem dX9_keep_11 : decode cX9_keep 11 = .ok (.aload_n 0, 1) := by decide +kernel
theorem dX9_keep_12 : decode cX9_keep 12 = .ok (.getfield 12, 3) := by decide +kernel
theorem dX9_keep_15 : decode cX9_keep 15 = .ok (.aload_n 0, 1) := by decide +kernel
theorem dX9_keep_16 : decode cX9_keep 16 = .ok (.getfield 67, 3) := by decide +kernel
theorem dX9_keep_19 : decode cX9_keep 19 = .ok (.iload_n 1, 1) := by decide +kernel
theorem dX9_keep_20 : decode cX9_keep 20 = .ok (.aaload, 1) := by decide +kernel
theorem dX9_keep_21 : decode cX9_keep 21 = .ok (.invokevirtual 219, 3) := by decide +kernel
theorem dX9_keep_24 : decode cX9_keep 24 = .ok (.aload_n 0, 1) := by decide +kernel
theorem dX9_keep_25 : decode cX9_keep 25 = .ok (.getfield 70, 3) := by decide +kernel
theorem dX9_keep_28 : decode cX9_keep 28 = .ok (.iload_n 1, 1) := by decide +kernel
theorem dX9_keep_29 : decode cX9_keep 29 = .ok (.iconst 1, 1) := by decide +kernel
theorem dX9_keep_30 : decode cX9_keep 30 = .ok (.bastore, 1) := by decide +kernel
theorem dX9_keep_31 : decode cX9_keep 31 = .ok (.aload_n 0, 1) := by decide +kernel
theorem dX9_keep_32 : decode cX9_keep 32 = .ok (.getfield 33, 3) := by decide +kernel
theorem dX9_keep_35 : decode cX9_keep 35 = .ok (.invokevirtual 201, 3) := by decide +kernel
theorem dX9_keep_38 : decode cX9_keep 38 = .ok (.ireturn, 1) := by decide +kernel
theorem dX9_back_0 : decode cX9_back 0 = .ok (.iload_n 1, 1) := by decide +kernel
theorem dX9_back_1 : decode cX9_back 1 = .ok (.ifCond .lt 8, 3) := by decide +kernel
theorem dX9_back_4 : decode cX9_back 4 = .ok (.iload_n 1, 1) := by decide +kernel
theorem dX9_back_5 : decode cX9_back 5 = .ok (.iconst 2, 1) := by decide +kernel
theorem dX9_back_6 : decode cX9_back 6 = .ok (.if_icmp .lt 5, 3) := by decide +kernel
theorem dX9_back_9 : decode cX9_back 9 = .ok (.iconst (-1), 1) := by decide +kernel
theorem dX9_back_10 : decode cX9_back 10 = .ok (.ireturn, 1) := by decide +kernel
theorem dX9_back_11 : decode cX9_back 11 = .ok (.aload_n 0, 1) := by decide +kernel
theorem dX9_back_12 : decode cX9_back 12 = .ok (.getfield 70, 3) := by decide +kernel
theorem dX9_back_15 : decode cX9_back 15 = .ok (.iload_n 1, 1) := by decide +kernel
theorem dX9_back_16 : decode cX9_back 16 = .ok (.baload, 1) := by decide +kernel
theorem dX9_back_17 : decode cX9_back 17 = .ok (.ifCond .ne 6, 3) := by decide +kernel
theorem dX9_back_20 : decode cX9_back 20 = .ok (.bipush (-2), 2) := by decide +kernel
theorem dX9_back_22 : decode cX9_back 22 = .ok (.ireturn, 1) := by decide +kernel
theorem dX9_back_23 : decode cX9_back 23 = .ok (.aload_n 0, 1) := by decide +kernel
theorem dX9_back_24 : decode cX9_back 24 = .ok (.getfield 12, 3) := by decide +kernel
theorem dX9_back_27 : decode cX9_back 27 = .ok (.aload_n 0, 1) := by decide +kernel
theorem dX9_back_28 : decode cX9_back 28 = .ok (.getfield 67, 3) := by decide +kernel
theorem dX9_back_31 : decode cX9_back 31 = .ok (.iload_n 1, 1) := by decide +kernel
theorem dX9_back_32 : decode cX9_back 32 = .ok (.aaload, 1) := by decide +kernel
theorem dX9_back_33 : decode cX9_back 33 = .ok (.invokevirtual 223, 3) := by decide +kernel
theorem dX9_back_36 : decode cX9_back 36 = .ok (.aload_n 0, 1) := by decide +kernel
theorem dX9_back_37 : decode cX9_back 37 = .ok (.getfield 61, 3) := by decide +kernel
theorem dX9_back_40 : decode cX9_back 40 = .ok (.invokevirtual 226, 3) := by decide +kernel
theorem dX9_back_43 : decode cX9_back 43 = .ok (.aload_n 0, 1) := by decide +kernel
theorem dX9_back_44 : decode cX9_back 44 = .ok (.getfield 33, 3) := by decide +kernel
theorem dX9_back_47 : decode cX9_back 47 = .ok (.aload_n 0, 1) := by decide +kernel
theorem dX9_back_48 : decode cX9_back 48 = .ok (.getfield 12, 3) := by decide +kernel
theorem dX9_back_51 : decode cX9_back 51 = .ok (.invokevirtual 104, 3) := by decide +kernel
theorem dX9_back_54 : decode cX9_back 54 = .ok (.aload_n 0, 1) := by decide +kernel
theorem dX9_back_55 : decode cX9_back 55 = .ok (.getfield 33, 3) := by decide +kernel
theorem dX9_back_58 : decode cX9_back 58 = .ok (.invokevirtual 201, 3) := by decide +kernel
theorem dX9_back_61 : decode cX9_back 61 = .ok (.ireturn, 1) := by decide +kernel
theorem dX9_count_0 : decode cX9_count 0 = .ok (.iload_n 1, 1) := by decide +kernel
theorem dX9_count_1 : decode cX9_count 1 = .ok (.tableswitch 123 0 8 #[51, 59, 67, 75, 83, 91, 99, 107, 115], 51) := by decide +kernel
theorem dX9_count_52 : decode cX9_count 52 = .ok (.aload_n 0, 1) := by decide +kernel
theorem dX9_count_53 : decode cX9_count 53 = .ok (.getfield 12, 3) := by decide +kernel
theorem dX9_count_56 : decode cX9_count 56 = .ok (.invokevirtual 227, 3) := by decide +kernel
theorem dX9_count_59 : decode cX9_count 59 = .ok (.ireturn, 1) := by decide +kernel
theorem dX9_count_60 : decode cX9_count 60 = .ok (.aload_n 0, 1) := by decide +kernel
theorem dX9_count_61 : decode cX9_count 61 = .ok (.getfield 12, 3) := by decide +kernel
theorem dX9_count_64 : decode cX9_count 64 = .ok (.invokevirtual 230, 3) := by decide +kernel
theorem dX9_count_67 : decode cX9_count 67 = .ok (.ireturn, 1) := by decide +kernel
theorem dX9_count_68 : decode cX9_count 68 = .ok (.aload_n 0, 1) := by decide +kernel
theorem dX9_count_69 : decode cX9_count 69 = .ok (.getfield 33, 3) := by decide +kernel
theorem dX9_count_72 : decode cX9_count 72 = .ok (.invokevirtual 201, 3) := by decide +kernel
theorem dX9_count_75 : decode cX9_count 75 = .ok (.ireturn, 1) := by decide +kernel
theorem dX9_count_76 : decode cX9_count 76 = .ok (.aload_n 0, 1) := by decide +kernel
theorem dX9_count_77 : decode cX9_count 77 = .ok (.getfield 12, 3) := by decide +kernel
theorem dX9_count_80 : decode cX9_count 80 = .ok (.invokevirtual 233, 3) := by decide +kernel
theorem dX9_count_83 : decode cX9_count 83 = .ok (.ireturn, 1) := by decide +kernel
theorem dX9_count_84 : decode cX9_count 84 = .ok (.aload_n 0, 1) := by decide +kernel
theorem dX9_count_85 : decode cX9_count 85 = .ok (.getfield 12, 3) := by decide +kernel
theorem dX9_count_88 : decode cX9_count 88 = .ok (.invokevirtual 236, 3) := by decide +kernel
theorem dX9_count_91 : decode cX9_count 91 = .ok (.ireturn, 1) := by decide +kernel
theorem dX9_count_92 : decode cX9_count 92 = .ok (.aload_n 0, 1) := by decide +kernel
theorem dX9_count_93 : decode cX9_count 93 = .ok (.getfield 33, 3) := by decide +kernel
theorem dX9_count_96 : decode cX9_count 96 = .ok (.invokevirtual 239, 3) := by decide +kernel
theorem dX9_count_99 : decode cX9_count 99 = .ok (.ireturn, 1) := by decide +kernel
theorem dX9_count_100 : decode cX9_count 100 = .ok (.aload_n 0, 1) := by decide +kernel
theorem dX9_count_101 : decode cX9_count 101 = .ok (.getfield 54, 3) := by decide +kernel
theorem dX9_count_104 : decode cX9_count 104 = .ok (.invokevirtual 209, 3) := by decide +kernel
theorem dX9_count_107 : decode cX9_count 107 = .ok (.ireturn, 1) := by decide +kernel
theorem dX9_count_108 : decode cX9_count 108 = .ok (.aload_n 0, 1) := by decide +kernel
theorem dX9_count_109 : decode cX9_count 109 = .ok (.getfield 19, 3) := by decide +kernel
theorem dX9_count_112 : decode cX9_count 112 = .ok (.invokevirtual 78, 3) := by decide +kernel
theorem dX9_count_115 : decode cX9_count 115 = .ok (.ireturn, 1) := by decide +kernel
theorem dX9_count_116 : decode cX9_count 116 = .ok (.aload_n 0, 1) := by decide +kernel
theorem dX9_count_117 : decode cX9_count 117 = .ok (.getfield 61, 3) := by decide +kernel
theorem dX9_count_120 : decode cX9_count 120 = .ok (.invokevirtual 126, 3) := by decide +kernel
theorem dX9_count_123 : decode cX9_count 123 = .ok (.ireturn, 1) := by decide +kernel
theorem dX9_count_124 : decode cX9_count 124 = .ok (.iconst (-1), 1) := by decide +kernel
theorem dX9_count_125 : decode cX9_count 125 = .ok (.ireturn, 1) := by decide +kernel
theorem dX9_change_0 : decode cX9_change 0 = .ok (.aload_n 0, 1) := by decide +kernel
theorem dX9_change_1 : decode cX9_change 1 = .ok (.getfield 12, 3) := by decide +kernel
theorem dX9_change_4 : decode cX9_change 4 = .ok (.iload_n 1, 1) := by decide +kernel
theorem dX9_change_5 : decode cX9_change 5 = .ok (.invokevirtual 242, 3) := by decide +kernel
theorem dX9_change_8 : decode cX9_change 8 = .ok (.istore_n 3, 1) := by decide +kernel
theorem dX9_change_9 : decode cX9_change 9 = .ok (.iload_n 3, 1) := by decide +kernel
theorem dX9_change_10 : decode cX9_change 10 = .ok (.iload_n 2, 1) := by decide +kernel
theorem dX9_change_11 : decode cX9_change 11 = .ok (.if_icmp .ne 6, 3) := by decide +kernel
theorem dX9_change_14 : decode cX9_change 14 = .ok (.bipush (-2), 2) := by decide +kernel
theorem dX9_change_16 : decode cX9_change 16 = .ok (.ireturn, 1) := by decide +kernel
theorem dX9_change_17 : decode cX9_change 17 = .ok (.aload_n 0, 1) := by decide +kernel
theorem dX9_change_18 : decode cX9_change 18 = .ok (.getfield 61, 3) := by decide +kernel
theorem dX9_change_21 : decode cX9_change 21 = .ok (.aload_n 0, 1) := by decide +kernel
theorem dX9_change_22 : decode cX9_change 22 = .ok (.getfield 12, 3) := by decide +kernel
theorem dX9_change_25 : decode cX9_change 25 = .ok (.invokevirtual 93, 3) := by decide +kernel
theorem dX9_change_28 : decode cX9_change 28 = .ok (.aload_n 0, 1) := by decide +kernel
theorem dX9_change_29 : decode cX9_change 29 = .ok (.getfield 12, 3) := by decide +kernel
theorem dX9_change_32 : decode cX9_change 32 = .ok (.iload_n 1, 1) := by decide +kernel
theorem dX9_change_33 : decode cX9_change 33 = .ok (.iload_n 2, 1) := by decide +kernel
theorem dX9_change_34 : decode cX9_change 34 = .ok (.invokevirtual 245, 3) := by decide +kernel
theorem dX9_change_37 : decode cX9_change 37 = .ok (.iload_n 3, 1) := by decide +kernel
theorem dX9_change_38 : decode cX9_change 38 = .ok (.ireturn, 1) := by decide +kernel
theorem dX9_cellsOfOtherColour_0 : decode cX9_cellsOfOtherColour 0 = .ok (.iconst 0, 1) := by decide +kernel
theorem dX9_cellsOfOtherColour_1 : decode cX9_cellsOfOtherColour 1 = .ok (.istore 6, 2) := by decide +kernel
theorem dX9_cellsOfOtherColour_3 : decode cX9_cellsOfOtherColour 3 = .ok (.iload_n 2, 1) := by decide +kernel
theorem dX9_cellsOfOtherColour_4 : decode cX9_cellsOfOtherColour 4 = .ok (.istore 7, 2) := by decide +kernel
theorem dX9_cellsOfOtherColour_6 : decode cX9_cellsOfOtherColour 6 = .ok (.iload 7, 2) := by decide +kernel
theorem dX9_cellsOfOtherColour_8 : decode cX9_cellsOfOtherColour 8 = .ok (.iload 4, 2) := by decide +kernel
theorem dX9_cellsOfOtherColour_10 : decode cX9_cellsOfOtherColour 10 = .ok (.if_icmp .gt 46, 3) := by decide +kernel
theorem dX9_cellsOfOtherColour_13 : decode cX9_cellsOfOtherColour 13 = .ok (.iload_n 1, 1) := by decide +kernel
theorem dX9_cellsOfOtherColour_14 : decode cX9_cellsOfOtherColour 14 = .ok (.istore 8, 2) := by decide +kernel
theorem dX9_cellsOfOtherColour_16 : decode cX9_cellsOfOtherColour 16 = .ok (.iload 8, 2) := by decide +kernel
theorem dX9_cellsOfOtherColour_18 : decode cX9_cellsOfOtherColour 18 = .ok (.iload_n 3, 1) := by decide +kernel
theorem dX9_cellsOfOtherColour_19 : decode cX9_cellsOfOtherColour 19 = .ok (.if_icmp .gt 31, 3) := by decide +kernel
theorem dX9_cellsOfOtherColour_22 : decode cX9_cellsOfOtherColour 22 = .ok (.aload_n 0, 1) := by decide +kernel
theorem dX9_cellsOfOtherColour_23 : decode cX9_cellsOfOtherColour 23 = .ok (.getfield 12, 3) := by decide +kernel
theorem dX9_cellsOfOtherColour_26 : decode cX9_cellsOfOtherColour 26 = .ok (.iload 8, 2) := by decide +kernel
theorem dX9_cellsOfOtherColour_28 : decode cX9_cellsOfOtherColour 28 = .ok (.iload 7, 2) := by decide +kernel
theorem dX9_cellsOfOtherColour_30 : decode cX9_cellsOfOtherColour 30 = .ok (.invokestatic 115, 3) := by decide +kernel
theorem dX9_cellsOfOtherColour_33 : decode cX9_cellsOfOtherColour 33 = .ok (.invokevirtual 132, 3) := by decide +kernel
theorem dX9_cellsOfOtherColour_36 : decode cX9_cellsOfOtherColour 36 = .ok (.iload 5, 2) := by decide +kernel
theorem dX9_cellsOfOtherColour_38 : decode cX9_cellsOfOtherColour 38 = .ok (.if_icmp .eq 6, 3) := by decide +kernel
theorem dX9_cellsOfOtherColour_41 : decode cX9_cellsOfOtherColour 41 = .ok (.iinc 6 1, 3) := by decide +kernel
theorem dX9_cellsOfOtherColour_44 : decode cX9_cellsOfOtherColour 44 = .ok (.iinc 8 1, 3) := by decide +kernel
theorem dX9_cellsOfOtherColour_47 : decode cX9_cellsOfOtherColour 47 = .ok (.goto (-31), 3) := by decide +kernel
theorem dX9_cellsOfOtherColour_50 : decode cX9_cellsOfOtherColour 50 = .ok (.iinc 7 1, 3) := by decide +kernel
theorem dX9_cellsOfOtherColour_53 : decode cX9_cellsOfOtherColour 53 = .ok (.goto (-47), 3) := by decide +kernel
theorem dX9_cellsOfOtherColour_56 : decode cX9_cellsOfOtherColour 56 = .ok (.iload 6, 2) := by decide +kernel
theorem dX9_cellsOfOtherColour_58 : decode cX9_cellsOfOtherColour 58 = .ok (.ireturn, 1) := by decide +kernel
theorem dX9_betterWay_0 : decode cX9_betterWay 0 = .ok (.iconst 1, 1) := by decide +kernel
theorem dX9_betterWay_1 : decode cX9_betterWay 1 = .ok (.istore_n 2, 1) := by decide +kernel
theorem dX9_betterWay_2 : decode cX9_betterWay 2 = .ok (.iload_n 2, 1) := by decide +kernel
theorem dX9_betterWay_3 : decode cX9_betterWay 3 = .ok (.iconst 3, 1) := by decide +kernel
theorem dX9_betterWay_4 : decode cX9_betterWay 4 = .ok (.if_icmp .gt 88, 3) := by decide +kernel
theorem dX9_betterWay_7 : decode cX9_betterWay 7 = .ok (.aload_n 0, 1) := by decide +kernel
theorem dX9_betterWay_8 : decode cX9_betterWay 8 = .ok (.getfield 40, 3) := by decide +kernel
theorem dX9_betterWay_11 : decode cX9_betterWay 11 = .ok (.aload_n 0, 1) := by decide +kernel
theorem dX9_betterWay_12 : decode cX9_betterWay 12 = .ok (.getfield 12, 3) := by decide +kernel
theorem dX9_betterWay_15 : decode cX9_betterWay 15 = .ok (.aload_n 0, 1) := by decide +kernel
theorem dX9_betterWay_16 : decode cX9_betterWay 16 = .ok (.getfield 33, 3) := by decide +kernel
theorem dX9_betterWay_19 : decode cX9_betterWay 19 = .ok (.iload_n 1, 1) := by decide +kernel
theorem dX9_betterWay_20 : decode cX9_betterWay 20 = .ok (.iconst 0, 1) := by decide +kernel
theorem dX9_betterWay_21 : decode cX9_betterWay 21 = .ok (.invokevirtual 163, 3) := by decide +kernel
theorem dX9_betterWay_24 : decode cX9_betterWay 24 = .ok (.aload_n 0, 1) := by decide +kernel
theorem dX9_betterWay_25 : decode cX9_betterWay 25 = .ok (.getfield 40, 3) := by decide +kernel
theorem dX9_betterWay_28 : decode cX9_betterWay 28 = .ok (.aload_n 0, 1) := by decide +kernel
theorem dX9_betterWay_29 : decode cX9_betterWay 29 = .ok (.getfield 12, 3) := by decide +kernel
theorem dX9_betterWay_32 : decode cX9_betterWay 32 = .ok (.iload_n 2, 1) := by decide +kernel
theorem dX9_betterWay_33 : decode cX9_betterWay 33 = .ok (.invokevirtual 167, 3) := by decide +kernel
theorem dX9_betterWay_36 : decode cX9_betterWay 36 = .ok (.istore_n 3, 1) := by decide +kernel
theorem dX9_betterWay_37 : decode cX9_betterWay 37 = .ok (.aload_n 0, 1) := by decide +kernel
theorem dX9_betterWay_38 : decode cX9_betterWay 38 = .ok (.getfield 40, 3) := by decide +kernel
theorem dX9_betterWay_41 : decode cX9_betterWay 41 = .ok (.aload_n 0, 1) := by decide +kernel
theorem dX9_betterWay_42 : decode cX9_betterWay 42 = .ok (.getfield 12, 3) := by decide +kernel
theorem dX9_betterWay_45 : decode cX9_betterWay 45 = .ok (.aload_n 0, 1) := by decide +kernel
theorem dX9_betterWay_46 : decode cX9_betterWay 46 = .ok (.getfield 33, 3) := by decide +kernel
theorem dX9_betterWay_49 : decode cX9_betterWay 49 = .ok (.iload_n 1, 1) := by decide +kernel
theorem dX9_betterWay_50 : decode cX9_betterWay 50 = .ok (.iconst 1, 1) := by decide +kernel
theorem dX9_betterWay_51 : decode cX9_betterWay 51 = .ok (.invokevirtual 163, 3) := by decide +kernel
theorem dX9_betterWay_54 : decode cX9_betterWay 54 = .ok (.aload_n 0, 1) := by decide +kernel
theorem dX9_betterWay_55 : decode cX9_betterWay 55 = .ok (.getfield 40, 3) := by decide +kernel
theorem dX9_betterWay_58 : decode cX9_betterWay 58 = .ok (.aload_n 0, 1) := by decide +kernel
theorem dX9_betterWay_59 : decode cX9_betterWay 59 = .ok (.getfield 12, 3) := by decide +kernel
theorem dX9_betterWay_62 : decode cX9_betterWay 62 = .ok (.iload_n 2, 1) := by decide +kernel
theorem dX9_betterWay_63 : decode cX9_betterWay 63 = .ok (.invokevirtual 167, 3) := by decide +kernel
theorem dX9_betterWay_66 : decode cX9_betterWay 66 = .ok (.istore 4, 2) := by decide +kernel
theorem dX9_betterWay_68 : decode cX9_betterWay 68 = .ok (.iload_n 3, 1) := by decide +kernel
theorem dX9_betterWay_69 : decode cX9_betterWay 69 = .ok (.iload 4, 2) := by decide +kernel
theorem dX9_betterWay_71 : decode cX9_betterWay 71 = .ok (.if_icmp .eq 15, 3) := by decide +kernel
theorem dX9_betterWay_74 : decode cX9_betterWay 74 = .ok (.iload_n 3, 1) := by decide +kernel
theorem dX9_betterWay_75 : decode cX9_betterWay 75 = .ok (.iload 4, 2) := by decide +kernel
theorem dX9_betterWay_77 : decode cX9_betterWay 77 = .ok (.if_icmp .ge 7, 3) := by decide +kernel
theorem dX9_betterWay_80 : decode cX9_betterWay 80 = .ok (.iconst 0, 1) := by decide +kernel
theorem dX9_betterWay_81 : decode cX9_betterWay 81 = .ok (.goto 4, 3) := by decide +kernel
theorem dX9_betterWay_84 : decode cX9_betterWay 84 = .ok (.iconst 1, 1) := by decide +kernel
theorem dX9_betterWay_85 : decode cX9_betterWay 85 = .ok (.ireturn, 1) := by decide +kernel
theorem dX9_betterWay_86 : decode cX9_betterWay 86 = .ok (.iinc 2 1, 3) := by decide +kernel
theorem dX9_betterWay_89 : decode cX9_betterWay 89 = .ok (.goto (-87), 3) := by decide +kernel
theorem dX9_betterWay_92 : decode cX9_betterWay 92 = .ok (.iconst 0, 1) := by decide +kernel
theorem dX9_betterWay_93 : decode cX9_betterWay 93 = .ok (.ireturn, 1) := by decide +kernel
theorem dX9_covered_0 : decode cX9_covered 0 = .ok (.aload_n 0, 1) := by decide +kernel
theorem dX9_covered_1 : decode cX9_covered 1 = .ok (.getfield 33, 3) := by decide +kernel
theorem dX9_covered_4 : decode cX9_covered 4 = .ok (.iload_n 1, 1) := by decide +kernel
theorem dX9_covered_5 : decode cX9_covered 5 = .ok (.invokevirtual 142, 3) := by decide +kernel
theorem dX9_covered_8 : decode cX9_covered 8 = .ok (.istore_n 3, 1) := by decide +kernel
theorem dX9_covered_9 : decode cX9_covered 9 = .ok (.aload_n 0, 1) := by decide +kernel
theorem dX9_covered_10 : decode cX9_covered 10 = .ok (.getfield 40, 3) := by decide +kernel
theorem dX9_covered_13 : decode cX9_covered 13 = .ok (.aload_n 0, 1) := by decide +kernel
theorem dX9_covered_14 : decode cX9_covered 14 = .ok (.getfield 12, 3) := by decide +kernel
theorem dX9_covered_17 : decode cX9_covered 17 = .ok (.aload_n 0, 1) := by decide +kernel
theorem dX9_covered_18 : decode cX9_covered 18 = .ok (.getfield 33, 3) := by decide +kernel
theorem dX9_covered_21 : decode cX9_covered 21 = .ok (.iload_n 1, 1) := by decide +kernel
theorem dX9_covered_22 : decode cX9_covered 22 = .ok (.aload_n 0, 1) := by decide +kernel
theorem dX9_covered_23 : decode cX9_covered 23 = .ok (.getfield 12, 3) := by decide +kernel
theorem dX9_covered_26 : decode cX9_covered 26 = .ok (.iload_n 3, 1) := by decide +kernel
theorem dX9_covered_27 : decode cX9_covered 27 = .ok (.invokevirtual 248, 3) := by decide +kernel
theorem dX9_covered_30 : decode cX9_covered 30 = .ok (.invokevirtual 163, 3) := by decide +kernel
theorem dX9_covered_33 : decode cX9_covered 33 = .ok (.aload_n 0, 1) := by decide +kernel
theorem dX9_covered_34 : decode cX9_covered 34 = .ok (.getfield 40, 3) := by decide +kernel
theorem dX9_covered_37 : decode cX9_covered 37 = .ok (.aload_n 0, 1) := by decide +kernel
theorem dX9_covered_38 : decode cX9_covered 38 = .ok (.getfield 12, 3) := by decide +kernel
theorem dX9_covered_41 : decode cX9_covered 41 = .ok (.invokevirtual 251, 3) := by decide +kernel
theorem dX9_covered_44 : decode cX9_covered 44 = .ok (.iload_n 2, 1) := by decide +kernel
theorem dX9_covered_45 : decode cX9_covered 45 = .ok (.iconst 4, 1) := by decide +kernel
theorem dX9_covered_46 : decode cX9_covered 46 = .ok (.if_icmp .ne 11, 3) := by decide +kernel
theorem dX9_covered_49 : decode cX9_covered 49 = .ok (.aload_n 0, 1) := by decide +kernel
theorem dX9_covered_50 : decode cX9_covered 50 = .ok (.getfield 40, 3) := by decide +kernel
theorem dX9_covered_53 : decode cX9_covered 53 = .ok (.invokevirtual 254, 3) := by decide +kernel
theorem dX9_covered_56 : decode cX9_covered 56 = .ok (.ireturn, 1) := by decide +kernel
theorem dX9_covered_57 : decode cX9_covered 57 = .ok (.aload_n 0, 1) := by decide +kernel
theorem dX9_covered_58 : decode cX9_covered 58 = .ok (.getfield 40, 3) := by decide +kernel
theorem dX9_covered_61 : decode cX9_covered 61 = .ok (.aload_n 0, 1) := by decide +kernel
theorem dX9_covered_62 : decode cX9_covered 62 = .ok (.getfield 12, 3) := by decide +kernel
theorem dX9_covered_65 : decode cX9_covered 65 = .ok (.iconst 0, 1) := by decide +kernel
theorem dX9_covered_66 : decode cX9_covered 66 = .ok (.invokevirtual 257, 3) := by decide +kernel
theorem dX9_covered_69 : decode cX9_covered 69 = .ok (.istore 4, 2) := by decide +kernel
theorem dX9_covered_71 : decode cX9_covered 71 = .ok (.iload_n 2, 1) := by decide +kernel
theorem dX9_covered_72 : decode cX9_covered 72 = .ok (.bipush 6, 2) := by decide +kernel
theorem dX9_covered_74 : decode cX9_covered 74 = .ok (.if_icmp .ne 8, 3) := by decide +kernel
theorem dX9_covered_77 : decode cX9_covered 77 = .ok (.iload 4, 2) := by decide +kernel
theorem dX9_covered_79 : decode cX9_covered 79 = .ok (.goto 26, 3) := by decide +kernel
theorem dX9_covered_82 : decode cX9_covered 82 = .ok (.aload_n 0, 1) := by decide +kernel
theorem dX9_covered_83 : decode cX9_covered 83 = .ok (.getfield 40, 3) := by decide +kernel
theorem dX9_covered_86 : decode cX9_covered 86 = .ok (.invokevirtual 254, 3) := by decide +kernel
theorem dX9_covered_89 : decode cX9_covered 89 = .ok (.iload 4, 2) := by decide +kernel
theorem dX9_covered_91 : decode cX9_covered 91 = .ok (.isub, 1) := by decide +kernel
theorem dX9_covered_92 : decode cX9_covered 92 = .ok (.aload_n 0, 1) := by decide +kernel
theorem dX9_covered_93 : decode cX9_covered 93 = .ok (.getfield 40, 3) := by decide +kernel
theorem dX9_covered_96 : decode cX9_covered 96 = .ok (.aload_n 0, 1) := by decide +kernel
theorem dX9_covered_97 : decode cX9_covered 97 = .ok (.getfield 12, 3) := by decide +kernel
theorem dX9_covered_100 : decode cX9_covered 100 = .ok (.iload_n 3, 1) := by decide +kernel
theorem dX9_covered_101 : decode cX9_covered 101 = .ok (.invokevirtual 257, 3) := by decide +kernel
theorem dX9_covered_104 : decode cX9_covered 104 = .ok (.isub, 1) := by decide +kernel
theorem dX9_covered_105 : decode cX9_covered 105 = .ok (.ireturn, 1) := by decide +kernel
theorem dX9_within_0 : decode cX9_within 0 = .ok (.iload_n 0, 1) := by decide +kernel
theorem dX9_within_1 : decode cX9_within 1 = .ok (.iload_n 1, 1) := by decide +kernel
theorem dX9_within_2 : decode cX9_within 2 = .ok (.if_icmp .lt 12, 3) := by decide +kernel
theorem dX9_within_5 : decode cX9_within 5 = .ok (.iload_n 0, 1) := by decide +kernel
theorem dX9_within_6 : decode cX9_within 6 = .ok (.iload_n 2, 1) := by decide +kernel
theorem dX9_within_7 : decode cX9_within 7 = .ok (.if_icmp .gt 7, 3) := by decide +kernel
theorem dX9_within_10 : decode cX9_within 10 = .ok (.iconst 1, 1) := by decide +kernel
theorem dX9_within_11 : decode cX9_within 11 = .ok (.goto 4, 3) := by decide +kernel
theorem dX9_within_14 : decode cX9_within 14 = .ok (.iconst 0, 1) := by decide +kernel
theorem dX9_within_15 : decode cX9_within 15 = .ok (.ireturn, 1) := by decide +kernel
theorem dX9_at_0 : decode cX9_at 0 = .ok (.iload_n 1, 1) := by decide +kernel
theorem dX9_at_1 : decode cX9_at 1 = .ok (.ifCond .lt 15, 3) := by decide +kernel
theorem dX9_at_4 : decode cX9_at 4 = .ok (.iload_n 1, 1) := by decide +kernel
theorem dX9_at_5 : decode cX9_at 5 = .ok (.aload_n 0, 1) := by decide +kernel
theorem dX9_at_6 : decode cX9_at 6 = .ok (.arraylength, 1) := by decide +kernel
theorem dX9_at_7 : decode cX9_at 7 = .ok (.if_icmp .ge 9, 3) := by decide +kernel
theorem dX9_at_10 : decode cX9_at 10 = .ok (.aload_n 0, 1) := by decide +kernel
theorem dX9_at_11 : decode cX9_at 11 = .ok (.iload_n 1, 1) := by decide +kernel
theorem dX9_at_12 : decode cX9_at 12 = .ok (.iaload, 1) := by decide +kernel
theorem dX9_at_13 : decode cX9_at 13 = .ok (.goto 5, 3) := by decide +kernel
theorem dX9_at_16 : decode cX9_at 16 = .ok (.bipush (-9), 2) := by decide +kernel
theorem dX9_at_18 : decode cX9_at 18 = .ok (.ireturn, 1) := by decide +kernel
theorem dX9_put_0 : decode cX9_put 0 = .ok (.iload_n 1, 1) := by decide +kernel
theorem dX9_put_1 : decode cX9_put 1 = .ok (.ifCond .lt 13, 3) := by decide +kernel
theorem dX9_put_4 : decode cX9_put 4 = .ok (.iload_n 1, 1) := by decide +kernel
theorem dX9_put_5 : decode cX9_put 5 = .ok (.aload_n 0, 1) := by decide +kernel
theorem dX9_put_6 : decode cX9_put 6 = .ok (.arraylength, 1) := by decide +kernel
theorem dX9_put_7 : decode cX9_put 7 = .ok (.if_icmp .ge 7, 3) := by decide +kernel
theorem dX9_put_10 : decode cX9_put 10 = .ok (.aload_n 0, 1) := by decide +kernel
theorem dX9_put_11 : decode cX9_put 11 = .ok (.iload_n 1, 1) := by decide +kernel
theorem dX9_put_12 : decode cX9_put 12 = .ok (.iload_n 2, 1) := by decide +kernel
theorem dX9_put_13 : decode cX9_put 13 = .ok (.iastore, 1) := by decide +kernel
theorem dX9_put_14 : decode cX9_put 14 = .ok (.return_, 1) := by decide +kernel
theorem dX9_wipe_0 : decode cX9_wipe 0 = .ok (.iconst 0, 1) := by decide +kernel
theorem dX9_wipe_1 : decode cX9_wipe 1 = .ok (.istore_n 1, 1) := by decide +kernel
theorem dX9_wipe_2 : decode cX9_wipe 2 = .ok (.iload_n 1, 1) := by decide +kernel
theorem dX9_wipe_3 : decode cX9_wipe 3 = .ok (.aload_n 0, 1) := by decide +kernel
theorem dX9_wipe_4 : decode cX9_wipe 4 = .ok (.arraylength, 1) := by decide +kernel
theorem dX9_wipe_5 : decode cX9_wipe 5 = .ok (.if_icmp .ge 13, 3) := by decide +kernel
theorem dX9_wipe_8 : decode cX9_wipe 8 = .ok (.aload_n 0, 1) := by decide +kernel
theorem dX9_wipe_9 : decode cX9_wipe 9 = .ok (.iload_n 1, 1) := by decide +kernel
theorem dX9_wipe_10 : decode cX9_wipe 10 = .ok (.iconst 0, 1) := by decide +kernel
theorem dX9_wipe_11 : decode cX9_wipe 11 = .ok (.bastore, 1) := by decide +kernel
theorem dX9_wipe_12 : decode cX9_wipe 12 = .ok (.iinc 1 1, 3) := by decide +kernel
theorem dX9_wipe_15 : decode cX9_wipe 15 = .ok (.goto (-13), 3) := by decide +kernel
theorem dX9_wipe_18 : decode cX9_wipe 18 = .ok (.return_, 1) := by decide +kernel
theorem dX9_countTrue_0 : decode cX9_countTrue 0 = .ok (.iconst 0, 1) := by decide +kernel
theorem dX9_countTrue_1 : decode cX9_countTrue 1 = .ok (.istore_n 1, 1) := by decide +kernel
theorem dX9_countTrue_2 : decode cX9_countTrue 2 = .ok (.aload_n 0, 1) := by decide +kernel
theorem dX9_countTrue_3 : decode cX9_countTrue 3 = .ok (.astore_n 2, 1) := by decide +kernel
theorem dX9_countTrue_4 : decode cX9_countTrue 4 = .ok (.aload_n 2, 1) := by decide +kernel
theorem dX9_countTrue_5 : decode cX9_countTrue 5 = .ok (.arraylength, 1) := by decide +kernel
theorem dX9_countTrue_6 : decode cX9_countTrue 6 = .ok (.istore_n 3, 1) := by decide +kernel
theorem dX9_countTrue_7 : decode cX9_countTrue 7 = .ok (.iconst 0, 1) := by decide +kernel
theorem dX9_countTrue_8 : decode cX9_countTrue 8 = .ok (.istore 4, 2) := by decide +kernel
theorem dX9_countTrue_10 : decode cX9_countTrue 10 = .ok (.iload 4, 2) := by decide +kernel
theorem dX9_countTrue_12 : decode cX9_countTrue 12 = .ok (.iload_n 3, 1) := by decide +kernel
theorem dX9_countTrue_13 : decode cX9_countTrue 13 = .ok (.if_icmp .ge 28, 3) := by decide +kernel
theorem dX9_countTrue_16 : decode cX9_countTrue 16 = .ok (.aload_n 2, 1) := by decide +kernel
theorem dX9_countTrue_17 : decode cX9_countTrue 17 = .ok (.iload 4, 2) := by decide +kernel
theorem dX9_countTrue_19 : decode cX9_countTrue 19 = .ok (.baload, 1) := by decide +kernel
theorem dX9_countTrue_20 : decode cX9_countTrue 20 = .ok (.istore 5, 2) := by decide +kernel
theorem dX9_countTrue_22 : decode cX9_countTrue 22 = .ok (.iload_n 1, 1) := by decide +kernel
theorem dX9_countTrue_23 : decode cX9_countTrue 23 = .ok (.iload 5, 2) := by decide +kernel
theorem dX9_countTrue_25 : decode cX9_countTrue 25 = .ok (.ifCond .eq 7, 3) := by decide +kernel
theorem dX9_countTrue_28 : decode cX9_countTrue 28 = .ok (.iconst 1, 1) := by decide +kernel
theorem dX9_countTrue_29 : decode cX9_countTrue 29 = .ok (.goto 4, 3) := by decide +kernel
theorem dX9_countTrue_32 : decode cX9_countTrue 32 = .ok (.iconst 0, 1) := by decide +kernel
theorem dX9_countTrue_33 : decode cX9_countTrue 33 = .ok (.iadd, 1) := by decide +kernel
theorem dX9_countTrue_34 : decode cX9_countTrue 34 = .ok (.istore_n 1, 1) := by decide +kernel
theorem dX9_countTrue_35 : decode cX9_countTrue 35 = .ok (.iinc 4 1, 3) := by decide +kernel
theorem dX9_countTrue_38 : decode cX9_countTrue 38 = .ok (.goto (-28), 3) := by decide +kernel
theorem dX9_countTrue_41 : decode cX9_countTrue 41 = .ok (.iload_n 1, 1) := by decide +kernel
theorem dX9_countTrue_42 : decode cX9_countTrue 42 = .ok (.ireturn, 1) := by decide +kernel
theorem dX9_placeOf_0 : decode cX9_placeOf 0 = .ok (.iload_n 0, 1) := by decide +kernel
theorem dX9_placeOf_1 : decode cX9_placeOf 1 = .ok (.iconst 0, 1) := by decide +kernel
theorem dX9_placeOf_2 : decode cX9_placeOf 2 = .ok (.bipush 7, 2) := by decide +kernel
theorem dX9_placeOf_4 : decode cX9_placeOf 4 = .ok (.invokestatic 74, 3) := by decide +kernel
theorem dX9_placeOf_7 : decode cX9_placeOf 7 = .ok (.ifCond .eq 21, 3) := by decide +kernel
theorem dX9_placeOf_10 : decode cX9_placeOf 10 = .ok (.iload_n 1, 1) := by decide +kernel
theorem dX9_placeOf_11 : decode cX9_placeOf 11 = .ok (.iconst 0, 1) := by decide +kernel
theorem dX9_placeOf_12 : decode cX9_placeOf 12 = .ok (.iconst 5, 1) := by decide +kernel
theorem dX9_placeOf_13 : decode cX9_placeOf 13 = .ok (.invokestatic 74, 3) := by decide +kernel
theorem dX9_placeOf_16 : decode cX9_placeOf 16 = .ok (.ifCond .eq 12, 3) := by decide +kernel
theorem dX9_placeOf_19 : decode cX9_placeOf 19 = .ok (.bipush 8, 2) := by decide +kernel
theorem dX9_placeOf_21 : decode cX9_placeOf 21 = .ok (.iload_n 1, 1) := by decide +kernel
theorem dX9_placeOf_22 : decode cX9_placeOf 22 = .ok (.imul, 1) := by decide +kernel
theorem dX9_placeOf_23 : decode cX9_placeOf 23 = .ok (.iload_n 0, 1) := by decide +kernel
theorem dX9_placeOf_24 : decode cX9_placeOf 24 = .ok (.iadd, 1) := by decide +kernel
theorem dX9_placeOf_25 : decode cX9_placeOf 25 = .ok (.goto 5, 3) := by decide +kernel
theorem dX9_placeOf_28 : decode cX9_placeOf 28 = .ok (.bipush (-9), 2) := by decide +kernel
theorem dX9_placeOf_30 : decode cX9_placeOf 30 = .ok (.ireturn, 1) := by decide +kernel
theorem dX9_beside_0 : decode cX9_beside 0 = .ok (.iload_n 0, 1) := by decide +kernel
theorem dX9_beside_1 : decode cX9_beside 1 = .ok (.ifCond .lt 9, 3) := by decide +kernel
theorem dX9_beside_4 : decode cX9_beside 4 = .ok (.iload_n 0, 1) := by decide +kernel
theorem dX9_beside_5 : decode cX9_beside 5 = .ok (.bipush 48, 2) := by decide +kernel
theorem dX9_beside_7 : decode cX9_beside 7 = .ok (.if_icmp .lt 6, 3) := by decide +kernel
theorem dX9_beside_10 : decode cX9_beside 10 = .ok (.bipush (-9), 2) := by decide +kernel
theorem dX9_beside_12 : decode cX9_beside 12 = .ok (.ireturn, 1) := by decide +kernel
theorem dX9_beside_13 : decode cX9_beside 13 = .ok (.iload_n 1, 1) := by decide +kernel
theorem dX9_beside_14 : decode cX9_beside 14 = .ok (.tableswitch 96 0 3 #[30, 46, 62, 80], 30) := by decide +kernel
theorem dX9_beside_44 : decode cX9_beside 44 = .ok (.iload_n 0, 1) := by decide +kernel
theorem dX9_beside_45 : decode cX9_beside 45 = .ok (.bipush 8, 2) := by decide +kernel
theorem dX9_beside_47 : decode cX9_beside 47 = .ok (.if_icmp .lt 10, 3) := by decide +kernel
theorem dX9_beside_50 : decode cX9_beside 50 = .ok (.iload_n 0, 1) := by decide +kernel
theorem dX9_beside_51 : decode cX9_beside 51 = .ok (.bipush 8, 2) := by decide +kernel
theorem dX9_beside_53 : decode cX9_beside 53 = .ok (.isub, 1) := by decide +kernel
theorem dX9_beside_54 : decode cX9_beside 54 = .ok (.goto 5, 3) := by decide +kernel
theorem dX9_beside_57 : decode cX9_beside 57 = .ok (.bipush (-9), 2) := by decide +kernel
theorem dX9_beside_59 : decode cX9_beside 59 = .ok (.ireturn, 1) := by decide +kernel
theorem dX9_beside_60 : decode cX9_beside 60 = .ok (.iload_n 0, 1) := by decide +kernel
theorem dX9_beside_61 : decode cX9_beside 61 = .ok (.bipush 8, 2) := by decide +kernel
theorem dX9_beside_63 : decode cX9_beside 63 = .ok (.irem, 1) := by decide +kernel
theorem dX9_beside_64 : decode cX9_beside 64 = .ok (.ifCond .le 9, 3) := by decide +kernel
theorem dX9_beside_67 : decode cX9_beside 67 = .ok (.iload_n 0, 1) := by decide +kernel
theorem dX9_beside_68 : decode cX9_beside 68 = .ok (.iconst 1, 1) := by decide +kernel
theorem dX9_beside_69 : decode cX9_beside 69 = .ok (.isub, 1) := by decide +kernel
theorem dX9_beside_70 : decode cX9_beside 70 = .ok (.goto 5, 3) := by decide +kernel
theorem dX9_beside_73 : decode cX9_beside 73 = .ok (.bipush (-9), 2) := by decide +kernel
theorem dX9_beside_75 : decode cX9_beside 75 = .ok (.ireturn, 1) := by decide +kernel
theorem dX9_beside_76 : decode cX9_beside 76 = .ok (.iload_n 0, 1) := by decide +kernel
theorem dX9_beside_77 : decode cX9_beside 77 = .ok (.bipush 8, 2) := by decide +kernel
theorem dX9_beside_79 : decode cX9_beside 79 = .ok (.irem, 1) := by decide +kernel
theorem dX9_beside_80 : decode cX9_beside 80 = .ok (.bipush 7, 2) := by decide +kernel
theorem dX9_beside_82 : decode cX9_beside 82 = .ok (.if_icmp .ge 9, 3) := by decide +kernel
theorem dX9_beside_85 : decode cX9_beside 85 = .ok (.iload_n 0, 1) := by decide +kernel
theorem dX9_beside_86 : decode cX9_beside 86 = .ok (.iconst 1, 1) := by decide +kernel
theorem dX9_beside_87 : decode cX9_beside 87 = .ok (.iadd, 1) := by decide +kernel
theorem dX9_beside_88 : decode cX9_beside 88 = .ok (.goto 5, 3) := by decide +kernel
theorem dX9_beside_91 : decode cX9_beside 91 = .ok (.bipush (-9), 2) := by decide +kernel
theorem dX9_beside_93 : decode cX9_beside 93 = .ok (.ireturn, 1) := by decide +kernel
theorem dX9_beside_94 : decode cX9_beside 94 = .ok (.iload_n 0, 1) := by decide +kernel
theorem dX9_beside_95 : decode cX9_beside 95 = .ok (.bipush 40, 2) := by decide +kernel
theorem dX9_beside_97 : decode cX9_beside 97 = .ok (.if_icmp .ge 10, 3) := by decide +kernel
theorem dX9_beside_100 : decode cX9_beside 100 = .ok (.iload_n 0, 1) := by decide +kernel
theorem dX9_beside_101 : decode cX9_beside 101 = .ok (.bipush 8, 2) := by decide +kernel
theorem dX9_beside_103 : decode cX9_beside 103 = .ok (.iadd, 1) := by decide +kernel
theorem dX9_beside_104 : decode cX9_beside 104 = .ok (.goto 5, 3) := by decide +kernel
theorem dX9_beside_107 : decode cX9_beside 107 = .ok (.bipush (-9), 2) := by decide +kernel
theorem dX9_beside_109 : decode cX9_beside 109 = .ok (.ireturn, 1) := by decide +kernel
theorem dX9_beside_110 : decode cX9_beside 110 = .ok (.bipush (-9), 2) := by decide +kernel
theorem dX9_beside_112 : decode cX9_beside 112 = .ok (.ireturn, 1) := by decide +kernel
theorem dX10_init_0 : decode cX10_init 0 = .ok (.aload_n 0, 1) := by decide +kernel
theorem dX10_init_1 : decode cX10_init 1 = .ok (.invokespecial 1, 3) := by decide +kernel
theorem dX10_init_4 : decode cX10_init 4 = .ok (.aload_n 0, 1) := by decide +kernel
theorem dX10_init_5 : decode cX10_init 5 = .ok (.bipush 60, 2) := by decide +kernel
theorem dX10_init_7 : decode cX10_init 7 = .ok (.newarray .int, 2) := by decide +kernel
theorem dX10_init_9 : decode cX10_init 9 = .ok (.putfield 7, 3) := by decide +kernel
theorem dX10_init_12 : decode cX10_init 12 = .ok (.aload_n 0, 1) := by decide +kernel
theorem dX10_init_13 : decode cX10_init 13 = .ok (.bipush 60, 2) := by decide +kernel
theorem dX10_init_15 : decode cX10_init 15 = .ok (.newarray .int, 2) := by decide +kernel
theorem dX10_init_17 : decode cX10_init 17 = .ok (.putfield 13, 3) := by decide +kernel
theorem dX10_init_20 : decode cX10_init 20 = .ok (.aload_n 0, 1) := by decide +kernel
theorem dX10_init_21 : decode cX10_init 21 = .ok (.sipush 360, 3) := by decide +kernel
theorem dX10_init_24 : decode cX10_init 24 = .ok (.newarray .int, 2) := by decide +kernel
theorem dX10_init_26 : decode cX10_init 26 = .ok (.putfield 16, 3) := by decide +kernel
theorem dX10_init_29 : decode cX10_init 29 = .ok (.aload_n 0, 1) := by decide +kernel
theorem dX10_init_30 : decode cX10_init 30 = .ok (.bipush 120, 2) := by decide +kernel
theorem dX10_init_32 : decode cX10_init 32 = .ok (.newarray .int, 2) := by decide +kernel
theorem dX10_init_34 : decode cX10_init 34 = .ok (.putfield 19, 3) := by decide +kernel
theorem dX10_init_37 : decode cX10_init 37 = .ok (.aload_n 0, 1) := by decide +kernel
theorem dX10_init_38 : decode cX10_init 38 = .ok (.iconst 2, 1) := by decide +kernel
theorem dX10_init_39 : decode cX10_init 39 = .ok (.newarray .boolean, 2) := by decide +kernel
theorem dX10_init_41 : decode cX10_init 41 = .ok (.putfield 22, 3) := by decide +kernel
theorem dX10_init_44 : decode cX10_init 44 = .ok (.aload_n 0, 1) := by decide +kernel
theorem dX10_init_45 : decode cX10_init 45 = .ok (.bipush 18, 2) := by decide +kernel
theorem dX10_init_47 : decode cX10_init 47 = .ok (.newarray .int, 2) := by decide +kernel
theorem dX10_init_49 : decode cX10_init 49 = .ok (.putfield 26, 3) := by decide +kernel
theorem dX10_init_52 : decode cX10_init 52 = .ok (.aload_n 0, 1) := by decide +kernel
theorem dX10_init_53 : decode cX10_init 53 = .ok (.bipush 120, 2) := by decide +kernel
theorem dX10_init_55 : decode cX10_init 55 = .ok (.newarray .byte, 2) := by decide +kernel
theorem dX10_init_57 : decode cX10_init 57 = .ok (.putfield 29, 3) := by decide +kernel
theorem dX10_init_60 : decode cX10_init 60 = .ok (.aload_n 0, 1) := by decide +kernel
theorem dX10_init_61 : decode cX10_init 61 = .ok (.bipush 48, 2) := by decide +kernel
theorem dX10_init_63 : decode cX10_init 63 = .ok (.newarray .int, 2) := by decide +kernel
theorem dX10_init_65 : decode cX10_init 65 = .ok (.putfield 33, 3) := by decide +kernel
theorem dX10_init_68 : decode cX10_init 68 = .ok (.aload_n 0, 1) := by decide +kernel
theorem dX10_init_69 : decode cX10_init 69 = .ok (.bipush 48, 2) := by decide +kernel
theorem dX10_init_71 : decode cX10_init 71 = .ok (.newarray .int, 2) := by decide +kernel
theorem dX10_init_73 : decode cX10_init 73 = .ok (.putfield 36, 3) := by decide +kernel
theorem dX10_init_76 : decode cX10_init 76 = .ok (.aload_n 0, 1) := by decide +kernel
theorem dX10_init_77 : decode cX10_init 77 = .ok (.bipush 48, 2) := by decide +kernel
theorem dX10_init_79 : decode cX10_init 79 = .ok (.newarray .int, 2) := by decide +kernel
theorem dX10_init_81 : decode cX10_init 81 = .ok (.putfield 39, 3) := by decide +kernel
theorem dX10_init_84 : decode cX10_init 84 = .ok (.aload_n 0, 1) := by decide +kernel
theorem dX10_init_85 : decode cX10_init 85 = .ok (.bipush 48, 2) := by decide +kernel
theorem dX10_init_87 : decode cX10_init 87 = .ok (.newarray .int, 2) := by decide +kernel
theorem dX10_init_89 : decode cX10_init 89 = .ok (.putfield 42, 3) := by decide +kernel
theorem dX10_init_92 : decode cX10_init 92 = .ok (.aload_n 0, 1) := by decide +kernel
theorem dX10_init_93 : decode cX10_init 93 = .ok (.bipush 48, 2) := by decide +kernel
theorem dX10_init_95 : decode cX10_init 95 = .ok (.newarray .int, 2) := by decide +kernel
theorem dX10_init_97 : decode cX10_init 97 = .ok (.putfield 45, 3) := by decide +kernel
theorem dX10_init_100 : decode cX10_init 100 = .ok (.aload_n 0, 1) := by decide +kernel
theorem dX10_init_101 : decode cX10_init 101 = .ok (.bipush 48, 2) := by decide +kernel
theorem dX10_init_103 : decode cX10_init 103 = .ok (.newarray .int, 2) := by decide +kernel
theorem dX10_init_105 : decode cX10_init 105 = .ok (.putfield 48, 3) := by decide +kernel
theorem dX10_init_108 : decode cX10_init 108 = .ok (.aload_n 0, 1) := by decide +kernel
theorem dX10_init_109 : decode cX10_init 109 = .ok (.bipush 48, 2) := by decide +kernel
theorem dX10_init_111 : decode cX10_init 111 = .ok (.newarray .int, 2) := by decide +kernel
theorem dX10_init_113 : decode cX10_init 113 = .ok (.putfield 51, 3) := by decide +kernel
theorem dX10_init_116 : decode cX10_init 116 = .ok (.aload_n 0, 1) := by decide +kernel
theorem dX10_init_117 : decode cX10_init 117 = .ok (.bipush 48, 2) := by decide +kernel
theorem dX10_init_119 : decode cX10_init 119 = .ok (.newarray .int, 2) := by decide +kernel
theorem dX10_init_121 : decode cX10_init 121 = .ok (.putfield 54, 3) := by decide +kernel
theorem dX10_init_124 : decode cX10_init 124 = .ok (.aload_n 0, 1) := by decide +kernel
theorem dX10_init_125 : decode cX10_init 125 = .ok (.bipush 48, 2) := by decide +kernel
theorem dX10_init_127 : decode cX10_init 127 = .ok (.newarray .int, 2) := by decide +kernel
theorem dX10_init_129 : decode cX10_init 129 = .ok (.putfield 57, 3) := by decide +kernel
theorem dX10_init_132 : decode cX10_init 132 = .ok (.aload_n 0, 1) := by decide +kernel
theorem dX10_init_133 : decode cX10_init 133 = .ok (.bipush 48, 2) := by decide +kernel
theorem dX10_init_135 : decode cX10_init 135 = .ok (.newarray .int, 2) := by decide +kernel
theorem dX10_init_137 : decode cX10_init 137 = .ok (.putfield 60, 3) := by decide +kernel
theorem dX10_init_140 : decode cX10_init 140 = .ok (.aload_n 0, 1) := by decide +kernel
theorem dX10_init_141 : decode cX10_init 141 = .ok (.bipush 48, 2) := by decide +kernel
theorem dX10_init_143 : decode cX10_init 143 = .ok (.newarray .int, 2) := by decide +kernel
theorem dX10_init_145 : decode cX10_init 145 = .ok (.putfield 63, 3) := by decide +kernel
theorem dX10_init_148 : decode cX10_init 148 = .ok (.aload_n 0, 1) := by decide +kernel
theorem dX10_init_149 : decode cX10_init 149 = .ok (.bipush 48, 2) := by decide +kernel
theorem dX10_init_151 : decode cX10_init 151 = .ok (.newarray .int, 2) := by decide +kernel
theorem dX10_init_153 : decode cX10_init 153 = .ok (.putfield 66, 3) := by decide +kernel
theorem dX10_init_156 : decode cX10_init 156 = .ok (.aload_n 0, 1) := by decide +kernel
theorem dX10_init_157 : decode cX10_init 157 = .ok (.bipush 48, 2) := by decide +kernel
theorem dX10_init_159 : decode cX10_init 159 = .ok (.newarray .boolean, 2) := by decide +kernel
theorem dX10_init_161 : decode cX10_init 161 = .ok (.putfield 69, 3) := by decide +kernel
theorem dX10_init_164 : decode cX10_init 164 = .ok (.aload_n 0, 1) := by decide +kernel
theorem dX10_init_165 : decode cX10_init 165 = .ok (.bipush 10, 2) := by decide +kernel
theorem dX10_init_167 : decode cX10_init 167 = .ok (.newarray .int, 2) := by decide +kernel
theorem dX10_init_169 : decode cX10_init 169 = .ok (.putfield 72, 3) := by decide +kernel
theorem dX10_init_172 : decode cX10_init 172 = .ok (.aload_n 0, 1) := by decide +kernel
theorem dX10_init_173 : decode cX10_init 173 = .ok (.bipush 10, 2) := by decide +kernel
theorem dX10_init_175 : decode cX10_init 175 = .ok (.newarray .int, 2) := by decide +kernel
theorem dX10_init_177 : decode cX10_init 177 = .ok (.putfield 75, 3) := by decide +kernel
theorem dX10_init_180 : decode cX10_init 180 = .ok (.aload_n 0, 1) := by decide +kernel
theorem dX10_init_181 : decode cX10_init 181 = .ok (.sipush 4096, 3) := by decide +kernel
theorem dX10_init_184 : decode cX10_init 184 = .ok (.newarray .int, 2) := by decide +kernel
theorem dX10_init_186 : decode cX10_init 186 = .ok (.putfield 78, 3) := by decide +kernel
theorem dX10_init_189 : decode cX10_init 189 = .ok (.aload_n 0, 1) := by decide +kernel
theorem dX10_init_190 : decode cX10_init 190 = .ok (.getfield 7, 3) := by decide +kernel
theorem dX10_init_193 : decode cX10_init 193 = .ok (.iconst 0, 1) := by decide +kernel
theorem dX10_init_194 : decode cX10_init 194 = .ok (.iconst 1, 1) := by decide +kernel
theorem dX10_init_195 : decode cX10_init 195 = .ok (.iastore, 1) := by decide +kernel
theorem dX10_init_196 : decode cX10_init 196 = .ok (.aload_n 0, 1) := by decide +kernel
theorem dX10_init_197 : decode cX10_init 197 = .ok (.getfield 7, 3) := by decide +kernel
theorem dX10_init_200 : decode cX10_init 200 = .ok (.iconst 1, 1) := by decide +kernel
theorem dX10_init_201 : decode cX10_init 201 = .ok (.iconst 1, 1) := by decide +kernel
theorem dX10_init_202 : decode cX10_init 202 = .ok (.iastore, 1) := by decide +kernel
theorem dX10_init_203 : decode cX10_init 203 = .ok (.aload_n 0, 1) := by decide +kernel
theorem dX10_init_204 : decode cX10_init 204 = .ok (.getfield 7, 3) := by decide +kernel
theorem dX10_init_207 : decode cX10_init 207 = .ok (.iconst 2, 1) := by decide +kernel
theorem dX10_init_208 : decode cX10_init 208 = .ok (.iconst 3, 1) := by decide +kernel
theorem dX10_init_209 : decode cX10_init 209 = .ok (.iastore, 1) := by decide +kernel
theorem dX10_init_210 : decode cX10_init 210 = .ok (.return_, 1) := by decide +kernel
theorem dX10_in_0 : decode cX10_in 0 = .ok (.iload_n 0, 1) := by decide +kernel
theorem dX10_in_1 : decode cX10_in 1 = .ok (.iload_n 1, 1) := by decide +kernel
theorem dX10_in_2 : decode cX10_in 2 = .ok (.if_icmp .lt 12, 3) := by decide +kernel
theorem dX10_in_5 : decode cX10_in 5 = .ok (.iload_n 0, 1) := by decide +kernel
theorem dX10_in_6 : decode cX10_in 6 = .ok (.iload_n 2, 1) := by decide +kernel
theorem dX10_in_7 : decode cX10_in 7 = .ok (.if_icmp .gt 7, 3) := by decide +kernel
theorem dX10_in_10 : decode cX10_in 10 = .ok (.iconst 1, 1) := by decide +kernel
theorem dX10_in_11 : decode cX10_in 11 = .ok (.goto 4, 3) := by decide +kernel
theorem dX10_in_14 : decode cX10_in 14 = .ok (.iconst 0, 1) := by decide +kernel
theorem dX10_in_15 : decode cX10_in 15 = .ok (.ireturn, 1) := by decide +kernel
theorem dX10_type_0 : decode cX10_type 0 = .ok (.aload_n 0, 1) := by decide +kernel
theorem dX10_type_1 : decode cX10_type 1 = .ok (.iconst 0, 1) := by decide +kernel
theorem dX10_type_2 : decode cX10_type 2 = .ok (.putfield 81, 3) := by decide +kernel
theorem dX10_type_5 : decode cX10_type 5 = .ok (.iload_n 1, 1) := by decide +kernel
theorem dX10_type_6 : decode cX10_type 6 = .ok (.iconst 0, 1) := by decide +kernel
theorem dX10_type_7 : decode cX10_type 7 = .ok (.sipush 255, 3) := by decide +kernel
theorem dX10_type_10 : decode cX10_type 10 = .ok (.invokestatic 85, 3) := by decide +kernel
theorem dX10_type_13 : decode cX10_type 13 = .ok (.ifCond .ne 5, 3) := by decide +kernel
theorem dX10_type_16 : decode cX10_type 16 = .ok (.iconst (-1), 1) := by decide +kernel
theorem dX10_type_17 : decode cX10_type 17 = .ok (.ireturn, 1) := by decide +kernel
theorem dX10_type_18 : decode cX10_type 18 = .ok (.aload_n 0, 1) := by decide +kernel
theorem dX10_type_19 : decode cX10_type 19 = .ok (.getfield 89, 3) := by decide +kernel
theorem dX10_type_22 : decode cX10_type 22 = .ok (.bipush 120, 2) := by decide +kernel
theorem dX10_type_24 : decode cX10_type 24 = .ok (.if_icmp .ne 6, 3) := by decide +kernel
theorem dX10_type_27 : decode cX10_type 27 = .ok (.bipush (-3), 2) := by decide +kernel
theorem dX10_type_29 : decode cX10_type 29 = .ok (.ireturn, 1) := by decide +kernel
theorem dX10_type_30 : decode cX10_type 30 = .ok (.aload_n 0, 1) := by decide +kernel
theorem dX10_type_31 : decode cX10_type 31 = .ok (.getfield 29, 3) := by decide +kernel
theorem dX10_type_34 : decode cX10_type 34 = .ok (.aload_n 0, 1) := by decide +kernel
theorem dX10_type_35 : decode cX10_type 35 = .ok (.getfield 89, 3) := by decide +kernel
theorem dX10_type_38 : decode cX10_type 38 = .ok (.iload_n 1, 1) := by decide +kernel
theorem dX10_type_39 : decode cX10_type 39 = .ok (.i2b, 1) := by decide +kernel
theorem dX10_type_40 : decode cX10_type 40 = .ok (.bastore, 1) := by decide +kernel
theorem dX10_type_41 : decode cX10_type 41 = .ok (.aload_n 0, 1) := by decide +kernel
theorem dX10_type_42 : decode cX10_type 42 = .ok (.dup, 1) := by decide +kernel
theorem dX10_type_43 : decode cX10_type 43 = .ok (.getfield 89, 3) := by decide +kernel
theorem dX10_type_46 : decode cX10_type 46 = .ok (.iconst 1, 1) := by decide +kernel
theorem dX10_type_47 : decode cX10_type 47 = .ok (.iadd, 1) := by decide +kernel
theorem dX10_type_48 : decode cX10_type 48 = .ok (.putfield 89, 3) := by decide +kernel
theorem dX10_type_51 : decode cX10_type 51 = .ok (.aload_n 0, 1) := by decide +kernel
theorem dX10_type_52 : decode cX10_type 52 = .ok (.getfield 89, 3) := by decide +kernel
theorem dX10_type_55 : decode cX10_type 55 = .ok (.ireturn, 1) := by decide +kernel
theorem dX10_clear_0 : decode cX10_clear 0 = .ok (.aload_n 0, 1) := by decide +kernel
theorem dX10_clear_1 : decode cX10_clear 1 = .ok (.iconst 0, 1) := by decide +kernel
theorem dX10_clear_2 : decode cX10_clear 2 = .ok (.putfield 81, 3) := by decide +kernel
theorem dX10_clear_5 : decode cX10_clear 5 = .ok (.aload_n 0, 1) := by decide +kernel
theorem dX10_clear_6 : decode cX10_clear 6 = .ok (.getfield 89, 3) := by decide +kernel
theorem dX10_clear_9 : decode cX10_clear 9 = .ok (.istore_n 1, 1) := by decide +kernel
theorem dX10_clear_10 : decode cX10_clear 10 = .ok (.aload_n 0, 1) := by decide +kernel
theorem dX10_clear_11 : decode cX10_clear 11 = .ok (.iconst 0, 1) := by decide +kernel
theorem dX10_clear_12 : decode cX10_clear 12 = .ok (.putfield 89, 3) := by decide +kernel
theorem dX10_clear_15 : decode cX10_clear 15 = .ok (.iload_n 1, 1) := by decide +kernel
theorem dX10_clear_16 : decode cX10_clear 16 = .ok (.ireturn, 1) := by decide +kernel
theorem dX10_at_0 : decode cX10_at 0 = .ok (.iload_n 1, 1) := by decide +kernel
theorem dX10_at_1 : decode cX10_at 1 = .ok (.aload_n 0, 1) := by decide +kernel
theorem dX10_at_2 : decode cX10_at 2 = .ok (.getfield 89, 3) := by decide +kernel
theorem dX10_at_5 : decode cX10_at 5 = .ok (.if_icmp .ge 16, 3) := by decide +kernel
theorem dX10_at_8 : decode cX10_at 8 = .ok (.aload_n 0, 1) := by decide +kernel
theorem dX10_at_9 : decode cX10_at 9 = .ok (.getfield 29, 3) := by decide +kernel
theorem dX10_at_12 : decode cX10_at 12 = .ok (.iload_n 1, 1) := by decide +kernel
theorem dX10_at_13 : decode cX10_at 13 = .ok (.baload, 1) := by decide +kernel
theorem dX10_at_14 : decode cX10_at 14 = .ok (.sipush 255, 3) := by decide +kernel
theorem dX10_at_17 : decode cX10_at 17 = .ok (.iand, 1) := by decide +kernel
theorem dX10_at_18 : decode cX10_at 18 = .ok (.goto 4, 3) := by decide +kernel
theorem dX10_at_21 : decode cX10_at 21 = .ok (.iconst (-1), 1) := by decide +kernel
theorem dX10_at_22 : decode cX10_at 22 = .ok (.ireturn, 1) := by decide +kernel
theorem dX10_isWord_0 : decode cX10_isWord 0 = .ok (.iload 4, 2) := by decide +kernel
theorem dX10_isWord_2 : decode cX10_isWord 2 = .ok (.ifCond .ne 7, 3) := by decide +kernel
theorem dX10_isWord_5 : decode cX10_isWord 5 = .ok (.iconst 3, 1) := by decide +kernel
theorem dX10_isWord_6 : decode cX10_isWord 6 = .ok (.goto 4, 3) := by decide +kernel
theorem dX10_isWord_9 : decode cX10_isWord 9 = .ok (.iconst 4, 1) := by decide +kernel
theorem dX10_isWord_10 : decode cX10_isWord 10 = .ok (.istore 5, 2) := by decide +kernel
theorem dX10_isWord_12 : decode cX10_isWord 12 = .ok (.aload_n 0, 1) := by decide +kernel
theorem dX10_isWord_13 : decode cX10_isWord 13 = .ok (.getfield 92, 3) := by decide +kernel
theorem dX10_isWord_16 : decode cX10_isWord 16 = .ok (.aload_n 0, 1) := by decide +kernel
theorem dX10_isWord_17 : decode cX10_isWord 17 = .ok (.getfield 95, 3) := by decide +kernel
theorem dX10_isWord_20 : decode cX10_isWord 20 = .ok (.isub, 1) := by decide +kernel
theorem dX10_isWord_21 : decode cX10_isWord 21 = .ok (.iload 5, 2) := by decide +kernel
theorem dX10_isWord_23 : decode cX10_isWord 23 = .ok (.if_icmp .ne 67, 3) := by decide +kernel
theorem dX10_isWord_26 : decode cX10_isWord 26 = .ok (.aload_n 0, 1) := by decide +kernel
theorem dX10_isWord_27 : decode cX10_isWord 27 = .ok (.aload_n 0, 1) := by decide +kernel
theorem dX10_isWord_28 : decode cX10_isWord 28 = .ok (.getfield 95, 3) := by decide +kernel
theorem dX10_isWord_31 : decode cX10_isWord 31 = .ok (.invokevirtual 98, 3) := by decide +kernel
theorem dX10_isWord_34 : decode cX10_isWord 34 = .ok (.iload_n 1, 1) := by decide +kernel
theorem dX10_isWord_35 : decode cX10_isWord 35 = .ok (.if_icmp .ne 55, 3) := by decide +kernel
theorem dX10_isWord_38 : decode cX10_isWord 38 = .ok (.aload_n 0, 1) := by decide +kernel
theorem dX10_isWord_39 : decode cX10_isWord 39 = .ok (.aload_n 0, 1) := by decide +kernel
theorem dX10_isWord_40 : decode cX10_isWord 40 = .ok (.getfield 95, 3) := by decide +kernel
theorem dX10_isWord_43 : decode cX10_isWord 43 = .ok (.iconst 1, 1) := by decide +kernel
theorem dX10_isWord_44 : decode cX10_isWord 44 = .ok (.iadd, 1) := by decide +kernel
theorem dX10_isWord_45 : decode cX10_isWord 45 = .ok (.invokevirtual 98, 3) := by decide +kernel
theorem dX10_isWord_48 : decode cX10_isWord 48 = .ok (.iload_n 2, 1) := by decide +kernel
theorem dX10_isWord_49 : decode cX10_isWord 49 = .ok (.if_icmp .ne 41, 3) := by decide +kernel
theorem dX10_isWord_52 : decode cX10_isWord 52 = .ok (.aload_n 0, 1) := by decide +kernel
theorem dX10_isWord_53 : decode cX10_isWord 53 = .ok (.aload_n 0, 1) := by decide +kernel
theorem dX10_isWord_54 : decode cX10_isWord 54 = .ok (.getfield 95, 3) := by decide +kernel
theorem dX10_isWord_57 : decode cX10_isWord 57 = .ok (.iconst 2, 1) := by decide +kernel
theorem dX10_isWord_58 : decode cX10_isWord 58 = .ok (.iadd, 1) := by decide +kernel
theorem dX10_isWord_59 : decode cX10_isWord 59 = .ok (.invokevirtual 98, 3) := by decide +kernel
theorem dX10_isWord_62 : decode cX10_isWord 62 = .ok (.iload_n 3, 1) := by decide +kernel
theorem dX10_isWord_63 : decode cX10_isWord 63 = .ok (.if_icmp .ne 27, 3) := by decide +kernel
theorem dX10_isWord_66 : decode cX10_isWord 66 = .ok (.iload 4, 2) := by decide +kernel
theorem dX10_isWord_68 : decode cX10_isWord 68 = .ok (.ifCond .eq 18, 3) := by decide +kernel
theorem dX10_isWord_71 : decode cX10_isWord 71 = .ok (.aload_n 0, 1) := by decide +kernel
theorem dX10_isWord_72 : decode cX10_isWord 72 = .ok (.aload_n 0, 1) := by decide +kernel
theorem dX10_isWord_73 : decode cX10_isWord 73 = .ok (.getfield 95, 3) := by decide +kernel
theorem dX10_isWord_76 : decode cX10_isWord 76 = .ok (.iconst 3, 1) := by decide +kernel
theorem dX10_isWord_77 : decode cX10_isWord 77 = .ok (.iadd, 1) := by decide +kernel
theorem dX10_isWord_78 : decode cX10_isWord 78 = .ok (.invokevirtual 98, 3) := by decide +kernel
theorem dX10_isWord_81 : decode cX10_isWord 81 = .ok (.iload 4, 2) := by decide +kernel
theorem dX10_isWord_83 : decode cX10_isWord 83 = .ok (.if_icmp .ne 7, 3) := by decide +kernel
theorem dX10_isWord_86 : decode cX10_isWord 86 = .ok (.iconst 1, 1) := by decide +kernel
theorem dX10_isWord_87 : decode cX10_isWord 87 = .ok (.goto 4, 3) := by decide +kernel
theorem dX10_isWord_90 : decode cX10_isWord 90 = .ok (.iconst 0, 1) := by decide +kernel
theorem dX10_isWord_91 : decode cX10_isWord 91 = .ok (.ireturn, 1) := by decide +kernel
theorem dX10_wordOf_0 : decode cX10_wordOf 0 = .ok (.aload_n 0, 1) := by decide +kernel
theorem dX10_wordOf_1 : decode cX10_wordOf 1 = .ok (.bipush 114, 2) := by decide +kernel
theorem dX10_wordOf_3 : decode cX10_wordOf 3 = .ok (.bipush 111, 2) := by decide +kernel
theorem dX10_wordOf_5 : decode cX10_wordOf 5 = .ok (.bipush 119, 2) := by decide +kernel
theorem dX10_wordOf_7 : decode cX10_wordOf 7 = .ok (.iconst 0, 1) := by decide +kernel
theorem dX10_wordOf_8 : decode cX10_wordOf 8 = .ok (.invokevirtual 102, 3) := by decide +kernel
theorem dX10_wordOf_11 : decode cX10_wordOf 11 = .ok (.ifCond .eq 5, 3) := by decide +kernel
theorem dX10_wordOf_14 : decode cX10_wordOf 14 = .ok (.iconst 1, 1) := by decide +kernel
theorem dX10_wordOf_15 : decode cX10_wordOf 15 = .ok (.ireturn, 1) := by decide +kernel
theorem dX10_wordOf_16 : decode cX10_wordOf 16 = .ok (.aload_n 0, 1) := by decide +kernel
theorem dX10_wordOf_17 : decode cX10_wordOf 17 = .ok (.bipush 119, 2) := by decide +kernel
theorem dX10_wordOf_19 : decode cX10_wordOf 19 = .ok (.bipush 97, 2) := by decide +kernel
theorem dX10_wordOf_21 : decode cX10_wordOf 21 = .ok (.bipush 121, 2) := by decide +kernel
theorem dX10_wordOf_23 : decode cX10_wordOf 23 = .ok (.iconst 0, 1) := by decide +kernel
theorem dX10_wordOf_24 : decode cX10_wordOf 24 = .ok (.invokevirtual 102, 3) := by decide +kernel
theorem dX10_wordOf_27 : decode cX10_wordOf 27 = .ok (.ifCond .eq 5, 3) := by decide +kernel
theorem dX10_wordOf_30 : decode cX10_wordOf 30 = .ok (.iconst 2, 1) := by decide +kernel
theorem dX10_wordOf_31 : decode cX10_wordOf 31 = .ok (.ireturn, 1) := by decide +kernel
theorem dX10_wordOf_32 : decode cX10_wordOf 32 = .ok (.aload_n 0, 1) := by decide +kernel
theorem dX10_wordOf_33 : decode cX10_wordOf 33 = .ok (.bipush 114, 2) := by decide +kernel
theorem dX10_wordOf_35 : decode cX10_wordOf 35 = .ok (.bipush 97, 2) := by decide +kernel
theorem dX10_wordOf_37 : decode cX10_wordOf 37 = .ok (.bipush 110, 2) := by decide +kernel
theorem dX10_wordOf_39 : decode cX10_wordOf 39 = .ok (.bipush 107, 2) := by decide +kernel
theorem dX10_wordOf_41 : decode cX10_wordOf 41 = .ok (.invokevirtual 102, 3) := by decide +kernel
theorem dX10_wordOf_44 : decode cX10_wordOf 44 = .ok (.ifCond .eq 5, 3) := by decide +kernel
theorem dX10_wordOf_47 : decode cX10_wordOf 47 = .ok (.iconst 3, 1) := by decide +kernel
theorem dX10_wordOf_48 : decode cX10_wordOf 48 = .ok (.ireturn, 1) := by decide +kernel
theorem dX10_wordOf_49 : decode cX10_wordOf 49 = .ok (.aload_n 0, 1) := by decide +kernel
theorem dX10_wordOf_50 : decode cX10_wordOf 50 = .ok (.bipush 109, 2) := by decide +kernel
theorem dX10_wordOf_52 : decode cX10_wordOf 52 = .ok (.bipush 111, 2) := by decide +kernel
theorem dX10_wordOf_54 : decode cX10_wordOf 54 = .ok (.bipush 115, 2) := by decide +kernel
theorem dX10_wordOf_56 : decode cX10_wordOf 56 = .ok (.bipush 116, 2) := by decide +kernel
theorem dX10_wordOf_58 : decode cX10_wordOf 58 = .ok (.invokevirtual 102, 3) := by decide +kernel
theorem dX10_wordOf_61 : decode cX10_wordOf 61 = .ok (.ifCond .eq 7, 3) := by decide +kernel
theorem dX10_wordOf_64 : decode cX10_wordOf 64 = .ok (.iconst 4, 1) := by decide +kernel
theorem dX10_wordOf_65 : decode cX10_wordOf 65 = .ok (.goto 24, 3) := by decide +kernel
theorem dX10_wordOf_68 : decode cX10_wordOf 68 = .ok (.aload_n 0, 1) := by decide +kernel
theorem dX10_wordOf_69 : decode cX10_wordOf 69 = .ok (.bipush 112, 2) := by decide +kernel
theorem dX10_wordOf_71 : decode cX10_wordOf 71 = .ok (.bipush 117, 2) := by decide +kernel
theorem dX10_wordOf_73 : decode cX10_wordOf 73 = .ok (.bipush 108, 2) := by decide +kernel
theorem dX10_wordOf_75 : decode cX10_wordOf 75 = .ok (.bipush 108, 2) := by decide +kernel
theorem dX10_wordOf_77 : decode cX10_wordOf 77 = .ok (.invokevirtual 102, 3) := by decide +kernel
theorem dX10_wordOf_80 : decode cX10_wordOf 80 = .ok (.ifCond .eq 7, 3) := by decide +kernel
theorem dX10_wordOf_83 : decode cX10_wordOf 83 = .ok (.iconst 5, 1) := by decide +kernel
theorem dX10_wordOf_84 : decode cX10_wordOf 84 = .ok (.goto 5, 3) := by decide +kernel
theorem dX10_wordOf_87 : decode cX10_wordOf 87 = .ok (.bipush 8, 2) := by decide +kernel
theorem dX10_wordOf_89 : decode cX10_wordOf 89 = .ok (.ireturn, 1) := by decide +kernel
theorem dX10_steps_0 : decode cX10_steps 0 = .ok (.aload_n 0, 1) := by decide +kernel
theorem dX10_steps_1 : decode cX10_steps 1 = .ok (.aload_n 0, 1) := by decide +kernel
theorem dX10_steps_2 : decode cX10_steps 2 = .ok (.getfield 92, 3) := by decide +kernel
theorem dX10_steps_5 : decode cX10_steps 5 = .ok (.putfield 95, 3) := by decide +kernel
theorem dX10_steps_8 : decode cX10_steps 8 = .ok (.aload_n 0, 1) := by decide +kernel
theorem dX10_steps_9 : decode cX10_steps 9 = .ok (.aload_n 0, 1) := by decide +kernel
theorem dX10_steps_10 : decode cX10_steps 10 = .ok (.getfield 95, 3) := by decide +kernel
theorem dX10_steps_13 : decode cX10_steps 13 = .ok (.invokevirtual 98, 3) := by decide +kernel
theorem dX10_steps_16 : decode cX10_steps 16 = .ok (.bipush 32, 2) := by decide +kernel
theorem dX10_steps_18 : decode cX10_steps 18 = .ok (.if_icmp .ne 16, 3) := by decide +kernel
theorem dX10_steps_21 : decode cX10_steps 21 = .ok (.aload_n 0, 1) := by decide +kernel
theorem dX10_steps_22 : decode cX10_steps 22 = .ok (.dup, 1) := by decide +kernel
theorem dX10_steps_23 : decode cX10_steps 23 = .ok (.getfield 95, 3) := by decide +kernel
theorem dX10_steps_26 : decode cX10_steps 26 = .ok (.iconst 1, 1) := by decide +kernel
theorem dX10_steps_27 : decode cX10_steps 27 = .ok (.iadd, 1) := by decide +kernel
theorem dX10_steps_28 : decode cX10_steps 28 = .ok (.putfield 95, 3) := by decide +kernel
theorem dX10_steps_31 : decode cX10_steps 31 = .ok (.goto (-23), 3) := by decide +kernel
theorem dX10_steps_34 : decode cX10_steps 34 = .ok (.aload_n 0, 1) := by decide +kernel
theorem dX10_steps_35 : decode cX10_steps 35 = .ok (.aload_n 0, 1) := by decide +kernel
theorem dX10_steps_36 : decode cX10_steps 36 = .ok (.getfield 95, 3) := by decide +kernel
theorem dX10_steps_39 : decode cX10_steps 39 = .ok (.putfield 92, 3) := by decide +kernel
theorem dX10_steps_42 : decode cX10_steps 42 = .ok (.aload_n 0, 1) := by decide +kernel
theorem dX10_steps_43 : decode cX10_steps 43 = .ok (.aload_n 0, 1) := by decide +kernel
theorem dX10_steps_44 : decode cX10_steps 44 = .ok (.getfield 92, 3) := by decide +kernel
theorem dX10_steps_47 : decode cX10_steps 47 = .ok (.invokevirtual 98, 3) := by decide +kernel
theorem dX10_steps_50 : decode cX10_steps 50 = .ok (.ifCond .ge 11, 3) := by decide +kernel
theorem dX10_steps_53 : decode cX10_steps 53 = .ok (.aload_n 0, 1) := by decide +kernel
theorem dX10_steps_54 : decode cX10_steps 54 = .ok (.iconst 0, 1) := by decide +kernel
theorem dX10_steps_55 : decode cX10_steps 55 = .ok (.putfield 106, 3) := by decide +kernel
theorem dX10_steps_58 : decode cX10_steps 58 = .ok (.goto 155, 3) := by decide +kernel
theorem dX10_steps_61 : decode cX10_steps 61 = .ok (.aload_n 0, 1) := by decide +kernel
theorem dX10_steps_62 : decode cX10_steps 62 = .ok (.aload_n 0, 1) := by decide +kernel
theorem dX10_steps_63 : decode cX10_steps 63 = .ok (.getfield 92, 3) := by decide +kernel
theorem dX10_steps_66 : decode cX10_steps 66 = .ok (.invokevirtual 98, 3) := by decide +kernel
theorem dX10_steps_69 : decode cX10_steps 69 = .ok (.bipush 48, 2) := by decide +kernel
theorem dX10_steps_71 : decode cX10_steps 71 = .ok (.bipush 57, 2) := by decide +kernel
theorem dX10_steps_73 : decode cX10_steps 73 = .ok (.invokestatic 85, 3) := by decide +kernel
theorem dX10_steps_76 : decode cX10_steps 76 = .ok (.ifCond .eq 43, 3) := by decide +kernel
theorem dX10_steps_79 : decode cX10_steps 79 = .ok (.aload_n 0, 1) := by decide +kernel
theorem dX10_steps_80 : decode cX10_steps 80 = .ok (.aload_n 0, 1) := by decide +kernel
theorem dX10_steps_81 : decode cX10_steps 81 = .ok (.getfield 92, 3) := by decide +kernel
theorem dX10_steps_84 : decode cX10_steps 84 = .ok (.invokevirtual 98, 3) := by decide +kernel
theorem dX10_steps_87 : decode cX10_steps 87 = .ok (.bipush 48, 2) := by decide +kernel
theorem dX10_steps_89 : decode cX10_steps 89 = .ok (.bipush 57, 2) := by decide +kernel
theorem dX10_steps_91 : decode cX10_steps 91 = .ok (.invokestatic 85, 3) := by decide +kernel
theorem dX10_steps_94 : decode cX10_steps 94 = .ok (.ifCond .eq 16, 3) := by decide +kernel
theorem dX10_steps_97 : decode cX10_steps 97 = .ok (.aload_n 0, 1) := by decide +kernel
theorem dX10_steps_98 : decode cX10_steps 98 = .ok (.dup, 1) := by decide +kernel
theorem dX10_steps_99 : decode cX10_steps 99 = .ok (.getfield 92, 3) := by decide +kernel
theorem dX10_steps_102 : decode cX10_steps 102 = .ok (.iconst 1, 1) := by decide +kernel
theorem dX10_steps_103 : decode cX10_steps 103 = .ok (.iadd, 1) := by decide +kernel
theorem dX10_steps_104 : decode cX10_steps 104 = .ok (.putfield 92, 3) := by decide +kernel
theorem dX10_steps_107 : decode cX10_steps 107 = .ok (.goto (-28), 3) := by decide +kernel
theorem dX10_steps_110 : decode cX10_steps 110 = .ok (.aload_n 0, 1) := by decide +kernel
theorem dX10_steps_111 : decode cX10_steps 111 = .ok (.bipush 6, 2) := by decide +kernel
theorem dX10_steps_113 : decode cX10_steps 113 = .ok (.putfield 106, 3) := by decide +kernel
theorem dX10_steps_116 : decode cX10_steps 116 = .ok (.goto 97, 3) := by decide +kernel
theorem dX10_steps_119 : decode cX10_steps 119 = .ok (.aload_n 0, 1) := by decide +kernel
theorem dX10_steps_120 : decode cX10_steps 120 = .ok (.aload_n 0, 1) := by decide +kernel
theorem dX10_steps_121 : decode cX10_steps 121 = .ok (.getfield 92, 3) := by decide +kernel
theorem dX10_steps_124 : decode cX10_steps 124 = .ok (.invokevirtual 98, 3) := by decide +kernel
theorem dX10_steps_127 : decode cX10_steps 127 = .ok (.bipush 97, 2) := by decide +kernel
theorem dX10_steps_129 : decode cX10_steps 129 = .ok (.bipush 122, 2) := by decide +kernel
theorem dX10_steps_131 : decode cX10_steps 131 = .ok (.invokestatic 85, 3) := by decide +kernel
theorem dX10_steps_134 : decode cX10_steps 134 = .ok (.ifCond .eq 45, 3) := by decide +kernel
theorem dX10_steps_137 : decode cX10_steps 137 = .ok (.aload_n 0, 1) := by decide +kernel
theorem dX10_steps_138 : decode cX10_steps 138 = .ok (.aload_n 0, 1) := by decide +kernel
theorem dX10_steps_139 : decode cX10_steps 139 = .ok (.getfield 92, 3) := by decide +kernel
theorem dX10_steps_142 : decode cX10_steps 142 = .ok (.invokevirtual 98, 3) := by decide +kernel
theorem dX10_steps_145 : decode cX10_steps 145 = .ok (.bipush 97, 2) := by decide +kernel
theorem dX10_steps_147 : decode cX10_steps 147 = .ok (.bipush 122, 2) := by decide +kernel
theorem dX10_steps_149 : decode cX10_steps 149 = .ok (.invokestatic 85, 3) := by decide +kernel
theorem dX10_steps_152 : decode cX10_steps 152 = .ok (.ifCond .eq 16, 3) := by decide +kernel
theorem dX10_steps_155 : decode cX10_steps 155 = .ok (.aload_n 0, 1) := by decide +kernel
theorem dX10_steps_156 : decode cX10_steps 156 = .ok (.dup, 1) := by decide +kernel
theorem dX10_steps_157 : decode cX10_steps 157 = .ok (.getfield 92, 3) := by decide +kernel
theorem dX10_steps_160 : decode cX10_steps 160 = .ok (.iconst 1, 1) := by decide +kernel
theorem dX10_steps_161 : decode cX10_steps 161 = .ok (.iadd, 1) := by decide +kernel
theorem dX10_steps_162 : decode cX10_steps 162 = .ok (.putfield 92, 3) := by decide +kernel
theorem dX10_steps_165 : decode cX10_steps 165 = .ok (.goto (-28), 3) := by decide +kernel
theorem dX10_steps_168 : decode cX10_steps 168 = .ok (.aload_n 0, 1) := by decide +kernel
theorem dX10_steps_169 : decode cX10_steps 169 = .ok (.aload_n 0, 1) := by decide +kernel
theorem dX10_steps_170 : decode cX10_steps 170 = .ok (.invokevirtual 109, 3) := by decide +kernel
theorem dX10_steps_173 : decode cX10_steps 173 = .ok (.putfield 106, 3) := by decide +kernel
theorem dX10_steps_176 : decode cX10_steps 176 = .ok (.goto 37, 3) := by decide +kernel
theorem dX10_steps_179 : decode cX10_steps 179 = .ok (.aload_n 0, 1) := by decide +kernel
theorem dX10_steps_180 : decode cX10_steps 180 = .ok (.aload_n 0, 1) := by decide +kernel
theorem dX10_steps_181 : decode cX10_steps 181 = .ok (.aload_n 0, 1) := by decide +kernel
theorem dX10_steps_182 : decode cX10_steps 182 = .ok (.getfield 92, 3) := by decide +kernel
theorem dX10_steps_185 : decode cX10_steps 185 = .ok (.invokevirtual 98, 3) := by decide +kernel
theorem dX10_steps_188 : decode cX10_steps 188 = .ok (.bipush 59, 2) := by decide +kernel
theorem dX10_steps_190 : decode cX10_steps 190 = .ok (.if_icmp .ne 8, 3) := by decide +kernel
theorem dX10_steps_193 : decode cX10_steps 193 = .ok (.bipush 7, 2) := by decide +kernel
theorem dX10_steps_195 : decode cX10_steps 195 = .ok (.goto 5, 3) := by decide +kernel
theorem dX10_steps_198 : decode cX10_steps 198 = .ok (.bipush 8, 2) := by decide +kernel
theorem dX10_steps_200 : decode cX10_steps 200 = .ok (.putfield 106, 3) := by decide +kernel
theorem dX10_steps_203 : decode cX10_steps 203 = .ok (.aload_n 0, 1) := by decide +kernel
theorem dX10_steps_204 : decode cX10_steps 204 = .ok (.dup, 1) := by decide +kernel
theorem dX10_steps_205 : decode cX10_steps 205 = .ok (.getfield 92, 3) := by decide +kernel
theorem dX10_steps_208 : decode cX10_steps 208 = .ok (.iconst 1, 1) := by decide +kernel
theorem dX10_steps_209 : decode cX10_steps 209 = .ok (.iadd, 1) := by decide +kernel
theorem dX10_steps_210 : decode cX10_steps 210 = .ok (.putfield 92, 3) := by decide +kernel
theorem dX10_steps_213 : decode cX10_steps 213 = .ok (.return_, 1) := by decide +kernel
theorem dX10_takes_0 : decode cX10_takes 0 = .ok (.aload_n 0, 1) := by decide +kernel
theorem dX10_takes_1 : decode cX10_takes 1 = .ok (.getfield 113, 3) := by decide +kernel
theorem dX10_takes_4 : decode cX10_takes 4 = .ok (.bipush (-9), 2) := by decide +kernel
theorem dX10_takes_6 : decode cX10_takes 6 = .ok (.if_icmp .ne 22, 3) := by decide +kernel
theorem dX10_takes_9 : decode cX10_takes 9 = .ok (.iload_n 1, 1) := by decide +kernel
theorem dX10_takes_10 : decode cX10_takes 10 = .ok (.ifCond .eq 10, 3) := by decide +kernel
theorem dX10_takes_13 : decode cX10_takes 13 = .ok (.aload_n 0, 1) := by decide +kernel
theorem dX10_takes_14 : decode cX10_takes 14 = .ok (.invokevirtual 116, 3) := by decide +kernel
theorem dX10_takes_17 : decode cX10_takes 17 = .ok (.goto 11, 3) := by decide +kernel
theorem dX10_takes_20 : decode cX10_takes 20 = .ok (.aload_n 0, 1) := by decide +kernel
theorem dX10_takes_21 : decode cX10_takes 21 = .ok (.aload_n 0, 1) := by decide +kernel
theorem dX10_takes_22 : decode cX10_takes 22 = .ok (.getfield 95, 3) := by decide +kernel
theorem dX10_takes_25 : decode cX10_takes 25 = .ok (.putfield 113, 3) := by decide +kernel
theorem dX10_takes_28 : decode cX10_takes 28 = .ok (.return_, 1) := by decide +kernel
theorem dX10_readsRow_0 : decode cX10_readsRow 0 = .ok (.aload_n 0, 1) := by decide +kernel
theorem dX10_readsRow_1 : decode cX10_readsRow 1 = .ok (.aload_n 0, 1) := by decide +kernel
theorem dX10_readsRow_2 : decode cX10_readsRow 2 = .ok (.getfield 13, 3) := by decide +kernel
theorem dX10_readsRow_5 : decode cX10_readsRow 5 = .ok (.iconst 1, 1) := by decide +kernel
theorem dX10_readsRow_6 : decode cX10_readsRow 6 = .ok (.iaload, 1) := by decide +kernel
theorem dX10_readsRow_7 : decode cX10_readsRow 7 = .ok (.bipush 6, 2) := by decide +kernel
theorem dX10_readsRow_9 : decode cX10_readsRow 9 = .ok (.if_icmp .ge 7, 3) := by decide +kernel
theorem dX10_readsRow_12 : decode cX10_readsRow 12 = .ok (.iconst 1, 1) := by decide +kernel
theorem dX10_readsRow_13 : decode cX10_readsRow 13 = .ok (.goto 4, 3) := by decide +kernel
theorem dX10_readsRow_16 : decode cX10_readsRow 16 = .ok (.iconst 0, 1) := by decide +kernel
theorem dX10_readsRow_17 : decode cX10_readsRow 17 = .ok (.invokevirtual 119, 3) := by decide +kernel
theorem dX10_readsRow_20 : decode cX10_readsRow 20 = .ok (.aload_n 0, 1) := by decide +kernel
theorem dX10_readsRow_21 : decode cX10_readsRow 21 = .ok (.getfield 92, 3) := by decide +kernel
theorem dX10_readsRow_24 : decode cX10_readsRow 24 = .ok (.aload_n 0, 1) := by decide +kernel
theorem dX10_readsRow_25 : decode cX10_readsRow 25 = .ok (.getfield 95, 3) := by decide +kernel
theorem dX10_readsRow_28 : decode cX10_readsRow 28 = .ok (.isub, 1) := by decide +kernel
theorem dX10_readsRow_29 : decode cX10_readsRow 29 = .ok (.istore_n 1, 1) := by decide +kernel
theorem dX10_readsRow_30 : decode cX10_readsRow 30 = .ok (.aload_n 0, 1) := by decide +kernel
theorem dX10_readsRow_31 : decode cX10_readsRow 31 = .ok (.getfield 106, 3) := by decide +kernel
theorem dX10_readsRow_34 : decode cX10_readsRow 34 = .ok (.bipush 6, 2) := by decide +kernel
theorem dX10_readsRow_36 : decode cX10_readsRow 36 = .ok (.if_icmp .ne 36, 3) := by decide +kernel
theorem dX10_readsRow_39 : decode cX10_readsRow 39 = .ok (.iload_n 1, 1) := by decide +kernel
theorem dX10_readsRow_40 : decode cX10_readsRow 40 = .ok (.iconst 1, 1) := by decide +kernel
theorem dX10_readsRow_41 : decode cX10_readsRow 41 = .ok (.bipush 8, 2) := by decide +kernel
theorem dX10_readsRow_43 : decode cX10_readsRow 43 = .ok (.invokestatic 85, 3) := by decide +kernel
theorem dX10_readsRow_46 : decode cX10_readsRow 46 = .ok (.ifCond .eq 26, 3) := by decide +kernel
theorem dX10_readsRow_49 : decode cX10_readsRow 49 = .ok (.aload_n 0, 1) := by decide +kernel
theorem dX10_readsRow_50 : decode cX10_readsRow 50 = .ok (.getfield 13, 3) := by decide +kernel
theorem dX10_readsRow_53 : decode cX10_readsRow 53 = .ok (.iconst 1, 1) := by decide +kernel
theorem dX10_readsRow_54 : decode cX10_readsRow 54 = .ok (.iaload, 1) := by decide +kernel
theorem dX10_readsRow_55 : decode cX10_readsRow 55 = .ok (.ifCond .eq 13, 3) := by decide +kernel
theorem dX10_readsRow_58 : decode cX10_readsRow 58 = .ok (.iload_n 1, 1) := by decide +kernel
theorem dX10_readsRow_59 : decode cX10_readsRow 59 = .ok (.aload_n 0, 1) := by decide +kernel
theorem dX10_readsRow_60 : decode cX10_readsRow 60 = .ok (.getfield 13, 3) := by decide +kernel
theorem dX10_readsRow_63 : decode cX10_readsRow 63 = .ok (.iconst 0, 1) := by decide +kernel
theorem dX10_readsRow_64 : decode cX10_readsRow 64 = .ok (.iaload, 1) := by decide +kernel
theorem dX10_readsRow_65 : decode cX10_readsRow 65 = .ok (.if_icmp .ne 7, 3) := by decide +kernel
theorem dX10_readsRow_68 : decode cX10_readsRow 68 = .ok (.iconst 1, 1) := by decide +kernel
theorem dX10_readsRow_69 : decode cX10_readsRow 69 = .ok (.goto 4, 3) := by decide +kernel
theorem dX10_readsRow_72 : decode cX10_readsRow 72 = .ok (.iconst 0, 1) := by decide +kernel
theorem dX10_readsRow_73 : decode cX10_readsRow 73 = .ok (.istore_n 2, 1) := by decide +kernel
theorem dX10_readsRow_74 : decode cX10_readsRow 74 = .ok (.aload_n 0, 1) := by decide +kernel
theorem dX10_readsRow_75 : decode cX10_readsRow 75 = .ok (.getfield 95, 3) := by decide +kernel
theorem dX10_readsRow_78 : decode cX10_readsRow 78 = .ok (.istore_n 3, 1) := by decide +kernel
theorem dX10_readsRow_79 : decode cX10_readsRow 79 = .ok (.iload_n 3, 1) := by decide +kernel
theorem dX10_readsRow_80 : decode cX10_readsRow 80 = .ok (.aload_n 0, 1) := by decide +kernel
theorem dX10_readsRow_81 : decode cX10_readsRow 81 = .ok (.getfield 92, 3) := by decide +kernel
theorem dX10_readsRow_84 : decode cX10_readsRow 84 = .ok (.if_icmp .ge 29, 3) := by decide +kernel
theorem dX10_readsRow_87 : decode cX10_readsRow 87 = .ok (.iload_n 2, 1) := by decide +kernel
theorem dX10_readsRow_88 : decode cX10_readsRow 88 = .ok (.ifCond .eq 25, 3) := by decide +kernel
theorem dX10_readsRow_91 : decode cX10_readsRow 91 = .ok (.aload_n 0, 1) := by decide +kernel
theorem dX10_readsRow_92 : decode cX10_readsRow 92 = .ok (.iload_n 3, 1) := by decide +kernel
theorem dX10_readsRow_93 : decode cX10_readsRow 93 = .ok (.invokevirtual 98, 3) := by decide +kernel
theorem dX10_readsRow_96 : decode cX10_readsRow 96 = .ok (.bipush 51, 2) := by decide +kernel
theorem dX10_readsRow_98 : decode cX10_readsRow 98 = .ok (.if_icmp .gt 7, 3) := by decide +kernel
theorem dX10_readsRow_101 : decode cX10_readsRow 101 = .ok (.iconst 1, 1) := by decide +kernel
theorem dX10_readsRow_102 : decode cX10_readsRow 102 = .ok (.goto 4, 3) := by decide +kernel
theorem dX10_readsRow_105 : decode cX10_readsRow 105 = .ok (.iconst 0, 1) := by decide +kernel
theorem dX10_readsRow_106 : decode cX10_readsRow 106 = .ok (.istore_n 2, 1) := by decide +kernel
theorem dX10_readsRow_107 : decode cX10_readsRow 107 = .ok (.iinc 3 1, 3) := by decide +kernel
theorem dX10_readsRow_110 : decode cX10_readsRow 110 = .ok (.goto (-31), 3) := by decide +kernel
theorem dX10_readsRow_113 : decode cX10_readsRow 113 = .ok (.aload_n 0, 1) := by decide +kernel
theorem dX10_readsRow_114 : decode cX10_readsRow 114 = .ok (.getfield 113, 3) := by decide +kernel
theorem dX10_readsRow_117 : decode cX10_readsRow 117 = .ok (.bipush (-9), 2) := by decide +kernel
theorem dX10_readsRow_119 : decode cX10_readsRow 119 = .ok (.if_icmp .ne 68, 3) := by decide +kernel
theorem dX10_readsRow_122 : decode cX10_readsRow 122 = .ok (.iload_n 2, 1) := by decide +kernel
theorem dX10_readsRow_123 : decode cX10_readsRow 123 = .ok (.ifCond .eq 64, 3) := by decide +kernel
theorem dX10_readsRow_126 : decode cX10_readsRow 126 = .ok (.aload_n 0, 1) := by decide +kernel
theorem dX10_readsRow_127 : decode cX10_readsRow 127 = .ok (.getfield 13, 3) := by decide +kernel
theorem dX10_readsRow_130 : decode cX10_readsRow 130 = .ok (.iconst 0, 1) := by decide +kernel
theorem dX10_readsRow_131 : decode cX10_readsRow 131 = .ok (.iload_n 1, 1) := by decide +kernel
theorem dX10_readsRow_132 : decode cX10_readsRow 132 = .ok (.iastore, 1) := by decide +kernel
theorem dX10_readsRow_133 : decode cX10_readsRow 133 = .ok (.iconst 0, 1) := by decide +kernel
theorem dX10_readsRow_134 : decode cX10_readsRow 134 = .ok (.istore_n 3, 1) := by decide +kernel
theorem dX10_readsRow_135 : decode cX10_readsRow 135 = .ok (.iload_n 3, 1) := by decide +kernel
theorem dX10_readsRow_136 : decode cX10_readsRow 136 = .ok (.iload_n 1, 1) := by decide +kernel
theorem dX10_readsRow_137 : decode cX10_readsRow 137 = .ok (.if_icmp .ge 40, 3) := by decide +kernel
theorem dX10_readsRow_140 : decode cX10_readsRow 140 = .ok (.aload_n 0, 1) := by decide +kernel
theorem dX10_readsRow_141 : decode cX10_readsRow 141 = .ok (.getfield 13, 3) := by decide +kernel
theorem dX10_readsRow_144 : decode cX10_readsRow 144 = .ok (.bipush 12, 2) := by decide +kernel
theorem dX10_readsRow_146 : decode cX10_readsRow 146 = .ok (.iload_n 1, 1) := by decide +kernel
theorem dX10_readsRow_147 : decode cX10_readsRow 147 = .ok (.aload_n 0, 1) := by decide +kernel
theorem dX10_readsRow_148 : decode cX10_readsRow 148 = .ok (.getfield 13, 3) := by decide +kernel
theorem dX10_readsRow_151 : decode cX10_readsRow 151 = .ok (.iconst 1, 1) := by decide +kernel
theorem dX10_readsRow_152 : decode cX10_readsRow 152 = .ok (.iaload, 1) := by decide +kernel
theorem dX10_readsRow_153 : decode cX10_readsRow 153 = .ok (.imul, 1) := by decide +kernel
theorem dX10_readsRow_154 : decode cX10_readsRow 154 = .ok (.iadd, 1) := by decide +kernel
theorem dX10_readsRow_155 : decode cX10_readsRow 155 = .ok (.iload_n 3, 1) := by decide +kernel
theorem dX10_readsRow_156 : decode cX10_readsRow 156 = .ok (.iadd, 1) := by decide +kernel
theorem dX10_readsRow_157 : decode cX10_readsRow 157 = .ok (.aload_n 0, 1) := by decide +kernel
theorem dX10_readsRow_158 : decode cX10_readsRow 158 = .ok (.aload_n 0, 1) := by decide +kernel
theorem dX10_readsRow_159 : decode cX10_readsRow 159 = .ok (.getfield 95, 3) := by decide +kernel
theorem dX10_readsRow_162 : decode cX10_readsRow 162 = .ok (.iload_n 3, 1) := by decide +kernel
theorem dX10_readsRow_163 : decode cX10_readsRow 163 = .ok (.iadd, 1) := by decide +kernel
theorem dX10_readsRow_164 : decode cX10_readsRow 164 = .ok (.invokevirtual 98, 3) := by decide +kernel
theorem dX10_readsRow_167 : decode cX10_readsRow 167 = .ok (.bipush 48, 2) := by decide +kernel
theorem dX10_readsRow_169 : decode cX10_readsRow 169 = .ok (.isub, 1) := by decide +kernel
theorem dX10_readsRow_170 : decode cX10_readsRow 170 = .ok (.iastore, 1) := by decide +kernel
theorem dX10_readsRow_171 : decode cX10_readsRow 171 = .ok (.iinc 3 1, 3) := by decide +kernel
theorem dX10_readsRow_174 : decode cX10_readsRow 174 = .ok (.goto (-39), 3) := by decide +kernel
theorem dX10_readsRow_177 : decode cX10_readsRow 177 = .ok (.aload_n 0, 1) := by decide +kernel
theorem dX10_readsRow_178 : decode cX10_readsRow 178 = .ok (.getfield 13, 3) := by decide +kernel
theorem dX10_readsRow_181 : decode cX10_readsRow 181 = .ok (.iconst 1, 1) := by decide +kernel
theorem dX10_readsRow_182 : decode cX10_readsRow 182 = .ok (.dup2, 1) := by decide +kernel
theorem dX10_readsRow_183 : decode cX10_readsRow 183 = .ok (.iaload, 1) := by decide +kernel
theorem dX10_readsRow_184 : decode cX10_readsRow 184 = .ok (.iconst 1, 1) := by decide +kernel
theorem dX10_readsRow_185 : decode cX10_readsRow 185 = .ok (.iadd, 1) := by decide +kernel
theorem dX10_readsRow_186 : decode cX10_readsRow 186 = .ok (.iastore, 1) := by decide +kernel
theorem dX10_readsRow_187 : decode cX10_readsRow 187 = .ok (.aload_n 0, 1) := by decide +kernel
theorem dX10_readsRow_188 : decode cX10_readsRow 188 = .ok (.iload_n 2, 1) := by decide +kernel
theorem dX10_readsRow_189 : decode cX10_readsRow 189 = .ok (.invokevirtual 119, 3) := by decide +kernel
theorem dX10_readsRow_192 : decode cX10_readsRow 192 = .ok (.return_, 1) := by decide +kernel
theorem dX10_figure_0 : decode cX10_figure 0 = .ok (.aload_n 0, 1) := by decide +kernel
theorem dX10_figure_1 : decode cX10_figure 1 = .ok (.aload_n 0, 1) := by decide +kernel
theorem dX10_figure_2 : decode cX10_figure 2 = .ok (.getfield 95, 3) := by decide +kernel
theorem dX10_figure_5 : decode cX10_figure 5 = .ok (.invokevirtual 98, 3) := by decide +kernel
theorem dX10_figure_8 : decode cX10_figure 8 = .ok (.bipush 48, 2) := by decide +kernel
theorem dX10_figure_10 : decode cX10_figure 10 = .ok (.isub, 1) := by decide +kernel
theorem dX10_figure_11 : decode cX10_figure 11 = .ok (.istore_n 3, 1) := by decide +kernel
theorem dX10_figure_12 : decode cX10_figure 12 = .ok (.aload_n 0, 1) := by decide +kernel
theorem dX10_figure_13 : decode cX10_figure 13 = .ok (.aload_n 0, 1) := by decide +kernel
theorem dX10_figure_14 : decode cX10_figure 14 = .ok (.getfield 106, 3) := by decide +kernel
theorem dX10_figure_17 : decode cX10_figure 17 = .ok (.bipush 6, 2) := by decide +kernel
theorem dX10_figure_19 : decode cX10_figure 19 = .ok (.if_icmp .ne 29, 3) := by decide +kernel
theorem dX10_figure_22 : decode cX10_figure 22 = .ok (.aload_n 0, 1) := by decide +kernel
theorem dX10_figure_23 : decode cX10_figure 23 = .ok (.getfield 92, 3) := by decide +kernel
theorem dX10_figure_26 : decode cX10_figure 26 = .ok (.aload_n 0, 1) := by decide +kernel
theorem dX10_figure_27 : decode cX10_figure 27 = .ok (.getfield 95, 3) := by decide +kernel
theorem dX10_figure_30 : decode cX10_figure 30 = .ok (.isub, 1) := by decide +kernel
theorem dX10_figure_31 : decode cX10_figure 31 = .ok (.iconst 1, 1) := by decide +kernel
theorem dX10_figure_32 : decode cX10_figure 32 = .ok (.if_icmp .ne 16, 3) := by decide +kernel
theorem dX10_figure_35 : decode cX10_figure 35 = .ok (.iload_n 3, 1) := by decide +kernel
theorem dX10_figure_36 : decode cX10_figure 36 = .ok (.iload_n 1, 1) := by decide +kernel
theorem dX10_figure_37 : decode cX10_figure 37 = .ok (.iload_n 2, 1) := by decide +kernel
theorem dX10_figure_38 : decode cX10_figure 38 = .ok (.invokestatic 85, 3) := by decide +kernel
theorem dX10_figure_41 : decode cX10_figure 41 = .ok (.ifCond .eq 7, 3) := by decide +kernel
theorem dX10_figure_44 : decode cX10_figure 44 = .ok (.iconst 1, 1) := by decide +kernel
theorem dX10_figure_45 : decode cX10_figure 45 = .ok (.goto 4, 3) := by decide +kernel
theorem dX10_figure_48 : decode cX10_figure 48 = .ok (.iconst 0, 1) := by decide +kernel
theorem dX10_figure_49 : decode cX10_figure 49 = .ok (.invokevirtual 119, 3) := by decide +kernel
theorem dX10_figure_52 : decode cX10_figure 52 = .ok (.iload_n 3, 1) := by decide +kernel
theorem dX10_figure_53 : decode cX10_figure 53 = .ok (.ireturn, 1) := by decide +kernel
theorem dX10_readsOf_0 : decode cX10_readsOf 0 = .ok (.aload_n 0, 1) := by decide +kernel
theorem dX10_readsOf_1 : decode cX10_readsOf 1 = .ok (.iconst 1, 1) := by decide +kernel
theorem dX10_readsOf_2 : decode cX10_readsOf 2 = .ok (.invokevirtual 119, 3) := by decide +kernel
theorem dX10_readsOf_5 : decode cX10_readsOf 5 = .ok (.aload_n 0, 1) := by decide +kernel
theorem dX10_readsOf_6 : decode cX10_readsOf 6 = .ok (.iconst 1, 1) := by decide +kernel
theorem dX10_readsOf_7 : decode cX10_readsOf 7 = .ok (.iconst 3, 1) := by decide +kernel
theorem dX10_readsOf_8 : decode cX10_readsOf 8 = .ok (.invokevirtual 123, 3) := by decide +kernel
theorem dX10_readsOf_11 : decode cX10_readsOf 11 = .ok (.istore_n 3, 1) := by decide +kernel
theorem dX10_readsOf_12 : decode cX10_readsOf 12 = .ok (.aload_n 0, 1) := by decide +kernel
theorem dX10_readsOf_13 : decode cX10_readsOf 13 = .ok (.iconst 0, 1) := by decide +kernel
theorem dX10_readsOf_14 : decode cX10_readsOf 14 = .ok (.iload_n 2, 1) := by decide +kernel
theorem dX10_readsOf_15 : decode cX10_readsOf 15 = .ok (.invokevirtual 123, 3) := by decide +kernel
theorem dX10_readsOf_18 : decode cX10_readsOf 18 = .ok (.istore 4, 2) := by decide +kernel
theorem dX10_readsOf_20 : decode cX10_readsOf 20 = .ok (.aload_n 0, 1) := by decide +kernel
theorem dX10_readsOf_21 : decode cX10_readsOf 21 = .ok (.getfield 113, 3) := by decide +kernel
theorem dX10_readsOf_24 : decode cX10_readsOf 24 = .ok (.bipush (-9), 2) := by decide +kernel
theorem dX10_readsOf_26 : decode cX10_readsOf 26 = .ok (.if_icmp .ne 13, 3) := by decide +kernel
theorem dX10_readsOf_29 : decode cX10_readsOf 29 = .ok (.aload_n 0, 1) := by decide +kernel
theorem dX10_readsOf_30 : decode cX10_readsOf 30 = .ok (.getfield 13, 3) := by decide +kernel
theorem dX10_readsOf_33 : decode cX10_readsOf 33 = .ok (.iload_n 1, 1) := by decide +kernel
theorem dX10_readsOf_34 : decode cX10_readsOf 34 = .ok (.iload_n 3, 1) := by decide +kernel
theorem dX10_readsOf_35 : decode cX10_readsOf 35 = .ok (.iadd, 1) := by decide +kernel
theorem dX10_readsOf_36 : decode cX10_readsOf 36 = .ok (.iload 4, 2) := by decide +kernel
theorem dX10_readsOf_38 : decode cX10_readsOf 38 = .ok (.iastore, 1) := by decide +kernel
theorem dX10_readsOf_39 : decode cX10_readsOf 39 = .ok (.return_, 1) := by decide +kernel
theorem dX10_readsOne_0 : decode cX10_readsOne 0 = .ok (.aload_n 0, 1) := by decide +kernel
theorem dX10_readsOne_1 : decode cX10_readsOne 1 = .ok (.iconst 1, 1) := by decide +kernel
theorem dX10_readsOne_2 : decode cX10_readsOne 2 = .ok (.invokevirtual 119, 3) := by decide +kernel
theorem dX10_readsOne_5 : decode cX10_readsOne 5 = .ok (.aload_n 0, 1) := by decide +kernel
theorem dX10_readsOne_6 : decode cX10_readsOne 6 = .ok (.iload_n 2, 1) := by decide +kernel
theorem dX10_readsOne_7 : decode cX10_readsOne 7 = .ok (.iload_n 3, 1) := by decide +kernel
theorem dX10_readsOne_8 : decode cX10_readsOne 8 = .ok (.invokevirtual 123, 3) := by decide +kernel
theorem dX10_readsOne_11 : decode cX10_readsOne 11 = .ok (.istore 4, 2) := by decide +kernel
theorem dX10_readsOne_13 : decode cX10_readsOne 13 = .ok (.aload_n 0, 1) := by decide +kernel
theorem dX10_readsOne_14 : decode cX10_readsOne 14 = .ok (.getfield 13, 3) := by decide +kernel
theorem dX10_readsOne_17 : decode cX10_readsOne 17 = .ok (.iload_n 1, 1) := by decide +kernel
theorem dX10_readsOne_18 : decode cX10_readsOne 18 = .ok (.aload_n 0, 1) := by decide +kernel
theorem dX10_readsOne_19 : decode cX10_readsOne 19 = .ok (.getfield 113, 3) := by decide +kernel
theorem dX10_readsOne_22 : decode cX10_readsOne 22 = .ok (.bipush (-9), 2) := by decide +kernel
theorem dX10_readsOne_24 : decode cX10_readsOne 24 = .ok (.if_icmp .ne 8, 3) := by decide +kernel
theorem dX10_readsOne_27 : decode cX10_readsOne 27 = .ok (.iload 4, 2) := by decide +kernel
theorem dX10_readsOne_29 : decode cX10_readsOne 29 = .ok (.goto 4, 3) := by decide +kernel
theorem dX10_readsOne_32 : decode cX10_readsOne 32 = .ok (.iconst 0, 1) := by decide +kernel
theorem dX10_readsOne_33 : decode cX10_readsOne 33 = .ok (.iastore, 1) := by decide +kernel
theorem dX10_readsOne_34 : decode cX10_readsOne 34 = .ok (.return_, 1) := by decide +kernel
theorem dX10_reads_0 : decode cX10_reads 0 = .ok (.iconst 0, 1) := by decide +kernel
theorem dX10_reads_1 : decode cX10_reads 1 = .ok (.istore_n 1, 1) := by decide +kernel
theorem dX10_reads_2 : decode cX10_reads 2 = .ok (.iload_n 1, 1) := by decide +kernel
theorem dX10_reads_3 : decode cX10_reads 3 = .ok (.bipush 60, 2) := by decide +kernel
theorem dX10_reads_5 : decode cX10_reads 5 = .ok (.if_icmp .ge 16, 3) := by decide +kernel
theorem dX10_reads_8 : decode cX10_reads 8 = .ok (.aload_n 0, 1) := by decide +kernel
theorem dX10_reads_9 : decode cX10_reads 9 = .ok (.getfield 13, 3) := by decide +kernel
theorem dX10_reads_12 : decode cX10_reads 12 = .ok (.iload_n 1, 1) := by decide +kernel
theorem dX10_reads_13 : decode cX10_reads 13 = .ok (.iconst 0, 1) := by decide +kernel
theorem dX10_reads_14 : decode cX10_reads 14 = .ok (.iastore, 1) := by decide +kernel
theorem dX10_reads_15 : decode cX10_reads 15 = .ok (.iinc 1 1, 3) := by decide +kernel
theorem dX10_reads_18 : decode cX10_reads 18 = .ok (.goto (-16), 3) := by decide +kernel
theorem dX10_reads_21 : decode cX10_reads 21 = .ok (.aload_n 0, 1) := by decide +kernel
theorem dX10_reads_22 : decode cX10_reads 22 = .ok (.getfield 13, 3) := by decide +kernel
theorem dX10_reads_25 : decode cX10_reads 25 = .ok (.iconst 2, 1) := by decide +kernel
theorem dX10_reads_26 : decode cX10_reads 26 = .ok (.iconst 3, 1) := by decide +kernel
theorem dX10_reads_27 : decode cX10_reads 27 = .ok (.iastore, 1) := by decide +kernel
theorem dX10_reads_28 : decode cX10_reads 28 = .ok (.aload_n 0, 1) := by decide +kernel
theorem dX10_reads_29 : decode cX10_reads 29 = .ok (.bipush (-9), 2) := by decide +kernel
theorem dX10_reads_31 : decode cX10_reads 31 = .ok (.putfield 113, 3) := by decide +kernel
theorem dX10_reads_34 : decode cX10_reads 34 = .ok (.aload_n 0, 1) := by decide +kernel
theorem dX10_reads_35 : decode cX10_reads 35 = .ok (.iconst 0, 1) := by decide +kernel
theorem dX10_reads_36 : decode cX10_reads 36 = .ok (.putfield 92, 3) := by decide +kernel
theorem dX10_reads_39 : decode cX10_reads 39 = .ok (.aload_n 0, 1) := by decide +kernel
theorem dX10_reads_40 : decode cX10_reads 40 = .ok (.invokevirtual 116, 3) := by decide +kernel
theorem dX10_reads_43 : decode cX10_reads 43 = .ok (.iconst 0, 1) := by decide +kernel
theorem dX10_reads_44 : decode cX10_reads 44 = .ok (.istore_n 1, 1) := by decide +kernel
theorem dX10_reads_45 : decode cX10_reads 45 = .ok (.aload_n 0, 1) := by decide +kernel
theorem dX10_reads_46 : decode cX10_reads 46 = .ok (.getfield 113, 3) := by decide +kernel
theorem dX10_reads_49 : decode cX10_reads 49 = .ok (.bipush (-9), 2) := by decide +kernel
theorem dX10_reads_51 : decode cX10_reads 51 = .ok (.if_icmp .ne 125, 3) := by decide +kernel
theorem dX10_reads_54 : decode cX10_reads 54 = .ok (.aload_n 0, 1) := by decide +kernel
theorem dX10_reads_55 : decode cX10_reads 55 = .ok (.getfield 106, 3) := by decide +kernel
theorem dX10_reads_58 : decode cX10_reads 58 = .ok (.ifCond .eq 118, 3) := by decide +kernel
theorem dX10_reads_61 : decode cX10_reads 61 = .ok (.aload_n 0, 1) := by decide +kernel
theorem dX10_reads_62 : decode cX10_reads 62 = .ok (.getfield 106, 3) := by decide +kernel
theorem dX10_reads_65 : decode cX10_reads 65 = .ok (.tableswitch 82 1 5 #[35, 42, 51, 62, 72], 35) := by decide +kernel
theorem dX10_reads_100 : decode cX10_reads 100 = .ok (.aload_n 0, 1) := by decide +kernel
theorem dX10_reads_101 : decode cX10_reads 101 = .ok (.invokevirtual 127, 3) := by decide +kernel
theorem dX10_reads_104 : decode cX10_reads 104 = .ok (.goto 48, 3) := by decide +kernel
theorem dX10_reads_107 : decode cX10_reads 107 = .ok (.aload_n 0, 1) := by decide +kernel
theorem dX10_reads_108 : decode cX10_reads 108 = .ok (.iconst 4, 1) := by decide +kernel
theorem dX10_reads_109 : decode cX10_reads 109 = .ok (.iconst 1, 1) := by decide +kernel
theorem dX10_reads_110 : decode cX10_reads 110 = .ok (.invokevirtual 130, 3) := by decide +kernel
theorem dX10_reads_113 : decode cX10_reads 113 = .ok (.goto 39, 3) := by decide +kernel
theorem dX10_reads_116 : decode cX10_reads 116 = .ok (.aload_n 0, 1) := by decide +kernel
theorem dX10_reads_117 : decode cX10_reads 117 = .ok (.bipush 8, 2) := by decide +kernel
theorem dX10_reads_119 : decode cX10_reads 119 = .ok (.bipush 9, 2) := by decide +kernel
theorem dX10_reads_121 : decode cX10_reads 121 = .ok (.invokevirtual 130, 3) := by decide +kernel
theorem dX10_reads_124 : decode cX10_reads 124 = .ok (.goto 28, 3) := by decide +kernel
theorem dX10_reads_127 : decode cX10_reads 127 = .ok (.aload_n 0, 1) := by decide +kernel
theorem dX10_reads_128 : decode cX10_reads 128 = .ok (.iconst 2, 1) := by decide +kernel
theorem dX10_reads_129 : decode cX10_reads 129 = .ok (.iconst 1, 1) := by decide +kernel
theorem dX10_reads_130 : decode cX10_reads 130 = .ok (.iconst 5, 1) := by decide +kernel
theorem dX10_reads_131 : decode cX10_reads 131 = .ok (.invokevirtual 134, 3) := by decide +kernel
theorem dX10_reads_134 : decode cX10_reads 134 = .ok (.goto 18, 3) := by decide +kernel
theorem dX10_reads_137 : decode cX10_reads 137 = .ok (.aload_n 0, 1) := by decide +kernel
theorem dX10_reads_138 : decode cX10_reads 138 = .ok (.iconst 3, 1) := by decide +kernel
theorem dX10_reads_139 : decode cX10_reads 139 = .ok (.iconst 0, 1) := by decide +kernel
theorem dX10_reads_140 : decode cX10_reads 140 = .ok (.iconst 2, 1) := by decide +kernel
theorem dX10_reads_141 : decode cX10_reads 141 = .ok (.invokevirtual 134, 3) := by decide +kernel
theorem dX10_reads_144 : decode cX10_reads 144 = .ok (.goto 8, 3) := by decide +kernel
theorem dX10_reads_147 : decode cX10_reads 147 = .ok (.aload_n 0, 1) := by decide +kernel
theorem dX10_reads_148 : decode cX10_reads 148 = .ok (.iconst 0, 1) := by decide +kernel
theorem dX10_reads_149 : decode cX10_reads 149 = .ok (.invokevirtual 119, 3) := by decide +kernel
theorem dX10_reads_152 : decode cX10_reads 152 = .ok (.aload_n 0, 1) := by decide +kernel
theorem dX10_reads_153 : decode cX10_reads 153 = .ok (.aload_n 0, 1) := by decide +kernel
theorem dX10_reads_154 : decode cX10_reads 154 = .ok (.getfield 106, 3) := by decide +kernel
theorem dX10_reads_157 : decode cX10_reads 157 = .ok (.bipush 7, 2) := by decide +kernel
theorem dX10_reads_159 : decode cX10_reads 159 = .ok (.if_icmp .ne 7, 3) := by decide +kernel
theorem dX10_reads_162 : decode cX10_reads 162 = .ok (.iconst 1, 1) := by decide +kernel
theorem dX10_reads_163 : decode cX10_reads 163 = .ok (.goto 4, 3) := by decide +kernel
theorem dX10_reads_166 : decode cX10_reads 166 = .ok (.iconst 0, 1) := by decide +kernel
theorem dX10_reads_167 : decode cX10_reads 167 = .ok (.invokevirtual 119, 3) := by decide +kernel
theorem dX10_reads_170 : decode cX10_reads 170 = .ok (.iinc 1 1, 3) := by decide +kernel
theorem dX10_reads_173 : decode cX10_reads 173 = .ok (.goto (-128), 3) := by decide +kernel
theorem dX10_reads_176 : decode cX10_reads 176 = .ok (.aload_n 0, 1) := by decide +kernel
theorem dX10_reads_177 : decode cX10_reads 177 = .ok (.aload_n 0, 1) := by decide +kernel
theorem dX10_reads_178 : decode cX10_reads 178 = .ok (.getfield 13, 3) := by decide +kernel
theorem dX10_reads_181 : decode cX10_reads 181 = .ok (.iconst 1, 1) := by decide +kernel
theorem dX10_reads_182 : decode cX10_reads 182 = .ok (.iaload, 1) := by decide +kernel
theorem dX10_reads_183 : decode cX10_reads 183 = .ok (.ifCond .le 7, 3) := by decide +kernel
theorem dX10_reads_186 : decode cX10_reads 186 = .ok (.iconst 1, 1) := by decide +kernel
theorem dX10_reads_187 : decode cX10_reads 187 = .ok (.goto 4, 3) := by decide +kernel
theorem dX10_reads_190 : decode cX10_reads 190 = .ok (.iconst 0, 1) := by decide +kernel
theorem dX10_reads_191 : decode cX10_reads 191 = .ok (.invokevirtual 119, 3) := by decide +kernel
theorem dX10_reads_194 : decode cX10_reads 194 = .ok (.iload_n 1, 1) := by decide +kernel
theorem dX10_reads_195 : decode cX10_reads 195 = .ok (.ireturn, 1) := by decide +kernel
theorem dX10_tells_0 : decode cX10_tells 0 = .ok (.aload_n 0, 1) := by decide +kernel
theorem dX10_tells_1 : decode cX10_tells 1 = .ok (.iconst 0, 1) := by decide +kernel
theorem dX10_tells_2 : decode cX10_tells 2 = .ok (.putfield 81, 3) := by decide +kernel
theorem dX10_tells_5 : decode cX10_tells 5 = .ok (.aload_n 0, 1) := by decide +kernel
theorem dX10_tells_6 : decode cX10_tells 6 = .ok (.invokevirtual 138, 3) := by decide +kernel
theorem dX10_tells_9 : decode cX10_tells 9 = .ok (.istore_n 1, 1) := by decide +kernel
theorem dX10_tells_10 : decode cX10_tells 10 = .ok (.aload_n 0, 1) := by decide +kernel
theorem dX10_tells_11 : decode cX10_tells 11 = .ok (.getfield 113, 3) := by decide +kernel
theorem dX10_tells_14 : decode cX10_tells 14 = .ok (.bipush (-9), 2) := by decide +kernel
theorem dX10_tells_16 : decode cX10_tells 16 = .ok (.if_icmp .eq 11, 3) := by decide +kernel
theorem dX10_tells_19 : decode cX10_tells 19 = .ok (.bipush (-10), 2) := by decide +kernel
theorem dX10_tells_21 : decode cX10_tells 21 = .ok (.aload_n 0, 1) := by decide +kernel
theorem dX10_tells_22 : decode cX10_tells 22 = .ok (.getfield 113, 3) := by decide +kernel
theorem dX10_tells_25 : decode cX10_tells 25 = .ok (.isub, 1) := by decide +kernel
theorem dX10_tells_26 : decode cX10_tells 26 = .ok (.ireturn, 1) := by decide +kernel
theorem dX10_tells_27 : decode cX10_tells 27 = .ok (.aload_n 0, 1) := by decide +kernel
theorem dX10_tells_28 : decode cX10_tells 28 = .ok (.invokevirtual 141, 3) := by decide +kernel
theorem dX10_tells_31 : decode cX10_tells 31 = .ok (.iconst 0, 1) := by decide +kernel
theorem dX10_tells_32 : decode cX10_tells 32 = .ok (.istore_n 2, 1) := by decide +kernel
theorem dX10_tells_33 : decode cX10_tells 33 = .ok (.iload_n 2, 1) := by decide +kernel
theorem dX10_tells_34 : decode cX10_tells 34 = .ok (.bipush 60, 2) := by decide +kernel
theorem dX10_tells_36 : decode cX10_tells 36 = .ok (.if_icmp .ge 21, 3) := by decide +kernel
theorem dX10_tells_39 : decode cX10_tells 39 = .ok (.aload_n 0, 1) := by decide +kernel
theorem dX10_tells_40 : decode cX10_tells 40 = .ok (.getfield 7, 3) := by decide +kernel
theorem dX10_tells_43 : decode cX10_tells 43 = .ok (.iload_n 2, 1) := by decide +kernel
theorem dX10_tells_44 : decode cX10_tells 44 = .ok (.aload_n 0, 1) := by decide +kernel
theorem dX10_tells_45 : decode cX10_tells 45 = .ok (.getfield 13, 3) := by decide +kernel
theorem dX10_tells_48 : decode cX10_tells 48 = .ok (.iload_n 2, 1) := by decide +kernel
theorem dX10_tells_49 : decode cX10_tells 49 = .ok (.iaload, 1) := by decide +kernel
theorem dX10_tells_50 : decode cX10_tells 50 = .ok (.iastore, 1) := by decide +kernel
theorem dX10_tells_51 : decode cX10_tells 51 = .ok (.iinc 2 1, 3) := by decide +kernel
theorem dX10_tells_54 : decode cX10_tells 54 = .ok (.goto (-21), 3) := by decide +kernel
theorem dX10_tells_57 : decode cX10_tells 57 = .ok (.aload_n 0, 1) := by decide +kernel
theorem dX10_tells_58 : decode cX10_tells 58 = .ok (.iconst 0, 1) := by decide +kernel
theorem dX10_tells_59 : decode cX10_tells 59 = .ok (.putfield 89, 3) := by decide +kernel
theorem dX10_tells_62 : decode cX10_tells 62 = .ok (.iload_n 1, 1) := by decide +kernel
theorem dX10_tells_63 : decode cX10_tells 63 = .ok (.ireturn, 1) := by decide +kernel
theorem dX10_notes_0 : decode cX10_notes 0 = .ok (.aload_n 0, 1) := by decide +kernel
theorem dX10_notes_1 : decode cX10_notes 1 = .ok (.getfield 144, 3) := by decide +kernel
theorem dX10_notes_4 : decode cX10_notes 4 = .ok (.bipush 6, 2) := by decide +kernel
theorem dX10_notes_6 : decode cX10_notes 6 = .ok (.if_icmp .ne 43, 3) := by decide +kernel
theorem dX10_notes_9 : decode cX10_notes 9 = .ok (.iconst 0, 1) := by decide +kernel
theorem dX10_notes_10 : decode cX10_notes 10 = .ok (.istore_n 1, 1) := by decide +kernel
theorem dX10_notes_11 : decode cX10_notes 11 = .ok (.iload_n 1, 1) := by decide +kernel
theorem dX10_notes_12 : decode cX10_notes 12 = .ok (.sipush 300, 3) := by decide +kernel
theorem dX10_notes_15 : decode cX10_notes 15 = .ok (.if_icmp .ge 24, 3) := by decide +kernel
theorem dX10_notes_18 : decode cX10_notes 18 = .ok (.aload_n 0, 1) := by decide +kernel
theorem dX10_notes_19 : decode cX10_notes 19 = .ok (.getfield 16, 3) := by decide +kernel
theorem dX10_notes_22 : decode cX10_notes 22 = .ok (.iload_n 1, 1) := by decide +kernel
theorem dX10_notes_23 : decode cX10_notes 23 = .ok (.aload_n 0, 1) := by decide +kernel
theorem dX10_notes_24 : decode cX10_notes 24 = .ok (.getfield 16, 3) := by decide +kernel
theorem dX10_notes_27 : decode cX10_notes 27 = .ok (.iload_n 1, 1) := by decide +kernel
theorem dX10_notes_28 : decode cX10_notes 28 = .ok (.bipush 60, 2) := by decide +kernel
theorem dX10_notes_30 : decode cX10_notes 30 = .ok (.iadd, 1) := by decide +kernel
theorem dX10_notes_31 : decode cX10_notes 31 = .ok (.iaload, 1) := by decide +kernel
theorem dX10_notes_32 : decode cX10_notes 32 = .ok (.iastore, 1) := by decide +kernel
theorem dX10_notes_33 : decode cX10_notes 33 = .ok (.iinc 1 1, 3) := by decide +kernel
theorem dX10_notes_36 : decode cX10_notes 36 = .ok (.goto (-25), 3) := by decide +kernel
theorem dX10_notes_39 : decode cX10_notes 39 = .ok (.aload_n 0, 1) := by decide +kernel
theorem dX10_notes_40 : decode cX10_notes 40 = .ok (.dup, 1) := by decide +kernel
theorem dX10_notes_41 : decode cX10_notes 41 = .ok (.getfield 144, 3) := by decide +kernel
theorem dX10_notes_44 : decode cX10_notes 44 = .ok (.iconst 1, 1) := by decide +kernel
theorem dX10_notes_45 : decode cX10_notes 45 = .ok (.isub, 1) := by decide +kernel
theorem dX10_notes_46 : decode cX10_notes 46 = .ok (.putfield 144, 3) := by decide +kernel
theorem dX10_notes_49 : decode cX10_notes 49 = .ok (.iconst 0, 1) := by decide +kernel
theorem dX10_notes_50 : decode cX10_notes 50 = .ok (.istore_n 1, 1) := by decide +kernel
theorem dX10_notes_51 : decode cX10_notes 51 = .ok (.iload_n 1, 1) := by decide +kernel
theorem dX10_notes_52 : decode cX10_notes 52 = .ok (.bipush 60, 2) := by decide +kernel
theorem dX10_notes_54 : decode cX10_notes 54 = .ok (.if_icmp .ge 29, 3) := by decide +kernel
theorem dX10_notes_57 : decode cX10_notes 57 = .ok (.aload_n 0, 1) := by decide +kernel
theorem dX10_notes_58 : decode cX10_notes 58 = .ok (.getfield 16, 3) := by decide +kernel
theorem dX10_notes_61 : decode cX10_notes 61 = .ok (.bipush 60, 2) := by decide +kernel
theorem dX10_notes_63 : decode cX10_notes 63 = .ok (.aload_n 0, 1) := by decide +kernel
theorem dX10_notes_64 : decode cX10_notes 64 = .ok (.getfield 144, 3) := by decide +kernel
theorem dX10_notes_67 : decode cX10_notes 67 = .ok (.imul, 1) := by decide +kernel
theorem dX10_notes_68 : decode cX10_notes 68 = .ok (.iload_n 1, 1) := by decide +kernel
theorem dX10_notes_69 : decode cX10_notes 69 = .ok (.iadd, 1) := by decide +kernel
theorem dX10_notes_70 : decode cX10_notes 70 = .ok (.aload_n 0, 1) := by decide +kernel
theorem dX10_notes_71 : decode cX10_notes 71 = .ok (.getfield 7, 3) := by decide +kernel
theorem dX10_notes_74 : decode cX10_notes 74 = .ok (.iload_n 1, 1) := by decide +kernel
theorem dX10_notes_75 : decode cX10_notes 75 = .ok (.iaload, 1) := by decide +kernel
theorem dX10_notes_76 : decode cX10_notes 76 = .ok (.iastore, 1) := by decide +kernel
theorem dX10_notes_77 : decode cX10_notes 77 = .ok (.iinc 1 1, 3) := by decide +kernel
theorem dX10_notes_80 : decode cX10_notes 80 = .ok (.goto (-29), 3) := by decide +kernel
theorem dX10_notes_83 : decode cX10_notes 83 = .ok (.aload_n 0, 1) := by decide +kernel
theorem dX10_notes_84 : decode cX10_notes 84 = .ok (.dup, 1) := by decide +kernel
theorem dX10_notes_85 : decode cX10_notes 85 = .ok (.getfield 144, 3) := by decide +kernel
theorem dX10_notes_88 : decode cX10_notes 88 = .ok (.iconst 1, 1) := by decide +kernel
theorem dX10_notes_89 : decode cX10_notes 89 = .ok (.iadd, 1) := by decide +kernel
theorem dX10_notes_90 : decode cX10_notes 90 = .ok (.putfield 144, 3) := by decide +kernel
theorem dX10_notes_93 : decode cX10_notes 93 = .ok (.return_, 1) := by decide +kernel
theorem dX10_cells_0 : decode cX10_cells 0 = .ok (.aload_n 0, 1) := by decide +kernel
theorem dX10_cells_1 : decode cX10_cells 1 = .ok (.getfield 7, 3) := by decide +kernel
theorem dX10_cells_4 : decode cX10_cells 4 = .ok (.iconst 0, 1) := by decide +kernel
theorem dX10_cells_5 : decode cX10_cells 5 = .ok (.iaload, 1) := by decide +kernel
theorem dX10_cells_6 : decode cX10_cells 6 = .ok (.aload_n 0, 1) := by decide +kernel
theorem dX10_cells_7 : decode cX10_cells 7 = .ok (.getfield 7, 3) := by decide +kernel
theorem dX10_cells_10 : decode cX10_cells 10 = .ok (.iconst 1, 1) := by decide +kernel
theorem dX10_cells_11 : decode cX10_cells 11 = .ok (.iaload, 1) := by decide +kernel
theorem dX10_cells_12 : decode cX10_cells 12 = .ok (.imul, 1) := by decide +kernel
theorem dX10_cells_13 : decode cX10_cells 13 = .ok (.ireturn, 1) := by decide +kernel
theorem dX10_isCell_0 : decode cX10_isCell 0 = .ok (.iload_n 1, 1) := by decide +kernel
theorem dX10_isCell_1 : decode cX10_isCell 1 = .ok (.iconst 0, 1) := by decide +kernel
theorem dX10_isCell_2 : decode cX10_isCell 2 = .ok (.aload_n 0, 1) := by decide +kernel
theorem dX10_isCell_3 : decode cX10_isCell 3 = .ok (.getfield 7, 3) := by decide +kernel
theorem dX10_isCell_6 : decode cX10_isCell 6 = .ok (.iconst 0, 1) := by decide +kernel
theorem dX10_isCell_7 : decode cX10_isCell 7 = .ok (.iaload, 1) := by decide +kernel
theorem dX10_isCell_8 : decode cX10_isCell 8 = .ok (.iconst 1, 1) := by decide +kernel
theorem dX10_isCell_9 : decode cX10_isCell 9 = .ok (.isub, 1) := by decide +kernel
theorem dX10_isCell_10 : decode cX10_isCell 10 = .ok (.invokestatic 85, 3) := by decide +kernel
theorem dX10_isCell_13 : decode cX10_isCell 13 = .ok (.ifCond .eq 23, 3) := by decide +kernel
theorem dX10_isCell_16 : decode cX10_isCell 16 = .ok (.iload_n 2, 1) := by decide +kernel
theorem dX10_isCell_17 : decode cX10_isCell 17 = .ok (.iconst 0, 1) := by decide +kernel
theorem dX10_isCell_18 : decode cX10_isCell 18 = .ok (.aload_n 0, 1) := by decide +kernel
theorem dX10_isCell_19 : decode cX10_isCell 19 = .ok (.getfield 7, 3) := by decide +kernel
theorem dX10_isCell_22 : decode cX10_isCell 22 = .ok (.iconst 1, 1) := by decide +kernel
theorem dX10_isCell_23 : decode cX10_isCell 23 = .ok (.iaload, 1) := by decide +kernel
theorem dX10_isCell_24 : decode cX10_isCell 24 = .ok (.iconst 1, 1) := by decide +kernel
theorem dX10_isCell_25 : decode cX10_isCell 25 = .ok (.isub, 1) := by decide +kernel
theorem dX10_isCell_26 : decode cX10_isCell 26 = .ok (.invokestatic 85, 3) := by decide +kernel
theorem dX10_isCell_29 : decode cX10_isCell 29 = .ok (.ifCond .eq 7, 3) := by decide +kernel
theorem dX10_isCell_32 : decode cX10_isCell 32 = .ok (.iconst 1, 1) := by decide +kernel
theorem dX10_isCell_33 : decode cX10_isCell 33 = .ok (.goto 4, 3) := by decide +kernel
theorem dX10_isCell_36 : decode cX10_isCell 36 = .ok (.iconst 0, 1) := by decide +kernel
theorem dX10_isCell_37 : decode cX10_isCell 37 = .ok (.ireturn, 1) := by decide +kernel
theorem dX10_paints_0 : decode cX10_paints 0 = .ok (.aload_n 0, 1) := by decide +kernel
theorem dX10_paints_1 : decode cX10_paints 1 = .ok (.iconst 0, 1) := by decide +kernel
theorem dX10_paints_2 : decode cX10_paints 2 = .ok (.putfield 81, 3) := by decide +kernel
theorem dX10_paints_5 : decode cX10_paints 5 = .ok (.aload_n 0, 1) := by decide +kernel
theorem dX10_paints_6 : decode cX10_paints 6 = .ok (.iload_n 1, 1) := by decide +kernel
theorem dX10_paints_7 : decode cX10_paints 7 = .ok (.iload_n 2, 1) := by decide +kernel
theorem dX10_paints_8 : decode cX10_paints 8 = .ok (.invokevirtual 147, 3) := by decide +kernel
theorem dX10_paints_11 : decode cX10_paints 11 = .ok (.ifCond .eq 34, 3) := by decide +kernel
theorem dX10_paints_14 : decode cX10_paints 14 = .ok (.aload_n 0, 1) := by decide +kernel
theorem dX10_paints_15 : decode cX10_paints 15 = .ok (.iload_n 3, 1) := by decide +kernel
theorem dX10_paints_16 : decode cX10_paints 16 = .ok (.iload 4, 2) := by decide +kernel
theorem dX10_paints_18 : decode cX10_paints 18 = .ok (.invokevirtual 147, 3) := by decide +kernel
theorem dX10_paints_21 : decode cX10_paints 21 = .ok (.ifCond .eq 24, 3) := by decide +kernel
theorem dX10_paints_24 : decode cX10_paints 24 = .ok (.iload_n 3, 1) := by decide +kernel
theorem dX10_paints_25 : decode cX10_paints 25 = .ok (.iload_n 1, 1) := by decide +kernel
theorem dX10_paints_26 : decode cX10_paints 26 = .ok (.if_icmp .lt 19, 3) := by decide +kernel
theorem dX10_paints_29 : decode cX10_paints 29 = .ok (.iload 4, 2) := by decide +kernel
theorem dX10_paints_31 : decode cX10_paints 31 = .ok (.iload_n 2, 1) := by decide +kernel
theorem dX10_paints_32 : decode cX10_paints 32 = .ok (.if_icmp .lt 13, 3) := by decide +kernel
theorem dX10_paints_35 : decode cX10_paints 35 = .ok (.iload 5, 2) := by decide +kernel
theorem dX10_paints_37 : decode cX10_paints 37 = .ok (.iconst 0, 1) := by decide +kernel
theorem dX10_paints_38 : decode cX10_paints 38 = .ok (.iconst 3, 1) := by decide +kernel
theorem dX10_paints_39 : decode cX10_paints 39 = .ok (.invokestatic 85, 3) := by decide +kernel
theorem dX10_paints_42 : decode cX10_paints 42 = .ok (.ifCond .ne 5, 3) := by decide +kernel
theorem dX10_paints_45 : decode cX10_paints 45 = .ok (.iconst (-1), 1) := by decide +kernel
theorem dX10_paints_46 : decode cX10_paints 46 = .ok (.ireturn, 1) := by decide +kernel
theorem dX10_paints_47 : decode cX10_paints 47 = .ok (.iconst 0, 1) := by decide +kernel
theorem dX10_paints_48 : decode cX10_paints 48 = .ok (.istore 6, 2) := by decide +kernel
theorem dX10_paints_50 : decode cX10_paints 50 = .ok (.iconst 0, 1) := by decide +kernel
theorem dX10_paints_51 : decode cX10_paints 51 = .ok (.istore 7, 2) := by decide +kernel
theorem dX10_paints_53 : decode cX10_paints 53 = .ok (.iload 7, 2) := by decide +kernel
theorem dX10_paints_55 : decode cX10_paints 55 = .ok (.aload_n 0, 1) := by decide +kernel
theorem dX10_paints_56 : decode cX10_paints 56 = .ok (.invokevirtual 151, 3) := by decide +kernel
theorem dX10_paints_59 : decode cX10_paints 59 = .ok (.if_icmp .ge 69, 3) := by decide +kernel
theorem dX10_paints_62 : decode cX10_paints 62 = .ok (.iload 6, 2) := by decide +kernel
theorem dX10_paints_64 : decode cX10_paints 64 = .ok (.iload 7, 2) := by decide +kernel
theorem dX10_paints_66 : decode cX10_paints 66 = .ok (.aload_n 0, 1) := by decide +kernel
theorem dX10_paints_67 : decode cX10_paints 67 = .ok (.getfield 7, 3) := by decide +kernel
theorem dX10_paints_70 : decode cX10_paints 70 = .ok (.iconst 0, 1) := by decide +kernel
theorem dX10_paints_71 : decode cX10_paints 71 = .ok (.iaload, 1) := by decide +kernel
theorem dX10_paints_72 : decode cX10_paints 72 = .ok (.irem, 1) := by decide +kernel
theorem dX10_paints_73 : decode cX10_paints 73 = .ok (.iload_n 1, 1) := by decide +kernel
theorem dX10_paints_74 : decode cX10_paints 74 = .ok (.iload_n 3, 1) := by decide +kernel
theorem dX10_paints_75 : decode cX10_paints 75 = .ok (.invokestatic 85, 3) := by decide +kernel
theorem dX10_paints_78 : decode cX10_paints 78 = .ok (.ifCond .eq 40, 3) := by decide +kernel
theorem dX10_paints_81 : decode cX10_paints 81 = .ok (.iload 7, 2) := by decide +kernel
theorem dX10_paints_83 : decode cX10_paints 83 = .ok (.aload_n 0, 1) := by decide +kernel
theorem dX10_paints_84 : decode cX10_paints 84 = .ok (.getfield 7, 3) := by decide +kernel
theorem dX10_paints_87 : decode cX10_paints 87 = .ok (.iconst 0, 1) := by decide +kernel
theorem dX10_paints_88 : decode cX10_paints 88 = .ok (.iaload, 1) := by decide +kernel
theorem dX10_paints_89 : decode cX10_paints 89 = .ok (.idiv, 1) := by decide +kernel
theorem dX10_paints_90 : decode cX10_paints 90 = .ok (.iload_n 2, 1) := by decide +kernel
theorem dX10_paints_91 : decode cX10_paints 91 = .ok (.iload 4, 2) := by decide +kernel
theorem dX10_paints_93 : decode cX10_paints 93 = .ok (.invokestatic 85, 3) := by decide +kernel
theorem dX10_paints_96 : decode cX10_paints 96 = .ok (.ifCond .eq 22, 3) := by decide +kernel
theorem dX10_paints_99 : decode cX10_paints 99 = .ok (.aload_n 0, 1) := by decide +kernel
theorem dX10_paints_100 : decode cX10_paints 100 = .ok (.getfield 7, 3) := by decide +kernel
theorem dX10_paints_103 : decode cX10_paints 103 = .ok (.bipush 12, 2) := by decide +kernel
theorem dX10_paints_105 : decode cX10_paints 105 = .ok (.iload 7, 2) := by decide +kernel
theorem dX10_paints_107 : decode cX10_paints 107 = .ok (.iadd, 1) := by decide +kernel
theorem dX10_paints_108 : decode cX10_paints 108 = .ok (.iaload, 1) := by decide +kernel
theorem dX10_paints_109 : decode cX10_paints 109 = .ok (.iload 5, 2) := by decide +kernel
theorem dX10_paints_111 : decode cX10_paints 111 = .ok (.if_icmp .eq 7, 3) := by decide +kernel
theorem dX10_paints_114 : decode cX10_paints 114 = .ok (.iconst 1, 1) := by decide +kernel
theorem dX10_paints_115 : decode cX10_paints 115 = .ok (.goto 4, 3) := by decide +kernel
theorem dX10_paints_118 : decode cX10_paints 118 = .ok (.iconst 0, 1) := by decide +kernel
theorem dX10_paints_119 : decode cX10_paints 119 = .ok (.iadd, 1) := by decide +kernel
theorem dX10_paints_120 : decode cX10_paints 120 = .ok (.istore 6, 2) := by decide +kernel
theorem dX10_paints_122 : decode cX10_paints 122 = .ok (.iinc 7 1, 3) := by decide +kernel
theorem dX10_paints_125 : decode cX10_paints 125 = .ok (.goto (-72), 3) := by decide +kernel
theorem dX10_paints_128 : decode cX10_paints 128 = .ok (.iload 6, 2) := by decide +kernel
theorem dX10_paints_130 : decode cX10_paints 130 = .ok (.ifCond .ne 6, 3) := by decide +kernel
theorem dX10_paints_133 : decode cX10_paints 133 = .ok (.bipush (-2), 2) := by decide +kernel
theorem dX10_paints_135 : decode cX10_paints 135 = .ok (.ireturn, 1) := by decide +kernel
theorem dX10_paints_136 : decode cX10_paints 136 = .ok (.aload_n 0, 1) := by decide +kernel
theorem dX10_paints_137 : decode cX10_paints 137 = .ok (.invokevirtual 141, 3) := by decide +kernel
theorem dX10_paints_140 : decode cX10_paints 140 = .ok (.iconst 0, 1) := by decide +kernel
theorem dX10_paints_141 : decode cX10_paints 141 = .ok (.istore 7, 2) := by decide +kernel
theorem dX10_paints_143 : decode cX10_paints 143 = .ok (.iload 7, 2) := by decide +kernel
theorem dX10_paints_145 : decode cX10_paints 145 = .ok (.aload_n 0, 1) := by decide +kernel
theorem dX10_paints_146 : decode cX10_paints 146 = .ok (.invokevirtual 151, 3) := by decide +kernel
theorem dX10_paints_149 : decode cX10_paints 149 = .ok (.if_icmp .ge 56, 3) := by decide +kernel
theorem dX10_paints_152 : decode cX10_paints 152 = .ok (.iload 7, 2) := by decide +kernel
theorem dX10_paints_154 : decode cX10_paints 154 = .ok (.aload_n 0, 1) := by decide +kernel
theorem dX10_paints_155 : decode cX10_paints 155 = .ok (.getfield 7, 3) := by decide +kernel
theorem dX10_paints_158 : decode cX10_paints 158 = .ok (.iconst 0, 1) := by decide +kernel
theorem dX10_paints_159 : decode cX10_paints 159 = .ok (.iaload, 1) := by decide +kernel
theorem dX10_paints_160 : decode cX10_paints 160 = .ok (.irem, 1) := by decide +kernel
theorem dX10_paints_161 : decode cX10_paints 161 = .ok (.iload_n 1, 1) := by decide +kernel
theorem dX10_paints_162 : decode cX10_paints 162 = .ok (.iload_n 3, 1) := by decide +kernel
theorem dX10_paints_163 : decode cX10_paints 163 = .ok (.invokestatic 85, 3) := by decide +kernel
theorem dX10_paints_166 : decode cX10_paints 166 = .ok (.ifCond .eq 33, 3) := by decide +kernel
theorem dX10_paints_169 : decode cX10_paints 169 = .ok (.iload 7, 2) := by decide +kernel
theorem dX10_paints_171 : decode cX10_paints 171 = .ok (.aload_n 0, 1) := by decide +kernel
theorem dX10_paints_172 : decode cX10_paints 172 = .ok (.getfield 7, 3) := by decide +kernel
theorem dX10_paints_175 : decode cX10_paints 175 = .ok (.iconst 0, 1) := by decide +kernel
theorem dX10_paints_176 : decode cX10_paints 176 = .ok (.iaload, 1) := by decide +kernel
theorem dX10_paints_177 : decode cX10_paints 177 = .ok (.idiv, 1) := by decide +kernel
theorem dX10_paints_178 : decode cX10_paints 178 = .ok (.iload_n 2, 1) := by decide +kernel
theorem dX10_paints_179 : decode cX10_paints 179 = .ok (.iload 4, 2) := by decide +kernel
theorem dX10_paints_181 : decode cX10_paints 181 = .ok (.invokestatic 85, 3) := by decide +kernel
theorem dX10_paints_184 : decode cX10_paints 184 = .ok (.ifCond .eq 15, 3) := by decide +kernel
theorem dX10_paints_187 : decode cX10_paints 187 = .ok (.aload_n 0, 1) := by decide +kernel
theorem dX10_paints_188 : decode cX10_paints 188 = .ok (.getfield 7, 3) := by decide +kernel
theorem dX10_paints_191 : decode cX10_paints 191 = .ok (.bipush 12, 2) := by decide +kernel
theorem dX10_paints_193 : decode cX10_paints 193 = .ok (.iload 7, 2) := by decide +kernel
theorem dX10_paints_195 : decode cX10_paints 195 = .ok (.iadd, 1) := by decide +kernel
theorem dX10_paints_196 : decode cX10_paints 196 = .ok (.iload 5, 2) := by decide +kernel
theorem dX10_paints_198 : decode cX10_paints 198 = .ok (.iastore, 1) := by decide +kernel
theorem dX10_paints_199 : decode cX10_paints 199 = .ok (.iinc 7 1, 3) := by decide +kernel
theorem dX10_paints_202 : decode cX10_paints 202 = .ok (.goto (-59), 3) := by decide +kernel
theorem dX10_paints_205 : decode cX10_paints 205 = .ok (.iload 6, 2) := by decide +kernel
theorem dX10_paints_207 : decode cX10_paints 207 = .ok (.ireturn, 1) := by decide +kernel
theorem dX10_becomes_0 : decode cX10_becomes 0 = .ok (.aload_n 0, 1) := by decide +kernel
theorem dX10_becomes_1 : decode cX10_becomes 1 = .ok (.getfield 7, 3) := by decide +kernel
theorem dX10_becomes_4 : decode cX10_becomes 4 = .ok (.iload_n 1, 1) := by decide +kernel
theorem dX10_becomes_5 : decode cX10_becomes 5 = .ok (.iaload, 1) := by decide +kernel
theorem dX10_becomes_6 : decode cX10_becomes 6 = .ok (.istore_n 3, 1) := by decide +kernel
theorem dX10_becomes_7 : decode cX10_becomes 7 = .ok (.iload_n 3, 1) := by decide +kernel
theorem dX10_becomes_8 : decode cX10_becomes 8 = .ok (.iload_n 2, 1) := by decide +kernel
theorem dX10_becomes_9 : decode cX10_becomes 9 = .ok (.if_icmp .ne 6, 3) := by decide +kernel
theorem dX10_becomes_12 : decode cX10_becomes 12 = .ok (.bipush (-2), 2) := by decide +kernel
theorem dX10_becomes_14 : decode cX10_becomes 14 = .ok (.ireturn, 1) := by decide +kernel
theorem dX10_becomes_15 : decode cX10_becomes 15 = .ok (.aload_n 0, 1) := by decide +kernel
theorem dX10_becomes_16 : decode cX10_becomes 16 = .ok (.invokevirtual 141, 3) := by decide +kernel
theorem dX10_becomes_19 : decode cX10_becomes 19 = .ok (.aload_n 0, 1) := by decide +kernel
theorem dX10_becomes_20 : decode cX10_becomes 20 = .ok (.getfield 7, 3) := by decide +kernel
theorem dX10_becomes_23 : decode cX10_becomes 23 = .ok (.iload_n 1, 1) := by decide +kernel
theorem dX10_becomes_24 : decode cX10_becomes 24 = .ok (.iload_n 2, 1) := by decide +kernel
theorem dX10_becomes_25 : decode cX10_becomes 25 = .ok (.iastore, 1) := by decide +kernel
theorem dX10_becomes_26 : decode cX10_becomes 26 = .ok (.iload_n 3, 1) := by decide +kernel
theorem dX10_becomes_27 : decode cX10_becomes 27 = .ok (.ireturn, 1) := by decide +kernel
theorem dX10_ways_0 : decode cX10_ways 0 = .ok (.aload_n 0, 1) := by decide +kernel
theorem dX10_ways_1 : decode cX10_ways 1 = .ok (.iconst 0, 1) := by decide +kernel
theorem dX10_ways_2 : decode cX10_ways 2 = .ok (.putfield 81, 3) := by decide +kernel
theorem dX10_ways_5 : decode cX10_ways 5 = .ok (.iload_n 1, 1) := by decide +kernel
theorem dX10_ways_6 : decode cX10_ways 6 = .ok (.iconst 1, 1) := by decide +kernel
theorem dX10_ways_7 : decode cX10_ways 7 = .ok (.iconst 3, 1) := by decide +kernel
theorem dX10_ways_8 : decode cX10_ways 8 = .ok (.invokestatic 85, 3) := by decide +kernel
theorem dX10_ways_11 : decode cX10_ways 11 = .ok (.ifCond .eq 23, 3) := by decide +kernel
theorem dX10_ways_14 : decode cX10_ways 14 = .ok (.iload_n 2, 1) := by decide +kernel
theorem dX10_ways_15 : decode cX10_ways 15 = .ok (.iconst 0, 1) := by decide +kernel
theorem dX10_ways_16 : decode cX10_ways 16 = .ok (.iconst 1, 1) := by decide +kernel
theorem dX10_ways_17 : decode cX10_ways 17 = .ok (.invokestatic 85, 3) := by decide +kernel
theorem dX10_ways_20 : decode cX10_ways 20 = .ok (.ifCond .eq 14, 3) := by decide +kernel
theorem dX10_ways_23 : decode cX10_ways 23 = .ok (.aload_n 0, 1) := by decide +kernel
theorem dX10_ways_24 : decode cX10_ways 24 = .ok (.iconst 4, 1) := by decide +kernel
theorem dX10_ways_25 : decode cX10_ways 25 = .ok (.iload_n 1, 1) := by decide +kernel
theorem dX10_ways_26 : decode cX10_ways 26 = .ok (.iadd, 1) := by decide +kernel
theorem dX10_ways_27 : decode cX10_ways 27 = .ok (.iload_n 2, 1) := by decide +kernel
theorem dX10_ways_28 : decode cX10_ways 28 = .ok (.invokevirtual 154, 3) := by decide +kernel
theorem dX10_ways_31 : decode cX10_ways 31 = .ok (.goto 4, 3) := by decide +kernel
theorem dX10_ways_34 : decode cX10_ways 34 = .ok (.iconst (-1), 1) := by decide +kernel
theorem dX10_ways_35 : decode cX10_ways 35 = .ok (.ireturn, 1) := by decide +kernel
theorem dX10_ranks_0 : decode cX10_ranks 0 = .ok (.aload_n 0, 1) := by decide +kernel
theorem dX10_ranks_1 : decode cX10_ranks 1 = .ok (.iconst 0, 1) := by decide +kernel
theorem dX10_ranks_2 : decode cX10_ranks 2 = .ok (.putfield 81, 3) := by decide +kernel
theorem dX10_ranks_5 : decode cX10_ranks 5 = .ok (.iload_n 1, 1) := by decide +kernel
theorem dX10_ranks_6 : decode cX10_ranks 6 = .ok (.iconst 1, 1) := by decide +kernel
theorem dX10_ranks_7 : decode cX10_ranks 7 = .ok (.iconst 3, 1) := by decide +kernel
theorem dX10_ranks_8 : decode cX10_ranks 8 = .ok (.invokestatic 85, 3) := by decide +kernel
theorem dX10_ranks_11 : decode cX10_ranks 11 = .ok (.ifCond .eq 25, 3) := by decide +kernel
theorem dX10_ranks_14 : decode cX10_ranks 14 = .ok (.iload_n 2, 1) := by decide +kernel
theorem dX10_ranks_15 : decode cX10_ranks 15 = .ok (.iconst 0, 1) := by decide +kernel
theorem dX10_ranks_16 : decode cX10_ranks 16 = .ok (.bipush 9, 2) := by decide +kernel
theorem dX10_ranks_18 : decode cX10_ranks 18 = .ok (.invokestatic 85, 3) := by decide +kernel
theorem dX10_ranks_21 : decode cX10_ranks 21 = .ok (.ifCond .eq 15, 3) := by decide +kernel
theorem dX10_ranks_24 : decode cX10_ranks 24 = .ok (.aload_n 0, 1) := by decide +kernel
theorem dX10_ranks_25 : decode cX10_ranks 25 = .ok (.bipush 8, 2) := by decide +kernel
theorem dX10_ranks_27 : decode cX10_ranks 27 = .ok (.iload_n 1, 1) := by decide +kernel
theorem dX10_ranks_28 : decode cX10_ranks 28 = .ok (.iadd, 1) := by decide +kernel
theorem dX10_ranks_29 : decode cX10_ranks 29 = .ok (.iload_n 2, 1) := by decide +kernel
theorem dX10_ranks_30 : decode cX10_ranks 30 = .ok (.invokevirtual 154, 3) := by decide +kernel
theorem dX10_ranks_33 : decode cX10_ranks 33 = .ok (.goto 4, 3) := by decide +kernel
theorem dX10_ranks_36 : decode cX10_ranks 36 = .ok (.iconst (-1), 1) := by decide +kernel
theorem dX10_ranks_37 : decode cX10_ranks 37 = .ok (.ireturn, 1) := by decide +kernel
theorem dX10_mosts_0 : decode cX10_mosts 0 = .ok (.aload_n 0, 1) := by decide +kernel
theorem dX10_mosts_1 : decode cX10_mosts 1 = .ok (.iconst 0, 1) := by decide +kernel
theorem dX10_mosts_2 : decode cX10_mosts 2 = .ok (.putfield 81, 3) := by decide +kernel
theorem dX10_mosts_5 : decode cX10_mosts 5 = .ok (.iload_n 1, 1) := by decide +kernel
theorem dX10_mosts_6 : decode cX10_mosts 6 = .ok (.iconst 1, 1) := by decide +kernel
theorem dX10_mosts_7 : decode cX10_mosts 7 = .ok (.iconst 5, 1) := by decide +kernel
theorem dX10_mosts_8 : decode cX10_mosts 8 = .ok (.invokestatic 85, 3) := by decide +kernel
theorem dX10_mosts_11 : decode cX10_mosts 11 = .ok (.ifCond .eq 12, 3) := by decide +kernel
theorem dX10_mosts_14 : decode cX10_mosts 14 = .ok (.aload_n 0, 1) := by decide +kernel
theorem dX10_mosts_15 : decode cX10_mosts 15 = .ok (.iconst 2, 1) := by decide +kernel
theorem dX10_mosts_16 : decode cX10_mosts 16 = .ok (.iload_n 1, 1) := by decide +kernel
theorem dX10_mosts_17 : decode cX10_mosts 17 = .ok (.invokevirtual 154, 3) := by decide +kernel
theorem dX10_mosts_20 : decode cX10_mosts 20 = .ok (.goto 4, 3) := by decide +kernel
theorem dX10_mosts_23 : decode cX10_mosts 23 = .ok (.iconst (-1), 1) := by decide +kernel
theorem dX10_mosts_24 : decode cX10_mosts 24 = .ok (.ireturn, 1) := by decide +kernel
theorem dX10_pulls_0 : decode cX10_pulls 0 = .ok (.aload_n 0, 1) := by decide +kernel
theorem dX10_pulls_1 : decode cX10_pulls 1 = .ok (.iconst 0, 1) := by decide +kernel
theorem dX10_pulls_2 : decode cX10_pulls 2 = .ok (.putfield 81, 3) := by decide +kernel
theorem dX10_pulls_5 : decode cX10_pulls 5 = .ok (.iload_n 1, 1) := by decide +kernel
theorem dX10_pulls_6 : decode cX10_pulls 6 = .ok (.iconst 0, 1) := by decide +kernel
theorem dX10_pulls_7 : decode cX10_pulls 7 = .ok (.iconst 2, 1) := by decide +kernel
theorem dX10_pulls_8 : decode cX10_pulls 8 = .ok (.invokestatic 85, 3) := by decide +kernel
theorem dX10_pulls_11 : decode cX10_pulls 11 = .ok (.ifCond .eq 12, 3) := by decide +kernel
theorem dX10_pulls_14 : decode cX10_pulls 14 = .ok (.aload_n 0, 1) := by decide +kernel
theorem dX10_pulls_15 : decode cX10_pulls 15 = .ok (.iconst 3, 1) := by decide +kernel
theorem dX10_pulls_16 : decode cX10_pulls 16 = .ok (.iload_n 1, 1) := by decide +kernel
theorem dX10_pulls_17 : decode cX10_pulls 17 = .ok (.invokevirtual 154, 3) := by decide +kernel
theorem dX10_pulls_20 : decode cX10_pulls 20 = .ok (.goto 4, 3) := by decide +kernel
theorem dX10_pulls_23 : decode cX10_pulls 23 = .ok (.iconst (-1), 1) := by decide +kernel
theorem dX10_pulls_24 : decode cX10_pulls 24 = .ok (.ireturn, 1) := by decide +kernel
theorem dX10_undo_0 : decode cX10_undo 0 = .ok (.aload_n 0, 1) := by decide +kernel
theorem dX10_undo_1 : decode cX10_undo 1 = .ok (.iconst 0, 1) := by decide +kernel
theorem dX10_undo_2 : decode cX10_undo 2 = .ok (.putfield 81, 3) := by decide +kernel
theorem dX10_undo_5 : decode cX10_undo 5 = .ok (.aload_n 0, 1) := by decide +kernel
theorem dX10_undo_6 : decode cX10_undo 6 = .ok (.getfield 144, 3) := by decide +kernel
theorem dX10_undo_9 : decode cX10_undo 9 = .ok (.ifCond .ne 6, 3) := by decide +kernel
theorem dX10_undo_12 : decode cX10_undo 12 = .ok (.bipush (-2), 2) := by decide +kernel
theorem dX10_undo_14 : decode cX10_undo 14 = .ok (.ireturn, 1) := by decide +kernel
theorem dX10_undo_15 : decode cX10_undo 15 = .ok (.aload_n 0, 1) := by decide +kernel
theorem dX10_undo_16 : decode cX10_undo 16 = .ok (.dup, 1) := by decide +kernel
theorem dX10_undo_17 : decode cX10_undo 17 = .ok (.getfield 144, 3) := by decide +kernel
theorem dX10_undo_20 : decode cX10_undo 20 = .ok (.iconst 1, 1) := by decide +kernel
theorem dX10_undo_21 : decode cX10_undo 21 = .ok (.isub, 1) := by decide +kernel
theorem dX10_undo_22 : decode cX10_undo 22 = .ok (.putfield 144, 3) := by decide +kernel
theorem dX10_undo_25 : decode cX10_undo 25 = .ok (.iconst 0, 1) := by decide +kernel
theorem dX10_undo_26 : decode cX10_undo 26 = .ok (.istore_n 1, 1) := by decide +kernel
theorem dX10_undo_27 : decode cX10_undo 27 = .ok (.iload_n 1, 1) := by decide +kernel
theorem dX10_undo_28 : decode cX10_undo 28 = .ok (.bipush 60, 2) := by decide +kernel
theorem dX10_undo_30 : decode cX10_undo 30 = .ok (.if_icmp .ge 29, 3) := by decide +kernel
theorem dX10_undo_33 : decode cX10_undo 33 = .ok (.aload_n 0, 1) := by decide +kernel
theorem dX10_undo_34 : decode cX10_undo 34 = .ok (.getfield 7, 3) := by decide +kernel
theorem dX10_undo_37 : decode cX10_undo 37 = .ok (.iload_n 1, 1) := by decide +kernel
theorem dX10_undo_38 : decode cX10_undo 38 = .ok (.aload_n 0, 1) := by decide +kernel
theorem dX10_undo_39 : decode cX10_undo 39 = .ok (.getfield 16, 3) := by decide +kernel
theorem dX10_undo_42 : decode cX10_undo 42 = .ok (.bipush 60, 2) := by decide +kernel
theorem dX10_undo_44 : decode cX10_undo 44 = .ok (.aload_n 0, 1) := by decide +kernel
theorem dX10_undo_45 : decode cX10_undo 45 = .ok (.getfield 144, 3) := by decide +kernel
theorem dX10_undo_48 : decode cX10_undo 48 = .ok (.imul, 1) := by decide +kernel
theorem dX10_undo_49 : decode cX10_undo 49 = .ok (.iload_n 1, 1) := by decide +kernel
theorem dX10_undo_50 : decode cX10_undo 50 = .ok (.iadd, 1) := by decide +kernel
theorem dX10_undo_51 : decode cX10_undo 51 = .ok (.iaload, 1) := by decide +kernel
theorem dX10_undo_52 : decode cX10_undo 52 = .ok (.iastore, 1) := by decide +kernel
theorem dX10_undo_53 : decode cX10_undo 53 = .ok (.iinc 1 1, 3) := by decide +kernel
theorem dX10_undo_56 : decode cX10_undo 56 = .ok (.goto (-29), 3) := by decide +kernel
theorem dX10_undo_59 : decode cX10_undo 59 = .ok (.aload_n 0, 1) := by decide +kernel
theorem dX10_undo_60 : decode cX10_undo 60 = .ok (.getfield 144, 3) := by decide +kernel
theorem dX10_undo_63 : decode cX10_undo 63 = .ok (.ireturn, 1) := by decide +kernel
theorem dX10_areBeside_0 : decode cX10_areBeside 0 = .ok (.iload_n 1, 1) := by decide +kernel
theorem dX10_areBeside_1 : decode cX10_areBeside 1 = .ok (.aload_n 0, 1) := by decide +kernel
theorem dX10_areBeside_2 : decode cX10_areBeside 2 = .ok (.getfield 7, 3) := by decide +kernel
theorem dX10_areBeside_5 : decode cX10_areBeside 5 = .ok (.iconst 0, 1) := by decide +kernel
theorem dX10_areBeside_6 : decode cX10_areBeside 6 = .ok (.iaload, 1) := by decide +kernel
theorem dX10_areBeside_7 : decode cX10_areBeside 7 = .ok (.irem, 1) := by decide +kernel
theorem dX10_areBeside_8 : decode cX10_areBeside 8 = .ok (.iload_n 2, 1) := by decide +kernel
theorem dX10_areBeside_9 : decode cX10_areBeside 9 = .ok (.aload_n 0, 1) := by decide +kernel
theorem dX10_areBeside_10 : decode cX10_areBeside 10 = .ok (.getfield 7, 3) := by decide +kernel
theorem dX10_areBeside_13 : decode cX10_areBeside 13 = .ok (.iconst 0, 1) := by decide +kernel
theorem dX10_areBeside_14 : decode cX10_areBeside 14 = .ok (.iaload, 1) := by decide +kernel
theorem dX10_areBeside_15 : decode cX10_areBeside 15 = .ok (.irem, 1) := by decide +kernel
theorem dX10_areBeside_16 : decode cX10_areBeside 16 = .ok (.isub, 1) := by decide +kernel
theorem dX10_areBeside_17 : decode cX10_areBeside 17 = .ok (.istore_n 3, 1) := by decide +kernel
theorem dX10_areBeside_18 : decode cX10_areBeside 18 = .ok (.iload_n 1, 1) := by decide +kernel
theorem dX10_areBeside_19 : decode cX10_areBeside 19 = .ok (.aload_n 0, 1) := by decide +kernel
theorem dX10_areBeside_20 : decode cX10_areBeside 20 = .ok (.getfield 7, 3) := by decide +kernel
theorem dX10_areBeside_23 : decode cX10_areBeside 23 = .ok (.iconst 0, 1) := by decide +kernel
theorem dX10_areBeside_24 : decode cX10_areBeside 24 = .ok (.iaload, 1) := by decide +kernel
theorem dX10_areBeside_25 : decode cX10_areBeside 25 = .ok (.idiv, 1) := by decide +kernel
theorem dX10_areBeside_26 : decode cX10_areBeside 26 = .ok (.iload_n 2, 1) := by decide +kernel
theorem dX10_areBeside_27 : decode cX10_areBeside 27 = .ok (.aload_n 0, 1) := by decide +kernel
theorem dX10_areBeside_28 : decode cX10_areBeside 28 = .ok (.getfield 7, 3) := by decide +kernel
theorem dX10_areBeside_31 : decode cX10_areBeside 31 = .ok (.iconst 0, 1) := by decide +kernel
theorem dX10_areBeside_32 : decode cX10_areBeside 32 = .ok (.iaload, 1) := by decide +kernel
theorem dX10_areBeside_33 : decode cX10_areBeside 33 = .ok (.idiv, 1) := by decide +kernel
theorem dX10_areBeside_34 : decode cX10_areBeside 34 = .ok (.isub, 1) := by decide +kernel
theorem dX10_areBeside_35 : decode cX10_areBeside 35 = .ok (.istore 4, 2) := by decide +kernel
theorem dX10_areBeside_37 : decode cX10_areBeside 37 = .ok (.iload_n 3, 1) := by decide +kernel
theorem dX10_areBeside_38 : decode cX10_areBeside 38 = .ok (.iload_n 3, 1) := by decide +kernel
theorem dX10_areBeside_39 : decode cX10_areBeside 39 = .ok (.imul, 1) := by decide +kernel
theorem dX10_areBeside_40 : decode cX10_areBeside 40 = .ok (.iload 4, 2) := by decide +kernel
theorem dX10_areBeside_42 : decode cX10_areBeside 42 = .ok (.iload 4, 2) := by decide +kernel
theorem dX10_areBeside_44 : decode cX10_areBeside 44 = .ok (.imul, 1) := by decide +kernel
theorem dX10_areBeside_45 : decode cX10_areBeside 45 = .ok (.iadd, 1) := by decide +kernel
theorem dX10_areBeside_46 : decode cX10_areBeside 46 = .ok (.iconst 1, 1) := by decide +kernel
theorem dX10_areBeside_47 : decode cX10_areBeside 47 = .ok (.if_icmp .ne 7, 3) := by decide +kernel
theorem dX10_areBeside_50 : decode cX10_areBeside 50 = .ok (.iconst 1, 1) := by decide +kernel
theorem dX10_areBeside_51 : decode cX10_areBeside 51 = .ok (.goto 4, 3) := by decide +kernel
theorem dX10_areBeside_54 : decode cX10_areBeside 54 = .ok (.iconst 0, 1) := by decide +kernel
theorem dX10_areBeside_55 : decode cX10_areBeside 55 = .ok (.ireturn, 1) := by decide +kernel
theorem dX10_spreads_0 : decode cX10_spreads 0 = .ok (.iconst 1, 1) := by decide +kernel
theorem dX10_spreads_1 : decode cX10_spreads 1 = .ok (.istore_n 3, 1) := by decide +kernel
theorem dX10_spreads_2 : decode cX10_spreads 2 = .ok (.iload_n 3, 1) := by decide +kernel
theorem dX10_spreads_3 : decode cX10_spreads 3 = .ok (.ifCond .eq 102, 3) := by decide +kernel
theorem dX10_spreads_6 : decode cX10_spreads 6 = .ok (.iconst 0, 1) := by decide +kernel
theorem dX10_spreads_7 : decode cX10_spreads 7 = .ok (.istore_n 3, 1) := by decide +kernel
theorem dX10_spreads_8 : decode cX10_spreads 8 = .ok (.iconst 0, 1) := by decide +kernel
theorem dX10_spreads_9 : decode cX10_spreads 9 = .ok (.istore 4, 2) := by decide +kernel
theorem dX10_spreads_11 : decode cX10_spreads 11 = .ok (.iload 4, 2) := by decide +kernel
theorem dX10_spreads_13 : decode cX10_spreads 13 = .ok (.aload_n 0, 1) := by decide +kernel
theorem dX10_spreads_14 : decode cX10_spreads 14 = .ok (.invokevirtual 151, 3) := by decide +kernel
theorem dX10_spreads_17 : decode cX10_spreads 17 = .ok (.if_icmp .ge 85, 3) := by decide +kernel
theorem dX10_spreads_20 : decode cX10_spreads 20 = .ok (.iconst 0, 1) := by decide +kernel
theorem dX10_spreads_21 : decode cX10_spreads 21 = .ok (.istore 5, 2) := by decide +kernel
theorem dX10_spreads_23 : decode cX10_spreads 23 = .ok (.iload 5, 2) := by decide +kernel
theorem dX10_spreads_25 : decode cX10_spreads 25 = .ok (.aload_n 0, 1) := by decide +kernel
theorem dX10_spreads_26 : decode cX10_spreads 26 = .ok (.invokevirtual 151, 3) := by decide +kernel
theorem dX10_spreads_29 : decode cX10_spreads 29 = .ok (.if_icmp .ge 67, 3) := by decide +kernel
theorem dX10_spreads_32 : decode cX10_spreads 32 = .ok (.aload_n 0, 1) := by decide +kernel
theorem dX10_spreads_33 : decode cX10_spreads 33 = .ok (.getfield 33, 3) := by decide +kernel
theorem dX10_spreads_36 : decode cX10_spreads 36 = .ok (.iload 4, 2) := by decide +kernel
theorem dX10_spreads_38 : decode cX10_spreads 38 = .ok (.iaload, 1) := by decide +kernel
theorem dX10_spreads_39 : decode cX10_spreads 39 = .ok (.iload_n 1, 1) := by decide +kernel
theorem dX10_spreads_40 : decode cX10_spreads 40 = .ok (.if_icmp .ne 56, 3) := by decide +kernel
theorem dX10_spreads_43 : decode cX10_spreads 43 = .ok (.aload_n 0, 1) := by decide +kernel
theorem dX10_spreads_44 : decode cX10_spreads 44 = .ok (.getfield 33, 3) := by decide +kernel
theorem dX10_spreads_47 : decode cX10_spreads 47 = .ok (.iload 5, 2) := by decide +kernel
theorem dX10_spreads_49 : decode cX10_spreads 49 = .ok (.iaload, 1) := by decide +kernel
theorem dX10_spreads_50 : decode cX10_spreads 50 = .ok (.bipush (-9), 2) := by decide +kernel
theorem dX10_spreads_52 : decode cX10_spreads 52 = .ok (.if_icmp .ne 38, 3) := by decide +kernel
theorem dX10_spreads_55 : decode cX10_spreads 55 = .ok (.aload_n 0, 1) := by decide +kernel
theorem dX10_spreads_56 : decode cX10_spreads 56 = .ok (.getfield 7, 3) := by decide +kernel
theorem dX10_spreads_59 : decode cX10_spreads 59 = .ok (.bipush 12, 2) := by decide +kernel
theorem dX10_spreads_61 : decode cX10_spreads 61 = .ok (.iload 5, 2) := by decide +kernel
theorem dX10_spreads_63 : decode cX10_spreads 63 = .ok (.iadd, 1) := by decide +kernel
theorem dX10_spreads_64 : decode cX10_spreads 64 = .ok (.iaload, 1) := by decide +kernel
theorem dX10_spreads_65 : decode cX10_spreads 65 = .ok (.iload_n 2, 1) := by decide +kernel
theorem dX10_spreads_66 : decode cX10_spreads 66 = .ok (.if_icmp .ne 24, 3) := by decide +kernel
theorem dX10_spreads_69 : decode cX10_spreads 69 = .ok (.aload_n 0, 1) := by decide +kernel
theorem dX10_spreads_70 : decode cX10_spreads 70 = .ok (.iload 4, 2) := by decide +kernel
theorem dX10_spreads_72 : decode cX10_spreads 72 = .ok (.iload 5, 2) := by decide +kernel
theorem dX10_spreads_74 : decode cX10_spreads 74 = .ok (.invokevirtual 157, 3) := by decide +kernel
theorem dX10_spreads_77 : decode cX10_spreads 77 = .ok (.ifCond .eq 13, 3) := by decide +kernel
theorem dX10_spreads_80 : decode cX10_spreads 80 = .ok (.aload_n 0, 1) := by decide +kernel
theorem dX10_spreads_81 : decode cX10_spreads 81 = .ok (.getfield 33, 3) := by decide +kernel
theorem dX10_spreads_84 : decode cX10_spreads 84 = .ok (.iload 5, 2) := by decide +kernel
theorem dX10_spreads_86 : decode cX10_spreads 86 = .ok (.iload_n 1, 1) := by decide +kernel
theorem dX10_spreads_87 : decode cX10_spreads 87 = .ok (.iastore, 1) := by decide +kernel
theorem dX10_spreads_88 : decode cX10_spreads 88 = .ok (.iconst 1, 1) := by decide +kernel
theorem dX10_spreads_89 : decode cX10_spreads 89 = .ok (.istore_n 3, 1) := by decide +kernel
theorem dX10_spreads_90 : decode cX10_spreads 90 = .ok (.iinc 5 1, 3) := by decide +kernel
theorem dX10_spreads_93 : decode cX10_spreads 93 = .ok (.goto (-70), 3) := by decide +kernel
theorem dX10_spreads_96 : decode cX10_spreads 96 = .ok (.iinc 4 1, 3) := by decide +kernel
theorem dX10_spreads_99 : decode cX10_spreads 99 = .ok (.goto (-88), 3) := by decide +kernel
theorem dX10_spreads_102 : decode cX10_spreads 102 = .ok (.goto (-100), 3) := by decide +kernel
theorem dX10_spreads_105 : decode cX10_spreads 105 = .ok (.return_, 1) := by decide +kernel
theorem dX10_laysFields_0 : decode cX10_laysFields 0 = .ok (.iconst 0, 1) := by decide +kernel
theorem dX10_laysFields_1 : decode cX10_laysFields 1 = .ok (.istore_n 1, 1) := by decide +kernel
theorem dX10_laysFields_2 : decode cX10_laysFields 2 = .ok (.iload_n 1, 1) := by decide +kernel
theorem dX10_laysFields_3 : decode cX10_laysFields 3 = .ok (.bipush 48, 2) := by decide +kernel
theorem dX10_laysFields_5 : decode cX10_laysFields 5 = .ok (.if_icmp .ge 17, 3) := by decide +kernel
theorem dX10_laysFields_8 : decode cX10_laysFields 8 = .ok (.aload_n 0, 1) := by decide +kernel
theorem dX10_laysFields_9 : decode cX10_laysFields 9 = .ok (.getfield 33, 3) := by decide +kernel
theorem dX10_laysFields_12 : decode cX10_laysFields 12 = .ok (.iload_n 1, 1) := by decide +kernel
theorem dX10_laysFields_13 : decode cX10_laysFields 13 = .ok (.bipush (-9), 2) := by decide +kernel
theorem dX10_laysFields_15 : decode cX10_laysFields 15 = .ok (.iastore, 1) := by decide +kernel
theorem dX10_laysFields_16 : decode cX10_laysFields 16 = .ok (.iinc 1 1, 3) := by decide +kernel
theorem dX10_laysFields_19 : decode cX10_laysFields 19 = .ok (.goto (-17), 3) := by decide +kernel
theorem dX10_laysFields_22 : decode cX10_laysFields 22 = .ok (.aload_n 0, 1) := by decide +kernel
theorem dX10_laysFields_23 : decode cX10_laysFields 23 = .ok (.iconst 0, 1) := by decide +kernel
theorem dX10_laysFields_24 : decode cX10_laysFields 24 = .ok (.putfield 160, 3) := by decide +kernel
theorem dX10_laysFields_27 : decode cX10_laysFields 27 = .ok (.iconst 0, 1) := by decide +kernel
theorem dX10_laysFields_28 : decode cX10_laysFields 28 = .ok (.istore_n 1, 1) := by decide +kernel
theorem dX10_laysFields_29 : decode cX10_laysFields 29 = .ok (.iload_n 1, 1) := by decide +kernel
theorem dX10_laysFields_30 : decode cX10_laysFields 30 = .ok (.aload_n 0, 1) := by decide +kernel
theorem dX10_laysFields_31 : decode cX10_laysFields 31 = .ok (.invokevirtual 151, 3) := by decide +kernel
theorem dX10_laysFields_34 : decode cX10_laysFields 34 = .ok (.if_icmp .ge 69, 3) := by decide +kernel
theorem dX10_laysFields_37 : decode cX10_laysFields 37 = .ok (.aload_n 0, 1) := by decide +kernel
theorem dX10_laysFields_38 : decode cX10_laysFields 38 = .ok (.getfield 33, 3) := by decide +kernel
theorem dX10_laysFields_41 : decode cX10_laysFields 41 = .ok (.iload_n 1, 1) := by decide +kernel
theorem dX10_laysFields_42 : decode cX10_laysFields 42 = .ok (.iaload, 1) := by decide +kernel
theorem dX10_laysFields_43 : decode cX10_laysFields 43 = .ok (.bipush (-9), 2) := by decide +kernel
theorem dX10_laysFields_45 : decode cX10_laysFields 45 = .ok (.if_icmp .ne 52, 3) := by decide +kernel
theorem dX10_laysFields_48 : decode cX10_laysFields 48 = .ok (.aload_n 0, 1) := by decide +kernel
theorem dX10_laysFields_49 : decode cX10_laysFields 49 = .ok (.getfield 7, 3) := by decide +kernel
theorem dX10_laysFields_52 : decode cX10_laysFields 52 = .ok (.bipush 12, 2) := by decide +kernel
theorem dX10_laysFields_54 : decode cX10_laysFields 54 = .ok (.iload_n 1, 1) := by decide +kernel
theorem dX10_laysFields_55 : decode cX10_laysFields 55 = .ok (.iadd, 1) := by decide +kernel
theorem dX10_laysFields_56 : decode cX10_laysFields 56 = .ok (.iaload, 1) := by decide +kernel
theorem dX10_laysFields_57 : decode cX10_laysFields 57 = .ok (.ifCond .le 40, 3) := by decide +kernel
theorem dX10_laysFields_60 : decode cX10_laysFields 60 = .ok (.aload_n 0, 1) := by decide +kernel
theorem dX10_laysFields_61 : decode cX10_laysFields 61 = .ok (.getfield 33, 3) := by decide +kernel
theorem dX10_laysFields_64 : decode cX10_laysFields 64 = .ok (.iload_n 1, 1) := by decide +kernel
theorem dX10_laysFields_65 : decode cX10_laysFields 65 = .ok (.aload_n 0, 1) := by decide +kernel
theorem dX10_laysFields_66 : decode cX10_laysFields 66 = .ok (.getfield 160, 3) := by decide +kernel
theorem dX10_laysFields_69 : decode cX10_laysFields 69 = .ok (.iastore, 1) := by decide +kernel
theorem dX10_laysFields_70 : decode cX10_laysFields 70 = .ok (.aload_n 0, 1) := by decide +kernel
theorem dX10_laysFields_71 : decode cX10_laysFields 71 = .ok (.aload_n 0, 1) := by decide +kernel
theorem dX10_laysFields_72 : decode cX10_laysFields 72 = .ok (.getfield 160, 3) := by decide +kernel
theorem dX10_laysFields_75 : decode cX10_laysFields 75 = .ok (.aload_n 0, 1) := by decide +kernel
theorem dX10_laysFields_76 : decode cX10_laysFields 76 = .ok (.getfield 7, 3) := by decide +kernel
theorem dX10_laysFields_79 : decode cX10_laysFields 79 = .ok (.bipush 12, 2) := by decide +kernel
theorem dX10_laysFields_81 : decode cX10_laysFields 81 = .ok (.iload_n 1, 1) := by decide +kernel
theorem dX10_laysFields_82 : decode cX10_laysFields 82 = .ok (.iadd, 1) := by decide +kernel
theorem dX10_laysFields_83 : decode cX10_laysFields 83 = .ok (.iaload, 1) := by decide +kernel
theorem dX10_laysFields_84 : decode cX10_laysFields 84 = .ok (.invokevirtual 163, 3) := by decide +kernel
theorem dX10_laysFields_87 : decode cX10_laysFields 87 = .ok (.aload_n 0, 1) := by decide +kernel
theorem dX10_laysFields_88 : decode cX10_laysFields 88 = .ok (.dup, 1) := by decide +kernel
theorem dX10_laysFields_89 : decode cX10_laysFields 89 = .ok (.getfield 160, 3) := by decide +kernel
theorem dX10_laysFields_92 : decode cX10_laysFields 92 = .ok (.iconst 1, 1) := by decide +kernel
theorem dX10_laysFields_93 : decode cX10_laysFields 93 = .ok (.iadd, 1) := by decide +kernel
theorem dX10_laysFields_94 : decode cX10_laysFields 94 = .ok (.putfield 160, 3) := by decide +kernel
theorem dX10_laysFields_97 : decode cX10_laysFields 97 = .ok (.iinc 1 1, 3) := by decide +kernel
theorem dX10_laysFields_100 : decode cX10_laysFields 100 = .ok (.goto (-71), 3) := by decide +kernel
theorem dX10_laysFields_103 : decode cX10_laysFields 103 = .ok (.return_, 1) := by decide +kernel
theorem dX10_lowestOf_0 : decode cX10_lowestOf 0 = .ok (.iconst 0, 1) := by decide +kernel
theorem dX10_lowestOf_1 : decode cX10_lowestOf 1 = .ok (.istore_n 2, 1) := by decide +kernel
theorem dX10_lowestOf_2 : decode cX10_lowestOf 2 = .ok (.aload_n 0, 1) := by decide +kernel
theorem dX10_lowestOf_3 : decode cX10_lowestOf 3 = .ok (.getfield 33, 3) := by decide +kernel
theorem dX10_lowestOf_6 : decode cX10_lowestOf 6 = .ok (.iload_n 2, 1) := by decide +kernel
theorem dX10_lowestOf_7 : decode cX10_lowestOf 7 = .ok (.iaload, 1) := by decide +kernel
theorem dX10_lowestOf_8 : decode cX10_lowestOf 8 = .ok (.iload_n 1, 1) := by decide +kernel
theorem dX10_lowestOf_9 : decode cX10_lowestOf 9 = .ok (.if_icmp .eq 9, 3) := by decide +kernel
theorem dX10_lowestOf_12 : decode cX10_lowestOf 12 = .ok (.iinc 2 1, 3) := by decide +kernel
theorem dX10_lowestOf_15 : decode cX10_lowestOf 15 = .ok (.goto (-13), 3) := by decide +kernel
theorem dX10_lowestOf_18 : decode cX10_lowestOf 18 = .ok (.iload_n 2, 1) := by decide +kernel
theorem dX10_lowestOf_19 : decode cX10_lowestOf 19 = .ok (.ireturn, 1) := by decide +kernel
theorem dX10_colourOf_0 : decode cX10_colourOf 0 = .ok (.aload_n 0, 1) := by decide +kernel
theorem dX10_colourOf_1 : decode cX10_colourOf 1 = .ok (.getfield 7, 3) := by decide +kernel
theorem dX10_colourOf_4 : decode cX10_colourOf 4 = .ok (.bipush 12, 2) := by decide +kernel
theorem dX10_colourOf_6 : decode cX10_colourOf 6 = .ok (.aload_n 0, 1) := by decide +kernel
theorem dX10_colourOf_7 : decode cX10_colourOf 7 = .ok (.iload_n 1, 1) := by decide +kernel
theorem dX10_colourOf_8 : decode cX10_colourOf 8 = .ok (.invokevirtual 166, 3) := by decide +kernel
theorem dX10_colourOf_11 : decode cX10_colourOf 11 = .ok (.iadd, 1) := by decide +kernel
theorem dX10_colourOf_12 : decode cX10_colourOf 12 = .ok (.iaload, 1) := by decide +kernel
theorem dX10_colourOf_13 : decode cX10_colourOf 13 = .ok (.ireturn, 1) := by decide +kernel
theorem dX10_sizeOf_0 : decode cX10_sizeOf 0 = .ok (.iconst 0, 1) := by decide +kernel
theorem dX10_sizeOf_1 : decode cX10_sizeOf 1 = .ok (.istore_n 2, 1) := by decide +kernel
theorem dX10_sizeOf_2 : decode cX10_sizeOf 2 = .ok (.iconst 0, 1) := by decide +kernel
theorem dX10_sizeOf_3 : decode cX10_sizeOf 3 = .ok (.istore_n 3, 1) := by decide +kernel
theorem dX10_sizeOf_4 : decode cX10_sizeOf 4 = .ok (.iload_n 3, 1) := by decide +kernel
theorem dX10_sizeOf_5 : decode cX10_sizeOf 5 = .ok (.aload_n 0, 1) := by decide +kernel
theorem dX10_sizeOf_6 : decode cX10_sizeOf 6 = .ok (.invokevirtual 151, 3) := by decide +kernel
theorem dX10_sizeOf_9 : decode cX10_sizeOf 9 = .ok (.if_icmp .ge 27, 3) := by decide +kernel
theorem dX10_sizeOf_12 : decode cX10_sizeOf 12 = .ok (.iload_n 2, 1) := by decide +kernel
theorem dX10_sizeOf_13 : decode cX10_sizeOf 13 = .ok (.aload_n 0, 1) := by decide +kernel
theorem dX10_sizeOf_14 : decode cX10_sizeOf 14 = .ok (.getfield 33, 3) := by decide +kernel
theorem dX10_sizeOf_17 : decode cX10_sizeOf 17 = .ok (.iload_n 3, 1) := by decide +kernel
theorem dX10_sizeOf_18 : decode cX10_sizeOf 18 = .ok (.iaload, 1) := by decide +kernel
theorem dX10_sizeOf_19 : decode cX10_sizeOf 19 = .ok (.iload_n 1, 1) := by decide +kernel
theorem dX10_sizeOf_20 : decode cX10_sizeOf 20 = .ok (.if_icmp .ne 7, 3) := by decide +kernel
theorem dX10_sizeOf_23 : decode cX10_sizeOf 23 = .ok (.iconst 1, 1) := by decide +kernel
theorem dX10_sizeOf_24 : decode cX10_sizeOf 24 = .ok (.goto 4, 3) := by decide +kernel
theorem dX10_sizeOf_27 : decode cX10_sizeOf 27 = .ok (.iconst 0, 1) := by decide +kernel
theorem dX10_sizeOf_28 : decode cX10_sizeOf 28 = .ok (.iadd, 1) := by decide +kernel
theorem dX10_sizeOf_29 : decode cX10_sizeOf 29 = .ok (.istore_n 2, 1) := by decide +kernel
theorem dX10_sizeOf_30 : decode cX10_sizeOf 30 = .ok (.iinc 3 1, 3) := by decide +kernel
theorem dX10_sizeOf_33 : decode cX10_sizeOf 33 = .ok (.goto (-29), 3) := by decide +kernel
theorem dX10_sizeOf_36 : decode cX10_sizeOf 36 = .ok (.iload_n 2, 1) := by decide +kernel
theorem dX10_sizeOf_37 : decode cX10_sizeOf 37 = .ok (.ireturn, 1) := by decide +kernel
theorem dX10_cellAt_0 : decode cX10_cellAt 0 = .ok (.aload_n 0, 1) := by decide +kernel
theorem dX10_cellAt_1 : decode cX10_cellAt 1 = .ok (.getfield 169, 3) := by decide +kernel
theorem dX10_cellAt_4 : decode cX10_cellAt 4 = .ok (.ifCond .ne 16, 3) := by decide +kernel
theorem dX10_cellAt_7 : decode cX10_cellAt 7 = .ok (.aload_n 0, 1) := by decide +kernel
theorem dX10_cellAt_8 : decode cX10_cellAt 8 = .ok (.getfield 7, 3) := by decide +kernel
theorem dX10_cellAt_11 : decode cX10_cellAt 11 = .ok (.iconst 0, 1) := by decide +kernel
theorem dX10_cellAt_12 : decode cX10_cellAt 12 = .ok (.iaload, 1) := by decide +kernel
theorem dX10_cellAt_13 : decode cX10_cellAt 13 = .ok (.iload_n 1, 1) := by decide +kernel
theorem dX10_cellAt_14 : decode cX10_cellAt 14 = .ok (.imul, 1) := by decide +kernel
theorem dX10_cellAt_15 : decode cX10_cellAt 15 = .ok (.iload_n 2, 1) := by decide +kernel
theorem dX10_cellAt_16 : decode cX10_cellAt 16 = .ok (.iadd, 1) := by decide +kernel
theorem dX10_cellAt_17 : decode cX10_cellAt 17 = .ok (.goto 13, 3) := by decide +kernel
theorem dX10_cellAt_20 : decode cX10_cellAt 20 = .ok (.aload_n 0, 1) := by decide +kernel
theorem dX10_cellAt_21 : decode cX10_cellAt 21 = .ok (.getfield 7, 3) := by decide +kernel
theorem dX10_cellAt_24 : decode cX10_cellAt 24 = .ok (.iconst 0, 1) := by decide +kernel
theorem dX10_cellAt_25 : decode cX10_cellAt 25 = .ok (.iaload, 1) := by decide +kernel
theorem dX10_cellAt_26 : decode cX10_cellAt 26 = .ok (.iload_n 2, 1) := by decide +kernel
theorem dX10_cellAt_27 : decode cX10_cellAt 27 = .ok (.imul, 1) := by decide +kernel
theorem dX10_cellAt_28 : decode cX10_cellAt 28 = .ok (.iload_n 1, 1) := by decide +kernel
theorem dX10_cellAt_29 : decode cX10_cellAt 29 = .ok (.iadd, 1) := by decide +kernel
theorem dX10_cellAt_30 : decode cX10_cellAt 30 = .ok (.ireturn, 1) := by decide +kernel
theorem dX10_laysRows_0 : decode cX10_laysRows 0 = .ok (.aload_n 0, 1) := by decide +kernel
theorem dX10_laysRows_1 : decode cX10_laysRows 1 = .ok (.iload_n 2, 1) := by decide +kernel
theorem dX10_laysRows_2 : decode cX10_laysRows 2 = .ok (.putfield 169, 3) := by decide +kernel
theorem dX10_laysRows_5 : decode cX10_laysRows 5 = .ok (.aload_n 0, 1) := by decide +kernel
theorem dX10_laysRows_6 : decode cX10_laysRows 6 = .ok (.iconst 0, 1) := by decide +kernel
theorem dX10_laysRows_7 : decode cX10_laysRows 7 = .ok (.putfield 172, 3) := by decide +kernel
theorem dX10_laysRows_10 : decode cX10_laysRows 10 = .ok (.iload_n 2, 1) := by decide +kernel
theorem dX10_laysRows_11 : decode cX10_laysRows 11 = .ok (.ifCond .ne 12, 3) := by decide +kernel
theorem dX10_laysRows_14 : decode cX10_laysRows 14 = .ok (.aload_n 0, 1) := by decide +kernel
theorem dX10_laysRows_15 : decode cX10_laysRows 15 = .ok (.getfield 7, 3) := by decide +kernel
theorem dX10_laysRows_18 : decode cX10_laysRows 18 = .ok (.iconst 1, 1) := by decide +kernel
theorem dX10_laysRows_19 : decode cX10_laysRows 19 = .ok (.iaload, 1) := by decide +kernel
theorem dX10_laysRows_20 : decode cX10_laysRows 20 = .ok (.goto 9, 3) := by decide +kernel
theorem dX10_laysRows_23 : decode cX10_laysRows 23 = .ok (.aload_n 0, 1) := by decide +kernel
theorem dX10_laysRows_24 : decode cX10_laysRows 24 = .ok (.getfield 7, 3) := by decide +kernel
theorem dX10_laysRows_27 : decode cX10_laysRows 27 = .ok (.iconst 0, 1) := by decide +kernel
theorem dX10_laysRows_28 : decode cX10_laysRows 28 = .ok (.iaload, 1) := by decide +kernel
theorem dX10_laysRows_29 : decode cX10_laysRows 29 = .ok (.istore_n 3, 1) := by decide +kernel
theorem dX10_laysRows_30 : decode cX10_laysRows 30 = .ok (.iload_n 2, 1) := by decide +kernel
theorem dX10_laysRows_31 : decode cX10_laysRows 31 = .ok (.ifCond .ne 12, 3) := by decide +kernel
theorem dX10_laysRows_34 : decode cX10_laysRows 34 = .ok (.aload_n 0, 1) := by decide +kernel
theorem dX10_laysRows_35 : decode cX10_laysRows 35 = .ok (.getfield 7, 3) := by decide +kernel
theorem dX10_laysRows_38 : decode cX10_laysRows 38 = .ok (.iconst 0, 1) := by decide +kernel
theorem dX10_laysRows_39 : decode cX10_laysRows 39 = .ok (.iaload, 1) := by decide +kernel
theorem dX10_laysRows_40 : decode cX10_laysRows 40 = .ok (.goto 9, 3) := by decide +kernel
theorem dX10_laysRows_43 : decode cX10_laysRows 43 = .ok (.aload_n 0, 1) := by decide +kernel
theorem dX10_laysRows_44 : decode cX10_laysRows 44 = .ok (.getfield 7, 3) := by decide +kernel
theorem dX10_laysRows_47 : decode cX10_laysRows 47 = .ok (.iconst 1, 1) := by decide +kernel
theorem dX10_laysRows_48 : decode cX10_laysRows 48 = .ok (.iaload, 1) := by decide +kernel
theorem dX10_laysRows_49 : decode cX10_laysRows 49 = .ok (.istore 4, 2) := by decide +kernel
theorem dX10_laysRows_51 : decode cX10_laysRows 51 = .ok (.iconst 0, 1) := by decide +kernel
theorem dX10_laysRows_52 : decode cX10_laysRows 52 = .ok (.istore 5, 2) := by decide +kernel
theorem dX10_laysRows_54 : decode cX10_laysRows 54 = .ok (.iload 5, 2) := by decide +kernel
theorem dX10_laysRows_56 : decode cX10_laysRows 56 = .ok (.iload_n 3, 1) := by decide +kernel
theorem dX10_laysRows_57 : decode cX10_laysRows 57 = .ok (.if_icmp .ge 123, 3) := by decide +kernel
theorem dX10_laysRows_60 : decode cX10_laysRows 60 = .ok (.iconst 0, 1) := by decide +kernel
theorem dX10_laysRows_61 : decode cX10_laysRows 61 = .ok (.istore 6, 2) := by decide +kernel
theorem dX10_laysRows_63 : decode cX10_laysRows 63 = .ok (.iload 6, 2) := by decide +kernel
theorem dX10_laysRows_65 : decode cX10_laysRows 65 = .ok (.iload 4, 2) := by decide +kernel
theorem dX10_laysRows_67 : decode cX10_laysRows 67 = .ok (.if_icmp .ge 107, 3) := by decide +kernel
theorem dX10_laysRows_70 : decode cX10_laysRows 70 = .ok (.aload_n 0, 1) := by decide +kernel
theorem dX10_laysRows_71 : decode cX10_laysRows 71 = .ok (.getfield 33, 3) := by decide +kernel
theorem dX10_laysRows_74 : decode cX10_laysRows 74 = .ok (.aload_n 0, 1) := by decide +kernel
theorem dX10_laysRows_75 : decode cX10_laysRows 75 = .ok (.iload 5, 2) := by decide +kernel
theorem dX10_laysRows_77 : decode cX10_laysRows 77 = .ok (.iload 6, 2) := by decide +kernel
theorem dX10_laysRows_79 : decode cX10_laysRows 79 = .ok (.invokevirtual 175, 3) := by decide +kernel
theorem dX10_laysRows_82 : decode cX10_laysRows 82 = .ok (.iaload, 1) := by decide +kernel
theorem dX10_laysRows_83 : decode cX10_laysRows 83 = .ok (.iload_n 1, 1) := by decide +kernel
theorem dX10_laysRows_84 : decode cX10_laysRows 84 = .ok (.if_icmp .ne 84, 3) := by decide +kernel
theorem dX10_laysRows_87 : decode cX10_laysRows 87 = .ok (.iload 6, 2) := by decide +kernel
theorem dX10_laysRows_89 : decode cX10_laysRows 89 = .ok (.ifCond .le 26, 3) := by decide +kernel
theorem dX10_laysRows_92 : decode cX10_laysRows 92 = .ok (.aload_n 0, 1) := by decide +kernel
theorem dX10_laysRows_93 : decode cX10_laysRows 93 = .ok (.getfield 33, 3) := by decide +kernel
theorem dX10_laysRows_96 : decode cX10_laysRows 96 = .ok (.aload_n 0, 1) := by decide +kernel
theorem dX10_laysRows_97 : decode cX10_laysRows 97 = .ok (.iload 5, 2) := by decide +kernel
theorem dX10_laysRows_99 : decode cX10_laysRows 99 = .ok (.iload 6, 2) := by decide +kernel
theorem dX10_laysRows_101 : decode cX10_laysRows 101 = .ok (.iconst 1, 1) := by decide +kernel
theorem dX10_laysRows_102 : decode cX10_laysRows 102 = .ok (.isub, 1) := by decide +kernel
theorem dX10_laysRows_103 : decode cX10_laysRows 103 = .ok (.invokevirtual 175, 3) := by decide +kernel
theorem dX10_laysRows_106 : decode cX10_laysRows 106 = .ok (.iaload, 1) := by decide +kernel
theorem dX10_laysRows_107 : decode cX10_laysRows 107 = .ok (.iload_n 1, 1) := by decide +kernel
theorem dX10_laysRows_108 : decode cX10_laysRows 108 = .ok (.if_icmp .ne 7, 3) := by decide +kernel
theorem dX10_laysRows_111 : decode cX10_laysRows 111 = .ok (.iconst 1, 1) := by decide +kernel
theorem dX10_laysRows_112 : decode cX10_laysRows 112 = .ok (.goto 4, 3) := by decide +kernel
theorem dX10_laysRows_115 : decode cX10_laysRows 115 = .ok (.iconst 0, 1) := by decide +kernel
theorem dX10_laysRows_116 : decode cX10_laysRows 116 = .ok (.istore 7, 2) := by decide +kernel
theorem dX10_laysRows_118 : decode cX10_laysRows 118 = .ok (.iload 7, 2) := by decide +kernel
theorem dX10_laysRows_120 : decode cX10_laysRows 120 = .ok (.ifCond .ne 35, 3) := by decide +kernel
theorem dX10_laysRows_123 : decode cX10_laysRows 123 = .ok (.aload_n 0, 1) := by decide +kernel
theorem dX10_laysRows_124 : decode cX10_laysRows 124 = .ok (.getfield 36, 3) := by decide +kernel
theorem dX10_laysRows_127 : decode cX10_laysRows 127 = .ok (.aload_n 0, 1) := by decide +kernel
theorem dX10_laysRows_128 : decode cX10_laysRows 128 = .ok (.getfield 172, 3) := by decide +kernel
theorem dX10_laysRows_131 : decode cX10_laysRows 131 = .ok (.iload 5, 2) := by decide +kernel
theorem dX10_laysRows_133 : decode cX10_laysRows 133 = .ok (.iastore, 1) := by decide +kernel
theorem dX10_laysRows_134 : decode cX10_laysRows 134 = .ok (.aload_n 0, 1) := by decide +kernel
theorem dX10_laysRows_135 : decode cX10_laysRows 135 = .ok (.getfield 39, 3) := by decide +kernel
theorem dX10_laysRows_138 : decode cX10_laysRows 138 = .ok (.aload_n 0, 1) := by decide +kernel
theorem dX10_laysRows_139 : decode cX10_laysRows 139 = .ok (.getfield 172, 3) := by decide +kernel
theorem dX10_laysRows_142 : decode cX10_laysRows 142 = .ok (.iload 6, 2) := by decide +kernel
theorem dX10_laysRows_144 : decode cX10_laysRows 144 = .ok (.iastore, 1) := by decide +kernel
theorem dX10_laysRows_145 : decode cX10_laysRows 145 = .ok (.aload_n 0, 1) := by decide +kernel
theorem dX10_laysRows_146 : decode cX10_laysRows 146 = .ok (.dup, 1) := by decide +kernel
theorem dX10_laysRows_147 : decode cX10_laysRows 147 = .ok (.getfield 172, 3) := by decide +kernel
theorem dX10_laysRows_150 : decode cX10_laysRows 150 = .ok (.iconst 1, 1) := by decide +kernel
theorem dX10_laysRows_151 : decode cX10_laysRows 151 = .ok (.iadd, 1) := by decide +kernel
theorem dX10_laysRows_152 : decode cX10_laysRows 152 = .ok (.putfield 172, 3) := by decide +kernel
theorem dX10_laysRows_155 : decode cX10_laysRows 155 = .ok (.aload_n 0, 1) := by decide +kernel
theorem dX10_laysRows_156 : decode cX10_laysRows 156 = .ok (.getfield 42, 3) := by decide +kernel
theorem dX10_laysRows_159 : decode cX10_laysRows 159 = .ok (.aload_n 0, 1) := by decide +kernel
theorem dX10_laysRows_160 : decode cX10_laysRows 160 = .ok (.getfield 172, 3) := by decide +kernel
theorem dX10_laysRows_163 : decode cX10_laysRows 163 = .ok (.iconst 1, 1) := by decide +kernel
theorem dX10_laysRows_164 : decode cX10_laysRows 164 = .ok (.isub, 1) := by decide +kernel
theorem dX10_laysRows_165 : decode cX10_laysRows 165 = .ok (.iload 6, 2) := by decide +kernel
theorem dX10_laysRows_167 : decode cX10_laysRows 167 = .ok (.iastore, 1) := by decide +kernel
theorem dX10_laysRows_168 : decode cX10_laysRows 168 = .ok (.iinc 6 1, 3) := by decide +kernel
theorem dX10_laysRows_171 : decode cX10_laysRows 171 = .ok (.goto (-108), 3) := by decide +kernel
theorem dX10_laysRows_174 : decode cX10_laysRows 174 = .ok (.iinc 5 1, 3) := by decide +kernel
theorem dX10_laysRows_177 : decode cX10_laysRows 177 = .ok (.goto (-123), 3) := by decide +kernel
theorem dX10_laysRows_180 : decode cX10_laysRows 180 = .ok (.aload_n 0, 1) := by decide +kernel
theorem dX10_laysRows_181 : decode cX10_laysRows 181 = .ok (.invokevirtual 178, 3) := by decide +kernel
theorem dX10_laysRows_184 : decode cX10_laysRows 184 = .ok (.aload_n 0, 1) := by decide +kernel
theorem dX10_laysRows_185 : decode cX10_laysRows 185 = .ok (.invokevirtual 181, 3) := by decide +kernel
theorem dX10_laysRows_188 : decode cX10_laysRows 188 = .ok (.return_, 1) := by decide +kernel
theorem dX10_laysNexts_0 : decode cX10_laysNexts 0 = .ok (.iconst 0, 1) := by decide +kernel
theorem dX10_laysNexts_1 : decode cX10_laysNexts 1 = .ok (.istore_n 1, 1) := by decide +kernel
theorem dX10_laysNexts_2 : decode cX10_laysNexts 2 = .ok (.iload_n 1, 1) := by decide +kernel
theorem dX10_laysNexts_3 : decode cX10_laysNexts 3 = .ok (.aload_n 0, 1) := by decide +kernel
theorem dX10_laysNexts_4 : decode cX10_laysNexts 4 = .ok (.getfield 172, 3) := by decide +kernel
theorem dX10_laysNexts_7 : decode cX10_laysNexts 7 = .ok (.if_icmp .ge 23, 3) := by decide +kernel
theorem dX10_laysNexts_10 : decode cX10_laysNexts 10 = .ok (.aload_n 0, 1) := by decide +kernel
theorem dX10_laysNexts_11 : decode cX10_laysNexts 11 = .ok (.getfield 45, 3) := by decide +kernel
theorem dX10_laysNexts_14 : decode cX10_laysNexts 14 = .ok (.iload_n 1, 1) := by decide +kernel
theorem dX10_laysNexts_15 : decode cX10_laysNexts 15 = .ok (.iconst 0, 1) := by decide +kernel
theorem dX10_laysNexts_16 : decode cX10_laysNexts 16 = .ok (.iastore, 1) := by decide +kernel
theorem dX10_laysNexts_17 : decode cX10_laysNexts 17 = .ok (.aload_n 0, 1) := by decide +kernel
theorem dX10_laysNexts_18 : decode cX10_laysNexts 18 = .ok (.getfield 51, 3) := by decide +kernel
theorem dX10_laysNexts_21 : decode cX10_laysNexts 21 = .ok (.iload_n 1, 1) := by decide +kernel
theorem dX10_laysNexts_22 : decode cX10_laysNexts 22 = .ok (.iconst 0, 1) := by decide +kernel
theorem dX10_laysNexts_23 : decode cX10_laysNexts 23 = .ok (.iastore, 1) := by decide +kernel
theorem dX10_laysNexts_24 : decode cX10_laysNexts 24 = .ok (.iinc 1 1, 3) := by decide +kernel
theorem dX10_laysNexts_27 : decode cX10_laysNexts 27 = .ok (.goto (-25), 3) := by decide +kernel
theorem dX10_laysNexts_30 : decode cX10_laysNexts 30 = .ok (.iconst 0, 1) := by decide +kernel
theorem dX10_laysNexts_31 : decode cX10_laysNexts 31 = .ok (.istore_n 1, 1) := by decide +kernel
theorem dX10_laysNexts_32 : decode cX10_laysNexts 32 = .ok (.iload_n 1, 1) := by decide +kernel
theorem dX10_laysNexts_33 : decode cX10_laysNexts 33 = .ok (.aload_n 0, 1) := by decide +kernel
theorem dX10_laysNexts_34 : decode cX10_laysNexts 34 = .ok (.getfield 172, 3) := by decide +kernel
theorem dX10_laysNexts_37 : decode cX10_laysNexts 37 = .ok (.if_icmp .ge 101, 3) := by decide +kernel
theorem dX10_laysNexts_40 : decode cX10_laysNexts 40 = .ok (.iload_n 1, 1) := by decide +kernel
theorem dX10_laysNexts_41 : decode cX10_laysNexts 41 = .ok (.iconst 1, 1) := by decide +kernel
theorem dX10_laysNexts_42 : decode cX10_laysNexts 42 = .ok (.iadd, 1) := by decide +kernel
theorem dX10_laysNexts_43 : decode cX10_laysNexts 43 = .ok (.istore_n 2, 1) := by decide +kernel
theorem dX10_laysNexts_44 : decode cX10_laysNexts 44 = .ok (.iload_n 2, 1) := by decide +kernel
theorem dX10_laysNexts_45 : decode cX10_laysNexts 45 = .ok (.aload_n 0, 1) := by decide +kernel
theorem dX10_laysNexts_46 : decode cX10_laysNexts 46 = .ok (.getfield 172, 3) := by decide +kernel
theorem dX10_laysNexts_49 : decode cX10_laysNexts 49 = .ok (.if_icmp .ge 83, 3) := by decide +kernel
theorem dX10_laysNexts_52 : decode cX10_laysNexts 52 = .ok (.aload_n 0, 1) := by decide +kernel
theorem dX10_laysNexts_53 : decode cX10_laysNexts 53 = .ok (.getfield 36, 3) := by decide +kernel
theorem dX10_laysNexts_56 : decode cX10_laysNexts 56 = .ok (.iload_n 2, 1) := by decide +kernel
theorem dX10_laysNexts_57 : decode cX10_laysNexts 57 = .ok (.iaload, 1) := by decide +kernel
theorem dX10_laysNexts_58 : decode cX10_laysNexts 58 = .ok (.aload_n 0, 1) := by decide +kernel
theorem dX10_laysNexts_59 : decode cX10_laysNexts 59 = .ok (.getfield 36, 3) := by decide +kernel
theorem dX10_laysNexts_62 : decode cX10_laysNexts 62 = .ok (.iload_n 1, 1) := by decide +kernel
theorem dX10_laysNexts_63 : decode cX10_laysNexts 63 = .ok (.iaload, 1) := by decide +kernel
theorem dX10_laysNexts_64 : decode cX10_laysNexts 64 = .ok (.iconst 1, 1) := by decide +kernel
theorem dX10_laysNexts_65 : decode cX10_laysNexts 65 = .ok (.iadd, 1) := by decide +kernel
theorem dX10_laysNexts_66 : decode cX10_laysNexts 66 = .ok (.if_icmp .ne 60, 3) := by decide +kernel
theorem dX10_laysNexts_69 : decode cX10_laysNexts 69 = .ok (.aload_n 0, 1) := by decide +kernel
theorem dX10_laysNexts_70 : decode cX10_laysNexts 70 = .ok (.getfield 39, 3) := by decide +kernel
theorem dX10_laysNexts_73 : decode cX10_laysNexts 73 = .ok (.iload_n 2, 1) := by decide +kernel
theorem dX10_laysNexts_74 : decode cX10_laysNexts 74 = .ok (.iaload, 1) := by decide +kernel
theorem dX10_laysNexts_75 : decode cX10_laysNexts 75 = .ok (.aload_n 0, 1) := by decide +kernel
theorem dX10_laysNexts_76 : decode cX10_laysNexts 76 = .ok (.getfield 42, 3) := by decide +kernel
theorem dX10_laysNexts_79 : decode cX10_laysNexts 79 = .ok (.iload_n 1, 1) := by decide +kernel
theorem dX10_laysNexts_80 : decode cX10_laysNexts 80 = .ok (.iaload, 1) := by decide +kernel
theorem dX10_laysNexts_81 : decode cX10_laysNexts 81 = .ok (.if_icmp .gt 45, 3) := by decide +kernel
theorem dX10_laysNexts_84 : decode cX10_laysNexts 84 = .ok (.aload_n 0, 1) := by decide +kernel
theorem dX10_laysNexts_85 : decode cX10_laysNexts 85 = .ok (.getfield 39, 3) := by decide +kernel
theorem dX10_laysNexts_88 : decode cX10_laysNexts 88 = .ok (.iload_n 1, 1) := by decide +kernel
theorem dX10_laysNexts_89 : decode cX10_laysNexts 89 = .ok (.iaload, 1) := by decide +kernel
theorem dX10_laysNexts_90 : decode cX10_laysNexts 90 = .ok (.aload_n 0, 1) := by decide +kernel
theorem dX10_laysNexts_91 : decode cX10_laysNexts 91 = .ok (.getfield 42, 3) := by decide +kernel
theorem dX10_laysNexts_94 : decode cX10_laysNexts 94 = .ok (.iload_n 2, 1) := by decide +kernel
theorem dX10_laysNexts_95 : decode cX10_laysNexts 95 = .ok (.iaload, 1) := by decide +kernel
theorem dX10_laysNexts_96 : decode cX10_laysNexts 96 = .ok (.if_icmp .gt 30, 3) := by decide +kernel
theorem dX10_laysNexts_99 : decode cX10_laysNexts 99 = .ok (.aload_n 0, 1) := by decide +kernel
theorem dX10_laysNexts_100 : decode cX10_laysNexts 100 = .ok (.getfield 45, 3) := by decide +kernel
theorem dX10_laysNexts_103 : decode cX10_laysNexts 103 = .ok (.iload_n 1, 1) := by decide +kernel
theorem dX10_laysNexts_104 : decode cX10_laysNexts 104 = .ok (.dup2, 1) := by decide +kernel
theorem dX10_laysNexts_105 : decode cX10_laysNexts 105 = .ok (.iaload, 1) := by decide +kernel
theorem dX10_laysNexts_106 : decode cX10_laysNexts 106 = .ok (.iconst 1, 1) := by decide +kernel
theorem dX10_laysNexts_107 : decode cX10_laysNexts 107 = .ok (.iadd, 1) := by decide +kernel
theorem dX10_laysNexts_108 : decode cX10_laysNexts 108 = .ok (.iastore, 1) := by decide +kernel
theorem dX10_laysNexts_109 : decode cX10_laysNexts 109 = .ok (.aload_n 0, 1) := by decide +kernel
theorem dX10_laysNexts_110 : decode cX10_laysNexts 110 = .ok (.getfield 48, 3) := by decide +kernel
theorem dX10_laysNexts_113 : decode cX10_laysNexts 113 = .ok (.iload_n 1, 1) := by decide +kernel
theorem dX10_laysNexts_114 : decode cX10_laysNexts 114 = .ok (.iload_n 2, 1) := by decide +kernel
theorem dX10_laysNexts_115 : decode cX10_laysNexts 115 = .ok (.iastore, 1) := by decide +kernel
theorem dX10_laysNexts_116 : decode cX10_laysNexts 116 = .ok (.aload_n 0, 1) := by decide +kernel
theorem dX10_laysNexts_117 : decode cX10_laysNexts 117 = .ok (.getfield 51, 3) := by decide +kernel
theorem dX10_laysNexts_120 : decode cX10_laysNexts 120 = .ok (.iload_n 2, 1) := by decide +kernel
theorem dX10_laysNexts_121 : decode cX10_laysNexts 121 = .ok (.dup2, 1) := by decide +kernel
theorem dX10_laysNexts_122 : decode cX10_laysNexts 122 = .ok (.iaload, 1) := by decide +kernel
theorem dX10_laysNexts_123 : decode cX10_laysNexts 123 = .ok (.iconst 1, 1) := by decide +kernel
theorem dX10_laysNexts_124 : decode cX10_laysNexts 124 = .ok (.iadd, 1) := by decide +kernel
theorem dX10_laysNexts_125 : decode cX10_laysNexts 125 = .ok (.iastore, 1) := by decide +kernel
theorem dX10_laysNexts_126 : decode cX10_laysNexts 126 = .ok (.iinc 2 1, 3) := by decide +kernel
theorem dX10_laysNexts_129 : decode cX10_laysNexts 129 = .ok (.goto (-85), 3) := by decide +kernel
theorem dX10_laysNexts_132 : decode cX10_laysNexts 132 = .ok (.iinc 1 1, 3) := by decide +kernel
theorem dX10_laysNexts_135 : decode cX10_laysNexts 135 = .ok (.goto (-103), 3) := by decide +kernel
theorem dX10_laysNexts_138 : decode cX10_laysNexts 138 = .ok (.return_, 1) := by decide +kernel
theorem dX10_laysParts_0 : decode cX10_laysParts 0 = .ok (.aload_n 0, 1) := by decide +kernel
theorem dX10_laysParts_1 : decode cX10_laysParts 1 = .ok (.iconst 0, 1) := by decide +kernel
theorem dX10_laysParts_2 : decode cX10_laysParts 2 = .ok (.putfield 184, 3) := by decide +kernel
theorem dX10_laysParts_5 : decode cX10_laysParts 5 = .ok (.iconst 0, 1) := by decide +kernel
theorem dX10_laysParts_6 : decode cX10_laysParts 6 = .ok (.istore_n 1, 1) := by decide +kernel
theorem dX10_laysParts_7 : decode cX10_laysParts 7 = .ok (.iload_n 1, 1) := by decide +kernel
theorem dX10_laysParts_8 : decode cX10_laysParts 8 = .ok (.aload_n 0, 1) := by decide +kernel
theorem dX10_laysParts_9 : decode cX10_laysParts 9 = .ok (.getfield 172, 3) := by decide +kernel
theorem dX10_laysParts_12 : decode cX10_laysParts 12 = .ok (.if_icmp .ge 17, 3) := by decide +kernel
theorem dX10_laysParts_15 : decode cX10_laysParts 15 = .ok (.aload_n 0, 1) := by decide +kernel
theorem dX10_laysParts_16 : decode cX10_laysParts 16 = .ok (.getfield 54, 3) := by decide +kernel
theorem dX10_laysParts_19 : decode cX10_laysParts 19 = .ok (.iload_n 1, 1) := by decide +kernel
theorem dX10_laysParts_20 : decode cX10_laysParts 20 = .ok (.bipush (-9), 2) := by decide +kernel
theorem dX10_laysParts_22 : decode cX10_laysParts 22 = .ok (.iastore, 1) := by decide +kernel
theorem dX10_laysParts_23 : decode cX10_laysParts 23 = .ok (.iinc 1 1, 3) := by decide +kernel
theorem dX10_laysParts_26 : decode cX10_laysParts 26 = .ok (.goto (-19), 3) := by decide +kernel
theorem dX10_laysParts_29 : decode cX10_laysParts 29 = .ok (.iconst 0, 1) := by decide +kernel
theorem dX10_laysParts_30 : decode cX10_laysParts 30 = .ok (.istore_n 1, 1) := by decide +kernel
theorem dX10_laysParts_31 : decode cX10_laysParts 31 = .ok (.iload_n 1, 1) := by decide +kernel
theorem dX10_laysParts_32 : decode cX10_laysParts 32 = .ok (.aload_n 0, 1) := by decide +kernel
theorem dX10_laysParts_33 : decode cX10_laysParts 33 = .ok (.getfield 172, 3) := by decide +kernel
theorem dX10_laysParts_36 : decode cX10_laysParts 36 = .ok (.if_icmp .ge 121, 3) := by decide +kernel
theorem dX10_laysParts_39 : decode cX10_laysParts 39 = .ok (.aload_n 0, 1) := by decide +kernel
theorem dX10_laysParts_40 : decode cX10_laysParts 40 = .ok (.getfield 54, 3) := by decide +kernel
theorem dX10_laysParts_43 : decode cX10_laysParts 43 = .ok (.iload_n 1, 1) := by decide +kernel
theorem dX10_laysParts_44 : decode cX10_laysParts 44 = .ok (.iaload, 1) := by decide +kernel
theorem dX10_laysParts_45 : decode cX10_laysParts 45 = .ok (.bipush (-9), 2) := by decide +kernel
theorem dX10_laysParts_47 : decode cX10_laysParts 47 = .ok (.if_icmp .ne 43, 3) := by decide +kernel
theorem dX10_laysParts_50 : decode cX10_laysParts 50 = .ok (.aload_n 0, 1) := by decide +kernel
theorem dX10_laysParts_51 : decode cX10_laysParts 51 = .ok (.getfield 54, 3) := by decide +kernel
theorem dX10_laysParts_54 : decode cX10_laysParts 54 = .ok (.iload_n 1, 1) := by decide +kernel
theorem dX10_laysParts_55 : decode cX10_laysParts 55 = .ok (.aload_n 0, 1) := by decide +kernel
theorem dX10_laysParts_56 : decode cX10_laysParts 56 = .ok (.getfield 184, 3) := by decide +kernel
theorem dX10_laysParts_59 : decode cX10_laysParts 59 = .ok (.iastore, 1) := by decide +kernel
theorem dX10_laysParts_60 : decode cX10_laysParts 60 = .ok (.aload_n 0, 1) := by decide +kernel
theorem dX10_laysParts_61 : decode cX10_laysParts 61 = .ok (.getfield 60, 3) := by decide +kernel
theorem dX10_laysParts_64 : decode cX10_laysParts 64 = .ok (.aload_n 0, 1) := by decide +kernel
theorem dX10_laysParts_65 : decode cX10_laysParts 65 = .ok (.getfield 184, 3) := by decide +kernel
theorem dX10_laysParts_68 : decode cX10_laysParts 68 = .ok (.iload_n 1, 1) := by decide +kernel
theorem dX10_laysParts_69 : decode cX10_laysParts 69 = .ok (.iastore, 1) := by decide +kernel
theorem dX10_laysParts_70 : decode cX10_laysParts 70 = .ok (.aload_n 0, 1) := by decide +kernel
theorem dX10_laysParts_71 : decode cX10_laysParts 71 = .ok (.getfield 57, 3) := by decide +kernel
theorem dX10_laysParts_74 : decode cX10_laysParts 74 = .ok (.aload_n 0, 1) := by decide +kernel
theorem dX10_laysParts_75 : decode cX10_laysParts 75 = .ok (.getfield 184, 3) := by decide +kernel
theorem dX10_laysParts_78 : decode cX10_laysParts 78 = .ok (.iconst 0, 1) := by decide +kernel
theorem dX10_laysParts_79 : decode cX10_laysParts 79 = .ok (.iastore, 1) := by decide +kernel
theorem dX10_laysParts_80 : decode cX10_laysParts 80 = .ok (.aload_n 0, 1) := by decide +kernel
theorem dX10_laysParts_81 : decode cX10_laysParts 81 = .ok (.dup, 1) := by decide +kernel
theorem dX10_laysParts_82 : decode cX10_laysParts 82 = .ok (.getfield 184, 3) := by decide +kernel
theorem dX10_laysParts_85 : decode cX10_laysParts 85 = .ok (.iconst 1, 1) := by decide +kernel
theorem dX10_laysParts_86 : decode cX10_laysParts 86 = .ok (.iadd, 1) := by decide +kernel
theorem dX10_laysParts_87 : decode cX10_laysParts 87 = .ok (.putfield 184, 3) := by decide +kernel
theorem dX10_laysParts_90 : decode cX10_laysParts 90 = .ok (.aload_n 0, 1) := by decide +kernel
theorem dX10_laysParts_91 : decode cX10_laysParts 91 = .ok (.getfield 54, 3) := by decide +kernel
theorem dX10_laysParts_94 : decode cX10_laysParts 94 = .ok (.iload_n 1, 1) := by decide +kernel
theorem dX10_laysParts_95 : decode cX10_laysParts 95 = .ok (.iaload, 1) := by decide +kernel
theorem dX10_laysParts_96 : decode cX10_laysParts 96 = .ok (.istore_n 2, 1) := by decide +kernel
theorem dX10_laysParts_97 : decode cX10_laysParts 97 = .ok (.aload_n 0, 1) := by decide +kernel
theorem dX10_laysParts_98 : decode cX10_laysParts 98 = .ok (.getfield 57, 3) := by decide +kernel
theorem dX10_laysParts_101 : decode cX10_laysParts 101 = .ok (.iload_n 2, 1) := by decide +kernel
theorem dX10_laysParts_102 : decode cX10_laysParts 102 = .ok (.dup2, 1) := by decide +kernel
theorem dX10_laysParts_103 : decode cX10_laysParts 103 = .ok (.iaload, 1) := by decide +kernel
theorem dX10_laysParts_104 : decode cX10_laysParts 104 = .ok (.iconst 1, 1) := by decide +kernel
theorem dX10_laysParts_105 : decode cX10_laysParts 105 = .ok (.iadd, 1) := by decide +kernel
theorem dX10_laysParts_106 : decode cX10_laysParts 106 = .ok (.iastore, 1) := by decide +kernel
theorem dX10_laysParts_107 : decode cX10_laysParts 107 = .ok (.aload_n 0, 1) := by decide +kernel
theorem dX10_laysParts_108 : decode cX10_laysParts 108 = .ok (.getfield 63, 3) := by decide +kernel
theorem dX10_laysParts_111 : decode cX10_laysParts 111 = .ok (.iload_n 2, 1) := by decide +kernel
theorem dX10_laysParts_112 : decode cX10_laysParts 112 = .ok (.iload_n 1, 1) := by decide +kernel
theorem dX10_laysParts_113 : decode cX10_laysParts 113 = .ok (.iastore, 1) := by decide +kernel
theorem dX10_laysParts_114 : decode cX10_laysParts 114 = .ok (.aload_n 0, 1) := by decide +kernel
theorem dX10_laysParts_115 : decode cX10_laysParts 115 = .ok (.getfield 45, 3) := by decide +kernel
theorem dX10_laysParts_118 : decode cX10_laysParts 118 = .ok (.iload_n 1, 1) := by decide +kernel
theorem dX10_laysParts_119 : decode cX10_laysParts 119 = .ok (.iaload, 1) := by decide +kernel
theorem dX10_laysParts_120 : decode cX10_laysParts 120 = .ok (.iconst 1, 1) := by decide +kernel
theorem dX10_laysParts_121 : decode cX10_laysParts 121 = .ok (.if_icmp .ne 30, 3) := by decide +kernel
theorem dX10_laysParts_124 : decode cX10_laysParts 124 = .ok (.aload_n 0, 1) := by decide +kernel
theorem dX10_laysParts_125 : decode cX10_laysParts 125 = .ok (.getfield 51, 3) := by decide +kernel
theorem dX10_laysParts_128 : decode cX10_laysParts 128 = .ok (.aload_n 0, 1) := by decide +kernel
theorem dX10_laysParts_129 : decode cX10_laysParts 129 = .ok (.getfield 48, 3) := by decide +kernel
theorem dX10_laysParts_132 : decode cX10_laysParts 132 = .ok (.iload_n 1, 1) := by decide +kernel
theorem dX10_laysParts_133 : decode cX10_laysParts 133 = .ok (.iaload, 1) := by decide +kernel
theorem dX10_laysParts_134 : decode cX10_laysParts 134 = .ok (.iaload, 1) := by decide +kernel
theorem dX10_laysParts_135 : decode cX10_laysParts 135 = .ok (.iconst 1, 1) := by decide +kernel
theorem dX10_laysParts_136 : decode cX10_laysParts 136 = .ok (.if_icmp .ne 15, 3) := by decide +kernel
theorem dX10_laysParts_139 : decode cX10_laysParts 139 = .ok (.aload_n 0, 1) := by decide +kernel
theorem dX10_laysParts_140 : decode cX10_laysParts 140 = .ok (.getfield 54, 3) := by decide +kernel
theorem dX10_laysParts_143 : decode cX10_laysParts 143 = .ok (.aload_n 0, 1) := by decide +kernel
theorem dX10_laysParts_144 : decode cX10_laysParts 144 = .ok (.getfield 48, 3) := by decide +kernel
theorem dX10_laysParts_147 : decode cX10_laysParts 147 = .ok (.iload_n 1, 1) := by decide +kernel
theorem dX10_laysParts_148 : decode cX10_laysParts 148 = .ok (.iaload, 1) := by decide +kernel
theorem dX10_laysParts_149 : decode cX10_laysParts 149 = .ok (.iload_n 2, 1) := by decide +kernel
theorem dX10_laysParts_150 : decode cX10_laysParts 150 = .ok (.iastore, 1) := by decide +kernel
theorem dX10_laysParts_151 : decode cX10_laysParts 151 = .ok (.iinc 1 1, 3) := by decide +kernel
theorem dX10_laysParts_154 : decode cX10_laysParts 154 = .ok (.goto (-123), 3) := by decide +kernel
theorem dX10_laysParts_157 : decode cX10_laysParts 157 = .ok (.return_, 1) := by decide +kernel
theorem dX10_lengthOf_0 : decode cX10_lengthOf 0 = .ok (.aload_n 0, 1) := by decide +kernel
theorem dX10_lengthOf_1 : decode cX10_lengthOf 1 = .ok (.getfield 42, 3) := by decide +kernel
theorem dX10_lengthOf_4 : decode cX10_lengthOf 4 = .ok (.iload_n 1, 1) := by decide +kernel
theorem dX10_lengthOf_5 : decode cX10_lengthOf 5 = .ok (.iaload, 1) := by decide +kernel
theorem dX10_lengthOf_6 : decode cX10_lengthOf 6 = .ok (.aload_n 0, 1) := by decide +kernel
theorem dX10_lengthOf_7 : decode cX10_lengthOf 7 = .ok (.getfield 39, 3) := by decide +kernel
theorem dX10_lengthOf_10 : decode cX10_lengthOf 10 = .ok (.iload_n 1, 1) := by decide +kernel
theorem dX10_lengthOf_11 : decode cX10_lengthOf 11 = .ok (.iaload, 1) := by decide +kernel
theorem dX10_lengthOf_12 : decode cX10_lengthOf 12 = .ok (.isub, 1) := by decide +kernel
theorem dX10_lengthOf_13 : decode cX10_lengthOf 13 = .ok (.iconst 1, 1) := by decide +kernel
theorem dX10_lengthOf_14 : decode cX10_lengthOf 14 = .ok (.iadd, 1) := by decide +kernel
theorem dX10_lengthOf_15 : decode cX10_lengthOf 15 = .ok (.ireturn, 1) := by decide +kernel
theorem dX10_stitchesOf_0 : decode cX10_stitchesOf 0 = .ok (.aload_n 0, 1) := by decide +kernel
theorem dX10_stitchesOf_1 : decode cX10_stitchesOf 1 = .ok (.iload_n 1, 1) := by decide +kernel
theorem dX10_stitchesOf_2 : decode cX10_stitchesOf 2 = .ok (.invokevirtual 187, 3) := by decide +kernel
theorem dX10_stitchesOf_5 : decode cX10_stitchesOf 5 = .ok (.aload_n 0, 1) := by decide +kernel
theorem dX10_stitchesOf_6 : decode cX10_stitchesOf 6 = .ok (.getfield 7, 3) := by decide +kernel
theorem dX10_stitchesOf_9 : decode cX10_stitchesOf 9 = .ok (.iconst 2, 1) := by decide +kernel
theorem dX10_stitchesOf_10 : decode cX10_stitchesOf 10 = .ok (.iaload, 1) := by decide +kernel
theorem dX10_stitchesOf_11 : decode cX10_stitchesOf 11 = .ok (.iadd, 1) := by decide +kernel
theorem dX10_stitchesOf_12 : decode cX10_stitchesOf 12 = .ok (.iconst 1, 1) := by decide +kernel
theorem dX10_stitchesOf_13 : decode cX10_stitchesOf 13 = .ok (.isub, 1) := by decide +kernel
theorem dX10_stitchesOf_14 : decode cX10_stitchesOf 14 = .ok (.aload_n 0, 1) := by decide +kernel
theorem dX10_stitchesOf_15 : decode cX10_stitchesOf 15 = .ok (.getfield 7, 3) := by decide +kernel
theorem dX10_stitchesOf_18 : decode cX10_stitchesOf 18 = .ok (.iconst 2, 1) := by decide +kernel
theorem dX10_stitchesOf_19 : decode cX10_stitchesOf 19 = .ok (.iaload, 1) := by decide +kernel
theorem dX10_stitchesOf_20 : decode cX10_stitchesOf 20 = .ok (.idiv, 1) := by decide +kernel
theorem dX10_stitchesOf_21 : decode cX10_stitchesOf 21 = .ok (.ireturn, 1) := by decide +kernel
theorem dX10_startOf_0 : decode cX10_startOf 0 = .ok (.aload_n 0, 1) := by decide +kernel
theorem dX10_startOf_1 : decode cX10_startOf 1 = .ok (.aload_n 0, 1) := by decide +kernel
theorem dX10_startOf_2 : decode cX10_startOf 2 = .ok (.getfield 36, 3) := by decide +kernel
theorem dX10_startOf_5 : decode cX10_startOf 5 = .ok (.aload_n 0, 1) := by decide +kernel
theorem dX10_startOf_6 : decode cX10_startOf 6 = .ok (.getfield 60, 3) := by decide +kernel
theorem dX10_startOf_9 : decode cX10_startOf 9 = .ok (.iload_n 1, 1) := by decide +kernel
theorem dX10_startOf_10 : decode cX10_startOf 10 = .ok (.iaload, 1) := by decide +kernel
theorem dX10_startOf_11 : decode cX10_startOf 11 = .ok (.iaload, 1) := by decide +kernel
theorem dX10_startOf_12 : decode cX10_startOf 12 = .ok (.aload_n 0, 1) := by decide +kernel
theorem dX10_startOf_13 : decode cX10_startOf 13 = .ok (.getfield 39, 3) := by decide +kernel
theorem dX10_startOf_16 : decode cX10_startOf 16 = .ok (.aload_n 0, 1) := by decide +kernel
theorem dX10_startOf_17 : decode cX10_startOf 17 = .ok (.getfield 60, 3) := by decide +kernel
theorem dX10_startOf_20 : decode cX10_startOf 20 = .ok (.iload_n 1, 1) := by decide +kernel
theorem dX10_startOf_21 : decode cX10_startOf 21 = .ok (.iaload, 1) := by decide +kernel
theorem dX10_startOf_22 : decode cX10_startOf 22 = .ok (.iaload, 1) := by decide +kernel
theorem dX10_startOf_23 : decode cX10_startOf 23 = .ok (.invokevirtual 175, 3) := by decide +kernel
theorem dX10_startOf_26 : decode cX10_startOf 26 = .ok (.ireturn, 1) := by decide +kernel
theorem dX10_endOf_0 : decode cX10_endOf 0 = .ok (.aload_n 0, 1) := by decide +kernel
theorem dX10_endOf_1 : decode cX10_endOf 1 = .ok (.getfield 63, 3) := by decide +kernel
theorem dX10_endOf_4 : decode cX10_endOf 4 = .ok (.iload_n 1, 1) := by decide +kernel
theorem dX10_endOf_5 : decode cX10_endOf 5 = .ok (.iaload, 1) := by decide +kernel
theorem dX10_endOf_6 : decode cX10_endOf 6 = .ok (.istore_n 2, 1) := by decide +kernel
theorem dX10_endOf_7 : decode cX10_endOf 7 = .ok (.aload_n 0, 1) := by decide +kernel
theorem dX10_endOf_8 : decode cX10_endOf 8 = .ok (.aload_n 0, 1) := by decide +kernel
theorem dX10_endOf_9 : decode cX10_endOf 9 = .ok (.getfield 36, 3) := by decide +kernel
theorem dX10_endOf_12 : decode cX10_endOf 12 = .ok (.iload_n 2, 1) := by decide +kernel
theorem dX10_endOf_13 : decode cX10_endOf 13 = .ok (.iaload, 1) := by decide +kernel
theorem dX10_endOf_14 : decode cX10_endOf 14 = .ok (.aload_n 0, 1) := by decide +kernel
theorem dX10_endOf_15 : decode cX10_endOf 15 = .ok (.getfield 57, 3) := by decide +kernel
theorem dX10_endOf_18 : decode cX10_endOf 18 = .ok (.iload_n 1, 1) := by decide +kernel
theorem dX10_endOf_19 : decode cX10_endOf 19 = .ok (.iaload, 1) := by decide +kernel
theorem dX10_endOf_20 : decode cX10_endOf 20 = .ok (.iconst 2, 1) := by decide +kernel
theorem dX10_endOf_21 : decode cX10_endOf 21 = .ok (.irem, 1) := by decide +kernel
theorem dX10_endOf_22 : decode cX10_endOf 22 = .ok (.iconst 1, 1) := by decide +kernel
theorem dX10_endOf_23 : decode cX10_endOf 23 = .ok (.if_icmp .ne 12, 3) := by decide +kernel
theorem dX10_endOf_26 : decode cX10_endOf 26 = .ok (.aload_n 0, 1) := by decide +kernel
theorem dX10_endOf_27 : decode cX10_endOf 27 = .ok (.getfield 42, 3) := by decide +kernel
theorem dX10_endOf_30 : decode cX10_endOf 30 = .ok (.iload_n 2, 1) := by decide +kernel
theorem dX10_endOf_31 : decode cX10_endOf 31 = .ok (.iaload, 1) := by decide +kernel
theorem dX10_endOf_32 : decode cX10_endOf 32 = .ok (.goto 9, 3) := by decide +kernel
theorem dX10_endOf_35 : decode cX10_endOf 35 = .ok (.aload_n 0, 1) := by decide +kernel
theorem dX10_endOf_36 : decode cX10_endOf 36 = .ok (.getfield 39, 3) := by decide +kernel
theorem dX10_endOf_39 : decode cX10_endOf 39 = .ok (.iload_n 2, 1) := by decide +kernel
theorem dX10_endOf_40 : decode cX10_endOf 40 = .ok (.iaload, 1) := by decide +kernel
theorem dX10_endOf_41 : decode cX10_endOf 41 = .ok (.invokevirtual 175, 3) := by decide +kernel
theorem dX10_endOf_44 : decode cX10_endOf 44 = .ok (.ireturn, 1) := by decide +kernel
theorem dX10_stepsBetween_0 : decode cX10_stepsBetween 0 = .ok (.aload_n 0, 1) := by decide +kernel
theorem dX10_stepsBetween_1 : decode cX10_stepsBetween 1 = .ok (.getfield 33, 3) := by decide +kernel
theorem dX10_stepsBetween_4 : decode cX10_stepsBetween 4 = .ok (.iload_n 1, 1) := by decide +kernel
theorem dX10_stepsBetween_5 : decode cX10_stepsBetween 5 = .ok (.iaload, 1) := by decide +kernel
theorem dX10_stepsBetween_6 : decode cX10_stepsBetween 6 = .ok (.istore_n 3, 1) := by decide +kernel
theorem dX10_stepsBetween_7 : decode cX10_stepsBetween 7 = .ok (.iconst 0, 1) := by decide +kernel
theorem dX10_stepsBetween_8 : decode cX10_stepsBetween 8 = .ok (.istore 4, 2) := by decide +kernel
theorem dX10_stepsBetween_10 : decode cX10_stepsBetween 10 = .ok (.iload 4, 2) := by decide +kernel
theorem dX10_stepsBetween_12 : decode cX10_stepsBetween 12 = .ok (.bipush 48, 2) := by decide +kernel
theorem dX10_stepsBetween_14 : decode cX10_stepsBetween 14 = .ok (.if_icmp .ge 29, 3) := by decide +kernel
theorem dX10_stepsBetween_17 : decode cX10_stepsBetween 17 = .ok (.aload_n 0, 1) := by decide +kernel
theorem dX10_stepsBetween_18 : decode cX10_stepsBetween 18 = .ok (.getfield 66, 3) := by decide +kernel
theorem dX10_stepsBetween_21 : decode cX10_stepsBetween 21 = .ok (.iload 4, 2) := by decide +kernel
theorem dX10_stepsBetween_23 : decode cX10_stepsBetween 23 = .ok (.iload 4, 2) := by decide +kernel
theorem dX10_stepsBetween_25 : decode cX10_stepsBetween 25 = .ok (.iload_n 1, 1) := by decide +kernel
theorem dX10_stepsBetween_26 : decode cX10_stepsBetween 26 = .ok (.if_icmp .ne 7, 3) := by decide +kernel
theorem dX10_stepsBetween_29 : decode cX10_stepsBetween 29 = .ok (.iconst 0, 1) := by decide +kernel
theorem dX10_stepsBetween_30 : decode cX10_stepsBetween 30 = .ok (.goto 6, 3) := by decide +kernel
theorem dX10_stepsBetween_33 : decode cX10_stepsBetween 33 = .ok (.sipush 1000, 3) := by decide +kernel
theorem dX10_stepsBetween_36 : decode cX10_stepsBetween 36 = .ok (.iastore, 1) := by decide +kernel
theorem dX10_stepsBetween_37 : decode cX10_stepsBetween 37 = .ok (.iinc 4 1, 3) := by decide +kernel
theorem dX10_stepsBetween_40 : decode cX10_stepsBetween 40 = .ok (.goto (-30), 3) := by decide +kernel
theorem dX10_stepsBetween_43 : decode cX10_stepsBetween 43 = .ok (.iconst 0, 1) := by decide +kernel
theorem dX10_stepsBetween_44 : decode cX10_stepsBetween 44 = .ok (.istore 4, 2) := by decide +kernel
theorem dX10_stepsBetween_46 : decode cX10_stepsBetween 46 = .ok (.aload_n 0, 1) := by decide +kernel
theorem dX10_stepsBetween_47 : decode cX10_stepsBetween 47 = .ok (.getfield 66, 3) := by decide +kernel
theorem dX10_stepsBetween_50 : decode cX10_stepsBetween 50 = .ok (.iload_n 2, 1) := by decide +kernel
theorem dX10_stepsBetween_51 : decode cX10_stepsBetween 51 = .ok (.iaload, 1) := by decide +kernel
theorem dX10_stepsBetween_52 : decode cX10_stepsBetween 52 = .ok (.sipush 1000, 3) := by decide +kernel
theorem dX10_stepsBetween_55 : decode cX10_stepsBetween 55 = .ok (.if_icmp .ne 103, 3) := by decide +kernel
theorem dX10_stepsBetween_58 : decode cX10_stepsBetween 58 = .ok (.iconst 0, 1) := by decide +kernel
theorem dX10_stepsBetween_59 : decode cX10_stepsBetween 59 = .ok (.istore 5, 2) := by decide +kernel
theorem dX10_stepsBetween_61 : decode cX10_stepsBetween 61 = .ok (.iload 5, 2) := by decide +kernel
theorem dX10_stepsBetween_63 : decode cX10_stepsBetween 63 = .ok (.aload_n 0, 1) := by decide +kernel
theorem dX10_stepsBetween_64 : decode cX10_stepsBetween 64 = .ok (.invokevirtual 151, 3) := by decide +kernel
theorem dX10_stepsBetween_67 : decode cX10_stepsBetween 67 = .ok (.if_icmp .ge 85, 3) := by decide +kernel
theorem dX10_stepsBetween_70 : decode cX10_stepsBetween 70 = .ok (.iconst 0, 1) := by decide +kernel
theorem dX10_stepsBetween_71 : decode cX10_stepsBetween 71 = .ok (.istore 6, 2) := by decide +kernel
theorem dX10_stepsBetween_73 : decode cX10_stepsBetween 73 = .ok (.iload 6, 2) := by decide +kernel
theorem dX10_stepsBetween_75 : decode cX10_stepsBetween 75 = .ok (.aload_n 0, 1) := by decide +kernel
theorem dX10_stepsBetween_76 : decode cX10_stepsBetween 76 = .ok (.invokevirtual 151, 3) := by decide +kernel
theorem dX10_stepsBetween_79 : decode cX10_stepsBetween 79 = .ok (.if_icmp .ge 67, 3) := by decide +kernel
theorem dX10_stepsBetween_82 : decode cX10_stepsBetween 82 = .ok (.aload_n 0, 1) := by decide +kernel
theorem dX10_stepsBetween_83 : decode cX10_stepsBetween 83 = .ok (.getfield 66, 3) := by decide +kernel
theorem dX10_stepsBetween_86 : decode cX10_stepsBetween 86 = .ok (.iload 5, 2) := by decide +kernel
theorem dX10_stepsBetween_88 : decode cX10_stepsBetween 88 = .ok (.iaload, 1) := by decide +kernel
theorem dX10_stepsBetween_89 : decode cX10_stepsBetween 89 = .ok (.iload 4, 2) := by decide +kernel
theorem dX10_stepsBetween_91 : decode cX10_stepsBetween 91 = .ok (.if_icmp .ne 55, 3) := by decide +kernel
theorem dX10_stepsBetween_94 : decode cX10_stepsBetween 94 = .ok (.aload_n 0, 1) := by decide +kernel
theorem dX10_stepsBetween_95 : decode cX10_stepsBetween 95 = .ok (.getfield 66, 3) := by decide +kernel
theorem dX10_stepsBetween_98 : decode cX10_stepsBetween 98 = .ok (.iload 6, 2) := by decide +kernel
theorem dX10_stepsBetween_100 : decode cX10_stepsBetween 100 = .ok (.iaload, 1) := by decide +kernel
theorem dX10_stepsBetween_101 : decode cX10_stepsBetween 101 = .ok (.sipush 1000, 3) := by decide +kernel
theorem dX10_stepsBetween_104 : decode cX10_stepsBetween 104 = .ok (.if_icmp .ne 36, 3) := by decide +kernel
theorem dX10_stepsBetween_107 : decode cX10_stepsBetween 107 = .ok (.aload_n 0, 1) := by decide +kernel
theorem dX10_stepsBetween_108 : decode cX10_stepsBetween 108 = .ok (.getfield 33, 3) := by decide +kernel
theorem dX10_stepsBetween_111 : decode cX10_stepsBetween 111 = .ok (.iload 6, 2) := by decide +kernel
theorem dX10_stepsBetween_113 : decode cX10_stepsBetween 113 = .ok (.iaload, 1) := by decide +kernel
theorem dX10_stepsBetween_114 : decode cX10_stepsBetween 114 = .ok (.iload_n 3, 1) := by decide +kernel
theorem dX10_stepsBetween_115 : decode cX10_stepsBetween 115 = .ok (.if_icmp .ne 25, 3) := by decide +kernel
theorem dX10_stepsBetween_118 : decode cX10_stepsBetween 118 = .ok (.aload_n 0, 1) := by decide +kernel
theorem dX10_stepsBetween_119 : decode cX10_stepsBetween 119 = .ok (.iload 5, 2) := by decide +kernel
theorem dX10_stepsBetween_121 : decode cX10_stepsBetween 121 = .ok (.iload 6, 2) := by decide +kernel
theorem dX10_stepsBetween_123 : decode cX10_stepsBetween 123 = .ok (.invokevirtual 157, 3) := by decide +kernel
theorem dX10_stepsBetween_126 : decode cX10_stepsBetween 126 = .ok (.ifCond .eq 14, 3) := by decide +kernel
theorem dX10_stepsBetween_129 : decode cX10_stepsBetween 129 = .ok (.aload_n 0, 1) := by decide +kernel
theorem dX10_stepsBetween_130 : decode cX10_stepsBetween 130 = .ok (.getfield 66, 3) := by decide +kernel
theorem dX10_stepsBetween_133 : decode cX10_stepsBetween 133 = .ok (.iload 6, 2) := by decide +kernel
theorem dX10_stepsBetween_135 : decode cX10_stepsBetween 135 = .ok (.iload 4, 2) := by decide +kernel
theorem dX10_stepsBetween_137 : decode cX10_stepsBetween 137 = .ok (.iconst 1, 1) := by decide +kernel
theorem dX10_stepsBetween_138 : decode cX10_stepsBetween 138 = .ok (.iadd, 1) := by decide +kernel
theorem dX10_stepsBetween_139 : decode cX10_stepsBetween 139 = .ok (.iastore, 1) := by decide +kernel
theorem dX10_stepsBetween_140 : decode cX10_stepsBetween 140 = .ok (.iinc 6 1, 3) := by decide +kernel
theorem dX10_stepsBetween_143 : decode cX10_stepsBetween 143 = .ok (.goto (-70), 3) := by decide +kernel
theorem dX10_stepsBetween_146 : decode cX10_stepsBetween 146 = .ok (.iinc 5 1, 3) := by decide +kernel
theorem dX10_stepsBetween_149 : decode cX10_stepsBetween 149 = .ok (.goto (-88), 3) := by decide +kernel
theorem dX10_stepsBetween_152 : decode cX10_stepsBetween 152 = .ok (.iinc 4 1, 3) := by decide +kernel
theorem dX10_stepsBetween_155 : decode cX10_stepsBetween 155 = .ok (.goto (-109), 3) := by decide +kernel
theorem dX10_stepsBetween_158 : decode cX10_stepsBetween 158 = .ok (.aload_n 0, 1) := by decide +kernel
theorem dX10_stepsBetween_159 : decode cX10_stepsBetween 159 = .ok (.getfield 66, 3) := by decide +kernel
theorem dX10_stepsBetween_162 : decode cX10_stepsBetween 162 = .ok (.iload_n 2, 1) := by decide +kernel
theorem dX10_stepsBetween_163 : decode cX10_stepsBetween 163 = .ok (.iaload, 1) := by decide +kernel
theorem dX10_stepsBetween_164 : decode cX10_stepsBetween 164 = .ok (.ireturn, 1) := by decide +kernel
theorem dX10_hiddenOf_0 : decode cX10_hiddenOf 0 = .ok (.aload_n 0, 1) := by decide +kernel
theorem dX10_hiddenOf_1 : decode cX10_hiddenOf 1 = .ok (.aload_n 0, 1) := by decide +kernel
theorem dX10_hiddenOf_2 : decode cX10_hiddenOf 2 = .ok (.iload_n 1, 1) := by decide +kernel
theorem dX10_hiddenOf_3 : decode cX10_hiddenOf 3 = .ok (.invokevirtual 190, 3) := by decide +kernel
theorem dX10_hiddenOf_6 : decode cX10_hiddenOf 6 = .ok (.aload_n 0, 1) := by decide +kernel
theorem dX10_hiddenOf_7 : decode cX10_hiddenOf 7 = .ok (.iload_n 1, 1) := by decide +kernel
theorem dX10_hiddenOf_8 : decode cX10_hiddenOf 8 = .ok (.iconst 1, 1) := by decide +kernel
theorem dX10_hiddenOf_9 : decode cX10_hiddenOf 9 = .ok (.iadd, 1) := by decide +kernel
theorem dX10_hiddenOf_10 : decode cX10_hiddenOf 10 = .ok (.invokevirtual 193, 3) := by decide +kernel
theorem dX10_hiddenOf_13 : decode cX10_hiddenOf 13 = .ok (.invokevirtual 196, 3) := by decide +kernel
theorem dX10_hiddenOf_16 : decode cX10_hiddenOf 16 = .ok (.ireturn, 1) := by decide +kernel
theorem dX10_travel_0 : decode cX10_travel 0 = .ok (.iconst 0, 1) := by decide +kernel
theorem dX10_travel_1 : decode cX10_travel 1 = .ok (.istore_n 1, 1) := by decide +kernel
theorem dX10_travel_2 : decode cX10_travel 2 = .ok (.iconst 0, 1) := by decide +kernel
theorem dX10_travel_3 : decode cX10_travel 3 = .ok (.istore_n 2, 1) := by decide +kernel
theorem dX10_travel_4 : decode cX10_travel 4 = .ok (.iload_n 2, 1) := by decide +kernel
theorem dX10_travel_5 : decode cX10_travel 5 = .ok (.iconst 1, 1) := by decide +kernel
theorem dX10_travel_6 : decode cX10_travel 6 = .ok (.iadd, 1) := by decide +kernel
theorem dX10_travel_7 : decode cX10_travel 7 = .ok (.aload_n 0, 1) := by decide +kernel
theorem dX10_travel_8 : decode cX10_travel 8 = .ok (.getfield 184, 3) := by decide +kernel
theorem dX10_travel_11 : decode cX10_travel 11 = .ok (.if_icmp .ge 17, 3) := by decide +kernel
theorem dX10_travel_14 : decode cX10_travel 14 = .ok (.iload_n 1, 1) := by decide +kernel
theorem dX10_travel_15 : decode cX10_travel 15 = .ok (.aload_n 0, 1) := by decide +kernel
theorem dX10_travel_16 : decode cX10_travel 16 = .ok (.iload_n 2, 1) := by decide +kernel
theorem dX10_travel_17 : decode cX10_travel 17 = .ok (.invokevirtual 199, 3) := by decide +kernel
theorem dX10_travel_20 : decode cX10_travel 20 = .ok (.iadd, 1) := by decide +kernel
theorem dX10_travel_21 : decode cX10_travel 21 = .ok (.istore_n 1, 1) := by decide +kernel
theorem dX10_travel_22 : decode cX10_travel 22 = .ok (.iinc 2 1, 3) := by decide +kernel
theorem dX10_travel_25 : decode cX10_travel 25 = .ok (.goto (-21), 3) := by decide +kernel
theorem dX10_travel_28 : decode cX10_travel 28 = .ok (.iload_n 1, 1) := by decide +kernel
theorem dX10_travel_29 : decode cX10_travel 29 = .ok (.ireturn, 1) := by decide +kernel
theorem dX10_stitches_0 : decode cX10_stitches 0 = .ok (.iconst 0, 1) := by decide +kernel
theorem dX10_stitches_1 : decode cX10_stitches 1 = .ok (.istore_n 1, 1) := by decide +kernel
theorem dX10_stitches_2 : decode cX10_stitches 2 = .ok (.iconst 0, 1) := by decide +kernel
theorem dX10_stitches_3 : decode cX10_stitches 3 = .ok (.istore_n 2, 1) := by decide +kernel
theorem dX10_stitches_4 : decode cX10_stitches 4 = .ok (.iload_n 2, 1) := by decide +kernel
theorem dX10_stitches_5 : decode cX10_stitches 5 = .ok (.aload_n 0, 1) := by decide +kernel
theorem dX10_stitches_6 : decode cX10_stitches 6 = .ok (.getfield 172, 3) := by decide +kernel
theorem dX10_stitches_9 : decode cX10_stitches 9 = .ok (.if_icmp .ge 17, 3) := by decide +kernel
theorem dX10_stitches_12 : decode cX10_stitches 12 = .ok (.iload_n 1, 1) := by decide +kernel
theorem dX10_stitches_13 : decode cX10_stitches 13 = .ok (.aload_n 0, 1) := by decide +kernel
theorem dX10_stitches_14 : decode cX10_stitches 14 = .ok (.iload_n 2, 1) := by decide +kernel
theorem dX10_stitches_15 : decode cX10_stitches 15 = .ok (.invokevirtual 202, 3) := by decide +kernel
theorem dX10_stitches_18 : decode cX10_stitches 18 = .ok (.iadd, 1) := by decide +kernel
theorem dX10_stitches_19 : decode cX10_stitches 19 = .ok (.istore_n 1, 1) := by decide +kernel
theorem dX10_stitches_20 : decode cX10_stitches 20 = .ok (.iinc 2 1, 3) := by decide +kernel
theorem dX10_stitches_23 : decode cX10_stitches 23 = .ok (.goto (-19), 3) := by decide +kernel
theorem dX10_stitches_26 : decode cX10_stitches 26 = .ok (.iload_n 1, 1) := by decide +kernel
theorem dX10_stitches_27 : decode cX10_stitches 27 = .ok (.ireturn, 1) := by decide +kernel
theorem dX10_toldOf_0 : decode cX10_toldOf 0 = .ok (.aload_n 0, 1) := by decide +kernel
theorem dX10_toldOf_1 : decode cX10_toldOf 1 = .ok (.iload_n 1, 1) := by decide +kernel
theorem dX10_toldOf_2 : decode cX10_toldOf 2 = .ok (.iload_n 2, 1) := by decide +kernel
theorem dX10_toldOf_3 : decode cX10_toldOf 3 = .ok (.invokevirtual 205, 3) := by decide +kernel
theorem dX10_toldOf_6 : decode cX10_toldOf 6 = .ok (.iload_n 3, 1) := by decide +kernel
theorem dX10_toldOf_7 : decode cX10_toldOf 7 = .ok (.ifCond .ne 10, 3) := by decide +kernel
theorem dX10_toldOf_10 : decode cX10_toldOf 10 = .ok (.aload_n 0, 1) := by decide +kernel
theorem dX10_toldOf_11 : decode cX10_toldOf 11 = .ok (.getfield 172, 3) := by decide +kernel
theorem dX10_toldOf_14 : decode cX10_toldOf 14 = .ok (.goto 31, 3) := by decide +kernel
theorem dX10_toldOf_17 : decode cX10_toldOf 17 = .ok (.iload_n 3, 1) := by decide +kernel
theorem dX10_toldOf_18 : decode cX10_toldOf 18 = .ok (.iconst 1, 1) := by decide +kernel
theorem dX10_toldOf_19 : decode cX10_toldOf 19 = .ok (.if_icmp .ne 10, 3) := by decide +kernel
theorem dX10_toldOf_22 : decode cX10_toldOf 22 = .ok (.aload_n 0, 1) := by decide +kernel
theorem dX10_toldOf_23 : decode cX10_toldOf 23 = .ok (.getfield 184, 3) := by decide +kernel
theorem dX10_toldOf_26 : decode cX10_toldOf 26 = .ok (.goto 19, 3) := by decide +kernel
theorem dX10_toldOf_29 : decode cX10_toldOf 29 = .ok (.iload_n 3, 1) := by decide +kernel
theorem dX10_toldOf_30 : decode cX10_toldOf 30 = .ok (.iconst 2, 1) := by decide +kernel
theorem dX10_toldOf_31 : decode cX10_toldOf 31 = .ok (.if_icmp .ne 10, 3) := by decide +kernel
theorem dX10_toldOf_34 : decode cX10_toldOf 34 = .ok (.aload_n 0, 1) := by decide +kernel
theorem dX10_toldOf_35 : decode cX10_toldOf 35 = .ok (.invokevirtual 208, 3) := by decide +kernel
theorem dX10_toldOf_38 : decode cX10_toldOf 38 = .ok (.goto 7, 3) := by decide +kernel
theorem dX10_toldOf_41 : decode cX10_toldOf 41 = .ok (.aload_n 0, 1) := by decide +kernel
theorem dX10_toldOf_42 : decode cX10_toldOf 42 = .ok (.invokevirtual 211, 3) := by decide +kernel
theorem dX10_toldOf_45 : decode cX10_toldOf 45 = .ok (.ireturn, 1) := by decide +kernel
theorem dX10_bestWay_0 : decode cX10_bestWay 0 = .ok (.iconst 1, 1) := by decide +kernel
theorem dX10_bestWay_1 : decode cX10_bestWay 1 = .ok (.istore_n 2, 1) := by decide +kernel
theorem dX10_bestWay_2 : decode cX10_bestWay 2 = .ok (.iload_n 2, 1) := by decide +kernel
theorem dX10_bestWay_3 : decode cX10_bestWay 3 = .ok (.iconst 4, 1) := by decide +kernel
theorem dX10_bestWay_4 : decode cX10_bestWay 4 = .ok (.if_icmp .ge 44, 3) := by decide +kernel
theorem dX10_bestWay_7 : decode cX10_bestWay 7 = .ok (.aload_n 0, 1) := by decide +kernel
theorem dX10_bestWay_8 : decode cX10_bestWay 8 = .ok (.iload_n 1, 1) := by decide +kernel
theorem dX10_bestWay_9 : decode cX10_bestWay 9 = .ok (.iconst 0, 1) := by decide +kernel
theorem dX10_bestWay_10 : decode cX10_bestWay 10 = .ok (.iload_n 2, 1) := by decide +kernel
theorem dX10_bestWay_11 : decode cX10_bestWay 11 = .ok (.invokevirtual 214, 3) := by decide +kernel
theorem dX10_bestWay_14 : decode cX10_bestWay 14 = .ok (.istore_n 3, 1) := by decide +kernel
theorem dX10_bestWay_15 : decode cX10_bestWay 15 = .ok (.aload_n 0, 1) := by decide +kernel
theorem dX10_bestWay_16 : decode cX10_bestWay 16 = .ok (.iload_n 1, 1) := by decide +kernel
theorem dX10_bestWay_17 : decode cX10_bestWay 17 = .ok (.iconst 1, 1) := by decide +kernel
theorem dX10_bestWay_18 : decode cX10_bestWay 18 = .ok (.iload_n 2, 1) := by decide +kernel
theorem dX10_bestWay_19 : decode cX10_bestWay 19 = .ok (.invokevirtual 214, 3) := by decide +kernel
theorem dX10_bestWay_22 : decode cX10_bestWay 22 = .ok (.istore 4, 2) := by decide +kernel
theorem dX10_bestWay_24 : decode cX10_bestWay 24 = .ok (.iload_n 3, 1) := by decide +kernel
theorem dX10_bestWay_25 : decode cX10_bestWay 25 = .ok (.iload 4, 2) := by decide +kernel
theorem dX10_bestWay_27 : decode cX10_bestWay 27 = .ok (.if_icmp .eq 15, 3) := by decide +kernel
theorem dX10_bestWay_30 : decode cX10_bestWay 30 = .ok (.iload_n 3, 1) := by decide +kernel
theorem dX10_bestWay_31 : decode cX10_bestWay 31 = .ok (.iload 4, 2) := by decide +kernel
theorem dX10_bestWay_33 : decode cX10_bestWay 33 = .ok (.if_icmp .ge 7, 3) := by decide +kernel
theorem dX10_bestWay_36 : decode cX10_bestWay 36 = .ok (.iconst 0, 1) := by decide +kernel
theorem dX10_bestWay_37 : decode cX10_bestWay 37 = .ok (.goto 4, 3) := by decide +kernel
theorem dX10_bestWay_40 : decode cX10_bestWay 40 = .ok (.iconst 1, 1) := by decide +kernel
theorem dX10_bestWay_41 : decode cX10_bestWay 41 = .ok (.ireturn, 1) := by decide +kernel
theorem dX10_bestWay_42 : decode cX10_bestWay 42 = .ok (.iinc 2 1, 3) := by decide +kernel
theorem dX10_bestWay_45 : decode cX10_bestWay 45 = .ok (.goto (-43), 3) := by decide +kernel
theorem dX10_bestWay_48 : decode cX10_bestWay 48 = .ok (.iconst 0, 1) := by decide +kernel
theorem dX10_bestWay_49 : decode cX10_bestWay 49 = .ok (.ireturn, 1) := by decide +kernel
theorem dX10_covers_0 : decode cX10_covers 0 = .ok (.aload_n 0, 1) := by decide +kernel
theorem dX10_covers_1 : decode cX10_covers 1 = .ok (.getfield 7, 3) := by decide +kernel
theorem dX10_covers_4 : decode cX10_covers 4 = .ok (.iconst 4, 1) := by decide +kernel
theorem dX10_covers_5 : decode cX10_covers 5 = .ok (.aload_n 0, 1) := by decide +kernel
theorem dX10_covers_6 : decode cX10_covers 6 = .ok (.iload_n 1, 1) := by decide +kernel
theorem dX10_covers_7 : decode cX10_covers 7 = .ok (.invokevirtual 218, 3) := by decide +kernel
theorem dX10_covers_10 : decode cX10_covers 10 = .ok (.iadd, 1) := by decide +kernel
theorem dX10_covers_11 : decode cX10_covers 11 = .ok (.iaload, 1) := by decide +kernel
theorem dX10_covers_12 : decode cX10_covers 12 = .ok (.istore_n 2, 1) := by decide +kernel
theorem dX10_covers_13 : decode cX10_covers 13 = .ok (.aload_n 0, 1) := by decide +kernel
theorem dX10_covers_14 : decode cX10_covers 14 = .ok (.iload_n 1, 1) := by decide +kernel
theorem dX10_covers_15 : decode cX10_covers 15 = .ok (.iload_n 2, 1) := by decide +kernel
theorem dX10_covers_16 : decode cX10_covers 16 = .ok (.invokevirtual 205, 3) := by decide +kernel
theorem dX10_covers_19 : decode cX10_covers 19 = .ok (.iload_n 2, 1) := by decide +kernel
theorem dX10_covers_20 : decode cX10_covers 20 = .ok (.ifCond .ne 12, 3) := by decide +kernel
theorem dX10_covers_23 : decode cX10_covers 23 = .ok (.aload_n 0, 1) := by decide +kernel
theorem dX10_covers_24 : decode cX10_covers 24 = .ok (.getfield 7, 3) := by decide +kernel
theorem dX10_covers_27 : decode cX10_covers 27 = .ok (.iconst 0, 1) := by decide +kernel
theorem dX10_covers_28 : decode cX10_covers 28 = .ok (.iaload, 1) := by decide +kernel
theorem dX10_covers_29 : decode cX10_covers 29 = .ok (.goto 9, 3) := by decide +kernel
theorem dX10_covers_32 : decode cX10_covers 32 = .ok (.aload_n 0, 1) := by decide +kernel
theorem dX10_covers_33 : decode cX10_covers 33 = .ok (.getfield 7, 3) := by decide +kernel
theorem dX10_covers_36 : decode cX10_covers 36 = .ok (.iconst 1, 1) := by decide +kernel
theorem dX10_covers_37 : decode cX10_covers 37 = .ok (.iaload, 1) := by decide +kernel
theorem dX10_covers_38 : decode cX10_covers 38 = .ok (.istore_n 3, 1) := by decide +kernel
theorem dX10_covers_39 : decode cX10_covers 39 = .ok (.iconst 0, 1) := by decide +kernel
theorem dX10_covers_40 : decode cX10_covers 40 = .ok (.istore 4, 2) := by decide +kernel
theorem dX10_covers_42 : decode cX10_covers 42 = .ok (.iload 4, 2) := by decide +kernel
theorem dX10_covers_44 : decode cX10_covers 44 = .ok (.bipush 48, 2) := by decide +kernel
theorem dX10_covers_46 : decode cX10_covers 46 = .ok (.if_icmp .ge 17, 3) := by decide +kernel
theorem dX10_covers_49 : decode cX10_covers 49 = .ok (.aload_n 0, 1) := by decide +kernel
theorem dX10_covers_50 : decode cX10_covers 50 = .ok (.getfield 69, 3) := by decide +kernel
theorem dX10_covers_53 : decode cX10_covers 53 = .ok (.iload 4, 2) := by decide +kernel
theorem dX10_covers_55 : decode cX10_covers 55 = .ok (.iconst 0, 1) := by decide +kernel
theorem dX10_covers_56 : decode cX10_covers 56 = .ok (.bastore, 1) := by decide +kernel
theorem dX10_covers_57 : decode cX10_covers 57 = .ok (.iinc 4 1, 3) := by decide +kernel
theorem dX10_covers_60 : decode cX10_covers 60 = .ok (.goto (-18), 3) := by decide +kernel
theorem dX10_covers_63 : decode cX10_covers 63 = .ok (.iconst 0, 1) := by decide +kernel
theorem dX10_covers_64 : decode cX10_covers 64 = .ok (.istore 4, 2) := by decide +kernel
theorem dX10_covers_66 : decode cX10_covers 66 = .ok (.iload 4, 2) := by decide +kernel
theorem dX10_covers_68 : decode cX10_covers 68 = .ok (.aload_n 0, 1) := by decide +kernel
theorem dX10_covers_69 : decode cX10_covers 69 = .ok (.getfield 172, 3) := by decide +kernel
theorem dX10_covers_72 : decode cX10_covers 72 = .ok (.if_icmp .ge 81, 3) := by decide +kernel
theorem dX10_covers_75 : decode cX10_covers 75 = .ok (.aload_n 0, 1) := by decide +kernel
theorem dX10_covers_76 : decode cX10_covers 76 = .ok (.getfield 39, 3) := by decide +kernel
theorem dX10_covers_79 : decode cX10_covers 79 = .ok (.iload 4, 2) := by decide +kernel
theorem dX10_covers_81 : decode cX10_covers 81 = .ok (.iaload, 1) := by decide +kernel
theorem dX10_covers_82 : decode cX10_covers 82 = .ok (.aload_n 0, 1) := by decide +kernel
theorem dX10_covers_83 : decode cX10_covers 83 = .ok (.getfield 7, 3) := by decide +kernel
theorem dX10_covers_86 : decode cX10_covers 86 = .ok (.iconst 3, 1) := by decide +kernel
theorem dX10_covers_87 : decode cX10_covers 87 = .ok (.iaload, 1) := by decide +kernel
theorem dX10_covers_88 : decode cX10_covers 88 = .ok (.isub, 1) := by decide +kernel
theorem dX10_covers_89 : decode cX10_covers 89 = .ok (.istore 5, 2) := by decide +kernel
theorem dX10_covers_91 : decode cX10_covers 91 = .ok (.iload 5, 2) := by decide +kernel
theorem dX10_covers_93 : decode cX10_covers 93 = .ok (.aload_n 0, 1) := by decide +kernel
theorem dX10_covers_94 : decode cX10_covers 94 = .ok (.getfield 42, 3) := by decide +kernel
theorem dX10_covers_97 : decode cX10_covers 97 = .ok (.iload 4, 2) := by decide +kernel
theorem dX10_covers_99 : decode cX10_covers 99 = .ok (.iaload, 1) := by decide +kernel
theorem dX10_covers_100 : decode cX10_covers 100 = .ok (.aload_n 0, 1) := by decide +kernel
theorem dX10_covers_101 : decode cX10_covers 101 = .ok (.getfield 7, 3) := by decide +kernel
theorem dX10_covers_104 : decode cX10_covers 104 = .ok (.iconst 3, 1) := by decide +kernel
theorem dX10_covers_105 : decode cX10_covers 105 = .ok (.iaload, 1) := by decide +kernel
theorem dX10_covers_106 : decode cX10_covers 106 = .ok (.iadd, 1) := by decide +kernel
theorem dX10_covers_107 : decode cX10_covers 107 = .ok (.if_icmp .gt 40, 3) := by decide +kernel
theorem dX10_covers_110 : decode cX10_covers 110 = .ok (.iload 5, 2) := by decide +kernel
theorem dX10_covers_112 : decode cX10_covers 112 = .ok (.iconst 0, 1) := by decide +kernel
theorem dX10_covers_113 : decode cX10_covers 113 = .ok (.iload_n 3, 1) := by decide +kernel
theorem dX10_covers_114 : decode cX10_covers 114 = .ok (.iconst 1, 1) := by decide +kernel
theorem dX10_covers_115 : decode cX10_covers 115 = .ok (.isub, 1) := by decide +kernel
theorem dX10_covers_116 : decode cX10_covers 116 = .ok (.invokestatic 85, 3) := by decide +kernel
theorem dX10_covers_119 : decode cX10_covers 119 = .ok (.ifCond .eq 22, 3) := by decide +kernel
theorem dX10_covers_122 : decode cX10_covers 122 = .ok (.aload_n 0, 1) := by decide +kernel
theorem dX10_covers_123 : decode cX10_covers 123 = .ok (.getfield 69, 3) := by decide +kernel
theorem dX10_covers_126 : decode cX10_covers 126 = .ok (.aload_n 0, 1) := by decide +kernel
theorem dX10_covers_127 : decode cX10_covers 127 = .ok (.aload_n 0, 1) := by decide +kernel
theorem dX10_covers_128 : decode cX10_covers 128 = .ok (.getfield 36, 3) := by decide +kernel
theorem dX10_covers_131 : decode cX10_covers 131 = .ok (.iload 4, 2) := by decide +kernel
theorem dX10_covers_133 : decode cX10_covers 133 = .ok (.iaload, 1) := by decide +kernel
theorem dX10_covers_134 : decode cX10_covers 134 = .ok (.iload 5, 2) := by decide +kernel
theorem dX10_covers_136 : decode cX10_covers 136 = .ok (.invokevirtual 175, 3) := by decide +kernel
theorem dX10_covers_139 : decode cX10_covers 139 = .ok (.iconst 1, 1) := by decide +kernel
theorem dX10_covers_140 : decode cX10_covers 140 = .ok (.bastore, 1) := by decide +kernel
theorem dX10_covers_141 : decode cX10_covers 141 = .ok (.iinc 5 1, 3) := by decide +kernel
theorem dX10_covers_144 : decode cX10_covers 144 = .ok (.goto (-53), 3) := by decide +kernel
theorem dX10_covers_147 : decode cX10_covers 147 = .ok (.iinc 4 1, 3) := by decide +kernel
theorem dX10_covers_150 : decode cX10_covers 150 = .ok (.goto (-84), 3) := by decide +kernel
theorem dX10_covers_153 : decode cX10_covers 153 = .ok (.return_, 1) := by decide +kernel
theorem dX10_coveredBy_0 : decode cX10_coveredBy 0 = .ok (.aload_n 0, 1) := by decide +kernel
theorem dX10_coveredBy_1 : decode cX10_coveredBy 1 = .ok (.iload_n 1, 1) := by decide +kernel
theorem dX10_coveredBy_2 : decode cX10_coveredBy 2 = .ok (.invokevirtual 218, 3) := by decide +kernel
theorem dX10_coveredBy_5 : decode cX10_coveredBy 5 = .ok (.istore_n 3, 1) := by decide +kernel
theorem dX10_coveredBy_6 : decode cX10_coveredBy 6 = .ok (.aload_n 0, 1) := by decide +kernel
theorem dX10_coveredBy_7 : decode cX10_coveredBy 7 = .ok (.iload_n 1, 1) := by decide +kernel
theorem dX10_coveredBy_8 : decode cX10_coveredBy 8 = .ok (.invokevirtual 221, 3) := by decide +kernel
theorem dX10_coveredBy_11 : decode cX10_coveredBy 11 = .ok (.iconst 0, 1) := by decide +kernel
theorem dX10_coveredBy_12 : decode cX10_coveredBy 12 = .ok (.istore 4, 2) := by decide +kernel
theorem dX10_coveredBy_14 : decode cX10_coveredBy 14 = .ok (.iconst 0, 1) := by decide +kernel
theorem dX10_coveredBy_15 : decode cX10_coveredBy 15 = .ok (.istore 5, 2) := by decide +kernel
theorem dX10_coveredBy_17 : decode cX10_coveredBy 17 = .ok (.iload 5, 2) := by decide +kernel
theorem dX10_coveredBy_19 : decode cX10_coveredBy 19 = .ok (.aload_n 0, 1) := by decide +kernel
theorem dX10_coveredBy_20 : decode cX10_coveredBy 20 = .ok (.invokevirtual 151, 3) := by decide +kernel
theorem dX10_coveredBy_23 : decode cX10_coveredBy 23 = .ok (.if_icmp .ge 82, 3) := by decide +kernel
theorem dX10_coveredBy_26 : decode cX10_coveredBy 26 = .ok (.aload_n 0, 1) := by decide +kernel
theorem dX10_coveredBy_27 : decode cX10_coveredBy 27 = .ok (.getfield 7, 3) := by decide +kernel
theorem dX10_coveredBy_30 : decode cX10_coveredBy 30 = .ok (.bipush 12, 2) := by decide +kernel
theorem dX10_coveredBy_32 : decode cX10_coveredBy 32 = .ok (.iload 5, 2) := by decide +kernel
theorem dX10_coveredBy_34 : decode cX10_coveredBy 34 = .ok (.iadd, 1) := by decide +kernel
theorem dX10_coveredBy_35 : decode cX10_coveredBy 35 = .ok (.iaload, 1) := by decide +kernel
theorem dX10_coveredBy_36 : decode cX10_coveredBy 36 = .ok (.istore 6, 2) := by decide +kernel
theorem dX10_coveredBy_38 : decode cX10_coveredBy 38 = .ok (.iload_n 2, 1) := by decide +kernel
theorem dX10_coveredBy_39 : decode cX10_coveredBy 39 = .ok (.iconst 4, 1) := by decide +kernel
theorem dX10_coveredBy_40 : decode cX10_coveredBy 40 = .ok (.if_icmp .eq 27, 3) := by decide +kernel
theorem dX10_coveredBy_43 : decode cX10_coveredBy 43 = .ok (.iload_n 2, 1) := by decide +kernel
theorem dX10_coveredBy_44 : decode cX10_coveredBy 44 = .ok (.iconst 5, 1) := by decide +kernel
theorem dX10_coveredBy_45 : decode cX10_coveredBy 45 = .ok (.if_icmp .ne 17, 3) := by decide +kernel
theorem dX10_coveredBy_48 : decode cX10_coveredBy 48 = .ok (.iload 6, 2) := by decide +kernel
theorem dX10_coveredBy_50 : decode cX10_coveredBy 50 = .ok (.ifCond .le 21, 3) := by decide +kernel
theorem dX10_coveredBy_53 : decode cX10_coveredBy 53 = .ok (.iload 6, 2) := by decide +kernel
theorem dX10_coveredBy_55 : decode cX10_coveredBy 55 = .ok (.iload_n 3, 1) := by decide +kernel
theorem dX10_coveredBy_56 : decode cX10_coveredBy 56 = .ok (.if_icmp .eq 15, 3) := by decide +kernel
theorem dX10_coveredBy_59 : decode cX10_coveredBy 59 = .ok (.goto 8, 3) := by decide +kernel
theorem dX10_coveredBy_62 : decode cX10_coveredBy 62 = .ok (.iload 6, 2) := by decide +kernel
theorem dX10_coveredBy_64 : decode cX10_coveredBy 64 = .ok (.ifCond .ne 7, 3) := by decide +kernel
theorem dX10_coveredBy_67 : decode cX10_coveredBy 67 = .ok (.iconst 1, 1) := by decide +kernel
theorem dX10_coveredBy_68 : decode cX10_coveredBy 68 = .ok (.goto 4, 3) := by decide +kernel
theorem dX10_coveredBy_71 : decode cX10_coveredBy 71 = .ok (.iconst 0, 1) := by decide +kernel
theorem dX10_coveredBy_72 : decode cX10_coveredBy 72 = .ok (.istore 7, 2) := by decide +kernel
theorem dX10_coveredBy_74 : decode cX10_coveredBy 74 = .ok (.iload 4, 2) := by decide +kernel
theorem dX10_coveredBy_76 : decode cX10_coveredBy 76 = .ok (.aload_n 0, 1) := by decide +kernel
theorem dX10_coveredBy_77 : decode cX10_coveredBy 77 = .ok (.getfield 69, 3) := by decide +kernel
theorem dX10_coveredBy_80 : decode cX10_coveredBy 80 = .ok (.iload 5, 2) := by decide +kernel
theorem dX10_coveredBy_82 : decode cX10_coveredBy 82 = .ok (.baload, 1) := by decide +kernel
theorem dX10_coveredBy_83 : decode cX10_coveredBy 83 = .ok (.ifCond .eq 12, 3) := by decide +kernel
theorem dX10_coveredBy_86 : decode cX10_coveredBy 86 = .ok (.iload 7, 2) := by decide +kernel
theorem dX10_coveredBy_88 : decode cX10_coveredBy 88 = .ok (.ifCond .eq 7, 3) := by decide +kernel
theorem dX10_coveredBy_91 : decode cX10_coveredBy 91 = .ok (.iconst 1, 1) := by decide +kernel
theorem dX10_coveredBy_92 : decode cX10_coveredBy 92 = .ok (.goto 4, 3) := by decide +kernel
theorem dX10_coveredBy_95 : decode cX10_coveredBy 95 = .ok (.iconst 0, 1) := by decide +kernel
theorem dX10_coveredBy_96 : decode cX10_coveredBy 96 = .ok (.iadd, 1) := by decide +kernel
theorem dX10_coveredBy_97 : decode cX10_coveredBy 97 = .ok (.istore 4, 2) := by decide +kernel
theorem dX10_coveredBy_99 : decode cX10_coveredBy 99 = .ok (.iinc 5 1, 3) := by decide +kernel
theorem dX10_coveredBy_102 : decode cX10_coveredBy 102 = .ok (.goto (-85), 3) := by decide +kernel
theorem dX10_coveredBy_105 : decode cX10_coveredBy 105 = .ok (.iload 4, 2) := by decide +kernel
theorem dX10_coveredBy_107 : decode cX10_coveredBy 107 = .ok (.ireturn, 1) := by decide +kernel
theorem dX10_touch_0 : decode cX10_touch 0 = .ok (.iconst 0, 1) := by decide +kernel
theorem dX10_touch_1 : decode cX10_touch 1 = .ok (.istore_n 3, 1) := by decide +kernel
theorem dX10_touch_2 : decode cX10_touch 2 = .ok (.iconst 0, 1) := by decide +kernel
theorem dX10_touch_3 : decode cX10_touch 3 = .ok (.istore 4, 2) := by decide +kernel
theorem dX10_touch_5 : decode cX10_touch 5 = .ok (.iload 4, 2) := by decide +kernel
theorem dX10_touch_7 : decode cX10_touch 7 = .ok (.aload_n 0, 1) := by decide +kernel
theorem dX10_touch_8 : decode cX10_touch 8 = .ok (.invokevirtual 151, 3) := by decide +kernel
theorem dX10_touch_11 : decode cX10_touch 11 = .ok (.if_icmp .ge 70, 3) := by decide +kernel
theorem dX10_touch_14 : decode cX10_touch 14 = .ok (.iconst 0, 1) := by decide +kernel
theorem dX10_touch_15 : decode cX10_touch 15 = .ok (.istore 5, 2) := by decide +kernel
theorem dX10_touch_17 : decode cX10_touch 17 = .ok (.iload 5, 2) := by decide +kernel
theorem dX10_touch_19 : decode cX10_touch 19 = .ok (.aload_n 0, 1) := by decide +kernel
theorem dX10_touch_20 : decode cX10_touch 20 = .ok (.invokevirtual 151, 3) := by decide +kernel
theorem dX10_touch_23 : decode cX10_touch 23 = .ok (.if_icmp .ge 52, 3) := by decide +kernel
theorem dX10_touch_26 : decode cX10_touch 26 = .ok (.iload_n 3, 1) := by decide +kernel
theorem dX10_touch_27 : decode cX10_touch 27 = .ok (.ifCond .ne 36, 3) := by decide +kernel
theorem dX10_touch_30 : decode cX10_touch 30 = .ok (.aload_n 0, 1) := by decide +kernel
theorem dX10_touch_31 : decode cX10_touch 31 = .ok (.getfield 33, 3) := by decide +kernel
theorem dX10_touch_34 : decode cX10_touch 34 = .ok (.iload 4, 2) := by decide +kernel
theorem dX10_touch_36 : decode cX10_touch 36 = .ok (.iaload, 1) := by decide +kernel
theorem dX10_touch_37 : decode cX10_touch 37 = .ok (.iload_n 1, 1) := by decide +kernel
theorem dX10_touch_38 : decode cX10_touch 38 = .ok (.if_icmp .ne 29, 3) := by decide +kernel
theorem dX10_touch_41 : decode cX10_touch 41 = .ok (.aload_n 0, 1) := by decide +kernel
theorem dX10_touch_42 : decode cX10_touch 42 = .ok (.getfield 33, 3) := by decide +kernel
theorem dX10_touch_45 : decode cX10_touch 45 = .ok (.iload 5, 2) := by decide +kernel
theorem dX10_touch_47 : decode cX10_touch 47 = .ok (.iaload, 1) := by decide +kernel
theorem dX10_touch_48 : decode cX10_touch 48 = .ok (.iload_n 2, 1) := by decide +kernel
theorem dX10_touch_49 : decode cX10_touch 49 = .ok (.if_icmp .ne 18, 3) := by decide +kernel
theorem dX10_touch_52 : decode cX10_touch 52 = .ok (.aload_n 0, 1) := by decide +kernel
theorem dX10_touch_53 : decode cX10_touch 53 = .ok (.iload 4, 2) := by decide +kernel
theorem dX10_touch_55 : decode cX10_touch 55 = .ok (.iload 5, 2) := by decide +kernel
theorem dX10_touch_57 : decode cX10_touch 57 = .ok (.invokevirtual 157, 3) := by decide +kernel
theorem dX10_touch_60 : decode cX10_touch 60 = .ok (.ifCond .eq 7, 3) := by decide +kernel
theorem dX10_touch_63 : decode cX10_touch 63 = .ok (.iconst 1, 1) := by decide +kernel
theorem dX10_touch_64 : decode cX10_touch 64 = .ok (.goto 4, 3) := by decide +kernel
theorem dX10_touch_67 : decode cX10_touch 67 = .ok (.iconst 0, 1) := by decide +kernel
theorem dX10_touch_68 : decode cX10_touch 68 = .ok (.istore_n 3, 1) := by decide +kernel
theorem dX10_touch_69 : decode cX10_touch 69 = .ok (.iinc 5 1, 3) := by decide +kernel
theorem dX10_touch_72 : decode cX10_touch 72 = .ok (.goto (-55), 3) := by decide +kernel
theorem dX10_touch_75 : decode cX10_touch 75 = .ok (.iinc 4 1, 3) := by decide +kernel
theorem dX10_touch_78 : decode cX10_touch 78 = .ok (.goto (-73), 3) := by decide +kernel
theorem dX10_touch_81 : decode cX10_touch 81 = .ok (.iload_n 3, 1) := by decide +kernel
theorem dX10_touch_82 : decode cX10_touch 82 = .ok (.ifCond .eq 12, 3) := by decide +kernel
theorem dX10_touch_85 : decode cX10_touch 85 = .ok (.iload_n 1, 1) := by decide +kernel
theorem dX10_touch_86 : decode cX10_touch 86 = .ok (.iload_n 2, 1) := by decide +kernel
theorem dX10_touch_87 : decode cX10_touch 87 = .ok (.if_icmp .eq 7, 3) := by decide +kernel
theorem dX10_touch_90 : decode cX10_touch 90 = .ok (.iconst 1, 1) := by decide +kernel
theorem dX10_touch_91 : decode cX10_touch 91 = .ok (.goto 4, 3) := by decide +kernel
theorem dX10_touch_94 : decode cX10_touch 94 = .ok (.iconst 0, 1) := by decide +kernel
theorem dX10_touch_95 : decode cX10_touch 95 = .ok (.ireturn, 1) := by decide +kernel
theorem dX10_touching_0 : decode cX10_touching 0 = .ok (.iconst 0, 1) := by decide +kernel
theorem dX10_touching_1 : decode cX10_touching 1 = .ok (.istore_n 2, 1) := by decide +kernel
theorem dX10_touching_2 : decode cX10_touching 2 = .ok (.iconst 0, 1) := by decide +kernel
theorem dX10_touching_3 : decode cX10_touching 3 = .ok (.istore_n 3, 1) := by decide +kernel
theorem dX10_touching_4 : decode cX10_touching 4 = .ok (.iload_n 3, 1) := by decide +kernel
theorem dX10_touching_5 : decode cX10_touching 5 = .ok (.aload_n 0, 1) := by decide +kernel
theorem dX10_touching_6 : decode cX10_touching 6 = .ok (.getfield 160, 3) := by decide +kernel
theorem dX10_touching_9 : decode cX10_touching 9 = .ok (.if_icmp .ge 26, 3) := by decide +kernel
theorem dX10_touching_12 : decode cX10_touching 12 = .ok (.iload_n 2, 1) := by decide +kernel
theorem dX10_touching_13 : decode cX10_touching 13 = .ok (.aload_n 0, 1) := by decide +kernel
theorem dX10_touching_14 : decode cX10_touching 14 = .ok (.iload_n 1, 1) := by decide +kernel
theorem dX10_touching_15 : decode cX10_touching 15 = .ok (.iload_n 3, 1) := by decide +kernel
theorem dX10_touching_16 : decode cX10_touching 16 = .ok (.invokevirtual 225, 3) := by decide +kernel
theorem dX10_touching_19 : decode cX10_touching 19 = .ok (.ifCond .eq 7, 3) := by decide +kernel
theorem dX10_touching_22 : decode cX10_touching 22 = .ok (.iconst 1, 1) := by decide +kernel
theorem dX10_touching_23 : decode cX10_touching 23 = .ok (.goto 4, 3) := by decide +kernel
theorem dX10_touching_26 : decode cX10_touching 26 = .ok (.iconst 0, 1) := by decide +kernel
theorem dX10_touching_27 : decode cX10_touching 27 = .ok (.iadd, 1) := by decide +kernel
theorem dX10_touching_28 : decode cX10_touching 28 = .ok (.istore_n 2, 1) := by decide +kernel
theorem dX10_touching_29 : decode cX10_touching 29 = .ok (.iinc 3 1, 3) := by decide +kernel
theorem dX10_touching_32 : decode cX10_touching 32 = .ok (.goto (-28), 3) := by decide +kernel
theorem dX10_touching_35 : decode cX10_touching 35 = .ok (.iload_n 2, 1) := by decide +kernel
theorem dX10_touching_36 : decode cX10_touching 36 = .ok (.ireturn, 1) := by decide +kernel
theorem dX10_cell_0 : decode cX10_cell 0 = .ok (.aload_n 0, 1) := by decide +kernel
theorem dX10_cell_1 : decode cX10_cell 1 = .ok (.iconst 0, 1) := by decide +kernel
theorem dX10_cell_2 : decode cX10_cell 2 = .ok (.putfield 81, 3) := by decide +kernel
theorem dX10_cell_5 : decode cX10_cell 5 = .ok (.aload_n 0, 1) := by decide +kernel
theorem dX10_cell_6 : decode cX10_cell 6 = .ok (.iload_n 1, 1) := by decide +kernel
theorem dX10_cell_7 : decode cX10_cell 7 = .ok (.iload_n 2, 1) := by decide +kernel
theorem dX10_cell_8 : decode cX10_cell 8 = .ok (.invokevirtual 147, 3) := by decide +kernel
theorem dX10_cell_11 : decode cX10_cell 11 = .ok (.ifCond .eq 12, 3) := by decide +kernel
theorem dX10_cell_14 : decode cX10_cell 14 = .ok (.iload_n 3, 1) := by decide +kernel
theorem dX10_cell_15 : decode cX10_cell 15 = .ok (.iconst 0, 1) := by decide +kernel
theorem dX10_cell_16 : decode cX10_cell 16 = .ok (.iconst 1, 1) := by decide +kernel
theorem dX10_cell_17 : decode cX10_cell 17 = .ok (.invokestatic 85, 3) := by decide +kernel
theorem dX10_cell_20 : decode cX10_cell 20 = .ok (.ifCond .ne 5, 3) := by decide +kernel
theorem dX10_cell_23 : decode cX10_cell 23 = .ok (.iconst (-1), 1) := by decide +kernel
theorem dX10_cell_24 : decode cX10_cell 24 = .ok (.ireturn, 1) := by decide +kernel
theorem dX10_cell_25 : decode cX10_cell 25 = .ok (.aload_n 0, 1) := by decide +kernel
theorem dX10_cell_26 : decode cX10_cell 26 = .ok (.invokevirtual 228, 3) := by decide +kernel
theorem dX10_cell_29 : decode cX10_cell 29 = .ok (.iload_n 3, 1) := by decide +kernel
theorem dX10_cell_30 : decode cX10_cell 30 = .ok (.ifCond .ne 24, 3) := by decide +kernel
theorem dX10_cell_33 : decode cX10_cell 33 = .ok (.aload_n 0, 1) := by decide +kernel
theorem dX10_cell_34 : decode cX10_cell 34 = .ok (.getfield 7, 3) := by decide +kernel
theorem dX10_cell_37 : decode cX10_cell 37 = .ok (.bipush 12, 2) := by decide +kernel
theorem dX10_cell_39 : decode cX10_cell 39 = .ok (.aload_n 0, 1) := by decide +kernel
theorem dX10_cell_40 : decode cX10_cell 40 = .ok (.getfield 7, 3) := by decide +kernel
theorem dX10_cell_43 : decode cX10_cell 43 = .ok (.iconst 0, 1) := by decide +kernel
theorem dX10_cell_44 : decode cX10_cell 44 = .ok (.iaload, 1) := by decide +kernel
theorem dX10_cell_45 : decode cX10_cell 45 = .ok (.iload_n 2, 1) := by decide +kernel
theorem dX10_cell_46 : decode cX10_cell 46 = .ok (.imul, 1) := by decide +kernel
theorem dX10_cell_47 : decode cX10_cell 47 = .ok (.iadd, 1) := by decide +kernel
theorem dX10_cell_48 : decode cX10_cell 48 = .ok (.iload_n 1, 1) := by decide +kernel
theorem dX10_cell_49 : decode cX10_cell 49 = .ok (.iadd, 1) := by decide +kernel
theorem dX10_cell_50 : decode cX10_cell 50 = .ok (.iaload, 1) := by decide +kernel
theorem dX10_cell_51 : decode cX10_cell 51 = .ok (.goto 18, 3) := by decide +kernel
theorem dX10_cell_54 : decode cX10_cell 54 = .ok (.aload_n 0, 1) := by decide +kernel
theorem dX10_cell_55 : decode cX10_cell 55 = .ok (.getfield 33, 3) := by decide +kernel
theorem dX10_cell_58 : decode cX10_cell 58 = .ok (.aload_n 0, 1) := by decide +kernel
theorem dX10_cell_59 : decode cX10_cell 59 = .ok (.getfield 7, 3) := by decide +kernel
theorem dX10_cell_62 : decode cX10_cell 62 = .ok (.iconst 0, 1) := by decide +kernel
theorem dX10_cell_63 : decode cX10_cell 63 = .ok (.iaload, 1) := by decide +kernel
theorem dX10_cell_64 : decode cX10_cell 64 = .ok (.iload_n 2, 1) := by decide +kernel
theorem dX10_cell_65 : decode cX10_cell 65 = .ok (.imul, 1) := by decide +kernel
theorem dX10_cell_66 : decode cX10_cell 66 = .ok (.iload_n 1, 1) := by decide +kernel
theorem dX10_cell_67 : decode cX10_cell 67 = .ok (.iadd, 1) := by decide +kernel
theorem dX10_cell_68 : decode cX10_cell 68 = .ok (.iaload, 1) := by decide +kernel
theorem dX10_cell_69 : decode cX10_cell 69 = .ok (.ireturn, 1) := by decide +kernel
theorem dX10_isField_0 : decode cX10_isField 0 = .ok (.aload_n 0, 1) := by decide +kernel
theorem dX10_isField_1 : decode cX10_isField 1 = .ok (.invokevirtual 228, 3) := by decide +kernel
theorem dX10_isField_4 : decode cX10_isField 4 = .ok (.iload_n 1, 1) := by decide +kernel
theorem dX10_isField_5 : decode cX10_isField 5 = .ok (.iconst 0, 1) := by decide +kernel
theorem dX10_isField_6 : decode cX10_isField 6 = .ok (.aload_n 0, 1) := by decide +kernel
theorem dX10_isField_7 : decode cX10_isField 7 = .ok (.getfield 160, 3) := by decide +kernel
theorem dX10_isField_10 : decode cX10_isField 10 = .ok (.iconst 1, 1) := by decide +kernel
theorem dX10_isField_11 : decode cX10_isField 11 = .ok (.isub, 1) := by decide +kernel
theorem dX10_isField_12 : decode cX10_isField 12 = .ok (.invokestatic 85, 3) := by decide +kernel
theorem dX10_isField_15 : decode cX10_isField 15 = .ok (.ireturn, 1) := by decide +kernel
theorem dX10_field_0 : decode cX10_field 0 = .ok (.aload_n 0, 1) := by decide +kernel
theorem dX10_field_1 : decode cX10_field 1 = .ok (.iconst 0, 1) := by decide +kernel
theorem dX10_field_2 : decode cX10_field 2 = .ok (.putfield 81, 3) := by decide +kernel
theorem dX10_field_5 : decode cX10_field 5 = .ok (.aload_n 0, 1) := by decide +kernel
theorem dX10_field_6 : decode cX10_field 6 = .ok (.iload_n 1, 1) := by decide +kernel
theorem dX10_field_7 : decode cX10_field 7 = .ok (.invokevirtual 231, 3) := by decide +kernel
theorem dX10_field_10 : decode cX10_field 10 = .ok (.ifCond .ne 5, 3) := by decide +kernel
theorem dX10_field_13 : decode cX10_field 13 = .ok (.iconst (-1), 1) := by decide +kernel
theorem dX10_field_14 : decode cX10_field 14 = .ok (.ireturn, 1) := by decide +kernel
theorem dX10_field_15 : decode cX10_field 15 = .ok (.iload_n 2, 1) := by decide +kernel
theorem dX10_field_16 : decode cX10_field 16 = .ok (.tableswitch 85 0 7 #[48, 54, 60, 66, 72, 72, 72, 79], 48) := by decide +kernel
theorem dX10_field_64 : decode cX10_field 64 = .ok (.aload_n 0, 1) := by decide +kernel
theorem dX10_field_65 : decode cX10_field 65 = .ok (.iload_n 1, 1) := by decide +kernel
theorem dX10_field_66 : decode cX10_field 66 = .ok (.invokevirtual 218, 3) := by decide +kernel
theorem dX10_field_69 : decode cX10_field 69 = .ok (.ireturn, 1) := by decide +kernel
theorem dX10_field_70 : decode cX10_field 70 = .ok (.aload_n 0, 1) := by decide +kernel
theorem dX10_field_71 : decode cX10_field 71 = .ok (.iload_n 1, 1) := by decide +kernel
theorem dX10_field_72 : decode cX10_field 72 = .ok (.invokevirtual 235, 3) := by decide +kernel
theorem dX10_field_75 : decode cX10_field 75 = .ok (.ireturn, 1) := by decide +kernel
theorem dX10_field_76 : decode cX10_field 76 = .ok (.aload_n 0, 1) := by decide +kernel
theorem dX10_field_77 : decode cX10_field 77 = .ok (.iload_n 1, 1) := by decide +kernel
theorem dX10_field_78 : decode cX10_field 78 = .ok (.invokevirtual 166, 3) := by decide +kernel
theorem dX10_field_81 : decode cX10_field 81 = .ok (.ireturn, 1) := by decide +kernel
theorem dX10_field_82 : decode cX10_field 82 = .ok (.aload_n 0, 1) := by decide +kernel
theorem dX10_field_83 : decode cX10_field 83 = .ok (.iload_n 1, 1) := by decide +kernel
theorem dX10_field_84 : decode cX10_field 84 = .ok (.invokevirtual 238, 3) := by decide +kernel
theorem dX10_field_87 : decode cX10_field 87 = .ok (.ireturn, 1) := by decide +kernel
theorem dX10_field_88 : decode cX10_field 88 = .ok (.aload_n 0, 1) := by decide +kernel
theorem dX10_field_89 : decode cX10_field 89 = .ok (.iload_n 1, 1) := by decide +kernel
theorem dX10_field_90 : decode cX10_field 90 = .ok (.iload_n 2, 1) := by decide +kernel
theorem dX10_field_91 : decode cX10_field 91 = .ok (.invokevirtual 241, 3) := by decide +kernel
theorem dX10_field_94 : decode cX10_field 94 = .ok (.ireturn, 1) := by decide +kernel
theorem dX10_field_95 : decode cX10_field 95 = .ok (.aload_n 0, 1) := by decide +kernel
theorem dX10_field_96 : decode cX10_field 96 = .ok (.iload_n 1, 1) := by decide +kernel
theorem dX10_field_97 : decode cX10_field 97 = .ok (.invokevirtual 244, 3) := by decide +kernel
theorem dX10_field_100 : decode cX10_field 100 = .ok (.ireturn, 1) := by decide +kernel
theorem dX10_field_101 : decode cX10_field 101 = .ok (.iconst (-1), 1) := by decide +kernel
theorem dX10_field_102 : decode cX10_field 102 = .ok (.ireturn, 1) := by decide +kernel
theorem dX10_sewn_0 : decode cX10_sewn 0 = .ok (.aload_n 0, 1) := by decide +kernel
theorem dX10_sewn_1 : decode cX10_sewn 1 = .ok (.iconst 0, 1) := by decide +kernel
theorem dX10_sewn_2 : decode cX10_sewn 2 = .ok (.putfield 81, 3) := by decide +kernel
theorem dX10_sewn_5 : decode cX10_sewn 5 = .ok (.aload_n 0, 1) := by decide +kernel
theorem dX10_sewn_6 : decode cX10_sewn 6 = .ok (.iload_n 1, 1) := by decide +kernel
theorem dX10_sewn_7 : decode cX10_sewn 7 = .ok (.invokevirtual 231, 3) := by decide +kernel
theorem dX10_sewn_10 : decode cX10_sewn 10 = .ok (.ifCond .eq 31, 3) := by decide +kernel
theorem dX10_sewn_13 : decode cX10_sewn 13 = .ok (.iload_n 2, 1) := by decide +kernel
theorem dX10_sewn_14 : decode cX10_sewn 14 = .ok (.iconst 0, 1) := by decide +kernel
theorem dX10_sewn_15 : decode cX10_sewn 15 = .ok (.iconst 1, 1) := by decide +kernel
theorem dX10_sewn_16 : decode cX10_sewn 16 = .ok (.invokestatic 85, 3) := by decide +kernel
theorem dX10_sewn_19 : decode cX10_sewn 19 = .ok (.ifCond .eq 22, 3) := by decide +kernel
theorem dX10_sewn_22 : decode cX10_sewn 22 = .ok (.iload_n 3, 1) := by decide +kernel
theorem dX10_sewn_23 : decode cX10_sewn 23 = .ok (.iconst 0, 1) := by decide +kernel
theorem dX10_sewn_24 : decode cX10_sewn 24 = .ok (.iconst 3, 1) := by decide +kernel
theorem dX10_sewn_25 : decode cX10_sewn 25 = .ok (.invokestatic 85, 3) := by decide +kernel
theorem dX10_sewn_28 : decode cX10_sewn 28 = .ok (.ifCond .eq 13, 3) := by decide +kernel
theorem dX10_sewn_31 : decode cX10_sewn 31 = .ok (.aload_n 0, 1) := by decide +kernel
theorem dX10_sewn_32 : decode cX10_sewn 32 = .ok (.iload_n 1, 1) := by decide +kernel
theorem dX10_sewn_33 : decode cX10_sewn 33 = .ok (.iload_n 2, 1) := by decide +kernel
theorem dX10_sewn_34 : decode cX10_sewn 34 = .ok (.iload_n 3, 1) := by decide +kernel
theorem dX10_sewn_35 : decode cX10_sewn 35 = .ok (.invokevirtual 214, 3) := by decide +kernel
theorem dX10_sewn_38 : decode cX10_sewn 38 = .ok (.goto 4, 3) := by decide +kernel
theorem dX10_sewn_41 : decode cX10_sewn 41 = .ok (.iconst (-1), 1) := by decide +kernel
theorem dX10_sewn_42 : decode cX10_sewn 42 = .ok (.ireturn, 1) := by decide +kernel
theorem dX10_row_0 : decode cX10_row 0 = .ok (.aload_n 0, 1) := by decide +kernel
theorem dX10_row_1 : decode cX10_row 1 = .ok (.iconst 0, 1) := by decide +kernel
theorem dX10_row_2 : decode cX10_row 2 = .ok (.putfield 81, 3) := by decide +kernel
theorem dX10_row_5 : decode cX10_row 5 = .ok (.aload_n 0, 1) := by decide +kernel
theorem dX10_row_6 : decode cX10_row 6 = .ok (.iload_n 1, 1) := by decide +kernel
theorem dX10_row_7 : decode cX10_row 7 = .ok (.invokevirtual 231, 3) := by decide +kernel
theorem dX10_row_10 : decode cX10_row 10 = .ok (.ifCond .eq 26, 3) := by decide +kernel
theorem dX10_row_13 : decode cX10_row 13 = .ok (.iload_n 2, 1) := by decide +kernel
theorem dX10_row_14 : decode cX10_row 14 = .ok (.iconst 0, 1) := by decide +kernel
theorem dX10_row_15 : decode cX10_row 15 = .ok (.iconst 1, 1) := by decide +kernel
theorem dX10_row_16 : decode cX10_row 16 = .ok (.invokestatic 85, 3) := by decide +kernel
theorem dX10_row_19 : decode cX10_row 19 = .ok (.ifCond .eq 17, 3) := by decide +kernel
theorem dX10_row_22 : decode cX10_row 22 = .ok (.iload_n 3, 1) := by decide +kernel
theorem dX10_row_23 : decode cX10_row 23 = .ok (.ifCond .lt 13, 3) := by decide +kernel
theorem dX10_row_26 : decode cX10_row 26 = .ok (.iload 4, 2) := by decide +kernel
theorem dX10_row_28 : decode cX10_row 28 = .ok (.iconst 0, 1) := by decide +kernel
theorem dX10_row_29 : decode cX10_row 29 = .ok (.iconst 3, 1) := by decide +kernel
theorem dX10_row_30 : decode cX10_row 30 = .ok (.invokestatic 85, 3) := by decide +kernel
theorem dX10_row_33 : decode cX10_row 33 = .ok (.ifCond .ne 5, 3) := by decide +kernel
theorem dX10_row_36 : decode cX10_row 36 = .ok (.iconst (-1), 1) := by decide +kernel
theorem dX10_row_37 : decode cX10_row 37 = .ok (.ireturn, 1) := by decide +kernel
theorem dX10_row_38 : decode cX10_row 38 = .ok (.aload_n 0, 1) := by decide +kernel
theorem dX10_row_39 : decode cX10_row 39 = .ok (.iload_n 1, 1) := by decide +kernel
theorem dX10_row_40 : decode cX10_row 40 = .ok (.iload_n 2, 1) := by decide +kernel
theorem dX10_row_41 : decode cX10_row 41 = .ok (.invokevirtual 205, 3) := by decide +kernel
theorem dX10_row_44 : decode cX10_row 44 = .ok (.iload_n 3, 1) := by decide +kernel
theorem dX10_row_45 : decode cX10_row 45 = .ok (.aload_n 0, 1) := by decide +kernel
theorem dX10_row_46 : decode cX10_row 46 = .ok (.getfield 172, 3) := by decide +kernel
theorem dX10_row_49 : decode cX10_row 49 = .ok (.if_icmp .lt 6, 3) := by decide +kernel
theorem dX10_row_52 : decode cX10_row 52 = .ok (.bipush (-9), 2) := by decide +kernel
theorem dX10_row_54 : decode cX10_row 54 = .ok (.ireturn, 1) := by decide +kernel
theorem dX10_row_55 : decode cX10_row 55 = .ok (.iload 4, 2) := by decide +kernel
theorem dX10_row_57 : decode cX10_row 57 = .ok (.ifCond .ne 22, 3) := by decide +kernel
theorem dX10_row_60 : decode cX10_row 60 = .ok (.aload_n 0, 1) := by decide +kernel
theorem dX10_row_61 : decode cX10_row 61 = .ok (.aload_n 0, 1) := by decide +kernel
theorem dX10_row_62 : decode cX10_row 62 = .ok (.getfield 36, 3) := by decide +kernel
theorem dX10_row_65 : decode cX10_row 65 = .ok (.iload_n 3, 1) := by decide +kernel
theorem dX10_row_66 : decode cX10_row 66 = .ok (.iaload, 1) := by decide +kernel
theorem dX10_row_67 : decode cX10_row 67 = .ok (.aload_n 0, 1) := by decide +kernel
theorem dX10_row_68 : decode cX10_row 68 = .ok (.getfield 39, 3) := by decide +kernel
theorem dX10_row_71 : decode cX10_row 71 = .ok (.iload_n 3, 1) := by decide +kernel
theorem dX10_row_72 : decode cX10_row 72 = .ok (.iaload, 1) := by decide +kernel
theorem dX10_row_73 : decode cX10_row 73 = .ok (.invokevirtual 175, 3) := by decide +kernel
theorem dX10_row_76 : decode cX10_row 76 = .ok (.goto 37, 3) := by decide +kernel
theorem dX10_row_79 : decode cX10_row 79 = .ok (.iload 4, 2) := by decide +kernel
theorem dX10_row_81 : decode cX10_row 81 = .ok (.iconst 1, 1) := by decide +kernel
theorem dX10_row_82 : decode cX10_row 82 = .ok (.if_icmp .ne 11, 3) := by decide +kernel
theorem dX10_row_85 : decode cX10_row 85 = .ok (.aload_n 0, 1) := by decide +kernel
theorem dX10_row_86 : decode cX10_row 86 = .ok (.iload_n 3, 1) := by decide +kernel
theorem dX10_row_87 : decode cX10_row 87 = .ok (.invokevirtual 187, 3) := by decide +kernel
theorem dX10_row_90 : decode cX10_row 90 = .ok (.goto 23, 3) := by decide +kernel
theorem dX10_row_93 : decode cX10_row 93 = .ok (.iload 4, 2) := by decide +kernel
theorem dX10_row_95 : decode cX10_row 95 = .ok (.iconst 2, 1) := by decide +kernel
theorem dX10_row_96 : decode cX10_row 96 = .ok (.if_icmp .ne 11, 3) := by decide +kernel
theorem dX10_row_99 : decode cX10_row 99 = .ok (.aload_n 0, 1) := by decide +kernel
theorem dX10_row_100 : decode cX10_row 100 = .ok (.iload_n 3, 1) := by decide +kernel
theorem dX10_row_101 : decode cX10_row 101 = .ok (.invokevirtual 202, 3) := by decide +kernel
theorem dX10_row_104 : decode cX10_row 104 = .ok (.goto 9, 3) := by decide +kernel
theorem dX10_row_107 : decode cX10_row 107 = .ok (.aload_n 0, 1) := by decide +kernel
theorem dX10_row_108 : decode cX10_row 108 = .ok (.getfield 54, 3) := by decide +kernel
theorem dX10_row_111 : decode cX10_row 111 = .ok (.iload_n 3, 1) := by decide +kernel
theorem dX10_row_112 : decode cX10_row 112 = .ok (.iaload, 1) := by decide +kernel
theorem dX10_row_113 : decode cX10_row 113 = .ok (.ireturn, 1) := by decide +kernel
theorem dX10_part_0 : decode cX10_part 0 = .ok (.aload_n 0, 1) := by decide +kernel
theorem dX10_part_1 : decode cX10_part 1 = .ok (.iconst 0, 1) := by decide +kernel
theorem dX10_part_2 : decode cX10_part 2 = .ok (.putfield 81, 3) := by decide +kernel
theorem dX10_part_5 : decode cX10_part 5 = .ok (.aload_n 0, 1) := by decide +kernel
theorem dX10_part_6 : decode cX10_part 6 = .ok (.iload_n 1, 1) := by decide +kernel
theorem dX10_part_7 : decode cX10_part 7 = .ok (.invokevirtual 231, 3) := by decide +kernel
theorem dX10_part_10 : decode cX10_part 10 = .ok (.ifCond .eq 26, 3) := by decide +kernel
theorem dX10_part_13 : decode cX10_part 13 = .ok (.iload_n 2, 1) := by decide +kernel
theorem dX10_part_14 : decode cX10_part 14 = .ok (.iconst 0, 1) := by decide +kernel
theorem dX10_part_15 : decode cX10_part 15 = .ok (.iconst 1, 1) := by decide +kernel
theorem dX10_part_16 : decode cX10_part 16 = .ok (.invokestatic 85, 3) := by decide +kernel
theorem dX10_part_19 : decode cX10_part 19 = .ok (.ifCond .eq 17, 3) := by decide +kernel
theorem dX10_part_22 : decode cX10_part 22 = .ok (.iload_n 3, 1) := by decide +kernel
theorem dX10_part_23 : decode cX10_part 23 = .ok (.ifCond .lt 13, 3) := by decide +kernel
theorem dX10_part_26 : decode cX10_part 26 = .ok (.iload 4, 2) := by decide +kernel
theorem dX10_part_28 : decode cX10_part 28 = .ok (.iconst 0, 1) := by decide +kernel
theorem dX10_part_29 : decode cX10_part 29 = .ok (.iconst 3, 1) := by decide +kernel
theorem dX10_part_30 : decode cX10_part 30 = .ok (.invokestatic 85, 3) := by decide +kernel
theorem dX10_part_33 : decode cX10_part 33 = .ok (.ifCond .ne 5, 3) := by decide +kernel
theorem dX10_part_36 : decode cX10_part 36 = .ok (.iconst (-1), 1) := by decide +kernel
theorem dX10_part_37 : decode cX10_part 37 = .ok (.ireturn, 1) := by decide +kernel
theorem dX10_part_38 : decode cX10_part 38 = .ok (.aload_n 0, 1) := by decide +kernel
theorem dX10_part_39 : decode cX10_part 39 = .ok (.iload_n 1, 1) := by decide +kernel
theorem dX10_part_40 : decode cX10_part 40 = .ok (.iload_n 2, 1) := by decide +kernel
theorem dX10_part_41 : decode cX10_part 41 = .ok (.invokevirtual 205, 3) := by decide +kernel
theorem dX10_part_44 : decode cX10_part 44 = .ok (.iload_n 3, 1) := by decide +kernel
theorem dX10_part_45 : decode cX10_part 45 = .ok (.aload_n 0, 1) := by decide +kernel
theorem dX10_part_46 : decode cX10_part 46 = .ok (.getfield 184, 3) := by decide +kernel
theorem dX10_part_49 : decode cX10_part 49 = .ok (.if_icmp .ge 19, 3) := by decide +kernel
theorem dX10_part_52 : decode cX10_part 52 = .ok (.iload 4, 2) := by decide +kernel
theorem dX10_part_54 : decode cX10_part 54 = .ok (.iconst 3, 1) := by decide +kernel
theorem dX10_part_55 : decode cX10_part 55 = .ok (.if_icmp .ne 16, 3) := by decide +kernel
theorem dX10_part_58 : decode cX10_part 58 = .ok (.iload_n 3, 1) := by decide +kernel
theorem dX10_part_59 : decode cX10_part 59 = .ok (.aload_n 0, 1) := by decide +kernel
theorem dX10_part_60 : decode cX10_part 60 = .ok (.getfield 184, 3) := by decide +kernel
theorem dX10_part_63 : decode cX10_part 63 = .ok (.iconst 1, 1) := by decide +kernel
theorem dX10_part_64 : decode cX10_part 64 = .ok (.isub, 1) := by decide +kernel
theorem dX10_part_65 : decode cX10_part 65 = .ok (.if_icmp .ne 6, 3) := by decide +kernel
theorem dX10_part_68 : decode cX10_part 68 = .ok (.bipush (-9), 2) := by decide +kernel
theorem dX10_part_70 : decode cX10_part 70 = .ok (.ireturn, 1) := by decide +kernel
theorem dX10_part_71 : decode cX10_part 71 = .ok (.iload 4, 2) := by decide +kernel
theorem dX10_part_73 : decode cX10_part 73 = .ok (.ifCond .ne 12, 3) := by decide +kernel
theorem dX10_part_76 : decode cX10_part 76 = .ok (.aload_n 0, 1) := by decide +kernel
theorem dX10_part_77 : decode cX10_part 77 = .ok (.getfield 57, 3) := by decide +kernel
theorem dX10_part_80 : decode cX10_part 80 = .ok (.iload_n 3, 1) := by decide +kernel
theorem dX10_part_81 : decode cX10_part 81 = .ok (.iaload, 1) := by decide +kernel
theorem dX10_part_82 : decode cX10_part 82 = .ok (.goto 36, 3) := by decide +kernel
theorem dX10_part_85 : decode cX10_part 85 = .ok (.iload 4, 2) := by decide +kernel
theorem dX10_part_87 : decode cX10_part 87 = .ok (.iconst 1, 1) := by decide +kernel
theorem dX10_part_88 : decode cX10_part 88 = .ok (.if_icmp .ne 11, 3) := by decide +kernel
theorem dX10_part_91 : decode cX10_part 91 = .ok (.aload_n 0, 1) := by decide +kernel
theorem dX10_part_92 : decode cX10_part 92 = .ok (.iload_n 3, 1) := by decide +kernel
theorem dX10_part_93 : decode cX10_part 93 = .ok (.invokevirtual 193, 3) := by decide +kernel
theorem dX10_part_96 : decode cX10_part 96 = .ok (.goto 22, 3) := by decide +kernel
theorem dX10_part_99 : decode cX10_part 99 = .ok (.iload 4, 2) := by decide +kernel
theorem dX10_part_101 : decode cX10_part 101 = .ok (.iconst 2, 1) := by decide +kernel
theorem dX10_part_102 : decode cX10_part 102 = .ok (.if_icmp .ne 11, 3) := by decide +kernel
theorem dX10_part_105 : decode cX10_part 105 = .ok (.aload_n 0, 1) := by decide +kernel
theorem dX10_part_106 : decode cX10_part 106 = .ok (.iload_n 3, 1) := by decide +kernel
theorem dX10_part_107 : decode cX10_part 107 = .ok (.invokevirtual 190, 3) := by decide +kernel
theorem dX10_part_110 : decode cX10_part 110 = .ok (.goto 8, 3) := by decide +kernel
theorem dX10_part_113 : decode cX10_part 113 = .ok (.aload_n 0, 1) := by decide +kernel
theorem dX10_part_114 : decode cX10_part 114 = .ok (.iload_n 3, 1) := by decide +kernel
theorem dX10_part_115 : decode cX10_part 115 = .ok (.invokevirtual 199, 3) := by decide +kernel
theorem dX10_part_118 : decode cX10_part 118 = .ok (.ireturn, 1) := by decide +kernel
theorem dX10_laysAhead_0 : decode cX10_laysAhead 0 = .ok (.iconst 0, 1) := by decide +kernel
theorem dX10_laysAhead_1 : decode cX10_laysAhead 1 = .ok (.istore_n 1, 1) := by decide +kernel
theorem dX10_laysAhead_2 : decode cX10_laysAhead 2 = .ok (.iload_n 1, 1) := by decide +kernel
theorem dX10_laysAhead_3 : decode cX10_laysAhead 3 = .ok (.aload_n 0, 1) := by decide +kernel
theorem dX10_laysAhead_4 : decode cX10_laysAhead 4 = .ok (.getfield 160, 3) := by decide +kernel
theorem dX10_laysAhead_7 : decode cX10_laysAhead 7 = .ok (.if_icmp .ge 20, 3) := by decide +kernel
theorem dX10_laysAhead_10 : decode cX10_laysAhead 10 = .ok (.aload_n 0, 1) := by decide +kernel
theorem dX10_laysAhead_11 : decode cX10_laysAhead 11 = .ok (.getfield 75, 3) := by decide +kernel
theorem dX10_laysAhead_14 : decode cX10_laysAhead 14 = .ok (.iload_n 1, 1) := by decide +kernel
theorem dX10_laysAhead_15 : decode cX10_laysAhead 15 = .ok (.aload_n 0, 1) := by decide +kernel
theorem dX10_laysAhead_16 : decode cX10_laysAhead 16 = .ok (.iload_n 1, 1) := by decide +kernel
theorem dX10_laysAhead_17 : decode cX10_laysAhead 17 = .ok (.invokevirtual 218, 3) := by decide +kernel
theorem dX10_laysAhead_20 : decode cX10_laysAhead 20 = .ok (.iastore, 1) := by decide +kernel
theorem dX10_laysAhead_21 : decode cX10_laysAhead 21 = .ok (.iinc 1 1, 3) := by decide +kernel
theorem dX10_laysAhead_24 : decode cX10_laysAhead 24 = .ok (.goto (-22), 3) := by decide +kernel
theorem dX10_laysAhead_27 : decode cX10_laysAhead 27 = .ok (.iconst 0, 1) := by decide +kernel
theorem dX10_laysAhead_28 : decode cX10_laysAhead 28 = .ok (.istore_n 1, 1) := by decide +kernel
theorem dX10_laysAhead_29 : decode cX10_laysAhead 29 = .ok (.iload_n 1, 1) := by decide +kernel
theorem dX10_laysAhead_30 : decode cX10_laysAhead 30 = .ok (.aload_n 0, 1) := by decide +kernel
theorem dX10_laysAhead_31 : decode cX10_laysAhead 31 = .ok (.getfield 160, 3) := by decide +kernel
theorem dX10_laysAhead_34 : decode cX10_laysAhead 34 = .ok (.if_icmp .ge 98, 3) := by decide +kernel
theorem dX10_laysAhead_37 : decode cX10_laysAhead 37 = .ok (.aload_n 0, 1) := by decide +kernel
theorem dX10_laysAhead_38 : decode cX10_laysAhead 38 = .ok (.getfield 72, 3) := by decide +kernel
theorem dX10_laysAhead_41 : decode cX10_laysAhead 41 = .ok (.iload_n 1, 1) := by decide +kernel
theorem dX10_laysAhead_42 : decode cX10_laysAhead 42 = .ok (.iconst 0, 1) := by decide +kernel
theorem dX10_laysAhead_43 : decode cX10_laysAhead 43 = .ok (.iastore, 1) := by decide +kernel
theorem dX10_laysAhead_44 : decode cX10_laysAhead 44 = .ok (.iconst 0, 1) := by decide +kernel
theorem dX10_laysAhead_45 : decode cX10_laysAhead 45 = .ok (.istore_n 2, 1) := by decide +kernel
theorem dX10_laysAhead_46 : decode cX10_laysAhead 46 = .ok (.iload_n 2, 1) := by decide +kernel
theorem dX10_laysAhead_47 : decode cX10_laysAhead 47 = .ok (.aload_n 0, 1) := by decide +kernel
theorem dX10_laysAhead_48 : decode cX10_laysAhead 48 = .ok (.getfield 160, 3) := by decide +kernel
theorem dX10_laysAhead_51 : decode cX10_laysAhead 51 = .ok (.if_icmp .ge 75, 3) := by decide +kernel
theorem dX10_laysAhead_54 : decode cX10_laysAhead 54 = .ok (.aload_n 0, 1) := by decide +kernel
theorem dX10_laysAhead_55 : decode cX10_laysAhead 55 = .ok (.getfield 7, 3) := by decide +kernel
theorem dX10_laysAhead_58 : decode cX10_laysAhead 58 = .ok (.bipush 8, 2) := by decide +kernel
theorem dX10_laysAhead_60 : decode cX10_laysAhead 60 = .ok (.aload_n 0, 1) := by decide +kernel
theorem dX10_laysAhead_61 : decode cX10_laysAhead 61 = .ok (.getfield 75, 3) := by decide +kernel
theorem dX10_laysAhead_64 : decode cX10_laysAhead 64 = .ok (.iload_n 2, 1) := by decide +kernel
theorem dX10_laysAhead_65 : decode cX10_laysAhead 65 = .ok (.iaload, 1) := by decide +kernel
theorem dX10_laysAhead_66 : decode cX10_laysAhead 66 = .ok (.iadd, 1) := by decide +kernel
theorem dX10_laysAhead_67 : decode cX10_laysAhead 67 = .ok (.iaload, 1) := by decide +kernel
theorem dX10_laysAhead_68 : decode cX10_laysAhead 68 = .ok (.aload_n 0, 1) := by decide +kernel
theorem dX10_laysAhead_69 : decode cX10_laysAhead 69 = .ok (.getfield 7, 3) := by decide +kernel
theorem dX10_laysAhead_72 : decode cX10_laysAhead 72 = .ok (.bipush 8, 2) := by decide +kernel
theorem dX10_laysAhead_74 : decode cX10_laysAhead 74 = .ok (.aload_n 0, 1) := by decide +kernel
theorem dX10_laysAhead_75 : decode cX10_laysAhead 75 = .ok (.getfield 75, 3) := by decide +kernel
theorem dX10_laysAhead_78 : decode cX10_laysAhead 78 = .ok (.iload_n 1, 1) := by decide +kernel
theorem dX10_laysAhead_79 : decode cX10_laysAhead 79 = .ok (.iaload, 1) := by decide +kernel
theorem dX10_laysAhead_80 : decode cX10_laysAhead 80 = .ok (.iadd, 1) := by decide +kernel
theorem dX10_laysAhead_81 : decode cX10_laysAhead 81 = .ok (.iaload, 1) := by decide +kernel
theorem dX10_laysAhead_82 : decode cX10_laysAhead 82 = .ok (.if_icmp .ge 16, 3) := by decide +kernel
theorem dX10_laysAhead_85 : decode cX10_laysAhead 85 = .ok (.aload_n 0, 1) := by decide +kernel
theorem dX10_laysAhead_86 : decode cX10_laysAhead 86 = .ok (.iload_n 1, 1) := by decide +kernel
theorem dX10_laysAhead_87 : decode cX10_laysAhead 87 = .ok (.iload_n 2, 1) := by decide +kernel
theorem dX10_laysAhead_88 : decode cX10_laysAhead 88 = .ok (.invokevirtual 225, 3) := by decide +kernel
theorem dX10_laysAhead_91 : decode cX10_laysAhead 91 = .ok (.ifCond .eq 7, 3) := by decide +kernel
theorem dX10_laysAhead_94 : decode cX10_laysAhead 94 = .ok (.iconst 1, 1) := by decide +kernel
theorem dX10_laysAhead_95 : decode cX10_laysAhead 95 = .ok (.goto 4, 3) := by decide +kernel
theorem dX10_laysAhead_98 : decode cX10_laysAhead 98 = .ok (.iconst 0, 1) := by decide +kernel
theorem dX10_laysAhead_99 : decode cX10_laysAhead 99 = .ok (.istore_n 3, 1) := by decide +kernel
theorem dX10_laysAhead_100 : decode cX10_laysAhead 100 = .ok (.aload_n 0, 1) := by decide +kernel
theorem dX10_laysAhead_101 : decode cX10_laysAhead 101 = .ok (.getfield 72, 3) := by decide +kernel
theorem dX10_laysAhead_104 : decode cX10_laysAhead 104 = .ok (.iload_n 1, 1) := by decide +kernel
theorem dX10_laysAhead_105 : decode cX10_laysAhead 105 = .ok (.dup2, 1) := by decide +kernel
theorem dX10_laysAhead_106 : decode cX10_laysAhead 106 = .ok (.iaload, 1) := by decide +kernel
theorem dX10_laysAhead_107 : decode cX10_laysAhead 107 = .ok (.iload_n 3, 1) := by decide +kernel
theorem dX10_laysAhead_108 : decode cX10_laysAhead 108 = .ok (.ifCond .eq 9, 3) := by decide +kernel
theorem dX10_laysAhead_111 : decode cX10_laysAhead 111 = .ok (.iconst 1, 1) := by decide +kernel
theorem dX10_laysAhead_112 : decode cX10_laysAhead 112 = .ok (.iload_n 2, 1) := by decide +kernel
theorem dX10_laysAhead_113 : decode cX10_laysAhead 113 = .ok (.ishl, 1) := by decide +kernel
theorem dX10_laysAhead_114 : decode cX10_laysAhead 114 = .ok (.goto 4, 3) := by decide +kernel
theorem dX10_laysAhead_117 : decode cX10_laysAhead 117 = .ok (.iconst 0, 1) := by decide +kernel
theorem dX10_laysAhead_118 : decode cX10_laysAhead 118 = .ok (.ior, 1) := by decide +kernel
theorem dX10_laysAhead_119 : decode cX10_laysAhead 119 = .ok (.iastore, 1) := by decide +kernel
theorem dX10_laysAhead_120 : decode cX10_laysAhead 120 = .ok (.iinc 2 1, 3) := by decide +kernel
theorem dX10_laysAhead_123 : decode cX10_laysAhead 123 = .ok (.goto (-77), 3) := by decide +kernel
theorem dX10_laysAhead_126 : decode cX10_laysAhead 126 = .ok (.iinc 1 1, 3) := by decide +kernel
theorem dX10_laysAhead_129 : decode cX10_laysAhead 129 = .ok (.goto (-100), 3) := by decide +kernel
theorem dX10_laysAhead_132 : decode cX10_laysAhead 132 = .ok (.return_, 1) := by decide +kernel
theorem dX10_mayCome_0 : decode cX10_mayCome 0 = .ok (.iload_n 1, 1) := by decide +kernel
theorem dX10_mayCome_1 : decode cX10_mayCome 1 = .ok (.iload_n 2, 1) := by decide +kernel
theorem dX10_mayCome_2 : decode cX10_mayCome 2 = .ok (.ishr, 1) := by decide +kernel
theorem dX10_mayCome_3 : decode cX10_mayCome 3 = .ok (.iconst 1, 1) := by decide +kernel
theorem dX10_mayCome_4 : decode cX10_mayCome 4 = .ok (.iand, 1) := by decide +kernel
theorem dX10_mayCome_5 : decode cX10_mayCome 5 = .ok (.ifCond .ne 20, 3) := by decide +kernel
theorem dX10_mayCome_8 : decode cX10_mayCome 8 = .ok (.aload_n 0, 1) := by decide +kernel
theorem dX10_mayCome_9 : decode cX10_mayCome 9 = .ok (.getfield 72, 3) := by decide +kernel
theorem dX10_mayCome_12 : decode cX10_mayCome 12 = .ok (.iload_n 2, 1) := by decide +kernel
theorem dX10_mayCome_13 : decode cX10_mayCome 13 = .ok (.iaload, 1) := by decide +kernel
theorem dX10_mayCome_14 : decode cX10_mayCome 14 = .ok (.iload_n 1, 1) := by decide +kernel
theorem dX10_mayCome_15 : decode cX10_mayCome 15 = .ok (.iconst (-1), 1) := by decide +kernel
theorem dX10_mayCome_16 : decode cX10_mayCome 16 = .ok (.ixor, 1) := by decide +kernel
theorem dX10_mayCome_17 : decode cX10_mayCome 17 = .ok (.iand, 1) := by decide +kernel
theorem dX10_mayCome_18 : decode cX10_mayCome 18 = .ok (.ifCond .ne 7, 3) := by decide +kernel
theorem dX10_mayCome_21 : decode cX10_mayCome 21 = .ok (.iconst 1, 1) := by decide +kernel
theorem dX10_mayCome_22 : decode cX10_mayCome 22 = .ok (.goto 4, 3) := by decide +kernel
theorem dX10_mayCome_25 : decode cX10_mayCome 25 = .ok (.iconst 0, 1) := by decide +kernel
theorem dX10_mayCome_26 : decode cX10_mayCome 26 = .ok (.ireturn, 1) := by decide +kernel
theorem dX10_withField_0 : decode cX10_withField 0 = .ok (.aload_n 0, 1) := by decide +kernel
theorem dX10_withField_1 : decode cX10_withField 1 = .ok (.getfield 78, 3) := by decide +kernel
theorem dX10_withField_4 : decode cX10_withField 4 = .ok (.iconst 4, 1) := by decide +kernel
theorem dX10_withField_5 : decode cX10_withField 5 = .ok (.iload_n 1, 1) := by decide +kernel
theorem dX10_withField_6 : decode cX10_withField 6 = .ok (.iconst 1, 1) := by decide +kernel
theorem dX10_withField_7 : decode cX10_withField 7 = .ok (.iload_n 3, 1) := by decide +kernel
theorem dX10_withField_8 : decode cX10_withField 8 = .ok (.ishl, 1) := by decide +kernel
theorem dX10_withField_9 : decode cX10_withField 9 = .ok (.ior, 1) := by decide +kernel
theorem dX10_withField_10 : decode cX10_withField 10 = .ok (.imul, 1) := by decide +kernel
theorem dX10_withField_11 : decode cX10_withField 11 = .ok (.aload_n 0, 1) := by decide +kernel
theorem dX10_withField_12 : decode cX10_withField 12 = .ok (.getfield 75, 3) := by decide +kernel
theorem dX10_withField_15 : decode cX10_withField 15 = .ok (.iload_n 3, 1) := by decide +kernel
theorem dX10_withField_16 : decode cX10_withField 16 = .ok (.iaload, 1) := by decide +kernel
theorem dX10_withField_17 : decode cX10_withField 17 = .ok (.iadd, 1) := by decide +kernel
theorem dX10_withField_18 : decode cX10_withField 18 = .ok (.iaload, 1) := by decide +kernel
theorem dX10_withField_19 : decode cX10_withField 19 = .ok (.iload_n 2, 1) := by decide +kernel
theorem dX10_withField_20 : decode cX10_withField 20 = .ok (.ifCond .eq 17, 3) := by decide +kernel
theorem dX10_withField_23 : decode cX10_withField 23 = .ok (.iload_n 2, 1) := by decide +kernel
theorem dX10_withField_24 : decode cX10_withField 24 = .ok (.aload_n 0, 1) := by decide +kernel
theorem dX10_withField_25 : decode cX10_withField 25 = .ok (.getfield 75, 3) := by decide +kernel
theorem dX10_withField_28 : decode cX10_withField 28 = .ok (.iload_n 3, 1) := by decide +kernel
theorem dX10_withField_29 : decode cX10_withField 29 = .ok (.iaload, 1) := by decide +kernel
theorem dX10_withField_30 : decode cX10_withField 30 = .ok (.if_icmp .eq 7, 3) := by decide +kernel
theorem dX10_withField_33 : decode cX10_withField 33 = .ok (.iconst 1, 1) := by decide +kernel
theorem dX10_withField_34 : decode cX10_withField 34 = .ok (.goto 4, 3) := by decide +kernel
theorem dX10_withField_37 : decode cX10_withField 37 = .ok (.iconst 0, 1) := by decide +kernel
theorem dX10_withField_38 : decode cX10_withField 38 = .ok (.iadd, 1) := by decide +kernel
theorem dX10_withField_39 : decode cX10_withField 39 = .ok (.ireturn, 1) := by decide +kernel
theorem dX10_laysChanges_0 : decode cX10_laysChanges 0 = .ok (.iconst 1, 1) := by decide +kernel
theorem dX10_laysChanges_1 : decode cX10_laysChanges 1 = .ok (.aload_n 0, 1) := by decide +kernel
theorem dX10_laysChanges_2 : decode cX10_laysChanges 2 = .ok (.getfield 160, 3) := by decide +kernel
theorem dX10_laysChanges_5 : decode cX10_laysChanges 5 = .ok (.ishl, 1) := by decide +kernel
theorem dX10_laysChanges_6 : decode cX10_laysChanges 6 = .ok (.iconst 1, 1) := by decide +kernel
theorem dX10_laysChanges_7 : decode cX10_laysChanges 7 = .ok (.isub, 1) := by decide +kernel
theorem dX10_laysChanges_8 : decode cX10_laysChanges 8 = .ok (.istore_n 1, 1) := by decide +kernel
theorem dX10_laysChanges_9 : decode cX10_laysChanges 9 = .ok (.iload_n 1, 1) := by decide +kernel
theorem dX10_laysChanges_10 : decode cX10_laysChanges 10 = .ok (.istore_n 2, 1) := by decide +kernel
theorem dX10_laysChanges_11 : decode cX10_laysChanges 11 = .ok (.iload_n 2, 1) := by decide +kernel
theorem dX10_laysChanges_12 : decode cX10_laysChanges 12 = .ok (.ifCond .lt 108, 3) := by decide +kernel
theorem dX10_laysChanges_15 : decode cX10_laysChanges 15 = .ok (.iconst 0, 1) := by decide +kernel
theorem dX10_laysChanges_16 : decode cX10_laysChanges 16 = .ok (.istore_n 3, 1) := by decide +kernel
theorem dX10_laysChanges_17 : decode cX10_laysChanges 17 = .ok (.iload_n 3, 1) := by decide +kernel
theorem dX10_laysChanges_18 : decode cX10_laysChanges 18 = .ok (.iconst 4, 1) := by decide +kernel
theorem dX10_laysChanges_19 : decode cX10_laysChanges 19 = .ok (.if_icmp .ge 95, 3) := by decide +kernel
theorem dX10_laysChanges_22 : decode cX10_laysChanges 22 = .ok (.iload_n 2, 1) := by decide +kernel
theorem dX10_laysChanges_23 : decode cX10_laysChanges 23 = .ok (.iload_n 1, 1) := by decide +kernel
theorem dX10_laysChanges_24 : decode cX10_laysChanges 24 = .ok (.if_icmp .ne 7, 3) := by decide +kernel
theorem dX10_laysChanges_27 : decode cX10_laysChanges 27 = .ok (.iconst 0, 1) := by decide +kernel
theorem dX10_laysChanges_28 : decode cX10_laysChanges 28 = .ok (.goto 6, 3) := by decide +kernel
theorem dX10_laysChanges_31 : decode cX10_laysChanges 31 = .ok (.sipush 1000, 3) := by decide +kernel
theorem dX10_laysChanges_34 : decode cX10_laysChanges 34 = .ok (.istore 4, 2) := by decide +kernel
theorem dX10_laysChanges_36 : decode cX10_laysChanges 36 = .ok (.iconst 0, 1) := by decide +kernel
theorem dX10_laysChanges_37 : decode cX10_laysChanges 37 = .ok (.istore 5, 2) := by decide +kernel
theorem dX10_laysChanges_39 : decode cX10_laysChanges 39 = .ok (.iload 5, 2) := by decide +kernel
theorem dX10_laysChanges_41 : decode cX10_laysChanges 41 = .ok (.aload_n 0, 1) := by decide +kernel
theorem dX10_laysChanges_42 : decode cX10_laysChanges 42 = .ok (.getfield 160, 3) := by decide +kernel
theorem dX10_laysChanges_45 : decode cX10_laysChanges 45 = .ok (.if_icmp .ge 51, 3) := by decide +kernel
theorem dX10_laysChanges_48 : decode cX10_laysChanges 48 = .ok (.aload_n 0, 1) := by decide +kernel
theorem dX10_laysChanges_49 : decode cX10_laysChanges 49 = .ok (.iload_n 2, 1) := by decide +kernel
theorem dX10_laysChanges_50 : decode cX10_laysChanges 50 = .ok (.iload 5, 2) := by decide +kernel
theorem dX10_laysChanges_52 : decode cX10_laysChanges 52 = .ok (.invokevirtual 247, 3) := by decide +kernel
theorem dX10_laysChanges_55 : decode cX10_laysChanges 55 = .ok (.ifCond .eq 14, 3) := by decide +kernel
theorem dX10_laysChanges_58 : decode cX10_laysChanges 58 = .ok (.aload_n 0, 1) := by decide +kernel
theorem dX10_laysChanges_59 : decode cX10_laysChanges 59 = .ok (.iload_n 2, 1) := by decide +kernel
theorem dX10_laysChanges_60 : decode cX10_laysChanges 60 = .ok (.iload_n 3, 1) := by decide +kernel
theorem dX10_laysChanges_61 : decode cX10_laysChanges 61 = .ok (.iload 5, 2) := by decide +kernel
theorem dX10_laysChanges_63 : decode cX10_laysChanges 63 = .ok (.invokevirtual 250, 3) := by decide +kernel
theorem dX10_laysChanges_66 : decode cX10_laysChanges 66 = .ok (.goto 6, 3) := by decide +kernel
theorem dX10_laysChanges_69 : decode cX10_laysChanges 69 = .ok (.sipush 1000, 3) := by decide +kernel
theorem dX10_laysChanges_72 : decode cX10_laysChanges 72 = .ok (.istore 6, 2) := by decide +kernel
theorem dX10_laysChanges_74 : decode cX10_laysChanges 74 = .ok (.iload 6, 2) := by decide +kernel
theorem dX10_laysChanges_76 : decode cX10_laysChanges 76 = .ok (.iload 4, 2) := by decide +kernel
theorem dX10_laysChanges_78 : decode cX10_laysChanges 78 = .ok (.if_icmp .ge 8, 3) := by decide +kernel
theorem dX10_laysChanges_81 : decode cX10_laysChanges 81 = .ok (.iload 6, 2) := by decide +kernel
theorem dX10_laysChanges_83 : decode cX10_laysChanges 83 = .ok (.goto 5, 3) := by decide +kernel
theorem dX10_laysChanges_86 : decode cX10_laysChanges 86 = .ok (.iload 4, 2) := by decide +kernel
theorem dX10_laysChanges_88 : decode cX10_laysChanges 88 = .ok (.istore 4, 2) := by decide +kernel
theorem dX10_laysChanges_90 : decode cX10_laysChanges 90 = .ok (.iinc 5 1, 3) := by decide +kernel
theorem dX10_laysChanges_93 : decode cX10_laysChanges 93 = .ok (.goto (-54), 3) := by decide +kernel
theorem dX10_laysChanges_96 : decode cX10_laysChanges 96 = .ok (.aload_n 0, 1) := by decide +kernel
theorem dX10_laysChanges_97 : decode cX10_laysChanges 97 = .ok (.getfield 78, 3) := by decide +kernel
theorem dX10_laysChanges_100 : decode cX10_laysChanges 100 = .ok (.iconst 4, 1) := by decide +kernel
theorem dX10_laysChanges_101 : decode cX10_laysChanges 101 = .ok (.iload_n 2, 1) := by decide +kernel
theorem dX10_laysChanges_102 : decode cX10_laysChanges 102 = .ok (.imul, 1) := by decide +kernel
theorem dX10_laysChanges_103 : decode cX10_laysChanges 103 = .ok (.iload_n 3, 1) := by decide +kernel
theorem dX10_laysChanges_104 : decode cX10_laysChanges 104 = .ok (.iadd, 1) := by decide +kernel
theorem dX10_laysChanges_105 : decode cX10_laysChanges 105 = .ok (.iload 4, 2) := by decide +kernel
theorem dX10_laysChanges_107 : decode cX10_laysChanges 107 = .ok (.iastore, 1) := by decide +kernel
theorem dX10_laysChanges_108 : decode cX10_laysChanges 108 = .ok (.iinc 3 1, 3) := by decide +kernel
theorem dX10_laysChanges_111 : decode cX10_laysChanges 111 = .ok (.goto (-94), 3) := by decide +kernel
theorem dX10_laysChanges_114 : decode cX10_laysChanges 114 = .ok (.iinc 2 (-1), 3) := by decide +kernel
theorem dX10_laysChanges_117 : decode cX10_laysChanges 117 = .ok (.goto (-106), 3) := by decide +kernel
theorem dX10_laysChanges_120 : decode cX10_laysChanges 120 = .ok (.return_, 1) := by decide +kernel
theorem dX10_fieldAt_0 : decode cX10_fieldAt 0 = .ok (.iconst 0, 1) := by decide +kernel
theorem dX10_fieldAt_1 : decode cX10_fieldAt 1 = .ok (.istore_n 2, 1) := by decide +kernel
theorem dX10_fieldAt_2 : decode cX10_fieldAt 2 = .ok (.iconst 0, 1) := by decide +kernel
theorem dX10_fieldAt_3 : decode cX10_fieldAt 3 = .ok (.istore_n 3, 1) := by decide +kernel
theorem dX10_fieldAt_4 : decode cX10_fieldAt 4 = .ok (.bipush (-9), 2) := by decide +kernel
theorem dX10_fieldAt_6 : decode cX10_fieldAt 6 = .ok (.istore 4, 2) := by decide +kernel
theorem dX10_fieldAt_8 : decode cX10_fieldAt 8 = .ok (.iconst 0, 1) := by decide +kernel
theorem dX10_fieldAt_9 : decode cX10_fieldAt 9 = .ok (.istore 5, 2) := by decide +kernel
theorem dX10_fieldAt_11 : decode cX10_fieldAt 11 = .ok (.iload 5, 2) := by decide +kernel
theorem dX10_fieldAt_13 : decode cX10_fieldAt 13 = .ok (.iload_n 1, 1) := by decide +kernel
theorem dX10_fieldAt_14 : decode cX10_fieldAt 14 = .ok (.if_icmp .gt 64, 3) := by decide +kernel
theorem dX10_fieldAt_17 : decode cX10_fieldAt 17 = .ok (.iconst 0, 1) := by decide +kernel
theorem dX10_fieldAt_18 : decode cX10_fieldAt 18 = .ok (.istore 4, 2) := by decide +kernel
theorem dX10_fieldAt_20 : decode cX10_fieldAt 20 = .ok (.aload_n 0, 1) := by decide +kernel
theorem dX10_fieldAt_21 : decode cX10_fieldAt 21 = .ok (.iload_n 2, 1) := by decide +kernel
theorem dX10_fieldAt_22 : decode cX10_fieldAt 22 = .ok (.iload 4, 2) := by decide +kernel
theorem dX10_fieldAt_24 : decode cX10_fieldAt 24 = .ok (.invokevirtual 247, 3) := by decide +kernel
theorem dX10_fieldAt_27 : decode cX10_fieldAt 27 = .ok (.ifCond .eq 24, 3) := by decide +kernel
theorem dX10_fieldAt_30 : decode cX10_fieldAt 30 = .ok (.aload_n 0, 1) := by decide +kernel
theorem dX10_fieldAt_31 : decode cX10_fieldAt 31 = .ok (.iload_n 2, 1) := by decide +kernel
theorem dX10_fieldAt_32 : decode cX10_fieldAt 32 = .ok (.iload_n 3, 1) := by decide +kernel
theorem dX10_fieldAt_33 : decode cX10_fieldAt 33 = .ok (.iload 4, 2) := by decide +kernel
theorem dX10_fieldAt_35 : decode cX10_fieldAt 35 = .ok (.invokevirtual 250, 3) := by decide +kernel
theorem dX10_fieldAt_38 : decode cX10_fieldAt 38 = .ok (.aload_n 0, 1) := by decide +kernel
theorem dX10_fieldAt_39 : decode cX10_fieldAt 39 = .ok (.getfield 78, 3) := by decide +kernel
theorem dX10_fieldAt_42 : decode cX10_fieldAt 42 = .ok (.iconst 4, 1) := by decide +kernel
theorem dX10_fieldAt_43 : decode cX10_fieldAt 43 = .ok (.iload_n 2, 1) := by decide +kernel
theorem dX10_fieldAt_44 : decode cX10_fieldAt 44 = .ok (.imul, 1) := by decide +kernel
theorem dX10_fieldAt_45 : decode cX10_fieldAt 45 = .ok (.iload_n 3, 1) := by decide +kernel
theorem dX10_fieldAt_46 : decode cX10_fieldAt 46 = .ok (.iadd, 1) := by decide +kernel
theorem dX10_fieldAt_47 : decode cX10_fieldAt 47 = .ok (.iaload, 1) := by decide +kernel
theorem dX10_fieldAt_48 : decode cX10_fieldAt 48 = .ok (.if_icmp .eq 9, 3) := by decide +kernel
theorem dX10_fieldAt_51 : decode cX10_fieldAt 51 = .ok (.iinc 4 1, 3) := by decide +kernel
theorem dX10_fieldAt_54 : decode cX10_fieldAt 54 = .ok (.goto (-34), 3) := by decide +kernel
theorem dX10_fieldAt_57 : decode cX10_fieldAt 57 = .ok (.aload_n 0, 1) := by decide +kernel
theorem dX10_fieldAt_58 : decode cX10_fieldAt 58 = .ok (.getfield 75, 3) := by decide +kernel
theorem dX10_fieldAt_61 : decode cX10_fieldAt 61 = .ok (.iload 4, 2) := by decide +kernel
theorem dX10_fieldAt_63 : decode cX10_fieldAt 63 = .ok (.iaload, 1) := by decide +kernel
theorem dX10_fieldAt_64 : decode cX10_fieldAt 64 = .ok (.istore_n 3, 1) := by decide +kernel
theorem dX10_fieldAt_65 : decode cX10_fieldAt 65 = .ok (.iload_n 2, 1) := by decide +kernel
theorem dX10_fieldAt_66 : decode cX10_fieldAt 66 = .ok (.iconst 1, 1) := by decide +kernel
theorem dX10_fieldAt_67 : decode cX10_fieldAt 67 = .ok (.iload 4, 2) := by decide +kernel
theorem dX10_fieldAt_69 : decode cX10_fieldAt 69 = .ok (.ishl, 1) := by decide +kernel
theorem dX10_fieldAt_70 : decode cX10_fieldAt 70 = .ok (.ior, 1) := by decide +kernel
theorem dX10_fieldAt_71 : decode cX10_fieldAt 71 = .ok (.istore_n 2, 1) := by decide +kernel
theorem dX10_fieldAt_72 : decode cX10_fieldAt 72 = .ok (.iinc 5 1, 3) := by decide +kernel
theorem dX10_fieldAt_75 : decode cX10_fieldAt 75 = .ok (.goto (-64), 3) := by decide +kernel
theorem dX10_fieldAt_78 : decode cX10_fieldAt 78 = .ok (.iload 4, 2) := by decide +kernel
theorem dX10_fieldAt_80 : decode cX10_fieldAt 80 = .ok (.ireturn, 1) := by decide +kernel
theorem dX10_order_0 : decode cX10_order 0 = .ok (.aload_n 0, 1) := by decide +kernel
theorem dX10_order_1 : decode cX10_order 1 = .ok (.iconst 0, 1) := by decide +kernel
theorem dX10_order_2 : decode cX10_order 2 = .ok (.putfield 81, 3) := by decide +kernel
theorem dX10_order_5 : decode cX10_order 5 = .ok (.iload_n 1, 1) := by decide +kernel
theorem dX10_order_6 : decode cX10_order 6 = .ok (.iconst (-1), 1) := by decide +kernel
theorem dX10_order_7 : decode cX10_order 7 = .ok (.if_icmp .ge 5, 3) := by decide +kernel
theorem dX10_order_10 : decode cX10_order 10 = .ok (.iconst (-1), 1) := by decide +kernel
theorem dX10_order_11 : decode cX10_order 11 = .ok (.ireturn, 1) := by decide +kernel
theorem dX10_order_12 : decode cX10_order 12 = .ok (.aload_n 0, 1) := by decide +kernel
theorem dX10_order_13 : decode cX10_order 13 = .ok (.invokevirtual 228, 3) := by decide +kernel
theorem dX10_order_16 : decode cX10_order 16 = .ok (.aload_n 0, 1) := by decide +kernel
theorem dX10_order_17 : decode cX10_order 17 = .ok (.getfield 160, 3) := by decide +kernel
theorem dX10_order_20 : decode cX10_order 20 = .ok (.bipush 10, 2) := by decide +kernel
theorem dX10_order_22 : decode cX10_order 22 = .ok (.if_icmp .le 6, 3) := by decide +kernel
theorem dX10_order_25 : decode cX10_order 25 = .ok (.bipush (-3), 2) := by decide +kernel
theorem dX10_order_27 : decode cX10_order 27 = .ok (.ireturn, 1) := by decide +kernel
theorem dX10_order_28 : decode cX10_order 28 = .ok (.aload_n 0, 1) := by decide +kernel
theorem dX10_order_29 : decode cX10_order 29 = .ok (.getfield 160, 3) := by decide +kernel
theorem dX10_order_32 : decode cX10_order 32 = .ok (.ifCond .eq 11, 3) := by decide +kernel
theorem dX10_order_35 : decode cX10_order 35 = .ok (.iload_n 1, 1) := by decide +kernel
theorem dX10_order_36 : decode cX10_order 36 = .ok (.aload_n 0, 1) := by decide +kernel
theorem dX10_order_37 : decode cX10_order 37 = .ok (.getfield 160, 3) := by decide +kernel
theorem dX10_order_40 : decode cX10_order 40 = .ok (.if_icmp .lt 6, 3) := by decide +kernel
theorem dX10_order_43 : decode cX10_order 43 = .ok (.bipush (-9), 2) := by decide +kernel
theorem dX10_order_45 : decode cX10_order 45 = .ok (.ireturn, 1) := by decide +kernel
theorem dX10_order_46 : decode cX10_order 46 = .ok (.aload_n 0, 1) := by decide +kernel
theorem dX10_order_47 : decode cX10_order 47 = .ok (.invokevirtual 253, 3) := by decide +kernel
theorem dX10_order_50 : decode cX10_order 50 = .ok (.aload_n 0, 1) := by decide +kernel
theorem dX10_order_51 : decode cX10_order 51 = .ok (.invokevirtual 256, 3) := by decide +kernel
theorem dX10_order_54 : decode cX10_order 54 = .ok (.iload_n 1, 1) := by decide +kernel
theorem dX10_order_55 : decode cX10_order 55 = .ok (.iconst (-1), 1) := by decide +kernel
theorem dX10_order_56 : decode cX10_order 56 = .ok (.if_icmp .ne 12, 3) := by decide +kernel
theorem dX10_order_59 : decode cX10_order 59 = .ok (.aload_n 0, 1) := by decide +kernel
theorem dX10_order_60 : decode cX10_order 60 = .ok (.getfield 78, 3) := by decide +kernel
theorem dX10_order_63 : decode cX10_order 63 = .ok (.iconst 0, 1) := by decide +kernel
theorem dX10_order_64 : decode cX10_order 64 = .ok (.iaload, 1) := by decide +kernel
theorem dX10_order_65 : decode cX10_order 65 = .ok (.goto 8, 3) := by decide +kernel
theorem dX10_order_68 : decode cX10_order 68 = .ok (.aload_n 0, 1) := by decide +kernel
theorem dX10_order_69 : decode cX10_order 69 = .ok (.iload_n 1, 1) := by decide +kernel
theorem dX10_order_70 : decode cX10_order 70 = .ok (.invokevirtual 259, 3) := by decide +kernel
theorem dX10_order_73 : decode cX10_order 73 = .ok (.ireturn, 1) := by decide +kernel
theorem dX10_sees_0 : decode cX10_sees 0 = .ok (.aload_n 0, 1) := by decide +kernel
theorem dX10_sees_1 : decode cX10_sees 1 = .ok (.iconst 0, 1) := by decide +kernel
theorem dX10_sees_2 : decode cX10_sees 2 = .ok (.putfield 81, 3) := by decide +kernel
theorem dX10_sees_5 : decode cX10_sees 5 = .ok (.iload_n 1, 1) := by decide +kernel
theorem dX10_sees_6 : decode cX10_sees 6 = .ok (.iconst 0, 1) := by decide +kernel
theorem dX10_sees_7 : decode cX10_sees 7 = .ok (.iconst 1, 1) := by decide +kernel
theorem dX10_sees_8 : decode cX10_sees 8 = .ok (.invokestatic 85, 3) := by decide +kernel
theorem dX10_sees_11 : decode cX10_sees 11 = .ok (.ifCond .eq 22, 3) := by decide +kernel
theorem dX10_sees_14 : decode cX10_sees 14 = .ok (.iload_n 2, 1) := by decide +kernel
theorem dX10_sees_15 : decode cX10_sees 15 = .ok (.iconst 0, 1) := by decide +kernel
theorem dX10_sees_16 : decode cX10_sees 16 = .ok (.iconst 3, 1) := by decide +kernel
theorem dX10_sees_17 : decode cX10_sees 17 = .ok (.invokestatic 85, 3) := by decide +kernel
theorem dX10_sees_20 : decode cX10_sees 20 = .ok (.ifCond .eq 13, 3) := by decide +kernel
theorem dX10_sees_23 : decode cX10_sees 23 = .ok (.iload_n 3, 1) := by decide +kernel
theorem dX10_sees_24 : decode cX10_sees 24 = .ok (.iconst 0, 1) := by decide +kernel
theorem dX10_sees_25 : decode cX10_sees 25 = .ok (.bipush 99, 2) := by decide +kernel
theorem dX10_sees_27 : decode cX10_sees 27 = .ok (.invokestatic 85, 3) := by decide +kernel
theorem dX10_sees_30 : decode cX10_sees 30 = .ok (.ifCond .ne 5, 3) := by decide +kernel
theorem dX10_sees_33 : decode cX10_sees 33 = .ok (.iconst (-1), 1) := by decide +kernel
theorem dX10_sees_34 : decode cX10_sees 34 = .ok (.ireturn, 1) := by decide +kernel
theorem dX10_sees_35 : decode cX10_sees 35 = .ok (.aload_n 0, 1) := by decide +kernel
theorem dX10_sees_36 : decode cX10_sees 36 = .ok (.getfield 262, 3) := by decide +kernel
theorem dX10_sees_39 : decode cX10_sees 39 = .ok (.bipush 6, 2) := by decide +kernel
theorem dX10_sees_41 : decode cX10_sees 41 = .ok (.if_icmp .ne 6, 3) := by decide +kernel
theorem dX10_sees_44 : decode cX10_sees 44 = .ok (.bipush (-3), 2) := by decide +kernel
theorem dX10_sees_46 : decode cX10_sees 46 = .ok (.ireturn, 1) := by decide +kernel
theorem dX10_sees_47 : decode cX10_sees 47 = .ok (.aload_n 0, 1) := by decide +kernel
theorem dX10_sees_48 : decode cX10_sees 48 = .ok (.getfield 26, 3) := by decide +kernel
theorem dX10_sees_51 : decode cX10_sees 51 = .ok (.iconst 3, 1) := by decide +kernel
theorem dX10_sees_52 : decode cX10_sees 52 = .ok (.aload_n 0, 1) := by decide +kernel
theorem dX10_sees_53 : decode cX10_sees 53 = .ok (.getfield 262, 3) := by decide +kernel
theorem dX10_sees_56 : decode cX10_sees 56 = .ok (.imul, 1) := by decide +kernel
theorem dX10_sees_57 : decode cX10_sees 57 = .ok (.iload_n 1, 1) := by decide +kernel
theorem dX10_sees_58 : decode cX10_sees 58 = .ok (.iastore, 1) := by decide +kernel
theorem dX10_sees_59 : decode cX10_sees 59 = .ok (.aload_n 0, 1) := by decide +kernel
theorem dX10_sees_60 : decode cX10_sees 60 = .ok (.getfield 26, 3) := by decide +kernel
theorem dX10_sees_63 : decode cX10_sees 63 = .ok (.iconst 3, 1) := by decide +kernel
theorem dX10_sees_64 : decode cX10_sees 64 = .ok (.aload_n 0, 1) := by decide +kernel
theorem dX10_sees_65 : decode cX10_sees 65 = .ok (.getfield 262, 3) := by decide +kernel
theorem dX10_sees_68 : decode cX10_sees 68 = .ok (.imul, 1) := by decide +kernel
theorem dX10_sees_69 : decode cX10_sees 69 = .ok (.iconst 1, 1) := by decide +kernel
theorem dX10_sees_70 : decode cX10_sees 70 = .ok (.iadd, 1) := by decide +kernel
theorem dX10_sees_71 : decode cX10_sees 71 = .ok (.iload_n 2, 1) := by decide +kernel
theorem dX10_sees_72 : decode cX10_sees 72 = .ok (.iastore, 1) := by decide +kernel
theorem dX10_sees_73 : decode cX10_sees 73 = .ok (.aload_n 0, 1) := by decide +kernel
theorem dX10_sees_74 : decode cX10_sees 74 = .ok (.getfield 26, 3) := by decide +kernel
theorem dX10_sees_77 : decode cX10_sees 77 = .ok (.iconst 3, 1) := by decide +kernel
theorem dX10_sees_78 : decode cX10_sees 78 = .ok (.aload_n 0, 1) := by decide +kernel
theorem dX10_sees_79 : decode cX10_sees 79 = .ok (.getfield 262, 3) := by decide +kernel
theorem dX10_sees_82 : decode cX10_sees 82 = .ok (.imul, 1) := by decide +kernel
theorem dX10_sees_83 : decode cX10_sees 83 = .ok (.iconst 2, 1) := by decide +kernel
theorem dX10_sees_84 : decode cX10_sees 84 = .ok (.iadd, 1) := by decide +kernel
theorem dX10_sees_85 : decode cX10_sees 85 = .ok (.iload_n 3, 1) := by decide +kernel
theorem dX10_sees_86 : decode cX10_sees 86 = .ok (.iastore, 1) := by decide +kernel
theorem dX10_sees_87 : decode cX10_sees 87 = .ok (.aload_n 0, 1) := by decide +kernel
theorem dX10_sees_88 : decode cX10_sees 88 = .ok (.dup, 1) := by decide +kernel
theorem dX10_sees_89 : decode cX10_sees 89 = .ok (.getfield 262, 3) := by decide +kernel
theorem dX10_sees_92 : decode cX10_sees 92 = .ok (.iconst 1, 1) := by decide +kernel
theorem dX10_sees_93 : decode cX10_sees 93 = .ok (.iadd, 1) := by decide +kernel
theorem dX10_sees_94 : decode cX10_sees 94 = .ok (.putfield 262, 3) := by decide +kernel
theorem dX10_sees_97 : decode cX10_sees 97 = .ok (.aload_n 0, 1) := by decide +kernel
theorem dX10_sees_98 : decode cX10_sees 98 = .ok (.getfield 262, 3) := by decide +kernel
theorem dX10_sees_101 : decode cX10_sees 101 = .ok (.ireturn, 1) := by decide +kernel
theorem dX10_forget_0 : decode cX10_forget 0 = .ok (.aload_n 0, 1) := by decide +kernel
theorem dX10_forget_1 : decode cX10_forget 1 = .ok (.iconst 0, 1) := by decide +kernel
theorem dX10_forget_2 : decode cX10_forget 2 = .ok (.putfield 81, 3) := by decide +kernel
theorem dX10_forget_5 : decode cX10_forget 5 = .ok (.aload_n 0, 1) := by decide +kernel
theorem dX10_forget_6 : decode cX10_forget 6 = .ok (.getfield 262, 3) := by decide +kernel
theorem dX10_forget_9 : decode cX10_forget 9 = .ok (.istore_n 1, 1) := by decide +kernel
theorem dX10_forget_10 : decode cX10_forget 10 = .ok (.aload_n 0, 1) := by decide +kernel
theorem dX10_forget_11 : decode cX10_forget 11 = .ok (.iconst 0, 1) := by decide +kernel
theorem dX10_forget_12 : decode cX10_forget 12 = .ok (.putfield 262, 3) := by decide +kernel
theorem dX10_forget_15 : decode cX10_forget 15 = .ok (.iload_n 1, 1) := by decide +kernel
theorem dX10_forget_16 : decode cX10_forget 16 = .ok (.ireturn, 1) := by decide +kernel
theorem dX10_isSo_0 : decode cX10_isSo 0 = .ok (.iconst 1, 1) := by decide +kernel
theorem dX10_isSo_1 : decode cX10_isSo 1 = .ok (.istore_n 2, 1) := by decide +kernel
theorem dX10_isSo_2 : decode cX10_isSo 2 = .ok (.iconst 0, 1) := by decide +kernel
theorem dX10_isSo_3 : decode cX10_isSo 3 = .ok (.istore_n 3, 1) := by decide +kernel
theorem dX10_isSo_4 : decode cX10_isSo 4 = .ok (.iload_n 3, 1) := by decide +kernel
theorem dX10_isSo_5 : decode cX10_isSo 5 = .ok (.aload_n 0, 1) := by decide +kernel
theorem dX10_isSo_6 : decode cX10_isSo 6 = .ok (.getfield 262, 3) := by decide +kernel
theorem dX10_isSo_9 : decode cX10_isSo 9 = .ok (.if_icmp .ge 55, 3) := by decide +kernel
theorem dX10_isSo_12 : decode cX10_isSo 12 = .ok (.iload_n 2, 1) := by decide +kernel
theorem dX10_isSo_13 : decode cX10_isSo 13 = .ok (.ifCond .eq 51, 3) := by decide +kernel
theorem dX10_isSo_16 : decode cX10_isSo 16 = .ok (.aload_n 0, 1) := by decide +kernel
theorem dX10_isSo_17 : decode cX10_isSo 17 = .ok (.iload_n 1, 1) := by decide +kernel
theorem dX10_isSo_18 : decode cX10_isSo 18 = .ok (.aload_n 0, 1) := by decide +kernel
theorem dX10_isSo_19 : decode cX10_isSo 19 = .ok (.getfield 26, 3) := by decide +kernel
theorem dX10_isSo_22 : decode cX10_isSo 22 = .ok (.iconst 3, 1) := by decide +kernel
theorem dX10_isSo_23 : decode cX10_isSo 23 = .ok (.iload_n 3, 1) := by decide +kernel
theorem dX10_isSo_24 : decode cX10_isSo 24 = .ok (.imul, 1) := by decide +kernel
theorem dX10_isSo_25 : decode cX10_isSo 25 = .ok (.iaload, 1) := by decide +kernel
theorem dX10_isSo_26 : decode cX10_isSo 26 = .ok (.aload_n 0, 1) := by decide +kernel
theorem dX10_isSo_27 : decode cX10_isSo 27 = .ok (.getfield 26, 3) := by decide +kernel
theorem dX10_isSo_30 : decode cX10_isSo 30 = .ok (.iconst 3, 1) := by decide +kernel
theorem dX10_isSo_31 : decode cX10_isSo 31 = .ok (.iload_n 3, 1) := by decide +kernel
theorem dX10_isSo_32 : decode cX10_isSo 32 = .ok (.imul, 1) := by decide +kernel
theorem dX10_isSo_33 : decode cX10_isSo 33 = .ok (.iconst 1, 1) := by decide +kernel
theorem dX10_isSo_34 : decode cX10_isSo 34 = .ok (.iadd, 1) := by decide +kernel
theorem dX10_isSo_35 : decode cX10_isSo 35 = .ok (.iaload, 1) := by decide +kernel
theorem dX10_isSo_36 : decode cX10_isSo 36 = .ok (.invokevirtual 214, 3) := by decide +kernel
theorem dX10_isSo_39 : decode cX10_isSo 39 = .ok (.aload_n 0, 1) := by decide +kernel
theorem dX10_isSo_40 : decode cX10_isSo 40 = .ok (.getfield 26, 3) := by decide +kernel
theorem dX10_isSo_43 : decode cX10_isSo 43 = .ok (.iconst 3, 1) := by decide +kernel
theorem dX10_isSo_44 : decode cX10_isSo 44 = .ok (.iload_n 3, 1) := by decide +kernel
theorem dX10_isSo_45 : decode cX10_isSo 45 = .ok (.imul, 1) := by decide +kernel
theorem dX10_isSo_46 : decode cX10_isSo 46 = .ok (.iconst 2, 1) := by decide +kernel
theorem dX10_isSo_47 : decode cX10_isSo 47 = .ok (.iadd, 1) := by decide +kernel
theorem dX10_isSo_48 : decode cX10_isSo 48 = .ok (.iaload, 1) := by decide +kernel
theorem dX10_isSo_49 : decode cX10_isSo 49 = .ok (.if_icmp .ne 7, 3) := by decide +kernel
theorem dX10_isSo_52 : decode cX10_isSo 52 = .ok (.iconst 1, 1) := by decide +kernel
theorem dX10_isSo_53 : decode cX10_isSo 53 = .ok (.goto 4, 3) := by decide +kernel
theorem dX10_isSo_56 : decode cX10_isSo 56 = .ok (.iconst 0, 1) := by decide +kernel
theorem dX10_isSo_57 : decode cX10_isSo 57 = .ok (.istore_n 2, 1) := by decide +kernel
theorem dX10_isSo_58 : decode cX10_isSo 58 = .ok (.iinc 3 1, 3) := by decide +kernel
theorem dX10_isSo_61 : decode cX10_isSo 61 = .ok (.goto (-57), 3) := by decide +kernel
theorem dX10_isSo_64 : decode cX10_isSo 64 = .ok (.iload_n 2, 1) := by decide +kernel
theorem dX10_isSo_65 : decode cX10_isSo 65 = .ok (.ireturn, 1) := by decide +kernel
theorem dX10_which_0 : decode cX10_which 0 = .ok (.aload_n 0, 1) := by decide +kernel
theorem dX10_which_1 : decode cX10_which 1 = .ok (.iconst 0, 1) := by decide +kernel
theorem dX10_which_2 : decode cX10_which 2 = .ok (.putfield 81, 3) := by decide +kernel
theorem dX10_which_5 : decode cX10_which 5 = .ok (.iload_n 1, 1) := by decide +kernel
theorem dX10_which_6 : decode cX10_which 6 = .ok (.iconst 0, 1) := by decide +kernel
theorem dX10_which_7 : decode cX10_which 7 = .ok (.iconst 1, 1) := by decide +kernel
theorem dX10_which_8 : decode cX10_which 8 = .ok (.invokestatic 85, 3) := by decide +kernel
theorem dX10_which_11 : decode cX10_which 11 = .ok (.ifCond .ne 5, 3) := by decide +kernel
theorem dX10_which_14 : decode cX10_which 14 = .ok (.iconst (-1), 1) := by decide +kernel
theorem dX10_which_15 : decode cX10_which 15 = .ok (.ireturn, 1) := by decide +kernel
theorem dX10_which_16 : decode cX10_which 16 = .ok (.aload_n 0, 1) := by decide +kernel
theorem dX10_which_17 : decode cX10_which 17 = .ok (.invokevirtual 228, 3) := by decide +kernel
theorem dX10_which_20 : decode cX10_which 20 = .ok (.iconst 0, 1) := by decide +kernel
theorem dX10_which_21 : decode cX10_which 21 = .ok (.istore_n 2, 1) := by decide +kernel
theorem dX10_which_22 : decode cX10_which 22 = .ok (.bipush (-9), 2) := by decide +kernel
theorem dX10_which_24 : decode cX10_which 24 = .ok (.istore_n 3, 1) := by decide +kernel
theorem dX10_which_25 : decode cX10_which 25 = .ok (.iconst 0, 1) := by decide +kernel
theorem dX10_which_26 : decode cX10_which 26 = .ok (.istore 4, 2) := by decide +kernel
theorem dX10_which_28 : decode cX10_which 28 = .ok (.iload 4, 2) := by decide +kernel
theorem dX10_which_30 : decode cX10_which 30 = .ok (.aload_n 0, 1) := by decide +kernel
theorem dX10_which_31 : decode cX10_which 31 = .ok (.getfield 160, 3) := by decide +kernel
theorem dX10_which_34 : decode cX10_which 34 = .ok (.if_icmp .ge 32, 3) := by decide +kernel
theorem dX10_which_37 : decode cX10_which 37 = .ok (.aload_n 0, 1) := by decide +kernel
theorem dX10_which_38 : decode cX10_which 38 = .ok (.iload 4, 2) := by decide +kernel
theorem dX10_which_40 : decode cX10_which 40 = .ok (.invokevirtual 265, 3) := by decide +kernel
theorem dX10_which_43 : decode cX10_which 43 = .ok (.ifCond .eq 17, 3) := by decide +kernel
theorem dX10_which_46 : decode cX10_which 46 = .ok (.iload_n 2, 1) := by decide +kernel
theorem dX10_which_47 : decode cX10_which 47 = .ok (.ifCond .ne 8, 3) := by decide +kernel
theorem dX10_which_50 : decode cX10_which 50 = .ok (.iload 4, 2) := by decide +kernel
theorem dX10_which_52 : decode cX10_which 52 = .ok (.goto 4, 3) := by decide +kernel
theorem dX10_which_55 : decode cX10_which 55 = .ok (.iload_n 3, 1) := by decide +kernel
theorem dX10_which_56 : decode cX10_which 56 = .ok (.istore_n 3, 1) := by decide +kernel
theorem dX10_which_57 : decode cX10_which 57 = .ok (.iinc 2 1, 3) := by decide +kernel
theorem dX10_which_60 : decode cX10_which 60 = .ok (.iinc 4 1, 3) := by decide +kernel
theorem dX10_which_63 : decode cX10_which 63 = .ok (.goto (-35), 3) := by decide +kernel
theorem dX10_which_66 : decode cX10_which 66 = .ok (.iload_n 1, 1) := by decide +kernel
theorem dX10_which_67 : decode cX10_which 67 = .ok (.ifCond .ne 7, 3) := by decide +kernel
theorem dX10_which_70 : decode cX10_which 70 = .ok (.iload_n 2, 1) := by decide +kernel
theorem dX10_which_71 : decode cX10_which 71 = .ok (.goto 4, 3) := by decide +kernel
theorem dX10_which_74 : decode cX10_which 74 = .ok (.iload_n 3, 1) := by decide +kernel
theorem dX10_which_75 : decode cX10_which 75 = .ok (.ireturn, 1) := by decide +kernel
theorem dX10_fieldsNow_0 : decode cX10_fieldsNow 0 = .ok (.aload_n 0, 1) := by decide +kernel
theorem dX10_fieldsNow_1 : decode cX10_fieldsNow 1 = .ok (.invokevirtual 228, 3) := by decide +kernel
theorem dX10_fieldsNow_4 : decode cX10_fieldsNow 4 = .ok (.aload_n 0, 1) := by decide +kernel
theorem dX10_fieldsNow_5 : decode cX10_fieldsNow 5 = .ok (.getfield 160, 3) := by decide +kernel
theorem dX10_fieldsNow_8 : decode cX10_fieldsNow 8 = .ok (.ireturn, 1) := by decide +kernel
theorem dX10_keep_0 : decode cX10_keep 0 = .ok (.aload_n 0, 1) := by decide +kernel
theorem dX10_keep_1 : decode cX10_keep 1 = .ok (.iconst 0, 1) := by decide +kernel
theorem dX10_keep_2 : decode cX10_keep 2 = .ok (.putfield 81, 3) := by decide +kernel
theorem dX10_keep_5 : decode cX10_keep 5 = .ok (.iload_n 1, 1) := by decide +kernel
theorem dX10_keep_6 : decode cX10_keep 6 = .ok (.iconst 0, 1) := by decide +kernel
theorem dX10_keep_7 : decode cX10_keep 7 = .ok (.iconst 1, 1) := by decide +kernel
theorem dX10_keep_8 : decode cX10_keep 8 = .ok (.invokestatic 85, 3) := by decide +kernel
theorem dX10_keep_11 : decode cX10_keep 11 = .ok (.ifCond .ne 5, 3) := by decide +kernel
theorem dX10_keep_14 : decode cX10_keep 14 = .ok (.iconst (-1), 1) := by decide +kernel
theorem dX10_keep_15 : decode cX10_keep 15 = .ok (.ireturn, 1) := by decide +kernel
theorem dX10_keep_16 : decode cX10_keep 16 = .ok (.iconst 0, 1) := by decide +kernel
theorem dX10_keep_17 : decode cX10_keep 17 = .ok (.istore_n 2, 1) := by decide +kernel
theorem dX10_keep_18 : decode cX10_keep 18 = .ok (.iload_n 2, 1) := by decide +kernel
theorem dX10_keep_19 : decode cX10_keep 19 = .ok (.bipush 60, 2) := by decide +kernel
theorem dX10_keep_21 : decode cX10_keep 21 = .ok (.if_icmp .ge 26, 3) := by decide +kernel
theorem dX10_keep_24 : decode cX10_keep 24 = .ok (.aload_n 0, 1) := by decide +kernel
theorem dX10_keep_25 : decode cX10_keep 25 = .ok (.getfield 19, 3) := by decide +kernel
theorem dX10_keep_28 : decode cX10_keep 28 = .ok (.bipush 60, 2) := by decide +kernel
theorem dX10_keep_30 : decode cX10_keep 30 = .ok (.iload_n 1, 1) := by decide +kernel
theorem dX10_keep_31 : decode cX10_keep 31 = .ok (.imul, 1) := by decide +kernel
theorem dX10_keep_32 : decode cX10_keep 32 = .ok (.iload_n 2, 1) := by decide +kernel
theorem dX10_keep_33 : decode cX10_keep 33 = .ok (.iadd, 1) := by decide +kernel
theorem dX10_keep_34 : decode cX10_keep 34 = .ok (.aload_n 0, 1) := by decide +kernel
theorem dX10_keep_35 : decode cX10_keep 35 = .ok (.getfield 7, 3) := by decide +kernel
theorem dX10_keep_38 : decode cX10_keep 38 = .ok (.iload_n 2, 1) := by decide +kernel
theorem dX10_keep_39 : decode cX10_keep 39 = .ok (.iaload, 1) := by decide +kernel
theorem dX10_keep_40 : decode cX10_keep 40 = .ok (.iastore, 1) := by decide +kernel
theorem dX10_keep_41 : decode cX10_keep 41 = .ok (.iinc 2 1, 3) := by decide +kernel
theorem dX10_keep_44 : decode cX10_keep 44 = .ok (.goto (-26), 3) := by decide +kernel
theorem dX10_keep_47 : decode cX10_keep 47 = .ok (.aload_n 0, 1) := by decide +kernel
theorem dX10_keep_48 : decode cX10_keep 48 = .ok (.getfield 22, 3) := by decide +kernel
theorem dX10_keep_51 : decode cX10_keep 51 = .ok (.iload_n 1, 1) := by decide +kernel
theorem dX10_keep_52 : decode cX10_keep 52 = .ok (.iconst 1, 1) := by decide +kernel
theorem dX10_keep_53 : decode cX10_keep 53 = .ok (.bastore, 1) := by decide +kernel
theorem dX10_keep_54 : decode cX10_keep 54 = .ok (.aload_n 0, 1) := by decide +kernel
theorem dX10_keep_55 : decode cX10_keep 55 = .ok (.invokevirtual 268, 3) := by decide +kernel
theorem dX10_keep_58 : decode cX10_keep 58 = .ok (.ireturn, 1) := by decide +kernel
theorem dX10_back_0 : decode cX10_back 0 = .ok (.aload_n 0, 1) := by decide +kernel
theorem dX10_back_1 : decode cX10_back 1 = .ok (.iconst 0, 1) := by decide +kernel
theorem dX10_back_2 : decode cX10_back 2 = .ok (.putfield 81, 3) := by decide +kernel
theorem dX10_back_5 : decode cX10_back 5 = .ok (.iload_n 1, 1) := by decide +kernel
theorem dX10_back_6 : decode cX10_back 6 = .ok (.iconst 0, 1) := by decide +kernel
theorem dX10_back_7 : decode cX10_back 7 = .ok (.iconst 1, 1) := by decide +kernel
theorem dX10_back_8 : decode cX10_back 8 = .ok (.invokestatic 85, 3) := by decide +kernel
theorem dX10_back_11 : decode cX10_back 11 = .ok (.ifCond .ne 5, 3) := by decide +kernel
theorem dX10_back_14 : decode cX10_back 14 = .ok (.iconst (-1), 1) := by decide +kernel
theorem dX10_back_15 : decode cX10_back 15 = .ok (.ireturn, 1) := by decide +kernel
theorem dX10_back_16 : decode cX10_back 16 = .ok (.aload_n 0, 1) := by decide +kernel
theorem dX10_back_17 : decode cX10_back 17 = .ok (.getfield 22, 3) := by decide +kernel
theorem dX10_back_20 : decode cX10_back 20 = .ok (.iload_n 1, 1) := by decide +kernel
theorem dX10_back_21 : decode cX10_back 21 = .ok (.baload, 1) := by decide +kernel
theorem dX10_back_22 : decode cX10_back 22 = .ok (.ifCond .ne 6, 3) := by decide +kernel
theorem dX10_back_25 : decode cX10_back 25 = .ok (.bipush (-2), 2) := by decide +kernel
theorem dX10_back_27 : decode cX10_back 27 = .ok (.ireturn, 1) := by decide +kernel
theorem dX10_back_28 : decode cX10_back 28 = .ok (.iconst 0, 1) := by decide +kernel
theorem dX10_back_29 : decode cX10_back 29 = .ok (.istore_n 2, 1) := by decide +kernel
theorem dX10_back_30 : decode cX10_back 30 = .ok (.iload_n 2, 1) := by decide +kernel
theorem dX10_back_31 : decode cX10_back 31 = .ok (.bipush 60, 2) := by decide +kernel
theorem dX10_back_33 : decode cX10_back 33 = .ok (.if_icmp .ge 26, 3) := by decide +kernel
theorem dX10_back_36 : decode cX10_back 36 = .ok (.aload_n 0, 1) := by decide +kernel
theorem dX10_back_37 : decode cX10_back 37 = .ok (.getfield 7, 3) := by decide +kernel
theorem dX10_back_40 : decode cX10_back 40 = .ok (.iload_n 2, 1) := by decide +kernel
theorem dX10_back_41 : decode cX10_back 41 = .ok (.aload_n 0, 1) := by decide +kernel
theorem dX10_back_42 : decode cX10_back 42 = .ok (.getfield 19, 3) := by decide +kernel
theorem dX10_back_45 : decode cX10_back 45 = .ok (.bipush 60, 2) := by decide +kernel
theorem dX10_back_47 : decode cX10_back 47 = .ok (.iload_n 1, 1) := by decide +kernel
theorem dX10_back_48 : decode cX10_back 48 = .ok (.imul, 1) := by decide +kernel
theorem dX10_back_49 : decode cX10_back 49 = .ok (.iload_n 2, 1) := by decide +kernel
theorem dX10_back_50 : decode cX10_back 50 = .ok (.iadd, 1) := by decide +kernel
theorem dX10_back_51 : decode cX10_back 51 = .ok (.iaload, 1) := by decide +kernel
theorem dX10_back_52 : decode cX10_back 52 = .ok (.iastore, 1) := by decide +kernel
theorem dX10_back_53 : decode cX10_back 53 = .ok (.iinc 2 1, 3) := by decide +kernel
theorem dX10_back_56 : decode cX10_back 56 = .ok (.goto (-26), 3) := by decide +kernel
theorem dX10_back_59 : decode cX10_back 59 = .ok (.aload_n 0, 1) := by decide +kernel
theorem dX10_back_60 : decode cX10_back 60 = .ok (.iconst 0, 1) := by decide +kernel
theorem dX10_back_61 : decode cX10_back 61 = .ok (.putfield 144, 3) := by decide +kernel
theorem dX10_back_64 : decode cX10_back 64 = .ok (.aload_n 0, 1) := by decide +kernel
theorem dX10_back_65 : decode cX10_back 65 = .ok (.invokevirtual 268, 3) := by decide +kernel
theorem dX10_back_68 : decode cX10_back 68 = .ok (.ireturn, 1) := by decide +kernel
theorem dX10_coloured_0 : decode cX10_coloured 0 = .ok (.iconst 0, 1) := by decide +kernel
theorem dX10_coloured_1 : decode cX10_coloured 1 = .ok (.istore_n 1, 1) := by decide +kernel
theorem dX10_coloured_2 : decode cX10_coloured 2 = .ok (.iconst 0, 1) := by decide +kernel
theorem dX10_coloured_3 : decode cX10_coloured 3 = .ok (.istore_n 2, 1) := by decide +kernel
theorem dX10_coloured_4 : decode cX10_coloured 4 = .ok (.iload_n 2, 1) := by decide +kernel
theorem dX10_coloured_5 : decode cX10_coloured 5 = .ok (.aload_n 0, 1) := by decide +kernel
theorem dX10_coloured_6 : decode cX10_coloured 6 = .ok (.invokevirtual 151, 3) := by decide +kernel
theorem dX10_coloured_9 : decode cX10_coloured 9 = .ok (.if_icmp .ge 29, 3) := by decide +kernel
theorem dX10_coloured_12 : decode cX10_coloured 12 = .ok (.iload_n 1, 1) := by decide +kernel
theorem dX10_coloured_13 : decode cX10_coloured 13 = .ok (.aload_n 0, 1) := by decide +kernel
theorem dX10_coloured_14 : decode cX10_coloured 14 = .ok (.getfield 7, 3) := by decide +kernel
theorem dX10_coloured_17 : decode cX10_coloured 17 = .ok (.bipush 12, 2) := by decide +kernel
theorem dX10_coloured_19 : decode cX10_coloured 19 = .ok (.iload_n 2, 1) := by decide +kernel
theorem dX10_coloured_20 : decode cX10_coloured 20 = .ok (.iadd, 1) := by decide +kernel
theorem dX10_coloured_21 : decode cX10_coloured 21 = .ok (.iaload, 1) := by decide +kernel
theorem dX10_coloured_22 : decode cX10_coloured 22 = .ok (.ifCond .le 7, 3) := by decide +kernel
theorem dX10_coloured_25 : decode cX10_coloured 25 = .ok (.iconst 1, 1) := by decide +kernel
theorem dX10_coloured_26 : decode cX10_coloured 26 = .ok (.goto 4, 3) := by decide +kernel
theorem dX10_coloured_29 : decode cX10_coloured 29 = .ok (.iconst 0, 1) := by decide +kernel
theorem dX10_coloured_30 : decode cX10_coloured 30 = .ok (.iadd, 1) := by decide +kernel
theorem dX10_coloured_31 : decode cX10_coloured 31 = .ok (.istore_n 1, 1) := by decide +kernel
theorem dX10_coloured_32 : decode cX10_coloured 32 = .ok (.iinc 2 1, 3) := by decide +kernel
theorem dX10_coloured_35 : decode cX10_coloured 35 = .ok (.goto (-31), 3) := by decide +kernel
theorem dX10_coloured_38 : decode cX10_coloured 38 = .ok (.iload_n 1, 1) := by decide +kernel
theorem dX10_coloured_39 : decode cX10_coloured 39 = .ok (.ireturn, 1) := by decide +kernel
theorem dX10_count_0 : decode cX10_count 0 = .ok (.aload_n 0, 1) := by decide +kernel
theorem dX10_count_1 : decode cX10_count 1 = .ok (.iconst 0, 1) := by decide +kernel
theorem dX10_count_2 : decode cX10_count 2 = .ok (.putfield 81, 3) := by decide +kernel
theorem dX10_count_5 : decode cX10_count 5 = .ok (.iload_n 1, 1) := by decide +kernel
theorem dX10_count_6 : decode cX10_count 6 = .ok (.tableswitch 103 0 8 #[50, 57, 64, 69, 76, 83, 88, 93, 98], 50) := by decide +kernel
theorem dX10_count_56 : decode cX10_count 56 = .ok (.aload_n 0, 1) := by decide +kernel
theorem dX10_count_57 : decode cX10_count 57 = .ok (.getfield 7, 3) := by decide +kernel
theorem dX10_count_60 : decode cX10_count 60 = .ok (.iconst 0, 1) := by decide +kernel
theorem dX10_count_61 : decode cX10_count 61 = .ok (.iaload, 1) := by decide +kernel
theorem dX10_count_62 : decode cX10_count 62 = .ok (.ireturn, 1) := by decide +kernel
theorem dX10_count_63 : decode cX10_count 63 = .ok (.aload_n 0, 1) := by decide +kernel
theorem dX10_count_64 : decode cX10_count 64 = .ok (.getfield 7, 3) := by decide +kernel
theorem dX10_count_67 : decode cX10_count 67 = .ok (.iconst 1, 1) := by decide +kernel
theorem dX10_count_68 : decode cX10_count 68 = .ok (.iaload, 1) := by decide +kernel
theorem dX10_count_69 : decode cX10_count 69 = .ok (.ireturn, 1) := by decide +kernel
theorem dX10_count_70 : decode cX10_count 70 = .ok (.aload_n 0, 1) := by decide +kernel
theorem dX10_count_71 : decode cX10_count 71 = .ok (.invokevirtual 268, 3) := by decide +kernel
theorem dX10_count_74 : decode cX10_count 74 = .ok (.ireturn, 1) := by decide +kernel
theorem dX10_count_75 : decode cX10_count 75 = .ok (.aload_n 0, 1) := by decide +kernel
theorem dX10_count_76 : decode cX10_count 76 = .ok (.getfield 7, 3) := by decide +kernel
theorem dX10_count_79 : decode cX10_count 79 = .ok (.iconst 2, 1) := by decide +kernel
theorem dX10_count_80 : decode cX10_count 80 = .ok (.iaload, 1) := by decide +kernel
theorem dX10_count_81 : decode cX10_count 81 = .ok (.ireturn, 1) := by decide +kernel
theorem dX10_count_82 : decode cX10_count 82 = .ok (.aload_n 0, 1) := by decide +kernel
theorem dX10_count_83 : decode cX10_count 83 = .ok (.getfield 7, 3) := by decide +kernel
theorem dX10_count_86 : decode cX10_count 86 = .ok (.iconst 3, 1) := by decide +kernel
theorem dX10_count_87 : decode cX10_count 87 = .ok (.iaload, 1) := by decide +kernel
theorem dX10_count_88 : decode cX10_count 88 = .ok (.ireturn, 1) := by decide +kernel
theorem dX10_count_89 : decode cX10_count 89 = .ok (.aload_n 0, 1) := by decide +kernel
theorem dX10_count_90 : decode cX10_count 90 = .ok (.invokevirtual 271, 3) := by decide +kernel
theorem dX10_count_93 : decode cX10_count 93 = .ok (.ireturn, 1) := by decide +kernel
theorem dX10_count_94 : decode cX10_count 94 = .ok (.aload_n 0, 1) := by decide +kernel
theorem dX10_count_95 : decode cX10_count 95 = .ok (.getfield 262, 3) := by decide +kernel
theorem dX10_count_98 : decode cX10_count 98 = .ok (.ireturn, 1) := by decide +kernel
theorem dX10_count_99 : decode cX10_count 99 = .ok (.aload_n 0, 1) := by decide +kernel
theorem dX10_count_100 : decode cX10_count 100 = .ok (.getfield 89, 3) := by decide +kernel
theorem dX10_count_103 : decode cX10_count 103 = .ok (.ireturn, 1) := by decide +kernel
theorem dX10_count_104 : decode cX10_count 104 = .ok (.aload_n 0, 1) := by decide +kernel
theorem dX10_count_105 : decode cX10_count 105 = .ok (.getfield 144, 3) := by decide +kernel
theorem dX10_count_108 : decode cX10_count 108 = .ok (.ireturn, 1) := by decide +kernel
theorem dX10_count_109 : decode cX10_count 109 = .ok (.iconst (-1), 1) := by decide +kernel
theorem dX10_count_110 : decode cX10_count 110 = .ok (.ireturn, 1) := by decide +kernel
theorem dJ9_max_7cf53_0 : decode cJ9_max_7cf53 0 = .ok (.iload_n 0, 1) := by decide +kernel
theorem dJ9_max_7cf53_1 : decode cJ9_max_7cf53 1 = .ok (.iload_n 1, 1) := by decide +kernel
theorem dJ9_max_7cf53_2 : decode cJ9_max_7cf53 2 = .ok (.if_icmp .lt 7, 3) := by decide +kernel
theorem dJ9_max_7cf53_5 : decode cJ9_max_7cf53 5 = .ok (.iload_n 0, 1) := by decide +kernel
theorem dJ9_max_7cf53_6 : decode cJ9_max_7cf53 6 = .ok (.goto 4, 3) := by decide +kernel
theorem dJ9_max_7cf53_9 : decode cJ9_max_7cf53 9 = .ok (.iload_n 1, 1) := by decide +kernel
theorem dJ9_max_7cf53_10 : decode cJ9_max_7cf53 10 = .ok (.ireturn, 1) := by decide +kernel
theorem dJ9_min_7cf53_0 : decode cJ9_min_7cf53 0 = .ok (.iload_n 0, 1) := by decide +kernel
theorem dJ9_min_7cf53_1 : decode cJ9_min_7cf53 1 = .ok (.iload_n 1, 1) := by decide +kernel
theorem dJ9_min_7cf53_2 : decode cJ9_min_7cf53 2 = .ok (.if_icmp .gt 7, 3) := by decide +kernel
theorem dJ9_min_7cf53_5 : decode cJ9_min_7cf53 5 = .ok (.iload_n 0, 1) := by decide +kernel
theorem dJ9_min_7cf53_6 : decode cJ9_min_7cf53 6 = .ok (.goto 4, 3) := by decide +kernel
theorem dJ9_min_7cf53_9 : decode cJ9_min_7cf53 9 = .ok (.iload_n 1, 1) := by decide +kernel
theorem dJ9_min_7cf53_10 : decode cJ9_min_7cf53 10 = .ok (.ireturn, 1) := by decide +kernel
theorem dJ0_length_8abf5_0 : decode cJ0_length_8abf5 0 = .ok (.aload_n 0, 1) := by decide +kernel
theorem dJ0_length_8abf5_1 : decode cJ0_length_8abf5 1 = .ok (.getfield 9, 3) := by decide +kernel
theorem dJ0_length_8abf5_4 : decode cJ0_length_8abf5 4 = .ok (.arraylength, 1) := by decide +kernel
theorem dJ0_length_8abf5_5 : decode cJ0_length_8abf5 5 = .ok (.aload_n 0, 1) := by decide +kernel
theorem dJ0_length_8abf5_6 : decode cJ0_length_8abf5 6 = .ok (.invokevirtual 335, 3) := by decide +kernel
theorem dJ0_length_8abf5_9 : decode cJ0_length_8abf5 9 = .ok (.ishr, 1) := by decide +kernel
theorem dJ0_length_8abf5_10 : decode cJ0_length_8abf5 10 = .ok (.ireturn, 1) := by decide +kernel
theorem dJ0_charAt_5068e_0 : decode cJ0_charAt_5068e 0 = .ok (.aload_n 0, 1) := by decide +kernel
theorem dJ0_charAt_5068e_1 : decode cJ0_charAt_5068e 1 = .ok (.invokevirtual 492, 3) := by decide +kernel
theorem dJ0_charAt_5068e_4 : decode cJ0_charAt_5068e 4 = .ok (.ifCond .eq 12, 3) := by decide +kernel
theorem dJ0_charAt_5068e_7 : decode cJ0_charAt_5068e 7 = .ok (.aload_n 0, 1) := by decide +kernel
theorem dJ0_charAt_5068e_8 : decode cJ0_charAt_5068e 8 = .ok (.getfield 9, 3) := by decide +kernel
theorem dJ0_charAt_5068e_11 : decode cJ0_charAt_5068e 11 = .ok (.iload_n 1, 1) := by decide +kernel
theorem dJ0_charAt_5068e_12 : decode cJ0_charAt_5068e 12 = .ok (.invokestatic 495, 3) := by decide +kernel
theorem dJ0_charAt_5068e_15 : decode cJ0_charAt_5068e 15 = .ok (.ireturn, 1) := by decide +kernel
theorem dJ0_charAt_5068e_16 : decode cJ0_charAt_5068e 16 = .ok (.aload_n 0, 1) := by decide +kernel
theorem dJ0_charAt_5068e_17 : decode cJ0_charAt_5068e 17 = .ok (.getfield 9, 3) := by decide +kernel
theorem dJ0_charAt_5068e_20 : decode cJ0_charAt_5068e 20 = .ok (.iload_n 1, 1) := by decide +kernel
theorem dJ0_charAt_5068e_21 : decode cJ0_charAt_5068e 21 = .ok (.invokestatic 498, 3) := by decide +kernel
theorem dJ0_charAt_5068e_24 : decode cJ0_charAt_5068e 24 = .ok (.ireturn, 1) := by decide +kernel
theorem dJ0_coder_7d493_0 : decode cJ0_coder_7d493 0 = .ok (.getstatic 38, 3) := by decide +kernel
theorem dJ0_coder_7d493_3 : decode cJ0_coder_7d493 3 = .ok (.ifCond .eq 10, 3) := by decide +kernel
theorem dJ0_coder_7d493_6 : decode cJ0_coder_7d493 6 = .ok (.aload_n 0, 1) := by decide +kernel
theorem dJ0_coder_7d493_7 : decode cJ0_coder_7d493 7 = .ok (.getfield 15, 3) := by decide +kernel
theorem dJ0_coder_7d493_10 : decode cJ0_coder_7d493 10 = .ok (.goto 4, 3) := by decide +kernel
theorem dJ0_coder_7d493_13 : decode cJ0_coder_7d493 13 = .ok (.iconst 1, 1) := by decide +kernel
theorem dJ0_coder_7d493_14 : decode cJ0_coder_7d493 14 = .ok (.ireturn, 1) := by decide +kernel
theorem dJ0_isLatin1_aae02_0 : decode cJ0_isLatin1_aae02 0 = .ok (.getstatic 38, 3) := by decide +kernel
theorem dJ0_isLatin1_aae02_3 : decode cJ0_isLatin1_aae02 3 = .ok (.ifCond .eq 14, 3) := by decide +kernel
theorem dJ0_isLatin1_aae02_6 : decode cJ0_isLatin1_aae02 6 = .ok (.aload_n 0, 1) := by decide +kernel
theorem dJ0_isLatin1_aae02_7 : decode cJ0_isLatin1_aae02 7 = .ok (.getfield 15, 3) := by decide +kernel
theorem dJ0_isLatin1_aae02_10 : decode cJ0_isLatin1_aae02 10 = .ok (.ifCond .ne 7, 3) := by decide +kernel
theorem dJ0_isLatin1_aae02_13 : decode cJ0_isLatin1_aae02 13 = .ok (.iconst 1, 1) := by decide +kernel
theorem dJ0_isLatin1_aae02_14 : decode cJ0_isLatin1_aae02 14 = .ok (.goto 4, 3) := by decide +kernel
theorem dJ0_isLatin1_aae02_17 : decode cJ0_isLatin1_aae02 17 = .ok (.iconst 0, 1) := by decide +kernel
theorem dJ0_isLatin1_aae02_18 : decode cJ0_isLatin1_aae02 18 = .ok (.ireturn, 1) := by decide +kernel
theorem dJ0_checkIndex_df160_0 : decode cJ0_checkIndex_df160 0 = .ok (.iload_n 0, 1) := by decide +kernel
theorem dJ0_checkIndex_df160_1 : decode cJ0_checkIndex_df160 1 = .ok (.iload_n 1, 1) := by decide +kernel
theorem dJ0_checkIndex_df160_2 : decode cJ0_checkIndex_df160 2 = .ok (.getstatic 1053, 3) := by decide +kernel
theorem dJ0_checkIndex_df160_5 : decode cJ0_checkIndex_df160 5 = .ok (.invokestatic 1059, 3) := by decide +kernel
theorem dJ0_checkIndex_df160_8 : decode cJ0_checkIndex_df160 8 = .ok (.pop, 1) := by decide +kernel
theorem dJ0_checkIndex_df160_9 : decode cJ0_checkIndex_df160 9 = .ok (.return_, 1) := by decide +kernel
theorem dJ1_charAt_3b067_0 : decode cJ1_charAt_3b067 0 = .ok (.iload_n 1, 1) := by decide +kernel
theorem dJ1_charAt_3b067_1 : decode cJ1_charAt_3b067 1 = .ok (.aload_n 0, 1) := by decide +kernel
theorem dJ1_charAt_3b067_2 : decode cJ1_charAt_3b067 2 = .ok (.arraylength, 1) := by decide +kernel
theorem dJ1_charAt_3b067_3 : decode cJ1_charAt_3b067 3 = .ok (.invokestatic 9, 3) := by decide +kernel
theorem dJ1_charAt_3b067_6 : decode cJ1_charAt_3b067 6 = .ok (.aload_n 0, 1) := by decide +kernel
theorem dJ1_charAt_3b067_7 : decode cJ1_charAt_3b067 7 = .ok (.iload_n 1, 1) := by decide +kernel
theorem dJ1_charAt_3b067_8 : decode cJ1_charAt_3b067 8 = .ok (.baload, 1) := by decide +kernel
theorem dJ1_charAt_3b067_9 : decode cJ1_charAt_3b067 9 = .ok (.sipush 255, 3) := by decide +kernel
theorem dJ1_charAt_3b067_12 : decode cJ1_charAt_3b067 12 = .ok (.iand, 1) := by decide +kernel
theorem dJ1_charAt_3b067_13 : decode cJ1_charAt_3b067 13 = .ok (.i2c, 1) := by decide +kernel
theorem dJ1_charAt_3b067_14 : decode cJ1_charAt_3b067 14 = .ok (.ireturn, 1) := by decide +kernel
theorem dJ2_getChar_3b067_0 : decode cJ2_getChar_3b067 0 = .ok (.getstatic 44, 3) := by decide +kernel
theorem dJ2_getChar_3b067_3 : decode cJ2_getChar_3b067 3 = .ok (.ifCond .ne 25, 3) := by decide +kernel
theorem dJ2_getChar_3b067_6 : decode cJ2_getChar_3b067 6 = .ok (.iload_n 1, 1) := by decide +kernel
theorem dJ2_getChar_3b067_7 : decode cJ2_getChar_3b067 7 = .ok (.ifCond .lt 11, 3) := by decide +kernel
theorem dJ2_getChar_3b067_10 : decode cJ2_getChar_3b067 10 = .ok (.iload_n 1, 1) := by decide +kernel
theorem dJ2_getChar_3b067_11 : decode cJ2_getChar_3b067 11 = .ok (.aload_n 0, 1) := by decide +kernel
theorem dJ2_getChar_3b067_12 : decode cJ2_getChar_3b067 12 = .ok (.invokestatic 48, 3) := by decide +kernel
theorem dJ2_getChar_3b067_15 : decode cJ2_getChar_3b067 15 = .ok (.if_icmp .lt 13, 3) := by decide +kernel
theorem dJ2_getChar_3b067_18 : decode cJ2_getChar_3b067 18 = .ok (.new 52, 3) := by decide +kernel
theorem dJ2_getChar_3b067_21 : decode cJ2_getChar_3b067 21 = .ok (.dup, 1) := by decide +kernel
theorem dJ2_getChar_3b067_22 : decode cJ2_getChar_3b067 22 = .ok (.ldc 54, 2) := by decide +kernel
theorem dJ2_getChar_3b067_24 : decode cJ2_getChar_3b067 24 = .ok (.invokespecial 56, 3) := by decide +kernel
theorem dJ2_getChar_3b067_27 : decode cJ2_getChar_3b067 27 = .ok (.athrow, 1) := by decide +kernel
theorem dJ2_getChar_3b067_28 : decode cJ2_getChar_3b067 28 = .ok (.iload_n 1, 1) := by decide +kernel
theorem dJ2_getChar_3b067_29 : decode cJ2_getChar_3b067 29 = .ok (.iconst 1, 1) := by decide +kernel
theorem dJ2_getChar_3b067_30 : decode cJ2_getChar_3b067 30 = .ok (.ishl, 1) := by decide +kernel
theorem dJ2_getChar_3b067_31 : decode cJ2_getChar_3b067 31 = .ok (.istore_n 1, 1) := by decide +kernel
theorem dJ2_getChar_3b067_32 : decode cJ2_getChar_3b067 32 = .ok (.aload_n 0, 1) := by decide +kernel
theorem dJ2_getChar_3b067_33 : decode cJ2_getChar_3b067 33 = .ok (.iload_n 1, 1) := by decide +kernel
theorem dJ2_getChar_3b067_34 : decode cJ2_getChar_3b067 34 = .ok (.iinc 1 1, 3) := by decide +kernel
theorem dJ2_getChar_3b067_37 : decode cJ2_getChar_3b067 37 = .ok (.baload, 1) := by decide +kernel
theorem dJ2_getChar_3b067_38 : decode cJ2_getChar_3b067 38 = .ok (.sipush 255, 3) := by decide +kernel
theorem dJ2_getChar_3b067_41 : decode cJ2_getChar_3b067 41 = .ok (.iand, 1) := by decide +kernel
theorem dJ2_getChar_3b067_42 : decode cJ2_getChar_3b067 42 = .ok (.getstatic 59, 3) := by decide +kernel
theorem dJ2_getChar_3b067_45 : decode cJ2_getChar_3b067 45 = .ok (.ishl, 1) := by decide +kernel
theorem dJ2_getChar_3b067_46 : decode cJ2_getChar_3b067 46 = .ok (.aload_n 0, 1) := by decide +kernel
theorem dJ2_getChar_3b067_47 : decode cJ2_getChar_3b067 47 = .ok (.iload_n 1, 1) := by decide +kernel
theorem dJ2_getChar_3b067_48 : decode cJ2_getChar_3b067 48 = .ok (.baload, 1) := by decide +kernel
theorem dJ2_getChar_3b067_49 : decode cJ2_getChar_3b067 49 = .ok (.sipush 255, 3) := by decide +kernel
theorem dJ2_getChar_3b067_52 : decode cJ2_getChar_3b067 52 = .ok (.iand, 1) := by decide +kernel
theorem dJ2_getChar_3b067_53 : decode cJ2_getChar_3b067 53 = .ok (.getstatic 63, 3) := by decide +kernel
theorem dJ2_getChar_3b067_56 : decode cJ2_getChar_3b067 56 = .ok (.ishl, 1) := by decide +kernel
theorem dJ2_getChar_3b067_57 : decode cJ2_getChar_3b067 57 = .ok (.ior, 1) := by decide +kernel
theorem dJ2_getChar_3b067_58 : decode cJ2_getChar_3b067 58 = .ok (.i2c, 1) := by decide +kernel
theorem dJ2_getChar_3b067_59 : decode cJ2_getChar_3b067 59 = .ok (.ireturn, 1) := by decide +kernel
theorem dJ2_length_9d52b_0 : decode cJ2_length_9d52b 0 = .ok (.aload_n 0, 1) := by decide +kernel
theorem dJ2_length_9d52b_1 : decode cJ2_length_9d52b 1 = .ok (.arraylength, 1) := by decide +kernel
theorem dJ2_length_9d52b_2 : decode cJ2_length_9d52b 2 = .ok (.iconst 1, 1) := by decide +kernel
theorem dJ2_length_9d52b_3 : decode cJ2_length_9d52b 3 = .ok (.ishr, 1) := by decide +kernel
theorem dJ2_length_9d52b_4 : decode cJ2_length_9d52b 4 = .ok (.ireturn, 1) := by decide +kernel
theorem dJ2_charAt_3b067_0 : decode cJ2_charAt_3b067 0 = .ok (.iload_n 1, 1) := by decide +kernel
theorem dJ2_charAt_3b067_1 : decode cJ2_charAt_3b067 1 = .ok (.aload_n 0, 1) := by decide +kernel
theorem dJ2_charAt_3b067_2 : decode cJ2_charAt_3b067 2 = .ok (.invokestatic 67, 3) := by decide +kernel
theorem dJ2_charAt_3b067_5 : decode cJ2_charAt_3b067 5 = .ok (.aload_n 0, 1) := by decide +kernel
theorem dJ2_charAt_3b067_6 : decode cJ2_charAt_3b067 6 = .ok (.iload_n 1, 1) := by decide +kernel
theorem dJ2_charAt_3b067_7 : decode cJ2_charAt_3b067 7 = .ok (.invokestatic 71, 3) := by decide +kernel
theorem dJ2_charAt_3b067_10 : decode cJ2_charAt_3b067 10 = .ok (.ireturn, 1) := by decide +kernel
theorem dJ2_checkIndex_2214a_0 : decode cJ2_checkIndex_2214a 0 = .ok (.iload_n 0, 1) := by decide +kernel
theorem dJ2_checkIndex_2214a_1 : decode cJ2_checkIndex_2214a 1 = .ok (.aload_n 1, 1) := by decide +kernel
theorem dJ2_checkIndex_2214a_2 : decode cJ2_checkIndex_2214a 2 = .ok (.invokestatic 48, 3) := by decide +kernel
theorem dJ2_checkIndex_2214a_5 : decode cJ2_checkIndex_2214a 5 = .ok (.invokestatic 414, 3) := by decide +kernel
theorem dJ2_checkIndex_2214a_8 : decode cJ2_checkIndex_2214a 8 = .ok (.return_, 1) := by decide +kernel
theorem dJ7_fill_53178_0 : decode cJ7_fill_53178 0 = .ok (.iconst 0, 1) := by decide +kernel
theorem dJ7_fill_53178_1 : decode cJ7_fill_53178 1 = .ok (.istore_n 2, 1) := by decide +kernel
theorem dJ7_fill_53178_2 : decode cJ7_fill_53178 2 = .ok (.aload_n 0, 1) := by decide +kernel
theorem dJ7_fill_53178_3 : decode cJ7_fill_53178 3 = .ok (.arraylength, 1) := by decide +kernel
theorem dJ7_fill_53178_4 : decode cJ7_fill_53178 4 = .ok (.istore_n 3, 1) := by decide +kernel
theorem dJ7_fill_53178_5 : decode cJ7_fill_53178 5 = .ok (.iload_n 2, 1) := by decide +kernel
theorem dJ7_fill_53178_6 : decode cJ7_fill_53178 6 = .ok (.iload_n 3, 1) := by decide +kernel
theorem dJ7_fill_53178_7 : decode cJ7_fill_53178 7 = .ok (.if_icmp .ge 13, 3) := by decide +kernel
theorem dJ7_fill_53178_10 : decode cJ7_fill_53178 10 = .ok (.aload_n 0, 1) := by decide +kernel
theorem dJ7_fill_53178_11 : decode cJ7_fill_53178 11 = .ok (.iload_n 2, 1) := by decide +kernel
theorem dJ7_fill_53178_12 : decode cJ7_fill_53178 12 = .ok (.iload_n 1, 1) := by decide +kernel
theorem dJ7_fill_53178_13 : decode cJ7_fill_53178 13 = .ok (.iastore, 1) := by decide +kernel
theorem dJ7_fill_53178_14 : decode cJ7_fill_53178 14 = .ok (.iinc 2 1, 3) := by decide +kernel
theorem dJ7_fill_53178_17 : decode cJ7_fill_53178 17 = .ok (.goto (-12), 3) := by decide +kernel
theorem dJ7_fill_53178_20 : decode cJ7_fill_53178 20 = .ok (.return_, 1) := by decide +kernel
theorem dJ3_checkIndex_8e157_0 : decode cJ3_checkIndex_8e157 0 = .ok (.iload_n 0, 1) := by decide +kernel
theorem dJ3_checkIndex_8e157_1 : decode cJ3_checkIndex_8e157 1 = .ok (.ifCond .lt 8, 3) := by decide +kernel
theorem dJ3_checkIndex_8e157_4 : decode cJ3_checkIndex_8e157 4 = .ok (.iload_n 0, 1) := by decide +kernel
theorem dJ3_checkIndex_8e157_5 : decode cJ3_checkIndex_8e157 5 = .ok (.iload_n 1, 1) := by decide +kernel
theorem dJ3_checkIndex_8e157_6 : decode cJ3_checkIndex_8e157 6 = .ok (.if_icmp .lt 10, 3) := by decide +kernel
theorem dJ3_checkIndex_8e157_9 : decode cJ3_checkIndex_8e157 9 = .ok (.aload_n 2, 1) := by decide +kernel
theorem dJ3_checkIndex_8e157_10 : decode cJ3_checkIndex_8e157 10 = .ok (.iload_n 0, 1) := by decide +kernel
theorem dJ3_checkIndex_8e157_11 : decode cJ3_checkIndex_8e157 11 = .ok (.iload_n 1, 1) := by decide +kernel
theorem dJ3_checkIndex_8e157_12 : decode cJ3_checkIndex_8e157 12 = .ok (.invokestatic 95, 3) := by decide +kernel
theorem dJ3_checkIndex_8e157_15 : decode cJ3_checkIndex_8e157 15 = .ok (.athrow, 1) := by decide +kernel
theorem dJ3_checkIndex_8e157_16 : decode cJ3_checkIndex_8e157 16 = .ok (.iload_n 0, 1) := by decide +kernel
theorem dJ3_checkIndex_8e157_17 : decode cJ3_checkIndex_8e157 17 = .ok (.ireturn, 1) := by decide +kernel
theorem dL_law_0 : decode cL_law 0 = .ok (.new 7, 3) := by decide +kernel
theorem dL_law_3 : decode cL_law 3 = .ok (.dup, 1) := by decide +kernel
theorem dL_law_4 : decode cL_law 4 = .ok (.invokespecial 9, 3) := by decide +kernel
theorem dL_law_7 : decode cL_law 7 = .ok (.astore_n 1, 1) := by decide +kernel
theorem dL_law_8 : decode cL_law 8 = .ok (.new 10, 3) := by decide +kernel
theorem dL_law_11 : decode cL_law 11 = .ok (.dup, 1) := by decide +kernel
theorem dL_law_12 : decode cL_law 12 = .ok (.invokespecial 12, 3) := by decide +kernel
theorem dL_law_15 : decode cL_law 15 = .ok (.astore_n 2, 1) := by decide +kernel
theorem dL_law_16 : decode cL_law 16 = .ok (.iconst 0, 1) := by decide +kernel
theorem dL_law_17 : decode cL_law 17 = .ok (.istore_n 3, 1) := by decide +kernel
theorem dL_law_18 : decode cL_law 18 = .ok (.iload_n 3, 1) := by decide +kernel
theorem dL_law_19 : decode cL_law 19 = .ok (.aload_n 0, 1) := by decide +kernel
theorem dL_law_20 : decode cL_law 20 = .ok (.arraylength, 1) := by decide +kernel
theorem dL_law_21 : decode cL_law 21 = .ok (.bipush 6, 2) := by decide +kernel
theorem dL_law_23 : decode cL_law 23 = .ok (.isub, 1) := by decide +kernel
theorem dL_law_24 : decode cL_law 24 = .ok (.if_icmp .gt 747, 3) := by decide +kernel
theorem dL_law_27 : decode cL_law 27 = .ok (.aload_n 0, 1) := by decide +kernel
theorem dL_law_28 : decode cL_law 28 = .ok (.iload_n 3, 1) := by decide +kernel
theorem dL_law_29 : decode cL_law 29 = .ok (.iaload, 1) := by decide +kernel
theorem dL_law_30 : decode cL_law 30 = .ok (.bipush 31, 2) := by decide +kernel
theorem dL_law_32 : decode cL_law 32 = .ok (.iand, 1) := by decide +kernel
theorem dL_law_33 : decode cL_law 33 = .ok (.tableswitch 732 0 20 #[99, 122, 135, 148, 211, 244, 277, 300, 323, 336, 379, 412, 455, 508, 561, 584, 627, 640, 663, 686, 709], 99) := by decide +kernel
theorem dL_law_132 : decode cL_law 132 = .ok (.aload_n 1, 1) := by decide +kernel
theorem dL_law_133 : decode cL_law 133 = .ok (.aload_n 0, 1) := by decide +kernel
theorem dL_law_134 : decode cL_law 134 = .ok (.iload_n 3, 1) := by decide +kernel
theorem dL_law_135 : decode cL_law 135 = .ok (.iconst 1, 1) := by decide +kernel
theorem dL_law_136 : decode cL_law 136 = .ok (.iadd, 1) := by decide +kernel
theorem dL_law_137 : decode cL_law 137 = .ok (.iaload, 1) := by decide +kernel
theorem dL_law_138 : decode cL_law 138 = .ok (.invokevirtual 13, 3) := by decide +kernel
theorem dL_law_141 : decode cL_law 141 = .ok (.aload_n 2, 1) := by decide +kernel
theorem dL_law_142 : decode cL_law 142 = .ok (.aload_n 0, 1) := by decide +kernel
theorem dL_law_143 : decode cL_law 143 = .ok (.iload_n 3, 1) := by decide +kernel
theorem dL_law_144 : decode cL_law 144 = .ok (.iconst 1, 1) := by decide +kernel
theorem dL_law_145 : decode cL_law 145 = .ok (.iadd, 1) := by decide +kernel
theorem dL_law_146 : decode cL_law 146 = .ok (.iaload, 1) := by decide +kernel
theorem dL_law_147 : decode cL_law 147 = .ok (.invokevirtual 17, 3) := by decide +kernel
theorem dL_law_150 : decode cL_law 150 = .ok (.if_icmp .eq 615, 3) := by decide +kernel
theorem dL_law_153 : decode cL_law 153 = .ok (.iconst 0, 1) := by decide +kernel
theorem dL_law_154 : decode cL_law 154 = .ok (.ireturn, 1) := by decide +kernel
theorem dL_law_155 : decode cL_law 155 = .ok (.aload_n 1, 1) := by decide +kernel
theorem dL_law_156 : decode cL_law 156 = .ok (.invokevirtual 18, 3) := by decide +kernel
theorem dL_law_159 : decode cL_law 159 = .ok (.aload_n 2, 1) := by decide +kernel
theorem dL_law_160 : decode cL_law 160 = .ok (.invokevirtual 22, 3) := by decide +kernel
theorem dL_law_163 : decode cL_law 163 = .ok (.if_icmp .eq 602, 3) := by decide +kernel
theorem dL_law_166 : decode cL_law 166 = .ok (.iconst 0, 1) := by decide +kernel
theorem dL_law_167 : decode cL_law 167 = .ok (.ireturn, 1) := by decide +kernel
theorem dL_law_168 : decode cL_law 168 = .ok (.aload_n 1, 1) := by decide +kernel
theorem dL_law_169 : decode cL_law 169 = .ok (.invokevirtual 23, 3) := by decide +kernel
theorem dL_law_172 : decode cL_law 172 = .ok (.aload_n 2, 1) := by decide +kernel
theorem dL_law_173 : decode cL_law 173 = .ok (.invokevirtual 26, 3) := by decide +kernel
theorem dL_law_176 : decode cL_law 176 = .ok (.if_icmp .eq 589, 3) := by decide +kernel
theorem dL_law_179 : decode cL_law 179 = .ok (.iconst 0, 1) := by decide +kernel
theorem dL_law_180 : decode cL_law 180 = .ok (.ireturn, 1) := by decide +kernel
theorem dL_law_181 : decode cL_law 181 = .ok (.aload_n 1, 1) := by decide +kernel
theorem dL_law_182 : decode cL_law 182 = .ok (.aload_n 0, 1) := by decide +kernel
theorem dL_law_183 : decode cL_law 183 = .ok (.iload_n 3, 1) := by decide +kernel
theorem dL_law_184 : decode cL_law 184 = .ok (.iconst 1, 1) := by decide +kernel
theorem dL_law_185 : decode cL_law 185 = .ok (.iadd, 1) := by decide +kernel
theorem dL_law_186 : decode cL_law 186 = .ok (.iaload, 1) := by decide +kernel
theorem dL_law_187 : decode cL_law 187 = .ok (.aload_n 0, 1) := by decide +kernel
theorem dL_law_188 : decode cL_law 188 = .ok (.iload_n 3, 1) := by decide +kernel
theorem dL_law_189 : decode cL_law 189 = .ok (.iconst 2, 1) := by decide +kernel
theorem dL_law_190 : decode cL_law 190 = .ok (.iadd, 1) := by decide +kernel
theorem dL_law_191 : decode cL_law 191 = .ok (.iaload, 1) := by decide +kernel
theorem dL_law_192 : decode cL_law 192 = .ok (.aload_n 0, 1) := by decide +kernel
theorem dL_law_193 : decode cL_law 193 = .ok (.iload_n 3, 1) := by decide +kernel
theorem dL_law_194 : decode cL_law 194 = .ok (.iconst 3, 1) := by decide +kernel
theorem dL_law_195 : decode cL_law 195 = .ok (.iadd, 1) := by decide +kernel
theorem dL_law_196 : decode cL_law 196 = .ok (.iaload, 1) := by decide +kernel
theorem dL_law_197 : decode cL_law 197 = .ok (.aload_n 0, 1) := by decide +kernel
theorem dL_law_198 : decode cL_law 198 = .ok (.iload_n 3, 1) := by decide +kernel
theorem dL_law_199 : decode cL_law 199 = .ok (.iconst 4, 1) := by decide +kernel
theorem dL_law_200 : decode cL_law 200 = .ok (.iadd, 1) := by decide +kernel
theorem dL_law_201 : decode cL_law 201 = .ok (.iaload, 1) := by decide +kernel
theorem dL_law_202 : decode cL_law 202 = .ok (.aload_n 0, 1) := by decide +kernel
theorem dL_law_203 : decode cL_law 203 = .ok (.iload_n 3, 1) := by decide +kernel
theorem dL_law_204 : decode cL_law 204 = .ok (.iconst 5, 1) := by decide +kernel
theorem dL_law_205 : decode cL_law 205 = .ok (.iadd, 1) := by decide +kernel
theorem dL_law_206 : decode cL_law 206 = .ok (.iaload, 1) := by decide +kernel
theorem dL_law_207 : decode cL_law 207 = .ok (.invokevirtual 27, 3) := by decide +kernel
theorem dL_law_210 : decode cL_law 210 = .ok (.aload_n 2, 1) := by decide +kernel
theorem dL_law_211 : decode cL_law 211 = .ok (.aload_n 0, 1) := by decide +kernel
theorem dL_law_212 : decode cL_law 212 = .ok (.iload_n 3, 1) := by decide +kernel
theorem dL_law_213 : decode cL_law 213 = .ok (.iconst 1, 1) := by decide +kernel
theorem dL_law_214 : decode cL_law 214 = .ok (.iadd, 1) := by decide +kernel
theorem dL_law_215 : decode cL_law 215 = .ok (.iaload, 1) := by decide +kernel
theorem dL_law_216 : decode cL_law 216 = .ok (.aload_n 0, 1) := by decide +kernel
theorem dL_law_217 : decode cL_law 217 = .ok (.iload_n 3, 1) := by decide +kernel
theorem dL_law_218 : decode cL_law 218 = .ok (.iconst 2, 1) := by decide +kernel
theorem dL_law_219 : decode cL_law 219 = .ok (.iadd, 1) := by decide +kernel
theorem dL_law_220 : decode cL_law 220 = .ok (.iaload, 1) := by decide +kernel
theorem dL_law_221 : decode cL_law 221 = .ok (.aload_n 0, 1) := by decide +kernel
theorem dL_law_222 : decode cL_law 222 = .ok (.iload_n 3, 1) := by decide +kernel
theorem dL_law_223 : decode cL_law 223 = .ok (.iconst 3, 1) := by decide +kernel
theorem dL_law_224 : decode cL_law 224 = .ok (.iadd, 1) := by decide +kernel
theorem dL_law_225 : decode cL_law 225 = .ok (.iaload, 1) := by decide +kernel
theorem dL_law_226 : decode cL_law 226 = .ok (.aload_n 0, 1) := by decide +kernel
theorem dL_law_227 : decode cL_law 227 = .ok (.iload_n 3, 1) := by decide +kernel
theorem dL_law_228 : decode cL_law 228 = .ok (.iconst 4, 1) := by decide +kernel
theorem dL_law_229 : decode cL_law 229 = .ok (.iadd, 1) := by decide +kernel
theorem dL_law_230 : decode cL_law 230 = .ok (.iaload, 1) := by decide +kernel
theorem dL_law_231 : decode cL_law 231 = .ok (.aload_n 0, 1) := by decide +kernel
theorem dL_law_232 : decode cL_law 232 = .ok (.iload_n 3, 1) := by decide +kernel
theorem dL_law_233 : decode cL_law 233 = .ok (.iconst 5, 1) := by decide +kernel
theorem dL_law_234 : decode cL_law 234 = .ok (.iadd, 1) := by decide +kernel
theorem dL_law_235 : decode cL_law 235 = .ok (.iaload, 1) := by decide +kernel
theorem dL_law_236 : decode cL_law 236 = .ok (.invokevirtual 31, 3) := by decide +kernel
theorem dL_law_239 : decode cL_law 239 = .ok (.if_icmp .eq 526, 3) := by decide +kernel
theorem dL_law_242 : decode cL_law 242 = .ok (.iconst 0, 1) := by decide +kernel
theorem dL_law_243 : decode cL_law 243 = .ok (.ireturn, 1) := by decide +kernel
theorem dL_law_244 : decode cL_law 244 = .ok (.aload_n 1, 1) := by decide +kernel
theorem dL_law_245 : decode cL_law 245 = .ok (.aload_n 0, 1) := by decide +kernel
theorem dL_law_246 : decode cL_law 246 = .ok (.iload_n 3, 1) := by decide +kernel
theorem dL_law_247 : decode cL_law 247 = .ok (.iconst 1, 1) := by decide +kernel
theorem dL_law_248 : decode cL_law 248 = .ok (.iadd, 1) := by decide +kernel
theorem dL_law_249 : decode cL_law 249 = .ok (.iaload, 1) := by decide +kernel
theorem dL_law_250 : decode cL_law 250 = .ok (.aload_n 0, 1) := by decide +kernel
theorem dL_law_251 : decode cL_law 251 = .ok (.iload_n 3, 1) := by decide +kernel
theorem dL_law_252 : decode cL_law 252 = .ok (.iconst 2, 1) := by decide +kernel
theorem dL_law_253 : decode cL_law 253 = .ok (.iadd, 1) := by decide +kernel
theorem dL_law_254 : decode cL_law 254 = .ok (.iaload, 1) := by decide +kernel
theorem dL_law_255 : decode cL_law 255 = .ok (.invokevirtual 32, 3) := by decide +kernel
theorem dL_law_258 : decode cL_law 258 = .ok (.aload_n 2, 1) := by decide +kernel
theorem dL_law_259 : decode cL_law 259 = .ok (.aload_n 0, 1) := by decide +kernel
theorem dL_law_260 : decode cL_law 260 = .ok (.iload_n 3, 1) := by decide +kernel
theorem dL_law_261 : decode cL_law 261 = .ok (.iconst 1, 1) := by decide +kernel
theorem dL_law_262 : decode cL_law 262 = .ok (.iadd, 1) := by decide +kernel
theorem dL_law_263 : decode cL_law 263 = .ok (.iaload, 1) := by decide +kernel
theorem dL_law_264 : decode cL_law 264 = .ok (.aload_n 0, 1) := by decide +kernel
theorem dL_law_265 : decode cL_law 265 = .ok (.iload_n 3, 1) := by decide +kernel
theorem dL_law_266 : decode cL_law 266 = .ok (.iconst 2, 1) := by decide +kernel
theorem dL_law_267 : decode cL_law 267 = .ok (.iadd, 1) := by decide +kernel
theorem dL_law_268 : decode cL_law 268 = .ok (.iaload, 1) := by decide +kernel
theorem dL_law_269 : decode cL_law 269 = .ok (.invokevirtual 36, 3) := by decide +kernel
theorem dL_law_272 : decode cL_law 272 = .ok (.if_icmp .eq 493, 3) := by decide +kernel
theorem dL_law_275 : decode cL_law 275 = .ok (.iconst 0, 1) := by decide +kernel
theorem dL_law_276 : decode cL_law 276 = .ok (.ireturn, 1) := by decide +kernel
theorem dL_law_277 : decode cL_law 277 = .ok (.aload_n 1, 1) := by decide +kernel
theorem dL_law_278 : decode cL_law 278 = .ok (.aload_n 0, 1) := by decide +kernel
theorem dL_law_279 : decode cL_law 279 = .ok (.iload_n 3, 1) := by decide +kernel
theorem dL_law_280 : decode cL_law 280 = .ok (.iconst 1, 1) := by decide +kernel
theorem dL_law_281 : decode cL_law 281 = .ok (.iadd, 1) := by decide +kernel
theorem dL_law_282 : decode cL_law 282 = .ok (.iaload, 1) := by decide +kernel
theorem dL_law_283 : decode cL_law 283 = .ok (.aload_n 0, 1) := by decide +kernel
theorem dL_law_284 : decode cL_law 284 = .ok (.iload_n 3, 1) := by decide +kernel
theorem dL_law_285 : decode cL_law 285 = .ok (.iconst 2, 1) := by decide +kernel
theorem dL_law_286 : decode cL_law 286 = .ok (.iadd, 1) := by decide +kernel
theorem dL_law_287 : decode cL_law 287 = .ok (.iaload, 1) := by decide +kernel
theorem dL_law_288 : decode cL_law 288 = .ok (.invokevirtual 37, 3) := by decide +kernel
theorem dL_law_291 : decode cL_law 291 = .ok (.aload_n 2, 1) := by decide +kernel
theorem dL_law_292 : decode cL_law 292 = .ok (.aload_n 0, 1) := by decide +kernel
theorem dL_law_293 : decode cL_law 293 = .ok (.iload_n 3, 1) := by decide +kernel
theorem dL_law_294 : decode cL_law 294 = .ok (.iconst 1, 1) := by decide +kernel
theorem dL_law_295 : decode cL_law 295 = .ok (.iadd, 1) := by decide +kernel
theorem dL_law_296 : decode cL_law 296 = .ok (.iaload, 1) := by decide +kernel
theorem dL_law_297 : decode cL_law 297 = .ok (.aload_n 0, 1) := by decide +kernel
theorem dL_law_298 : decode cL_law 298 = .ok (.iload_n 3, 1) := by decide +kernel
theorem dL_law_299 : decode cL_law 299 = .ok (.iconst 2, 1) := by decide +kernel
theorem dL_law_300 : decode cL_law 300 = .ok (.iadd, 1) := by decide +kernel
theorem dL_law_301 : decode cL_law 301 = .ok (.iaload, 1) := by decide +kernel
theorem dL_law_302 : decode cL_law 302 = .ok (.invokevirtual 40, 3) := by decide +kernel
theorem dL_law_305 : decode cL_law 305 = .ok (.if_icmp .eq 460, 3) := by decide +kernel
theorem dL_law_308 : decode cL_law 308 = .ok (.iconst 0, 1) := by decide +kernel
theorem dL_law_309 : decode cL_law 309 = .ok (.ireturn, 1) := by decide +kernel
theorem dL_law_310 : decode cL_law 310 = .ok (.aload_n 1, 1) := by decide +kernel
theorem dL_law_311 : decode cL_law 311 = .ok (.aload_n 0, 1) := by decide +kernel
theorem dL_law_312 : decode cL_law 312 = .ok (.iload_n 3, 1) := by decide +kernel
theorem dL_law_313 : decode cL_law 313 = .ok (.iconst 1, 1) := by decide +kernel
theorem dL_law_314 : decode cL_law 314 = .ok (.iadd, 1) := by decide +kernel
theorem dL_law_315 : decode cL_law 315 = .ok (.iaload, 1) := by decide +kernel
theorem dL_law_316 : decode cL_law 316 = .ok (.invokevirtual 41, 3) := by decide +kernel
theorem dL_law_319 : decode cL_law 319 = .ok (.aload_n 2, 1) := by decide +kernel
theorem dL_law_320 : decode cL_law 320 = .ok (.aload_n 0, 1) := by decide +kernel
theorem dL_law_321 : decode cL_law 321 = .ok (.iload_n 3, 1) := by decide +kernel
theorem dL_law_322 : decode cL_law 322 = .ok (.iconst 1, 1) := by decide +kernel
theorem dL_law_323 : decode cL_law 323 = .ok (.iadd, 1) := by decide +kernel
theorem dL_law_324 : decode cL_law 324 = .ok (.iaload, 1) := by decide +kernel
theorem dL_law_325 : decode cL_law 325 = .ok (.invokevirtual 44, 3) := by decide +kernel
theorem dL_law_328 : decode cL_law 328 = .ok (.if_icmp .eq 437, 3) := by decide +kernel
theorem dL_law_331 : decode cL_law 331 = .ok (.iconst 0, 1) := by decide +kernel
theorem dL_law_332 : decode cL_law 332 = .ok (.ireturn, 1) := by decide +kernel
theorem dL_law_333 : decode cL_law 333 = .ok (.aload_n 1, 1) := by decide +kernel
theorem dL_law_334 : decode cL_law 334 = .ok (.aload_n 0, 1) := by decide +kernel
theorem dL_law_335 : decode cL_law 335 = .ok (.iload_n 3, 1) := by decide +kernel
theorem dL_law_336 : decode cL_law 336 = .ok (.iconst 1, 1) := by decide +kernel
theorem dL_law_337 : decode cL_law 337 = .ok (.iadd, 1) := by decide +kernel
theorem dL_law_338 : decode cL_law 338 = .ok (.iaload, 1) := by decide +kernel
theorem dL_law_339 : decode cL_law 339 = .ok (.invokevirtual 45, 3) := by decide +kernel
theorem dL_law_342 : decode cL_law 342 = .ok (.aload_n 2, 1) := by decide +kernel
theorem dL_law_343 : decode cL_law 343 = .ok (.aload_n 0, 1) := by decide +kernel
theorem dL_law_344 : decode cL_law 344 = .ok (.iload_n 3, 1) := by decide +kernel
theorem dL_law_345 : decode cL_law 345 = .ok (.iconst 1, 1) := by decide +kernel
theorem dL_law_346 : decode cL_law 346 = .ok (.iadd, 1) := by decide +kernel
theorem dL_law_347 : decode cL_law 347 = .ok (.iaload, 1) := by decide +kernel
theorem dL_law_348 : decode cL_law 348 = .ok (.invokevirtual 48, 3) := by decide +kernel
theorem dL_law_351 : decode cL_law 351 = .ok (.if_icmp .eq 414, 3) := by decide +kernel
theorem dL_law_354 : decode cL_law 354 = .ok (.iconst 0, 1) := by decide +kernel
theorem dL_law_355 : decode cL_law 355 = .ok (.ireturn, 1) := by decide +kernel
theorem dL_law_356 : decode cL_law 356 = .ok (.aload_n 1, 1) := by decide +kernel
theorem dL_law_357 : decode cL_law 357 = .ok (.invokevirtual 49, 3) := by decide +kernel
theorem dL_law_360 : decode cL_law 360 = .ok (.aload_n 2, 1) := by decide +kernel
theorem dL_law_361 : decode cL_law 361 = .ok (.invokevirtual 52, 3) := by decide +kernel
theorem dL_law_364 : decode cL_law 364 = .ok (.if_icmp .eq 401, 3) := by decide +kernel
theorem dL_law_367 : decode cL_law 367 = .ok (.iconst 0, 1) := by decide +kernel
theorem dL_law_368 : decode cL_law 368 = .ok (.ireturn, 1) := by decide +kernel
theorem dL_law_369 : decode cL_law 369 = .ok (.aload_n 1, 1) := by decide +kernel
theorem dL_law_370 : decode cL_law 370 = .ok (.aload_n 0, 1) := by decide +kernel
theorem dL_law_371 : decode cL_law 371 = .ok (.iload_n 3, 1) := by decide +kernel
theorem dL_law_372 : decode cL_law 372 = .ok (.iconst 1, 1) := by decide +kernel
theorem dL_law_373 : decode cL_law 373 = .ok (.iadd, 1) := by decide +kernel
theorem dL_law_374 : decode cL_law 374 = .ok (.iaload, 1) := by decide +kernel
theorem dL_law_375 : decode cL_law 375 = .ok (.aload_n 0, 1) := by decide +kernel
theorem dL_law_376 : decode cL_law 376 = .ok (.iload_n 3, 1) := by decide +kernel
theorem dL_law_377 : decode cL_law 377 = .ok (.iconst 2, 1) := by decide +kernel
theorem dL_law_378 : decode cL_law 378 = .ok (.iadd, 1) := by decide +kernel
theorem dL_law_379 : decode cL_law 379 = .ok (.iaload, 1) := by decide +kernel
theorem dL_law_380 : decode cL_law 380 = .ok (.aload_n 0, 1) := by decide +kernel
theorem dL_law_381 : decode cL_law 381 = .ok (.iload_n 3, 1) := by decide +kernel
theorem dL_law_382 : decode cL_law 382 = .ok (.iconst 3, 1) := by decide +kernel
theorem dL_law_383 : decode cL_law 383 = .ok (.iadd, 1) := by decide +kernel
theorem dL_law_384 : decode cL_law 384 = .ok (.iaload, 1) := by decide +kernel
theorem dL_law_385 : decode cL_law 385 = .ok (.invokevirtual 53, 3) := by decide +kernel
theorem dL_law_388 : decode cL_law 388 = .ok (.aload_n 2, 1) := by decide +kernel
theorem dL_law_389 : decode cL_law 389 = .ok (.aload_n 0, 1) := by decide +kernel
theorem dL_law_390 : decode cL_law 390 = .ok (.iload_n 3, 1) := by decide +kernel
theorem dL_law_391 : decode cL_law 391 = .ok (.iconst 1, 1) := by decide +kernel
theorem dL_law_392 : decode cL_law 392 = .ok (.iadd, 1) := by decide +kernel
theorem dL_law_393 : decode cL_law 393 = .ok (.iaload, 1) := by decide +kernel
theorem dL_law_394 : decode cL_law 394 = .ok (.aload_n 0, 1) := by decide +kernel
theorem dL_law_395 : decode cL_law 395 = .ok (.iload_n 3, 1) := by decide +kernel
theorem dL_law_396 : decode cL_law 396 = .ok (.iconst 2, 1) := by decide +kernel
theorem dL_law_397 : decode cL_law 397 = .ok (.iadd, 1) := by decide +kernel
theorem dL_law_398 : decode cL_law 398 = .ok (.iaload, 1) := by decide +kernel
theorem dL_law_399 : decode cL_law 399 = .ok (.aload_n 0, 1) := by decide +kernel
theorem dL_law_400 : decode cL_law 400 = .ok (.iload_n 3, 1) := by decide +kernel
theorem dL_law_401 : decode cL_law 401 = .ok (.iconst 3, 1) := by decide +kernel
theorem dL_law_402 : decode cL_law 402 = .ok (.iadd, 1) := by decide +kernel
theorem dL_law_403 : decode cL_law 403 = .ok (.iaload, 1) := by decide +kernel
theorem dL_law_404 : decode cL_law 404 = .ok (.invokevirtual 57, 3) := by decide +kernel
theorem dL_law_407 : decode cL_law 407 = .ok (.if_icmp .eq 358, 3) := by decide +kernel
theorem dL_law_410 : decode cL_law 410 = .ok (.iconst 0, 1) := by decide +kernel
theorem dL_law_411 : decode cL_law 411 = .ok (.ireturn, 1) := by decide +kernel
theorem dL_law_412 : decode cL_law 412 = .ok (.aload_n 1, 1) := by decide +kernel
theorem dL_law_413 : decode cL_law 413 = .ok (.aload_n 0, 1) := by decide +kernel
theorem dL_law_414 : decode cL_law 414 = .ok (.iload_n 3, 1) := by decide +kernel
theorem dL_law_415 : decode cL_law 415 = .ok (.iconst 1, 1) := by decide +kernel
theorem dL_law_416 : decode cL_law 416 = .ok (.iadd, 1) := by decide +kernel
theorem dL_law_417 : decode cL_law 417 = .ok (.iaload, 1) := by decide +kernel
theorem dL_law_418 : decode cL_law 418 = .ok (.aload_n 0, 1) := by decide +kernel
theorem dL_law_419 : decode cL_law 419 = .ok (.iload_n 3, 1) := by decide +kernel
theorem dL_law_420 : decode cL_law 420 = .ok (.iconst 2, 1) := by decide +kernel
theorem dL_law_421 : decode cL_law 421 = .ok (.iadd, 1) := by decide +kernel
theorem dL_law_422 : decode cL_law 422 = .ok (.iaload, 1) := by decide +kernel
theorem dL_law_423 : decode cL_law 423 = .ok (.invokevirtual 58, 3) := by decide +kernel
theorem dL_law_426 : decode cL_law 426 = .ok (.aload_n 2, 1) := by decide +kernel
theorem dL_law_427 : decode cL_law 427 = .ok (.aload_n 0, 1) := by decide +kernel
theorem dL_law_428 : decode cL_law 428 = .ok (.iload_n 3, 1) := by decide +kernel
theorem dL_law_429 : decode cL_law 429 = .ok (.iconst 1, 1) := by decide +kernel
theorem dL_law_430 : decode cL_law 430 = .ok (.iadd, 1) := by decide +kernel
theorem dL_law_431 : decode cL_law 431 = .ok (.iaload, 1) := by decide +kernel
theorem dL_law_432 : decode cL_law 432 = .ok (.aload_n 0, 1) := by decide +kernel
theorem dL_law_433 : decode cL_law 433 = .ok (.iload_n 3, 1) := by decide +kernel
theorem dL_law_434 : decode cL_law 434 = .ok (.iconst 2, 1) := by decide +kernel
theorem dL_law_435 : decode cL_law 435 = .ok (.iadd, 1) := by decide +kernel
theorem dL_law_436 : decode cL_law 436 = .ok (.iaload, 1) := by decide +kernel
theorem dL_law_437 : decode cL_law 437 = .ok (.invokevirtual 61, 3) := by decide +kernel
theorem dL_law_440 : decode cL_law 440 = .ok (.if_icmp .eq 325, 3) := by decide +kernel
theorem dL_law_443 : decode cL_law 443 = .ok (.iconst 0, 1) := by decide +kernel
theorem dL_law_444 : decode cL_law 444 = .ok (.ireturn, 1) := by decide +kernel
theorem dL_law_445 : decode cL_law 445 = .ok (.aload_n 1, 1) := by decide +kernel
theorem dL_law_446 : decode cL_law 446 = .ok (.aload_n 0, 1) := by decide +kernel
theorem dL_law_447 : decode cL_law 447 = .ok (.iload_n 3, 1) := by decide +kernel
theorem dL_law_448 : decode cL_law 448 = .ok (.iconst 1, 1) := by decide +kernel
theorem dL_law_449 : decode cL_law 449 = .ok (.iadd, 1) := by decide +kernel
theorem dL_law_450 : decode cL_law 450 = .ok (.iaload, 1) := by decide +kernel
theorem dL_law_451 : decode cL_law 451 = .ok (.aload_n 0, 1) := by decide +kernel
theorem dL_law_452 : decode cL_law 452 = .ok (.iload_n 3, 1) := by decide +kernel
theorem dL_law_453 : decode cL_law 453 = .ok (.iconst 2, 1) := by decide +kernel
theorem dL_law_454 : decode cL_law 454 = .ok (.iadd, 1) := by decide +kernel
theorem dL_law_455 : decode cL_law 455 = .ok (.iaload, 1) := by decide +kernel
theorem dL_law_456 : decode cL_law 456 = .ok (.aload_n 0, 1) := by decide +kernel
theorem dL_law_457 : decode cL_law 457 = .ok (.iload_n 3, 1) := by decide +kernel
theorem dL_law_458 : decode cL_law 458 = .ok (.iconst 3, 1) := by decide +kernel
theorem dL_law_459 : decode cL_law 459 = .ok (.iadd, 1) := by decide +kernel
theorem dL_law_460 : decode cL_law 460 = .ok (.iaload, 1) := by decide +kernel
theorem dL_law_461 : decode cL_law 461 = .ok (.invokevirtual 62, 3) := by decide +kernel
theorem dL_law_464 : decode cL_law 464 = .ok (.aload_n 2, 1) := by decide +kernel
theorem dL_law_465 : decode cL_law 465 = .ok (.aload_n 0, 1) := by decide +kernel
theorem dL_law_466 : decode cL_law 466 = .ok (.iload_n 3, 1) := by decide +kernel
theorem dL_law_467 : decode cL_law 467 = .ok (.iconst 1, 1) := by decide +kernel
theorem dL_law_468 : decode cL_law 468 = .ok (.iadd, 1) := by decide +kernel
theorem dL_law_469 : decode cL_law 469 = .ok (.iaload, 1) := by decide +kernel
theorem dL_law_470 : decode cL_law 470 = .ok (.aload_n 0, 1) := by decide +kernel
theorem dL_law_471 : decode cL_law 471 = .ok (.iload_n 3, 1) := by decide +kernel
theorem dL_law_472 : decode cL_law 472 = .ok (.iconst 2, 1) := by decide +kernel
theorem dL_law_473 : decode cL_law 473 = .ok (.iadd, 1) := by decide +kernel
theorem dL_law_474 : decode cL_law 474 = .ok (.iaload, 1) := by decide +kernel
theorem dL_law_475 : decode cL_law 475 = .ok (.aload_n 0, 1) := by decide +kernel
theorem dL_law_476 : decode cL_law 476 = .ok (.iload_n 3, 1) := by decide +kernel
theorem dL_law_477 : decode cL_law 477 = .ok (.iconst 3, 1) := by decide +kernel
theorem dL_law_478 : decode cL_law 478 = .ok (.iadd, 1) := by decide +kernel
theorem dL_law_479 : decode cL_law 479 = .ok (.iaload, 1) := by decide +kernel
theorem dL_law_480 : decode cL_law 480 = .ok (.invokevirtual 65, 3) := by decide +kernel
theorem dL_law_483 : decode cL_law 483 = .ok (.if_icmp .eq 282, 3) := by decide +kernel
theorem dL_law_486 : decode cL_law 486 = .ok (.iconst 0, 1) := by decide +kernel
theorem dL_law_487 : decode cL_law 487 = .ok (.ireturn, 1) := by decide +kernel
theorem dL_law_488 : decode cL_law 488 = .ok (.aload_n 1, 1) := by decide +kernel
theorem dL_law_489 : decode cL_law 489 = .ok (.aload_n 0, 1) := by decide +kernel
theorem dL_law_490 : decode cL_law 490 = .ok (.iload_n 3, 1) := by decide +kernel
theorem dL_law_491 : decode cL_law 491 = .ok (.iconst 1, 1) := by decide +kernel
theorem dL_law_492 : decode cL_law 492 = .ok (.iadd, 1) := by decide +kernel
theorem dL_law_493 : decode cL_law 493 = .ok (.iaload, 1) := by decide +kernel
theorem dL_law_494 : decode cL_law 494 = .ok (.aload_n 0, 1) := by decide +kernel
theorem dL_law_495 : decode cL_law 495 = .ok (.iload_n 3, 1) := by decide +kernel
theorem dL_law_496 : decode cL_law 496 = .ok (.iconst 2, 1) := by decide +kernel
theorem dL_law_497 : decode cL_law 497 = .ok (.iadd, 1) := by decide +kernel
theorem dL_law_498 : decode cL_law 498 = .ok (.iaload, 1) := by decide +kernel
theorem dL_law_499 : decode cL_law 499 = .ok (.aload_n 0, 1) := by decide +kernel
theorem dL_law_500 : decode cL_law 500 = .ok (.iload_n 3, 1) := by decide +kernel
theorem dL_law_501 : decode cL_law 501 = .ok (.iconst 3, 1) := by decide +kernel
theorem dL_law_502 : decode cL_law 502 = .ok (.iadd, 1) := by decide +kernel
theorem dL_law_503 : decode cL_law 503 = .ok (.iaload, 1) := by decide +kernel
theorem dL_law_504 : decode cL_law 504 = .ok (.aload_n 0, 1) := by decide +kernel
theorem dL_law_505 : decode cL_law 505 = .ok (.iload_n 3, 1) := by decide +kernel
theorem dL_law_506 : decode cL_law 506 = .ok (.iconst 4, 1) := by decide +kernel
theorem dL_law_507 : decode cL_law 507 = .ok (.iadd, 1) := by decide +kernel
theorem dL_law_508 : decode cL_law 508 = .ok (.iaload, 1) := by decide +kernel
theorem dL_law_509 : decode cL_law 509 = .ok (.invokevirtual 66, 3) := by decide +kernel
theorem dL_law_512 : decode cL_law 512 = .ok (.aload_n 2, 1) := by decide +kernel
theorem dL_law_513 : decode cL_law 513 = .ok (.aload_n 0, 1) := by decide +kernel
theorem dL_law_514 : decode cL_law 514 = .ok (.iload_n 3, 1) := by decide +kernel
theorem dL_law_515 : decode cL_law 515 = .ok (.iconst 1, 1) := by decide +kernel
theorem dL_law_516 : decode cL_law 516 = .ok (.iadd, 1) := by decide +kernel
theorem dL_law_517 : decode cL_law 517 = .ok (.iaload, 1) := by decide +kernel
theorem dL_law_518 : decode cL_law 518 = .ok (.aload_n 0, 1) := by decide +kernel
theorem dL_law_519 : decode cL_law 519 = .ok (.iload_n 3, 1) := by decide +kernel
theorem dL_law_520 : decode cL_law 520 = .ok (.iconst 2, 1) := by decide +kernel
theorem dL_law_521 : decode cL_law 521 = .ok (.iadd, 1) := by decide +kernel
theorem dL_law_522 : decode cL_law 522 = .ok (.iaload, 1) := by decide +kernel
theorem dL_law_523 : decode cL_law 523 = .ok (.aload_n 0, 1) := by decide +kernel
theorem dL_law_524 : decode cL_law 524 = .ok (.iload_n 3, 1) := by decide +kernel
theorem dL_law_525 : decode cL_law 525 = .ok (.iconst 3, 1) := by decide +kernel
theorem dL_law_526 : decode cL_law 526 = .ok (.iadd, 1) := by decide +kernel
theorem dL_law_527 : decode cL_law 527 = .ok (.iaload, 1) := by decide +kernel
theorem dL_law_528 : decode cL_law 528 = .ok (.aload_n 0, 1) := by decide +kernel
theorem dL_law_529 : decode cL_law 529 = .ok (.iload_n 3, 1) := by decide +kernel
theorem dL_law_530 : decode cL_law 530 = .ok (.iconst 4, 1) := by decide +kernel
theorem dL_law_531 : decode cL_law 531 = .ok (.iadd, 1) := by decide +kernel
theorem dL_law_532 : decode cL_law 532 = .ok (.iaload, 1) := by decide +kernel
theorem dL_law_533 : decode cL_law 533 = .ok (.invokevirtual 70, 3) := by decide +kernel
theorem dL_law_536 : decode cL_law 536 = .ok (.if_icmp .eq 229, 3) := by decide +kernel
theorem dL_law_539 : decode cL_law 539 = .ok (.iconst 0, 1) := by decide +kernel
theorem dL_law_540 : decode cL_law 540 = .ok (.ireturn, 1) := by decide +kernel
theorem dL_law_541 : decode cL_law 541 = .ok (.aload_n 1, 1) := by decide +kernel
theorem dL_law_542 : decode cL_law 542 = .ok (.aload_n 0, 1) := by decide +kernel
theorem dL_law_543 : decode cL_law 543 = .ok (.iload_n 3, 1) := by decide +kernel
theorem dL_law_544 : decode cL_law 544 = .ok (.iconst 1, 1) := by decide +kernel
theorem dL_law_545 : decode cL_law 545 = .ok (.iadd, 1) := by decide +kernel
theorem dL_law_546 : decode cL_law 546 = .ok (.iaload, 1) := by decide +kernel
theorem dL_law_547 : decode cL_law 547 = .ok (.aload_n 0, 1) := by decide +kernel
theorem dL_law_548 : decode cL_law 548 = .ok (.iload_n 3, 1) := by decide +kernel
theorem dL_law_549 : decode cL_law 549 = .ok (.iconst 2, 1) := by decide +kernel
theorem dL_law_550 : decode cL_law 550 = .ok (.iadd, 1) := by decide +kernel
theorem dL_law_551 : decode cL_law 551 = .ok (.iaload, 1) := by decide +kernel
theorem dL_law_552 : decode cL_law 552 = .ok (.aload_n 0, 1) := by decide +kernel
theorem dL_law_553 : decode cL_law 553 = .ok (.iload_n 3, 1) := by decide +kernel
theorem dL_law_554 : decode cL_law 554 = .ok (.iconst 3, 1) := by decide +kernel
theorem dL_law_555 : decode cL_law 555 = .ok (.iadd, 1) := by decide +kernel
theorem dL_law_556 : decode cL_law 556 = .ok (.iaload, 1) := by decide +kernel
theorem dL_law_557 : decode cL_law 557 = .ok (.aload_n 0, 1) := by decide +kernel
theorem dL_law_558 : decode cL_law 558 = .ok (.iload_n 3, 1) := by decide +kernel
theorem dL_law_559 : decode cL_law 559 = .ok (.iconst 4, 1) := by decide +kernel
theorem dL_law_560 : decode cL_law 560 = .ok (.iadd, 1) := by decide +kernel
theorem dL_law_561 : decode cL_law 561 = .ok (.iaload, 1) := by decide +kernel
theorem dL_law_562 : decode cL_law 562 = .ok (.invokevirtual 71, 3) := by decide +kernel
theorem dL_law_565 : decode cL_law 565 = .ok (.aload_n 2, 1) := by decide +kernel
theorem dL_law_566 : decode cL_law 566 = .ok (.aload_n 0, 1) := by decide +kernel
theorem dL_law_567 : decode cL_law 567 = .ok (.iload_n 3, 1) := by decide +kernel
theorem dL_law_568 : decode cL_law 568 = .ok (.iconst 1, 1) := by decide +kernel
theorem dL_law_569 : decode cL_law 569 = .ok (.iadd, 1) := by decide +kernel
theorem dL_law_570 : decode cL_law 570 = .ok (.iaload, 1) := by decide +kernel
theorem dL_law_571 : decode cL_law 571 = .ok (.aload_n 0, 1) := by decide +kernel
theorem dL_law_572 : decode cL_law 572 = .ok (.iload_n 3, 1) := by decide +kernel
theorem dL_law_573 : decode cL_law 573 = .ok (.iconst 2, 1) := by decide +kernel
theorem dL_law_574 : decode cL_law 574 = .ok (.iadd, 1) := by decide +kernel
theorem dL_law_575 : decode cL_law 575 = .ok (.iaload, 1) := by decide +kernel
theorem dL_law_576 : decode cL_law 576 = .ok (.aload_n 0, 1) := by decide +kernel
theorem dL_law_577 : decode cL_law 577 = .ok (.iload_n 3, 1) := by decide +kernel
theorem dL_law_578 : decode cL_law 578 = .ok (.iconst 3, 1) := by decide +kernel
theorem dL_law_579 : decode cL_law 579 = .ok (.iadd, 1) := by decide +kernel
theorem dL_law_580 : decode cL_law 580 = .ok (.iaload, 1) := by decide +kernel
theorem dL_law_581 : decode cL_law 581 = .ok (.aload_n 0, 1) := by decide +kernel
theorem dL_law_582 : decode cL_law 582 = .ok (.iload_n 3, 1) := by decide +kernel
theorem dL_law_583 : decode cL_law 583 = .ok (.iconst 4, 1) := by decide +kernel
theorem dL_law_584 : decode cL_law 584 = .ok (.iadd, 1) := by decide +kernel
theorem dL_law_585 : decode cL_law 585 = .ok (.iaload, 1) := by decide +kernel
theorem dL_law_586 : decode cL_law 586 = .ok (.invokevirtual 74, 3) := by decide +kernel
theorem dL_law_589 : decode cL_law 589 = .ok (.if_icmp .eq 176, 3) := by decide +kernel
theorem dL_law_592 : decode cL_law 592 = .ok (.iconst 0, 1) := by decide +kernel
theorem dL_law_593 : decode cL_law 593 = .ok (.ireturn, 1) := by decide +kernel
theorem dL_law_594 : decode cL_law 594 = .ok (.aload_n 1, 1) := by decide +kernel
theorem dL_law_595 : decode cL_law 595 = .ok (.aload_n 0, 1) := by decide +kernel
theorem dL_law_596 : decode cL_law 596 = .ok (.iload_n 3, 1) := by decide +kernel
theorem dL_law_597 : decode cL_law 597 = .ok (.iconst 1, 1) := by decide +kernel
theorem dL_law_598 : decode cL_law 598 = .ok (.iadd, 1) := by decide +kernel
theorem dL_law_599 : decode cL_law 599 = .ok (.iaload, 1) := by decide +kernel
theorem dL_law_600 : decode cL_law 600 = .ok (.invokevirtual 75, 3) := by decide +kernel
theorem dL_law_603 : decode cL_law 603 = .ok (.aload_n 2, 1) := by decide +kernel
theorem dL_law_604 : decode cL_law 604 = .ok (.aload_n 0, 1) := by decide +kernel
theorem dL_law_605 : decode cL_law 605 = .ok (.iload_n 3, 1) := by decide +kernel
theorem dL_law_606 : decode cL_law 606 = .ok (.iconst 1, 1) := by decide +kernel
theorem dL_law_607 : decode cL_law 607 = .ok (.iadd, 1) := by decide +kernel
theorem dL_law_608 : decode cL_law 608 = .ok (.iaload, 1) := by decide +kernel
theorem dL_law_609 : decode cL_law 609 = .ok (.invokevirtual 78, 3) := by decide +kernel
theorem dL_law_612 : decode cL_law 612 = .ok (.if_icmp .eq 153, 3) := by decide +kernel
theorem dL_law_615 : decode cL_law 615 = .ok (.iconst 0, 1) := by decide +kernel
theorem dL_law_616 : decode cL_law 616 = .ok (.ireturn, 1) := by decide +kernel
theorem dL_law_617 : decode cL_law 617 = .ok (.aload_n 1, 1) := by decide +kernel
theorem dL_law_618 : decode cL_law 618 = .ok (.aload_n 0, 1) := by decide +kernel
theorem dL_law_619 : decode cL_law 619 = .ok (.iload_n 3, 1) := by decide +kernel
theorem dL_law_620 : decode cL_law 620 = .ok (.iconst 1, 1) := by decide +kernel
theorem dL_law_621 : decode cL_law 621 = .ok (.iadd, 1) := by decide +kernel
theorem dL_law_622 : decode cL_law 622 = .ok (.iaload, 1) := by decide +kernel
theorem dL_law_623 : decode cL_law 623 = .ok (.aload_n 0, 1) := by decide +kernel
theorem dL_law_624 : decode cL_law 624 = .ok (.iload_n 3, 1) := by decide +kernel
theorem dL_law_625 : decode cL_law 625 = .ok (.iconst 2, 1) := by decide +kernel
theorem dL_law_626 : decode cL_law 626 = .ok (.iadd, 1) := by decide +kernel
theorem dL_law_627 : decode cL_law 627 = .ok (.iaload, 1) := by decide +kernel
theorem dL_law_628 : decode cL_law 628 = .ok (.aload_n 0, 1) := by decide +kernel
theorem dL_law_629 : decode cL_law 629 = .ok (.iload_n 3, 1) := by decide +kernel
theorem dL_law_630 : decode cL_law 630 = .ok (.iconst 3, 1) := by decide +kernel
theorem dL_law_631 : decode cL_law 631 = .ok (.iadd, 1) := by decide +kernel
theorem dL_law_632 : decode cL_law 632 = .ok (.iaload, 1) := by decide +kernel
theorem dL_law_633 : decode cL_law 633 = .ok (.invokevirtual 79, 3) := by decide +kernel
theorem dL_law_636 : decode cL_law 636 = .ok (.aload_n 2, 1) := by decide +kernel
theorem dL_law_637 : decode cL_law 637 = .ok (.aload_n 0, 1) := by decide +kernel
theorem dL_law_638 : decode cL_law 638 = .ok (.iload_n 3, 1) := by decide +kernel
theorem dL_law_639 : decode cL_law 639 = .ok (.iconst 1, 1) := by decide +kernel
theorem dL_law_640 : decode cL_law 640 = .ok (.iadd, 1) := by decide +kernel
theorem dL_law_641 : decode cL_law 641 = .ok (.iaload, 1) := by decide +kernel
theorem dL_law_642 : decode cL_law 642 = .ok (.aload_n 0, 1) := by decide +kernel
theorem dL_law_643 : decode cL_law 643 = .ok (.iload_n 3, 1) := by decide +kernel
theorem dL_law_644 : decode cL_law 644 = .ok (.iconst 2, 1) := by decide +kernel
theorem dL_law_645 : decode cL_law 645 = .ok (.iadd, 1) := by decide +kernel
theorem dL_law_646 : decode cL_law 646 = .ok (.iaload, 1) := by decide +kernel
theorem dL_law_647 : decode cL_law 647 = .ok (.aload_n 0, 1) := by decide +kernel
theorem dL_law_648 : decode cL_law 648 = .ok (.iload_n 3, 1) := by decide +kernel
theorem dL_law_649 : decode cL_law 649 = .ok (.iconst 3, 1) := by decide +kernel
theorem dL_law_650 : decode cL_law 650 = .ok (.iadd, 1) := by decide +kernel
theorem dL_law_651 : decode cL_law 651 = .ok (.iaload, 1) := by decide +kernel
theorem dL_law_652 : decode cL_law 652 = .ok (.invokevirtual 82, 3) := by decide +kernel
theorem dL_law_655 : decode cL_law 655 = .ok (.if_icmp .eq 110, 3) := by decide +kernel
theorem dL_law_658 : decode cL_law 658 = .ok (.iconst 0, 1) := by decide +kernel
theorem dL_law_659 : decode cL_law 659 = .ok (.ireturn, 1) := by decide +kernel
theorem dL_law_660 : decode cL_law 660 = .ok (.aload_n 1, 1) := by decide +kernel
theorem dL_law_661 : decode cL_law 661 = .ok (.invokevirtual 83, 3) := by decide +kernel
theorem dL_law_664 : decode cL_law 664 = .ok (.aload_n 2, 1) := by decide +kernel
theorem dL_law_665 : decode cL_law 665 = .ok (.invokevirtual 86, 3) := by decide +kernel
theorem dL_law_668 : decode cL_law 668 = .ok (.if_icmp .eq 97, 3) := by decide +kernel
theorem dL_law_671 : decode cL_law 671 = .ok (.iconst 0, 1) := by decide +kernel
theorem dL_law_672 : decode cL_law 672 = .ok (.ireturn, 1) := by decide +kernel
theorem dL_law_673 : decode cL_law 673 = .ok (.aload_n 1, 1) := by decide +kernel
theorem dL_law_674 : decode cL_law 674 = .ok (.aload_n 0, 1) := by decide +kernel
theorem dL_law_675 : decode cL_law 675 = .ok (.iload_n 3, 1) := by decide +kernel
theorem dL_law_676 : decode cL_law 676 = .ok (.iconst 1, 1) := by decide +kernel
theorem dL_law_677 : decode cL_law 677 = .ok (.iadd, 1) := by decide +kernel
theorem dL_law_678 : decode cL_law 678 = .ok (.iaload, 1) := by decide +kernel
theorem dL_law_679 : decode cL_law 679 = .ok (.invokevirtual 87, 3) := by decide +kernel
theorem dL_law_682 : decode cL_law 682 = .ok (.aload_n 2, 1) := by decide +kernel
theorem dL_law_683 : decode cL_law 683 = .ok (.aload_n 0, 1) := by decide +kernel
theorem dL_law_684 : decode cL_law 684 = .ok (.iload_n 3, 1) := by decide +kernel
theorem dL_law_685 : decode cL_law 685 = .ok (.iconst 1, 1) := by decide +kernel
theorem dL_law_686 : decode cL_law 686 = .ok (.iadd, 1) := by decide +kernel
theorem dL_law_687 : decode cL_law 687 = .ok (.iaload, 1) := by decide +kernel
theorem dL_law_688 : decode cL_law 688 = .ok (.invokevirtual 90, 3) := by decide +kernel
theorem dL_law_691 : decode cL_law 691 = .ok (.if_icmp .eq 74, 3) := by decide +kernel
theorem dL_law_694 : decode cL_law 694 = .ok (.iconst 0, 1) := by decide +kernel
theorem dL_law_695 : decode cL_law 695 = .ok (.ireturn, 1) := by decide +kernel
theorem dL_law_696 : decode cL_law 696 = .ok (.aload_n 1, 1) := by decide +kernel
theorem dL_law_697 : decode cL_law 697 = .ok (.aload_n 0, 1) := by decide +kernel
theorem dL_law_698 : decode cL_law 698 = .ok (.iload_n 3, 1) := by decide +kernel
theorem dL_law_699 : decode cL_law 699 = .ok (.iconst 1, 1) := by decide +kernel
theorem dL_law_700 : decode cL_law 700 = .ok (.iadd, 1) := by decide +kernel
theorem dL_law_701 : decode cL_law 701 = .ok (.iaload, 1) := by decide +kernel
theorem dL_law_702 : decode cL_law 702 = .ok (.invokevirtual 91, 3) := by decide +kernel
theorem dL_law_705 : decode cL_law 705 = .ok (.aload_n 2, 1) := by decide +kernel
theorem dL_law_706 : decode cL_law 706 = .ok (.aload_n 0, 1) := by decide +kernel
theorem dL_law_707 : decode cL_law 707 = .ok (.iload_n 3, 1) := by decide +kernel
theorem dL_law_708 : decode cL_law 708 = .ok (.iconst 1, 1) := by decide +kernel
theorem dL_law_709 : decode cL_law 709 = .ok (.iadd, 1) := by decide +kernel
theorem dL_law_710 : decode cL_law 710 = .ok (.iaload, 1) := by decide +kernel
theorem dL_law_711 : decode cL_law 711 = .ok (.invokevirtual 94, 3) := by decide +kernel
theorem dL_law_714 : decode cL_law 714 = .ok (.if_icmp .eq 51, 3) := by decide +kernel
theorem dL_law_717 : decode cL_law 717 = .ok (.iconst 0, 1) := by decide +kernel
theorem dL_law_718 : decode cL_law 718 = .ok (.ireturn, 1) := by decide +kernel
theorem dL_law_719 : decode cL_law 719 = .ok (.aload_n 1, 1) := by decide +kernel
theorem dL_law_720 : decode cL_law 720 = .ok (.aload_n 0, 1) := by decide +kernel
theorem dL_law_721 : decode cL_law 721 = .ok (.iload_n 3, 1) := by decide +kernel
theorem dL_law_722 : decode cL_law 722 = .ok (.iconst 1, 1) := by decide +kernel
theorem dL_law_723 : decode cL_law 723 = .ok (.iadd, 1) := by decide +kernel
theorem dL_law_724 : decode cL_law 724 = .ok (.iaload, 1) := by decide +kernel
theorem dL_law_725 : decode cL_law 725 = .ok (.invokevirtual 95, 3) := by decide +kernel
theorem dL_law_728 : decode cL_law 728 = .ok (.aload_n 2, 1) := by decide +kernel
theorem dL_law_729 : decode cL_law 729 = .ok (.aload_n 0, 1) := by decide +kernel
theorem dL_law_730 : decode cL_law 730 = .ok (.iload_n 3, 1) := by decide +kernel
theorem dL_law_731 : decode cL_law 731 = .ok (.iconst 1, 1) := by decide +kernel
theorem dL_law_732 : decode cL_law 732 = .ok (.iadd, 1) := by decide +kernel
theorem dL_law_733 : decode cL_law 733 = .ok (.iaload, 1) := by decide +kernel
theorem dL_law_734 : decode cL_law 734 = .ok (.invokevirtual 98, 3) := by decide +kernel
theorem dL_law_737 : decode cL_law 737 = .ok (.if_icmp .eq 28, 3) := by decide +kernel
theorem dL_law_740 : decode cL_law 740 = .ok (.iconst 0, 1) := by decide +kernel
theorem dL_law_741 : decode cL_law 741 = .ok (.ireturn, 1) := by decide +kernel
theorem dL_law_742 : decode cL_law 742 = .ok (.aload_n 1, 1) := by decide +kernel
theorem dL_law_743 : decode cL_law 743 = .ok (.aload_n 0, 1) := by decide +kernel
theorem dL_law_744 : decode cL_law 744 = .ok (.iload_n 3, 1) := by decide +kernel
theorem dL_law_745 : decode cL_law 745 = .ok (.iconst 1, 1) := by decide +kernel
theorem dL_law_746 : decode cL_law 746 = .ok (.iadd, 1) := by decide +kernel
theorem dL_law_747 : decode cL_law 747 = .ok (.iaload, 1) := by decide +kernel
theorem dL_law_748 : decode cL_law 748 = .ok (.invokevirtual 99, 3) := by decide +kernel
theorem dL_law_751 : decode cL_law 751 = .ok (.aload_n 2, 1) := by decide +kernel
theorem dL_law_752 : decode cL_law 752 = .ok (.aload_n 0, 1) := by decide +kernel
theorem dL_law_753 : decode cL_law 753 = .ok (.iload_n 3, 1) := by decide +kernel
theorem dL_law_754 : decode cL_law 754 = .ok (.iconst 1, 1) := by decide +kernel
theorem dL_law_755 : decode cL_law 755 = .ok (.iadd, 1) := by decide +kernel
theorem dL_law_756 : decode cL_law 756 = .ok (.iaload, 1) := by decide +kernel
theorem dL_law_757 : decode cL_law 757 = .ok (.invokevirtual 102, 3) := by decide +kernel
theorem dL_law_760 : decode cL_law 760 = .ok (.if_icmp .eq 5, 3) := by decide +kernel
theorem dL_law_763 : decode cL_law 763 = .ok (.iconst 0, 1) := by decide +kernel
theorem dL_law_764 : decode cL_law 764 = .ok (.ireturn, 1) := by decide +kernel
theorem dL_law_765 : decode cL_law 765 = .ok (.iinc 3 6, 3) := by decide +kernel
theorem dL_law_768 : decode cL_law 768 = .ok (.goto (-750), 3) := by decide +kernel
theorem dL_law_771 : decode cL_law 771 = .ok (.iconst 1, 1) := by decide +kernel
theorem dL_law_772 : decode cL_law 772 = .ok (.ireturn, 1) := by decide +kernel
end
section
/-! THE MACHINE LAYER, part a: the tables' good words; the world as one memory of ints; a frame's judgement G -/
def TG : List Cond := lw_tbl.filter goodWord
theorem tg_of {w : Cond} (h : w ∈ lw_tbl) (g : goodWord w = true) : w ∈ TG := List.mem_filter.mpr ⟨h, g⟩
theorem tg_t {w : Cond} (h : w ∈ tables_1) (g : goodWord w = true) : w ∈ TG := tg_of (List.mem_append_right _ h) g
theorem tg_1 {w : Cond} (i : Nat) (h : tables_1_1[i]? = some w) (g : goodWord w = true) : w ∈ TG := tg_t (List.mem_append_left _ (List.mem_of_getElem? h)) g
theorem tg_2 {w : Cond} (i : Nat) (h : tables_1_2[i]? = some w) (g : goodWord w = true) : w ∈ TG := tg_t (List.mem_append_right _ (List.mem_append_left _ (List.mem_of_getElem? h))) g
theorem tg_3 {w : Cond} (i : Nat) (h : tables_1_3[i]? = some w) (g : goodWord w = true) : w ∈ TG := tg_t (List.mem_append_right _ (List.mem_append_right _ (List.mem_append_left _ (List.mem_of_getElem? h)))) g
theorem tg_4 {w : Cond} (i : Nat) (h : tables_1_4[i]? = some w) (g : goodWord w = true) : w ∈ TG := tg_t (List.mem_append_right _ (List.mem_append_right _ (List.mem_append_right _ (List.mem_append_left _ (List.mem_of_getElem? h))))) g
theorem tg_5 {w : Cond} (i : Nat) (h : tables_1_5[i]? = some w) (g : goodWord w = true) : w ∈ TG := tg_t (List.mem_append_right _ (List.mem_append_right _ (List.mem_append_right _ (List.mem_append_right _ (List.mem_append_left _ (List.mem_of_getElem? h)))))) g
theorem tg_6 {w : Cond} (i : Nat) (h : tables_1_6[i]? = some w) (g : goodWord w = true) : w ∈ TG := tg_t (List.mem_append_right _ (List.mem_append_right _ (List.mem_append_right _ (List.mem_append_right _ (List.mem_append_right _ (List.mem_of_getElem? h)))))) g
theorem tg_p {w : Cond} (i : Nat) (h : (k2_sels lw_privs)[i]? = some w) (g : goodWord w = true) : w ∈ TG := tg_of (List.mem_append_left _ (List.mem_of_getElem? h)) g
theorem tt_1 {w : Cond} (i : Nat) (h : tables_1_1[i]? = some w) : w ∈ tables_1 := List.mem_append_left _ (List.mem_of_getElem? h)
theorem tt_2 {w : Cond} (i : Nat) (h : tables_1_2[i]? = some w) : w ∈ tables_1 := List.mem_append_right _ (List.mem_append_left _ (List.mem_of_getElem? h))
theorem tt_3 {w : Cond} (i : Nat) (h : tables_1_3[i]? = some w) : w ∈ tables_1 := List.mem_append_right _ (List.mem_append_right _ (List.mem_append_left _ (List.mem_of_getElem? h)))
theorem tt_4 {w : Cond} (i : Nat) (h : tables_1_4[i]? = some w) : w ∈ tables_1 := List.mem_append_right _ (List.mem_append_right _ (List.mem_append_right _ (List.mem_append_left _ (List.mem_of_getElem? h))))
theorem tt_5 {w : Cond} (i : Nat) (h : tables_1_5[i]? = some w) : w ∈ tables_1 := List.mem_append_right _ (List.mem_append_right _ (List.mem_append_right _ (List.mem_append_right _ (List.mem_append_left _ (List.mem_of_getElem? h)))))
theorem tt_6 {w : Cond} (i : Nat) (h : tables_1_6[i]? = some w) : w ∈ tables_1 := List.mem_append_right _ (List.mem_append_right _ (List.mem_append_right _ (List.mem_append_right _ (List.mem_append_right _ (List.mem_of_getElem? h)))))
theorem TG_good : ∀ w ∈ TG, w ∈ TG ∧ ((w.onTables && w.keeps) = true ∨ ∃ ty, w = .arrayClass ty) := fun w h => ⟨h, good_of_word (List.mem_filter.mp h).2⟩
/-- a method: name, code, locals, what it returns, number of parameters -/
abbrev MI : Type := MethodName × ByteArray × Nat × Option FieldType × Nat
def wsM (μ : MI) : List Cond := Cond.code μ.1 μ.2.1 μ.2.2.1 μ.2.2.2.1 :: TG
def MK (μ : MI) : Prop := Cond.code μ.1 μ.2.1 μ.2.2.1 μ.2.2.2.1 ∈ TG ∧ Cond.initialized μ.1.cls ∈ TG ∧ (μ.1.cls ≠ "java/lang/invoke/MethodHandle" ∧ μ.1.cls ≠ "java/lang/invoke/VarHandle" ∧ (parseMethodDescriptor μ.1.desc).map (fun d => d.parameters.length) = some μ.2.2.2.2) ∧ plainName μ.1.cls = true ∧ μ.2.2.1 ≤ 17
def MV (μ : MI) : Prop := MK μ ∧ Cond.instanceMethod μ.1 ∈ TG ∧ Cond.selects μ.1.cls μ.1 μ.1 ∈ TG
def MS (μ : MI) : Prop := MK μ ∧ Cond.static μ.1 ∈ TG
/-- a link of a pool entry to a method -/
def LK (own : String) (idx : Nat) (y : MethodName) : Prop := Cond.methodLink own idx y ∈ TG ∨ ∃ host, Cond.methodLinkNest own idx y host ∈ tables_1
/-- a link of a pool entry to a field of the own class -/
def FL (own : String) (idx ci k : Nat) : Prop := ∃ (T : u_T) (N : Nat), vwCl[ci]? = some (own, T, N) ∧ k < N ∧ (∀ w ∈ u_ws own T N, w ∈ TG) ∧ (T k).1 = own ∧ Cond.fieldLink own idx own (T k).2.1 (T k).2.2.1 ∈ TG
/-- and it may be written, and holds an int -/
def FP (own : String) (idx ci k : Nat) : Prop := ∃ (T : u_T) (N : Nat) (ty : Nat → FieldType), vwCl[ci]? = some (own, T, N) ∧ k < N ∧ (∀ w ∈ u_ws own T N, w ∈ TG) ∧ (T k).1 = own ∧ Cond.fieldLink own idx own (T k).2.1 (T k).2.2.1 ∈ TG ∧ (∀ k, k < N → parseFieldDescriptor (T k).2.2.1 = some (ty k)) ∧ (∀ a, a < N → ∀ b, b < N → a ≠ b → (T a).2.1 ≠ (T b).2.1) ∧ (T k).2.2.2 = false ∧ parseFieldDescriptor (T k).2.2.1 = some .int
theorem goodIn_wsM {μ : MI} (h : MK μ) : GoodIn TG (wsM μ) := fun w hw => by
  rcases List.mem_cons.mp hw with rfl | hw
  · exact TG_good _ h.1
  · exact TG_good _ hw
theorem wsM_tg {μ : MI} {args : Array Value} {s : State} (h : ∀ w ∈ wsM μ, w.before args s = true) : ∀ w ∈ TG, w.before args s = true := fun w hw => h w (List.mem_cons_of_mem _ hw)
/-! the memory: for each object or array its ints; references never change, and stand in the shapes -/
abbrev Mem : Type := Nat → Nat → Int32
abbrev AV : Type := Int32 ⊕ Nat
def ms (M : Mem) (o k : Nat) (v : Int32) : Mem := fun q => if q = o then upd (M o) k v else M q
/-- a shape: an object of the number of its kind and its fields (none: an int; some j: the object or array j), an array of ints (its type's number, its length), an array of references -/
abbrev Sh : Type := (Nat × List (Option Nat)) ⊕ ((Nat × Nat) ⊕ List Nat)
def SHL : List Sh := [
  .inl (9, [some 1, some 3, some 5, some 8, some 17, some 31, some 34, some 38, some 46, some 49]),
  .inl (0, [some 2]), .inr (.inl (0, 60)),
  .inl (7, [some 4, none, none, none, none]), .inr (.inl (2, 120)),
  .inl (4, [some 6, none]), .inl (0, [some 7]), .inr (.inl (0, 60)),
  .inl (1, [some 9, some 12, some 13, some 14, some 15, some 16, none, none]), .inl (8, [some 10, some 11, none]), .inr (.inl (0, 48)), .inr (.inl (0, 48)), .inr (.inl (0, 48)), .inr (.inl (0, 48)), .inr (.inl (0, 48)), .inr (.inl (0, 48)), .inr (.inl (1, 48)),
  .inl (5, [some 18, some 21, some 22, some 23, some 24, some 25, some 26, some 27, some 28, some 29, some 30, none, none, none, none]), .inl (8, [some 19, some 20, none]), .inr (.inl (0, 48)), .inr (.inl (0, 48)),
  .inr (.inl (0, 48)), .inr (.inl (0, 48)), .inr (.inl (0, 48)), .inr (.inl (0, 48)), .inr (.inl (0, 48)), .inr (.inl (0, 48)), .inr (.inl (0, 48)), .inr (.inl (0, 48)), .inr (.inl (0, 48)), .inr (.inl (1, 48)),
  .inl (6, [some 32, some 33, none, none]), .inr (.inl (0, 10)), .inr (.inl (1, 4)),
  .inl (3, [some 35, some 36, some 37, none]), .inr (.inl (0, 6)), .inr (.inl (0, 6)), .inr (.inl (0, 6)),
  .inl (2, [some 39, none, none]), .inr (.inr [40, 41, 42, 43, 44, 45]), .inr (.inl (0, 60)), .inr (.inl (0, 60)), .inr (.inl (0, 60)), .inr (.inl (0, 60)), .inr (.inl (0, 60)), .inr (.inl (0, 60)),
  .inr (.inr [47, 48]), .inr (.inl (0, 60)), .inr (.inl (0, 60)), .inr (.inl (1, 2)),
  .inl (10, [none, some 51, some 52, some 53, none, some 54, some 55, some 56, none, some 57, none, none, none, none, none, some 58, none, none, some 59, some 60, some 61, some 62, some 63, some 64, some 65, none, some 66, some 67, some 68, none, some 69, some 70, some 71, some 72, some 73]),
  .inr (.inl (0, 60)), .inr (.inl (0, 60)), .inr (.inl (0, 360)), .inr (.inl (0, 120)), .inr (.inl (1, 2)), .inr (.inl (0, 18)), .inr (.inl (3, 120)), .inr (.inl (0, 48)),
  .inr (.inl (0, 48)), .inr (.inl (0, 48)), .inr (.inl (0, 48)), .inr (.inl (0, 48)), .inr (.inl (0, 48)), .inr (.inl (0, 48)), .inr (.inl (0, 48)), .inr (.inl (0, 48)), .inr (.inl (0, 48)), .inr (.inl (0, 48)),
  .inr (.inl (0, 48)), .inr (.inl (1, 48)), .inr (.inl (0, 10)), .inr (.inl (0, 10)), .inr (.inl (0, 4096))]
/-- fields' values -/
def fv (α : Nat → Nat) (f : Nat → Int32) (k : Nat) (r : Option Nat) : Value := match r with
  | none => .int (f k)
  | some j => .ref (α j)
def cv (α : Nat → Nat) (a : AV) : Value := match a with
  | .inl x => .int x
  | .inr j => .ref (α j)
def en (α : Nat → Nat) (cA : Nat → ClassId) (f : Nat → Int32) (h : Sh) : va_E := match h with
  | .inl q => .inr (q.1, q.2.mapIdx (fun k r => fv α f k r))
  | .inr (.inl q) => .inl (cA q.1, q.2, .inl f)
  | .inr (.inr js) => .inl (cA 4, js.length, .inr (.inr (.inr (.inr (fun i => (js[i]?).map α)))))
def wd (α : Nat → Nat) (cA : Nat → ClassId) (M : Mem) : va_W := SHL.mapIdx (fun o h => (α o, en α cA (M o) h))
abbrev tyL (cA : Nat → ClassId) : List (ClassId × FieldType) := [(cA 0, .int), (cA 1, .boolean), (cA 2, .char), (cA 3, .byte), (cA 4, .array .int)]
theorem wd_at {α : Nat → Nat} {cA : Nat → ClassId} {M : Mem} {o : Nat} {h : Sh} (hs : SHL[o]? = some h) : (wd α cA M)[o]? = some (α o, en α cA (M o) h) := by
  simp [wd, List.getElem?_mapIdx, hs]
theorem wd_set {α : Nat → Nat} {cA : Nat → ClassId} {M M' : Mem} {o : Nat} {h : Sh} (hs : SHL[o]? = some h) (hM : ∀ q, q ≠ o → M' q = M q) : (wd α cA M).set o (α o, en α cA (M' o) h) = wd α cA M' := by
  apply List.ext_getElem?
  intro i
  rw [List.getElem?_set]
  by_cases hi : o = i
  · subst hi
    have hl : o < (wd α cA M).length := (List.getElem?_eq_some_iff.mp (wd_at (α := α) (cA := cA) (M := M) hs)).1
    rw [if_pos rfl, if_pos hl, wd_at hs]
  · rw [if_neg hi]
    simp only [wd, List.getElem?_mapIdx]
    cases SHL[i]? with
    | none => rfl
    | some r => simp [hM i (fun q => hi q.symm)]
theorem ms_o {M : Mem} {o k : Nat} {v : Int32} : ms M o k v o = upd (M o) k v := by simp [ms]
theorem ms_q {M : Mem} {o k q : Nat} {v : Int32} (h : q ≠ o) : ms M o k v q = M q := by simp [ms, h]
theorem fv_set {α : Nat → Nat} {f : Nat → Int32} {fs : List (Option Nat)} {k : Nat} {v : Int32} (hk : fs[k]? = some none) : (fs.mapIdx (fun k r => fv α f k r)).set k (.int v) = fs.mapIdx (fun j r => fv α (upd f k v) j r) := by
  apply List.ext_getElem?
  intro i
  rw [List.getElem?_set]
  by_cases hi : k = i
  · subst hi
    have hl : k < fs.length := (List.getElem?_eq_some_iff.mp hk).1
    simp [hl, List.getElem?_mapIdx]
    have : fs[k] = none := by
      have := (List.getElem?_eq_some_iff.mp hk).2
      exact this
    rw [this]
    simp [fv, upd]
  · rw [if_neg hi]
    simp only [List.getElem?_mapIdx]
    cases h : fs[i]? with
    | none => rfl
    | some r =>
      cases r with
      | none => simp [fv, upd, Ne.symm hi]
      | some j => simp [fv]
end
section
/-! facts of the tables, by place (written by program) -/
abbrev uX9_init : MI := (yX9_init, cX9_init, 1, none, 0)
abbrev uX0_init : MI := (yX0_init, cX0_init, 1, none, 0)
abbrev uX0_start : MI := (yX0_start, cX0_start, 1, none, 0)
theorem kX0_start : MV uX0_start := ⟨⟨tg_1 36 (by decide +kernel) rfl, tg_1 2 (by decide +kernel) rfl, by decide +kernel, by decide +kernel, by decide +kernel⟩, tg_1 34 (by decide +kernel) rfl, tg_1 35 (by decide +kernel) rfl⟩
abbrev uJ7_fill_53178 : MI := (yJ7_fill_53178, cJ7_fill_53178, 4, none, 2)
theorem kJ7_fill_53178 : MS uJ7_fill_53178 := ⟨⟨tg_1 39 (by decide +kernel) rfl, tg_1 3 (by decide +kernel) rfl, by decide +kernel, by decide +kernel, by decide +kernel⟩, tg_1 38 (by decide +kernel) rfl⟩
abbrev uX7_init : MI := (yX7_init, cX7_init, 1, none, 0)
abbrev uX4_init : MI := (yX4_init, cX4_init, 1, none, 0)
abbrev uX1_init : MI := (yX1_init, cX1_init, 1, none, 0)
abbrev uX8_init : MI := (yX8_init, cX8_init, 1, none, 0)
abbrev uX5_init : MI := (yX5_init, cX5_init, 1, none, 0)
abbrev uX6_init : MI := (yX6_init, cX6_init, 1, none, 0)
abbrev uX3_init : MI := (yX3_init, cX3_init, 1, none, 0)
abbrev uX2_init : MI := (yX2_init, cX2_init, 1, none, 0)
abbrev uX9_type : MI := (yX9_type, cX9_type, 2, some FieldType.int, 1)
theorem kX9_type : MV uX9_type := ⟨⟨tg_2 37 (by decide +kernel) rfl, tg_1 1 (by decide +kernel) rfl, by decide +kernel, by decide +kernel, by decide +kernel⟩, tg_2 35 (by decide +kernel) rfl, tg_2 36 (by decide +kernel) rfl⟩
abbrev uX9_within : MI := (yX9_within, cX9_within, 3, some FieldType.boolean, 3)
theorem kX9_within : MS uX9_within := ⟨⟨tg_2 40 (by decide +kernel) rfl, tg_1 1 (by decide +kernel) rfl, by decide +kernel, by decide +kernel, by decide +kernel⟩, tg_2 39 (by decide +kernel) rfl⟩
abbrev uX7_length : MI := (yX7_length, cX7_length, 1, some FieldType.int, 0)
theorem kX7_length : MV uX7_length := ⟨⟨tg_2 44 (by decide +kernel) rfl, tg_1 4 (by decide +kernel) rfl, by decide +kernel, by decide +kernel, by decide +kernel⟩, tg_2 42 (by decide +kernel) rfl, tg_2 43 (by decide +kernel) rfl⟩
abbrev uX7_append : MI := (yX7_append, cX7_append, 2, none, 1)
theorem kX7_append : MV uX7_append := ⟨⟨tg_2 48 (by decide +kernel) rfl, tg_1 4 (by decide +kernel) rfl, by decide +kernel, by decide +kernel, by decide +kernel⟩, tg_2 46 (by decide +kernel) rfl, tg_2 47 (by decide +kernel) rfl⟩
abbrev uX9_clear : MI := (yX9_clear, cX9_clear, 2, some FieldType.int, 0)
theorem kX9_clear : MV uX9_clear := ⟨⟨tg_2 52 (by decide +kernel) rfl, tg_1 1 (by decide +kernel) rfl, by decide +kernel, by decide +kernel, by decide +kernel⟩, tg_2 50 (by decide +kernel) rfl, tg_2 51 (by decide +kernel) rfl⟩
abbrev uX7_drop : MI := (yX7_drop, cX7_drop, 1, none, 0)
theorem kX7_drop : MV uX7_drop := ⟨⟨tg_2 56 (by decide +kernel) rfl, tg_1 4 (by decide +kernel) rfl, by decide +kernel, by decide +kernel, by decide +kernel⟩, tg_2 54 (by decide +kernel) rfl, tg_2 55 (by decide +kernel) rfl⟩
abbrev uX9_tells : MI := (yX9_tells, cX9_tells, 2, some FieldType.int, 0)
theorem kX9_tells : MV uX9_tells := ⟨⟨tg_2 60 (by decide +kernel) rfl, tg_1 1 (by decide +kernel) rfl, by decide +kernel, by decide +kernel, by decide +kernel⟩, tg_2 58 (by decide +kernel) rfl, tg_2 59 (by decide +kernel) rfl⟩
abbrev uX4_read : MI := (yX4_read, cX4_read, 3, some FieldType.int, 1)
theorem kX4_read : MV uX4_read := ⟨⟨tg_2 64 (by decide +kernel) rfl, tg_1 5 (by decide +kernel) rfl, by decide +kernel, by decide +kernel, by decide +kernel⟩, tg_2 62 (by decide +kernel) rfl, tg_2 63 (by decide +kernel) rfl⟩
abbrev uX7_toFirstToken : MI := (yX7_toFirstToken, cX7_toFirstToken, 1, none, 0)
theorem kX7_toFirstToken : MV uX7_toFirstToken := ⟨⟨tg_2 69 (by decide +kernel) rfl, tg_1 4 (by decide +kernel) rfl, by decide +kernel, by decide +kernel, by decide +kernel⟩, tg_2 67 (by decide +kernel) rfl, tg_2 68 (by decide +kernel) rfl⟩
abbrev uX7_toNextToken : MI := (yX7_toNextToken, cX7_toNextToken, 1, none, 0)
theorem kX7_toNextToken : MV uX7_toNextToken := ⟨⟨tg_2 73 (by decide +kernel) rfl, tg_1 4 (by decide +kernel) rfl, by decide +kernel, by decide +kernel, by decide +kernel⟩, tg_2 71 (by decide +kernel) rfl, tg_2 72 (by decide +kernel) rfl⟩
abbrev uX7_kindAt : MI := (yX7_kindAt, cX7_kindAt, 3, some FieldType.int, 1)
theorem kX7_kindAt : MV uX7_kindAt := ⟨⟨tg_2 77 (by decide +kernel) rfl, tg_1 4 (by decide +kernel) rfl, by decide +kernel, by decide +kernel, by decide +kernel⟩, tg_2 76 (by decide +kernel) rfl, tg_p 0 (by decide +kernel) rfl⟩
abbrev uX7_isAtEnd : MI := (yX7_isAtEnd, cX7_isAtEnd, 1, some FieldType.boolean, 0)
theorem kX7_isAtEnd : MV uX7_isAtEnd := ⟨⟨tg_2 81 (by decide +kernel) rfl, tg_1 4 (by decide +kernel) rfl, by decide +kernel, by decide +kernel, by decide +kernel⟩, tg_2 79 (by decide +kernel) rfl, tg_2 80 (by decide +kernel) rfl⟩
abbrev uX4_passItem : MI := (yX4_passItem, cX4_passItem, 2, some FieldType.boolean, 1)
theorem kX4_passItem : MV uX4_passItem := ⟨⟨tg_2 85 (by decide +kernel) rfl, tg_1 5 (by decide +kernel) rfl, by decide +kernel, by decide +kernel, by decide +kernel⟩, tg_2 84 (by decide +kernel) rfl, tg_p 1 (by decide +kernel) rfl⟩
abbrev uX7_isWord : MI := (yX7_isWord, cX7_isWord, 3, some FieldType.boolean, 1)
theorem kX7_isWord : MV uX7_isWord := ⟨⟨tg_2 90 (by decide +kernel) rfl, tg_1 4 (by decide +kernel) rfl, by decide +kernel, by decide +kernel, by decide +kernel⟩, tg_2 88 (by decide +kernel) rfl, tg_2 89 (by decide +kernel) rfl⟩
abbrev uJ0_length_8abf5 : MI := (yJ0_length_8abf5, cJ0_length_8abf5, 1, some FieldType.int, 0)
theorem kJ0_length_8abf5 : MV uJ0_length_8abf5 := ⟨⟨tg_2 94 (by decide +kernel) rfl, tg_1 13 (by decide +kernel) rfl, by decide +kernel, by decide +kernel, by decide +kernel⟩, tg_2 92 (by decide +kernel) rfl, tg_2 93 (by decide +kernel) rfl⟩
abbrev uJ0_coder_7d493 : MI := (yJ0_coder_7d493, cJ0_coder_7d493, 1, some FieldType.byte, 0)
theorem kJ0_coder_7d493 : MV uJ0_coder_7d493 := ⟨⟨tg_2 98 (by decide +kernel) rfl, tg_1 13 (by decide +kernel) rfl, by decide +kernel, by decide +kernel, by decide +kernel⟩, tg_2 96 (by decide +kernel) rfl, tg_2 97 (by decide +kernel) rfl⟩
abbrev uX7_tokenLetter : MI := (yX7_tokenLetter, cX7_tokenLetter, 3, some FieldType.char, 1)
theorem kX7_tokenLetter : MV uX7_tokenLetter := ⟨⟨tg_2 104 (by decide +kernel) rfl, tg_1 4 (by decide +kernel) rfl, by decide +kernel, by decide +kernel, by decide +kernel⟩, tg_2 103 (by decide +kernel) rfl, tg_p 2 (by decide +kernel) rfl⟩
abbrev uJ0_charAt_5068e : MI := (yJ0_charAt_5068e, cJ0_charAt_5068e, 2, some FieldType.char, 1)
theorem kJ0_charAt_5068e : MV uJ0_charAt_5068e := ⟨⟨tg_2 108 (by decide +kernel) rfl, tg_1 13 (by decide +kernel) rfl, by decide +kernel, by decide +kernel, by decide +kernel⟩, tg_2 106 (by decide +kernel) rfl, tg_2 107 (by decide +kernel) rfl⟩
abbrev uJ0_isLatin1_aae02 : MI := (yJ0_isLatin1_aae02, cJ0_isLatin1_aae02, 1, some FieldType.boolean, 0)
theorem kJ0_isLatin1_aae02 : MV uJ0_isLatin1_aae02 := ⟨⟨tg_2 112 (by decide +kernel) rfl, tg_1 13 (by decide +kernel) rfl, by decide +kernel, by decide +kernel, by decide +kernel⟩, tg_2 110 (by decide +kernel) rfl, tg_2 111 (by decide +kernel) rfl⟩
abbrev uJ1_charAt_3b067 : MI := (yJ1_charAt_3b067, cJ1_charAt_3b067, 2, some FieldType.char, 2)
theorem kJ1_charAt_3b067 : MS uJ1_charAt_3b067 := ⟨⟨tg_2 115 (by decide +kernel) rfl, tg_1 14 (by decide +kernel) rfl, by decide +kernel, by decide +kernel, by decide +kernel⟩, tg_2 114 (by decide +kernel) rfl⟩
abbrev uJ0_checkIndex_df160 : MI := (yJ0_checkIndex_df160, cJ0_checkIndex_df160, 2, none, 2)
theorem kJ0_checkIndex_df160 : MS uJ0_checkIndex_df160 := ⟨⟨tg_2 118 (by decide +kernel) rfl, tg_1 13 (by decide +kernel) rfl, by decide +kernel, by decide +kernel, by decide +kernel⟩, tg_2 117 (by decide +kernel) rfl⟩
abbrev uJ3_checkIndex_8e157 : MI := (yJ3_checkIndex_8e157, cJ3_checkIndex_8e157, 3, some FieldType.int, 3)
theorem kJ3_checkIndex_8e157 : MS uJ3_checkIndex_8e157 := ⟨⟨tg_2 123 (by decide +kernel) rfl, tg_1 15 (by decide +kernel) rfl, by decide +kernel, by decide +kernel, by decide +kernel⟩, tg_2 122 (by decide +kernel) rfl⟩
abbrev uJ2_charAt_3b067 : MI := (yJ2_charAt_3b067, cJ2_charAt_3b067, 2, some FieldType.char, 2)
theorem kJ2_charAt_3b067 : MS uJ2_charAt_3b067 := ⟨⟨tg_2 126 (by decide +kernel) rfl, tg_1 16 (by decide +kernel) rfl, by decide +kernel, by decide +kernel, by decide +kernel⟩, tg_2 125 (by decide +kernel) rfl⟩
abbrev uJ2_checkIndex_2214a : MI := (yJ2_checkIndex_2214a, cJ2_checkIndex_2214a, 2, none, 2)
theorem kJ2_checkIndex_2214a : MS uJ2_checkIndex_2214a := ⟨⟨tg_2 129 (by decide +kernel) rfl, tg_1 16 (by decide +kernel) rfl, by decide +kernel, by decide +kernel, by decide +kernel⟩, tg_2 128 (by decide +kernel) rfl⟩
abbrev uJ2_length_9d52b : MI := (yJ2_length_9d52b, cJ2_length_9d52b, 1, some FieldType.int, 1)
theorem kJ2_length_9d52b : MS uJ2_length_9d52b := ⟨⟨tg_2 132 (by decide +kernel) rfl, tg_1 16 (by decide +kernel) rfl, by decide +kernel, by decide +kernel, by decide +kernel⟩, tg_2 131 (by decide +kernel) rfl⟩
abbrev uJ2_getChar_3b067 : MI := (yJ2_getChar_3b067, cJ2_getChar_3b067, 2, some FieldType.char, 2)
theorem kJ2_getChar_3b067 : MS uJ2_getChar_3b067 := ⟨⟨tg_2 136 (by decide +kernel) rfl, tg_1 16 (by decide +kernel) rfl, by decide +kernel, by decide +kernel, by decide +kernel⟩, tg_2 135 (by decide +kernel) rfl⟩
abbrev uX4_passCells : MI := (yX4_passCells, cX4_passCells, 5, some FieldType.boolean, 1)
theorem kX4_passCells : MV uX4_passCells := ⟨⟨tg_2 147 (by decide +kernel) rfl, tg_1 5 (by decide +kernel) rfl, by decide +kernel, by decide +kernel, by decide +kernel⟩, tg_2 146 (by decide +kernel) rfl, tg_p 3 (by decide +kernel) rfl⟩
abbrev uX0_width : MI := (yX0_width, cX0_width, 1, some FieldType.int, 0)
theorem kX0_width : MV uX0_width := ⟨⟨tg_2 151 (by decide +kernel) rfl, tg_1 2 (by decide +kernel) rfl, by decide +kernel, by decide +kernel, by decide +kernel⟩, tg_2 149 (by decide +kernel) rfl, tg_2 150 (by decide +kernel) rfl⟩
abbrev uX7_isDigits : MI := (yX7_isDigits, cX7_isDigits, 6, some FieldType.boolean, 4)
theorem kX7_isDigits : MV uX7_isDigits := ⟨⟨tg_2 155 (by decide +kernel) rfl, tg_1 4 (by decide +kernel) rfl, by decide +kernel, by decide +kernel, by decide +kernel⟩, tg_2 153 (by decide +kernel) rfl, tg_2 154 (by decide +kernel) rfl⟩
abbrev uX7_digit : MI := (yX7_digit, cX7_digit, 2, some FieldType.int, 1)
theorem kX7_digit : MV uX7_digit := ⟨⟨tg_2 160 (by decide +kernel) rfl, tg_1 4 (by decide +kernel) rfl, by decide +kernel, by decide +kernel, by decide +kernel⟩, tg_2 158 (by decide +kernel) rfl, tg_2 159 (by decide +kernel) rfl⟩
abbrev uX7_tokenLength : MI := (yX7_tokenLength, cX7_tokenLength, 1, some FieldType.int, 0)
theorem kX7_tokenLength : MV uX7_tokenLength := ⟨⟨tg_2 164 (by decide +kernel) rfl, tg_1 4 (by decide +kernel) rfl, by decide +kernel, by decide +kernel, by decide +kernel⟩, tg_2 162 (by decide +kernel) rfl, tg_2 163 (by decide +kernel) rfl⟩
abbrev uX9_placeOf : MI := (yX9_placeOf, cX9_placeOf, 2, some FieldType.int, 2)
theorem kX9_placeOf : MS uX9_placeOf := ⟨⟨tg_2 167 (by decide +kernel) rfl, tg_1 1 (by decide +kernel) rfl, by decide +kernel, by decide +kernel, by decide +kernel⟩, tg_2 166 (by decide +kernel) rfl⟩
abbrev uX0_paint : MI := (yX0_paint, cX0_paint, 3, none, 2)
theorem kX0_paint : MV uX0_paint := ⟨⟨tg_2 172 (by decide +kernel) rfl, tg_1 2 (by decide +kernel) rfl, by decide +kernel, by decide +kernel, by decide +kernel⟩, tg_2 170 (by decide +kernel) rfl, tg_2 171 (by decide +kernel) rfl⟩
abbrev uX0_set : MI := (yX0_set, cX0_set, 3, none, 2)
theorem kX0_set : MV uX0_set := ⟨⟨tg_2 176 (by decide +kernel) rfl, tg_1 2 (by decide +kernel) rfl, by decide +kernel, by decide +kernel, by decide +kernel⟩, tg_2 174 (by decide +kernel) rfl, tg_2 175 (by decide +kernel) rfl⟩
abbrev uX9_put : MI := (yX9_put, cX9_put, 3, none, 3)
theorem kX9_put : MS uX9_put := ⟨⟨tg_2 179 (by decide +kernel) rfl, tg_1 1 (by decide +kernel) rfl, by decide +kernel, by decide +kernel, by decide +kernel⟩, tg_2 178 (by decide +kernel) rfl⟩
abbrev uX4_passSemicolon : MI := (yX4_passSemicolon, cX4_passSemicolon, 2, some FieldType.boolean, 1)
theorem kX4_passSemicolon : MV uX4_passSemicolon := ⟨⟨tg_2 183 (by decide +kernel) rfl, tg_1 5 (by decide +kernel) rfl, by decide +kernel, by decide +kernel, by decide +kernel⟩, tg_2 182 (by decide +kernel) rfl, tg_p 4 (by decide +kernel) rfl⟩
abbrev uX7_isSemicolon : MI := (yX7_isSemicolon, cX7_isSemicolon, 1, some FieldType.boolean, 0)
theorem kX7_isSemicolon : MV uX7_isSemicolon := ⟨⟨tg_2 187 (by decide +kernel) rfl, tg_1 4 (by decide +kernel) rfl, by decide +kernel, by decide +kernel, by decide +kernel⟩, tg_2 185 (by decide +kernel) rfl, tg_2 186 (by decide +kernel) rfl⟩
abbrev uX4_passOfColour : MI := (yX4_passOfColour, cX4_passOfColour, 5, some FieldType.boolean, 3)
theorem kX4_passOfColour : MV uX4_passOfColour := ⟨⟨tg_2 192 (by decide +kernel) rfl, tg_1 5 (by decide +kernel) rfl, by decide +kernel, by decide +kernel, by decide +kernel⟩, tg_2 191 (by decide +kernel) rfl, tg_p 5 (by decide +kernel) rfl⟩
abbrev uX4_passValue : MI := (yX4_passValue, cX4_passValue, 5, some FieldType.boolean, 4)
theorem kX4_passValue : MV uX4_passValue := ⟨⟨tg_2 196 (by decide +kernel) rfl, tg_1 5 (by decide +kernel) rfl, by decide +kernel, by decide +kernel, by decide +kernel⟩, tg_2 195 (by decide +kernel) rfl, tg_p 6 (by decide +kernel) rfl⟩
abbrev uX7_tokenStart : MI := (yX7_tokenStart, cX7_tokenStart, 1, some FieldType.int, 0)
theorem kX7_tokenStart : MV uX7_tokenStart := ⟨⟨tg_2 203 (by decide +kernel) rfl, tg_1 4 (by decide +kernel) rfl, by decide +kernel, by decide +kernel, by decide +kernel⟩, tg_2 201 (by decide +kernel) rfl, tg_2 202 (by decide +kernel) rfl⟩
abbrev uX2_push : MI := (yX2_push, cX2_push, 2, none, 1)
theorem kX2_push : MV uX2_push := ⟨⟨tg_2 207 (by decide +kernel) rfl, tg_1 11 (by decide +kernel) rfl, by decide +kernel, by decide +kernel, by decide +kernel⟩, tg_2 205 (by decide +kernel) rfl, tg_2 206 (by decide +kernel) rfl⟩
abbrev uX0_saveTo : MI := (yX0_saveTo, cX0_saveTo, 2, none, 1)
theorem kX0_saveTo : MV uX0_saveTo := ⟨⟨tg_2 212 (by decide +kernel) rfl, tg_1 2 (by decide +kernel) rfl, by decide +kernel, by decide +kernel, by decide +kernel⟩, tg_2 210 (by decide +kernel) rfl, tg_2 211 (by decide +kernel) rfl⟩
abbrev uJ9_min_7cf53 : MI := (yJ9_min_7cf53, cJ9_min_7cf53, 2, some FieldType.int, 2)
theorem kJ9_min_7cf53 : Cond.code yJ9_min_7cf53 cJ9_min_7cf53 2 (some FieldType.int) ∈ TG ∧ Cond.initialized "java/lang/Math" ∈ TG ∧ Cond.static yJ9_min_7cf53 ∈ TG := ⟨tg_2 218 (by decide +kernel) rfl, tg_1 18 (by decide +kernel) rfl, tg_2 217 (by decide +kernel) rfl⟩
abbrev uX4_told : MI := (yX4_told, cX4_told, 1, some (FieldType.object "SewnFields$Cloth"), 0)
theorem kX4_told : MV uX4_told := ⟨⟨tg_2 222 (by decide +kernel) rfl, tg_1 5 (by decide +kernel) rfl, by decide +kernel, by decide +kernel, by decide +kernel⟩, tg_2 220 (by decide +kernel) rfl, tg_2 221 (by decide +kernel) rfl⟩
abbrev uX0_copy : MI := (yX0_copy, cX0_copy, 2, none, 1)
theorem kX0_copy : MV uX0_copy := ⟨⟨tg_2 226 (by decide +kernel) rfl, tg_1 2 (by decide +kernel) rfl, by decide +kernel, by decide +kernel, by decide +kernel⟩, tg_2 224 (by decide +kernel) rfl, tg_2 225 (by decide +kernel) rfl⟩
abbrev uX0_loadFrom : MI := (yX0_loadFrom, cX0_loadFrom, 2, none, 1)
theorem kX0_loadFrom : MV uX0_loadFrom := ⟨⟨tg_2 230 (by decide +kernel) rfl, tg_1 2 (by decide +kernel) rfl, by decide +kernel, by decide +kernel, by decide +kernel⟩, tg_2 228 (by decide +kernel) rfl, tg_2 229 (by decide +kernel) rfl⟩
abbrev uX1_number : MI := (yX1_number, cX1_number, 3, none, 1)
theorem kX1_number : MV uX1_number := ⟨⟨tg_2 234 (by decide +kernel) rfl, tg_1 6 (by decide +kernel) rfl, by decide +kernel, by decide +kernel, by decide +kernel⟩, tg_2 232 (by decide +kernel) rfl, tg_2 233 (by decide +kernel) rfl⟩
abbrev uX0_colourAt : MI := (yX0_colourAt, cX0_colourAt, 2, some FieldType.int, 1)
theorem kX0_colourAt : MV uX0_colourAt := ⟨⟨tg_2 238 (by decide +kernel) rfl, tg_1 2 (by decide +kernel) rfl, by decide +kernel, by decide +kernel, by decide +kernel⟩, tg_2 236 (by decide +kernel) rfl, tg_2 237 (by decide +kernel) rfl⟩
abbrev uX1_addField : MI := (yX1_addField, cX1_addField, 4, none, 2)
theorem kX1_addField : MV uX1_addField := ⟨⟨tg_3 2 (by decide +kernel) rfl, tg_1 6 (by decide +kernel) rfl, by decide +kernel, by decide +kernel, by decide +kernel⟩, tg_3 1 (by decide +kernel) rfl, tg_p 7 (by decide +kernel) rfl⟩
abbrev uX8_spread : MI := (yX8_spread, cX8_spread, 7, none, 2)
theorem kX8_spread : MV uX8_spread := ⟨⟨tg_3 6 (by decide +kernel) rfl, tg_1 7 (by decide +kernel) rfl, by decide +kernel, by decide +kernel, by decide +kernel⟩, tg_3 4 (by decide +kernel) rfl, tg_3 5 (by decide +kernel) rfl⟩
abbrev uX8_reach : MI := (yX8_reach, cX8_reach, 3, none, 2)
theorem kX8_reach : MV uX8_reach := ⟨⟨tg_3 11 (by decide +kernel) rfl, tg_1 7 (by decide +kernel) rfl, by decide +kernel, by decide +kernel, by decide +kernel⟩, tg_3 10 (by decide +kernel) rfl, tg_p 8 (by decide +kernel) rfl⟩
abbrev uX9_beside : MI := (yX9_beside, cX9_beside, 2, some FieldType.int, 2)
theorem kX9_beside : MS uX9_beside := ⟨⟨tg_3 14 (by decide +kernel) rfl, tg_1 1 (by decide +kernel) rfl, by decide +kernel, by decide +kernel, by decide +kernel⟩, tg_3 13 (by decide +kernel) rfl⟩
abbrev uX8_stepsTo : MI := (yX8_stepsTo, cX8_stepsTo, 2, some FieldType.int, 1)
theorem kX8_stepsTo : MV uX8_stepsTo := ⟨⟨tg_3 19 (by decide +kernel) rfl, tg_1 7 (by decide +kernel) rfl, by decide +kernel, by decide +kernel, by decide +kernel⟩, tg_3 17 (by decide +kernel) rfl, tg_3 18 (by decide +kernel) rfl⟩
abbrev uX8_size : MI := (yX8_size, cX8_size, 1, some FieldType.int, 0)
theorem kX8_size : MV uX8_size := ⟨⟨tg_3 23 (by decide +kernel) rfl, tg_1 7 (by decide +kernel) rfl, by decide +kernel, by decide +kernel, by decide +kernel⟩, tg_3 21 (by decide +kernel) rfl, tg_3 22 (by decide +kernel) rfl⟩
abbrev uX8_place : MI := (yX8_place, cX8_place, 2, some FieldType.int, 1)
theorem kX8_place : MV uX8_place := ⟨⟨tg_3 27 (by decide +kernel) rfl, tg_1 7 (by decide +kernel) rfl, by decide +kernel, by decide +kernel, by decide +kernel⟩, tg_3 25 (by decide +kernel) rfl, tg_3 26 (by decide +kernel) rfl⟩
abbrev uX9_at : MI := (yX9_at, cX9_at, 2, some FieldType.int, 2)
theorem kX9_at : MS uX9_at := ⟨⟨tg_3 30 (by decide +kernel) rfl, tg_1 1 (by decide +kernel) rfl, by decide +kernel, by decide +kernel, by decide +kernel⟩, tg_3 29 (by decide +kernel) rfl⟩
abbrev uX9_paints : MI := (yX9_paints, cX9_paints, 9, some FieldType.int, 5)
theorem kX9_paints : MV uX9_paints := ⟨⟨tg_3 36 (by decide +kernel) rfl, tg_1 1 (by decide +kernel) rfl, by decide +kernel, by decide +kernel, by decide +kernel⟩, tg_3 34 (by decide +kernel) rfl, tg_3 35 (by decide +kernel) rfl⟩
abbrev uX0_has : MI := (yX0_has, cX0_has, 3, some FieldType.boolean, 2)
theorem kX0_has : MV uX0_has := ⟨⟨tg_3 40 (by decide +kernel) rfl, tg_1 2 (by decide +kernel) rfl, by decide +kernel, by decide +kernel, by decide +kernel⟩, tg_3 38 (by decide +kernel) rfl, tg_3 39 (by decide +kernel) rfl⟩
abbrev uX0_height : MI := (yX0_height, cX0_height, 1, some FieldType.int, 0)
theorem kX0_height : MV uX0_height := ⟨⟨tg_3 46 (by decide +kernel) rfl, tg_1 2 (by decide +kernel) rfl, by decide +kernel, by decide +kernel, by decide +kernel⟩, tg_3 44 (by decide +kernel) rfl, tg_3 45 (by decide +kernel) rfl⟩
abbrev uX9_cellsOfOtherColour : MI := (yX9_cellsOfOtherColour, cX9_cellsOfOtherColour, 9, some FieldType.int, 5)
theorem kX9_cellsOfOtherColour : MV uX9_cellsOfOtherColour := ⟨⟨tg_3 50 (by decide +kernel) rfl, tg_1 1 (by decide +kernel) rfl, by decide +kernel, by decide +kernel, by decide +kernel⟩, tg_3 49 (by decide +kernel) rfl, tg_p 9 (by decide +kernel) rfl⟩
abbrev uX9_ways : MI := (yX9_ways, cX9_ways, 3, some FieldType.int, 2)
theorem kX9_ways : MV uX9_ways := ⟨⟨tg_3 57 (by decide +kernel) rfl, tg_1 1 (by decide +kernel) rfl, by decide +kernel, by decide +kernel, by decide +kernel⟩, tg_3 55 (by decide +kernel) rfl, tg_3 56 (by decide +kernel) rfl⟩
abbrev uX9_change : MI := (yX9_change, cX9_change, 4, some FieldType.int, 2)
theorem kX9_change : MV uX9_change := ⟨⟨tg_3 61 (by decide +kernel) rfl, tg_1 1 (by decide +kernel) rfl, by decide +kernel, by decide +kernel, by decide +kernel⟩, tg_3 60 (by decide +kernel) rfl, tg_p 10 (by decide +kernel) rfl⟩
abbrev uX0_get : MI := (yX0_get, cX0_get, 2, some FieldType.int, 1)
theorem kX0_get : MV uX0_get := ⟨⟨tg_3 65 (by decide +kernel) rfl, tg_1 2 (by decide +kernel) rfl, by decide +kernel, by decide +kernel, by decide +kernel⟩, tg_3 63 (by decide +kernel) rfl, tg_3 64 (by decide +kernel) rfl⟩
abbrev uX9_ranks : MI := (yX9_ranks, cX9_ranks, 3, some FieldType.int, 2)
theorem kX9_ranks : MV uX9_ranks := ⟨⟨tg_3 71 (by decide +kernel) rfl, tg_1 1 (by decide +kernel) rfl, by decide +kernel, by decide +kernel, by decide +kernel⟩, tg_3 69 (by decide +kernel) rfl, tg_3 70 (by decide +kernel) rfl⟩
abbrev uX9_mosts : MI := (yX9_mosts, cX9_mosts, 2, some FieldType.int, 1)
theorem kX9_mosts : MV uX9_mosts := ⟨⟨tg_3 75 (by decide +kernel) rfl, tg_1 1 (by decide +kernel) rfl, by decide +kernel, by decide +kernel, by decide +kernel⟩, tg_3 73 (by decide +kernel) rfl, tg_3 74 (by decide +kernel) rfl⟩
abbrev uX9_pulls : MI := (yX9_pulls, cX9_pulls, 2, some FieldType.int, 1)
theorem kX9_pulls : MV uX9_pulls := ⟨⟨tg_3 79 (by decide +kernel) rfl, tg_1 1 (by decide +kernel) rfl, by decide +kernel, by decide +kernel, by decide +kernel⟩, tg_3 77 (by decide +kernel) rfl, tg_3 78 (by decide +kernel) rfl⟩
abbrev uX9_undo : MI := (yX9_undo, cX9_undo, 1, some FieldType.int, 0)
theorem kX9_undo : MV uX9_undo := ⟨⟨tg_3 83 (by decide +kernel) rfl, tg_1 1 (by decide +kernel) rfl, by decide +kernel, by decide +kernel, by decide +kernel⟩, tg_3 81 (by decide +kernel) rfl, tg_3 82 (by decide +kernel) rfl⟩
abbrev uX2_size : MI := (yX2_size, cX2_size, 1, some FieldType.int, 0)
theorem kX2_size : MV uX2_size := ⟨⟨tg_3 87 (by decide +kernel) rfl, tg_1 11 (by decide +kernel) rfl, by decide +kernel, by decide +kernel, by decide +kernel⟩, tg_3 85 (by decide +kernel) rfl, tg_3 86 (by decide +kernel) rfl⟩
abbrev uX2_pop : MI := (yX2_pop, cX2_pop, 2, none, 1)
theorem kX2_pop : MV uX2_pop := ⟨⟨tg_3 91 (by decide +kernel) rfl, tg_1 11 (by decide +kernel) rfl, by decide +kernel, by decide +kernel, by decide +kernel⟩, tg_3 89 (by decide +kernel) rfl, tg_3 90 (by decide +kernel) rfl⟩
abbrev uJ9_max_7cf53 : MI := (yJ9_max_7cf53, cJ9_max_7cf53, 2, some FieldType.int, 2)
theorem kJ9_max_7cf53 : Cond.code yJ9_max_7cf53 cJ9_max_7cf53 2 (some FieldType.int) ∈ TG ∧ Cond.initialized "java/lang/Math" ∈ TG ∧ Cond.static yJ9_max_7cf53 ∈ TG := ⟨tg_3 95 (by decide +kernel) rfl, tg_1 18 (by decide +kernel) rfl, tg_3 94 (by decide +kernel) rfl⟩
abbrev uX9_cell : MI := (yX9_cell, cX9_cell, 5, some FieldType.int, 3)
theorem kX9_cell : MV uX9_cell := ⟨⟨tg_3 99 (by decide +kernel) rfl, tg_1 1 (by decide +kernel) rfl, by decide +kernel, by decide +kernel, by decide +kernel⟩, tg_3 97 (by decide +kernel) rfl, tg_3 98 (by decide +kernel) rfl⟩
abbrev uX1_fieldAt : MI := (yX1_fieldAt, cX1_fieldAt, 2, some FieldType.int, 1)
theorem kX1_fieldAt : MV uX1_fieldAt := ⟨⟨tg_3 103 (by decide +kernel) rfl, tg_1 6 (by decide +kernel) rfl, by decide +kernel, by decide +kernel, by decide +kernel⟩, tg_3 101 (by decide +kernel) rfl, tg_3 102 (by decide +kernel) rfl⟩
abbrev uX9_field : MI := (yX9_field, cX9_field, 3, some FieldType.int, 2)
theorem kX9_field : MV uX9_field := ⟨⟨tg_3 108 (by decide +kernel) rfl, tg_1 1 (by decide +kernel) rfl, by decide +kernel, by decide +kernel, by decide +kernel⟩, tg_3 106 (by decide +kernel) rfl, tg_3 107 (by decide +kernel) rfl⟩
abbrev uX1_has : MI := (yX1_has, cX1_has, 2, some FieldType.boolean, 1)
theorem kX1_has : MV uX1_has := ⟨⟨tg_3 112 (by decide +kernel) rfl, tg_1 6 (by decide +kernel) rfl, by decide +kernel, by decide +kernel, by decide +kernel⟩, tg_3 110 (by decide +kernel) rfl, tg_3 111 (by decide +kernel) rfl⟩
abbrev uX1_colourOf : MI := (yX1_colourOf, cX1_colourOf, 2, some FieldType.int, 1)
theorem kX1_colourOf : MV uX1_colourOf := ⟨⟨tg_3 116 (by decide +kernel) rfl, tg_1 6 (by decide +kernel) rfl, by decide +kernel, by decide +kernel, by decide +kernel⟩, tg_3 114 (by decide +kernel) rfl, tg_3 115 (by decide +kernel) rfl⟩
abbrev uX1_sizeOf : MI := (yX1_sizeOf, cX1_sizeOf, 2, some FieldType.int, 1)
theorem kX1_sizeOf : MV uX1_sizeOf := ⟨⟨tg_3 120 (by decide +kernel) rfl, tg_1 6 (by decide +kernel) rfl, by decide +kernel, by decide +kernel, by decide +kernel⟩, tg_3 118 (by decide +kernel) rfl, tg_3 119 (by decide +kernel) rfl⟩
abbrev uX1_smallestOf : MI := (yX1_smallestOf, cX1_smallestOf, 2, some FieldType.int, 1)
theorem kX1_smallestOf : MV uX1_smallestOf := ⟨⟨tg_3 124 (by decide +kernel) rfl, tg_1 6 (by decide +kernel) rfl, by decide +kernel, by decide +kernel, by decide +kernel⟩, tg_3 122 (by decide +kernel) rfl, tg_3 123 (by decide +kernel) rfl⟩
abbrev uX0_numberOf : MI := (yX0_numberOf, cX0_numberOf, 2, some FieldType.int, 1)
theorem kX0_numberOf : MV uX0_numberOf := ⟨⟨tg_3 128 (by decide +kernel) rfl, tg_1 2 (by decide +kernel) rfl, by decide +kernel, by decide +kernel, by decide +kernel⟩, tg_3 126 (by decide +kernel) rfl, tg_3 127 (by decide +kernel) rfl⟩
abbrev uX9_betterWay : MI := (yX9_betterWay, cX9_betterWay, 5, some FieldType.int, 1)
theorem kX9_betterWay : MV uX9_betterWay := ⟨⟨tg_3 132 (by decide +kernel) rfl, tg_1 1 (by decide +kernel) rfl, by decide +kernel, by decide +kernel, by decide +kernel⟩, tg_3 131 (by decide +kernel) rfl, tg_p 11 (by decide +kernel) rfl⟩
abbrev uX5_lay : MI := (yX5_lay, cX5_lay, 5, none, 4)
theorem kX5_lay : MV uX5_lay := ⟨⟨tg_3 136 (by decide +kernel) rfl, tg_1 8 (by decide +kernel) rfl, by decide +kernel, by decide +kernel, by decide +kernel⟩, tg_3 134 (by decide +kernel) rfl, tg_3 135 (by decide +kernel) rfl⟩
abbrev uX0_most : MI := (yX0_most, cX0_most, 1, some FieldType.int, 0)
theorem kX0_most : MV uX0_most := ⟨⟨tg_3 140 (by decide +kernel) rfl, tg_1 2 (by decide +kernel) rfl, by decide +kernel, by decide +kernel, by decide +kernel⟩, tg_3 138 (by decide +kernel) rfl, tg_3 139 (by decide +kernel) rfl⟩
abbrev uX5_findRows : MI := (yX5_findRows, cX5_findRows, 10, none, 3)
theorem kX5_findRows : MV uX5_findRows := ⟨⟨tg_3 144 (by decide +kernel) rfl, tg_1 8 (by decide +kernel) rfl, by decide +kernel, by decide +kernel, by decide +kernel⟩, tg_3 143 (by decide +kernel) rfl, tg_p 12 (by decide +kernel) rfl⟩
abbrev uX5_lineLength : MI := (yX5_lineLength, cX5_lineLength, 2, some FieldType.int, 1)
theorem kX5_lineLength : MV uX5_lineLength := ⟨⟨tg_3 150 (by decide +kernel) rfl, tg_1 8 (by decide +kernel) rfl, by decide +kernel, by decide +kernel, by decide +kernel⟩, tg_3 149 (by decide +kernel) rfl, tg_p 13 (by decide +kernel) rfl⟩
abbrev uX5_placeIn : MI := (yX5_placeIn, cX5_placeIn, 3, some FieldType.int, 2)
theorem kX5_placeIn : MV uX5_placeIn := ⟨⟨tg_3 154 (by decide +kernel) rfl, tg_1 8 (by decide +kernel) rfl, by decide +kernel, by decide +kernel, by decide +kernel⟩, tg_3 153 (by decide +kernel) rfl, tg_p 14 (by decide +kernel) rfl⟩
abbrev uX5_startRow : MI := (yX5_startRow, cX5_startRow, 4, none, 3)
theorem kX5_startRow : MV uX5_startRow := ⟨⟨tg_3 160 (by decide +kernel) rfl, tg_1 8 (by decide +kernel) rfl, by decide +kernel, by decide +kernel, by decide +kernel⟩, tg_3 159 (by decide +kernel) rfl, tg_p 15 (by decide +kernel) rfl⟩
abbrev uX5_joinRows : MI := (yX5_joinRows, cX5_joinRows, 4, none, 0)
theorem kX5_joinRows : MV uX5_joinRows := ⟨⟨tg_3 165 (by decide +kernel) rfl, tg_1 8 (by decide +kernel) rfl, by decide +kernel, by decide +kernel, by decide +kernel⟩, tg_3 164 (by decide +kernel) rfl, tg_p 16 (by decide +kernel) rfl⟩
abbrev uX5_rowContinuedBy : MI := (yX5_rowContinuedBy, cX5_rowContinuedBy, 4, some FieldType.int, 1)
theorem kX5_rowContinuedBy : MV uX5_rowContinuedBy := ⟨⟨tg_3 169 (by decide +kernel) rfl, tg_1 8 (by decide +kernel) rfl, by decide +kernel, by decide +kernel, by decide +kernel⟩, tg_3 168 (by decide +kernel) rfl, tg_p 17 (by decide +kernel) rfl⟩
abbrev uX5_isNextTo : MI := (yX5_isNextTo, cX5_isNextTo, 3, some FieldType.boolean, 2)
theorem kX5_isNextTo : MV uX5_isNextTo := ⟨⟨tg_3 173 (by decide +kernel) rfl, tg_1 8 (by decide +kernel) rfl, by decide +kernel, by decide +kernel, by decide +kernel⟩, tg_3 172 (by decide +kernel) rfl, tg_p 18 (by decide +kernel) rfl⟩
abbrev uX5_figure : MI := (yX5_figure, cX5_figure, 3, some FieldType.int, 2)
theorem kX5_figure : MV uX5_figure := ⟨⟨tg_3 178 (by decide +kernel) rfl, tg_1 8 (by decide +kernel) rfl, by decide +kernel, by decide +kernel, by decide +kernel⟩, tg_3 176 (by decide +kernel) rfl, tg_3 177 (by decide +kernel) rfl⟩
abbrev uX5_stitches : MI := (yX5_stitches, cX5_stitches, 3, some FieldType.int, 0)
theorem kX5_stitches : MV uX5_stitches := ⟨⟨tg_3 182 (by decide +kernel) rfl, tg_1 8 (by decide +kernel) rfl, by decide +kernel, by decide +kernel, by decide +kernel⟩, tg_3 181 (by decide +kernel) rfl, tg_p 19 (by decide +kernel) rfl⟩
abbrev uX5_rowStitches : MI := (yX5_rowStitches, cX5_rowStitches, 2, some FieldType.int, 1)
theorem kX5_rowStitches : MV uX5_rowStitches := ⟨⟨tg_3 186 (by decide +kernel) rfl, tg_1 8 (by decide +kernel) rfl, by decide +kernel, by decide +kernel, by decide +kernel⟩, tg_3 184 (by decide +kernel) rfl, tg_3 185 (by decide +kernel) rfl⟩
abbrev uX5_rowLength : MI := (yX5_rowLength, cX5_rowLength, 2, some FieldType.int, 1)
theorem kX5_rowLength : MV uX5_rowLength := ⟨⟨tg_3 190 (by decide +kernel) rfl, tg_1 8 (by decide +kernel) rfl, by decide +kernel, by decide +kernel, by decide +kernel⟩, tg_3 188 (by decide +kernel) rfl, tg_3 189 (by decide +kernel) rfl⟩
abbrev uX5_travel : MI := (yX5_travel, cX5_travel, 4, some FieldType.int, 1)
theorem kX5_travel : MV uX5_travel := ⟨⟨tg_3 194 (by decide +kernel) rfl, tg_1 8 (by decide +kernel) rfl, by decide +kernel, by decide +kernel, by decide +kernel⟩, tg_3 193 (by decide +kernel) rfl, tg_p 20 (by decide +kernel) rfl⟩
abbrev uX5_hiddenWay : MI := (yX5_hiddenWay, cX5_hiddenWay, 3, some FieldType.int, 2)
theorem kX5_hiddenWay : MV uX5_hiddenWay := ⟨⟨tg_3 198 (by decide +kernel) rfl, tg_1 8 (by decide +kernel) rfl, by decide +kernel, by decide +kernel, by decide +kernel⟩, tg_3 196 (by decide +kernel) rfl, tg_3 197 (by decide +kernel) rfl⟩
abbrev uX5_partEnd : MI := (yX5_partEnd, cX5_partEnd, 3, some FieldType.int, 1)
theorem kX5_partEnd : MV uX5_partEnd := ⟨⟨tg_3 202 (by decide +kernel) rfl, tg_1 8 (by decide +kernel) rfl, by decide +kernel, by decide +kernel, by decide +kernel⟩, tg_3 200 (by decide +kernel) rfl, tg_3 201 (by decide +kernel) rfl⟩
abbrev uX5_partStart : MI := (yX5_partStart, cX5_partStart, 2, some FieldType.int, 1)
theorem kX5_partStart : MV uX5_partStart := ⟨⟨tg_3 207 (by decide +kernel) rfl, tg_1 8 (by decide +kernel) rfl, by decide +kernel, by decide +kernel, by decide +kernel⟩, tg_3 205 (by decide +kernel) rfl, tg_3 206 (by decide +kernel) rfl⟩
abbrev uX1_touching : MI := (yX1_touching, cX1_touching, 3, some FieldType.int, 1)
theorem kX1_touching : MV uX1_touching := ⟨⟨tg_3 212 (by decide +kernel) rfl, tg_1 6 (by decide +kernel) rfl, by decide +kernel, by decide +kernel, by decide +kernel⟩, tg_3 210 (by decide +kernel) rfl, tg_3 211 (by decide +kernel) rfl⟩
abbrev uX9_wipe : MI := (yX9_wipe, cX9_wipe, 2, none, 1)
theorem kX9_wipe : MS uX9_wipe := ⟨⟨tg_3 215 (by decide +kernel) rfl, tg_1 1 (by decide +kernel) rfl, by decide +kernel, by decide +kernel, by decide +kernel⟩, tg_3 214 (by decide +kernel) rfl⟩
abbrev uX1_markBeside : MI := (yX1_markBeside, cX1_markBeside, 5, none, 2)
theorem kX1_markBeside : MV uX1_markBeside := ⟨⟨tg_3 219 (by decide +kernel) rfl, tg_1 6 (by decide +kernel) rfl, by decide +kernel, by decide +kernel, by decide +kernel⟩, tg_3 218 (by decide +kernel) rfl, tg_p 21 (by decide +kernel) rfl⟩
abbrev uX9_countTrue : MI := (yX9_countTrue, cX9_countTrue, 6, some FieldType.int, 1)
theorem kX9_countTrue : MS uX9_countTrue := ⟨⟨tg_3 224 (by decide +kernel) rfl, tg_1 1 (by decide +kernel) rfl, by decide +kernel, by decide +kernel, by decide +kernel⟩, tg_3 223 (by decide +kernel) rfl⟩
abbrev uX9_covered : MI := (yX9_covered, cX9_covered, 5, some FieldType.int, 2)
theorem kX9_covered : MV uX9_covered := ⟨⟨tg_3 228 (by decide +kernel) rfl, tg_1 1 (by decide +kernel) rfl, by decide +kernel, by decide +kernel, by decide +kernel⟩, tg_3 227 (by decide +kernel) rfl, tg_p 22 (by decide +kernel) rfl⟩
abbrev uX0_wayOf : MI := (yX0_wayOf, cX0_wayOf, 2, some FieldType.int, 1)
theorem kX0_wayOf : MV uX0_wayOf := ⟨⟨tg_3 232 (by decide +kernel) rfl, tg_1 2 (by decide +kernel) rfl, by decide +kernel, by decide +kernel, by decide +kernel⟩, tg_3 230 (by decide +kernel) rfl, tg_3 231 (by decide +kernel) rfl⟩
abbrev uX5_cover : MI := (yX5_cover, cX5_cover, 7, none, 1)
theorem kX5_cover : MV uX5_cover := ⟨⟨tg_3 236 (by decide +kernel) rfl, tg_1 8 (by decide +kernel) rfl, by decide +kernel, by decide +kernel, by decide +kernel⟩, tg_3 234 (by decide +kernel) rfl, tg_3 235 (by decide +kernel) rfl⟩
abbrev uX0_pull : MI := (yX0_pull, cX0_pull, 1, some FieldType.int, 0)
theorem kX0_pull : MV uX0_pull := ⟨⟨tg_4 1 (by decide +kernel) rfl, tg_1 2 (by decide +kernel) rfl, by decide +kernel, by decide +kernel, by decide +kernel⟩, tg_3 239 (by decide +kernel) rfl, tg_4 0 (by decide +kernel) rfl⟩
abbrev uX5_coveredCells : MI := (yX5_coveredCells, cX5_coveredCells, 1, some FieldType.int, 0)
theorem kX5_coveredCells : MV uX5_coveredCells := ⟨⟨tg_4 8 (by decide +kernel) rfl, tg_1 8 (by decide +kernel) rfl, by decide +kernel, by decide +kernel, by decide +kernel⟩, tg_4 6 (by decide +kernel) rfl, tg_4 7 (by decide +kernel) rfl⟩
abbrev uX5_coveredOf : MI := (yX5_coveredOf, cX5_coveredOf, 5, some FieldType.int, 2)
theorem kX5_coveredOf : MV uX5_coveredOf := ⟨⟨tg_4 13 (by decide +kernel) rfl, tg_1 8 (by decide +kernel) rfl, by decide +kernel, by decide +kernel, by decide +kernel⟩, tg_4 11 (by decide +kernel) rfl, tg_4 12 (by decide +kernel) rfl⟩
abbrev uX9_sewn : MI := (yX9_sewn, cX9_sewn, 4, some FieldType.int, 3)
theorem kX9_sewn : MV uX9_sewn := ⟨⟨tg_4 18 (by decide +kernel) rfl, tg_1 1 (by decide +kernel) rfl, by decide +kernel, by decide +kernel, by decide +kernel⟩, tg_4 16 (by decide +kernel) rfl, tg_4 17 (by decide +kernel) rfl⟩
abbrev uX9_row : MI := (yX9_row, cX9_row, 5, some FieldType.int, 4)
theorem kX9_row : MV uX9_row := ⟨⟨tg_4 22 (by decide +kernel) rfl, tg_1 1 (by decide +kernel) rfl, by decide +kernel, by decide +kernel, by decide +kernel⟩, tg_4 20 (by decide +kernel) rfl, tg_4 21 (by decide +kernel) rfl⟩
abbrev uX5_rowsLaid : MI := (yX5_rowsLaid, cX5_rowsLaid, 1, some FieldType.int, 0)
theorem kX5_rowsLaid : MV uX5_rowsLaid := ⟨⟨tg_4 26 (by decide +kernel) rfl, tg_1 8 (by decide +kernel) rfl, by decide +kernel, by decide +kernel, by decide +kernel⟩, tg_4 24 (by decide +kernel) rfl, tg_4 25 (by decide +kernel) rfl⟩
abbrev uX5_rowStart : MI := (yX5_rowStart, cX5_rowStart, 2, some FieldType.int, 1)
theorem kX5_rowStart : MV uX5_rowStart := ⟨⟨tg_4 30 (by decide +kernel) rfl, tg_1 8 (by decide +kernel) rfl, by decide +kernel, by decide +kernel, by decide +kernel⟩, tg_4 28 (by decide +kernel) rfl, tg_4 29 (by decide +kernel) rfl⟩
abbrev uX5_rowPart : MI := (yX5_rowPart, cX5_rowPart, 2, some FieldType.int, 1)
theorem kX5_rowPart : MV uX5_rowPart := ⟨⟨tg_4 36 (by decide +kernel) rfl, tg_1 8 (by decide +kernel) rfl, by decide +kernel, by decide +kernel, by decide +kernel⟩, tg_4 34 (by decide +kernel) rfl, tg_4 35 (by decide +kernel) rfl⟩
abbrev uX9_part : MI := (yX9_part, cX9_part, 5, some FieldType.int, 4)
theorem kX9_part : MV uX9_part := ⟨⟨tg_4 40 (by decide +kernel) rfl, tg_1 1 (by decide +kernel) rfl, by decide +kernel, by decide +kernel, by decide +kernel⟩, tg_4 38 (by decide +kernel) rfl, tg_4 39 (by decide +kernel) rfl⟩
abbrev uX5_partsLaid : MI := (yX5_partsLaid, cX5_partsLaid, 1, some FieldType.int, 0)
theorem kX5_partsLaid : MV uX5_partsLaid := ⟨⟨tg_4 44 (by decide +kernel) rfl, tg_1 8 (by decide +kernel) rfl, by decide +kernel, by decide +kernel, by decide +kernel⟩, tg_4 42 (by decide +kernel) rfl, tg_4 43 (by decide +kernel) rfl⟩
abbrev uX5_partRows : MI := (yX5_partRows, cX5_partRows, 2, some FieldType.int, 1)
theorem kX5_partRows : MV uX5_partRows := ⟨⟨tg_4 48 (by decide +kernel) rfl, tg_1 8 (by decide +kernel) rfl, by decide +kernel, by decide +kernel, by decide +kernel⟩, tg_4 46 (by decide +kernel) rfl, tg_4 47 (by decide +kernel) rfl⟩
abbrev uX9_order : MI := (yX9_order, cX9_order, 2, some FieldType.int, 1)
theorem kX9_order : MV uX9_order := ⟨⟨tg_4 55 (by decide +kernel) rfl, tg_1 1 (by decide +kernel) rfl, by decide +kernel, by decide +kernel, by decide +kernel⟩, tg_4 53 (by decide +kernel) rfl, tg_4 54 (by decide +kernel) rfl⟩
abbrev uX1_size : MI := (yX1_size, cX1_size, 1, some FieldType.int, 0)
theorem kX1_size : MV uX1_size := ⟨⟨tg_4 59 (by decide +kernel) rfl, tg_1 6 (by decide +kernel) rfl, by decide +kernel, by decide +kernel, by decide +kernel⟩, tg_4 57 (by decide +kernel) rfl, tg_4 58 (by decide +kernel) rfl⟩
abbrev uX6_lay : MI := (yX6_lay, cX6_lay, 5, none, 2)
theorem kX6_lay : MV uX6_lay := ⟨⟨tg_4 63 (by decide +kernel) rfl, tg_1 9 (by decide +kernel) rfl, by decide +kernel, by decide +kernel, by decide +kernel⟩, tg_4 61 (by decide +kernel) rfl, tg_4 62 (by decide +kernel) rfl⟩
abbrev uX6_nextColour : MI := (yX6_nextColour, cX6_nextColour, 5, some FieldType.int, 2)
theorem kX6_nextColour : MV uX6_nextColour := ⟨⟨tg_4 68 (by decide +kernel) rfl, tg_1 9 (by decide +kernel) rfl, by decide +kernel, by decide +kernel, by decide +kernel⟩, tg_4 67 (by decide +kernel) rfl, tg_p 23 (by decide +kernel) rfl⟩
abbrev uX6_isSewn : MI := (yX6_isSewn, cX6_isSewn, 2, some FieldType.boolean, 1)
theorem kX6_isSewn : MV uX6_isSewn := ⟨⟨tg_4 74 (by decide +kernel) rfl, tg_1 9 (by decide +kernel) rfl, by decide +kernel, by decide +kernel, by decide +kernel⟩, tg_4 73 (by decide +kernel) rfl, tg_p 24 (by decide +kernel) rfl⟩
abbrev uX6_mustWait : MI := (yX6_mustWait, cX6_mustWait, 4, some FieldType.boolean, 2)
theorem kX6_mustWait : MV uX6_mustWait := ⟨⟨tg_4 79 (by decide +kernel) rfl, tg_1 9 (by decide +kernel) rfl, by decide +kernel, by decide +kernel, by decide +kernel⟩, tg_4 78 (by decide +kernel) rfl, tg_p 25 (by decide +kernel) rfl⟩
abbrev uX0_rankOf : MI := (yX0_rankOf, cX0_rankOf, 2, some FieldType.int, 1)
theorem kX0_rankOf : MV uX0_rankOf := ⟨⟨tg_4 83 (by decide +kernel) rfl, tg_1 2 (by decide +kernel) rfl, by decide +kernel, by decide +kernel, by decide +kernel⟩, tg_4 81 (by decide +kernel) rfl, tg_4 82 (by decide +kernel) rfl⟩
abbrev uX0_touch : MI := (yX0_touch, cX0_touch, 4, some FieldType.boolean, 2)
theorem kX0_touch : MV uX0_touch := ⟨⟨tg_4 87 (by decide +kernel) rfl, tg_1 2 (by decide +kernel) rfl, by decide +kernel, by decide +kernel, by decide +kernel⟩, tg_4 85 (by decide +kernel) rfl, tg_4 86 (by decide +kernel) rfl⟩
abbrev uX0_isBeside : MI := (yX0_isBeside, cX0_isBeside, 4, some FieldType.boolean, 2)
theorem kX0_isBeside : MV uX0_isBeside := ⟨⟨tg_4 92 (by decide +kernel) rfl, tg_1 2 (by decide +kernel) rfl, by decide +kernel, by decide +kernel, by decide +kernel⟩, tg_4 91 (by decide +kernel) rfl, tg_p 26 (by decide +kernel) rfl⟩
abbrev uX6_addFields : MI := (yX6_addFields, cX6_addFields, 4, none, 2)
theorem kX6_addFields : MV uX6_addFields := ⟨⟨tg_4 97 (by decide +kernel) rfl, tg_1 9 (by decide +kernel) rfl, by decide +kernel, by decide +kernel, by decide +kernel⟩, tg_4 96 (by decide +kernel) rfl, tg_p 27 (by decide +kernel) rfl⟩
abbrev uX6_changes : MI := (yX6_changes, cX6_changes, 1, some FieldType.int, 0)
theorem kX6_changes : MV uX6_changes := ⟨⟨tg_4 102 (by decide +kernel) rfl, tg_1 9 (by decide +kernel) rfl, by decide +kernel, by decide +kernel, by decide +kernel⟩, tg_4 100 (by decide +kernel) rfl, tg_4 101 (by decide +kernel) rfl⟩
abbrev uX6_fieldAt : MI := (yX6_fieldAt, cX6_fieldAt, 2, some FieldType.int, 1)
theorem kX6_fieldAt : MV uX6_fieldAt := ⟨⟨tg_4 106 (by decide +kernel) rfl, tg_1 9 (by decide +kernel) rfl, by decide +kernel, by decide +kernel, by decide +kernel⟩, tg_4 104 (by decide +kernel) rfl, tg_4 105 (by decide +kernel) rfl⟩
abbrev uX9_sees : MI := (yX9_sees, cX9_sees, 4, some FieldType.int, 3)
theorem kX9_sees : MV uX9_sees := ⟨⟨tg_4 111 (by decide +kernel) rfl, tg_1 1 (by decide +kernel) rfl, by decide +kernel, by decide +kernel, by decide +kernel⟩, tg_4 109 (by decide +kernel) rfl, tg_4 110 (by decide +kernel) rfl⟩
abbrev uX3_size : MI := (yX3_size, cX3_size, 1, some FieldType.int, 0)
theorem kX3_size : MV uX3_size := ⟨⟨tg_4 115 (by decide +kernel) rfl, tg_1 10 (by decide +kernel) rfl, by decide +kernel, by decide +kernel, by decide +kernel⟩, tg_4 113 (by decide +kernel) rfl, tg_4 114 (by decide +kernel) rfl⟩
abbrev uX3_add : MI := (yX3_add, cX3_add, 4, none, 3)
theorem kX3_add : MV uX3_add := ⟨⟨tg_4 119 (by decide +kernel) rfl, tg_1 10 (by decide +kernel) rfl, by decide +kernel, by decide +kernel, by decide +kernel⟩, tg_4 117 (by decide +kernel) rfl, tg_4 118 (by decide +kernel) rfl⟩
abbrev uX9_forget : MI := (yX9_forget, cX9_forget, 2, some FieldType.int, 0)
theorem kX9_forget : MV uX9_forget := ⟨⟨tg_4 125 (by decide +kernel) rfl, tg_1 1 (by decide +kernel) rfl, by decide +kernel, by decide +kernel, by decide +kernel⟩, tg_4 123 (by decide +kernel) rfl, tg_4 124 (by decide +kernel) rfl⟩
abbrev uX3_drop : MI := (yX3_drop, cX3_drop, 1, none, 0)
theorem kX3_drop : MV uX3_drop := ⟨⟨tg_4 129 (by decide +kernel) rfl, tg_1 10 (by decide +kernel) rfl, by decide +kernel, by decide +kernel, by decide +kernel⟩, tg_4 127 (by decide +kernel) rfl, tg_4 128 (by decide +kernel) rfl⟩
abbrev uX9_which : MI := (yX9_which, cX9_which, 5, some FieldType.int, 1)
theorem kX9_which : MV uX9_which := ⟨⟨tg_4 133 (by decide +kernel) rfl, tg_1 1 (by decide +kernel) rfl, by decide +kernel, by decide +kernel, by decide +kernel⟩, tg_4 131 (by decide +kernel) rfl, tg_4 132 (by decide +kernel) rfl⟩
abbrev uX3_agree : MI := (yX3_agree, cX3_agree, 6, some FieldType.boolean, 4)
theorem kX3_agree : MV uX3_agree := ⟨⟨tg_4 137 (by decide +kernel) rfl, tg_1 10 (by decide +kernel) rfl, by decide +kernel, by decide +kernel, by decide +kernel⟩, tg_4 135 (by decide +kernel) rfl, tg_4 136 (by decide +kernel) rfl⟩
abbrev uX9_keep : MI := (yX9_keep, cX9_keep, 2, some FieldType.int, 1)
theorem kX9_keep : MV uX9_keep := ⟨⟨tg_4 144 (by decide +kernel) rfl, tg_1 1 (by decide +kernel) rfl, by decide +kernel, by decide +kernel, by decide +kernel⟩, tg_4 142 (by decide +kernel) rfl, tg_4 143 (by decide +kernel) rfl⟩
abbrev uX9_back : MI := (yX9_back, cX9_back, 2, some FieldType.int, 1)
theorem kX9_back : MV uX9_back := ⟨⟨tg_4 149 (by decide +kernel) rfl, tg_1 1 (by decide +kernel) rfl, by decide +kernel, by decide +kernel, by decide +kernel⟩, tg_4 147 (by decide +kernel) rfl, tg_4 148 (by decide +kernel) rfl⟩
abbrev uX2_drop : MI := (yX2_drop, cX2_drop, 1, none, 0)
theorem kX2_drop : MV uX2_drop := ⟨⟨tg_4 154 (by decide +kernel) rfl, tg_1 11 (by decide +kernel) rfl, by decide +kernel, by decide +kernel, by decide +kernel⟩, tg_4 152 (by decide +kernel) rfl, tg_4 153 (by decide +kernel) rfl⟩
abbrev uX9_count : MI := (yX9_count, cX9_count, 2, some FieldType.int, 1)
theorem kX9_count : MV uX9_count := ⟨⟨tg_4 158 (by decide +kernel) rfl, tg_1 1 (by decide +kernel) rfl, by decide +kernel, by decide +kernel, by decide +kernel⟩, tg_4 156 (by decide +kernel) rfl, tg_4 157 (by decide +kernel) rfl⟩
abbrev uX1_cells : MI := (yX1_cells, cX1_cells, 1, some FieldType.int, 0)
theorem kX1_cells : MV uX1_cells := ⟨⟨tg_4 166 (by decide +kernel) rfl, tg_1 6 (by decide +kernel) rfl, by decide +kernel, by decide +kernel, by decide +kernel⟩, tg_4 164 (by decide +kernel) rfl, tg_4 165 (by decide +kernel) rfl⟩
abbrev uX10_init : MI := (yX10_init, cX10_init, 1, none, 0)
abbrev uX10_type : MI := (yX10_type, cX10_type, 2, some FieldType.int, 1)
theorem kX10_type : MV uX10_type := ⟨⟨tg_5 42 (by decide +kernel) rfl, tg_1 12 (by decide +kernel) rfl, by decide +kernel, by decide +kernel, by decide +kernel⟩, tg_5 40 (by decide +kernel) rfl, tg_5 41 (by decide +kernel) rfl⟩
abbrev uX10_in : MI := (yX10_in, cX10_in, 3, some FieldType.boolean, 3)
theorem kX10_in : MS uX10_in := ⟨⟨tg_5 45 (by decide +kernel) rfl, tg_1 12 (by decide +kernel) rfl, by decide +kernel, by decide +kernel, by decide +kernel⟩, tg_5 44 (by decide +kernel) rfl⟩
abbrev uX10_clear : MI := (yX10_clear, cX10_clear, 2, some FieldType.int, 0)
theorem kX10_clear : MV uX10_clear := ⟨⟨tg_5 49 (by decide +kernel) rfl, tg_1 12 (by decide +kernel) rfl, by decide +kernel, by decide +kernel, by decide +kernel⟩, tg_5 47 (by decide +kernel) rfl, tg_5 48 (by decide +kernel) rfl⟩
abbrev uX10_tells : MI := (yX10_tells, cX10_tells, 3, some FieldType.int, 0)
theorem kX10_tells : MV uX10_tells := ⟨⟨tg_5 53 (by decide +kernel) rfl, tg_1 12 (by decide +kernel) rfl, by decide +kernel, by decide +kernel, by decide +kernel⟩, tg_5 51 (by decide +kernel) rfl, tg_5 52 (by decide +kernel) rfl⟩
abbrev uX10_reads : MI := (yX10_reads, cX10_reads, 2, some FieldType.int, 0)
theorem kX10_reads : MV uX10_reads := ⟨⟨tg_5 57 (by decide +kernel) rfl, tg_1 12 (by decide +kernel) rfl, by decide +kernel, by decide +kernel, by decide +kernel⟩, tg_5 56 (by decide +kernel) rfl, tg_p 28 (by decide +kernel) rfl⟩
abbrev uX10_steps : MI := (yX10_steps, cX10_steps, 1, none, 0)
theorem kX10_steps : MV uX10_steps := ⟨⟨tg_5 61 (by decide +kernel) rfl, tg_1 12 (by decide +kernel) rfl, by decide +kernel, by decide +kernel, by decide +kernel⟩, tg_5 60 (by decide +kernel) rfl, tg_p 29 (by decide +kernel) rfl⟩
abbrev uX10_at : MI := (yX10_at, cX10_at, 2, some FieldType.int, 1)
theorem kX10_at : MV uX10_at := ⟨⟨tg_5 65 (by decide +kernel) rfl, tg_1 12 (by decide +kernel) rfl, by decide +kernel, by decide +kernel, by decide +kernel⟩, tg_5 64 (by decide +kernel) rfl, tg_p 30 (by decide +kernel) rfl⟩
abbrev uX10_wordOf : MI := (yX10_wordOf, cX10_wordOf, 1, some FieldType.int, 0)
theorem kX10_wordOf : MV uX10_wordOf := ⟨⟨tg_5 69 (by decide +kernel) rfl, tg_1 12 (by decide +kernel) rfl, by decide +kernel, by decide +kernel, by decide +kernel⟩, tg_5 68 (by decide +kernel) rfl, tg_p 31 (by decide +kernel) rfl⟩
abbrev uX10_isWord : MI := (yX10_isWord, cX10_isWord, 6, some FieldType.boolean, 4)
theorem kX10_isWord : MV uX10_isWord := ⟨⟨tg_5 73 (by decide +kernel) rfl, tg_1 12 (by decide +kernel) rfl, by decide +kernel, by decide +kernel, by decide +kernel⟩, tg_5 72 (by decide +kernel) rfl, tg_p 32 (by decide +kernel) rfl⟩
abbrev uX10_readsRow : MI := (yX10_readsRow, cX10_readsRow, 4, none, 0)
theorem kX10_readsRow : MV uX10_readsRow := ⟨⟨tg_5 77 (by decide +kernel) rfl, tg_1 12 (by decide +kernel) rfl, by decide +kernel, by decide +kernel, by decide +kernel⟩, tg_5 76 (by decide +kernel) rfl, tg_p 33 (by decide +kernel) rfl⟩
abbrev uX10_takes : MI := (yX10_takes, cX10_takes, 2, none, 1)
theorem kX10_takes : MV uX10_takes := ⟨⟨tg_5 81 (by decide +kernel) rfl, tg_1 12 (by decide +kernel) rfl, by decide +kernel, by decide +kernel, by decide +kernel⟩, tg_5 80 (by decide +kernel) rfl, tg_p 34 (by decide +kernel) rfl⟩
abbrev uX10_readsOf : MI := (yX10_readsOf, cX10_readsOf, 5, none, 2)
theorem kX10_readsOf : MV uX10_readsOf := ⟨⟨tg_5 85 (by decide +kernel) rfl, tg_1 12 (by decide +kernel) rfl, by decide +kernel, by decide +kernel, by decide +kernel⟩, tg_5 84 (by decide +kernel) rfl, tg_p 35 (by decide +kernel) rfl⟩
abbrev uX10_figure : MI := (yX10_figure, cX10_figure, 4, some FieldType.int, 2)
theorem kX10_figure : MV uX10_figure := ⟨⟨tg_5 89 (by decide +kernel) rfl, tg_1 12 (by decide +kernel) rfl, by decide +kernel, by decide +kernel, by decide +kernel⟩, tg_5 88 (by decide +kernel) rfl, tg_p 36 (by decide +kernel) rfl⟩
abbrev uX10_readsOne : MI := (yX10_readsOne, cX10_readsOne, 5, none, 3)
theorem kX10_readsOne : MV uX10_readsOne := ⟨⟨tg_5 93 (by decide +kernel) rfl, tg_1 12 (by decide +kernel) rfl, by decide +kernel, by decide +kernel, by decide +kernel⟩, tg_5 92 (by decide +kernel) rfl, tg_p 37 (by decide +kernel) rfl⟩
abbrev uX10_notes : MI := (yX10_notes, cX10_notes, 2, none, 0)
theorem kX10_notes : MV uX10_notes := ⟨⟨tg_5 97 (by decide +kernel) rfl, tg_1 12 (by decide +kernel) rfl, by decide +kernel, by decide +kernel, by decide +kernel⟩, tg_5 96 (by decide +kernel) rfl, tg_p 38 (by decide +kernel) rfl⟩
abbrev uX10_paints : MI := (yX10_paints, cX10_paints, 8, some FieldType.int, 5)
theorem kX10_paints : MV uX10_paints := ⟨⟨tg_5 101 (by decide +kernel) rfl, tg_1 12 (by decide +kernel) rfl, by decide +kernel, by decide +kernel, by decide +kernel⟩, tg_5 99 (by decide +kernel) rfl, tg_5 100 (by decide +kernel) rfl⟩
abbrev uX10_isCell : MI := (yX10_isCell, cX10_isCell, 3, some FieldType.boolean, 2)
theorem kX10_isCell : MV uX10_isCell := ⟨⟨tg_5 105 (by decide +kernel) rfl, tg_1 12 (by decide +kernel) rfl, by decide +kernel, by decide +kernel, by decide +kernel⟩, tg_5 104 (by decide +kernel) rfl, tg_p 39 (by decide +kernel) rfl⟩
abbrev uX10_cells : MI := (yX10_cells, cX10_cells, 1, some FieldType.int, 0)
theorem kX10_cells : MV uX10_cells := ⟨⟨tg_5 109 (by decide +kernel) rfl, tg_1 12 (by decide +kernel) rfl, by decide +kernel, by decide +kernel, by decide +kernel⟩, tg_5 108 (by decide +kernel) rfl, tg_p 40 (by decide +kernel) rfl⟩
abbrev uX10_ways : MI := (yX10_ways, cX10_ways, 3, some FieldType.int, 2)
theorem kX10_ways : MV uX10_ways := ⟨⟨tg_5 113 (by decide +kernel) rfl, tg_1 12 (by decide +kernel) rfl, by decide +kernel, by decide +kernel, by decide +kernel⟩, tg_5 111 (by decide +kernel) rfl, tg_5 112 (by decide +kernel) rfl⟩
abbrev uX10_becomes : MI := (yX10_becomes, cX10_becomes, 4, some FieldType.int, 2)
theorem kX10_becomes : MV uX10_becomes := ⟨⟨tg_5 117 (by decide +kernel) rfl, tg_1 12 (by decide +kernel) rfl, by decide +kernel, by decide +kernel, by decide +kernel⟩, tg_5 116 (by decide +kernel) rfl, tg_p 41 (by decide +kernel) rfl⟩
abbrev uX10_ranks : MI := (yX10_ranks, cX10_ranks, 3, some FieldType.int, 2)
theorem kX10_ranks : MV uX10_ranks := ⟨⟨tg_5 121 (by decide +kernel) rfl, tg_1 12 (by decide +kernel) rfl, by decide +kernel, by decide +kernel, by decide +kernel⟩, tg_5 119 (by decide +kernel) rfl, tg_5 120 (by decide +kernel) rfl⟩
abbrev uX10_mosts : MI := (yX10_mosts, cX10_mosts, 2, some FieldType.int, 1)
theorem kX10_mosts : MV uX10_mosts := ⟨⟨tg_5 125 (by decide +kernel) rfl, tg_1 12 (by decide +kernel) rfl, by decide +kernel, by decide +kernel, by decide +kernel⟩, tg_5 123 (by decide +kernel) rfl, tg_5 124 (by decide +kernel) rfl⟩
abbrev uX10_pulls : MI := (yX10_pulls, cX10_pulls, 2, some FieldType.int, 1)
theorem kX10_pulls : MV uX10_pulls := ⟨⟨tg_5 129 (by decide +kernel) rfl, tg_1 12 (by decide +kernel) rfl, by decide +kernel, by decide +kernel, by decide +kernel⟩, tg_5 127 (by decide +kernel) rfl, tg_5 128 (by decide +kernel) rfl⟩
abbrev uX10_undo : MI := (yX10_undo, cX10_undo, 2, some FieldType.int, 0)
theorem kX10_undo : MV uX10_undo := ⟨⟨tg_5 133 (by decide +kernel) rfl, tg_1 12 (by decide +kernel) rfl, by decide +kernel, by decide +kernel, by decide +kernel⟩, tg_5 131 (by decide +kernel) rfl, tg_5 132 (by decide +kernel) rfl⟩
abbrev uX10_cell : MI := (yX10_cell, cX10_cell, 4, some FieldType.int, 3)
theorem kX10_cell : MV uX10_cell := ⟨⟨tg_5 137 (by decide +kernel) rfl, tg_1 12 (by decide +kernel) rfl, by decide +kernel, by decide +kernel, by decide +kernel⟩, tg_5 135 (by decide +kernel) rfl, tg_5 136 (by decide +kernel) rfl⟩
abbrev uX10_laysFields : MI := (yX10_laysFields, cX10_laysFields, 2, none, 0)
theorem kX10_laysFields : MV uX10_laysFields := ⟨⟨tg_5 141 (by decide +kernel) rfl, tg_1 12 (by decide +kernel) rfl, by decide +kernel, by decide +kernel, by decide +kernel⟩, tg_5 140 (by decide +kernel) rfl, tg_p 42 (by decide +kernel) rfl⟩
abbrev uX10_spreads : MI := (yX10_spreads, cX10_spreads, 6, none, 2)
theorem kX10_spreads : MV uX10_spreads := ⟨⟨tg_5 145 (by decide +kernel) rfl, tg_1 12 (by decide +kernel) rfl, by decide +kernel, by decide +kernel, by decide +kernel⟩, tg_5 144 (by decide +kernel) rfl, tg_p 43 (by decide +kernel) rfl⟩
abbrev uX10_areBeside : MI := (yX10_areBeside, cX10_areBeside, 5, some FieldType.boolean, 2)
theorem kX10_areBeside : MV uX10_areBeside := ⟨⟨tg_5 149 (by decide +kernel) rfl, tg_1 12 (by decide +kernel) rfl, by decide +kernel, by decide +kernel, by decide +kernel⟩, tg_5 148 (by decide +kernel) rfl, tg_p 44 (by decide +kernel) rfl⟩
abbrev uX10_field : MI := (yX10_field, cX10_field, 3, some FieldType.int, 2)
theorem kX10_field : MV uX10_field := ⟨⟨tg_5 153 (by decide +kernel) rfl, tg_1 12 (by decide +kernel) rfl, by decide +kernel, by decide +kernel, by decide +kernel⟩, tg_5 151 (by decide +kernel) rfl, tg_5 152 (by decide +kernel) rfl⟩
abbrev uX10_isField : MI := (yX10_isField, cX10_isField, 2, some FieldType.boolean, 1)
theorem kX10_isField : MV uX10_isField := ⟨⟨tg_5 157 (by decide +kernel) rfl, tg_1 12 (by decide +kernel) rfl, by decide +kernel, by decide +kernel, by decide +kernel⟩, tg_5 156 (by decide +kernel) rfl, tg_p 45 (by decide +kernel) rfl⟩
abbrev uX10_colourOf : MI := (yX10_colourOf, cX10_colourOf, 2, some FieldType.int, 1)
theorem kX10_colourOf : MV uX10_colourOf := ⟨⟨tg_5 161 (by decide +kernel) rfl, tg_1 12 (by decide +kernel) rfl, by decide +kernel, by decide +kernel, by decide +kernel⟩, tg_5 160 (by decide +kernel) rfl, tg_p 46 (by decide +kernel) rfl⟩
abbrev uX10_lowestOf : MI := (yX10_lowestOf, cX10_lowestOf, 3, some FieldType.int, 1)
theorem kX10_lowestOf : MV uX10_lowestOf := ⟨⟨tg_5 165 (by decide +kernel) rfl, tg_1 12 (by decide +kernel) rfl, by decide +kernel, by decide +kernel, by decide +kernel⟩, tg_5 164 (by decide +kernel) rfl, tg_p 47 (by decide +kernel) rfl⟩
abbrev uX10_sizeOf : MI := (yX10_sizeOf, cX10_sizeOf, 4, some FieldType.int, 1)
theorem kX10_sizeOf : MV uX10_sizeOf := ⟨⟨tg_5 169 (by decide +kernel) rfl, tg_1 12 (by decide +kernel) rfl, by decide +kernel, by decide +kernel, by decide +kernel⟩, tg_5 168 (by decide +kernel) rfl, tg_p 48 (by decide +kernel) rfl⟩
abbrev uX10_bestWay : MI := (yX10_bestWay, cX10_bestWay, 5, some FieldType.int, 1)
theorem kX10_bestWay : MV uX10_bestWay := ⟨⟨tg_5 173 (by decide +kernel) rfl, tg_1 12 (by decide +kernel) rfl, by decide +kernel, by decide +kernel, by decide +kernel⟩, tg_5 172 (by decide +kernel) rfl, tg_p 49 (by decide +kernel) rfl⟩
abbrev uX10_toldOf : MI := (yX10_toldOf, cX10_toldOf, 4, some FieldType.int, 3)
theorem kX10_toldOf : MV uX10_toldOf := ⟨⟨tg_5 177 (by decide +kernel) rfl, tg_1 12 (by decide +kernel) rfl, by decide +kernel, by decide +kernel, by decide +kernel⟩, tg_5 176 (by decide +kernel) rfl, tg_p 50 (by decide +kernel) rfl⟩
abbrev uX10_laysRows : MI := (yX10_laysRows, cX10_laysRows, 8, none, 2)
theorem kX10_laysRows : MV uX10_laysRows := ⟨⟨tg_5 181 (by decide +kernel) rfl, tg_1 12 (by decide +kernel) rfl, by decide +kernel, by decide +kernel, by decide +kernel⟩, tg_5 180 (by decide +kernel) rfl, tg_p 51 (by decide +kernel) rfl⟩
abbrev uX10_cellAt : MI := (yX10_cellAt, cX10_cellAt, 3, some FieldType.int, 2)
theorem kX10_cellAt : MV uX10_cellAt := ⟨⟨tg_5 185 (by decide +kernel) rfl, tg_1 12 (by decide +kernel) rfl, by decide +kernel, by decide +kernel, by decide +kernel⟩, tg_5 184 (by decide +kernel) rfl, tg_p 52 (by decide +kernel) rfl⟩
abbrev uX10_laysNexts : MI := (yX10_laysNexts, cX10_laysNexts, 3, none, 0)
theorem kX10_laysNexts : MV uX10_laysNexts := ⟨⟨tg_5 189 (by decide +kernel) rfl, tg_1 12 (by decide +kernel) rfl, by decide +kernel, by decide +kernel, by decide +kernel⟩, tg_5 188 (by decide +kernel) rfl, tg_p 53 (by decide +kernel) rfl⟩
abbrev uX10_laysParts : MI := (yX10_laysParts, cX10_laysParts, 3, none, 0)
theorem kX10_laysParts : MV uX10_laysParts := ⟨⟨tg_5 193 (by decide +kernel) rfl, tg_1 12 (by decide +kernel) rfl, by decide +kernel, by decide +kernel, by decide +kernel⟩, tg_5 192 (by decide +kernel) rfl, tg_p 54 (by decide +kernel) rfl⟩
abbrev uX10_stitches : MI := (yX10_stitches, cX10_stitches, 3, some FieldType.int, 0)
theorem kX10_stitches : MV uX10_stitches := ⟨⟨tg_5 197 (by decide +kernel) rfl, tg_1 12 (by decide +kernel) rfl, by decide +kernel, by decide +kernel, by decide +kernel⟩, tg_5 196 (by decide +kernel) rfl, tg_p 55 (by decide +kernel) rfl⟩
abbrev uX10_stitchesOf : MI := (yX10_stitchesOf, cX10_stitchesOf, 2, some FieldType.int, 1)
theorem kX10_stitchesOf : MV uX10_stitchesOf := ⟨⟨tg_5 201 (by decide +kernel) rfl, tg_1 12 (by decide +kernel) rfl, by decide +kernel, by decide +kernel, by decide +kernel⟩, tg_5 200 (by decide +kernel) rfl, tg_p 56 (by decide +kernel) rfl⟩
abbrev uX10_lengthOf : MI := (yX10_lengthOf, cX10_lengthOf, 2, some FieldType.int, 1)
theorem kX10_lengthOf : MV uX10_lengthOf := ⟨⟨tg_5 205 (by decide +kernel) rfl, tg_1 12 (by decide +kernel) rfl, by decide +kernel, by decide +kernel, by decide +kernel⟩, tg_5 204 (by decide +kernel) rfl, tg_p 57 (by decide +kernel) rfl⟩
abbrev uX10_travel : MI := (yX10_travel, cX10_travel, 3, some FieldType.int, 0)
theorem kX10_travel : MV uX10_travel := ⟨⟨tg_5 209 (by decide +kernel) rfl, tg_1 12 (by decide +kernel) rfl, by decide +kernel, by decide +kernel, by decide +kernel⟩, tg_5 208 (by decide +kernel) rfl, tg_p 58 (by decide +kernel) rfl⟩
abbrev uX10_hiddenOf : MI := (yX10_hiddenOf, cX10_hiddenOf, 2, some FieldType.int, 1)
theorem kX10_hiddenOf : MV uX10_hiddenOf := ⟨⟨tg_5 213 (by decide +kernel) rfl, tg_1 12 (by decide +kernel) rfl, by decide +kernel, by decide +kernel, by decide +kernel⟩, tg_5 212 (by decide +kernel) rfl, tg_p 59 (by decide +kernel) rfl⟩
abbrev uX10_endOf : MI := (yX10_endOf, cX10_endOf, 3, some FieldType.int, 1)
theorem kX10_endOf : MV uX10_endOf := ⟨⟨tg_5 217 (by decide +kernel) rfl, tg_1 12 (by decide +kernel) rfl, by decide +kernel, by decide +kernel, by decide +kernel⟩, tg_5 216 (by decide +kernel) rfl, tg_p 60 (by decide +kernel) rfl⟩
abbrev uX10_startOf : MI := (yX10_startOf, cX10_startOf, 2, some FieldType.int, 1)
theorem kX10_startOf : MV uX10_startOf := ⟨⟨tg_5 221 (by decide +kernel) rfl, tg_1 12 (by decide +kernel) rfl, by decide +kernel, by decide +kernel, by decide +kernel⟩, tg_5 220 (by decide +kernel) rfl, tg_p 61 (by decide +kernel) rfl⟩
abbrev uX10_stepsBetween : MI := (yX10_stepsBetween, cX10_stepsBetween, 7, some FieldType.int, 2)
theorem kX10_stepsBetween : MV uX10_stepsBetween := ⟨⟨tg_5 225 (by decide +kernel) rfl, tg_1 12 (by decide +kernel) rfl, by decide +kernel, by decide +kernel, by decide +kernel⟩, tg_5 224 (by decide +kernel) rfl, tg_p 62 (by decide +kernel) rfl⟩
abbrev uX10_coveredBy : MI := (yX10_coveredBy, cX10_coveredBy, 8, some FieldType.int, 2)
theorem kX10_coveredBy : MV uX10_coveredBy := ⟨⟨tg_5 229 (by decide +kernel) rfl, tg_1 12 (by decide +kernel) rfl, by decide +kernel, by decide +kernel, by decide +kernel⟩, tg_5 228 (by decide +kernel) rfl, tg_p 63 (by decide +kernel) rfl⟩
abbrev uX10_covers : MI := (yX10_covers, cX10_covers, 6, none, 1)
theorem kX10_covers : MV uX10_covers := ⟨⟨tg_5 233 (by decide +kernel) rfl, tg_1 12 (by decide +kernel) rfl, by decide +kernel, by decide +kernel, by decide +kernel⟩, tg_5 232 (by decide +kernel) rfl, tg_p 64 (by decide +kernel) rfl⟩
abbrev uX10_touching : MI := (yX10_touching, cX10_touching, 4, some FieldType.int, 1)
theorem kX10_touching : MV uX10_touching := ⟨⟨tg_5 237 (by decide +kernel) rfl, tg_1 12 (by decide +kernel) rfl, by decide +kernel, by decide +kernel, by decide +kernel⟩, tg_5 236 (by decide +kernel) rfl, tg_p 65 (by decide +kernel) rfl⟩
abbrev uX10_touch : MI := (yX10_touch, cX10_touch, 6, some FieldType.boolean, 2)
theorem kX10_touch : MV uX10_touch := ⟨⟨tg_6 1 (by decide +kernel) rfl, tg_1 12 (by decide +kernel) rfl, by decide +kernel, by decide +kernel, by decide +kernel⟩, tg_6 0 (by decide +kernel) rfl, tg_p 66 (by decide +kernel) rfl⟩
abbrev uX10_sewn : MI := (yX10_sewn, cX10_sewn, 4, some FieldType.int, 3)
theorem kX10_sewn : MV uX10_sewn := ⟨⟨tg_6 5 (by decide +kernel) rfl, tg_1 12 (by decide +kernel) rfl, by decide +kernel, by decide +kernel, by decide +kernel⟩, tg_6 3 (by decide +kernel) rfl, tg_6 4 (by decide +kernel) rfl⟩
abbrev uX10_row : MI := (yX10_row, cX10_row, 5, some FieldType.int, 4)
theorem kX10_row : MV uX10_row := ⟨⟨tg_6 9 (by decide +kernel) rfl, tg_1 12 (by decide +kernel) rfl, by decide +kernel, by decide +kernel, by decide +kernel⟩, tg_6 7 (by decide +kernel) rfl, tg_6 8 (by decide +kernel) rfl⟩
abbrev uX10_part : MI := (yX10_part, cX10_part, 5, some FieldType.int, 4)
theorem kX10_part : MV uX10_part := ⟨⟨tg_6 13 (by decide +kernel) rfl, tg_1 12 (by decide +kernel) rfl, by decide +kernel, by decide +kernel, by decide +kernel⟩, tg_6 11 (by decide +kernel) rfl, tg_6 12 (by decide +kernel) rfl⟩
abbrev uX10_order : MI := (yX10_order, cX10_order, 2, some FieldType.int, 1)
theorem kX10_order : MV uX10_order := ⟨⟨tg_6 17 (by decide +kernel) rfl, tg_1 12 (by decide +kernel) rfl, by decide +kernel, by decide +kernel, by decide +kernel⟩, tg_6 15 (by decide +kernel) rfl, tg_6 16 (by decide +kernel) rfl⟩
abbrev uX10_laysAhead : MI := (yX10_laysAhead, cX10_laysAhead, 4, none, 0)
theorem kX10_laysAhead : MV uX10_laysAhead := ⟨⟨tg_6 21 (by decide +kernel) rfl, tg_1 12 (by decide +kernel) rfl, by decide +kernel, by decide +kernel, by decide +kernel⟩, tg_6 20 (by decide +kernel) rfl, tg_p 67 (by decide +kernel) rfl⟩
abbrev uX10_laysChanges : MI := (yX10_laysChanges, cX10_laysChanges, 7, none, 0)
theorem kX10_laysChanges : MV uX10_laysChanges := ⟨⟨tg_6 25 (by decide +kernel) rfl, tg_1 12 (by decide +kernel) rfl, by decide +kernel, by decide +kernel, by decide +kernel⟩, tg_6 24 (by decide +kernel) rfl, tg_p 68 (by decide +kernel) rfl⟩
abbrev uX10_mayCome : MI := (yX10_mayCome, cX10_mayCome, 3, some FieldType.boolean, 2)
theorem kX10_mayCome : MV uX10_mayCome := ⟨⟨tg_6 29 (by decide +kernel) rfl, tg_1 12 (by decide +kernel) rfl, by decide +kernel, by decide +kernel, by decide +kernel⟩, tg_6 28 (by decide +kernel) rfl, tg_p 69 (by decide +kernel) rfl⟩
abbrev uX10_withField : MI := (yX10_withField, cX10_withField, 4, some FieldType.int, 3)
theorem kX10_withField : MV uX10_withField := ⟨⟨tg_6 33 (by decide +kernel) rfl, tg_1 12 (by decide +kernel) rfl, by decide +kernel, by decide +kernel, by decide +kernel⟩, tg_6 32 (by decide +kernel) rfl, tg_p 70 (by decide +kernel) rfl⟩
abbrev uX10_fieldAt : MI := (yX10_fieldAt, cX10_fieldAt, 6, some FieldType.int, 1)
theorem kX10_fieldAt : MV uX10_fieldAt := ⟨⟨tg_6 37 (by decide +kernel) rfl, tg_1 12 (by decide +kernel) rfl, by decide +kernel, by decide +kernel, by decide +kernel⟩, tg_6 36 (by decide +kernel) rfl, tg_p 71 (by decide +kernel) rfl⟩
abbrev uX10_sees : MI := (yX10_sees, cX10_sees, 4, some FieldType.int, 3)
theorem kX10_sees : MV uX10_sees := ⟨⟨tg_6 41 (by decide +kernel) rfl, tg_1 12 (by decide +kernel) rfl, by decide +kernel, by decide +kernel, by decide +kernel⟩, tg_6 39 (by decide +kernel) rfl, tg_6 40 (by decide +kernel) rfl⟩
abbrev uX10_forget : MI := (yX10_forget, cX10_forget, 2, some FieldType.int, 0)
theorem kX10_forget : MV uX10_forget := ⟨⟨tg_6 45 (by decide +kernel) rfl, tg_1 12 (by decide +kernel) rfl, by decide +kernel, by decide +kernel, by decide +kernel⟩, tg_6 43 (by decide +kernel) rfl, tg_6 44 (by decide +kernel) rfl⟩
abbrev uX10_which : MI := (yX10_which, cX10_which, 5, some FieldType.int, 1)
theorem kX10_which : MV uX10_which := ⟨⟨tg_6 49 (by decide +kernel) rfl, tg_1 12 (by decide +kernel) rfl, by decide +kernel, by decide +kernel, by decide +kernel⟩, tg_6 47 (by decide +kernel) rfl, tg_6 48 (by decide +kernel) rfl⟩
abbrev uX10_isSo : MI := (yX10_isSo, cX10_isSo, 4, some FieldType.boolean, 1)
theorem kX10_isSo : MV uX10_isSo := ⟨⟨tg_6 53 (by decide +kernel) rfl, tg_1 12 (by decide +kernel) rfl, by decide +kernel, by decide +kernel, by decide +kernel⟩, tg_6 52 (by decide +kernel) rfl, tg_p 72 (by decide +kernel) rfl⟩
abbrev uX10_keep : MI := (yX10_keep, cX10_keep, 3, some FieldType.int, 1)
theorem kX10_keep : MV uX10_keep := ⟨⟨tg_6 57 (by decide +kernel) rfl, tg_1 12 (by decide +kernel) rfl, by decide +kernel, by decide +kernel, by decide +kernel⟩, tg_6 55 (by decide +kernel) rfl, tg_6 56 (by decide +kernel) rfl⟩
abbrev uX10_fieldsNow : MI := (yX10_fieldsNow, cX10_fieldsNow, 1, some FieldType.int, 0)
theorem kX10_fieldsNow : MV uX10_fieldsNow := ⟨⟨tg_6 61 (by decide +kernel) rfl, tg_1 12 (by decide +kernel) rfl, by decide +kernel, by decide +kernel, by decide +kernel⟩, tg_6 60 (by decide +kernel) rfl, tg_p 73 (by decide +kernel) rfl⟩
abbrev uX10_back : MI := (yX10_back, cX10_back, 3, some FieldType.int, 1)
theorem kX10_back : MV uX10_back := ⟨⟨tg_6 65 (by decide +kernel) rfl, tg_1 12 (by decide +kernel) rfl, by decide +kernel, by decide +kernel, by decide +kernel⟩, tg_6 63 (by decide +kernel) rfl, tg_6 64 (by decide +kernel) rfl⟩
abbrev uX10_count : MI := (yX10_count, cX10_count, 2, some FieldType.int, 1)
theorem kX10_count : MV uX10_count := ⟨⟨tg_6 69 (by decide +kernel) rfl, tg_1 12 (by decide +kernel) rfl, by decide +kernel, by decide +kernel, by decide +kernel⟩, tg_6 67 (by decide +kernel) rfl, tg_6 68 (by decide +kernel) rfl⟩
abbrev uX10_coloured : MI := (yX10_coloured, cX10_coloured, 3, some FieldType.int, 0)
theorem kX10_coloured : MV uX10_coloured := ⟨⟨tg_6 73 (by decide +kernel) rfl, tg_1 12 (by decide +kernel) rfl, by decide +kernel, by decide +kernel, by decide +kernel⟩, tg_6 72 (by decide +kernel) rfl, tg_p 74 (by decide +kernel) rfl⟩
theorem nL_9 : LK RL 9 yX9_init := Or.inl (tg_1 21 (by decide +kernel) rfl)
theorem nX9_11 : LK RX9 11 yX0_init := Or.inl (tg_1 29 (by decide +kernel) rfl)
theorem nX0_15 : LK RX0 15 yX0_start := Or.inl (tg_1 33 (by decide +kernel) rfl)
theorem nX0_18 : LK RX0 18 yJ7_fill_53178 := Or.inl (tg_1 37 (by decide +kernel) rfl)
theorem nX9_18 : LK RX9 18 yX7_init := Or.inr ⟨"SewnFields", tt_1 47 (by decide +kernel)⟩
theorem nX9_25 : LK RX9 25 yX4_init := Or.inr ⟨"SewnFields", tt_1 70 (by decide +kernel)⟩
theorem nX4_11 : LK RX4 11 yX0_init := Or.inl (tg_1 75 (by decide +kernel) rfl)
theorem nX9_32 : LK RX9 32 yX1_init := Or.inl (tg_1 85 (by decide +kernel) rfl)
theorem nX1_11 : LK RX1 11 yX8_init := Or.inr ⟨"SewnFields", tt_1 91 (by decide +kernel)⟩
theorem nX1_35 : LK RX1 35 yJ7_fill_53178 := Or.inl (tg_1 105 (by decide +kernel) rfl)
theorem nX9_39 : LK RX9 39 yX5_init := Or.inr ⟨"SewnFields", tt_1 134 (by decide +kernel)⟩
theorem nX5_11 : LK RX5 11 yX8_init := Or.inr ⟨"SewnFields", tt_1 139 (by decide +kernel)⟩
theorem nX9_46 : LK RX9 46 yX6_init := Or.inr ⟨"SewnFields", tt_1 188 (by decide +kernel)⟩
theorem nX9_53 : LK RX9 53 yX3_init := Or.inr ⟨"SewnFields", tt_1 207 (by decide +kernel)⟩
theorem nX9_60 : LK RX9 60 yX2_init := Or.inr ⟨"SewnFields", tt_1 226 (by decide +kernel)⟩
theorem nL_13 : LK RL 13 yX9_type := Or.inl (tg_2 34 (by decide +kernel) rfl)
theorem nX9_74 : LK RX9 74 yX9_within := Or.inl (tg_2 38 (by decide +kernel) rfl)
theorem nX9_78 : LK RX9 78 yX7_length := Or.inl (tg_2 41 (by decide +kernel) rfl)
theorem nX9_82 : LK RX9 82 yX7_append := Or.inl (tg_2 45 (by decide +kernel) rfl)
theorem nL_18 : LK RL 18 yX9_clear := Or.inl (tg_2 49 (by decide +kernel) rfl)
theorem nX9_86 : LK RX9 86 yX7_drop := Or.inl (tg_2 53 (by decide +kernel) rfl)
theorem nL_23 : LK RL 23 yX9_tells := Or.inl (tg_2 57 (by decide +kernel) rfl)
theorem nX9_89 : LK RX9 89 yX4_read := Or.inl (tg_2 61 (by decide +kernel) rfl)
theorem nX4_18 : LK RX4 18 yX0_start := Or.inl (tg_2 65 (by decide +kernel) rfl)
theorem nX4_25 : LK RX4 25 yX7_toFirstToken := Or.inl (tg_2 66 (by decide +kernel) rfl)
theorem nX7_22 : LK RX7 22 yX7_toNextToken := Or.inl (tg_2 70 (by decide +kernel) rfl)
theorem nX7_28 : LK RX7 28 yX7_kindAt := Or.inl (tg_2 74 (by decide +kernel) rfl)
theorem nX4_30 : LK RX4 30 yX7_isAtEnd := Or.inl (tg_2 78 (by decide +kernel) rfl)
theorem nX4_34 : LK RX4 34 yX4_passItem := Or.inl (tg_2 82 (by decide +kernel) rfl)
theorem nX4_44 : LK RX4 44 yX7_isWord := Or.inl (tg_2 87 (by decide +kernel) rfl)
theorem nX7_35 : LK RX7 35 yJ0_length_8abf5 := Or.inl (tg_2 91 (by decide +kernel) rfl)
theorem nJ0_335 : LK RJ0 335 yJ0_coder_7d493 := Or.inl (tg_2 95 (by decide +kernel) rfl)
theorem nX7_40 : LK RX7 40 yX7_tokenLetter := Or.inl (tg_2 101 (by decide +kernel) rfl)
theorem nX7_44 : LK RX7 44 yJ0_charAt_5068e := Or.inl (tg_2 105 (by decide +kernel) rfl)
theorem nJ0_492 : LK RJ0 492 yJ0_isLatin1_aae02 := Or.inl (tg_2 109 (by decide +kernel) rfl)
theorem nJ0_495 : LK RJ0 495 yJ1_charAt_3b067 := Or.inl (tg_2 113 (by decide +kernel) rfl)
theorem nJ1_9 : LK RJ1 9 yJ0_checkIndex_df160 := Or.inl (tg_2 116 (by decide +kernel) rfl)
theorem nJ0_1059 : LK RJ0 1059 yJ3_checkIndex_8e157 := Or.inl (tg_2 121 (by decide +kernel) rfl)
theorem nJ0_498 : LK RJ0 498 yJ2_charAt_3b067 := Or.inl (tg_2 124 (by decide +kernel) rfl)
theorem nX4_48 : LK RX4 48 yX7_toNextToken := Or.inl (tg_2 143 (by decide +kernel) rfl)
theorem nX4_51 : LK RX4 51 yX4_passCells := Or.inl (tg_2 144 (by decide +kernel) rfl)
theorem nX4_73 : LK RX4 73 yX0_width := Or.inl (tg_2 148 (by decide +kernel) rfl)
theorem nX4_76 : LK RX4 76 yX7_isDigits := Or.inl (tg_2 152 (by decide +kernel) rfl)
theorem nX7_47 : LK RX7 47 yX9_within := Or.inr ⟨"SewnFields", tt_2 156 (by decide +kernel)⟩
theorem nX7_51 : LK RX7 51 yX7_digit := Or.inl (tg_2 157 (by decide +kernel) rfl)
theorem nX4_80 : LK RX4 80 yX7_tokenLength := Or.inl (tg_2 161 (by decide +kernel) rfl)
theorem nX4_83 : LK RX4 83 yX9_placeOf := Or.inr ⟨"SewnFields", tt_2 165 (by decide +kernel)⟩
theorem nX4_87 : LK RX4 87 yX7_digit := Or.inl (tg_2 168 (by decide +kernel) rfl)
theorem nX4_91 : LK RX4 91 yX0_paint := Or.inl (tg_2 169 (by decide +kernel) rfl)
theorem nX4_95 : LK RX4 95 yX0_set := Or.inl (tg_2 173 (by decide +kernel) rfl)
theorem nX0_28 : LK RX0 28 yX9_put := Or.inr ⟨"SewnFields", tt_2 177 (by decide +kernel)⟩
theorem nX4_54 : LK RX4 54 yX4_passSemicolon := Or.inl (tg_2 180 (by decide +kernel) rfl)
theorem nX4_98 : LK RX4 98 yX7_isSemicolon := Or.inl (tg_2 184 (by decide +kernel) rfl)
theorem nX4_59 : LK RX4 59 yX4_passOfColour := Or.inl (tg_2 189 (by decide +kernel) rfl)
theorem nX4_67 : LK RX4 67 yX4_passValue := Or.inl (tg_2 193 (by decide +kernel) rfl)
theorem nX4_38 : LK RX4 38 yX7_tokenStart := Or.inl (tg_2 200 (by decide +kernel) rfl)
theorem nX9_93 : LK RX9 93 yX2_push := Or.inl (tg_2 204 (by decide +kernel) rfl)
theorem nX2_25 : LK RX2 25 yX9_within := Or.inr ⟨"SewnFields", tt_2 208 (by decide +kernel)⟩
theorem nX2_29 : LK RX2 29 yX0_saveTo := Or.inl (tg_2 209 (by decide +kernel) rfl)
theorem mX0_59 : Cond.methodLink RX0 59 arraycopyName ∈ TG := tg_2 213 (by decide +kernel) rfl
theorem mX2_33 : Cond.methodLink RX2 33 yJ9_min_7cf53 ∈ TG := tg_2 216 (by decide +kernel) rfl
theorem nX2_33 : LK RX2 33 yJ9_min_7cf53 := Or.inl (tg_2 216 (by decide +kernel) rfl)
theorem nX9_97 : LK RX9 97 yX4_told := Or.inl (tg_2 219 (by decide +kernel) rfl)
theorem nX9_101 : LK RX9 101 yX0_copy := Or.inl (tg_2 223 (by decide +kernel) rfl)
theorem nX0_55 : LK RX0 55 yX0_loadFrom := Or.inl (tg_2 227 (by decide +kernel) rfl)
theorem nX9_104 : LK RX9 104 yX1_number := Or.inl (tg_2 231 (by decide +kernel) rfl)
theorem nX1_48 : LK RX1 48 yX0_colourAt := Or.inl (tg_2 235 (by decide +kernel) rfl)
theorem nX1_54 : LK RX1 54 yX1_addField := Or.inl (tg_2 239 (by decide +kernel) rfl)
theorem nX1_58 : LK RX1 58 yX8_spread := Or.inl (tg_3 3 (by decide +kernel) rfl)
theorem nX8_18 : LK RX8 18 yJ7_fill_53178 := Or.inl (tg_3 7 (by decide +kernel) rfl)
theorem nX8_28 : LK RX8 28 yX8_reach := Or.inl (tg_3 8 (by decide +kernel) rfl)
theorem nX8_32 : LK RX8 32 yX9_beside := Or.inr ⟨"SewnFields", tt_3 12 (by decide +kernel)⟩
theorem nX8_36 : LK RX8 36 yX0_colourAt := Or.inl (tg_3 15 (by decide +kernel) rfl)
theorem nX8_42 : LK RX8 42 yX8_stepsTo := Or.inl (tg_3 16 (by decide +kernel) rfl)
theorem nX1_61 : LK RX1 61 yX8_size := Or.inl (tg_3 20 (by decide +kernel) rfl)
theorem nX1_64 : LK RX1 64 yX8_place := Or.inl (tg_3 24 (by decide +kernel) rfl)
theorem nX8_45 : LK RX8 45 yX9_at := Or.inr ⟨"SewnFields", tt_3 28 (by decide +kernel)⟩
theorem nX1_67 : LK RX1 67 yX9_put := Or.inr ⟨"SewnFields", tt_3 31 (by decide +kernel)⟩
theorem nL_27 : LK RL 27 yX9_paints := Or.inl (tg_3 33 (by decide +kernel) rfl)
theorem nX9_107 : LK RX9 107 yX0_has := Or.inl (tg_3 37 (by decide +kernel) rfl)
theorem nX0_36 : LK RX0 36 yX0_width := Or.inl (tg_3 41 (by decide +kernel) rfl)
theorem nX0_32 : LK RX0 32 yX9_within := Or.inr ⟨"SewnFields", tt_3 42 (by decide +kernel)⟩
theorem nX0_40 : LK RX0 40 yX0_height := Or.inl (tg_3 43 (by decide +kernel) rfl)
theorem nX9_111 : LK RX9 111 yX9_cellsOfOtherColour := Or.inl (tg_3 47 (by decide +kernel) rfl)
theorem nX9_115 : LK RX9 115 yX9_placeOf := Or.inl (tg_3 51 (by decide +kernel) rfl)
theorem nX9_132 : LK RX9 132 yX0_colourAt := Or.inl (tg_3 52 (by decide +kernel) rfl)
theorem nX9_119 : LK RX9 119 yX0_paint := Or.inl (tg_3 53 (by decide +kernel) rfl)
theorem nL_32 : LK RL 32 yX9_ways := Or.inl (tg_3 54 (by decide +kernel) rfl)
theorem nX9_123 : LK RX9 123 yX9_change := Or.inl (tg_3 58 (by decide +kernel) rfl)
theorem nX9_242 : LK RX9 242 yX0_get := Or.inl (tg_3 62 (by decide +kernel) rfl)
theorem nX0_24 : LK RX0 24 yX9_at := Or.inr ⟨"SewnFields", tt_3 66 (by decide +kernel)⟩
theorem nX9_245 : LK RX9 245 yX0_set := Or.inl (tg_3 67 (by decide +kernel) rfl)
theorem nL_37 : LK RL 37 yX9_ranks := Or.inl (tg_3 68 (by decide +kernel) rfl)
theorem nL_41 : LK RL 41 yX9_mosts := Or.inl (tg_3 72 (by decide +kernel) rfl)
theorem nL_45 : LK RL 45 yX9_pulls := Or.inl (tg_3 76 (by decide +kernel) rfl)
theorem nL_49 : LK RL 49 yX9_undo := Or.inl (tg_3 80 (by decide +kernel) rfl)
theorem nX9_126 : LK RX9 126 yX2_size := Or.inl (tg_3 84 (by decide +kernel) rfl)
theorem nX9_129 : LK RX9 129 yX2_pop := Or.inl (tg_3 88 (by decide +kernel) rfl)
theorem nX2_39 : LK RX2 39 yX0_loadFrom := Or.inl (tg_3 92 (by decide +kernel) rfl)
theorem mX2_42 : Cond.methodLink RX2 42 yJ9_max_7cf53 ∈ TG := tg_3 93 (by decide +kernel) rfl
theorem nX2_42 : LK RX2 42 yJ9_max_7cf53 := Or.inl (tg_3 93 (by decide +kernel) rfl)
theorem nL_53 : LK RL 53 yX9_cell := Or.inl (tg_3 96 (by decide +kernel) rfl)
theorem nX9_136 : LK RX9 136 yX1_fieldAt := Or.inl (tg_3 100 (by decide +kernel) rfl)
theorem nX1_71 : LK RX1 71 yX9_at := Or.inr ⟨"SewnFields", tt_3 104 (by decide +kernel)⟩
theorem nL_58 : LK RL 58 yX9_field := Or.inl (tg_3 105 (by decide +kernel) rfl)
theorem nX9_139 : LK RX9 139 yX1_has := Or.inl (tg_3 109 (by decide +kernel) rfl)
theorem nX9_142 : LK RX9 142 yX1_colourOf := Or.inl (tg_3 113 (by decide +kernel) rfl)
theorem nX9_145 : LK RX9 145 yX1_sizeOf := Or.inl (tg_3 117 (by decide +kernel) rfl)
theorem nX9_148 : LK RX9 148 yX1_smallestOf := Or.inl (tg_3 121 (by decide +kernel) rfl)
theorem nX9_151 : LK RX9 151 yX0_numberOf := Or.inl (tg_3 125 (by decide +kernel) rfl)
theorem nX9_154 : LK RX9 154 yX9_betterWay := Or.inl (tg_3 129 (by decide +kernel) rfl)
theorem nX9_163 : LK RX9 163 yX5_lay := Or.inl (tg_3 133 (by decide +kernel) rfl)
theorem nX5_54 : LK RX5 54 yX0_most := Or.inl (tg_3 137 (by decide +kernel) rfl)
theorem nX5_62 : LK RX5 62 yX5_findRows := Or.inl (tg_3 141 (by decide +kernel) rfl)
theorem nX5_149 : LK RX5 149 yX0_height := Or.inl (tg_3 145 (by decide +kernel) rfl)
theorem nX5_146 : LK RX5 146 yX0_width := Or.inl (tg_3 146 (by decide +kernel) rfl)
theorem nX5_123 : LK RX5 123 yX5_lineLength := Or.inl (tg_3 147 (by decide +kernel) rfl)
theorem nX5_129 : LK RX5 129 yX5_placeIn := Or.inl (tg_3 151 (by decide +kernel) rfl)
theorem nX5_143 : LK RX5 143 yX9_placeOf := Or.inr ⟨"SewnFields", tt_3 155 (by decide +kernel)⟩
theorem nX5_152 : LK RX5 152 yX1_fieldAt := Or.inl (tg_3 156 (by decide +kernel) rfl)
theorem nX5_157 : LK RX5 157 yX5_startRow := Or.inl (tg_3 157 (by decide +kernel) rfl)
theorem nX5_161 : LK RX5 161 yX9_put := Or.inr ⟨"SewnFields", tt_3 161 (by decide +kernel)⟩
theorem nX5_66 : LK RX5 66 yX5_joinRows := Or.inl (tg_3 162 (by decide +kernel) rfl)
theorem nX5_165 : LK RX5 165 yX5_rowContinuedBy := Or.inl (tg_3 166 (by decide +kernel) rfl)
theorem nX5_168 : LK RX5 168 yX5_isNextTo := Or.inl (tg_3 170 (by decide +kernel) rfl)
theorem nX5_72 : LK RX5 72 yX9_at := Or.inr ⟨"SewnFields", tt_3 174 (by decide +kernel)⟩
theorem nX9_167 : LK RX9 167 yX5_figure := Or.inl (tg_3 175 (by decide +kernel) rfl)
theorem nX5_96 : LK RX5 96 yX5_stitches := Or.inl (tg_3 179 (by decide +kernel) rfl)
theorem nX5_103 : LK RX5 103 yX5_rowStitches := Or.inl (tg_3 183 (by decide +kernel) rfl)
theorem nX5_76 : LK RX5 76 yX5_rowLength := Or.inl (tg_3 187 (by decide +kernel) rfl)
theorem nX5_99 : LK RX5 99 yX5_travel := Or.inl (tg_3 191 (by decide +kernel) rfl)
theorem nX5_106 : LK RX5 106 yX5_hiddenWay := Or.inl (tg_3 195 (by decide +kernel) rfl)
theorem nX5_83 : LK RX5 83 yX5_partEnd := Or.inl (tg_3 199 (by decide +kernel) rfl)
theorem nX5_86 : LK RX5 86 yX8_spread := Or.inl (tg_3 203 (by decide +kernel) rfl)
theorem nX5_90 : LK RX5 90 yX5_partStart := Or.inl (tg_3 204 (by decide +kernel) rfl)
theorem nX5_93 : LK RX5 93 yX8_stepsTo := Or.inl (tg_3 208 (by decide +kernel) rfl)
theorem nX9_157 : LK RX9 157 yX1_touching := Or.inl (tg_3 209 (by decide +kernel) rfl)
theorem nX1_75 : LK RX1 75 yX9_wipe := Or.inr ⟨"SewnFields", tt_3 213 (by decide +kernel)⟩
theorem nX1_79 : LK RX1 79 yX1_markBeside := Or.inl (tg_3 216 (by decide +kernel) rfl)
theorem nX1_87 : LK RX1 87 yX9_beside := Or.inr ⟨"SewnFields", tt_3 220 (by decide +kernel)⟩
theorem nX1_91 : LK RX1 91 yX1_fieldAt := Or.inl (tg_3 221 (by decide +kernel) rfl)
theorem nX1_83 : LK RX1 83 yX9_countTrue := Or.inr ⟨"SewnFields", tt_3 222 (by decide +kernel)⟩
theorem nX9_160 : LK RX9 160 yX9_covered := Or.inl (tg_3 225 (by decide +kernel) rfl)
theorem nX9_248 : LK RX9 248 yX0_wayOf := Or.inl (tg_3 229 (by decide +kernel) rfl)
theorem nX9_251 : LK RX9 251 yX5_cover := Or.inl (tg_3 233 (by decide +kernel) rfl)
theorem nX5_110 : LK RX5 110 yX9_wipe := Or.inr ⟨"SewnFields", tt_3 237 (by decide +kernel)⟩
theorem nX5_114 : LK RX5 114 yX0_pull := Or.inl (tg_3 238 (by decide +kernel) rfl)
theorem mX5_117 : Cond.methodLink RX5 117 yJ9_max_7cf53 ∈ TG := tg_4 2 (by decide +kernel) rfl
theorem nX5_117 : LK RX5 117 yJ9_max_7cf53 := Or.inl (tg_4 2 (by decide +kernel) rfl)
theorem mX5_126 : Cond.methodLink RX5 126 yJ9_min_7cf53 ∈ TG := tg_4 3 (by decide +kernel) rfl
theorem nX5_126 : LK RX5 126 yJ9_min_7cf53 := Or.inl (tg_4 3 (by decide +kernel) rfl)
theorem nX5_132 : LK RX5 132 yX9_within := Or.inr ⟨"SewnFields", tt_4 4 (by decide +kernel)⟩
theorem nX9_254 : LK RX9 254 yX5_coveredCells := Or.inl (tg_4 5 (by decide +kernel) rfl)
theorem nX5_136 : LK RX5 136 yX9_countTrue := Or.inr ⟨"SewnFields", tt_4 9 (by decide +kernel)⟩
theorem nX9_257 : LK RX9 257 yX5_coveredOf := Or.inl (tg_4 10 (by decide +kernel) rfl)
theorem nX5_140 : LK RX5 140 yX0_colourAt := Or.inl (tg_4 14 (by decide +kernel) rfl)
theorem nL_62 : LK RL 62 yX9_sewn := Or.inl (tg_4 15 (by decide +kernel) rfl)
theorem nL_66 : LK RL 66 yX9_row := Or.inl (tg_4 19 (by decide +kernel) rfl)
theorem nX9_171 : LK RX9 171 yX5_rowsLaid := Or.inl (tg_4 23 (by decide +kernel) rfl)
theorem nX9_174 : LK RX9 174 yX5_rowStart := Or.inl (tg_4 27 (by decide +kernel) rfl)
theorem nX9_177 : LK RX9 177 yX5_rowLength := Or.inl (tg_4 31 (by decide +kernel) rfl)
theorem nX9_180 : LK RX9 180 yX5_rowStitches := Or.inl (tg_4 32 (by decide +kernel) rfl)
theorem nX9_183 : LK RX9 183 yX5_rowPart := Or.inl (tg_4 33 (by decide +kernel) rfl)
theorem nL_71 : LK RL 71 yX9_part := Or.inl (tg_4 37 (by decide +kernel) rfl)
theorem nX9_186 : LK RX9 186 yX5_partsLaid := Or.inl (tg_4 41 (by decide +kernel) rfl)
theorem nX9_189 : LK RX9 189 yX5_partRows := Or.inl (tg_4 45 (by decide +kernel) rfl)
theorem nX9_192 : LK RX9 192 yX5_partStart := Or.inl (tg_4 49 (by decide +kernel) rfl)
theorem nX9_195 : LK RX9 195 yX5_partEnd := Or.inl (tg_4 50 (by decide +kernel) rfl)
theorem nX9_198 : LK RX9 198 yX5_hiddenWay := Or.inl (tg_4 51 (by decide +kernel) rfl)
theorem nL_75 : LK RL 75 yX9_order := Or.inl (tg_4 52 (by decide +kernel) rfl)
theorem nX9_201 : LK RX9 201 yX1_size := Or.inl (tg_4 56 (by decide +kernel) rfl)
theorem nX9_202 : LK RX9 202 yX6_lay := Or.inl (tg_4 60 (by decide +kernel) rfl)
theorem nX6_19 : LK RX6 19 yX9_wipe := Or.inr ⟨"SewnFields", tt_4 64 (by decide +kernel)⟩
theorem nX6_30 : LK RX6 30 yX6_nextColour := Or.inl (tg_4 65 (by decide +kernel) rfl)
theorem nX6_42 : LK RX6 42 yX1_size := Or.inl (tg_4 69 (by decide +kernel) rfl)
theorem nX6_47 : LK RX6 47 yX1_colourOf := Or.inl (tg_4 70 (by decide +kernel) rfl)
theorem nX6_51 : LK RX6 51 yX6_isSewn := Or.inl (tg_4 71 (by decide +kernel) rfl)
theorem nX6_59 : LK RX6 59 yX9_within := Or.inr ⟨"SewnFields", tt_4 75 (by decide +kernel)⟩
theorem nX6_55 : LK RX6 55 yX6_mustWait := Or.inl (tg_4 76 (by decide +kernel) rfl)
theorem nX6_63 : LK RX6 63 yX0_rankOf := Or.inl (tg_4 80 (by decide +kernel) rfl)
theorem nX6_68 : LK RX6 68 yX0_touch := Or.inl (tg_4 84 (by decide +kernel) rfl)
theorem nX0_43 : LK RX0 43 yX0_colourAt := Or.inl (tg_4 88 (by decide +kernel) rfl)
theorem nX0_47 : LK RX0 47 yX0_isBeside := Or.inl (tg_4 89 (by decide +kernel) rfl)
theorem nX0_51 : LK RX0 51 yX9_beside := Or.inr ⟨"SewnFields", tt_4 93 (by decide +kernel)⟩
theorem nX6_34 : LK RX6 34 yX6_addFields := Or.inl (tg_4 94 (by decide +kernel) rfl)
theorem nX6_72 : LK RX6 72 yX9_put := Or.inr ⟨"SewnFields", tt_4 98 (by decide +kernel)⟩
theorem nX9_205 : LK RX9 205 yX6_changes := Or.inl (tg_4 99 (by decide +kernel) rfl)
theorem nX9_208 : LK RX9 208 yX6_fieldAt := Or.inl (tg_4 103 (by decide +kernel) rfl)
theorem nX6_38 : LK RX6 38 yX9_at := Or.inr ⟨"SewnFields", tt_4 107 (by decide +kernel)⟩
theorem nL_79 : LK RL 79 yX9_sees := Or.inl (tg_4 108 (by decide +kernel) rfl)
theorem nX9_209 : LK RX9 209 yX3_size := Or.inl (tg_4 112 (by decide +kernel) rfl)
theorem nX9_210 : LK RX9 210 yX3_add := Or.inl (tg_4 116 (by decide +kernel) rfl)
theorem nX3_25 : LK RX3 25 yX9_put := Or.inr ⟨"SewnFields", tt_4 120 (by decide +kernel)⟩
theorem mX3_29 : Cond.methodLink RX3 29 yJ9_min_7cf53 ∈ TG := tg_4 121 (by decide +kernel) rfl
theorem nX3_29 : LK RX3 29 yJ9_min_7cf53 := Or.inl (tg_4 121 (by decide +kernel) rfl)
theorem nL_83 : LK RL 83 yX9_forget := Or.inl (tg_4 122 (by decide +kernel) rfl)
theorem nX9_214 : LK RX9 214 yX3_drop := Or.inl (tg_4 126 (by decide +kernel) rfl)
theorem nL_87 : LK RL 87 yX9_which := Or.inl (tg_4 130 (by decide +kernel) rfl)
theorem nX9_215 : LK RX9 215 yX3_agree := Or.inl (tg_4 134 (by decide +kernel) rfl)
theorem nX3_35 : LK RX3 35 yX9_at := Or.inr ⟨"SewnFields", tt_4 138 (by decide +kernel)⟩
theorem nX3_39 : LK RX3 39 yX5_lay := Or.inl (tg_4 139 (by decide +kernel) rfl)
theorem nX3_45 : LK RX3 45 yX5_figure := Or.inl (tg_4 140 (by decide +kernel) rfl)
theorem nL_91 : LK RL 91 yX9_keep := Or.inl (tg_4 141 (by decide +kernel) rfl)
theorem nX9_219 : LK RX9 219 yX0_saveTo := Or.inl (tg_4 145 (by decide +kernel) rfl)
theorem nL_95 : LK RL 95 yX9_back := Or.inl (tg_4 146 (by decide +kernel) rfl)
theorem nX9_223 : LK RX9 223 yX0_loadFrom := Or.inl (tg_4 150 (by decide +kernel) rfl)
theorem nX9_226 : LK RX9 226 yX2_drop := Or.inl (tg_4 151 (by decide +kernel) rfl)
theorem nL_99 : LK RL 99 yX9_count := Or.inl (tg_4 155 (by decide +kernel) rfl)
theorem nX9_227 : LK RX9 227 yX0_width := Or.inl (tg_4 159 (by decide +kernel) rfl)
theorem nX9_230 : LK RX9 230 yX0_height := Or.inl (tg_4 160 (by decide +kernel) rfl)
theorem nX9_233 : LK RX9 233 yX0_most := Or.inl (tg_4 161 (by decide +kernel) rfl)
theorem nX9_236 : LK RX9 236 yX0_pull := Or.inl (tg_4 162 (by decide +kernel) rfl)
theorem nX9_239 : LK RX9 239 yX1_cells := Or.inl (tg_4 163 (by decide +kernel) rfl)
theorem nL_12 : LK RL 12 yX10_init := Or.inl (tg_4 169 (by decide +kernel) rfl)
theorem nL_17 : LK RL 17 yX10_type := Or.inl (tg_5 39 (by decide +kernel) rfl)
theorem nX10_85 : LK RX10 85 yX10_in := Or.inl (tg_5 43 (by decide +kernel) rfl)
theorem nL_22 : LK RL 22 yX10_clear := Or.inl (tg_5 46 (by decide +kernel) rfl)
theorem nL_26 : LK RL 26 yX10_tells := Or.inl (tg_5 50 (by decide +kernel) rfl)
theorem nX10_138 : LK RX10 138 yX10_reads := Or.inl (tg_5 54 (by decide +kernel) rfl)
theorem nX10_116 : LK RX10 116 yX10_steps := Or.inl (tg_5 58 (by decide +kernel) rfl)
theorem nX10_98 : LK RX10 98 yX10_at := Or.inl (tg_5 62 (by decide +kernel) rfl)
theorem nX10_109 : LK RX10 109 yX10_wordOf := Or.inl (tg_5 66 (by decide +kernel) rfl)
theorem nX10_102 : LK RX10 102 yX10_isWord := Or.inl (tg_5 70 (by decide +kernel) rfl)
theorem nX10_127 : LK RX10 127 yX10_readsRow := Or.inl (tg_5 74 (by decide +kernel) rfl)
theorem nX10_119 : LK RX10 119 yX10_takes := Or.inl (tg_5 78 (by decide +kernel) rfl)
theorem nX10_130 : LK RX10 130 yX10_readsOf := Or.inl (tg_5 82 (by decide +kernel) rfl)
theorem nX10_123 : LK RX10 123 yX10_figure := Or.inl (tg_5 86 (by decide +kernel) rfl)
theorem nX10_134 : LK RX10 134 yX10_readsOne := Or.inl (tg_5 90 (by decide +kernel) rfl)
theorem nX10_141 : LK RX10 141 yX10_notes := Or.inl (tg_5 94 (by decide +kernel) rfl)
theorem nL_31 : LK RL 31 yX10_paints := Or.inl (tg_5 98 (by decide +kernel) rfl)
theorem nX10_147 : LK RX10 147 yX10_isCell := Or.inl (tg_5 102 (by decide +kernel) rfl)
theorem nX10_151 : LK RX10 151 yX10_cells := Or.inl (tg_5 106 (by decide +kernel) rfl)
theorem nL_36 : LK RL 36 yX10_ways := Or.inl (tg_5 110 (by decide +kernel) rfl)
theorem nX10_154 : LK RX10 154 yX10_becomes := Or.inl (tg_5 114 (by decide +kernel) rfl)
theorem nL_40 : LK RL 40 yX10_ranks := Or.inl (tg_5 118 (by decide +kernel) rfl)
theorem nL_44 : LK RL 44 yX10_mosts := Or.inl (tg_5 122 (by decide +kernel) rfl)
theorem nL_48 : LK RL 48 yX10_pulls := Or.inl (tg_5 126 (by decide +kernel) rfl)
theorem nL_52 : LK RL 52 yX10_undo := Or.inl (tg_5 130 (by decide +kernel) rfl)
theorem nL_57 : LK RL 57 yX10_cell := Or.inl (tg_5 134 (by decide +kernel) rfl)
theorem nX10_228 : LK RX10 228 yX10_laysFields := Or.inl (tg_5 138 (by decide +kernel) rfl)
theorem nX10_163 : LK RX10 163 yX10_spreads := Or.inl (tg_5 142 (by decide +kernel) rfl)
theorem nX10_157 : LK RX10 157 yX10_areBeside := Or.inl (tg_5 146 (by decide +kernel) rfl)
theorem nL_61 : LK RL 61 yX10_field := Or.inl (tg_5 150 (by decide +kernel) rfl)
theorem nX10_231 : LK RX10 231 yX10_isField := Or.inl (tg_5 154 (by decide +kernel) rfl)
theorem nX10_218 : LK RX10 218 yX10_colourOf := Or.inl (tg_5 158 (by decide +kernel) rfl)
theorem nX10_166 : LK RX10 166 yX10_lowestOf := Or.inl (tg_5 162 (by decide +kernel) rfl)
theorem nX10_235 : LK RX10 235 yX10_sizeOf := Or.inl (tg_5 166 (by decide +kernel) rfl)
theorem nX10_238 : LK RX10 238 yX10_bestWay := Or.inl (tg_5 170 (by decide +kernel) rfl)
theorem nX10_214 : LK RX10 214 yX10_toldOf := Or.inl (tg_5 174 (by decide +kernel) rfl)
theorem nX10_205 : LK RX10 205 yX10_laysRows := Or.inl (tg_5 178 (by decide +kernel) rfl)
theorem nX10_175 : LK RX10 175 yX10_cellAt := Or.inl (tg_5 182 (by decide +kernel) rfl)
theorem nX10_178 : LK RX10 178 yX10_laysNexts := Or.inl (tg_5 186 (by decide +kernel) rfl)
theorem nX10_181 : LK RX10 181 yX10_laysParts := Or.inl (tg_5 190 (by decide +kernel) rfl)
theorem nX10_208 : LK RX10 208 yX10_stitches := Or.inl (tg_5 194 (by decide +kernel) rfl)
theorem nX10_202 : LK RX10 202 yX10_stitchesOf := Or.inl (tg_5 198 (by decide +kernel) rfl)
theorem nX10_187 : LK RX10 187 yX10_lengthOf := Or.inl (tg_5 202 (by decide +kernel) rfl)
theorem nX10_211 : LK RX10 211 yX10_travel := Or.inl (tg_5 206 (by decide +kernel) rfl)
theorem nX10_199 : LK RX10 199 yX10_hiddenOf := Or.inl (tg_5 210 (by decide +kernel) rfl)
theorem nX10_190 : LK RX10 190 yX10_endOf := Or.inl (tg_5 214 (by decide +kernel) rfl)
theorem nX10_193 : LK RX10 193 yX10_startOf := Or.inl (tg_5 218 (by decide +kernel) rfl)
theorem nX10_196 : LK RX10 196 yX10_stepsBetween := Or.inl (tg_5 222 (by decide +kernel) rfl)
theorem nX10_241 : LK RX10 241 yX10_coveredBy := Or.inl (tg_5 226 (by decide +kernel) rfl)
theorem nX10_221 : LK RX10 221 yX10_covers := Or.inl (tg_5 230 (by decide +kernel) rfl)
theorem nX10_244 : LK RX10 244 yX10_touching := Or.inl (tg_5 234 (by decide +kernel) rfl)
theorem nX10_225 : LK RX10 225 yX10_touch := Or.inl (tg_5 238 (by decide +kernel) rfl)
theorem nL_65 : LK RL 65 yX10_sewn := Or.inl (tg_6 2 (by decide +kernel) rfl)
theorem nL_70 : LK RL 70 yX10_row := Or.inl (tg_6 6 (by decide +kernel) rfl)
theorem nL_74 : LK RL 74 yX10_part := Or.inl (tg_6 10 (by decide +kernel) rfl)
theorem nL_78 : LK RL 78 yX10_order := Or.inl (tg_6 14 (by decide +kernel) rfl)
theorem nX10_253 : LK RX10 253 yX10_laysAhead := Or.inl (tg_6 18 (by decide +kernel) rfl)
theorem nX10_256 : LK RX10 256 yX10_laysChanges := Or.inl (tg_6 22 (by decide +kernel) rfl)
theorem nX10_247 : LK RX10 247 yX10_mayCome := Or.inl (tg_6 26 (by decide +kernel) rfl)
theorem nX10_250 : LK RX10 250 yX10_withField := Or.inl (tg_6 30 (by decide +kernel) rfl)
theorem nX10_259 : LK RX10 259 yX10_fieldAt := Or.inl (tg_6 34 (by decide +kernel) rfl)
theorem nL_82 : LK RL 82 yX10_sees := Or.inl (tg_6 38 (by decide +kernel) rfl)
theorem nL_86 : LK RL 86 yX10_forget := Or.inl (tg_6 42 (by decide +kernel) rfl)
theorem nL_90 : LK RL 90 yX10_which := Or.inl (tg_6 46 (by decide +kernel) rfl)
theorem nX10_265 : LK RX10 265 yX10_isSo := Or.inl (tg_6 50 (by decide +kernel) rfl)
theorem nL_94 : LK RL 94 yX10_keep := Or.inl (tg_6 54 (by decide +kernel) rfl)
theorem nX10_268 : LK RX10 268 yX10_fieldsNow := Or.inl (tg_6 58 (by decide +kernel) rfl)
theorem nL_98 : LK RL 98 yX10_back := Or.inl (tg_6 62 (by decide +kernel) rfl)
theorem nL_102 : LK RL 102 yX10_count := Or.inl (tg_6 66 (by decide +kernel) rfl)
theorem nX10_271 : LK RX10 271 yX10_coloured := Or.inl (tg_6 70 (by decide +kernel) rfl)
theorem q_acN : Cond.native arraycopyName ∈ TG := tg_2 215 (by decide +kernel) rfl
theorem q_acS : Cond.static arraycopyName ∈ TG := tg_2 214 (by decide +kernel) rfl
theorem q_acI : Cond.initialized "java/lang/System" ∈ TG := tg_1 17 (by decide +kernel) rfl
theorem q_s38 : Cond.fieldLink RJ0 38 "java/lang/String" "COMPACT_STRINGS" "Z" ∈ TG := tg_2 99 (by decide +kernel) rfl
theorem q_s9 : Cond.fieldLink RJ0 9 "java/lang/String" "value" "[B" ∈ TG := tg_6 74 (by decide +kernel) rfl
theorem q_s15 : Cond.fieldLink RJ0 15 "java/lang/String" "coder" "B" ∈ TG := tg_6 75 (by decide +kernel) rfl
theorem q_s1053 : Cond.fieldLink RJ0 1053 "jdk/internal/util/Preconditions" "SIOOBE_FORMATTER" "Ljava/util/function/BiFunction;" ∈ TG := tg_2 119 (by decide +kernel) rfl
theorem wX0 : ∀ w ∈ u_ws RX0 TX0 1, w ∈ TG := List.forall_mem_cons.mpr ⟨tg_1 41 (by decide +kernel) rfl, fun _ h => absurd h List.not_mem_nil⟩
theorem wX1 : ∀ w ∈ u_ws RX1 TX1 8, w ∈ TG := List.forall_mem_cons.mpr ⟨tg_1 114 (by decide +kernel) rfl, List.forall_mem_cons.mpr ⟨tg_1 116 (by decide +kernel) rfl, List.forall_mem_cons.mpr ⟨tg_1 118 (by decide +kernel) rfl, List.forall_mem_cons.mpr ⟨tg_1 120 (by decide +kernel) rfl, List.forall_mem_cons.mpr ⟨tg_1 122 (by decide +kernel) rfl, List.forall_mem_cons.mpr ⟨tg_1 124 (by decide +kernel) rfl, List.forall_mem_cons.mpr ⟨tg_1 126 (by decide +kernel) rfl, List.forall_mem_cons.mpr ⟨tg_1 128 (by decide +kernel) rfl, fun _ h => absurd h List.not_mem_nil⟩⟩⟩⟩⟩⟩⟩⟩
theorem wX2 : ∀ w ∈ u_ws RX2 TX2 3, w ∈ TG := List.forall_mem_cons.mpr ⟨tg_1 235 (by decide +kernel) rfl, List.forall_mem_cons.mpr ⟨tg_1 237 (by decide +kernel) rfl, List.forall_mem_cons.mpr ⟨tg_1 239 (by decide +kernel) rfl, fun _ h => absurd h List.not_mem_nil⟩⟩⟩
theorem wX3 : ∀ w ∈ u_ws RX3 TX3 4, w ∈ TG := List.forall_mem_cons.mpr ⟨tg_1 215 (by decide +kernel) rfl, List.forall_mem_cons.mpr ⟨tg_1 217 (by decide +kernel) rfl, List.forall_mem_cons.mpr ⟨tg_1 219 (by decide +kernel) rfl, List.forall_mem_cons.mpr ⟨tg_1 221 (by decide +kernel) rfl, fun _ h => absurd h List.not_mem_nil⟩⟩⟩⟩
theorem wX4 : ∀ w ∈ u_ws RX4 TX4 2, w ∈ TG := List.forall_mem_cons.mpr ⟨tg_1 78 (by decide +kernel) rfl, List.forall_mem_cons.mpr ⟨tg_1 80 (by decide +kernel) rfl, fun _ h => absurd h List.not_mem_nil⟩⟩
theorem wX5 : ∀ w ∈ u_ws RX5 TX5 15, w ∈ TG := List.forall_mem_cons.mpr ⟨tg_1 155 (by decide +kernel) rfl, List.forall_mem_cons.mpr ⟨tg_1 157 (by decide +kernel) rfl, List.forall_mem_cons.mpr ⟨tg_1 159 (by decide +kernel) rfl, List.forall_mem_cons.mpr ⟨tg_1 161 (by decide +kernel) rfl, List.forall_mem_cons.mpr ⟨tg_1 163 (by decide +kernel) rfl, List.forall_mem_cons.mpr ⟨tg_1 165 (by decide +kernel) rfl, List.forall_mem_cons.mpr ⟨tg_1 167 (by decide +kernel) rfl, List.forall_mem_cons.mpr ⟨tg_1 169 (by decide +kernel) rfl, List.forall_mem_cons.mpr ⟨tg_1 171 (by decide +kernel) rfl, List.forall_mem_cons.mpr ⟨tg_1 173 (by decide +kernel) rfl, List.forall_mem_cons.mpr ⟨tg_1 175 (by decide +kernel) rfl, List.forall_mem_cons.mpr ⟨tg_1 177 (by decide +kernel) rfl, List.forall_mem_cons.mpr ⟨tg_1 179 (by decide +kernel) rfl, List.forall_mem_cons.mpr ⟨tg_1 181 (by decide +kernel) rfl, List.forall_mem_cons.mpr ⟨tg_1 183 (by decide +kernel) rfl, fun _ h => absurd h List.not_mem_nil⟩⟩⟩⟩⟩⟩⟩⟩⟩⟩⟩⟩⟩⟩⟩
theorem wX6 : ∀ w ∈ u_ws RX6 TX6 4, w ∈ TG := List.forall_mem_cons.mpr ⟨tg_1 196 (by decide +kernel) rfl, List.forall_mem_cons.mpr ⟨tg_1 198 (by decide +kernel) rfl, List.forall_mem_cons.mpr ⟨tg_1 200 (by decide +kernel) rfl, List.forall_mem_cons.mpr ⟨tg_1 202 (by decide +kernel) rfl, fun _ h => absurd h List.not_mem_nil⟩⟩⟩⟩
theorem wX7 : ∀ w ∈ u_ws RX7 TX7 5, w ∈ TG := List.forall_mem_cons.mpr ⟨tg_1 56 (by decide +kernel) rfl, List.forall_mem_cons.mpr ⟨tg_1 58 (by decide +kernel) rfl, List.forall_mem_cons.mpr ⟨tg_1 60 (by decide +kernel) rfl, List.forall_mem_cons.mpr ⟨tg_1 62 (by decide +kernel) rfl, List.forall_mem_cons.mpr ⟨tg_1 64 (by decide +kernel) rfl, fun _ h => absurd h List.not_mem_nil⟩⟩⟩⟩⟩
theorem wX8 : ∀ w ∈ u_ws RX8 TX8 3, w ∈ TG := List.forall_mem_cons.mpr ⟨tg_1 98 (by decide +kernel) rfl, List.forall_mem_cons.mpr ⟨tg_1 100 (by decide +kernel) rfl, List.forall_mem_cons.mpr ⟨tg_1 102 (by decide +kernel) rfl, fun _ h => absurd h List.not_mem_nil⟩⟩⟩
theorem wX9 : ∀ w ∈ u_ws RX9 TX9 10, w ∈ TG := List.forall_mem_cons.mpr ⟨tg_2 13 (by decide +kernel) rfl, List.forall_mem_cons.mpr ⟨tg_2 15 (by decide +kernel) rfl, List.forall_mem_cons.mpr ⟨tg_2 17 (by decide +kernel) rfl, List.forall_mem_cons.mpr ⟨tg_2 19 (by decide +kernel) rfl, List.forall_mem_cons.mpr ⟨tg_2 21 (by decide +kernel) rfl, List.forall_mem_cons.mpr ⟨tg_2 23 (by decide +kernel) rfl, List.forall_mem_cons.mpr ⟨tg_2 25 (by decide +kernel) rfl, List.forall_mem_cons.mpr ⟨tg_2 27 (by decide +kernel) rfl, List.forall_mem_cons.mpr ⟨tg_2 29 (by decide +kernel) rfl, List.forall_mem_cons.mpr ⟨tg_2 31 (by decide +kernel) rfl, fun _ h => absurd h List.not_mem_nil⟩⟩⟩⟩⟩⟩⟩⟩⟩⟩
theorem wX10 : ∀ w ∈ u_ws RX10 TX10 35, w ∈ TG := List.forall_mem_cons.mpr ⟨tg_4 208 (by decide +kernel) rfl, List.forall_mem_cons.mpr ⟨tg_4 210 (by decide +kernel) rfl, List.forall_mem_cons.mpr ⟨tg_4 212 (by decide +kernel) rfl, List.forall_mem_cons.mpr ⟨tg_4 214 (by decide +kernel) rfl, List.forall_mem_cons.mpr ⟨tg_4 216 (by decide +kernel) rfl, List.forall_mem_cons.mpr ⟨tg_4 218 (by decide +kernel) rfl, List.forall_mem_cons.mpr ⟨tg_4 220 (by decide +kernel) rfl, List.forall_mem_cons.mpr ⟨tg_4 222 (by decide +kernel) rfl, List.forall_mem_cons.mpr ⟨tg_4 224 (by decide +kernel) rfl, List.forall_mem_cons.mpr ⟨tg_4 226 (by decide +kernel) rfl, List.forall_mem_cons.mpr ⟨tg_4 228 (by decide +kernel) rfl, List.forall_mem_cons.mpr ⟨tg_4 230 (by decide +kernel) rfl, List.forall_mem_cons.mpr ⟨tg_4 232 (by decide +kernel) rfl, List.forall_mem_cons.mpr ⟨tg_4 234 (by decide +kernel) rfl, List.forall_mem_cons.mpr ⟨tg_4 236 (by decide +kernel) rfl, List.forall_mem_cons.mpr ⟨tg_4 238 (by decide +kernel) rfl, List.forall_mem_cons.mpr ⟨tg_5 0 (by decide +kernel) rfl, List.forall_mem_cons.mpr ⟨tg_5 2 (by decide +kernel) rfl, List.forall_mem_cons.mpr ⟨tg_5 4 (by decide +kernel) rfl, List.forall_mem_cons.mpr ⟨tg_5 6 (by decide +kernel) rfl, List.forall_mem_cons.mpr ⟨tg_5 8 (by decide +kernel) rfl, List.forall_mem_cons.mpr ⟨tg_5 10 (by decide +kernel) rfl, List.forall_mem_cons.mpr ⟨tg_5 12 (by decide +kernel) rfl, List.forall_mem_cons.mpr ⟨tg_5 14 (by decide +kernel) rfl, List.forall_mem_cons.mpr ⟨tg_5 16 (by decide +kernel) rfl, List.forall_mem_cons.mpr ⟨tg_5 18 (by decide +kernel) rfl, List.forall_mem_cons.mpr ⟨tg_5 20 (by decide +kernel) rfl, List.forall_mem_cons.mpr ⟨tg_5 22 (by decide +kernel) rfl, List.forall_mem_cons.mpr ⟨tg_5 24 (by decide +kernel) rfl, List.forall_mem_cons.mpr ⟨tg_5 26 (by decide +kernel) rfl, List.forall_mem_cons.mpr ⟨tg_5 28 (by decide +kernel) rfl, List.forall_mem_cons.mpr ⟨tg_5 30 (by decide +kernel) rfl, List.forall_mem_cons.mpr ⟨tg_5 32 (by decide +kernel) rfl, List.forall_mem_cons.mpr ⟨tg_5 34 (by decide +kernel) rfl, List.forall_mem_cons.mpr ⟨tg_5 36 (by decide +kernel) rfl, fun _ h => absurd h List.not_mem_nil⟩⟩⟩⟩⟩⟩⟩⟩⟩⟩⟩⟩⟩⟩⟩⟩⟩⟩⟩⟩⟩⟩⟩⟩⟩⟩⟩⟩⟩⟩⟩⟩⟩⟩⟩
theorem fX0_11 : FL RX0 11 0 0 := ⟨TX0, 1, rfl, by decide, wX0, rfl, tg_1 40 (by decide +kernel) rfl⟩
theorem fX7_9 : FL RX7 9 7 0 := ⟨TX7, 5, rfl, by decide, wX7, rfl, tg_1 51 (by decide +kernel) rfl⟩
theorem fX7_15 : FL RX7 15 7 1 := ⟨TX7, 5, rfl, by decide, wX7, rfl, tg_1 52 (by decide +kernel) rfl⟩
theorem pX7_15 : FP RX7 15 7 1 := ⟨TX7, 5, tyX7, rfl, by decide, wX7, rfl, tg_1 52 (by decide +kernel) rfl, tyX7_ok, nmX7, rfl, by decide +kernel⟩
theorem fX7_32 : FL RX7 32 7 2 := ⟨TX7, 5, rfl, by decide, wX7, rfl, tg_1 53 (by decide +kernel) rfl⟩
theorem pX7_32 : FP RX7 32 7 2 := ⟨TX7, 5, tyX7, rfl, by decide, wX7, rfl, tg_1 53 (by decide +kernel) rfl, tyX7_ok, nmX7, rfl, by decide +kernel⟩
theorem fX7_25 : FL RX7 25 7 3 := ⟨TX7, 5, rfl, by decide, wX7, rfl, tg_1 54 (by decide +kernel) rfl⟩
theorem pX7_25 : FP RX7 25 7 3 := ⟨TX7, 5, tyX7, rfl, by decide, wX7, rfl, tg_1 54 (by decide +kernel) rfl, tyX7_ok, nmX7, rfl, by decide +kernel⟩
theorem fX7_19 : FL RX7 19 7 4 := ⟨TX7, 5, rfl, by decide, wX7, rfl, tg_1 55 (by decide +kernel) rfl⟩
theorem pX7_19 : FP RX7 19 7 4 := ⟨TX7, 5, tyX7, rfl, by decide, wX7, rfl, tg_1 55 (by decide +kernel) rfl, tyX7_ok, nmX7, rfl, by decide +kernel⟩
theorem fX4_12 : FL RX4 12 4 0 := ⟨TX4, 2, rfl, by decide, wX4, rfl, tg_1 76 (by decide +kernel) rfl⟩
theorem fX4_21 : FL RX4 21 4 1 := ⟨TX4, 2, rfl, by decide, wX4, rfl, tg_1 77 (by decide +kernel) rfl⟩
theorem pX4_21 : FP RX4 21 4 1 := ⟨TX4, 2, tyX4, rfl, by decide, wX4, rfl, tg_1 77 (by decide +kernel) rfl, tyX4_ok, nmX4, rfl, by decide +kernel⟩
theorem fX8_9 : FL RX8 9 8 0 := ⟨TX8, 3, rfl, by decide, wX8, rfl, tg_1 95 (by decide +kernel) rfl⟩
theorem fX8_15 : FL RX8 15 8 1 := ⟨TX8, 3, rfl, by decide, wX8, rfl, tg_1 96 (by decide +kernel) rfl⟩
theorem fX8_24 : FL RX8 24 8 2 := ⟨TX8, 3, rfl, by decide, wX8, rfl, tg_1 97 (by decide +kernel) rfl⟩
theorem pX8_24 : FP RX8 24 8 2 := ⟨TX8, 3, tyX8, rfl, by decide, wX8, rfl, tg_1 97 (by decide +kernel) rfl, tyX8_ok, nmX8, rfl, by decide +kernel⟩
theorem fX1_12 : FL RX1 12 1 0 := ⟨TX1, 8, rfl, by decide, wX1, rfl, tg_1 106 (by decide +kernel) rfl⟩
theorem fX1_18 : FL RX1 18 1 1 := ⟨TX1, 8, rfl, by decide, wX1, rfl, tg_1 107 (by decide +kernel) rfl⟩
theorem fX1_22 : FL RX1 22 1 2 := ⟨TX1, 8, rfl, by decide, wX1, rfl, tg_1 108 (by decide +kernel) rfl⟩
theorem fX1_25 : FL RX1 25 1 3 := ⟨TX1, 8, rfl, by decide, wX1, rfl, tg_1 109 (by decide +kernel) rfl⟩
theorem fX1_28 : FL RX1 28 1 4 := ⟨TX1, 8, rfl, by decide, wX1, rfl, tg_1 110 (by decide +kernel) rfl⟩
theorem fX1_31 : FL RX1 31 1 5 := ⟨TX1, 8, rfl, by decide, wX1, rfl, tg_1 111 (by decide +kernel) rfl⟩
theorem fX1_41 : FL RX1 41 1 6 := ⟨TX1, 8, rfl, by decide, wX1, rfl, tg_1 112 (by decide +kernel) rfl⟩
theorem pX1_41 : FP RX1 41 1 6 := ⟨TX1, 8, tyX1, rfl, by decide, wX1, rfl, tg_1 112 (by decide +kernel) rfl, tyX1_ok, nmX1, rfl, by decide +kernel⟩
theorem fX1_45 : FL RX1 45 1 7 := ⟨TX1, 8, rfl, by decide, wX1, rfl, tg_1 113 (by decide +kernel) rfl⟩
theorem pX1_45 : FP RX1 45 1 7 := ⟨TX1, 8, tyX1, rfl, by decide, wX1, rfl, tg_1 113 (by decide +kernel) rfl, tyX1_ok, nmX1, rfl, by decide +kernel⟩
theorem fX5_12 : FL RX5 12 5 0 := ⟨TX5, 15, rfl, by decide, wX5, rfl, tg_1 140 (by decide +kernel) rfl⟩
theorem fX5_18 : FL RX5 18 5 1 := ⟨TX5, 15, rfl, by decide, wX5, rfl, tg_1 141 (by decide +kernel) rfl⟩
theorem fX5_22 : FL RX5 22 5 2 := ⟨TX5, 15, rfl, by decide, wX5, rfl, tg_1 142 (by decide +kernel) rfl⟩
theorem fX5_25 : FL RX5 25 5 3 := ⟨TX5, 15, rfl, by decide, wX5, rfl, tg_1 143 (by decide +kernel) rfl⟩
theorem fX5_28 : FL RX5 28 5 4 := ⟨TX5, 15, rfl, by decide, wX5, rfl, tg_1 144 (by decide +kernel) rfl⟩
theorem fX5_31 : FL RX5 31 5 5 := ⟨TX5, 15, rfl, by decide, wX5, rfl, tg_1 145 (by decide +kernel) rfl⟩
theorem fX5_34 : FL RX5 34 5 6 := ⟨TX5, 15, rfl, by decide, wX5, rfl, tg_1 146 (by decide +kernel) rfl⟩
theorem fX5_37 : FL RX5 37 5 7 := ⟨TX5, 15, rfl, by decide, wX5, rfl, tg_1 147 (by decide +kernel) rfl⟩
theorem fX5_40 : FL RX5 40 5 8 := ⟨TX5, 15, rfl, by decide, wX5, rfl, tg_1 148 (by decide +kernel) rfl⟩
theorem fX5_43 : FL RX5 43 5 9 := ⟨TX5, 15, rfl, by decide, wX5, rfl, tg_1 149 (by decide +kernel) rfl⟩
theorem fX5_46 : FL RX5 46 5 10 := ⟨TX5, 15, rfl, by decide, wX5, rfl, tg_1 150 (by decide +kernel) rfl⟩
theorem fX5_50 : FL RX5 50 5 11 := ⟨TX5, 15, rfl, by decide, wX5, rfl, tg_1 151 (by decide +kernel) rfl⟩
theorem pX5_50 : FP RX5 50 5 11 := ⟨TX5, 15, tyX5, rfl, by decide, wX5, rfl, tg_1 151 (by decide +kernel) rfl, tyX5_ok, nmX5, rfl, by decide +kernel⟩
theorem fX5_60 : FL RX5 60 5 12 := ⟨TX5, 15, rfl, by decide, wX5, rfl, tg_1 152 (by decide +kernel) rfl⟩
theorem pX5_60 : FP RX5 60 5 12 := ⟨TX5, 15, tyX5, rfl, by decide, wX5, rfl, tg_1 152 (by decide +kernel) rfl, tyX5_ok, nmX5, rfl, by decide +kernel⟩
theorem fX5_69 : FL RX5 69 5 13 := ⟨TX5, 15, rfl, by decide, wX5, rfl, tg_1 153 (by decide +kernel) rfl⟩
theorem pX5_69 : FP RX5 69 5 13 := ⟨TX5, 15, tyX5, rfl, by decide, wX5, rfl, tg_1 153 (by decide +kernel) rfl, tyX5_ok, nmX5, rfl, by decide +kernel⟩
theorem fX5_80 : FL RX5 80 5 14 := ⟨TX5, 15, rfl, by decide, wX5, rfl, tg_1 154 (by decide +kernel) rfl⟩
theorem pX5_80 : FP RX5 80 5 14 := ⟨TX5, 15, tyX5, rfl, by decide, wX5, rfl, tg_1 154 (by decide +kernel) rfl, tyX5_ok, nmX5, rfl, by decide +kernel⟩
theorem fX6_9 : FL RX6 9 6 0 := ⟨TX6, 4, rfl, by decide, wX6, rfl, tg_1 192 (by decide +kernel) rfl⟩
theorem fX6_15 : FL RX6 15 6 1 := ⟨TX6, 4, rfl, by decide, wX6, rfl, tg_1 193 (by decide +kernel) rfl⟩
theorem fX6_23 : FL RX6 23 6 2 := ⟨TX6, 4, rfl, by decide, wX6, rfl, tg_1 194 (by decide +kernel) rfl⟩
theorem pX6_23 : FP RX6 23 6 2 := ⟨TX6, 4, tyX6, rfl, by decide, wX6, rfl, tg_1 194 (by decide +kernel) rfl, tyX6_ok, nmX6, rfl, by decide +kernel⟩
theorem fX6_27 : FL RX6 27 6 3 := ⟨TX6, 4, rfl, by decide, wX6, rfl, tg_1 195 (by decide +kernel) rfl⟩
theorem pX6_27 : FP RX6 27 6 3 := ⟨TX6, 4, tyX6, rfl, by decide, wX6, rfl, tg_1 195 (by decide +kernel) rfl, tyX6_ok, nmX6, rfl, by decide +kernel⟩
theorem fX3_9 : FL RX3 9 3 0 := ⟨TX3, 4, rfl, by decide, wX3, rfl, tg_1 211 (by decide +kernel) rfl⟩
theorem fX3_15 : FL RX3 15 3 1 := ⟨TX3, 4, rfl, by decide, wX3, rfl, tg_1 212 (by decide +kernel) rfl⟩
theorem fX3_18 : FL RX3 18 3 2 := ⟨TX3, 4, rfl, by decide, wX3, rfl, tg_1 213 (by decide +kernel) rfl⟩
theorem fX3_21 : FL RX3 21 3 3 := ⟨TX3, 4, rfl, by decide, wX3, rfl, tg_1 214 (by decide +kernel) rfl⟩
theorem pX3_21 : FP RX3 21 3 3 := ⟨TX3, 4, tyX3, rfl, by decide, wX3, rfl, tg_1 214 (by decide +kernel) rfl, tyX3_ok, nmX3, rfl, by decide +kernel⟩
theorem fX2_13 : FL RX2 13 2 0 := ⟨TX2, 3, rfl, by decide, wX2, rfl, tg_1 232 (by decide +kernel) rfl⟩
theorem fX2_22 : FL RX2 22 2 1 := ⟨TX2, 3, rfl, by decide, wX2, rfl, tg_1 233 (by decide +kernel) rfl⟩
theorem pX2_22 : FP RX2 22 2 1 := ⟨TX2, 3, tyX2, rfl, by decide, wX2, rfl, tg_1 233 (by decide +kernel) rfl, tyX2_ok, nmX2, rfl, by decide +kernel⟩
theorem fX2_18 : FL RX2 18 2 2 := ⟨TX2, 3, rfl, by decide, wX2, rfl, tg_1 234 (by decide +kernel) rfl⟩
theorem pX2_18 : FP RX2 18 2 2 := ⟨TX2, 3, tyX2, rfl, by decide, wX2, rfl, tg_1 234 (by decide +kernel) rfl, tyX2_ok, nmX2, rfl, by decide +kernel⟩
theorem fX9_12 : FL RX9 12 9 0 := ⟨TX9, 10, rfl, by decide, wX9, rfl, tg_2 3 (by decide +kernel) rfl⟩
theorem fX9_19 : FL RX9 19 9 1 := ⟨TX9, 10, rfl, by decide, wX9, rfl, tg_2 4 (by decide +kernel) rfl⟩
theorem fX9_26 : FL RX9 26 9 2 := ⟨TX9, 10, rfl, by decide, wX9, rfl, tg_2 5 (by decide +kernel) rfl⟩
theorem fX9_33 : FL RX9 33 9 3 := ⟨TX9, 10, rfl, by decide, wX9, rfl, tg_2 6 (by decide +kernel) rfl⟩
theorem fX9_40 : FL RX9 40 9 4 := ⟨TX9, 10, rfl, by decide, wX9, rfl, tg_2 7 (by decide +kernel) rfl⟩
theorem fX9_47 : FL RX9 47 9 5 := ⟨TX9, 10, rfl, by decide, wX9, rfl, tg_2 8 (by decide +kernel) rfl⟩
theorem fX9_54 : FL RX9 54 9 6 := ⟨TX9, 10, rfl, by decide, wX9, rfl, tg_2 9 (by decide +kernel) rfl⟩
theorem fX9_61 : FL RX9 61 9 7 := ⟨TX9, 10, rfl, by decide, wX9, rfl, tg_2 10 (by decide +kernel) rfl⟩
theorem fX9_67 : FL RX9 67 9 8 := ⟨TX9, 10, rfl, by decide, wX9, rfl, tg_2 11 (by decide +kernel) rfl⟩
theorem fX9_70 : FL RX9 70 9 9 := ⟨TX9, 10, rfl, by decide, wX9, rfl, tg_2 12 (by decide +kernel) rfl⟩
theorem fX10_81 : FL RX10 81 10 0 := ⟨TX10, 35, rfl, by decide, wX10, rfl, tg_4 173 (by decide +kernel) rfl⟩
theorem pX10_81 : FP RX10 81 10 0 := ⟨TX10, 35, tyX10, rfl, by decide, wX10, rfl, tg_4 173 (by decide +kernel) rfl, tyX10_ok, nmX10, rfl, by decide +kernel⟩
theorem fX10_7 : FL RX10 7 10 1 := ⟨TX10, 35, rfl, by decide, wX10, rfl, tg_4 174 (by decide +kernel) rfl⟩
theorem fX10_13 : FL RX10 13 10 2 := ⟨TX10, 35, rfl, by decide, wX10, rfl, tg_4 175 (by decide +kernel) rfl⟩
theorem fX10_16 : FL RX10 16 10 3 := ⟨TX10, 35, rfl, by decide, wX10, rfl, tg_4 176 (by decide +kernel) rfl⟩
theorem fX10_144 : FL RX10 144 10 4 := ⟨TX10, 35, rfl, by decide, wX10, rfl, tg_4 177 (by decide +kernel) rfl⟩
theorem pX10_144 : FP RX10 144 10 4 := ⟨TX10, 35, tyX10, rfl, by decide, wX10, rfl, tg_4 177 (by decide +kernel) rfl, tyX10_ok, nmX10, rfl, by decide +kernel⟩
theorem fX10_19 : FL RX10 19 10 5 := ⟨TX10, 35, rfl, by decide, wX10, rfl, tg_4 178 (by decide +kernel) rfl⟩
theorem fX10_22 : FL RX10 22 10 6 := ⟨TX10, 35, rfl, by decide, wX10, rfl, tg_4 179 (by decide +kernel) rfl⟩
theorem fX10_26 : FL RX10 26 10 7 := ⟨TX10, 35, rfl, by decide, wX10, rfl, tg_4 180 (by decide +kernel) rfl⟩
theorem fX10_262 : FL RX10 262 10 8 := ⟨TX10, 35, rfl, by decide, wX10, rfl, tg_4 181 (by decide +kernel) rfl⟩
theorem pX10_262 : FP RX10 262 10 8 := ⟨TX10, 35, tyX10, rfl, by decide, wX10, rfl, tg_4 181 (by decide +kernel) rfl, tyX10_ok, nmX10, rfl, by decide +kernel⟩
theorem fX10_29 : FL RX10 29 10 9 := ⟨TX10, 35, rfl, by decide, wX10, rfl, tg_4 182 (by decide +kernel) rfl⟩
theorem fX10_89 : FL RX10 89 10 10 := ⟨TX10, 35, rfl, by decide, wX10, rfl, tg_4 183 (by decide +kernel) rfl⟩
theorem pX10_89 : FP RX10 89 10 10 := ⟨TX10, 35, tyX10, rfl, by decide, wX10, rfl, tg_4 183 (by decide +kernel) rfl, tyX10_ok, nmX10, rfl, by decide +kernel⟩
theorem fX10_95 : FL RX10 95 10 11 := ⟨TX10, 35, rfl, by decide, wX10, rfl, tg_4 184 (by decide +kernel) rfl⟩
theorem pX10_95 : FP RX10 95 10 11 := ⟨TX10, 35, tyX10, rfl, by decide, wX10, rfl, tg_4 184 (by decide +kernel) rfl, tyX10_ok, nmX10, rfl, by decide +kernel⟩
theorem fX10_92 : FL RX10 92 10 12 := ⟨TX10, 35, rfl, by decide, wX10, rfl, tg_4 185 (by decide +kernel) rfl⟩
theorem pX10_92 : FP RX10 92 10 12 := ⟨TX10, 35, tyX10, rfl, by decide, wX10, rfl, tg_4 185 (by decide +kernel) rfl, tyX10_ok, nmX10, rfl, by decide +kernel⟩
theorem fX10_106 : FL RX10 106 10 13 := ⟨TX10, 35, rfl, by decide, wX10, rfl, tg_4 186 (by decide +kernel) rfl⟩
theorem pX10_106 : FP RX10 106 10 13 := ⟨TX10, 35, tyX10, rfl, by decide, wX10, rfl, tg_4 186 (by decide +kernel) rfl, tyX10_ok, nmX10, rfl, by decide +kernel⟩
theorem fX10_113 : FL RX10 113 10 14 := ⟨TX10, 35, rfl, by decide, wX10, rfl, tg_4 187 (by decide +kernel) rfl⟩
theorem pX10_113 : FP RX10 113 10 14 := ⟨TX10, 35, tyX10, rfl, by decide, wX10, rfl, tg_4 187 (by decide +kernel) rfl, tyX10_ok, nmX10, rfl, by decide +kernel⟩
theorem fX10_33 : FL RX10 33 10 15 := ⟨TX10, 35, rfl, by decide, wX10, rfl, tg_4 188 (by decide +kernel) rfl⟩
theorem fX10_160 : FL RX10 160 10 16 := ⟨TX10, 35, rfl, by decide, wX10, rfl, tg_4 189 (by decide +kernel) rfl⟩
theorem pX10_160 : FP RX10 160 10 16 := ⟨TX10, 35, tyX10, rfl, by decide, wX10, rfl, tg_4 189 (by decide +kernel) rfl, tyX10_ok, nmX10, rfl, by decide +kernel⟩
theorem fX10_172 : FL RX10 172 10 17 := ⟨TX10, 35, rfl, by decide, wX10, rfl, tg_4 190 (by decide +kernel) rfl⟩
theorem pX10_172 : FP RX10 172 10 17 := ⟨TX10, 35, tyX10, rfl, by decide, wX10, rfl, tg_4 190 (by decide +kernel) rfl, tyX10_ok, nmX10, rfl, by decide +kernel⟩
theorem fX10_36 : FL RX10 36 10 18 := ⟨TX10, 35, rfl, by decide, wX10, rfl, tg_4 191 (by decide +kernel) rfl⟩
theorem fX10_39 : FL RX10 39 10 19 := ⟨TX10, 35, rfl, by decide, wX10, rfl, tg_4 192 (by decide +kernel) rfl⟩
theorem fX10_42 : FL RX10 42 10 20 := ⟨TX10, 35, rfl, by decide, wX10, rfl, tg_4 193 (by decide +kernel) rfl⟩
theorem fX10_45 : FL RX10 45 10 21 := ⟨TX10, 35, rfl, by decide, wX10, rfl, tg_4 194 (by decide +kernel) rfl⟩
theorem fX10_48 : FL RX10 48 10 22 := ⟨TX10, 35, rfl, by decide, wX10, rfl, tg_4 195 (by decide +kernel) rfl⟩
theorem fX10_51 : FL RX10 51 10 23 := ⟨TX10, 35, rfl, by decide, wX10, rfl, tg_4 196 (by decide +kernel) rfl⟩
theorem fX10_54 : FL RX10 54 10 24 := ⟨TX10, 35, rfl, by decide, wX10, rfl, tg_4 197 (by decide +kernel) rfl⟩
theorem fX10_184 : FL RX10 184 10 25 := ⟨TX10, 35, rfl, by decide, wX10, rfl, tg_4 198 (by decide +kernel) rfl⟩
theorem pX10_184 : FP RX10 184 10 25 := ⟨TX10, 35, tyX10, rfl, by decide, wX10, rfl, tg_4 198 (by decide +kernel) rfl, tyX10_ok, nmX10, rfl, by decide +kernel⟩
theorem fX10_57 : FL RX10 57 10 26 := ⟨TX10, 35, rfl, by decide, wX10, rfl, tg_4 199 (by decide +kernel) rfl⟩
theorem fX10_60 : FL RX10 60 10 27 := ⟨TX10, 35, rfl, by decide, wX10, rfl, tg_4 200 (by decide +kernel) rfl⟩
theorem fX10_63 : FL RX10 63 10 28 := ⟨TX10, 35, rfl, by decide, wX10, rfl, tg_4 201 (by decide +kernel) rfl⟩
theorem fX10_169 : FL RX10 169 10 29 := ⟨TX10, 35, rfl, by decide, wX10, rfl, tg_4 202 (by decide +kernel) rfl⟩
theorem pX10_169 : FP RX10 169 10 29 := ⟨TX10, 35, tyX10, rfl, by decide, wX10, rfl, tg_4 202 (by decide +kernel) rfl, tyX10_ok, nmX10, rfl, by decide +kernel⟩
theorem fX10_66 : FL RX10 66 10 30 := ⟨TX10, 35, rfl, by decide, wX10, rfl, tg_4 203 (by decide +kernel) rfl⟩
theorem fX10_69 : FL RX10 69 10 31 := ⟨TX10, 35, rfl, by decide, wX10, rfl, tg_4 204 (by decide +kernel) rfl⟩
theorem fX10_72 : FL RX10 72 10 32 := ⟨TX10, 35, rfl, by decide, wX10, rfl, tg_4 205 (by decide +kernel) rfl⟩
theorem fX10_75 : FL RX10 75 10 33 := ⟨TX10, 35, rfl, by decide, wX10, rfl, tg_4 206 (by decide +kernel) rfl⟩
theorem fX10_78 : FL RX10 78 10 34 := ⟨TX10, 35, rfl, by decide, wX10, rfl, tg_4 207 (by decide +kernel) rfl⟩
theorem nJ0_1059g : Cond.methodLink RJ0 1059 yJ3_checkIndex_8e157 ∈ TG := tg_2 121 (by decide +kernel) rfl
theorem gX7_35 : Cond.methodLink RX7 35 yJ0_length_8abf5 ∈ TG := tg_2 91 (by decide +kernel) rfl
theorem gX7_44 : Cond.methodLink RX7 44 yJ0_charAt_5068e ∈ TG := tg_2 105 (by decide +kernel) rfl
theorem gJ0_335 : Cond.methodLink RJ0 335 yJ0_coder_7d493 ∈ TG := tg_2 95 (by decide +kernel) rfl
theorem gJ0_492 : Cond.methodLink RJ0 492 yJ0_isLatin1_aae02 ∈ TG := tg_2 109 (by decide +kernel) rfl
end
section
/-! THE MACHINE LAYER, part b: the judgement G of a frame, and Call of a method -/
def stx (i : Nat) : String := ["row", "way", "rank", "most", "pull"].getD i ""
def sidx (i : Nat) : Nat := [42, 57, 63, 65, 71].getD i 0
def sbyt : List (List Int32) := [[114, 111, 119], [119, 97, 121], [114, 97, 110, 107], [109, 111, 115, 116], [112, 117, 108, 108]]
def slen : List Nat := [3, 3, 4, 4, 4]
/-- what is taken as given of String constants and statics, all outside A -/
def SF (α : Nat → Nat) (A : Nat → Prop) (U : State) (H : Heap) : Prop :=
  vk_S 5 slen sbyt (fun i => α (1000 + i)) (fun i => α (1010 + i)) A U H ∧ (∀ i : Nat, i < 5 → vk_R RX4 (sidx i) (stx i) (α (1000 + i)) U) ∧ va_Z RJ0 "COMPACT_STRINGS" "Z" (.int 1) A U H ∧ va_Zq RJ3 "SIOOBE_FORMATTER" "Ljava/util/function/BiFunction;" A U H ∧ ∀ (own : String) (idx : Nat) (y : MethodName) (host : String), Cond.methodLinkNest own idx y host ∈ tables_1 → va_Nw (.methodLinkNest own idx y host) U
theorem SF.kept {α : Nat → Nat} {A : Nat → Prop} {U : State} {H H1 : Heap} (h : SF α A U H) (hq : ∀ a : Nat, a < H.size → ¬ A a → H1[a]? = H[a]?) : SF α A U H1 := ⟨h.1.kept hq, h.2.1, h.2.2.1.kept hq, h.2.2.2.1.kept hq, h.2.2.2.2⟩
theorem SF.narrow {α : Nat → Nat} {A B : Nat → Prop} {U : State} {H : Heap} (h : SF α A U H) (hAB : ∀ q, B q → A q) : SF α B U H := ⟨h.1.narrow hAB, h.2.1, h.2.2.1.narrow hAB, h.2.2.2.1.narrow hAB, h.2.2.2.2⟩
theorem SF.warm {α : Nat → Nat} {A : Nat → Prop} {s U : State} {H : Heap} (hW : s.WarmedH U.vm) (h : SF α A s H) : SF α A U H := ⟨h.1.moved hW.alike, fun i hi => (h.2.1 i hi).warm hW, h.2.2.1.moved hW.alike, h.2.2.2.1.moved hW.alike, fun a b c d e => (h.2.2.2.2 a b c d e).warmM hW⟩
theorem SF.same {α : Nat → Nat} {A : Nat → Prop} {s U : State} {H : Heap} (hv : U.vm = s.vm) (h : SF α A s H) : SF α A U H := ⟨h.1.moved (by rw [hv]; exact Vm.Alike.refl _), fun i hi => (h.2.1 i hi).same hv, h.2.2.1.moved (by rw [hv]; exact Vm.Alike.refl _), h.2.2.2.1.moved (by rw [hv]; exact Vm.Alike.refl _), fun a b c d e => (h.2.2.2.2 a b c d e).same rfl hv.symm⟩
def AA (α : Nat → Nat) (sz : Nat) : Nat → Prop := fun q => (∃ i, i < SHL.length ∧ q = α i) ∨ sz ≤ q
def inj (α : Nat → Nat) : Prop := ∀ i j, i < SHL.length → j < SHL.length → α i = α j → i = j
theorem wd_D {α : Nat → Nat} {cA : Nat → ClassId} {M : Mem} {A : Nat → Prop} (h1 : inj α) (h2 : ∀ i, i < SHL.length → A (α i)) : va_D A (wd α cA M) := by
  have key : ∀ (i : Nat) (p : Nat × va_E), (wd α cA M)[i]? = some p → i < SHL.length ∧ p.1 = α i := fun i p h => by
    simp only [wd, List.getElem?_mapIdx] at h
    cases hs : SHL[i]? with
    | none => rw [hs] at h; cases h
    | some r =>
      rw [hs] at h
      cases h
      exact ⟨(List.getElem?_eq_some_iff.mp hs).1, rfl⟩
  refine ⟨fun i j p q hp hq e => ?_, fun k q hk => ?_⟩
  · obtain ⟨a1, a2⟩ := key i p hp
    obtain ⟨b1, b2⟩ := key j q hq
    exact h1 i j a1 b1 (by rw [← a2, ← b2, e])
  · obtain ⟨a1, a2⟩ := key k q hk
    rw [a2]
    exact h2 k a1
/-- what a method's answer looks like on the machine -/
def outv (α : Nat → Nat) (ret : Option FieldType) (r : AV) : Option Value := match ret with
  | none => none
  | some _ => some (cv α r)
/-- what stands on the caller's stack behind it -/
def outs (ret : Option FieldType) (r : AV) : List AV := match ret with
  | none => []
  | some _ => [r]
theorem outs_map {α : Nat → Nat} {ret : Option FieldType} {r : AV} : (outs ret r).map (cv α) = (outv α ret r).toList := by
  cases ret <;> rfl
abbrev rmD (d : Nat) : Room := { frames := d, cells := 0, slots := 0, locals := 36 * d }
def QcM (α : Nat → Nat) (D : va_G) (cA : Nat → ClassId) (ret : Option FieldType) (Q : AV → Mem → Prop) (A : Nat → Prop) : Array Value → State → Outcome → State → Prop := fun _ st oc t =>
  (∃ (r : AV) (M : Mem), oc = .returned (outv α ret r) ∧ Q r M ∧ va_P D vwCl (wd α cA M) t.heap) ∧ va_F A st t
def PcM (α : Nat → Nat) (D : va_G) (cA : Nat → ClassId) (As : List AV) (M : Mem) (sz : Nat) : Array Value → State → Prop := va_Pc (As.map (cv α)) (fun U => U.heap.size = sz ∧ va_P D vwCl (wd α cA M) U.heap ∧ va_K D vwCl (tyL cA) U ∧ SF α (AA α sz) U U.heap ∧ inj α)
/-- method μ, called with As over the memory M, within d frames: it returns, and its answer and the memory then are as Q says -/
def Call (l : Launch) (α : Nat → Nat) (D : va_G) (cA : Nat → ClassId) (μ : MI) (d : Nat) (As : List AV) (M : Mem) (Q : AV → Mem → Prop) : Prop :=
  ∀ sz, Met l μ.1 (wsM μ) (rmD d) (PcM α D cA As M sz) (QcM α D cA μ.2.2.2.1 Q (AA α sz)) 0 0 (AA α sz)
/-- locals: none is one of which nothing is known -/
def LH (α : Nat → Nat) (ls : Array Slot) (nL : Nat) (L : List (Option AV)) : Prop := ls.size = nL ∧ lv_wf ls ∧ L.length = nL ∧ ∀ (i : Nat) (v : AV), L[i]? = some (some v) → ls[i]? = some (.val (cv α v))
def RetAt (cc : ByteArray) (pc : Nat) (ret : Option FieldType) (r : AV) : Prop := match ret with
  | none => decode cc pc = .ok (.return_, 1)
  | some ty => (decode cc pc = .ok (.ireturn, 1) ∧ ∃ v : Int32, r = .inl v ∧ narrow ty (.int v) = .int v) ∨ (decode cc pc = .ok (.areturn, 1) ∧ ((∃ n, ty = .object n) ∨ ∃ t, ty = .array t) ∧ ∃ j : Nat, r = .inr j)
/-- what is fixed in a frame: the machine, the method, its room within d frames, the script (if it is the law's), and where its end is -/
def CX (l : Launch) (α : Nat → Nat) (D : va_G) (cA : Nat → ClassId) (μ : MI) (sc : Option (Nat × (Nat → Int32))) (d : Nat) (Q : AV → Mem → Prop) (p : Program) (e : Env) (s : State) (m : MethodId) (args : Array Value) (below : List Frame) (meth : Method) (c : Code) (A : Nat → Prop) (cells slots : Nat) (R : Room) (Qf : State → Prop) : Prop :=
  (p.tables.exec = Jvm.exec ∧ c.code = μ.2.1 ∧ c.maxLocals = μ.2.2.1 ∧ s.vm.findClass μ.1.cls = some m.cls ∧ ∀ w ∈ TG, w.before args s = true) ∧
  va_K D vwCl (tyL cA) s ∧ inj α ∧ (∀ i, i < SHL.length → A (α i)) ∧ (∀ q, s.heap.size ≤ q → A q) ∧ SF α A s s.heap ∧ (d ≤ R.frames ∧ 36 * d ≤ R.locals ∧ cells ≤ R.cells ∧ slots ≤ R.slots) ∧
  (∀ (L : Nat) (xs : Nat → Int32), sc = some (L, xs) → va_X (α 999) L xs s s.heap ∧ α 999 < s.heap.size ∧ ¬ A (α 999)) ∧
  ∀ (r : AV) (M : Mem) (H : Heap) (locs : List Loc) (pc : Nat) (ls : Array Slot), Q r M → RetAt μ.2.1 pc μ.2.2.2.1 r → va_P D vwCl (wd α cA M) H → va_S A s.heap H locs → W p l e R s m args below meth c H locs cells slots Qf (F0 m pc ls (outv α μ.2.2.2.1 r).toList)
def G (l : Launch) (α : Nat → Nat) (D : va_G) (cA : Nat → ClassId) (μ : MI) (sc : Option (Nat × (Nat → Int32))) (d : Nat) (Q : AV → Mem → Prop) (pc : Nat) (L : List (Option AV)) (S : List AV) (M : Mem) : Prop :=
  ∀ (p : Program) (e : Env) (s : State) (m : MethodId) (args : Array Value) (below : List Frame) (meth : Method) (c : Code) (A : Nat → Prop) (cells slots : Nat) (R : Room) (Qf : State → Prop), CX l α D cA μ sc d Q p e s m args below meth c A cells slots R Qf →
    ∀ (H : Heap) (locs : List Loc) (ls : Array Slot), va_P D vwCl (wd α cA M) H → va_S A s.heap H locs → LH α ls μ.2.2.1 L → W p l e R s m args below meth c H locs cells slots Qf (F0 m pc ls (S.map (cv α)))
section GJ
variable {l : Launch} {α : Nat → Nat} {D : va_G} {cA : Nat → ClassId} {μ ν : MI} {sc : Option (Nat × (Nat → Int32))} {d : Nat} {Q : AV → Mem → Prop} {pc : Nat} {L : List (Option AV)} {S : List AV} {M : Mem}
theorem lv_args_get {α : Nat → Nat} : ∀ (As : List AV) (k i : Nat) (v : AV), As[i]? = some v → (k + i, cv α v) ∈ lv_args k (As.map (cv α))
  | [], _, _, _, h => by simp at h
  | a :: As, k, 0, v, h => by
    simp at h
    subst h
    exact List.mem_cons_self
  | a :: As, k, i + 1, v, h => by
    have hc : (cv α a).category = 1 := by cases a <;> rfl
    have h2 := lv_args_get (α := α) As (k + 1) i v (by simpa using h)
    show _ ∈ (k, cv α a) :: lv_args (if (cv α a).category = 2 then k + 2 else k + 1) (As.map (cv α))
    rw [hc]
    refine List.mem_cons_of_mem _ ?_
    rw [show k + (i + 1) = k + 1 + i by omega]
    exact h2
theorem lg_sl_len {α : Nat → Nat} : ∀ (As : List AV), (lg_sl (As.map (cv α))).length = As.length
  | [] => rfl
  | a :: As => by
    have hc : (cv α a).category = 1 := by cases a <;> rfl
    have h := lg_sl_len (α := α) As
    show ((if (cv α a).category = 2 then [Slot.val (cv α a), .second] else [Slot.val (cv α a)]) ++ lg_sl (As.map (cv α))).length = As.length + 1
    rw [hc, if_neg (by decide), List.length_append, h]
    show 1 + As.length = _
    omega
theorem AA_lt {α : Nat → Nat} {sz q : Nat} (h : sz ≤ q) : AA α sz q := Or.inr h
/-- a method's contract out of its body -/
theorem Call.of {As : List AV} {Q : AV → Mem → Prop} (hk : MK μ) (hl : As.length ≤ μ.2.2.1) (h : G l α D cA μ none d Q 0 (As.map some ++ List.replicate (μ.2.2.1 - As.length) none) [] M) : Call l α D cA μ d As M Q := by
  intro sz
  refine Met.ofW (cc := μ.2.1) (maxL := μ.2.2.1) (ret := μ.2.2.2.1) hk.2.2.2.1 rfl ?_
  intro p e s m args below meth c s₁ B hml hv
  obtain ⟨rfl, hsz, hP, hK, hF, hi⟩ := hv
  have hts : ∀ w ∈ wsM μ, w.before _ s = true := atoms_spec (ws := wsM μ) B.pre
  have hown : s.vm.findClass μ.1.cls = some m.cls := findClass_of_methodNamed B.named
  have hr : meth.sig.returnType = μ.2.2.2.1 := B.returns
  have hlocks := B.notSynchronized
  have hx := B.exec
  have hb := B.bytes
  subst hsz
  have hlv := lv_entry (As.map (cv α)) (n := μ.2.2.1) (by rw [lg_sl_len]; exact hl)
  rw [lg_entry_eq]
  generalize (lg_sl (As.map (cv α)) ++ List.replicate (μ.2.2.1 - (lg_sl (As.map (cv α))).length) Slot.unset).toArray = ls at hlv ⊢
  refine h p e s m _ below meth c (AA α s.heap.size) 0 0 (rmD d) _ ?_ s.heap [] ls hP va_S.rf ?_
  · refine ⟨⟨hx, hb, hml, hown, wsM_tg hts⟩, hK, hi, fun i h => Or.inl ⟨i, h, rfl⟩, fun q h => Or.inr h, hF, ⟨Nat.le_refl _, Nat.le_refl _, Nat.le_refl _, Nat.le_refl _⟩, (fun _ _ h => by cases h), ?_⟩
    intro r M' H locs pc ls hq hret hP' hS'
    have hQ : ∀ t : State, t.heap = H → QcM α D cA μ.2.2.2.1 Q (AA α s.heap.size) (As.map (cv α)).toArray s (.returned (outv α μ.2.2.2.1 r)) t := fun t ht => ⟨⟨r, M', rfl, hq, by rw [ht]; exact hP'⟩, hS'.F ht⟩
    generalize hrt : μ.2.2.2.1 = rt at hr hret hQ
    cases rt with
    | none => exact W.vret hx hb hr (fun t ht _ => hQ t ht) hS'.2.2 hret
    | some ty =>
      rcases hret with ⟨h1, v, rfl, h2⟩ | ⟨h1, h2, j, rfl⟩
      · exact W.zret hx hb hr h2 (fun t ht _ => hQ t ht) hS'.2.2 h1
      · exact W.aret hx hb hr h2 (Or.inr ⟨_, rfl⟩) (fun t ht _ => hQ t ht) hS'.2.2 h1
  · refine ⟨hlv.1, hlv.2.1, by simp; omega, fun i v hv => ?_⟩
    have hi2 : As[i]? = some v := by
      by_cases hlt : i < As.length
      · rw [List.getElem?_append_left (by simpa using hlt)] at hv
        simpa using hv
      · rw [List.getElem?_append_right (by simpa using hlt)] at hv
        rw [List.getElem?_replicate] at hv
        split at hv <;> simp at hv
    have := lv_args_get (α := α) As 0 i v hi2
    exact hlv.2.2 _ (by simpa using this)
theorem Call.mono {As : List AV} {Q Q' : AV → Mem → Prop} (h : Call l α D cA μ d As M Q) (hq : ∀ r M', Q r M' → Q' r M') : Call l α D cA μ d As M Q' := by
  intro sz p e ha hc hk s m args below hf hfit hP hw
  obtain ⟨t, o, h1, h2, h3, ⟨⟨⟨r, M', e1, e2, e3⟩, e4⟩, e5⟩⟩ := h sz p e ha hc hk s m args below hf hfit hP hw
  exact ⟨t, o, h1, h2, h3, ⟨⟨⟨r, M', e1, hq _ _ e2, e3⟩, e4⟩, e5⟩⟩
end GJ
end
section
/-! THE MACHINE LAYER, part c: the rules of G, one an instruction (written by program) -/
section GR
variable {l : Launch} {α : Nat → Nat} {D : va_G} {cA : Nat → ClassId} {μ ν : MI} {sc : Option (Nat × (Nat → Int32))} {d : Nat} {Q : AV → Mem → Prop} {pc : Nat} {L : List (Option AV)} {S : List AV} {M : Mem}
def lvp (α : Nat → Nat) : Nat → List (Option AV) → List (Nat × Value)
  | _, [] => []
  | k, none :: L => lvp α (k + 1) L
  | k, some v :: L => (k, cv α v) :: lvp α (k + 1) L
theorem lvp_mem {α : Nat → Nat} {q : Nat × Value} : ∀ (L : List (Option AV)) (k : Nat), q ∈ lvp α k L ↔ ∃ (j : Nat) (v : AV), q = (k + j, cv α v) ∧ L[j]? = some (some v)
  | [], k => by simp [lvp]
  | none :: L, k => by
    rw [show lvp α k (none :: L) = lvp α (k + 1) L from rfl, lvp_mem L (k + 1)]
    constructor
    · rintro ⟨j, v, rfl, h⟩
      exact ⟨j + 1, v, by rw [show k + 1 + j = k + (j + 1) by omega], by simpa using h⟩
    · rintro ⟨j, v, rfl, h⟩
      cases j with
      | zero => simp at h
      | succ j => exact ⟨j, v, by rw [show k + 1 + j = k + (j + 1) by omega], by simpa using h⟩
  | some u :: L, k => by
    rw [show lvp α k (some u :: L) = (k, cv α u) :: lvp α (k + 1) L from rfl, List.mem_cons, lvp_mem L (k + 1)]
    constructor
    · rintro (rfl | ⟨j, v, rfl, h⟩)
      · exact ⟨0, u, rfl, by simp⟩
      · exact ⟨j + 1, v, by rw [show k + 1 + j = k + (j + 1) by omega], by simpa using h⟩
    · rintro ⟨j, v, rfl, h⟩
      cases j with
      | zero =>
        simp at h
        subst h
        exact Or.inl rfl
      | succ j => exact Or.inr ⟨j, v, by rw [show k + 1 + j = k + (j + 1) by omega], by simpa using h⟩
theorem cv_cat {α : Nat → Nat} (v : AV) : ¬ (cv α v).category = 2 := by cases v <;> (intro h; cases h)
theorem LH.has {ls : Array Slot} {nL : Nat} (h : LH α ls nL L) : lv_has ls nL (lvp α 0 L) := ⟨h.1, h.2.1, fun q hq => by
  obtain ⟨j, v, rfl, h2⟩ := (lvp_mem L 0).mp hq
  simpa using h.2.2.2 j v h2⟩
theorem LH.to {ls ls' : Array Slot} {nL i : Nat} {v : AV} (h : LH α ls nL L) (h2 : lv_has ls' nL ((i, cv α v) :: (lvp α 0 L).filter (fun q => !(q.1 == i) && !(q.1 + 1 == i && q.2.category == 2)))) : LH α ls' nL (L.set i (some v)) := by
  refine ⟨h2.1, h2.2.1, by simp [h.2.2.1], fun j u hu => ?_⟩
  rw [List.getElem?_set] at hu
  by_cases hj : i = j
  · subst hj
    rw [if_pos rfl] at hu
    split at hu
    · simp at hu
      subst hu
      exact h2.2.2 _ List.mem_cons_self
    · cases hu
  · rw [if_neg hj] at hu
    have := h2.2.2 (j, cv α u) (List.mem_cons_of_mem _ (List.mem_filter.mpr ⟨(lvp_mem L 0).mpr ⟨j, u, by simp, hu⟩, by
      have hc := cv_cat (α := α) u
      simp [Ne.symm hj, hc]⟩))
    exact this
theorem LH.at {ls : Array Slot} {nL i : Nat} {v : AV} (h : LH α ls nL L) (hi : L[i]? = some (some v)) : ls[i]? = some (.val (cv α v)) := h.2.2.2 i v hi
theorem LH.lt {ls : Array Slot} {nL i : Nat} (h : LH α ls nL L) (hi : i < L.length) : i < nL := by rw [← h.2.2.1]; exact hi
theorem G_iconst {n : Int} {v : Int32} (hd : decode μ.2.1 pc = .ok (.iconst n, 1)) (hv : Int32.ofInt n = v) (kk : G l α D cA μ sc d Q (pc + 1) L (.inl v :: S) M) : G l α D cA μ sc d Q pc L S M := by
  intro p e s m args below meth c A cells slots R Qf C H locs ls hP hS hL
  exact lv_iconst C.1.1 C.1.2.1 hd hv (kk p e s m args below meth c A cells slots R Qf C H locs ls hP hS hL)
theorem G_bipush {n : Int} {v : Int32} (hd : decode μ.2.1 pc = .ok (.bipush n, 2)) (hv : (Int8.ofInt n).toInt32 = v) (kk : G l α D cA μ sc d Q (pc + 2) L (.inl v :: S) M) : G l α D cA μ sc d Q pc L S M := by
  intro p e s m args below meth c A cells slots R Qf C H locs ls hP hS hL
  exact lv_bipush C.1.1 C.1.2.1 hd hv (kk p e s m args below meth c A cells slots R Qf C H locs ls hP hS hL)
theorem G_sipush {n : Int} {v : Int32} (hd : decode μ.2.1 pc = .ok (.sipush n, 3)) (hv : (Int16.ofInt n).toInt32 = v) (kk : G l α D cA μ sc d Q (pc + 3) L (.inl v :: S) M) : G l α D cA μ sc d Q pc L S M := by
  intro p e s m args below meth c A cells slots R Qf C H locs ls hP hS hL
  exact lv_sipush C.1.1 C.1.2.1 hd hv (kk p e s m args below meth c A cells slots R Qf C H locs ls hP hS hL)
theorem G_iload_n {k : Fin 4} {i : Nat} {x : Int32} (hd : decode μ.2.1 pc = .ok (.iload_n k, 1)) (hi : (k : Nat) = i) (hl : L[i]? = some (some (.inl x))) (kk : G l α D cA μ sc d Q (pc + 1) L (.inl x :: S) M) : G l α D cA μ sc d Q pc L S M := by
  intro p e s m args below meth c A cells slots R Qf C H locs ls hP hS hL
  exact lv_iload_n C.1.1 C.1.2.1 hd hi (hL.at hl) (kk p e s m args below meth c A cells slots R Qf C H locs ls hP hS hL)
theorem G_iload {i : Nat} {x : Int32} (hd : decode μ.2.1 pc = .ok (.iload i, 2)) (hl : L[i]? = some (some (.inl x))) (kk : G l α D cA μ sc d Q (pc + 2) L (.inl x :: S) M) : G l α D cA μ sc d Q pc L S M := by
  intro p e s m args below meth c A cells slots R Qf C H locs ls hP hS hL
  exact lv_iload C.1.1 C.1.2.1 hd (hL.at hl) (kk p e s m args below meth c A cells slots R Qf C H locs ls hP hS hL)
theorem G_aload_n {k : Fin 4} {i : Nat} {x : Nat} (hd : decode μ.2.1 pc = .ok (.aload_n k, 1)) (hi : (k : Nat) = i) (hl : L[i]? = some (some (.inr x))) (kk : G l α D cA μ sc d Q (pc + 1) L (.inr x :: S) M) : G l α D cA μ sc d Q pc L S M := by
  intro p e s m args below meth c A cells slots R Qf C H locs ls hP hS hL
  exact lv_aload_n C.1.1 C.1.2.1 hd hi (hL.at hl) (kk p e s m args below meth c A cells slots R Qf C H locs ls hP hS hL)
theorem G_aload {i : Nat} {x : Nat} (hd : decode μ.2.1 pc = .ok (.aload i, 2)) (hl : L[i]? = some (some (.inr x))) (kk : G l α D cA μ sc d Q (pc + 2) L (.inr x :: S) M) : G l α D cA μ sc d Q pc L S M := by
  intro p e s m args below meth c A cells slots R Qf C H locs ls hP hS hL
  exact lv_aload C.1.1 C.1.2.1 hd (hL.at hl) (kk p e s m args below meth c A cells slots R Qf C H locs ls hP hS hL)
theorem G_istore_n {k : Fin 4} {i : Nat} {x : Int32} {L2 : List (Option AV)} (hd : decode μ.2.1 pc = .ok (.istore_n k, 1)) (hi : (k : Nat) = i) (hn : i < L.length) (hl : L.set i (some (.inl x)) = L2) (kk : G l α D cA μ sc d Q (pc + 1) L2 S M) : G l α D cA μ sc d Q pc L (.inl x :: S) M := by
  subst hl
  intro p e s m args below meth c A cells slots R Qf C H locs ls hP hS hL
  exact lv_istore_n C.1.1 C.1.2.1 hd hi hL.has (hL.lt hn) rfl (fun ls2 h2 => kk p e s m args below meth c A cells slots R Qf C H locs ls2 hP hS (hL.to (v := .inl x) h2))
theorem G_istore {i : Nat} {x : Int32} {L2 : List (Option AV)} (hd : decode μ.2.1 pc = .ok (.istore i, 2)) (hn : i < L.length) (hl : L.set i (some (.inl x)) = L2) (kk : G l α D cA μ sc d Q (pc + 2) L2 S M) : G l α D cA μ sc d Q pc L (.inl x :: S) M := by
  subst hl
  intro p e s m args below meth c A cells slots R Qf C H locs ls hP hS hL
  exact lv_istore C.1.1 C.1.2.1 hd  hL.has (hL.lt hn) rfl (fun ls2 h2 => kk p e s m args below meth c A cells slots R Qf C H locs ls2 hP hS (hL.to (v := .inl x) h2))
theorem G_astore_n {k : Fin 4} {i : Nat} {x : Nat} {L2 : List (Option AV)} (hd : decode μ.2.1 pc = .ok (.astore_n k, 1)) (hi : (k : Nat) = i) (hn : i < L.length) (hl : L.set i (some (.inr x)) = L2) (kk : G l α D cA μ sc d Q (pc + 1) L2 S M) : G l α D cA μ sc d Q pc L (.inr x :: S) M := by
  subst hl
  intro p e s m args below meth c A cells slots R Qf C H locs ls hP hS hL
  exact lv_astore_n C.1.1 C.1.2.1 hd hi hL.has (hL.lt hn) rfl (fun ls2 h2 => kk p e s m args below meth c A cells slots R Qf C H locs ls2 hP hS (hL.to (v := .inr x) h2))
theorem G_astore {i : Nat} {x : Nat} {L2 : List (Option AV)} (hd : decode μ.2.1 pc = .ok (.astore i, 2)) (hn : i < L.length) (hl : L.set i (some (.inr x)) = L2) (kk : G l α D cA μ sc d Q (pc + 2) L2 S M) : G l α D cA μ sc d Q pc L (.inr x :: S) M := by
  subst hl
  intro p e s m args below meth c A cells slots R Qf C H locs ls hP hS hL
  exact lv_astore C.1.1 C.1.2.1 hd  hL.has (hL.lt hn) rfl (fun ls2 h2 => kk p e s m args below meth c A cells slots R Qf C H locs ls2 hP hS (hL.to (v := .inr x) h2))
theorem G_iinc {i : Nat} {n : Int} {x v : Int32} {L2 : List (Option AV)} (hd : decode μ.2.1 pc = .ok (.iinc i n, 3)) (hg : L[i]? = some (some (.inl x))) (hv : x + Int32.ofInt n = v) (hl : L.set i (some (.inl v)) = L2) (kk : G l α D cA μ sc d Q (pc + 3) L2 S M) : G l α D cA μ sc d Q pc L S M := by
  subst hl
  intro p e s m args below meth c A cells slots R Qf C H locs ls hP hS hL
  obtain ⟨k, hk⟩ := List.getElem?_of_mem ((lvp_mem (α := α) (q := (i, cv α (.inl x))) L 0).mpr ⟨i, .inl x, by simp, hg⟩)
  exact lv_iinc (k := k) C.1.1 C.1.2.1 hd hL.has hk hv (hL.lt (List.getElem?_eq_some_iff.mp hg).1) rfl (fun ls2 h2 => kk p e s m args below meth c A cells slots R Qf C H locs ls2 hP hS (hL.to (v := .inl v) h2))
theorem G_iadd {x y v : Int32} (hd : decode μ.2.1 pc = .ok (.iadd, 1)) (hv : x + y = v) (kk : G l α D cA μ sc d Q (pc + 1) L (.inl v :: S) M) : G l α D cA μ sc d Q pc L (.inl y :: .inl x :: S) M := by
  intro p e s m args below meth c A cells slots R Qf C H locs ls hP hS hL
  subst hv
  exact lv_iadd C.1.1 C.1.2.1 hd (kk p e s m args below meth c A cells slots R Qf C H locs ls hP hS hL)
theorem G_isub {x y v : Int32} (hd : decode μ.2.1 pc = .ok (.isub, 1)) (hv : x - y = v) (kk : G l α D cA μ sc d Q (pc + 1) L (.inl v :: S) M) : G l α D cA μ sc d Q pc L (.inl y :: .inl x :: S) M := by
  intro p e s m args below meth c A cells slots R Qf C H locs ls hP hS hL
  subst hv
  exact lv_isub C.1.1 C.1.2.1 hd (kk p e s m args below meth c A cells slots R Qf C H locs ls hP hS hL)
theorem G_imul {x y v : Int32} (hd : decode μ.2.1 pc = .ok (.imul, 1)) (hv : x * y = v) (kk : G l α D cA μ sc d Q (pc + 1) L (.inl v :: S) M) : G l α D cA μ sc d Q pc L (.inl y :: .inl x :: S) M := by
  intro p e s m args below meth c A cells slots R Qf C H locs ls hP hS hL
  subst hv
  exact lv_imul C.1.1 C.1.2.1 hd (kk p e s m args below meth c A cells slots R Qf C H locs ls hP hS hL)
theorem G_iand {x y v : Int32} (hd : decode μ.2.1 pc = .ok (.iand, 1)) (hv : x &&& y = v) (kk : G l α D cA μ sc d Q (pc + 1) L (.inl v :: S) M) : G l α D cA μ sc d Q pc L (.inl y :: .inl x :: S) M := by
  intro p e s m args below meth c A cells slots R Qf C H locs ls hP hS hL
  subst hv
  exact lv_iand C.1.1 C.1.2.1 hd (kk p e s m args below meth c A cells slots R Qf C H locs ls hP hS hL)
theorem G_ior {x y v : Int32} (hd : decode μ.2.1 pc = .ok (.ior, 1)) (hv : x ||| y = v) (kk : G l α D cA μ sc d Q (pc + 1) L (.inl v :: S) M) : G l α D cA μ sc d Q pc L (.inl y :: .inl x :: S) M := by
  intro p e s m args below meth c A cells slots R Qf C H locs ls hP hS hL
  subst hv
  exact lv_ior C.1.1 C.1.2.1 hd (kk p e s m args below meth c A cells slots R Qf C H locs ls hP hS hL)
theorem G_ixor {x y v : Int32} (hd : decode μ.2.1 pc = .ok (.ixor, 1)) (hv : x ^^^ y = v) (kk : G l α D cA μ sc d Q (pc + 1) L (.inl v :: S) M) : G l α D cA μ sc d Q pc L (.inl y :: .inl x :: S) M := by
  intro p e s m args below meth c A cells slots R Qf C H locs ls hP hS hL
  subst hv
  exact lv_ixor C.1.1 C.1.2.1 hd (kk p e s m args below meth c A cells slots R Qf C H locs ls hP hS hL)
theorem G_ishl {x y v : Int32} (hd : decode μ.2.1 pc = .ok (.ishl, 1)) (hv : x <<< (y &&& 31) = v) (kk : G l α D cA μ sc d Q (pc + 1) L (.inl v :: S) M) : G l α D cA μ sc d Q pc L (.inl y :: .inl x :: S) M := by
  intro p e s m args below meth c A cells slots R Qf C H locs ls hP hS hL
  subst hv
  exact lv_ishl C.1.1 C.1.2.1 hd (kk p e s m args below meth c A cells slots R Qf C H locs ls hP hS hL)
theorem G_ishr {x y v : Int32} (hd : decode μ.2.1 pc = .ok (.ishr, 1)) (hv : x >>> (y &&& 31) = v) (kk : G l α D cA μ sc d Q (pc + 1) L (.inl v :: S) M) : G l α D cA μ sc d Q pc L (.inl y :: .inl x :: S) M := by
  intro p e s m args below meth c A cells slots R Qf C H locs ls hP hS hL
  subst hv
  exact lv_ishr C.1.1 C.1.2.1 hd (kk p e s m args below meth c A cells slots R Qf C H locs ls hP hS hL)
theorem G_idiv {x y v : Int32} (hd : decode μ.2.1 pc = .ok (.idiv, 1)) (hne : ¬ y = 0) (hv : x / y = v) (kk : G l α D cA μ sc d Q (pc + 1) L (.inl v :: S) M) : G l α D cA μ sc d Q pc L (.inl y :: .inl x :: S) M := by
  intro p e s m args below meth c A cells slots R Qf C H locs ls hP hS hL
  subst hv
  exact lv_idiv C.1.1 C.1.2.1 hd hne (kk p e s m args below meth c A cells slots R Qf C H locs ls hP hS hL)
theorem G_irem {x y v : Int32} (hd : decode μ.2.1 pc = .ok (.irem, 1)) (hne : ¬ y = 0) (hv : x - x / y * y = v) (kk : G l α D cA μ sc d Q (pc + 1) L (.inl v :: S) M) : G l α D cA μ sc d Q pc L (.inl y :: .inl x :: S) M := by
  intro p e s m args below meth c A cells slots R Qf C H locs ls hP hS hL
  subst hv
  exact lv_irem C.1.1 C.1.2.1 hd hne (kk p e s m args below meth c A cells slots R Qf C H locs ls hP hS hL)
theorem G_i2b {x v : Int32} (hd : decode μ.2.1 pc = .ok (.i2b, 1)) (hv : x.toInt8.toInt32 = v) (kk : G l α D cA μ sc d Q (pc + 1) L (.inl v :: S) M) : G l α D cA μ sc d Q pc L (.inl x :: S) M := by
  intro p e s m args below meth c A cells slots R Qf C H locs ls hP hS hL
  exact lv_i2b C.1.1 C.1.2.1 hd hv (kk p e s m args below meth c A cells slots R Qf C H locs ls hP hS hL)
theorem G_i2c {x v : Int32} (hd : decode μ.2.1 pc = .ok (.i2c, 1)) (hv : (x.toUInt32 % 65536).toInt32 = v) (kk : G l α D cA μ sc d Q (pc + 1) L (.inl v :: S) M) : G l α D cA μ sc d Q pc L (.inl x :: S) M := by
  intro p e s m args below meth c A cells slots R Qf C H locs ls hP hS hL
  exact lv_i2c C.1.1 C.1.2.1 hd hv (kk p e s m args below meth c A cells slots R Qf C H locs ls hP hS hL)
theorem G_dup {x : AV} (hd : decode μ.2.1 pc = .ok (.dup, 1)) (kk : G l α D cA μ sc d Q (pc + 1) L (x :: x :: S) M) : G l α D cA μ sc d Q pc L (x :: S) M := by
  intro p e s m args below meth c A cells slots R Qf C H locs ls hP hS hL
  exact lv_dup C.1.1 C.1.2.1 hd (by cases x <;> rfl) (kk p e s m args below meth c A cells slots R Qf C H locs ls hP hS hL)
theorem G_pop {x : AV} (hd : decode μ.2.1 pc = .ok (.pop, 1)) (kk : G l α D cA μ sc d Q (pc + 1) L S M) : G l α D cA μ sc d Q pc L (x :: S) M := by
  intro p e s m args below meth c A cells slots R Qf C H locs ls hP hS hL
  exact lv_pop C.1.1 C.1.2.1 hd (by cases x <;> rfl) (kk p e s m args below meth c A cells slots R Qf C H locs ls hP hS hL)
theorem G_dup2 {x y : AV} (hd : decode μ.2.1 pc = .ok (.dup2, 1)) (kk : G l α D cA μ sc d Q (pc + 1) L (x :: y :: x :: y :: S) M) : G l α D cA μ sc d Q pc L (x :: y :: S) M := by
  intro p e s m args below meth c A cells slots R Qf C H locs ls hP hS hL
  exact lv_dup2_11 C.1.1 C.1.2.1 hd (by cases x <;> rfl) (by cases y <;> rfl) (kk p e s m args below meth c A cells slots R Qf C H locs ls hP hS hL)
theorem G_goto {off : Int} {tgt : Nat} (hd : decode μ.2.1 pc = .ok (.goto off, 3)) (ht : (pc : Int) + off = (tgt : Int)) (kk : G l α D cA μ sc d Q tgt L S M) : G l α D cA μ sc d Q pc L S M := by
  intro p e s m args below meth c A cells slots R Qf C H locs ls hP hS hL
  exact lv_goto C.1.1 C.1.2.1 hd ht (kk p e s m args below meth c A cells slots R Qf C H locs ls hP hS hL)
theorem G_ifnull {off : Int} {x : Nat} (hd : decode μ.2.1 pc = .ok (.ifnull off, 3)) (kk : G l α D cA μ sc d Q (pc + 3) L S M) : G l α D cA μ sc d Q pc L (.inr x :: S) M := by
  intro p e s m args below meth c A cells slots R Qf C H locs ls hP hS hL
  exact lv_ifnull C.1.1 C.1.2.1 hd (kk p e s m args below meth c A cells slots R Qf C H locs ls hP hS hL)
theorem G_if_eq {x : Int32} {off : Int} {tgt : Nat} (hd : decode μ.2.1 pc = .ok (.ifCond .eq off, 3)) (ht : (pc : Int) + off = (tgt : Int)) (kt : x = 0 → G l α D cA μ sc d Q tgt L S M) (kf : ¬ x = 0 → G l α D cA μ sc d Q (pc + 3) L S M) : G l α D cA μ sc d Q pc L (.inl x :: S) M := by
  intro p e s m args below meth c A cells slots R Qf C H locs ls hP hS hL
  exact lv_if_eq C.1.1 C.1.2.1 hd ht (fun h => kt h p e s m args below meth c A cells slots R Qf C H locs ls hP hS hL) (fun h => kf h p e s m args below meth c A cells slots R Qf C H locs ls hP hS hL)
theorem G_icmp_eq {x y : Int32} {off : Int} {tgt : Nat} (hd : decode μ.2.1 pc = .ok (.if_icmp .eq off, 3)) (ht : (pc : Int) + off = (tgt : Int)) (kt : x = y → G l α D cA μ sc d Q tgt L S M) (kf : ¬ x = y → G l α D cA μ sc d Q (pc + 3) L S M) : G l α D cA μ sc d Q pc L (.inl y :: .inl x :: S) M := by
  intro p e s m args below meth c A cells slots R Qf C H locs ls hP hS hL
  exact lv_icmp_eq C.1.1 C.1.2.1 hd ht (fun h => kt h p e s m args below meth c A cells slots R Qf C H locs ls hP hS hL) (fun h => kf h p e s m args below meth c A cells slots R Qf C H locs ls hP hS hL)
theorem G_if_ne {x : Int32} {off : Int} {tgt : Nat} (hd : decode μ.2.1 pc = .ok (.ifCond .ne off, 3)) (ht : (pc : Int) + off = (tgt : Int)) (kt : ¬ x = 0 → G l α D cA μ sc d Q tgt L S M) (kf : x = 0 → G l α D cA μ sc d Q (pc + 3) L S M) : G l α D cA μ sc d Q pc L (.inl x :: S) M := by
  intro p e s m args below meth c A cells slots R Qf C H locs ls hP hS hL
  exact lv_if_ne C.1.1 C.1.2.1 hd ht (fun h => kt h p e s m args below meth c A cells slots R Qf C H locs ls hP hS hL) (fun h => kf h p e s m args below meth c A cells slots R Qf C H locs ls hP hS hL)
theorem G_icmp_ne {x y : Int32} {off : Int} {tgt : Nat} (hd : decode μ.2.1 pc = .ok (.if_icmp .ne off, 3)) (ht : (pc : Int) + off = (tgt : Int)) (kt : ¬ x = y → G l α D cA μ sc d Q tgt L S M) (kf : x = y → G l α D cA μ sc d Q (pc + 3) L S M) : G l α D cA μ sc d Q pc L (.inl y :: .inl x :: S) M := by
  intro p e s m args below meth c A cells slots R Qf C H locs ls hP hS hL
  exact lv_icmp_ne C.1.1 C.1.2.1 hd ht (fun h => kt h p e s m args below meth c A cells slots R Qf C H locs ls hP hS hL) (fun h => kf h p e s m args below meth c A cells slots R Qf C H locs ls hP hS hL)
theorem G_if_lt {x : Int32} {off : Int} {tgt : Nat} (hd : decode μ.2.1 pc = .ok (.ifCond .lt off, 3)) (ht : (pc : Int) + off = (tgt : Int)) (kt : x < 0 → G l α D cA μ sc d Q tgt L S M) (kf : ¬ x < 0 → G l α D cA μ sc d Q (pc + 3) L S M) : G l α D cA μ sc d Q pc L (.inl x :: S) M := by
  intro p e s m args below meth c A cells slots R Qf C H locs ls hP hS hL
  exact lv_if_lt C.1.1 C.1.2.1 hd ht (fun h => kt h p e s m args below meth c A cells slots R Qf C H locs ls hP hS hL) (fun h => kf h p e s m args below meth c A cells slots R Qf C H locs ls hP hS hL)
theorem G_icmp_lt {x y : Int32} {off : Int} {tgt : Nat} (hd : decode μ.2.1 pc = .ok (.if_icmp .lt off, 3)) (ht : (pc : Int) + off = (tgt : Int)) (kt : x < y → G l α D cA μ sc d Q tgt L S M) (kf : ¬ x < y → G l α D cA μ sc d Q (pc + 3) L S M) : G l α D cA μ sc d Q pc L (.inl y :: .inl x :: S) M := by
  intro p e s m args below meth c A cells slots R Qf C H locs ls hP hS hL
  exact lv_icmp_lt C.1.1 C.1.2.1 hd ht (fun h => kt h p e s m args below meth c A cells slots R Qf C H locs ls hP hS hL) (fun h => kf h p e s m args below meth c A cells slots R Qf C H locs ls hP hS hL)
theorem G_if_ge {x : Int32} {off : Int} {tgt : Nat} (hd : decode μ.2.1 pc = .ok (.ifCond .ge off, 3)) (ht : (pc : Int) + off = (tgt : Int)) (kt : 0 ≤ x → G l α D cA μ sc d Q tgt L S M) (kf : ¬ 0 ≤ x → G l α D cA μ sc d Q (pc + 3) L S M) : G l α D cA μ sc d Q pc L (.inl x :: S) M := by
  intro p e s m args below meth c A cells slots R Qf C H locs ls hP hS hL
  exact lv_if_ge C.1.1 C.1.2.1 hd ht (fun h => kt h p e s m args below meth c A cells slots R Qf C H locs ls hP hS hL) (fun h => kf h p e s m args below meth c A cells slots R Qf C H locs ls hP hS hL)
theorem G_icmp_ge {x y : Int32} {off : Int} {tgt : Nat} (hd : decode μ.2.1 pc = .ok (.if_icmp .ge off, 3)) (ht : (pc : Int) + off = (tgt : Int)) (kt : y ≤ x → G l α D cA μ sc d Q tgt L S M) (kf : ¬ y ≤ x → G l α D cA μ sc d Q (pc + 3) L S M) : G l α D cA μ sc d Q pc L (.inl y :: .inl x :: S) M := by
  intro p e s m args below meth c A cells slots R Qf C H locs ls hP hS hL
  exact lv_icmp_ge C.1.1 C.1.2.1 hd ht (fun h => kt h p e s m args below meth c A cells slots R Qf C H locs ls hP hS hL) (fun h => kf h p e s m args below meth c A cells slots R Qf C H locs ls hP hS hL)
theorem G_if_gt {x : Int32} {off : Int} {tgt : Nat} (hd : decode μ.2.1 pc = .ok (.ifCond .gt off, 3)) (ht : (pc : Int) + off = (tgt : Int)) (kt : 0 < x → G l α D cA μ sc d Q tgt L S M) (kf : ¬ 0 < x → G l α D cA μ sc d Q (pc + 3) L S M) : G l α D cA μ sc d Q pc L (.inl x :: S) M := by
  intro p e s m args below meth c A cells slots R Qf C H locs ls hP hS hL
  exact lv_if_gt C.1.1 C.1.2.1 hd ht (fun h => kt h p e s m args below meth c A cells slots R Qf C H locs ls hP hS hL) (fun h => kf h p e s m args below meth c A cells slots R Qf C H locs ls hP hS hL)
theorem G_icmp_gt {x y : Int32} {off : Int} {tgt : Nat} (hd : decode μ.2.1 pc = .ok (.if_icmp .gt off, 3)) (ht : (pc : Int) + off = (tgt : Int)) (kt : y < x → G l α D cA μ sc d Q tgt L S M) (kf : ¬ y < x → G l α D cA μ sc d Q (pc + 3) L S M) : G l α D cA μ sc d Q pc L (.inl y :: .inl x :: S) M := by
  intro p e s m args below meth c A cells slots R Qf C H locs ls hP hS hL
  exact lv_icmp_gt C.1.1 C.1.2.1 hd ht (fun h => kt h p e s m args below meth c A cells slots R Qf C H locs ls hP hS hL) (fun h => kf h p e s m args below meth c A cells slots R Qf C H locs ls hP hS hL)
theorem G_if_le {x : Int32} {off : Int} {tgt : Nat} (hd : decode μ.2.1 pc = .ok (.ifCond .le off, 3)) (ht : (pc : Int) + off = (tgt : Int)) (kt : x ≤ 0 → G l α D cA μ sc d Q tgt L S M) (kf : ¬ x ≤ 0 → G l α D cA μ sc d Q (pc + 3) L S M) : G l α D cA μ sc d Q pc L (.inl x :: S) M := by
  intro p e s m args below meth c A cells slots R Qf C H locs ls hP hS hL
  exact lv_if_le C.1.1 C.1.2.1 hd ht (fun h => kt h p e s m args below meth c A cells slots R Qf C H locs ls hP hS hL) (fun h => kf h p e s m args below meth c A cells slots R Qf C H locs ls hP hS hL)
theorem G_icmp_le {x y : Int32} {off : Int} {tgt : Nat} (hd : decode μ.2.1 pc = .ok (.if_icmp .le off, 3)) (ht : (pc : Int) + off = (tgt : Int)) (kt : x ≤ y → G l α D cA μ sc d Q tgt L S M) (kf : ¬ x ≤ y → G l α D cA μ sc d Q (pc + 3) L S M) : G l α D cA μ sc d Q pc L (.inl y :: .inl x :: S) M := by
  intro p e s m args below meth c A cells slots R Qf C H locs ls hP hS hL
  exact lv_icmp_le C.1.1 C.1.2.1 hd ht (fun h => kt h p e s m args below meth c A cells slots R Qf C H locs ls hP hS hL) (fun h => kf h p e s m args below meth c A cells slots R Qf C H locs ls hP hS hL)
theorem Gn_if_eq {a : Nat} {off : Int} {tgt : Nat} (hd : decode μ.2.1 pc = .ok (.ifCond .eq off, 3)) (ht : (pc : Int) + off = (tgt : Int)) (ha : a < 2 ^ 31) (kt : a = 0 → G l α D cA μ sc d Q tgt L S M) (kf : ¬ a = 0 → G l α D cA μ sc d Q (pc + 3) L S M) : G l α D cA μ sc d Q pc L (.inl (nI a) :: S) M := G_if_eq hd ht (fun h => kt ((nI_eq ha (by decide : 0 < 2 ^ 31)).mp h)) (fun h => kf (fun q => h ((nI_eq ha (by decide : 0 < 2 ^ 31)).mpr q)))
theorem Gn_icmp_eq {a b : Nat} {off : Int} {tgt : Nat} (hd : decode μ.2.1 pc = .ok (.if_icmp .eq off, 3)) (ht : (pc : Int) + off = (tgt : Int)) (ha : a < 2 ^ 31) (hb : b < 2 ^ 31) (kt : a = b → G l α D cA μ sc d Q tgt L S M) (kf : ¬ a = b → G l α D cA μ sc d Q (pc + 3) L S M) : G l α D cA μ sc d Q pc L (.inl (nI b) :: .inl (nI a) :: S) M := G_icmp_eq hd ht (fun h => kt ((nI_eq ha hb).mp h)) (fun h => kf (fun q => h ((nI_eq ha hb).mpr q)))
theorem Gn_if_ne {a : Nat} {off : Int} {tgt : Nat} (hd : decode μ.2.1 pc = .ok (.ifCond .ne off, 3)) (ht : (pc : Int) + off = (tgt : Int)) (ha : a < 2 ^ 31) (kt : ¬ a = 0 → G l α D cA μ sc d Q tgt L S M) (kf : a = 0 → G l α D cA μ sc d Q (pc + 3) L S M) : G l α D cA μ sc d Q pc L (.inl (nI a) :: S) M := G_if_ne hd ht (fun h => kt (fun q => h ((nI_eq ha (by decide : 0 < 2 ^ 31)).mpr q))) (fun h => kf ((nI_eq ha (by decide : 0 < 2 ^ 31)).mp h))
theorem Gn_icmp_ne {a b : Nat} {off : Int} {tgt : Nat} (hd : decode μ.2.1 pc = .ok (.if_icmp .ne off, 3)) (ht : (pc : Int) + off = (tgt : Int)) (ha : a < 2 ^ 31) (hb : b < 2 ^ 31) (kt : ¬ a = b → G l α D cA μ sc d Q tgt L S M) (kf : a = b → G l α D cA μ sc d Q (pc + 3) L S M) : G l α D cA μ sc d Q pc L (.inl (nI b) :: .inl (nI a) :: S) M := G_icmp_ne hd ht (fun h => kt (fun q => h ((nI_eq ha hb).mpr q))) (fun h => kf ((nI_eq ha hb).mp h))
theorem Gn_if_lt {a : Nat} {off : Int} {tgt : Nat} (hd : decode μ.2.1 pc = .ok (.ifCond .lt off, 3)) (ht : (pc : Int) + off = (tgt : Int)) (ha : a < 2 ^ 31) (kt : a < 0 → G l α D cA μ sc d Q tgt L S M) (kf : 0 ≤ a → G l α D cA μ sc d Q (pc + 3) L S M) : G l α D cA μ sc d Q pc L (.inl (nI a) :: S) M := G_if_lt hd ht (fun h => kt ((nI_ltI ha (by decide : 0 < 2 ^ 31)).mp h)) (fun h => kf (Nat.le_of_not_lt (fun q => h ((nI_ltI ha (by decide : 0 < 2 ^ 31)).mpr q))))
theorem Gn_icmp_lt {a b : Nat} {off : Int} {tgt : Nat} (hd : decode μ.2.1 pc = .ok (.if_icmp .lt off, 3)) (ht : (pc : Int) + off = (tgt : Int)) (ha : a < 2 ^ 31) (hb : b < 2 ^ 31) (kt : a < b → G l α D cA μ sc d Q tgt L S M) (kf : b ≤ a → G l α D cA μ sc d Q (pc + 3) L S M) : G l α D cA μ sc d Q pc L (.inl (nI b) :: .inl (nI a) :: S) M := G_icmp_lt hd ht (fun h => kt ((nI_ltI ha hb).mp h)) (fun h => kf (Nat.le_of_not_lt (fun q => h ((nI_ltI ha hb).mpr q))))
theorem Gn_if_ge {a : Nat} {off : Int} {tgt : Nat} (hd : decode μ.2.1 pc = .ok (.ifCond .ge off, 3)) (ht : (pc : Int) + off = (tgt : Int)) (ha : a < 2 ^ 31) (kt : 0 ≤ a → G l α D cA μ sc d Q tgt L S M) (kf : a < 0 → G l α D cA μ sc d Q (pc + 3) L S M) : G l α D cA μ sc d Q pc L (.inl (nI a) :: S) M := G_if_ge hd ht (fun h => kt ((nI_leI (by decide : 0 < 2 ^ 31) ha).mp h)) (fun h => kf (Nat.lt_of_not_le (fun q => h ((nI_leI (by decide : 0 < 2 ^ 31) ha).mpr q))))
theorem Gn_icmp_ge {a b : Nat} {off : Int} {tgt : Nat} (hd : decode μ.2.1 pc = .ok (.if_icmp .ge off, 3)) (ht : (pc : Int) + off = (tgt : Int)) (ha : a < 2 ^ 31) (hb : b < 2 ^ 31) (kt : b ≤ a → G l α D cA μ sc d Q tgt L S M) (kf : a < b → G l α D cA μ sc d Q (pc + 3) L S M) : G l α D cA μ sc d Q pc L (.inl (nI b) :: .inl (nI a) :: S) M := G_icmp_ge hd ht (fun h => kt ((nI_leI hb ha).mp h)) (fun h => kf (Nat.lt_of_not_le (fun q => h ((nI_leI hb ha).mpr q))))
theorem Gn_if_gt {a : Nat} {off : Int} {tgt : Nat} (hd : decode μ.2.1 pc = .ok (.ifCond .gt off, 3)) (ht : (pc : Int) + off = (tgt : Int)) (ha : a < 2 ^ 31) (kt : 0 < a → G l α D cA μ sc d Q tgt L S M) (kf : a ≤ 0 → G l α D cA μ sc d Q (pc + 3) L S M) : G l α D cA μ sc d Q pc L (.inl (nI a) :: S) M := G_if_gt hd ht (fun h => kt ((nI_ltI (by decide : 0 < 2 ^ 31) ha).mp h)) (fun h => kf (Nat.le_of_not_lt (fun q => h ((nI_ltI (by decide : 0 < 2 ^ 31) ha).mpr q))))
theorem Gn_icmp_gt {a b : Nat} {off : Int} {tgt : Nat} (hd : decode μ.2.1 pc = .ok (.if_icmp .gt off, 3)) (ht : (pc : Int) + off = (tgt : Int)) (ha : a < 2 ^ 31) (hb : b < 2 ^ 31) (kt : b < a → G l α D cA μ sc d Q tgt L S M) (kf : a ≤ b → G l α D cA μ sc d Q (pc + 3) L S M) : G l α D cA μ sc d Q pc L (.inl (nI b) :: .inl (nI a) :: S) M := G_icmp_gt hd ht (fun h => kt ((nI_ltI hb ha).mp h)) (fun h => kf (Nat.le_of_not_lt (fun q => h ((nI_ltI hb ha).mpr q))))
theorem Gn_if_le {a : Nat} {off : Int} {tgt : Nat} (hd : decode μ.2.1 pc = .ok (.ifCond .le off, 3)) (ht : (pc : Int) + off = (tgt : Int)) (ha : a < 2 ^ 31) (kt : a ≤ 0 → G l α D cA μ sc d Q tgt L S M) (kf : 0 < a → G l α D cA μ sc d Q (pc + 3) L S M) : G l α D cA μ sc d Q pc L (.inl (nI a) :: S) M := G_if_le hd ht (fun h => kt ((nI_leI ha (by decide : 0 < 2 ^ 31)).mp h)) (fun h => kf (Nat.lt_of_not_le (fun q => h ((nI_leI ha (by decide : 0 < 2 ^ 31)).mpr q))))
theorem Gn_icmp_le {a b : Nat} {off : Int} {tgt : Nat} (hd : decode μ.2.1 pc = .ok (.if_icmp .le off, 3)) (ht : (pc : Int) + off = (tgt : Int)) (ha : a < 2 ^ 31) (hb : b < 2 ^ 31) (kt : a ≤ b → G l α D cA μ sc d Q tgt L S M) (kf : b < a → G l α D cA μ sc d Q (pc + 3) L S M) : G l α D cA μ sc d Q pc L (.inl (nI b) :: .inl (nI a) :: S) M := G_icmp_le hd ht (fun h => kt ((nI_leI ha hb).mp h)) (fun h => kf (Nat.lt_of_not_le (fun q => h ((nI_leI ha hb).mpr q))))
def bI (b : Bool) : Int32 := if b then 1 else 0
theorem bI_0 {b : Bool} : bI b = 0 ↔ b = false := by cases b <;> decide
theorem bI_nar {b : Bool} : narrow .boolean (.int (bI b)) = .int (bI b) := by cases b <;> rfl
theorem Gb_if_eq {b : Bool} {off : Int} {tgt : Nat} (hd : decode μ.2.1 pc = .ok (.ifCond .eq off, 3)) (ht : (pc : Int) + off = (tgt : Int)) (kt : b = false → G l α D cA μ sc d Q tgt L S M) (kf : b = true → G l α D cA μ sc d Q (pc + 3) L S M) : G l α D cA μ sc d Q pc L (.inl (bI b) :: S) M := G_if_eq hd ht (fun h => kt (bI_0.mp h)) (fun h => kf (by cases b; exact absurd rfl h; rfl))
theorem Gb_if_ne {b : Bool} {off : Int} {tgt : Nat} (hd : decode μ.2.1 pc = .ok (.ifCond .ne off, 3)) (ht : (pc : Int) + off = (tgt : Int)) (kt : b = true → G l α D cA μ sc d Q tgt L S M) (kf : b = false → G l α D cA μ sc d Q (pc + 3) L S M) : G l α D cA μ sc d Q pc L (.inl (bI b) :: S) M := G_if_ne hd ht (fun h => kt (by cases b; exact absurd rfl h; rfl)) (fun h => kf (bI_0.mp h))
theorem G_getI {idx ci k o : Nat} {v : Int32} {fs : List (Option Nat)} (hd : decode μ.2.1 pc = .ok (.getfield idx, 3)) (hf : FL μ.1.cls idx ci k) (hs : SHL[o]? = some (.inl (ci, fs))) (hk : fs[k]? = some none) (hv : M o k = v) (kk : G l α D cA μ sc d Q (pc + 3) L (.inl v :: S) M) : G l α D cA μ sc d Q pc L (.inr o :: S) M := by
  subst hv
  intro p e s m args below meth c A cells slots R Qf C H locs ls hP hS hL
  obtain ⟨T, N, h1, h2, h3, h4, h5⟩ := hf
  exact va_get (q0 := o) (k := k) (v := .int (M o k)) (hexec := C.1.1) (hb := C.1.2.1) (hts := C.1.2.2.2.2) (hin := h3) (hown := C.1.2.2.2.1) (hK := C.2.1) (hP := hP) (he := wd_at hs) (hc := h1) (hk := h2) (hlink := C.1.2.2.2.2 _ h5) (hsame := fun x hx => by rw [h4] at hx; exact hx) (hv := by simp [List.getElem?_mapIdx, hk, fv]) (hdg := hd) (kk p e s m args below meth c A cells slots R Qf C H locs ls hP hS hL)
theorem G_getR {idx ci k o j : Nat} {fs : List (Option Nat)} (hd : decode μ.2.1 pc = .ok (.getfield idx, 3)) (hf : FL μ.1.cls idx ci k) (hs : SHL[o]? = some (.inl (ci, fs))) (hk : fs[k]? = some (some j)) (kk : G l α D cA μ sc d Q (pc + 3) L (.inr j :: S) M) : G l α D cA μ sc d Q pc L (.inr o :: S) M := by
  intro p e s m args below meth c A cells slots R Qf C H locs ls hP hS hL
  obtain ⟨T, N, h1, h2, h3, h4, h5⟩ := hf
  exact va_get (q0 := o) (k := k) (v := .ref (α j)) (hexec := C.1.1) (hb := C.1.2.1) (hts := C.1.2.2.2.2) (hin := h3) (hown := C.1.2.2.2.1) (hK := C.2.1) (hP := hP) (he := wd_at hs) (hc := h1) (hk := h2) (hlink := C.1.2.2.2.2 _ h5) (hsame := fun x hx => by rw [h4] at hx; exact hx) (hv := by simp [List.getElem?_mapIdx, hk, fv]) (hdg := hd) (kk p e s m args below meth c A cells slots R Qf C H locs ls hP hS hL)
theorem G_put {idx ci k o : Nat} {x : Int32} {fs : List (Option Nat)} (hd : decode μ.2.1 pc = .ok (.putfield idx, 3)) (hf : FP μ.1.cls idx ci k) (hs : SHL[o]? = some (.inl (ci, fs))) (hk : fs[k]? = some none) (kk : G l α D cA μ sc d Q (pc + 3) L S (ms M o k x)) : G l α D cA μ sc d Q pc L (.inl x :: .inr o :: S) M := by
  intro p e0 s m args below meth c A cells slots R Qf C H locs ls hP hS hL
  obtain ⟨T, N, ty, h1, h2, h3, h4, h5, h6, h7, h8, h9⟩ := hf
  have hlen : k < fs.length := (List.getElem?_eq_some_iff.mp hk).1
  have e : (wd α cA M).set o (α o, .inr (ci, (fs.mapIdx (fun k r => fv α (M o) k r)).set k (.int x))) = wd α cA (ms M o k x) := by
    rw [fv_set hk]
    have h0 := wd_set (α := α) (cA := cA) (M := M) (M' := ms M o k x) hs (fun q hq => ms_q hq)
    rw [ms_o] at h0
    exact h0
  refine va_put (q0 := o) (k := k) (v := .int x) (ty := .int) (fs := fs.mapIdx (fun k r => fv α (M o) k r)) (hexec := C.1.1) (hb := C.1.2.1) (hts := C.1.2.2.2.2) (hin := h3) (ty0 := ty) (hty := h6) (hnm := h7) (hown := C.1.2.2.2.1) (hK := C.2.1) (hP := hP) (hD := wd_D C.2.2.1 C.2.2.2.1) (hS0 := hS) (he := wd_at hs) (hc := h1) (hk := h2) (hlink := C.1.2.2.2.2 _ h5) (hsame := fun x hx => by rw [h4] at hx; exact hx) (hfin := h8) (hd := h9) (hn := rfl) (hfit := rfl) (hl := by simpa using hlen) (hdg := hd) (fun H1 locs1 hP1 hD1 hS1 => ?_)
  rw [e] at hP1
  exact kk p e0 s m args below meth c A cells slots R Qf C H1 locs1 ls hP1 hS1 hL
theorem G_iald {o n k : Nat} {i v : Int32} (hd : decode μ.2.1 pc = .ok (.iaload, 1)) (hs : SHL[o]? = some (.inr (.inl (0, n)))) (hin : vp_in i n) (hk : i.toNatClampNeg = k) (hv : M o k = v) (kk : G l α D cA μ sc d Q (pc + 1) L (.inl v :: S) M) : G l α D cA μ sc d Q pc L (.inl i :: .inr o :: S) M := by
  subst hk
  subst hv
  intro p e s m args below meth c A cells slots R Qf C H locs ls hP hS hL
  exact va_iald C.1.1 C.1.2.1 C.2.1 hP o 0 (wd_at hs) rfl hin hd (kk p e s m args below meth c A cells slots R Qf C H locs ls hP hS hL)
theorem G_zald {o n k : Nat} {i v : Int32} (hd : decode μ.2.1 pc = .ok (.baload, 1)) (hs : SHL[o]? = some (.inr (.inl (1, n)))) (hin : vp_in i n) (hk : i.toNatClampNeg = k) (hv : M o k = v) (kk : G l α D cA μ sc d Q (pc + 1) L (.inl v :: S) M) : G l α D cA μ sc d Q pc L (.inl i :: .inr o :: S) M := by
  subst hk
  subst hv
  intro p e s m args below meth c A cells slots R Qf C H locs ls hP hS hL
  exact va_zald C.1.1 C.1.2.1 C.2.1 hP o 1 (wd_at hs) rfl hin hd (kk p e s m args below meth c A cells slots R Qf C H locs ls hP hS hL)
theorem G_cald {o n k : Nat} {i v : Int32} (hd : decode μ.2.1 pc = .ok (.caload, 1)) (hs : SHL[o]? = some (.inr (.inl (2, n)))) (hin : vp_in i n) (hk : i.toNatClampNeg = k) (hv : M o k = v) (kk : G l α D cA μ sc d Q (pc + 1) L (.inl v :: S) M) : G l α D cA μ sc d Q pc L (.inl i :: .inr o :: S) M := by
  subst hk
  subst hv
  intro p e s m args below meth c A cells slots R Qf C H locs ls hP hS hL
  exact va_cald C.1.1 C.1.2.1 C.2.1 hP o 2 (wd_at hs) rfl hin hd (kk p e s m args below meth c A cells slots R Qf C H locs ls hP hS hL)
theorem G_bald {o n k : Nat} {i v : Int32} (hd : decode μ.2.1 pc = .ok (.baload, 1)) (hs : SHL[o]? = some (.inr (.inl (3, n)))) (hin : vp_in i n) (hk : i.toNatClampNeg = k) (hv : M o k = v) (kk : G l α D cA μ sc d Q (pc + 1) L (.inl v :: S) M) : G l α D cA μ sc d Q pc L (.inl i :: .inr o :: S) M := by
  subst hk
  subst hv
  intro p e s m args below meth c A cells slots R Qf C H locs ls hP hS hL
  exact va_bald C.1.1 C.1.2.1 C.2.1 hP o 3 (wd_at hs) rfl hin hd (kk p e s m args below meth c A cells slots R Qf C H locs ls hP hS hL)
theorem G_iast {o n k : Nat} {i x v : Int32} (hd : decode μ.2.1 pc = .ok (.iastore, 1)) (hs : SHL[o]? = some (.inr (.inl (0, n)))) (hin : vp_in i n) (hk : i.toNatClampNeg = k) (hv : x = v) (kk : G l α D cA μ sc d Q (pc + 1) L S (ms M o k v)) : G l α D cA μ sc d Q pc L (.inl x :: .inl i :: .inr o :: S) M := by
  subst hk
  subst hv
  intro p e s m args below meth c A cells slots R Qf C H locs ls hP hS hL
  exact va_iast C.1.1 C.1.2.1 C.2.1 hP (wd_D C.2.2.1 C.2.2.2.1) hS o 0 (wd_at hs) rfl hin hd (fun H1 locs1 hP1 hD1 hS1 => kk p e s m args below meth c A cells slots R Qf C H1 locs1 ls (by rw [← wd_set hs (fun q hq => ms_q hq)]; simp only [ms_o]; exact hP1) hS1 hL)
theorem G_zast {o n k : Nat} {i x v : Int32} (hd : decode μ.2.1 pc = .ok (.bastore, 1)) (hs : SHL[o]? = some (.inr (.inl (1, n)))) (hin : vp_in i n) (hk : i.toNatClampNeg = k) (hv : (vp_nar .boolean x) = v) (kk : G l α D cA μ sc d Q (pc + 1) L S (ms M o k v)) : G l α D cA μ sc d Q pc L (.inl x :: .inl i :: .inr o :: S) M := by
  subst hk
  subst hv
  intro p e s m args below meth c A cells slots R Qf C H locs ls hP hS hL
  exact va_zast C.1.1 C.1.2.1 C.2.1 hP (wd_D C.2.2.1 C.2.2.2.1) hS o 1 (wd_at hs) rfl hin hd (fun H1 locs1 hP1 hD1 hS1 => kk p e s m args below meth c A cells slots R Qf C H1 locs1 ls (by rw [← wd_set hs (fun q hq => ms_q hq)]; simp only [ms_o]; exact hP1) hS1 hL)
theorem G_cast {o n k : Nat} {i x v : Int32} (hd : decode μ.2.1 pc = .ok (.castore, 1)) (hs : SHL[o]? = some (.inr (.inl (2, n)))) (hin : vp_in i n) (hk : i.toNatClampNeg = k) (hv : (vp_nar .char x) = v) (kk : G l α D cA μ sc d Q (pc + 1) L S (ms M o k v)) : G l α D cA μ sc d Q pc L (.inl x :: .inl i :: .inr o :: S) M := by
  subst hk
  subst hv
  intro p e s m args below meth c A cells slots R Qf C H locs ls hP hS hL
  exact va_cast C.1.1 C.1.2.1 C.2.1 hP (wd_D C.2.2.1 C.2.2.2.1) hS o 2 (wd_at hs) rfl hin hd (fun H1 locs1 hP1 hD1 hS1 => kk p e s m args below meth c A cells slots R Qf C H1 locs1 ls (by rw [← wd_set hs (fun q hq => ms_q hq)]; simp only [ms_o]; exact hP1) hS1 hL)
theorem G_bast {o n k : Nat} {i x v : Int32} (hd : decode μ.2.1 pc = .ok (.bastore, 1)) (hs : SHL[o]? = some (.inr (.inl (3, n)))) (hin : vp_in i n) (hk : i.toNatClampNeg = k) (hv : (vp_nar .byte x) = v) (kk : G l α D cA μ sc d Q (pc + 1) L S (ms M o k v)) : G l α D cA μ sc d Q pc L (.inl x :: .inl i :: .inr o :: S) M := by
  subst hk
  subst hv
  intro p e s m args below meth c A cells slots R Qf C H locs ls hP hS hL
  exact va_bast C.1.1 C.1.2.1 C.2.1 hP (wd_D C.2.2.1 C.2.2.2.1) hS o 3 (wd_at hs) rfl hin hd (fun H1 locs1 hP1 hD1 hS1 => kk p e s m args below meth c A cells slots R Qf C H1 locs1 ls (by rw [← wd_set hs (fun q hq => ms_q hq)]; simp only [ms_o]; exact hP1) hS1 hL)
theorem G_aald {o j : Nat} {i : Int32} {js : List Nat} (hd : decode μ.2.1 pc = .ok (.aaload, 1)) (hs : SHL[o]? = some (.inr (.inr js))) (hin : vp_in i js.length) (hj : js[i.toNatClampNeg]? = some j) (kk : G l α D cA μ sc d Q (pc + 1) L (.inr j :: S) M) : G l α D cA μ sc d Q pc L (.inl i :: .inr o :: S) M := by
  intro p e s m args below meth c A cells slots R Qf C H locs ls hP hS hL
  have hlt : i.toNatClampNeg < js.length := (List.getElem?_eq_some_iff.mp hj).1
  exact W.aald (v := .ref (α j)) (ty := .array .int) C.1.1 C.1.2.1 (hP o _ (wd_at hs)) ((C.2.1.2 4 _ rfl).1 js.length (fun q => va_rf ((js[q]?).map α))) rfl (fun q => by cases q) (by show ¬ (i < 0 ∨ (arrV _ _ _).slots.size ≤ _); rw [arrV_size]; exact hin) (by show (arrV _ _ _).slots[_]? = _; rw [arrV_read _ _ hlt]; show some (va_rf ((js[i.toNatClampNeg]?).map α)) = _; rw [hj]; rfl) rfl rfl hd (kk p e s m args below meth c A cells slots R Qf C H locs ls hP hS hL)
theorem G_alen {o t n : Nat} {v : Int32} (hd : decode μ.2.1 pc = .ok (.arraylength, 1)) (hs : SHL[o]? = some (.inr (.inl (t, n)))) (ht : t < 4) (hv : Int32.ofNat n = v) (kk : G l α D cA μ sc d Q (pc + 1) L (.inl v :: S) M) : G l α D cA μ sc d Q pc L (.inr o :: S) M := by
  intro p e s m args below meth c A cells slots R Qf C H locs ls hP hS hL
  have h : t = 0 ∨ t = 1 ∨ t = 2 ∨ t = 3 := by omega
  rcases h with rfl | rfl | rfl | rfl
  · exact va_alen C.1.1 C.1.2.1 C.2.1 hP o 0 (wd_at hs) (ty := .int) rfl hv hd (kk p e s m args below meth c A cells slots R Qf C H locs ls hP hS hL)
  · exact va_alen C.1.1 C.1.2.1 C.2.1 hP o 1 (wd_at hs) (ty := .boolean) rfl hv hd (kk p e s m args below meth c A cells slots R Qf C H locs ls hP hS hL)
  · exact va_alen C.1.1 C.1.2.1 C.2.1 hP o 2 (wd_at hs) (ty := .char) rfl hv hd (kk p e s m args below meth c A cells slots R Qf C H locs ls hP hS hL)
  · exact va_alen C.1.1 C.1.2.1 C.2.1 hP o 3 (wd_at hs) (ty := .byte) rfl hv hd (kk p e s m args below meth c A cells slots R Qf C H locs ls hP hS hL)
theorem G_sld {i v : Int32} {n k : Nat} {xs : Nat → Int32} (hd : decode μ.2.1 pc = .ok (.iaload, 1)) (hsc : sc = some (n, xs)) (hin : vp_in i n) (hk : i.toNatClampNeg = k) (hv : xs k = v) (kk : G l α D cA μ sc d Q (pc + 1) L (.inl v :: S) M) : G l α D cA μ sc d Q pc L (.inl i :: .inr 999 :: S) M := by
  subst hk
  subst hv
  intro p e s m args below meth c A cells slots R Qf C H locs ls hP hS hL
  obtain ⟨h1, h2, h3⟩ := C.2.2.2.2.2.2.2.1 n xs hsc
  exact va_sld C.1.1 C.1.2.1 h1 h2 h3 hS hin hd (kk p e s m args below meth c A cells slots R Qf C H locs ls hP hS hL)
theorem G_slen {n : Nat} {v : Int32} {xs : Nat → Int32} (hd : decode μ.2.1 pc = .ok (.arraylength, 1)) (hsc : sc = some (n, xs)) (hv : Int32.ofNat n = v) (kk : G l α D cA μ sc d Q (pc + 1) L (.inl v :: S) M) : G l α D cA μ sc d Q pc L (.inr 999 :: S) M := by
  subst hv
  intro p e s m args below meth c A cells slots R Qf C H locs ls hP hS hL
  obtain ⟨h1, h2, h3⟩ := C.2.2.2.2.2.2.2.1 n xs hsc
  exact va_slen C.1.1 C.1.2.1 h1 h2 h3 hS hd (kk p e s m args below meth c A cells slots R Qf C H locs ls hP hS hL)
theorem G_iret {v : Int32} {ty : FieldType} (hd : decode μ.2.1 pc = .ok (.ireturn, 1)) (hr : μ.2.2.2.1 = some ty) (hn : narrow ty (.int v) = .int v) (hq : Q (.inl v) M) : G l α D cA μ sc d Q pc L [.inl v] M := by
  intro p e s m args below meth c A cells slots R Qf C H locs ls hP hS hL
  have h := C.2.2.2.2.2.2.2.2 (.inl v) M H locs pc ls hq (by rw [hr]; exact Or.inl ⟨hd, v, rfl, hn⟩) hP hS
  rw [hr] at h
  exact h
theorem G_aret {j : Nat} {ty : FieldType} (hd : decode μ.2.1 pc = .ok (.areturn, 1)) (hr : μ.2.2.2.1 = some ty) (hn : (∃ n, ty = .object n) ∨ ∃ t, ty = .array t) (hq : Q (.inr j) M) : G l α D cA μ sc d Q pc L [.inr j] M := by
  intro p e s m args below meth c A cells slots R Qf C H locs ls hP hS hL
  have h := C.2.2.2.2.2.2.2.2 (.inr j) M H locs pc ls hq (by rw [hr]; exact Or.inr ⟨hd, hn, j, rfl⟩) hP hS
  rw [hr] at h
  exact h
theorem G_vret (hd : decode μ.2.1 pc = .ok (.return_, 1)) (hr : μ.2.2.2.1 = none) (hq : Q (.inl 0) M) : G l α D cA μ sc d Q pc L [] M := by
  intro p e s m args below meth c A cells slots R Qf C H locs ls hP hS hL
  have h := C.2.2.2.2.2.2.2.2 (.inl 0) M H locs pc ls hq (by rw [hr]; exact hd) hP hS
  rw [hr] at h
  exact h
theorem G_swOut {dflt lo hi : Int} {offs : Array Int} {len : Nat} {x : Int32} {tgt : Nat} (hd : decode μ.2.1 pc = .ok (.tableswitch dflt lo hi offs, len)) (h : x.toInt < lo ∨ hi < x.toInt) (ht : (pc : Int) + dflt = (tgt : Int)) (kk : G l α D cA μ sc d Q tgt L S M) : G l α D cA μ sc d Q pc L (.inl x :: S) M := by
  intro p e s m args below meth c A cells slots R Qf C H locs ls hP hS hL
  exact lv_tableOut C.1.1 C.1.2.1 hd h ht (kk p e s m args below meth c A cells slots R Qf C H locs ls hP hS hL)
theorem G_swIn {dflt lo hi : Int} {offs : Array Int} {len : Nat} {x : Int32} {off : Int} {tgt : Nat} (hd : decode μ.2.1 pc = .ok (.tableswitch dflt lo hi offs, len)) (h1 : ¬ x.toInt < lo) (h2 : ¬ hi < x.toInt) (ho : offs[(x.toInt - lo).toNat]? = some off) (ht : (pc : Int) + off = (tgt : Int)) (kk : G l α D cA μ sc d Q tgt L S M) : G l α D cA μ sc d Q pc L (.inl x :: S) M := by
  intro p e s m args below meth c A cells slots R Qf C H locs ls hP hS hL
  exact lv_tableIn C.1.1 C.1.2.1 hd h1 h2 ho ht (kk p e s m args below meth c A cells slots R Qf C H locs ls hP hS hL)
set_option maxHeartbeats 1000000 in
theorem G_callV {As st : List AV} {o ci idx : Nat} {fs : List (Option Nat)} {T : u_T} {N : Nat} {Q' : AV → Mem → Prop} (hd : decode μ.2.1 pc = .ok (.invokevirtual idx, 3)) (hl : LK μ.1.cls idx ν.1) (hv : MV ν) (hs : SHL[o]? = some (.inl (ci, fs))) (hc : vwCl[ci]? = some (ν.1.cls, T, N)) (hn : As.length = ν.2.2.2.2) (hst : st = As.reverse ++ .inr o :: S) (hSl : S.length ≤ 8) (hk : Call l α D cA ν d (.inr o :: As) M Q')
    (kk : ∀ (r : AV) (M' : Mem), Q' r M' → G l α D cA μ sc (d + 1) Q (pc + 3) L (outs ν.2.2.2.1 r ++ S) M') : G l α D cA μ sc (d + 1) Q pc L st M := by
  subst hst
  intro p e s m args below meth c A cells slots R Qf C H locs ls hP hS hL
  obtain ⟨⟨hx, hb, hml, hown, hts⟩, hK, hi, hA1, hA2, hF, ⟨r1, r2, r3, r4⟩, hsc, hfin⟩ := id C
  have hFA : ∀ q, AA α H.size q → A q := fun q h => by
    rcases h with ⟨i, h1, rfl⟩ | h
    · exact hA1 i h1
    · exact hA2 q (Nat.le_trans hS.1 h)
  have hcat : ∀ S : List AV, ((S.map (cv α)).map fun v => v.category).sum = S.length := fun S => by
    induction S with
    | nil => rfl
    | cons a S ih =>
      have hc : (cv α a).category = 1 := by cases a <;> rfl
      simp only [List.map_cons, List.sum_cons, hc, ih, List.length_cons]
      omega
  have run : va_Run p l e R s m args below meth c H locs cells slots 0 0 (F0 m pc ls ((As.reverse ++ .inr o :: S).map (cv α))) (S.map (cv α)) (QcM α D cA ν.2.2.2.1 Q' (AA α H.size) ((.inr o :: As).map (cv α)).toArray) (AA α H.size) := by
    have hpre : ∀ U : State, U.heap = H → s.WarmedH U.vm → PcM α D cA (.inr o :: As) M H.size ((.inr o :: As).map (cv α)).toArray U := fun U hU hW => ⟨rfl, by rw [hU], by rw [hU]; exact hP, va_K.moved hW.alike hK, by rw [hU]; exact ((hF.kept hS.2.1).narrow hFA).warm hW, hi⟩
    have hblind : FrameBlind (PcM α D cA (.inr o :: As) M H.size) := fun a U g mk q => by
      obtain ⟨q1, q2, q3, q4, q5, q6⟩ := q
      exact ⟨q1, q2, q3, va_K.moved (u := U) (U := U.calling g mk a) (Vm.Alike.refl U.vm) q4, SF.same (s := U) (U := U.calling g mk a) rfl q5, q6⟩
    have hrec := va_recv C.2.1 hP hc (wd_at hs)
    have hR : (rmD d).frames + 1 ≤ R.frames ∧ 8 + (ν.2.2.1 + 11) + (rmD d).locals ≤ R.locals := ⟨r1, by have := hv.1.2.2.2.2; show 8 + (ν.2.2.1 + 11) + 36 * d ≤ R.locals; omega⟩
    have hstk : (F0 m pc ls ((As.reverse ++ .inr o :: S).map (cv α))).stack = (As.map (cv α)).reverse ++ .ref (α o) :: S.map (cv α) := by simp [cv]
    rcases hl with hl | ⟨host, hl⟩
    · exact va_runV (As := As.map (cv α)) (rest := S.map (cv α)) (b := α o) (C := ν.1.cls) (index := idx) ⟨hx, hb, hml, hown, hts⟩ (hk H.size) ⟨callB_of ν.2.2.2.2 hts (goodIn_wsM hv.1) rfl rfl rfl (hts _ hv.1.2.1) (hts _ hl) hv.1.2.2.1 hR, hts _ hv.2.1, hts _ hv.2.2⟩ ⟨hblind, hrec, hpre⟩ rfl (by simpa using hn) hL.1 hstk (by rw [hcat]; show 2 * 0 + _ ≤ 8; omega) hd ⟨r3, r4⟩
    · exact va_runVN (As := As.map (cv α)) (rest := S.map (cv α)) (b := α o) (C := ν.1.cls) (index := idx) (host := host) ⟨hx, hb, hml, hown, hts⟩ (hk H.size) ⟨va_cnB ν.2.2.2.2 hts (goodIn_wsM hv.1) rfl rfl rfl (hF.2.2.2.2 _ _ _ _ hl) (hts _ hv.1.2.1) hv.1.2.2.1 hR, hts _ hv.2.1, hts _ hv.2.2⟩ ⟨hblind, hrec, hpre⟩ rfl (by simpa using hn) hL.1 hstk (by rw [hcat]; show 2 * 0 + _ ≤ 8; omega) hd ⟨r3, r4⟩
  intro T hT X
  obtain ⟨v, st₀, t, T', L', h0, X', hLL, e1, e2, ⟨⟨r, M', hv0, hq, hP'⟩, hz, hkeep⟩, stp⟩ := run T hT X
  cases hv0
  rw [h0] at hz hkeep
  have hS' : va_S A s.heap T'.heap (locs ++ L') := ⟨Nat.le_trans hS.1 (by rw [e1]; exact hz), fun q h1 h2 => by rw [e1, hkeep q (Nat.lt_of_lt_of_le h1 hS.1) (fun z => h2 (hFA q z))]; exact hS.2.1 q h1 h2, fun q hq => by
    rcases List.mem_append.mp hq with h | h
    · exact hS.2.2 q h
    · exact hFA _ (hLL q h)⟩
  obtain ⟨t2, a1, b1⟩ := kk r M' hq p e s m args below meth c A cells slots R Qf C T'.heap (locs ++ L') ls (by rw [e1]; exact hP') hS' hL T' rfl X'
  refine ⟨t2, stp t2 ?_, b1⟩
  rw [List.map_append, outs_map] at a1
  exact a1
set_option maxHeartbeats 1000000 in
theorem G_callS {As st : List AV} {idx : Nat} {Q' : AV → Mem → Prop} (hd : decode μ.2.1 pc = .ok (.invokestatic idx, 3)) (hl : LK μ.1.cls idx ν.1) (hv : MS ν) (hn : As.length = ν.2.2.2.2) (hst : st = As.reverse ++ S) (hSl : S.length ≤ 8) (hk : Call l α D cA ν d As M Q')
    (kk : ∀ (r : AV) (M' : Mem), Q' r M' → G l α D cA μ sc (d + 1) Q (pc + 3) L (outs ν.2.2.2.1 r ++ S) M') : G l α D cA μ sc (d + 1) Q pc L st M := by
  subst hst
  intro p e s m args below meth c A cells slots R Qf C H locs ls hP hS hL
  obtain ⟨⟨hx, hb, hml, hown, hts⟩, hK, hi, hA1, hA2, hF, ⟨r1, r2, r3, r4⟩, hsc, hfin⟩ := id C
  have hFA : ∀ q, AA α H.size q → A q := fun q h => by
    rcases h with ⟨i, h1, rfl⟩ | h
    · exact hA1 i h1
    · exact hA2 q (Nat.le_trans hS.1 h)
  have hcat : ∀ S : List AV, ((S.map (cv α)).map fun v => v.category).sum = S.length := fun S => by
    induction S with
    | nil => rfl
    | cons a S ih =>
      have hc : (cv α a).category = 1 := by cases a <;> rfl
      simp only [List.map_cons, List.sum_cons, hc, ih, List.length_cons]
      omega
  have run : va_Run p l e R s m args below meth c H locs cells slots 0 0 (F0 m pc ls ((As.reverse ++ S).map (cv α))) (S.map (cv α)) (QcM α D cA ν.2.2.2.1 Q' (AA α H.size) (As.map (cv α)).toArray) (AA α H.size) := by
    have hpre : ∀ U : State, U.heap = H → s.WarmedH U.vm → PcM α D cA As M H.size ((As).map (cv α)).toArray U := fun U hU hW => ⟨rfl, by rw [hU], by rw [hU]; exact hP, va_K.moved hW.alike hK, by rw [hU]; exact ((hF.kept hS.2.1).narrow hFA).warm hW, hi⟩
    have hblind : FrameBlind (PcM α D cA As M H.size) := fun a U g mk q => by
      obtain ⟨q1, q2, q3, q4, q5, q6⟩ := q
      exact ⟨q1, q2, q3, va_K.moved (u := U) (U := U.calling g mk a) (Vm.Alike.refl U.vm) q4, SF.same (s := U) (U := U.calling g mk a) rfl q5, q6⟩
    have hR : (rmD d).frames + 1 ≤ R.frames ∧ 8 + (ν.2.2.1 + 11) + (rmD d).locals ≤ R.locals := ⟨r1, by have := hv.1.2.2.2.2; show 8 + (ν.2.2.1 + 11) + 36 * d ≤ R.locals; omega⟩
    have hstk : (F0 m pc ls ((As.reverse ++ S).map (cv α))).stack = (As.map (cv α)).reverse ++ S.map (cv α) := by simp
    rcases hl with hl | ⟨host, hl⟩
    · exact va_runS (As := As.map (cv α)) (rest := S.map (cv α)) (index := idx) ⟨hx, hb, hml, hown, hts⟩ (hk H.size) ⟨callB_of ν.2.2.2.2 hts (goodIn_wsM hv.1) rfl rfl rfl (hts _ hv.1.2.1) (hts _ hl) hv.1.2.2.1 hR, hts _ hv.2⟩ ⟨hblind, hpre⟩ rfl (by simpa using hn) hL.1 hstk (by rw [hcat]; show 2 * 0 + _ ≤ 8; omega) hd ⟨r3, r4⟩
    · exact va_runSN (As := As.map (cv α)) (rest := S.map (cv α)) (index := idx) (host := host) ⟨hx, hb, hml, hown, hts⟩ (hk H.size) ⟨va_cnB ν.2.2.2.2 hts (goodIn_wsM hv.1) rfl rfl rfl (hF.2.2.2.2 _ _ _ _ hl) (hts _ hv.1.2.1) hv.1.2.2.1 hR, hts _ hv.2, trivial⟩ ⟨hblind, hpre⟩ rfl (by simpa using hn) hL.1 hstk (by rw [hcat]; show 2 * 0 + _ ≤ 8; omega) hd ⟨r3, r4⟩
  intro T hT X
  obtain ⟨v, st₀, t, T', L', h0, X', hLL, e1, e2, ⟨⟨r, M', hv0, hq, hP'⟩, hz, hkeep⟩, stp⟩ := run T hT X
  cases hv0
  rw [h0] at hz hkeep
  have hS' : va_S A s.heap T'.heap (locs ++ L') := ⟨Nat.le_trans hS.1 (by rw [e1]; exact hz), fun q h1 h2 => by rw [e1, hkeep q (Nat.lt_of_lt_of_le h1 hS.1) (fun z => h2 (hFA q z))]; exact hS.2.1 q h1 h2, fun q hq => by
    rcases List.mem_append.mp hq with h | h
    · exact hS.2.2 q h
    · exact hFA _ (hLL q h)⟩
  obtain ⟨t2, a1, b1⟩ := kk r M' hq p e s m args below meth c A cells slots R Qf C T'.heap (locs ++ L') ls (by rw [e1]; exact hP') hS' hL T' rfl X'
  refine ⟨t2, stp t2 ?_, b1⟩
  rw [List.map_append, outs_map] at a1
  exact a1
theorem G_callVi {As st : List AV} {o ci idx : Nat} {fs : List (Option Nat)} {T : u_T} {N : Nat} {ty : FieldType} {Q2 : AV → Mem → Prop} (hd : decode μ.2.1 pc = .ok (.invokevirtual idx, 3)) (hl : LK μ.1.cls idx ν.1) (hv : MV ν) (hs : SHL[o]? = some (.inl (ci, fs))) (hc : vwCl[ci]? = some (ν.1.cls, T, N)) (hr : ν.2.2.2.1 = some ty) (hn : As.length = ν.2.2.2.2) (hst : st = As.reverse ++ .inr o :: S) (hSl : S.length ≤ 8) (hk : Call l α D cA ν d (.inr o :: As) M Q2) (kk : ∀ (r : AV) (M1 : Mem), Q2 r M1 → G l α D cA μ sc (d + 1) Q (pc + 3) L (r :: S) M1) : G l α D cA μ sc (d + 1) Q pc L st M := G_callV hd hl hv hs hc hn hst hSl hk (fun r M1 h => by rw [hr]; exact kk r M1 h)
theorem G_callVv {As st : List AV} {o ci idx : Nat} {fs : List (Option Nat)} {T : u_T} {N : Nat} {Q2 : AV → Mem → Prop} (hd : decode μ.2.1 pc = .ok (.invokevirtual idx, 3)) (hl : LK μ.1.cls idx ν.1) (hv : MV ν) (hs : SHL[o]? = some (.inl (ci, fs))) (hc : vwCl[ci]? = some (ν.1.cls, T, N)) (hr : ν.2.2.2.1 = none) (hn : As.length = ν.2.2.2.2) (hst : st = As.reverse ++ .inr o :: S) (hSl : S.length ≤ 8) (hk : Call l α D cA ν d (.inr o :: As) M Q2) (kk : ∀ (r : AV) (M1 : Mem), Q2 r M1 → G l α D cA μ sc (d + 1) Q (pc + 3) L S M1) : G l α D cA μ sc (d + 1) Q pc L st M := G_callV hd hl hv hs hc hn hst hSl hk (fun r M1 h => by rw [hr]; exact kk r M1 h)
theorem G_callSi {As st : List AV} {idx : Nat} {ty : FieldType} {Q2 : AV → Mem → Prop} (hd : decode μ.2.1 pc = .ok (.invokestatic idx, 3)) (hl : LK μ.1.cls idx ν.1) (hv : MS ν) (hr : ν.2.2.2.1 = some ty) (hn : As.length = ν.2.2.2.2) (hst : st = As.reverse ++ S) (hSl : S.length ≤ 8) (hk : Call l α D cA ν d As M Q2) (kk : ∀ (r : AV) (M1 : Mem), Q2 r M1 → G l α D cA μ sc (d + 1) Q (pc + 3) L (r :: S) M1) : G l α D cA μ sc (d + 1) Q pc L st M := G_callS hd hl hv hn hst hSl hk (fun r M1 h => by rw [hr]; exact kk r M1 h)
theorem G_callSv {As st : List AV} {idx : Nat} {Q2 : AV → Mem → Prop} (hd : decode μ.2.1 pc = .ok (.invokestatic idx, 3)) (hl : LK μ.1.cls idx ν.1) (hv : MS ν) (hr : ν.2.2.2.1 = none) (hn : As.length = ν.2.2.2.2) (hst : st = As.reverse ++ S) (hSl : S.length ≤ 8) (hk : Call l α D cA ν d As M Q2) (kk : ∀ (r : AV) (M1 : Mem), Q2 r M1 → G l α D cA μ sc (d + 1) Q (pc + 3) L S M1) : G l α D cA μ sc (d + 1) Q pc L st M := G_callS hd hl hv hn hst hSl hk (fun r M1 h => by rw [hr]; exact kk r M1 h)
end GR
end
section
/-! THE MACHINE LAYER, part d: the library's members that the code calls -/
section GL
variable {l : Launch} {α : Nat → Nat} {D : va_G} {cA : Nat → ClassId} {μ ν : MI} {sc : Option (Nat × (Nat → Int32))} {d : Nat} {Q : AV → Mem → Prop} {pc : Nat} {L : List (Option AV)} {S : List AV} {M : Mem}
theorem cv_sum {α : Nat → Nat} : ∀ S : List AV, ((S.map (cv α)).map fun v => v.category).sum = S.length
  | [] => rfl
  | a :: S => by
    have hc : (cv α a).category = 1 := by cases a <;> rfl
    have ih := cv_sum (α := α) S
    simp only [List.map_cons, List.sum_cons, hc, ih, List.length_cons]
    omega
theorem G_min {idx : Nat} {x y v : Int32} (hd : decode μ.2.1 pc = .ok (.invokestatic idx, 3)) (hl : Cond.methodLink μ.1.cls idx yJ9_min_7cf53 ∈ TG) (hSl : S.length ≤ 8) (hv : (if y < x then y else x) = v) (kk : G l α D cA μ sc (d + 1) Q (pc + 3) L (.inl v :: S) M) : G l α D cA μ sc (d + 1) Q pc L (.inl y :: .inl x :: S) M := by
  subst hv
  intro p e s m args below meth c A cells slots R Qf C H locs ls hP hS hL
  have r := C.2.2.2.2.2.2.1
  exact va_mmin C.1.1 C.1.2.1 (by rw [C.1.2.2.1, hL.1]) C.1.2.2.2.1 (C.1.2.2.2.2 _ hl) (C.1.2.2.2.2 _ kJ9_min_7cf53.2.2) (C.1.2.2.2.2 _ kJ9_min_7cf53.2.1) (C.1.2.2.2.2 _ kJ9_min_7cf53.1) (by omega) (by rw [cv_sum]; omega) r.2.2.1 r.2.2.2 hd (kk p e s m args below meth c A cells slots R Qf C H locs ls hP hS hL)
theorem G_max {idx : Nat} {x y v : Int32} (hd : decode μ.2.1 pc = .ok (.invokestatic idx, 3)) (hl : Cond.methodLink μ.1.cls idx yJ9_max_7cf53 ∈ TG) (hSl : S.length ≤ 8) (hv : (if x < y then y else x) = v) (kk : G l α D cA μ sc (d + 1) Q (pc + 3) L (.inl v :: S) M) : G l α D cA μ sc (d + 1) Q pc L (.inl y :: .inl x :: S) M := by
  subst hv
  intro p e s m args below meth c A cells slots R Qf C H locs ls hP hS hL
  have r := C.2.2.2.2.2.2.1
  exact va_mmax C.1.1 C.1.2.1 (by rw [C.1.2.2.1, hL.1]) C.1.2.2.2.1 (C.1.2.2.2.2 _ hl) (C.1.2.2.2.2 _ kJ9_max_7cf53.2.2) (C.1.2.2.2.2 _ kJ9_max_7cf53.2.1) (C.1.2.2.2.2 _ kJ9_max_7cf53.1) (by omega) (by rw [cv_sum]; omega) r.2.2.1 r.2.2.2 hd (kk p e s m args below meth c A cells slots R Qf C H locs ls hP hS hL)
/-- the memory with all ints of o put anew -/
def mo (M : Mem) (o : Nat) (f : Nat → Int32) : Mem := fun q => if q = o then f else M q
theorem mo_o {M : Mem} {o : Nat} {f : Nat → Int32} : mo M o f o = f := by simp [mo]
theorem mo_q {M : Mem} {o q : Nat} {f : Nat → Int32} (h : q ≠ o) : mo M o f q = M q := by simp [mo, h]
/-- System.arraycopy(a, 0, b, 0, n) between arrays of ints, apart or not -/
theorem G_copy {idx o1 o2 n1 n2 N : Nat} (hd : decode μ.2.1 pc = .ok (.invokestatic idx, 3)) (hl : Cond.methodLink μ.1.cls idx arraycopyName ∈ TG) (hSl : S.length ≤ 8) (h1 : SHL[o1]? = some (.inr (.inl (0, n1)))) (h2 : SHL[o2]? = some (.inr (.inl (0, n2)))) (hN : N < 2 ^ 31) (hn1 : N ≤ n1) (hn2 : N ≤ n2) (kk : G l α D cA μ sc (d + 1) Q (pc + 3) L S (mo M o2 (va_cpy (M o1) (M o2) 0 0 N))) : G l α D cA μ sc (d + 1) Q pc L (.inl (nI N) :: .inl 0 :: .inr o2 :: .inl 0 :: .inr o1 :: S) M := by
  intro p e s m args below meth c A cells slots R Qf C H locs ls hP hS hL
  have r := C.2.2.2.2.2.2.1
  have z0 : (0 : Int32).toNatClampNeg = 0 := by decide
  have hnw : nativeFrameWords "java/lang/System" "arraycopy" 5 = 7 := by decide +kernel
  refine va_copyi (ty := .int) (sp := 0) (dp := 0) (n := nI N) (q0 := o1) (q1 := o2) (t0 := 0) (t1 := 0) C.1.1 C.1.2.1 (by rw [C.1.2.2.1, hL.1]) C.1.2.2.2.1 (C.1.2.2.2.2 _ hl) (C.1.2.2.2.2 _ q_acN) (C.1.2.2.2.2 _ q_acS) (C.1.2.2.2.2 _ q_acI) C.2.1 hP (wd_D C.2.2.1 C.2.2.2.1) hS (wd_at h1) (wd_at h2) rfl rfl rfl (by decide) (by decide) (nI_pos hN) (by rw [z0, nI_clamp hN]; omega) (by rw [z0, nI_clamp hN]; omega) (fun _ _ => rfl) (by omega) (by rw [cv_sum, hnw]; omega) hd (fun H1 locs1 hP1 hD1 hS1 => ?_)
  rw [z0, nI_clamp hN] at hP1
  have e0 := wd_set (α := α) (cA := cA) (M := M) (M' := mo M o2 (va_cpy (M o1) (M o2) 0 0 N)) h2 (fun q hq => mo_q hq)
  rw [mo_o] at e0
  exact kk p e s m args below meth c A cells slots R Qf C H1 locs1 ls (e0 ▸ hP1) hS1 hL
end GL
end
section
/-! plain facts to paste, each family by itself; over the kit's nI, lN and upd -/
/-! ===== drawers: more things than places ===== -/
theorem fb_holes : ∀ (m n : Nat) (f : Nat → Nat), (∀ i, i < n → f i < m) → (∀ i j, i < j → j < n → f i ≠ f j) → n ≤ m := by
  intro m
  induction m with
  | zero =>
    intro n f h1 _
    rcases Nat.eq_zero_or_pos n with h | h
    · omega
    · exact absurd (h1 0 h) (Nat.not_lt_zero _)
  | succ m ih =>
    intro n f h1 h2
    by_cases hx : ∃ i, i < n ∧ f i = m
    · obtain ⟨a, ha, hfa⟩ := hx
      have hg := ih (n - 1) (fun i => if i < a then f i else f (i + 1)) (by
        intro i hi
        by_cases q : i < a
        · simp only [if_pos q]
          have b1 := h1 i (by omega)
          have b2 := h2 i a q ha
          omega
        · simp only [if_neg q]
          have b1 := h1 (i + 1) (by omega)
          have b2 := h2 a (i + 1) (by omega) (by omega)
          omega) (by
        intro i j hij hj
        by_cases q : i < a
        · by_cases r : j < a
          · simp only [if_pos q, if_pos r]
            exact h2 i j hij (by omega)
          · simp only [if_pos q, if_neg r]
            exact h2 i (j + 1) (by omega) (by omega)
        · have r : ¬ j < a := by omega
          simp only [if_neg q, if_neg r]
          exact h2 (i + 1) (j + 1) (by omega) (by omega))
      omega
    · have hg := ih n f (fun i hi => by
        have b1 := h1 i hi
        have b2 : f i ≠ m := fun e => hx ⟨i, hi, e⟩
        omega) h2
      omega
/-- two of them in one place -/
theorem fb_twice {m n : Nat} {f : Nat → Nat} (h : ∀ i, i < n → f i < m) (hm : m < n) : ∃ i j, i < j ∧ j < n ∧ f i = f j := by
  refine Classical.byContradiction fun hx => ?_
  have := fb_holes m n f h (fun i j hij hj e => hx ⟨i, j, hij, hj, e⟩)
  omega
/-- as many as places, none twice: each place is taken -/
theorem fb_onto {n : Nat} {f : Nat → Nat} (h : ∀ i, i < n → f i < n) (h2 : ∀ i j, i < j → j < n → f i ≠ f j) {y : Nat} (hy : y < n) : ∃ i, i < n ∧ f i = y := by
  refine Classical.byContradiction fun hx => ?_
  have hne : ∀ i, i < n → f i ≠ y := fun i hi e => hx ⟨i, hi, e⟩
  have := fb_holes (n - 1) n (fun i => if f i < y then f i else f i - 1) (by
    intro i hi
    have b1 := h i hi
    have b2 := hne i hi
    by_cases q : f i < y
    · simp only [if_pos q]; omega
    · simp only [if_neg q]; omega) (by
    intro i j hij hj
    have b1 := hne i (by omega)
    have b2 := hne j hj
    have b3 := h2 i j hij hj
    by_cases q : f i < y
    · by_cases r : f j < y
      · simp only [if_pos q, if_pos r]; exact b3
      · simp only [if_pos q, if_neg r]; omega
    · by_cases r : f j < y
      · simp only [if_neg q, if_pos r]; omega
      · simp only [if_neg q, if_neg r]; omega)
  omega
/-! ===== how many places have a property ===== -/
def fb_ct (p : Nat → Bool) : Nat → Nat
  | 0 => 0
  | n + 1 => fb_ct p n + (if p n then 1 else 0)
theorem fb_ct_succ (p : Nat → Bool) (n : Nat) : fb_ct p (n + 1) = fb_ct p n + (if p n then 1 else 0) := rfl
theorem fb_ct_le (p : Nat → Bool) : ∀ n, fb_ct p n ≤ n
  | 0 => Nat.le_refl _
  | n + 1 => by
    have h := fb_ct_le p n
    rw [fb_ct_succ]
    split <;> omega
theorem fb_ct_step (p : Nat → Bool) (m : Nat) : ∀ n, fb_ct p m ≤ fb_ct p (m + n)
  | 0 => Nat.le_refl _
  | n + 1 => by
    have h := fb_ct_step p m n
    show fb_ct p m ≤ fb_ct p (m + n + 1)
    rw [fb_ct_succ]
    omega
theorem fb_ct_mono (p : Nat → Bool) {m n : Nat} (h : m ≤ n) : fb_ct p m ≤ fb_ct p n := by
  have := fb_ct_step p m (n - m)
  rwa [Nat.add_sub_cancel' h] at this
theorem fb_ct_cong {p q : Nat → Bool} : ∀ {n : Nat}, (∀ k, k < n → p k = q k) → fb_ct p n = fb_ct q n
  | 0, _ => rfl
  | n + 1, h => by
    rw [fb_ct_succ, fb_ct_succ, fb_ct_cong (fun k hk => h k (by omega)), h n (by omega)]
/-- one place changed -/
theorem fb_ct_out (p : Nat → Bool) (b : Bool) {i n : Nat} (h : n ≤ i) : fb_ct (fun k => if k = i then b else p k) n = fb_ct p n :=
  fb_ct_cong fun k hk => if_neg (by omega)
theorem fb_ct_upd (p : Nat → Bool) (b : Bool) {i : Nat} : ∀ {n : Nat}, i < n → fb_ct (fun k => if k = i then b else p k) n + (if p i then 1 else 0) = fb_ct p n + (if b then 1 else 0)
  | 0, h => absurd h (Nat.not_lt_zero i)
  | n + 1, h => by
    rw [fb_ct_succ, fb_ct_succ]
    rcases Nat.lt_or_ge i n with q | q
    · have := fb_ct_upd p b q
      have e : (if n = i then b else p n) = p n := if_neg (by omega)
      rw [e]
      omega
    · have e : i = n := by omega
      subst e
      rw [fb_ct_out p b (Nat.le_refl _)]
      simp only [if_true]
      omega
theorem fb_ct_sub {p q : Nat → Bool} : ∀ {n : Nat}, (∀ k, k < n → p k = true → q k = true) → fb_ct p n ≤ fb_ct q n
  | 0, _ => Nat.le_refl _
  | n + 1, h => by
    have h1 := fb_ct_sub (n := n) (p := p) (q := q) (fun k hk => h k (by omega))
    have h2 := h n (by omega)
    rw [fb_ct_succ, fb_ct_succ]
    cases hp : p n <;> cases hq : q n <;> simp_all <;> omega
theorem fb_ct_or {p q : Nat → Bool} : ∀ {n : Nat}, (∀ k, k < n → ¬ (p k = true ∧ q k = true)) → fb_ct (fun k => p k || q k) n = fb_ct p n + fb_ct q n
  | 0, _ => rfl
  | n + 1, h => by
    have h1 := fb_ct_or (n := n) (p := p) (q := q) (fun k hk => h k (by omega))
    have h2 := h n (by omega)
    rw [fb_ct_succ, fb_ct_succ, fb_ct_succ, h1]
    cases hp : p n <;> cases hq : q n <;> simp_all <;> omega
theorem fb_ct_not (p : Nat → Bool) : ∀ n, fb_ct p n + fb_ct (fun k => !p k) n = n
  | 0 => rfl
  | n + 1 => by
    have h := fb_ct_not p n
    rw [fb_ct_succ, fb_ct_succ]
    cases p n <;> simp <;> omega
theorem fb_ct_split (p : Nat → Bool) (m : Nat) : ∀ n, fb_ct p (m + n) = fb_ct p m + fb_ct (fun k => p (m + k)) n
  | 0 => rfl
  | n + 1 => by
    have h := fb_ct_split p m n
    show fb_ct p (m + n + 1) = _
    rw [fb_ct_succ, fb_ct_succ, h, Nat.add_assoc]
theorem fb_ct_zero {p : Nat → Bool} : ∀ {n : Nat}, fb_ct p n = 0 ↔ ∀ k, k < n → p k = false
  | 0 => ⟨fun _ k hk => absurd hk (Nat.not_lt_zero k), fun _ => rfl⟩
  | n + 1 => by
    have h := fb_ct_zero (p := p) (n := n)
    rw [fb_ct_succ]
    constructor
    · intro e k hk
      have e1 : fb_ct p n = 0 := by omega
      rcases Nat.lt_or_ge k n with q | q
      · exact h.mp e1 k q
      · have ek : k = n := by omega
        subst ek
        cases hp : p k
        · rfl
        · simp [hp] at e
    · intro a
      rw [h.mpr (fun k hk => a k (by omega)), a n (by omega)]
      rfl
theorem fb_ct_pos {p : Nat → Bool} {n : Nat} : 0 < fb_ct p n ↔ ∃ k, k < n ∧ p k = true := by
  constructor
  · intro h
    refine Classical.byContradiction fun hx => ?_
    have := fb_ct_zero.mpr (fun k hk => by
      cases hp : p k
      · rfl
      · exact absurd ⟨k, hk, hp⟩ hx : ∀ k, k < n → p k = false)
    omega
  · rintro ⟨k, hk, hp⟩
    rcases Nat.eq_zero_or_pos (fb_ct p n) with e | e
    · have := fb_ct_zero.mp e k hk
      rw [this] at hp
      cases hp
    · exact e
theorem fb_ct_all {p : Nat → Bool} {n : Nat} : fb_ct p n = n ↔ ∀ k, k < n → p k = true := by
  have h := fb_ct_not p n
  constructor
  · intro e k hk
    have z : fb_ct (fun k => !p k) n = 0 := by omega
    have := fb_ct_zero.mp z k hk
    cases hp : p k
    · simp [hp] at this
    · rfl
  · intro a
    have z : fb_ct (fun k => !p k) n = 0 := fb_ct_zero.mpr (fun k hk => by simp [a k hk])
    omega
/-- the k-th place with the property -/
theorem fb_ct_kth {p : Nat → Bool} {k : Nat} : ∀ {n : Nat}, k < fb_ct p n → ∃ i, i < n ∧ p i = true ∧ fb_ct p i = k
  | 0, h => absurd h (Nat.not_lt_zero k)
  | n + 1, h => by
    rcases Nat.lt_or_ge k (fb_ct p n) with q | q
    · obtain ⟨i, h1, h2⟩ := fb_ct_kth q
      exact ⟨i, by omega, h2⟩
    · rw [fb_ct_succ] at h
      cases hp : p n
      · simp [hp] at h; omega
      · simp [hp] at h
        exact ⟨n, by omega, hp, by omega⟩
theorem fb_ct_kth_one {p : Nat → Bool} {i j : Nat} (hi : p i = true) (hj : p j = true) (e : fb_ct p i = fb_ct p j) : i = j := by
  have key : ∀ a b : Nat, a < b → p a = true → fb_ct p a < fb_ct p b := by
    intro a b hab ha
    have h := fb_ct_mono p (show a + 1 ≤ b from hab)
    rw [fb_ct_succ, ha] at h
    simp at h
    omega
  rcases Nat.lt_trichotomy i j with q | q | q
  · have := key i j q hi; omega
  · exact q
  · have := key j i q hj; omega
/-! ===== sums over a range: one place changed, parts, bounds ===== -/
def fb_sm (f : Nat → Nat) : Nat → Nat
  | 0 => 0
  | n + 1 => fb_sm f n + f n
theorem fb_sm_succ (f : Nat → Nat) (n : Nat) : fb_sm f (n + 1) = fb_sm f n + f n := rfl
theorem fb_sm_cong {f g : Nat → Nat} : ∀ {n : Nat}, (∀ k, k < n → f k = g k) → fb_sm f n = fb_sm g n
  | 0, _ => rfl
  | n + 1, h => by rw [fb_sm_succ, fb_sm_succ, fb_sm_cong (fun k hk => h k (by omega)), h n (by omega)]
theorem fb_sm_out (f : Nat → Nat) (v : Nat) {i n : Nat} (h : n ≤ i) : fb_sm (fun k => if k = i then v else f k) n = fb_sm f n :=
  fb_sm_cong fun k hk => if_neg (by omega)
theorem fb_sm_upd (f : Nat → Nat) (v : Nat) {i : Nat} : ∀ {n : Nat}, i < n → fb_sm (fun k => if k = i then v else f k) n + f i = fb_sm f n + v
  | 0, h => absurd h (Nat.not_lt_zero i)
  | n + 1, h => by
    rw [fb_sm_succ, fb_sm_succ]
    rcases Nat.lt_or_ge i n with q | q
    · have := fb_sm_upd f v q
      have e : (if n = i then v else f n) = f n := if_neg (by omega)
      rw [e]
      omega
    · have e : i = n := by omega
      subst e
      rw [fb_sm_out f v (Nat.le_refl _)]
      simp only [if_true]
      omega
theorem fb_sm_add (f g : Nat → Nat) : ∀ n, fb_sm (fun k => f k + g k) n = fb_sm f n + fb_sm g n
  | 0 => rfl
  | n + 1 => by
    have h := fb_sm_add f g n
    rw [fb_sm_succ, fb_sm_succ, fb_sm_succ, h]
    omega
theorem fb_sm_le {f g : Nat → Nat} : ∀ {n : Nat}, (∀ k, k < n → f k ≤ g k) → fb_sm f n ≤ fb_sm g n
  | 0, _ => Nat.le_refl _
  | n + 1, h => by
    have h1 := fb_sm_le (n := n) (f := f) (g := g) (fun k hk => h k (by omega))
    have h2 := h n (by omega)
    rw [fb_sm_succ, fb_sm_succ]
    omega
theorem fb_sm_const (c : Nat) : ∀ n, fb_sm (fun _ => c) n = n * c
  | 0 => by rw [Nat.zero_mul]; rfl
  | n + 1 => by rw [fb_sm_succ, fb_sm_const c n, Nat.succ_mul]
theorem fb_sm_bound {f : Nat → Nat} {c n : Nat} (h : ∀ k, k < n → f k ≤ c) : fb_sm f n ≤ n * c := by
  rw [← fb_sm_const c n]
  exact fb_sm_le h
theorem fb_sm_mono (f : Nat → Nat) (m : Nat) : ∀ n, fb_sm f m ≤ fb_sm f (m + n)
  | 0 => Nat.le_refl _
  | n + 1 => by
    have h := fb_sm_mono f m n
    show fb_sm f m ≤ fb_sm f (m + n + 1)
    rw [fb_sm_succ]
    omega
theorem fb_sm_part (f : Nat → Nat) {i n : Nat} (h : i < n) : fb_sm f i + f i ≤ fb_sm f n := by
  have := fb_sm_mono f (i + 1) (n - (i + 1))
  rw [fb_sm_succ, show i + 1 + (n - (i + 1)) = n by omega] at this
  exact this
theorem fb_sm_split (f : Nat → Nat) (m : Nat) : ∀ n, fb_sm f (m + n) = fb_sm f m + fb_sm (fun k => f (m + k)) n
  | 0 => rfl
  | n + 1 => by
    have h := fb_sm_split f m n
    show fb_sm f (m + n + 1) = _
    rw [fb_sm_succ, fb_sm_succ, h, Nat.add_assoc]
theorem fb_sm_zero {f : Nat → Nat} {n : Nat} (h : fb_sm f n = 0) : ∀ k, k < n → f k = 0 := fun k hk => by
  have := fb_sm_part f hk
  omega
/-- the same over whole numbers -/
def fb_si (f : Nat → Int) : Nat → Int
  | 0 => 0
  | n + 1 => fb_si f n + f n
theorem fb_si_succ (f : Nat → Int) (n : Nat) : fb_si f (n + 1) = fb_si f n + f n := rfl
theorem fb_si_cong {f g : Nat → Int} : ∀ {n : Nat}, (∀ k, k < n → f k = g k) → fb_si f n = fb_si g n
  | 0, _ => rfl
  | n + 1, h => by rw [fb_si_succ, fb_si_succ, fb_si_cong (fun k hk => h k (by omega)), h n (by omega)]
theorem fb_si_out (f : Nat → Int) (v : Int) {i n : Nat} (h : n ≤ i) : fb_si (fun k => if k = i then v else f k) n = fb_si f n :=
  fb_si_cong fun k hk => if_neg (by omega)
theorem fb_si_upd (f : Nat → Int) (v : Int) {i : Nat} : ∀ {n : Nat}, i < n → fb_si (fun k => if k = i then v else f k) n = fb_si f n - f i + v
  | 0, h => absurd h (Nat.not_lt_zero i)
  | n + 1, h => by
    rw [fb_si_succ, fb_si_succ]
    rcases Nat.lt_or_ge i n with q | q
    · have := fb_si_upd f v q
      have e : (if n = i then v else f n) = f n := if_neg (by omega)
      rw [e]
      omega
    · have e : i = n := by omega
      subst e
      rw [fb_si_out f v (Nat.le_refl _)]
      simp only [if_true]
      omega
theorem fb_si_add (f g : Nat → Int) : ∀ n, fb_si (fun k => f k + g k) n = fb_si f n + fb_si g n
  | 0 => rfl
  | n + 1 => by
    have h := fb_si_add f g n
    rw [fb_si_succ, fb_si_succ, fb_si_succ, h]
    omega
theorem fb_si_sub (f g : Nat → Int) : ∀ n, fb_si (fun k => f k - g k) n = fb_si f n - fb_si g n
  | 0 => rfl
  | n + 1 => by
    have h := fb_si_sub f g n
    rw [fb_si_succ, fb_si_succ, fb_si_succ, h]
    omega
theorem fb_si_mul (c : Int) (f : Nat → Int) : ∀ n, fb_si (fun k => c * f k) n = c * fb_si f n
  | 0 => (Int.mul_zero c).symm
  | n + 1 => by
    have h := fb_si_mul c f n
    rw [fb_si_succ, fb_si_succ, h, Int.mul_add]
theorem fb_si_split (f : Nat → Int) (m : Nat) : ∀ n, fb_si f (m + n) = fb_si f m + fb_si (fun k => f (m + k)) n
  | 0 => (Int.add_zero _).symm
  | n + 1 => by
    have h := fb_si_split f m n
    show fb_si f (m + n + 1) = _
    rw [fb_si_succ, fb_si_succ, h, Int.add_assoc]
theorem fb_si_nat (f : Nat → Nat) : ∀ n, fb_si (fun k => (f k : Int)) n = (fb_sm f n : Int)
  | 0 => rfl
  | n + 1 => by
    have h := fb_si_nat f n
    rw [fb_si_succ, fb_sm_succ, h]
    omega
theorem fb_si_bound {f : Nat → Int} {c : Int} (hc : 0 ≤ c) : ∀ {n : Nat}, (∀ k, k < n → -c ≤ f k ∧ f k ≤ c) → -(n * c) ≤ fb_si f n ∧ fb_si f n ≤ n * c
  | 0, _ => by simp [fb_si]
  | n + 1, h => by
    have h1 := fb_si_bound (n := n) (f := f) hc (fun k hk => h k (by omega))
    have h2 := h n (by omega)
    have e : ((n + 1 : Nat) : Int) * c = n * c + c := by rw [Int.natCast_add, Int.add_mul]; simp
    rw [fb_si_succ, e]
    omega
/-! ===== bits of a long that isn't negative ===== -/
theorem fb_andL (a b : Nat) : lN a &&& lN b = lN (a &&& b) := by
  apply Int64.toBitVec_inj.1
  show BitVec.ofNat 64 a &&& BitVec.ofNat 64 b = BitVec.ofNat 64 (a &&& b)
  apply BitVec.eq_of_getLsbD_eq
  intro i hi
  simp [hi]
theorem fb_orL (a b : Nat) : lN a ||| lN b = lN (a ||| b) := by
  apply Int64.toBitVec_inj.1
  show BitVec.ofNat 64 a ||| BitVec.ofNat 64 b = BitVec.ofNat 64 (a ||| b)
  apply BitVec.eq_of_getLsbD_eq
  intro i hi
  simp [hi]
theorem fb_xorL (a b : Nat) : lN a ^^^ lN b = lN (a ^^^ b) := by
  apply Int64.toBitVec_inj.1
  show BitVec.ofNat 64 a ^^^ BitVec.ofNat 64 b = BitVec.ofNat 64 (a ^^^ b)
  apply BitVec.eq_of_getLsbD_eq
  intro i hi
  simp [hi]
theorem fb_xorI (a b : Nat) : nI a ^^^ nI b = nI (a ^^^ b) := by
  apply Int32.toBitVec_inj.1
  show BitVec.ofNat 32 a ^^^ BitVec.ofNat 32 b = BitVec.ofNat 32 (a ^^^ b)
  apply BitVec.eq_of_getLsbD_eq
  intro i hi
  simp [hi]
theorem fb_maskL (n k : Nat) : lN n &&& lN (2 ^ k - 1) = lN (n % 2 ^ k) := by rw [fb_andL, Nat.and_two_pow_sub_one_eq_mod]
theorem fb_or_sumL {a k : Nat} (b : Nat) (h : a < 2 ^ k) : lN (2 ^ k * b) ||| lN a = lN (2 ^ k * b + a) := by rw [fb_orL, Nat.two_pow_add_eq_or_of_lt h]
theorem fb_lN_inj {a b : Nat} (ha : a < 2 ^ 63) (hb : b < 2 ^ 63) : lN a = lN b ↔ a = b := by
  constructor
  · intro h
    have h1 : (BitVec.ofNat 64 a).toNat = (BitVec.ofNat 64 b).toNat := congrArg (fun x : Int64 => x.toBitVec.toNat) h
    rw [BitVec.toNat_ofNat, BitVec.toNat_ofNat, Nat.mod_eq_of_lt (by omega), Nat.mod_eq_of_lt (by omega)] at h1
    exact h1
  · rintro rfl; rfl
theorem fb_bit_nat (n j : Nat) : n &&& 2 ^ j = 0 ↔ n.testBit j = false := by
  constructor
  · intro h
    have h1 : (n &&& 2 ^ j).testBit j = false := by rw [h]; simp
    rw [Nat.testBit_and] at h1
    simpa using h1
  · intro h
    apply Nat.eq_of_testBit_eq
    intro i
    rw [Nat.testBit_and]
    by_cases hi : j = i
    · subst hi; simp [h]
    · first | (simp [Nat.testBit_two_pow, hi]; done) | (simp [Nat.testBit_two_pow_of_ne hi]; done)
/-- one bit of a long -/
theorem fb_bitL {n j : Nat} (hj : j < 63) : lN n &&& lN (2 ^ j) = 0 ↔ n.testBit j = false := by
  have h2 : (2 : Nat) ^ j < 2 ^ 63 := Nat.pow_lt_pow_right (by decide) hj
  have hle : n &&& 2 ^ j ≤ 2 ^ j := Nat.and_le_right
  rw [fb_andL, ← fb_bit_nat, show (0 : Int64) = lN 0 from rfl]
  exact fb_lN_inj (by omega) (by decide)
/-- a bit set, a bit taken off -/
theorem fb_bit_set (n j i : Nat) : (n ||| 2 ^ j).testBit i = (n.testBit i || decide (i = j)) := by
  rw [Nat.testBit_or]
  by_cases h : j = i
  · subst h; simp
  · have h2 : ¬ i = j := fun e => h e.symm
    first | (simp [Nat.testBit_two_pow, h, h2]; done) | (simp [Nat.testBit_two_pow_of_ne h, h2]; done)
theorem fb_bit_flip (n j i : Nat) : (n ^^^ 2 ^ j).testBit i = (n.testBit i ^^ decide (i = j)) := by
  rw [Nat.testBit_xor]
  by_cases h : j = i
  · subst h; simp
  · have h2 : ¬ i = j := fun e => h e.symm
    first | (simp [Nat.testBit_two_pow, h, h2]; done) | (simp [Nat.testBit_two_pow_of_ne h, h2]; done)
/-! ===== a stretch of an array written over by a function ===== -/
def fb_put {α : Type} (f g : Nat → α) (a n : Nat) : Nat → α := fun k => if a ≤ k ∧ k < a + n then g (k - a) else f k
theorem fb_put_0 {α : Type} (f g : Nat → α) (a : Nat) : fb_put f g a 0 = f := funext fun k => if_neg (by omega)
theorem fb_put_in {α : Type} {f g : Nat → α} {a n k : Nat} (h1 : a ≤ k) (h2 : k < a + n) : fb_put f g a n k = g (k - a) := if_pos ⟨h1, h2⟩
theorem fb_put_out {α : Type} {f g : Nat → α} {a n k : Nat} (h : k < a ∨ a + n ≤ k) : fb_put f g a n k = f k := if_neg (by omega)
theorem fb_put_succ (f g : Nat → Int32) (a n : Nat) : upd (fb_put f g a n) (a + n) (g n) = fb_put f g a (n + 1) := by
  funext k
  by_cases h : k = a + n
  · subst h
    simp [upd, fb_put]
  · by_cases h1 : a ≤ k ∧ k < a + n
    · have h2 : a ≤ k ∧ k < a + (n + 1) := by omega
      simp only [upd, fb_put, if_neg h, if_pos h1, if_pos h2]
    · have h2 : ¬ (a ≤ k ∧ k < a + (n + 1)) := by omega
      simp only [upd, fb_put, if_neg h, if_neg h1, if_neg h2]
/-- .. from the far end down -/
theorem fb_put_down (f g : Nat → Int32) {a n m : Nat} (h : m < n) : upd (fb_put f (fun k => g (k + (m + 1))) (a + (m + 1)) (n - (m + 1))) (a + m) (g m) = fb_put f (fun k => g (k + m)) (a + m) (n - m) := by
  funext k
  by_cases h0 : k = a + m
  · subst h0
    simp only [upd, if_true]
    rw [fb_put_in (by omega) (by omega)]
    exact congrArg g (by omega)
  · simp only [upd, if_neg h0]
    by_cases h1 : a + (m + 1) ≤ k ∧ k < a + (m + 1) + (n - (m + 1))
    · rw [fb_put_in h1.1 h1.2, fb_put_in (by omega) (by omega)]
      exact congrArg g (by omega)
    · rw [fb_put_out (by omega), fb_put_out (by omega)]
theorem fb_put_cong {α : Type} {f f2 g g2 : Nat → α} {a n : Nat} (hf : ∀ k, (k < a ∨ a + n ≤ k) → f k = f2 k) (hg : ∀ k, k < n → g k = g2 k) : fb_put f g a n = fb_put f2 g2 a n := by
  funext k
  by_cases h : a ≤ k ∧ k < a + n
  · rw [fb_put_in h.1 h.2, fb_put_in h.1 h.2, hg _ (by omega)]
  · rw [fb_put_out (by omega), fb_put_out (by omega), hf _ (by omega)]
/-! ===== the least, the first, the best so far; that there is one alone ===== -/
theorem fb_first {p : Nat → Prop} [DecidablePred p] : ∀ {n : Nat}, (∃ i, i < n ∧ p i) → ∃ i, i < n ∧ p i ∧ ∀ j, j < i → ¬ p j
  | 0, h => by obtain ⟨i, hi, -⟩ := h; exact absurd hi (Nat.not_lt_zero i)
  | n + 1, h => by
    by_cases q : ∃ i, i < n ∧ p i
    · obtain ⟨i, h1, h2⟩ := fb_first q
      exact ⟨i, by omega, h2⟩
    · obtain ⟨i, h1, h2⟩ := h
      have e : i = n := by
        rcases Nat.lt_or_ge i n with r | r
        · exact absurd ⟨i, r, h2⟩ q
        · omega
      subst e
      exact ⟨i, by omega, h2, fun j hj hp => q ⟨j, hj, hp⟩⟩
theorem fb_first_one {p : Nat → Prop} {i j : Nat} (hi : p i) (hi2 : ∀ k, k < i → ¬ p k) (hj : p j) (hj2 : ∀ k, k < j → ¬ p k) : i = j := by
  rcases Nat.lt_trichotomy i j with q | q | q
  · exact absurd hi (hj2 i q)
  · exact q
  · exact absurd hj (hi2 j q)
theorem fb_last {p : Nat → Prop} [DecidablePred p] : ∀ {n : Nat}, (∃ i, i < n ∧ p i) → ∃ i, i < n ∧ p i ∧ ∀ j, i < j → j < n → ¬ p j
  | 0, h => by obtain ⟨i, hi, -⟩ := h; exact absurd hi (Nat.not_lt_zero i)
  | n + 1, h => by
    by_cases q : p n
    · exact ⟨n, by omega, q, fun j h1 h2 => by omega⟩
    · obtain ⟨i, h1, h2⟩ := h
      have hi : i < n := by
        rcases Nat.lt_or_ge i n with r | r
        · exact r
        · have e : i = n := by omega
          subst e
          exact absurd h2 q
      obtain ⟨i2, a1, a2, a3⟩ := fb_last (n := n) ⟨i, hi, h2⟩
      refine ⟨i2, by omega, a2, fun j b1 b2 => ?_⟩
      rcases Nat.lt_or_ge j n with r | r
      · exact a3 j b1 r
      · have e : j = n := by omega
        subst e
        exact q
/-- the first greatest -/
theorem fb_best (f : Nat → Int) : ∀ {n : Nat}, 0 < n → ∃ i, i < n ∧ (∀ j, j < n → f j ≤ f i) ∧ ∀ j, j < i → f j < f i
  | 0, h => absurd h (Nat.lt_irrefl 0)
  | 1, _ => ⟨0, by omega, fun j hj => by have e : j = 0 := by omega
                                         subst e; exact Int.le_refl _, fun j hj => absurd hj (Nat.not_lt_zero j)⟩
  | n + 2, _ => by
    obtain ⟨i, h1, h2, h3⟩ := fb_best f (n := n + 1) (by omega)
    by_cases q : f i < f (n + 1)
    · refine ⟨n + 1, by omega, fun j hj => ?_, fun j hj => ?_⟩
      · rcases Nat.lt_or_ge j (n + 1) with r | r
        · have := h2 j r; omega
        · have e : j = n + 1 := by omega
          subst e; exact Int.le_refl _
      · have := h2 j hj; omega
    · refine ⟨i, by omega, fun j hj => ?_, h3⟩
      rcases Nat.lt_or_ge j (n + 1) with r | r
      · exact h2 j r
      · have e : j = n + 1 := by omega
        subst e; omega
theorem fb_best_one {f : Nat → Int} {n i j : Nat} (hi : i < n) (hi2 : ∀ k, k < n → f k ≤ f i) (hi3 : ∀ k, k < i → f k < f i) (hj : j < n) (hj2 : ∀ k, k < n → f k ≤ f j) (hj3 : ∀ k, k < j → f k < f j) : i = j := by
  rcases Nat.lt_trichotomy i j with q | q | q
  · have a := hj3 i q
    have b := hi2 j hj
    omega
  · exact q
  · have a := hi3 j q
    have b := hj2 i hi
    omega
/-- the first least -/
theorem fb_low (f : Nat → Int) {n : Nat} (h : 0 < n) : ∃ i, i < n ∧ (∀ j, j < n → f i ≤ f j) ∧ ∀ j, j < i → f i < f j := by
  obtain ⟨i, h1, h2, h3⟩ := fb_best (fun k => -f k) h
  exact ⟨i, h1, fun j hj => by have := h2 j hj; omega, fun j hj => by have := h3 j hj; omega⟩
/-! ===== signed ints as whole numbers, within bounds ===== -/
theorem fb_rng (x : Int32) : -2147483648 ≤ x.toInt ∧ x.toInt < 2147483648 := by
  have h1 := Int32.le_toInt x
  have h2 := Int32.toInt_lt x
  omega
theorem fb_bmod {z : Int} (h1 : -2147483648 ≤ z) (h2 : z < 2147483648) : z.bmod (2 ^ 32) = z := by
  rw [Int.bmod_eq_of_le (by omega) (by omega)]
theorem fb_addI {x y : Int32} (h1 : -2147483648 ≤ x.toInt + y.toInt) (h2 : x.toInt + y.toInt < 2147483648) : (x + y).toInt = x.toInt + y.toInt := by
  rw [Int32.toInt_add, fb_bmod h1 h2]
theorem fb_subI {x y : Int32} (h1 : -2147483648 ≤ x.toInt - y.toInt) (h2 : x.toInt - y.toInt < 2147483648) : (x - y).toInt = x.toInt - y.toInt := by
  rw [Int32.toInt_sub, fb_bmod h1 h2]
theorem fb_mulI {x y : Int32} (h1 : -2147483648 ≤ x.toInt * y.toInt) (h2 : x.toInt * y.toInt < 2147483648) : (x * y).toInt = x.toInt * y.toInt := by
  rw [Int32.toInt_mul, fb_bmod h1 h2]
theorem fb_negI {x : Int32} (h : x.toInt ≠ -2147483648) : (-x).toInt = -x.toInt := by
  have := fb_rng x
  rw [Int32.toInt_neg, fb_bmod (by omega) (by omega)]
theorem fb_ofI {z : Int} (h1 : -2147483648 ≤ z) (h2 : z < 2147483648) : (Int32.ofInt z).toInt = z := by
  rw [Int32.toInt_ofInt, fb_bmod h1 h2]
theorem fb_asI (x : Int32) : Int32.ofInt x.toInt = x := Int32.ofInt_toInt x
theorem fb_rngL (x : Int64) : -9223372036854775808 ≤ x.toInt ∧ x.toInt < 9223372036854775808 := by
  have h1 := Int64.le_toInt x
  have h2 := Int64.toInt_lt x
  omega
theorem fb_bmodL {z : Int} (h1 : -9223372036854775808 ≤ z) (h2 : z < 9223372036854775808) : z.bmod (2 ^ 64) = z := by
  rw [Int.bmod_eq_of_le (by omega) (by omega)]
theorem fb_addL {x y : Int64} (h1 : -9223372036854775808 ≤ x.toInt + y.toInt) (h2 : x.toInt + y.toInt < 9223372036854775808) : (x + y).toInt = x.toInt + y.toInt := by
  rw [Int64.toInt_add, fb_bmodL h1 h2]
theorem fb_subL {x y : Int64} (h1 : -9223372036854775808 ≤ x.toInt - y.toInt) (h2 : x.toInt - y.toInt < 9223372036854775808) : (x - y).toInt = x.toInt - y.toInt := by
  rw [Int64.toInt_sub, fb_bmodL h1 h2]
theorem fb_mulL {x y : Int64} (h1 : -9223372036854775808 ≤ x.toInt * y.toInt) (h2 : x.toInt * y.toInt < 9223372036854775808) : (x * y).toInt = x.toInt * y.toInt := by
  rw [Int64.toInt_mul, fb_bmodL h1 h2]
/-! ===== cuts of what is narrow already ===== -/
theorem fb_byte {x : Int32} (h1 : -128 ≤ x.toInt) (h2 : x.toInt < 128) : x.toInt8.toInt32 = x := by
  apply Int32.toInt_inj.1
  rw [Int8.toInt_toInt32, Int32.toInt_toInt8, Int.bmod_eq_of_le (by omega) (by omega)]
theorem fb_short {x : Int32} (h1 : -32768 ≤ x.toInt) (h2 : x.toInt < 32768) : x.toInt16.toInt32 = x := by
  apply Int32.toInt_inj.1
  rw [Int16.toInt_toInt32, Int32.toInt_toInt16, Int.bmod_eq_of_le (by omega) (by omega)]
theorem fb_byte_rng (x : Int32) : -128 ≤ x.toInt8.toInt32.toInt ∧ x.toInt8.toInt32.toInt < 128 := by
  rw [Int8.toInt_toInt32]
  have h1 := Int8.le_toInt x.toInt8
  have h2 := Int8.toInt_lt x.toInt8
  omega
theorem fb_short_rng (x : Int32) : -32768 ≤ x.toInt16.toInt32.toInt ∧ x.toInt16.toInt32.toInt < 32768 := by
  rw [Int16.toInt_toInt32]
  have h1 := Int16.le_toInt x.toInt16
  have h2 := Int16.toInt_lt x.toInt16
  omega
theorem fb_byte_twice (x : Int32) : x.toInt8.toInt32.toInt8.toInt32 = x.toInt8.toInt32 := fb_byte (fb_byte_rng x).1 (fb_byte_rng x).2
theorem fb_short_twice (x : Int32) : x.toInt16.toInt32.toInt16.toInt32 = x.toInt16.toInt32 := fb_short (fb_short_rng x).1 (fb_short_rng x).2
theorem fb_char {n : Nat} (h : n < 65536) : (nI n).toUInt32.toUInt16.toUInt32.toInt32 = nI n := by
  apply Int32.toBitVec_inj.1
  apply BitVec.eq_of_toNat_eq
  have e1 : (nI n).toBitVec.toNat = n := by
    show (BitVec.ofNat 32 n).toNat = n
    rw [BitVec.toNat_ofNat, Nat.mod_eq_of_lt (by omega)]
  have e2 : ((nI n).toUInt32.toUInt16.toUInt32).toNat = n := by
    rw [UInt16.toNat_toUInt32, UInt32.toNat_toUInt16]
    show (nI n).toBitVec.toNat % 2 ^ 16 = n
    rw [e1, Nat.mod_eq_of_lt (by omega)]
  rw [e1]
  exact e2
end
section
/-! THE MACHINE LAYER, part e: String constants: i < 5 is the constant 1000 + i, its bytes 1010 + i -/
section GS
variable {l : Launch} {α : Nat → Nat} {D : va_G} {cA : Nat → ClassId} {μ ν : MI} {sc : Option (Nat × (Nat → Int32))} {d : Nat} {Q : AV → Mem → Prop} {pc : Nat} {L : List (Option AV)} {S : List AV} {M : Mem}
theorem G_ldcS {i idx : Nat} (hd : decode μ.2.1 pc = .ok (.ldc idx, 2)) (hμ : μ.1.cls = RX4) (hi : i < 5) (hx : sidx i = idx) (kk : G l α D cA μ sc d Q (pc + 2) L (.inr (1000 + i) :: S) M) : G l α D cA μ sc d Q pc L S M := by
  subst hx
  intro p e s m args below meth c A cells slots R Qf C H locs ls hP hS hL
  exact va_ldcS C.1.1 C.1.2.1 C.1.2.2.2.1 (by rw [hμ]; exact C.2.2.2.2.2.1.2.1 i hi) hd (kk p e s m args below meth c A cells slots R Qf C H locs ls hP hS hL)
theorem G_sVal {i : Nat} (hd : decode μ.2.1 pc = .ok (.getfield 9, 3)) (hμ : μ.1.cls = RJ0) (hi : i < 5) (kk : G l α D cA μ sc d Q (pc + 3) L (.inr (1010 + i) :: S) M) : G l α D cA μ sc d Q pc L (.inr (1000 + i) :: S) M := by
  intro p e s m args below meth c A cells slots R Qf C H locs ls hP hS hL
  exact vk_getf C.1.1 C.1.2.1 (C.2.2.2.2.2.1.1.1 i hi).2.2.1 hS C.1.2.2.2.1 (C.1.2.2.2.2 _ (by rw [hμ]; exact q_s9)) (fun _ h => h) hd (kk p e s m args below meth c A cells slots R Qf C H locs ls hP hS hL)
theorem G_sCod {i : Nat} (hd : decode μ.2.1 pc = .ok (.getfield 15, 3)) (hμ : μ.1.cls = RJ0) (hi : i < 5) (kk : G l α D cA μ sc d Q (pc + 3) L (.inl (nI 0) :: S) M) : G l α D cA μ sc d Q pc L (.inr (1000 + i) :: S) M := by
  intro p e s m args below meth c A cells slots R Qf C H locs ls hP hS hL
  exact vk_getf C.1.1 C.1.2.1 (C.2.2.2.2.2.1.1.1 i hi).2.1 hS C.1.2.2.2.1 (C.1.2.2.2.2 _ (by rw [hμ]; exact q_s15)) (fun _ h => h) hd (kk p e s m args below meth c A cells slots R Qf C H locs ls hP hS hL)
theorem G_sCmp (hd : decode μ.2.1 pc = .ok (.getstatic 38, 3)) (hμ : μ.1.cls = RJ0) (kk : G l α D cA μ sc d Q (pc + 3) L (.inl (nI 1) :: S) M) : G l α D cA μ sc d Q pc L S M := by
  intro p e s m args below meth c A cells slots R Qf C H locs ls hP hS hL
  exact va_gets C.1.1 C.1.2.1 C.2.2.2.2.2.1.2.2.1 hS C.1.2.2.2.1 (C.1.2.2.2.2 _ (by rw [hμ]; exact q_s38)) (fun _ h => h) hd (kk p e s m args below meth c A cells slots R Qf C H locs ls hP hS hL)
theorem G_sLen {i : Nat} {v : Int32} (hd : decode μ.2.1 pc = .ok (.arraylength, 1)) (hi : i < 5) (hv : nI (slen.getD i 0) = v) (kk : G l α D cA μ sc d Q (pc + 1) L (.inl v :: S) M) : G l α D cA μ sc d Q pc L (.inr (1010 + i) :: S) M := by
  intro p e s m args below meth c A cells slots R Qf C H locs ls hP hS hL
  exact va_tlen C.1.1 C.1.2.1 (C.2.2.2.2.2.1.1.1 i hi).2.2.2 hS hv hd (kk p e s m args below meth c A cells slots R Qf C H locs ls hP hS hL)
theorem G_sByt {i j : Nat} (hd : decode μ.2.1 pc = .ok (.baload, 1)) (hi : i < 5) (hj : j < slen.getD i 0) (kk : G l α D cA μ sc d Q (pc + 1) L (.inl ((sbyt.getD i []).getD j 0) :: S) M) : G l α D cA μ sc d Q pc L (.inl (nI j) :: .inr (1010 + i) :: S) M := by
  have hl : ∀ i, i < 5 → slen.getD i 0 ≤ 4 := by decide
  have h4 := hl i hi
  intro p e s m args below meth c A cells slots R Qf C H locs ls hP hS hL
  exact va_tb (i := nI j) C.1.1 C.1.2.1 (C.2.2.2.2.2.1.1.1 i hi).2.2.2 hS (vp_in_nI hj (by omega)) (v := .int ((sbyt.getD i []).getD j 0)) (by rw [nI_clamp (by omega)]) hd (kk p e s m args below meth c A cells slots R Qf C H locs ls hP hS hL)
/-- Preconditions.checkIndex(i, n, anything), in range -/
theorem m_pcheck (l : Launch) (d : Nat) (i n : Int32) (v : Value) (h0 : ¬ i < 0) (h1 : i < n) : Met l uJ3_checkIndex_8e157.1 (wsM uJ3_checkIndex_8e157) (rmD d) (va_Pc [.int i, .int n, v] (fun _ => True)) (fun _ st oc t => oc = .returned (some (.int i)) ∧ t.heap = st.heap) 0 0 (fun _ => False) := by
  refine Met.ofW (cc := cJ3_checkIndex_8e157) (maxL := 3) (ret := some .int) (by decide) rfl ?_
  intro p e s m args below meth c s₁ B hml hv
  obtain ⟨rfl, -⟩ := hv
  have hx := B.exec
  have hb := B.bytes
  have hr := B.returns
  have hlocks := B.notSynchronized
  rw [lg_entry_eq]
  generalize hls : (lg_sl ([.int i, .int n, v]) ++ List.replicate (3 - (lg_sl ([.int i, .int n, v])).length) Slot.unset).toArray = ls
  have g0 : ls[0]? = some (.val (.int i)) := by rw [← hls]; rfl
  have g1 : ls[1]? = some (.val (.int n)) := by rw [← hls]; rfl
  refine lv_iload_n hx hb dJ3_checkIndex_8e157_0 rfl g0 ?_
  refine lv_if_lt (tgt := 9) hx hb dJ3_checkIndex_8e157_1 (by decide) (fun h => absurd h h0) (fun _ => ?_)
  refine lv_iload_n hx hb dJ3_checkIndex_8e157_4 rfl g0 ?_
  refine lv_iload_n hx hb dJ3_checkIndex_8e157_5 rfl g1 ?_
  refine lv_icmp_lt (tgt := 16) hx hb dJ3_checkIndex_8e157_6 (by decide) (fun _ => ?_) (fun h => absurd h1 h)
  refine lv_iload_n hx hb dJ3_checkIndex_8e157_16 rfl g0 ?_
  exact W.iret hx hb hr (fun t ht _ => ⟨rfl, ht⟩) (fun q h => by cases h) dJ3_checkIndex_8e157_17
theorem G_chk {i n : Int32} (hd1 : decode μ.2.1 pc = .ok (.getstatic 1053, 3)) (hd2 : decode μ.2.1 (pc + 3) = .ok (.invokestatic 1059, 3)) (hμ : μ.1.cls = RJ0) (h0 : ¬ i < 0) (h1 : i < n) (hSl : S.length ≤ 8) (kk : G l α D cA μ sc (d + 1) Q (pc + 6) L (.inl i :: S) M) : G l α D cA μ sc (d + 1) Q pc L (.inl n :: .inl i :: S) M := by
  intro p e s m args below meth c A cells slots R Qf C H locs ls hP hS hL
  obtain ⟨⟨hx, hb, hml, hown, hts⟩, hK, hi, hA1, hA2, hF, ⟨r1, r2, r3, r4⟩, hsc, hfin⟩ := id C
  have key : ∀ v : Value, W p l e R s m args below meth c H locs cells slots Qf (F0 m (pc + 3) ls (v :: .int n :: .int i :: S.map (cv α))) := by
    intro v
    have hl : Cond.methodLink μ.1.cls 1059 uJ3_checkIndex_8e157.1 ∈ TG := by
      rw [hμ]
      rcases nJ0_1059 with h | ⟨host, h⟩
      · exact h
      · exact nJ0_1059g
    have run : va_Run p l e R s m args below meth c H locs cells slots 0 0 (F0 m (pc + 3) ls (v :: .int n :: .int i :: S.map (cv α))) (S.map (cv α)) ((fun _ st oc t => oc = .returned (some (.int i)) ∧ t.heap = st.heap : Array Value → State → Outcome → State → Prop) ([.int i, .int n, v] : List Value).toArray) (fun _ => False) :=
      va_runS (As := [.int i, .int n, v]) (rest := S.map (cv α)) (index := 1059) ⟨hx, hb, hml, hown, hts⟩ (m_pcheck l d i n v h0 h1) ⟨callB_of 3 hts (goodIn_wsM kJ3_checkIndex_8e157.1) rfl rfl rfl (hts _ kJ3_checkIndex_8e157.1.2.1) (hts _ hl) kJ3_checkIndex_8e157.1.2.2.1 ⟨r1, by show 8 + (3 + 11) + 36 * d ≤ R.locals; omega⟩, hts _ kJ3_checkIndex_8e157.2⟩ ⟨fun _ _ _ _ q => q, fun _ _ _ => ⟨rfl, trivial⟩⟩ rfl rfl hL.1 rfl (by rw [cv_sum]; show 2 * 0 + _ ≤ 8; omega) hd2 ⟨r3, r4⟩
    intro T hT X
    obtain ⟨v', st₀, t, T', L', hh0, X', hLL, e1, e2, ⟨hv0, hq⟩, stp⟩ := run T hT X
    cases hv0
    have eH : T'.heap = H := by rw [e1, hq, hh0]
    obtain ⟨t2, a1, b1⟩ := kk p e s m args below meth c A cells slots R Qf C H (locs ++ L') ls hP ⟨hS.1, hS.2.1, fun q hq => by
      rcases List.mem_append.mp hq with h | h
      · exact hS.2.2 q h
      · exact (hLL q h).elim⟩ hL T' eH X'
    exact ⟨t2, stp t2 a1, b1⟩
  rcases hF.2.2.2.1 with hZ | ⟨t, hZ⟩
  · exact va_gets hx hb hZ hS hown (hts _ (by rw [hμ]; exact q_s1053)) (fun _ h => h) hd1 (key _)
  · exact va_gets hx hb hZ hS hown (hts _ (by rw [hμ]; exact q_s1053)) (fun _ h => h) hd1 (key _)
set_option maxHeartbeats 1000000 in
/-- a call on a String constant -/
theorem G_callK {As st : List AV} {i idx : Nat} {ty : FieldType} {Q2 : AV → Mem → Prop} (hd : decode μ.2.1 pc = .ok (.invokevirtual idx, 3)) (hl : Cond.methodLink μ.1.cls idx ν.1 ∈ TG) (hv : MV ν) (hi5 : i < 5) (hc : ν.1.cls = RJ0) (hr : ν.2.2.2.1 = some ty) (hn : As.length = ν.2.2.2.2) (hst : st = As.reverse ++ .inr (1000 + i) :: S) (hSl : S.length ≤ 8) (hk : Call l α D cA ν d (.inr (1000 + i) :: As) M Q2)
    (kk : ∀ (r : AV) (M' : Mem), Q2 r M' → G l α D cA μ sc (d + 1) Q (pc + 3) L (r :: S) M') : G l α D cA μ sc (d + 1) Q pc L st M := by
  subst hst
  intro p e s m args below meth c A cells slots R Qf C H locs ls hP hS hL
  obtain ⟨⟨hx, hb, hml, hown, hts⟩, hK, hi, hA1, hA2, hF, ⟨r1, r2, r3, r4⟩, hsc, hfin⟩ := id C
  have hFA : ∀ q, AA α H.size q → A q := fun q h => by
    rcases h with ⟨i, h1, rfl⟩ | h
    · exact hA1 i h1
    · exact hA2 q (Nat.le_trans hS.1 h)
  have run : va_Run p l e R s m args below meth c H locs cells slots 0 0 (F0 m pc ls ((As.reverse ++ .inr (1000 + i) :: S).map (cv α))) (S.map (cv α)) (QcM α D cA ν.2.2.2.1 Q2 (AA α H.size) ((.inr (1000 + i) :: As).map (cv α)).toArray) (AA α H.size) := by
    have hpre : ∀ U : State, U.heap = H → s.WarmedH U.vm → PcM α D cA (.inr (1000 + i) :: As) M H.size ((.inr (1000 + i) :: As).map (cv α)).toArray U := fun U hU hW => ⟨rfl, by rw [hU], by rw [hU]; exact hP, va_K.moved hW.alike hK, by rw [hU]; exact ((hF.kept hS.2.1).narrow hFA).warm hW, hi⟩
    have hblind : FrameBlind (PcM α D cA (.inr (1000 + i) :: As) M H.size) := fun a U g mk q => by
      obtain ⟨q1, q2, q3, q4, q5, q6⟩ := q
      exact ⟨q1, q2, q3, va_K.moved (u := U) (U := U.calling g mk a) (Vm.Alike.refl U.vm) q4, SF.same (s := U) (U := U.calling g mk a) rfl q5, q6⟩
    have hrec := vk_recv hF.1 hi5 hS
    have hR : (rmD d).frames + 1 ≤ R.frames ∧ 8 + (ν.2.2.1 + 11) + (rmD d).locals ≤ R.locals := ⟨r1, by have := hv.1.2.2.2.2; show 8 + (ν.2.2.1 + 11) + 36 * d ≤ R.locals; omega⟩
    have hstk : (F0 m pc ls ((As.reverse ++ .inr (1000 + i) :: S).map (cv α))).stack = (As.map (cv α)).reverse ++ .ref (α (1000 + i)) :: S.map (cv α) := by simp [cv]
    exact va_runV (As := As.map (cv α)) (rest := S.map (cv α)) (b := α (1000 + i)) (C := RJ0) (index := idx) ⟨hx, hb, hml, hown, hts⟩ (hk H.size) ⟨callB_of ν.2.2.2.2 hts (goodIn_wsM hv.1) rfl rfl rfl (hts _ hv.1.2.1) (hts _ hl) hv.1.2.2.1 hR, hts _ hv.2.1, by rw [← hc]; exact hts _ hv.2.2⟩ ⟨hblind, hrec, hpre⟩ rfl (by simpa using hn) hL.1 hstk (by rw [cv_sum]; show 2 * 0 + _ ≤ 8; omega) hd ⟨r3, r4⟩
  intro T hT X
  obtain ⟨v, st₀, t, T', L', h0, X', hLL, e1, e2, ⟨⟨r, M', hv0, hq, hP'⟩, hz, hkeep⟩, stp⟩ := run T hT X
  cases hv0
  rw [h0] at hz hkeep
  have hS' : va_S A s.heap T'.heap (locs ++ L') := ⟨Nat.le_trans hS.1 (by rw [e1]; exact hz), fun q h1 h2 => by rw [e1, hkeep q (Nat.lt_of_lt_of_le h1 hS.1) (fun z => h2 (hFA q z))]; exact hS.2.1 q h1 h2, fun q hq => by
    rcases List.mem_append.mp hq with h | h
    · exact hS.2.2 q h
    · exact hFA _ (hLL q h)⟩
  obtain ⟨t2, a1, b1⟩ := kk r M' hq p e s m args below meth c A cells slots R Qf C T'.heap (locs ++ L') ls (by rw [e1]; exact hP') hS' hL T' rfl X'
  refine ⟨t2, stp t2 ?_, b1⟩
  rw [hr]
  exact a1
end GS
end
